/-! the start -/
def tb95 (j : Nat) : Int32 := match j with
  | 0 => 100
  | 1 => 88
  | 2 => 61
  | 3 => 32
  | 4 => 14
  | 5 => 4
  | _ => 1
def tb96 (j : Nat) : Int32 := match j with
  | 0 => 0
  | 1 => 0
  | 2 => 384
  | 3 => 599
  | _ => 781
/-- what the law's entry stands on -/
def sL0 (L : Nat) (xs : Nat → Int32) : MSto := (fun k i j => if k = 95 then tb95 j else if k = 96 then tb96 j else if k = 97 then (if i = 1 then nI L else xs j) else 0, fun _ _ _ => 0, fun _ _ _ => none, fun k => if k = 95 ∨ k = 96 ∨ k = 97 then 1 else 0)
noncomputable def sL1 (L : Nat) (xs : Nat → Int32) : MSto := e_newC (sL0 L xs)
noncomputable def sL2 (L : Nat) (xs : Nat → Int32) : MSto := e_newM (sL1 L xs)
noncomputable def sL3 (L : Nat) (xs : Nat → Int32) : MSto := sNew (sL2 L xs) 98
set_option maxRecDepth 100000 in
theorem s0_1 (L : Nat) (xs : Nat → Int32) (y : Nat) : gI (sL1 L xs) 35 0 y = 0 := rfl
set_option maxRecDepth 100000 in
theorem s0_2 (L : Nat) (xs : Nat → Int32) (y : Nat) : gI (sL2 L xs) 41 0 y = 0 := rfl
theorem ci_R {s : MSto} {z : Nat} (h : gR s 112 0 3 = some z) : ∀ i, gR (f_C_init_185 0 s i) 112 0 3 = some z
  | 0 => h
  | i + 1 => by
    have ih := ci_R h i
    show gR (t_C_init_185 (0 + nI i) (f_C_init_185 0 s i)) 112 0 3 = _
    unfold t_C_init_185
    by_cases c : (6 : Int32) ≤ 0 + nI i
    · rw [if_pos c]; exact ih
    · rw [if_neg c, ih, mO_s, gR_sI]; exact ih
theorem ci_g {s : MSto} {z : Nat} (h : gR s 112 0 3 = some z) : (∀ i, i < n_C_init_185 0 s → g_C_init_185 (0 + nI i) (f_C_init_185 0 s i) ∧ ¬ q_C_init_185s (0 + nI i) (f_C_init_185 0 s i) = 1) ∧ (¬ ((6 : Int32) ≤ 0 + nI (n_C_init_185 0 s)) → False) := by
  refine ⟨fun i hi => ⟨fun _ => ⟨fun c => ?_, fun z1 _ => ?_⟩, q_cnt (N := 6) (n := 6) rfl (by decide) hi⟩, fun c => c (e_cnt (N := 6) (n := 6) rfl)⟩
  · rw [ci_R h i] at c; cases c
  · rw [z_nI]; exact nI_inb hi (by decide)
theorem mi_R {s : MSto} {z : Nat} (h : gR s 113 0 9 = some z) : ∀ i, gR (f_M_init_384 0 s i) 113 0 9 = some z
  | 0 => h
  | i + 1 => by
    have ih := mi_R h i
    show gR (t_M_init_384 (0 + nI i) (f_M_init_384 0 s i)) 113 0 9 = _
    unfold t_M_init_384
    by_cases c : (6 : Int32) ≤ 0 + nI i
    · rw [if_pos c]; exact ih
    · rw [if_neg c, ih, mO_s, gR_sI]; exact ih
theorem mi_g {s : MSto} {z : Nat} (h : gR s 113 0 9 = some z) : (∀ i, i < n_M_init_384 0 s → g_M_init_384 (0 + nI i) (f_M_init_384 0 s i) ∧ ¬ q_M_init_384s (0 + nI i) (f_M_init_384 0 s i) = 1) ∧ (¬ ((6 : Int32) ≤ 0 + nI (n_M_init_384 0 s)) → False) := by
  refine ⟨fun i hi => ⟨fun _ => ⟨fun c => ?_, fun z1 _ => ?_⟩, q_cnt (N := 6) (n := 6) rfl (by decide) hi⟩, fun c => c (e_cnt (N := 6) (n := 6) rfl)⟩
  · rw [mi_R h i] at c; cases c
  · rw [z_nI]; exact nI_inb hi (by decide)
set_option maxRecDepth 100000 in
set_option maxHeartbeats 4000000 in
theorem start_C (L : Nat) (xs : Nat → Int32) : p_newC (sL0 L xs) := by
  repeat' (first | exact rfl | exact ci_g (z := 0) rfl | refine ⟨?_, ?_⟩)
set_option maxRecDepth 100000 in
set_option maxHeartbeats 4000000 in
theorem start_M (L : Nat) (xs : Nat → Int32) : p_newM (sL1 L xs) := by
  repeat' (first | exact rfl | exact mi_g (z := 0) rfl | refine ⟨?_, ?_⟩)

