/-! the reference's reader -/
noncomputable def a_M (σ : MSto) (i : Nat) : MSto := sI σ 13 0 55 (gI σ 13 0 55 + nI i)
theorem a_M_0 (σ : MSto) : a_M σ 0 = σ := by
  unfold a_M
  rw [show nI 0 = 0 from rfl, Int32.add_zero]
  exact sI_id σ 13 0 55
theorem a_M_s (σ : MSto) (i : Nat) : sI (a_M σ i) 13 0 55 (gI (a_M σ i) 13 0 55 + 1) = a_M σ (i + 1) := by
  unfold a_M
  rw [sI_sI, gI_sI, if_pos ⟨rfl, rfl, rfl⟩, Int32.add_assoc, nI_s]
def iT (σ : MSto) : Prop := cM σ 53 80 ∧ cM σ 55 80
theorem here_ok {σ : MSto} {n : Nat} (hc : cM σ 53 80) (ha : gI σ 13 0 55 = nI n) (hn : n < 2 ^ 31) : p_M_here σ := by
  intro h1 _
  rw [hc.1, ha] at h1
  rw [ha]
  have h2 := hc.2
  have : ¬ nM σ 53 ≤ n := fun g => h1 ((leN (by omega) hn).mpr g)
  exact nI_inb (by omega) (by decide)
/-! ClothWithManModel.number(II)I -/
noncomputable def w_M_dg (σ : MSto) (i : Nat) : Int32 := v_M_in (v_M_here (a_M σ i)) 48 57 (a_M σ i)
noncomputable def n_M_num (σ : MSto) : Nat := if w_M_dg σ 0 = 0 then 0 else if w_M_dg σ 1 = 0 then 1 else if w_M_dg σ 2 = 0 then 2 else 3
noncomputable def x_M_num (σ : MSto) : Nat → Int32 := nfold (fun i v => 10 * v + v_M_here (a_M σ i) - 48) 0
noncomputable def f_M_num (low high from' v : Int32) (τ : MSto) : MSto := if gI τ 13 0 55 = from' then e_M_fault (gI τ 13 0 55) τ else if v_M_in v low high τ = 0 then e_M_fault (gI τ 13 0 55 - 1) τ else τ
noncomputable def e_M_number (low high : Int32) (σ : MSto) : MSto := if gI σ 13 0 56 = -1 then f_M_num low high (gI σ 13 0 55) (x_M_num σ (n_M_num σ)) (a_M σ (n_M_num σ)) else σ
noncomputable def v_M_number (low high : Int32) (σ : MSto) : Int32 := if gI σ 13 0 56 = -1 then (if gI (e_M_number low high σ) 13 0 56 = -1 then x_M_num σ (n_M_num σ) else 0) else 0
def p_M_number (low high : Int32) (σ : MSto) : Prop := iT σ
theorem n_M_num_le (σ : MSto) : n_M_num σ ≤ 3 := by unfold n_M_num; (repeat' split) <;> omega
theorem n_M_num_on {σ : MSto} {i : Nat} (h : i < n_M_num σ) : ¬ w_M_dg σ i = 0 := by
  by_cases g1 : w_M_dg σ 0 = 0
  · rw [show n_M_num σ = 0 from if_pos g1] at h; omega
  · by_cases g2 : w_M_dg σ 1 = 0
    · rw [show n_M_num σ = 1 from (if_neg g1).trans (if_pos g2)] at h
      have : i = 0 := by omega
      rw [this]; exact g1
    · by_cases g3 : w_M_dg σ 2 = 0
      · rw [show n_M_num σ = 2 from ((if_neg g1).trans (if_neg g2)).trans (if_pos g3)] at h
        match i, h with
        | 0, _ => exact g1
        | 1, _ => exact g2
      · rw [show n_M_num σ = 3 from ((if_neg g1).trans (if_neg g2)).trans (if_neg g3)] at h
        match i, h with
        | 0, _ => exact g1
        | 1, _ => exact g2
        | 2, _ => exact g3
theorem n_M_num_off {σ : MSto} (h : n_M_num σ < 3) : w_M_dg σ (n_M_num σ) = 0 := by
  by_cases g1 : w_M_dg σ 0 = 0
  · rw [show n_M_num σ = 0 from if_pos g1]; exact g1
  · by_cases g2 : w_M_dg σ 1 = 0
    · rw [show n_M_num σ = 1 from (if_neg g1).trans (if_pos g2)]; exact g2
    · by_cases g3 : w_M_dg σ 2 = 0
      · rw [show n_M_num σ = 2 from ((if_neg g1).trans (if_neg g2)).trans (if_pos g3)]; exact g3
      · rw [show n_M_num σ = 3 from ((if_neg g1).trans (if_neg g2)).trans (if_neg g3)] at h; omega
noncomputable def S_M_number : List MV → MSto → Option Prop × Option MV × MSto := fun as σ => match as with
  | [.inr (.inr (some (13, 0))), .inl a0, .inl a1] => (some (p_M_number a0 a1 σ), some (mI (v_M_number a0 a1 σ)), e_M_number a0 a1 σ)
  | _ => (some False, none, σ)
noncomputable def E_M_number : MEnt := ((1, 2, 13), (1, 22, 0, 0), S_M_number, ((⟨"ClothWithManModel", "number", "(II)I"⟩ : MethodName), prog_14_method_19_code, 5, (some .int)))

def T_M_number : Nat → Option (Instr × Nat × List Nat) := fun k => bif Nat.blt k 124 then (bif Nat.blt k 58 then (bif Nat.blt k 25 then (bif Nat.blt k 14 then (bif Nat.blt k 8 then (bif Nat.blt k 4 then (bif Nat.blt k 1 then (bif Nat.beq k 0 then some (.aload_n 0, 1, []) else none) else (bif Nat.beq k 1 then some (.getfield 203, 4, []) else none)) else (bif Nat.blt k 5 then (bif Nat.beq k 4 then some (.iconst (-1), 5, []) else none) else (bif Nat.beq k 5 then some (.if_icmp .eq 5, 8, [10]) else none))) else (bif Nat.blt k 10 then (bif Nat.blt k 9 then (bif Nat.beq k 8 then some (.iconst 0, 9, []) else none) else (bif Nat.beq k 9 then some (.ireturn, 10, []) else none)) else (bif Nat.blt k 11 then (bif Nat.beq k 10 then some (.aload_n 0, 11, []) else none) else (bif Nat.beq k 11 then some (.getfield 200, 14, []) else none)))) else (bif Nat.blt k 19 then (bif Nat.blt k 16 then (bif Nat.blt k 15 then (bif Nat.beq k 14 then some (.istore_n 3, 15, []) else none) else (bif Nat.beq k 15 then some (.iconst 0, 16, []) else none)) else (bif Nat.blt k 18 then (bif Nat.beq k 16 then some (.istore 4, 18, []) else none) else (bif Nat.beq k 18 then some (.aload_n 0, 19, []) else none))) else (bif Nat.blt k 23 then (bif Nat.blt k 22 then (bif Nat.beq k 19 then some (.getfield 200, 22, []) else none) else (bif Nat.beq k 22 then some (.iload_n 3, 23, []) else none)) else (bif Nat.blt k 24 then (bif Nat.beq k 23 then some (.iconst 3, 24, []) else none) else (bif Nat.beq k 24 then some (.iadd, 25, []) else none))))) else (bif Nat.blt k 44 then (bif Nat.blt k 34 then (bif Nat.blt k 29 then (bif Nat.blt k 28 then (bif Nat.beq k 25 then some (.if_icmp .ge 45, 28, [70]) else none) else (bif Nat.beq k 28 then some (.aload_n 0, 29, []) else none)) else (bif Nat.blt k 32 then (bif Nat.beq k 29 then some (.invokevirtual 206, 32, []) else none) else (bif Nat.beq k 32 then some (.bipush 48, 34, []) else none))) else (bif Nat.blt k 39 then (bif Nat.blt k 36 then (bif Nat.beq k 34 then some (.bipush 57, 36, []) else none) else (bif Nat.beq k 36 then some (.invokestatic 181, 39, []) else none)) else (bif Nat.blt k 42 then (bif Nat.beq k 39 then some (.ifCond .eq 31, 42, [70]) else none) else (bif Nat.beq k 42 then some (.bipush 10, 44, []) else none)))) else (bif Nat.blt k 51 then (bif Nat.blt k 47 then (bif Nat.blt k 46 then (bif Nat.beq k 44 then some (.iload 4, 46, []) else none) else (bif Nat.beq k 46 then some (.imul, 47, []) else none)) else (bif Nat.blt k 48 then (bif Nat.beq k 47 then some (.aload_n 0, 48, []) else none) else (bif Nat.beq k 48 then some (.invokevirtual 206, 51, []) else none))) else (bif Nat.blt k 54 then (bif Nat.blt k 52 then (bif Nat.beq k 51 then some (.iadd, 52, []) else none) else (bif Nat.beq k 52 then some (.bipush 48, 54, []) else none)) else (bif Nat.blt k 55 then (bif Nat.beq k 54 then some (.isub, 55, []) else none) else (bif Nat.blt k 57 then (bif Nat.beq k 55 then some (.istore 4, 57, []) else none) else (bif Nat.beq k 57 then some (.aload_n 0, 58, []) else none))))))) else (bif Nat.blt k 92 then (bif Nat.blt k 74 then (bif Nat.blt k 64 then (bif Nat.blt k 62 then (bif Nat.blt k 59 then (bif Nat.beq k 58 then some (.dup, 59, []) else none) else (bif Nat.beq k 59 then some (.getfield 200, 62, []) else none)) else (bif Nat.blt k 63 then (bif Nat.beq k 62 then some (.iconst 1, 63, []) else none) else (bif Nat.beq k 63 then some (.iadd, 64, []) else none))) else (bif Nat.blt k 70 then (bif Nat.blt k 67 then (bif Nat.beq k 64 then some (.putfield 200, 67, []) else none) else (bif Nat.beq k 67 then some (.goto (-49), 70, [18]) else none)) else (bif Nat.blt k 71 then (bif Nat.beq k 70 then some (.aload_n 0, 71, []) else none) else (bif Nat.beq k 71 then some (.getfield 200, 74, []) else none)))) else (bif Nat.blt k 80 then (bif Nat.blt k 78 then (bif Nat.blt k 75 then (bif Nat.beq k 74 then some (.iload_n 3, 75, []) else none) else (bif Nat.beq k 75 then some (.if_icmp .ne 14, 78, [89]) else none)) else (bif Nat.blt k 79 then (bif Nat.beq k 78 then some (.aload_n 0, 79, []) else none) else (bif Nat.beq k 79 then some (.aload_n 0, 80, []) else none))) else (bif Nat.blt k 86 then (bif Nat.blt k 83 then (bif Nat.beq k 80 then some (.getfield 200, 83, []) else none) else (bif Nat.beq k 83 then some (.invokevirtual 214, 86, []) else none)) else (bif Nat.blt k 89 then (bif Nat.beq k 86 then some (.goto 23, 89, [109]) else none) else (bif Nat.blt k 91 then (bif Nat.beq k 89 then some (.iload 4, 91, []) else none) else (bif Nat.beq k 91 then some (.iload_n 1, 92, []) else none)))))) else (bif Nat.blt k 106 then (bif Nat.blt k 100 then (bif Nat.blt k 96 then (bif Nat.blt k 93 then (bif Nat.beq k 92 then some (.iload_n 2, 93, []) else none) else (bif Nat.beq k 93 then some (.invokestatic 181, 96, []) else none)) else (bif Nat.blt k 99 then (bif Nat.beq k 96 then some (.ifCond .ne 13, 99, [109]) else none) else (bif Nat.beq k 99 then some (.aload_n 0, 100, []) else none))) else (bif Nat.blt k 104 then (bif Nat.blt k 101 then (bif Nat.beq k 100 then some (.aload_n 0, 101, []) else none) else (bif Nat.beq k 101 then some (.getfield 200, 104, []) else none)) else (bif Nat.blt k 105 then (bif Nat.beq k 104 then some (.iconst 1, 105, []) else none) else (bif Nat.beq k 105 then some (.isub, 106, []) else none)))) else (bif Nat.blt k 114 then (bif Nat.blt k 110 then (bif Nat.blt k 109 then (bif Nat.beq k 106 then some (.invokevirtual 214, 109, []) else none) else (bif Nat.beq k 109 then some (.aload_n 0, 110, []) else none)) else (bif Nat.blt k 113 then (bif Nat.beq k 110 then some (.getfield 203, 113, []) else none) else (bif Nat.beq k 113 then some (.iconst (-1), 114, []) else none))) else (bif Nat.blt k 119 then (bif Nat.blt k 117 then (bif Nat.beq k 114 then some (.if_icmp .ne 8, 117, [122]) else none) else (bif Nat.beq k 117 then some (.iload 4, 119, []) else none)) else (bif Nat.blt k 122 then (bif Nat.beq k 119 then some (.goto 4, 122, [123]) else none) else (bif Nat.blt k 123 then (bif Nat.beq k 122 then some (.iconst 0, 123, []) else none) else (bif Nat.beq k 123 then some (.ireturn, 124, []) else none)))))))) else none
noncomputable def P_M_number : MP := (T_M_number, (fun k => mLook k [(200, (13, 55, .int, false)), (203, (13, 56, .int, false))]), (fun k => mLook k []), (fun k => mLook k [(181, E_M_in), (206, E_M_here), (214, E_M_fault)]), (fun k => mLook k []), (fun k => mLook k []), (fun k => mLook k []), (fun k => mLook k [(18, [true, true, true, true, true])]), (fun k => [9, 123].any (Nat.beq k)), (1, 22, 0, 0), false, (fun _ => none))
set_option maxRecDepth 100000 in
set_option maxHeartbeats 4000000 in
theorem q_M_number_e (a1 : Int32) (a2 : Int32) (σ : MSto) (n : Nat) : mexe KT P_M_number (n + 1) (0, [some (mR 13 0), some (mI a1), some (mI a2), none, none], [], σ, 0, 0) = mIf ((gI σ 13 0 56) = (-1)) (mexe KT P_M_number n (18, [some (mR 13 0), some (mI a1), some (mI a2), some (mI (gI σ 13 0 55)), some (mI 0)], [], σ, 0, 0)) (some (9, [], [(mI 0)], σ, 0, 0)) := rfl
set_option maxRecDepth 100000 in
set_option maxHeartbeats 4000000 in
theorem q_M_number_18 (x1 : Int32) (x2 : Int32) (x3 : Int32) (x4 : Int32) (σ : MSto) (n : Nat) : mexe KT P_M_number (n + 1) (18, [some (mR 13 0), some (mI x1), some (mI x2), some (mI x3), some (mI x4)], [], σ, 0, 0) = mIf ((x3 + 3) ≤ (gI σ 13 0 55)) (mIf ((gI σ 13 0 55) = x3) (mIf ((gI (e_M_fault (gI σ 13 0 55) σ) 13 0 56) = (-1)) (some (123, [], [(mI x4)], (e_M_fault (gI σ 13 0 55) σ), 0, 0)) (some (123, [], [(mI 0)], (e_M_fault (gI σ 13 0 55) σ), 0, 0))) (mIf ((v_M_in x4 x1 x2 σ) = 0) (mIf ((gI (e_M_fault ((gI σ 13 0 55) - 1) σ) 13 0 56) = (-1)) (some (123, [], [(mI x4)], (e_M_fault ((gI σ 13 0 55) - 1) σ), 0, 0)) (some (123, [], [(mI 0)], (e_M_fault ((gI σ 13 0 55) - 1) σ), 0, 0))) (mIf ((gI σ 13 0 56) = (-1)) (some (123, [], [(mI x4)], σ, 0, 0)) (some (123, [], [(mI 0)], σ, 0, 0))))) (mG (p_M_here σ) (mIf ((v_M_in (v_M_here σ) 48 57 σ) = 0) (mIf ((gI σ 13 0 55) = x3) (mIf ((gI (e_M_fault (gI σ 13 0 55) σ) 13 0 56) = (-1)) (some (123, [], [(mI x4)], (e_M_fault (gI σ 13 0 55) σ), 0, 0)) (some (123, [], [(mI 0)], (e_M_fault (gI σ 13 0 55) σ), 0, 0))) (mIf ((v_M_in x4 x1 x2 σ) = 0) (mIf ((gI (e_M_fault ((gI σ 13 0 55) - 1) σ) 13 0 56) = (-1)) (some (123, [], [(mI x4)], (e_M_fault ((gI σ 13 0 55) - 1) σ), 0, 0)) (some (123, [], [(mI 0)], (e_M_fault ((gI σ 13 0 55) - 1) σ), 0, 0))) (mIf ((gI σ 13 0 56) = (-1)) (some (123, [], [(mI x4)], σ, 0, 0)) (some (123, [], [(mI 0)], σ, 0, 0))))) (mG (p_M_here σ) (mexe KT P_M_number n (18, [some (mR 13 0), some (mI x1), some (mI x2), some (mI x3), some (mI (((10 * x4) + (v_M_here σ)) - 48))], [], (sI σ 13 0 55 ((gI σ 13 0 55) + 1)), 0, 0))))) := rfl
set_option maxRecDepth 100000 in
set_option maxHeartbeats 4000000 in
theorem d_M_number (a1 : Int32) (a2 : Int32) (σ : MSto) (hp : p_M_number a1 a2 σ) : mW1 P_M_number (0, [some (mR 13 0), some (mI a1), some (mI a2), none, none], [], σ, 0, 0) (mF [9, 123] [mI (v_M_number a1 a2 σ)] (e_M_number a1 a2 σ) 0 0) := by
  obtain ⟨hs, ha⟩ : iT σ := hp
  refine mW1_eq (q_M_number_e _ _ _) ?_
  try simp only [bI_0]
  refine mTr_if (fun g => ?_) (fun g => ?_)
  · have EX : ∀ (x : Int32) (τ : MSto), x = x_M_num σ (n_M_num σ) → τ = a_M σ (n_M_num σ) → mTr (fun _ => (mIf ((gI τ 13 0 55) = gI σ 13 0 55) ((mIf ((gI (e_M_fault (gI τ 13 0 55) τ) 13 0 56) = (-1)) (some (123, [], [(mI x)], (e_M_fault (gI τ 13 0 55) τ), 0, 0)) (some (123, [], [(mI 0)], (e_M_fault (gI τ 13 0 55) τ), 0, 0)))) ((mIf ((v_M_in x a1 a2 τ) = 0) ((mIf ((gI (e_M_fault ((gI τ 13 0 55) - 1) τ) 13 0 56) = (-1)) (some (123, [], [(mI x)], (e_M_fault ((gI τ 13 0 55) - 1) τ), 0, 0)) (some (123, [], [(mI 0)], (e_M_fault ((gI τ 13 0 55) - 1) τ), 0, 0)))) ((mIf ((gI τ 13 0 56) = (-1)) (some (123, [], [(mI x)], τ, 0, 0)) (some (123, [], [(mI 0)], τ, 0, 0)))))))) (mF [9, 123] [mI (v_M_number a1 a2 σ)] (e_M_number a1 a2 σ) 0 0) := by
      intro x τ hx hτ
      have ee : e_M_number a1 a2 σ = f_M_num a1 a2 (gI σ 13 0 55) x τ := by rw [e_M_number, if_pos g, ← hx, ← hτ]
      have ve : v_M_number a1 a2 σ = if gI (f_M_num a1 a2 (gI σ 13 0 55) x τ) 13 0 56 = -1 then x else 0 := by rw [v_M_number, if_pos g, ee, ← hx]
      rw [ee, ve]
      unfold f_M_num
      refine mTr_if (fun h1 => ?_) (fun h1 => ?_)
      · rw [if_pos h1]
        refine mTr_if (fun h2 => ?_) (fun h2 => ?_)
        · rw [if_pos h2]; exact mTr_e (by decide) rfl rfl (by decide) (by decide)
        · rw [if_neg h2]; exact mTr_e (by decide) rfl rfl (by decide) (by decide)
      · rw [if_neg h1]
        refine mTr_if (fun h2 => ?_) (fun h2 => ?_)
        · rw [if_pos h2]
          refine mTr_if (fun h3 => ?_) (fun h3 => ?_)
          · rw [if_pos h3]; exact mTr_e (by decide) rfl rfl (by decide) (by decide)
          · rw [if_neg h3]; exact mTr_e (by decide) rfl rfl (by decide) (by decide)
        · rw [if_neg h2]
          refine mTr_if (fun h3 => ?_) (fun h3 => ?_)
          · rw [if_pos h3]; exact mTr_e (by decide) rfl rfl (by decide) (by decide)
          · rw [if_neg h3]; exact mTr_e (by decide) rfl rfl (by decide) (by decide)
    have at_i : ∀ i, gI (a_M σ i) 13 0 55 = nI (nM σ 55 + i) := fun i => by
      show gI σ 13 0 55 + nI i = _
      rw [ha.1, nI_add]
    have hN := n_M_num_le σ
    refine mTr_l (mW1_loop (fun i => (18, [some (mR 13 0), some (mI a1), some (mI a2), some (mI (gI σ 13 0 55)), some (mI (x_M_num σ i))], [], a_M σ i, 0, 0)) (n_M_num σ) (fun i hlt hn => ?_) ?_) (by rw [a_M_0]; rfl)
    · refine mW1_eq (q_M_number_18 _ _ _ _ _) ?_
      have hh := here_ok (σ := a_M σ i) hs (at_i i) (by have := ha.2; omega)
      refine mTr_f ?_ (mTr_g hh (mTr_f (n_M_num_on hlt) (mTr_g hh ?_)))
      · rw [at_i, ha.1, nA _ 3]
        exact fun h => by have := (leN (by have := ha.2; omega) (by have := ha.2; omega)).mp h; omega
      · exact mTr_l hn (by rw [a_M_s]; rfl)
    · refine mW1_eq (q_M_number_18 _ _ _ _ _) ?_
      refine mTr_if (fun _ => EX _ _ rfl rfl) (fun h3 => ?_)
      have hh := here_ok (σ := a_M σ (n_M_num σ)) hs (at_i _) (by have := ha.2; omega)
      refine mTr_g hh (mTr_t (n_M_num_off ?_) (EX _ _ rfl rfl))
      rw [at_i, ha.1, nA _ 3] at h3
      have : ¬ nM σ 55 + 3 ≤ nM σ 55 + n_M_num σ := fun h => h3 ((leN (by have := ha.2; omega) (by have := ha.2; omega)).mpr h)
      omega
  · refine mTr_e (by decide) ?_ ?_ (by decide) (by decide)
    · rw [v_M_number, if_neg g]
    · rw [e_M_number, if_neg g]



theorem tk_M_number : ∀ pc i nx tg, T_M_number pc = some (i, nx, tg) → mOkB prog_14_method_19_code pc i nx tg = true := code_ok (N := 124) (fun k h => by unfold T_M_number; rw [h]; rfl) (by decide +kernel)
theorem ok_M_number (l : Launch) : mPOK l "ClothWithManModel" prog_14_method_19_code P_M_number := by
  refine ⟨tk_M_number, ?_, ?_, ?_, (fun pc i nx tg kd _ h => by cases h), ?_, ?_, fun pc en h => by cases h⟩
  · intro x ci f ty fin h
    exact mLook_all (Q := fun x v => mFOK "ClothWithManModel" x v.1 v.2.1 v.2.2.1 v.2.2.2 ∧ (v.2.2.2 = true → pIni P_M_number = true → (Cond.fieldLink "ClothWithManModel" x (((mCl[v.1]?).getD ("", fun _ => ("", "", "", false), 0)).2.1 v.2.1).1 (((mCl[v.1]?).getD ("", fun _ => ("", "", "", false), 0)).2.1 v.2.1).2.1 (((mCl[v.1]?).getD ("", fun _ => ("", "", "", false), 0)).2.1 v.2.1).2.2.1 ∈ lw_tbl ∧ (((mCl[v.1]?).getD ("", fun _ => ("", "", "", false), 0)).2.1 v.2.1).1 = "ClothWithManModel"))) (fcC ⟨fo_M_200, fun h1 h2 => by cases h1⟩ (fcC ⟨fo_M_203, fun h1 h2 => by cases h1⟩ fcN)) x (ci, f, ty, fin) h
  · intro x
    have hh := mLook_all (l := ([] : List (Nat × (Int32 ⊕ Int64)))) (Q := fun x (v : Int32 ⊕ Int64) => (∀ w, v = .inl w → Cond.constant "ClothWithManModel" x w ∈ lw_tbl) ∧ (∀ w, v = .inr w → Cond.constantLong "ClothWithManModel" x w ∈ lw_tbl)) fcN x
    exact ⟨fun w h => (hh _ h).1 w rfl, fun w h => (hh _ h).2 w rfl⟩
  · exact fun x en h => mLook_all (Q := fun x en => mLink "ClothWithManModel" x en ∧ mCtr l en ∧ (en.1.1 = 2 → en.2.2.2.2.2.2 = none)) (fcC ⟨li_M_181, c_M_in l, (fun h => by cases h)⟩ (fcC ⟨li_M_206, c_M_here l, (fun h => by cases h)⟩ (fcC ⟨li_M_214, c_M_fault l, (fun h => by cases h)⟩ fcN))) x en h
  · exact fun x kd h => mLook_all (Q := fun x kd => (kd = 95 ∧ Cond.fieldLink "ClothWithManModel" x "ClothWithMan" "LIKENESSES" "[I" ∈ lw_tbl) ∨ (kd = 96 ∧ Cond.fieldLink "ClothWithManModel" x "ClothWithMan" "APART_BOUNDS" "[I" ∈ lw_tbl)) fcN x kd h
  · exact fun x ci h => mLook_all (Q := fun x ci => ci ≠ 0 ∧ ∃ (C : String) (T : u_T) (N : Nat), mCl[ci]? = some (C, T, N) ∧ Cond.classLink "ClothWithManModel" x C ∈ lw_tbl ∧ Cond.instantiable C N ∈ lw_tbl) fcN x ci h
set_option maxRecDepth 100000 in
theorem c_M_number (l : Launch) : mCtr l E_M_number := mCtr_of (P := P_M_number) (own := "ClothWithManModel") mLay_ok rfl (by decide +kernel) rfl (ok_M_number l) (fun h => by cases h) (fun as σ pr rv σ' hF hpr hlv => by
  unfold E_M_number S_M_number at hF
  simp only [] at hF
  split at hF
  · cases hF
    obtain ⟨n, pcF, c1, s1, g1, g2, g3, g4⟩ := mF_inv (d_M_number _ _ σ (hpr _ rfl))
    exact ⟨Nat.le_of_ble_eq_true rfl, (fun v h => by cases h; trivial), n, pcF, c1, s1, g1, ⟨mEnd_of (i := .ireturn) (P := P_M_number) (rets := [9, 123]) rfl g2, rfl⟩, g3, g4⟩
  · cases hF
    exact (hpr _ rfl).elim)

