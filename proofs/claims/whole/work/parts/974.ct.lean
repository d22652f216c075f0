def p_newL14 (σ : MSto) : Prop := gN σ 14 = 0
def e_newL14 (σ : MSto) : MSto := sNew σ 14
def p_newL15 (σ : MSto) : Prop := gN σ 15 = 0
def e_newL15 (σ : MSto) : MSto := sNew σ 15
def p_newL16 (σ : MSto) : Prop := gN σ 16 = 0
def e_newL16 (σ : MSto) : MSto := sNew σ 16
def p_newL17 (σ : MSto) : Prop := gN σ 17 = 0
def e_newL17 (σ : MSto) : MSto := sNew σ 17
def p_newL18 (σ : MSto) : Prop := gN σ 18 = 0
def e_newL18 (σ : MSto) : MSto := sNew σ 18
/-! ClothWithMan$Text.<init>()V -/
noncomputable def e_Te_init  (σ : MSto) : MSto := (sI (sR (sNew σ 33) 110 0 0 (some (gN σ 33))) 110 0 4 (-1))
noncomputable def S_Te_init : List MV → MSto → Option Prop × Option MV × MSto := fun as σ => match as with
  | [.inr (.inr (some (110, 0)))] => (none, none, e_Te_init σ)
  | _ => (some False, none, σ)
noncomputable def E_Te_init : MEnt := ((2, 0, 10), (1, 20, 1, 80), S_Te_init, ((⟨"ClothWithMan$Text", "<init>", "()V"⟩ : MethodName), prog_11_method_1_code, 1, none))

def T_Te_init : Nat → Option (Instr × Nat × List Nat) := fun k => bif Nat.blt k 18 then (bif Nat.blt k 9 then (bif Nat.blt k 4 then (bif Nat.blt k 1 then (bif Nat.beq k 0 then some (.aload_n 0, 1, []) else none) else (bif Nat.beq k 1 then some (.invokespecial 3, 4, []) else none)) else (bif Nat.blt k 5 then (bif Nat.beq k 4 then some (.aload_n 0, 5, []) else none) else (bif Nat.blt k 7 then (bif Nat.beq k 5 then some (.bipush 80, 7, []) else none) else (bif Nat.beq k 7 then some (.newarray .char, 9, []) else none)))) else (bif Nat.blt k 13 then (bif Nat.blt k 12 then (bif Nat.beq k 9 then some (.putfield 11, 12, []) else none) else (bif Nat.beq k 12 then some (.aload_n 0, 13, []) else none)) else (bif Nat.blt k 14 then (bif Nat.beq k 13 then some (.iconst (-1), 14, []) else none) else (bif Nat.blt k 17 then (bif Nat.beq k 14 then some (.putfield 15, 17, []) else none) else (bif Nat.beq k 17 then some (.return_, 18, []) else none))))) else none
noncomputable def P_Te_init : MP := (T_Te_init, (fun k => mLook k [(11, (10, 0, (.array .char), true)), (15, (10, 4, .int, false))]), (fun k => mLook k []), (fun k => mLook k []), (fun k => mLook k [(1, 0), (7, 33)]), (fun k => mLook k []), (fun k => mLook k []), (fun k => mLook k []), (fun k => [17].any (Nat.beq k)), (1, 20, 1, 80), true, (fun _ => none))
set_option maxRecDepth 100000 in
set_option maxHeartbeats 4000000 in
theorem q_Te_init_e  (σ : MSto) (n : Nat) : mexe KT P_Te_init (n + 1) (0, [some (mR 110 0)], [], σ, 0, 0) = some (17, [], [], (sI (sR (sNew σ 33) 110 0 0 (some (gN σ 33))) 110 0 4 (-1)), 1, 80) := rfl
set_option maxRecDepth 100000 in
set_option maxHeartbeats 4000000 in
theorem d_Te_init  (σ : MSto) : mW1 P_Te_init (0, [some (mR 110 0)], [], σ, 0, 0) (mF [17] [] (e_Te_init σ) 1 80) := by
  refine mW1_eq (q_Te_init_e  _) ?_
  exact mTr_e (by decide) rfl (Eq.symm (rfl)) (by decide) (by decide)
theorem tk_Te_init : ∀ pc i nx tg, T_Te_init pc = some (i, nx, tg) → mOkB prog_11_method_1_code pc i nx tg = true := code_ok (N := 18) (fun k h => by unfold T_Te_init; rw [h]; rfl) (by decide +kernel)
theorem al_Te_init : ∀ pc i nx tg kd, pCode P_Te_init pc = some (i, nx, tg) → pAlc P_Te_init pc = some kd → match i with
    | .new x => mAOK "ClothWithMan$Text" x kd
    | .newarray t => mNAOK t kd
    | .anewarray x => mAAOK "ClothWithMan$Text" x kd
    | .invokespecial x => Cond.methodLink "ClothWithMan$Text" x Lib.objectInit ∈ lw_tbl
    | _ => True := by
  intro pc i nx tg kd h1 h2
  have h3 := mLook_mem h2
  simp only [List.mem_cons, Prod.mk.injEq, List.not_mem_nil, or_false] at h3
  rcases h3 with ⟨rfl, rfl⟩ | ⟨rfl, rfl⟩
  · have e : T_Te_init 1 = some (i, nx, tg) := h1
    cases e
    exact tw_1_41
  · have e : T_Te_init 7 = some (i, nx, tg) := h1
    cases e
    exact ⟨.char, 80, rfl, rfl, tw_1_63, by decide⟩

theorem ok_Te_init (l : Launch) : mPOK l "ClothWithMan$Text" prog_11_method_1_code P_Te_init := by
  refine ⟨tk_Te_init, ?_, ?_, ?_, al_Te_init, ?_, ?_, fun pc en h => by cases h⟩
  · intro x ci f ty fin h
    exact mLook_all (Q := fun x v => mFOK "ClothWithMan$Text" x v.1 v.2.1 v.2.2.1 v.2.2.2 ∧ (v.2.2.2 = true → pIni P_Te_init = true → (Cond.fieldLink "ClothWithMan$Text" x (((mCl[v.1]?).getD ("", fun _ => ("", "", "", false), 0)).2.1 v.2.1).1 (((mCl[v.1]?).getD ("", fun _ => ("", "", "", false), 0)).2.1 v.2.1).2.1 (((mCl[v.1]?).getD ("", fun _ => ("", "", "", false), 0)).2.1 v.2.1).2.2.1 ∈ lw_tbl ∧ (((mCl[v.1]?).getD ("", fun _ => ("", "", "", false), 0)).2.1 v.2.1).1 = "ClothWithMan$Text"))) (fcC ⟨fo_Te_11, fun _ _ => ⟨tw_1_42, rfl⟩⟩ (fcC ⟨fo_Te_15, fun h1 h2 => by cases h1⟩ fcN)) x (ci, f, ty, fin) h
  · intro x
    have hh := mLook_all (l := ([] : List (Nat × (Int32 ⊕ Int64)))) (Q := fun x (v : Int32 ⊕ Int64) => (∀ w, v = .inl w → Cond.constant "ClothWithMan$Text" x w ∈ lw_tbl) ∧ (∀ w, v = .inr w → Cond.constantLong "ClothWithMan$Text" x w ∈ lw_tbl)) fcN x
    exact ⟨fun w h => (hh _ h).1 w rfl, fun w h => (hh _ h).2 w rfl⟩
  · exact fun x en h => mLook_all (Q := fun x en => mLink "ClothWithMan$Text" x en ∧ mCtr l en ∧ (en.1.1 = 2 → en.2.2.2.2.2.2 = none)) fcN x en h
  · exact fun x kd h => mLook_all (Q := fun x kd => (kd = 95 ∧ Cond.fieldLink "ClothWithMan$Text" x "ClothWithMan" "LIKENESSES" "[I" ∈ lw_tbl) ∨ (kd = 96 ∧ Cond.fieldLink "ClothWithMan$Text" x "ClothWithMan" "APART_BOUNDS" "[I" ∈ lw_tbl)) fcN x kd h
  · exact fun x ci h => mLook_all (Q := fun x ci => ci ≠ 0 ∧ ∃ (C : String) (T : u_T) (N : Nat), mCl[ci]? = some (C, T, N) ∧ Cond.classLink "ClothWithMan$Text" x C ∈ lw_tbl ∧ Cond.instantiable C N ∈ lw_tbl) fcN x ci h
set_option maxRecDepth 100000 in
theorem c_Te_init (l : Launch) : mCtr l E_Te_init := mCtr_of (P := P_Te_init) (own := "ClothWithMan$Text") mLay_ok rfl (by decide +kernel) rfl (ok_Te_init l) (fun _ => rfl) (fun as σ pr rv σ' hF hpr hlv => by
  unfold E_Te_init S_Te_init at hF
  simp only [] at hF
  split at hF
  · cases hF
    obtain ⟨n, pcF, c1, s1, g1, g2, g3, g4⟩ := mF_inv (d_Te_init σ)
    exact ⟨Nat.le_of_ble_eq_true rfl, (fun v h => by cases h), n, pcF, c1, s1, g1, mEnd_of (i := .return_) (P := P_Te_init) (rets := [17]) rfl g2, g3, g4⟩
  · cases hF
    exact (hpr _ rfl).elim)
/-! ClothWithMan$Curve.<init>()V -/
noncomputable def e_Cu_init  (σ : MSto) : MSto := (sR (sNew (sR (sNew (sI (sR (sNew σ 35) 102 0 0 (some (gN σ 35))) 102 0 1 1) 36) 102 0 2 (some (gN σ 36))) 37) 102 0 3 (some (gN σ 37)))
noncomputable def S_Cu_init : List MV → MSto → Option Prop × Option MV × MSto := fun as σ => match as with
  | [.inr (.inr (some (102, 0)))] => (none, none, e_Cu_init σ)
  | _ => (some False, none, σ)
noncomputable def E_Cu_init : MEnt := ((2, 0, 2), (1, 20, 3, 240), S_Cu_init, ((⟨"ClothWithMan$Curve", "<init>", "()V"⟩ : MethodName), prog_3_method_1_code, 1, none))

def T_Cu_init : Nat → Option (Instr × Nat × List Nat) := fun k => bif Nat.blt k 35 then (bif Nat.blt k 18 then (bif Nat.blt k 8 then (bif Nat.blt k 4 then (bif Nat.blt k 1 then (bif Nat.beq k 0 then some (.aload_n 0, 1, []) else none) else (bif Nat.beq k 1 then some (.invokespecial 3, 4, []) else none)) else (bif Nat.blt k 5 then (bif Nat.beq k 4 then some (.aload_n 0, 5, []) else none) else (bif Nat.beq k 5 then some (.sipush 200, 8, []) else none))) else (bif Nat.blt k 13 then (bif Nat.blt k 10 then (bif Nat.beq k 8 then some (.newarray .int, 10, []) else none) else (bif Nat.beq k 10 then some (.putfield 9, 13, []) else none)) else (bif Nat.blt k 14 then (bif Nat.beq k 13 then some (.aload_n 0, 14, []) else none) else (bif Nat.blt k 15 then (bif Nat.beq k 14 then some (.iconst 1, 15, []) else none) else (bif Nat.beq k 15 then some (.putfield 15, 18, []) else none))))) else (bif Nat.blt k 26 then (bif Nat.blt k 21 then (bif Nat.blt k 19 then (bif Nat.beq k 18 then some (.aload_n 0, 19, []) else none) else (bif Nat.beq k 19 then some (.bipush 20, 21, []) else none)) else (bif Nat.blt k 23 then (bif Nat.beq k 21 then some (.newarray .int, 23, []) else none) else (bif Nat.beq k 23 then some (.putfield 19, 26, []) else none))) else (bif Nat.blt k 29 then (bif Nat.blt k 27 then (bif Nat.beq k 26 then some (.aload_n 0, 27, []) else none) else (bif Nat.beq k 27 then some (.bipush 20, 29, []) else none)) else (bif Nat.blt k 31 then (bif Nat.beq k 29 then some (.newarray .int, 31, []) else none) else (bif Nat.blt k 34 then (bif Nat.beq k 31 then some (.putfield 22, 34, []) else none) else (bif Nat.beq k 34 then some (.return_, 35, []) else none)))))) else none
noncomputable def P_Cu_init : MP := (T_Cu_init, (fun k => mLook k [(9, (2, 0, (.array .int), true)), (15, (2, 1, .int, false)), (19, (2, 2, (.array .int), true)), (22, (2, 3, (.array .int), true))]), (fun k => mLook k []), (fun k => mLook k []), (fun k => mLook k [(1, 0), (8, 35), (21, 36), (29, 37)]), (fun k => mLook k []), (fun k => mLook k []), (fun k => mLook k []), (fun k => [34].any (Nat.beq k)), (1, 20, 3, 240), true, (fun _ => none))
set_option maxRecDepth 100000 in
set_option maxHeartbeats 4000000 in
theorem q_Cu_init_e  (σ : MSto) (n : Nat) : mexe KT P_Cu_init (n + 1) (0, [some (mR 102 0)], [], σ, 0, 0) = some (34, [], [], (sR (sNew (sR (sNew (sI (sR (sNew σ 35) 102 0 0 (some (gN σ 35))) 102 0 1 1) 36) 102 0 2 (some (gN σ 36))) 37) 102 0 3 (some (gN σ 37))), 3, 240) := rfl
set_option maxRecDepth 100000 in
set_option maxHeartbeats 4000000 in
theorem d_Cu_init  (σ : MSto) : mW1 P_Cu_init (0, [some (mR 102 0)], [], σ, 0, 0) (mF [34] [] (e_Cu_init σ) 3 240) := by
  refine mW1_eq (q_Cu_init_e  _) ?_
  exact mTr_e (by decide) rfl (Eq.symm (rfl)) (by decide) (by decide)
theorem tk_Cu_init : ∀ pc i nx tg, T_Cu_init pc = some (i, nx, tg) → mOkB prog_3_method_1_code pc i nx tg = true := code_ok (N := 35) (fun k h => by unfold T_Cu_init; rw [h]; rfl) (by decide +kernel)
theorem al_Cu_init : ∀ pc i nx tg kd, pCode P_Cu_init pc = some (i, nx, tg) → pAlc P_Cu_init pc = some kd → match i with
    | .new x => mAOK "ClothWithMan$Curve" x kd
    | .newarray t => mNAOK t kd
    | .anewarray x => mAAOK "ClothWithMan$Curve" x kd
    | .invokespecial x => Cond.methodLink "ClothWithMan$Curve" x Lib.objectInit ∈ lw_tbl
    | _ => True := by
  intro pc i nx tg kd h1 h2
  have h3 := mLook_mem h2
  simp only [List.mem_cons, Prod.mk.injEq, List.not_mem_nil, or_false] at h3
  rcases h3 with ⟨rfl, rfl⟩ | ⟨rfl, rfl⟩ | ⟨rfl, rfl⟩ | ⟨rfl, rfl⟩
  · have e : T_Cu_init 1 = some (i, nx, tg) := h1
    cases e
    exact tw_1_75
  · have e : T_Cu_init 8 = some (i, nx, tg) := h1
    cases e
    exact ⟨.int, 200, rfl, rfl, tw_1_90, by decide⟩
  · have e : T_Cu_init 21 = some (i, nx, tg) := h1
    cases e
    exact ⟨.int, 20, rfl, rfl, tw_1_90, by decide⟩
  · have e : T_Cu_init 29 = some (i, nx, tg) := h1
    cases e
    exact ⟨.int, 20, rfl, rfl, tw_1_90, by decide⟩

theorem ok_Cu_init (l : Launch) : mPOK l "ClothWithMan$Curve" prog_3_method_1_code P_Cu_init := by
  refine ⟨tk_Cu_init, ?_, ?_, ?_, al_Cu_init, ?_, ?_, fun pc en h => by cases h⟩
  · intro x ci f ty fin h
    exact mLook_all (Q := fun x v => mFOK "ClothWithMan$Curve" x v.1 v.2.1 v.2.2.1 v.2.2.2 ∧ (v.2.2.2 = true → pIni P_Cu_init = true → (Cond.fieldLink "ClothWithMan$Curve" x (((mCl[v.1]?).getD ("", fun _ => ("", "", "", false), 0)).2.1 v.2.1).1 (((mCl[v.1]?).getD ("", fun _ => ("", "", "", false), 0)).2.1 v.2.1).2.1 (((mCl[v.1]?).getD ("", fun _ => ("", "", "", false), 0)).2.1 v.2.1).2.2.1 ∈ lw_tbl ∧ (((mCl[v.1]?).getD ("", fun _ => ("", "", "", false), 0)).2.1 v.2.1).1 = "ClothWithMan$Curve"))) (fcC ⟨fo_Cu_9, fun _ _ => ⟨tw_1_76, rfl⟩⟩ (fcC ⟨fo_Cu_15, fun h1 h2 => by cases h1⟩ (fcC ⟨fo_Cu_19, fun _ _ => ⟨tw_1_79, rfl⟩⟩ (fcC ⟨fo_Cu_22, fun _ _ => ⟨tw_1_80, rfl⟩⟩ fcN)))) x (ci, f, ty, fin) h
  · intro x
    have hh := mLook_all (l := ([] : List (Nat × (Int32 ⊕ Int64)))) (Q := fun x (v : Int32 ⊕ Int64) => (∀ w, v = .inl w → Cond.constant "ClothWithMan$Curve" x w ∈ lw_tbl) ∧ (∀ w, v = .inr w → Cond.constantLong "ClothWithMan$Curve" x w ∈ lw_tbl)) fcN x
    exact ⟨fun w h => (hh _ h).1 w rfl, fun w h => (hh _ h).2 w rfl⟩
  · exact fun x en h => mLook_all (Q := fun x en => mLink "ClothWithMan$Curve" x en ∧ mCtr l en ∧ (en.1.1 = 2 → en.2.2.2.2.2.2 = none)) fcN x en h
  · exact fun x kd h => mLook_all (Q := fun x kd => (kd = 95 ∧ Cond.fieldLink "ClothWithMan$Curve" x "ClothWithMan" "LIKENESSES" "[I" ∈ lw_tbl) ∨ (kd = 96 ∧ Cond.fieldLink "ClothWithMan$Curve" x "ClothWithMan" "APART_BOUNDS" "[I" ∈ lw_tbl)) fcN x kd h
  · exact fun x ci h => mLook_all (Q := fun x ci => ci ≠ 0 ∧ ∃ (C : String) (T : u_T) (N : Nat), mCl[ci]? = some (C, T, N) ∧ Cond.classLink "ClothWithMan$Curve" x C ∈ lw_tbl ∧ Cond.instantiable C N ∈ lw_tbl) fcN x ci h
set_option maxRecDepth 100000 in
theorem c_Cu_init (l : Launch) : mCtr l E_Cu_init := mCtr_of (P := P_Cu_init) (own := "ClothWithMan$Curve") mLay_ok rfl (by decide +kernel) rfl (ok_Cu_init l) (fun _ => rfl) (fun as σ pr rv σ' hF hpr hlv => by
  unfold E_Cu_init S_Cu_init at hF
  simp only [] at hF
  split at hF
  · cases hF
    obtain ⟨n, pcF, c1, s1, g1, g2, g3, g4⟩ := mF_inv (d_Cu_init σ)
    exact ⟨Nat.le_of_ble_eq_true rfl, (fun v h => by cases h), n, pcF, c1, s1, g1, mEnd_of (i := .return_) (P := P_Cu_init) (rets := [34]) rfl g2, g3, g4⟩
  · cases hF
    exact (hpr _ rfl).elim)
/-! ClothWithMan$Row.<init>()V -/
noncomputable def e_Ro_init  (σ : MSto) : MSto := (sR (sNew σ 38) 108 0 0 (some (gN σ 38)))
noncomputable def S_Ro_init : List MV → MSto → Option Prop × Option MV × MSto := fun as σ => match as with
  | [.inr (.inr (some (108, 0)))] => (none, none, e_Ro_init σ)
  | _ => (some False, none, σ)
noncomputable def E_Ro_init : MEnt := ((2, 0, 8), (1, 20, 1, 20), S_Ro_init, ((⟨"ClothWithMan$Row", "<init>", "()V"⟩ : MethodName), prog_9_method_1_code, 1, none))

def T_Ro_init : Nat → Option (Instr × Nat × List Nat) := fun k => bif Nat.blt k 13 then (bif Nat.blt k 5 then (bif Nat.blt k 1 then (bif Nat.beq k 0 then some (.aload_n 0, 1, []) else none) else (bif Nat.blt k 4 then (bif Nat.beq k 1 then some (.invokespecial 3, 4, []) else none) else (bif Nat.beq k 4 then some (.aload_n 0, 5, []) else none))) else (bif Nat.blt k 9 then (bif Nat.blt k 7 then (bif Nat.beq k 5 then some (.bipush 20, 7, []) else none) else (bif Nat.beq k 7 then some (.newarray .long, 9, []) else none)) else (bif Nat.blt k 12 then (bif Nat.beq k 9 then some (.putfield 11, 12, []) else none) else (bif Nat.beq k 12 then some (.return_, 13, []) else none)))) else none
noncomputable def P_Ro_init : MP := (T_Ro_init, (fun k => mLook k [(11, (8, 0, (.array .long), true))]), (fun k => mLook k []), (fun k => mLook k []), (fun k => mLook k [(1, 0), (7, 38)]), (fun k => mLook k []), (fun k => mLook k []), (fun k => mLook k []), (fun k => [12].any (Nat.beq k)), (1, 20, 1, 20), true, (fun _ => none))
set_option maxRecDepth 100000 in
set_option maxHeartbeats 4000000 in
theorem q_Ro_init_e  (σ : MSto) (n : Nat) : mexe KT P_Ro_init (n + 1) (0, [some (mR 108 0)], [], σ, 0, 0) = some (12, [], [], (sR (sNew σ 38) 108 0 0 (some (gN σ 38))), 1, 20) := rfl
set_option maxRecDepth 100000 in
set_option maxHeartbeats 4000000 in
theorem d_Ro_init  (σ : MSto) : mW1 P_Ro_init (0, [some (mR 108 0)], [], σ, 0, 0) (mF [12] [] (e_Ro_init σ) 1 20) := by
  refine mW1_eq (q_Ro_init_e  _) ?_
  exact mTr_e (by decide) rfl (Eq.symm (rfl)) (by decide) (by decide)
theorem tk_Ro_init : ∀ pc i nx tg, T_Ro_init pc = some (i, nx, tg) → mOkB prog_9_method_1_code pc i nx tg = true := code_ok (N := 13) (fun k h => by unfold T_Ro_init; rw [h]; rfl) (by decide +kernel)
theorem al_Ro_init : ∀ pc i nx tg kd, pCode P_Ro_init pc = some (i, nx, tg) → pAlc P_Ro_init pc = some kd → match i with
    | .new x => mAOK "ClothWithMan$Row" x kd
    | .newarray t => mNAOK t kd
    | .anewarray x => mAAOK "ClothWithMan$Row" x kd
    | .invokespecial x => Cond.methodLink "ClothWithMan$Row" x Lib.objectInit ∈ lw_tbl
    | _ => True := by
  intro pc i nx tg kd h1 h2
  have h3 := mLook_mem h2
  simp only [List.mem_cons, Prod.mk.injEq, List.not_mem_nil, or_false] at h3
  rcases h3 with ⟨rfl, rfl⟩ | ⟨rfl, rfl⟩
  · have e : T_Ro_init 1 = some (i, nx, tg) := h1
    cases e
    exact tw_1_151
  · have e : T_Ro_init 7 = some (i, nx, tg) := h1
    cases e
    exact ⟨.long, 20, rfl, rfl, tw_1_161, by decide⟩

theorem ok_Ro_init (l : Launch) : mPOK l "ClothWithMan$Row" prog_9_method_1_code P_Ro_init := by
  refine ⟨tk_Ro_init, ?_, ?_, ?_, al_Ro_init, ?_, ?_, fun pc en h => by cases h⟩
  · intro x ci f ty fin h
    exact mLook_all (Q := fun x v => mFOK "ClothWithMan$Row" x v.1 v.2.1 v.2.2.1 v.2.2.2 ∧ (v.2.2.2 = true → pIni P_Ro_init = true → (Cond.fieldLink "ClothWithMan$Row" x (((mCl[v.1]?).getD ("", fun _ => ("", "", "", false), 0)).2.1 v.2.1).1 (((mCl[v.1]?).getD ("", fun _ => ("", "", "", false), 0)).2.1 v.2.1).2.1 (((mCl[v.1]?).getD ("", fun _ => ("", "", "", false), 0)).2.1 v.2.1).2.2.1 ∈ lw_tbl ∧ (((mCl[v.1]?).getD ("", fun _ => ("", "", "", false), 0)).2.1 v.2.1).1 = "ClothWithMan$Row"))) (fcC ⟨fo_Ro_11, fun _ _ => ⟨tw_1_152, rfl⟩⟩ fcN) x (ci, f, ty, fin) h
  · intro x
    have hh := mLook_all (l := ([] : List (Nat × (Int32 ⊕ Int64)))) (Q := fun x (v : Int32 ⊕ Int64) => (∀ w, v = .inl w → Cond.constant "ClothWithMan$Row" x w ∈ lw_tbl) ∧ (∀ w, v = .inr w → Cond.constantLong "ClothWithMan$Row" x w ∈ lw_tbl)) fcN x
    exact ⟨fun w h => (hh _ h).1 w rfl, fun w h => (hh _ h).2 w rfl⟩
  · exact fun x en h => mLook_all (Q := fun x en => mLink "ClothWithMan$Row" x en ∧ mCtr l en ∧ (en.1.1 = 2 → en.2.2.2.2.2.2 = none)) fcN x en h
  · exact fun x kd h => mLook_all (Q := fun x kd => (kd = 95 ∧ Cond.fieldLink "ClothWithMan$Row" x "ClothWithMan" "LIKENESSES" "[I" ∈ lw_tbl) ∨ (kd = 96 ∧ Cond.fieldLink "ClothWithMan$Row" x "ClothWithMan" "APART_BOUNDS" "[I" ∈ lw_tbl)) fcN x kd h
  · exact fun x ci h => mLook_all (Q := fun x ci => ci ≠ 0 ∧ ∃ (C : String) (T : u_T) (N : Nat), mCl[ci]? = some (C, T, N) ∧ Cond.classLink "ClothWithMan$Row" x C ∈ lw_tbl ∧ Cond.instantiable C N ∈ lw_tbl) fcN x ci h
set_option maxRecDepth 100000 in
theorem c_Ro_init (l : Launch) : mCtr l E_Ro_init := mCtr_of (P := P_Ro_init) (own := "ClothWithMan$Row") mLay_ok rfl (by decide +kernel) rfl (ok_Ro_init l) (fun _ => rfl) (fun as σ pr rv σ' hF hpr hlv => by
  unfold E_Ro_init S_Ro_init at hF
  simp only [] at hF
  split at hF
  · cases hF
    obtain ⟨n, pcF, c1, s1, g1, g2, g3, g4⟩ := mF_inv (d_Ro_init σ)
    exact ⟨Nat.le_of_ble_eq_true rfl, (fun v h => by cases h), n, pcF, c1, s1, g1, mEnd_of (i := .return_) (P := P_Ro_init) (rets := [12]) rfl g2, g3, g4⟩
  · cases hF
    exact (hpr _ rfl).elim)
/-! ClothWithMan$Kept.<init>()V -/
noncomputable def e_Ke_init  (σ : MSto) : MSto := (sR (sNew (sR (sNew σ 39) 104 0 3 (some (gN σ 39))) 40) 104 0 4 (some (gN σ 40)))
noncomputable def S_Ke_init : List MV → MSto → Option Prop × Option MV × MSto := fun as σ => match as with
  | [.inr (.inr (some (104, 0)))] => (none, none, e_Ke_init σ)
  | _ => (some False, none, σ)
noncomputable def E_Ke_init : MEnt := ((2, 0, 4), (1, 20, 2, 18), S_Ke_init, ((⟨"ClothWithMan$Kept", "<init>", "()V"⟩ : MethodName), prog_5_method_1_code, 1, none))

def T_Ke_init : Nat → Option (Instr × Nat × List Nat) := fun k => bif Nat.blt k 21 then (bif Nat.blt k 9 then (bif Nat.blt k 4 then (bif Nat.blt k 1 then (bif Nat.beq k 0 then some (.aload_n 0, 1, []) else none) else (bif Nat.beq k 1 then some (.invokespecial 3, 4, []) else none)) else (bif Nat.blt k 5 then (bif Nat.beq k 4 then some (.aload_n 0, 5, []) else none) else (bif Nat.blt k 7 then (bif Nat.beq k 5 then some (.bipush 12, 7, []) else none) else (bif Nat.beq k 7 then some (.newarray .int, 9, []) else none)))) else (bif Nat.blt k 15 then (bif Nat.blt k 12 then (bif Nat.beq k 9 then some (.putfield 9, 12, []) else none) else (bif Nat.blt k 13 then (bif Nat.beq k 12 then some (.aload_n 0, 13, []) else none) else (bif Nat.beq k 13 then some (.bipush 6, 15, []) else none))) else (bif Nat.blt k 17 then (bif Nat.beq k 15 then some (.newarray .int, 17, []) else none) else (bif Nat.blt k 20 then (bif Nat.beq k 17 then some (.putfield 15, 20, []) else none) else (bif Nat.beq k 20 then some (.return_, 21, []) else none))))) else none
noncomputable def P_Ke_init : MP := (T_Ke_init, (fun k => mLook k [(9, (4, 3, (.array .int), true)), (15, (4, 4, (.array .int), true))]), (fun k => mLook k []), (fun k => mLook k []), (fun k => mLook k [(1, 0), (7, 39), (15, 40)]), (fun k => mLook k []), (fun k => mLook k []), (fun k => mLook k []), (fun k => [20].any (Nat.beq k)), (1, 20, 2, 18), true, (fun _ => none))
set_option maxRecDepth 100000 in
set_option maxHeartbeats 4000000 in
theorem q_Ke_init_e  (σ : MSto) (n : Nat) : mexe KT P_Ke_init (n + 1) (0, [some (mR 104 0)], [], σ, 0, 0) = some (20, [], [], (sR (sNew (sR (sNew σ 39) 104 0 3 (some (gN σ 39))) 40) 104 0 4 (some (gN σ 40))), 2, 18) := rfl
set_option maxRecDepth 100000 in
set_option maxHeartbeats 4000000 in
theorem d_Ke_init  (σ : MSto) : mW1 P_Ke_init (0, [some (mR 104 0)], [], σ, 0, 0) (mF [20] [] (e_Ke_init σ) 2 18) := by
  refine mW1_eq (q_Ke_init_e  _) ?_
  exact mTr_e (by decide) rfl (Eq.symm (rfl)) (by decide) (by decide)
theorem tk_Ke_init : ∀ pc i nx tg, T_Ke_init pc = some (i, nx, tg) → mOkB prog_5_method_1_code pc i nx tg = true := code_ok (N := 21) (fun k h => by unfold T_Ke_init; rw [h]; rfl) (by decide +kernel)
theorem al_Ke_init : ∀ pc i nx tg kd, pCode P_Ke_init pc = some (i, nx, tg) → pAlc P_Ke_init pc = some kd → match i with
    | .new x => mAOK "ClothWithMan$Kept" x kd
    | .newarray t => mNAOK t kd
    | .anewarray x => mAAOK "ClothWithMan$Kept" x kd
    | .invokespecial x => Cond.methodLink "ClothWithMan$Kept" x Lib.objectInit ∈ lw_tbl
    | _ => True := by
  intro pc i nx tg kd h1 h2
  have h3 := mLook_mem h2
  simp only [List.mem_cons, Prod.mk.injEq, List.not_mem_nil, or_false] at h3
  rcases h3 with ⟨rfl, rfl⟩ | ⟨rfl, rfl⟩ | ⟨rfl, rfl⟩
  · have e : T_Ke_init 1 = some (i, nx, tg) := h1
    cases e
    exact tw_5_47
  · have e : T_Ke_init 7 = some (i, nx, tg) := h1
    cases e
    exact ⟨.int, 12, rfl, rfl, tw_1_90, by decide⟩
  · have e : T_Ke_init 15 = some (i, nx, tg) := h1
    cases e
    exact ⟨.int, 6, rfl, rfl, tw_1_90, by decide⟩

theorem ok_Ke_init (l : Launch) : mPOK l "ClothWithMan$Kept" prog_5_method_1_code P_Ke_init := by
  refine ⟨tk_Ke_init, ?_, ?_, ?_, al_Ke_init, ?_, ?_, fun pc en h => by cases h⟩
  · intro x ci f ty fin h
    exact mLook_all (Q := fun x v => mFOK "ClothWithMan$Kept" x v.1 v.2.1 v.2.2.1 v.2.2.2 ∧ (v.2.2.2 = true → pIni P_Ke_init = true → (Cond.fieldLink "ClothWithMan$Kept" x (((mCl[v.1]?).getD ("", fun _ => ("", "", "", false), 0)).2.1 v.2.1).1 (((mCl[v.1]?).getD ("", fun _ => ("", "", "", false), 0)).2.1 v.2.1).2.1 (((mCl[v.1]?).getD ("", fun _ => ("", "", "", false), 0)).2.1 v.2.1).2.2.1 ∈ lw_tbl ∧ (((mCl[v.1]?).getD ("", fun _ => ("", "", "", false), 0)).2.1 v.2.1).1 = "ClothWithMan$Kept"))) (fcC ⟨fo_Ke_9, fun _ _ => ⟨tw_5_51, rfl⟩⟩ (fcC ⟨fo_Ke_15, fun _ _ => ⟨tw_5_53, rfl⟩⟩ fcN)) x (ci, f, ty, fin) h
  · intro x
    have hh := mLook_all (l := ([] : List (Nat × (Int32 ⊕ Int64)))) (Q := fun x (v : Int32 ⊕ Int64) => (∀ w, v = .inl w → Cond.constant "ClothWithMan$Kept" x w ∈ lw_tbl) ∧ (∀ w, v = .inr w → Cond.constantLong "ClothWithMan$Kept" x w ∈ lw_tbl)) fcN x
    exact ⟨fun w h => (hh _ h).1 w rfl, fun w h => (hh _ h).2 w rfl⟩
  · exact fun x en h => mLook_all (Q := fun x en => mLink "ClothWithMan$Kept" x en ∧ mCtr l en ∧ (en.1.1 = 2 → en.2.2.2.2.2.2 = none)) fcN x en h
  · exact fun x kd h => mLook_all (Q := fun x kd => (kd = 95 ∧ Cond.fieldLink "ClothWithMan$Kept" x "ClothWithMan" "LIKENESSES" "[I" ∈ lw_tbl) ∨ (kd = 96 ∧ Cond.fieldLink "ClothWithMan$Kept" x "ClothWithMan" "APART_BOUNDS" "[I" ∈ lw_tbl)) fcN x kd h
  · exact fun x ci h => mLook_all (Q := fun x ci => ci ≠ 0 ∧ ∃ (C : String) (T : u_T) (N : Nat), mCl[ci]? = some (C, T, N) ∧ Cond.classLink "ClothWithMan$Kept" x C ∈ lw_tbl ∧ Cond.instantiable C N ∈ lw_tbl) fcN x ci h
set_option maxRecDepth 100000 in
theorem c_Ke_init (l : Launch) : mCtr l E_Ke_init := mCtr_of (P := P_Ke_init) (own := "ClothWithMan$Kept") mLay_ok rfl (by decide +kernel) rfl (ok_Ke_init l) (fun _ => rfl) (fun as σ pr rv σ' hF hpr hlv => by
  unfold E_Ke_init S_Ke_init at hF
  simp only [] at hF
  split at hF
  · cases hF
    obtain ⟨n, pcF, c1, s1, g1, g2, g3, g4⟩ := mF_inv (d_Ke_init σ)
    exact ⟨Nat.le_of_ble_eq_true rfl, (fun v h => by cases h), n, pcF, c1, s1, g1, mEnd_of (i := .return_) (P := P_Ke_init) (rets := [20]) rfl g2, g3, g4⟩
  · cases hF
    exact (hpr _ rfl).elim)
/-! new ClothWithMan$Text -/
def p_newTe (σ : MSto) : Prop := gN σ 110 = 0 ∧ gN σ 10 = 0 ∧ gN σ 33 = 0
noncomputable def e_newTe (σ : MSto) : MSto := mRen 110 10 (e_Te_init (sNew σ 110))
noncomputable def S_newTe : List MV → MSto → Option Prop × Option MV × MSto := fun as σ => match as with
  | [] => (some (p_newTe σ), some (mR 10 (0)), e_newTe σ)
  | _ => (some False, none, σ)
noncomputable def E_newTe : MEnt := ((0, 0, 0), (1, 20, 2, 85), S_newTe, ((⟨"ClothWithMan$Text", "<init>", "()V"⟩ : MethodName), prog_11_method_1_code, 1, none))
set_option maxRecDepth 100000 in
set_option maxHeartbeats 4000000 in
theorem h_newTe : ∀ (σ : MSto) (pr : Option Prop) (rv : Option MV) (σ' : MSto), E_newTe.2.2.1 [] σ = (pr, rv, σ') → (∀ q, pr = some q → q) → gN σ 110 = 0 ∧ ∃ (σ1 : MSto) (pr1 : Option Prop), E_Te_init.2.2.1 [mR 110 0] (sNew σ 110) = (pr1, none, σ1) ∧ (∀ q, pr1 = some q → q) ∧ gN σ1 110 = 1 ∧ gN σ1 10 = gN σ 10 ∧ (∀ f t, ([68, 0, 0, 0, 0] : List Nat)[f]? = some (2 * t + 2) → gR σ1 110 0 f = some (gN σ 10)) ∧ rv = some (mR 10 (gN σ 10)) ∧ σ' = mRen 110 10 σ1 := by
  intro σ pr rv σ' h hp
  have h' : (some (p_newTe σ), some (mR 10 (0)), e_newTe σ) = (pr, rv, σ') := h
  cases h'
  obtain ⟨h0, h1, h2⟩ := hp _ rfl
  refine ⟨h0, e_Te_init (sNew σ 110), _, rfl, ?_, ?_, ?_, ?_, ?_, rfl⟩
  · intro q hq; cases hq
  · exact congrArg (· + 1) h0
  · rfl
  · intro f t hf
    match f, hf with
    | 0, _ => exact congrArg some (h2.trans h1.symm : gN σ 33 = gN σ 10)
    | 1, hf => exact absurd (Option.some.inj hf) (by omega)
    | 2, hf => exact absurd (Option.some.inj hf) (by omega)
    | 3, hf => exact absurd (Option.some.inj hf) (by omega)
    | 4, hf => exact absurd (Option.some.inj hf) (by omega)
    | f + 5, hf => cases hf
  · rw [h1]
/-! new ClothWithMan$Curve -/
def p_newCu (σ : MSto) : Prop := gN σ 102 = 0 ∧ gN σ 2 = 0 ∧ gN σ 35 = 0 ∧ gN σ 36 = 0 ∧ gN σ 37 = 0
noncomputable def e_newCu (σ : MSto) : MSto := mRen 102 2 (e_Cu_init (sNew σ 102))
noncomputable def S_newCu : List MV → MSto → Option Prop × Option MV × MSto := fun as σ => match as with
  | [] => (some (p_newCu σ), some (mR 2 (0)), e_newCu σ)
  | _ => (some False, none, σ)
noncomputable def E_newCu : MEnt := ((0, 0, 0), (1, 20, 4, 244), S_newCu, ((⟨"ClothWithMan$Curve", "<init>", "()V"⟩ : MethodName), prog_3_method_1_code, 1, none))
set_option maxRecDepth 100000 in
set_option maxHeartbeats 4000000 in
theorem h_newCu : ∀ (σ : MSto) (pr : Option Prop) (rv : Option MV) (σ' : MSto), E_newCu.2.2.1 [] σ = (pr, rv, σ') → (∀ q, pr = some q → q) → gN σ 102 = 0 ∧ ∃ (σ1 : MSto) (pr1 : Option Prop), E_Cu_init.2.2.1 [mR 102 0] (sNew σ 102) = (pr1, none, σ1) ∧ (∀ q, pr1 = some q → q) ∧ gN σ1 102 = 1 ∧ gN σ1 2 = gN σ 2 ∧ (∀ f t, ([72, 0, 74, 76] : List Nat)[f]? = some (2 * t + 2) → gR σ1 102 0 f = some (gN σ 2)) ∧ rv = some (mR 2 (gN σ 2)) ∧ σ' = mRen 102 2 σ1 := by
  intro σ pr rv σ' h hp
  have h' : (some (p_newCu σ), some (mR 2 (0)), e_newCu σ) = (pr, rv, σ') := h
  cases h'
  obtain ⟨h0, h1, h2, h3, h4⟩ := hp _ rfl
  refine ⟨h0, e_Cu_init (sNew σ 102), _, rfl, ?_, ?_, ?_, ?_, ?_, rfl⟩
  · intro q hq; cases hq
  · exact congrArg (· + 1) h0
  · rfl
  · intro f t hf
    match f, hf with
    | 0, _ => exact congrArg some (h2.trans h1.symm : gN σ 35 = gN σ 2)
    | 1, hf => exact absurd (Option.some.inj hf) (by omega)
    | 2, _ => exact congrArg some (h3.trans h1.symm : gN σ 36 = gN σ 2)
    | 3, _ => exact congrArg some (h4.trans h1.symm : gN σ 37 = gN σ 2)
    | f + 4, hf => cases hf
  · rw [h1]
/-! new ClothWithMan$Row -/
def p_newRo (σ : MSto) : Prop := gN σ 108 = 0 ∧ gN σ 8 = 0 ∧ gN σ 38 = 0
noncomputable def e_newRo (σ : MSto) : MSto := mRen 108 8 (e_Ro_init (sNew σ 108))
noncomputable def S_newRo : List MV → MSto → Option Prop × Option MV × MSto := fun as σ => match as with
  | [] => (some (p_newRo σ), some (mR 8 (0)), e_newRo σ)
  | _ => (some False, none, σ)
noncomputable def E_newRo : MEnt := ((0, 0, 0), (1, 20, 2, 22), S_newRo, ((⟨"ClothWithMan$Row", "<init>", "()V"⟩ : MethodName), prog_9_method_1_code, 1, none))
set_option maxRecDepth 100000 in
set_option maxHeartbeats 4000000 in
theorem h_newRo : ∀ (σ : MSto) (pr : Option Prop) (rv : Option MV) (σ' : MSto), E_newRo.2.2.1 [] σ = (pr, rv, σ') → (∀ q, pr = some q → q) → gN σ 108 = 0 ∧ ∃ (σ1 : MSto) (pr1 : Option Prop), E_Ro_init.2.2.1 [mR 108 0] (sNew σ 108) = (pr1, none, σ1) ∧ (∀ q, pr1 = some q → q) ∧ gN σ1 108 = 1 ∧ gN σ1 8 = gN σ 8 ∧ (∀ f t, ([78, 0] : List Nat)[f]? = some (2 * t + 2) → gR σ1 108 0 f = some (gN σ 8)) ∧ rv = some (mR 8 (gN σ 8)) ∧ σ' = mRen 108 8 σ1 := by
  intro σ pr rv σ' h hp
  have h' : (some (p_newRo σ), some (mR 8 (0)), e_newRo σ) = (pr, rv, σ') := h
  cases h'
  obtain ⟨h0, h1, h2⟩ := hp _ rfl
  refine ⟨h0, e_Ro_init (sNew σ 108), _, rfl, ?_, ?_, ?_, ?_, ?_, rfl⟩
  · intro q hq; cases hq
  · exact congrArg (· + 1) h0
  · rfl
  · intro f t hf
    match f, hf with
    | 0, _ => exact congrArg some (h2.trans h1.symm : gN σ 38 = gN σ 8)
    | 1, hf => exact absurd (Option.some.inj hf) (by omega)
    | f + 2, hf => cases hf
  · rw [h1]
/-! new ClothWithMan$Kept -/
def p_newKe (σ : MSto) : Prop := gN σ 104 = 0 ∧ gN σ 39 = gN σ 4 ∧ gN σ 40 = gN σ 4
def v_newKe (σ : MSto) : Nat := gN σ 4
noncomputable def e_newKe (σ : MSto) : MSto := mRen 104 4 (e_Ke_init (sNew σ 104))
noncomputable def S_newKe : List MV → MSto → Option Prop × Option MV × MSto := fun as σ => match as with
  | [] => (some (p_newKe σ), some (mR 4 (v_newKe σ)), e_newKe σ)
  | _ => (some False, none, σ)
noncomputable def E_newKe : MEnt := ((0, 0, 0), (1, 20, 3, 23), S_newKe, ((⟨"ClothWithMan$Kept", "<init>", "()V"⟩ : MethodName), prog_5_method_1_code, 1, none))
set_option maxRecDepth 100000 in
set_option maxHeartbeats 4000000 in
theorem h_newKe : ∀ (σ : MSto) (pr : Option Prop) (rv : Option MV) (σ' : MSto), E_newKe.2.2.1 [] σ = (pr, rv, σ') → (∀ q, pr = some q → q) → gN σ 104 = 0 ∧ ∃ (σ1 : MSto) (pr1 : Option Prop), E_Ke_init.2.2.1 [mR 104 0] (sNew σ 104) = (pr1, none, σ1) ∧ (∀ q, pr1 = some q → q) ∧ gN σ1 104 = 1 ∧ gN σ1 4 = gN σ 4 ∧ (∀ f t, ([0, 0, 0, 80, 82] : List Nat)[f]? = some (2 * t + 2) → gR σ1 104 0 f = some (gN σ 4)) ∧ rv = some (mR 4 (gN σ 4)) ∧ σ' = mRen 104 4 σ1 := by
  intro σ pr rv σ' h hp
  have h' : (some (p_newKe σ), some (mR 4 (v_newKe σ)), e_newKe σ) = (pr, rv, σ') := h
  cases h'
  obtain ⟨h0, h1, h2⟩ := hp _ rfl
  refine ⟨h0, e_Ke_init (sNew σ 104), _, rfl, ?_, ?_, ?_, ?_, ?_, rfl⟩
  · intro q hq; cases hq
  · exact congrArg (· + 1) h0
  · rfl
  · intro f t hf
    match f, hf with
    | 0, hf => exact absurd (Option.some.inj hf) (by omega)
    | 1, hf => exact absurd (Option.some.inj hf) (by omega)
    | 2, hf => exact absurd (Option.some.inj hf) (by omega)
    | 3, _ => exact congrArg some (h1 : gN σ 39 = gN σ 4)
    | 4, _ => exact congrArg some (h2 : gN σ 40 = gN σ 4)
    | f + 5, hf => cases hf
  · rfl
/-! ClothWithMan$Cloth.<init>()V -/
def p_Cl_init  (σ : MSto) : Prop := ((p_newCu σ) ∧ ((p_newL17 (sI (sR (e_newCu σ) 101 0 0 (some 0)) 101 0 1 100)) ∧ (p_newL18 (sR (e_newL17 (sI (sR (e_newCu σ) 101 0 0 (some 0)) 101 0 1 100)) 101 0 2 (some 0)))))
noncomputable def e_Cl_init  (σ : MSto) : MSto := (sR (sNew (sR (e_newL18 (sR (e_newL17 (sI (sR (e_newCu σ) 101 0 0 (some 0)) 101 0 1 100)) 101 0 2 (some 0))) 101 0 3 (some 0)) 34) 101 0 4 (some (gN σ 34)))
noncomputable def S_Cl_init : List MV → MSto → Option Prop × Option MV × MSto := fun as σ => match as with
  | [.inr (.inr (some (101, 0)))] => (some (p_Cl_init σ), none, e_Cl_init σ)
  | _ => (some False, none, σ)
noncomputable def E_Cl_init : MEnt := ((2, 0, 1), (5, 160, 7, 254), S_Cl_init, ((⟨"ClothWithMan$Cloth", "<init>", "()V"⟩ : MethodName), prog_2_method_1_code, 1, none))

def T_Cl_init : Nat → Option (Instr × Nat × List Nat) := fun k => bif Nat.blt k 51 then (bif Nat.blt k 25 then (bif Nat.blt k 12 then (bif Nat.blt k 5 then (bif Nat.blt k 1 then (bif Nat.beq k 0 then some (.aload_n 0, 1, []) else none) else (bif Nat.blt k 4 then (bif Nat.beq k 1 then some (.invokespecial 3, 4, []) else none) else (bif Nat.beq k 4 then some (.aload_n 0, 5, []) else none))) else (bif Nat.blt k 8 then (bif Nat.beq k 5 then some (.new 9, 8, [12]) else none) else (bif Nat.blt k 9 then (bif Nat.beq k 8 then some (.dup, 9, []) else none) else (bif Nat.beq k 9 then some (.invokespecial 11, 12, []) else none)))) else (bif Nat.blt k 18 then (bif Nat.blt k 15 then (bif Nat.beq k 12 then some (.putfield 12, 15, []) else none) else (bif Nat.blt k 16 then (bif Nat.beq k 15 then some (.aload_n 0, 16, []) else none) else (bif Nat.beq k 16 then some (.bipush 100, 18, []) else none))) else (bif Nat.blt k 21 then (bif Nat.beq k 18 then some (.putfield 18, 21, []) else none) else (bif Nat.blt k 22 then (bif Nat.beq k 21 then some (.aload_n 0, 22, []) else none) else (bif Nat.beq k 22 then some (.new 22, 25, [29]) else none))))) else (bif Nat.blt k 37 then (bif Nat.blt k 32 then (bif Nat.blt k 26 then (bif Nat.beq k 25 then some (.dup, 26, []) else none) else (bif Nat.blt k 29 then (bif Nat.beq k 26 then some (.invokespecial 24, 29, []) else none) else (bif Nat.beq k 29 then some (.putfield 25, 32, []) else none))) else (bif Nat.blt k 33 then (bif Nat.beq k 32 then some (.aload_n 0, 33, []) else none) else (bif Nat.blt k 36 then (bif Nat.beq k 33 then some (.new 22, 36, [40]) else none) else (bif Nat.beq k 36 then some (.dup, 37, []) else none)))) else (bif Nat.blt k 44 then (bif Nat.blt k 40 then (bif Nat.beq k 37 then some (.invokespecial 24, 40, []) else none) else (bif Nat.blt k 43 then (bif Nat.beq k 40 then some (.putfield 29, 43, []) else none) else (bif Nat.beq k 43 then some (.aload_n 0, 44, []) else none))) else (bif Nat.blt k 47 then (bif Nat.blt k 45 then (bif Nat.beq k 44 then some (.iconst 4, 45, []) else none) else (bif Nat.beq k 45 then some (.newarray .int, 47, []) else none)) else (bif Nat.blt k 50 then (bif Nat.beq k 47 then some (.putfield 32, 50, []) else none) else (bif Nat.beq k 50 then some (.return_, 51, []) else none)))))) else none
noncomputable def P_Cl_init : MP := (T_Cl_init, (fun k => mLook k [(12, (1, 0, (.object "ClothWithMan$Curve"), true)), (18, (1, 1, .int, false)), (25, (1, 2, (.object "java/util/ArrayList"), true)), (29, (1, 3, (.object "java/util/ArrayList"), true)), (32, (1, 4, (.array .int), true))]), (fun k => mLook k []), (fun k => mLook k []), (fun k => mLook k [(1, 0), (45, 34)]), (fun k => mLook k []), (fun k => mLook k []), (fun k => mLook k []), (fun k => [50].any (Nat.beq k)), (5, 160, 7, 254), true, (fun k => mLook k [(5, E_newCu), (22, (E_newL 17)), (33, (E_newL 18))]))
set_option maxRecDepth 100000 in
set_option maxHeartbeats 4000000 in
theorem q_Cl_init_e  (σ : MSto) (n : Nat) : mexe KT P_Cl_init (n + 1) (0, [some (mR 101 0)], [], σ, 0, 0) = mG (p_newCu σ) (mG (p_newL17 (sI (sR (e_newCu σ) 101 0 0 (some 0)) 101 0 1 100)) (mG (p_newL18 (sR (e_newL17 (sI (sR (e_newCu σ) 101 0 0 (some 0)) 101 0 1 100)) 101 0 2 (some 0))) (some (50, [], [], (sR (sNew (sR (e_newL18 (sR (e_newL17 (sI (sR (e_newCu σ) 101 0 0 (some 0)) 101 0 1 100)) 101 0 2 (some 0))) 101 0 3 (some 0)) 34) 101 0 4 (some (gN σ 34))), 7, 254)))) := rfl
set_option maxRecDepth 100000 in
set_option maxHeartbeats 4000000 in
theorem d_Cl_init  (σ : MSto) (hp : p_Cl_init σ) : mW1 P_Cl_init (0, [some (mR 101 0)], [], σ, 0, 0) (mF [50] [] (e_Cl_init σ) 7 254) := by
  refine mW1_eq (q_Cl_init_e  _) ?_
  unfold p_Cl_init at hp
  refine mTr_g hp.1 ?_
  have hp := hp.2
  refine mTr_g hp.1 ?_
  have hp := hp.2
  refine mTr_g hp ?_
  exact mTr_e (by decide) rfl (Eq.symm (rfl)) (by decide) (by decide)
theorem tk_Cl_init : ∀ pc i nx tg, T_Cl_init pc = some (i, nx, tg) → mOkB prog_2_method_1_code pc i nx tg = true := code_ok (N := 51) (fun k h => by unfold T_Cl_init; rw [h]; rfl) (by decide +kernel)
theorem al_Cl_init : ∀ pc i nx tg kd, pCode P_Cl_init pc = some (i, nx, tg) → pAlc P_Cl_init pc = some kd → match i with
    | .new x => mAOK "ClothWithMan$Cloth" x kd
    | .newarray t => mNAOK t kd
    | .anewarray x => mAAOK "ClothWithMan$Cloth" x kd
    | .invokespecial x => Cond.methodLink "ClothWithMan$Cloth" x Lib.objectInit ∈ lw_tbl
    | _ => True := by
  intro pc i nx tg kd h1 h2
  have h3 := mLook_mem h2
  simp only [List.mem_cons, Prod.mk.injEq, List.not_mem_nil, or_false] at h3
  rcases h3 with ⟨rfl, rfl⟩ | ⟨rfl, rfl⟩
  · have e : T_Cl_init 1 = some (i, nx, tg) := h1
    cases e
    exact tw_1_69
  · have e : T_Cl_init 45 = some (i, nx, tg) := h1
    cases e
    exact ⟨.int, 4, rfl, rfl, tw_1_90, by decide⟩

theorem li_Cl_11 : mLink "ClothWithMan$Cloth" 11 E_Cu_init := ⟨tw_1_74, tw_1_4, ⟨by decide, by decide⟩, by decide +kernel, Or.inr ⟨_, tw_1_72⟩, (fun h => by cases h), (fun h => by cases h), (fun _ => ⟨tw_1_73, rfl⟩)⟩
theorem fu_Cl_init (l : Launch) : ∀ pc en, pFus P_Cl_init pc = some en → ∀ x nx t, pCode P_Cl_init pc = some (.new x, nx, [t]) → mFusOK l "ClothWithMan$Cloth" prog_2_method_1_code pc t en := by
  intro pc en h2 x nx t h1
  have h3 := mLook_mem h2
  simp only [List.mem_cons, Prod.mk.injEq, List.not_mem_nil, or_false] at h3
  rcases h3 with ⟨rfl, rfl⟩ | ⟨rfl, rfl⟩ | ⟨rfl, rfl⟩
  · have e : T_Cl_init 5 = some (.new x, nx, [t]) := h1
    cases e
    exact fus_obj (kr := 102) (k := 2) (x := 9) (ix := 11) (ei := E_Cu_init) rfl rfl (by decide) (by decide +kernel) (by decide) (by decide) ⟨2, _, "ClothWithMan$Curve", TX1, rfl, by decide, rfl, tw_1_70, tw_1_71, tw_1_4, (lt_s (lt_s (lt_s (lt_s lt_0 ⟨(.array .int), by decide +kernel, Or.inr (Or.inr ⟨⟨35, rfl⟩, rfl⟩)⟩) ⟨.int, by decide +kernel, Or.inl ⟨rfl, rfl⟩⟩) ⟨(.array .int), by decide +kernel, Or.inr (Or.inr ⟨⟨36, rfl⟩, rfl⟩)⟩) ⟨(.array .int), by decide +kernel, Or.inr (Or.inr ⟨⟨37, rfl⟩, rfl⟩)⟩)⟩ (by decide +kernel) (by decide +kernel) (by decide +kernel) li_Cl_11 (c_Cu_init l) rfl rfl ⟨by decide, by decide, rfl, rfl⟩ h_newCu
  · have e : T_Cl_init 22 = some (.new x, nx, [t]) := h1
    cases e
    exact fus_list (kd := 17) (x := 22) (ix := 24) rfl (by decide +kernel) (by decide +kernel) (by decide +kernel) tw_1_91 tw_1_93
  · have e : T_Cl_init 33 = some (.new x, nx, [t]) := h1
    cases e
    exact fus_list (kd := 18) (x := 22) (ix := 24) rfl (by decide +kernel) (by decide +kernel) (by decide +kernel) tw_1_91 tw_1_93

theorem ok_Cl_init (l : Launch) : mPOK l "ClothWithMan$Cloth" prog_2_method_1_code P_Cl_init := by
  refine ⟨tk_Cl_init, ?_, ?_, ?_, al_Cl_init, ?_, ?_, fu_Cl_init l⟩
  · intro x ci f ty fin h
    exact mLook_all (Q := fun x v => mFOK "ClothWithMan$Cloth" x v.1 v.2.1 v.2.2.1 v.2.2.2 ∧ (v.2.2.2 = true → pIni P_Cl_init = true → (Cond.fieldLink "ClothWithMan$Cloth" x (((mCl[v.1]?).getD ("", fun _ => ("", "", "", false), 0)).2.1 v.2.1).1 (((mCl[v.1]?).getD ("", fun _ => ("", "", "", false), 0)).2.1 v.2.1).2.1 (((mCl[v.1]?).getD ("", fun _ => ("", "", "", false), 0)).2.1 v.2.1).2.2.1 ∈ lw_tbl ∧ (((mCl[v.1]?).getD ("", fun _ => ("", "", "", false), 0)).2.1 v.2.1).1 = "ClothWithMan$Cloth"))) (fcC ⟨fo_Cl_12, fun _ _ => ⟨tw_1_117, rfl⟩⟩ (fcC ⟨fo_Cl_18, fun h1 h2 => by cases h1⟩ (fcC ⟨fo_Cl_25, fun _ _ => ⟨tw_1_121, rfl⟩⟩ (fcC ⟨fo_Cl_29, fun _ _ => ⟨tw_1_123, rfl⟩⟩ (fcC ⟨fo_Cl_32, fun _ _ => ⟨tw_1_125, rfl⟩⟩ fcN))))) x (ci, f, ty, fin) h
  · intro x
    have hh := mLook_all (l := ([] : List (Nat × (Int32 ⊕ Int64)))) (Q := fun x (v : Int32 ⊕ Int64) => (∀ w, v = .inl w → Cond.constant "ClothWithMan$Cloth" x w ∈ lw_tbl) ∧ (∀ w, v = .inr w → Cond.constantLong "ClothWithMan$Cloth" x w ∈ lw_tbl)) fcN x
    exact ⟨fun w h => (hh _ h).1 w rfl, fun w h => (hh _ h).2 w rfl⟩
  · exact fun x en h => mLook_all (Q := fun x en => mLink "ClothWithMan$Cloth" x en ∧ mCtr l en ∧ (en.1.1 = 2 → en.2.2.2.2.2.2 = none)) fcN x en h
  · exact fun x kd h => mLook_all (Q := fun x kd => (kd = 95 ∧ Cond.fieldLink "ClothWithMan$Cloth" x "ClothWithMan" "LIKENESSES" "[I" ∈ lw_tbl) ∨ (kd = 96 ∧ Cond.fieldLink "ClothWithMan$Cloth" x "ClothWithMan" "APART_BOUNDS" "[I" ∈ lw_tbl)) fcN x kd h
  · exact fun x ci h => mLook_all (Q := fun x ci => ci ≠ 0 ∧ ∃ (C : String) (T : u_T) (N : Nat), mCl[ci]? = some (C, T, N) ∧ Cond.classLink "ClothWithMan$Cloth" x C ∈ lw_tbl ∧ Cond.instantiable C N ∈ lw_tbl) fcN x ci h
set_option maxRecDepth 100000 in
theorem c_Cl_init (l : Launch) : mCtr l E_Cl_init := mCtr_of (P := P_Cl_init) (own := "ClothWithMan$Cloth") mLay_ok rfl (by decide +kernel) rfl (ok_Cl_init l) (fun _ => rfl) (fun as σ pr rv σ' hF hpr hlv => by
  unfold E_Cl_init S_Cl_init at hF
  simp only [] at hF
  split at hF
  · cases hF
    obtain ⟨n, pcF, c1, s1, g1, g2, g3, g4⟩ := mF_inv (d_Cl_init σ (hpr _ rfl))
    exact ⟨Nat.le_of_ble_eq_true rfl, (fun v h => by cases h), n, pcF, c1, s1, g1, mEnd_of (i := .return_) (P := P_Cl_init) (rets := [50]) rfl g2, g3, g4⟩
  · cases hF
    exact (hpr _ rfl).elim)
/-! new ClothWithMan$Cloth -/
def p_newCl (σ : MSto) : Prop := gN σ 101 = 0 ∧ gN σ 1 = 0 ∧ gN σ 2 = 0 ∧ gN σ 17 = 0 ∧ gN σ 18 = 0 ∧ gN σ 34 = 0 ∧ p_Cl_init (sNew σ 101)
noncomputable def e_newCl (σ : MSto) : MSto := mRen 101 1 (e_Cl_init (sNew σ 101))
noncomputable def S_newCl : List MV → MSto → Option Prop × Option MV × MSto := fun as σ => match as with
  | [] => (some (p_newCl σ), some (mR 1 (0)), e_newCl σ)
  | _ => (some False, none, σ)
noncomputable def E_newCl : MEnt := ((0, 0, 0), (5, 160, 8, 259), S_newCl, ((⟨"ClothWithMan$Cloth", "<init>", "()V"⟩ : MethodName), prog_2_method_1_code, 1, none))
set_option maxRecDepth 100000 in
set_option maxHeartbeats 4000000 in
theorem h_newCl : ∀ (σ : MSto) (pr : Option Prop) (rv : Option MV) (σ' : MSto), E_newCl.2.2.1 [] σ = (pr, rv, σ') → (∀ q, pr = some q → q) → gN σ 101 = 0 ∧ ∃ (σ1 : MSto) (pr1 : Option Prop), E_Cl_init.2.2.1 [mR 101 0] (sNew σ 101) = (pr1, none, σ1) ∧ (∀ q, pr1 = some q → q) ∧ gN σ1 101 = 1 ∧ gN σ1 1 = gN σ 1 ∧ (∀ f t, ([6, 0, 36, 38, 70] : List Nat)[f]? = some (2 * t + 2) → gR σ1 101 0 f = some (gN σ 1)) ∧ rv = some (mR 1 (gN σ 1)) ∧ σ' = mRen 101 1 σ1 := by
  intro σ pr rv σ' h hp
  have h' : (some (p_newCl σ), some (mR 1 (0)), e_newCl σ) = (pr, rv, σ') := h
  cases h'
  obtain ⟨h0, h1, h2, h3, h4, h5, hp9⟩ := hp _ rfl
  refine ⟨h0, e_Cl_init (sNew σ 101), _, rfl, ?_, ?_, ?_, ?_, ?_, rfl⟩
  · intro q hq; cases hq; exact hp9
  · exact congrArg (· + 1) h0
  · rfl
  · intro f t hf
    match f, hf with
    | 0, _ => exact congrArg some (h1.symm : 0 = gN σ 1)
    | 1, hf => exact absurd (Option.some.inj hf) (by omega)
    | 2, _ => exact congrArg some (h1.symm : 0 = gN σ 1)
    | 3, _ => exact congrArg some (h1.symm : 0 = gN σ 1)
    | 4, _ => exact congrArg some (h5.trans h1.symm : gN σ 34 = gN σ 1)
    | f + 5, hf => cases hf
  · rw [h1]

