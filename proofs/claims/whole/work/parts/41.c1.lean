/-! ClothWithMan.isIn(III)Z -/
def b_C_isIn (a0 : Int32) (a1 : Int32) (a2 : Int32) (σ : MSto) : Prop := (if a0 < a1 then False else (if a2 < a0 then False else True))
noncomputable def v_C_isIn (a0 : Int32) (a1 : Int32) (a2 : Int32) (σ : MSto) : Int32 := bI (b_C_isIn a0 a1 a2 σ)
noncomputable def S_C_isIn : List MV → MSto → Option Prop × Option MV × MSto := fun as σ => match as with
  | [.inl a0, .inl a1, .inl a2] => (none, some (mI (v_C_isIn a0 a1 a2 σ)), σ)
  | _ => (some False, none, σ)
noncomputable def E_C_isIn : MEnt := ((0, 3, 12), (0, 0, 0, 0), S_C_isIn, ((⟨"ClothWithMan", "isIn", "(III)Z"⟩ : MethodName), prog_1_method_53_code, 3, (some .boolean)))

def T_C_isIn : Nat → Option (Instr × Nat × List Nat) := fun k => bif Nat.blt k 16 then (bif Nat.blt k 7 then (bif Nat.blt k 2 then (bif Nat.blt k 1 then (bif Nat.beq k 0 then some (.iload_n 0, 1, []) else none) else (bif Nat.beq k 1 then some (.iload_n 1, 2, []) else none)) else (bif Nat.blt k 5 then (bif Nat.beq k 2 then some (.if_icmp .lt 12, 5, [14]) else none) else (bif Nat.blt k 6 then (bif Nat.beq k 5 then some (.iload_n 0, 6, []) else none) else (bif Nat.beq k 6 then some (.iload_n 2, 7, []) else none)))) else (bif Nat.blt k 11 then (bif Nat.blt k 10 then (bif Nat.beq k 7 then some (.if_icmp .gt 7, 10, [14]) else none) else (bif Nat.beq k 10 then some (.iconst 1, 11, []) else none)) else (bif Nat.blt k 14 then (bif Nat.beq k 11 then some (.goto 4, 14, [15]) else none) else (bif Nat.blt k 15 then (bif Nat.beq k 14 then some (.iconst 0, 15, []) else none) else (bif Nat.beq k 15 then some (.ireturn, 16, []) else none))))) else none
noncomputable def P_C_isIn : MP := (T_C_isIn, (fun k => mLook k []), (fun k => mLook k []), (fun k => mLook k []), (fun k => mLook k []), (fun k => mLook k []), (fun k => mLook k []), (fun k => mLook k []), (fun k => [15].any (Nat.beq k)), (0, 0, 0, 0), false, (fun _ => none))
set_option maxRecDepth 100000 in
set_option maxHeartbeats 4000000 in
theorem q_C_isIn_e (a0 : Int32) (a1 : Int32) (a2 : Int32) (σ : MSto) (n : Nat) : mexe KT P_C_isIn (n + 1) (0, [some (mI a0), some (mI a1), some (mI a2)], [], σ, 0, 0) = mIf (a0 < a1) (some (15, [], [(mI 0)], σ, 0, 0)) (mIf (a2 < a0) (some (15, [], [(mI 0)], σ, 0, 0)) (some (15, [], [(mI 1)], σ, 0, 0))) := rfl
set_option maxRecDepth 100000 in
set_option maxHeartbeats 4000000 in
theorem d_C_isIn (a0 : Int32) (a1 : Int32) (a2 : Int32) (σ : MSto) : mW1 P_C_isIn (0, [some (mI a0), some (mI a1), some (mI a2)], [], σ, 0, 0) (mF [15] [mI (v_C_isIn a0 a1 a2 σ)] σ 0 0) := by
  refine mW1_eq (q_C_isIn_e _ _ _ _) ?_
  unfold v_C_isIn
  refine mTr_if (fun h0 => ?_) (fun h0 => ?_)
  · skip
    exact mTr_e (by decide) (bI_F (if_pos h0)) rfl (by decide) (by decide)
  · skip
    refine mTr_if (fun h1 => ?_) (fun h1 => ?_)
    · skip
      exact mTr_e (by decide) (bI_F ((if_neg h0).trans (if_pos h1))) rfl (by decide) (by decide)
    · skip
      exact mTr_e (by decide) (bI_T ((if_neg h0).trans (if_neg h1))) rfl (by decide) (by decide)
theorem tk_C_isIn : ∀ pc i nx tg, T_C_isIn pc = some (i, nx, tg) → mOkB prog_1_method_53_code pc i nx tg = true := code_ok (N := 16) (fun k h => by unfold T_C_isIn; rw [h]; rfl) (by decide +kernel)
theorem ok_C_isIn (l : Launch) : mPOK l "ClothWithMan" prog_1_method_53_code P_C_isIn := by
  refine ⟨tk_C_isIn, ?_, ?_, ?_, (fun pc i nx tg kd _ h => by cases h), ?_, ?_, fun pc en h => by cases h⟩
  · intro x ci f ty fin h
    exact mLook_all (Q := fun x v => mFOK "ClothWithMan" x v.1 v.2.1 v.2.2.1 v.2.2.2 ∧ (v.2.2.2 = true → pIni P_C_isIn = true → (Cond.fieldLink "ClothWithMan" x (((mCl[v.1]?).getD ("", fun _ => ("", "", "", false), 0)).2.1 v.2.1).1 (((mCl[v.1]?).getD ("", fun _ => ("", "", "", false), 0)).2.1 v.2.1).2.1 (((mCl[v.1]?).getD ("", fun _ => ("", "", "", false), 0)).2.1 v.2.1).2.2.1 ∈ lw_tbl ∧ (((mCl[v.1]?).getD ("", fun _ => ("", "", "", false), 0)).2.1 v.2.1).1 = "ClothWithMan"))) fcN x (ci, f, ty, fin) h
  · intro x
    have hh := mLook_all (l := ([] : List (Nat × (Int32 ⊕ Int64)))) (Q := fun x (v : Int32 ⊕ Int64) => (∀ w, v = .inl w → Cond.constant "ClothWithMan" x w ∈ lw_tbl) ∧ (∀ w, v = .inr w → Cond.constantLong "ClothWithMan" x w ∈ lw_tbl)) fcN x
    exact ⟨fun w h => (hh _ h).1 w rfl, fun w h => (hh _ h).2 w rfl⟩
  · exact fun x en h => mLook_all (Q := fun x en => mLink "ClothWithMan" x en ∧ mCtr l en ∧ (en.1.1 = 2 → en.2.2.2.2.2.2 = none)) fcN x en h
  · exact fun x kd h => mLook_all (Q := fun x kd => (kd = 95 ∧ Cond.fieldLink "ClothWithMan" x "ClothWithMan" "LIKENESSES" "[I" ∈ lw_tbl) ∨ (kd = 96 ∧ Cond.fieldLink "ClothWithMan" x "ClothWithMan" "APART_BOUNDS" "[I" ∈ lw_tbl)) fcN x kd h
  · exact fun x ci h => mLook_all (Q := fun x ci => ci ≠ 0 ∧ ∃ (C : String) (T : u_T) (N : Nat), mCl[ci]? = some (C, T, N) ∧ Cond.classLink "ClothWithMan" x C ∈ lw_tbl ∧ Cond.instantiable C N ∈ lw_tbl) fcN x ci h
set_option maxRecDepth 100000 in
theorem c_C_isIn (l : Launch) : mCtr l E_C_isIn := mCtr_of (P := P_C_isIn) (own := "ClothWithMan") mLay_ok rfl (by decide +kernel) rfl (ok_C_isIn l) (fun h => by cases h) (fun as σ pr rv σ' hF hpr hlv => by
  unfold E_C_isIn S_C_isIn at hF
  simp only [] at hF
  split at hF
  · cases hF
    obtain ⟨n, pcF, c1, s1, g1, g2, g3, g4⟩ := mF_inv (d_C_isIn _ _ _ σ)
    exact ⟨Nat.le_of_ble_eq_true rfl, (fun v h => by cases h; trivial), n, pcF, c1, s1, g1, ⟨mEnd_of (i := .ireturn) (P := P_C_isIn) (rets := [15]) rfl g2, bI_narrow _⟩, g3, g4⟩
  · cases hF
    exact (hpr _ rfl).elim)
/-! ClothWithMan.isYear(I)Z -/
def b_C_isYear (a0 : Int32) (σ : MSto) : Prop := ((v_C_isIn a0 0 199 σ) = 1)
noncomputable def v_C_isYear (a0 : Int32) (σ : MSto) : Int32 := bI (b_C_isYear a0 σ)
noncomputable def S_C_isYear : List MV → MSto → Option Prop × Option MV × MSto := fun as σ => match as with
  | [.inl a0] => (none, some (mI (v_C_isYear a0 σ)), σ)
  | _ => (some False, none, σ)
noncomputable def E_C_isYear : MEnt := ((0, 1, 12), (1, 22, 0, 0), S_C_isYear, ((⟨"ClothWithMan", "isYear", "(I)Z"⟩ : MethodName), prog_1_method_54_code, 1, (some .boolean)))

def T_C_isYear : Nat → Option (Instr × Nat × List Nat) := fun k => bif Nat.blt k 9 then (bif Nat.blt k 2 then (bif Nat.blt k 1 then (bif Nat.beq k 0 then some (.iload_n 0, 1, []) else none) else (bif Nat.beq k 1 then some (.iconst 0, 2, []) else none)) else (bif Nat.blt k 5 then (bif Nat.beq k 2 then some (.sipush 199, 5, []) else none) else (bif Nat.blt k 8 then (bif Nat.beq k 5 then some (.invokestatic 145, 8, []) else none) else (bif Nat.beq k 8 then some (.ireturn, 9, []) else none)))) else none
noncomputable def P_C_isYear : MP := (T_C_isYear, (fun k => mLook k []), (fun k => mLook k []), (fun k => mLook k [(145, E_C_isIn)]), (fun k => mLook k []), (fun k => mLook k []), (fun k => mLook k []), (fun k => mLook k []), (fun k => [8].any (Nat.beq k)), (1, 22, 0, 0), false, (fun _ => none))
set_option maxRecDepth 100000 in
set_option maxHeartbeats 4000000 in
theorem q_C_isYear_e (a0 : Int32) (σ : MSto) (n : Nat) : mexe KT P_C_isYear (n + 1) (0, [some (mI a0)], [], σ, 0, 0) = some (8, [], [(mI (v_C_isIn a0 0 199 σ))], σ, 0, 0) := rfl
set_option maxRecDepth 100000 in
set_option maxHeartbeats 4000000 in
theorem d_C_isYear (a0 : Int32) (σ : MSto) : mW1 P_C_isYear (0, [some (mI a0)], [], σ, 0, 0) (mF [8] [mI (v_C_isYear a0 σ)] σ 0 0) := by
  refine mW1_eq (q_C_isYear_e _ _) ?_
  unfold v_C_isYear
  exact mTr_e (by decide) (bI_V (rfl)) rfl (by decide) (by decide)
theorem li_C_145 : mLink "ClothWithMan" 145 E_C_isIn := ⟨tw_2_33, tw_1_1, ⟨by decide, by decide⟩, by decide +kernel, Or.inl tw_2_71, (fun _ => tw_2_32), (fun h => by cases h), (fun h => by cases h)⟩

theorem tk_C_isYear : ∀ pc i nx tg, T_C_isYear pc = some (i, nx, tg) → mOkB prog_1_method_54_code pc i nx tg = true := code_ok (N := 9) (fun k h => by unfold T_C_isYear; rw [h]; rfl) (by decide +kernel)
theorem ok_C_isYear (l : Launch) : mPOK l "ClothWithMan" prog_1_method_54_code P_C_isYear := by
  refine ⟨tk_C_isYear, ?_, ?_, ?_, (fun pc i nx tg kd _ h => by cases h), ?_, ?_, fun pc en h => by cases h⟩
  · intro x ci f ty fin h
    exact mLook_all (Q := fun x v => mFOK "ClothWithMan" x v.1 v.2.1 v.2.2.1 v.2.2.2 ∧ (v.2.2.2 = true → pIni P_C_isYear = true → (Cond.fieldLink "ClothWithMan" x (((mCl[v.1]?).getD ("", fun _ => ("", "", "", false), 0)).2.1 v.2.1).1 (((mCl[v.1]?).getD ("", fun _ => ("", "", "", false), 0)).2.1 v.2.1).2.1 (((mCl[v.1]?).getD ("", fun _ => ("", "", "", false), 0)).2.1 v.2.1).2.2.1 ∈ lw_tbl ∧ (((mCl[v.1]?).getD ("", fun _ => ("", "", "", false), 0)).2.1 v.2.1).1 = "ClothWithMan"))) fcN x (ci, f, ty, fin) h
  · intro x
    have hh := mLook_all (l := ([] : List (Nat × (Int32 ⊕ Int64)))) (Q := fun x (v : Int32 ⊕ Int64) => (∀ w, v = .inl w → Cond.constant "ClothWithMan" x w ∈ lw_tbl) ∧ (∀ w, v = .inr w → Cond.constantLong "ClothWithMan" x w ∈ lw_tbl)) fcN x
    exact ⟨fun w h => (hh _ h).1 w rfl, fun w h => (hh _ h).2 w rfl⟩
  · exact fun x en h => mLook_all (Q := fun x en => mLink "ClothWithMan" x en ∧ mCtr l en ∧ (en.1.1 = 2 → en.2.2.2.2.2.2 = none)) (fcC ⟨li_C_145, c_C_isIn l, (fun h => by cases h)⟩ fcN) x en h
  · exact fun x kd h => mLook_all (Q := fun x kd => (kd = 95 ∧ Cond.fieldLink "ClothWithMan" x "ClothWithMan" "LIKENESSES" "[I" ∈ lw_tbl) ∨ (kd = 96 ∧ Cond.fieldLink "ClothWithMan" x "ClothWithMan" "APART_BOUNDS" "[I" ∈ lw_tbl)) fcN x kd h
  · exact fun x ci h => mLook_all (Q := fun x ci => ci ≠ 0 ∧ ∃ (C : String) (T : u_T) (N : Nat), mCl[ci]? = some (C, T, N) ∧ Cond.classLink "ClothWithMan" x C ∈ lw_tbl ∧ Cond.instantiable C N ∈ lw_tbl) fcN x ci h
set_option maxRecDepth 100000 in
theorem c_C_isYear (l : Launch) : mCtr l E_C_isYear := mCtr_of (P := P_C_isYear) (own := "ClothWithMan") mLay_ok rfl (by decide +kernel) rfl (ok_C_isYear l) (fun h => by cases h) (fun as σ pr rv σ' hF hpr hlv => by
  unfold E_C_isYear S_C_isYear at hF
  simp only [] at hF
  split at hF
  · cases hF
    obtain ⟨n, pcF, c1, s1, g1, g2, g3, g4⟩ := mF_inv (d_C_isYear _ σ)
    exact ⟨Nat.le_of_ble_eq_true rfl, (fun v h => by cases h; trivial), n, pcF, c1, s1, g1, ⟨mEnd_of (i := .ireturn) (P := P_C_isYear) (rets := [8]) rfl g2, bI_narrow _⟩, g3, g4⟩
  · cases hF
    exact (hpr _ rfl).elim)
/-! ClothWithMan.isSpan(I)Z -/
def b_C_isSpan (a0 : Int32) (σ : MSto) : Prop := ((v_C_isIn a0 1 60 σ) = 1)
noncomputable def v_C_isSpan (a0 : Int32) (σ : MSto) : Int32 := bI (b_C_isSpan a0 σ)
noncomputable def S_C_isSpan : List MV → MSto → Option Prop × Option MV × MSto := fun as σ => match as with
  | [.inl a0] => (none, some (mI (v_C_isSpan a0 σ)), σ)
  | _ => (some False, none, σ)
noncomputable def E_C_isSpan : MEnt := ((0, 1, 12), (1, 22, 0, 0), S_C_isSpan, ((⟨"ClothWithMan", "isSpan", "(I)Z"⟩ : MethodName), prog_1_method_55_code, 1, (some .boolean)))

def T_C_isSpan : Nat → Option (Instr × Nat × List Nat) := fun k => bif Nat.blt k 8 then (bif Nat.blt k 2 then (bif Nat.blt k 1 then (bif Nat.beq k 0 then some (.iload_n 0, 1, []) else none) else (bif Nat.beq k 1 then some (.iconst 1, 2, []) else none)) else (bif Nat.blt k 4 then (bif Nat.beq k 2 then some (.bipush 60, 4, []) else none) else (bif Nat.blt k 7 then (bif Nat.beq k 4 then some (.invokestatic 145, 7, []) else none) else (bif Nat.beq k 7 then some (.ireturn, 8, []) else none)))) else none
noncomputable def P_C_isSpan : MP := (T_C_isSpan, (fun k => mLook k []), (fun k => mLook k []), (fun k => mLook k [(145, E_C_isIn)]), (fun k => mLook k []), (fun k => mLook k []), (fun k => mLook k []), (fun k => mLook k []), (fun k => [7].any (Nat.beq k)), (1, 22, 0, 0), false, (fun _ => none))
set_option maxRecDepth 100000 in
set_option maxHeartbeats 4000000 in
theorem q_C_isSpan_e (a0 : Int32) (σ : MSto) (n : Nat) : mexe KT P_C_isSpan (n + 1) (0, [some (mI a0)], [], σ, 0, 0) = some (7, [], [(mI (v_C_isIn a0 1 60 σ))], σ, 0, 0) := rfl
set_option maxRecDepth 100000 in
set_option maxHeartbeats 4000000 in
theorem d_C_isSpan (a0 : Int32) (σ : MSto) : mW1 P_C_isSpan (0, [some (mI a0)], [], σ, 0, 0) (mF [7] [mI (v_C_isSpan a0 σ)] σ 0 0) := by
  refine mW1_eq (q_C_isSpan_e _ _) ?_
  unfold v_C_isSpan
  exact mTr_e (by decide) (bI_V (rfl)) rfl (by decide) (by decide)

theorem tk_C_isSpan : ∀ pc i nx tg, T_C_isSpan pc = some (i, nx, tg) → mOkB prog_1_method_55_code pc i nx tg = true := code_ok (N := 8) (fun k h => by unfold T_C_isSpan; rw [h]; rfl) (by decide +kernel)
theorem ok_C_isSpan (l : Launch) : mPOK l "ClothWithMan" prog_1_method_55_code P_C_isSpan := by
  refine ⟨tk_C_isSpan, ?_, ?_, ?_, (fun pc i nx tg kd _ h => by cases h), ?_, ?_, fun pc en h => by cases h⟩
  · intro x ci f ty fin h
    exact mLook_all (Q := fun x v => mFOK "ClothWithMan" x v.1 v.2.1 v.2.2.1 v.2.2.2 ∧ (v.2.2.2 = true → pIni P_C_isSpan = true → (Cond.fieldLink "ClothWithMan" x (((mCl[v.1]?).getD ("", fun _ => ("", "", "", false), 0)).2.1 v.2.1).1 (((mCl[v.1]?).getD ("", fun _ => ("", "", "", false), 0)).2.1 v.2.1).2.1 (((mCl[v.1]?).getD ("", fun _ => ("", "", "", false), 0)).2.1 v.2.1).2.2.1 ∈ lw_tbl ∧ (((mCl[v.1]?).getD ("", fun _ => ("", "", "", false), 0)).2.1 v.2.1).1 = "ClothWithMan"))) fcN x (ci, f, ty, fin) h
  · intro x
    have hh := mLook_all (l := ([] : List (Nat × (Int32 ⊕ Int64)))) (Q := fun x (v : Int32 ⊕ Int64) => (∀ w, v = .inl w → Cond.constant "ClothWithMan" x w ∈ lw_tbl) ∧ (∀ w, v = .inr w → Cond.constantLong "ClothWithMan" x w ∈ lw_tbl)) fcN x
    exact ⟨fun w h => (hh _ h).1 w rfl, fun w h => (hh _ h).2 w rfl⟩
  · exact fun x en h => mLook_all (Q := fun x en => mLink "ClothWithMan" x en ∧ mCtr l en ∧ (en.1.1 = 2 → en.2.2.2.2.2.2 = none)) (fcC ⟨li_C_145, c_C_isIn l, (fun h => by cases h)⟩ fcN) x en h
  · exact fun x kd h => mLook_all (Q := fun x kd => (kd = 95 ∧ Cond.fieldLink "ClothWithMan" x "ClothWithMan" "LIKENESSES" "[I" ∈ lw_tbl) ∨ (kd = 96 ∧ Cond.fieldLink "ClothWithMan" x "ClothWithMan" "APART_BOUNDS" "[I" ∈ lw_tbl)) fcN x kd h
  · exact fun x ci h => mLook_all (Q := fun x ci => ci ≠ 0 ∧ ∃ (C : String) (T : u_T) (N : Nat), mCl[ci]? = some (C, T, N) ∧ Cond.classLink "ClothWithMan" x C ∈ lw_tbl ∧ Cond.instantiable C N ∈ lw_tbl) fcN x ci h
set_option maxRecDepth 100000 in
theorem c_C_isSpan (l : Launch) : mCtr l E_C_isSpan := mCtr_of (P := P_C_isSpan) (own := "ClothWithMan") mLay_ok rfl (by decide +kernel) rfl (ok_C_isSpan l) (fun h => by cases h) (fun as σ pr rv σ' hF hpr hlv => by
  unfold E_C_isSpan S_C_isSpan at hF
  simp only [] at hF
  split at hF
  · cases hF
    obtain ⟨n, pcF, c1, s1, g1, g2, g3, g4⟩ := mF_inv (d_C_isSpan _ σ)
    exact ⟨Nat.le_of_ble_eq_true rfl, (fun v h => by cases h; trivial), n, pcF, c1, s1, g1, ⟨mEnd_of (i := .ireturn) (P := P_C_isSpan) (rets := [7]) rfl g2, bI_narrow _⟩, g3, g4⟩
  · cases hF
    exact (hpr _ rfl).elim)
/-! ClothWithMan.isPart(III)Z -/
def b_C_isPart (a0 : Int32) (a1 : Int32) (a2 : Int32) (σ : MSto) : Prop := (if (v_C_isIn a0 0 (a2 - 1) σ) = 0 then False else (if (v_C_isIn a1 1 (a2 - a0) σ) = 0 then False else True))
noncomputable def v_C_isPart (a0 : Int32) (a1 : Int32) (a2 : Int32) (σ : MSto) : Int32 := bI (b_C_isPart a0 a1 a2 σ)
noncomputable def S_C_isPart : List MV → MSto → Option Prop × Option MV × MSto := fun as σ => match as with
  | [.inl a0, .inl a1, .inl a2] => (none, some (mI (v_C_isPart a0 a1 a2 σ)), σ)
  | _ => (some False, none, σ)
noncomputable def E_C_isPart : MEnt := ((0, 3, 12), (1, 22, 0, 0), S_C_isPart, ((⟨"ClothWithMan", "isPart", "(III)Z"⟩ : MethodName), prog_1_method_56_code, 3, (some .boolean)))

def T_C_isPart : Nat → Option (Instr × Nat × List Nat) := fun k => bif Nat.blt k 28 then (bif Nat.blt k 13 then (bif Nat.blt k 4 then (bif Nat.blt k 2 then (bif Nat.blt k 1 then (bif Nat.beq k 0 then some (.iload_n 0, 1, []) else none) else (bif Nat.beq k 1 then some (.iconst 0, 2, []) else none)) else (bif Nat.blt k 3 then (bif Nat.beq k 2 then some (.iload_n 2, 3, []) else none) else (bif Nat.beq k 3 then some (.iconst 1, 4, []) else none))) else (bif Nat.blt k 8 then (bif Nat.blt k 5 then (bif Nat.beq k 4 then some (.isub, 5, []) else none) else (bif Nat.beq k 5 then some (.invokestatic 145, 8, []) else none)) else (bif Nat.blt k 11 then (bif Nat.beq k 8 then some (.ifCond .eq 18, 11, [26]) else none) else (bif Nat.blt k 12 then (bif Nat.beq k 11 then some (.iload_n 1, 12, []) else none) else (bif Nat.beq k 12 then some (.iconst 1, 13, []) else none))))) else (bif Nat.blt k 19 then (bif Nat.blt k 15 then (bif Nat.blt k 14 then (bif Nat.beq k 13 then some (.iload_n 2, 14, []) else none) else (bif Nat.beq k 14 then some (.iload_n 0, 15, []) else none)) else (bif Nat.blt k 16 then (bif Nat.beq k 15 then some (.isub, 16, []) else none) else (bif Nat.beq k 16 then some (.invokestatic 145, 19, []) else none))) else (bif Nat.blt k 23 then (bif Nat.blt k 22 then (bif Nat.beq k 19 then some (.ifCond .eq 7, 22, [26]) else none) else (bif Nat.beq k 22 then some (.iconst 1, 23, []) else none)) else (bif Nat.blt k 26 then (bif Nat.beq k 23 then some (.goto 4, 26, [27]) else none) else (bif Nat.blt k 27 then (bif Nat.beq k 26 then some (.iconst 0, 27, []) else none) else (bif Nat.beq k 27 then some (.ireturn, 28, []) else none)))))) else none
noncomputable def P_C_isPart : MP := (T_C_isPart, (fun k => mLook k []), (fun k => mLook k []), (fun k => mLook k [(145, E_C_isIn)]), (fun k => mLook k []), (fun k => mLook k []), (fun k => mLook k []), (fun k => mLook k []), (fun k => [27].any (Nat.beq k)), (1, 22, 0, 0), false, (fun _ => none))
set_option maxRecDepth 100000 in
set_option maxHeartbeats 4000000 in
theorem q_C_isPart_e (a0 : Int32) (a1 : Int32) (a2 : Int32) (σ : MSto) (n : Nat) : mexe KT P_C_isPart (n + 1) (0, [some (mI a0), some (mI a1), some (mI a2)], [], σ, 0, 0) = mIf ((v_C_isIn a0 0 (a2 - 1) σ) = 0) (some (27, [], [(mI 0)], σ, 0, 0)) (mIf ((v_C_isIn a1 1 (a2 - a0) σ) = 0) (some (27, [], [(mI 0)], σ, 0, 0)) (some (27, [], [(mI 1)], σ, 0, 0))) := rfl
set_option maxRecDepth 100000 in
set_option maxHeartbeats 4000000 in
theorem d_C_isPart (a0 : Int32) (a1 : Int32) (a2 : Int32) (σ : MSto) : mW1 P_C_isPart (0, [some (mI a0), some (mI a1), some (mI a2)], [], σ, 0, 0) (mF [27] [mI (v_C_isPart a0 a1 a2 σ)] σ 0 0) := by
  refine mW1_eq (q_C_isPart_e _ _ _ _) ?_
  unfold v_C_isPart
  refine mTr_if (fun h0 => ?_) (fun h0 => ?_)
  · skip
    exact mTr_e (by decide) (bI_F (if_pos h0)) rfl (by decide) (by decide)
  · skip
    refine mTr_if (fun h1 => ?_) (fun h1 => ?_)
    · skip
      exact mTr_e (by decide) (bI_F ((if_neg h0).trans (if_pos h1))) rfl (by decide) (by decide)
    · skip
      exact mTr_e (by decide) (bI_T ((if_neg h0).trans (if_neg h1))) rfl (by decide) (by decide)

theorem tk_C_isPart : ∀ pc i nx tg, T_C_isPart pc = some (i, nx, tg) → mOkB prog_1_method_56_code pc i nx tg = true := code_ok (N := 28) (fun k h => by unfold T_C_isPart; rw [h]; rfl) (by decide +kernel)
theorem ok_C_isPart (l : Launch) : mPOK l "ClothWithMan" prog_1_method_56_code P_C_isPart := by
  refine ⟨tk_C_isPart, ?_, ?_, ?_, (fun pc i nx tg kd _ h => by cases h), ?_, ?_, fun pc en h => by cases h⟩
  · intro x ci f ty fin h
    exact mLook_all (Q := fun x v => mFOK "ClothWithMan" x v.1 v.2.1 v.2.2.1 v.2.2.2 ∧ (v.2.2.2 = true → pIni P_C_isPart = true → (Cond.fieldLink "ClothWithMan" x (((mCl[v.1]?).getD ("", fun _ => ("", "", "", false), 0)).2.1 v.2.1).1 (((mCl[v.1]?).getD ("", fun _ => ("", "", "", false), 0)).2.1 v.2.1).2.1 (((mCl[v.1]?).getD ("", fun _ => ("", "", "", false), 0)).2.1 v.2.1).2.2.1 ∈ lw_tbl ∧ (((mCl[v.1]?).getD ("", fun _ => ("", "", "", false), 0)).2.1 v.2.1).1 = "ClothWithMan"))) fcN x (ci, f, ty, fin) h
  · intro x
    have hh := mLook_all (l := ([] : List (Nat × (Int32 ⊕ Int64)))) (Q := fun x (v : Int32 ⊕ Int64) => (∀ w, v = .inl w → Cond.constant "ClothWithMan" x w ∈ lw_tbl) ∧ (∀ w, v = .inr w → Cond.constantLong "ClothWithMan" x w ∈ lw_tbl)) fcN x
    exact ⟨fun w h => (hh _ h).1 w rfl, fun w h => (hh _ h).2 w rfl⟩
  · exact fun x en h => mLook_all (Q := fun x en => mLink "ClothWithMan" x en ∧ mCtr l en ∧ (en.1.1 = 2 → en.2.2.2.2.2.2 = none)) (fcC ⟨li_C_145, c_C_isIn l, (fun h => by cases h)⟩ fcN) x en h
  · exact fun x kd h => mLook_all (Q := fun x kd => (kd = 95 ∧ Cond.fieldLink "ClothWithMan" x "ClothWithMan" "LIKENESSES" "[I" ∈ lw_tbl) ∨ (kd = 96 ∧ Cond.fieldLink "ClothWithMan" x "ClothWithMan" "APART_BOUNDS" "[I" ∈ lw_tbl)) fcN x kd h
  · exact fun x ci h => mLook_all (Q := fun x ci => ci ≠ 0 ∧ ∃ (C : String) (T : u_T) (N : Nat), mCl[ci]? = some (C, T, N) ∧ Cond.classLink "ClothWithMan" x C ∈ lw_tbl ∧ Cond.instantiable C N ∈ lw_tbl) fcN x ci h
set_option maxRecDepth 100000 in
theorem c_C_isPart (l : Launch) : mCtr l E_C_isPart := mCtr_of (P := P_C_isPart) (own := "ClothWithMan") mLay_ok rfl (by decide +kernel) rfl (ok_C_isPart l) (fun h => by cases h) (fun as σ pr rv σ' hF hpr hlv => by
  unfold E_C_isPart S_C_isPart at hF
  simp only [] at hF
  split at hF
  · cases hF
    obtain ⟨n, pcF, c1, s1, g1, g2, g3, g4⟩ := mF_inv (d_C_isPart _ _ _ σ)
    exact ⟨Nat.le_of_ble_eq_true rfl, (fun v h => by cases h; trivial), n, pcF, c1, s1, g1, ⟨mEnd_of (i := .ireturn) (P := P_C_isPart) (rets := [27]) rfl g2, bI_narrow _⟩, g3, g4⟩
  · cases hF
    exact (hpr _ rfl).elim)
/-! ClothWithMan.isSpot(III)Z -/
def b_C_isSpot (a0 : Int32) (a1 : Int32) (a2 : Int32) (σ : MSto) : Prop := (if (v_C_isIn a0 0 23 σ) = 0 then False else (if (v_C_isIn a1 0 7 σ) = 0 then False else (if (v_C_isIn a2 0 3 σ) = 0 then False else True)))
noncomputable def v_C_isSpot (a0 : Int32) (a1 : Int32) (a2 : Int32) (σ : MSto) : Int32 := bI (b_C_isSpot a0 a1 a2 σ)
noncomputable def S_C_isSpot : List MV → MSto → Option Prop × Option MV × MSto := fun as σ => match as with
  | [.inl a0, .inl a1, .inl a2] => (none, some (mI (v_C_isSpot a0 a1 a2 σ)), σ)
  | _ => (some False, none, σ)
noncomputable def E_C_isSpot : MEnt := ((0, 3, 12), (1, 22, 0, 0), S_C_isSpot, ((⟨"ClothWithMan", "isSpot", "(III)Z"⟩ : MethodName), prog_1_method_57_code, 3, (some .boolean)))

def T_C_isSpot : Nat → Option (Instr × Nat × List Nat) := fun k => bif Nat.blt k 35 then (bif Nat.blt k 17 then (bif Nat.blt k 7 then (bif Nat.blt k 2 then (bif Nat.blt k 1 then (bif Nat.beq k 0 then some (.iload_n 0, 1, []) else none) else (bif Nat.beq k 1 then some (.iconst 0, 2, []) else none)) else (bif Nat.blt k 4 then (bif Nat.beq k 2 then some (.bipush 23, 4, []) else none) else (bif Nat.beq k 4 then some (.invokestatic 145, 7, []) else none))) else (bif Nat.blt k 11 then (bif Nat.blt k 10 then (bif Nat.beq k 7 then some (.ifCond .eq 26, 10, [33]) else none) else (bif Nat.beq k 10 then some (.iload_n 1, 11, []) else none)) else (bif Nat.blt k 12 then (bif Nat.beq k 11 then some (.iconst 0, 12, []) else none) else (bif Nat.blt k 14 then (bif Nat.beq k 12 then some (.bipush 7, 14, []) else none) else (bif Nat.beq k 14 then some (.invokestatic 145, 17, []) else none))))) else (bif Nat.blt k 26 then (bif Nat.blt k 21 then (bif Nat.blt k 20 then (bif Nat.beq k 17 then some (.ifCond .eq 16, 20, [33]) else none) else (bif Nat.beq k 20 then some (.iload_n 2, 21, []) else none)) else (bif Nat.blt k 22 then (bif Nat.beq k 21 then some (.iconst 0, 22, []) else none) else (bif Nat.blt k 23 then (bif Nat.beq k 22 then some (.iconst 3, 23, []) else none) else (bif Nat.beq k 23 then some (.invokestatic 145, 26, []) else none)))) else (bif Nat.blt k 30 then (bif Nat.blt k 29 then (bif Nat.beq k 26 then some (.ifCond .eq 7, 29, [33]) else none) else (bif Nat.beq k 29 then some (.iconst 1, 30, []) else none)) else (bif Nat.blt k 33 then (bif Nat.beq k 30 then some (.goto 4, 33, [34]) else none) else (bif Nat.blt k 34 then (bif Nat.beq k 33 then some (.iconst 0, 34, []) else none) else (bif Nat.beq k 34 then some (.ireturn, 35, []) else none)))))) else none
noncomputable def P_C_isSpot : MP := (T_C_isSpot, (fun k => mLook k []), (fun k => mLook k []), (fun k => mLook k [(145, E_C_isIn)]), (fun k => mLook k []), (fun k => mLook k []), (fun k => mLook k []), (fun k => mLook k []), (fun k => [34].any (Nat.beq k)), (1, 22, 0, 0), false, (fun _ => none))
set_option maxRecDepth 100000 in
set_option maxHeartbeats 4000000 in
theorem q_C_isSpot_e (a0 : Int32) (a1 : Int32) (a2 : Int32) (σ : MSto) (n : Nat) : mexe KT P_C_isSpot (n + 1) (0, [some (mI a0), some (mI a1), some (mI a2)], [], σ, 0, 0) = mIf ((v_C_isIn a0 0 23 σ) = 0) (some (34, [], [(mI 0)], σ, 0, 0)) (mIf ((v_C_isIn a1 0 7 σ) = 0) (some (34, [], [(mI 0)], σ, 0, 0)) (mIf ((v_C_isIn a2 0 3 σ) = 0) (some (34, [], [(mI 0)], σ, 0, 0)) (some (34, [], [(mI 1)], σ, 0, 0)))) := rfl
set_option maxRecDepth 100000 in
set_option maxHeartbeats 4000000 in
theorem d_C_isSpot (a0 : Int32) (a1 : Int32) (a2 : Int32) (σ : MSto) : mW1 P_C_isSpot (0, [some (mI a0), some (mI a1), some (mI a2)], [], σ, 0, 0) (mF [34] [mI (v_C_isSpot a0 a1 a2 σ)] σ 0 0) := by
  refine mW1_eq (q_C_isSpot_e _ _ _ _) ?_
  unfold v_C_isSpot
  refine mTr_if (fun h0 => ?_) (fun h0 => ?_)
  · skip
    exact mTr_e (by decide) (bI_F (if_pos h0)) rfl (by decide) (by decide)
  · skip
    refine mTr_if (fun h1 => ?_) (fun h1 => ?_)
    · skip
      exact mTr_e (by decide) (bI_F ((if_neg h0).trans (if_pos h1))) rfl (by decide) (by decide)
    · skip
      refine mTr_if (fun h2 => ?_) (fun h2 => ?_)
      · skip
        exact mTr_e (by decide) (bI_F ((if_neg h0).trans ((if_neg h1).trans (if_pos h2)))) rfl (by decide) (by decide)
      · skip
        exact mTr_e (by decide) (bI_T ((if_neg h0).trans ((if_neg h1).trans (if_neg h2)))) rfl (by decide) (by decide)

theorem tk_C_isSpot : ∀ pc i nx tg, T_C_isSpot pc = some (i, nx, tg) → mOkB prog_1_method_57_code pc i nx tg = true := code_ok (N := 35) (fun k h => by unfold T_C_isSpot; rw [h]; rfl) (by decide +kernel)
theorem ok_C_isSpot (l : Launch) : mPOK l "ClothWithMan" prog_1_method_57_code P_C_isSpot := by
  refine ⟨tk_C_isSpot, ?_, ?_, ?_, (fun pc i nx tg kd _ h => by cases h), ?_, ?_, fun pc en h => by cases h⟩
  · intro x ci f ty fin h
    exact mLook_all (Q := fun x v => mFOK "ClothWithMan" x v.1 v.2.1 v.2.2.1 v.2.2.2 ∧ (v.2.2.2 = true → pIni P_C_isSpot = true → (Cond.fieldLink "ClothWithMan" x (((mCl[v.1]?).getD ("", fun _ => ("", "", "", false), 0)).2.1 v.2.1).1 (((mCl[v.1]?).getD ("", fun _ => ("", "", "", false), 0)).2.1 v.2.1).2.1 (((mCl[v.1]?).getD ("", fun _ => ("", "", "", false), 0)).2.1 v.2.1).2.2.1 ∈ lw_tbl ∧ (((mCl[v.1]?).getD ("", fun _ => ("", "", "", false), 0)).2.1 v.2.1).1 = "ClothWithMan"))) fcN x (ci, f, ty, fin) h
  · intro x
    have hh := mLook_all (l := ([] : List (Nat × (Int32 ⊕ Int64)))) (Q := fun x (v : Int32 ⊕ Int64) => (∀ w, v = .inl w → Cond.constant "ClothWithMan" x w ∈ lw_tbl) ∧ (∀ w, v = .inr w → Cond.constantLong "ClothWithMan" x w ∈ lw_tbl)) fcN x
    exact ⟨fun w h => (hh _ h).1 w rfl, fun w h => (hh _ h).2 w rfl⟩
  · exact fun x en h => mLook_all (Q := fun x en => mLink "ClothWithMan" x en ∧ mCtr l en ∧ (en.1.1 = 2 → en.2.2.2.2.2.2 = none)) (fcC ⟨li_C_145, c_C_isIn l, (fun h => by cases h)⟩ fcN) x en h
  · exact fun x kd h => mLook_all (Q := fun x kd => (kd = 95 ∧ Cond.fieldLink "ClothWithMan" x "ClothWithMan" "LIKENESSES" "[I" ∈ lw_tbl) ∨ (kd = 96 ∧ Cond.fieldLink "ClothWithMan" x "ClothWithMan" "APART_BOUNDS" "[I" ∈ lw_tbl)) fcN x kd h
  · exact fun x ci h => mLook_all (Q := fun x ci => ci ≠ 0 ∧ ∃ (C : String) (T : u_T) (N : Nat), mCl[ci]? = some (C, T, N) ∧ Cond.classLink "ClothWithMan" x C ∈ lw_tbl ∧ Cond.instantiable C N ∈ lw_tbl) fcN x ci h
set_option maxRecDepth 100000 in
theorem c_C_isSpot (l : Launch) : mCtr l E_C_isSpot := mCtr_of (P := P_C_isSpot) (own := "ClothWithMan") mLay_ok rfl (by decide +kernel) rfl (ok_C_isSpot l) (fun h => by cases h) (fun as σ pr rv σ' hF hpr hlv => by
  unfold E_C_isSpot S_C_isSpot at hF
  simp only [] at hF
  split at hF
  · cases hF
    obtain ⟨n, pcF, c1, s1, g1, g2, g3, g4⟩ := mF_inv (d_C_isSpot _ _ _ σ)
    exact ⟨Nat.le_of_ble_eq_true rfl, (fun v h => by cases h; trivial), n, pcF, c1, s1, g1, ⟨mEnd_of (i := .ireturn) (P := P_C_isSpot) (rets := [34]) rfl g2, bI_narrow _⟩, g3, g4⟩
  · cases hF
    exact (hpr _ rfl).elim)
/-! ClothWithMan.areMarks(II)Z -/
def b_C_areMarks (a0 : Int32) (a1 : Int32) (σ : MSto) : Prop := (if (v_C_isIn a0 0 255 σ) = 0 then False else (if (v_C_isIn a1 0 255 σ) = 0 then False else (if (a0 &&& a1) = 0 then True else False)))
noncomputable def v_C_areMarks (a0 : Int32) (a1 : Int32) (σ : MSto) : Int32 := bI (b_C_areMarks a0 a1 σ)
noncomputable def S_C_areMarks : List MV → MSto → Option Prop × Option MV × MSto := fun as σ => match as with
  | [.inl a0, .inl a1] => (none, some (mI (v_C_areMarks a0 a1 σ)), σ)
  | _ => (some False, none, σ)
noncomputable def E_C_areMarks : MEnt := ((0, 2, 12), (1, 22, 0, 0), S_C_areMarks, ((⟨"ClothWithMan", "areMarks", "(II)Z"⟩ : MethodName), prog_1_method_58_code, 2, (some .boolean)))

def T_C_areMarks : Nat → Option (Instr × Nat × List Nat) := fun k => bif Nat.blt k 34 then (bif Nat.blt k 19 then (bif Nat.blt k 8 then (bif Nat.blt k 2 then (bif Nat.blt k 1 then (bif Nat.beq k 0 then some (.iload_n 0, 1, []) else none) else (bif Nat.beq k 1 then some (.iconst 0, 2, []) else none)) else (bif Nat.blt k 5 then (bif Nat.beq k 2 then some (.sipush 255, 5, []) else none) else (bif Nat.beq k 5 then some (.invokestatic 145, 8, []) else none))) else (bif Nat.blt k 12 then (bif Nat.blt k 11 then (bif Nat.beq k 8 then some (.ifCond .eq 24, 11, [32]) else none) else (bif Nat.beq k 11 then some (.iload_n 1, 12, []) else none)) else (bif Nat.blt k 13 then (bif Nat.beq k 12 then some (.iconst 0, 13, []) else none) else (bif Nat.blt k 16 then (bif Nat.beq k 13 then some (.sipush 255, 16, []) else none) else (bif Nat.beq k 16 then some (.invokestatic 145, 19, []) else none))))) else (bif Nat.blt k 25 then (bif Nat.blt k 23 then (bif Nat.blt k 22 then (bif Nat.beq k 19 then some (.ifCond .eq 13, 22, [32]) else none) else (bif Nat.beq k 22 then some (.iload_n 0, 23, []) else none)) else (bif Nat.blt k 24 then (bif Nat.beq k 23 then some (.iload_n 1, 24, []) else none) else (bif Nat.beq k 24 then some (.iand, 25, []) else none))) else (bif Nat.blt k 29 then (bif Nat.blt k 28 then (bif Nat.beq k 25 then some (.ifCond .ne 7, 28, [32]) else none) else (bif Nat.beq k 28 then some (.iconst 1, 29, []) else none)) else (bif Nat.blt k 32 then (bif Nat.beq k 29 then some (.goto 4, 32, [33]) else none) else (bif Nat.blt k 33 then (bif Nat.beq k 32 then some (.iconst 0, 33, []) else none) else (bif Nat.beq k 33 then some (.ireturn, 34, []) else none)))))) else none
noncomputable def P_C_areMarks : MP := (T_C_areMarks, (fun k => mLook k []), (fun k => mLook k []), (fun k => mLook k [(145, E_C_isIn)]), (fun k => mLook k []), (fun k => mLook k []), (fun k => mLook k []), (fun k => mLook k []), (fun k => [33].any (Nat.beq k)), (1, 22, 0, 0), false, (fun _ => none))
set_option maxRecDepth 100000 in
set_option maxHeartbeats 4000000 in
theorem q_C_areMarks_e (a0 : Int32) (a1 : Int32) (σ : MSto) (n : Nat) : mexe KT P_C_areMarks (n + 1) (0, [some (mI a0), some (mI a1)], [], σ, 0, 0) = mIf ((v_C_isIn a0 0 255 σ) = 0) (some (33, [], [(mI 0)], σ, 0, 0)) (mIf ((v_C_isIn a1 0 255 σ) = 0) (some (33, [], [(mI 0)], σ, 0, 0)) (mIf ((a0 &&& a1) = 0) (some (33, [], [(mI 1)], σ, 0, 0)) (some (33, [], [(mI 0)], σ, 0, 0)))) := rfl
set_option maxRecDepth 100000 in
set_option maxHeartbeats 4000000 in
theorem d_C_areMarks (a0 : Int32) (a1 : Int32) (σ : MSto) : mW1 P_C_areMarks (0, [some (mI a0), some (mI a1)], [], σ, 0, 0) (mF [33] [mI (v_C_areMarks a0 a1 σ)] σ 0 0) := by
  refine mW1_eq (q_C_areMarks_e _ _ _) ?_
  unfold v_C_areMarks
  refine mTr_if (fun h0 => ?_) (fun h0 => ?_)
  · skip
    exact mTr_e (by decide) (bI_F (if_pos h0)) rfl (by decide) (by decide)
  · skip
    refine mTr_if (fun h1 => ?_) (fun h1 => ?_)
    · skip
      exact mTr_e (by decide) (bI_F ((if_neg h0).trans (if_pos h1))) rfl (by decide) (by decide)
    · skip
      refine mTr_if (fun h2 => ?_) (fun h2 => ?_)
      · skip
        exact mTr_e (by decide) (bI_T ((if_neg h0).trans ((if_neg h1).trans (if_pos h2)))) rfl (by decide) (by decide)
      · skip
        exact mTr_e (by decide) (bI_F ((if_neg h0).trans ((if_neg h1).trans (if_neg h2)))) rfl (by decide) (by decide)

theorem tk_C_areMarks : ∀ pc i nx tg, T_C_areMarks pc = some (i, nx, tg) → mOkB prog_1_method_58_code pc i nx tg = true := code_ok (N := 34) (fun k h => by unfold T_C_areMarks; rw [h]; rfl) (by decide +kernel)
theorem ok_C_areMarks (l : Launch) : mPOK l "ClothWithMan" prog_1_method_58_code P_C_areMarks := by
  refine ⟨tk_C_areMarks, ?_, ?_, ?_, (fun pc i nx tg kd _ h => by cases h), ?_, ?_, fun pc en h => by cases h⟩
  · intro x ci f ty fin h
    exact mLook_all (Q := fun x v => mFOK "ClothWithMan" x v.1 v.2.1 v.2.2.1 v.2.2.2 ∧ (v.2.2.2 = true → pIni P_C_areMarks = true → (Cond.fieldLink "ClothWithMan" x (((mCl[v.1]?).getD ("", fun _ => ("", "", "", false), 0)).2.1 v.2.1).1 (((mCl[v.1]?).getD ("", fun _ => ("", "", "", false), 0)).2.1 v.2.1).2.1 (((mCl[v.1]?).getD ("", fun _ => ("", "", "", false), 0)).2.1 v.2.1).2.2.1 ∈ lw_tbl ∧ (((mCl[v.1]?).getD ("", fun _ => ("", "", "", false), 0)).2.1 v.2.1).1 = "ClothWithMan"))) fcN x (ci, f, ty, fin) h
  · intro x
    have hh := mLook_all (l := ([] : List (Nat × (Int32 ⊕ Int64)))) (Q := fun x (v : Int32 ⊕ Int64) => (∀ w, v = .inl w → Cond.constant "ClothWithMan" x w ∈ lw_tbl) ∧ (∀ w, v = .inr w → Cond.constantLong "ClothWithMan" x w ∈ lw_tbl)) fcN x
    exact ⟨fun w h => (hh _ h).1 w rfl, fun w h => (hh _ h).2 w rfl⟩
  · exact fun x en h => mLook_all (Q := fun x en => mLink "ClothWithMan" x en ∧ mCtr l en ∧ (en.1.1 = 2 → en.2.2.2.2.2.2 = none)) (fcC ⟨li_C_145, c_C_isIn l, (fun h => by cases h)⟩ fcN) x en h
  · exact fun x kd h => mLook_all (Q := fun x kd => (kd = 95 ∧ Cond.fieldLink "ClothWithMan" x "ClothWithMan" "LIKENESSES" "[I" ∈ lw_tbl) ∨ (kd = 96 ∧ Cond.fieldLink "ClothWithMan" x "ClothWithMan" "APART_BOUNDS" "[I" ∈ lw_tbl)) fcN x kd h
  · exact fun x ci h => mLook_all (Q := fun x ci => ci ≠ 0 ∧ ∃ (C : String) (T : u_T) (N : Nat), mCl[ci]? = some (C, T, N) ∧ Cond.classLink "ClothWithMan" x C ∈ lw_tbl ∧ Cond.instantiable C N ∈ lw_tbl) fcN x ci h
set_option maxRecDepth 100000 in
theorem c_C_areMarks (l : Launch) : mCtr l E_C_areMarks := mCtr_of (P := P_C_areMarks) (own := "ClothWithMan") mLay_ok rfl (by decide +kernel) rfl (ok_C_areMarks l) (fun h => by cases h) (fun as σ pr rv σ' hF hpr hlv => by
  unfold E_C_areMarks S_C_areMarks at hF
  simp only [] at hF
  split at hF
  · cases hF
    obtain ⟨n, pcF, c1, s1, g1, g2, g3, g4⟩ := mF_inv (d_C_areMarks _ _ σ)
    exact ⟨Nat.le_of_ble_eq_true rfl, (fun v h => by cases h; trivial), n, pcF, c1, s1, g1, ⟨mEnd_of (i := .ireturn) (P := P_C_areMarks) (rets := [33]) rfl g2, bI_narrow _⟩, g3, g4⟩
  · cases hF
    exact (hpr _ rfl).elim)
/-! ClothWithMan.has(II)Z -/
def b_C_has (a0 : Int32) (a1 : Int32) (σ : MSto) : Prop := (if (a0 &&& ((1 : Int32) <<< (a1 &&& 31))) = 0 then False else True)
noncomputable def v_C_has (a0 : Int32) (a1 : Int32) (σ : MSto) : Int32 := bI (b_C_has a0 a1 σ)
noncomputable def S_C_has : List MV → MSto → Option Prop × Option MV × MSto := fun as σ => match as with
  | [.inl a0, .inl a1] => (none, some (mI (v_C_has a0 a1 σ)), σ)
  | _ => (some False, none, σ)
noncomputable def E_C_has : MEnt := ((0, 2, 12), (0, 0, 0, 0), S_C_has, ((⟨"ClothWithMan", "has", "(II)Z"⟩ : MethodName), prog_1_method_65_code, 2, (some .boolean)))

def T_C_has : Nat → Option (Instr × Nat × List Nat) := fun k => bif Nat.blt k 14 then (bif Nat.blt k 5 then (bif Nat.blt k 2 then (bif Nat.blt k 1 then (bif Nat.beq k 0 then some (.iload_n 0, 1, []) else none) else (bif Nat.beq k 1 then some (.iconst 1, 2, []) else none)) else (bif Nat.blt k 3 then (bif Nat.beq k 2 then some (.iload_n 1, 3, []) else none) else (bif Nat.blt k 4 then (bif Nat.beq k 3 then some (.ishl, 4, []) else none) else (bif Nat.beq k 4 then some (.iand, 5, []) else none)))) else (bif Nat.blt k 9 then (bif Nat.blt k 8 then (bif Nat.beq k 5 then some (.ifCond .eq 7, 8, [12]) else none) else (bif Nat.beq k 8 then some (.iconst 1, 9, []) else none)) else (bif Nat.blt k 12 then (bif Nat.beq k 9 then some (.goto 4, 12, [13]) else none) else (bif Nat.blt k 13 then (bif Nat.beq k 12 then some (.iconst 0, 13, []) else none) else (bif Nat.beq k 13 then some (.ireturn, 14, []) else none))))) else none
noncomputable def P_C_has : MP := (T_C_has, (fun k => mLook k []), (fun k => mLook k []), (fun k => mLook k []), (fun k => mLook k []), (fun k => mLook k []), (fun k => mLook k []), (fun k => mLook k []), (fun k => [13].any (Nat.beq k)), (0, 0, 0, 0), false, (fun _ => none))
set_option maxRecDepth 100000 in
set_option maxHeartbeats 4000000 in
theorem q_C_has_e (a0 : Int32) (a1 : Int32) (σ : MSto) (n : Nat) : mexe KT P_C_has (n + 1) (0, [some (mI a0), some (mI a1)], [], σ, 0, 0) = mIf ((a0 &&& ((1 : Int32) <<< (a1 &&& 31))) = 0) (some (13, [], [(mI 0)], σ, 0, 0)) (some (13, [], [(mI 1)], σ, 0, 0)) := rfl
set_option maxRecDepth 100000 in
set_option maxHeartbeats 4000000 in
theorem d_C_has (a0 : Int32) (a1 : Int32) (σ : MSto) : mW1 P_C_has (0, [some (mI a0), some (mI a1)], [], σ, 0, 0) (mF [13] [mI (v_C_has a0 a1 σ)] σ 0 0) := by
  refine mW1_eq (q_C_has_e _ _ _) ?_
  unfold v_C_has
  refine mTr_if (fun h0 => ?_) (fun h0 => ?_)
  · skip
    exact mTr_e (by decide) (bI_F (if_pos h0)) rfl (by decide) (by decide)
  · skip
    exact mTr_e (by decide) (bI_T (if_neg h0)) rfl (by decide) (by decide)
theorem tk_C_has : ∀ pc i nx tg, T_C_has pc = some (i, nx, tg) → mOkB prog_1_method_65_code pc i nx tg = true := code_ok (N := 14) (fun k h => by unfold T_C_has; rw [h]; rfl) (by decide +kernel)
theorem ok_C_has (l : Launch) : mPOK l "ClothWithMan" prog_1_method_65_code P_C_has := by
  refine ⟨tk_C_has, ?_, ?_, ?_, (fun pc i nx tg kd _ h => by cases h), ?_, ?_, fun pc en h => by cases h⟩
  · intro x ci f ty fin h
    exact mLook_all (Q := fun x v => mFOK "ClothWithMan" x v.1 v.2.1 v.2.2.1 v.2.2.2 ∧ (v.2.2.2 = true → pIni P_C_has = true → (Cond.fieldLink "ClothWithMan" x (((mCl[v.1]?).getD ("", fun _ => ("", "", "", false), 0)).2.1 v.2.1).1 (((mCl[v.1]?).getD ("", fun _ => ("", "", "", false), 0)).2.1 v.2.1).2.1 (((mCl[v.1]?).getD ("", fun _ => ("", "", "", false), 0)).2.1 v.2.1).2.2.1 ∈ lw_tbl ∧ (((mCl[v.1]?).getD ("", fun _ => ("", "", "", false), 0)).2.1 v.2.1).1 = "ClothWithMan"))) fcN x (ci, f, ty, fin) h
  · intro x
    have hh := mLook_all (l := ([] : List (Nat × (Int32 ⊕ Int64)))) (Q := fun x (v : Int32 ⊕ Int64) => (∀ w, v = .inl w → Cond.constant "ClothWithMan" x w ∈ lw_tbl) ∧ (∀ w, v = .inr w → Cond.constantLong "ClothWithMan" x w ∈ lw_tbl)) fcN x
    exact ⟨fun w h => (hh _ h).1 w rfl, fun w h => (hh _ h).2 w rfl⟩
  · exact fun x en h => mLook_all (Q := fun x en => mLink "ClothWithMan" x en ∧ mCtr l en ∧ (en.1.1 = 2 → en.2.2.2.2.2.2 = none)) fcN x en h
  · exact fun x kd h => mLook_all (Q := fun x kd => (kd = 95 ∧ Cond.fieldLink "ClothWithMan" x "ClothWithMan" "LIKENESSES" "[I" ∈ lw_tbl) ∨ (kd = 96 ∧ Cond.fieldLink "ClothWithMan" x "ClothWithMan" "APART_BOUNDS" "[I" ∈ lw_tbl)) fcN x kd h
  · exact fun x ci h => mLook_all (Q := fun x ci => ci ≠ 0 ∧ ∃ (C : String) (T : u_T) (N : Nat), mCl[ci]? = some (C, T, N) ∧ Cond.classLink "ClothWithMan" x C ∈ lw_tbl ∧ Cond.instantiable C N ∈ lw_tbl) fcN x ci h
set_option maxRecDepth 100000 in
theorem c_C_has (l : Launch) : mCtr l E_C_has := mCtr_of (P := P_C_has) (own := "ClothWithMan") mLay_ok rfl (by decide +kernel) rfl (ok_C_has l) (fun h => by cases h) (fun as σ pr rv σ' hF hpr hlv => by
  unfold E_C_has S_C_has at hF
  simp only [] at hF
  split at hF
  · cases hF
    obtain ⟨n, pcF, c1, s1, g1, g2, g3, g4⟩ := mF_inv (d_C_has _ _ σ)
    exact ⟨Nat.le_of_ble_eq_true rfl, (fun v h => by cases h; trivial), n, pcF, c1, s1, g1, ⟨mEnd_of (i := .ireturn) (P := P_C_has) (rets := [13]) rfl g2, bI_narrow _⟩, g3, g4⟩
  · cases hF
    exact (hpr _ rfl).elim)
/-! ClothWithMan.without(II)I -/
noncomputable def v_C_without (a0 : Int32) (a1 : Int32) (σ : MSto) : Int32 := (a0 &&& (((1 : Int32) <<< (a1 &&& 31)) ^^^ (-1)))
noncomputable def S_C_without : List MV → MSto → Option Prop × Option MV × MSto := fun as σ => match as with
  | [.inl a0, .inl a1] => (none, some (mI (v_C_without a0 a1 σ)), σ)
  | _ => (some False, none, σ)
noncomputable def E_C_without : MEnt := ((0, 2, 12), (0, 0, 0, 0), S_C_without, ((⟨"ClothWithMan", "without", "(II)I"⟩ : MethodName), prog_1_method_66_code, 2, (some .int)))

def T_C_without : Nat → Option (Instr × Nat × List Nat) := fun k => bif Nat.blt k 8 then (bif Nat.blt k 4 then (bif Nat.blt k 2 then (bif Nat.blt k 1 then (bif Nat.beq k 0 then some (.iload_n 0, 1, []) else none) else (bif Nat.beq k 1 then some (.iconst 1, 2, []) else none)) else (bif Nat.blt k 3 then (bif Nat.beq k 2 then some (.iload_n 1, 3, []) else none) else (bif Nat.beq k 3 then some (.ishl, 4, []) else none))) else (bif Nat.blt k 6 then (bif Nat.blt k 5 then (bif Nat.beq k 4 then some (.iconst (-1), 5, []) else none) else (bif Nat.beq k 5 then some (.ixor, 6, []) else none)) else (bif Nat.blt k 7 then (bif Nat.beq k 6 then some (.iand, 7, []) else none) else (bif Nat.beq k 7 then some (.ireturn, 8, []) else none)))) else none
noncomputable def P_C_without : MP := (T_C_without, (fun k => mLook k []), (fun k => mLook k []), (fun k => mLook k []), (fun k => mLook k []), (fun k => mLook k []), (fun k => mLook k []), (fun k => mLook k []), (fun k => [7].any (Nat.beq k)), (0, 0, 0, 0), false, (fun _ => none))
set_option maxRecDepth 100000 in
set_option maxHeartbeats 4000000 in
theorem q_C_without_e (a0 : Int32) (a1 : Int32) (σ : MSto) (n : Nat) : mexe KT P_C_without (n + 1) (0, [some (mI a0), some (mI a1)], [], σ, 0, 0) = some (7, [], [(mI (a0 &&& (((1 : Int32) <<< (a1 &&& 31)) ^^^ (-1))))], σ, 0, 0) := rfl
set_option maxRecDepth 100000 in
set_option maxHeartbeats 4000000 in
theorem d_C_without (a0 : Int32) (a1 : Int32) (σ : MSto) : mW1 P_C_without (0, [some (mI a0), some (mI a1)], [], σ, 0, 0) (mF [7] [mI (v_C_without a0 a1 σ)] σ 0 0) := by
  refine mW1_eq (q_C_without_e _ _ _) ?_
  exact mTr_e (by decide) (congrArg (fun z => [mI z]) (Eq.symm (rfl))) rfl (by decide) (by decide)
theorem tk_C_without : ∀ pc i nx tg, T_C_without pc = some (i, nx, tg) → mOkB prog_1_method_66_code pc i nx tg = true := code_ok (N := 8) (fun k h => by unfold T_C_without; rw [h]; rfl) (by decide +kernel)
theorem ok_C_without (l : Launch) : mPOK l "ClothWithMan" prog_1_method_66_code P_C_without := by
  refine ⟨tk_C_without, ?_, ?_, ?_, (fun pc i nx tg kd _ h => by cases h), ?_, ?_, fun pc en h => by cases h⟩
  · intro x ci f ty fin h
    exact mLook_all (Q := fun x v => mFOK "ClothWithMan" x v.1 v.2.1 v.2.2.1 v.2.2.2 ∧ (v.2.2.2 = true → pIni P_C_without = true → (Cond.fieldLink "ClothWithMan" x (((mCl[v.1]?).getD ("", fun _ => ("", "", "", false), 0)).2.1 v.2.1).1 (((mCl[v.1]?).getD ("", fun _ => ("", "", "", false), 0)).2.1 v.2.1).2.1 (((mCl[v.1]?).getD ("", fun _ => ("", "", "", false), 0)).2.1 v.2.1).2.2.1 ∈ lw_tbl ∧ (((mCl[v.1]?).getD ("", fun _ => ("", "", "", false), 0)).2.1 v.2.1).1 = "ClothWithMan"))) fcN x (ci, f, ty, fin) h
  · intro x
    have hh := mLook_all (l := ([] : List (Nat × (Int32 ⊕ Int64)))) (Q := fun x (v : Int32 ⊕ Int64) => (∀ w, v = .inl w → Cond.constant "ClothWithMan" x w ∈ lw_tbl) ∧ (∀ w, v = .inr w → Cond.constantLong "ClothWithMan" x w ∈ lw_tbl)) fcN x
    exact ⟨fun w h => (hh _ h).1 w rfl, fun w h => (hh _ h).2 w rfl⟩
  · exact fun x en h => mLook_all (Q := fun x en => mLink "ClothWithMan" x en ∧ mCtr l en ∧ (en.1.1 = 2 → en.2.2.2.2.2.2 = none)) fcN x en h
  · exact fun x kd h => mLook_all (Q := fun x kd => (kd = 95 ∧ Cond.fieldLink "ClothWithMan" x "ClothWithMan" "LIKENESSES" "[I" ∈ lw_tbl) ∨ (kd = 96 ∧ Cond.fieldLink "ClothWithMan" x "ClothWithMan" "APART_BOUNDS" "[I" ∈ lw_tbl)) fcN x kd h
  · exact fun x ci h => mLook_all (Q := fun x ci => ci ≠ 0 ∧ ∃ (C : String) (T : u_T) (N : Nat), mCl[ci]? = some (C, T, N) ∧ Cond.classLink "ClothWithMan" x C ∈ lw_tbl ∧ Cond.instantiable C N ∈ lw_tbl) fcN x ci h
set_option maxRecDepth 100000 in
theorem c_C_without (l : Launch) : mCtr l E_C_without := mCtr_of (P := P_C_without) (own := "ClothWithMan") mLay_ok rfl (by decide +kernel) rfl (ok_C_without l) (fun h => by cases h) (fun as σ pr rv σ' hF hpr hlv => by
  unfold E_C_without S_C_without at hF
  simp only [] at hF
  split at hF
  · cases hF
    obtain ⟨n, pcF, c1, s1, g1, g2, g3, g4⟩ := mF_inv (d_C_without _ _ σ)
    exact ⟨Nat.le_of_ble_eq_true rfl, (fun v h => by cases h; trivial), n, pcF, c1, s1, g1, ⟨mEnd_of (i := .ireturn) (P := P_C_without) (rets := [7]) rfl g2, rfl⟩, g3, g4⟩
  · cases hF
    exact (hpr _ rfl).elim)
/-! ClothWithMan.mixOf(III)I -/
noncomputable def v_C_mixOf (a0 : Int32) (a1 : Int32) (a2 : Int32) (σ : MSto) : Int32 := (((a0 * (100 - a2)) + (a1 * a2)) / 100)
noncomputable def S_C_mixOf : List MV → MSto → Option Prop × Option MV × MSto := fun as σ => match as with
  | [.inl a0, .inl a1, .inl a2] => (none, some (mI (v_C_mixOf a0 a1 a2 σ)), σ)
  | _ => (some False, none, σ)
noncomputable def E_C_mixOf : MEnt := ((0, 3, 12), (0, 0, 0, 0), S_C_mixOf, ((⟨"ClothWithMan", "mixOf", "(III)I"⟩ : MethodName), prog_1_method_67_code, 3, (some .int)))

def T_C_mixOf : Nat → Option (Instr × Nat × List Nat) := fun k => bif Nat.blt k 14 then (bif Nat.blt k 7 then (bif Nat.blt k 4 then (bif Nat.blt k 1 then (bif Nat.beq k 0 then some (.iload_n 0, 1, []) else none) else (bif Nat.blt k 3 then (bif Nat.beq k 1 then some (.bipush 100, 3, []) else none) else (bif Nat.beq k 3 then some (.iload_n 2, 4, []) else none))) else (bif Nat.blt k 5 then (bif Nat.beq k 4 then some (.isub, 5, []) else none) else (bif Nat.blt k 6 then (bif Nat.beq k 5 then some (.imul, 6, []) else none) else (bif Nat.beq k 6 then some (.iload_n 1, 7, []) else none)))) else (bif Nat.blt k 10 then (bif Nat.blt k 8 then (bif Nat.beq k 7 then some (.iload_n 2, 8, []) else none) else (bif Nat.blt k 9 then (bif Nat.beq k 8 then some (.imul, 9, []) else none) else (bif Nat.beq k 9 then some (.iadd, 10, []) else none))) else (bif Nat.blt k 12 then (bif Nat.beq k 10 then some (.bipush 100, 12, []) else none) else (bif Nat.blt k 13 then (bif Nat.beq k 12 then some (.idiv, 13, []) else none) else (bif Nat.beq k 13 then some (.ireturn, 14, []) else none))))) else none
noncomputable def P_C_mixOf : MP := (T_C_mixOf, (fun k => mLook k []), (fun k => mLook k []), (fun k => mLook k []), (fun k => mLook k []), (fun k => mLook k []), (fun k => mLook k []), (fun k => mLook k []), (fun k => [13].any (Nat.beq k)), (0, 0, 0, 0), false, (fun _ => none))
set_option maxRecDepth 100000 in
set_option maxHeartbeats 4000000 in
theorem q_C_mixOf_e (a0 : Int32) (a1 : Int32) (a2 : Int32) (σ : MSto) (n : Nat) : mexe KT P_C_mixOf (n + 1) (0, [some (mI a0), some (mI a1), some (mI a2)], [], σ, 0, 0) = mG (¬ (100 : Int32) = 0) (some (13, [], [(mI (((a0 * (100 - a2)) + (a1 * a2)) / 100))], σ, 0, 0)) := rfl
set_option maxRecDepth 100000 in
set_option maxHeartbeats 4000000 in
theorem d_C_mixOf (a0 : Int32) (a1 : Int32) (a2 : Int32) (σ : MSto) : mW1 P_C_mixOf (0, [some (mI a0), some (mI a1), some (mI a2)], [], σ, 0, 0) (mF [13] [mI (v_C_mixOf a0 a1 a2 σ)] σ 0 0) := by
  refine mW1_eq (q_C_mixOf_e _ _ _ _) ?_
  refine mTr_g (by decide) ?_
  exact mTr_e (by decide) (congrArg (fun z => [mI z]) (Eq.symm (rfl))) rfl (by decide) (by decide)
theorem tk_C_mixOf : ∀ pc i nx tg, T_C_mixOf pc = some (i, nx, tg) → mOkB prog_1_method_67_code pc i nx tg = true := code_ok (N := 14) (fun k h => by unfold T_C_mixOf; rw [h]; rfl) (by decide +kernel)
theorem ok_C_mixOf (l : Launch) : mPOK l "ClothWithMan" prog_1_method_67_code P_C_mixOf := by
  refine ⟨tk_C_mixOf, ?_, ?_, ?_, (fun pc i nx tg kd _ h => by cases h), ?_, ?_, fun pc en h => by cases h⟩
  · intro x ci f ty fin h
    exact mLook_all (Q := fun x v => mFOK "ClothWithMan" x v.1 v.2.1 v.2.2.1 v.2.2.2 ∧ (v.2.2.2 = true → pIni P_C_mixOf = true → (Cond.fieldLink "ClothWithMan" x (((mCl[v.1]?).getD ("", fun _ => ("", "", "", false), 0)).2.1 v.2.1).1 (((mCl[v.1]?).getD ("", fun _ => ("", "", "", false), 0)).2.1 v.2.1).2.1 (((mCl[v.1]?).getD ("", fun _ => ("", "", "", false), 0)).2.1 v.2.1).2.2.1 ∈ lw_tbl ∧ (((mCl[v.1]?).getD ("", fun _ => ("", "", "", false), 0)).2.1 v.2.1).1 = "ClothWithMan"))) fcN x (ci, f, ty, fin) h
  · intro x
    have hh := mLook_all (l := ([] : List (Nat × (Int32 ⊕ Int64)))) (Q := fun x (v : Int32 ⊕ Int64) => (∀ w, v = .inl w → Cond.constant "ClothWithMan" x w ∈ lw_tbl) ∧ (∀ w, v = .inr w → Cond.constantLong "ClothWithMan" x w ∈ lw_tbl)) fcN x
    exact ⟨fun w h => (hh _ h).1 w rfl, fun w h => (hh _ h).2 w rfl⟩
  · exact fun x en h => mLook_all (Q := fun x en => mLink "ClothWithMan" x en ∧ mCtr l en ∧ (en.1.1 = 2 → en.2.2.2.2.2.2 = none)) fcN x en h
  · exact fun x kd h => mLook_all (Q := fun x kd => (kd = 95 ∧ Cond.fieldLink "ClothWithMan" x "ClothWithMan" "LIKENESSES" "[I" ∈ lw_tbl) ∨ (kd = 96 ∧ Cond.fieldLink "ClothWithMan" x "ClothWithMan" "APART_BOUNDS" "[I" ∈ lw_tbl)) fcN x kd h
  · exact fun x ci h => mLook_all (Q := fun x ci => ci ≠ 0 ∧ ∃ (C : String) (T : u_T) (N : Nat), mCl[ci]? = some (C, T, N) ∧ Cond.classLink "ClothWithMan" x C ∈ lw_tbl ∧ Cond.instantiable C N ∈ lw_tbl) fcN x ci h
set_option maxRecDepth 100000 in
theorem c_C_mixOf (l : Launch) : mCtr l E_C_mixOf := mCtr_of (P := P_C_mixOf) (own := "ClothWithMan") mLay_ok rfl (by decide +kernel) rfl (ok_C_mixOf l) (fun h => by cases h) (fun as σ pr rv σ' hF hpr hlv => by
  unfold E_C_mixOf S_C_mixOf at hF
  simp only [] at hF
  split at hF
  · cases hF
    obtain ⟨n, pcF, c1, s1, g1, g2, g3, g4⟩ := mF_inv (d_C_mixOf _ _ _ σ)
    exact ⟨Nat.le_of_ble_eq_true rfl, (fun v h => by cases h; trivial), n, pcF, c1, s1, g1, ⟨mEnd_of (i := .ireturn) (P := P_C_mixOf) (rets := [13]) rfl g2, rfl⟩, g3, g4⟩
  · cases hF
    exact (hpr _ rfl).elim)
/-! ClothWithMan.asSpan(II)I -/
noncomputable def v_C_asSpan (a0 : Int32) (a1 : Int32) (σ : MSto) : Int32 := (if a0 = 0 then (v_Ma_max 1 (v_Ma_min 60 (Int8.toInt32 (Int32.toInt8 a1)) σ) σ) else (if a0 = 1 then (v_Ma_max 1 (v_Ma_min 60 (Int16.toInt32 (Int32.toInt16 a1)) σ) σ) else (v_Ma_max 1 (v_Ma_min 60 a1 σ) σ)))
noncomputable def S_C_asSpan : List MV → MSto → Option Prop × Option MV × MSto := fun as σ => match as with
  | [.inl a0, .inl a1] => (none, some (mI (v_C_asSpan a0 a1 σ)), σ)
  | _ => (some False, none, σ)
noncomputable def E_C_asSpan : MEnt := ((0, 2, 12), (1, 21, 0, 0), S_C_asSpan, ((⟨"ClothWithMan", "asSpan", "(II)I"⟩ : MethodName), prog_1_method_68_code, 3, (some .int)))

def T_C_asSpan : Nat → Option (Instr × Nat × List Nat) := fun k => bif Nat.blt k 32 then (bif Nat.blt k 15 then (bif Nat.blt k 6 then (bif Nat.blt k 4 then (bif Nat.blt k 1 then (bif Nat.beq k 0 then some (.iload_n 0, 1, []) else none) else (bif Nat.beq k 1 then some (.ifCond .ne 8, 4, [9]) else none)) else (bif Nat.blt k 5 then (bif Nat.beq k 4 then some (.iload_n 1, 5, []) else none) else (bif Nat.beq k 5 then some (.i2b, 6, []) else none))) else (bif Nat.blt k 10 then (bif Nat.blt k 9 then (bif Nat.beq k 6 then some (.goto 14, 9, [20]) else none) else (bif Nat.beq k 9 then some (.iload_n 0, 10, []) else none)) else (bif Nat.blt k 11 then (bif Nat.beq k 10 then some (.iconst 1, 11, []) else none) else (bif Nat.blt k 14 then (bif Nat.beq k 11 then some (.if_icmp .ne 8, 14, [19]) else none) else (bif Nat.beq k 14 then some (.iload_n 1, 15, []) else none))))) else (bif Nat.blt k 22 then (bif Nat.blt k 19 then (bif Nat.blt k 16 then (bif Nat.beq k 15 then some (.i2s, 16, []) else none) else (bif Nat.beq k 16 then some (.goto 4, 19, [20]) else none)) else (bif Nat.blt k 20 then (bif Nat.beq k 19 then some (.iload_n 1, 20, []) else none) else (bif Nat.blt k 21 then (bif Nat.beq k 20 then some (.istore_n 2, 21, []) else none) else (bif Nat.beq k 21 then some (.iconst 1, 22, []) else none)))) else (bif Nat.blt k 25 then (bif Nat.blt k 24 then (bif Nat.beq k 22 then some (.bipush 60, 24, []) else none) else (bif Nat.beq k 24 then some (.iload_n 2, 25, []) else none)) else (bif Nat.blt k 28 then (bif Nat.beq k 25 then some (.invokestatic 433, 28, []) else none) else (bif Nat.blt k 31 then (bif Nat.beq k 28 then some (.invokestatic 372, 31, []) else none) else (bif Nat.beq k 31 then some (.ireturn, 32, []) else none)))))) else none
noncomputable def P_C_asSpan : MP := (T_C_asSpan, (fun k => mLook k []), (fun k => mLook k []), (fun k => mLook k [(372, E_Ma_max), (433, E_Ma_min)]), (fun k => mLook k []), (fun k => mLook k []), (fun k => mLook k []), (fun k => mLook k []), (fun k => [31].any (Nat.beq k)), (1, 21, 0, 0), false, (fun _ => none))
set_option maxRecDepth 100000 in
set_option maxHeartbeats 4000000 in
theorem q_C_asSpan_e (a0 : Int32) (a1 : Int32) (σ : MSto) (n : Nat) : mexe KT P_C_asSpan (n + 1) (0, [some (mI a0), some (mI a1), none], [], σ, 0, 0) = mIf (a0 = 0) (some (31, [], [(mI (v_Ma_max 1 (v_Ma_min 60 (Int8.toInt32 (Int32.toInt8 a1)) σ) σ))], σ, 0, 0)) (mIf (a0 = 1) (some (31, [], [(mI (v_Ma_max 1 (v_Ma_min 60 (Int16.toInt32 (Int32.toInt16 a1)) σ) σ))], σ, 0, 0)) (some (31, [], [(mI (v_Ma_max 1 (v_Ma_min 60 a1 σ) σ))], σ, 0, 0))) := rfl
set_option maxRecDepth 100000 in
set_option maxHeartbeats 4000000 in
theorem d_C_asSpan (a0 : Int32) (a1 : Int32) (σ : MSto) : mW1 P_C_asSpan (0, [some (mI a0), some (mI a1), none], [], σ, 0, 0) (mF [31] [mI (v_C_asSpan a0 a1 σ)] σ 0 0) := by
  refine mW1_eq (q_C_asSpan_e _ _ _) ?_
  refine mTr_if (fun h0 => ?_) (fun h0 => ?_)
  · skip
    exact mTr_e (by decide) (congrArg (fun z => [mI z]) (Eq.symm (if_pos h0))) rfl (by decide) (by decide)
  · skip
    refine mTr_if (fun h1 => ?_) (fun h1 => ?_)
    · skip
      exact mTr_e (by decide) (congrArg (fun z => [mI z]) (Eq.symm ((if_neg h0).trans (if_pos h1)))) rfl (by decide) (by decide)
    · skip
      exact mTr_e (by decide) (congrArg (fun z => [mI z]) (Eq.symm ((if_neg h0).trans (if_neg h1)))) rfl (by decide) (by decide)
theorem li_C_433 : mLink "ClothWithMan" 433 E_Ma_min := ⟨tw_2_14, tw_1_10, ⟨by decide, by decide⟩, by decide +kernel, Or.inl tw_2_200, (fun _ => tw_2_13), (fun h => by cases h), (fun h => by cases h)⟩

theorem li_C_372 : mLink "ClothWithMan" 372 E_Ma_max := ⟨tw_2_139, tw_1_10, ⟨by decide, by decide⟩, by decide +kernel, Or.inl tw_2_201, (fun _ => tw_2_138), (fun h => by cases h), (fun h => by cases h)⟩

theorem tk_C_asSpan : ∀ pc i nx tg, T_C_asSpan pc = some (i, nx, tg) → mOkB prog_1_method_68_code pc i nx tg = true := code_ok (N := 32) (fun k h => by unfold T_C_asSpan; rw [h]; rfl) (by decide +kernel)
theorem ok_C_asSpan (l : Launch) : mPOK l "ClothWithMan" prog_1_method_68_code P_C_asSpan := by
  refine ⟨tk_C_asSpan, ?_, ?_, ?_, (fun pc i nx tg kd _ h => by cases h), ?_, ?_, fun pc en h => by cases h⟩
  · intro x ci f ty fin h
    exact mLook_all (Q := fun x v => mFOK "ClothWithMan" x v.1 v.2.1 v.2.2.1 v.2.2.2 ∧ (v.2.2.2 = true → pIni P_C_asSpan = true → (Cond.fieldLink "ClothWithMan" x (((mCl[v.1]?).getD ("", fun _ => ("", "", "", false), 0)).2.1 v.2.1).1 (((mCl[v.1]?).getD ("", fun _ => ("", "", "", false), 0)).2.1 v.2.1).2.1 (((mCl[v.1]?).getD ("", fun _ => ("", "", "", false), 0)).2.1 v.2.1).2.2.1 ∈ lw_tbl ∧ (((mCl[v.1]?).getD ("", fun _ => ("", "", "", false), 0)).2.1 v.2.1).1 = "ClothWithMan"))) fcN x (ci, f, ty, fin) h
  · intro x
    have hh := mLook_all (l := ([] : List (Nat × (Int32 ⊕ Int64)))) (Q := fun x (v : Int32 ⊕ Int64) => (∀ w, v = .inl w → Cond.constant "ClothWithMan" x w ∈ lw_tbl) ∧ (∀ w, v = .inr w → Cond.constantLong "ClothWithMan" x w ∈ lw_tbl)) fcN x
    exact ⟨fun w h => (hh _ h).1 w rfl, fun w h => (hh _ h).2 w rfl⟩
  · exact fun x en h => mLook_all (Q := fun x en => mLink "ClothWithMan" x en ∧ mCtr l en ∧ (en.1.1 = 2 → en.2.2.2.2.2.2 = none)) (fcC ⟨li_C_372, c_Ma_max l, (fun h => by cases h)⟩ (fcC ⟨li_C_433, c_Ma_min l, (fun h => by cases h)⟩ fcN)) x en h
  · exact fun x kd h => mLook_all (Q := fun x kd => (kd = 95 ∧ Cond.fieldLink "ClothWithMan" x "ClothWithMan" "LIKENESSES" "[I" ∈ lw_tbl) ∨ (kd = 96 ∧ Cond.fieldLink "ClothWithMan" x "ClothWithMan" "APART_BOUNDS" "[I" ∈ lw_tbl)) fcN x kd h
  · exact fun x ci h => mLook_all (Q := fun x ci => ci ≠ 0 ∧ ∃ (C : String) (T : u_T) (N : Nat), mCl[ci]? = some (C, T, N) ∧ Cond.classLink "ClothWithMan" x C ∈ lw_tbl ∧ Cond.instantiable C N ∈ lw_tbl) fcN x ci h
set_option maxRecDepth 100000 in
theorem c_C_asSpan (l : Launch) : mCtr l E_C_asSpan := mCtr_of (P := P_C_asSpan) (own := "ClothWithMan") mLay_ok rfl (by decide +kernel) rfl (ok_C_asSpan l) (fun h => by cases h) (fun as σ pr rv σ' hF hpr hlv => by
  unfold E_C_asSpan S_C_asSpan at hF
  simp only [] at hF
  split at hF
  · cases hF
    obtain ⟨n, pcF, c1, s1, g1, g2, g3, g4⟩ := mF_inv (d_C_asSpan _ _ σ)
    exact ⟨Nat.le_of_ble_eq_true rfl, (fun v h => by cases h; trivial), n, pcF, c1, s1, g1, ⟨mEnd_of (i := .ireturn) (P := P_C_asSpan) (rets := [31]) rfl g2, rfl⟩, g3, g4⟩
  · cases hF
    exact (hpr _ rfl).elim)
/-! ClothWithMan.gap(JJ)J -/
noncomputable def v_C_gap (a0 : Int64) (a2 : Int64) (σ : MSto) : Int64 := (v_Ma_absJ (a0 - a2) σ)
noncomputable def S_C_gap : List MV → MSto → Option Prop × Option MV × MSto := fun as σ => match as with
  | [.inr (.inl a0), .inr (.inl a1)] => (none, some (mJ (v_C_gap a0 a1 σ)), σ)
  | _ => (some False, none, σ)
noncomputable def E_C_gap : MEnt := ((0, 2, 12), (1, 21, 0, 0), S_C_gap, ((⟨"ClothWithMan", "gap", "(JJ)J"⟩ : MethodName), prog_1_method_73_code, 4, (some .long)))

def T_C_gap : Nat → Option (Instr × Nat × List Nat) := fun k => bif Nat.blt k 7 then (bif Nat.blt k 2 then (bif Nat.blt k 1 then (bif Nat.beq k 0 then some (.lload_n 0, 1, []) else none) else (bif Nat.beq k 1 then some (.lload_n 2, 2, []) else none)) else (bif Nat.blt k 3 then (bif Nat.beq k 2 then some (.lsub, 3, []) else none) else (bif Nat.blt k 6 then (bif Nat.beq k 3 then some (.invokestatic 275, 6, []) else none) else (bif Nat.beq k 6 then some (.lreturn, 7, []) else none)))) else none
noncomputable def P_C_gap : MP := (T_C_gap, (fun k => mLook k []), (fun k => mLook k []), (fun k => mLook k [(275, E_Ma_absJ)]), (fun k => mLook k []), (fun k => mLook k []), (fun k => mLook k []), (fun k => mLook k []), (fun k => [6].any (Nat.beq k)), (1, 21, 0, 0), false, (fun _ => none))
set_option maxRecDepth 100000 in
set_option maxHeartbeats 4000000 in
theorem q_C_gap_e (a0 : Int64) (a2 : Int64) (σ : MSto) (n : Nat) : mexe KT P_C_gap (n + 1) (0, [some (mJ a0), none, some (mJ a2), none], [], σ, 0, 0) = some (6, [], [(mJ (v_Ma_absJ (a0 - a2) σ))], σ, 0, 0) := rfl
set_option maxRecDepth 100000 in
set_option maxHeartbeats 4000000 in
theorem d_C_gap (a0 : Int64) (a2 : Int64) (σ : MSto) : mW1 P_C_gap (0, [some (mJ a0), none, some (mJ a2), none], [], σ, 0, 0) (mF [6] [mJ (v_C_gap a0 a2 σ)] σ 0 0) := by
  refine mW1_eq (q_C_gap_e _ _ _) ?_
  exact mTr_e (by decide) (congrArg (fun z => [mJ z]) (Eq.symm (rfl))) rfl (by decide) (by decide)
theorem li_C_275 : mLink "ClothWithMan" 275 E_Ma_absJ := ⟨tw_3_67, tw_1_10, ⟨by decide, by decide⟩, by decide +kernel, Or.inl tw_3_65, (fun _ => tw_3_66), (fun h => by cases h), (fun h => by cases h)⟩

theorem tk_C_gap : ∀ pc i nx tg, T_C_gap pc = some (i, nx, tg) → mOkB prog_1_method_73_code pc i nx tg = true := code_ok (N := 7) (fun k h => by unfold T_C_gap; rw [h]; rfl) (by decide +kernel)
theorem ok_C_gap (l : Launch) : mPOK l "ClothWithMan" prog_1_method_73_code P_C_gap := by
  refine ⟨tk_C_gap, ?_, ?_, ?_, (fun pc i nx tg kd _ h => by cases h), ?_, ?_, fun pc en h => by cases h⟩
  · intro x ci f ty fin h
    exact mLook_all (Q := fun x v => mFOK "ClothWithMan" x v.1 v.2.1 v.2.2.1 v.2.2.2 ∧ (v.2.2.2 = true → pIni P_C_gap = true → (Cond.fieldLink "ClothWithMan" x (((mCl[v.1]?).getD ("", fun _ => ("", "", "", false), 0)).2.1 v.2.1).1 (((mCl[v.1]?).getD ("", fun _ => ("", "", "", false), 0)).2.1 v.2.1).2.1 (((mCl[v.1]?).getD ("", fun _ => ("", "", "", false), 0)).2.1 v.2.1).2.2.1 ∈ lw_tbl ∧ (((mCl[v.1]?).getD ("", fun _ => ("", "", "", false), 0)).2.1 v.2.1).1 = "ClothWithMan"))) fcN x (ci, f, ty, fin) h
  · intro x
    have hh := mLook_all (l := ([] : List (Nat × (Int32 ⊕ Int64)))) (Q := fun x (v : Int32 ⊕ Int64) => (∀ w, v = .inl w → Cond.constant "ClothWithMan" x w ∈ lw_tbl) ∧ (∀ w, v = .inr w → Cond.constantLong "ClothWithMan" x w ∈ lw_tbl)) fcN x
    exact ⟨fun w h => (hh _ h).1 w rfl, fun w h => (hh _ h).2 w rfl⟩
  · exact fun x en h => mLook_all (Q := fun x en => mLink "ClothWithMan" x en ∧ mCtr l en ∧ (en.1.1 = 2 → en.2.2.2.2.2.2 = none)) (fcC ⟨li_C_275, c_Ma_absJ l, (fun h => by cases h)⟩ fcN) x en h
  · exact fun x kd h => mLook_all (Q := fun x kd => (kd = 95 ∧ Cond.fieldLink "ClothWithMan" x "ClothWithMan" "LIKENESSES" "[I" ∈ lw_tbl) ∨ (kd = 96 ∧ Cond.fieldLink "ClothWithMan" x "ClothWithMan" "APART_BOUNDS" "[I" ∈ lw_tbl)) fcN x kd h
  · exact fun x ci h => mLook_all (Q := fun x ci => ci ≠ 0 ∧ ∃ (C : String) (T : u_T) (N : Nat), mCl[ci]? = some (C, T, N) ∧ Cond.classLink "ClothWithMan" x C ∈ lw_tbl ∧ Cond.instantiable C N ∈ lw_tbl) fcN x ci h
set_option maxRecDepth 100000 in
theorem c_C_gap (l : Launch) : mCtr l E_C_gap := mCtr_of (P := P_C_gap) (own := "ClothWithMan") mLay_ok rfl (by decide +kernel) rfl (ok_C_gap l) (fun h => by cases h) (fun as σ pr rv σ' hF hpr hlv => by
  unfold E_C_gap S_C_gap at hF
  simp only [] at hF
  split at hF
  · cases hF
    obtain ⟨n, pcF, c1, s1, g1, g2, g3, g4⟩ := mF_inv (d_C_gap _ _ σ)
    exact ⟨Nat.le_of_ble_eq_true rfl, (fun v h => by cases h; trivial), n, pcF, c1, s1, g1, mEnd_of (i := .lreturn) (P := P_C_gap) (rets := [6]) rfl g2, g3, g4⟩
  · cases hF
    exact (hpr _ rfl).elim)
/-! ClothWithMan.likenessOf(III)I -/
noncomputable def v_C_likenessOf (a0 : Int32) (a1 : Int32) (a2 : Int32) (σ : MSto) : Int32 := (if 1 ≤ a2 then (if 0 ≤ (lg_cmp ((2 * (v_C_gap (Int32.toInt64 a0) (Int32.toInt64 a1) σ)) / (Int32.toInt64 a2)) (Int32.toInt64 (Int32.ofNat 7))) then 0 else (gI σ 95 0 (Int32.toNatClampNeg (Int64.toInt32 ((2 * (v_C_gap (Int32.toInt64 a0) (Int32.toInt64 a1) σ)) / (Int32.toInt64 a2)))))) else 0)
def p_C_likenessOf (a0 : Int32) (a1 : Int32) (a2 : Int32) (σ : MSto) : Prop := ((1 ≤ a2) → ((¬ ((Int32.toInt64 a2) : Int64) = 0) ∧ (¬ (0 ≤ (lg_cmp ((2 * (v_C_gap (Int32.toInt64 a0) (Int32.toInt64 a1) σ)) / (Int32.toInt64 a2)) (Int32.toInt64 (Int32.ofNat 7)))) → (vp_in (Int64.toInt32 ((2 * (v_C_gap (Int32.toInt64 a0) (Int32.toInt64 a1) σ)) / (Int32.toInt64 a2))) 7))))
noncomputable def S_C_likenessOf : List MV → MSto → Option Prop × Option MV × MSto := fun as σ => match as with
  | [.inl a0, .inl a1, .inl a2] => (some (p_C_likenessOf a0 a1 a2 σ), some (mI (v_C_likenessOf a0 a1 a2 σ)), σ)
  | _ => (some False, none, σ)
noncomputable def E_C_likenessOf : MEnt := ((0, 3, 12), (2, 44, 0, 0), S_C_likenessOf, ((⟨"ClothWithMan", "likenessOf", "(III)I"⟩ : MethodName), prog_1_method_74_code, 5, (some .int)))

def T_C_likenessOf : Nat → Option (Instr × Nat × List Nat) := fun k => bif Nat.blt k 43 then (bif Nat.blt k 20 then (bif Nat.blt k 11 then (bif Nat.blt k 5 then (bif Nat.blt k 1 then (bif Nat.beq k 0 then some (.iload_n 2, 1, []) else none) else (bif Nat.blt k 2 then (bif Nat.beq k 1 then some (.iconst 1, 2, []) else none) else (bif Nat.beq k 2 then some (.if_icmp .ge 5, 5, [7]) else none))) else (bif Nat.blt k 7 then (bif Nat.blt k 6 then (bif Nat.beq k 5 then some (.iconst 0, 6, []) else none) else (bif Nat.beq k 6 then some (.ireturn, 7, []) else none)) else (bif Nat.blt k 10 then (bif Nat.beq k 7 then some (.ldc2_w 446, 10, []) else none) else (bif Nat.beq k 10 then some (.iload_n 0, 11, []) else none)))) else (bif Nat.blt k 14 then (bif Nat.blt k 12 then (bif Nat.beq k 11 then some (.i2l, 12, []) else none) else (bif Nat.blt k 13 then (bif Nat.beq k 12 then some (.iload_n 1, 13, []) else none) else (bif Nat.beq k 13 then some (.i2l, 14, []) else none))) else (bif Nat.blt k 18 then (bif Nat.blt k 17 then (bif Nat.beq k 14 then some (.invokestatic 213, 17, []) else none) else (bif Nat.beq k 17 then some (.lmul, 18, []) else none)) else (bif Nat.blt k 19 then (bif Nat.beq k 18 then some (.iload_n 2, 19, []) else none) else (bif Nat.beq k 19 then some (.i2l, 20, []) else none))))) else (bif Nat.blt k 29 then (bif Nat.blt k 23 then (bif Nat.blt k 21 then (bif Nat.beq k 20 then some (.ldiv, 21, []) else none) else (bif Nat.blt k 22 then (bif Nat.beq k 21 then some (.lstore_n 3, 22, []) else none) else (bif Nat.beq k 22 then some (.lload_n 3, 23, []) else none))) else (bif Nat.blt k 27 then (bif Nat.blt k 26 then (bif Nat.beq k 23 then some (.getstatic 448, 26, []) else none) else (bif Nat.beq k 26 then some (.arraylength, 27, []) else none)) else (bif Nat.blt k 28 then (bif Nat.beq k 27 then some (.i2l, 28, []) else none) else (bif Nat.beq k 28 then some (.lcmp, 29, []) else none)))) else (bif Nat.blt k 37 then (bif Nat.blt k 35 then (bif Nat.blt k 32 then (bif Nat.beq k 29 then some (.ifCond .ge 12, 32, [41]) else none) else (bif Nat.beq k 32 then some (.getstatic 448, 35, []) else none)) else (bif Nat.blt k 36 then (bif Nat.beq k 35 then some (.lload_n 3, 36, []) else none) else (bif Nat.beq k 36 then some (.l2i, 37, []) else none))) else (bif Nat.blt k 41 then (bif Nat.blt k 38 then (bif Nat.beq k 37 then some (.iaload, 38, []) else none) else (bif Nat.beq k 38 then some (.goto 4, 41, [42]) else none)) else (bif Nat.blt k 42 then (bif Nat.beq k 41 then some (.iconst 0, 42, []) else none) else (bif Nat.beq k 42 then some (.ireturn, 43, []) else none)))))) else none
noncomputable def P_C_likenessOf : MP := (T_C_likenessOf, (fun k => mLook k []), (fun k => mLook k [(446, .inr 2)]), (fun k => mLook k [(213, E_C_gap)]), (fun k => mLook k []), (fun k => mLook k [(448, 95)]), (fun k => mLook k []), (fun k => mLook k []), (fun k => [6, 42].any (Nat.beq k)), (2, 44, 0, 0), false, (fun _ => none))
set_option maxRecDepth 100000 in
set_option maxHeartbeats 4000000 in
theorem q_C_likenessOf_e (a0 : Int32) (a1 : Int32) (a2 : Int32) (σ : MSto) (n : Nat) : mexe KT P_C_likenessOf (n + 1) (0, [some (mI a0), some (mI a1), some (mI a2), none, none], [], σ, 0, 0) = mIf (1 ≤ a2) (mG (¬ ((Int32.toInt64 a2) : Int64) = 0) (mIf (0 ≤ (lg_cmp ((2 * (v_C_gap (Int32.toInt64 a0) (Int32.toInt64 a1) σ)) / (Int32.toInt64 a2)) (Int32.toInt64 (Int32.ofNat 7)))) (some (42, [], [(mI 0)], σ, 0, 0)) (mG (vp_in (Int64.toInt32 ((2 * (v_C_gap (Int32.toInt64 a0) (Int32.toInt64 a1) σ)) / (Int32.toInt64 a2))) 7) (some (42, [], [(mI (gI σ 95 0 (Int32.toNatClampNeg (Int64.toInt32 ((2 * (v_C_gap (Int32.toInt64 a0) (Int32.toInt64 a1) σ)) / (Int32.toInt64 a2))))))], σ, 0, 0))))) (some (6, [], [(mI 0)], σ, 0, 0)) := rfl
set_option maxRecDepth 100000 in
set_option maxHeartbeats 4000000 in
theorem d_C_likenessOf (a0 : Int32) (a1 : Int32) (a2 : Int32) (σ : MSto) (hp : p_C_likenessOf a0 a1 a2 σ) : mW1 P_C_likenessOf (0, [some (mI a0), some (mI a1), some (mI a2), none, none], [], σ, 0, 0) (mF [6, 42] [mI (v_C_likenessOf a0 a1 a2 σ)] σ 0 0) := by
  refine mW1_eq (q_C_likenessOf_e _ _ _ _) ?_
  unfold p_C_likenessOf at hp
  refine mTr_if (fun h0 => ?_) (fun h0 => ?_)
  · skip
    have hp := hp h0
    refine mTr_g hp.1 ?_
    have hp := hp.2
    refine mTr_if (fun h1 => ?_) (fun h1 => ?_)
    · skip
      exact mTr_e (by decide) (congrArg (fun z => [mI z]) (Eq.symm ((if_pos h0).trans (if_pos h1)))) rfl (by decide) (by decide)
    · skip
      have hp := hp h1
      refine mTr_g hp ?_
      exact mTr_e (by decide) (congrArg (fun z => [mI z]) (Eq.symm ((if_pos h0).trans (if_neg h1)))) rfl (by decide) (by decide)
  · skip
    exact mTr_e (by decide) (congrArg (fun z => [mI z]) (Eq.symm (if_neg h0))) rfl (by decide) (by decide)
theorem li_C_213 : mLink "ClothWithMan" 213 E_C_gap := ⟨tw_3_64, tw_1_1, ⟨by decide, by decide⟩, by decide +kernel, Or.inl tw_3_62, (fun _ => tw_3_63), (fun h => by cases h), (fun h => by cases h)⟩

theorem tk_C_likenessOf : ∀ pc i nx tg, T_C_likenessOf pc = some (i, nx, tg) → mOkB prog_1_method_74_code pc i nx tg = true := code_ok (N := 43) (fun k h => by unfold T_C_likenessOf; rw [h]; rfl) (by decide +kernel)
theorem ok_C_likenessOf (l : Launch) : mPOK l "ClothWithMan" prog_1_method_74_code P_C_likenessOf := by
  refine ⟨tk_C_likenessOf, ?_, ?_, ?_, (fun pc i nx tg kd _ h => by cases h), ?_, ?_, fun pc en h => by cases h⟩
  · intro x ci f ty fin h
    exact mLook_all (Q := fun x v => mFOK "ClothWithMan" x v.1 v.2.1 v.2.2.1 v.2.2.2 ∧ (v.2.2.2 = true → pIni P_C_likenessOf = true → (Cond.fieldLink "ClothWithMan" x (((mCl[v.1]?).getD ("", fun _ => ("", "", "", false), 0)).2.1 v.2.1).1 (((mCl[v.1]?).getD ("", fun _ => ("", "", "", false), 0)).2.1 v.2.1).2.1 (((mCl[v.1]?).getD ("", fun _ => ("", "", "", false), 0)).2.1 v.2.1).2.2.1 ∈ lw_tbl ∧ (((mCl[v.1]?).getD ("", fun _ => ("", "", "", false), 0)).2.1 v.2.1).1 = "ClothWithMan"))) fcN x (ci, f, ty, fin) h
  · intro x
    have hh := mLook_all (l := ([(446, .inr 2)] : List (Nat × (Int32 ⊕ Int64)))) (Q := fun x (v : Int32 ⊕ Int64) => (∀ w, v = .inl w → Cond.constant "ClothWithMan" x w ∈ lw_tbl) ∧ (∀ w, v = .inr w → Cond.constantLong "ClothWithMan" x w ∈ lw_tbl)) (fcC ⟨(fun v h => by cases h), fun v h => by cases h; exact tw_3_61⟩ fcN) x
    exact ⟨fun w h => (hh _ h).1 w rfl, fun w h => (hh _ h).2 w rfl⟩
  · exact fun x en h => mLook_all (Q := fun x en => mLink "ClothWithMan" x en ∧ mCtr l en ∧ (en.1.1 = 2 → en.2.2.2.2.2.2 = none)) (fcC ⟨li_C_213, c_C_gap l, (fun h => by cases h)⟩ fcN) x en h
  · exact fun x kd h => mLook_all (Q := fun x kd => (kd = 95 ∧ Cond.fieldLink "ClothWithMan" x "ClothWithMan" "LIKENESSES" "[I" ∈ lw_tbl) ∨ (kd = 96 ∧ Cond.fieldLink "ClothWithMan" x "ClothWithMan" "APART_BOUNDS" "[I" ∈ lw_tbl)) (fcC (Or.inl ⟨rfl, tw_3_68⟩) fcN) x kd h
  · exact fun x ci h => mLook_all (Q := fun x ci => ci ≠ 0 ∧ ∃ (C : String) (T : u_T) (N : Nat), mCl[ci]? = some (C, T, N) ∧ Cond.classLink "ClothWithMan" x C ∈ lw_tbl ∧ Cond.instantiable C N ∈ lw_tbl) fcN x ci h
set_option maxRecDepth 100000 in
theorem c_C_likenessOf (l : Launch) : mCtr l E_C_likenessOf := mCtr_of (P := P_C_likenessOf) (own := "ClothWithMan") mLay_ok rfl (by decide +kernel) rfl (ok_C_likenessOf l) (fun h => by cases h) (fun as σ pr rv σ' hF hpr hlv => by
  unfold E_C_likenessOf S_C_likenessOf at hF
  simp only [] at hF
  split at hF
  · cases hF
    obtain ⟨n, pcF, c1, s1, g1, g2, g3, g4⟩ := mF_inv (d_C_likenessOf _ _ _ σ (hpr _ rfl))
    exact ⟨Nat.le_of_ble_eq_true rfl, (fun v h => by cases h; trivial), n, pcF, c1, s1, g1, ⟨mEnd_of (i := .ireturn) (P := P_C_likenessOf) (rets := [6, 42]) rfl g2, rfl⟩, g3, g4⟩
  · cases hF
    exact (hpr _ rfl).elim)
/-! ClothWithMan.bitNumber(II)I -/
noncomputable def t_C_bitNumber_4 (x0 : Int32) (c : Int32) (σ : MSto) (s : Int32) : Int32 := (if 6 ≤ c then s else (if (v_C_has x0 c σ) = 0 then (if (v_C_has x0 c σ) = 0 then s else (s + (-1))) else (if s = 0 then s else (if (v_C_has x0 c σ) = 0 then s else (s + (-1))))))
noncomputable def q_C_bitNumber_4s (x0 : Int32) (c : Int32) (σ : MSto) (s : Int32) : Nat := (if 6 ≤ c then 1 else (if (v_C_has x0 c σ) = 0 then 0 else (if s = 0 then 1 else 0)))
def g_C_bitNumber_4 (x0 : Int32) (c : Int32) (σ : MSto) (s : Int32) : Prop := True
noncomputable def f_C_bitNumber_4 (x0 : Int32) (c0 : Int32) (σ : MSto) (s0 : Int32) (n : Nat) : Int32 := nfold (fun i s => t_C_bitNumber_4 x0 (c0 + nI i) σ s) s0 n
noncomputable def n_C_bitNumber_4 (x0 : Int32) (c0 : Int32) (σ : MSto) (s0 : Int32) : Nat := leastN (fun i => q_C_bitNumber_4s x0 (c0 + nI i) σ (f_C_bitNumber_4 x0 c0 σ s0 i) = 1) 7
noncomputable def v_C_bitNumber (a0 : Int32) (a1 : Int32) (σ : MSto) : Int32 := (if 6 ≤ (0 + nI (n_C_bitNumber_4 a0 0 σ a1)) then 0 else (0 + nI (n_C_bitNumber_4 a0 0 σ a1)))
def p_C_bitNumber (a0 : Int32) (a1 : Int32) (σ : MSto) : Prop := ((∀ i, i < (n_C_bitNumber_4 a0 0 σ a1) → g_C_bitNumber_4 a0 (0 + nI i) σ (f_C_bitNumber_4 a0 0 σ a1 i) ∧ ¬ q_C_bitNumber_4s a0 (0 + nI i) σ (f_C_bitNumber_4 a0 0 σ a1 i) = 1) ∧ (¬ (6 ≤ (0 + nI (n_C_bitNumber_4 a0 0 σ a1))) → ((((v_C_has a0 (0 + nI (n_C_bitNumber_4 a0 0 σ a1)) σ) = 0) → False) ∧ (¬ ((v_C_has a0 (0 + nI (n_C_bitNumber_4 a0 0 σ a1)) σ) = 0) → (¬ ((f_C_bitNumber_4 a0 0 σ a1 (n_C_bitNumber_4 a0 0 σ a1)) = 0) → False)))))
noncomputable def S_C_bitNumber : List MV → MSto → Option Prop × Option MV × MSto := fun as σ => match as with
  | [.inl a0, .inl a1] => (some (p_C_bitNumber a0 a1 σ), some (mI (v_C_bitNumber a0 a1 σ)), σ)
  | _ => (some False, none, σ)
noncomputable def E_C_bitNumber : MEnt := ((0, 2, 12), (1, 21, 0, 0), S_C_bitNumber, ((⟨"ClothWithMan", "bitNumber", "(II)I"⟩ : MethodName), prog_1_method_88_code, 4, (some .int)))

def T_C_bitNumber : Nat → Option (Instr × Nat × List Nat) := fun k => bif Nat.blt k 43 then (bif Nat.blt k 19 then (bif Nat.blt k 7 then (bif Nat.blt k 3 then (bif Nat.blt k 1 then (bif Nat.beq k 0 then some (.iload_n 1, 1, []) else none) else (bif Nat.blt k 2 then (bif Nat.beq k 1 then some (.istore_n 2, 2, []) else none) else (bif Nat.beq k 2 then some (.iconst 0, 3, []) else none))) else (bif Nat.blt k 4 then (bif Nat.beq k 3 then some (.istore_n 3, 4, []) else none) else (bif Nat.blt k 5 then (bif Nat.beq k 4 then some (.iload_n 3, 5, []) else none) else (bif Nat.beq k 5 then some (.bipush 6, 7, []) else none)))) else (bif Nat.blt k 12 then (bif Nat.blt k 10 then (bif Nat.beq k 7 then some (.if_icmp .ge 34, 10, [41]) else none) else (bif Nat.blt k 11 then (bif Nat.beq k 10 then some (.iload_n 0, 11, []) else none) else (bif Nat.beq k 11 then some (.iload_n 3, 12, []) else none))) else (bif Nat.blt k 15 then (bif Nat.beq k 12 then some (.invokestatic 284, 15, []) else none) else (bif Nat.blt k 18 then (bif Nat.beq k 15 then some (.ifCond .eq 9, 18, [24]) else none) else (bif Nat.beq k 18 then some (.iload_n 2, 19, []) else none))))) else (bif Nat.blt k 29 then (bif Nat.blt k 24 then (bif Nat.blt k 22 then (bif Nat.beq k 19 then some (.ifCond .ne 5, 22, [24]) else none) else (bif Nat.blt k 23 then (bif Nat.beq k 22 then some (.iload_n 3, 23, []) else none) else (bif Nat.beq k 23 then some (.ireturn, 24, []) else none))) else (bif Nat.blt k 25 then (bif Nat.beq k 24 then some (.iload_n 0, 25, []) else none) else (bif Nat.blt k 26 then (bif Nat.beq k 25 then some (.iload_n 3, 26, []) else none) else (bif Nat.beq k 26 then some (.invokestatic 284, 29, []) else none)))) else (bif Nat.blt k 38 then (bif Nat.blt k 32 then (bif Nat.beq k 29 then some (.ifCond .eq 6, 32, [35]) else none) else (bif Nat.blt k 35 then (bif Nat.beq k 32 then some (.iinc 2 (-1), 35, []) else none) else (bif Nat.beq k 35 then some (.iinc 3 1, 38, []) else none))) else (bif Nat.blt k 41 then (bif Nat.beq k 38 then some (.goto (-34), 41, [4]) else none) else (bif Nat.blt k 42 then (bif Nat.beq k 41 then some (.iconst 0, 42, []) else none) else (bif Nat.beq k 42 then some (.ireturn, 43, []) else none)))))) else none
noncomputable def P_C_bitNumber : MP := (T_C_bitNumber, (fun k => mLook k []), (fun k => mLook k []), (fun k => mLook k [(284, E_C_has)]), (fun k => mLook k []), (fun k => mLook k []), (fun k => mLook k []), (fun k => mLook k [(4, [true, false, true, true])]), (fun k => [23, 42].any (Nat.beq k)), (1, 21, 0, 0), false, (fun _ => none))
set_option maxRecDepth 100000 in
set_option maxHeartbeats 4000000 in
theorem q_C_bitNumber_e (a0 : Int32) (a1 : Int32) (σ : MSto) (n : Nat) : mexe KT P_C_bitNumber (n + 1) (0, [some (mI a0), some (mI a1), none, none], [], σ, 0, 0) = mexe KT P_C_bitNumber n (4, [some (mI a0), none, some (mI a1), some (mI 0)], [], σ, 0, 0) := rfl
set_option maxRecDepth 100000 in
set_option maxHeartbeats 4000000 in
theorem q_C_bitNumber_4 (x0 : Int32) (x2 : Int32) (x3 : Int32) (σ : MSto) (n : Nat) : mexe KT P_C_bitNumber (n + 1) (4, [some (mI x0), none, some (mI x2), some (mI x3)], [], σ, 0, 0) = mIf (6 ≤ x3) (some (42, [], [(mI 0)], σ, 0, 0)) (mIf ((v_C_has x0 x3 σ) = 0) (mIf ((v_C_has x0 x3 σ) = 0) (mexe KT P_C_bitNumber n (4, [some (mI x0), none, some (mI x2), some (mI (x3 + 1))], [], σ, 0, 0)) (mexe KT P_C_bitNumber n (4, [some (mI x0), none, some (mI (x2 + (-1))), some (mI (x3 + 1))], [], σ, 0, 0))) (mIf (x2 = 0) (some (23, [], [(mI x3)], σ, 0, 0)) (mIf ((v_C_has x0 x3 σ) = 0) (mexe KT P_C_bitNumber n (4, [some (mI x0), none, some (mI x2), some (mI (x3 + 1))], [], σ, 0, 0)) (mexe KT P_C_bitNumber n (4, [some (mI x0), none, some (mI (x2 + (-1))), some (mI (x3 + 1))], [], σ, 0, 0))))) := rfl
set_option maxRecDepth 100000 in
theorem lt_C_bitNumber_4 {Post : MST → Prop} (x0 : Int32) (c : Int32) (σ : MSto) (s : Int32) (hp : g_C_bitNumber_4 x0 c σ s) (hq : ¬ q_C_bitNumber_4s x0 c σ s = 1) (hn : ∀ r, t_C_bitNumber_4 x0 c σ s = r → mW1 P_C_bitNumber (4, [some (mI x0), none, some (mI r), some (mI (c + 1))], [], σ, 0, 0) Post) : mW1 P_C_bitNumber (4, [some (mI x0), none, some (mI s), some (mI c)], [], σ, 0, 0) Post := by
  unfold g_C_bitNumber_4 at hp
  refine mW1_eq (q_C_bitNumber_4 _ _ _ _) ?_
  refine mTr_if (fun h0 => ?_) (fun h0 => ?_)
  · skip
    exact absurd (if_pos h0) hq
  · skip
    refine mTr_if (fun h1 => ?_) (fun h1 => ?_)
    · skip
      refine mTr_if (fun h2 => ?_) (fun h2 => ?_)
      · skip
        exact mTr_k (hn s ((if_neg h0).trans ((if_pos h1).trans (if_pos h2))))
      · skip
        exact mTr_k (hn (s + (-1)) ((if_neg h0).trans ((if_pos h1).trans (if_neg h2))))
    · skip
      refine mTr_if (fun h2 => ?_) (fun h2 => ?_)
      · skip
        exact absurd ((if_neg h0).trans ((if_neg h1).trans (if_pos h2))) hq
      · skip
        refine mTr_if (fun h3 => ?_) (fun h3 => ?_)
        · skip
          exact mTr_k (hn s ((if_neg h0).trans ((if_neg h1).trans ((if_neg h2).trans (if_pos h3)))))
        · skip
          exact mTr_k (hn (s + (-1)) ((if_neg h0).trans ((if_neg h1).trans ((if_neg h2).trans (if_neg h3)))))
theorem lp_C_bitNumber_4 {Post : MST → Prop} (x0 : Int32) (c0 : Int32) (σ : MSto) (s0 : Int32) (N : Nat) (hb : ∀ i, i < N → g_C_bitNumber_4 x0 (c0 + nI i) σ (f_C_bitNumber_4 x0 c0 σ s0 i) ∧ ¬ q_C_bitNumber_4s x0 (c0 + nI i) σ (f_C_bitNumber_4 x0 c0 σ s0 i) = 1) (h : mW1 P_C_bitNumber (4, [some (mI x0), none, some (mI (f_C_bitNumber_4 x0 c0 σ s0 N)), some (mI (c0 + nI N))], [], σ, 0, 0) Post) : mW1 P_C_bitNumber (4, [some (mI x0), none, some (mI s0), some (mI c0)], [], σ, 0, 0) Post := by
  refine mW1_st (mW1_loop (fun i => (4, [some (mI x0), none, some (mI (f_C_bitNumber_4 x0 c0 σ s0 i)), some (mI (c0 + nI i))], [], σ, 0, 0)) N (fun i hlt hn => ?_) h) (by rw [show nI 0 = 0 from rfl, Int32.add_zero] <;> rfl)
  refine lt_C_bitNumber_4 x0 _ σ _ (hb i hlt).1 (hb i hlt).2 (fun r hr => ?_)
  rw [Int32.add_assoc, nI_s]
  subst hr
  exact hn
set_option maxRecDepth 100000 in
set_option maxHeartbeats 4000000 in
theorem d_C_bitNumber (a0 : Int32) (a1 : Int32) (σ : MSto) (hp : p_C_bitNumber a0 a1 σ) : mW1 P_C_bitNumber (0, [some (mI a0), some (mI a1), none, none], [], σ, 0, 0) (mF [23, 42] [mI (v_C_bitNumber a0 a1 σ)] σ 0 0) := by
  refine mW1_eq (q_C_bitNumber_e _ _ _) ?_
  unfold p_C_bitNumber at hp
  refine mTr_k (lp_C_bitNumber_4 a0 0 σ a1 (n_C_bitNumber_4 a0 0 σ a1) hp.1 ?_)
  have hp := hp.2
  refine mW1_eq (q_C_bitNumber_4 _ _ _ _) ?_
  refine mTr_if (fun h0 => ?_) (fun h0 => ?_)
  · skip
    exact mTr_e (by decide) (congrArg (fun z => [mI z]) (Eq.symm (if_pos h0))) rfl (by decide) (by decide)
  · skip
    have hp := hp h0
    refine mTr_if (fun h1 => ?_) (fun h1 => ?_)
    · skip
      have hp := hp.1 h1
      exact hp.elim
    · skip
      have hp := hp.2 h1
      refine mTr_if (fun h2 => ?_) (fun h2 => ?_)
      · skip
        exact mTr_e (by decide) (congrArg (fun z => [mI z]) (Eq.symm (if_neg h0))) rfl (by decide) (by decide)
      · skip
        have hp := hp h2
        exact hp.elim
theorem li_C_284 : mLink "ClothWithMan" 284 E_C_has := ⟨tw_3_118, tw_1_1, ⟨by decide, by decide⟩, by decide +kernel, Or.inl tw_3_116, (fun _ => tw_3_117), (fun h => by cases h), (fun h => by cases h)⟩

theorem tk_C_bitNumber : ∀ pc i nx tg, T_C_bitNumber pc = some (i, nx, tg) → mOkB prog_1_method_88_code pc i nx tg = true := code_ok (N := 43) (fun k h => by unfold T_C_bitNumber; rw [h]; rfl) (by decide +kernel)
theorem ok_C_bitNumber (l : Launch) : mPOK l "ClothWithMan" prog_1_method_88_code P_C_bitNumber := by
  refine ⟨tk_C_bitNumber, ?_, ?_, ?_, (fun pc i nx tg kd _ h => by cases h), ?_, ?_, fun pc en h => by cases h⟩
  · intro x ci f ty fin h
    exact mLook_all (Q := fun x v => mFOK "ClothWithMan" x v.1 v.2.1 v.2.2.1 v.2.2.2 ∧ (v.2.2.2 = true → pIni P_C_bitNumber = true → (Cond.fieldLink "ClothWithMan" x (((mCl[v.1]?).getD ("", fun _ => ("", "", "", false), 0)).2.1 v.2.1).1 (((mCl[v.1]?).getD ("", fun _ => ("", "", "", false), 0)).2.1 v.2.1).2.1 (((mCl[v.1]?).getD ("", fun _ => ("", "", "", false), 0)).2.1 v.2.1).2.2.1 ∈ lw_tbl ∧ (((mCl[v.1]?).getD ("", fun _ => ("", "", "", false), 0)).2.1 v.2.1).1 = "ClothWithMan"))) fcN x (ci, f, ty, fin) h
  · intro x
    have hh := mLook_all (l := ([] : List (Nat × (Int32 ⊕ Int64)))) (Q := fun x (v : Int32 ⊕ Int64) => (∀ w, v = .inl w → Cond.constant "ClothWithMan" x w ∈ lw_tbl) ∧ (∀ w, v = .inr w → Cond.constantLong "ClothWithMan" x w ∈ lw_tbl)) fcN x
    exact ⟨fun w h => (hh _ h).1 w rfl, fun w h => (hh _ h).2 w rfl⟩
  · exact fun x en h => mLook_all (Q := fun x en => mLink "ClothWithMan" x en ∧ mCtr l en ∧ (en.1.1 = 2 → en.2.2.2.2.2.2 = none)) (fcC ⟨li_C_284, c_C_has l, (fun h => by cases h)⟩ fcN) x en h
  · exact fun x kd h => mLook_all (Q := fun x kd => (kd = 95 ∧ Cond.fieldLink "ClothWithMan" x "ClothWithMan" "LIKENESSES" "[I" ∈ lw_tbl) ∨ (kd = 96 ∧ Cond.fieldLink "ClothWithMan" x "ClothWithMan" "APART_BOUNDS" "[I" ∈ lw_tbl)) fcN x kd h
  · exact fun x ci h => mLook_all (Q := fun x ci => ci ≠ 0 ∧ ∃ (C : String) (T : u_T) (N : Nat), mCl[ci]? = some (C, T, N) ∧ Cond.classLink "ClothWithMan" x C ∈ lw_tbl ∧ Cond.instantiable C N ∈ lw_tbl) fcN x ci h
set_option maxRecDepth 100000 in
theorem c_C_bitNumber (l : Launch) : mCtr l E_C_bitNumber := mCtr_of (P := P_C_bitNumber) (own := "ClothWithMan") mLay_ok rfl (by decide +kernel) rfl (ok_C_bitNumber l) (fun h => by cases h) (fun as σ pr rv σ' hF hpr hlv => by
  unfold E_C_bitNumber S_C_bitNumber at hF
  simp only [] at hF
  split at hF
  · cases hF
    obtain ⟨n, pcF, c1, s1, g1, g2, g3, g4⟩ := mF_inv (d_C_bitNumber _ _ σ (hpr _ rfl))
    exact ⟨Nat.le_of_ble_eq_true rfl, (fun v h => by cases h; trivial), n, pcF, c1, s1, g1, ⟨mEnd_of (i := .ireturn) (P := P_C_bitNumber) (rets := [23, 42]) rfl g2, rfl⟩, g3, g4⟩
  · cases hF
    exact (hpr _ rfl).elim)
/-! ClothWithMan$How.<init>(II)V -/
noncomputable def e_Ho_init (t0 : Nat) (a1 : Int32) (a2 : Int32) (σ : MSto) : MSto := (sI (sI σ 3 t0 0 a1) 3 t0 1 a2)
noncomputable def S_Ho_init : List MV → MSto → Option Prop × Option MV × MSto := fun as σ => match as with
  | [.inr (.inr (some (3, i0))), .inl a0, .inl a1] => (none, none, e_Ho_init i0 a0 a1 σ)
  | _ => (some False, none, σ)
noncomputable def E_Ho_init : MEnt := ((2, 2, 3), (1, 20, 0, 0), S_Ho_init, ((⟨"ClothWithMan$How", "<init>", "(II)V"⟩ : MethodName), prog_4_method_1_code, 3, none))

def T_Ho_init : Nat → Option (Instr × Nat × List Nat) := fun k => bif Nat.blt k 15 then (bif Nat.blt k 6 then (bif Nat.blt k 4 then (bif Nat.blt k 1 then (bif Nat.beq k 0 then some (.aload_n 0, 1, []) else none) else (bif Nat.beq k 1 then some (.invokespecial 1, 4, []) else none)) else (bif Nat.blt k 5 then (bif Nat.beq k 4 then some (.aload_n 0, 5, []) else none) else (bif Nat.beq k 5 then some (.iload_n 1, 6, []) else none))) else (bif Nat.blt k 10 then (bif Nat.blt k 9 then (bif Nat.beq k 6 then some (.putfield 7, 9, []) else none) else (bif Nat.beq k 9 then some (.aload_n 0, 10, []) else none)) else (bif Nat.blt k 11 then (bif Nat.beq k 10 then some (.iload_n 2, 11, []) else none) else (bif Nat.blt k 14 then (bif Nat.beq k 11 then some (.putfield 13, 14, []) else none) else (bif Nat.beq k 14 then some (.return_, 15, []) else none))))) else none
noncomputable def P_Ho_init : MP := (T_Ho_init, (fun k => mLook k [(7, (3, 0, .int, true)), (13, (3, 1, .int, true))]), (fun k => mLook k []), (fun k => mLook k []), (fun k => mLook k [(1, 0)]), (fun k => mLook k []), (fun k => mLook k []), (fun k => mLook k []), (fun k => [14].any (Nat.beq k)), (1, 20, 0, 0), true, (fun _ => none))
set_option maxRecDepth 100000 in
set_option maxHeartbeats 4000000 in
theorem q_Ho_init_e (t0 : Nat) (a1 : Int32) (a2 : Int32) (σ : MSto) (n : Nat) : mexe KT P_Ho_init (n + 1) (0, [some (mR 3 t0), some (mI a1), some (mI a2)], [], σ, 0, 0) = some (14, [], [], (sI (sI σ 3 t0 0 a1) 3 t0 1 a2), 0, 0) := rfl
set_option maxRecDepth 100000 in
set_option maxHeartbeats 4000000 in
theorem d_Ho_init (t0 : Nat) (a1 : Int32) (a2 : Int32) (σ : MSto) : mW1 P_Ho_init (0, [some (mR 3 t0), some (mI a1), some (mI a2)], [], σ, 0, 0) (mF [14] [] (e_Ho_init t0 a1 a2 σ) 0 0) := by
  refine mW1_eq (q_Ho_init_e _ _ _ _) ?_
  exact mTr_e (by decide) rfl (Eq.symm (rfl)) (by decide) (by decide)
theorem tk_Ho_init : ∀ pc i nx tg, T_Ho_init pc = some (i, nx, tg) → mOkB prog_4_method_1_code pc i nx tg = true := code_ok (N := 15) (fun k h => by unfold T_Ho_init; rw [h]; rfl) (by decide +kernel)
theorem al_Ho_init : ∀ pc i nx tg kd, pCode P_Ho_init pc = some (i, nx, tg) → pAlc P_Ho_init pc = some kd → match i with
    | .new x => mAOK "ClothWithMan$How" x kd
    | .newarray t => mNAOK t kd
    | .anewarray x => mAAOK "ClothWithMan$How" x kd
    | .invokespecial x => Cond.methodLink "ClothWithMan$How" x Lib.objectInit ∈ lw_tbl
    | _ => True := by
  intro pc i nx tg kd h1 h2
  have h3 := mLook_mem h2
  simp only [List.mem_cons, Prod.mk.injEq, List.not_mem_nil, or_false] at h3
  rcases h3 with ⟨rfl, rfl⟩
  · have e : T_Ho_init 1 = some (i, nx, tg) := h1
    cases e
    exact tw_4_213

theorem ok_Ho_init (l : Launch) : mPOK l "ClothWithMan$How" prog_4_method_1_code P_Ho_init := by
  refine ⟨tk_Ho_init, ?_, ?_, ?_, al_Ho_init, ?_, ?_, fun pc en h => by cases h⟩
  · intro x ci f ty fin h
    exact mLook_all (Q := fun x v => mFOK "ClothWithMan$How" x v.1 v.2.1 v.2.2.1 v.2.2.2 ∧ (v.2.2.2 = true → pIni P_Ho_init = true → (Cond.fieldLink "ClothWithMan$How" x (((mCl[v.1]?).getD ("", fun _ => ("", "", "", false), 0)).2.1 v.2.1).1 (((mCl[v.1]?).getD ("", fun _ => ("", "", "", false), 0)).2.1 v.2.1).2.1 (((mCl[v.1]?).getD ("", fun _ => ("", "", "", false), 0)).2.1 v.2.1).2.2.1 ∈ lw_tbl ∧ (((mCl[v.1]?).getD ("", fun _ => ("", "", "", false), 0)).2.1 v.2.1).1 = "ClothWithMan$How"))) (fcC ⟨fo_Ho_7, fun _ _ => ⟨tw_4_214, rfl⟩⟩ (fcC ⟨fo_Ho_13, fun _ _ => ⟨tw_4_215, rfl⟩⟩ fcN)) x (ci, f, ty, fin) h
  · intro x
    have hh := mLook_all (l := ([] : List (Nat × (Int32 ⊕ Int64)))) (Q := fun x (v : Int32 ⊕ Int64) => (∀ w, v = .inl w → Cond.constant "ClothWithMan$How" x w ∈ lw_tbl) ∧ (∀ w, v = .inr w → Cond.constantLong "ClothWithMan$How" x w ∈ lw_tbl)) fcN x
    exact ⟨fun w h => (hh _ h).1 w rfl, fun w h => (hh _ h).2 w rfl⟩
  · exact fun x en h => mLook_all (Q := fun x en => mLink "ClothWithMan$How" x en ∧ mCtr l en ∧ (en.1.1 = 2 → en.2.2.2.2.2.2 = none)) fcN x en h
  · exact fun x kd h => mLook_all (Q := fun x kd => (kd = 95 ∧ Cond.fieldLink "ClothWithMan$How" x "ClothWithMan" "LIKENESSES" "[I" ∈ lw_tbl) ∨ (kd = 96 ∧ Cond.fieldLink "ClothWithMan$How" x "ClothWithMan" "APART_BOUNDS" "[I" ∈ lw_tbl)) fcN x kd h
  · exact fun x ci h => mLook_all (Q := fun x ci => ci ≠ 0 ∧ ∃ (C : String) (T : u_T) (N : Nat), mCl[ci]? = some (C, T, N) ∧ Cond.classLink "ClothWithMan$How" x C ∈ lw_tbl ∧ Cond.instantiable C N ∈ lw_tbl) fcN x ci h
set_option maxRecDepth 100000 in
theorem c_Ho_init (l : Launch) : mCtr l E_Ho_init := mCtr_of (P := P_Ho_init) (own := "ClothWithMan$How") mLay_ok rfl (by decide +kernel) rfl (ok_Ho_init l) (fun _ => rfl) (fun as σ pr rv σ' hF hpr hlv => by
  unfold E_Ho_init S_Ho_init at hF
  simp only [] at hF
  split at hF
  · cases hF
    obtain ⟨n, pcF, c1, s1, g1, g2, g3, g4⟩ := mF_inv (d_Ho_init _ _ _ σ)
    exact ⟨Nat.le_of_ble_eq_true rfl, (fun v h => by cases h), n, pcF, c1, s1, g1, mEnd_of (i := .return_) (P := P_Ho_init) (rets := [14]) rfl g2, g3, g4⟩
  · cases hF
    exact (hpr _ rfl).elim)
/-! ClothWithMan$How.isOpen(II)Z -/
def b_Ho_isOpen (t0 : Nat) (a1 : Int32) (a2 : Int32) (σ : MSto) : Prop := (if ((gI σ 3 t0 0) &&& a2) = 0 then (if ((gI σ 3 t0 1) &&& a1) = 0 then True else False) else False)
noncomputable def v_Ho_isOpen (t0 : Nat) (a1 : Int32) (a2 : Int32) (σ : MSto) : Int32 := bI (b_Ho_isOpen t0 a1 a2 σ)
noncomputable def S_Ho_isOpen : List MV → MSto → Option Prop × Option MV × MSto := fun as σ => match as with
  | [.inr (.inr (some (3, i0))), .inl a0, .inl a1] => (none, some (mI (v_Ho_isOpen i0 a0 a1 σ)), σ)
  | _ => (some False, none, σ)
noncomputable def E_Ho_isOpen : MEnt := ((1, 2, 3), (0, 0, 0, 0), S_Ho_isOpen, ((⟨"ClothWithMan$How", "isOpen", "(II)Z"⟩ : MethodName), prog_4_method_2_code, 3, (some .boolean)))

def T_Ho_isOpen : Nat → Option (Instr × Nat × List Nat) := fun k => bif Nat.blt k 24 then (bif Nat.blt k 13 then (bif Nat.blt k 5 then (bif Nat.blt k 1 then (bif Nat.beq k 0 then some (.aload_n 0, 1, []) else none) else (bif Nat.blt k 4 then (bif Nat.beq k 1 then some (.getfield 7, 4, []) else none) else (bif Nat.beq k 4 then some (.iload_n 2, 5, []) else none))) else (bif Nat.blt k 9 then (bif Nat.blt k 6 then (bif Nat.beq k 5 then some (.iand, 6, []) else none) else (bif Nat.beq k 6 then some (.ifCond .ne 16, 9, [22]) else none)) else (bif Nat.blt k 10 then (bif Nat.beq k 9 then some (.aload_n 0, 10, []) else none) else (bif Nat.beq k 10 then some (.getfield 13, 13, []) else none)))) else (bif Nat.blt k 18 then (bif Nat.blt k 14 then (bif Nat.beq k 13 then some (.iload_n 1, 14, []) else none) else (bif Nat.blt k 15 then (bif Nat.beq k 14 then some (.iand, 15, []) else none) else (bif Nat.beq k 15 then some (.ifCond .ne 7, 18, [22]) else none))) else (bif Nat.blt k 22 then (bif Nat.blt k 19 then (bif Nat.beq k 18 then some (.iconst 1, 19, []) else none) else (bif Nat.beq k 19 then some (.goto 4, 22, [23]) else none)) else (bif Nat.blt k 23 then (bif Nat.beq k 22 then some (.iconst 0, 23, []) else none) else (bif Nat.beq k 23 then some (.ireturn, 24, []) else none))))) else none
noncomputable def P_Ho_isOpen : MP := (T_Ho_isOpen, (fun k => mLook k [(7, (3, 0, .int, true)), (13, (3, 1, .int, true))]), (fun k => mLook k []), (fun k => mLook k []), (fun k => mLook k []), (fun k => mLook k []), (fun k => mLook k []), (fun k => mLook k []), (fun k => [23].any (Nat.beq k)), (0, 0, 0, 0), false, (fun _ => none))
set_option maxRecDepth 100000 in
set_option maxHeartbeats 4000000 in
theorem q_Ho_isOpen_e (t0 : Nat) (a1 : Int32) (a2 : Int32) (σ : MSto) (n : Nat) : mexe KT P_Ho_isOpen (n + 1) (0, [some (mR 3 t0), some (mI a1), some (mI a2)], [], σ, 0, 0) = mIf (((gI σ 3 t0 0) &&& a2) = 0) (mIf (((gI σ 3 t0 1) &&& a1) = 0) (some (23, [], [(mI 1)], σ, 0, 0)) (some (23, [], [(mI 0)], σ, 0, 0))) (some (23, [], [(mI 0)], σ, 0, 0)) := rfl
set_option maxRecDepth 100000 in
set_option maxHeartbeats 4000000 in
theorem d_Ho_isOpen (t0 : Nat) (a1 : Int32) (a2 : Int32) (σ : MSto) : mW1 P_Ho_isOpen (0, [some (mR 3 t0), some (mI a1), some (mI a2)], [], σ, 0, 0) (mF [23] [mI (v_Ho_isOpen t0 a1 a2 σ)] σ 0 0) := by
  refine mW1_eq (q_Ho_isOpen_e _ _ _ _) ?_
  unfold v_Ho_isOpen
  refine mTr_if (fun h0 => ?_) (fun h0 => ?_)
  · skip
    refine mTr_if (fun h1 => ?_) (fun h1 => ?_)
    · skip
      exact mTr_e (by decide) (bI_T ((if_pos h0).trans (if_pos h1))) rfl (by decide) (by decide)
    · skip
      exact mTr_e (by decide) (bI_F ((if_pos h0).trans (if_neg h1))) rfl (by decide) (by decide)
  · skip
    exact mTr_e (by decide) (bI_F (if_neg h0)) rfl (by decide) (by decide)
theorem tk_Ho_isOpen : ∀ pc i nx tg, T_Ho_isOpen pc = some (i, nx, tg) → mOkB prog_4_method_2_code pc i nx tg = true := code_ok (N := 24) (fun k h => by unfold T_Ho_isOpen; rw [h]; rfl) (by decide +kernel)
theorem ok_Ho_isOpen (l : Launch) : mPOK l "ClothWithMan$How" prog_4_method_2_code P_Ho_isOpen := by
  refine ⟨tk_Ho_isOpen, ?_, ?_, ?_, (fun pc i nx tg kd _ h => by cases h), ?_, ?_, fun pc en h => by cases h⟩
  · intro x ci f ty fin h
    exact mLook_all (Q := fun x v => mFOK "ClothWithMan$How" x v.1 v.2.1 v.2.2.1 v.2.2.2 ∧ (v.2.2.2 = true → pIni P_Ho_isOpen = true → (Cond.fieldLink "ClothWithMan$How" x (((mCl[v.1]?).getD ("", fun _ => ("", "", "", false), 0)).2.1 v.2.1).1 (((mCl[v.1]?).getD ("", fun _ => ("", "", "", false), 0)).2.1 v.2.1).2.1 (((mCl[v.1]?).getD ("", fun _ => ("", "", "", false), 0)).2.1 v.2.1).2.2.1 ∈ lw_tbl ∧ (((mCl[v.1]?).getD ("", fun _ => ("", "", "", false), 0)).2.1 v.2.1).1 = "ClothWithMan$How"))) (fcC ⟨fo_Ho_7, fun h1 h2 => by cases h2⟩ (fcC ⟨fo_Ho_13, fun h1 h2 => by cases h2⟩ fcN)) x (ci, f, ty, fin) h
  · intro x
    have hh := mLook_all (l := ([] : List (Nat × (Int32 ⊕ Int64)))) (Q := fun x (v : Int32 ⊕ Int64) => (∀ w, v = .inl w → Cond.constant "ClothWithMan$How" x w ∈ lw_tbl) ∧ (∀ w, v = .inr w → Cond.constantLong "ClothWithMan$How" x w ∈ lw_tbl)) fcN x
    exact ⟨fun w h => (hh _ h).1 w rfl, fun w h => (hh _ h).2 w rfl⟩
  · exact fun x en h => mLook_all (Q := fun x en => mLink "ClothWithMan$How" x en ∧ mCtr l en ∧ (en.1.1 = 2 → en.2.2.2.2.2.2 = none)) fcN x en h
  · exact fun x kd h => mLook_all (Q := fun x kd => (kd = 95 ∧ Cond.fieldLink "ClothWithMan$How" x "ClothWithMan" "LIKENESSES" "[I" ∈ lw_tbl) ∨ (kd = 96 ∧ Cond.fieldLink "ClothWithMan$How" x "ClothWithMan" "APART_BOUNDS" "[I" ∈ lw_tbl)) fcN x kd h
  · exact fun x ci h => mLook_all (Q := fun x ci => ci ≠ 0 ∧ ∃ (C : String) (T : u_T) (N : Nat), mCl[ci]? = some (C, T, N) ∧ Cond.classLink "ClothWithMan$How" x C ∈ lw_tbl ∧ Cond.instantiable C N ∈ lw_tbl) fcN x ci h
set_option maxRecDepth 100000 in
theorem c_Ho_isOpen (l : Launch) : mCtr l E_Ho_isOpen := mCtr_of (P := P_Ho_isOpen) (own := "ClothWithMan$How") mLay_ok rfl (by decide +kernel) rfl (ok_Ho_isOpen l) (fun h => by cases h) (fun as σ pr rv σ' hF hpr hlv => by
  unfold E_Ho_isOpen S_Ho_isOpen at hF
  simp only [] at hF
  split at hF
  · cases hF
    obtain ⟨n, pcF, c1, s1, g1, g2, g3, g4⟩ := mF_inv (d_Ho_isOpen _ _ _ σ)
    exact ⟨Nat.le_of_ble_eq_true rfl, (fun v h => by cases h; trivial), n, pcF, c1, s1, g1, ⟨mEnd_of (i := .ireturn) (P := P_Ho_isOpen) (rets := [23]) rfl g2, bI_narrow _⟩, g3, g4⟩
  · cases hF
    exact (hpr _ rfl).elim)
/-! ClothWithMan$How.isAllKnown(II)Z -/
def b_Ho_isAllKnown (t0 : Nat) (a1 : Int32) (a2 : Int32) (σ : MSto) : Prop := (if ((gI σ 3 t0 0) &&& (a1 ^^^ (-1))) = 0 then (if ((gI σ 3 t0 1) &&& (a2 ^^^ (-1))) = 0 then True else False) else False)
noncomputable def v_Ho_isAllKnown (t0 : Nat) (a1 : Int32) (a2 : Int32) (σ : MSto) : Int32 := bI (b_Ho_isAllKnown t0 a1 a2 σ)
noncomputable def S_Ho_isAllKnown : List MV → MSto → Option Prop × Option MV × MSto := fun as σ => match as with
  | [.inr (.inr (some (3, i0))), .inl a0, .inl a1] => (none, some (mI (v_Ho_isAllKnown i0 a0 a1 σ)), σ)
  | _ => (some False, none, σ)
noncomputable def E_Ho_isAllKnown : MEnt := ((1, 2, 3), (0, 0, 0, 0), S_Ho_isAllKnown, ((⟨"ClothWithMan$How", "isAllKnown", "(II)Z"⟩ : MethodName), prog_4_method_3_code, 3, (some .boolean)))

def T_Ho_isAllKnown : Nat → Option (Instr × Nat × List Nat) := fun k => bif Nat.blt k 28 then (bif Nat.blt k 15 then (bif Nat.blt k 6 then (bif Nat.blt k 4 then (bif Nat.blt k 1 then (bif Nat.beq k 0 then some (.aload_n 0, 1, []) else none) else (bif Nat.beq k 1 then some (.getfield 7, 4, []) else none)) else (bif Nat.blt k 5 then (bif Nat.beq k 4 then some (.iload_n 1, 5, []) else none) else (bif Nat.beq k 5 then some (.iconst (-1), 6, []) else none))) else (bif Nat.blt k 8 then (bif Nat.blt k 7 then (bif Nat.beq k 6 then some (.ixor, 7, []) else none) else (bif Nat.beq k 7 then some (.iand, 8, []) else none)) else (bif Nat.blt k 11 then (bif Nat.beq k 8 then some (.ifCond .ne 18, 11, [26]) else none) else (bif Nat.blt k 12 then (bif Nat.beq k 11 then some (.aload_n 0, 12, []) else none) else (bif Nat.beq k 12 then some (.getfield 13, 15, []) else none))))) else (bif Nat.blt k 19 then (bif Nat.blt k 17 then (bif Nat.blt k 16 then (bif Nat.beq k 15 then some (.iload_n 2, 16, []) else none) else (bif Nat.beq k 16 then some (.iconst (-1), 17, []) else none)) else (bif Nat.blt k 18 then (bif Nat.beq k 17 then some (.ixor, 18, []) else none) else (bif Nat.beq k 18 then some (.iand, 19, []) else none))) else (bif Nat.blt k 23 then (bif Nat.blt k 22 then (bif Nat.beq k 19 then some (.ifCond .ne 7, 22, [26]) else none) else (bif Nat.beq k 22 then some (.iconst 1, 23, []) else none)) else (bif Nat.blt k 26 then (bif Nat.beq k 23 then some (.goto 4, 26, [27]) else none) else (bif Nat.blt k 27 then (bif Nat.beq k 26 then some (.iconst 0, 27, []) else none) else (bif Nat.beq k 27 then some (.ireturn, 28, []) else none)))))) else none
noncomputable def P_Ho_isAllKnown : MP := (T_Ho_isAllKnown, (fun k => mLook k [(7, (3, 0, .int, true)), (13, (3, 1, .int, true))]), (fun k => mLook k []), (fun k => mLook k []), (fun k => mLook k []), (fun k => mLook k []), (fun k => mLook k []), (fun k => mLook k []), (fun k => [27].any (Nat.beq k)), (0, 0, 0, 0), false, (fun _ => none))
set_option maxRecDepth 100000 in
set_option maxHeartbeats 4000000 in
theorem q_Ho_isAllKnown_e (t0 : Nat) (a1 : Int32) (a2 : Int32) (σ : MSto) (n : Nat) : mexe KT P_Ho_isAllKnown (n + 1) (0, [some (mR 3 t0), some (mI a1), some (mI a2)], [], σ, 0, 0) = mIf (((gI σ 3 t0 0) &&& (a1 ^^^ (-1))) = 0) (mIf (((gI σ 3 t0 1) &&& (a2 ^^^ (-1))) = 0) (some (27, [], [(mI 1)], σ, 0, 0)) (some (27, [], [(mI 0)], σ, 0, 0))) (some (27, [], [(mI 0)], σ, 0, 0)) := rfl
set_option maxRecDepth 100000 in
set_option maxHeartbeats 4000000 in
theorem d_Ho_isAllKnown (t0 : Nat) (a1 : Int32) (a2 : Int32) (σ : MSto) : mW1 P_Ho_isAllKnown (0, [some (mR 3 t0), some (mI a1), some (mI a2)], [], σ, 0, 0) (mF [27] [mI (v_Ho_isAllKnown t0 a1 a2 σ)] σ 0 0) := by
  refine mW1_eq (q_Ho_isAllKnown_e _ _ _ _) ?_
  unfold v_Ho_isAllKnown
  refine mTr_if (fun h0 => ?_) (fun h0 => ?_)
  · skip
    refine mTr_if (fun h1 => ?_) (fun h1 => ?_)
    · skip
      exact mTr_e (by decide) (bI_T ((if_pos h0).trans (if_pos h1))) rfl (by decide) (by decide)
    · skip
      exact mTr_e (by decide) (bI_F ((if_pos h0).trans (if_neg h1))) rfl (by decide) (by decide)
  · skip
    exact mTr_e (by decide) (bI_F (if_neg h0)) rfl (by decide) (by decide)
theorem tk_Ho_isAllKnown : ∀ pc i nx tg, T_Ho_isAllKnown pc = some (i, nx, tg) → mOkB prog_4_method_3_code pc i nx tg = true := code_ok (N := 28) (fun k h => by unfold T_Ho_isAllKnown; rw [h]; rfl) (by decide +kernel)
theorem ok_Ho_isAllKnown (l : Launch) : mPOK l "ClothWithMan$How" prog_4_method_3_code P_Ho_isAllKnown := by
  refine ⟨tk_Ho_isAllKnown, ?_, ?_, ?_, (fun pc i nx tg kd _ h => by cases h), ?_, ?_, fun pc en h => by cases h⟩
  · intro x ci f ty fin h
    exact mLook_all (Q := fun x v => mFOK "ClothWithMan$How" x v.1 v.2.1 v.2.2.1 v.2.2.2 ∧ (v.2.2.2 = true → pIni P_Ho_isAllKnown = true → (Cond.fieldLink "ClothWithMan$How" x (((mCl[v.1]?).getD ("", fun _ => ("", "", "", false), 0)).2.1 v.2.1).1 (((mCl[v.1]?).getD ("", fun _ => ("", "", "", false), 0)).2.1 v.2.1).2.1 (((mCl[v.1]?).getD ("", fun _ => ("", "", "", false), 0)).2.1 v.2.1).2.2.1 ∈ lw_tbl ∧ (((mCl[v.1]?).getD ("", fun _ => ("", "", "", false), 0)).2.1 v.2.1).1 = "ClothWithMan$How"))) (fcC ⟨fo_Ho_7, fun h1 h2 => by cases h2⟩ (fcC ⟨fo_Ho_13, fun h1 h2 => by cases h2⟩ fcN)) x (ci, f, ty, fin) h
  · intro x
    have hh := mLook_all (l := ([] : List (Nat × (Int32 ⊕ Int64)))) (Q := fun x (v : Int32 ⊕ Int64) => (∀ w, v = .inl w → Cond.constant "ClothWithMan$How" x w ∈ lw_tbl) ∧ (∀ w, v = .inr w → Cond.constantLong "ClothWithMan$How" x w ∈ lw_tbl)) fcN x
    exact ⟨fun w h => (hh _ h).1 w rfl, fun w h => (hh _ h).2 w rfl⟩
  · exact fun x en h => mLook_all (Q := fun x en => mLink "ClothWithMan$How" x en ∧ mCtr l en ∧ (en.1.1 = 2 → en.2.2.2.2.2.2 = none)) fcN x en h
  · exact fun x kd h => mLook_all (Q := fun x kd => (kd = 95 ∧ Cond.fieldLink "ClothWithMan$How" x "ClothWithMan" "LIKENESSES" "[I" ∈ lw_tbl) ∨ (kd = 96 ∧ Cond.fieldLink "ClothWithMan$How" x "ClothWithMan" "APART_BOUNDS" "[I" ∈ lw_tbl)) fcN x kd h
  · exact fun x ci h => mLook_all (Q := fun x ci => ci ≠ 0 ∧ ∃ (C : String) (T : u_T) (N : Nat), mCl[ci]? = some (C, T, N) ∧ Cond.classLink "ClothWithMan$How" x C ∈ lw_tbl ∧ Cond.instantiable C N ∈ lw_tbl) fcN x ci h
set_option maxRecDepth 100000 in
theorem c_Ho_isAllKnown (l : Launch) : mCtr l E_Ho_isAllKnown := mCtr_of (P := P_Ho_isAllKnown) (own := "ClothWithMan$How") mLay_ok rfl (by decide +kernel) rfl (ok_Ho_isAllKnown l) (fun h => by cases h) (fun as σ pr rv σ' hF hpr hlv => by
  unfold E_Ho_isAllKnown S_Ho_isAllKnown at hF
  simp only [] at hF
  split at hF
  · cases hF
    obtain ⟨n, pcF, c1, s1, g1, g2, g3, g4⟩ := mF_inv (d_Ho_isAllKnown _ _ _ σ)
    exact ⟨Nat.le_of_ble_eq_true rfl, (fun v h => by cases h; trivial), n, pcF, c1, s1, g1, ⟨mEnd_of (i := .ireturn) (P := P_Ho_isAllKnown) (rets := [27]) rfl g2, bI_narrow _⟩, g3, g4⟩
  · cases hF
    exact (hpr _ rfl).elim)
/-! ClothWithMan$Paper.<init>(IZI)V -/
def p_Pp_init (t0 : Nat) (a1 : Int32) (a2 : Int32) (a3 : Int32) (σ : MSto) : Prop := (vp_nar .boolean a2 = a2)
noncomputable def e_Pp_init (t0 : Nat) (a1 : Int32) (a2 : Int32) (a3 : Int32) (σ : MSto) : MSto := (sI (sI (sI σ 5 t0 0 a1) 5 t0 1 a2) 5 t0 2 a3)
noncomputable def S_Pp_init : List MV → MSto → Option Prop × Option MV × MSto := fun as σ => match as with
  | [.inr (.inr (some (5, i0))), .inl a0, .inl a1, .inl a2] => (some (p_Pp_init i0 a0 a1 a2 σ), none, e_Pp_init i0 a0 a1 a2 σ)
  | _ => (some False, none, σ)
noncomputable def E_Pp_init : MEnt := ((2, 3, 5), (1, 20, 0, 0), S_Pp_init, ((⟨"ClothWithMan$Paper", "<init>", "(IZI)V"⟩ : MethodName), prog_6_method_1_code, 4, none))

def T_Pp_init : Nat → Option (Instr × Nat × List Nat) := fun k => bif Nat.blt k 20 then (bif Nat.blt k 10 then (bif Nat.blt k 5 then (bif Nat.blt k 1 then (bif Nat.beq k 0 then some (.aload_n 0, 1, []) else none) else (bif Nat.blt k 4 then (bif Nat.beq k 1 then some (.invokespecial 1, 4, []) else none) else (bif Nat.beq k 4 then some (.aload_n 0, 5, []) else none))) else (bif Nat.blt k 6 then (bif Nat.beq k 5 then some (.iload_n 1, 6, []) else none) else (bif Nat.blt k 9 then (bif Nat.beq k 6 then some (.putfield 7, 9, []) else none) else (bif Nat.beq k 9 then some (.aload_n 0, 10, []) else none)))) else (bif Nat.blt k 15 then (bif Nat.blt k 11 then (bif Nat.beq k 10 then some (.iload_n 2, 11, []) else none) else (bif Nat.blt k 14 then (bif Nat.beq k 11 then some (.putfield 13, 14, []) else none) else (bif Nat.beq k 14 then some (.aload_n 0, 15, []) else none))) else (bif Nat.blt k 16 then (bif Nat.beq k 15 then some (.iload_n 3, 16, []) else none) else (bif Nat.blt k 19 then (bif Nat.beq k 16 then some (.putfield 17, 19, []) else none) else (bif Nat.beq k 19 then some (.return_, 20, []) else none))))) else none
noncomputable def P_Pp_init : MP := (T_Pp_init, (fun k => mLook k [(7, (5, 0, .int, true)), (13, (5, 1, .boolean, true)), (17, (5, 2, .int, true))]), (fun k => mLook k []), (fun k => mLook k []), (fun k => mLook k [(1, 0)]), (fun k => mLook k []), (fun k => mLook k []), (fun k => mLook k []), (fun k => [19].any (Nat.beq k)), (1, 20, 0, 0), true, (fun _ => none))
set_option maxRecDepth 100000 in
set_option maxHeartbeats 4000000 in
theorem q_Pp_init_e (t0 : Nat) (a1 : Int32) (a2 : Int32) (a3 : Int32) (σ : MSto) (n : Nat) : mexe KT P_Pp_init (n + 1) (0, [some (mR 5 t0), some (mI a1), some (mI a2), some (mI a3)], [], σ, 0, 0) = mG (vp_nar .boolean a2 = a2) (some (19, [], [], (sI (sI (sI σ 5 t0 0 a1) 5 t0 1 a2) 5 t0 2 a3), 0, 0)) := rfl
set_option maxRecDepth 100000 in
set_option maxHeartbeats 4000000 in
theorem d_Pp_init (t0 : Nat) (a1 : Int32) (a2 : Int32) (a3 : Int32) (σ : MSto) (hp : p_Pp_init t0 a1 a2 a3 σ) : mW1 P_Pp_init (0, [some (mR 5 t0), some (mI a1), some (mI a2), some (mI a3)], [], σ, 0, 0) (mF [19] [] (e_Pp_init t0 a1 a2 a3 σ) 0 0) := by
  refine mW1_eq (q_Pp_init_e _ _ _ _ _) ?_
  unfold p_Pp_init at hp
  refine mTr_g hp ?_
  exact mTr_e (by decide) rfl (Eq.symm (rfl)) (by decide) (by decide)
theorem tk_Pp_init : ∀ pc i nx tg, T_Pp_init pc = some (i, nx, tg) → mOkB prog_6_method_1_code pc i nx tg = true := code_ok (N := 20) (fun k h => by unfold T_Pp_init; rw [h]; rfl) (by decide +kernel)
theorem al_Pp_init : ∀ pc i nx tg kd, pCode P_Pp_init pc = some (i, nx, tg) → pAlc P_Pp_init pc = some kd → match i with
    | .new x => mAOK "ClothWithMan$Paper" x kd
    | .newarray t => mNAOK t kd
    | .anewarray x => mAAOK "ClothWithMan$Paper" x kd
    | .invokespecial x => Cond.methodLink "ClothWithMan$Paper" x Lib.objectInit ∈ lw_tbl
    | _ => True := by
  intro pc i nx tg kd h1 h2
  have h3 := mLook_mem h2
  simp only [List.mem_cons, Prod.mk.injEq, List.not_mem_nil, or_false] at h3
  rcases h3 with ⟨rfl, rfl⟩
  · have e : T_Pp_init 1 = some (i, nx, tg) := h1
    cases e
    exact tw_4_65

theorem ok_Pp_init (l : Launch) : mPOK l "ClothWithMan$Paper" prog_6_method_1_code P_Pp_init := by
  refine ⟨tk_Pp_init, ?_, ?_, ?_, al_Pp_init, ?_, ?_, fun pc en h => by cases h⟩
  · intro x ci f ty fin h
    exact mLook_all (Q := fun x v => mFOK "ClothWithMan$Paper" x v.1 v.2.1 v.2.2.1 v.2.2.2 ∧ (v.2.2.2 = true → pIni P_Pp_init = true → (Cond.fieldLink "ClothWithMan$Paper" x (((mCl[v.1]?).getD ("", fun _ => ("", "", "", false), 0)).2.1 v.2.1).1 (((mCl[v.1]?).getD ("", fun _ => ("", "", "", false), 0)).2.1 v.2.1).2.1 (((mCl[v.1]?).getD ("", fun _ => ("", "", "", false), 0)).2.1 v.2.1).2.2.1 ∈ lw_tbl ∧ (((mCl[v.1]?).getD ("", fun _ => ("", "", "", false), 0)).2.1 v.2.1).1 = "ClothWithMan$Paper"))) (fcC ⟨fo_Pp_7, fun _ _ => ⟨tw_4_66, rfl⟩⟩ (fcC ⟨fo_Pp_13, fun _ _ => ⟨tw_4_67, rfl⟩⟩ (fcC ⟨fo_Pp_17, fun _ _ => ⟨tw_4_68, rfl⟩⟩ fcN))) x (ci, f, ty, fin) h
  · intro x
    have hh := mLook_all (l := ([] : List (Nat × (Int32 ⊕ Int64)))) (Q := fun x (v : Int32 ⊕ Int64) => (∀ w, v = .inl w → Cond.constant "ClothWithMan$Paper" x w ∈ lw_tbl) ∧ (∀ w, v = .inr w → Cond.constantLong "ClothWithMan$Paper" x w ∈ lw_tbl)) fcN x
    exact ⟨fun w h => (hh _ h).1 w rfl, fun w h => (hh _ h).2 w rfl⟩
  · exact fun x en h => mLook_all (Q := fun x en => mLink "ClothWithMan$Paper" x en ∧ mCtr l en ∧ (en.1.1 = 2 → en.2.2.2.2.2.2 = none)) fcN x en h
  · exact fun x kd h => mLook_all (Q := fun x kd => (kd = 95 ∧ Cond.fieldLink "ClothWithMan$Paper" x "ClothWithMan" "LIKENESSES" "[I" ∈ lw_tbl) ∨ (kd = 96 ∧ Cond.fieldLink "ClothWithMan$Paper" x "ClothWithMan" "APART_BOUNDS" "[I" ∈ lw_tbl)) fcN x kd h
  · exact fun x ci h => mLook_all (Q := fun x ci => ci ≠ 0 ∧ ∃ (C : String) (T : u_T) (N : Nat), mCl[ci]? = some (C, T, N) ∧ Cond.classLink "ClothWithMan$Paper" x C ∈ lw_tbl ∧ Cond.instantiable C N ∈ lw_tbl) fcN x ci h
set_option maxRecDepth 100000 in
theorem c_Pp_init (l : Launch) : mCtr l E_Pp_init := mCtr_of (P := P_Pp_init) (own := "ClothWithMan$Paper") mLay_ok rfl (by decide +kernel) rfl (ok_Pp_init l) (fun _ => rfl) (fun as σ pr rv σ' hF hpr hlv => by
  unfold E_Pp_init S_Pp_init at hF
  simp only [] at hF
  split at hF
  · cases hF
    obtain ⟨n, pcF, c1, s1, g1, g2, g3, g4⟩ := mF_inv (d_Pp_init _ _ _ _ σ (hpr _ rfl))
    exact ⟨Nat.le_of_ble_eq_true rfl, (fun v h => by cases h), n, pcF, c1, s1, g1, mEnd_of (i := .return_) (P := P_Pp_init) (rets := [19]) rfl g2, g3, g4⟩
  · cases hF
    exact (hpr _ rfl).elim)
/-! ClothWithMan$Paper.fitTo(I)I -/
noncomputable def v_Pp_fitTo (t0 : Nat) (a1 : Int32) (σ : MSto) : Int32 := (if a1 ≤ (gI σ 5 t0 0) then (if (gI σ 5 t0 1) = 0 then (10 - (gI σ 5 t0 2)) else (gI σ 5 t0 2)) else (if (gI σ 5 t0 1) = 1 then (10 - (gI σ 5 t0 2)) else (gI σ 5 t0 2)))
noncomputable def S_Pp_fitTo : List MV → MSto → Option Prop × Option MV × MSto := fun as σ => match as with
  | [.inr (.inr (some (5, i0))), .inl a0] => (none, some (mI (v_Pp_fitTo i0 a0 σ)), σ)
  | _ => (some False, none, σ)
noncomputable def E_Pp_fitTo : MEnt := ((1, 1, 5), (0, 0, 0, 0), S_Pp_fitTo, ((⟨"ClothWithMan$Paper", "fitTo", "(I)I"⟩ : MethodName), prog_6_method_2_code, 3, (some .int)))

def T_Pp_fitTo : Nat → Option (Instr × Nat × List Nat) := fun k => bif Nat.blt k 37 then (bif Nat.blt k 18 then (bif Nat.blt k 9 then (bif Nat.blt k 2 then (bif Nat.blt k 1 then (bif Nat.beq k 0 then some (.iload_n 1, 1, []) else none) else (bif Nat.beq k 1 then some (.aload_n 0, 2, []) else none)) else (bif Nat.blt k 5 then (bif Nat.beq k 2 then some (.getfield 7, 5, []) else none) else (bif Nat.blt k 8 then (bif Nat.beq k 5 then some (.if_icmp .le 7, 8, [12]) else none) else (bif Nat.beq k 8 then some (.iconst 1, 9, []) else none)))) else (bif Nat.blt k 13 then (bif Nat.blt k 12 then (bif Nat.beq k 9 then some (.goto 4, 12, [13]) else none) else (bif Nat.beq k 12 then some (.iconst 0, 13, []) else none)) else (bif Nat.blt k 14 then (bif Nat.beq k 13 then some (.istore_n 2, 14, []) else none) else (bif Nat.blt k 15 then (bif Nat.beq k 14 then some (.aload_n 0, 15, []) else none) else (bif Nat.beq k 15 then some (.getfield 13, 18, []) else none))))) else (bif Nat.blt k 29 then (bif Nat.blt k 22 then (bif Nat.blt k 19 then (bif Nat.beq k 18 then some (.iload_n 2, 19, []) else none) else (bif Nat.beq k 19 then some (.if_icmp .eq 10, 22, [29]) else none)) else (bif Nat.blt k 23 then (bif Nat.beq k 22 then some (.aload_n 0, 23, []) else none) else (bif Nat.blt k 26 then (bif Nat.beq k 23 then some (.getfield 17, 26, []) else none) else (bif Nat.beq k 26 then some (.goto 10, 29, [36]) else none)))) else (bif Nat.blt k 32 then (bif Nat.blt k 31 then (bif Nat.beq k 29 then some (.bipush 10, 31, []) else none) else (bif Nat.beq k 31 then some (.aload_n 0, 32, []) else none)) else (bif Nat.blt k 35 then (bif Nat.beq k 32 then some (.getfield 17, 35, []) else none) else (bif Nat.blt k 36 then (bif Nat.beq k 35 then some (.isub, 36, []) else none) else (bif Nat.beq k 36 then some (.ireturn, 37, []) else none)))))) else none
noncomputable def P_Pp_fitTo : MP := (T_Pp_fitTo, (fun k => mLook k [(7, (5, 0, .int, true)), (13, (5, 1, .boolean, true)), (17, (5, 2, .int, true))]), (fun k => mLook k []), (fun k => mLook k []), (fun k => mLook k []), (fun k => mLook k []), (fun k => mLook k []), (fun k => mLook k []), (fun k => [36].any (Nat.beq k)), (0, 0, 0, 0), false, (fun _ => none))
set_option maxRecDepth 100000 in
set_option maxHeartbeats 4000000 in
theorem q_Pp_fitTo_e (t0 : Nat) (a1 : Int32) (σ : MSto) (n : Nat) : mexe KT P_Pp_fitTo (n + 1) (0, [some (mR 5 t0), some (mI a1), none], [], σ, 0, 0) = mIf (a1 ≤ (gI σ 5 t0 0)) (mIf ((gI σ 5 t0 1) = 0) (some (36, [], [(mI (10 - (gI σ 5 t0 2)))], σ, 0, 0)) (some (36, [], [(mI (gI σ 5 t0 2))], σ, 0, 0))) (mIf ((gI σ 5 t0 1) = 1) (some (36, [], [(mI (10 - (gI σ 5 t0 2)))], σ, 0, 0)) (some (36, [], [(mI (gI σ 5 t0 2))], σ, 0, 0))) := rfl
set_option maxRecDepth 100000 in
set_option maxHeartbeats 4000000 in
theorem d_Pp_fitTo (t0 : Nat) (a1 : Int32) (σ : MSto) : mW1 P_Pp_fitTo (0, [some (mR 5 t0), some (mI a1), none], [], σ, 0, 0) (mF [36] [mI (v_Pp_fitTo t0 a1 σ)] σ 0 0) := by
  refine mW1_eq (q_Pp_fitTo_e _ _ _) ?_
  refine mTr_if (fun h0 => ?_) (fun h0 => ?_)
  · skip
    refine mTr_if (fun h1 => ?_) (fun h1 => ?_)
    · skip
      exact mTr_e (by decide) (congrArg (fun z => [mI z]) (Eq.symm ((if_pos h0).trans (if_pos h1)))) rfl (by decide) (by decide)
    · skip
      exact mTr_e (by decide) (congrArg (fun z => [mI z]) (Eq.symm ((if_pos h0).trans (if_neg h1)))) rfl (by decide) (by decide)
  · skip
    refine mTr_if (fun h1 => ?_) (fun h1 => ?_)
    · skip
      exact mTr_e (by decide) (congrArg (fun z => [mI z]) (Eq.symm ((if_neg h0).trans (if_pos h1)))) rfl (by decide) (by decide)
    · skip
      exact mTr_e (by decide) (congrArg (fun z => [mI z]) (Eq.symm ((if_neg h0).trans (if_neg h1)))) rfl (by decide) (by decide)
theorem tk_Pp_fitTo : ∀ pc i nx tg, T_Pp_fitTo pc = some (i, nx, tg) → mOkB prog_6_method_2_code pc i nx tg = true := code_ok (N := 37) (fun k h => by unfold T_Pp_fitTo; rw [h]; rfl) (by decide +kernel)
theorem ok_Pp_fitTo (l : Launch) : mPOK l "ClothWithMan$Paper" prog_6_method_2_code P_Pp_fitTo := by
  refine ⟨tk_Pp_fitTo, ?_, ?_, ?_, (fun pc i nx tg kd _ h => by cases h), ?_, ?_, fun pc en h => by cases h⟩
  · intro x ci f ty fin h
    exact mLook_all (Q := fun x v => mFOK "ClothWithMan$Paper" x v.1 v.2.1 v.2.2.1 v.2.2.2 ∧ (v.2.2.2 = true → pIni P_Pp_fitTo = true → (Cond.fieldLink "ClothWithMan$Paper" x (((mCl[v.1]?).getD ("", fun _ => ("", "", "", false), 0)).2.1 v.2.1).1 (((mCl[v.1]?).getD ("", fun _ => ("", "", "", false), 0)).2.1 v.2.1).2.1 (((mCl[v.1]?).getD ("", fun _ => ("", "", "", false), 0)).2.1 v.2.1).2.2.1 ∈ lw_tbl ∧ (((mCl[v.1]?).getD ("", fun _ => ("", "", "", false), 0)).2.1 v.2.1).1 = "ClothWithMan$Paper"))) (fcC ⟨fo_Pp_7, fun h1 h2 => by cases h2⟩ (fcC ⟨fo_Pp_13, fun h1 h2 => by cases h2⟩ (fcC ⟨fo_Pp_17, fun h1 h2 => by cases h2⟩ fcN))) x (ci, f, ty, fin) h
  · intro x
    have hh := mLook_all (l := ([] : List (Nat × (Int32 ⊕ Int64)))) (Q := fun x (v : Int32 ⊕ Int64) => (∀ w, v = .inl w → Cond.constant "ClothWithMan$Paper" x w ∈ lw_tbl) ∧ (∀ w, v = .inr w → Cond.constantLong "ClothWithMan$Paper" x w ∈ lw_tbl)) fcN x
    exact ⟨fun w h => (hh _ h).1 w rfl, fun w h => (hh _ h).2 w rfl⟩
  · exact fun x en h => mLook_all (Q := fun x en => mLink "ClothWithMan$Paper" x en ∧ mCtr l en ∧ (en.1.1 = 2 → en.2.2.2.2.2.2 = none)) fcN x en h
  · exact fun x kd h => mLook_all (Q := fun x kd => (kd = 95 ∧ Cond.fieldLink "ClothWithMan$Paper" x "ClothWithMan" "LIKENESSES" "[I" ∈ lw_tbl) ∨ (kd = 96 ∧ Cond.fieldLink "ClothWithMan$Paper" x "ClothWithMan" "APART_BOUNDS" "[I" ∈ lw_tbl)) fcN x kd h
  · exact fun x ci h => mLook_all (Q := fun x ci => ci ≠ 0 ∧ ∃ (C : String) (T : u_T) (N : Nat), mCl[ci]? = some (C, T, N) ∧ Cond.classLink "ClothWithMan$Paper" x C ∈ lw_tbl ∧ Cond.instantiable C N ∈ lw_tbl) fcN x ci h
set_option maxRecDepth 100000 in
theorem c_Pp_fitTo (l : Launch) : mCtr l E_Pp_fitTo := mCtr_of (P := P_Pp_fitTo) (own := "ClothWithMan$Paper") mLay_ok rfl (by decide +kernel) rfl (ok_Pp_fitTo l) (fun h => by cases h) (fun as σ pr rv σ' hF hpr hlv => by
  unfold E_Pp_fitTo S_Pp_fitTo at hF
  simp only [] at hF
  split at hF
  · cases hF
    obtain ⟨n, pcF, c1, s1, g1, g2, g3, g4⟩ := mF_inv (d_Pp_fitTo _ _ σ)
    exact ⟨Nat.le_of_ble_eq_true rfl, (fun v h => by cases h; trivial), n, pcF, c1, s1, g1, ⟨mEnd_of (i := .ireturn) (P := P_Pp_fitTo) (rets := [36]) rfl g2, rfl⟩, g3, g4⟩
  · cases hF
    exact (hpr _ rfl).elim)
/-! ClothWithMan$Patch.<init>(IIIIII)V -/
noncomputable def e_Pt_init (t0 : Nat) (a1 : Int32) (a2 : Int32) (a3 : Int32) (a4 : Int32) (a5 : Int32) (a6 : Int32) (σ : MSto) : MSto := (sI (sI (sI (sI (sI (sI σ 6 t0 0 a1) 6 t0 1 a2) 6 t0 2 a3) 6 t0 3 a4) 6 t0 4 a5) 6 t0 5 a6)
noncomputable def S_Pt_init : List MV → MSto → Option Prop × Option MV × MSto := fun as σ => match as with
  | [.inr (.inr (some (6, i0))), .inl a0, .inl a1, .inl a2, .inl a3, .inl a4, .inl a5] => (none, none, e_Pt_init i0 a0 a1 a2 a3 a4 a5 σ)
  | _ => (some False, none, σ)
noncomputable def E_Pt_init : MEnt := ((2, 6, 6), (1, 20, 0, 0), S_Pt_init, ((⟨"ClothWithMan$Patch", "<init>", "(IIIIII)V"⟩ : MethodName), prog_7_method_1_code, 7, none))

def T_Pt_init : Nat → Option (Instr × Nat × List Nat) := fun k => bif Nat.blt k 38 then (bif Nat.blt k 16 then (bif Nat.blt k 9 then (bif Nat.blt k 4 then (bif Nat.blt k 1 then (bif Nat.beq k 0 then some (.aload_n 0, 1, []) else none) else (bif Nat.beq k 1 then some (.invokespecial 1, 4, []) else none)) else (bif Nat.blt k 5 then (bif Nat.beq k 4 then some (.aload_n 0, 5, []) else none) else (bif Nat.blt k 6 then (bif Nat.beq k 5 then some (.iload_n 1, 6, []) else none) else (bif Nat.beq k 6 then some (.putfield 7, 9, []) else none)))) else (bif Nat.blt k 11 then (bif Nat.blt k 10 then (bif Nat.beq k 9 then some (.aload_n 0, 10, []) else none) else (bif Nat.beq k 10 then some (.iload_n 2, 11, []) else none)) else (bif Nat.blt k 14 then (bif Nat.beq k 11 then some (.putfield 13, 14, []) else none) else (bif Nat.blt k 15 then (bif Nat.beq k 14 then some (.aload_n 0, 15, []) else none) else (bif Nat.beq k 15 then some (.iload_n 3, 16, []) else none))))) else (bif Nat.blt k 26 then (bif Nat.blt k 20 then (bif Nat.blt k 19 then (bif Nat.beq k 16 then some (.putfield 16, 19, []) else none) else (bif Nat.beq k 19 then some (.aload_n 0, 20, []) else none)) else (bif Nat.blt k 22 then (bif Nat.beq k 20 then some (.iload 4, 22, []) else none) else (bif Nat.blt k 25 then (bif Nat.beq k 22 then some (.putfield 19, 25, []) else none) else (bif Nat.beq k 25 then some (.aload_n 0, 26, []) else none)))) else (bif Nat.blt k 32 then (bif Nat.blt k 28 then (bif Nat.beq k 26 then some (.iload 5, 28, []) else none) else (bif Nat.blt k 31 then (bif Nat.beq k 28 then some (.putfield 22, 31, []) else none) else (bif Nat.beq k 31 then some (.aload_n 0, 32, []) else none))) else (bif Nat.blt k 34 then (bif Nat.beq k 32 then some (.iload 6, 34, []) else none) else (bif Nat.blt k 37 then (bif Nat.beq k 34 then some (.putfield 25, 37, []) else none) else (bif Nat.beq k 37 then some (.return_, 38, []) else none)))))) else none
noncomputable def P_Pt_init : MP := (T_Pt_init, (fun k => mLook k [(7, (6, 0, .int, true)), (13, (6, 1, .int, true)), (16, (6, 2, .int, true)), (19, (6, 3, .int, true)), (22, (6, 4, .int, true)), (25, (6, 5, .int, true))]), (fun k => mLook k []), (fun k => mLook k []), (fun k => mLook k [(1, 0)]), (fun k => mLook k []), (fun k => mLook k []), (fun k => mLook k []), (fun k => [37].any (Nat.beq k)), (1, 20, 0, 0), true, (fun _ => none))
set_option maxRecDepth 100000 in
set_option maxHeartbeats 4000000 in
theorem q_Pt_init_e (t0 : Nat) (a1 : Int32) (a2 : Int32) (a3 : Int32) (a4 : Int32) (a5 : Int32) (a6 : Int32) (σ : MSto) (n : Nat) : mexe KT P_Pt_init (n + 1) (0, [some (mR 6 t0), some (mI a1), some (mI a2), some (mI a3), some (mI a4), some (mI a5), some (mI a6)], [], σ, 0, 0) = some (37, [], [], (sI (sI (sI (sI (sI (sI σ 6 t0 0 a1) 6 t0 1 a2) 6 t0 2 a3) 6 t0 3 a4) 6 t0 4 a5) 6 t0 5 a6), 0, 0) := rfl
set_option maxRecDepth 100000 in
set_option maxHeartbeats 4000000 in
theorem d_Pt_init (t0 : Nat) (a1 : Int32) (a2 : Int32) (a3 : Int32) (a4 : Int32) (a5 : Int32) (a6 : Int32) (σ : MSto) : mW1 P_Pt_init (0, [some (mR 6 t0), some (mI a1), some (mI a2), some (mI a3), some (mI a4), some (mI a5), some (mI a6)], [], σ, 0, 0) (mF [37] [] (e_Pt_init t0 a1 a2 a3 a4 a5 a6 σ) 0 0) := by
  refine mW1_eq (q_Pt_init_e _ _ _ _ _ _ _ _) ?_
  exact mTr_e (by decide) rfl (Eq.symm (rfl)) (by decide) (by decide)
theorem tk_Pt_init : ∀ pc i nx tg, T_Pt_init pc = some (i, nx, tg) → mOkB prog_7_method_1_code pc i nx tg = true := code_ok (N := 38) (fun k h => by unfold T_Pt_init; rw [h]; rfl) (by decide +kernel)
theorem al_Pt_init : ∀ pc i nx tg kd, pCode P_Pt_init pc = some (i, nx, tg) → pAlc P_Pt_init pc = some kd → match i with
    | .new x => mAOK "ClothWithMan$Patch" x kd
    | .newarray t => mNAOK t kd
    | .anewarray x => mAAOK "ClothWithMan$Patch" x kd
    | .invokespecial x => Cond.methodLink "ClothWithMan$Patch" x Lib.objectInit ∈ lw_tbl
    | _ => True := by
  intro pc i nx tg kd h1 h2
  have h3 := mLook_mem h2
  simp only [List.mem_cons, Prod.mk.injEq, List.not_mem_nil, or_false] at h3
  rcases h3 with ⟨rfl, rfl⟩
  · have e : T_Pt_init 1 = some (i, nx, tg) := h1
    cases e
    exact tw_2_96

theorem ok_Pt_init (l : Launch) : mPOK l "ClothWithMan$Patch" prog_7_method_1_code P_Pt_init := by
  refine ⟨tk_Pt_init, ?_, ?_, ?_, al_Pt_init, ?_, ?_, fun pc en h => by cases h⟩
  · intro x ci f ty fin h
    exact mLook_all (Q := fun x v => mFOK "ClothWithMan$Patch" x v.1 v.2.1 v.2.2.1 v.2.2.2 ∧ (v.2.2.2 = true → pIni P_Pt_init = true → (Cond.fieldLink "ClothWithMan$Patch" x (((mCl[v.1]?).getD ("", fun _ => ("", "", "", false), 0)).2.1 v.2.1).1 (((mCl[v.1]?).getD ("", fun _ => ("", "", "", false), 0)).2.1 v.2.1).2.1 (((mCl[v.1]?).getD ("", fun _ => ("", "", "", false), 0)).2.1 v.2.1).2.2.1 ∈ lw_tbl ∧ (((mCl[v.1]?).getD ("", fun _ => ("", "", "", false), 0)).2.1 v.2.1).1 = "ClothWithMan$Patch"))) (fcC ⟨fo_Pt_7, fun _ _ => ⟨tw_2_97, rfl⟩⟩ (fcC ⟨fo_Pt_13, fun _ _ => ⟨tw_2_98, rfl⟩⟩ (fcC ⟨fo_Pt_16, fun _ _ => ⟨tw_2_99, rfl⟩⟩ (fcC ⟨fo_Pt_19, fun _ _ => ⟨tw_2_100, rfl⟩⟩ (fcC ⟨fo_Pt_22, fun _ _ => ⟨tw_2_101, rfl⟩⟩ (fcC ⟨fo_Pt_25, fun _ _ => ⟨tw_2_103, rfl⟩⟩ fcN)))))) x (ci, f, ty, fin) h
  · intro x
    have hh := mLook_all (l := ([] : List (Nat × (Int32 ⊕ Int64)))) (Q := fun x (v : Int32 ⊕ Int64) => (∀ w, v = .inl w → Cond.constant "ClothWithMan$Patch" x w ∈ lw_tbl) ∧ (∀ w, v = .inr w → Cond.constantLong "ClothWithMan$Patch" x w ∈ lw_tbl)) fcN x
    exact ⟨fun w h => (hh _ h).1 w rfl, fun w h => (hh _ h).2 w rfl⟩
  · exact fun x en h => mLook_all (Q := fun x en => mLink "ClothWithMan$Patch" x en ∧ mCtr l en ∧ (en.1.1 = 2 → en.2.2.2.2.2.2 = none)) fcN x en h
  · exact fun x kd h => mLook_all (Q := fun x kd => (kd = 95 ∧ Cond.fieldLink "ClothWithMan$Patch" x "ClothWithMan" "LIKENESSES" "[I" ∈ lw_tbl) ∨ (kd = 96 ∧ Cond.fieldLink "ClothWithMan$Patch" x "ClothWithMan" "APART_BOUNDS" "[I" ∈ lw_tbl)) fcN x kd h
  · exact fun x ci h => mLook_all (Q := fun x ci => ci ≠ 0 ∧ ∃ (C : String) (T : u_T) (N : Nat), mCl[ci]? = some (C, T, N) ∧ Cond.classLink "ClothWithMan$Patch" x C ∈ lw_tbl ∧ Cond.instantiable C N ∈ lw_tbl) fcN x ci h
set_option maxRecDepth 100000 in
theorem c_Pt_init (l : Launch) : mCtr l E_Pt_init := mCtr_of (P := P_Pt_init) (own := "ClothWithMan$Patch") mLay_ok rfl (by decide +kernel) rfl (ok_Pt_init l) (fun _ => rfl) (fun as σ pr rv σ' hF hpr hlv => by
  unfold E_Pt_init S_Pt_init at hF
  simp only [] at hF
  split at hF
  · cases hF
    obtain ⟨n, pcF, c1, s1, g1, g2, g3, g4⟩ := mF_inv (d_Pt_init _ _ _ _ _ _ _ σ)
    exact ⟨Nat.le_of_ble_eq_true rfl, (fun v h => by cases h), n, pcF, c1, s1, g1, mEnd_of (i := .return_) (P := P_Pt_init) (rets := [37]) rfl g2, g3, g4⟩
  · cases hF
    exact (hpr _ rfl).elim)
/-! ClothWithMan$Patch.covers(II)Z -/
def b_Pt_covers (t0 : Nat) (a1 : Int32) (a2 : Int32) (σ : MSto) : Prop := (if a1 < (gI σ 6 t0 0) then False else (if ((gI σ 6 t0 0) + (gI σ 6 t0 2)) ≤ a1 then False else (if a2 < (gI σ 6 t0 1) then False else (if ((gI σ 6 t0 1) + (gI σ 6 t0 3)) ≤ a2 then False else True))))
noncomputable def v_Pt_covers (t0 : Nat) (a1 : Int32) (a2 : Int32) (σ : MSto) : Int32 := bI (b_Pt_covers t0 a1 a2 σ)
noncomputable def S_Pt_covers : List MV → MSto → Option Prop × Option MV × MSto := fun as σ => match as with
  | [.inr (.inr (some (6, i0))), .inl a0, .inl a1] => (none, some (mI (v_Pt_covers i0 a0 a1 σ)), σ)
  | _ => (some False, none, σ)
noncomputable def E_Pt_covers : MEnt := ((1, 2, 6), (0, 0, 0, 0), S_Pt_covers, ((⟨"ClothWithMan$Patch", "covers", "(II)Z"⟩ : MethodName), prog_7_method_2_code, 3, (some .boolean)))

def T_Pt_covers : Nat → Option (Instr × Nat × List Nat) := fun k => bif Nat.blt k 48 then (bif Nat.blt k 23 then (bif Nat.blt k 10 then (bif Nat.blt k 5 then (bif Nat.blt k 1 then (bif Nat.beq k 0 then some (.iload_n 1, 1, []) else none) else (bif Nat.blt k 2 then (bif Nat.beq k 1 then some (.aload_n 0, 2, []) else none) else (bif Nat.beq k 2 then some (.getfield 7, 5, []) else none))) else (bif Nat.blt k 8 then (bif Nat.beq k 5 then some (.if_icmp .lt 41, 8, [46]) else none) else (bif Nat.blt k 9 then (bif Nat.beq k 8 then some (.iload_n 1, 9, []) else none) else (bif Nat.beq k 9 then some (.aload_n 0, 10, []) else none)))) else (bif Nat.blt k 17 then (bif Nat.blt k 13 then (bif Nat.beq k 10 then some (.getfield 7, 13, []) else none) else (bif Nat.blt k 14 then (bif Nat.beq k 13 then some (.aload_n 0, 14, []) else none) else (bif Nat.beq k 14 then some (.getfield 16, 17, []) else none))) else (bif Nat.blt k 21 then (bif Nat.blt k 18 then (bif Nat.beq k 17 then some (.iadd, 18, []) else none) else (bif Nat.beq k 18 then some (.if_icmp .ge 28, 21, [46]) else none)) else (bif Nat.blt k 22 then (bif Nat.beq k 21 then some (.iload_n 2, 22, []) else none) else (bif Nat.beq k 22 then some (.aload_n 0, 23, []) else none))))) else (bif Nat.blt k 35 then (bif Nat.blt k 30 then (bif Nat.blt k 26 then (bif Nat.beq k 23 then some (.getfield 13, 26, []) else none) else (bif Nat.blt k 29 then (bif Nat.beq k 26 then some (.if_icmp .lt 20, 29, [46]) else none) else (bif Nat.beq k 29 then some (.iload_n 2, 30, []) else none))) else (bif Nat.blt k 31 then (bif Nat.beq k 30 then some (.aload_n 0, 31, []) else none) else (bif Nat.blt k 34 then (bif Nat.beq k 31 then some (.getfield 13, 34, []) else none) else (bif Nat.beq k 34 then some (.aload_n 0, 35, []) else none)))) else (bif Nat.blt k 42 then (bif Nat.blt k 38 then (bif Nat.beq k 35 then some (.getfield 19, 38, []) else none) else (bif Nat.blt k 39 then (bif Nat.beq k 38 then some (.iadd, 39, []) else none) else (bif Nat.beq k 39 then some (.if_icmp .ge 7, 42, [46]) else none))) else (bif Nat.blt k 46 then (bif Nat.blt k 43 then (bif Nat.beq k 42 then some (.iconst 1, 43, []) else none) else (bif Nat.beq k 43 then some (.goto 4, 46, [47]) else none)) else (bif Nat.blt k 47 then (bif Nat.beq k 46 then some (.iconst 0, 47, []) else none) else (bif Nat.beq k 47 then some (.ireturn, 48, []) else none)))))) else none
noncomputable def P_Pt_covers : MP := (T_Pt_covers, (fun k => mLook k [(7, (6, 0, .int, true)), (13, (6, 1, .int, true)), (16, (6, 2, .int, true)), (19, (6, 3, .int, true))]), (fun k => mLook k []), (fun k => mLook k []), (fun k => mLook k []), (fun k => mLook k []), (fun k => mLook k []), (fun k => mLook k []), (fun k => [47].any (Nat.beq k)), (0, 0, 0, 0), false, (fun _ => none))
set_option maxRecDepth 100000 in
set_option maxHeartbeats 4000000 in
theorem q_Pt_covers_e (t0 : Nat) (a1 : Int32) (a2 : Int32) (σ : MSto) (n : Nat) : mexe KT P_Pt_covers (n + 1) (0, [some (mR 6 t0), some (mI a1), some (mI a2)], [], σ, 0, 0) = mIf (a1 < (gI σ 6 t0 0)) (some (47, [], [(mI 0)], σ, 0, 0)) (mIf (((gI σ 6 t0 0) + (gI σ 6 t0 2)) ≤ a1) (some (47, [], [(mI 0)], σ, 0, 0)) (mIf (a2 < (gI σ 6 t0 1)) (some (47, [], [(mI 0)], σ, 0, 0)) (mIf (((gI σ 6 t0 1) + (gI σ 6 t0 3)) ≤ a2) (some (47, [], [(mI 0)], σ, 0, 0)) (some (47, [], [(mI 1)], σ, 0, 0))))) := rfl
set_option maxRecDepth 100000 in
set_option maxHeartbeats 4000000 in
theorem d_Pt_covers (t0 : Nat) (a1 : Int32) (a2 : Int32) (σ : MSto) : mW1 P_Pt_covers (0, [some (mR 6 t0), some (mI a1), some (mI a2)], [], σ, 0, 0) (mF [47] [mI (v_Pt_covers t0 a1 a2 σ)] σ 0 0) := by
  refine mW1_eq (q_Pt_covers_e _ _ _ _) ?_
  unfold v_Pt_covers
  refine mTr_if (fun h0 => ?_) (fun h0 => ?_)
  · skip
    exact mTr_e (by decide) (bI_F (if_pos h0)) rfl (by decide) (by decide)
  · skip
    refine mTr_if (fun h1 => ?_) (fun h1 => ?_)
    · skip
      exact mTr_e (by decide) (bI_F ((if_neg h0).trans (if_pos h1))) rfl (by decide) (by decide)
    · skip
      refine mTr_if (fun h2 => ?_) (fun h2 => ?_)
      · skip
        exact mTr_e (by decide) (bI_F ((if_neg h0).trans ((if_neg h1).trans (if_pos h2)))) rfl (by decide) (by decide)
      · skip
        refine mTr_if (fun h3 => ?_) (fun h3 => ?_)
        · skip
          exact mTr_e (by decide) (bI_F ((if_neg h0).trans ((if_neg h1).trans ((if_neg h2).trans (if_pos h3))))) rfl (by decide) (by decide)
        · skip
          exact mTr_e (by decide) (bI_T ((if_neg h0).trans ((if_neg h1).trans ((if_neg h2).trans (if_neg h3))))) rfl (by decide) (by decide)
theorem tk_Pt_covers : ∀ pc i nx tg, T_Pt_covers pc = some (i, nx, tg) → mOkB prog_7_method_2_code pc i nx tg = true := code_ok (N := 48) (fun k h => by unfold T_Pt_covers; rw [h]; rfl) (by decide +kernel)
theorem ok_Pt_covers (l : Launch) : mPOK l "ClothWithMan$Patch" prog_7_method_2_code P_Pt_covers := by
  refine ⟨tk_Pt_covers, ?_, ?_, ?_, (fun pc i nx tg kd _ h => by cases h), ?_, ?_, fun pc en h => by cases h⟩
  · intro x ci f ty fin h
    exact mLook_all (Q := fun x v => mFOK "ClothWithMan$Patch" x v.1 v.2.1 v.2.2.1 v.2.2.2 ∧ (v.2.2.2 = true → pIni P_Pt_covers = true → (Cond.fieldLink "ClothWithMan$Patch" x (((mCl[v.1]?).getD ("", fun _ => ("", "", "", false), 0)).2.1 v.2.1).1 (((mCl[v.1]?).getD ("", fun _ => ("", "", "", false), 0)).2.1 v.2.1).2.1 (((mCl[v.1]?).getD ("", fun _ => ("", "", "", false), 0)).2.1 v.2.1).2.2.1 ∈ lw_tbl ∧ (((mCl[v.1]?).getD ("", fun _ => ("", "", "", false), 0)).2.1 v.2.1).1 = "ClothWithMan$Patch"))) (fcC ⟨fo_Pt_7, fun h1 h2 => by cases h2⟩ (fcC ⟨fo_Pt_13, fun h1 h2 => by cases h2⟩ (fcC ⟨fo_Pt_16, fun h1 h2 => by cases h2⟩ (fcC ⟨fo_Pt_19, fun h1 h2 => by cases h2⟩ fcN)))) x (ci, f, ty, fin) h
  · intro x
    have hh := mLook_all (l := ([] : List (Nat × (Int32 ⊕ Int64)))) (Q := fun x (v : Int32 ⊕ Int64) => (∀ w, v = .inl w → Cond.constant "ClothWithMan$Patch" x w ∈ lw_tbl) ∧ (∀ w, v = .inr w → Cond.constantLong "ClothWithMan$Patch" x w ∈ lw_tbl)) fcN x
    exact ⟨fun w h => (hh _ h).1 w rfl, fun w h => (hh _ h).2 w rfl⟩
  · exact fun x en h => mLook_all (Q := fun x en => mLink "ClothWithMan$Patch" x en ∧ mCtr l en ∧ (en.1.1 = 2 → en.2.2.2.2.2.2 = none)) fcN x en h
  · exact fun x kd h => mLook_all (Q := fun x kd => (kd = 95 ∧ Cond.fieldLink "ClothWithMan$Patch" x "ClothWithMan" "LIKENESSES" "[I" ∈ lw_tbl) ∨ (kd = 96 ∧ Cond.fieldLink "ClothWithMan$Patch" x "ClothWithMan" "APART_BOUNDS" "[I" ∈ lw_tbl)) fcN x kd h
  · exact fun x ci h => mLook_all (Q := fun x ci => ci ≠ 0 ∧ ∃ (C : String) (T : u_T) (N : Nat), mCl[ci]? = some (C, T, N) ∧ Cond.classLink "ClothWithMan$Patch" x C ∈ lw_tbl ∧ Cond.instantiable C N ∈ lw_tbl) fcN x ci h
set_option maxRecDepth 100000 in
theorem c_Pt_covers (l : Launch) : mCtr l E_Pt_covers := mCtr_of (P := P_Pt_covers) (own := "ClothWithMan$Patch") mLay_ok rfl (by decide +kernel) rfl (ok_Pt_covers l) (fun h => by cases h) (fun as σ pr rv σ' hF hpr hlv => by
  unfold E_Pt_covers S_Pt_covers at hF
  simp only [] at hF
  split at hF
  · cases hF
    obtain ⟨n, pcF, c1, s1, g1, g2, g3, g4⟩ := mF_inv (d_Pt_covers _ _ _ σ)
    exact ⟨Nat.le_of_ble_eq_true rfl, (fun v h => by cases h; trivial), n, pcF, c1, s1, g1, ⟨mEnd_of (i := .ireturn) (P := P_Pt_covers) (rets := [47]) rfl g2, bI_narrow _⟩, g3, g4⟩
  · cases hF
    exact (hpr _ rfl).elim)
/-! ClothWithMan$Piece.<init>(IIII)V -/
noncomputable def e_Pi_init (t0 : Nat) (a1 : Int32) (a2 : Int32) (a3 : Int32) (a4 : Int32) (σ : MSto) : MSto := (sI (sI (sI (sI σ 7 t0 0 a1) 7 t0 1 a2) 7 t0 2 a3) 7 t0 3 a4)
noncomputable def S_Pi_init : List MV → MSto → Option Prop × Option MV × MSto := fun as σ => match as with
  | [.inr (.inr (some (7, i0))), .inl a0, .inl a1, .inl a2, .inl a3] => (none, none, e_Pi_init i0 a0 a1 a2 a3 σ)
  | _ => (some False, none, σ)
noncomputable def E_Pi_init : MEnt := ((2, 4, 7), (1, 20, 0, 0), S_Pi_init, ((⟨"ClothWithMan$Piece", "<init>", "(IIII)V"⟩ : MethodName), prog_8_method_1_code, 5, none))

def T_Pi_init : Nat → Option (Instr × Nat × List Nat) := fun k => bif Nat.blt k 26 then (bif Nat.blt k 11 then (bif Nat.blt k 5 then (bif Nat.blt k 1 then (bif Nat.beq k 0 then some (.aload_n 0, 1, []) else none) else (bif Nat.blt k 4 then (bif Nat.beq k 1 then some (.invokespecial 1, 4, []) else none) else (bif Nat.beq k 4 then some (.aload_n 0, 5, []) else none))) else (bif Nat.blt k 9 then (bif Nat.blt k 6 then (bif Nat.beq k 5 then some (.iload_n 1, 6, []) else none) else (bif Nat.beq k 6 then some (.putfield 7, 9, []) else none)) else (bif Nat.blt k 10 then (bif Nat.beq k 9 then some (.aload_n 0, 10, []) else none) else (bif Nat.beq k 10 then some (.iload_n 2, 11, []) else none)))) else (bif Nat.blt k 19 then (bif Nat.blt k 15 then (bif Nat.blt k 14 then (bif Nat.beq k 11 then some (.putfield 13, 14, []) else none) else (bif Nat.beq k 14 then some (.aload_n 0, 15, []) else none)) else (bif Nat.blt k 16 then (bif Nat.beq k 15 then some (.iload_n 3, 16, []) else none) else (bif Nat.beq k 16 then some (.putfield 16, 19, []) else none))) else (bif Nat.blt k 22 then (bif Nat.blt k 20 then (bif Nat.beq k 19 then some (.aload_n 0, 20, []) else none) else (bif Nat.beq k 20 then some (.iload 4, 22, []) else none)) else (bif Nat.blt k 25 then (bif Nat.beq k 22 then some (.putfield 19, 25, []) else none) else (bif Nat.beq k 25 then some (.return_, 26, []) else none))))) else none
noncomputable def P_Pi_init : MP := (T_Pi_init, (fun k => mLook k [(7, (7, 0, .int, true)), (13, (7, 1, .int, true)), (16, (7, 2, .int, true)), (19, (7, 3, .int, true))]), (fun k => mLook k []), (fun k => mLook k []), (fun k => mLook k [(1, 0)]), (fun k => mLook k []), (fun k => mLook k []), (fun k => mLook k []), (fun k => [25].any (Nat.beq k)), (1, 20, 0, 0), true, (fun _ => none))
set_option maxRecDepth 100000 in
set_option maxHeartbeats 4000000 in
theorem q_Pi_init_e (t0 : Nat) (a1 : Int32) (a2 : Int32) (a3 : Int32) (a4 : Int32) (σ : MSto) (n : Nat) : mexe KT P_Pi_init (n + 1) (0, [some (mR 7 t0), some (mI a1), some (mI a2), some (mI a3), some (mI a4)], [], σ, 0, 0) = some (25, [], [], (sI (sI (sI (sI σ 7 t0 0 a1) 7 t0 1 a2) 7 t0 2 a3) 7 t0 3 a4), 0, 0) := rfl
set_option maxRecDepth 100000 in
set_option maxHeartbeats 4000000 in
theorem d_Pi_init (t0 : Nat) (a1 : Int32) (a2 : Int32) (a3 : Int32) (a4 : Int32) (σ : MSto) : mW1 P_Pi_init (0, [some (mR 7 t0), some (mI a1), some (mI a2), some (mI a3), some (mI a4)], [], σ, 0, 0) (mF [25] [] (e_Pi_init t0 a1 a2 a3 a4 σ) 0 0) := by
  refine mW1_eq (q_Pi_init_e _ _ _ _ _ _) ?_
  exact mTr_e (by decide) rfl (Eq.symm (rfl)) (by decide) (by decide)
theorem tk_Pi_init : ∀ pc i nx tg, T_Pi_init pc = some (i, nx, tg) → mOkB prog_8_method_1_code pc i nx tg = true := code_ok (N := 26) (fun k h => by unfold T_Pi_init; rw [h]; rfl) (by decide +kernel)
theorem al_Pi_init : ∀ pc i nx tg kd, pCode P_Pi_init pc = some (i, nx, tg) → pAlc P_Pi_init pc = some kd → match i with
    | .new x => mAOK "ClothWithMan$Piece" x kd
    | .newarray t => mNAOK t kd
    | .anewarray x => mAAOK "ClothWithMan$Piece" x kd
    | .invokespecial x => Cond.methodLink "ClothWithMan$Piece" x Lib.objectInit ∈ lw_tbl
    | _ => True := by
  intro pc i nx tg kd h1 h2
  have h3 := mLook_mem h2
  simp only [List.mem_cons, Prod.mk.injEq, List.not_mem_nil, or_false] at h3
  rcases h3 with ⟨rfl, rfl⟩
  · have e : T_Pi_init 1 = some (i, nx, tg) := h1
    cases e
    exact tw_3_11

theorem ok_Pi_init (l : Launch) : mPOK l "ClothWithMan$Piece" prog_8_method_1_code P_Pi_init := by
  refine ⟨tk_Pi_init, ?_, ?_, ?_, al_Pi_init, ?_, ?_, fun pc en h => by cases h⟩
  · intro x ci f ty fin h
    exact mLook_all (Q := fun x v => mFOK "ClothWithMan$Piece" x v.1 v.2.1 v.2.2.1 v.2.2.2 ∧ (v.2.2.2 = true → pIni P_Pi_init = true → (Cond.fieldLink "ClothWithMan$Piece" x (((mCl[v.1]?).getD ("", fun _ => ("", "", "", false), 0)).2.1 v.2.1).1 (((mCl[v.1]?).getD ("", fun _ => ("", "", "", false), 0)).2.1 v.2.1).2.1 (((mCl[v.1]?).getD ("", fun _ => ("", "", "", false), 0)).2.1 v.2.1).2.2.1 ∈ lw_tbl ∧ (((mCl[v.1]?).getD ("", fun _ => ("", "", "", false), 0)).2.1 v.2.1).1 = "ClothWithMan$Piece"))) (fcC ⟨fo_Pi_7, fun _ _ => ⟨tw_3_12, rfl⟩⟩ (fcC ⟨fo_Pi_13, fun _ _ => ⟨tw_3_14, rfl⟩⟩ (fcC ⟨fo_Pi_16, fun _ _ => ⟨tw_3_16, rfl⟩⟩ (fcC ⟨fo_Pi_19, fun _ _ => ⟨tw_3_18, rfl⟩⟩ fcN)))) x (ci, f, ty, fin) h
  · intro x
    have hh := mLook_all (l := ([] : List (Nat × (Int32 ⊕ Int64)))) (Q := fun x (v : Int32 ⊕ Int64) => (∀ w, v = .inl w → Cond.constant "ClothWithMan$Piece" x w ∈ lw_tbl) ∧ (∀ w, v = .inr w → Cond.constantLong "ClothWithMan$Piece" x w ∈ lw_tbl)) fcN x
    exact ⟨fun w h => (hh _ h).1 w rfl, fun w h => (hh _ h).2 w rfl⟩
  · exact fun x en h => mLook_all (Q := fun x en => mLink "ClothWithMan$Piece" x en ∧ mCtr l en ∧ (en.1.1 = 2 → en.2.2.2.2.2.2 = none)) fcN x en h
  · exact fun x kd h => mLook_all (Q := fun x kd => (kd = 95 ∧ Cond.fieldLink "ClothWithMan$Piece" x "ClothWithMan" "LIKENESSES" "[I" ∈ lw_tbl) ∨ (kd = 96 ∧ Cond.fieldLink "ClothWithMan$Piece" x "ClothWithMan" "APART_BOUNDS" "[I" ∈ lw_tbl)) fcN x kd h
  · exact fun x ci h => mLook_all (Q := fun x ci => ci ≠ 0 ∧ ∃ (C : String) (T : u_T) (N : Nat), mCl[ci]? = some (C, T, N) ∧ Cond.classLink "ClothWithMan$Piece" x C ∈ lw_tbl ∧ Cond.instantiable C N ∈ lw_tbl) fcN x ci h
set_option maxRecDepth 100000 in
theorem c_Pi_init (l : Launch) : mCtr l E_Pi_init := mCtr_of (P := P_Pi_init) (own := "ClothWithMan$Piece") mLay_ok rfl (by decide +kernel) rfl (ok_Pi_init l) (fun _ => rfl) (fun as σ pr rv σ' hF hpr hlv => by
  unfold E_Pi_init S_Pi_init at hF
  simp only [] at hF
  split at hF
  · cases hF
    obtain ⟨n, pcF, c1, s1, g1, g2, g3, g4⟩ := mF_inv (d_Pi_init _ _ _ _ _ σ)
    exact ⟨Nat.le_of_ble_eq_true rfl, (fun v h => by cases h), n, pcF, c1, s1, g1, mEnd_of (i := .return_) (P := P_Pi_init) (rets := [25]) rfl g2, g3, g4⟩
  · cases hF
    exact (hpr _ rfl).elim)
/-! ClothWithMan$Piece.tell(I)V -/
def p_Pi_tell (t0 : Nat) (a1 : Int32) (σ : MSto) : Prop := (vp_nar .boolean 1 = 1)
noncomputable def e_Pi_tell (t0 : Nat) (a1 : Int32) (σ : MSto) : MSto := (sI (sI σ 7 t0 5 a1) 7 t0 4 1)
noncomputable def S_Pi_tell : List MV → MSto → Option Prop × Option MV × MSto := fun as σ => match as with
  | [.inr (.inr (some (7, i0))), .inl a0] => (some (p_Pi_tell i0 a0 σ), none, e_Pi_tell i0 a0 σ)
  | _ => (some False, none, σ)
noncomputable def E_Pi_tell : MEnt := ((1, 1, 7), (0, 0, 0, 0), S_Pi_tell, ((⟨"ClothWithMan$Piece", "tell", "(I)V"⟩ : MethodName), prog_8_method_2_code, 2, none))

def T_Pi_tell : Nat → Option (Instr × Nat × List Nat) := fun k => bif Nat.blt k 11 then (bif Nat.blt k 5 then (bif Nat.blt k 1 then (bif Nat.beq k 0 then some (.aload_n 0, 1, []) else none) else (bif Nat.blt k 2 then (bif Nat.beq k 1 then some (.iload_n 1, 2, []) else none) else (bif Nat.beq k 2 then some (.putfield 22, 5, []) else none))) else (bif Nat.blt k 7 then (bif Nat.blt k 6 then (bif Nat.beq k 5 then some (.aload_n 0, 6, []) else none) else (bif Nat.beq k 6 then some (.iconst 1, 7, []) else none)) else (bif Nat.blt k 10 then (bif Nat.beq k 7 then some (.putfield 25, 10, []) else none) else (bif Nat.beq k 10 then some (.return_, 11, []) else none)))) else none
noncomputable def P_Pi_tell : MP := (T_Pi_tell, (fun k => mLook k [(22, (7, 5, .int, false)), (25, (7, 4, .boolean, false))]), (fun k => mLook k []), (fun k => mLook k []), (fun k => mLook k []), (fun k => mLook k []), (fun k => mLook k []), (fun k => mLook k []), (fun k => [10].any (Nat.beq k)), (0, 0, 0, 0), false, (fun _ => none))
set_option maxRecDepth 100000 in
set_option maxHeartbeats 4000000 in
theorem q_Pi_tell_e (t0 : Nat) (a1 : Int32) (σ : MSto) (n : Nat) : mexe KT P_Pi_tell (n + 1) (0, [some (mR 7 t0), some (mI a1)], [], σ, 0, 0) = mG (vp_nar .boolean 1 = 1) (some (10, [], [], (sI (sI σ 7 t0 5 a1) 7 t0 4 1), 0, 0)) := rfl
set_option maxRecDepth 100000 in
set_option maxHeartbeats 4000000 in
theorem d_Pi_tell (t0 : Nat) (a1 : Int32) (σ : MSto) (hp : p_Pi_tell t0 a1 σ) : mW1 P_Pi_tell (0, [some (mR 7 t0), some (mI a1)], [], σ, 0, 0) (mF [10] [] (e_Pi_tell t0 a1 σ) 0 0) := by
  refine mW1_eq (q_Pi_tell_e _ _ _) ?_
  unfold p_Pi_tell at hp
  refine mTr_g hp ?_
  exact mTr_e (by decide) rfl (Eq.symm (rfl)) (by decide) (by decide)
theorem tk_Pi_tell : ∀ pc i nx tg, T_Pi_tell pc = some (i, nx, tg) → mOkB prog_8_method_2_code pc i nx tg = true := code_ok (N := 11) (fun k h => by unfold T_Pi_tell; rw [h]; rfl) (by decide +kernel)
theorem ok_Pi_tell (l : Launch) : mPOK l "ClothWithMan$Piece" prog_8_method_2_code P_Pi_tell := by
  refine ⟨tk_Pi_tell, ?_, ?_, ?_, (fun pc i nx tg kd _ h => by cases h), ?_, ?_, fun pc en h => by cases h⟩
  · intro x ci f ty fin h
    exact mLook_all (Q := fun x v => mFOK "ClothWithMan$Piece" x v.1 v.2.1 v.2.2.1 v.2.2.2 ∧ (v.2.2.2 = true → pIni P_Pi_tell = true → (Cond.fieldLink "ClothWithMan$Piece" x (((mCl[v.1]?).getD ("", fun _ => ("", "", "", false), 0)).2.1 v.2.1).1 (((mCl[v.1]?).getD ("", fun _ => ("", "", "", false), 0)).2.1 v.2.1).2.1 (((mCl[v.1]?).getD ("", fun _ => ("", "", "", false), 0)).2.1 v.2.1).2.2.1 ∈ lw_tbl ∧ (((mCl[v.1]?).getD ("", fun _ => ("", "", "", false), 0)).2.1 v.2.1).1 = "ClothWithMan$Piece"))) (fcC ⟨fo_Pi_22, fun h1 h2 => by cases h1⟩ (fcC ⟨fo_Pi_25, fun h1 h2 => by cases h1⟩ fcN)) x (ci, f, ty, fin) h
  · intro x
    have hh := mLook_all (l := ([] : List (Nat × (Int32 ⊕ Int64)))) (Q := fun x (v : Int32 ⊕ Int64) => (∀ w, v = .inl w → Cond.constant "ClothWithMan$Piece" x w ∈ lw_tbl) ∧ (∀ w, v = .inr w → Cond.constantLong "ClothWithMan$Piece" x w ∈ lw_tbl)) fcN x
    exact ⟨fun w h => (hh _ h).1 w rfl, fun w h => (hh _ h).2 w rfl⟩
  · exact fun x en h => mLook_all (Q := fun x en => mLink "ClothWithMan$Piece" x en ∧ mCtr l en ∧ (en.1.1 = 2 → en.2.2.2.2.2.2 = none)) fcN x en h
  · exact fun x kd h => mLook_all (Q := fun x kd => (kd = 95 ∧ Cond.fieldLink "ClothWithMan$Piece" x "ClothWithMan" "LIKENESSES" "[I" ∈ lw_tbl) ∨ (kd = 96 ∧ Cond.fieldLink "ClothWithMan$Piece" x "ClothWithMan" "APART_BOUNDS" "[I" ∈ lw_tbl)) fcN x kd h
  · exact fun x ci h => mLook_all (Q := fun x ci => ci ≠ 0 ∧ ∃ (C : String) (T : u_T) (N : Nat), mCl[ci]? = some (C, T, N) ∧ Cond.classLink "ClothWithMan$Piece" x C ∈ lw_tbl ∧ Cond.instantiable C N ∈ lw_tbl) fcN x ci h
set_option maxRecDepth 100000 in
theorem c_Pi_tell (l : Launch) : mCtr l E_Pi_tell := mCtr_of (P := P_Pi_tell) (own := "ClothWithMan$Piece") mLay_ok rfl (by decide +kernel) rfl (ok_Pi_tell l) (fun h => by cases h) (fun as σ pr rv σ' hF hpr hlv => by
  unfold E_Pi_tell S_Pi_tell at hF
  simp only [] at hF
  split at hF
  · cases hF
    obtain ⟨n, pcF, c1, s1, g1, g2, g3, g4⟩ := mF_inv (d_Pi_tell _ _ σ (hpr _ rfl))
    exact ⟨Nat.le_of_ble_eq_true rfl, (fun v h => by cases h), n, pcF, c1, s1, g1, mEnd_of (i := .return_) (P := P_Pi_tell) (rets := [10]) rfl g2, g3, g4⟩
  · cases hF
    exact (hpr _ rfl).elim)
/-! ClothWithMan$Row.clear()V -/
noncomputable def e_Ro_clear  (σ : MSto) : MSto := (sI σ 8 0 1 0)
noncomputable def S_Ro_clear : List MV → MSto → Option Prop × Option MV × MSto := fun as σ => match as with
  | [.inr (.inr (some (8, 0)))] => (none, none, e_Ro_clear σ)
  | _ => (some False, none, σ)
noncomputable def E_Ro_clear : MEnt := ((1, 0, 8), (0, 0, 0, 0), S_Ro_clear, ((⟨"ClothWithMan$Row", "clear", "()V"⟩ : MethodName), prog_9_method_2_code, 1, none))

def T_Ro_clear : Nat → Option (Instr × Nat × List Nat) := fun k => bif Nat.blt k 6 then (bif Nat.blt k 2 then (bif Nat.blt k 1 then (bif Nat.beq k 0 then some (.aload_n 0, 1, []) else none) else (bif Nat.beq k 1 then some (.iconst 0, 2, []) else none)) else (bif Nat.blt k 5 then (bif Nat.beq k 2 then some (.putfield 15, 5, []) else none) else (bif Nat.beq k 5 then some (.return_, 6, []) else none))) else none
noncomputable def P_Ro_clear : MP := (T_Ro_clear, (fun k => mLook k [(15, (8, 1, .int, false))]), (fun k => mLook k []), (fun k => mLook k []), (fun k => mLook k []), (fun k => mLook k []), (fun k => mLook k []), (fun k => mLook k []), (fun k => [5].any (Nat.beq k)), (0, 0, 0, 0), false, (fun _ => none))
set_option maxRecDepth 100000 in
set_option maxHeartbeats 4000000 in
theorem q_Ro_clear_e  (σ : MSto) (n : Nat) : mexe KT P_Ro_clear (n + 1) (0, [some (mR 8 0)], [], σ, 0, 0) = some (5, [], [], (sI σ 8 0 1 0), 0, 0) := rfl
set_option maxRecDepth 100000 in
set_option maxHeartbeats 4000000 in
theorem d_Ro_clear  (σ : MSto) : mW1 P_Ro_clear (0, [some (mR 8 0)], [], σ, 0, 0) (mF [5] [] (e_Ro_clear σ) 0 0) := by
  refine mW1_eq (q_Ro_clear_e  _) ?_
  exact mTr_e (by decide) rfl (Eq.symm (rfl)) (by decide) (by decide)
theorem tk_Ro_clear : ∀ pc i nx tg, T_Ro_clear pc = some (i, nx, tg) → mOkB prog_9_method_2_code pc i nx tg = true := code_ok (N := 6) (fun k h => by unfold T_Ro_clear; rw [h]; rfl) (by decide +kernel)
theorem ok_Ro_clear (l : Launch) : mPOK l "ClothWithMan$Row" prog_9_method_2_code P_Ro_clear := by
  refine ⟨tk_Ro_clear, ?_, ?_, ?_, (fun pc i nx tg kd _ h => by cases h), ?_, ?_, fun pc en h => by cases h⟩
  · intro x ci f ty fin h
    exact mLook_all (Q := fun x v => mFOK "ClothWithMan$Row" x v.1 v.2.1 v.2.2.1 v.2.2.2 ∧ (v.2.2.2 = true → pIni P_Ro_clear = true → (Cond.fieldLink "ClothWithMan$Row" x (((mCl[v.1]?).getD ("", fun _ => ("", "", "", false), 0)).2.1 v.2.1).1 (((mCl[v.1]?).getD ("", fun _ => ("", "", "", false), 0)).2.1 v.2.1).2.1 (((mCl[v.1]?).getD ("", fun _ => ("", "", "", false), 0)).2.1 v.2.1).2.2.1 ∈ lw_tbl ∧ (((mCl[v.1]?).getD ("", fun _ => ("", "", "", false), 0)).2.1 v.2.1).1 = "ClothWithMan$Row"))) (fcC ⟨fo_Ro_15, fun h1 h2 => by cases h1⟩ fcN) x (ci, f, ty, fin) h
  · intro x
    have hh := mLook_all (l := ([] : List (Nat × (Int32 ⊕ Int64)))) (Q := fun x (v : Int32 ⊕ Int64) => (∀ w, v = .inl w → Cond.constant "ClothWithMan$Row" x w ∈ lw_tbl) ∧ (∀ w, v = .inr w → Cond.constantLong "ClothWithMan$Row" x w ∈ lw_tbl)) fcN x
    exact ⟨fun w h => (hh _ h).1 w rfl, fun w h => (hh _ h).2 w rfl⟩
  · exact fun x en h => mLook_all (Q := fun x en => mLink "ClothWithMan$Row" x en ∧ mCtr l en ∧ (en.1.1 = 2 → en.2.2.2.2.2.2 = none)) fcN x en h
  · exact fun x kd h => mLook_all (Q := fun x kd => (kd = 95 ∧ Cond.fieldLink "ClothWithMan$Row" x "ClothWithMan" "LIKENESSES" "[I" ∈ lw_tbl) ∨ (kd = 96 ∧ Cond.fieldLink "ClothWithMan$Row" x "ClothWithMan" "APART_BOUNDS" "[I" ∈ lw_tbl)) fcN x kd h
  · exact fun x ci h => mLook_all (Q := fun x ci => ci ≠ 0 ∧ ∃ (C : String) (T : u_T) (N : Nat), mCl[ci]? = some (C, T, N) ∧ Cond.classLink "ClothWithMan$Row" x C ∈ lw_tbl ∧ Cond.instantiable C N ∈ lw_tbl) fcN x ci h
set_option maxRecDepth 100000 in
theorem c_Ro_clear (l : Launch) : mCtr l E_Ro_clear := mCtr_of (P := P_Ro_clear) (own := "ClothWithMan$Row") mLay_ok rfl (by decide +kernel) rfl (ok_Ro_clear l) (fun h => by cases h) (fun as σ pr rv σ' hF hpr hlv => by
  unfold E_Ro_clear S_Ro_clear at hF
  simp only [] at hF
  split at hF
  · cases hF
    obtain ⟨n, pcF, c1, s1, g1, g2, g3, g4⟩ := mF_inv (d_Ro_clear σ)
    exact ⟨Nat.le_of_ble_eq_true rfl, (fun v h => by cases h), n, pcF, c1, s1, g1, mEnd_of (i := .return_) (P := P_Ro_clear) (rets := [5]) rfl g2, g3, g4⟩
  · cases hF
    exact (hpr _ rfl).elim)
/-! ClothWithMan$Row.add(J)V -/
def p_Ro_add (a1 : Int64) (σ : MSto) : Prop := (¬ (20 ≤ (gI σ 8 0 1)) → (vp_in (gI σ 8 0 1) 20))
noncomputable def e_Ro_add (a1 : Int64) (σ : MSto) : MSto := (if 20 ≤ (gI σ 8 0 1) then σ else (sI (sJ σ 38 0 (Int32.toNatClampNeg (gI σ 8 0 1)) a1) 8 0 1 ((gI (sJ σ 38 0 (Int32.toNatClampNeg (gI σ 8 0 1)) a1) 8 0 1) + 1)))
noncomputable def S_Ro_add : List MV → MSto → Option Prop × Option MV × MSto := fun as σ => match as with
  | [.inr (.inr (some (8, 0))), .inr (.inl a0)] => (some (p_Ro_add a0 σ), none, e_Ro_add a0 σ)
  | _ => (some False, none, σ)
noncomputable def E_Ro_add : MEnt := ((1, 1, 8), (0, 0, 0, 0), S_Ro_add, ((⟨"ClothWithMan$Row", "add", "(J)V"⟩ : MethodName), prog_9_method_3_code, 3, none))

def T_Ro_add : Nat → Option (Instr × Nat × List Nat) := fun k => bif Nat.blt k 30 then (bif Nat.blt k 17 then (bif Nat.blt k 9 then (bif Nat.blt k 4 then (bif Nat.blt k 1 then (bif Nat.beq k 0 then some (.aload_n 0, 1, []) else none) else (bif Nat.beq k 1 then some (.getfield 15, 4, []) else none)) else (bif Nat.blt k 6 then (bif Nat.beq k 4 then some (.bipush 20, 6, []) else none) else (bif Nat.beq k 6 then some (.if_icmp .ge 23, 9, [29]) else none))) else (bif Nat.blt k 13 then (bif Nat.blt k 10 then (bif Nat.beq k 9 then some (.aload_n 0, 10, []) else none) else (bif Nat.beq k 10 then some (.getfield 11, 13, []) else none)) else (bif Nat.blt k 14 then (bif Nat.beq k 13 then some (.aload_n 0, 14, []) else none) else (bif Nat.beq k 14 then some (.getfield 15, 17, []) else none)))) else (bif Nat.blt k 21 then (bif Nat.blt k 19 then (bif Nat.blt k 18 then (bif Nat.beq k 17 then some (.lload_n 1, 18, []) else none) else (bif Nat.beq k 18 then some (.lastore, 19, []) else none)) else (bif Nat.blt k 20 then (bif Nat.beq k 19 then some (.aload_n 0, 20, []) else none) else (bif Nat.beq k 20 then some (.dup, 21, []) else none))) else (bif Nat.blt k 25 then (bif Nat.blt k 24 then (bif Nat.beq k 21 then some (.getfield 15, 24, []) else none) else (bif Nat.beq k 24 then some (.iconst 1, 25, []) else none)) else (bif Nat.blt k 26 then (bif Nat.beq k 25 then some (.iadd, 26, []) else none) else (bif Nat.blt k 29 then (bif Nat.beq k 26 then some (.putfield 15, 29, []) else none) else (bif Nat.beq k 29 then some (.return_, 30, []) else none)))))) else none
noncomputable def P_Ro_add : MP := (T_Ro_add, (fun k => mLook k [(11, (8, 0, (.array .long), true)), (15, (8, 1, .int, false))]), (fun k => mLook k []), (fun k => mLook k []), (fun k => mLook k []), (fun k => mLook k []), (fun k => mLook k []), (fun k => mLook k []), (fun k => [29].any (Nat.beq k)), (0, 0, 0, 0), false, (fun _ => none))
set_option maxRecDepth 100000 in
set_option maxHeartbeats 4000000 in
theorem q_Ro_add_e (a1 : Int64) (σ : MSto) (n : Nat) : mexe KT P_Ro_add (n + 1) (0, [some (mR 8 0), some (mJ a1), none], [], σ, 0, 0) = mIf (20 ≤ (gI σ 8 0 1)) (some (29, [], [], σ, 0, 0)) (mG (vp_in (gI σ 8 0 1) 20) (some (29, [], [], (sI (sJ σ 38 0 (Int32.toNatClampNeg (gI σ 8 0 1)) a1) 8 0 1 ((gI (sJ σ 38 0 (Int32.toNatClampNeg (gI σ 8 0 1)) a1) 8 0 1) + 1)), 0, 0))) := rfl
set_option maxRecDepth 100000 in
set_option maxHeartbeats 4000000 in
theorem d_Ro_add (a1 : Int64) (σ : MSto) (hp : p_Ro_add a1 σ) : mW1 P_Ro_add (0, [some (mR 8 0), some (mJ a1), none], [], σ, 0, 0) (mF [29] [] (e_Ro_add a1 σ) 0 0) := by
  refine mW1_eq (q_Ro_add_e _ _) ?_
  unfold p_Ro_add at hp
  refine mTr_if (fun h0 => ?_) (fun h0 => ?_)
  · skip
    exact mTr_e (by decide) rfl (Eq.symm (if_pos h0)) (by decide) (by decide)
  · skip
    have hp := hp h0
    refine mTr_g hp ?_
    exact mTr_e (by decide) rfl (Eq.symm (if_neg h0)) (by decide) (by decide)
theorem tk_Ro_add : ∀ pc i nx tg, T_Ro_add pc = some (i, nx, tg) → mOkB prog_9_method_3_code pc i nx tg = true := code_ok (N := 30) (fun k h => by unfold T_Ro_add; rw [h]; rfl) (by decide +kernel)
theorem ok_Ro_add (l : Launch) : mPOK l "ClothWithMan$Row" prog_9_method_3_code P_Ro_add := by
  refine ⟨tk_Ro_add, ?_, ?_, ?_, (fun pc i nx tg kd _ h => by cases h), ?_, ?_, fun pc en h => by cases h⟩
  · intro x ci f ty fin h
    exact mLook_all (Q := fun x v => mFOK "ClothWithMan$Row" x v.1 v.2.1 v.2.2.1 v.2.2.2 ∧ (v.2.2.2 = true → pIni P_Ro_add = true → (Cond.fieldLink "ClothWithMan$Row" x (((mCl[v.1]?).getD ("", fun _ => ("", "", "", false), 0)).2.1 v.2.1).1 (((mCl[v.1]?).getD ("", fun _ => ("", "", "", false), 0)).2.1 v.2.1).2.1 (((mCl[v.1]?).getD ("", fun _ => ("", "", "", false), 0)).2.1 v.2.1).2.2.1 ∈ lw_tbl ∧ (((mCl[v.1]?).getD ("", fun _ => ("", "", "", false), 0)).2.1 v.2.1).1 = "ClothWithMan$Row"))) (fcC ⟨fo_Ro_11, fun h1 h2 => by cases h2⟩ (fcC ⟨fo_Ro_15, fun h1 h2 => by cases h1⟩ fcN)) x (ci, f, ty, fin) h
  · intro x
    have hh := mLook_all (l := ([] : List (Nat × (Int32 ⊕ Int64)))) (Q := fun x (v : Int32 ⊕ Int64) => (∀ w, v = .inl w → Cond.constant "ClothWithMan$Row" x w ∈ lw_tbl) ∧ (∀ w, v = .inr w → Cond.constantLong "ClothWithMan$Row" x w ∈ lw_tbl)) fcN x
    exact ⟨fun w h => (hh _ h).1 w rfl, fun w h => (hh _ h).2 w rfl⟩
  · exact fun x en h => mLook_all (Q := fun x en => mLink "ClothWithMan$Row" x en ∧ mCtr l en ∧ (en.1.1 = 2 → en.2.2.2.2.2.2 = none)) fcN x en h
  · exact fun x kd h => mLook_all (Q := fun x kd => (kd = 95 ∧ Cond.fieldLink "ClothWithMan$Row" x "ClothWithMan" "LIKENESSES" "[I" ∈ lw_tbl) ∨ (kd = 96 ∧ Cond.fieldLink "ClothWithMan$Row" x "ClothWithMan" "APART_BOUNDS" "[I" ∈ lw_tbl)) fcN x kd h
  · exact fun x ci h => mLook_all (Q := fun x ci => ci ≠ 0 ∧ ∃ (C : String) (T : u_T) (N : Nat), mCl[ci]? = some (C, T, N) ∧ Cond.classLink "ClothWithMan$Row" x C ∈ lw_tbl ∧ Cond.instantiable C N ∈ lw_tbl) fcN x ci h
set_option maxRecDepth 100000 in
theorem c_Ro_add (l : Launch) : mCtr l E_Ro_add := mCtr_of (P := P_Ro_add) (own := "ClothWithMan$Row") mLay_ok rfl (by decide +kernel) rfl (ok_Ro_add l) (fun h => by cases h) (fun as σ pr rv σ' hF hpr hlv => by
  unfold E_Ro_add S_Ro_add at hF
  simp only [] at hF
  split at hF
  · cases hF
    obtain ⟨n, pcF, c1, s1, g1, g2, g3, g4⟩ := mF_inv (d_Ro_add _ σ (hpr _ rfl))
    exact ⟨Nat.le_of_ble_eq_true rfl, (fun v h => by cases h), n, pcF, c1, s1, g1, mEnd_of (i := .return_) (P := P_Ro_add) (rets := [29]) rfl g2, g3, g4⟩
  · cases hF
    exact (hpr _ rfl).elim)
/-! ClothWithMan$Row.commonOf(JJ)J -/
noncomputable def t_Ro_commonOf_9  (c : Int32) (σ : MSto) (s : Int64 × Int64) : Int64 × Int64 := (if 200 ≤ c then s else (if (lg_cmp (s.2) 0) = 0 then s else ((s.2), ((s.1) - (s.1) / (s.2) * (s.2)))))
noncomputable def q_Ro_commonOf_9s  (c : Int32) (σ : MSto) (s : Int64 × Int64) : Nat := (if 200 ≤ c then 1 else (if (lg_cmp (s.2) 0) = 0 then 1 else 0))
def g_Ro_commonOf_9  (c : Int32) (σ : MSto) (s : Int64 × Int64) : Prop := (¬ (200 ≤ c) → (¬ ((lg_cmp (s.2) 0) = 0) → (¬ ((s.2) : Int64) = 0)))
noncomputable def f_Ro_commonOf_9  (c0 : Int32) (σ : MSto) (s0 : Int64 × Int64) (n : Nat) : Int64 × Int64 := nfold (fun i s => t_Ro_commonOf_9 (c0 + nI i) σ s) s0 n
noncomputable def n_Ro_commonOf_9  (c0 : Int32) (σ : MSto) (s0 : Int64 × Int64) : Nat := leastN (fun i => q_Ro_commonOf_9s (c0 + nI i) σ (f_Ro_commonOf_9 c0 σ s0 i) = 1) 201
noncomputable def v_Ro_commonOf (a0 : Int64) (a2 : Int64) (σ : MSto) : Int64 := ((f_Ro_commonOf_9 0 σ (a0, a2) (n_Ro_commonOf_9 0 σ (a0, a2))).1)
def p_Ro_commonOf (a0 : Int64) (a2 : Int64) (σ : MSto) : Prop := ((∀ i, i < (n_Ro_commonOf_9 0 σ (a0, a2)) → g_Ro_commonOf_9 (0 + nI i) σ (f_Ro_commonOf_9 0 σ (a0, a2) i) ∧ ¬ q_Ro_commonOf_9s (0 + nI i) σ (f_Ro_commonOf_9 0 σ (a0, a2) i) = 1) ∧ (¬ (200 ≤ (0 + nI (n_Ro_commonOf_9 0 σ (a0, a2)))) → (¬ ((lg_cmp ((f_Ro_commonOf_9 0 σ (a0, a2) (n_Ro_commonOf_9 0 σ (a0, a2))).2) 0) = 0) → False)))
noncomputable def S_Ro_commonOf : List MV → MSto → Option Prop × Option MV × MSto := fun as σ => match as with
  | [.inr (.inl a0), .inr (.inl a1)] => (some (p_Ro_commonOf a0 a1 σ), some (mJ (v_Ro_commonOf a0 a1 σ)), σ)
  | _ => (some False, none, σ)
noncomputable def E_Ro_commonOf : MEnt := ((0, 2, 8), (0, 0, 0, 0), S_Ro_commonOf, ((⟨"ClothWithMan$Row", "commonOf", "(JJ)J"⟩ : MethodName), prog_9_method_5_code, 11, (some .long)))

def T_Ro_commonOf : Nat → Option (Instr × Nat × List Nat) := fun k => bif Nat.blt k 48 then (bif Nat.blt k 21 then (bif Nat.blt k 9 then (bif Nat.blt k 4 then (bif Nat.blt k 1 then (bif Nat.beq k 0 then some (.lload_n 0, 1, []) else none) else (bif Nat.blt k 3 then (bif Nat.beq k 1 then some (.lstore 4, 3, []) else none) else (bif Nat.beq k 3 then some (.lload_n 2, 4, []) else none))) else (bif Nat.blt k 6 then (bif Nat.beq k 4 then some (.lstore 6, 6, []) else none) else (bif Nat.blt k 7 then (bif Nat.beq k 6 then some (.iconst 0, 7, []) else none) else (bif Nat.beq k 7 then some (.istore 8, 9, []) else none)))) else (bif Nat.blt k 17 then (bif Nat.blt k 11 then (bif Nat.beq k 9 then some (.iload 8, 11, []) else none) else (bif Nat.blt k 14 then (bif Nat.beq k 11 then some (.sipush 200, 14, []) else none) else (bif Nat.beq k 14 then some (.if_icmp .ge 31, 17, [45]) else none))) else (bif Nat.blt k 19 then (bif Nat.beq k 17 then some (.lload 6, 19, []) else none) else (bif Nat.blt k 20 then (bif Nat.beq k 19 then some (.lconst 0, 20, []) else none) else (bif Nat.beq k 20 then some (.lcmp, 21, []) else none))))) else (bif Nat.blt k 33 then (bif Nat.blt k 28 then (bif Nat.blt k 24 then (bif Nat.beq k 21 then some (.ifCond .eq 24, 24, [45]) else none) else (bif Nat.blt k 26 then (bif Nat.beq k 24 then some (.lload 4, 26, []) else none) else (bif Nat.beq k 26 then some (.lload 6, 28, []) else none))) else (bif Nat.blt k 29 then (bif Nat.beq k 28 then some (.lrem, 29, []) else none) else (bif Nat.blt k 31 then (bif Nat.beq k 29 then some (.lstore 9, 31, []) else none) else (bif Nat.beq k 31 then some (.lload 6, 33, []) else none)))) else (bif Nat.blt k 39 then (bif Nat.blt k 35 then (bif Nat.beq k 33 then some (.lstore 4, 35, []) else none) else (bif Nat.blt k 37 then (bif Nat.beq k 35 then some (.lload 9, 37, []) else none) else (bif Nat.beq k 37 then some (.lstore 6, 39, []) else none))) else (bif Nat.blt k 45 then (bif Nat.blt k 42 then (bif Nat.beq k 39 then some (.iinc 8 1, 42, []) else none) else (bif Nat.beq k 42 then some (.goto (-33), 45, [9]) else none)) else (bif Nat.blt k 47 then (bif Nat.beq k 45 then some (.lload 4, 47, []) else none) else (bif Nat.beq k 47 then some (.lreturn, 48, []) else none)))))) else none
noncomputable def P_Ro_commonOf : MP := (T_Ro_commonOf, (fun k => mLook k []), (fun k => mLook k []), (fun k => mLook k []), (fun k => mLook k []), (fun k => mLook k []), (fun k => mLook k []), (fun k => mLook k [(9, [false, false, false, false, true, false, true, false, true, false, false])]), (fun k => [47].any (Nat.beq k)), (0, 0, 0, 0), false, (fun _ => none))
set_option maxRecDepth 100000 in
set_option maxHeartbeats 4000000 in
theorem q_Ro_commonOf_e (a0 : Int64) (a2 : Int64) (σ : MSto) (n : Nat) : mexe KT P_Ro_commonOf (n + 1) (0, [some (mJ a0), none, some (mJ a2), none, none, none, none, none, none, none, none], [], σ, 0, 0) = mexe KT P_Ro_commonOf n (9, [none, none, none, none, some (mJ a0), none, some (mJ a2), none, some (mI 0), none, none], [], σ, 0, 0) := rfl
set_option maxRecDepth 100000 in
set_option maxHeartbeats 4000000 in
theorem q_Ro_commonOf_9 (x4 : Int64) (x6 : Int64) (x8 : Int32) (σ : MSto) (n : Nat) : mexe KT P_Ro_commonOf (n + 1) (9, [none, none, none, none, some (mJ x4), none, some (mJ x6), none, some (mI x8), none, none], [], σ, 0, 0) = mIf (200 ≤ x8) (some (47, [], [(mJ x4)], σ, 0, 0)) (mIf ((lg_cmp x6 0) = 0) (some (47, [], [(mJ x4)], σ, 0, 0)) (mG (¬ (x6 : Int64) = 0) (mexe KT P_Ro_commonOf n (9, [none, none, none, none, some (mJ x6), none, some (mJ (x4 - x4 / x6 * x6)), none, some (mI (x8 + 1)), none, none], [], σ, 0, 0)))) := rfl
set_option maxRecDepth 100000 in
theorem lt_Ro_commonOf_9 {Post : MST → Prop}  (c : Int32) (σ : MSto) (s : Int64 × Int64) (hp : g_Ro_commonOf_9 c σ s) (hq : ¬ q_Ro_commonOf_9s c σ s = 1) (hn : ∀ (r1 : Int64) (r2 : Int64), t_Ro_commonOf_9 c σ s = (r1, r2) → mW1 P_Ro_commonOf (9, [none, none, none, none, some (mJ r1), none, some (mJ r2), none, some (mI (c + 1)), none, none], [], σ, 0, 0) Post) : mW1 P_Ro_commonOf (9, [none, none, none, none, some (mJ (s.1)), none, some (mJ (s.2)), none, some (mI c), none, none], [], σ, 0, 0) Post := by
  unfold g_Ro_commonOf_9 at hp
  refine mW1_eq (q_Ro_commonOf_9 _ _ _ _) ?_
  refine mTr_if (fun h0 => ?_) (fun h0 => ?_)
  · skip
    exact absurd (if_pos h0) hq
  · skip
    have hp := hp h0
    refine mTr_if (fun h1 => ?_) (fun h1 => ?_)
    · skip
      exact absurd ((if_neg h0).trans (if_pos h1)) hq
    · skip
      have hp := hp h1
      refine mTr_g hp ?_
      exact mTr_k (hn (s.2) ((s.1) - (s.1) / (s.2) * (s.2)) ((if_neg h0).trans (if_neg h1)))
theorem lp_Ro_commonOf_9 {Post : MST → Prop}  (c0 : Int32) (σ : MSto) (s0 : Int64 × Int64) (N : Nat) (hb : ∀ i, i < N → g_Ro_commonOf_9 (c0 + nI i) σ (f_Ro_commonOf_9 c0 σ s0 i) ∧ ¬ q_Ro_commonOf_9s (c0 + nI i) σ (f_Ro_commonOf_9 c0 σ s0 i) = 1) (h : mW1 P_Ro_commonOf (9, [none, none, none, none, some (mJ ((f_Ro_commonOf_9 c0 σ s0 N).1)), none, some (mJ ((f_Ro_commonOf_9 c0 σ s0 N).2)), none, some (mI (c0 + nI N)), none, none], [], σ, 0, 0) Post) : mW1 P_Ro_commonOf (9, [none, none, none, none, some (mJ (s0.1)), none, some (mJ (s0.2)), none, some (mI c0), none, none], [], σ, 0, 0) Post := by
  refine mW1_st (mW1_loop (fun i => (9, [none, none, none, none, some (mJ ((f_Ro_commonOf_9 c0 σ s0 i).1)), none, some (mJ ((f_Ro_commonOf_9 c0 σ s0 i).2)), none, some (mI (c0 + nI i)), none, none], [], σ, 0, 0)) N (fun i hlt hn => ?_) h) (by rw [show nI 0 = 0 from rfl, Int32.add_zero] <;> rfl)
  refine lt_Ro_commonOf_9 _ σ _ (hb i hlt).1 (hb i hlt).2 (fun r1 r2 hr => ?_)
  rw [Int32.add_assoc, nI_s]
  have e : f_Ro_commonOf_9 c0 σ s0 (i + 1) = (r1, r2) := hr
  try dsimp only at hn
  rw [e] at hn
  exact hn
set_option maxRecDepth 100000 in
set_option maxHeartbeats 4000000 in
theorem d_Ro_commonOf (a0 : Int64) (a2 : Int64) (σ : MSto) (hp : p_Ro_commonOf a0 a2 σ) : mW1 P_Ro_commonOf (0, [some (mJ a0), none, some (mJ a2), none, none, none, none, none, none, none, none], [], σ, 0, 0) (mF [47] [mJ (v_Ro_commonOf a0 a2 σ)] σ 0 0) := by
  refine mW1_eq (q_Ro_commonOf_e _ _ _) ?_
  unfold p_Ro_commonOf at hp
  refine mTr_k (lp_Ro_commonOf_9 0 σ (a0, a2) (n_Ro_commonOf_9 0 σ (a0, a2)) hp.1 ?_)
  have hp := hp.2
  refine mW1_eq (q_Ro_commonOf_9 _ _ _ _) ?_
  refine mTr_if (fun h0 => ?_) (fun h0 => ?_)
  · skip
    exact mTr_e (by decide) (congrArg (fun z => [mJ z]) (Eq.symm (rfl))) rfl (by decide) (by decide)
  · skip
    have hp := hp h0
    refine mTr_if (fun h1 => ?_) (fun h1 => ?_)
    · skip
      exact mTr_e (by decide) (congrArg (fun z => [mJ z]) (Eq.symm (rfl))) rfl (by decide) (by decide)
    · skip
      have hp := hp h1
      exact hp.elim
theorem tk_Ro_commonOf : ∀ pc i nx tg, T_Ro_commonOf pc = some (i, nx, tg) → mOkB prog_9_method_5_code pc i nx tg = true := code_ok (N := 48) (fun k h => by unfold T_Ro_commonOf; rw [h]; rfl) (by decide +kernel)
theorem ok_Ro_commonOf (l : Launch) : mPOK l "ClothWithMan$Row" prog_9_method_5_code P_Ro_commonOf := by
  refine ⟨tk_Ro_commonOf, ?_, ?_, ?_, (fun pc i nx tg kd _ h => by cases h), ?_, ?_, fun pc en h => by cases h⟩
  · intro x ci f ty fin h
    exact mLook_all (Q := fun x v => mFOK "ClothWithMan$Row" x v.1 v.2.1 v.2.2.1 v.2.2.2 ∧ (v.2.2.2 = true → pIni P_Ro_commonOf = true → (Cond.fieldLink "ClothWithMan$Row" x (((mCl[v.1]?).getD ("", fun _ => ("", "", "", false), 0)).2.1 v.2.1).1 (((mCl[v.1]?).getD ("", fun _ => ("", "", "", false), 0)).2.1 v.2.1).2.1 (((mCl[v.1]?).getD ("", fun _ => ("", "", "", false), 0)).2.1 v.2.1).2.2.1 ∈ lw_tbl ∧ (((mCl[v.1]?).getD ("", fun _ => ("", "", "", false), 0)).2.1 v.2.1).1 = "ClothWithMan$Row"))) fcN x (ci, f, ty, fin) h
  · intro x
    have hh := mLook_all (l := ([] : List (Nat × (Int32 ⊕ Int64)))) (Q := fun x (v : Int32 ⊕ Int64) => (∀ w, v = .inl w → Cond.constant "ClothWithMan$Row" x w ∈ lw_tbl) ∧ (∀ w, v = .inr w → Cond.constantLong "ClothWithMan$Row" x w ∈ lw_tbl)) fcN x
    exact ⟨fun w h => (hh _ h).1 w rfl, fun w h => (hh _ h).2 w rfl⟩
  · exact fun x en h => mLook_all (Q := fun x en => mLink "ClothWithMan$Row" x en ∧ mCtr l en ∧ (en.1.1 = 2 → en.2.2.2.2.2.2 = none)) fcN x en h
  · exact fun x kd h => mLook_all (Q := fun x kd => (kd = 95 ∧ Cond.fieldLink "ClothWithMan$Row" x "ClothWithMan" "LIKENESSES" "[I" ∈ lw_tbl) ∨ (kd = 96 ∧ Cond.fieldLink "ClothWithMan$Row" x "ClothWithMan" "APART_BOUNDS" "[I" ∈ lw_tbl)) fcN x kd h
  · exact fun x ci h => mLook_all (Q := fun x ci => ci ≠ 0 ∧ ∃ (C : String) (T : u_T) (N : Nat), mCl[ci]? = some (C, T, N) ∧ Cond.classLink "ClothWithMan$Row" x C ∈ lw_tbl ∧ Cond.instantiable C N ∈ lw_tbl) fcN x ci h
set_option maxRecDepth 100000 in
theorem c_Ro_commonOf (l : Launch) : mCtr l E_Ro_commonOf := mCtr_of (P := P_Ro_commonOf) (own := "ClothWithMan$Row") mLay_ok rfl (by decide +kernel) rfl (ok_Ro_commonOf l) (fun h => by cases h) (fun as σ pr rv σ' hF hpr hlv => by
  unfold E_Ro_commonOf S_Ro_commonOf at hF
  simp only [] at hF
  split at hF
  · cases hF
    obtain ⟨n, pcF, c1, s1, g1, g2, g3, g4⟩ := mF_inv (d_Ro_commonOf _ _ σ (hpr _ rfl))
    exact ⟨Nat.le_of_ble_eq_true rfl, (fun v h => by cases h; trivial), n, pcF, c1, s1, g1, mEnd_of (i := .lreturn) (P := P_Ro_commonOf) (rets := [47]) rfl g2, g3, g4⟩
  · cases hF
    exact (hpr _ rfl).elim)
/-! ClothWithMan$Row.addFraction(JJ)V -/
def p_Ro_addFraction (a1 : Int64) (a3 : Int64) (σ : MSto) : Prop := ((p_Ro_commonOf (v_Ma_absJ a1 σ) a3 σ) ∧ ((((lg_cmp (v_Ro_commonOf (v_Ma_absJ a1 σ) a3 σ) 0) ≤ 0) → ((p_Ro_add a1 σ) ∧ ((((lg_cmp (v_Ro_commonOf (v_Ma_absJ a1 σ) a3 σ) 0) ≤ 0) → (p_Ro_add a3 (e_Ro_add a1 σ))) ∧ (¬ ((lg_cmp (v_Ro_commonOf (v_Ma_absJ a1 σ) a3 σ) 0) ≤ 0) → ((¬ ((v_Ro_commonOf (v_Ma_absJ a1 σ) a3 σ) : Int64) = 0) ∧ (p_Ro_add (a3 / (v_Ro_commonOf (v_Ma_absJ a1 σ) a3 σ)) (e_Ro_add a1 σ))))))) ∧ (¬ ((lg_cmp (v_Ro_commonOf (v_Ma_absJ a1 σ) a3 σ) 0) ≤ 0) → ((¬ ((v_Ro_commonOf (v_Ma_absJ a1 σ) a3 σ) : Int64) = 0) ∧ ((p_Ro_add (a1 / (v_Ro_commonOf (v_Ma_absJ a1 σ) a3 σ)) σ) ∧ ((((lg_cmp (v_Ro_commonOf (v_Ma_absJ a1 σ) a3 σ) 0) ≤ 0) → (p_Ro_add a3 (e_Ro_add (a1 / (v_Ro_commonOf (v_Ma_absJ a1 σ) a3 σ)) σ))) ∧ (¬ ((lg_cmp (v_Ro_commonOf (v_Ma_absJ a1 σ) a3 σ) 0) ≤ 0) → ((¬ ((v_Ro_commonOf (v_Ma_absJ a1 σ) a3 σ) : Int64) = 0) ∧ (p_Ro_add (a3 / (v_Ro_commonOf (v_Ma_absJ a1 σ) a3 σ)) (e_Ro_add (a1 / (v_Ro_commonOf (v_Ma_absJ a1 σ) a3 σ)) σ))))))))))
noncomputable def e_Ro_addFraction (a1 : Int64) (a3 : Int64) (σ : MSto) : MSto := (if (lg_cmp (v_Ro_commonOf (v_Ma_absJ a1 σ) a3 σ) 0) ≤ 0 then (if (lg_cmp (v_Ro_commonOf (v_Ma_absJ a1 σ) a3 σ) 0) ≤ 0 then (e_Ro_add a3 (e_Ro_add a1 σ)) else (e_Ro_add (a3 / (v_Ro_commonOf (v_Ma_absJ a1 σ) a3 σ)) (e_Ro_add a1 σ))) else (if (lg_cmp (v_Ro_commonOf (v_Ma_absJ a1 σ) a3 σ) 0) ≤ 0 then (e_Ro_add a3 (e_Ro_add (a1 / (v_Ro_commonOf (v_Ma_absJ a1 σ) a3 σ)) σ)) else (e_Ro_add (a3 / (v_Ro_commonOf (v_Ma_absJ a1 σ) a3 σ)) (e_Ro_add (a1 / (v_Ro_commonOf (v_Ma_absJ a1 σ) a3 σ)) σ))))
noncomputable def S_Ro_addFraction : List MV → MSto → Option Prop × Option MV × MSto := fun as σ => match as with
  | [.inr (.inr (some (8, 0))), .inr (.inl a0), .inr (.inl a1)] => (some (p_Ro_addFraction a0 a1 σ), none, e_Ro_addFraction a0 a1 σ)
  | _ => (some False, none, σ)
noncomputable def E_Ro_addFraction : MEnt := ((1, 2, 8), (1, 30, 0, 0), S_Ro_addFraction, ((⟨"ClothWithMan$Row", "addFraction", "(JJ)V"⟩ : MethodName), prog_9_method_4_code, 7, none))

def T_Ro_addFraction : Nat → Option (Instr × Nat × List Nat) := fun k => bif Nat.blt k 49 then (bif Nat.blt k 25 then (bif Nat.blt k 13 then (bif Nat.blt k 5 then (bif Nat.blt k 1 then (bif Nat.beq k 0 then some (.lload_n 1, 1, []) else none) else (bif Nat.blt k 4 then (bif Nat.beq k 1 then some (.invokestatic 19, 4, []) else none) else (bif Nat.beq k 4 then some (.lload_n 3, 5, []) else none))) else (bif Nat.blt k 10 then (bif Nat.blt k 8 then (bif Nat.beq k 5 then some (.invokestatic 25, 8, []) else none) else (bif Nat.beq k 8 then some (.lstore 5, 10, []) else none)) else (bif Nat.blt k 11 then (bif Nat.beq k 10 then some (.aload_n 0, 11, []) else none) else (bif Nat.beq k 11 then some (.lload 5, 13, []) else none)))) else (bif Nat.blt k 18 then (bif Nat.blt k 14 then (bif Nat.beq k 13 then some (.lconst 0, 14, []) else none) else (bif Nat.blt k 15 then (bif Nat.beq k 14 then some (.lcmp, 15, []) else none) else (bif Nat.beq k 15 then some (.ifCond .le 10, 18, [25]) else none))) else (bif Nat.blt k 21 then (bif Nat.blt k 19 then (bif Nat.beq k 18 then some (.lload_n 1, 19, []) else none) else (bif Nat.beq k 19 then some (.lload 5, 21, []) else none)) else (bif Nat.blt k 22 then (bif Nat.beq k 21 then some (.ldiv, 22, []) else none) else (bif Nat.beq k 22 then some (.goto 4, 25, [26]) else none))))) else (bif Nat.blt k 37 then (bif Nat.blt k 30 then (bif Nat.blt k 26 then (bif Nat.beq k 25 then some (.lload_n 1, 26, []) else none) else (bif Nat.blt k 29 then (bif Nat.beq k 26 then some (.invokevirtual 29, 29, []) else none) else (bif Nat.beq k 29 then some (.aload_n 0, 30, []) else none))) else (bif Nat.blt k 33 then (bif Nat.blt k 32 then (bif Nat.beq k 30 then some (.lload 5, 32, []) else none) else (bif Nat.beq k 32 then some (.lconst 0, 33, []) else none)) else (bif Nat.blt k 34 then (bif Nat.beq k 33 then some (.lcmp, 34, []) else none) else (bif Nat.beq k 34 then some (.ifCond .le 10, 37, [44]) else none)))) else (bif Nat.blt k 41 then (bif Nat.blt k 38 then (bif Nat.beq k 37 then some (.lload_n 3, 38, []) else none) else (bif Nat.blt k 40 then (bif Nat.beq k 38 then some (.lload 5, 40, []) else none) else (bif Nat.beq k 40 then some (.ldiv, 41, []) else none))) else (bif Nat.blt k 45 then (bif Nat.blt k 44 then (bif Nat.beq k 41 then some (.goto 4, 44, [45]) else none) else (bif Nat.beq k 44 then some (.lload_n 3, 45, []) else none)) else (bif Nat.blt k 48 then (bif Nat.beq k 45 then some (.invokevirtual 29, 48, []) else none) else (bif Nat.beq k 48 then some (.return_, 49, []) else none)))))) else none
noncomputable def P_Ro_addFraction : MP := (T_Ro_addFraction, (fun k => mLook k []), (fun k => mLook k []), (fun k => mLook k [(19, E_Ma_absJ), (25, E_Ro_commonOf), (29, E_Ro_add)]), (fun k => mLook k []), (fun k => mLook k []), (fun k => mLook k []), (fun k => mLook k []), (fun k => [48].any (Nat.beq k)), (1, 30, 0, 0), false, (fun _ => none))
set_option maxRecDepth 100000 in
set_option maxHeartbeats 4000000 in
theorem q_Ro_addFraction_e (a1 : Int64) (a3 : Int64) (σ : MSto) (n : Nat) : mexe KT P_Ro_addFraction (n + 1) (0, [some (mR 8 0), some (mJ a1), none, some (mJ a3), none, none, none], [], σ, 0, 0) = mG (p_Ro_commonOf (v_Ma_absJ a1 σ) a3 σ) (mIf ((lg_cmp (v_Ro_commonOf (v_Ma_absJ a1 σ) a3 σ) 0) ≤ 0) (mG (p_Ro_add a1 σ) (mIf ((lg_cmp (v_Ro_commonOf (v_Ma_absJ a1 σ) a3 σ) 0) ≤ 0) (mG (p_Ro_add a3 (e_Ro_add a1 σ)) (some (48, [], [], (e_Ro_add a3 (e_Ro_add a1 σ)), 0, 0))) (mG (¬ ((v_Ro_commonOf (v_Ma_absJ a1 σ) a3 σ) : Int64) = 0) (mG (p_Ro_add (a3 / (v_Ro_commonOf (v_Ma_absJ a1 σ) a3 σ)) (e_Ro_add a1 σ)) (some (48, [], [], (e_Ro_add (a3 / (v_Ro_commonOf (v_Ma_absJ a1 σ) a3 σ)) (e_Ro_add a1 σ)), 0, 0)))))) (mG (¬ ((v_Ro_commonOf (v_Ma_absJ a1 σ) a3 σ) : Int64) = 0) (mG (p_Ro_add (a1 / (v_Ro_commonOf (v_Ma_absJ a1 σ) a3 σ)) σ) (mIf ((lg_cmp (v_Ro_commonOf (v_Ma_absJ a1 σ) a3 σ) 0) ≤ 0) (mG (p_Ro_add a3 (e_Ro_add (a1 / (v_Ro_commonOf (v_Ma_absJ a1 σ) a3 σ)) σ)) (some (48, [], [], (e_Ro_add a3 (e_Ro_add (a1 / (v_Ro_commonOf (v_Ma_absJ a1 σ) a3 σ)) σ)), 0, 0))) (mG (¬ ((v_Ro_commonOf (v_Ma_absJ a1 σ) a3 σ) : Int64) = 0) (mG (p_Ro_add (a3 / (v_Ro_commonOf (v_Ma_absJ a1 σ) a3 σ)) (e_Ro_add (a1 / (v_Ro_commonOf (v_Ma_absJ a1 σ) a3 σ)) σ)) (some (48, [], [], (e_Ro_add (a3 / (v_Ro_commonOf (v_Ma_absJ a1 σ) a3 σ)) (e_Ro_add (a1 / (v_Ro_commonOf (v_Ma_absJ a1 σ) a3 σ)) σ)), 0, 0)))))))) := rfl
set_option maxRecDepth 100000 in
set_option maxHeartbeats 4000000 in
theorem d_Ro_addFraction (a1 : Int64) (a3 : Int64) (σ : MSto) (hp : p_Ro_addFraction a1 a3 σ) : mW1 P_Ro_addFraction (0, [some (mR 8 0), some (mJ a1), none, some (mJ a3), none, none, none], [], σ, 0, 0) (mF [48] [] (e_Ro_addFraction a1 a3 σ) 0 0) := by
  refine mW1_eq (q_Ro_addFraction_e _ _ _) ?_
  unfold p_Ro_addFraction at hp
  refine mTr_g hp.1 ?_
  have hp := hp.2
  refine mTr_if (fun h0 => ?_) (fun h0 => ?_)
  · skip
    have hp := hp.1 h0
    refine mTr_g hp.1 ?_
    have hp := hp.2
    refine mTr_if (fun h1 => ?_) (fun h1 => ?_)
    · skip
      have hp := hp.1 h1
      refine mTr_g hp ?_
      exact mTr_e (by decide) rfl (Eq.symm ((if_pos h0).trans (if_pos h1))) (by decide) (by decide)
    · skip
      have hp := hp.2 h1
      refine mTr_g hp.1 ?_
      have hp := hp.2
      refine mTr_g hp ?_
      exact mTr_e (by decide) rfl (Eq.symm ((if_pos h0).trans (if_neg h1))) (by decide) (by decide)
  · skip
    have hp := hp.2 h0
    refine mTr_g hp.1 ?_
    have hp := hp.2
    refine mTr_g hp.1 ?_
    have hp := hp.2
    refine mTr_if (fun h1 => ?_) (fun h1 => ?_)
    · skip
      have hp := hp.1 h1
      refine mTr_g hp ?_
      exact mTr_e (by decide) rfl (Eq.symm ((if_neg h0).trans (if_pos h1))) (by decide) (by decide)
    · skip
      have hp := hp.2 h1
      refine mTr_g hp.1 ?_
      have hp := hp.2
      refine mTr_g hp ?_
      exact mTr_e (by decide) rfl (Eq.symm ((if_neg h0).trans (if_neg h1))) (by decide) (by decide)
theorem li_Ro_29 : mLink "ClothWithMan$Row" 29 E_Ro_add := ⟨tw_3_85, tw_1_8, ⟨by decide, by decide⟩, by decide +kernel, Or.inl tw_3_140, (fun h => by cases h), (fun _ => ⟨tw_3_83, tw_3_84, TX7, 2, rfl⟩), (fun h => by cases h)⟩

theorem li_Ro_25 : mLink "ClothWithMan$Row" 25 E_Ro_commonOf := ⟨tw_3_139, tw_1_8, ⟨by decide, by decide⟩, by decide +kernel, Or.inl tw_3_137, (fun _ => tw_3_138), (fun h => by cases h), (fun h => by cases h)⟩

theorem li_Ro_19 : mLink "ClothWithMan$Row" 19 E_Ma_absJ := ⟨tw_3_67, tw_1_10, ⟨by decide, by decide⟩, by decide +kernel, Or.inl tw_3_136, (fun _ => tw_3_66), (fun h => by cases h), (fun h => by cases h)⟩

theorem tk_Ro_addFraction : ∀ pc i nx tg, T_Ro_addFraction pc = some (i, nx, tg) → mOkB prog_9_method_4_code pc i nx tg = true := code_ok (N := 49) (fun k h => by unfold T_Ro_addFraction; rw [h]; rfl) (by decide +kernel)
theorem ok_Ro_addFraction (l : Launch) : mPOK l "ClothWithMan$Row" prog_9_method_4_code P_Ro_addFraction := by
  refine ⟨tk_Ro_addFraction, ?_, ?_, ?_, (fun pc i nx tg kd _ h => by cases h), ?_, ?_, fun pc en h => by cases h⟩
  · intro x ci f ty fin h
    exact mLook_all (Q := fun x v => mFOK "ClothWithMan$Row" x v.1 v.2.1 v.2.2.1 v.2.2.2 ∧ (v.2.2.2 = true → pIni P_Ro_addFraction = true → (Cond.fieldLink "ClothWithMan$Row" x (((mCl[v.1]?).getD ("", fun _ => ("", "", "", false), 0)).2.1 v.2.1).1 (((mCl[v.1]?).getD ("", fun _ => ("", "", "", false), 0)).2.1 v.2.1).2.1 (((mCl[v.1]?).getD ("", fun _ => ("", "", "", false), 0)).2.1 v.2.1).2.2.1 ∈ lw_tbl ∧ (((mCl[v.1]?).getD ("", fun _ => ("", "", "", false), 0)).2.1 v.2.1).1 = "ClothWithMan$Row"))) fcN x (ci, f, ty, fin) h
  · intro x
    have hh := mLook_all (l := ([] : List (Nat × (Int32 ⊕ Int64)))) (Q := fun x (v : Int32 ⊕ Int64) => (∀ w, v = .inl w → Cond.constant "ClothWithMan$Row" x w ∈ lw_tbl) ∧ (∀ w, v = .inr w → Cond.constantLong "ClothWithMan$Row" x w ∈ lw_tbl)) fcN x
    exact ⟨fun w h => (hh _ h).1 w rfl, fun w h => (hh _ h).2 w rfl⟩
  · exact fun x en h => mLook_all (Q := fun x en => mLink "ClothWithMan$Row" x en ∧ mCtr l en ∧ (en.1.1 = 2 → en.2.2.2.2.2.2 = none)) (fcC ⟨li_Ro_19, c_Ma_absJ l, (fun h => by cases h)⟩ (fcC ⟨li_Ro_25, c_Ro_commonOf l, (fun h => by cases h)⟩ (fcC ⟨li_Ro_29, c_Ro_add l, (fun h => by cases h)⟩ fcN))) x en h
  · exact fun x kd h => mLook_all (Q := fun x kd => (kd = 95 ∧ Cond.fieldLink "ClothWithMan$Row" x "ClothWithMan" "LIKENESSES" "[I" ∈ lw_tbl) ∨ (kd = 96 ∧ Cond.fieldLink "ClothWithMan$Row" x "ClothWithMan" "APART_BOUNDS" "[I" ∈ lw_tbl)) fcN x kd h
  · exact fun x ci h => mLook_all (Q := fun x ci => ci ≠ 0 ∧ ∃ (C : String) (T : u_T) (N : Nat), mCl[ci]? = some (C, T, N) ∧ Cond.classLink "ClothWithMan$Row" x C ∈ lw_tbl ∧ Cond.instantiable C N ∈ lw_tbl) fcN x ci h
set_option maxRecDepth 100000 in
theorem c_Ro_addFraction (l : Launch) : mCtr l E_Ro_addFraction := mCtr_of (P := P_Ro_addFraction) (own := "ClothWithMan$Row") mLay_ok rfl (by decide +kernel) rfl (ok_Ro_addFraction l) (fun h => by cases h) (fun as σ pr rv σ' hF hpr hlv => by
  unfold E_Ro_addFraction S_Ro_addFraction at hF
  simp only [] at hF
  split at hF
  · cases hF
    obtain ⟨n, pcF, c1, s1, g1, g2, g3, g4⟩ := mF_inv (d_Ro_addFraction _ _ σ (hpr _ rfl))
    exact ⟨Nat.le_of_ble_eq_true rfl, (fun v h => by cases h), n, pcF, c1, s1, g1, mEnd_of (i := .return_) (P := P_Ro_addFraction) (rets := [48]) rfl g2, g3, g4⟩
  · cases hF
    exact (hpr _ rfl).elim)
/-! ClothWithMan$Want.<init>(III)V -/
noncomputable def e_Wa_init (t0 : Nat) (a1 : Int32) (a2 : Int32) (a3 : Int32) (σ : MSto) : MSto := (sI (sI (sI σ 11 t0 0 a1) 11 t0 1 a2) 11 t0 2 a3)
noncomputable def S_Wa_init : List MV → MSto → Option Prop × Option MV × MSto := fun as σ => match as with
  | [.inr (.inr (some (11, i0))), .inl a0, .inl a1, .inl a2] => (none, none, e_Wa_init i0 a0 a1 a2 σ)
  | _ => (some False, none, σ)
noncomputable def E_Wa_init : MEnt := ((2, 3, 11), (1, 20, 0, 0), S_Wa_init, ((⟨"ClothWithMan$Want", "<init>", "(III)V"⟩ : MethodName), prog_12_method_1_code, 4, none))

def T_Wa_init : Nat → Option (Instr × Nat × List Nat) := fun k => bif Nat.blt k 20 then (bif Nat.blt k 10 then (bif Nat.blt k 5 then (bif Nat.blt k 1 then (bif Nat.beq k 0 then some (.aload_n 0, 1, []) else none) else (bif Nat.blt k 4 then (bif Nat.beq k 1 then some (.invokespecial 1, 4, []) else none) else (bif Nat.beq k 4 then some (.aload_n 0, 5, []) else none))) else (bif Nat.blt k 6 then (bif Nat.beq k 5 then some (.iload_n 1, 6, []) else none) else (bif Nat.blt k 9 then (bif Nat.beq k 6 then some (.putfield 7, 9, []) else none) else (bif Nat.beq k 9 then some (.aload_n 0, 10, []) else none)))) else (bif Nat.blt k 15 then (bif Nat.blt k 11 then (bif Nat.beq k 10 then some (.iload_n 2, 11, []) else none) else (bif Nat.blt k 14 then (bif Nat.beq k 11 then some (.putfield 13, 14, []) else none) else (bif Nat.beq k 14 then some (.aload_n 0, 15, []) else none))) else (bif Nat.blt k 16 then (bif Nat.beq k 15 then some (.iload_n 3, 16, []) else none) else (bif Nat.blt k 19 then (bif Nat.beq k 16 then some (.putfield 16, 19, []) else none) else (bif Nat.beq k 19 then some (.return_, 20, []) else none))))) else none
noncomputable def P_Wa_init : MP := (T_Wa_init, (fun k => mLook k [(7, (11, 0, .int, true)), (13, (11, 1, .int, true)), (16, (11, 2, .int, true))]), (fun k => mLook k []), (fun k => mLook k []), (fun k => mLook k [(1, 0)]), (fun k => mLook k []), (fun k => mLook k []), (fun k => mLook k []), (fun k => [19].any (Nat.beq k)), (1, 20, 0, 0), true, (fun _ => none))
set_option maxRecDepth 100000 in
set_option maxHeartbeats 4000000 in
theorem q_Wa_init_e (t0 : Nat) (a1 : Int32) (a2 : Int32) (a3 : Int32) (σ : MSto) (n : Nat) : mexe KT P_Wa_init (n + 1) (0, [some (mR 11 t0), some (mI a1), some (mI a2), some (mI a3)], [], σ, 0, 0) = some (19, [], [], (sI (sI (sI σ 11 t0 0 a1) 11 t0 1 a2) 11 t0 2 a3), 0, 0) := rfl
set_option maxRecDepth 100000 in
set_option maxHeartbeats 4000000 in
theorem d_Wa_init (t0 : Nat) (a1 : Int32) (a2 : Int32) (a3 : Int32) (σ : MSto) : mW1 P_Wa_init (0, [some (mR 11 t0), some (mI a1), some (mI a2), some (mI a3)], [], σ, 0, 0) (mF [19] [] (e_Wa_init t0 a1 a2 a3 σ) 0 0) := by
  refine mW1_eq (q_Wa_init_e _ _ _ _ _) ?_
  exact mTr_e (by decide) rfl (Eq.symm (rfl)) (by decide) (by decide)
theorem tk_Wa_init : ∀ pc i nx tg, T_Wa_init pc = some (i, nx, tg) → mOkB prog_12_method_1_code pc i nx tg = true := code_ok (N := 20) (fun k h => by unfold T_Wa_init; rw [h]; rfl) (by decide +kernel)
theorem al_Wa_init : ∀ pc i nx tg kd, pCode P_Wa_init pc = some (i, nx, tg) → pAlc P_Wa_init pc = some kd → match i with
    | .new x => mAOK "ClothWithMan$Want" x kd
    | .newarray t => mNAOK t kd
    | .anewarray x => mAAOK "ClothWithMan$Want" x kd
    | .invokespecial x => Cond.methodLink "ClothWithMan$Want" x Lib.objectInit ∈ lw_tbl
    | _ => True := by
  intro pc i nx tg kd h1 h2
  have h3 := mLook_mem h2
  simp only [List.mem_cons, Prod.mk.injEq, List.not_mem_nil, or_false] at h3
  rcases h3 with ⟨rfl, rfl⟩
  · have e : T_Wa_init 1 = some (i, nx, tg) := h1
    cases e
    exact tw_5_9

theorem ok_Wa_init (l : Launch) : mPOK l "ClothWithMan$Want" prog_12_method_1_code P_Wa_init := by
  refine ⟨tk_Wa_init, ?_, ?_, ?_, al_Wa_init, ?_, ?_, fun pc en h => by cases h⟩
  · intro x ci f ty fin h
    exact mLook_all (Q := fun x v => mFOK "ClothWithMan$Want" x v.1 v.2.1 v.2.2.1 v.2.2.2 ∧ (v.2.2.2 = true → pIni P_Wa_init = true → (Cond.fieldLink "ClothWithMan$Want" x (((mCl[v.1]?).getD ("", fun _ => ("", "", "", false), 0)).2.1 v.2.1).1 (((mCl[v.1]?).getD ("", fun _ => ("", "", "", false), 0)).2.1 v.2.1).2.1 (((mCl[v.1]?).getD ("", fun _ => ("", "", "", false), 0)).2.1 v.2.1).2.2.1 ∈ lw_tbl ∧ (((mCl[v.1]?).getD ("", fun _ => ("", "", "", false), 0)).2.1 v.2.1).1 = "ClothWithMan$Want"))) (fcC ⟨fo_Wa_7, fun _ _ => ⟨tw_5_10, rfl⟩⟩ (fcC ⟨fo_Wa_13, fun _ _ => ⟨tw_5_12, rfl⟩⟩ (fcC ⟨fo_Wa_16, fun _ _ => ⟨tw_5_14, rfl⟩⟩ fcN))) x (ci, f, ty, fin) h
  · intro x
    have hh := mLook_all (l := ([] : List (Nat × (Int32 ⊕ Int64)))) (Q := fun x (v : Int32 ⊕ Int64) => (∀ w, v = .inl w → Cond.constant "ClothWithMan$Want" x w ∈ lw_tbl) ∧ (∀ w, v = .inr w → Cond.constantLong "ClothWithMan$Want" x w ∈ lw_tbl)) fcN x
    exact ⟨fun w h => (hh _ h).1 w rfl, fun w h => (hh _ h).2 w rfl⟩
  · exact fun x en h => mLook_all (Q := fun x en => mLink "ClothWithMan$Want" x en ∧ mCtr l en ∧ (en.1.1 = 2 → en.2.2.2.2.2.2 = none)) fcN x en h
  · exact fun x kd h => mLook_all (Q := fun x kd => (kd = 95 ∧ Cond.fieldLink "ClothWithMan$Want" x "ClothWithMan" "LIKENESSES" "[I" ∈ lw_tbl) ∨ (kd = 96 ∧ Cond.fieldLink "ClothWithMan$Want" x "ClothWithMan" "APART_BOUNDS" "[I" ∈ lw_tbl)) fcN x kd h
  · exact fun x ci h => mLook_all (Q := fun x ci => ci ≠ 0 ∧ ∃ (C : String) (T : u_T) (N : Nat), mCl[ci]? = some (C, T, N) ∧ Cond.classLink "ClothWithMan$Want" x C ∈ lw_tbl ∧ Cond.instantiable C N ∈ lw_tbl) fcN x ci h
set_option maxRecDepth 100000 in
theorem c_Wa_init (l : Launch) : mCtr l E_Wa_init := mCtr_of (P := P_Wa_init) (own := "ClothWithMan$Want") mLay_ok rfl (by decide +kernel) rfl (ok_Wa_init l) (fun _ => rfl) (fun as σ pr rv σ' hF hpr hlv => by
  unfold E_Wa_init S_Wa_init at hF
  simp only [] at hF
  split at hF
  · cases hF
    obtain ⟨n, pcF, c1, s1, g1, g2, g3, g4⟩ := mF_inv (d_Wa_init _ _ _ _ σ)
    exact ⟨Nat.le_of_ble_eq_true rfl, (fun v h => by cases h), n, pcF, c1, s1, g1, mEnd_of (i := .return_) (P := P_Wa_init) (rets := [19]) rfl g2, g3, g4⟩
  · cases hF
    exact (hpr _ rfl).elim)

