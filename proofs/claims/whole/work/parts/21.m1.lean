/-! ClothWithManModel.in(III)Z -/
noncomputable def v_M_in (a b c : Int32) (σ : MSto) : Int32 := bI (b ≤ a ∧ a ≤ c)
noncomputable def S_M_in : List MV → MSto → Option Prop × Option MV × MSto := fun as σ => match as with
  | [.inl a0, .inl a1, .inl a2] => (none, some (mI (v_M_in a0 a1 a2 σ)), σ)
  | _ => (some False, none, σ)
noncomputable def E_M_in : MEnt := ((0, 3, 13), (0, 0, 0, 0), S_M_in, ((⟨"ClothWithManModel", "in", "(III)Z"⟩ : MethodName), prog_14_method_3_code, 3, (some .boolean)))

def T_M_in : Nat → Option (Instr × Nat × List Nat) := fun k => bif Nat.blt k 16 then (bif Nat.blt k 7 then (bif Nat.blt k 2 then (bif Nat.blt k 1 then (bif Nat.beq k 0 then some (.iload_n 0, 1, []) else none) else (bif Nat.beq k 1 then some (.iload_n 1, 2, []) else none)) else (bif Nat.blt k 5 then (bif Nat.beq k 2 then some (.if_icmp .lt 12, 5, [14]) else none) else (bif Nat.blt k 6 then (bif Nat.beq k 5 then some (.iload_n 0, 6, []) else none) else (bif Nat.beq k 6 then some (.iload_n 2, 7, []) else none)))) else (bif Nat.blt k 11 then (bif Nat.blt k 10 then (bif Nat.beq k 7 then some (.if_icmp .gt 7, 10, [14]) else none) else (bif Nat.beq k 10 then some (.iconst 1, 11, []) else none)) else (bif Nat.blt k 14 then (bif Nat.beq k 11 then some (.goto 4, 14, [15]) else none) else (bif Nat.blt k 15 then (bif Nat.beq k 14 then some (.iconst 0, 15, []) else none) else (bif Nat.beq k 15 then some (.ireturn, 16, []) else none))))) else none
noncomputable def P_M_in : MP := (T_M_in, (fun k => mLook k []), (fun k => mLook k []), (fun k => mLook k []), (fun k => mLook k []), (fun k => mLook k []), (fun k => mLook k []), (fun k => mLook k []), (fun k => [15].any (Nat.beq k)), (0, 0, 0, 0), false, (fun _ => none))
set_option maxRecDepth 100000 in
set_option maxHeartbeats 4000000 in
theorem q_M_in_e (a0 : Int32) (a1 : Int32) (a2 : Int32) (σ : MSto) (n : Nat) : mexe KT P_M_in (n + 1) (0, [some (mI a0), some (mI a1), some (mI a2)], [], σ, 0, 0) = mIf (a0 < a1) (some (15, [], [(mI 0)], σ, 0, 0)) (mIf (a2 < a0) (some (15, [], [(mI 0)], σ, 0, 0)) (some (15, [], [(mI 1)], σ, 0, 0))) := rfl
set_option maxRecDepth 100000 in
set_option maxHeartbeats 4000000 in
theorem d_M_in (a0 : Int32) (a1 : Int32) (a2 : Int32) (σ : MSto) : mW1 P_M_in (0, [some (mI a0), some (mI a1), some (mI a2)], [], σ, 0, 0) (mF [15] [mI (v_M_in a0 a1 a2 σ)] σ 0 0) := by
  refine mW1_eq (q_M_in_e _ _ _ _) ?_
  try simp only [bI_0]
  repeat' (first
    | exact mTr_e (by decide) rfl rfl (by decide) (by decide)
    | exact mTr_e (by decide) (bI_e0 (by grind)) rfl (by decide) (by decide)
    | exact mTr_e (by decide) (bI_e1 (by grind)) rfl (by decide) (by decide)
    | exact mTr_e (by decide) (ifI0 (by grind)) rfl (by decide) (by decide)
    | exact mTr_e (by decide) (ifI1 (by grind)) rfl (by decide) (by decide)
    | exact mTr_e (by decide) (ifI0 (by grind)) (ifE0 (by grind)) (by decide) (by decide)
    | exact mTr_e (by decide) (ifI1 (by grind)) (ifE1 (by grind)) (by decide) (by decide)
    | exact mTr_e (by decide) (bI_e0 (by grind)) (ifE0 (by grind)) (by decide) (by decide)
    | exact mTr_e (by decide) (bI_e1 (by grind)) (ifE1 (by grind)) (by decide) (by decide)
    | refine mTr_g (by first | assumption | decide | exact inG (by grind)) ?_
    | refine mTr_if (fun _ => ?_) (fun _ => ?_))
theorem tk_M_in : ∀ pc i nx tg, T_M_in pc = some (i, nx, tg) → mOkB prog_14_method_3_code pc i nx tg = true := code_ok (N := 16) (fun k h => by unfold T_M_in; rw [h]; rfl) (by decide +kernel)
theorem ok_M_in (l : Launch) : mPOK l "ClothWithManModel" prog_14_method_3_code P_M_in := by
  refine ⟨tk_M_in, ?_, ?_, ?_, (fun pc i nx tg kd _ h => by cases h), ?_, ?_, fun pc en h => by cases h⟩
  · intro x ci f ty fin h
    exact mLook_all (Q := fun x v => mFOK "ClothWithManModel" x v.1 v.2.1 v.2.2.1 v.2.2.2 ∧ (v.2.2.2 = true → pIni P_M_in = true → (Cond.fieldLink "ClothWithManModel" x (((mCl[v.1]?).getD ("", fun _ => ("", "", "", false), 0)).2.1 v.2.1).1 (((mCl[v.1]?).getD ("", fun _ => ("", "", "", false), 0)).2.1 v.2.1).2.1 (((mCl[v.1]?).getD ("", fun _ => ("", "", "", false), 0)).2.1 v.2.1).2.2.1 ∈ lw_tbl ∧ (((mCl[v.1]?).getD ("", fun _ => ("", "", "", false), 0)).2.1 v.2.1).1 = "ClothWithManModel"))) fcN x (ci, f, ty, fin) h
  · intro x
    have hh := mLook_all (l := ([] : List (Nat × (Int32 ⊕ Int64)))) (Q := fun x (v : Int32 ⊕ Int64) => (∀ w, v = .inl w → Cond.constant "ClothWithManModel" x w ∈ lw_tbl) ∧ (∀ w, v = .inr w → Cond.constantLong "ClothWithManModel" x w ∈ lw_tbl)) fcN x
    exact ⟨fun w h => (hh _ h).1 w rfl, fun w h => (hh _ h).2 w rfl⟩
  · exact fun x en h => mLook_all (Q := fun x en => mLink "ClothWithManModel" x en ∧ mCtr l en ∧ (en.1.1 = 2 → en.2.2.2.2.2.2 = none)) fcN x en h
  · exact fun x kd h => mLook_all (Q := fun x kd => (kd = 95 ∧ Cond.fieldLink "ClothWithManModel" x "ClothWithMan" "LIKENESSES" "[I" ∈ lw_tbl) ∨ (kd = 96 ∧ Cond.fieldLink "ClothWithManModel" x "ClothWithMan" "APART_BOUNDS" "[I" ∈ lw_tbl)) fcN x kd h
  · exact fun x ci h => mLook_all (Q := fun x ci => ci ≠ 0 ∧ ∃ (C : String) (T : u_T) (N : Nat), mCl[ci]? = some (C, T, N) ∧ Cond.classLink "ClothWithManModel" x C ∈ lw_tbl ∧ Cond.instantiable C N ∈ lw_tbl) fcN x ci h
set_option maxRecDepth 100000 in
theorem c_M_in (l : Launch) : mCtr l E_M_in := mCtr_of (P := P_M_in) (own := "ClothWithManModel") mLay_ok rfl (by decide +kernel) rfl (ok_M_in l) (fun h => by cases h) (fun as σ pr rv σ' hF hpr hlv => by
  unfold E_M_in S_M_in at hF
  simp only [] at hF
  split at hF
  · cases hF
    obtain ⟨n, pcF, c1, s1, g1, g2, g3, g4⟩ := mF_inv (d_M_in _ _ _ σ)
    exact ⟨Nat.le_of_ble_eq_true rfl, (fun v h => by cases h; trivial), n, pcF, c1, s1, g1, ⟨mEnd_of (i := .ireturn) (P := P_M_in) (rets := [15]) rfl g2, bI_narrow _⟩, g3, g4⟩
  · cases hF
    exact (hpr _ rfl).elim)
/-! ClothWithManModel.isYear(I)Z -/
noncomputable def v_M_isYear (a : Int32) (σ : MSto) : Int32 := bI (0 ≤ a ∧ a ≤ 199)
noncomputable def S_M_isYear : List MV → MSto → Option Prop × Option MV × MSto := fun as σ => match as with
  | [.inl a0] => (none, some (mI (v_M_isYear a0 σ)), σ)
  | _ => (some False, none, σ)
noncomputable def E_M_isYear : MEnt := ((0, 1, 13), (1, 22, 0, 0), S_M_isYear, ((⟨"ClothWithManModel", "isYear", "(I)Z"⟩ : MethodName), prog_14_method_8_code, 1, (some .boolean)))

def T_M_isYear : Nat → Option (Instr × Nat × List Nat) := fun k => bif Nat.blt k 9 then (bif Nat.blt k 2 then (bif Nat.blt k 1 then (bif Nat.beq k 0 then some (.iload_n 0, 1, []) else none) else (bif Nat.beq k 1 then some (.iconst 0, 2, []) else none)) else (bif Nat.blt k 5 then (bif Nat.beq k 2 then some (.sipush 199, 5, []) else none) else (bif Nat.blt k 8 then (bif Nat.beq k 5 then some (.invokestatic 181, 8, []) else none) else (bif Nat.beq k 8 then some (.ireturn, 9, []) else none)))) else none
noncomputable def P_M_isYear : MP := (T_M_isYear, (fun k => mLook k []), (fun k => mLook k []), (fun k => mLook k [(181, E_M_in)]), (fun k => mLook k []), (fun k => mLook k []), (fun k => mLook k []), (fun k => mLook k []), (fun k => [8].any (Nat.beq k)), (1, 22, 0, 0), false, (fun _ => none))
set_option maxRecDepth 100000 in
set_option maxHeartbeats 4000000 in
theorem q_M_isYear_e (a0 : Int32) (σ : MSto) (n : Nat) : mexe KT P_M_isYear (n + 1) (0, [some (mI a0)], [], σ, 0, 0) = some (8, [], [(mI (v_M_in a0 0 199 σ))], σ, 0, 0) := rfl
set_option maxRecDepth 100000 in
set_option maxHeartbeats 4000000 in
theorem d_M_isYear (a0 : Int32) (σ : MSto) : mW1 P_M_isYear (0, [some (mI a0)], [], σ, 0, 0) (mF [8] [mI (v_M_isYear a0 σ)] σ 0 0) := by
  refine mW1_eq (q_M_isYear_e _ _) ?_
  try simp only [bI_0]
  repeat' (first
    | exact mTr_e (by decide) rfl rfl (by decide) (by decide)
    | exact mTr_e (by decide) (bI_e0 (by grind)) rfl (by decide) (by decide)
    | exact mTr_e (by decide) (bI_e1 (by grind)) rfl (by decide) (by decide)
    | exact mTr_e (by decide) (ifI0 (by grind)) rfl (by decide) (by decide)
    | exact mTr_e (by decide) (ifI1 (by grind)) rfl (by decide) (by decide)
    | exact mTr_e (by decide) (ifI0 (by grind)) (ifE0 (by grind)) (by decide) (by decide)
    | exact mTr_e (by decide) (ifI1 (by grind)) (ifE1 (by grind)) (by decide) (by decide)
    | exact mTr_e (by decide) (bI_e0 (by grind)) (ifE0 (by grind)) (by decide) (by decide)
    | exact mTr_e (by decide) (bI_e1 (by grind)) (ifE1 (by grind)) (by decide) (by decide)
    | refine mTr_g (by first | assumption | decide | exact inG (by grind)) ?_
    | refine mTr_if (fun _ => ?_) (fun _ => ?_))
theorem li_M_181 : mLink "ClothWithManModel" 181 E_M_in := ⟨tw_6_182, tw_1_9, ⟨by decide, by decide⟩, by decide +kernel, Or.inl tw_6_180, (fun _ => tw_6_181), (fun h => by cases h), (fun h => by cases h)⟩

theorem tk_M_isYear : ∀ pc i nx tg, T_M_isYear pc = some (i, nx, tg) → mOkB prog_14_method_8_code pc i nx tg = true := code_ok (N := 9) (fun k h => by unfold T_M_isYear; rw [h]; rfl) (by decide +kernel)
theorem ok_M_isYear (l : Launch) : mPOK l "ClothWithManModel" prog_14_method_8_code P_M_isYear := by
  refine ⟨tk_M_isYear, ?_, ?_, ?_, (fun pc i nx tg kd _ h => by cases h), ?_, ?_, fun pc en h => by cases h⟩
  · intro x ci f ty fin h
    exact mLook_all (Q := fun x v => mFOK "ClothWithManModel" x v.1 v.2.1 v.2.2.1 v.2.2.2 ∧ (v.2.2.2 = true → pIni P_M_isYear = true → (Cond.fieldLink "ClothWithManModel" x (((mCl[v.1]?).getD ("", fun _ => ("", "", "", false), 0)).2.1 v.2.1).1 (((mCl[v.1]?).getD ("", fun _ => ("", "", "", false), 0)).2.1 v.2.1).2.1 (((mCl[v.1]?).getD ("", fun _ => ("", "", "", false), 0)).2.1 v.2.1).2.2.1 ∈ lw_tbl ∧ (((mCl[v.1]?).getD ("", fun _ => ("", "", "", false), 0)).2.1 v.2.1).1 = "ClothWithManModel"))) fcN x (ci, f, ty, fin) h
  · intro x
    have hh := mLook_all (l := ([] : List (Nat × (Int32 ⊕ Int64)))) (Q := fun x (v : Int32 ⊕ Int64) => (∀ w, v = .inl w → Cond.constant "ClothWithManModel" x w ∈ lw_tbl) ∧ (∀ w, v = .inr w → Cond.constantLong "ClothWithManModel" x w ∈ lw_tbl)) fcN x
    exact ⟨fun w h => (hh _ h).1 w rfl, fun w h => (hh _ h).2 w rfl⟩
  · exact fun x en h => mLook_all (Q := fun x en => mLink "ClothWithManModel" x en ∧ mCtr l en ∧ (en.1.1 = 2 → en.2.2.2.2.2.2 = none)) (fcC ⟨li_M_181, c_M_in l, (fun h => by cases h)⟩ fcN) x en h
  · exact fun x kd h => mLook_all (Q := fun x kd => (kd = 95 ∧ Cond.fieldLink "ClothWithManModel" x "ClothWithMan" "LIKENESSES" "[I" ∈ lw_tbl) ∨ (kd = 96 ∧ Cond.fieldLink "ClothWithManModel" x "ClothWithMan" "APART_BOUNDS" "[I" ∈ lw_tbl)) fcN x kd h
  · exact fun x ci h => mLook_all (Q := fun x ci => ci ≠ 0 ∧ ∃ (C : String) (T : u_T) (N : Nat), mCl[ci]? = some (C, T, N) ∧ Cond.classLink "ClothWithManModel" x C ∈ lw_tbl ∧ Cond.instantiable C N ∈ lw_tbl) fcN x ci h
set_option maxRecDepth 100000 in
theorem c_M_isYear (l : Launch) : mCtr l E_M_isYear := mCtr_of (P := P_M_isYear) (own := "ClothWithManModel") mLay_ok rfl (by decide +kernel) rfl (ok_M_isYear l) (fun h => by cases h) (fun as σ pr rv σ' hF hpr hlv => by
  unfold E_M_isYear S_M_isYear at hF
  simp only [] at hF
  split at hF
  · cases hF
    obtain ⟨n, pcF, c1, s1, g1, g2, g3, g4⟩ := mF_inv (d_M_isYear _ σ)
    exact ⟨Nat.le_of_ble_eq_true rfl, (fun v h => by cases h; trivial), n, pcF, c1, s1, g1, ⟨mEnd_of (i := .ireturn) (P := P_M_isYear) (rets := [8]) rfl g2, bI_narrow _⟩, g3, g4⟩
  · cases hF
    exact (hpr _ rfl).elim)
/-! ClothWithManModel.isPlace(II)Z -/
noncomputable def v_M_isPlace (a b : Int32) (σ : MSto) : Int32 := bI ((0 ≤ a ∧ a ≤ 23) ∧ (0 ≤ b ∧ b ≤ 7))
noncomputable def S_M_isPlace : List MV → MSto → Option Prop × Option MV × MSto := fun as σ => match as with
  | [.inl a0, .inl a1] => (none, some (mI (v_M_isPlace a0 a1 σ)), σ)
  | _ => (some False, none, σ)
noncomputable def E_M_isPlace : MEnt := ((0, 2, 13), (1, 22, 0, 0), S_M_isPlace, ((⟨"ClothWithManModel", "isPlace", "(II)Z"⟩ : MethodName), prog_14_method_9_code, 2, (some .boolean)))

def T_M_isPlace : Nat → Option (Instr × Nat × List Nat) := fun k => bif Nat.blt k 26 then (bif Nat.blt k 12 then (bif Nat.blt k 4 then (bif Nat.blt k 1 then (bif Nat.beq k 0 then some (.iload_n 0, 1, []) else none) else (bif Nat.blt k 2 then (bif Nat.beq k 1 then some (.iconst 0, 2, []) else none) else (bif Nat.beq k 2 then some (.bipush 23, 4, []) else none))) else (bif Nat.blt k 10 then (bif Nat.blt k 7 then (bif Nat.beq k 4 then some (.invokestatic 181, 7, []) else none) else (bif Nat.beq k 7 then some (.ifCond .eq 17, 10, [24]) else none)) else (bif Nat.blt k 11 then (bif Nat.beq k 10 then some (.iload_n 1, 11, []) else none) else (bif Nat.beq k 11 then some (.iconst 0, 12, []) else none)))) else (bif Nat.blt k 20 then (bif Nat.blt k 14 then (bif Nat.beq k 12 then some (.bipush 7, 14, []) else none) else (bif Nat.blt k 17 then (bif Nat.beq k 14 then some (.invokestatic 181, 17, []) else none) else (bif Nat.beq k 17 then some (.ifCond .eq 7, 20, [24]) else none))) else (bif Nat.blt k 24 then (bif Nat.blt k 21 then (bif Nat.beq k 20 then some (.iconst 1, 21, []) else none) else (bif Nat.beq k 21 then some (.goto 4, 24, [25]) else none)) else (bif Nat.blt k 25 then (bif Nat.beq k 24 then some (.iconst 0, 25, []) else none) else (bif Nat.beq k 25 then some (.ireturn, 26, []) else none))))) else none
noncomputable def P_M_isPlace : MP := (T_M_isPlace, (fun k => mLook k []), (fun k => mLook k []), (fun k => mLook k [(181, E_M_in)]), (fun k => mLook k []), (fun k => mLook k []), (fun k => mLook k []), (fun k => mLook k []), (fun k => [25].any (Nat.beq k)), (1, 22, 0, 0), false, (fun _ => none))
set_option maxRecDepth 100000 in
set_option maxHeartbeats 4000000 in
theorem q_M_isPlace_e (a0 : Int32) (a1 : Int32) (σ : MSto) (n : Nat) : mexe KT P_M_isPlace (n + 1) (0, [some (mI a0), some (mI a1)], [], σ, 0, 0) = mIf ((v_M_in a0 0 23 σ) = 0) (some (25, [], [(mI 0)], σ, 0, 0)) (mIf ((v_M_in a1 0 7 σ) = 0) (some (25, [], [(mI 0)], σ, 0, 0)) (some (25, [], [(mI 1)], σ, 0, 0))) := rfl
set_option maxRecDepth 100000 in
set_option maxHeartbeats 4000000 in
theorem d_M_isPlace (a0 : Int32) (a1 : Int32) (σ : MSto) : mW1 P_M_isPlace (0, [some (mI a0), some (mI a1)], [], σ, 0, 0) (mF [25] [mI (v_M_isPlace a0 a1 σ)] σ 0 0) := by
  refine mW1_eq (q_M_isPlace_e _ _ _) ?_
  unfold v_M_in
  try simp only [bI_0]
  repeat' (first
    | exact mTr_e (by decide) rfl rfl (by decide) (by decide)
    | exact mTr_e (by decide) (bI_e0 (by grind)) rfl (by decide) (by decide)
    | exact mTr_e (by decide) (bI_e1 (by grind)) rfl (by decide) (by decide)
    | exact mTr_e (by decide) (ifI0 (by grind)) rfl (by decide) (by decide)
    | exact mTr_e (by decide) (ifI1 (by grind)) rfl (by decide) (by decide)
    | exact mTr_e (by decide) (ifI0 (by grind)) (ifE0 (by grind)) (by decide) (by decide)
    | exact mTr_e (by decide) (ifI1 (by grind)) (ifE1 (by grind)) (by decide) (by decide)
    | exact mTr_e (by decide) (bI_e0 (by grind)) (ifE0 (by grind)) (by decide) (by decide)
    | exact mTr_e (by decide) (bI_e1 (by grind)) (ifE1 (by grind)) (by decide) (by decide)
    | refine mTr_g (by first | assumption | decide | exact inG (by grind)) ?_
    | refine mTr_if (fun _ => ?_) (fun _ => ?_))

theorem tk_M_isPlace : ∀ pc i nx tg, T_M_isPlace pc = some (i, nx, tg) → mOkB prog_14_method_9_code pc i nx tg = true := code_ok (N := 26) (fun k h => by unfold T_M_isPlace; rw [h]; rfl) (by decide +kernel)
theorem ok_M_isPlace (l : Launch) : mPOK l "ClothWithManModel" prog_14_method_9_code P_M_isPlace := by
  refine ⟨tk_M_isPlace, ?_, ?_, ?_, (fun pc i nx tg kd _ h => by cases h), ?_, ?_, fun pc en h => by cases h⟩
  · intro x ci f ty fin h
    exact mLook_all (Q := fun x v => mFOK "ClothWithManModel" x v.1 v.2.1 v.2.2.1 v.2.2.2 ∧ (v.2.2.2 = true → pIni P_M_isPlace = true → (Cond.fieldLink "ClothWithManModel" x (((mCl[v.1]?).getD ("", fun _ => ("", "", "", false), 0)).2.1 v.2.1).1 (((mCl[v.1]?).getD ("", fun _ => ("", "", "", false), 0)).2.1 v.2.1).2.1 (((mCl[v.1]?).getD ("", fun _ => ("", "", "", false), 0)).2.1 v.2.1).2.2.1 ∈ lw_tbl ∧ (((mCl[v.1]?).getD ("", fun _ => ("", "", "", false), 0)).2.1 v.2.1).1 = "ClothWithManModel"))) fcN x (ci, f, ty, fin) h
  · intro x
    have hh := mLook_all (l := ([] : List (Nat × (Int32 ⊕ Int64)))) (Q := fun x (v : Int32 ⊕ Int64) => (∀ w, v = .inl w → Cond.constant "ClothWithManModel" x w ∈ lw_tbl) ∧ (∀ w, v = .inr w → Cond.constantLong "ClothWithManModel" x w ∈ lw_tbl)) fcN x
    exact ⟨fun w h => (hh _ h).1 w rfl, fun w h => (hh _ h).2 w rfl⟩
  · exact fun x en h => mLook_all (Q := fun x en => mLink "ClothWithManModel" x en ∧ mCtr l en ∧ (en.1.1 = 2 → en.2.2.2.2.2.2 = none)) (fcC ⟨li_M_181, c_M_in l, (fun h => by cases h)⟩ fcN) x en h
  · exact fun x kd h => mLook_all (Q := fun x kd => (kd = 95 ∧ Cond.fieldLink "ClothWithManModel" x "ClothWithMan" "LIKENESSES" "[I" ∈ lw_tbl) ∨ (kd = 96 ∧ Cond.fieldLink "ClothWithManModel" x "ClothWithMan" "APART_BOUNDS" "[I" ∈ lw_tbl)) fcN x kd h
  · exact fun x ci h => mLook_all (Q := fun x ci => ci ≠ 0 ∧ ∃ (C : String) (T : u_T) (N : Nat), mCl[ci]? = some (C, T, N) ∧ Cond.classLink "ClothWithManModel" x C ∈ lw_tbl ∧ Cond.instantiable C N ∈ lw_tbl) fcN x ci h
set_option maxRecDepth 100000 in
theorem c_M_isPlace (l : Launch) : mCtr l E_M_isPlace := mCtr_of (P := P_M_isPlace) (own := "ClothWithManModel") mLay_ok rfl (by decide +kernel) rfl (ok_M_isPlace l) (fun h => by cases h) (fun as σ pr rv σ' hF hpr hlv => by
  unfold E_M_isPlace S_M_isPlace at hF
  simp only [] at hF
  split at hF
  · cases hF
    obtain ⟨n, pcF, c1, s1, g1, g2, g3, g4⟩ := mF_inv (d_M_isPlace _ _ σ)
    exact ⟨Nat.le_of_ble_eq_true rfl, (fun v h => by cases h; trivial), n, pcF, c1, s1, g1, ⟨mEnd_of (i := .ireturn) (P := P_M_isPlace) (rets := [25]) rfl g2, bI_narrow _⟩, g3, g4⟩
  · cases hF
    exact (hpr _ rfl).elim)
/-! ClothWithManModel.isPiece(I)Z -/
noncomputable def v_M_isPiece (a : Int32) (σ : MSto) : Int32 := bI (0 ≤ a ∧ a ≤ gI σ 13 0 10 - 1)
noncomputable def S_M_isPiece : List MV → MSto → Option Prop × Option MV × MSto := fun as σ => match as with
  | [.inr (.inr (some (13, 0))), .inl a0] => (none, some (mI (v_M_isPiece a0 σ)), σ)
  | _ => (some False, none, σ)
noncomputable def E_M_isPiece : MEnt := ((1, 1, 13), (1, 22, 0, 0), S_M_isPiece, ((⟨"ClothWithManModel", "isPiece", "(I)Z"⟩ : MethodName), prog_14_method_10_code, 2, (some .boolean)))

def T_M_isPiece : Nat → Option (Instr × Nat × List Nat) := fun k => bif Nat.blt k 12 then (bif Nat.blt k 6 then (bif Nat.blt k 2 then (bif Nat.blt k 1 then (bif Nat.beq k 0 then some (.iload_n 1, 1, []) else none) else (bif Nat.beq k 1 then some (.iconst 0, 2, []) else none)) else (bif Nat.blt k 3 then (bif Nat.beq k 2 then some (.aload_n 0, 3, []) else none) else (bif Nat.beq k 3 then some (.getfield 185, 6, []) else none))) else (bif Nat.blt k 8 then (bif Nat.blt k 7 then (bif Nat.beq k 6 then some (.iconst 1, 7, []) else none) else (bif Nat.beq k 7 then some (.isub, 8, []) else none)) else (bif Nat.blt k 11 then (bif Nat.beq k 8 then some (.invokestatic 181, 11, []) else none) else (bif Nat.beq k 11 then some (.ireturn, 12, []) else none)))) else none
noncomputable def P_M_isPiece : MP := (T_M_isPiece, (fun k => mLook k [(185, (13, 10, .int, false))]), (fun k => mLook k []), (fun k => mLook k [(181, E_M_in)]), (fun k => mLook k []), (fun k => mLook k []), (fun k => mLook k []), (fun k => mLook k []), (fun k => [11].any (Nat.beq k)), (1, 22, 0, 0), false, (fun _ => none))
set_option maxRecDepth 100000 in
set_option maxHeartbeats 4000000 in
theorem q_M_isPiece_e (a1 : Int32) (σ : MSto) (n : Nat) : mexe KT P_M_isPiece (n + 1) (0, [some (mR 13 0), some (mI a1)], [], σ, 0, 0) = some (11, [], [(mI (v_M_in a1 0 ((gI σ 13 0 10) - 1) σ))], σ, 0, 0) := rfl
set_option maxRecDepth 100000 in
set_option maxHeartbeats 4000000 in
theorem d_M_isPiece (a1 : Int32) (σ : MSto) : mW1 P_M_isPiece (0, [some (mR 13 0), some (mI a1)], [], σ, 0, 0) (mF [11] [mI (v_M_isPiece a1 σ)] σ 0 0) := by
  refine mW1_eq (q_M_isPiece_e _ _) ?_
  try simp only [bI_0]
  repeat' (first
    | exact mTr_e (by decide) rfl rfl (by decide) (by decide)
    | exact mTr_e (by decide) (bI_e0 (by grind)) rfl (by decide) (by decide)
    | exact mTr_e (by decide) (bI_e1 (by grind)) rfl (by decide) (by decide)
    | exact mTr_e (by decide) (ifI0 (by grind)) rfl (by decide) (by decide)
    | exact mTr_e (by decide) (ifI1 (by grind)) rfl (by decide) (by decide)
    | exact mTr_e (by decide) (ifI0 (by grind)) (ifE0 (by grind)) (by decide) (by decide)
    | exact mTr_e (by decide) (ifI1 (by grind)) (ifE1 (by grind)) (by decide) (by decide)
    | exact mTr_e (by decide) (bI_e0 (by grind)) (ifE0 (by grind)) (by decide) (by decide)
    | exact mTr_e (by decide) (bI_e1 (by grind)) (ifE1 (by grind)) (by decide) (by decide)
    | refine mTr_g (by first | assumption | decide | exact inG (by grind)) ?_
    | refine mTr_if (fun _ => ?_) (fun _ => ?_))

theorem tk_M_isPiece : ∀ pc i nx tg, T_M_isPiece pc = some (i, nx, tg) → mOkB prog_14_method_10_code pc i nx tg = true := code_ok (N := 12) (fun k h => by unfold T_M_isPiece; rw [h]; rfl) (by decide +kernel)
theorem ok_M_isPiece (l : Launch) : mPOK l "ClothWithManModel" prog_14_method_10_code P_M_isPiece := by
  refine ⟨tk_M_isPiece, ?_, ?_, ?_, (fun pc i nx tg kd _ h => by cases h), ?_, ?_, fun pc en h => by cases h⟩
  · intro x ci f ty fin h
    exact mLook_all (Q := fun x v => mFOK "ClothWithManModel" x v.1 v.2.1 v.2.2.1 v.2.2.2 ∧ (v.2.2.2 = true → pIni P_M_isPiece = true → (Cond.fieldLink "ClothWithManModel" x (((mCl[v.1]?).getD ("", fun _ => ("", "", "", false), 0)).2.1 v.2.1).1 (((mCl[v.1]?).getD ("", fun _ => ("", "", "", false), 0)).2.1 v.2.1).2.1 (((mCl[v.1]?).getD ("", fun _ => ("", "", "", false), 0)).2.1 v.2.1).2.2.1 ∈ lw_tbl ∧ (((mCl[v.1]?).getD ("", fun _ => ("", "", "", false), 0)).2.1 v.2.1).1 = "ClothWithManModel"))) (fcC ⟨fo_M_185, fun h1 h2 => by cases h1⟩ fcN) x (ci, f, ty, fin) h
  · intro x
    have hh := mLook_all (l := ([] : List (Nat × (Int32 ⊕ Int64)))) (Q := fun x (v : Int32 ⊕ Int64) => (∀ w, v = .inl w → Cond.constant "ClothWithManModel" x w ∈ lw_tbl) ∧ (∀ w, v = .inr w → Cond.constantLong "ClothWithManModel" x w ∈ lw_tbl)) fcN x
    exact ⟨fun w h => (hh _ h).1 w rfl, fun w h => (hh _ h).2 w rfl⟩
  · exact fun x en h => mLook_all (Q := fun x en => mLink "ClothWithManModel" x en ∧ mCtr l en ∧ (en.1.1 = 2 → en.2.2.2.2.2.2 = none)) (fcC ⟨li_M_181, c_M_in l, (fun h => by cases h)⟩ fcN) x en h
  · exact fun x kd h => mLook_all (Q := fun x kd => (kd = 95 ∧ Cond.fieldLink "ClothWithManModel" x "ClothWithMan" "LIKENESSES" "[I" ∈ lw_tbl) ∨ (kd = 96 ∧ Cond.fieldLink "ClothWithManModel" x "ClothWithMan" "APART_BOUNDS" "[I" ∈ lw_tbl)) fcN x kd h
  · exact fun x ci h => mLook_all (Q := fun x ci => ci ≠ 0 ∧ ∃ (C : String) (T : u_T) (N : Nat), mCl[ci]? = some (C, T, N) ∧ Cond.classLink "ClothWithManModel" x C ∈ lw_tbl ∧ Cond.instantiable C N ∈ lw_tbl) fcN x ci h
set_option maxRecDepth 100000 in
theorem c_M_isPiece (l : Launch) : mCtr l E_M_isPiece := mCtr_of (P := P_M_isPiece) (own := "ClothWithManModel") mLay_ok rfl (by decide +kernel) rfl (ok_M_isPiece l) (fun h => by cases h) (fun as σ pr rv σ' hF hpr hlv => by
  unfold E_M_isPiece S_M_isPiece at hF
  simp only [] at hF
  split at hF
  · cases hF
    obtain ⟨n, pcF, c1, s1, g1, g2, g3, g4⟩ := mF_inv (d_M_isPiece _ σ)
    exact ⟨Nat.le_of_ble_eq_true rfl, (fun v h => by cases h; trivial), n, pcF, c1, s1, g1, ⟨mEnd_of (i := .ireturn) (P := P_M_isPiece) (rets := [11]) rfl g2, bI_narrow _⟩, g3, g4⟩
  · cases hF
    exact (hpr _ rfl).elim)
/-! ClothWithManModel.isStory(I)Z -/
noncomputable def v_M_isStory (a : Int32) (σ : MSto) : Int32 := bI (0 ≤ a ∧ a ≤ gI σ 13 0 17 - 1)
noncomputable def S_M_isStory : List MV → MSto → Option Prop × Option MV × MSto := fun as σ => match as with
  | [.inr (.inr (some (13, 0))), .inl a0] => (none, some (mI (v_M_isStory a0 σ)), σ)
  | _ => (some False, none, σ)
noncomputable def E_M_isStory : MEnt := ((1, 1, 13), (1, 22, 0, 0), S_M_isStory, ((⟨"ClothWithManModel", "isStory", "(I)Z"⟩ : MethodName), prog_14_method_11_code, 2, (some .boolean)))

def T_M_isStory : Nat → Option (Instr × Nat × List Nat) := fun k => bif Nat.blt k 12 then (bif Nat.blt k 6 then (bif Nat.blt k 2 then (bif Nat.blt k 1 then (bif Nat.beq k 0 then some (.iload_n 1, 1, []) else none) else (bif Nat.beq k 1 then some (.iconst 0, 2, []) else none)) else (bif Nat.blt k 3 then (bif Nat.beq k 2 then some (.aload_n 0, 3, []) else none) else (bif Nat.beq k 3 then some (.getfield 188, 6, []) else none))) else (bif Nat.blt k 8 then (bif Nat.blt k 7 then (bif Nat.beq k 6 then some (.iconst 1, 7, []) else none) else (bif Nat.beq k 7 then some (.isub, 8, []) else none)) else (bif Nat.blt k 11 then (bif Nat.beq k 8 then some (.invokestatic 181, 11, []) else none) else (bif Nat.beq k 11 then some (.ireturn, 12, []) else none)))) else none
noncomputable def P_M_isStory : MP := (T_M_isStory, (fun k => mLook k [(188, (13, 17, .int, false))]), (fun k => mLook k []), (fun k => mLook k [(181, E_M_in)]), (fun k => mLook k []), (fun k => mLook k []), (fun k => mLook k []), (fun k => mLook k []), (fun k => [11].any (Nat.beq k)), (1, 22, 0, 0), false, (fun _ => none))
set_option maxRecDepth 100000 in
set_option maxHeartbeats 4000000 in
theorem q_M_isStory_e (a1 : Int32) (σ : MSto) (n : Nat) : mexe KT P_M_isStory (n + 1) (0, [some (mR 13 0), some (mI a1)], [], σ, 0, 0) = some (11, [], [(mI (v_M_in a1 0 ((gI σ 13 0 17) - 1) σ))], σ, 0, 0) := rfl
set_option maxRecDepth 100000 in
set_option maxHeartbeats 4000000 in
theorem d_M_isStory (a1 : Int32) (σ : MSto) : mW1 P_M_isStory (0, [some (mR 13 0), some (mI a1)], [], σ, 0, 0) (mF [11] [mI (v_M_isStory a1 σ)] σ 0 0) := by
  refine mW1_eq (q_M_isStory_e _ _) ?_
  try simp only [bI_0]
  repeat' (first
    | exact mTr_e (by decide) rfl rfl (by decide) (by decide)
    | exact mTr_e (by decide) (bI_e0 (by grind)) rfl (by decide) (by decide)
    | exact mTr_e (by decide) (bI_e1 (by grind)) rfl (by decide) (by decide)
    | exact mTr_e (by decide) (ifI0 (by grind)) rfl (by decide) (by decide)
    | exact mTr_e (by decide) (ifI1 (by grind)) rfl (by decide) (by decide)
    | exact mTr_e (by decide) (ifI0 (by grind)) (ifE0 (by grind)) (by decide) (by decide)
    | exact mTr_e (by decide) (ifI1 (by grind)) (ifE1 (by grind)) (by decide) (by decide)
    | exact mTr_e (by decide) (bI_e0 (by grind)) (ifE0 (by grind)) (by decide) (by decide)
    | exact mTr_e (by decide) (bI_e1 (by grind)) (ifE1 (by grind)) (by decide) (by decide)
    | refine mTr_g (by first | assumption | decide | exact inG (by grind)) ?_
    | refine mTr_if (fun _ => ?_) (fun _ => ?_))

theorem tk_M_isStory : ∀ pc i nx tg, T_M_isStory pc = some (i, nx, tg) → mOkB prog_14_method_11_code pc i nx tg = true := code_ok (N := 12) (fun k h => by unfold T_M_isStory; rw [h]; rfl) (by decide +kernel)
theorem ok_M_isStory (l : Launch) : mPOK l "ClothWithManModel" prog_14_method_11_code P_M_isStory := by
  refine ⟨tk_M_isStory, ?_, ?_, ?_, (fun pc i nx tg kd _ h => by cases h), ?_, ?_, fun pc en h => by cases h⟩
  · intro x ci f ty fin h
    exact mLook_all (Q := fun x v => mFOK "ClothWithManModel" x v.1 v.2.1 v.2.2.1 v.2.2.2 ∧ (v.2.2.2 = true → pIni P_M_isStory = true → (Cond.fieldLink "ClothWithManModel" x (((mCl[v.1]?).getD ("", fun _ => ("", "", "", false), 0)).2.1 v.2.1).1 (((mCl[v.1]?).getD ("", fun _ => ("", "", "", false), 0)).2.1 v.2.1).2.1 (((mCl[v.1]?).getD ("", fun _ => ("", "", "", false), 0)).2.1 v.2.1).2.2.1 ∈ lw_tbl ∧ (((mCl[v.1]?).getD ("", fun _ => ("", "", "", false), 0)).2.1 v.2.1).1 = "ClothWithManModel"))) (fcC ⟨fo_M_188, fun h1 h2 => by cases h1⟩ fcN) x (ci, f, ty, fin) h
  · intro x
    have hh := mLook_all (l := ([] : List (Nat × (Int32 ⊕ Int64)))) (Q := fun x (v : Int32 ⊕ Int64) => (∀ w, v = .inl w → Cond.constant "ClothWithManModel" x w ∈ lw_tbl) ∧ (∀ w, v = .inr w → Cond.constantLong "ClothWithManModel" x w ∈ lw_tbl)) fcN x
    exact ⟨fun w h => (hh _ h).1 w rfl, fun w h => (hh _ h).2 w rfl⟩
  · exact fun x en h => mLook_all (Q := fun x en => mLink "ClothWithManModel" x en ∧ mCtr l en ∧ (en.1.1 = 2 → en.2.2.2.2.2.2 = none)) (fcC ⟨li_M_181, c_M_in l, (fun h => by cases h)⟩ fcN) x en h
  · exact fun x kd h => mLook_all (Q := fun x kd => (kd = 95 ∧ Cond.fieldLink "ClothWithManModel" x "ClothWithMan" "LIKENESSES" "[I" ∈ lw_tbl) ∨ (kd = 96 ∧ Cond.fieldLink "ClothWithManModel" x "ClothWithMan" "APART_BOUNDS" "[I" ∈ lw_tbl)) fcN x kd h
  · exact fun x ci h => mLook_all (Q := fun x ci => ci ≠ 0 ∧ ∃ (C : String) (T : u_T) (N : Nat), mCl[ci]? = some (C, T, N) ∧ Cond.classLink "ClothWithManModel" x C ∈ lw_tbl ∧ Cond.instantiable C N ∈ lw_tbl) fcN x ci h
set_option maxRecDepth 100000 in
theorem c_M_isStory (l : Launch) : mCtr l E_M_isStory := mCtr_of (P := P_M_isStory) (own := "ClothWithManModel") mLay_ok rfl (by decide +kernel) rfl (ok_M_isStory l) (fun h => by cases h) (fun as σ pr rv σ' hF hpr hlv => by
  unfold E_M_isStory S_M_isStory at hF
  simp only [] at hF
  split at hF
  · cases hF
    obtain ⟨n, pcF, c1, s1, g1, g2, g3, g4⟩ := mF_inv (d_M_isStory _ σ)
    exact ⟨Nat.le_of_ble_eq_true rfl, (fun v h => by cases h; trivial), n, pcF, c1, s1, g1, ⟨mEnd_of (i := .ireturn) (P := P_M_isStory) (rets := [11]) rfl g2, bI_narrow _⟩, g3, g4⟩
  · cases hF
    exact (hpr _ rfl).elim)
/-! ClothWithManModel.lost()I -/
def v_M_lost (σ : MSto) : Int32 := 0
def e_M_lost (σ : MSto) : MSto := sI σ 13 0 52 1
noncomputable def S_M_lost : List MV → MSto → Option Prop × Option MV × MSto := fun as σ => match as with
  | [.inr (.inr (some (13, 0)))] => (none, some (mI (v_M_lost σ)), e_M_lost σ)
  | _ => (some False, none, σ)
noncomputable def E_M_lost : MEnt := ((1, 0, 13), (0, 0, 0, 0), S_M_lost, ((⟨"ClothWithManModel", "lost", "()I"⟩ : MethodName), prog_14_method_4_code, 1, (some .int)))

def T_M_lost : Nat → Option (Instr × Nat × List Nat) := fun k => bif Nat.blt k 7 then (bif Nat.blt k 2 then (bif Nat.blt k 1 then (bif Nat.beq k 0 then some (.aload_n 0, 1, []) else none) else (bif Nat.beq k 1 then some (.iconst 1, 2, []) else none)) else (bif Nat.blt k 5 then (bif Nat.beq k 2 then some (.putfield 161, 5, []) else none) else (bif Nat.blt k 6 then (bif Nat.beq k 5 then some (.iconst 0, 6, []) else none) else (bif Nat.beq k 6 then some (.ireturn, 7, []) else none)))) else none
noncomputable def P_M_lost : MP := (T_M_lost, (fun k => mLook k [(161, (13, 52, .int, false))]), (fun k => mLook k []), (fun k => mLook k []), (fun k => mLook k []), (fun k => mLook k []), (fun k => mLook k []), (fun k => mLook k []), (fun k => [6].any (Nat.beq k)), (0, 0, 0, 0), false, (fun _ => none))
set_option maxRecDepth 100000 in
set_option maxHeartbeats 4000000 in
theorem q_M_lost_e  (σ : MSto) (n : Nat) : mexe KT P_M_lost (n + 1) (0, [some (mR 13 0)], [], σ, 0, 0) = some (6, [], [(mI 0)], (sI σ 13 0 52 1), 0, 0) := rfl
set_option maxRecDepth 100000 in
set_option maxHeartbeats 4000000 in
theorem d_M_lost  (σ : MSto) : mW1 P_M_lost (0, [some (mR 13 0)], [], σ, 0, 0) (mF [6] [mI (v_M_lost σ)] (e_M_lost σ) 0 0) := by
  refine mW1_eq (q_M_lost_e _) ?_
  try simp only [bI_0]
  repeat' (first
    | exact mTr_e (by decide) rfl rfl (by decide) (by decide)
    | exact mTr_e (by decide) (bI_e0 (by grind)) rfl (by decide) (by decide)
    | exact mTr_e (by decide) (bI_e1 (by grind)) rfl (by decide) (by decide)
    | exact mTr_e (by decide) (ifI0 (by grind)) rfl (by decide) (by decide)
    | exact mTr_e (by decide) (ifI1 (by grind)) rfl (by decide) (by decide)
    | exact mTr_e (by decide) (ifI0 (by grind)) (ifE0 (by grind)) (by decide) (by decide)
    | exact mTr_e (by decide) (ifI1 (by grind)) (ifE1 (by grind)) (by decide) (by decide)
    | exact mTr_e (by decide) (bI_e0 (by grind)) (ifE0 (by grind)) (by decide) (by decide)
    | exact mTr_e (by decide) (bI_e1 (by grind)) (ifE1 (by grind)) (by decide) (by decide)
    | refine mTr_g (by first | assumption | decide | exact inG (by grind)) ?_
    | refine mTr_if (fun _ => ?_) (fun _ => ?_))
theorem tk_M_lost : ∀ pc i nx tg, T_M_lost pc = some (i, nx, tg) → mOkB prog_14_method_4_code pc i nx tg = true := code_ok (N := 7) (fun k h => by unfold T_M_lost; rw [h]; rfl) (by decide +kernel)
theorem ok_M_lost (l : Launch) : mPOK l "ClothWithManModel" prog_14_method_4_code P_M_lost := by
  refine ⟨tk_M_lost, ?_, ?_, ?_, (fun pc i nx tg kd _ h => by cases h), ?_, ?_, fun pc en h => by cases h⟩
  · intro x ci f ty fin h
    exact mLook_all (Q := fun x v => mFOK "ClothWithManModel" x v.1 v.2.1 v.2.2.1 v.2.2.2 ∧ (v.2.2.2 = true → pIni P_M_lost = true → (Cond.fieldLink "ClothWithManModel" x (((mCl[v.1]?).getD ("", fun _ => ("", "", "", false), 0)).2.1 v.2.1).1 (((mCl[v.1]?).getD ("", fun _ => ("", "", "", false), 0)).2.1 v.2.1).2.1 (((mCl[v.1]?).getD ("", fun _ => ("", "", "", false), 0)).2.1 v.2.1).2.2.1 ∈ lw_tbl ∧ (((mCl[v.1]?).getD ("", fun _ => ("", "", "", false), 0)).2.1 v.2.1).1 = "ClothWithManModel"))) (fcC ⟨fo_M_161, fun h1 h2 => by cases h1⟩ fcN) x (ci, f, ty, fin) h
  · intro x
    have hh := mLook_all (l := ([] : List (Nat × (Int32 ⊕ Int64)))) (Q := fun x (v : Int32 ⊕ Int64) => (∀ w, v = .inl w → Cond.constant "ClothWithManModel" x w ∈ lw_tbl) ∧ (∀ w, v = .inr w → Cond.constantLong "ClothWithManModel" x w ∈ lw_tbl)) fcN x
    exact ⟨fun w h => (hh _ h).1 w rfl, fun w h => (hh _ h).2 w rfl⟩
  · exact fun x en h => mLook_all (Q := fun x en => mLink "ClothWithManModel" x en ∧ mCtr l en ∧ (en.1.1 = 2 → en.2.2.2.2.2.2 = none)) fcN x en h
  · exact fun x kd h => mLook_all (Q := fun x kd => (kd = 95 ∧ Cond.fieldLink "ClothWithManModel" x "ClothWithMan" "LIKENESSES" "[I" ∈ lw_tbl) ∨ (kd = 96 ∧ Cond.fieldLink "ClothWithManModel" x "ClothWithMan" "APART_BOUNDS" "[I" ∈ lw_tbl)) fcN x kd h
  · exact fun x ci h => mLook_all (Q := fun x ci => ci ≠ 0 ∧ ∃ (C : String) (T : u_T) (N : Nat), mCl[ci]? = some (C, T, N) ∧ Cond.classLink "ClothWithManModel" x C ∈ lw_tbl ∧ Cond.instantiable C N ∈ lw_tbl) fcN x ci h
set_option maxRecDepth 100000 in
theorem c_M_lost (l : Launch) : mCtr l E_M_lost := mCtr_of (P := P_M_lost) (own := "ClothWithManModel") mLay_ok rfl (by decide +kernel) rfl (ok_M_lost l) (fun h => by cases h) (fun as σ pr rv σ' hF hpr hlv => by
  unfold E_M_lost S_M_lost at hF
  simp only [] at hF
  split at hF
  · cases hF
    obtain ⟨n, pcF, c1, s1, g1, g2, g3, g4⟩ := mF_inv (d_M_lost σ)
    exact ⟨Nat.le_of_ble_eq_true rfl, (fun v h => by cases h; trivial), n, pcF, c1, s1, g1, ⟨mEnd_of (i := .ireturn) (P := P_M_lost) (rets := [6]) rfl g2, rfl⟩, g3, g4⟩
  · cases hF
    exact (hpr _ rfl).elim)
/-! ClothWithManModel.thrown()I -/
def v_M_thrown (σ : MSto) : Int32 := gI σ 13 0 52
noncomputable def S_M_thrown : List MV → MSto → Option Prop × Option MV × MSto := fun as σ => match as with
  | [.inr (.inr (some (13, 0)))] => (none, some (mI (v_M_thrown σ)), σ)
  | _ => (some False, none, σ)
noncomputable def E_M_thrown : MEnt := ((1, 0, 13), (0, 0, 0, 0), S_M_thrown, ((⟨"ClothWithManModel", "thrown", "()I"⟩ : MethodName), prog_14_method_2_code, 1, (some .int)))

def T_M_thrown : Nat → Option (Instr × Nat × List Nat) := fun k => bif Nat.blt k 5 then (bif Nat.blt k 1 then (bif Nat.beq k 0 then some (.aload_n 0, 1, []) else none) else (bif Nat.blt k 4 then (bif Nat.beq k 1 then some (.getfield 161, 4, []) else none) else (bif Nat.beq k 4 then some (.ireturn, 5, []) else none))) else none
noncomputable def P_M_thrown : MP := (T_M_thrown, (fun k => mLook k [(161, (13, 52, .int, false))]), (fun k => mLook k []), (fun k => mLook k []), (fun k => mLook k []), (fun k => mLook k []), (fun k => mLook k []), (fun k => mLook k []), (fun k => [4].any (Nat.beq k)), (0, 0, 0, 0), false, (fun _ => none))
set_option maxRecDepth 100000 in
set_option maxHeartbeats 4000000 in
theorem q_M_thrown_e  (σ : MSto) (n : Nat) : mexe KT P_M_thrown (n + 1) (0, [some (mR 13 0)], [], σ, 0, 0) = some (4, [], [(mI (gI σ 13 0 52))], σ, 0, 0) := rfl
set_option maxRecDepth 100000 in
set_option maxHeartbeats 4000000 in
theorem d_M_thrown  (σ : MSto) : mW1 P_M_thrown (0, [some (mR 13 0)], [], σ, 0, 0) (mF [4] [mI (v_M_thrown σ)] σ 0 0) := by
  refine mW1_eq (q_M_thrown_e _) ?_
  try simp only [bI_0]
  repeat' (first
    | exact mTr_e (by decide) rfl rfl (by decide) (by decide)
    | exact mTr_e (by decide) (bI_e0 (by grind)) rfl (by decide) (by decide)
    | exact mTr_e (by decide) (bI_e1 (by grind)) rfl (by decide) (by decide)
    | exact mTr_e (by decide) (ifI0 (by grind)) rfl (by decide) (by decide)
    | exact mTr_e (by decide) (ifI1 (by grind)) rfl (by decide) (by decide)
    | exact mTr_e (by decide) (ifI0 (by grind)) (ifE0 (by grind)) (by decide) (by decide)
    | exact mTr_e (by decide) (ifI1 (by grind)) (ifE1 (by grind)) (by decide) (by decide)
    | exact mTr_e (by decide) (bI_e0 (by grind)) (ifE0 (by grind)) (by decide) (by decide)
    | exact mTr_e (by decide) (bI_e1 (by grind)) (ifE1 (by grind)) (by decide) (by decide)
    | refine mTr_g (by first | assumption | decide | exact inG (by grind)) ?_
    | refine mTr_if (fun _ => ?_) (fun _ => ?_))
theorem tk_M_thrown : ∀ pc i nx tg, T_M_thrown pc = some (i, nx, tg) → mOkB prog_14_method_2_code pc i nx tg = true := code_ok (N := 5) (fun k h => by unfold T_M_thrown; rw [h]; rfl) (by decide +kernel)
theorem ok_M_thrown (l : Launch) : mPOK l "ClothWithManModel" prog_14_method_2_code P_M_thrown := by
  refine ⟨tk_M_thrown, ?_, ?_, ?_, (fun pc i nx tg kd _ h => by cases h), ?_, ?_, fun pc en h => by cases h⟩
  · intro x ci f ty fin h
    exact mLook_all (Q := fun x v => mFOK "ClothWithManModel" x v.1 v.2.1 v.2.2.1 v.2.2.2 ∧ (v.2.2.2 = true → pIni P_M_thrown = true → (Cond.fieldLink "ClothWithManModel" x (((mCl[v.1]?).getD ("", fun _ => ("", "", "", false), 0)).2.1 v.2.1).1 (((mCl[v.1]?).getD ("", fun _ => ("", "", "", false), 0)).2.1 v.2.1).2.1 (((mCl[v.1]?).getD ("", fun _ => ("", "", "", false), 0)).2.1 v.2.1).2.2.1 ∈ lw_tbl ∧ (((mCl[v.1]?).getD ("", fun _ => ("", "", "", false), 0)).2.1 v.2.1).1 = "ClothWithManModel"))) (fcC ⟨fo_M_161, fun h1 h2 => by cases h1⟩ fcN) x (ci, f, ty, fin) h
  · intro x
    have hh := mLook_all (l := ([] : List (Nat × (Int32 ⊕ Int64)))) (Q := fun x (v : Int32 ⊕ Int64) => (∀ w, v = .inl w → Cond.constant "ClothWithManModel" x w ∈ lw_tbl) ∧ (∀ w, v = .inr w → Cond.constantLong "ClothWithManModel" x w ∈ lw_tbl)) fcN x
    exact ⟨fun w h => (hh _ h).1 w rfl, fun w h => (hh _ h).2 w rfl⟩
  · exact fun x en h => mLook_all (Q := fun x en => mLink "ClothWithManModel" x en ∧ mCtr l en ∧ (en.1.1 = 2 → en.2.2.2.2.2.2 = none)) fcN x en h
  · exact fun x kd h => mLook_all (Q := fun x kd => (kd = 95 ∧ Cond.fieldLink "ClothWithManModel" x "ClothWithMan" "LIKENESSES" "[I" ∈ lw_tbl) ∨ (kd = 96 ∧ Cond.fieldLink "ClothWithManModel" x "ClothWithMan" "APART_BOUNDS" "[I" ∈ lw_tbl)) fcN x kd h
  · exact fun x ci h => mLook_all (Q := fun x ci => ci ≠ 0 ∧ ∃ (C : String) (T : u_T) (N : Nat), mCl[ci]? = some (C, T, N) ∧ Cond.classLink "ClothWithManModel" x C ∈ lw_tbl ∧ Cond.instantiable C N ∈ lw_tbl) fcN x ci h
set_option maxRecDepth 100000 in
theorem c_M_thrown (l : Launch) : mCtr l E_M_thrown := mCtr_of (P := P_M_thrown) (own := "ClothWithManModel") mLay_ok rfl (by decide +kernel) rfl (ok_M_thrown l) (fun h => by cases h) (fun as σ pr rv σ' hF hpr hlv => by
  unfold E_M_thrown S_M_thrown at hF
  simp only [] at hF
  split at hF
  · cases hF
    obtain ⟨n, pcF, c1, s1, g1, g2, g3, g4⟩ := mF_inv (d_M_thrown σ)
    exact ⟨Nat.le_of_ble_eq_true rfl, (fun v h => by cases h; trivial), n, pcF, c1, s1, g1, ⟨mEnd_of (i := .ireturn) (P := P_M_thrown) (rets := [4]) rfl g2, rfl⟩, g3, g4⟩
  · cases hF
    exact (hpr _ rfl).elim)
/-! ClothWithManModel.tell(J)V -/
def p_M_tell (v : Int64) (σ : MSto) : Prop := vp_in (gI σ 13 0 51) 24
def e_M_tell (v : Int64) (σ : MSto) : MSto := sI (sJ σ 78 0 (gI σ 13 0 51).toNatClampNeg v) 13 0 51 (gI σ 13 0 51 + 1)
noncomputable def S_M_tell : List MV → MSto → Option Prop × Option MV × MSto := fun as σ => match as with
  | [.inr (.inr (some (13, 0))), .inr (.inl a0)] => (some (p_M_tell a0 σ), none, e_M_tell a0 σ)
  | _ => (some False, none, σ)
noncomputable def E_M_tell : MEnt := ((1, 1, 13), (0, 0, 0, 0), S_M_tell, ((⟨"ClothWithManModel", "tell", "(J)V"⟩ : MethodName), prog_14_method_5_code, 3, none))

def T_M_tell : Nat → Option (Instr × Nat × List Nat) := fun k => bif Nat.blt k 21 then (bif Nat.blt k 10 then (bif Nat.blt k 5 then (bif Nat.blt k 1 then (bif Nat.beq k 0 then some (.aload_n 0, 1, []) else none) else (bif Nat.blt k 4 then (bif Nat.beq k 1 then some (.getfield 133, 4, []) else none) else (bif Nat.beq k 4 then some (.aload_n 0, 5, []) else none))) else (bif Nat.blt k 8 then (bif Nat.beq k 5 then some (.getfield 164, 8, []) else none) else (bif Nat.blt k 9 then (bif Nat.beq k 8 then some (.lload_n 1, 9, []) else none) else (bif Nat.beq k 9 then some (.lastore, 10, []) else none)))) else (bif Nat.blt k 15 then (bif Nat.blt k 11 then (bif Nat.beq k 10 then some (.aload_n 0, 11, []) else none) else (bif Nat.blt k 12 then (bif Nat.beq k 11 then some (.dup, 12, []) else none) else (bif Nat.beq k 12 then some (.getfield 164, 15, []) else none))) else (bif Nat.blt k 17 then (bif Nat.blt k 16 then (bif Nat.beq k 15 then some (.iconst 1, 16, []) else none) else (bif Nat.beq k 16 then some (.iadd, 17, []) else none)) else (bif Nat.blt k 20 then (bif Nat.beq k 17 then some (.putfield 164, 20, []) else none) else (bif Nat.beq k 20 then some (.return_, 21, []) else none))))) else none
noncomputable def P_M_tell : MP := (T_M_tell, (fun k => mLook k [(133, (13, 50, (.array .long), true)), (164, (13, 51, .int, false))]), (fun k => mLook k []), (fun k => mLook k []), (fun k => mLook k []), (fun k => mLook k []), (fun k => mLook k []), (fun k => mLook k []), (fun k => [20].any (Nat.beq k)), (0, 0, 0, 0), false, (fun _ => none))
set_option maxRecDepth 100000 in
set_option maxHeartbeats 4000000 in
theorem q_M_tell_e (a1 : Int64) (σ : MSto) (n : Nat) : mexe KT P_M_tell (n + 1) (0, [some (mR 13 0), some (mJ a1), none], [], σ, 0, 0) = mG (vp_in (gI σ 13 0 51) 24) (some (20, [], [], (sI (sJ σ 78 0 (Int32.toNatClampNeg (gI σ 13 0 51)) a1) 13 0 51 ((gI (sJ σ 78 0 (Int32.toNatClampNeg (gI σ 13 0 51)) a1) 13 0 51) + 1)), 0, 0)) := rfl
set_option maxRecDepth 100000 in
set_option maxHeartbeats 4000000 in
theorem d_M_tell (a1 : Int64) (σ : MSto) (hp : p_M_tell a1 σ) : mW1 P_M_tell (0, [some (mR 13 0), some (mJ a1), none], [], σ, 0, 0) (mF [20] [] (e_M_tell a1 σ) 0 0) := by
  unfold p_M_tell at hp
  refine mW1_eq (q_M_tell_e _ _) ?_
  try simp only [bI_0]
  repeat' (first
    | exact mTr_e (by decide) rfl rfl (by decide) (by decide)
    | exact mTr_e (by decide) (bI_e0 (by grind)) rfl (by decide) (by decide)
    | exact mTr_e (by decide) (bI_e1 (by grind)) rfl (by decide) (by decide)
    | exact mTr_e (by decide) (ifI0 (by grind)) rfl (by decide) (by decide)
    | exact mTr_e (by decide) (ifI1 (by grind)) rfl (by decide) (by decide)
    | exact mTr_e (by decide) (ifI0 (by grind)) (ifE0 (by grind)) (by decide) (by decide)
    | exact mTr_e (by decide) (ifI1 (by grind)) (ifE1 (by grind)) (by decide) (by decide)
    | exact mTr_e (by decide) (bI_e0 (by grind)) (ifE0 (by grind)) (by decide) (by decide)
    | exact mTr_e (by decide) (bI_e1 (by grind)) (ifE1 (by grind)) (by decide) (by decide)
    | refine mTr_g (by first | assumption | decide | exact inG (by grind)) ?_
    | refine mTr_if (fun _ => ?_) (fun _ => ?_))
theorem tk_M_tell : ∀ pc i nx tg, T_M_tell pc = some (i, nx, tg) → mOkB prog_14_method_5_code pc i nx tg = true := code_ok (N := 21) (fun k h => by unfold T_M_tell; rw [h]; rfl) (by decide +kernel)
theorem ok_M_tell (l : Launch) : mPOK l "ClothWithManModel" prog_14_method_5_code P_M_tell := by
  refine ⟨tk_M_tell, ?_, ?_, ?_, (fun pc i nx tg kd _ h => by cases h), ?_, ?_, fun pc en h => by cases h⟩
  · intro x ci f ty fin h
    exact mLook_all (Q := fun x v => mFOK "ClothWithManModel" x v.1 v.2.1 v.2.2.1 v.2.2.2 ∧ (v.2.2.2 = true → pIni P_M_tell = true → (Cond.fieldLink "ClothWithManModel" x (((mCl[v.1]?).getD ("", fun _ => ("", "", "", false), 0)).2.1 v.2.1).1 (((mCl[v.1]?).getD ("", fun _ => ("", "", "", false), 0)).2.1 v.2.1).2.1 (((mCl[v.1]?).getD ("", fun _ => ("", "", "", false), 0)).2.1 v.2.1).2.2.1 ∈ lw_tbl ∧ (((mCl[v.1]?).getD ("", fun _ => ("", "", "", false), 0)).2.1 v.2.1).1 = "ClothWithManModel"))) (fcC ⟨fo_M_133, fun h1 h2 => by cases h2⟩ (fcC ⟨fo_M_164, fun h1 h2 => by cases h1⟩ fcN)) x (ci, f, ty, fin) h
  · intro x
    have hh := mLook_all (l := ([] : List (Nat × (Int32 ⊕ Int64)))) (Q := fun x (v : Int32 ⊕ Int64) => (∀ w, v = .inl w → Cond.constant "ClothWithManModel" x w ∈ lw_tbl) ∧ (∀ w, v = .inr w → Cond.constantLong "ClothWithManModel" x w ∈ lw_tbl)) fcN x
    exact ⟨fun w h => (hh _ h).1 w rfl, fun w h => (hh _ h).2 w rfl⟩
  · exact fun x en h => mLook_all (Q := fun x en => mLink "ClothWithManModel" x en ∧ mCtr l en ∧ (en.1.1 = 2 → en.2.2.2.2.2.2 = none)) fcN x en h
  · exact fun x kd h => mLook_all (Q := fun x kd => (kd = 95 ∧ Cond.fieldLink "ClothWithManModel" x "ClothWithMan" "LIKENESSES" "[I" ∈ lw_tbl) ∨ (kd = 96 ∧ Cond.fieldLink "ClothWithManModel" x "ClothWithMan" "APART_BOUNDS" "[I" ∈ lw_tbl)) fcN x kd h
  · exact fun x ci h => mLook_all (Q := fun x ci => ci ≠ 0 ∧ ∃ (C : String) (T : u_T) (N : Nat), mCl[ci]? = some (C, T, N) ∧ Cond.classLink "ClothWithManModel" x C ∈ lw_tbl ∧ Cond.instantiable C N ∈ lw_tbl) fcN x ci h
set_option maxRecDepth 100000 in
theorem c_M_tell (l : Launch) : mCtr l E_M_tell := mCtr_of (P := P_M_tell) (own := "ClothWithManModel") mLay_ok rfl (by decide +kernel) rfl (ok_M_tell l) (fun h => by cases h) (fun as σ pr rv σ' hF hpr hlv => by
  unfold E_M_tell S_M_tell at hF
  simp only [] at hF
  split at hF
  · cases hF
    obtain ⟨n, pcF, c1, s1, g1, g2, g3, g4⟩ := mF_inv (d_M_tell _ σ (hpr _ rfl))
    exact ⟨Nat.le_of_ble_eq_true rfl, (fun v h => by cases h), n, pcF, c1, s1, g1, mEnd_of (i := .return_) (P := P_M_tell) (rets := [20]) rfl g2, g3, g4⟩
  · cases hF
    exact (hpr _ rfl).elim)
/-! ClothWithManModel.end(I)Z -/
noncomputable def v_M_end (n : Int32) (σ : MSto) : Int32 := bI (0 ≤ n ∧ n ≤ gI (e0 σ) 13 0 49)
def e_M_end (n : Int32) (σ : MSto) : MSto := if 0 ≤ n ∧ n ≤ gI (e0 σ) 13 0 49 then sI (e0 σ) 13 0 49 n else e0 σ
noncomputable def S_M_end : List MV → MSto → Option Prop × Option MV × MSto := fun as σ => match as with
  | [.inr (.inr (some (13, 0))), .inl a0] => (none, some (mI (v_M_end a0 σ)), e_M_end a0 σ)
  | _ => (some False, none, σ)
noncomputable def E_M_end : MEnt := ((1, 1, 13), (1, 22, 0, 0), S_M_end, ((⟨"ClothWithManModel", "end", "(I)Z"⟩ : MethodName), prog_14_method_13_code, 2, (some .boolean)))

def T_M_end : Nat → Option (Instr × Nat × List Nat) := fun k => bif Nat.blt k 26 then (bif Nat.blt k 14 then (bif Nat.blt k 6 then (bif Nat.blt k 2 then (bif Nat.blt k 1 then (bif Nat.beq k 0 then some (.aload_n 0, 1, []) else none) else (bif Nat.beq k 1 then some (.iconst 0, 2, []) else none)) else (bif Nat.blt k 5 then (bif Nat.beq k 2 then some (.putfield 161, 5, []) else none) else (bif Nat.beq k 5 then some (.iload_n 1, 6, []) else none))) else (bif Nat.blt k 8 then (bif Nat.blt k 7 then (bif Nat.beq k 6 then some (.iconst 0, 7, []) else none) else (bif Nat.beq k 7 then some (.aload_n 0, 8, []) else none)) else (bif Nat.blt k 11 then (bif Nat.beq k 8 then some (.getfield 191, 11, []) else none) else (bif Nat.beq k 11 then some (.invokestatic 181, 14, []) else none)))) else (bif Nat.blt k 20 then (bif Nat.blt k 18 then (bif Nat.blt k 17 then (bif Nat.beq k 14 then some (.ifCond .ne 5, 17, [19]) else none) else (bif Nat.beq k 17 then some (.iconst 0, 18, []) else none)) else (bif Nat.blt k 19 then (bif Nat.beq k 18 then some (.ireturn, 19, []) else none) else (bif Nat.beq k 19 then some (.aload_n 0, 20, []) else none))) else (bif Nat.blt k 24 then (bif Nat.blt k 21 then (bif Nat.beq k 20 then some (.iload_n 1, 21, []) else none) else (bif Nat.beq k 21 then some (.putfield 191, 24, []) else none)) else (bif Nat.blt k 25 then (bif Nat.beq k 24 then some (.iconst 1, 25, []) else none) else (bif Nat.beq k 25 then some (.ireturn, 26, []) else none))))) else none
noncomputable def P_M_end : MP := (T_M_end, (fun k => mLook k [(161, (13, 52, .int, false)), (191, (13, 49, .int, false))]), (fun k => mLook k []), (fun k => mLook k [(181, E_M_in)]), (fun k => mLook k []), (fun k => mLook k []), (fun k => mLook k []), (fun k => mLook k []), (fun k => [18, 25].any (Nat.beq k)), (1, 22, 0, 0), false, (fun _ => none))
set_option maxRecDepth 100000 in
set_option maxHeartbeats 4000000 in
theorem q_M_end_e (a1 : Int32) (σ : MSto) (n : Nat) : mexe KT P_M_end (n + 1) (0, [some (mR 13 0), some (mI a1)], [], σ, 0, 0) = mIf ((v_M_in a1 0 (gI (sI σ 13 0 52 0) 13 0 49) (sI σ 13 0 52 0)) = 0) (some (18, [], [(mI 0)], (sI σ 13 0 52 0), 0, 0)) (some (25, [], [(mI 1)], (sI (sI σ 13 0 52 0) 13 0 49 a1), 0, 0)) := rfl
set_option maxRecDepth 100000 in
set_option maxHeartbeats 4000000 in
theorem d_M_end (a1 : Int32) (σ : MSto) : mW1 P_M_end (0, [some (mR 13 0), some (mI a1)], [], σ, 0, 0) (mF [18, 25] [mI (v_M_end a1 σ)] (e_M_end a1 σ) 0 0) := by
  refine mW1_eq (q_M_end_e _ _) ?_
  unfold v_M_in v_M_end e_M_end
  try simp only [bI_0]
  repeat' (first
    | exact mTr_e (by decide) rfl rfl (by decide) (by decide)
    | exact mTr_e (by decide) (bI_e0 (by grind)) rfl (by decide) (by decide)
    | exact mTr_e (by decide) (bI_e1 (by grind)) rfl (by decide) (by decide)
    | exact mTr_e (by decide) (ifI0 (by grind)) rfl (by decide) (by decide)
    | exact mTr_e (by decide) (ifI1 (by grind)) rfl (by decide) (by decide)
    | exact mTr_e (by decide) (ifI0 (by grind)) (ifE0 (by grind)) (by decide) (by decide)
    | exact mTr_e (by decide) (ifI1 (by grind)) (ifE1 (by grind)) (by decide) (by decide)
    | exact mTr_e (by decide) (bI_e0 (by grind)) (ifE0 (by grind)) (by decide) (by decide)
    | exact mTr_e (by decide) (bI_e1 (by grind)) (ifE1 (by grind)) (by decide) (by decide)
    | refine mTr_g (by first | assumption | decide | exact inG (by grind)) ?_
    | refine mTr_if (fun _ => ?_) (fun _ => ?_))

theorem tk_M_end : ∀ pc i nx tg, T_M_end pc = some (i, nx, tg) → mOkB prog_14_method_13_code pc i nx tg = true := code_ok (N := 26) (fun k h => by unfold T_M_end; rw [h]; rfl) (by decide +kernel)
theorem ok_M_end (l : Launch) : mPOK l "ClothWithManModel" prog_14_method_13_code P_M_end := by
  refine ⟨tk_M_end, ?_, ?_, ?_, (fun pc i nx tg kd _ h => by cases h), ?_, ?_, fun pc en h => by cases h⟩
  · intro x ci f ty fin h
    exact mLook_all (Q := fun x v => mFOK "ClothWithManModel" x v.1 v.2.1 v.2.2.1 v.2.2.2 ∧ (v.2.2.2 = true → pIni P_M_end = true → (Cond.fieldLink "ClothWithManModel" x (((mCl[v.1]?).getD ("", fun _ => ("", "", "", false), 0)).2.1 v.2.1).1 (((mCl[v.1]?).getD ("", fun _ => ("", "", "", false), 0)).2.1 v.2.1).2.1 (((mCl[v.1]?).getD ("", fun _ => ("", "", "", false), 0)).2.1 v.2.1).2.2.1 ∈ lw_tbl ∧ (((mCl[v.1]?).getD ("", fun _ => ("", "", "", false), 0)).2.1 v.2.1).1 = "ClothWithManModel"))) (fcC ⟨fo_M_161, fun h1 h2 => by cases h1⟩ (fcC ⟨fo_M_191, fun h1 h2 => by cases h1⟩ fcN)) x (ci, f, ty, fin) h
  · intro x
    have hh := mLook_all (l := ([] : List (Nat × (Int32 ⊕ Int64)))) (Q := fun x (v : Int32 ⊕ Int64) => (∀ w, v = .inl w → Cond.constant "ClothWithManModel" x w ∈ lw_tbl) ∧ (∀ w, v = .inr w → Cond.constantLong "ClothWithManModel" x w ∈ lw_tbl)) fcN x
    exact ⟨fun w h => (hh _ h).1 w rfl, fun w h => (hh _ h).2 w rfl⟩
  · exact fun x en h => mLook_all (Q := fun x en => mLink "ClothWithManModel" x en ∧ mCtr l en ∧ (en.1.1 = 2 → en.2.2.2.2.2.2 = none)) (fcC ⟨li_M_181, c_M_in l, (fun h => by cases h)⟩ fcN) x en h
  · exact fun x kd h => mLook_all (Q := fun x kd => (kd = 95 ∧ Cond.fieldLink "ClothWithManModel" x "ClothWithMan" "LIKENESSES" "[I" ∈ lw_tbl) ∨ (kd = 96 ∧ Cond.fieldLink "ClothWithManModel" x "ClothWithMan" "APART_BOUNDS" "[I" ∈ lw_tbl)) fcN x kd h
  · exact fun x ci h => mLook_all (Q := fun x ci => ci ≠ 0 ∧ ∃ (C : String) (T : u_T) (N : Nat), mCl[ci]? = some (C, T, N) ∧ Cond.classLink "ClothWithManModel" x C ∈ lw_tbl ∧ Cond.instantiable C N ∈ lw_tbl) fcN x ci h
set_option maxRecDepth 100000 in
theorem c_M_end (l : Launch) : mCtr l E_M_end := mCtr_of (P := P_M_end) (own := "ClothWithManModel") mLay_ok rfl (by decide +kernel) rfl (ok_M_end l) (fun h => by cases h) (fun as σ pr rv σ' hF hpr hlv => by
  unfold E_M_end S_M_end at hF
  simp only [] at hF
  split at hF
  · cases hF
    obtain ⟨n, pcF, c1, s1, g1, g2, g3, g4⟩ := mF_inv (d_M_end _ σ)
    exact ⟨Nat.le_of_ble_eq_true rfl, (fun v h => by cases h; trivial), n, pcF, c1, s1, g1, ⟨mEnd_of (i := .ireturn) (P := P_M_end) (rets := [18, 25]) rfl g2, bI_narrow _⟩, g3, g4⟩
  · cases hF
    exact (hpr _ rfl).elim)
/-! ClothWithManModel.value(I)I -/
def v_M_value (y : Int32) (σ : MSto) : Int32 := if 0 ≤ y ∧ y ≤ 199 then gI (e0 σ) 41 0 y.toNatClampNeg else -1
def e_M_value (y : Int32) (σ : MSto) : MSto := e0 σ
noncomputable def S_M_value : List MV → MSto → Option Prop × Option MV × MSto := fun as σ => match as with
  | [.inr (.inr (some (13, 0))), .inl a0] => (none, some (mI (v_M_value a0 σ)), e_M_value a0 σ)
  | _ => (some False, none, σ)
noncomputable def E_M_value : MEnt := ((1, 1, 13), (2, 42, 0, 0), S_M_value, ((⟨"ClothWithManModel", "value", "(I)I"⟩ : MethodName), prog_14_method_22_code, 2, (some .int)))

def T_M_value : Nat → Option (Instr × Nat × List Nat) := fun k => bif Nat.blt k 23 then (bif Nat.blt k 12 then (bif Nat.blt k 5 then (bif Nat.blt k 1 then (bif Nat.beq k 0 then some (.aload_n 0, 1, []) else none) else (bif Nat.blt k 2 then (bif Nat.beq k 1 then some (.iconst 0, 2, []) else none) else (bif Nat.beq k 2 then some (.putfield 161, 5, []) else none))) else (bif Nat.blt k 6 then (bif Nat.beq k 5 then some (.iload_n 1, 6, []) else none) else (bif Nat.blt k 9 then (bif Nat.beq k 6 then some (.invokestatic 228, 9, []) else none) else (bif Nat.beq k 9 then some (.ifCond .eq 12, 12, [21]) else none)))) else (bif Nat.blt k 17 then (bif Nat.blt k 13 then (bif Nat.beq k 12 then some (.aload_n 0, 13, []) else none) else (bif Nat.blt k 16 then (bif Nat.beq k 13 then some (.getfield 9, 16, []) else none) else (bif Nat.beq k 16 then some (.iload_n 1, 17, []) else none))) else (bif Nat.blt k 21 then (bif Nat.blt k 18 then (bif Nat.beq k 17 then some (.iaload, 18, []) else none) else (bif Nat.beq k 18 then some (.goto 4, 21, [22]) else none)) else (bif Nat.blt k 22 then (bif Nat.beq k 21 then some (.iconst (-1), 22, []) else none) else (bif Nat.beq k 22 then some (.ireturn, 23, []) else none))))) else none
noncomputable def P_M_value : MP := (T_M_value, (fun k => mLook k [(9, (13, 0, (.array .int), true)), (161, (13, 52, .int, false))]), (fun k => mLook k []), (fun k => mLook k [(228, E_M_isYear)]), (fun k => mLook k []), (fun k => mLook k []), (fun k => mLook k []), (fun k => mLook k []), (fun k => [22].any (Nat.beq k)), (2, 42, 0, 0), false, (fun _ => none))
set_option maxRecDepth 100000 in
set_option maxHeartbeats 4000000 in
theorem q_M_value_e (a1 : Int32) (σ : MSto) (n : Nat) : mexe KT P_M_value (n + 1) (0, [some (mR 13 0), some (mI a1)], [], σ, 0, 0) = mIf ((v_M_isYear a1 (sI σ 13 0 52 0)) = 0) (some (22, [], [(mI (-1))], (sI σ 13 0 52 0), 0, 0)) (mG (vp_in a1 200) (some (22, [], [(mI (gI (sI σ 13 0 52 0) 41 0 (Int32.toNatClampNeg a1)))], (sI σ 13 0 52 0), 0, 0))) := rfl
set_option maxRecDepth 100000 in
set_option maxHeartbeats 4000000 in
theorem d_M_value (a1 : Int32) (σ : MSto) : mW1 P_M_value (0, [some (mR 13 0), some (mI a1)], [], σ, 0, 0) (mF [22] [mI (v_M_value a1 σ)] (e_M_value a1 σ) 0 0) := by
  refine mW1_eq (q_M_value_e _ _) ?_
  unfold v_M_isYear v_M_value
  try simp only [bI_0]
  refine mTr_if (fun h => ?_) (fun h => ?_)
  · skip
    repeat' (first
      | exact mTr_e (by decide) rfl rfl (by decide) (by decide)
      | exact mTr_e (by decide) (bI_e0 (by grind)) rfl (by decide) (by decide)
      | exact mTr_e (by decide) (bI_e1 (by grind)) rfl (by decide) (by decide)
      | exact mTr_e (by decide) (ifI0 (by grind)) rfl (by decide) (by decide)
      | exact mTr_e (by decide) (ifI1 (by grind)) rfl (by decide) (by decide)
      | exact mTr_e (by decide) (ifI0 (by grind)) (ifE0 (by grind)) (by decide) (by decide)
      | exact mTr_e (by decide) (ifI1 (by grind)) (ifE1 (by grind)) (by decide) (by decide)
      | exact mTr_e (by decide) (bI_e0 (by grind)) (ifE0 (by grind)) (by decide) (by decide)
      | exact mTr_e (by decide) (bI_e1 (by grind)) (ifE1 (by grind)) (by decide) (by decide)
      | refine mTr_g (by first | assumption | decide | exact inG (by grind)) ?_
      | refine mTr_if (fun _ => ?_) (fun _ => ?_))
  · refine mTr_g (inIle 199 rfl (by grind) (by grind)) ?_
    repeat' (first
      | exact mTr_e (by decide) rfl rfl (by decide) (by decide)
      | exact mTr_e (by decide) (bI_e0 (by grind)) rfl (by decide) (by decide)
      | exact mTr_e (by decide) (bI_e1 (by grind)) rfl (by decide) (by decide)
      | exact mTr_e (by decide) (ifI0 (by grind)) rfl (by decide) (by decide)
      | exact mTr_e (by decide) (ifI1 (by grind)) rfl (by decide) (by decide)
      | exact mTr_e (by decide) (ifI0 (by grind)) (ifE0 (by grind)) (by decide) (by decide)
      | exact mTr_e (by decide) (ifI1 (by grind)) (ifE1 (by grind)) (by decide) (by decide)
      | exact mTr_e (by decide) (bI_e0 (by grind)) (ifE0 (by grind)) (by decide) (by decide)
      | exact mTr_e (by decide) (bI_e1 (by grind)) (ifE1 (by grind)) (by decide) (by decide)
      | refine mTr_g (by first | assumption | decide | exact inG (by grind)) ?_
      | refine mTr_if (fun _ => ?_) (fun _ => ?_))
theorem li_M_228 : mLink "ClothWithManModel" 228 E_M_isYear := ⟨tw_6_217, tw_1_9, ⟨by decide, by decide⟩, by decide +kernel, Or.inl tw_6_215, (fun _ => tw_6_216), (fun h => by cases h), (fun h => by cases h)⟩

theorem tk_M_value : ∀ pc i nx tg, T_M_value pc = some (i, nx, tg) → mOkB prog_14_method_22_code pc i nx tg = true := code_ok (N := 23) (fun k h => by unfold T_M_value; rw [h]; rfl) (by decide +kernel)
theorem ok_M_value (l : Launch) : mPOK l "ClothWithManModel" prog_14_method_22_code P_M_value := by
  refine ⟨tk_M_value, ?_, ?_, ?_, (fun pc i nx tg kd _ h => by cases h), ?_, ?_, fun pc en h => by cases h⟩
  · intro x ci f ty fin h
    exact mLook_all (Q := fun x v => mFOK "ClothWithManModel" x v.1 v.2.1 v.2.2.1 v.2.2.2 ∧ (v.2.2.2 = true → pIni P_M_value = true → (Cond.fieldLink "ClothWithManModel" x (((mCl[v.1]?).getD ("", fun _ => ("", "", "", false), 0)).2.1 v.2.1).1 (((mCl[v.1]?).getD ("", fun _ => ("", "", "", false), 0)).2.1 v.2.1).2.1 (((mCl[v.1]?).getD ("", fun _ => ("", "", "", false), 0)).2.1 v.2.1).2.2.1 ∈ lw_tbl ∧ (((mCl[v.1]?).getD ("", fun _ => ("", "", "", false), 0)).2.1 v.2.1).1 = "ClothWithManModel"))) (fcC ⟨fo_M_9, fun h1 h2 => by cases h2⟩ (fcC ⟨fo_M_161, fun h1 h2 => by cases h1⟩ fcN)) x (ci, f, ty, fin) h
  · intro x
    have hh := mLook_all (l := ([] : List (Nat × (Int32 ⊕ Int64)))) (Q := fun x (v : Int32 ⊕ Int64) => (∀ w, v = .inl w → Cond.constant "ClothWithManModel" x w ∈ lw_tbl) ∧ (∀ w, v = .inr w → Cond.constantLong "ClothWithManModel" x w ∈ lw_tbl)) fcN x
    exact ⟨fun w h => (hh _ h).1 w rfl, fun w h => (hh _ h).2 w rfl⟩
  · exact fun x en h => mLook_all (Q := fun x en => mLink "ClothWithManModel" x en ∧ mCtr l en ∧ (en.1.1 = 2 → en.2.2.2.2.2.2 = none)) (fcC ⟨li_M_228, c_M_isYear l, (fun h => by cases h)⟩ fcN) x en h
  · exact fun x kd h => mLook_all (Q := fun x kd => (kd = 95 ∧ Cond.fieldLink "ClothWithManModel" x "ClothWithMan" "LIKENESSES" "[I" ∈ lw_tbl) ∨ (kd = 96 ∧ Cond.fieldLink "ClothWithManModel" x "ClothWithMan" "APART_BOUNDS" "[I" ∈ lw_tbl)) fcN x kd h
  · exact fun x ci h => mLook_all (Q := fun x ci => ci ≠ 0 ∧ ∃ (C : String) (T : u_T) (N : Nat), mCl[ci]? = some (C, T, N) ∧ Cond.classLink "ClothWithManModel" x C ∈ lw_tbl ∧ Cond.instantiable C N ∈ lw_tbl) fcN x ci h
set_option maxRecDepth 100000 in
theorem c_M_value (l : Launch) : mCtr l E_M_value := mCtr_of (P := P_M_value) (own := "ClothWithManModel") mLay_ok rfl (by decide +kernel) rfl (ok_M_value l) (fun h => by cases h) (fun as σ pr rv σ' hF hpr hlv => by
  unfold E_M_value S_M_value at hF
  simp only [] at hF
  split at hF
  · cases hF
    obtain ⟨n, pcF, c1, s1, g1, g2, g3, g4⟩ := mF_inv (d_M_value _ σ)
    exact ⟨Nat.le_of_ble_eq_true rfl, (fun v h => by cases h; trivial), n, pcF, c1, s1, g1, ⟨mEnd_of (i := .ireturn) (P := P_M_value) (rets := [22]) rfl g2, rfl⟩, g3, g4⟩
  · cases hF
    exact (hpr _ rfl).elim)
/-! ClothWithManModel.woven(I)I -/
def v_M_woven (y : Int32) (σ : MSto) : Int32 := if 0 ≤ y ∧ y ≤ 199 then gI (e0 σ) 13 0 2 else -1
def e_M_woven (y : Int32) (σ : MSto) : MSto := if 0 ≤ y ∧ y ≤ 199 then sI (e0 σ) 13 0 2 y else e0 σ
noncomputable def S_M_woven : List MV → MSto → Option Prop × Option MV × MSto := fun as σ => match as with
  | [.inr (.inr (some (13, 0))), .inl a0] => (none, some (mI (v_M_woven a0 σ)), e_M_woven a0 σ)
  | _ => (some False, none, σ)
noncomputable def E_M_woven : MEnt := ((1, 1, 13), (2, 42, 0, 0), S_M_woven, ((⟨"ClothWithManModel", "woven", "(I)I"⟩ : MethodName), prog_14_method_23_code, 3, (some .int)))

def T_M_woven : Nat → Option (Instr × Nat × List Nat) := fun k => bif Nat.blt k 26 then (bif Nat.blt k 14 then (bif Nat.blt k 6 then (bif Nat.blt k 2 then (bif Nat.blt k 1 then (bif Nat.beq k 0 then some (.aload_n 0, 1, []) else none) else (bif Nat.beq k 1 then some (.iconst 0, 2, []) else none)) else (bif Nat.blt k 5 then (bif Nat.beq k 2 then some (.putfield 161, 5, []) else none) else (bif Nat.beq k 5 then some (.iload_n 1, 6, []) else none))) else (bif Nat.blt k 12 then (bif Nat.blt k 9 then (bif Nat.beq k 6 then some (.invokestatic 228, 9, []) else none) else (bif Nat.beq k 9 then some (.ifCond .ne 5, 12, [14]) else none)) else (bif Nat.blt k 13 then (bif Nat.beq k 12 then some (.iconst (-1), 13, []) else none) else (bif Nat.beq k 13 then some (.ireturn, 14, []) else none)))) else (bif Nat.blt k 20 then (bif Nat.blt k 18 then (bif Nat.blt k 15 then (bif Nat.beq k 14 then some (.aload_n 0, 15, []) else none) else (bif Nat.beq k 15 then some (.getfield 17, 18, []) else none)) else (bif Nat.blt k 19 then (bif Nat.beq k 18 then some (.istore_n 2, 19, []) else none) else (bif Nat.beq k 19 then some (.aload_n 0, 20, []) else none))) else (bif Nat.blt k 24 then (bif Nat.blt k 21 then (bif Nat.beq k 20 then some (.iload_n 1, 21, []) else none) else (bif Nat.beq k 21 then some (.putfield 17, 24, []) else none)) else (bif Nat.blt k 25 then (bif Nat.beq k 24 then some (.iload_n 2, 25, []) else none) else (bif Nat.beq k 25 then some (.ireturn, 26, []) else none))))) else none
noncomputable def P_M_woven : MP := (T_M_woven, (fun k => mLook k [(17, (13, 2, .int, false)), (161, (13, 52, .int, false))]), (fun k => mLook k []), (fun k => mLook k [(228, E_M_isYear)]), (fun k => mLook k []), (fun k => mLook k []), (fun k => mLook k []), (fun k => mLook k []), (fun k => [13, 25].any (Nat.beq k)), (2, 42, 0, 0), false, (fun _ => none))
set_option maxRecDepth 100000 in
set_option maxHeartbeats 4000000 in
theorem q_M_woven_e (a1 : Int32) (σ : MSto) (n : Nat) : mexe KT P_M_woven (n + 1) (0, [some (mR 13 0), some (mI a1), none], [], σ, 0, 0) = mIf ((v_M_isYear a1 (sI σ 13 0 52 0)) = 0) (some (13, [], [(mI (-1))], (sI σ 13 0 52 0), 0, 0)) (some (25, [], [(mI (gI (sI σ 13 0 52 0) 13 0 2))], (sI (sI σ 13 0 52 0) 13 0 2 a1), 0, 0)) := rfl
set_option maxRecDepth 100000 in
set_option maxHeartbeats 4000000 in
theorem d_M_woven (a1 : Int32) (σ : MSto) : mW1 P_M_woven (0, [some (mR 13 0), some (mI a1), none], [], σ, 0, 0) (mF [13, 25] [mI (v_M_woven a1 σ)] (e_M_woven a1 σ) 0 0) := by
  refine mW1_eq (q_M_woven_e _ _) ?_
  unfold v_M_isYear v_M_woven e_M_woven
  try simp only [bI_0]
  repeat' (first
    | exact mTr_e (by decide) rfl rfl (by decide) (by decide)
    | exact mTr_e (by decide) (bI_e0 (by grind)) rfl (by decide) (by decide)
    | exact mTr_e (by decide) (bI_e1 (by grind)) rfl (by decide) (by decide)
    | exact mTr_e (by decide) (ifI0 (by grind)) rfl (by decide) (by decide)
    | exact mTr_e (by decide) (ifI1 (by grind)) rfl (by decide) (by decide)
    | exact mTr_e (by decide) (ifI0 (by grind)) (ifE0 (by grind)) (by decide) (by decide)
    | exact mTr_e (by decide) (ifI1 (by grind)) (ifE1 (by grind)) (by decide) (by decide)
    | exact mTr_e (by decide) (bI_e0 (by grind)) (ifE0 (by grind)) (by decide) (by decide)
    | exact mTr_e (by decide) (bI_e1 (by grind)) (ifE1 (by grind)) (by decide) (by decide)
    | refine mTr_g (by first | assumption | decide | exact inG (by grind)) ?_
    | refine mTr_if (fun _ => ?_) (fun _ => ?_))

theorem tk_M_woven : ∀ pc i nx tg, T_M_woven pc = some (i, nx, tg) → mOkB prog_14_method_23_code pc i nx tg = true := code_ok (N := 26) (fun k h => by unfold T_M_woven; rw [h]; rfl) (by decide +kernel)
theorem ok_M_woven (l : Launch) : mPOK l "ClothWithManModel" prog_14_method_23_code P_M_woven := by
  refine ⟨tk_M_woven, ?_, ?_, ?_, (fun pc i nx tg kd _ h => by cases h), ?_, ?_, fun pc en h => by cases h⟩
  · intro x ci f ty fin h
    exact mLook_all (Q := fun x v => mFOK "ClothWithManModel" x v.1 v.2.1 v.2.2.1 v.2.2.2 ∧ (v.2.2.2 = true → pIni P_M_woven = true → (Cond.fieldLink "ClothWithManModel" x (((mCl[v.1]?).getD ("", fun _ => ("", "", "", false), 0)).2.1 v.2.1).1 (((mCl[v.1]?).getD ("", fun _ => ("", "", "", false), 0)).2.1 v.2.1).2.1 (((mCl[v.1]?).getD ("", fun _ => ("", "", "", false), 0)).2.1 v.2.1).2.2.1 ∈ lw_tbl ∧ (((mCl[v.1]?).getD ("", fun _ => ("", "", "", false), 0)).2.1 v.2.1).1 = "ClothWithManModel"))) (fcC ⟨fo_M_17, fun h1 h2 => by cases h1⟩ (fcC ⟨fo_M_161, fun h1 h2 => by cases h1⟩ fcN)) x (ci, f, ty, fin) h
  · intro x
    have hh := mLook_all (l := ([] : List (Nat × (Int32 ⊕ Int64)))) (Q := fun x (v : Int32 ⊕ Int64) => (∀ w, v = .inl w → Cond.constant "ClothWithManModel" x w ∈ lw_tbl) ∧ (∀ w, v = .inr w → Cond.constantLong "ClothWithManModel" x w ∈ lw_tbl)) fcN x
    exact ⟨fun w h => (hh _ h).1 w rfl, fun w h => (hh _ h).2 w rfl⟩
  · exact fun x en h => mLook_all (Q := fun x en => mLink "ClothWithManModel" x en ∧ mCtr l en ∧ (en.1.1 = 2 → en.2.2.2.2.2.2 = none)) (fcC ⟨li_M_228, c_M_isYear l, (fun h => by cases h)⟩ fcN) x en h
  · exact fun x kd h => mLook_all (Q := fun x kd => (kd = 95 ∧ Cond.fieldLink "ClothWithManModel" x "ClothWithMan" "LIKENESSES" "[I" ∈ lw_tbl) ∨ (kd = 96 ∧ Cond.fieldLink "ClothWithManModel" x "ClothWithMan" "APART_BOUNDS" "[I" ∈ lw_tbl)) fcN x kd h
  · exact fun x ci h => mLook_all (Q := fun x ci => ci ≠ 0 ∧ ∃ (C : String) (T : u_T) (N : Nat), mCl[ci]? = some (C, T, N) ∧ Cond.classLink "ClothWithManModel" x C ∈ lw_tbl ∧ Cond.instantiable C N ∈ lw_tbl) fcN x ci h
set_option maxRecDepth 100000 in
theorem c_M_woven (l : Launch) : mCtr l E_M_woven := mCtr_of (P := P_M_woven) (own := "ClothWithManModel") mLay_ok rfl (by decide +kernel) rfl (ok_M_woven l) (fun h => by cases h) (fun as σ pr rv σ' hF hpr hlv => by
  unfold E_M_woven S_M_woven at hF
  simp only [] at hF
  split at hF
  · cases hF
    obtain ⟨n, pcF, c1, s1, g1, g2, g3, g4⟩ := mF_inv (d_M_woven _ σ)
    exact ⟨Nat.le_of_ble_eq_true rfl, (fun v h => by cases h; trivial), n, pcF, c1, s1, g1, ⟨mEnd_of (i := .ireturn) (P := P_M_woven) (rets := [13, 25]) rfl g2, rfl⟩, g3, g4⟩
  · cases hF
    exact (hpr _ rfl).elim)
/-! ClothWithManModel.isOn(IIII)Z -/
noncomputable def v_M_isOn (x y w h : Int32) (σ : MSto) : Int32 := bI (((0 ≤ x ∧ x ≤ 23) ∧ (0 ≤ y ∧ y ≤ 7)) ∧ (1 ≤ w ∧ w ≤ 24 - x) ∧ (1 ≤ h ∧ h ≤ 8 - y))
noncomputable def S_M_isOn : List MV → MSto → Option Prop × Option MV × MSto := fun as σ => match as with
  | [.inl a0, .inl a1, .inl a2, .inl a3] => (none, some (mI (v_M_isOn a0 a1 a2 a3 σ)), σ)
  | _ => (some False, none, σ)
noncomputable def E_M_isOn : MEnt := ((0, 4, 13), (2, 43, 0, 0), S_M_isOn, ((⟨"ClothWithManModel", "isOn", "(IIII)Z"⟩ : MethodName), prog_14_method_24_code, 4, (some .boolean)))

def T_M_isOn : Nat → Option (Instr × Nat × List Nat) := fun k => bif Nat.blt k 38 then (bif Nat.blt k 20 then (bif Nat.blt k 9 then (bif Nat.blt k 2 then (bif Nat.blt k 1 then (bif Nat.beq k 0 then some (.iload_n 0, 1, []) else none) else (bif Nat.beq k 1 then some (.iload_n 1, 2, []) else none)) else (bif Nat.blt k 5 then (bif Nat.beq k 2 then some (.invokestatic 232, 5, []) else none) else (bif Nat.blt k 8 then (bif Nat.beq k 5 then some (.ifCond .eq 31, 8, [36]) else none) else (bif Nat.beq k 8 then some (.iload_n 2, 9, []) else none)))) else (bif Nat.blt k 13 then (bif Nat.blt k 10 then (bif Nat.beq k 9 then some (.iconst 1, 10, []) else none) else (bif Nat.blt k 12 then (bif Nat.beq k 10 then some (.bipush 24, 12, []) else none) else (bif Nat.beq k 12 then some (.iload_n 0, 13, []) else none))) else (bif Nat.blt k 14 then (bif Nat.beq k 13 then some (.isub, 14, []) else none) else (bif Nat.blt k 17 then (bif Nat.beq k 14 then some (.invokestatic 181, 17, []) else none) else (bif Nat.beq k 17 then some (.ifCond .eq 19, 20, [36]) else none))))) else (bif Nat.blt k 26 then (bif Nat.blt k 22 then (bif Nat.blt k 21 then (bif Nat.beq k 20 then some (.iload_n 3, 21, []) else none) else (bif Nat.beq k 21 then some (.iconst 1, 22, []) else none)) else (bif Nat.blt k 24 then (bif Nat.beq k 22 then some (.bipush 8, 24, []) else none) else (bif Nat.blt k 25 then (bif Nat.beq k 24 then some (.iload_n 1, 25, []) else none) else (bif Nat.beq k 25 then some (.isub, 26, []) else none)))) else (bif Nat.blt k 33 then (bif Nat.blt k 29 then (bif Nat.beq k 26 then some (.invokestatic 181, 29, []) else none) else (bif Nat.blt k 32 then (bif Nat.beq k 29 then some (.ifCond .eq 7, 32, [36]) else none) else (bif Nat.beq k 32 then some (.iconst 1, 33, []) else none))) else (bif Nat.blt k 36 then (bif Nat.beq k 33 then some (.goto 4, 36, [37]) else none) else (bif Nat.blt k 37 then (bif Nat.beq k 36 then some (.iconst 0, 37, []) else none) else (bif Nat.beq k 37 then some (.ireturn, 38, []) else none)))))) else none
noncomputable def P_M_isOn : MP := (T_M_isOn, (fun k => mLook k []), (fun k => mLook k []), (fun k => mLook k [(181, E_M_in), (232, E_M_isPlace)]), (fun k => mLook k []), (fun k => mLook k []), (fun k => mLook k []), (fun k => mLook k []), (fun k => [37].any (Nat.beq k)), (2, 43, 0, 0), false, (fun _ => none))
set_option maxRecDepth 100000 in
set_option maxHeartbeats 4000000 in
theorem q_M_isOn_e (a0 : Int32) (a1 : Int32) (a2 : Int32) (a3 : Int32) (σ : MSto) (n : Nat) : mexe KT P_M_isOn (n + 1) (0, [some (mI a0), some (mI a1), some (mI a2), some (mI a3)], [], σ, 0, 0) = mIf ((v_M_isPlace a0 a1 σ) = 0) (some (37, [], [(mI 0)], σ, 0, 0)) (mIf ((v_M_in a2 1 (24 - a0) σ) = 0) (some (37, [], [(mI 0)], σ, 0, 0)) (mIf ((v_M_in a3 1 (8 - a1) σ) = 0) (some (37, [], [(mI 0)], σ, 0, 0)) (some (37, [], [(mI 1)], σ, 0, 0)))) := rfl
set_option maxRecDepth 100000 in
set_option maxHeartbeats 4000000 in
theorem d_M_isOn (a0 : Int32) (a1 : Int32) (a2 : Int32) (a3 : Int32) (σ : MSto) : mW1 P_M_isOn (0, [some (mI a0), some (mI a1), some (mI a2), some (mI a3)], [], σ, 0, 0) (mF [37] [mI (v_M_isOn a0 a1 a2 a3 σ)] σ 0 0) := by
  refine mW1_eq (q_M_isOn_e _ _ _ _ _) ?_
  unfold v_M_isPlace v_M_in
  try simp only [bI_0]
  repeat' (first
    | exact mTr_e (by decide) rfl rfl (by decide) (by decide)
    | exact mTr_e (by decide) (bI_e0 (by grind)) rfl (by decide) (by decide)
    | exact mTr_e (by decide) (bI_e1 (by grind)) rfl (by decide) (by decide)
    | exact mTr_e (by decide) (ifI0 (by grind)) rfl (by decide) (by decide)
    | exact mTr_e (by decide) (ifI1 (by grind)) rfl (by decide) (by decide)
    | exact mTr_e (by decide) (ifI0 (by grind)) (ifE0 (by grind)) (by decide) (by decide)
    | exact mTr_e (by decide) (ifI1 (by grind)) (ifE1 (by grind)) (by decide) (by decide)
    | exact mTr_e (by decide) (bI_e0 (by grind)) (ifE0 (by grind)) (by decide) (by decide)
    | exact mTr_e (by decide) (bI_e1 (by grind)) (ifE1 (by grind)) (by decide) (by decide)
    | refine mTr_g (by first | assumption | decide | exact inG (by grind)) ?_
    | refine mTr_if (fun _ => ?_) (fun _ => ?_))
theorem li_M_232 : mLink "ClothWithManModel" 232 E_M_isPlace := ⟨tw_6_231, tw_1_9, ⟨by decide, by decide⟩, by decide +kernel, Or.inl tw_6_229, (fun _ => tw_6_230), (fun h => by cases h), (fun h => by cases h)⟩


theorem tk_M_isOn : ∀ pc i nx tg, T_M_isOn pc = some (i, nx, tg) → mOkB prog_14_method_24_code pc i nx tg = true := code_ok (N := 38) (fun k h => by unfold T_M_isOn; rw [h]; rfl) (by decide +kernel)
theorem ok_M_isOn (l : Launch) : mPOK l "ClothWithManModel" prog_14_method_24_code P_M_isOn := by
  refine ⟨tk_M_isOn, ?_, ?_, ?_, (fun pc i nx tg kd _ h => by cases h), ?_, ?_, fun pc en h => by cases h⟩
  · intro x ci f ty fin h
    exact mLook_all (Q := fun x v => mFOK "ClothWithManModel" x v.1 v.2.1 v.2.2.1 v.2.2.2 ∧ (v.2.2.2 = true → pIni P_M_isOn = true → (Cond.fieldLink "ClothWithManModel" x (((mCl[v.1]?).getD ("", fun _ => ("", "", "", false), 0)).2.1 v.2.1).1 (((mCl[v.1]?).getD ("", fun _ => ("", "", "", false), 0)).2.1 v.2.1).2.1 (((mCl[v.1]?).getD ("", fun _ => ("", "", "", false), 0)).2.1 v.2.1).2.2.1 ∈ lw_tbl ∧ (((mCl[v.1]?).getD ("", fun _ => ("", "", "", false), 0)).2.1 v.2.1).1 = "ClothWithManModel"))) fcN x (ci, f, ty, fin) h
  · intro x
    have hh := mLook_all (l := ([] : List (Nat × (Int32 ⊕ Int64)))) (Q := fun x (v : Int32 ⊕ Int64) => (∀ w, v = .inl w → Cond.constant "ClothWithManModel" x w ∈ lw_tbl) ∧ (∀ w, v = .inr w → Cond.constantLong "ClothWithManModel" x w ∈ lw_tbl)) fcN x
    exact ⟨fun w h => (hh _ h).1 w rfl, fun w h => (hh _ h).2 w rfl⟩
  · exact fun x en h => mLook_all (Q := fun x en => mLink "ClothWithManModel" x en ∧ mCtr l en ∧ (en.1.1 = 2 → en.2.2.2.2.2.2 = none)) (fcC ⟨li_M_181, c_M_in l, (fun h => by cases h)⟩ (fcC ⟨li_M_232, c_M_isPlace l, (fun h => by cases h)⟩ fcN)) x en h
  · exact fun x kd h => mLook_all (Q := fun x kd => (kd = 95 ∧ Cond.fieldLink "ClothWithManModel" x "ClothWithMan" "LIKENESSES" "[I" ∈ lw_tbl) ∨ (kd = 96 ∧ Cond.fieldLink "ClothWithManModel" x "ClothWithMan" "APART_BOUNDS" "[I" ∈ lw_tbl)) fcN x kd h
  · exact fun x ci h => mLook_all (Q := fun x ci => ci ≠ 0 ∧ ∃ (C : String) (T : u_T) (N : Nat), mCl[ci]? = some (C, T, N) ∧ Cond.classLink "ClothWithManModel" x C ∈ lw_tbl ∧ Cond.instantiable C N ∈ lw_tbl) fcN x ci h
set_option maxRecDepth 100000 in
theorem c_M_isOn (l : Launch) : mCtr l E_M_isOn := mCtr_of (P := P_M_isOn) (own := "ClothWithManModel") mLay_ok rfl (by decide +kernel) rfl (ok_M_isOn l) (fun h => by cases h) (fun as σ pr rv σ' hF hpr hlv => by
  unfold E_M_isOn S_M_isOn at hF
  simp only [] at hF
  split at hF
  · cases hF
    obtain ⟨n, pcF, c1, s1, g1, g2, g3, g4⟩ := mF_inv (d_M_isOn _ _ _ _ σ)
    exact ⟨Nat.le_of_ble_eq_true rfl, (fun v h => by cases h; trivial), n, pcF, c1, s1, g1, ⟨mEnd_of (i := .ireturn) (P := P_M_isOn) (rets := [37]) rfl g2, bI_narrow _⟩, g3, g4⟩
  · cases hF
    exact (hpr _ rfl).elim)
/-! ClothWithManModel.has(II)Z -/
noncomputable def v_M_has (b k : Int32) (σ : MSto) : Int32 := bI (b >>> (k &&& 31) &&& 1 = 1)
noncomputable def S_M_has : List MV → MSto → Option Prop × Option MV × MSto := fun as σ => match as with
  | [.inl a0, .inl a1] => (none, some (mI (v_M_has a0 a1 σ)), σ)
  | _ => (some False, none, σ)
noncomputable def E_M_has : MEnt := ((0, 2, 13), (0, 0, 0, 0), S_M_has, ((⟨"ClothWithManModel", "has", "(II)Z"⟩ : MethodName), prog_14_method_47_code, 2, (some .boolean)))

def T_M_has : Nat → Option (Instr × Nat × List Nat) := fun k => bif Nat.blt k 15 then (bif Nat.blt k 5 then (bif Nat.blt k 2 then (bif Nat.blt k 1 then (bif Nat.beq k 0 then some (.iload_n 0, 1, []) else none) else (bif Nat.beq k 1 then some (.iload_n 1, 2, []) else none)) else (bif Nat.blt k 3 then (bif Nat.beq k 2 then some (.ishr, 3, []) else none) else (bif Nat.blt k 4 then (bif Nat.beq k 3 then some (.iconst 1, 4, []) else none) else (bif Nat.beq k 4 then some (.iand, 5, []) else none)))) else (bif Nat.blt k 10 then (bif Nat.blt k 6 then (bif Nat.beq k 5 then some (.iconst 1, 6, []) else none) else (bif Nat.blt k 9 then (bif Nat.beq k 6 then some (.if_icmp .ne 7, 9, [13]) else none) else (bif Nat.beq k 9 then some (.iconst 1, 10, []) else none))) else (bif Nat.blt k 13 then (bif Nat.beq k 10 then some (.goto 4, 13, [14]) else none) else (bif Nat.blt k 14 then (bif Nat.beq k 13 then some (.iconst 0, 14, []) else none) else (bif Nat.beq k 14 then some (.ireturn, 15, []) else none))))) else none
noncomputable def P_M_has : MP := (T_M_has, (fun k => mLook k []), (fun k => mLook k []), (fun k => mLook k []), (fun k => mLook k []), (fun k => mLook k []), (fun k => mLook k []), (fun k => mLook k []), (fun k => [14].any (Nat.beq k)), (0, 0, 0, 0), false, (fun _ => none))
set_option maxRecDepth 100000 in
set_option maxHeartbeats 4000000 in
theorem q_M_has_e (a0 : Int32) (a1 : Int32) (σ : MSto) (n : Nat) : mexe KT P_M_has (n + 1) (0, [some (mI a0), some (mI a1)], [], σ, 0, 0) = mIf (((a0 >>> (a1 &&& 31)) &&& 1) = 1) (some (14, [], [(mI 1)], σ, 0, 0)) (some (14, [], [(mI 0)], σ, 0, 0)) := rfl
set_option maxRecDepth 100000 in
set_option maxHeartbeats 4000000 in
theorem d_M_has (a0 : Int32) (a1 : Int32) (σ : MSto) : mW1 P_M_has (0, [some (mI a0), some (mI a1)], [], σ, 0, 0) (mF [14] [mI (v_M_has a0 a1 σ)] σ 0 0) := by
  refine mW1_eq (q_M_has_e _ _ _) ?_
  try simp only [bI_0]
  repeat' (first
    | exact mTr_e (by decide) rfl rfl (by decide) (by decide)
    | exact mTr_e (by decide) (bI_e0 (by grind)) rfl (by decide) (by decide)
    | exact mTr_e (by decide) (bI_e1 (by grind)) rfl (by decide) (by decide)
    | exact mTr_e (by decide) (ifI0 (by grind)) rfl (by decide) (by decide)
    | exact mTr_e (by decide) (ifI1 (by grind)) rfl (by decide) (by decide)
    | exact mTr_e (by decide) (ifI0 (by grind)) (ifE0 (by grind)) (by decide) (by decide)
    | exact mTr_e (by decide) (ifI1 (by grind)) (ifE1 (by grind)) (by decide) (by decide)
    | exact mTr_e (by decide) (bI_e0 (by grind)) (ifE0 (by grind)) (by decide) (by decide)
    | exact mTr_e (by decide) (bI_e1 (by grind)) (ifE1 (by grind)) (by decide) (by decide)
    | refine mTr_g (by first | assumption | decide | exact inG (by grind)) ?_
    | refine mTr_if (fun _ => ?_) (fun _ => ?_))
theorem tk_M_has : ∀ pc i nx tg, T_M_has pc = some (i, nx, tg) → mOkB prog_14_method_47_code pc i nx tg = true := code_ok (N := 15) (fun k h => by unfold T_M_has; rw [h]; rfl) (by decide +kernel)
theorem ok_M_has (l : Launch) : mPOK l "ClothWithManModel" prog_14_method_47_code P_M_has := by
  refine ⟨tk_M_has, ?_, ?_, ?_, (fun pc i nx tg kd _ h => by cases h), ?_, ?_, fun pc en h => by cases h⟩
  · intro x ci f ty fin h
    exact mLook_all (Q := fun x v => mFOK "ClothWithManModel" x v.1 v.2.1 v.2.2.1 v.2.2.2 ∧ (v.2.2.2 = true → pIni P_M_has = true → (Cond.fieldLink "ClothWithManModel" x (((mCl[v.1]?).getD ("", fun _ => ("", "", "", false), 0)).2.1 v.2.1).1 (((mCl[v.1]?).getD ("", fun _ => ("", "", "", false), 0)).2.1 v.2.1).2.1 (((mCl[v.1]?).getD ("", fun _ => ("", "", "", false), 0)).2.1 v.2.1).2.2.1 ∈ lw_tbl ∧ (((mCl[v.1]?).getD ("", fun _ => ("", "", "", false), 0)).2.1 v.2.1).1 = "ClothWithManModel"))) fcN x (ci, f, ty, fin) h
  · intro x
    have hh := mLook_all (l := ([] : List (Nat × (Int32 ⊕ Int64)))) (Q := fun x (v : Int32 ⊕ Int64) => (∀ w, v = .inl w → Cond.constant "ClothWithManModel" x w ∈ lw_tbl) ∧ (∀ w, v = .inr w → Cond.constantLong "ClothWithManModel" x w ∈ lw_tbl)) fcN x
    exact ⟨fun w h => (hh _ h).1 w rfl, fun w h => (hh _ h).2 w rfl⟩
  · exact fun x en h => mLook_all (Q := fun x en => mLink "ClothWithManModel" x en ∧ mCtr l en ∧ (en.1.1 = 2 → en.2.2.2.2.2.2 = none)) fcN x en h
  · exact fun x kd h => mLook_all (Q := fun x kd => (kd = 95 ∧ Cond.fieldLink "ClothWithManModel" x "ClothWithMan" "LIKENESSES" "[I" ∈ lw_tbl) ∨ (kd = 96 ∧ Cond.fieldLink "ClothWithManModel" x "ClothWithMan" "APART_BOUNDS" "[I" ∈ lw_tbl)) fcN x kd h
  · exact fun x ci h => mLook_all (Q := fun x ci => ci ≠ 0 ∧ ∃ (C : String) (T : u_T) (N : Nat), mCl[ci]? = some (C, T, N) ∧ Cond.classLink "ClothWithManModel" x C ∈ lw_tbl ∧ Cond.instantiable C N ∈ lw_tbl) fcN x ci h
set_option maxRecDepth 100000 in
theorem c_M_has (l : Launch) : mCtr l E_M_has := mCtr_of (P := P_M_has) (own := "ClothWithManModel") mLay_ok rfl (by decide +kernel) rfl (ok_M_has l) (fun h => by cases h) (fun as σ pr rv σ' hF hpr hlv => by
  unfold E_M_has S_M_has at hF
  simp only [] at hF
  split at hF
  · cases hF
    obtain ⟨n, pcF, c1, s1, g1, g2, g3, g4⟩ := mF_inv (d_M_has _ _ σ)
    exact ⟨Nat.le_of_ble_eq_true rfl, (fun v h => by cases h; trivial), n, pcF, c1, s1, g1, ⟨mEnd_of (i := .ireturn) (P := P_M_has) (rets := [14]) rfl g2, bI_narrow _⟩, g3, g4⟩
  · cases hF
    exact (hpr _ rfl).elim)
/-! ClothWithManModel.hasTerm(II)Z -/
noncomputable def v_M_hasTerm (s b : Int32) (σ : MSto) : Int32 := bI (¬ gI σ 59 0 s.toNatClampNeg &&& b = 0)
def p_M_hasTerm (s b : Int32) (σ : MSto) : Prop := vp_in s 6
noncomputable def S_M_hasTerm : List MV → MSto → Option Prop × Option MV × MSto := fun as σ => match as with
  | [.inr (.inr (some (13, 0))), .inl a0, .inl a1] => (some (p_M_hasTerm a0 a1 σ), some (mI (v_M_hasTerm a0 a1 σ)), σ)
  | _ => (some False, none, σ)
noncomputable def E_M_hasTerm : MEnt := ((1, 2, 13), (0, 0, 0, 0), S_M_hasTerm, ((⟨"ClothWithManModel", "hasTerm", "(II)Z"⟩ : MethodName), prog_14_method_70_code, 3, (some .boolean)))

def T_M_hasTerm : Nat → Option (Instr × Nat × List Nat) := fun k => bif Nat.blt k 17 then (bif Nat.blt k 7 then (bif Nat.blt k 4 then (bif Nat.blt k 1 then (bif Nat.beq k 0 then some (.aload_n 0, 1, []) else none) else (bif Nat.beq k 1 then some (.getfield 71, 4, []) else none)) else (bif Nat.blt k 5 then (bif Nat.beq k 4 then some (.iload_n 1, 5, []) else none) else (bif Nat.blt k 6 then (bif Nat.beq k 5 then some (.iaload, 6, []) else none) else (bif Nat.beq k 6 then some (.iload_n 2, 7, []) else none)))) else (bif Nat.blt k 12 then (bif Nat.blt k 8 then (bif Nat.beq k 7 then some (.iand, 8, []) else none) else (bif Nat.blt k 11 then (bif Nat.beq k 8 then some (.ifCond .eq 7, 11, [15]) else none) else (bif Nat.beq k 11 then some (.iconst 1, 12, []) else none))) else (bif Nat.blt k 15 then (bif Nat.beq k 12 then some (.goto 4, 15, [16]) else none) else (bif Nat.blt k 16 then (bif Nat.beq k 15 then some (.iconst 0, 16, []) else none) else (bif Nat.beq k 16 then some (.ireturn, 17, []) else none))))) else none
noncomputable def P_M_hasTerm : MP := (T_M_hasTerm, (fun k => mLook k [(71, (13, 25, (.array .int), true))]), (fun k => mLook k []), (fun k => mLook k []), (fun k => mLook k []), (fun k => mLook k []), (fun k => mLook k []), (fun k => mLook k []), (fun k => [16].any (Nat.beq k)), (0, 0, 0, 0), false, (fun _ => none))
set_option maxRecDepth 100000 in
set_option maxHeartbeats 4000000 in
theorem q_M_hasTerm_e (a1 : Int32) (a2 : Int32) (σ : MSto) (n : Nat) : mexe KT P_M_hasTerm (n + 1) (0, [some (mR 13 0), some (mI a1), some (mI a2)], [], σ, 0, 0) = mG (vp_in a1 6) (mIf (((gI σ 59 0 (Int32.toNatClampNeg a1)) &&& a2) = 0) (some (16, [], [(mI 0)], σ, 0, 0)) (some (16, [], [(mI 1)], σ, 0, 0))) := rfl
set_option maxRecDepth 100000 in
set_option maxHeartbeats 4000000 in
theorem d_M_hasTerm (a1 : Int32) (a2 : Int32) (σ : MSto) (hp : p_M_hasTerm a1 a2 σ) : mW1 P_M_hasTerm (0, [some (mR 13 0), some (mI a1), some (mI a2)], [], σ, 0, 0) (mF [16] [mI (v_M_hasTerm a1 a2 σ)] σ 0 0) := by
  unfold p_M_hasTerm at hp
  refine mW1_eq (q_M_hasTerm_e _ _ _) ?_
  try simp only [bI_0]
  repeat' (first
    | exact mTr_e (by decide) rfl rfl (by decide) (by decide)
    | exact mTr_e (by decide) (bI_e0 (by grind)) rfl (by decide) (by decide)
    | exact mTr_e (by decide) (bI_e1 (by grind)) rfl (by decide) (by decide)
    | exact mTr_e (by decide) (ifI0 (by grind)) rfl (by decide) (by decide)
    | exact mTr_e (by decide) (ifI1 (by grind)) rfl (by decide) (by decide)
    | exact mTr_e (by decide) (ifI0 (by grind)) (ifE0 (by grind)) (by decide) (by decide)
    | exact mTr_e (by decide) (ifI1 (by grind)) (ifE1 (by grind)) (by decide) (by decide)
    | exact mTr_e (by decide) (bI_e0 (by grind)) (ifE0 (by grind)) (by decide) (by decide)
    | exact mTr_e (by decide) (bI_e1 (by grind)) (ifE1 (by grind)) (by decide) (by decide)
    | refine mTr_g (by first | assumption | decide | exact inG (by grind)) ?_
    | refine mTr_if (fun _ => ?_) (fun _ => ?_))
theorem tk_M_hasTerm : ∀ pc i nx tg, T_M_hasTerm pc = some (i, nx, tg) → mOkB prog_14_method_70_code pc i nx tg = true := code_ok (N := 17) (fun k h => by unfold T_M_hasTerm; rw [h]; rfl) (by decide +kernel)
theorem ok_M_hasTerm (l : Launch) : mPOK l "ClothWithManModel" prog_14_method_70_code P_M_hasTerm := by
  refine ⟨tk_M_hasTerm, ?_, ?_, ?_, (fun pc i nx tg kd _ h => by cases h), ?_, ?_, fun pc en h => by cases h⟩
  · intro x ci f ty fin h
    exact mLook_all (Q := fun x v => mFOK "ClothWithManModel" x v.1 v.2.1 v.2.2.1 v.2.2.2 ∧ (v.2.2.2 = true → pIni P_M_hasTerm = true → (Cond.fieldLink "ClothWithManModel" x (((mCl[v.1]?).getD ("", fun _ => ("", "", "", false), 0)).2.1 v.2.1).1 (((mCl[v.1]?).getD ("", fun _ => ("", "", "", false), 0)).2.1 v.2.1).2.1 (((mCl[v.1]?).getD ("", fun _ => ("", "", "", false), 0)).2.1 v.2.1).2.2.1 ∈ lw_tbl ∧ (((mCl[v.1]?).getD ("", fun _ => ("", "", "", false), 0)).2.1 v.2.1).1 = "ClothWithManModel"))) (fcC ⟨fo_M_71, fun h1 h2 => by cases h2⟩ fcN) x (ci, f, ty, fin) h
  · intro x
    have hh := mLook_all (l := ([] : List (Nat × (Int32 ⊕ Int64)))) (Q := fun x (v : Int32 ⊕ Int64) => (∀ w, v = .inl w → Cond.constant "ClothWithManModel" x w ∈ lw_tbl) ∧ (∀ w, v = .inr w → Cond.constantLong "ClothWithManModel" x w ∈ lw_tbl)) fcN x
    exact ⟨fun w h => (hh _ h).1 w rfl, fun w h => (hh _ h).2 w rfl⟩
  · exact fun x en h => mLook_all (Q := fun x en => mLink "ClothWithManModel" x en ∧ mCtr l en ∧ (en.1.1 = 2 → en.2.2.2.2.2.2 = none)) fcN x en h
  · exact fun x kd h => mLook_all (Q := fun x kd => (kd = 95 ∧ Cond.fieldLink "ClothWithManModel" x "ClothWithMan" "LIKENESSES" "[I" ∈ lw_tbl) ∨ (kd = 96 ∧ Cond.fieldLink "ClothWithManModel" x "ClothWithMan" "APART_BOUNDS" "[I" ∈ lw_tbl)) fcN x kd h
  · exact fun x ci h => mLook_all (Q := fun x ci => ci ≠ 0 ∧ ∃ (C : String) (T : u_T) (N : Nat), mCl[ci]? = some (C, T, N) ∧ Cond.classLink "ClothWithManModel" x C ∈ lw_tbl ∧ Cond.instantiable C N ∈ lw_tbl) fcN x ci h
set_option maxRecDepth 100000 in
theorem c_M_hasTerm (l : Launch) : mCtr l E_M_hasTerm := mCtr_of (P := P_M_hasTerm) (own := "ClothWithManModel") mLay_ok rfl (by decide +kernel) rfl (ok_M_hasTerm l) (fun h => by cases h) (fun as σ pr rv σ' hF hpr hlv => by
  unfold E_M_hasTerm S_M_hasTerm at hF
  simp only [] at hF
  split at hF
  · cases hF
    obtain ⟨n, pcF, c1, s1, g1, g2, g3, g4⟩ := mF_inv (d_M_hasTerm _ _ σ (hpr _ rfl))
    exact ⟨Nat.le_of_ble_eq_true rfl, (fun v h => by cases h; trivial), n, pcF, c1, s1, g1, ⟨mEnd_of (i := .ireturn) (P := P_M_hasTerm) (rets := [16]) rfl g2, bI_narrow _⟩, g3, g4⟩
  · cases hF
    exact (hpr _ rfl).elim)

