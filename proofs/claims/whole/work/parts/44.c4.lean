/-! ClothWithMan.sign(I)I -/
noncomputable def v_C_sign (a1 : Int32) (σ : MSto) : Int32 := (v_Te_append a1 σ)
def p_C_sign (a1 : Int32) (σ : MSto) : Prop := (p_Te_append a1 σ)
noncomputable def e_C_sign (a1 : Int32) (σ : MSto) : MSto := (e_Te_append a1 σ)
noncomputable def S_C_sign : List MV → MSto → Option Prop × Option MV × MSto := fun as σ => match as with
  | [.inr (.inr (some (12, 0))), .inl a0] => (some (p_C_sign a0 σ), some (mI (v_C_sign a0 σ)), e_C_sign a0 σ)
  | _ => (some False, none, σ)
noncomputable def E_C_sign : MEnt := ((1, 1, 12), (1, 22, 0, 0), S_C_sign, ((⟨"ClothWithMan", "sign", "(I)I"⟩ : MethodName), prog_1_method_2_code, 2, (some .int)))

def T_C_sign : Nat → Option (Instr × Nat × List Nat) := fun k => bif Nat.blt k 9 then (bif Nat.blt k 4 then (bif Nat.blt k 1 then (bif Nat.beq k 0 then some (.aload_n 0, 1, []) else none) else (bif Nat.beq k 1 then some (.getfield 10, 4, []) else none)) else (bif Nat.blt k 5 then (bif Nat.beq k 4 then some (.iload_n 1, 5, []) else none) else (bif Nat.blt k 8 then (bif Nat.beq k 5 then some (.invokevirtual 98, 8, []) else none) else (bif Nat.beq k 8 then some (.ireturn, 9, []) else none)))) else none
noncomputable def P_C_sign : MP := (T_C_sign, (fun k => mLook k [(10, (12, 0, (.object "ClothWithMan$Text"), true))]), (fun k => mLook k []), (fun k => mLook k [(98, E_Te_append)]), (fun k => mLook k []), (fun k => mLook k []), (fun k => mLook k []), (fun k => mLook k []), (fun k => [8].any (Nat.beq k)), (1, 22, 0, 0), false, (fun _ => none))
set_option maxRecDepth 100000 in
set_option maxHeartbeats 4000000 in
theorem q_C_sign_e (a1 : Int32) (σ : MSto) (n : Nat) : mexe KT P_C_sign (n + 1) (0, [some (mR 12 0), some (mI a1)], [], σ, 0, 0) = mG (p_Te_append a1 σ) (some (8, [], [(mI (v_Te_append a1 σ))], (e_Te_append a1 σ), 0, 0)) := rfl
set_option maxRecDepth 100000 in
set_option maxHeartbeats 4000000 in
theorem d_C_sign (a1 : Int32) (σ : MSto) (hp : p_C_sign a1 σ) : mW1 P_C_sign (0, [some (mR 12 0), some (mI a1)], [], σ, 0, 0) (mF [8] [mI (v_C_sign a1 σ)] (e_C_sign a1 σ) 0 0) := by
  refine mW1_eq (q_C_sign_e _ _) ?_
  unfold p_C_sign at hp
  refine mTr_g hp ?_
  exact mTr_e (by decide) (congrArg (fun z => [mI z]) (Eq.symm (rfl))) (Eq.symm (rfl)) (by decide) (by decide)
theorem li_C_98 : mLink "ClothWithMan" 98 E_Te_append := ⟨tw_1_231, tw_1_2, ⟨by decide, by decide⟩, by decide +kernel, Or.inl tw_1_228, (fun h => by cases h), (fun _ => ⟨tw_1_229, tw_1_230, TX9, 5, rfl⟩), (fun h => by cases h)⟩

theorem tk_C_sign : ∀ pc i nx tg, T_C_sign pc = some (i, nx, tg) → mOkB prog_1_method_2_code pc i nx tg = true := code_ok (N := 9) (fun k h => by unfold T_C_sign; rw [h]; rfl) (by decide +kernel)
theorem ok_C_sign (l : Launch) : mPOK l "ClothWithMan" prog_1_method_2_code P_C_sign := by
  refine ⟨tk_C_sign, ?_, ?_, ?_, (fun pc i nx tg kd _ h => by cases h), ?_, ?_, fun pc en h => by cases h⟩
  · intro x ci f ty fin h
    exact mLook_all (Q := fun x v => mFOK "ClothWithMan" x v.1 v.2.1 v.2.2.1 v.2.2.2 ∧ (v.2.2.2 = true → pIni P_C_sign = true → (Cond.fieldLink "ClothWithMan" x (((mCl[v.1]?).getD ("", fun _ => ("", "", "", false), 0)).2.1 v.2.1).1 (((mCl[v.1]?).getD ("", fun _ => ("", "", "", false), 0)).2.1 v.2.1).2.1 (((mCl[v.1]?).getD ("", fun _ => ("", "", "", false), 0)).2.1 v.2.1).2.2.1 ∈ lw_tbl ∧ (((mCl[v.1]?).getD ("", fun _ => ("", "", "", false), 0)).2.1 v.2.1).1 = "ClothWithMan"))) (fcC ⟨fo_C_10, fun h1 h2 => by cases h2⟩ fcN) x (ci, f, ty, fin) h
  · intro x
    have hh := mLook_all (l := ([] : List (Nat × (Int32 ⊕ Int64)))) (Q := fun x (v : Int32 ⊕ Int64) => (∀ w, v = .inl w → Cond.constant "ClothWithMan" x w ∈ lw_tbl) ∧ (∀ w, v = .inr w → Cond.constantLong "ClothWithMan" x w ∈ lw_tbl)) fcN x
    exact ⟨fun w h => (hh _ h).1 w rfl, fun w h => (hh _ h).2 w rfl⟩
  · exact fun x en h => mLook_all (Q := fun x en => mLink "ClothWithMan" x en ∧ mCtr l en ∧ (en.1.1 = 2 → en.2.2.2.2.2.2 = none)) (fcC ⟨li_C_98, c_Te_append l, (fun h => by cases h)⟩ fcN) x en h
  · exact fun x kd h => mLook_all (Q := fun x kd => (kd = 95 ∧ Cond.fieldLink "ClothWithMan" x "ClothWithMan" "LIKENESSES" "[I" ∈ lw_tbl) ∨ (kd = 96 ∧ Cond.fieldLink "ClothWithMan" x "ClothWithMan" "APART_BOUNDS" "[I" ∈ lw_tbl)) fcN x kd h
  · exact fun x ci h => mLook_all (Q := fun x ci => ci ≠ 0 ∧ ∃ (C : String) (T : u_T) (N : Nat), mCl[ci]? = some (C, T, N) ∧ Cond.classLink "ClothWithMan" x C ∈ lw_tbl ∧ Cond.instantiable C N ∈ lw_tbl) fcN x ci h
set_option maxRecDepth 100000 in
theorem c_C_sign (l : Launch) : mCtr l E_C_sign := mCtr_of (P := P_C_sign) (own := "ClothWithMan") mLay_ok rfl (by decide +kernel) rfl (ok_C_sign l) (fun h => by cases h) (fun as σ pr rv σ' hF hpr hlv => by
  unfold E_C_sign S_C_sign at hF
  simp only [] at hF
  split at hF
  · cases hF
    obtain ⟨n, pcF, c1, s1, g1, g2, g3, g4⟩ := mF_inv (d_C_sign _ σ (hpr _ rfl))
    exact ⟨Nat.le_of_ble_eq_true rfl, (fun v h => by cases h; trivial), n, pcF, c1, s1, g1, ⟨mEnd_of (i := .ireturn) (P := P_C_sign) (rets := [8]) rfl g2, rfl⟩, g3, g4⟩
  · cases hF
    exact (hpr _ rfl).elim)
/-! ClothWithMan.end(I)Z -/
def b_C_end (a1 : Int32) (σ : MSto) : Prop := ((v_Te_cut a1 σ) = 1)
noncomputable def v_C_end (a1 : Int32) (σ : MSto) : Int32 := bI (b_C_end a1 σ)
noncomputable def e_C_end (a1 : Int32) (σ : MSto) : MSto := (e_Te_cut a1 σ)
noncomputable def S_C_end : List MV → MSto → Option Prop × Option MV × MSto := fun as σ => match as with
  | [.inr (.inr (some (12, 0))), .inl a0] => (none, some (mI (v_C_end a0 σ)), e_C_end a0 σ)
  | _ => (some False, none, σ)
noncomputable def E_C_end : MEnt := ((1, 1, 12), (1, 21, 0, 0), S_C_end, ((⟨"ClothWithMan", "end", "(I)Z"⟩ : MethodName), prog_1_method_3_code, 2, (some .boolean)))

def T_C_end : Nat → Option (Instr × Nat × List Nat) := fun k => bif Nat.blt k 9 then (bif Nat.blt k 4 then (bif Nat.blt k 1 then (bif Nat.beq k 0 then some (.aload_n 0, 1, []) else none) else (bif Nat.beq k 1 then some (.getfield 10, 4, []) else none)) else (bif Nat.blt k 5 then (bif Nat.beq k 4 then some (.iload_n 1, 5, []) else none) else (bif Nat.blt k 8 then (bif Nat.beq k 5 then some (.invokevirtual 102, 8, []) else none) else (bif Nat.beq k 8 then some (.ireturn, 9, []) else none)))) else none
noncomputable def P_C_end : MP := (T_C_end, (fun k => mLook k [(10, (12, 0, (.object "ClothWithMan$Text"), true))]), (fun k => mLook k []), (fun k => mLook k [(102, E_Te_cut)]), (fun k => mLook k []), (fun k => mLook k []), (fun k => mLook k []), (fun k => mLook k []), (fun k => [8].any (Nat.beq k)), (1, 21, 0, 0), false, (fun _ => none))
set_option maxRecDepth 100000 in
set_option maxHeartbeats 4000000 in
theorem q_C_end_e (a1 : Int32) (σ : MSto) (n : Nat) : mexe KT P_C_end (n + 1) (0, [some (mR 12 0), some (mI a1)], [], σ, 0, 0) = some (8, [], [(mI (v_Te_cut a1 σ))], (e_Te_cut a1 σ), 0, 0) := rfl
set_option maxRecDepth 100000 in
set_option maxHeartbeats 4000000 in
theorem d_C_end (a1 : Int32) (σ : MSto) : mW1 P_C_end (0, [some (mR 12 0), some (mI a1)], [], σ, 0, 0) (mF [8] [mI (v_C_end a1 σ)] (e_C_end a1 σ) 0 0) := by
  refine mW1_eq (q_C_end_e _ _) ?_
  unfold v_C_end
  exact mTr_e (by decide) (bI_V (rfl)) (Eq.symm (rfl)) (by decide) (by decide)
theorem li_C_102 : mLink "ClothWithMan" 102 E_Te_cut := ⟨tw_1_239, tw_1_2, ⟨by decide, by decide⟩, by decide +kernel, Or.inl tw_1_236, (fun h => by cases h), (fun _ => ⟨tw_1_237, tw_1_238, TX9, 5, rfl⟩), (fun h => by cases h)⟩

theorem tk_C_end : ∀ pc i nx tg, T_C_end pc = some (i, nx, tg) → mOkB prog_1_method_3_code pc i nx tg = true := code_ok (N := 9) (fun k h => by unfold T_C_end; rw [h]; rfl) (by decide +kernel)
theorem ok_C_end (l : Launch) : mPOK l "ClothWithMan" prog_1_method_3_code P_C_end := by
  refine ⟨tk_C_end, ?_, ?_, ?_, (fun pc i nx tg kd _ h => by cases h), ?_, ?_, fun pc en h => by cases h⟩
  · intro x ci f ty fin h
    exact mLook_all (Q := fun x v => mFOK "ClothWithMan" x v.1 v.2.1 v.2.2.1 v.2.2.2 ∧ (v.2.2.2 = true → pIni P_C_end = true → (Cond.fieldLink "ClothWithMan" x (((mCl[v.1]?).getD ("", fun _ => ("", "", "", false), 0)).2.1 v.2.1).1 (((mCl[v.1]?).getD ("", fun _ => ("", "", "", false), 0)).2.1 v.2.1).2.1 (((mCl[v.1]?).getD ("", fun _ => ("", "", "", false), 0)).2.1 v.2.1).2.2.1 ∈ lw_tbl ∧ (((mCl[v.1]?).getD ("", fun _ => ("", "", "", false), 0)).2.1 v.2.1).1 = "ClothWithMan"))) (fcC ⟨fo_C_10, fun h1 h2 => by cases h2⟩ fcN) x (ci, f, ty, fin) h
  · intro x
    have hh := mLook_all (l := ([] : List (Nat × (Int32 ⊕ Int64)))) (Q := fun x (v : Int32 ⊕ Int64) => (∀ w, v = .inl w → Cond.constant "ClothWithMan" x w ∈ lw_tbl) ∧ (∀ w, v = .inr w → Cond.constantLong "ClothWithMan" x w ∈ lw_tbl)) fcN x
    exact ⟨fun w h => (hh _ h).1 w rfl, fun w h => (hh _ h).2 w rfl⟩
  · exact fun x en h => mLook_all (Q := fun x en => mLink "ClothWithMan" x en ∧ mCtr l en ∧ (en.1.1 = 2 → en.2.2.2.2.2.2 = none)) (fcC ⟨li_C_102, c_Te_cut l, (fun h => by cases h)⟩ fcN) x en h
  · exact fun x kd h => mLook_all (Q := fun x kd => (kd = 95 ∧ Cond.fieldLink "ClothWithMan" x "ClothWithMan" "LIKENESSES" "[I" ∈ lw_tbl) ∨ (kd = 96 ∧ Cond.fieldLink "ClothWithMan" x "ClothWithMan" "APART_BOUNDS" "[I" ∈ lw_tbl)) fcN x kd h
  · exact fun x ci h => mLook_all (Q := fun x ci => ci ≠ 0 ∧ ∃ (C : String) (T : u_T) (N : Nat), mCl[ci]? = some (C, T, N) ∧ Cond.classLink "ClothWithMan" x C ∈ lw_tbl ∧ Cond.instantiable C N ∈ lw_tbl) fcN x ci h
set_option maxRecDepth 100000 in
theorem c_C_end (l : Launch) : mCtr l E_C_end := mCtr_of (P := P_C_end) (own := "ClothWithMan") mLay_ok rfl (by decide +kernel) rfl (ok_C_end l) (fun h => by cases h) (fun as σ pr rv σ' hF hpr hlv => by
  unfold E_C_end S_C_end at hF
  simp only [] at hF
  split at hF
  · cases hF
    obtain ⟨n, pcF, c1, s1, g1, g2, g3, g4⟩ := mF_inv (d_C_end _ σ)
    exact ⟨Nat.le_of_ble_eq_true rfl, (fun v h => by cases h; trivial), n, pcF, c1, s1, g1, ⟨mEnd_of (i := .ireturn) (P := P_C_end) (rets := [8]) rfl g2, bI_narrow _⟩, g3, g4⟩
  · cases hF
    exact (hpr _ rfl).elim)
/-! ClothWithMan.curve()I -/
noncomputable def v_C_curve  (σ : MSto) : Int32 := (v_Cu_read σ)
def p_C_curve  (σ : MSto) : Prop := (p_Cu_read σ)
noncomputable def e_C_curve  (σ : MSto) : MSto := (e_Te_cut 0 (e_Cu_read σ))
noncomputable def S_C_curve : List MV → MSto → Option Prop × Option MV × MSto := fun as σ => match as with
  | [.inr (.inr (some (12, 0)))] => (some (p_C_curve σ), some (mI (v_C_curve σ)), e_C_curve σ)
  | _ => (some False, none, σ)
noncomputable def E_C_curve : MEnt := ((1, 0, 12), (5, 114, 0, 0), S_C_curve, ((⟨"ClothWithMan", "curve", "()I"⟩ : MethodName), prog_1_method_4_code, 2, (some .int)))

def T_C_curve : Nat → Option (Instr × Nat × List Nat) := fun k => bif Nat.blt k 26 then (bif Nat.blt k 15 then (bif Nat.blt k 7 then (bif Nat.blt k 1 then (bif Nat.beq k 0 then some (.aload_n 0, 1, []) else none) else (bif Nat.blt k 4 then (bif Nat.beq k 1 then some (.getfield 19, 4, []) else none) else (bif Nat.beq k 4 then some (.getfield 106, 7, []) else none))) else (bif Nat.blt k 11 then (bif Nat.blt k 8 then (bif Nat.beq k 7 then some (.aload_n 0, 8, []) else none) else (bif Nat.beq k 8 then some (.getfield 10, 11, []) else none)) else (bif Nat.blt k 14 then (bif Nat.beq k 11 then some (.invokevirtual 110, 14, []) else none) else (bif Nat.beq k 14 then some (.istore_n 1, 15, []) else none)))) else (bif Nat.blt k 20 then (bif Nat.blt k 16 then (bif Nat.beq k 15 then some (.aload_n 0, 16, []) else none) else (bif Nat.blt k 19 then (bif Nat.beq k 16 then some (.getfield 10, 19, []) else none) else (bif Nat.beq k 19 then some (.iconst 0, 20, []) else none))) else (bif Nat.blt k 24 then (bif Nat.blt k 23 then (bif Nat.beq k 20 then some (.invokevirtual 102, 23, []) else none) else (bif Nat.beq k 23 then some (.pop, 24, []) else none)) else (bif Nat.blt k 25 then (bif Nat.beq k 24 then some (.iload_n 1, 25, []) else none) else (bif Nat.beq k 25 then some (.ireturn, 26, []) else none))))) else none
noncomputable def P_C_curve : MP := (T_C_curve, (fun k => mLook k [(10, (12, 0, (.object "ClothWithMan$Text"), true)), (19, (12, 1, (.object "ClothWithMan$Cloth"), true)), (106, (1, 0, (.object "ClothWithMan$Curve"), true))]), (fun k => mLook k []), (fun k => mLook k [(102, E_Te_cut), (110, E_Cu_read)]), (fun k => mLook k []), (fun k => mLook k []), (fun k => mLook k []), (fun k => mLook k []), (fun k => [25].any (Nat.beq k)), (5, 114, 0, 0), false, (fun _ => none))
set_option maxRecDepth 100000 in
set_option maxHeartbeats 4000000 in
theorem q_C_curve_e  (σ : MSto) (n : Nat) : mexe KT P_C_curve (n + 1) (0, [some (mR 12 0), none], [], σ, 0, 0) = mG (p_Cu_read σ) (some (25, [], [(mI (v_Cu_read σ))], (e_Te_cut 0 (e_Cu_read σ)), 0, 0)) := rfl
set_option maxRecDepth 100000 in
set_option maxHeartbeats 4000000 in
theorem d_C_curve  (σ : MSto) (hp : p_C_curve σ) : mW1 P_C_curve (0, [some (mR 12 0), none], [], σ, 0, 0) (mF [25] [mI (v_C_curve σ)] (e_C_curve σ) 0 0) := by
  refine mW1_eq (q_C_curve_e  _) ?_
  unfold p_C_curve at hp
  refine mTr_g hp ?_
  exact mTr_e (by decide) (congrArg (fun z => [mI z]) (Eq.symm (rfl))) (Eq.symm (rfl)) (by decide) (by decide)
theorem li_C_110 : mLink "ClothWithMan" 110 E_Cu_read := ⟨tw_2_7, tw_1_4, ⟨by decide, by decide⟩, by decide +kernel, Or.inl tw_2_4, (fun h => by cases h), (fun _ => ⟨tw_2_5, tw_2_6, TX1, 4, rfl⟩), (fun h => by cases h)⟩


theorem tk_C_curve : ∀ pc i nx tg, T_C_curve pc = some (i, nx, tg) → mOkB prog_1_method_4_code pc i nx tg = true := code_ok (N := 26) (fun k h => by unfold T_C_curve; rw [h]; rfl) (by decide +kernel)
theorem ok_C_curve (l : Launch) : mPOK l "ClothWithMan" prog_1_method_4_code P_C_curve := by
  refine ⟨tk_C_curve, ?_, ?_, ?_, (fun pc i nx tg kd _ h => by cases h), ?_, ?_, fun pc en h => by cases h⟩
  · intro x ci f ty fin h
    exact mLook_all (Q := fun x v => mFOK "ClothWithMan" x v.1 v.2.1 v.2.2.1 v.2.2.2 ∧ (v.2.2.2 = true → pIni P_C_curve = true → (Cond.fieldLink "ClothWithMan" x (((mCl[v.1]?).getD ("", fun _ => ("", "", "", false), 0)).2.1 v.2.1).1 (((mCl[v.1]?).getD ("", fun _ => ("", "", "", false), 0)).2.1 v.2.1).2.1 (((mCl[v.1]?).getD ("", fun _ => ("", "", "", false), 0)).2.1 v.2.1).2.2.1 ∈ lw_tbl ∧ (((mCl[v.1]?).getD ("", fun _ => ("", "", "", false), 0)).2.1 v.2.1).1 = "ClothWithMan"))) (fcC ⟨fo_C_10, fun h1 h2 => by cases h2⟩ (fcC ⟨fo_C_19, fun h1 h2 => by cases h2⟩ (fcC ⟨fo_C_106, fun h1 h2 => by cases h2⟩ fcN))) x (ci, f, ty, fin) h
  · intro x
    have hh := mLook_all (l := ([] : List (Nat × (Int32 ⊕ Int64)))) (Q := fun x (v : Int32 ⊕ Int64) => (∀ w, v = .inl w → Cond.constant "ClothWithMan" x w ∈ lw_tbl) ∧ (∀ w, v = .inr w → Cond.constantLong "ClothWithMan" x w ∈ lw_tbl)) fcN x
    exact ⟨fun w h => (hh _ h).1 w rfl, fun w h => (hh _ h).2 w rfl⟩
  · exact fun x en h => mLook_all (Q := fun x en => mLink "ClothWithMan" x en ∧ mCtr l en ∧ (en.1.1 = 2 → en.2.2.2.2.2.2 = none)) (fcC ⟨li_C_102, c_Te_cut l, (fun h => by cases h)⟩ (fcC ⟨li_C_110, c_Cu_read l, (fun h => by cases h)⟩ fcN)) x en h
  · exact fun x kd h => mLook_all (Q := fun x kd => (kd = 95 ∧ Cond.fieldLink "ClothWithMan" x "ClothWithMan" "LIKENESSES" "[I" ∈ lw_tbl) ∨ (kd = 96 ∧ Cond.fieldLink "ClothWithMan" x "ClothWithMan" "APART_BOUNDS" "[I" ∈ lw_tbl)) fcN x kd h
  · exact fun x ci h => mLook_all (Q := fun x ci => ci ≠ 0 ∧ ∃ (C : String) (T : u_T) (N : Nat), mCl[ci]? = some (C, T, N) ∧ Cond.classLink "ClothWithMan" x C ∈ lw_tbl ∧ Cond.instantiable C N ∈ lw_tbl) fcN x ci h
set_option maxRecDepth 100000 in
theorem c_C_curve (l : Launch) : mCtr l E_C_curve := mCtr_of (P := P_C_curve) (own := "ClothWithMan") mLay_ok rfl (by decide +kernel) rfl (ok_C_curve l) (fun h => by cases h) (fun as σ pr rv σ' hF hpr hlv => by
  unfold E_C_curve S_C_curve at hF
  simp only [] at hF
  split at hF
  · cases hF
    obtain ⟨n, pcF, c1, s1, g1, g2, g3, g4⟩ := mF_inv (d_C_curve σ (hpr _ rfl))
    exact ⟨Nat.le_of_ble_eq_true rfl, (fun v h => by cases h; trivial), n, pcF, c1, s1, g1, ⟨mEnd_of (i := .ireturn) (P := P_C_curve) (rets := [25]) rfl g2, rfl⟩, g3, g4⟩
  · cases hF
    exact (hpr _ rfl).elim)
/-! ClothWithMan.value(I)I -/
noncomputable def v_C_value (a1 : Int32) (σ : MSto) : Int32 := (if (v_C_isYear a1 σ) = 0 then (-1) else (v_Cu_at a1 σ))
def p_C_value (a1 : Int32) (σ : MSto) : Prop := (¬ ((v_C_isYear a1 σ) = 0) → (p_Cu_at a1 σ))
noncomputable def S_C_value : List MV → MSto → Option Prop × Option MV × MSto := fun as σ => match as with
  | [.inr (.inr (some (12, 0))), .inl a0] => (some (p_C_value a0 σ), some (mI (v_C_value a0 σ)), σ)
  | _ => (some False, none, σ)
noncomputable def E_C_value : MEnt := ((1, 1, 12), (2, 42, 0, 0), S_C_value, ((⟨"ClothWithMan", "value", "(I)I"⟩ : MethodName), prog_1_method_5_code, 2, (some .int)))

def T_C_value : Nat → Option (Instr × Nat × List Nat) := fun k => bif Nat.blt k 23 then (bif Nat.blt k 11 then (bif Nat.blt k 4 then (bif Nat.blt k 1 then (bif Nat.beq k 0 then some (.iload_n 1, 1, []) else none) else (bif Nat.beq k 1 then some (.invokestatic 116, 4, []) else none)) else (bif Nat.blt k 7 then (bif Nat.beq k 4 then some (.ifCond .eq 17, 7, [21]) else none) else (bif Nat.blt k 8 then (bif Nat.beq k 7 then some (.aload_n 0, 8, []) else none) else (bif Nat.beq k 8 then some (.getfield 19, 11, []) else none)))) else (bif Nat.blt k 18 then (bif Nat.blt k 14 then (bif Nat.beq k 11 then some (.getfield 106, 14, []) else none) else (bif Nat.blt k 15 then (bif Nat.beq k 14 then some (.iload_n 1, 15, []) else none) else (bif Nat.beq k 15 then some (.invokevirtual 119, 18, []) else none))) else (bif Nat.blt k 21 then (bif Nat.beq k 18 then some (.goto 4, 21, [22]) else none) else (bif Nat.blt k 22 then (bif Nat.beq k 21 then some (.iconst (-1), 22, []) else none) else (bif Nat.beq k 22 then some (.ireturn, 23, []) else none))))) else none
noncomputable def P_C_value : MP := (T_C_value, (fun k => mLook k [(19, (12, 1, (.object "ClothWithMan$Cloth"), true)), (106, (1, 0, (.object "ClothWithMan$Curve"), true))]), (fun k => mLook k []), (fun k => mLook k [(116, E_C_isYear), (119, E_Cu_at)]), (fun k => mLook k []), (fun k => mLook k []), (fun k => mLook k []), (fun k => mLook k []), (fun k => [22].any (Nat.beq k)), (2, 42, 0, 0), false, (fun _ => none))
set_option maxRecDepth 100000 in
set_option maxHeartbeats 4000000 in
theorem q_C_value_e (a1 : Int32) (σ : MSto) (n : Nat) : mexe KT P_C_value (n + 1) (0, [some (mR 12 0), some (mI a1)], [], σ, 0, 0) = mIf ((v_C_isYear a1 σ) = 0) (some (22, [], [(mI (-1))], σ, 0, 0)) (mG (p_Cu_at a1 σ) (some (22, [], [(mI (v_Cu_at a1 σ))], σ, 0, 0))) := rfl
set_option maxRecDepth 100000 in
set_option maxHeartbeats 4000000 in
theorem d_C_value (a1 : Int32) (σ : MSto) (hp : p_C_value a1 σ) : mW1 P_C_value (0, [some (mR 12 0), some (mI a1)], [], σ, 0, 0) (mF [22] [mI (v_C_value a1 σ)] σ 0 0) := by
  refine mW1_eq (q_C_value_e _ _) ?_
  unfold p_C_value at hp
  refine mTr_if (fun h0 => ?_) (fun h0 => ?_)
  · skip
    exact mTr_e (by decide) (congrArg (fun z => [mI z]) (Eq.symm (if_pos h0))) rfl (by decide) (by decide)
  · skip
    have hp := hp h0
    refine mTr_g hp ?_
    exact mTr_e (by decide) (congrArg (fun z => [mI z]) (Eq.symm (if_neg h0))) rfl (by decide) (by decide)

theorem li_C_116 : mLink "ClothWithMan" 116 E_C_isYear := ⟨tw_2_70, tw_1_1, ⟨by decide, by decide⟩, by decide +kernel, Or.inl tw_2_68, (fun _ => tw_2_69), (fun h => by cases h), (fun h => by cases h)⟩

theorem tk_C_value : ∀ pc i nx tg, T_C_value pc = some (i, nx, tg) → mOkB prog_1_method_5_code pc i nx tg = true := code_ok (N := 23) (fun k h => by unfold T_C_value; rw [h]; rfl) (by decide +kernel)
theorem ok_C_value (l : Launch) : mPOK l "ClothWithMan" prog_1_method_5_code P_C_value := by
  refine ⟨tk_C_value, ?_, ?_, ?_, (fun pc i nx tg kd _ h => by cases h), ?_, ?_, fun pc en h => by cases h⟩
  · intro x ci f ty fin h
    exact mLook_all (Q := fun x v => mFOK "ClothWithMan" x v.1 v.2.1 v.2.2.1 v.2.2.2 ∧ (v.2.2.2 = true → pIni P_C_value = true → (Cond.fieldLink "ClothWithMan" x (((mCl[v.1]?).getD ("", fun _ => ("", "", "", false), 0)).2.1 v.2.1).1 (((mCl[v.1]?).getD ("", fun _ => ("", "", "", false), 0)).2.1 v.2.1).2.1 (((mCl[v.1]?).getD ("", fun _ => ("", "", "", false), 0)).2.1 v.2.1).2.2.1 ∈ lw_tbl ∧ (((mCl[v.1]?).getD ("", fun _ => ("", "", "", false), 0)).2.1 v.2.1).1 = "ClothWithMan"))) (fcC ⟨fo_C_19, fun h1 h2 => by cases h2⟩ (fcC ⟨fo_C_106, fun h1 h2 => by cases h2⟩ fcN)) x (ci, f, ty, fin) h
  · intro x
    have hh := mLook_all (l := ([] : List (Nat × (Int32 ⊕ Int64)))) (Q := fun x (v : Int32 ⊕ Int64) => (∀ w, v = .inl w → Cond.constant "ClothWithMan" x w ∈ lw_tbl) ∧ (∀ w, v = .inr w → Cond.constantLong "ClothWithMan" x w ∈ lw_tbl)) fcN x
    exact ⟨fun w h => (hh _ h).1 w rfl, fun w h => (hh _ h).2 w rfl⟩
  · exact fun x en h => mLook_all (Q := fun x en => mLink "ClothWithMan" x en ∧ mCtr l en ∧ (en.1.1 = 2 → en.2.2.2.2.2.2 = none)) (fcC ⟨li_C_116, c_C_isYear l, (fun h => by cases h)⟩ (fcC ⟨li_C_119, c_Cu_at l, (fun h => by cases h)⟩ fcN)) x en h
  · exact fun x kd h => mLook_all (Q := fun x kd => (kd = 95 ∧ Cond.fieldLink "ClothWithMan" x "ClothWithMan" "LIKENESSES" "[I" ∈ lw_tbl) ∨ (kd = 96 ∧ Cond.fieldLink "ClothWithMan" x "ClothWithMan" "APART_BOUNDS" "[I" ∈ lw_tbl)) fcN x kd h
  · exact fun x ci h => mLook_all (Q := fun x ci => ci ≠ 0 ∧ ∃ (C : String) (T : u_T) (N : Nat), mCl[ci]? = some (C, T, N) ∧ Cond.classLink "ClothWithMan" x C ∈ lw_tbl ∧ Cond.instantiable C N ∈ lw_tbl) fcN x ci h
set_option maxRecDepth 100000 in
theorem c_C_value (l : Launch) : mCtr l E_C_value := mCtr_of (P := P_C_value) (own := "ClothWithMan") mLay_ok rfl (by decide +kernel) rfl (ok_C_value l) (fun h => by cases h) (fun as σ pr rv σ' hF hpr hlv => by
  unfold E_C_value S_C_value at hF
  simp only [] at hF
  split at hF
  · cases hF
    obtain ⟨n, pcF, c1, s1, g1, g2, g3, g4⟩ := mF_inv (d_C_value _ σ (hpr _ rfl))
    exact ⟨Nat.le_of_ble_eq_true rfl, (fun v h => by cases h; trivial), n, pcF, c1, s1, g1, ⟨mEnd_of (i := .ireturn) (P := P_C_value) (rets := [22]) rfl g2, rfl⟩, g3, g4⟩
  · cases hF
    exact (hpr _ rfl).elim)
/-! ClothWithMan.woven(I)I -/
noncomputable def v_C_woven (a1 : Int32) (σ : MSto) : Int32 := (if (v_C_isYear a1 σ) = 0 then (-1) else (gI σ 1 0 1))
noncomputable def e_C_woven (a1 : Int32) (σ : MSto) : MSto := (if (v_C_isYear a1 σ) = 0 then σ else (sI σ 1 0 1 a1))
noncomputable def S_C_woven : List MV → MSto → Option Prop × Option MV × MSto := fun as σ => match as with
  | [.inr (.inr (some (12, 0))), .inl a0] => (none, some (mI (v_C_woven a0 σ)), e_C_woven a0 σ)
  | _ => (some False, none, σ)
noncomputable def E_C_woven : MEnt := ((1, 1, 12), (2, 42, 0, 0), S_C_woven, ((⟨"ClothWithMan", "woven", "(I)I"⟩ : MethodName), prog_1_method_6_code, 3, (some .int)))

def T_C_woven : Nat → Option (Instr × Nat × List Nat) := fun k => bif Nat.blt k 27 then (bif Nat.blt k 13 then (bif Nat.blt k 7 then (bif Nat.blt k 1 then (bif Nat.beq k 0 then some (.iload_n 1, 1, []) else none) else (bif Nat.blt k 4 then (bif Nat.beq k 1 then some (.invokestatic 116, 4, []) else none) else (bif Nat.beq k 4 then some (.ifCond .ne 5, 7, [9]) else none))) else (bif Nat.blt k 9 then (bif Nat.blt k 8 then (bif Nat.beq k 7 then some (.iconst (-1), 8, []) else none) else (bif Nat.beq k 8 then some (.ireturn, 9, []) else none)) else (bif Nat.blt k 10 then (bif Nat.beq k 9 then some (.aload_n 0, 10, []) else none) else (bif Nat.beq k 10 then some (.getfield 19, 13, []) else none)))) else (bif Nat.blt k 21 then (bif Nat.blt k 17 then (bif Nat.blt k 16 then (bif Nat.beq k 13 then some (.getfield 122, 16, []) else none) else (bif Nat.beq k 16 then some (.istore_n 2, 17, []) else none)) else (bif Nat.blt k 18 then (bif Nat.beq k 17 then some (.aload_n 0, 18, []) else none) else (bif Nat.beq k 18 then some (.getfield 19, 21, []) else none))) else (bif Nat.blt k 25 then (bif Nat.blt k 22 then (bif Nat.beq k 21 then some (.iload_n 1, 22, []) else none) else (bif Nat.beq k 22 then some (.putfield 122, 25, []) else none)) else (bif Nat.blt k 26 then (bif Nat.beq k 25 then some (.iload_n 2, 26, []) else none) else (bif Nat.beq k 26 then some (.ireturn, 27, []) else none))))) else none
noncomputable def P_C_woven : MP := (T_C_woven, (fun k => mLook k [(19, (12, 1, (.object "ClothWithMan$Cloth"), true)), (122, (1, 1, .int, false))]), (fun k => mLook k []), (fun k => mLook k [(116, E_C_isYear)]), (fun k => mLook k []), (fun k => mLook k []), (fun k => mLook k []), (fun k => mLook k []), (fun k => [8, 26].any (Nat.beq k)), (2, 42, 0, 0), false, (fun _ => none))
set_option maxRecDepth 100000 in
set_option maxHeartbeats 4000000 in
theorem q_C_woven_e (a1 : Int32) (σ : MSto) (n : Nat) : mexe KT P_C_woven (n + 1) (0, [some (mR 12 0), some (mI a1), none], [], σ, 0, 0) = mIf ((v_C_isYear a1 σ) = 0) (some (8, [], [(mI (-1))], σ, 0, 0)) (some (26, [], [(mI (gI σ 1 0 1))], (sI σ 1 0 1 a1), 0, 0)) := rfl
set_option maxRecDepth 100000 in
set_option maxHeartbeats 4000000 in
theorem d_C_woven (a1 : Int32) (σ : MSto) : mW1 P_C_woven (0, [some (mR 12 0), some (mI a1), none], [], σ, 0, 0) (mF [8, 26] [mI (v_C_woven a1 σ)] (e_C_woven a1 σ) 0 0) := by
  refine mW1_eq (q_C_woven_e _ _) ?_
  refine mTr_if (fun h0 => ?_) (fun h0 => ?_)
  · skip
    exact mTr_e (by decide) (congrArg (fun z => [mI z]) (Eq.symm (if_pos h0))) (Eq.symm (if_pos h0)) (by decide) (by decide)
  · skip
    exact mTr_e (by decide) (congrArg (fun z => [mI z]) (Eq.symm (if_neg h0))) (Eq.symm (if_neg h0)) (by decide) (by decide)

theorem tk_C_woven : ∀ pc i nx tg, T_C_woven pc = some (i, nx, tg) → mOkB prog_1_method_6_code pc i nx tg = true := code_ok (N := 27) (fun k h => by unfold T_C_woven; rw [h]; rfl) (by decide +kernel)
theorem ok_C_woven (l : Launch) : mPOK l "ClothWithMan" prog_1_method_6_code P_C_woven := by
  refine ⟨tk_C_woven, ?_, ?_, ?_, (fun pc i nx tg kd _ h => by cases h), ?_, ?_, fun pc en h => by cases h⟩
  · intro x ci f ty fin h
    exact mLook_all (Q := fun x v => mFOK "ClothWithMan" x v.1 v.2.1 v.2.2.1 v.2.2.2 ∧ (v.2.2.2 = true → pIni P_C_woven = true → (Cond.fieldLink "ClothWithMan" x (((mCl[v.1]?).getD ("", fun _ => ("", "", "", false), 0)).2.1 v.2.1).1 (((mCl[v.1]?).getD ("", fun _ => ("", "", "", false), 0)).2.1 v.2.1).2.1 (((mCl[v.1]?).getD ("", fun _ => ("", "", "", false), 0)).2.1 v.2.1).2.2.1 ∈ lw_tbl ∧ (((mCl[v.1]?).getD ("", fun _ => ("", "", "", false), 0)).2.1 v.2.1).1 = "ClothWithMan"))) (fcC ⟨fo_C_19, fun h1 h2 => by cases h2⟩ (fcC ⟨fo_C_122, fun h1 h2 => by cases h1⟩ fcN)) x (ci, f, ty, fin) h
  · intro x
    have hh := mLook_all (l := ([] : List (Nat × (Int32 ⊕ Int64)))) (Q := fun x (v : Int32 ⊕ Int64) => (∀ w, v = .inl w → Cond.constant "ClothWithMan" x w ∈ lw_tbl) ∧ (∀ w, v = .inr w → Cond.constantLong "ClothWithMan" x w ∈ lw_tbl)) fcN x
    exact ⟨fun w h => (hh _ h).1 w rfl, fun w h => (hh _ h).2 w rfl⟩
  · exact fun x en h => mLook_all (Q := fun x en => mLink "ClothWithMan" x en ∧ mCtr l en ∧ (en.1.1 = 2 → en.2.2.2.2.2.2 = none)) (fcC ⟨li_C_116, c_C_isYear l, (fun h => by cases h)⟩ fcN) x en h
  · exact fun x kd h => mLook_all (Q := fun x kd => (kd = 95 ∧ Cond.fieldLink "ClothWithMan" x "ClothWithMan" "LIKENESSES" "[I" ∈ lw_tbl) ∨ (kd = 96 ∧ Cond.fieldLink "ClothWithMan" x "ClothWithMan" "APART_BOUNDS" "[I" ∈ lw_tbl)) fcN x kd h
  · exact fun x ci h => mLook_all (Q := fun x ci => ci ≠ 0 ∧ ∃ (C : String) (T : u_T) (N : Nat), mCl[ci]? = some (C, T, N) ∧ Cond.classLink "ClothWithMan" x C ∈ lw_tbl ∧ Cond.instantiable C N ∈ lw_tbl) fcN x ci h
set_option maxRecDepth 100000 in
theorem c_C_woven (l : Launch) : mCtr l E_C_woven := mCtr_of (P := P_C_woven) (own := "ClothWithMan") mLay_ok rfl (by decide +kernel) rfl (ok_C_woven l) (fun h => by cases h) (fun as σ pr rv σ' hF hpr hlv => by
  unfold E_C_woven S_C_woven at hF
  simp only [] at hF
  split at hF
  · cases hF
    obtain ⟨n, pcF, c1, s1, g1, g2, g3, g4⟩ := mF_inv (d_C_woven _ σ)
    exact ⟨Nat.le_of_ble_eq_true rfl, (fun v h => by cases h; trivial), n, pcF, c1, s1, g1, ⟨mEnd_of (i := .ireturn) (P := P_C_woven) (rets := [8, 26]) rfl g2, rfl⟩, g3, g4⟩
  · cases hF
    exact (hpr _ rfl).elim)
/-! ClothWithMan.mend(IIIII)I -/
noncomputable def v_C_mend (a1 : Int32) (a2 : Int32) (a3 : Int32) (a4 : Int32) (a5 : Int32) (σ : MSto) : Int32 := (if (v_C_isPart a1 a3 24 σ) = 0 then (-1) else (if (v_C_isPart a2 a4 8 σ) = 0 then (-1) else (if (v_C_isYear a5 σ) = 0 then (-1) else (if (v_AL_size 17 0 σ) < 6 then ((v_AL_size 17 0 (e_AL_add 17 0 6 (gN σ 6) (e_Pt_init (gN σ 6) a1 a2 a3 a4 a5 0 (sNew σ 6)))) - 1) else (-1)))))
def p_C_mend (a1 : Int32) (a2 : Int32) (a3 : Int32) (a4 : Int32) (a5 : Int32) (σ : MSto) : Prop := (¬ ((v_C_isPart a1 a3 24 σ) = 0) → (¬ ((v_C_isPart a2 a4 8 σ) = 0) → (¬ ((v_C_isYear a5 σ) = 0) → (((v_AL_size 17 0 σ) < 6) → (p_AL_add 17 0 6 (gN σ 6) (e_Pt_init (gN σ 6) a1 a2 a3 a4 a5 0 (sNew σ 6)))))))
noncomputable def e_C_mend (a1 : Int32) (a2 : Int32) (a3 : Int32) (a4 : Int32) (a5 : Int32) (σ : MSto) : MSto := (if (v_C_isPart a1 a3 24 σ) = 0 then σ else (if (v_C_isPart a2 a4 8 σ) = 0 then σ else (if (v_C_isYear a5 σ) = 0 then σ else (if (v_AL_size 17 0 σ) < 6 then (e_AL_add 17 0 6 (gN σ 6) (e_Pt_init (gN σ 6) a1 a2 a3 a4 a5 0 (sNew σ 6))) else σ))))
noncomputable def S_C_mend : List MV → MSto → Option Prop × Option MV × MSto := fun as σ => match as with
  | [.inr (.inr (some (12, 0))), .inl a0, .inl a1, .inl a2, .inl a3, .inl a4] => (some (p_C_mend a0 a1 a2 a3 a4 σ), some (mI (v_C_mend a0 a1 a2 a3 a4 σ)), e_C_mend a0 a1 a2 a3 a4 σ)
  | _ => (some False, none, σ)
noncomputable def E_C_mend : MEnt := ((1, 5, 12), (11, 271, 2, 24), S_C_mend, ((⟨"ClothWithMan", "mend", "(IIIII)I"⟩ : MethodName), prog_1_method_7_code, 6, (some .int)))

def T_C_mend : Nat → Option (Instr × Nat × List Nat) := fun k => bif Nat.blt k 85 then (bif Nat.blt k 46 then (bif Nat.blt k 21 then (bif Nat.blt k 10 then (bif Nat.blt k 2 then (bif Nat.blt k 1 then (bif Nat.beq k 0 then some (.iload_n 1, 1, []) else none) else (bif Nat.beq k 1 then some (.iload_n 3, 2, []) else none)) else (bif Nat.blt k 4 then (bif Nat.beq k 2 then some (.bipush 24, 4, []) else none) else (bif Nat.blt k 7 then (bif Nat.beq k 4 then some (.invokestatic 125, 7, []) else none) else (bif Nat.beq k 7 then some (.ifCond .eq 37, 10, [44]) else none)))) else (bif Nat.blt k 13 then (bif Nat.blt k 11 then (bif Nat.beq k 10 then some (.iload_n 2, 11, []) else none) else (bif Nat.beq k 11 then some (.iload 4, 13, []) else none)) else (bif Nat.blt k 15 then (bif Nat.beq k 13 then some (.bipush 8, 15, []) else none) else (bif Nat.blt k 18 then (bif Nat.beq k 15 then some (.invokestatic 125, 18, []) else none) else (bif Nat.beq k 18 then some (.ifCond .eq 26, 21, [44]) else none))))) else (bif Nat.blt k 33 then (bif Nat.blt k 26 then (bif Nat.blt k 23 then (bif Nat.beq k 21 then some (.iload 5, 23, []) else none) else (bif Nat.beq k 23 then some (.invokestatic 116, 26, []) else none)) else (bif Nat.blt k 29 then (bif Nat.beq k 26 then some (.ifCond .eq 18, 29, [44]) else none) else (bif Nat.blt k 30 then (bif Nat.beq k 29 then some (.aload_n 0, 30, []) else none) else (bif Nat.beq k 30 then some (.getfield 19, 33, []) else none)))) else (bif Nat.blt k 41 then (bif Nat.blt k 36 then (bif Nat.beq k 33 then some (.getfield 129, 36, []) else none) else (bif Nat.blt k 39 then (bif Nat.beq k 36 then some (.invokevirtual 132, 39, []) else none) else (bif Nat.beq k 39 then some (.bipush 6, 41, []) else none))) else (bif Nat.blt k 44 then (bif Nat.beq k 41 then some (.if_icmp .lt 5, 44, [46]) else none) else (bif Nat.blt k 45 then (bif Nat.beq k 44 then some (.iconst (-1), 45, []) else none) else (bif Nat.beq k 45 then some (.ireturn, 46, []) else none)))))) else (bif Nat.blt k 64 then (bif Nat.blt k 57 then (bif Nat.blt k 50 then (bif Nat.blt k 47 then (bif Nat.beq k 46 then some (.aload_n 0, 47, []) else none) else (bif Nat.beq k 47 then some (.getfield 19, 50, []) else none)) else (bif Nat.blt k 53 then (bif Nat.beq k 50 then some (.getfield 129, 53, []) else none) else (bif Nat.blt k 56 then (bif Nat.beq k 53 then some (.new 136, 56, []) else none) else (bif Nat.beq k 56 then some (.dup, 57, []) else none)))) else (bif Nat.blt k 59 then (bif Nat.blt k 58 then (bif Nat.beq k 57 then some (.iload_n 1, 58, []) else none) else (bif Nat.beq k 58 then some (.iload_n 2, 59, []) else none)) else (bif Nat.blt k 60 then (bif Nat.beq k 59 then some (.iload_n 3, 60, []) else none) else (bif Nat.blt k 62 then (bif Nat.beq k 60 then some (.iload 4, 62, []) else none) else (bif Nat.beq k 62 then some (.iload 5, 64, []) else none))))) else (bif Nat.blt k 73 then (bif Nat.blt k 68 then (bif Nat.blt k 65 then (bif Nat.beq k 64 then some (.iconst 0, 65, []) else none) else (bif Nat.beq k 65 then some (.invokespecial 138, 68, []) else none)) else (bif Nat.blt k 71 then (bif Nat.beq k 68 then some (.invokevirtual 141, 71, []) else none) else (bif Nat.blt k 72 then (bif Nat.beq k 71 then some (.pop, 72, []) else none) else (bif Nat.beq k 72 then some (.aload_n 0, 73, []) else none)))) else (bif Nat.blt k 82 then (bif Nat.blt k 76 then (bif Nat.beq k 73 then some (.getfield 19, 76, []) else none) else (bif Nat.blt k 79 then (bif Nat.beq k 76 then some (.getfield 129, 79, []) else none) else (bif Nat.beq k 79 then some (.invokevirtual 132, 82, []) else none))) else (bif Nat.blt k 83 then (bif Nat.beq k 82 then some (.iconst 1, 83, []) else none) else (bif Nat.blt k 84 then (bif Nat.beq k 83 then some (.isub, 84, []) else none) else (bif Nat.beq k 84 then some (.ireturn, 85, []) else none))))))) else none
noncomputable def P_C_mend : MP := (T_C_mend, (fun k => mLook k [(19, (12, 1, (.object "ClothWithMan$Cloth"), true)), (129, (1, 2, (.object "java/util/ArrayList"), true))]), (fun k => mLook k []), (fun k => mLook k [(116, E_C_isYear), (125, E_C_isPart), (132, E_AL_size), (138, E_Pt_init), (141, E_AL_add)]), (fun k => mLook k [(53, 6)]), (fun k => mLook k []), (fun k => mLook k []), (fun k => mLook k []), (fun k => [45, 84].any (Nat.beq k)), (11, 271, 2, 24), false, (fun _ => none))
set_option maxRecDepth 100000 in
set_option maxHeartbeats 4000000 in
theorem q_C_mend_e (a1 : Int32) (a2 : Int32) (a3 : Int32) (a4 : Int32) (a5 : Int32) (σ : MSto) (n : Nat) : mexe KT P_C_mend (n + 1) (0, [some (mR 12 0), some (mI a1), some (mI a2), some (mI a3), some (mI a4), some (mI a5)], [], σ, 0, 0) = mIf ((v_C_isPart a1 a3 24 σ) = 0) (some (45, [], [(mI (-1))], σ, 0, 0)) (mIf ((v_C_isPart a2 a4 8 σ) = 0) (some (45, [], [(mI (-1))], σ, 0, 0)) (mIf ((v_C_isYear a5 σ) = 0) (some (45, [], [(mI (-1))], σ, 0, 0)) (mIf ((v_AL_size 17 0 σ) < 6) (mG (p_AL_add 17 0 6 (gN σ 6) (e_Pt_init (gN σ 6) a1 a2 a3 a4 a5 0 (sNew σ 6))) (some (84, [], [(mI ((v_AL_size 17 0 (e_AL_add 17 0 6 (gN σ 6) (e_Pt_init (gN σ 6) a1 a2 a3 a4 a5 0 (sNew σ 6)))) - 1))], (e_AL_add 17 0 6 (gN σ 6) (e_Pt_init (gN σ 6) a1 a2 a3 a4 a5 0 (sNew σ 6))), 2, 24))) (some (45, [], [(mI (-1))], σ, 0, 0))))) := rfl
set_option maxRecDepth 100000 in
set_option maxHeartbeats 4000000 in
theorem d_C_mend (a1 : Int32) (a2 : Int32) (a3 : Int32) (a4 : Int32) (a5 : Int32) (σ : MSto) (hp : p_C_mend a1 a2 a3 a4 a5 σ) : mW1 P_C_mend (0, [some (mR 12 0), some (mI a1), some (mI a2), some (mI a3), some (mI a4), some (mI a5)], [], σ, 0, 0) (mF [45, 84] [mI (v_C_mend a1 a2 a3 a4 a5 σ)] (e_C_mend a1 a2 a3 a4 a5 σ) 2 24) := by
  refine mW1_eq (q_C_mend_e _ _ _ _ _ _) ?_
  unfold p_C_mend at hp
  refine mTr_if (fun h0 => ?_) (fun h0 => ?_)
  · skip
    exact mTr_e (by decide) (congrArg (fun z => [mI z]) (Eq.symm (if_pos h0))) (Eq.symm (if_pos h0)) (by decide) (by decide)
  · skip
    have hp := hp h0
    refine mTr_if (fun h1 => ?_) (fun h1 => ?_)
    · skip
      exact mTr_e (by decide) (congrArg (fun z => [mI z]) (Eq.symm ((if_neg h0).trans (if_pos h1)))) (Eq.symm ((if_neg h0).trans (if_pos h1))) (by decide) (by decide)
    · skip
      have hp := hp h1
      refine mTr_if (fun h2 => ?_) (fun h2 => ?_)
      · skip
        exact mTr_e (by decide) (congrArg (fun z => [mI z]) (Eq.symm ((if_neg h0).trans ((if_neg h1).trans (if_pos h2))))) (Eq.symm ((if_neg h0).trans ((if_neg h1).trans (if_pos h2)))) (by decide) (by decide)
      · skip
        have hp := hp h2
        refine mTr_if (fun h3 => ?_) (fun h3 => ?_)
        · skip
          have hp := hp h3
          refine mTr_g hp ?_
          exact mTr_e (by decide) (congrArg (fun z => [mI z]) (Eq.symm ((if_neg h0).trans ((if_neg h1).trans ((if_neg h2).trans (if_pos h3)))))) (Eq.symm ((if_neg h0).trans ((if_neg h1).trans ((if_neg h2).trans (if_pos h3))))) (by decide) (by decide)
        · skip
          exact mTr_e (by decide) (congrArg (fun z => [mI z]) (Eq.symm ((if_neg h0).trans ((if_neg h1).trans ((if_neg h2).trans (if_neg h3)))))) (Eq.symm ((if_neg h0).trans ((if_neg h1).trans ((if_neg h2).trans (if_neg h3))))) (by decide) (by decide)
theorem li_C_141 : mLink "ClothWithMan" 141 E_AL_add := ⟨tw_2_121, tw_1_7, ⟨by decide, by decide⟩, by decide +kernel, Or.inl tw_2_118, (fun h => by cases h), (fun _ => ⟨tw_2_119, tw_2_120, TJx4a65c, 3, rfl⟩), (fun h => by cases h)⟩

theorem li_C_138 : mLink "ClothWithMan" 138 E_Pt_init := ⟨tw_2_95, tw_1_11, ⟨by decide, by decide⟩, by decide +kernel, Or.inl tw_2_93, (fun h => by cases h), (fun h => by cases h), (fun _ => ⟨tw_2_94, rfl⟩)⟩


theorem li_C_125 : mLink "ClothWithMan" 125 E_C_isPart := ⟨tw_2_86, tw_1_1, ⟨by decide, by decide⟩, by decide +kernel, Or.inl tw_2_84, (fun _ => tw_2_85), (fun h => by cases h), (fun h => by cases h)⟩


theorem tk_C_mend : ∀ pc i nx tg, T_C_mend pc = some (i, nx, tg) → mOkB prog_1_method_7_code pc i nx tg = true := code_ok (N := 85) (fun k h => by unfold T_C_mend; rw [h]; rfl) (by decide +kernel)
theorem al_C_mend : ∀ pc i nx tg kd, pCode P_C_mend pc = some (i, nx, tg) → pAlc P_C_mend pc = some kd → match i with
    | .new x => mAOK "ClothWithMan" x kd
    | .newarray t => mNAOK t kd
    | .anewarray x => mAAOK "ClothWithMan" x kd
    | .invokespecial x => Cond.methodLink "ClothWithMan" x Lib.objectInit ∈ lw_tbl
    | _ => True := by
  intro pc i nx tg kd h1 h2
  have h3 := mLook_mem h2
  simp only [List.mem_cons, Prod.mk.injEq, List.not_mem_nil, or_false] at h3
  rcases h3 with ⟨rfl, rfl⟩
  · have e : T_C_mend 53 = some (i, nx, tg) := h1
    cases e
    exact ⟨6, _, "ClothWithMan$Patch", TX5, rfl, by decide, rfl, tw_2_91, tw_2_92, tw_1_11, (lt_s (lt_s (lt_s (lt_s (lt_s (lt_s lt_0 ⟨.int, by decide +kernel, Or.inl ⟨rfl, rfl⟩⟩) ⟨.int, by decide +kernel, Or.inl ⟨rfl, rfl⟩⟩) ⟨.int, by decide +kernel, Or.inl ⟨rfl, rfl⟩⟩) ⟨.int, by decide +kernel, Or.inl ⟨rfl, rfl⟩⟩) ⟨.int, by decide +kernel, Or.inl ⟨rfl, rfl⟩⟩) ⟨.int, by decide +kernel, Or.inl ⟨rfl, rfl⟩⟩)⟩

theorem ok_C_mend (l : Launch) : mPOK l "ClothWithMan" prog_1_method_7_code P_C_mend := by
  refine ⟨tk_C_mend, ?_, ?_, ?_, al_C_mend, ?_, ?_, fun pc en h => by cases h⟩
  · intro x ci f ty fin h
    exact mLook_all (Q := fun x v => mFOK "ClothWithMan" x v.1 v.2.1 v.2.2.1 v.2.2.2 ∧ (v.2.2.2 = true → pIni P_C_mend = true → (Cond.fieldLink "ClothWithMan" x (((mCl[v.1]?).getD ("", fun _ => ("", "", "", false), 0)).2.1 v.2.1).1 (((mCl[v.1]?).getD ("", fun _ => ("", "", "", false), 0)).2.1 v.2.1).2.1 (((mCl[v.1]?).getD ("", fun _ => ("", "", "", false), 0)).2.1 v.2.1).2.2.1 ∈ lw_tbl ∧ (((mCl[v.1]?).getD ("", fun _ => ("", "", "", false), 0)).2.1 v.2.1).1 = "ClothWithMan"))) (fcC ⟨fo_C_19, fun h1 h2 => by cases h2⟩ (fcC ⟨fo_C_129, fun h1 h2 => by cases h2⟩ fcN)) x (ci, f, ty, fin) h
  · intro x
    have hh := mLook_all (l := ([] : List (Nat × (Int32 ⊕ Int64)))) (Q := fun x (v : Int32 ⊕ Int64) => (∀ w, v = .inl w → Cond.constant "ClothWithMan" x w ∈ lw_tbl) ∧ (∀ w, v = .inr w → Cond.constantLong "ClothWithMan" x w ∈ lw_tbl)) fcN x
    exact ⟨fun w h => (hh _ h).1 w rfl, fun w h => (hh _ h).2 w rfl⟩
  · exact fun x en h => mLook_all (Q := fun x en => mLink "ClothWithMan" x en ∧ mCtr l en ∧ (en.1.1 = 2 → en.2.2.2.2.2.2 = none)) (fcC ⟨li_C_116, c_C_isYear l, (fun h => by cases h)⟩ (fcC ⟨li_C_125, c_C_isPart l, (fun h => by cases h)⟩ (fcC ⟨li_C_132, c_AL_size l, (fun h => by cases h)⟩ (fcC ⟨li_C_138, c_Pt_init l, (fun _ => rfl)⟩ (fcC ⟨li_C_141, c_AL_add l, (fun h => by cases h)⟩ fcN))))) x en h
  · exact fun x kd h => mLook_all (Q := fun x kd => (kd = 95 ∧ Cond.fieldLink "ClothWithMan" x "ClothWithMan" "LIKENESSES" "[I" ∈ lw_tbl) ∨ (kd = 96 ∧ Cond.fieldLink "ClothWithMan" x "ClothWithMan" "APART_BOUNDS" "[I" ∈ lw_tbl)) fcN x kd h
  · exact fun x ci h => mLook_all (Q := fun x ci => ci ≠ 0 ∧ ∃ (C : String) (T : u_T) (N : Nat), mCl[ci]? = some (C, T, N) ∧ Cond.classLink "ClothWithMan" x C ∈ lw_tbl ∧ Cond.instantiable C N ∈ lw_tbl) fcN x ci h
set_option maxRecDepth 100000 in
theorem c_C_mend (l : Launch) : mCtr l E_C_mend := mCtr_of (P := P_C_mend) (own := "ClothWithMan") mLay_ok rfl (by decide +kernel) rfl (ok_C_mend l) (fun h => by cases h) (fun as σ pr rv σ' hF hpr hlv => by
  unfold E_C_mend S_C_mend at hF
  simp only [] at hF
  split at hF
  · cases hF
    obtain ⟨n, pcF, c1, s1, g1, g2, g3, g4⟩ := mF_inv (d_C_mend _ _ _ _ _ σ (hpr _ rfl))
    exact ⟨Nat.le_of_ble_eq_true rfl, (fun v h => by cases h; trivial), n, pcF, c1, s1, g1, ⟨mEnd_of (i := .ireturn) (P := P_C_mend) (rets := [45, 84]) rfl g2, rfl⟩, g3, g4⟩
  · cases hF
    exact (hpr _ rfl).elim)
/-! ClothWithMan.stuff(IIIIII)I -/
noncomputable def v_C_stuff (a1 : Int32) (a2 : Int32) (a3 : Int32) (a4 : Int32) (a5 : Int32) (a6 : Int32) (σ : MSto) : Int32 := (if (v_C_isPart a1 a3 24 σ) = 0 then (-1) else (if (v_C_isPart a2 a4 8 σ) = 0 then (-1) else (if (v_C_isYear a5 σ) = 0 then (-1) else (if (v_C_isIn a6 0 90 σ) = 0 then (-1) else (if (v_AL_size 18 0 σ) < 6 then ((v_AL_size 18 0 (e_AL_add 18 0 6 (gN σ 6) (e_Pt_init (gN σ 6) a1 a2 a3 a4 a5 a6 (sNew σ 6)))) - 1) else (-1))))))
def p_C_stuff (a1 : Int32) (a2 : Int32) (a3 : Int32) (a4 : Int32) (a5 : Int32) (a6 : Int32) (σ : MSto) : Prop := (¬ ((v_C_isPart a1 a3 24 σ) = 0) → (¬ ((v_C_isPart a2 a4 8 σ) = 0) → (¬ ((v_C_isYear a5 σ) = 0) → (¬ ((v_C_isIn a6 0 90 σ) = 0) → (((v_AL_size 18 0 σ) < 6) → (p_AL_add 18 0 6 (gN σ 6) (e_Pt_init (gN σ 6) a1 a2 a3 a4 a5 a6 (sNew σ 6))))))))
noncomputable def e_C_stuff (a1 : Int32) (a2 : Int32) (a3 : Int32) (a4 : Int32) (a5 : Int32) (a6 : Int32) (σ : MSto) : MSto := (if (v_C_isPart a1 a3 24 σ) = 0 then σ else (if (v_C_isPart a2 a4 8 σ) = 0 then σ else (if (v_C_isYear a5 σ) = 0 then σ else (if (v_C_isIn a6 0 90 σ) = 0 then σ else (if (v_AL_size 18 0 σ) < 6 then (e_AL_add 18 0 6 (gN σ 6) (e_Pt_init (gN σ 6) a1 a2 a3 a4 a5 a6 (sNew σ 6))) else σ)))))
noncomputable def S_C_stuff : List MV → MSto → Option Prop × Option MV × MSto := fun as σ => match as with
  | [.inr (.inr (some (12, 0))), .inl a0, .inl a1, .inl a2, .inl a3, .inl a4, .inl a5] => (some (p_C_stuff a0 a1 a2 a3 a4 a5 σ), some (mI (v_C_stuff a0 a1 a2 a3 a4 a5 σ)), e_C_stuff a0 a1 a2 a3 a4 a5 σ)
  | _ => (some False, none, σ)
noncomputable def E_C_stuff : MEnt := ((1, 6, 12), (11, 271, 2, 24), S_C_stuff, ((⟨"ClothWithMan", "stuff", "(IIIIII)I"⟩ : MethodName), prog_1_method_8_code, 7, (some .int)))

def T_C_stuff : Nat → Option (Instr × Nat × List Nat) := fun k => bif Nat.blt k 97 then (bif Nat.blt k 52 then (bif Nat.blt k 23 then (bif Nat.blt k 10 then (bif Nat.blt k 2 then (bif Nat.blt k 1 then (bif Nat.beq k 0 then some (.iload_n 1, 1, []) else none) else (bif Nat.beq k 1 then some (.iload_n 3, 2, []) else none)) else (bif Nat.blt k 4 then (bif Nat.beq k 2 then some (.bipush 24, 4, []) else none) else (bif Nat.blt k 7 then (bif Nat.beq k 4 then some (.invokestatic 125, 7, []) else none) else (bif Nat.beq k 7 then some (.ifCond .eq 48, 10, [55]) else none)))) else (bif Nat.blt k 15 then (bif Nat.blt k 11 then (bif Nat.beq k 10 then some (.iload_n 2, 11, []) else none) else (bif Nat.blt k 13 then (bif Nat.beq k 11 then some (.iload 4, 13, []) else none) else (bif Nat.beq k 13 then some (.bipush 8, 15, []) else none))) else (bif Nat.blt k 18 then (bif Nat.beq k 15 then some (.invokestatic 125, 18, []) else none) else (bif Nat.blt k 21 then (bif Nat.beq k 18 then some (.ifCond .eq 37, 21, [55]) else none) else (bif Nat.beq k 21 then some (.iload 5, 23, []) else none))))) else (bif Nat.blt k 37 then (bif Nat.blt k 31 then (bif Nat.blt k 26 then (bif Nat.beq k 23 then some (.invokestatic 116, 26, []) else none) else (bif Nat.blt k 29 then (bif Nat.beq k 26 then some (.ifCond .eq 29, 29, [55]) else none) else (bif Nat.beq k 29 then some (.iload 6, 31, []) else none))) else (bif Nat.blt k 32 then (bif Nat.beq k 31 then some (.iconst 0, 32, []) else none) else (bif Nat.blt k 34 then (bif Nat.beq k 32 then some (.bipush 90, 34, []) else none) else (bif Nat.beq k 34 then some (.invokestatic 145, 37, []) else none)))) else (bif Nat.blt k 44 then (bif Nat.blt k 40 then (bif Nat.beq k 37 then some (.ifCond .eq 18, 40, [55]) else none) else (bif Nat.blt k 41 then (bif Nat.beq k 40 then some (.aload_n 0, 41, []) else none) else (bif Nat.beq k 41 then some (.getfield 19, 44, []) else none))) else (bif Nat.blt k 47 then (bif Nat.beq k 44 then some (.getfield 148, 47, []) else none) else (bif Nat.blt k 50 then (bif Nat.beq k 47 then some (.invokevirtual 132, 50, []) else none) else (bif Nat.beq k 50 then some (.bipush 6, 52, []) else none)))))) else (bif Nat.blt k 73 then (bif Nat.blt k 64 then (bif Nat.blt k 57 then (bif Nat.blt k 55 then (bif Nat.beq k 52 then some (.if_icmp .lt 5, 55, [57]) else none) else (bif Nat.blt k 56 then (bif Nat.beq k 55 then some (.iconst (-1), 56, []) else none) else (bif Nat.beq k 56 then some (.ireturn, 57, []) else none))) else (bif Nat.blt k 58 then (bif Nat.beq k 57 then some (.aload_n 0, 58, []) else none) else (bif Nat.blt k 61 then (bif Nat.beq k 58 then some (.getfield 19, 61, []) else none) else (bif Nat.beq k 61 then some (.getfield 148, 64, []) else none)))) else (bif Nat.blt k 69 then (bif Nat.blt k 67 then (bif Nat.beq k 64 then some (.new 136, 67, []) else none) else (bif Nat.blt k 68 then (bif Nat.beq k 67 then some (.dup, 68, []) else none) else (bif Nat.beq k 68 then some (.iload_n 1, 69, []) else none))) else (bif Nat.blt k 70 then (bif Nat.beq k 69 then some (.iload_n 2, 70, []) else none) else (bif Nat.blt k 71 then (bif Nat.beq k 70 then some (.iload_n 3, 71, []) else none) else (bif Nat.beq k 71 then some (.iload 4, 73, []) else none))))) else (bif Nat.blt k 85 then (bif Nat.blt k 80 then (bif Nat.blt k 75 then (bif Nat.beq k 73 then some (.iload 5, 75, []) else none) else (bif Nat.blt k 77 then (bif Nat.beq k 75 then some (.iload 6, 77, []) else none) else (bif Nat.beq k 77 then some (.invokespecial 138, 80, []) else none))) else (bif Nat.blt k 83 then (bif Nat.beq k 80 then some (.invokevirtual 141, 83, []) else none) else (bif Nat.blt k 84 then (bif Nat.beq k 83 then some (.pop, 84, []) else none) else (bif Nat.beq k 84 then some (.aload_n 0, 85, []) else none)))) else (bif Nat.blt k 94 then (bif Nat.blt k 88 then (bif Nat.beq k 85 then some (.getfield 19, 88, []) else none) else (bif Nat.blt k 91 then (bif Nat.beq k 88 then some (.getfield 148, 91, []) else none) else (bif Nat.beq k 91 then some (.invokevirtual 132, 94, []) else none))) else (bif Nat.blt k 95 then (bif Nat.beq k 94 then some (.iconst 1, 95, []) else none) else (bif Nat.blt k 96 then (bif Nat.beq k 95 then some (.isub, 96, []) else none) else (bif Nat.beq k 96 then some (.ireturn, 97, []) else none))))))) else none
noncomputable def P_C_stuff : MP := (T_C_stuff, (fun k => mLook k [(19, (12, 1, (.object "ClothWithMan$Cloth"), true)), (148, (1, 3, (.object "java/util/ArrayList"), true))]), (fun k => mLook k []), (fun k => mLook k [(116, E_C_isYear), (125, E_C_isPart), (132, E_AL_size), (138, E_Pt_init), (141, E_AL_add), (145, E_C_isIn)]), (fun k => mLook k [(64, 6)]), (fun k => mLook k []), (fun k => mLook k []), (fun k => mLook k []), (fun k => [56, 96].any (Nat.beq k)), (11, 271, 2, 24), false, (fun _ => none))
set_option maxRecDepth 100000 in
set_option maxHeartbeats 4000000 in
theorem q_C_stuff_e (a1 : Int32) (a2 : Int32) (a3 : Int32) (a4 : Int32) (a5 : Int32) (a6 : Int32) (σ : MSto) (n : Nat) : mexe KT P_C_stuff (n + 1) (0, [some (mR 12 0), some (mI a1), some (mI a2), some (mI a3), some (mI a4), some (mI a5), some (mI a6)], [], σ, 0, 0) = mIf ((v_C_isPart a1 a3 24 σ) = 0) (some (56, [], [(mI (-1))], σ, 0, 0)) (mIf ((v_C_isPart a2 a4 8 σ) = 0) (some (56, [], [(mI (-1))], σ, 0, 0)) (mIf ((v_C_isYear a5 σ) = 0) (some (56, [], [(mI (-1))], σ, 0, 0)) (mIf ((v_C_isIn a6 0 90 σ) = 0) (some (56, [], [(mI (-1))], σ, 0, 0)) (mIf ((v_AL_size 18 0 σ) < 6) (mG (p_AL_add 18 0 6 (gN σ 6) (e_Pt_init (gN σ 6) a1 a2 a3 a4 a5 a6 (sNew σ 6))) (some (96, [], [(mI ((v_AL_size 18 0 (e_AL_add 18 0 6 (gN σ 6) (e_Pt_init (gN σ 6) a1 a2 a3 a4 a5 a6 (sNew σ 6)))) - 1))], (e_AL_add 18 0 6 (gN σ 6) (e_Pt_init (gN σ 6) a1 a2 a3 a4 a5 a6 (sNew σ 6))), 2, 24))) (some (56, [], [(mI (-1))], σ, 0, 0)))))) := rfl
set_option maxRecDepth 100000 in
set_option maxHeartbeats 4000000 in
theorem d_C_stuff (a1 : Int32) (a2 : Int32) (a3 : Int32) (a4 : Int32) (a5 : Int32) (a6 : Int32) (σ : MSto) (hp : p_C_stuff a1 a2 a3 a4 a5 a6 σ) : mW1 P_C_stuff (0, [some (mR 12 0), some (mI a1), some (mI a2), some (mI a3), some (mI a4), some (mI a5), some (mI a6)], [], σ, 0, 0) (mF [56, 96] [mI (v_C_stuff a1 a2 a3 a4 a5 a6 σ)] (e_C_stuff a1 a2 a3 a4 a5 a6 σ) 2 24) := by
  refine mW1_eq (q_C_stuff_e _ _ _ _ _ _ _) ?_
  unfold p_C_stuff at hp
  refine mTr_if (fun h0 => ?_) (fun h0 => ?_)
  · skip
    exact mTr_e (by decide) (congrArg (fun z => [mI z]) (Eq.symm (if_pos h0))) (Eq.symm (if_pos h0)) (by decide) (by decide)
  · skip
    have hp := hp h0
    refine mTr_if (fun h1 => ?_) (fun h1 => ?_)
    · skip
      exact mTr_e (by decide) (congrArg (fun z => [mI z]) (Eq.symm ((if_neg h0).trans (if_pos h1)))) (Eq.symm ((if_neg h0).trans (if_pos h1))) (by decide) (by decide)
    · skip
      have hp := hp h1
      refine mTr_if (fun h2 => ?_) (fun h2 => ?_)
      · skip
        exact mTr_e (by decide) (congrArg (fun z => [mI z]) (Eq.symm ((if_neg h0).trans ((if_neg h1).trans (if_pos h2))))) (Eq.symm ((if_neg h0).trans ((if_neg h1).trans (if_pos h2)))) (by decide) (by decide)
      · skip
        have hp := hp h2
        refine mTr_if (fun h3 => ?_) (fun h3 => ?_)
        · skip
          exact mTr_e (by decide) (congrArg (fun z => [mI z]) (Eq.symm ((if_neg h0).trans ((if_neg h1).trans ((if_neg h2).trans (if_pos h3)))))) (Eq.symm ((if_neg h0).trans ((if_neg h1).trans ((if_neg h2).trans (if_pos h3))))) (by decide) (by decide)
        · skip
          have hp := hp h3
          refine mTr_if (fun h4 => ?_) (fun h4 => ?_)
          · skip
            have hp := hp h4
            refine mTr_g hp ?_
            exact mTr_e (by decide) (congrArg (fun z => [mI z]) (Eq.symm ((if_neg h0).trans ((if_neg h1).trans ((if_neg h2).trans ((if_neg h3).trans (if_pos h4))))))) (Eq.symm ((if_neg h0).trans ((if_neg h1).trans ((if_neg h2).trans ((if_neg h3).trans (if_pos h4)))))) (by decide) (by decide)
          · skip
            exact mTr_e (by decide) (congrArg (fun z => [mI z]) (Eq.symm ((if_neg h0).trans ((if_neg h1).trans ((if_neg h2).trans ((if_neg h3).trans (if_neg h4))))))) (Eq.symm ((if_neg h0).trans ((if_neg h1).trans ((if_neg h2).trans ((if_neg h3).trans (if_neg h4)))))) (by decide) (by decide)






theorem tk_C_stuff : ∀ pc i nx tg, T_C_stuff pc = some (i, nx, tg) → mOkB prog_1_method_8_code pc i nx tg = true := code_ok (N := 97) (fun k h => by unfold T_C_stuff; rw [h]; rfl) (by decide +kernel)
theorem al_C_stuff : ∀ pc i nx tg kd, pCode P_C_stuff pc = some (i, nx, tg) → pAlc P_C_stuff pc = some kd → match i with
    | .new x => mAOK "ClothWithMan" x kd
    | .newarray t => mNAOK t kd
    | .anewarray x => mAAOK "ClothWithMan" x kd
    | .invokespecial x => Cond.methodLink "ClothWithMan" x Lib.objectInit ∈ lw_tbl
    | _ => True := by
  intro pc i nx tg kd h1 h2
  have h3 := mLook_mem h2
  simp only [List.mem_cons, Prod.mk.injEq, List.not_mem_nil, or_false] at h3
  rcases h3 with ⟨rfl, rfl⟩
  · have e : T_C_stuff 64 = some (i, nx, tg) := h1
    cases e
    exact ⟨6, _, "ClothWithMan$Patch", TX5, rfl, by decide, rfl, tw_2_91, tw_2_92, tw_1_11, (lt_s (lt_s (lt_s (lt_s (lt_s (lt_s lt_0 ⟨.int, by decide +kernel, Or.inl ⟨rfl, rfl⟩⟩) ⟨.int, by decide +kernel, Or.inl ⟨rfl, rfl⟩⟩) ⟨.int, by decide +kernel, Or.inl ⟨rfl, rfl⟩⟩) ⟨.int, by decide +kernel, Or.inl ⟨rfl, rfl⟩⟩) ⟨.int, by decide +kernel, Or.inl ⟨rfl, rfl⟩⟩) ⟨.int, by decide +kernel, Or.inl ⟨rfl, rfl⟩⟩)⟩

theorem ok_C_stuff (l : Launch) : mPOK l "ClothWithMan" prog_1_method_8_code P_C_stuff := by
  refine ⟨tk_C_stuff, ?_, ?_, ?_, al_C_stuff, ?_, ?_, fun pc en h => by cases h⟩
  · intro x ci f ty fin h
    exact mLook_all (Q := fun x v => mFOK "ClothWithMan" x v.1 v.2.1 v.2.2.1 v.2.2.2 ∧ (v.2.2.2 = true → pIni P_C_stuff = true → (Cond.fieldLink "ClothWithMan" x (((mCl[v.1]?).getD ("", fun _ => ("", "", "", false), 0)).2.1 v.2.1).1 (((mCl[v.1]?).getD ("", fun _ => ("", "", "", false), 0)).2.1 v.2.1).2.1 (((mCl[v.1]?).getD ("", fun _ => ("", "", "", false), 0)).2.1 v.2.1).2.2.1 ∈ lw_tbl ∧ (((mCl[v.1]?).getD ("", fun _ => ("", "", "", false), 0)).2.1 v.2.1).1 = "ClothWithMan"))) (fcC ⟨fo_C_19, fun h1 h2 => by cases h2⟩ (fcC ⟨fo_C_148, fun h1 h2 => by cases h2⟩ fcN)) x (ci, f, ty, fin) h
  · intro x
    have hh := mLook_all (l := ([] : List (Nat × (Int32 ⊕ Int64)))) (Q := fun x (v : Int32 ⊕ Int64) => (∀ w, v = .inl w → Cond.constant "ClothWithMan" x w ∈ lw_tbl) ∧ (∀ w, v = .inr w → Cond.constantLong "ClothWithMan" x w ∈ lw_tbl)) fcN x
    exact ⟨fun w h => (hh _ h).1 w rfl, fun w h => (hh _ h).2 w rfl⟩
  · exact fun x en h => mLook_all (Q := fun x en => mLink "ClothWithMan" x en ∧ mCtr l en ∧ (en.1.1 = 2 → en.2.2.2.2.2.2 = none)) (fcC ⟨li_C_116, c_C_isYear l, (fun h => by cases h)⟩ (fcC ⟨li_C_125, c_C_isPart l, (fun h => by cases h)⟩ (fcC ⟨li_C_132, c_AL_size l, (fun h => by cases h)⟩ (fcC ⟨li_C_138, c_Pt_init l, (fun _ => rfl)⟩ (fcC ⟨li_C_141, c_AL_add l, (fun h => by cases h)⟩ (fcC ⟨li_C_145, c_C_isIn l, (fun h => by cases h)⟩ fcN)))))) x en h
  · exact fun x kd h => mLook_all (Q := fun x kd => (kd = 95 ∧ Cond.fieldLink "ClothWithMan" x "ClothWithMan" "LIKENESSES" "[I" ∈ lw_tbl) ∨ (kd = 96 ∧ Cond.fieldLink "ClothWithMan" x "ClothWithMan" "APART_BOUNDS" "[I" ∈ lw_tbl)) fcN x kd h
  · exact fun x ci h => mLook_all (Q := fun x ci => ci ≠ 0 ∧ ∃ (C : String) (T : u_T) (N : Nat), mCl[ci]? = some (C, T, N) ∧ Cond.classLink "ClothWithMan" x C ∈ lw_tbl ∧ Cond.instantiable C N ∈ lw_tbl) fcN x ci h
set_option maxRecDepth 100000 in
theorem c_C_stuff (l : Launch) : mCtr l E_C_stuff := mCtr_of (P := P_C_stuff) (own := "ClothWithMan") mLay_ok rfl (by decide +kernel) rfl (ok_C_stuff l) (fun h => by cases h) (fun as σ pr rv σ' hF hpr hlv => by
  unfold E_C_stuff S_C_stuff at hF
  simp only [] at hF
  split at hF
  · cases hF
    obtain ⟨n, pcF, c1, s1, g1, g2, g3, g4⟩ := mF_inv (d_C_stuff _ _ _ _ _ _ σ (hpr _ rfl))
    exact ⟨Nat.le_of_ble_eq_true rfl, (fun v h => by cases h; trivial), n, pcF, c1, s1, g1, ⟨mEnd_of (i := .ireturn) (P := P_C_stuff) (rets := [56, 96]) rfl g2, rfl⟩, g3, g4⟩
  · cases hF
    exact (hpr _ rfl).elim)
/-! ClothWithMan.way(II)I -/
noncomputable def v_C_way (a1 : Int32) (a2 : Int32) (σ : MSto) : Int32 := (if (v_C_isIn a1 0 3 σ) = 0 then (-1) else (if (v_C_isIn a2 0 100 σ) = 0 then (-1) else (gI σ 34 0 (Int32.toNatClampNeg a1))))
def p_C_way (a1 : Int32) (a2 : Int32) (σ : MSto) : Prop := (¬ ((v_C_isIn a1 0 3 σ) = 0) → (¬ ((v_C_isIn a2 0 100 σ) = 0) → ((vp_in a1 4) ∧ (vp_in a1 4))))
noncomputable def e_C_way (a1 : Int32) (a2 : Int32) (σ : MSto) : MSto := (if (v_C_isIn a1 0 3 σ) = 0 then σ else (if (v_C_isIn a2 0 100 σ) = 0 then σ else (sI σ 34 0 (Int32.toNatClampNeg a1) a2)))
noncomputable def S_C_way : List MV → MSto → Option Prop × Option MV × MSto := fun as σ => match as with
  | [.inr (.inr (some (12, 0))), .inl a0, .inl a1] => (some (p_C_way a0 a1 σ), some (mI (v_C_way a0 a1 σ)), e_C_way a0 a1 σ)
  | _ => (some False, none, σ)
noncomputable def E_C_way : MEnt := ((1, 2, 12), (1, 22, 0, 0), S_C_way, ((⟨"ClothWithMan", "way", "(II)I"⟩ : MethodName), prog_1_method_9_code, 4, (some .int)))

def T_C_way : Nat → Option (Instr × Nat × List Nat) := fun k => bif Nat.blt k 43 then (bif Nat.blt k 22 then (bif Nat.blt k 10 then (bif Nat.blt k 3 then (bif Nat.blt k 1 then (bif Nat.beq k 0 then some (.iload_n 1, 1, []) else none) else (bif Nat.blt k 2 then (bif Nat.beq k 1 then some (.iconst 0, 2, []) else none) else (bif Nat.beq k 2 then some (.iconst 3, 3, []) else none))) else (bif Nat.blt k 6 then (bif Nat.beq k 3 then some (.invokestatic 145, 6, []) else none) else (bif Nat.blt k 9 then (bif Nat.beq k 6 then some (.ifCond .eq 13, 9, [19]) else none) else (bif Nat.beq k 9 then some (.iload_n 2, 10, []) else none)))) else (bif Nat.blt k 16 then (bif Nat.blt k 11 then (bif Nat.beq k 10 then some (.iconst 0, 11, []) else none) else (bif Nat.blt k 13 then (bif Nat.beq k 11 then some (.bipush 100, 13, []) else none) else (bif Nat.beq k 13 then some (.invokestatic 145, 16, []) else none))) else (bif Nat.blt k 20 then (bif Nat.blt k 19 then (bif Nat.beq k 16 then some (.ifCond .ne 5, 19, [21]) else none) else (bif Nat.beq k 19 then some (.iconst (-1), 20, []) else none)) else (bif Nat.blt k 21 then (bif Nat.beq k 20 then some (.ireturn, 21, []) else none) else (bif Nat.beq k 21 then some (.aload_n 0, 22, []) else none))))) else (bif Nat.blt k 32 then (bif Nat.blt k 29 then (bif Nat.blt k 25 then (bif Nat.beq k 22 then some (.getfield 19, 25, []) else none) else (bif Nat.blt k 28 then (bif Nat.beq k 25 then some (.getfield 151, 28, []) else none) else (bif Nat.beq k 28 then some (.iload_n 1, 29, []) else none))) else (bif Nat.blt k 30 then (bif Nat.beq k 29 then some (.iaload, 30, []) else none) else (bif Nat.blt k 31 then (bif Nat.beq k 30 then some (.istore_n 3, 31, []) else none) else (bif Nat.beq k 31 then some (.aload_n 0, 32, []) else none)))) else (bif Nat.blt k 39 then (bif Nat.blt k 35 then (bif Nat.beq k 32 then some (.getfield 19, 35, []) else none) else (bif Nat.blt k 38 then (bif Nat.beq k 35 then some (.getfield 151, 38, []) else none) else (bif Nat.beq k 38 then some (.iload_n 1, 39, []) else none))) else (bif Nat.blt k 41 then (bif Nat.blt k 40 then (bif Nat.beq k 39 then some (.iload_n 2, 40, []) else none) else (bif Nat.beq k 40 then some (.iastore, 41, []) else none)) else (bif Nat.blt k 42 then (bif Nat.beq k 41 then some (.iload_n 3, 42, []) else none) else (bif Nat.beq k 42 then some (.ireturn, 43, []) else none)))))) else none
noncomputable def P_C_way : MP := (T_C_way, (fun k => mLook k [(19, (12, 1, (.object "ClothWithMan$Cloth"), true)), (151, (1, 4, (.array .int), true))]), (fun k => mLook k []), (fun k => mLook k [(145, E_C_isIn)]), (fun k => mLook k []), (fun k => mLook k []), (fun k => mLook k []), (fun k => mLook k []), (fun k => [20, 42].any (Nat.beq k)), (1, 22, 0, 0), false, (fun _ => none))
set_option maxRecDepth 100000 in
set_option maxHeartbeats 4000000 in
theorem q_C_way_e (a1 : Int32) (a2 : Int32) (σ : MSto) (n : Nat) : mexe KT P_C_way (n + 1) (0, [some (mR 12 0), some (mI a1), some (mI a2), none], [], σ, 0, 0) = mIf ((v_C_isIn a1 0 3 σ) = 0) (some (20, [], [(mI (-1))], σ, 0, 0)) (mIf ((v_C_isIn a2 0 100 σ) = 0) (some (20, [], [(mI (-1))], σ, 0, 0)) (mG (vp_in a1 4) (mG (vp_in a1 4) (some (42, [], [(mI (gI σ 34 0 (Int32.toNatClampNeg a1)))], (sI σ 34 0 (Int32.toNatClampNeg a1) a2), 0, 0))))) := rfl
set_option maxRecDepth 100000 in
set_option maxHeartbeats 4000000 in
theorem d_C_way (a1 : Int32) (a2 : Int32) (σ : MSto) (hp : p_C_way a1 a2 σ) : mW1 P_C_way (0, [some (mR 12 0), some (mI a1), some (mI a2), none], [], σ, 0, 0) (mF [20, 42] [mI (v_C_way a1 a2 σ)] (e_C_way a1 a2 σ) 0 0) := by
  refine mW1_eq (q_C_way_e _ _ _) ?_
  unfold p_C_way at hp
  refine mTr_if (fun h0 => ?_) (fun h0 => ?_)
  · skip
    exact mTr_e (by decide) (congrArg (fun z => [mI z]) (Eq.symm (if_pos h0))) (Eq.symm (if_pos h0)) (by decide) (by decide)
  · skip
    have hp := hp h0
    refine mTr_if (fun h1 => ?_) (fun h1 => ?_)
    · skip
      exact mTr_e (by decide) (congrArg (fun z => [mI z]) (Eq.symm ((if_neg h0).trans (if_pos h1)))) (Eq.symm ((if_neg h0).trans (if_pos h1))) (by decide) (by decide)
    · skip
      have hp := hp h1
      refine mTr_g hp.1 ?_
      have hp := hp.2
      refine mTr_g hp ?_
      exact mTr_e (by decide) (congrArg (fun z => [mI z]) (Eq.symm ((if_neg h0).trans (if_neg h1)))) (Eq.symm ((if_neg h0).trans (if_neg h1))) (by decide) (by decide)

theorem tk_C_way : ∀ pc i nx tg, T_C_way pc = some (i, nx, tg) → mOkB prog_1_method_9_code pc i nx tg = true := code_ok (N := 43) (fun k h => by unfold T_C_way; rw [h]; rfl) (by decide +kernel)
theorem ok_C_way (l : Launch) : mPOK l "ClothWithMan" prog_1_method_9_code P_C_way := by
  refine ⟨tk_C_way, ?_, ?_, ?_, (fun pc i nx tg kd _ h => by cases h), ?_, ?_, fun pc en h => by cases h⟩
  · intro x ci f ty fin h
    exact mLook_all (Q := fun x v => mFOK "ClothWithMan" x v.1 v.2.1 v.2.2.1 v.2.2.2 ∧ (v.2.2.2 = true → pIni P_C_way = true → (Cond.fieldLink "ClothWithMan" x (((mCl[v.1]?).getD ("", fun _ => ("", "", "", false), 0)).2.1 v.2.1).1 (((mCl[v.1]?).getD ("", fun _ => ("", "", "", false), 0)).2.1 v.2.1).2.1 (((mCl[v.1]?).getD ("", fun _ => ("", "", "", false), 0)).2.1 v.2.1).2.2.1 ∈ lw_tbl ∧ (((mCl[v.1]?).getD ("", fun _ => ("", "", "", false), 0)).2.1 v.2.1).1 = "ClothWithMan"))) (fcC ⟨fo_C_19, fun h1 h2 => by cases h2⟩ (fcC ⟨fo_C_151, fun h1 h2 => by cases h2⟩ fcN)) x (ci, f, ty, fin) h
  · intro x
    have hh := mLook_all (l := ([] : List (Nat × (Int32 ⊕ Int64)))) (Q := fun x (v : Int32 ⊕ Int64) => (∀ w, v = .inl w → Cond.constant "ClothWithMan" x w ∈ lw_tbl) ∧ (∀ w, v = .inr w → Cond.constantLong "ClothWithMan" x w ∈ lw_tbl)) fcN x
    exact ⟨fun w h => (hh _ h).1 w rfl, fun w h => (hh _ h).2 w rfl⟩
  · exact fun x en h => mLook_all (Q := fun x en => mLink "ClothWithMan" x en ∧ mCtr l en ∧ (en.1.1 = 2 → en.2.2.2.2.2.2 = none)) (fcC ⟨li_C_145, c_C_isIn l, (fun h => by cases h)⟩ fcN) x en h
  · exact fun x kd h => mLook_all (Q := fun x kd => (kd = 95 ∧ Cond.fieldLink "ClothWithMan" x "ClothWithMan" "LIKENESSES" "[I" ∈ lw_tbl) ∨ (kd = 96 ∧ Cond.fieldLink "ClothWithMan" x "ClothWithMan" "APART_BOUNDS" "[I" ∈ lw_tbl)) fcN x kd h
  · exact fun x ci h => mLook_all (Q := fun x ci => ci ≠ 0 ∧ ∃ (C : String) (T : u_T) (N : Nat), mCl[ci]? = some (C, T, N) ∧ Cond.classLink "ClothWithMan" x C ∈ lw_tbl ∧ Cond.instantiable C N ∈ lw_tbl) fcN x ci h
set_option maxRecDepth 100000 in
theorem c_C_way (l : Launch) : mCtr l E_C_way := mCtr_of (P := P_C_way) (own := "ClothWithMan") mLay_ok rfl (by decide +kernel) rfl (ok_C_way l) (fun h => by cases h) (fun as σ pr rv σ' hF hpr hlv => by
  unfold E_C_way S_C_way at hF
  simp only [] at hF
  split at hF
  · cases hF
    obtain ⟨n, pcF, c1, s1, g1, g2, g3, g4⟩ := mF_inv (d_C_way _ _ σ (hpr _ rfl))
    exact ⟨Nat.le_of_ble_eq_true rfl, (fun v h => by cases h; trivial), n, pcF, c1, s1, g1, ⟨mEnd_of (i := .ireturn) (P := P_C_way) (rets := [20, 42]) rfl g2, rfl⟩, g3, g4⟩
  · cases hF
    exact (hpr _ rfl).elim)
/-! ClothWithMan.house(III)Z -/
def b_C_house (a1 : Int32) (a2 : Int32) (a3 : Int32) (σ : MSto) : Prop := (if (v_C_isIn a1 0 5 σ) = 0 then False else (if (v_C_isIn a2 (-50) 50 σ) = 0 then False else (if (v_C_isSpan a3 σ) = 0 then False else True)))
noncomputable def v_C_house (a1 : Int32) (a2 : Int32) (a3 : Int32) (σ : MSto) : Int32 := bI (b_C_house a1 a2 a3 σ)
def p_C_house (a1 : Int32) (a2 : Int32) (a3 : Int32) (σ : MSto) : Prop := (¬ ((v_C_isIn a1 0 5 σ) = 0) → (¬ ((v_C_isIn a2 (-50) 50 σ) = 0) → (¬ ((v_C_isSpan a3 σ) = 0) → ((vp_in a1 6) ∧ (vp_in a1 6)))))
noncomputable def e_C_house (a1 : Int32) (a2 : Int32) (a3 : Int32) (σ : MSto) : MSto := (if (v_C_isIn a1 0 5 σ) = 0 then σ else (if (v_C_isIn a2 (-50) 50 σ) = 0 then σ else (if (v_C_isSpan a3 σ) = 0 then σ else (sI (sI σ 20 0 (Int32.toNatClampNeg a1) a2) 21 0 (Int32.toNatClampNeg a1) a3))))
noncomputable def S_C_house : List MV → MSto → Option Prop × Option MV × MSto := fun as σ => match as with
  | [.inr (.inr (some (12, 0))), .inl a0, .inl a1, .inl a2] => (some (p_C_house a0 a1 a2 σ), some (mI (v_C_house a0 a1 a2 σ)), e_C_house a0 a1 a2 σ)
  | _ => (some False, none, σ)
noncomputable def E_C_house : MEnt := ((1, 3, 12), (2, 42, 0, 0), S_C_house, ((⟨"ClothWithMan", "house", "(III)Z"⟩ : MethodName), prog_1_method_10_code, 4, (some .boolean)))

def T_C_house : Nat → Option (Instr × Nat × List Nat) := fun k => bif Nat.blt k 45 then (bif Nat.blt k 27 then (bif Nat.blt k 10 then (bif Nat.blt k 3 then (bif Nat.blt k 1 then (bif Nat.beq k 0 then some (.iload_n 1, 1, []) else none) else (bif Nat.blt k 2 then (bif Nat.beq k 1 then some (.iconst 0, 2, []) else none) else (bif Nat.beq k 2 then some (.iconst 5, 3, []) else none))) else (bif Nat.blt k 6 then (bif Nat.beq k 3 then some (.invokestatic 145, 6, []) else none) else (bif Nat.blt k 9 then (bif Nat.beq k 6 then some (.ifCond .eq 21, 9, [27]) else none) else (bif Nat.beq k 9 then some (.iload_n 2, 10, []) else none)))) else (bif Nat.blt k 17 then (bif Nat.blt k 12 then (bif Nat.beq k 10 then some (.bipush (-50), 12, []) else none) else (bif Nat.blt k 14 then (bif Nat.beq k 12 then some (.bipush 50, 14, []) else none) else (bif Nat.beq k 14 then some (.invokestatic 145, 17, []) else none))) else (bif Nat.blt k 21 then (bif Nat.blt k 20 then (bif Nat.beq k 17 then some (.ifCond .eq 10, 20, [27]) else none) else (bif Nat.beq k 20 then some (.iload_n 3, 21, []) else none)) else (bif Nat.blt k 24 then (bif Nat.beq k 21 then some (.invokestatic 154, 24, []) else none) else (bif Nat.beq k 24 then some (.ifCond .ne 5, 27, [29]) else none))))) else (bif Nat.blt k 36 then (bif Nat.blt k 30 then (bif Nat.blt k 28 then (bif Nat.beq k 27 then some (.iconst 0, 28, []) else none) else (bif Nat.blt k 29 then (bif Nat.beq k 28 then some (.ireturn, 29, []) else none) else (bif Nat.beq k 29 then some (.aload_n 0, 30, []) else none))) else (bif Nat.blt k 34 then (bif Nat.blt k 33 then (bif Nat.beq k 30 then some (.getfield 23, 33, []) else none) else (bif Nat.beq k 33 then some (.iload_n 1, 34, []) else none)) else (bif Nat.blt k 35 then (bif Nat.beq k 34 then some (.iload_n 2, 35, []) else none) else (bif Nat.beq k 35 then some (.iastore, 36, []) else none)))) else (bif Nat.blt k 41 then (bif Nat.blt k 37 then (bif Nat.beq k 36 then some (.aload_n 0, 37, []) else none) else (bif Nat.blt k 40 then (bif Nat.beq k 37 then some (.getfield 27, 40, []) else none) else (bif Nat.beq k 40 then some (.iload_n 1, 41, []) else none))) else (bif Nat.blt k 43 then (bif Nat.blt k 42 then (bif Nat.beq k 41 then some (.iload_n 3, 42, []) else none) else (bif Nat.beq k 42 then some (.iastore, 43, []) else none)) else (bif Nat.blt k 44 then (bif Nat.beq k 43 then some (.iconst 1, 44, []) else none) else (bif Nat.beq k 44 then some (.ireturn, 45, []) else none)))))) else none
noncomputable def P_C_house : MP := (T_C_house, (fun k => mLook k [(23, (12, 2, (.array .int), true)), (27, (12, 3, (.array .int), true))]), (fun k => mLook k []), (fun k => mLook k [(145, E_C_isIn), (154, E_C_isSpan)]), (fun k => mLook k []), (fun k => mLook k []), (fun k => mLook k []), (fun k => mLook k []), (fun k => [28, 44].any (Nat.beq k)), (2, 42, 0, 0), false, (fun _ => none))
set_option maxRecDepth 100000 in
set_option maxHeartbeats 4000000 in
theorem q_C_house_e (a1 : Int32) (a2 : Int32) (a3 : Int32) (σ : MSto) (n : Nat) : mexe KT P_C_house (n + 1) (0, [some (mR 12 0), some (mI a1), some (mI a2), some (mI a3)], [], σ, 0, 0) = mIf ((v_C_isIn a1 0 5 σ) = 0) (some (28, [], [(mI 0)], σ, 0, 0)) (mIf ((v_C_isIn a2 (-50) 50 σ) = 0) (some (28, [], [(mI 0)], σ, 0, 0)) (mIf ((v_C_isSpan a3 σ) = 0) (some (28, [], [(mI 0)], σ, 0, 0)) (mG (vp_in a1 6) (mG (vp_in a1 6) (some (44, [], [(mI 1)], (sI (sI σ 20 0 (Int32.toNatClampNeg a1) a2) 21 0 (Int32.toNatClampNeg a1) a3), 0, 0)))))) := rfl
set_option maxRecDepth 100000 in
set_option maxHeartbeats 4000000 in
theorem d_C_house (a1 : Int32) (a2 : Int32) (a3 : Int32) (σ : MSto) (hp : p_C_house a1 a2 a3 σ) : mW1 P_C_house (0, [some (mR 12 0), some (mI a1), some (mI a2), some (mI a3)], [], σ, 0, 0) (mF [28, 44] [mI (v_C_house a1 a2 a3 σ)] (e_C_house a1 a2 a3 σ) 0 0) := by
  refine mW1_eq (q_C_house_e _ _ _ _) ?_
  unfold p_C_house at hp
  unfold v_C_house
  refine mTr_if (fun h0 => ?_) (fun h0 => ?_)
  · skip
    exact mTr_e (by decide) (bI_F (if_pos h0)) (Eq.symm (if_pos h0)) (by decide) (by decide)
  · skip
    have hp := hp h0
    refine mTr_if (fun h1 => ?_) (fun h1 => ?_)
    · skip
      exact mTr_e (by decide) (bI_F ((if_neg h0).trans (if_pos h1))) (Eq.symm ((if_neg h0).trans (if_pos h1))) (by decide) (by decide)
    · skip
      have hp := hp h1
      refine mTr_if (fun h2 => ?_) (fun h2 => ?_)
      · skip
        exact mTr_e (by decide) (bI_F ((if_neg h0).trans ((if_neg h1).trans (if_pos h2)))) (Eq.symm ((if_neg h0).trans ((if_neg h1).trans (if_pos h2)))) (by decide) (by decide)
      · skip
        have hp := hp h2
        refine mTr_g hp.1 ?_
        have hp := hp.2
        refine mTr_g hp ?_
        exact mTr_e (by decide) (bI_T ((if_neg h0).trans ((if_neg h1).trans (if_neg h2)))) (Eq.symm ((if_neg h0).trans ((if_neg h1).trans (if_neg h2)))) (by decide) (by decide)
theorem li_C_154 : mLink "ClothWithMan" 154 E_C_isSpan := ⟨tw_2_192, tw_1_1, ⟨by decide, by decide⟩, by decide +kernel, Or.inl tw_2_190, (fun _ => tw_2_191), (fun h => by cases h), (fun h => by cases h)⟩


theorem tk_C_house : ∀ pc i nx tg, T_C_house pc = some (i, nx, tg) → mOkB prog_1_method_10_code pc i nx tg = true := code_ok (N := 45) (fun k h => by unfold T_C_house; rw [h]; rfl) (by decide +kernel)
theorem ok_C_house (l : Launch) : mPOK l "ClothWithMan" prog_1_method_10_code P_C_house := by
  refine ⟨tk_C_house, ?_, ?_, ?_, (fun pc i nx tg kd _ h => by cases h), ?_, ?_, fun pc en h => by cases h⟩
  · intro x ci f ty fin h
    exact mLook_all (Q := fun x v => mFOK "ClothWithMan" x v.1 v.2.1 v.2.2.1 v.2.2.2 ∧ (v.2.2.2 = true → pIni P_C_house = true → (Cond.fieldLink "ClothWithMan" x (((mCl[v.1]?).getD ("", fun _ => ("", "", "", false), 0)).2.1 v.2.1).1 (((mCl[v.1]?).getD ("", fun _ => ("", "", "", false), 0)).2.1 v.2.1).2.1 (((mCl[v.1]?).getD ("", fun _ => ("", "", "", false), 0)).2.1 v.2.1).2.2.1 ∈ lw_tbl ∧ (((mCl[v.1]?).getD ("", fun _ => ("", "", "", false), 0)).2.1 v.2.1).1 = "ClothWithMan"))) (fcC ⟨fo_C_23, fun h1 h2 => by cases h2⟩ (fcC ⟨fo_C_27, fun h1 h2 => by cases h2⟩ fcN)) x (ci, f, ty, fin) h
  · intro x
    have hh := mLook_all (l := ([] : List (Nat × (Int32 ⊕ Int64)))) (Q := fun x (v : Int32 ⊕ Int64) => (∀ w, v = .inl w → Cond.constant "ClothWithMan" x w ∈ lw_tbl) ∧ (∀ w, v = .inr w → Cond.constantLong "ClothWithMan" x w ∈ lw_tbl)) fcN x
    exact ⟨fun w h => (hh _ h).1 w rfl, fun w h => (hh _ h).2 w rfl⟩
  · exact fun x en h => mLook_all (Q := fun x en => mLink "ClothWithMan" x en ∧ mCtr l en ∧ (en.1.1 = 2 → en.2.2.2.2.2.2 = none)) (fcC ⟨li_C_145, c_C_isIn l, (fun h => by cases h)⟩ (fcC ⟨li_C_154, c_C_isSpan l, (fun h => by cases h)⟩ fcN)) x en h
  · exact fun x kd h => mLook_all (Q := fun x kd => (kd = 95 ∧ Cond.fieldLink "ClothWithMan" x "ClothWithMan" "LIKENESSES" "[I" ∈ lw_tbl) ∨ (kd = 96 ∧ Cond.fieldLink "ClothWithMan" x "ClothWithMan" "APART_BOUNDS" "[I" ∈ lw_tbl)) fcN x kd h
  · exact fun x ci h => mLook_all (Q := fun x ci => ci ≠ 0 ∧ ∃ (C : String) (T : u_T) (N : Nat), mCl[ci]? = some (C, T, N) ∧ Cond.classLink "ClothWithMan" x C ∈ lw_tbl ∧ Cond.instantiable C N ∈ lw_tbl) fcN x ci h
set_option maxRecDepth 100000 in
theorem c_C_house (l : Launch) : mCtr l E_C_house := mCtr_of (P := P_C_house) (own := "ClothWithMan") mLay_ok rfl (by decide +kernel) rfl (ok_C_house l) (fun h => by cases h) (fun as σ pr rv σ' hF hpr hlv => by
  unfold E_C_house S_C_house at hF
  simp only [] at hF
  split at hF
  · cases hF
    obtain ⟨n, pcF, c1, s1, g1, g2, g3, g4⟩ := mF_inv (d_C_house _ _ _ σ (hpr _ rfl))
    exact ⟨Nat.le_of_ble_eq_true rfl, (fun v h => by cases h; trivial), n, pcF, c1, s1, g1, ⟨mEnd_of (i := .ireturn) (P := P_C_house) (rets := [28, 44]) rfl g2, bI_narrow _⟩, g3, g4⟩
  · cases hF
    exact (hpr _ rfl).elim)
/-! ClothWithMan.sheet(IIII)I -/
noncomputable def t_C_sheet_47 (x1 : Int32) (x3 : Int32) (x4 : Int32) (x5 : Int32) (c : Int32) (s : Int32 × MSto) : Int32 × MSto := (if 6 ≤ c then s else (if x5 ≤ c then (((s.1) + (gI (sI (s.2) 21 0 (Int32.toNatClampNeg c) 20) 21 0 (Int32.toNatClampNeg c))), (sI (s.2) 21 0 (Int32.toNatClampNeg c) 20)) else (((s.1) + (gI (sI (s.2) 21 0 (Int32.toNatClampNeg c) (v_C_asSpan x1 (x3 + (c * x4)) (s.2))) 21 0 (Int32.toNatClampNeg c))), (sI (s.2) 21 0 (Int32.toNatClampNeg c) (v_C_asSpan x1 (x3 + (c * x4)) (s.2))))))
noncomputable def q_C_sheet_47s (x1 : Int32) (x3 : Int32) (x4 : Int32) (x5 : Int32) (c : Int32) (s : Int32 × MSto) : Nat := (if 6 ≤ c then 1 else 0)
def g_C_sheet_47 (x1 : Int32) (x3 : Int32) (x4 : Int32) (x5 : Int32) (c : Int32) (s : Int32 × MSto) : Prop := (¬ (6 ≤ c) → (((x5 ≤ c) → ((vp_in c 6) ∧ (vp_in c 6))) ∧ (¬ (x5 ≤ c) → ((vp_in c 6) ∧ (vp_in c 6)))))
noncomputable def f_C_sheet_47 (x1 : Int32) (x3 : Int32) (x4 : Int32) (x5 : Int32) (c0 : Int32) (s0 : Int32 × MSto) (n : Nat) : Int32 × MSto := nfold (fun i s => t_C_sheet_47 x1 x3 x4 x5 (c0 + nI i) s) s0 n
noncomputable def n_C_sheet_47 (x1 : Int32) (x3 : Int32) (x4 : Int32) (x5 : Int32) (c0 : Int32) (s0 : Int32 × MSto) : Nat := 6
noncomputable def v_C_sheet (a1 : Int32) (a2 : Int32) (a3 : Int32) (a4 : Int32) (σ : MSto) : Int32 := (if (v_C_isIn a1 0 3 σ) = 0 then (-1) else (if a2 ≤ 6 then (if a1 = 3 then (if a1 = 3 then (if a1 = 3 then (-3) else ((f_C_sheet_47 a1 a3 a4 0 0 (0, σ) (n_C_sheet_47 a1 a3 a4 0 0 (0, σ))).1)) else (if a1 = 3 then (-3) else ((f_C_sheet_47 a1 a3 a4 a2 0 (0, σ) (n_C_sheet_47 a1 a3 a4 a2 0 (0, σ))).1))) else (if 0 ≤ a2 then (if a1 = 3 then (if a1 = 3 then (-3) else ((f_C_sheet_47 a1 a3 a4 0 0 (0, σ) (n_C_sheet_47 a1 a3 a4 0 0 (0, σ))).1)) else (if a1 = 3 then (-3) else ((f_C_sheet_47 a1 a3 a4 a2 0 (0, σ) (n_C_sheet_47 a1 a3 a4 a2 0 (0, σ))).1))) else (-2))) else (-1)))
def p_C_sheet (a1 : Int32) (a2 : Int32) (a3 : Int32) (a4 : Int32) (σ : MSto) : Prop := (¬ ((v_C_isIn a1 0 3 σ) = 0) → ((a2 ≤ 6) → (((a1 = 3) → (((a1 = 3) → ((∀ i, i < (n_C_sheet_47 a1 a3 a4 0 0 (0, σ)) → g_C_sheet_47 a1 a3 a4 0 (0 + nI i) (f_C_sheet_47 a1 a3 a4 0 0 (0, σ) i) ∧ ¬ q_C_sheet_47s a1 a3 a4 0 (0 + nI i) (f_C_sheet_47 a1 a3 a4 0 0 (0, σ) i) = 1) ∧ (¬ (6 ≤ (0 + nI (n_C_sheet_47 a1 a3 a4 0 0 (0, σ)))) → False))) ∧ (¬ (a1 = 3) → ((∀ i, i < (n_C_sheet_47 a1 a3 a4 a2 0 (0, σ)) → g_C_sheet_47 a1 a3 a4 a2 (0 + nI i) (f_C_sheet_47 a1 a3 a4 a2 0 (0, σ) i) ∧ ¬ q_C_sheet_47s a1 a3 a4 a2 (0 + nI i) (f_C_sheet_47 a1 a3 a4 a2 0 (0, σ) i) = 1) ∧ (¬ (6 ≤ (0 + nI (n_C_sheet_47 a1 a3 a4 a2 0 (0, σ)))) → False))))) ∧ (¬ (a1 = 3) → ((0 ≤ a2) → (((a1 = 3) → ((∀ i, i < (n_C_sheet_47 a1 a3 a4 0 0 (0, σ)) → g_C_sheet_47 a1 a3 a4 0 (0 + nI i) (f_C_sheet_47 a1 a3 a4 0 0 (0, σ) i) ∧ ¬ q_C_sheet_47s a1 a3 a4 0 (0 + nI i) (f_C_sheet_47 a1 a3 a4 0 0 (0, σ) i) = 1) ∧ (¬ (6 ≤ (0 + nI (n_C_sheet_47 a1 a3 a4 0 0 (0, σ)))) → False))) ∧ (¬ (a1 = 3) → ((∀ i, i < (n_C_sheet_47 a1 a3 a4 a2 0 (0, σ)) → g_C_sheet_47 a1 a3 a4 a2 (0 + nI i) (f_C_sheet_47 a1 a3 a4 a2 0 (0, σ) i) ∧ ¬ q_C_sheet_47s a1 a3 a4 a2 (0 + nI i) (f_C_sheet_47 a1 a3 a4 a2 0 (0, σ) i) = 1) ∧ (¬ (6 ≤ (0 + nI (n_C_sheet_47 a1 a3 a4 a2 0 (0, σ)))) → False)))))))))
noncomputable def e_C_sheet (a1 : Int32) (a2 : Int32) (a3 : Int32) (a4 : Int32) (σ : MSto) : MSto := (if (v_C_isIn a1 0 3 σ) = 0 then σ else (if a2 ≤ 6 then (if a1 = 3 then (if a1 = 3 then ((f_C_sheet_47 a1 a3 a4 0 0 (0, σ) (n_C_sheet_47 a1 a3 a4 0 0 (0, σ))).2) else ((f_C_sheet_47 a1 a3 a4 a2 0 (0, σ) (n_C_sheet_47 a1 a3 a4 a2 0 (0, σ))).2)) else (if 0 ≤ a2 then (if a1 = 3 then ((f_C_sheet_47 a1 a3 a4 0 0 (0, σ) (n_C_sheet_47 a1 a3 a4 0 0 (0, σ))).2) else ((f_C_sheet_47 a1 a3 a4 a2 0 (0, σ) (n_C_sheet_47 a1 a3 a4 a2 0 (0, σ))).2)) else σ)) else σ))
noncomputable def S_C_sheet : List MV → MSto → Option Prop × Option MV × MSto := fun as σ => match as with
  | [.inr (.inr (some (12, 0))), .inl a0, .inl a1, .inl a2, .inl a3] => (some (p_C_sheet a0 a1 a2 a3 σ), some (mI (v_C_sheet a0 a1 a2 a3 σ)), e_C_sheet a0 a1 a2 a3 σ)
  | _ => (some False, none, σ)
noncomputable def E_C_sheet : MEnt := ((1, 4, 12), (2, 43, 0, 0), S_C_sheet, ((⟨"ClothWithMan", "sheet", "(IIII)I"⟩ : MethodName), prog_1_method_11_code, 8, (some .int)))

def T_C_sheet : Nat → Option (Instr × Nat × List Nat) := fun k => bif Nat.blt k 115 then (bif Nat.blt k 54 then (bif Nat.blt k 26 then (bif Nat.blt k 12 then (bif Nat.blt k 3 then (bif Nat.blt k 1 then (bif Nat.beq k 0 then some (.iload_n 1, 1, []) else none) else (bif Nat.blt k 2 then (bif Nat.beq k 1 then some (.iconst 0, 2, []) else none) else (bif Nat.beq k 2 then some (.iconst 3, 3, []) else none))) else (bif Nat.blt k 9 then (bif Nat.blt k 6 then (bif Nat.beq k 3 then some (.invokestatic 145, 6, []) else none) else (bif Nat.beq k 6 then some (.ifCond .eq 9, 9, [15]) else none)) else (bif Nat.blt k 10 then (bif Nat.beq k 9 then some (.iload_n 2, 10, []) else none) else (bif Nat.beq k 10 then some (.bipush 6, 12, []) else none)))) else (bif Nat.blt k 18 then (bif Nat.blt k 16 then (bif Nat.blt k 15 then (bif Nat.beq k 12 then some (.if_icmp .le 5, 15, [17]) else none) else (bif Nat.beq k 15 then some (.iconst (-1), 16, []) else none)) else (bif Nat.blt k 17 then (bif Nat.beq k 16 then some (.ireturn, 17, []) else none) else (bif Nat.beq k 17 then some (.iload_n 1, 18, []) else none))) else (bif Nat.blt k 22 then (bif Nat.blt k 19 then (bif Nat.beq k 18 then some (.iconst 3, 19, []) else none) else (bif Nat.beq k 19 then some (.if_icmp .eq 10, 22, [29]) else none)) else (bif Nat.blt k 23 then (bif Nat.beq k 22 then some (.iload_n 2, 23, []) else none) else (bif Nat.beq k 23 then some (.ifCond .ge 6, 26, [29]) else none))))) else (bif Nat.blt k 39 then (bif Nat.blt k 31 then (bif Nat.blt k 29 then (bif Nat.blt k 28 then (bif Nat.beq k 26 then some (.bipush (-2), 28, []) else none) else (bif Nat.beq k 28 then some (.ireturn, 29, []) else none)) else (bif Nat.blt k 30 then (bif Nat.beq k 29 then some (.iload_n 1, 30, []) else none) else (bif Nat.beq k 30 then some (.iconst 3, 31, []) else none))) else (bif Nat.blt k 35 then (bif Nat.blt k 34 then (bif Nat.beq k 31 then some (.if_icmp .ne 7, 34, [38]) else none) else (bif Nat.beq k 34 then some (.iconst 0, 35, []) else none)) else (bif Nat.blt k 38 then (bif Nat.beq k 35 then some (.goto 4, 38, [39]) else none) else (bif Nat.beq k 38 then some (.iload_n 2, 39, []) else none)))) else (bif Nat.blt k 45 then (bif Nat.blt k 42 then (bif Nat.blt k 41 then (bif Nat.beq k 39 then some (.istore 5, 41, []) else none) else (bif Nat.beq k 41 then some (.iconst 0, 42, []) else none)) else (bif Nat.blt k 44 then (bif Nat.beq k 42 then some (.istore 6, 44, []) else none) else (bif Nat.beq k 44 then some (.iconst 0, 45, []) else none))) else (bif Nat.blt k 49 then (bif Nat.blt k 47 then (bif Nat.beq k 45 then some (.istore 7, 47, []) else none) else (bif Nat.beq k 47 then some (.iload 7, 49, []) else none)) else (bif Nat.blt k 51 then (bif Nat.beq k 49 then some (.bipush 6, 51, []) else none) else (bif Nat.beq k 51 then some (.if_icmp .ge 51, 54, [102]) else none)))))) else (bif Nat.blt k 84 then (bif Nat.blt k 69 then (bif Nat.blt k 62 then (bif Nat.blt k 58 then (bif Nat.blt k 55 then (bif Nat.beq k 54 then some (.aload_n 0, 55, []) else none) else (bif Nat.beq k 55 then some (.getfield 27, 58, []) else none)) else (bif Nat.blt k 60 then (bif Nat.beq k 58 then some (.iload 7, 60, []) else none) else (bif Nat.beq k 60 then some (.iload 7, 62, []) else none))) else (bif Nat.blt k 67 then (bif Nat.blt k 64 then (bif Nat.beq k 62 then some (.iload 5, 64, []) else none) else (bif Nat.beq k 64 then some (.if_icmp .ge 17, 67, [81]) else none)) else (bif Nat.blt k 68 then (bif Nat.beq k 67 then some (.iload_n 1, 68, []) else none) else (bif Nat.beq k 68 then some (.iload_n 3, 69, []) else none)))) else (bif Nat.blt k 75 then (bif Nat.blt k 73 then (bif Nat.blt k 71 then (bif Nat.beq k 69 then some (.iload 7, 71, []) else none) else (bif Nat.beq k 71 then some (.iload 4, 73, []) else none)) else (bif Nat.blt k 74 then (bif Nat.beq k 73 then some (.imul, 74, []) else none) else (bif Nat.beq k 74 then some (.iadd, 75, []) else none))) else (bif Nat.blt k 81 then (bif Nat.blt k 78 then (bif Nat.beq k 75 then some (.invokestatic 157, 78, []) else none) else (bif Nat.beq k 78 then some (.goto 5, 81, [83]) else none)) else (bif Nat.blt k 83 then (bif Nat.beq k 81 then some (.bipush 20, 83, []) else none) else (bif Nat.beq k 83 then some (.iastore, 84, []) else none))))) else (bif Nat.blt k 99 then (bif Nat.blt k 92 then (bif Nat.blt k 87 then (bif Nat.blt k 86 then (bif Nat.beq k 84 then some (.iload 6, 86, []) else none) else (bif Nat.beq k 86 then some (.aload_n 0, 87, []) else none)) else (bif Nat.blt k 90 then (bif Nat.beq k 87 then some (.getfield 27, 90, []) else none) else (bif Nat.beq k 90 then some (.iload 7, 92, []) else none))) else (bif Nat.blt k 94 then (bif Nat.blt k 93 then (bif Nat.beq k 92 then some (.iaload, 93, []) else none) else (bif Nat.beq k 93 then some (.iadd, 94, []) else none)) else (bif Nat.blt k 96 then (bif Nat.beq k 94 then some (.istore 6, 96, []) else none) else (bif Nat.beq k 96 then some (.iinc 7 1, 99, []) else none)))) else (bif Nat.blt k 107 then (bif Nat.blt k 103 then (bif Nat.blt k 102 then (bif Nat.beq k 99 then some (.goto (-52), 102, [47]) else none) else (bif Nat.beq k 102 then some (.iload_n 1, 103, []) else none)) else (bif Nat.blt k 104 then (bif Nat.beq k 103 then some (.iconst 3, 104, []) else none) else (bif Nat.beq k 104 then some (.if_icmp .ne 8, 107, [112]) else none))) else (bif Nat.blt k 112 then (bif Nat.blt k 109 then (bif Nat.beq k 107 then some (.bipush (-3), 109, []) else none) else (bif Nat.beq k 109 then some (.goto 5, 112, [114]) else none)) else (bif Nat.blt k 114 then (bif Nat.beq k 112 then some (.iload 6, 114, []) else none) else (bif Nat.beq k 114 then some (.ireturn, 115, []) else none))))))) else none
noncomputable def P_C_sheet : MP := (T_C_sheet, (fun k => mLook k [(27, (12, 3, (.array .int), true))]), (fun k => mLook k []), (fun k => mLook k [(145, E_C_isIn), (157, E_C_asSpan)]), (fun k => mLook k []), (fun k => mLook k []), (fun k => mLook k []), (fun k => mLook k [(47, [true, true, false, true, true, true, true, true])]), (fun k => [16, 28, 114].any (Nat.beq k)), (2, 43, 0, 0), false, (fun _ => none))
set_option maxRecDepth 100000 in
set_option maxHeartbeats 4000000 in
theorem q_C_sheet_e (a1 : Int32) (a2 : Int32) (a3 : Int32) (a4 : Int32) (σ : MSto) (n : Nat) : mexe KT P_C_sheet (n + 1) (0, [some (mR 12 0), some (mI a1), some (mI a2), some (mI a3), some (mI a4), none, none, none], [], σ, 0, 0) = mIf ((v_C_isIn a1 0 3 σ) = 0) (some (16, [], [(mI (-1))], σ, 0, 0)) (mIf (a2 ≤ 6) (mIf (a1 = 3) (mIf (a1 = 3) (mexe KT P_C_sheet n (47, [some (mR 12 0), some (mI a1), none, some (mI a3), some (mI a4), some (mI 0), some (mI 0), some (mI 0)], [], σ, 0, 0)) (mexe KT P_C_sheet n (47, [some (mR 12 0), some (mI a1), none, some (mI a3), some (mI a4), some (mI a2), some (mI 0), some (mI 0)], [], σ, 0, 0))) (mIf (0 ≤ a2) (mIf (a1 = 3) (mexe KT P_C_sheet n (47, [some (mR 12 0), some (mI a1), none, some (mI a3), some (mI a4), some (mI 0), some (mI 0), some (mI 0)], [], σ, 0, 0)) (mexe KT P_C_sheet n (47, [some (mR 12 0), some (mI a1), none, some (mI a3), some (mI a4), some (mI a2), some (mI 0), some (mI 0)], [], σ, 0, 0))) (some (28, [], [(mI (-2))], σ, 0, 0)))) (some (16, [], [(mI (-1))], σ, 0, 0))) := rfl
set_option maxRecDepth 100000 in
set_option maxHeartbeats 4000000 in
theorem q_C_sheet_47 (x1 : Int32) (x3 : Int32) (x4 : Int32) (x5 : Int32) (x6 : Int32) (x7 : Int32) (σ : MSto) (n : Nat) : mexe KT P_C_sheet (n + 1) (47, [some (mR 12 0), some (mI x1), none, some (mI x3), some (mI x4), some (mI x5), some (mI x6), some (mI x7)], [], σ, 0, 0) = mIf (6 ≤ x7) (mIf (x1 = 3) (some (114, [], [(mI (-3))], σ, 0, 0)) (some (114, [], [(mI x6)], σ, 0, 0))) (mIf (x5 ≤ x7) (mG (vp_in x7 6) (mG (vp_in x7 6) (mexe KT P_C_sheet n (47, [some (mR 12 0), some (mI x1), none, some (mI x3), some (mI x4), some (mI x5), some (mI (x6 + (gI (sI σ 21 0 (Int32.toNatClampNeg x7) 20) 21 0 (Int32.toNatClampNeg x7)))), some (mI (x7 + 1))], [], (sI σ 21 0 (Int32.toNatClampNeg x7) 20), 0, 0)))) (mG (vp_in x7 6) (mG (vp_in x7 6) (mexe KT P_C_sheet n (47, [some (mR 12 0), some (mI x1), none, some (mI x3), some (mI x4), some (mI x5), some (mI (x6 + (gI (sI σ 21 0 (Int32.toNatClampNeg x7) (v_C_asSpan x1 (x3 + (x7 * x4)) σ)) 21 0 (Int32.toNatClampNeg x7)))), some (mI (x7 + 1))], [], (sI σ 21 0 (Int32.toNatClampNeg x7) (v_C_asSpan x1 (x3 + (x7 * x4)) σ)), 0, 0))))) := rfl
set_option maxRecDepth 100000 in
theorem lt_C_sheet_47 {Post : MST → Prop} (x1 : Int32) (x3 : Int32) (x4 : Int32) (x5 : Int32) (c : Int32) (s : Int32 × MSto) (hp : g_C_sheet_47 x1 x3 x4 x5 c s) (hq : ¬ q_C_sheet_47s x1 x3 x4 x5 c s = 1) (hn : ∀ (r1 : Int32) (r2 : MSto), t_C_sheet_47 x1 x3 x4 x5 c s = (r1, r2) → mW1 P_C_sheet (47, [some (mR 12 0), some (mI x1), none, some (mI x3), some (mI x4), some (mI x5), some (mI r1), some (mI (c + 1))], [], r2, 0, 0) Post) : mW1 P_C_sheet (47, [some (mR 12 0), some (mI x1), none, some (mI x3), some (mI x4), some (mI x5), some (mI (s.1)), some (mI c)], [], (s.2), 0, 0) Post := by
  unfold g_C_sheet_47 at hp
  refine mW1_eq (q_C_sheet_47 _ _ _ _ _ _ _) ?_
  refine mTr_if (fun h0 => ?_) (fun h0 => ?_)
  · skip
    exact absurd (if_pos h0) hq
  · skip
    have hp := hp h0
    refine mTr_if (fun h1 => ?_) (fun h1 => ?_)
    · skip
      have hp := hp.1 h1
      refine mTr_g hp.1 ?_
      have hp := hp.2
      refine mTr_g hp ?_
      exact mTr_k (hn ((s.1) + (gI (sI (s.2) 21 0 (Int32.toNatClampNeg c) 20) 21 0 (Int32.toNatClampNeg c))) (sI (s.2) 21 0 (Int32.toNatClampNeg c) 20) ((if_neg h0).trans (if_pos h1)))
    · skip
      have hp := hp.2 h1
      refine mTr_g hp.1 ?_
      have hp := hp.2
      refine mTr_g hp ?_
      exact mTr_k (hn ((s.1) + (gI (sI (s.2) 21 0 (Int32.toNatClampNeg c) (v_C_asSpan x1 (x3 + (c * x4)) (s.2))) 21 0 (Int32.toNatClampNeg c))) (sI (s.2) 21 0 (Int32.toNatClampNeg c) (v_C_asSpan x1 (x3 + (c * x4)) (s.2))) ((if_neg h0).trans (if_neg h1)))
theorem lp_C_sheet_47 {Post : MST → Prop} (x1 : Int32) (x3 : Int32) (x4 : Int32) (x5 : Int32) (c0 : Int32) (s0 : Int32 × MSto) (N : Nat) (hb : ∀ i, i < N → g_C_sheet_47 x1 x3 x4 x5 (c0 + nI i) (f_C_sheet_47 x1 x3 x4 x5 c0 s0 i) ∧ ¬ q_C_sheet_47s x1 x3 x4 x5 (c0 + nI i) (f_C_sheet_47 x1 x3 x4 x5 c0 s0 i) = 1) (h : mW1 P_C_sheet (47, [some (mR 12 0), some (mI x1), none, some (mI x3), some (mI x4), some (mI x5), some (mI ((f_C_sheet_47 x1 x3 x4 x5 c0 s0 N).1)), some (mI (c0 + nI N))], [], ((f_C_sheet_47 x1 x3 x4 x5 c0 s0 N).2), 0, 0) Post) : mW1 P_C_sheet (47, [some (mR 12 0), some (mI x1), none, some (mI x3), some (mI x4), some (mI x5), some (mI (s0.1)), some (mI c0)], [], (s0.2), 0, 0) Post := by
  refine mW1_st (mW1_loop (fun i => (47, [some (mR 12 0), some (mI x1), none, some (mI x3), some (mI x4), some (mI x5), some (mI ((f_C_sheet_47 x1 x3 x4 x5 c0 s0 i).1)), some (mI (c0 + nI i))], [], ((f_C_sheet_47 x1 x3 x4 x5 c0 s0 i).2), 0, 0)) N (fun i hlt hn => ?_) h) (by rw [show nI 0 = 0 from rfl, Int32.add_zero] <;> rfl)
  refine lt_C_sheet_47 x1 x3 x4 x5 _ _ (hb i hlt).1 (hb i hlt).2 (fun r1 r2 hr => ?_)
  rw [Int32.add_assoc, nI_s]
  have e : f_C_sheet_47 x1 x3 x4 x5 c0 s0 (i + 1) = (r1, r2) := hr
  try dsimp only at hn
  rw [e] at hn
  exact hn
set_option maxRecDepth 100000 in
set_option maxHeartbeats 4000000 in
theorem d_C_sheet (a1 : Int32) (a2 : Int32) (a3 : Int32) (a4 : Int32) (σ : MSto) (hp : p_C_sheet a1 a2 a3 a4 σ) : mW1 P_C_sheet (0, [some (mR 12 0), some (mI a1), some (mI a2), some (mI a3), some (mI a4), none, none, none], [], σ, 0, 0) (mF [16, 28, 114] [mI (v_C_sheet a1 a2 a3 a4 σ)] (e_C_sheet a1 a2 a3 a4 σ) 0 0) := by
  refine mW1_eq (q_C_sheet_e _ _ _ _ _) ?_
  unfold p_C_sheet at hp
  refine mTr_if (fun h0 => ?_) (fun h0 => ?_)
  · skip
    exact mTr_e (by decide) (congrArg (fun z => [mI z]) (Eq.symm (if_pos h0))) (Eq.symm (if_pos h0)) (by decide) (by decide)
  · skip
    have hp := hp h0
    refine mTr_if (fun h1 => ?_) (fun h1 => ?_)
    · skip
      have hp := hp h1
      refine mTr_if (fun h2 => ?_) (fun h2 => ?_)
      · skip
        have hp := hp.1 h2
        refine mTr_if (fun h3 => ?_) (fun h3 => ?_)
        · skip
          have hp := hp.1 h3
          refine mTr_k (lp_C_sheet_47 a1 a3 a4 0 0 (0, σ) (n_C_sheet_47 a1 a3 a4 0 0 (0, σ)) hp.1 ?_)
          have hp := hp.2
          refine mW1_eq (q_C_sheet_47 _ _ _ _ _ _ _) ?_
          refine mTr_if (fun h4 => ?_) (fun h4 => ?_)
          · skip
            refine mTr_if (fun h5 => ?_) (fun h5 => ?_)
            · skip
              exact mTr_e (by decide) (congrArg (fun z => [mI z]) (Eq.symm ((if_neg h0).trans ((if_pos h1).trans ((if_pos h2).trans ((if_pos h3).trans (if_pos h5))))))) (Eq.symm ((if_neg h0).trans ((if_pos h1).trans ((if_pos h2).trans (if_pos h3))))) (by decide) (by decide)
            · skip
              exact mTr_e (by decide) (congrArg (fun z => [mI z]) (Eq.symm ((if_neg h0).trans ((if_pos h1).trans ((if_pos h2).trans ((if_pos h3).trans (if_neg h5))))))) (Eq.symm ((if_neg h0).trans ((if_pos h1).trans ((if_pos h2).trans (if_pos h3))))) (by decide) (by decide)
          · skip
            have hp := hp h4
            exact hp.elim
        · skip
          have hp := hp.2 h3
          refine mTr_k (lp_C_sheet_47 a1 a3 a4 a2 0 (0, σ) (n_C_sheet_47 a1 a3 a4 a2 0 (0, σ)) hp.1 ?_)
          have hp := hp.2
          refine mW1_eq (q_C_sheet_47 _ _ _ _ _ _ _) ?_
          refine mTr_if (fun h4 => ?_) (fun h4 => ?_)
          · skip
            refine mTr_if (fun h5 => ?_) (fun h5 => ?_)
            · skip
              exact mTr_e (by decide) (congrArg (fun z => [mI z]) (Eq.symm ((if_neg h0).trans ((if_pos h1).trans ((if_pos h2).trans ((if_neg h3).trans (if_pos h5))))))) (Eq.symm ((if_neg h0).trans ((if_pos h1).trans ((if_pos h2).trans (if_neg h3))))) (by decide) (by decide)
            · skip
              exact mTr_e (by decide) (congrArg (fun z => [mI z]) (Eq.symm ((if_neg h0).trans ((if_pos h1).trans ((if_pos h2).trans ((if_neg h3).trans (if_neg h5))))))) (Eq.symm ((if_neg h0).trans ((if_pos h1).trans ((if_pos h2).trans (if_neg h3))))) (by decide) (by decide)
          · skip
            have hp := hp h4
            exact hp.elim
      · skip
        have hp := hp.2 h2
        refine mTr_if (fun h3 => ?_) (fun h3 => ?_)
        · skip
          have hp := hp h3
          refine mTr_if (fun h4 => ?_) (fun h4 => ?_)
          · skip
            have hp := hp.1 h4
            refine mTr_k (lp_C_sheet_47 a1 a3 a4 0 0 (0, σ) (n_C_sheet_47 a1 a3 a4 0 0 (0, σ)) hp.1 ?_)
            have hp := hp.2
            refine mW1_eq (q_C_sheet_47 _ _ _ _ _ _ _) ?_
            refine mTr_if (fun h5 => ?_) (fun h5 => ?_)
            · skip
              refine mTr_if (fun h6 => ?_) (fun h6 => ?_)
              · skip
                exact mTr_e (by decide) (congrArg (fun z => [mI z]) (Eq.symm ((if_neg h0).trans ((if_pos h1).trans ((if_neg h2).trans ((if_pos h3).trans ((if_pos h4).trans (if_pos h6)))))))) (Eq.symm ((if_neg h0).trans ((if_pos h1).trans ((if_neg h2).trans ((if_pos h3).trans (if_pos h4)))))) (by decide) (by decide)
              · skip
                exact mTr_e (by decide) (congrArg (fun z => [mI z]) (Eq.symm ((if_neg h0).trans ((if_pos h1).trans ((if_neg h2).trans ((if_pos h3).trans ((if_pos h4).trans (if_neg h6)))))))) (Eq.symm ((if_neg h0).trans ((if_pos h1).trans ((if_neg h2).trans ((if_pos h3).trans (if_pos h4)))))) (by decide) (by decide)
            · skip
              have hp := hp h5
              exact hp.elim
          · skip
            have hp := hp.2 h4
            refine mTr_k (lp_C_sheet_47 a1 a3 a4 a2 0 (0, σ) (n_C_sheet_47 a1 a3 a4 a2 0 (0, σ)) hp.1 ?_)
            have hp := hp.2
            refine mW1_eq (q_C_sheet_47 _ _ _ _ _ _ _) ?_
            refine mTr_if (fun h5 => ?_) (fun h5 => ?_)
            · skip
              refine mTr_if (fun h6 => ?_) (fun h6 => ?_)
              · skip
                exact mTr_e (by decide) (congrArg (fun z => [mI z]) (Eq.symm ((if_neg h0).trans ((if_pos h1).trans ((if_neg h2).trans ((if_pos h3).trans ((if_neg h4).trans (if_pos h6)))))))) (Eq.symm ((if_neg h0).trans ((if_pos h1).trans ((if_neg h2).trans ((if_pos h3).trans (if_neg h4)))))) (by decide) (by decide)
              · skip
                exact mTr_e (by decide) (congrArg (fun z => [mI z]) (Eq.symm ((if_neg h0).trans ((if_pos h1).trans ((if_neg h2).trans ((if_pos h3).trans ((if_neg h4).trans (if_neg h6)))))))) (Eq.symm ((if_neg h0).trans ((if_pos h1).trans ((if_neg h2).trans ((if_pos h3).trans (if_neg h4)))))) (by decide) (by decide)
            · skip
              have hp := hp h5
              exact hp.elim
        · skip
          exact mTr_e (by decide) (congrArg (fun z => [mI z]) (Eq.symm ((if_neg h0).trans ((if_pos h1).trans ((if_neg h2).trans (if_neg h3)))))) (Eq.symm ((if_neg h0).trans ((if_pos h1).trans ((if_neg h2).trans (if_neg h3))))) (by decide) (by decide)
    · skip
      exact mTr_e (by decide) (congrArg (fun z => [mI z]) (Eq.symm ((if_neg h0).trans (if_neg h1)))) (Eq.symm ((if_neg h0).trans (if_neg h1))) (by decide) (by decide)
theorem li_C_157 : mLink "ClothWithMan" 157 E_C_asSpan := ⟨tw_2_199, tw_1_1, ⟨by decide, by decide⟩, by decide +kernel, Or.inl tw_2_197, (fun _ => tw_2_198), (fun h => by cases h), (fun h => by cases h)⟩


theorem tk_C_sheet : ∀ pc i nx tg, T_C_sheet pc = some (i, nx, tg) → mOkB prog_1_method_11_code pc i nx tg = true := code_ok (N := 115) (fun k h => by unfold T_C_sheet; rw [h]; rfl) (by decide +kernel)
theorem ok_C_sheet (l : Launch) : mPOK l "ClothWithMan" prog_1_method_11_code P_C_sheet := by
  refine ⟨tk_C_sheet, ?_, ?_, ?_, (fun pc i nx tg kd _ h => by cases h), ?_, ?_, fun pc en h => by cases h⟩
  · intro x ci f ty fin h
    exact mLook_all (Q := fun x v => mFOK "ClothWithMan" x v.1 v.2.1 v.2.2.1 v.2.2.2 ∧ (v.2.2.2 = true → pIni P_C_sheet = true → (Cond.fieldLink "ClothWithMan" x (((mCl[v.1]?).getD ("", fun _ => ("", "", "", false), 0)).2.1 v.2.1).1 (((mCl[v.1]?).getD ("", fun _ => ("", "", "", false), 0)).2.1 v.2.1).2.1 (((mCl[v.1]?).getD ("", fun _ => ("", "", "", false), 0)).2.1 v.2.1).2.2.1 ∈ lw_tbl ∧ (((mCl[v.1]?).getD ("", fun _ => ("", "", "", false), 0)).2.1 v.2.1).1 = "ClothWithMan"))) (fcC ⟨fo_C_27, fun h1 h2 => by cases h2⟩ fcN) x (ci, f, ty, fin) h
  · intro x
    have hh := mLook_all (l := ([] : List (Nat × (Int32 ⊕ Int64)))) (Q := fun x (v : Int32 ⊕ Int64) => (∀ w, v = .inl w → Cond.constant "ClothWithMan" x w ∈ lw_tbl) ∧ (∀ w, v = .inr w → Cond.constantLong "ClothWithMan" x w ∈ lw_tbl)) fcN x
    exact ⟨fun w h => (hh _ h).1 w rfl, fun w h => (hh _ h).2 w rfl⟩
  · exact fun x en h => mLook_all (Q := fun x en => mLink "ClothWithMan" x en ∧ mCtr l en ∧ (en.1.1 = 2 → en.2.2.2.2.2.2 = none)) (fcC ⟨li_C_145, c_C_isIn l, (fun h => by cases h)⟩ (fcC ⟨li_C_157, c_C_asSpan l, (fun h => by cases h)⟩ fcN)) x en h
  · exact fun x kd h => mLook_all (Q := fun x kd => (kd = 95 ∧ Cond.fieldLink "ClothWithMan" x "ClothWithMan" "LIKENESSES" "[I" ∈ lw_tbl) ∨ (kd = 96 ∧ Cond.fieldLink "ClothWithMan" x "ClothWithMan" "APART_BOUNDS" "[I" ∈ lw_tbl)) fcN x kd h
  · exact fun x ci h => mLook_all (Q := fun x ci => ci ≠ 0 ∧ ∃ (C : String) (T : u_T) (N : Nat), mCl[ci]? = some (C, T, N) ∧ Cond.classLink "ClothWithMan" x C ∈ lw_tbl ∧ Cond.instantiable C N ∈ lw_tbl) fcN x ci h
set_option maxRecDepth 100000 in
theorem c_C_sheet (l : Launch) : mCtr l E_C_sheet := mCtr_of (P := P_C_sheet) (own := "ClothWithMan") mLay_ok rfl (by decide +kernel) rfl (ok_C_sheet l) (fun h => by cases h) (fun as σ pr rv σ' hF hpr hlv => by
  unfold E_C_sheet S_C_sheet at hF
  simp only [] at hF
  split at hF
  · cases hF
    obtain ⟨n, pcF, c1, s1, g1, g2, g3, g4⟩ := mF_inv (d_C_sheet _ _ _ _ σ (hpr _ rfl))
    exact ⟨Nat.le_of_ble_eq_true rfl, (fun v h => by cases h; trivial), n, pcF, c1, s1, g1, ⟨mEnd_of (i := .ireturn) (P := P_C_sheet) (rets := [16, 28, 114]) rfl g2, rfl⟩, g3, g4⟩
  · cases hF
    exact (hpr _ rfl).elim)
/-! ClothWithMan.thread(III)I -/
noncomputable def v_C_thread (a1 : Int32) (a2 : Int32) (a3 : Int32) (σ : MSto) : Int32 := (if (v_C_isSpot a1 a2 a3 σ) = 0 then (-1) else (v_Cl_threadAt a1 a2 a3 σ))
def p_C_thread (a1 : Int32) (a2 : Int32) (a3 : Int32) (σ : MSto) : Prop := (¬ ((v_C_isSpot a1 a2 a3 σ) = 0) → (p_Cl_threadAt a1 a2 a3 σ))
noncomputable def S_C_thread : List MV → MSto → Option Prop × Option MV × MSto := fun as σ => match as with
  | [.inr (.inr (some (12, 0))), .inl a0, .inl a1, .inl a2] => (some (p_C_thread a0 a1 a2 σ), some (mI (v_C_thread a0 a1 a2 σ)), σ)
  | _ => (some False, none, σ)
noncomputable def E_C_thread : MEnt := ((1, 3, 12), (8, 174, 0, 0), S_C_thread, ((⟨"ClothWithMan", "thread", "(III)I"⟩ : MethodName), prog_1_method_12_code, 4, (some .int)))

def T_C_thread : Nat → Option (Instr × Nat × List Nat) := fun k => bif Nat.blt k 24 then (bif Nat.blt k 13 then (bif Nat.blt k 3 then (bif Nat.blt k 1 then (bif Nat.beq k 0 then some (.iload_n 1, 1, []) else none) else (bif Nat.blt k 2 then (bif Nat.beq k 1 then some (.iload_n 2, 2, []) else none) else (bif Nat.beq k 2 then some (.iload_n 3, 3, []) else none))) else (bif Nat.blt k 9 then (bif Nat.blt k 6 then (bif Nat.beq k 3 then some (.invokestatic 161, 6, []) else none) else (bif Nat.beq k 6 then some (.ifCond .eq 16, 9, [22]) else none)) else (bif Nat.blt k 10 then (bif Nat.beq k 9 then some (.aload_n 0, 10, []) else none) else (bif Nat.beq k 10 then some (.getfield 19, 13, []) else none)))) else (bif Nat.blt k 16 then (bif Nat.blt k 14 then (bif Nat.beq k 13 then some (.iload_n 1, 14, []) else none) else (bif Nat.blt k 15 then (bif Nat.beq k 14 then some (.iload_n 2, 15, []) else none) else (bif Nat.beq k 15 then some (.iload_n 3, 16, []) else none))) else (bif Nat.blt k 22 then (bif Nat.blt k 19 then (bif Nat.beq k 16 then some (.invokevirtual 164, 19, []) else none) else (bif Nat.beq k 19 then some (.goto 4, 22, [23]) else none)) else (bif Nat.blt k 23 then (bif Nat.beq k 22 then some (.iconst (-1), 23, []) else none) else (bif Nat.beq k 23 then some (.ireturn, 24, []) else none))))) else none
noncomputable def P_C_thread : MP := (T_C_thread, (fun k => mLook k [(19, (12, 1, (.object "ClothWithMan$Cloth"), true))]), (fun k => mLook k []), (fun k => mLook k [(161, E_C_isSpot), (164, E_Cl_threadAt)]), (fun k => mLook k []), (fun k => mLook k []), (fun k => mLook k []), (fun k => mLook k []), (fun k => [23].any (Nat.beq k)), (8, 174, 0, 0), false, (fun _ => none))
set_option maxRecDepth 100000 in
set_option maxHeartbeats 4000000 in
theorem q_C_thread_e (a1 : Int32) (a2 : Int32) (a3 : Int32) (σ : MSto) (n : Nat) : mexe KT P_C_thread (n + 1) (0, [some (mR 12 0), some (mI a1), some (mI a2), some (mI a3)], [], σ, 0, 0) = mIf ((v_C_isSpot a1 a2 a3 σ) = 0) (some (23, [], [(mI (-1))], σ, 0, 0)) (mG (p_Cl_threadAt a1 a2 a3 σ) (some (23, [], [(mI (v_Cl_threadAt a1 a2 a3 σ))], σ, 0, 0))) := rfl
set_option maxRecDepth 100000 in
set_option maxHeartbeats 4000000 in
theorem d_C_thread (a1 : Int32) (a2 : Int32) (a3 : Int32) (σ : MSto) (hp : p_C_thread a1 a2 a3 σ) : mW1 P_C_thread (0, [some (mR 12 0), some (mI a1), some (mI a2), some (mI a3)], [], σ, 0, 0) (mF [23] [mI (v_C_thread a1 a2 a3 σ)] σ 0 0) := by
  refine mW1_eq (q_C_thread_e _ _ _ _) ?_
  unfold p_C_thread at hp
  refine mTr_if (fun h0 => ?_) (fun h0 => ?_)
  · skip
    exact mTr_e (by decide) (congrArg (fun z => [mI z]) (Eq.symm (if_pos h0))) rfl (by decide) (by decide)
  · skip
    have hp := hp h0
    refine mTr_g hp ?_
    exact mTr_e (by decide) (congrArg (fun z => [mI z]) (Eq.symm (if_neg h0))) rfl (by decide) (by decide)

theorem li_C_161 : mLink "ClothWithMan" 161 E_C_isSpot := ⟨tw_2_208, tw_1_1, ⟨by decide, by decide⟩, by decide +kernel, Or.inl tw_2_206, (fun _ => tw_2_207), (fun h => by cases h), (fun h => by cases h)⟩

theorem tk_C_thread : ∀ pc i nx tg, T_C_thread pc = some (i, nx, tg) → mOkB prog_1_method_12_code pc i nx tg = true := code_ok (N := 24) (fun k h => by unfold T_C_thread; rw [h]; rfl) (by decide +kernel)
theorem ok_C_thread (l : Launch) : mPOK l "ClothWithMan" prog_1_method_12_code P_C_thread := by
  refine ⟨tk_C_thread, ?_, ?_, ?_, (fun pc i nx tg kd _ h => by cases h), ?_, ?_, fun pc en h => by cases h⟩
  · intro x ci f ty fin h
    exact mLook_all (Q := fun x v => mFOK "ClothWithMan" x v.1 v.2.1 v.2.2.1 v.2.2.2 ∧ (v.2.2.2 = true → pIni P_C_thread = true → (Cond.fieldLink "ClothWithMan" x (((mCl[v.1]?).getD ("", fun _ => ("", "", "", false), 0)).2.1 v.2.1).1 (((mCl[v.1]?).getD ("", fun _ => ("", "", "", false), 0)).2.1 v.2.1).2.1 (((mCl[v.1]?).getD ("", fun _ => ("", "", "", false), 0)).2.1 v.2.1).2.2.1 ∈ lw_tbl ∧ (((mCl[v.1]?).getD ("", fun _ => ("", "", "", false), 0)).2.1 v.2.1).1 = "ClothWithMan"))) (fcC ⟨fo_C_19, fun h1 h2 => by cases h2⟩ fcN) x (ci, f, ty, fin) h
  · intro x
    have hh := mLook_all (l := ([] : List (Nat × (Int32 ⊕ Int64)))) (Q := fun x (v : Int32 ⊕ Int64) => (∀ w, v = .inl w → Cond.constant "ClothWithMan" x w ∈ lw_tbl) ∧ (∀ w, v = .inr w → Cond.constantLong "ClothWithMan" x w ∈ lw_tbl)) fcN x
    exact ⟨fun w h => (hh _ h).1 w rfl, fun w h => (hh _ h).2 w rfl⟩
  · exact fun x en h => mLook_all (Q := fun x en => mLink "ClothWithMan" x en ∧ mCtr l en ∧ (en.1.1 = 2 → en.2.2.2.2.2.2 = none)) (fcC ⟨li_C_161, c_C_isSpot l, (fun h => by cases h)⟩ (fcC ⟨li_C_164, c_Cl_threadAt l, (fun h => by cases h)⟩ fcN)) x en h
  · exact fun x kd h => mLook_all (Q := fun x kd => (kd = 95 ∧ Cond.fieldLink "ClothWithMan" x "ClothWithMan" "LIKENESSES" "[I" ∈ lw_tbl) ∨ (kd = 96 ∧ Cond.fieldLink "ClothWithMan" x "ClothWithMan" "APART_BOUNDS" "[I" ∈ lw_tbl)) fcN x kd h
  · exact fun x ci h => mLook_all (Q := fun x ci => ci ≠ 0 ∧ ∃ (C : String) (T : u_T) (N : Nat), mCl[ci]? = some (C, T, N) ∧ Cond.classLink "ClothWithMan" x C ∈ lw_tbl ∧ Cond.instantiable C N ∈ lw_tbl) fcN x ci h
set_option maxRecDepth 100000 in
theorem c_C_thread (l : Launch) : mCtr l E_C_thread := mCtr_of (P := P_C_thread) (own := "ClothWithMan") mLay_ok rfl (by decide +kernel) rfl (ok_C_thread l) (fun h => by cases h) (fun as σ pr rv σ' hF hpr hlv => by
  unfold E_C_thread S_C_thread at hF
  simp only [] at hF
  split at hF
  · cases hF
    obtain ⟨n, pcF, c1, s1, g1, g2, g3, g4⟩ := mF_inv (d_C_thread _ _ _ σ (hpr _ rfl))
    exact ⟨Nat.le_of_ble_eq_true rfl, (fun v h => by cases h; trivial), n, pcF, c1, s1, g1, ⟨mEnd_of (i := .ireturn) (P := P_C_thread) (rets := [23]) rfl g2, rfl⟩, g3, g4⟩
  · cases hF
    exact (hpr _ rfl).elim)
/-! ClothWithMan.piece(IIII)I -/
noncomputable def v_C_piece (a1 : Int32) (a2 : Int32) (a3 : Int32) (a4 : Int32) (σ : MSto) : Int32 := (if (v_C_isSpot a1 a2 a3 σ) = 0 then (-1) else (if (v_C_isIn a4 0 5 σ) = 0 then (-1) else (if (v_AL_size 14 0 σ) < 12 then ((v_AL_size 14 0 (e_AL_add 14 0 7 (gN σ 7) (e_Pi_init (gN σ 7) a1 a2 a3 a4 (sNew σ 7)))) - 1) else (-1))))
def p_C_piece (a1 : Int32) (a2 : Int32) (a3 : Int32) (a4 : Int32) (σ : MSto) : Prop := (¬ ((v_C_isSpot a1 a2 a3 σ) = 0) → (¬ ((v_C_isIn a4 0 5 σ) = 0) → (((v_AL_size 14 0 σ) < 12) → (p_AL_add 14 0 7 (gN σ 7) (e_Pi_init (gN σ 7) a1 a2 a3 a4 (sNew σ 7))))))
noncomputable def e_C_piece (a1 : Int32) (a2 : Int32) (a3 : Int32) (a4 : Int32) (σ : MSto) : MSto := (if (v_C_isSpot a1 a2 a3 σ) = 0 then σ else (if (v_C_isIn a4 0 5 σ) = 0 then σ else (if (v_AL_size 14 0 σ) < 12 then (e_AL_add 14 0 7 (gN σ 7) (e_Pi_init (gN σ 7) a1 a2 a3 a4 (sNew σ 7))) else σ)))
noncomputable def S_C_piece : List MV → MSto → Option Prop × Option MV × MSto := fun as σ => match as with
  | [.inr (.inr (some (12, 0))), .inl a0, .inl a1, .inl a2, .inl a3] => (some (p_C_piece a0 a1 a2 a3 σ), some (mI (v_C_piece a0 a1 a2 a3 σ)), e_C_piece a0 a1 a2 a3 σ)
  | _ => (some False, none, σ)
noncomputable def E_C_piece : MEnt := ((1, 4, 12), (11, 271, 2, 24), S_C_piece, ((⟨"ClothWithMan", "piece", "(IIII)I"⟩ : MethodName), prog_1_method_13_code, 5, (some .int)))

def T_C_piece : Nat → Option (Instr × Nat × List Nat) := fun k => bif Nat.blt k 63 then (bif Nat.blt k 33 then (bif Nat.blt k 13 then (bif Nat.blt k 6 then (bif Nat.blt k 2 then (bif Nat.blt k 1 then (bif Nat.beq k 0 then some (.iload_n 1, 1, []) else none) else (bif Nat.beq k 1 then some (.iload_n 2, 2, []) else none)) else (bif Nat.blt k 3 then (bif Nat.beq k 2 then some (.iload_n 3, 3, []) else none) else (bif Nat.beq k 3 then some (.invokestatic 161, 6, []) else none))) else (bif Nat.blt k 11 then (bif Nat.blt k 9 then (bif Nat.beq k 6 then some (.ifCond .eq 25, 9, [31]) else none) else (bif Nat.beq k 9 then some (.iload 4, 11, []) else none)) else (bif Nat.blt k 12 then (bif Nat.beq k 11 then some (.iconst 0, 12, []) else none) else (bif Nat.beq k 12 then some (.iconst 5, 13, []) else none)))) else (bif Nat.blt k 23 then (bif Nat.blt k 19 then (bif Nat.blt k 16 then (bif Nat.beq k 13 then some (.invokestatic 145, 16, []) else none) else (bif Nat.beq k 16 then some (.ifCond .eq 15, 19, [31]) else none)) else (bif Nat.blt k 20 then (bif Nat.beq k 19 then some (.aload_n 0, 20, []) else none) else (bif Nat.beq k 20 then some (.getfield 33, 23, []) else none))) else (bif Nat.blt k 28 then (bif Nat.blt k 26 then (bif Nat.beq k 23 then some (.invokevirtual 132, 26, []) else none) else (bif Nat.beq k 26 then some (.bipush 12, 28, []) else none)) else (bif Nat.blt k 31 then (bif Nat.beq k 28 then some (.if_icmp .lt 5, 31, [33]) else none) else (bif Nat.blt k 32 then (bif Nat.beq k 31 then some (.iconst (-1), 32, []) else none) else (bif Nat.beq k 32 then some (.ireturn, 33, []) else none)))))) else (bif Nat.blt k 46 then (bif Nat.blt k 41 then (bif Nat.blt k 37 then (bif Nat.blt k 34 then (bif Nat.beq k 33 then some (.aload_n 0, 34, []) else none) else (bif Nat.beq k 34 then some (.getfield 33, 37, []) else none)) else (bif Nat.blt k 40 then (bif Nat.beq k 37 then some (.new 168, 40, []) else none) else (bif Nat.beq k 40 then some (.dup, 41, []) else none))) else (bif Nat.blt k 43 then (bif Nat.blt k 42 then (bif Nat.beq k 41 then some (.iload_n 1, 42, []) else none) else (bif Nat.beq k 42 then some (.iload_n 2, 43, []) else none)) else (bif Nat.blt k 44 then (bif Nat.beq k 43 then some (.iload_n 3, 44, []) else none) else (bif Nat.beq k 44 then some (.iload 4, 46, []) else none)))) else (bif Nat.blt k 54 then (bif Nat.blt k 52 then (bif Nat.blt k 49 then (bif Nat.beq k 46 then some (.invokespecial 170, 49, []) else none) else (bif Nat.beq k 49 then some (.invokevirtual 141, 52, []) else none)) else (bif Nat.blt k 53 then (bif Nat.beq k 52 then some (.pop, 53, []) else none) else (bif Nat.beq k 53 then some (.aload_n 0, 54, []) else none))) else (bif Nat.blt k 60 then (bif Nat.blt k 57 then (bif Nat.beq k 54 then some (.getfield 33, 57, []) else none) else (bif Nat.beq k 57 then some (.invokevirtual 132, 60, []) else none)) else (bif Nat.blt k 61 then (bif Nat.beq k 60 then some (.iconst 1, 61, []) else none) else (bif Nat.blt k 62 then (bif Nat.beq k 61 then some (.isub, 62, []) else none) else (bif Nat.beq k 62 then some (.ireturn, 63, []) else none))))))) else none
noncomputable def P_C_piece : MP := (T_C_piece, (fun k => mLook k [(33, (12, 4, (.object "java/util/ArrayList"), true))]), (fun k => mLook k []), (fun k => mLook k [(132, E_AL_size), (141, E_AL_add), (145, E_C_isIn), (161, E_C_isSpot), (170, E_Pi_init)]), (fun k => mLook k [(37, 7)]), (fun k => mLook k []), (fun k => mLook k []), (fun k => mLook k []), (fun k => [32, 62].any (Nat.beq k)), (11, 271, 2, 24), false, (fun _ => none))
set_option maxRecDepth 100000 in
set_option maxHeartbeats 4000000 in
theorem q_C_piece_e (a1 : Int32) (a2 : Int32) (a3 : Int32) (a4 : Int32) (σ : MSto) (n : Nat) : mexe KT P_C_piece (n + 1) (0, [some (mR 12 0), some (mI a1), some (mI a2), some (mI a3), some (mI a4)], [], σ, 0, 0) = mIf ((v_C_isSpot a1 a2 a3 σ) = 0) (some (32, [], [(mI (-1))], σ, 0, 0)) (mIf ((v_C_isIn a4 0 5 σ) = 0) (some (32, [], [(mI (-1))], σ, 0, 0)) (mIf ((v_AL_size 14 0 σ) < 12) (mG (p_AL_add 14 0 7 (gN σ 7) (e_Pi_init (gN σ 7) a1 a2 a3 a4 (sNew σ 7))) (some (62, [], [(mI ((v_AL_size 14 0 (e_AL_add 14 0 7 (gN σ 7) (e_Pi_init (gN σ 7) a1 a2 a3 a4 (sNew σ 7)))) - 1))], (e_AL_add 14 0 7 (gN σ 7) (e_Pi_init (gN σ 7) a1 a2 a3 a4 (sNew σ 7))), 2, 24))) (some (32, [], [(mI (-1))], σ, 0, 0)))) := rfl
set_option maxRecDepth 100000 in
set_option maxHeartbeats 4000000 in
theorem d_C_piece (a1 : Int32) (a2 : Int32) (a3 : Int32) (a4 : Int32) (σ : MSto) (hp : p_C_piece a1 a2 a3 a4 σ) : mW1 P_C_piece (0, [some (mR 12 0), some (mI a1), some (mI a2), some (mI a3), some (mI a4)], [], σ, 0, 0) (mF [32, 62] [mI (v_C_piece a1 a2 a3 a4 σ)] (e_C_piece a1 a2 a3 a4 σ) 2 24) := by
  refine mW1_eq (q_C_piece_e _ _ _ _ _) ?_
  unfold p_C_piece at hp
  refine mTr_if (fun h0 => ?_) (fun h0 => ?_)
  · skip
    exact mTr_e (by decide) (congrArg (fun z => [mI z]) (Eq.symm (if_pos h0))) (Eq.symm (if_pos h0)) (by decide) (by decide)
  · skip
    have hp := hp h0
    refine mTr_if (fun h1 => ?_) (fun h1 => ?_)
    · skip
      exact mTr_e (by decide) (congrArg (fun z => [mI z]) (Eq.symm ((if_neg h0).trans (if_pos h1)))) (Eq.symm ((if_neg h0).trans (if_pos h1))) (by decide) (by decide)
    · skip
      have hp := hp h1
      refine mTr_if (fun h2 => ?_) (fun h2 => ?_)
      · skip
        have hp := hp h2
        refine mTr_g hp ?_
        exact mTr_e (by decide) (congrArg (fun z => [mI z]) (Eq.symm ((if_neg h0).trans ((if_neg h1).trans (if_pos h2))))) (Eq.symm ((if_neg h0).trans ((if_neg h1).trans (if_pos h2)))) (by decide) (by decide)
      · skip
        exact mTr_e (by decide) (congrArg (fun z => [mI z]) (Eq.symm ((if_neg h0).trans ((if_neg h1).trans (if_neg h2))))) (Eq.symm ((if_neg h0).trans ((if_neg h1).trans (if_neg h2)))) (by decide) (by decide)
theorem li_C_170 : mLink "ClothWithMan" 170 E_Pi_init := ⟨tw_3_10, tw_1_17, ⟨by decide, by decide⟩, by decide +kernel, Or.inl tw_3_8, (fun h => by cases h), (fun h => by cases h), (fun _ => ⟨tw_3_9, rfl⟩)⟩





theorem tk_C_piece : ∀ pc i nx tg, T_C_piece pc = some (i, nx, tg) → mOkB prog_1_method_13_code pc i nx tg = true := code_ok (N := 63) (fun k h => by unfold T_C_piece; rw [h]; rfl) (by decide +kernel)
theorem al_C_piece : ∀ pc i nx tg kd, pCode P_C_piece pc = some (i, nx, tg) → pAlc P_C_piece pc = some kd → match i with
    | .new x => mAOK "ClothWithMan" x kd
    | .newarray t => mNAOK t kd
    | .anewarray x => mAAOK "ClothWithMan" x kd
    | .invokespecial x => Cond.methodLink "ClothWithMan" x Lib.objectInit ∈ lw_tbl
    | _ => True := by
  intro pc i nx tg kd h1 h2
  have h3 := mLook_mem h2
  simp only [List.mem_cons, Prod.mk.injEq, List.not_mem_nil, or_false] at h3
  rcases h3 with ⟨rfl, rfl⟩
  · have e : T_C_piece 37 = some (i, nx, tg) := h1
    cases e
    exact ⟨7, _, "ClothWithMan$Piece", TX6, rfl, by decide, rfl, tw_3_6, tw_3_7, tw_1_17, (lt_s (lt_s (lt_s (lt_s (lt_s (lt_s lt_0 ⟨.int, by decide +kernel, Or.inl ⟨rfl, rfl⟩⟩) ⟨.int, by decide +kernel, Or.inl ⟨rfl, rfl⟩⟩) ⟨.int, by decide +kernel, Or.inl ⟨rfl, rfl⟩⟩) ⟨.int, by decide +kernel, Or.inl ⟨rfl, rfl⟩⟩) ⟨.boolean, by decide +kernel, Or.inl ⟨rfl, rfl⟩⟩) ⟨.int, by decide +kernel, Or.inl ⟨rfl, rfl⟩⟩)⟩

theorem ok_C_piece (l : Launch) : mPOK l "ClothWithMan" prog_1_method_13_code P_C_piece := by
  refine ⟨tk_C_piece, ?_, ?_, ?_, al_C_piece, ?_, ?_, fun pc en h => by cases h⟩
  · intro x ci f ty fin h
    exact mLook_all (Q := fun x v => mFOK "ClothWithMan" x v.1 v.2.1 v.2.2.1 v.2.2.2 ∧ (v.2.2.2 = true → pIni P_C_piece = true → (Cond.fieldLink "ClothWithMan" x (((mCl[v.1]?).getD ("", fun _ => ("", "", "", false), 0)).2.1 v.2.1).1 (((mCl[v.1]?).getD ("", fun _ => ("", "", "", false), 0)).2.1 v.2.1).2.1 (((mCl[v.1]?).getD ("", fun _ => ("", "", "", false), 0)).2.1 v.2.1).2.2.1 ∈ lw_tbl ∧ (((mCl[v.1]?).getD ("", fun _ => ("", "", "", false), 0)).2.1 v.2.1).1 = "ClothWithMan"))) (fcC ⟨fo_C_33, fun h1 h2 => by cases h2⟩ fcN) x (ci, f, ty, fin) h
  · intro x
    have hh := mLook_all (l := ([] : List (Nat × (Int32 ⊕ Int64)))) (Q := fun x (v : Int32 ⊕ Int64) => (∀ w, v = .inl w → Cond.constant "ClothWithMan" x w ∈ lw_tbl) ∧ (∀ w, v = .inr w → Cond.constantLong "ClothWithMan" x w ∈ lw_tbl)) fcN x
    exact ⟨fun w h => (hh _ h).1 w rfl, fun w h => (hh _ h).2 w rfl⟩
  · exact fun x en h => mLook_all (Q := fun x en => mLink "ClothWithMan" x en ∧ mCtr l en ∧ (en.1.1 = 2 → en.2.2.2.2.2.2 = none)) (fcC ⟨li_C_132, c_AL_size l, (fun h => by cases h)⟩ (fcC ⟨li_C_141, c_AL_add l, (fun h => by cases h)⟩ (fcC ⟨li_C_145, c_C_isIn l, (fun h => by cases h)⟩ (fcC ⟨li_C_161, c_C_isSpot l, (fun h => by cases h)⟩ (fcC ⟨li_C_170, c_Pi_init l, (fun _ => rfl)⟩ fcN))))) x en h
  · exact fun x kd h => mLook_all (Q := fun x kd => (kd = 95 ∧ Cond.fieldLink "ClothWithMan" x "ClothWithMan" "LIKENESSES" "[I" ∈ lw_tbl) ∨ (kd = 96 ∧ Cond.fieldLink "ClothWithMan" x "ClothWithMan" "APART_BOUNDS" "[I" ∈ lw_tbl)) fcN x kd h
  · exact fun x ci h => mLook_all (Q := fun x ci => ci ≠ 0 ∧ ∃ (C : String) (T : u_T) (N : Nat), mCl[ci]? = some (C, T, N) ∧ Cond.classLink "ClothWithMan" x C ∈ lw_tbl ∧ Cond.instantiable C N ∈ lw_tbl) fcN x ci h
set_option maxRecDepth 100000 in
theorem c_C_piece (l : Launch) : mCtr l E_C_piece := mCtr_of (P := P_C_piece) (own := "ClothWithMan") mLay_ok rfl (by decide +kernel) rfl (ok_C_piece l) (fun h => by cases h) (fun as σ pr rv σ' hF hpr hlv => by
  unfold E_C_piece S_C_piece at hF
  simp only [] at hF
  split at hF
  · cases hF
    obtain ⟨n, pcF, c1, s1, g1, g2, g3, g4⟩ := mF_inv (d_C_piece _ _ _ _ σ (hpr _ rfl))
    exact ⟨Nat.le_of_ble_eq_true rfl, (fun v h => by cases h; trivial), n, pcF, c1, s1, g1, ⟨mEnd_of (i := .ireturn) (P := P_C_piece) (rets := [32, 62]) rfl g2, rfl⟩, g3, g4⟩
  · cases hF
    exact (hpr _ rfl).elim)
/-! ClothWithMan.truth(I)I -/
noncomputable def v_C_truth (a1 : Int32) (σ : MSto) : Int32 := (v_C_trueOf (v_AL_get 14 0 a1 σ) σ)
def p_C_truth (a1 : Int32) (σ : MSto) : Prop := ((((v_C_isPiece a1 σ) = 0) → False) ∧ (¬ ((v_C_isPiece a1 σ) = 0) → ((p_AL_get 14 0 a1 σ) ∧ (p_C_trueOf (v_AL_get 14 0 a1 σ) σ))))
noncomputable def S_C_truth : List MV → MSto → Option Prop × Option MV × MSto := fun as σ => match as with
  | [.inr (.inr (some (12, 0))), .inl a0] => (some (p_C_truth a0 σ), some (mI (v_C_truth a0 σ)), σ)
  | _ => (some False, none, σ)
noncomputable def E_C_truth : MEnt := ((1, 1, 12), (9, 195, 0, 0), S_C_truth, ((⟨"ClothWithMan", "truth", "(I)I"⟩ : MethodName), prog_1_method_14_code, 2, (some .int)))

def T_C_truth : Nat → Option (Instr × Nat × List Nat) := fun k => bif Nat.blt k 34 then (bif Nat.blt k 17 then (bif Nat.blt k 8 then (bif Nat.blt k 2 then (bif Nat.blt k 1 then (bif Nat.beq k 0 then some (.aload_n 0, 1, []) else none) else (bif Nat.beq k 1 then some (.iload_n 1, 2, []) else none)) else (bif Nat.blt k 5 then (bif Nat.beq k 2 then some (.invokevirtual 173, 5, []) else none) else (bif Nat.beq k 5 then some (.ifCond .ne 13, 8, [18]) else none))) else (bif Nat.blt k 12 then (bif Nat.blt k 11 then (bif Nat.beq k 8 then some (.new 176, 11, []) else none) else (bif Nat.beq k 11 then some (.dup, 12, []) else none)) else (bif Nat.blt k 14 then (bif Nat.beq k 12 then some (.ldc 178, 14, []) else none) else (bif Nat.beq k 14 then some (.invokespecial 180, 17, []) else none)))) else (bif Nat.blt k 23 then (bif Nat.blt k 19 then (bif Nat.blt k 18 then (bif Nat.beq k 17 then some (.athrow, 18, []) else none) else (bif Nat.beq k 18 then some (.aload_n 0, 19, []) else none)) else (bif Nat.blt k 20 then (bif Nat.beq k 19 then some (.aload_n 0, 20, []) else none) else (bif Nat.beq k 20 then some (.getfield 33, 23, []) else none))) else (bif Nat.blt k 27 then (bif Nat.blt k 24 then (bif Nat.beq k 23 then some (.iload_n 1, 24, []) else none) else (bif Nat.beq k 24 then some (.invokevirtual 183, 27, []) else none)) else (bif Nat.blt k 30 then (bif Nat.beq k 27 then some (.checkcast 168, 30, []) else none) else (bif Nat.blt k 33 then (bif Nat.beq k 30 then some (.invokevirtual 187, 33, []) else none) else (bif Nat.beq k 33 then some (.ireturn, 34, []) else none)))))) else none
noncomputable def P_C_truth : MP := (T_C_truth, (fun k => mLook k [(33, (12, 4, (.object "java/util/ArrayList"), true))]), (fun k => mLook k []), (fun k => mLook k [(173, E_C_isPiece), (183, E_AL_get), (187, E_C_trueOf)]), (fun k => mLook k []), (fun k => mLook k []), (fun k => mLook k [(168, 7)]), (fun k => mLook k []), (fun k => [17, 33].any (Nat.beq k)), (9, 195, 0, 0), false, (fun _ => none))
set_option maxRecDepth 100000 in
set_option maxHeartbeats 4000000 in
theorem q_C_truth_e (a1 : Int32) (σ : MSto) (n : Nat) : mexe KT P_C_truth (n + 1) (0, [some (mR 12 0), some (mI a1)], [], σ, 0, 0) = mIf ((v_C_isPiece a1 σ) = 0) (none) (mG (p_AL_get 14 0 a1 σ) (mG (p_C_trueOf (v_AL_get 14 0 a1 σ) σ) (some (33, [], [(mI (v_C_trueOf (v_AL_get 14 0 a1 σ) σ))], σ, 0, 0)))) := rfl
set_option maxRecDepth 100000 in
set_option maxHeartbeats 4000000 in
theorem d_C_truth (a1 : Int32) (σ : MSto) (hp : p_C_truth a1 σ) : mW1 P_C_truth (0, [some (mR 12 0), some (mI a1)], [], σ, 0, 0) (mF [33] [mI (v_C_truth a1 σ)] σ 0 0) := by
  refine mW1_eq (q_C_truth_e _ _) ?_
  unfold p_C_truth at hp
  refine mTr_if (fun h0 => ?_) (fun h0 => ?_)
  · skip
    have hp := hp.1 h0
    exact hp.elim
  · skip
    have hp := hp.2 h0
    refine mTr_g hp.1 ?_
    have hp := hp.2
    refine mTr_g hp ?_
    exact mTr_e (by decide) (congrArg (fun z => [mI z]) (Eq.symm (rfl))) rfl (by decide) (by decide)
theorem li_C_187 : mLink "ClothWithMan" 187 E_C_trueOf := ⟨tw_5_151, tw_1_1, ⟨by decide, by decide⟩, by decide +kernel, Or.inl tw_5_148, (fun h => by cases h), (fun _ => ⟨tw_5_150, tw_0_44, TX11, 20, rfl⟩), (fun h => by cases h)⟩


theorem li_C_173 : mLink "ClothWithMan" 173 E_C_isPiece := ⟨tw_3_44, tw_1_1, ⟨by decide, by decide⟩, by decide +kernel, Or.inl tw_3_41, (fun h => by cases h), (fun _ => ⟨tw_3_43, tw_0_5, TX11, 20, rfl⟩), (fun h => by cases h)⟩

theorem tk_C_truth : ∀ pc i nx tg, T_C_truth pc = some (i, nx, tg) → mOkB prog_1_method_14_code pc i nx tg = true := code_ok (N := 34) (fun k h => by unfold T_C_truth; rw [h]; rfl) (by decide +kernel)
theorem ok_C_truth (l : Launch) : mPOK l "ClothWithMan" prog_1_method_14_code P_C_truth := by
  refine ⟨tk_C_truth, ?_, ?_, ?_, (fun pc i nx tg kd _ h => by cases h), ?_, ?_, fun pc en h => by cases h⟩
  · intro x ci f ty fin h
    exact mLook_all (Q := fun x v => mFOK "ClothWithMan" x v.1 v.2.1 v.2.2.1 v.2.2.2 ∧ (v.2.2.2 = true → pIni P_C_truth = true → (Cond.fieldLink "ClothWithMan" x (((mCl[v.1]?).getD ("", fun _ => ("", "", "", false), 0)).2.1 v.2.1).1 (((mCl[v.1]?).getD ("", fun _ => ("", "", "", false), 0)).2.1 v.2.1).2.1 (((mCl[v.1]?).getD ("", fun _ => ("", "", "", false), 0)).2.1 v.2.1).2.2.1 ∈ lw_tbl ∧ (((mCl[v.1]?).getD ("", fun _ => ("", "", "", false), 0)).2.1 v.2.1).1 = "ClothWithMan"))) (fcC ⟨fo_C_33, fun h1 h2 => by cases h2⟩ fcN) x (ci, f, ty, fin) h
  · intro x
    have hh := mLook_all (l := ([] : List (Nat × (Int32 ⊕ Int64)))) (Q := fun x (v : Int32 ⊕ Int64) => (∀ w, v = .inl w → Cond.constant "ClothWithMan" x w ∈ lw_tbl) ∧ (∀ w, v = .inr w → Cond.constantLong "ClothWithMan" x w ∈ lw_tbl)) fcN x
    exact ⟨fun w h => (hh _ h).1 w rfl, fun w h => (hh _ h).2 w rfl⟩
  · exact fun x en h => mLook_all (Q := fun x en => mLink "ClothWithMan" x en ∧ mCtr l en ∧ (en.1.1 = 2 → en.2.2.2.2.2.2 = none)) (fcC ⟨li_C_173, c_C_isPiece l, (fun h => by cases h)⟩ (fcC ⟨li_C_183, c_AL_get l, (fun h => by cases h)⟩ (fcC ⟨li_C_187, c_C_trueOf l, (fun h => by cases h)⟩ fcN))) x en h
  · exact fun x kd h => mLook_all (Q := fun x kd => (kd = 95 ∧ Cond.fieldLink "ClothWithMan" x "ClothWithMan" "LIKENESSES" "[I" ∈ lw_tbl) ∨ (kd = 96 ∧ Cond.fieldLink "ClothWithMan" x "ClothWithMan" "APART_BOUNDS" "[I" ∈ lw_tbl)) fcN x kd h
  · exact fun x ci h => mLook_all (Q := fun x ci => ci ≠ 0 ∧ ∃ (C : String) (T : u_T) (N : Nat), mCl[ci]? = some (C, T, N) ∧ Cond.classLink "ClothWithMan" x C ∈ lw_tbl ∧ Cond.instantiable C N ∈ lw_tbl) (fcC ⟨by decide, "ClothWithMan$Piece", TX6, 6, rfl, tw_3_6, tw_3_7⟩ fcN) x ci h
set_option maxRecDepth 100000 in
theorem c_C_truth (l : Launch) : mCtr l E_C_truth := mCtr_of (P := P_C_truth) (own := "ClothWithMan") mLay_ok rfl (by decide +kernel) rfl (ok_C_truth l) (fun h => by cases h) (fun as σ pr rv σ' hF hpr hlv => by
  unfold E_C_truth S_C_truth at hF
  simp only [] at hF
  split at hF
  · cases hF
    obtain ⟨n, pcF, c1, s1, g1, g2, g3, g4⟩ := mF_inv (d_C_truth _ σ (hpr _ rfl))
    exact ⟨Nat.le_of_ble_eq_true rfl, (fun v h => by cases h; trivial), n, pcF, c1, s1, g1, ⟨mEnd_of (i := .ireturn) (P := P_C_truth) (rets := [33]) rfl g2, rfl⟩, g3, g4⟩
  · cases hF
    exact (hpr _ rfl).elim)
/-! ClothWithMan.count(II)Z -/
def b_C_count (a1 : Int32) (a2 : Int32) (σ : MSto) : Prop := (if (v_C_isPiece a1 σ) = 0 then False else (if (v_C_isIn a2 (-99) 1999 σ) = 0 then False else True))
noncomputable def v_C_count (a1 : Int32) (a2 : Int32) (σ : MSto) : Int32 := bI (b_C_count a1 a2 σ)
def p_C_count (a1 : Int32) (a2 : Int32) (σ : MSto) : Prop := (¬ ((v_C_isPiece a1 σ) = 0) → (¬ ((v_C_isIn a2 (-99) 1999 σ) = 0) → ((p_AL_get 14 0 a1 σ) ∧ (p_Pi_tell (v_AL_get 14 0 a1 σ) a2 σ))))
noncomputable def e_C_count (a1 : Int32) (a2 : Int32) (σ : MSto) : MSto := (if (v_C_isPiece a1 σ) = 0 then σ else (if (v_C_isIn a2 (-99) 1999 σ) = 0 then σ else (e_Pi_tell (v_AL_get 14 0 a1 σ) a2 σ)))
noncomputable def S_C_count : List MV → MSto → Option Prop × Option MV × MSto := fun as σ => match as with
  | [.inr (.inr (some (12, 0))), .inl a0, .inl a1] => (some (p_C_count a0 a1 σ), some (mI (v_C_count a0 a1 σ)), e_C_count a0 a1 σ)
  | _ => (some False, none, σ)
noncomputable def E_C_count : MEnt := ((1, 2, 12), (6, 121, 0, 0), S_C_count, ((⟨"ClothWithMan", "count", "(II)Z"⟩ : MethodName), prog_1_method_15_code, 3, (some .boolean)))

def T_C_count : Nat → Option (Instr × Nat × List Nat) := fun k => bif Nat.blt k 39 then (bif Nat.blt k 21 then (bif Nat.blt k 9 then (bif Nat.blt k 2 then (bif Nat.blt k 1 then (bif Nat.beq k 0 then some (.aload_n 0, 1, []) else none) else (bif Nat.beq k 1 then some (.iload_n 1, 2, []) else none)) else (bif Nat.blt k 5 then (bif Nat.beq k 2 then some (.invokevirtual 173, 5, []) else none) else (bif Nat.blt k 8 then (bif Nat.beq k 5 then some (.ifCond .eq 15, 8, [20]) else none) else (bif Nat.beq k 8 then some (.iload_n 2, 9, []) else none)))) else (bif Nat.blt k 14 then (bif Nat.blt k 11 then (bif Nat.beq k 9 then some (.bipush (-99), 11, []) else none) else (bif Nat.beq k 11 then some (.sipush 1999, 14, []) else none)) else (bif Nat.blt k 17 then (bif Nat.beq k 14 then some (.invokestatic 145, 17, []) else none) else (bif Nat.blt k 20 then (bif Nat.beq k 17 then some (.ifCond .ne 5, 20, [22]) else none) else (bif Nat.beq k 20 then some (.iconst 0, 21, []) else none))))) else (bif Nat.blt k 30 then (bif Nat.blt k 23 then (bif Nat.blt k 22 then (bif Nat.beq k 21 then some (.ireturn, 22, []) else none) else (bif Nat.beq k 22 then some (.aload_n 0, 23, []) else none)) else (bif Nat.blt k 26 then (bif Nat.beq k 23 then some (.getfield 33, 26, []) else none) else (bif Nat.blt k 27 then (bif Nat.beq k 26 then some (.iload_n 1, 27, []) else none) else (bif Nat.beq k 27 then some (.invokevirtual 183, 30, []) else none)))) else (bif Nat.blt k 34 then (bif Nat.blt k 33 then (bif Nat.beq k 30 then some (.checkcast 168, 33, []) else none) else (bif Nat.beq k 33 then some (.iload_n 2, 34, []) else none)) else (bif Nat.blt k 37 then (bif Nat.beq k 34 then some (.invokevirtual 191, 37, []) else none) else (bif Nat.blt k 38 then (bif Nat.beq k 37 then some (.iconst 1, 38, []) else none) else (bif Nat.beq k 38 then some (.ireturn, 39, []) else none)))))) else none
noncomputable def P_C_count : MP := (T_C_count, (fun k => mLook k [(33, (12, 4, (.object "java/util/ArrayList"), true))]), (fun k => mLook k []), (fun k => mLook k [(145, E_C_isIn), (173, E_C_isPiece), (183, E_AL_get), (191, E_Pi_tell)]), (fun k => mLook k []), (fun k => mLook k []), (fun k => mLook k [(168, 7)]), (fun k => mLook k []), (fun k => [21, 38].any (Nat.beq k)), (6, 121, 0, 0), false, (fun _ => none))
set_option maxRecDepth 100000 in
set_option maxHeartbeats 4000000 in
theorem q_C_count_e (a1 : Int32) (a2 : Int32) (σ : MSto) (n : Nat) : mexe KT P_C_count (n + 1) (0, [some (mR 12 0), some (mI a1), some (mI a2)], [], σ, 0, 0) = mIf ((v_C_isPiece a1 σ) = 0) (some (21, [], [(mI 0)], σ, 0, 0)) (mIf ((v_C_isIn a2 (-99) 1999 σ) = 0) (some (21, [], [(mI 0)], σ, 0, 0)) (mG (p_AL_get 14 0 a1 σ) (mG (p_Pi_tell (v_AL_get 14 0 a1 σ) a2 σ) (some (38, [], [(mI 1)], (e_Pi_tell (v_AL_get 14 0 a1 σ) a2 σ), 0, 0))))) := rfl
set_option maxRecDepth 100000 in
set_option maxHeartbeats 4000000 in
theorem d_C_count (a1 : Int32) (a2 : Int32) (σ : MSto) (hp : p_C_count a1 a2 σ) : mW1 P_C_count (0, [some (mR 12 0), some (mI a1), some (mI a2)], [], σ, 0, 0) (mF [21, 38] [mI (v_C_count a1 a2 σ)] (e_C_count a1 a2 σ) 0 0) := by
  refine mW1_eq (q_C_count_e _ _ _) ?_
  unfold p_C_count at hp
  unfold v_C_count
  refine mTr_if (fun h0 => ?_) (fun h0 => ?_)
  · skip
    exact mTr_e (by decide) (bI_F (if_pos h0)) (Eq.symm (if_pos h0)) (by decide) (by decide)
  · skip
    have hp := hp h0
    refine mTr_if (fun h1 => ?_) (fun h1 => ?_)
    · skip
      exact mTr_e (by decide) (bI_F ((if_neg h0).trans (if_pos h1))) (Eq.symm ((if_neg h0).trans (if_pos h1))) (by decide) (by decide)
    · skip
      have hp := hp h1
      refine mTr_g hp.1 ?_
      have hp := hp.2
      refine mTr_g hp ?_
      exact mTr_e (by decide) (bI_T ((if_neg h0).trans (if_neg h1))) (Eq.symm ((if_neg h0).trans (if_neg h1))) (by decide) (by decide)
theorem li_C_191 : mLink "ClothWithMan" 191 E_Pi_tell := ⟨tw_3_53, tw_1_17, ⟨by decide, by decide⟩, by decide +kernel, Or.inl tw_3_50, (fun h => by cases h), (fun _ => ⟨tw_3_51, tw_3_52, TX6, 6, rfl⟩), (fun h => by cases h)⟩




theorem tk_C_count : ∀ pc i nx tg, T_C_count pc = some (i, nx, tg) → mOkB prog_1_method_15_code pc i nx tg = true := code_ok (N := 39) (fun k h => by unfold T_C_count; rw [h]; rfl) (by decide +kernel)
theorem ok_C_count (l : Launch) : mPOK l "ClothWithMan" prog_1_method_15_code P_C_count := by
  refine ⟨tk_C_count, ?_, ?_, ?_, (fun pc i nx tg kd _ h => by cases h), ?_, ?_, fun pc en h => by cases h⟩
  · intro x ci f ty fin h
    exact mLook_all (Q := fun x v => mFOK "ClothWithMan" x v.1 v.2.1 v.2.2.1 v.2.2.2 ∧ (v.2.2.2 = true → pIni P_C_count = true → (Cond.fieldLink "ClothWithMan" x (((mCl[v.1]?).getD ("", fun _ => ("", "", "", false), 0)).2.1 v.2.1).1 (((mCl[v.1]?).getD ("", fun _ => ("", "", "", false), 0)).2.1 v.2.1).2.1 (((mCl[v.1]?).getD ("", fun _ => ("", "", "", false), 0)).2.1 v.2.1).2.2.1 ∈ lw_tbl ∧ (((mCl[v.1]?).getD ("", fun _ => ("", "", "", false), 0)).2.1 v.2.1).1 = "ClothWithMan"))) (fcC ⟨fo_C_33, fun h1 h2 => by cases h2⟩ fcN) x (ci, f, ty, fin) h
  · intro x
    have hh := mLook_all (l := ([] : List (Nat × (Int32 ⊕ Int64)))) (Q := fun x (v : Int32 ⊕ Int64) => (∀ w, v = .inl w → Cond.constant "ClothWithMan" x w ∈ lw_tbl) ∧ (∀ w, v = .inr w → Cond.constantLong "ClothWithMan" x w ∈ lw_tbl)) fcN x
    exact ⟨fun w h => (hh _ h).1 w rfl, fun w h => (hh _ h).2 w rfl⟩
  · exact fun x en h => mLook_all (Q := fun x en => mLink "ClothWithMan" x en ∧ mCtr l en ∧ (en.1.1 = 2 → en.2.2.2.2.2.2 = none)) (fcC ⟨li_C_145, c_C_isIn l, (fun h => by cases h)⟩ (fcC ⟨li_C_173, c_C_isPiece l, (fun h => by cases h)⟩ (fcC ⟨li_C_183, c_AL_get l, (fun h => by cases h)⟩ (fcC ⟨li_C_191, c_Pi_tell l, (fun h => by cases h)⟩ fcN)))) x en h
  · exact fun x kd h => mLook_all (Q := fun x kd => (kd = 95 ∧ Cond.fieldLink "ClothWithMan" x "ClothWithMan" "LIKENESSES" "[I" ∈ lw_tbl) ∨ (kd = 96 ∧ Cond.fieldLink "ClothWithMan" x "ClothWithMan" "APART_BOUNDS" "[I" ∈ lw_tbl)) fcN x kd h
  · exact fun x ci h => mLook_all (Q := fun x ci => ci ≠ 0 ∧ ∃ (C : String) (T : u_T) (N : Nat), mCl[ci]? = some (C, T, N) ∧ Cond.classLink "ClothWithMan" x C ∈ lw_tbl ∧ Cond.instantiable C N ∈ lw_tbl) (fcC ⟨by decide, "ClothWithMan$Piece", TX6, 6, rfl, tw_3_6, tw_3_7⟩ fcN) x ci h
set_option maxRecDepth 100000 in
theorem c_C_count (l : Launch) : mCtr l E_C_count := mCtr_of (P := P_C_count) (own := "ClothWithMan") mLay_ok rfl (by decide +kernel) rfl (ok_C_count l) (fun h => by cases h) (fun as σ pr rv σ' hF hpr hlv => by
  unfold E_C_count S_C_count at hF
  simp only [] at hF
  split at hF
  · cases hF
    obtain ⟨n, pcF, c1, s1, g1, g2, g3, g4⟩ := mF_inv (d_C_count _ _ σ (hpr _ rfl))
    exact ⟨Nat.le_of_ble_eq_true rfl, (fun v h => by cases h; trivial), n, pcF, c1, s1, g1, ⟨mEnd_of (i := .ireturn) (P := P_C_count) (rets := [21, 38]) rfl g2, bI_narrow _⟩, g3, g4⟩
  · cases hF
    exact (hpr _ rfl).elim)
/-! ClothWithMan.draw(I)I -/
noncomputable def vj_C_draw_j61 (r2 : Nat) (σ : MSto) : Int32 := (gI σ 7 r2 5)
noncomputable def ej_C_draw_j61 (r2 : Nat) (σ : MSto) : MSto := σ
noncomputable def v_C_draw (a1 : Int32) (σ : MSto) : Int32 := (vj_C_draw_j61 (v_AL_get 14 0 a1 σ) (e_Pi_tell (v_AL_get 14 0 a1 σ) (((v_C_trueOf (v_AL_get 14 0 a1 σ) σ) + (v_C_lotOf ((2 * (gI σ 21 0 (Int32.toNatClampNeg (gI σ 7 (v_AL_get 14 0 a1 σ) 3)))) + 1) σ)) - (gI σ 21 0 (Int32.toNatClampNeg (gI σ 7 (v_AL_get 14 0 a1 σ) 3)))) (e_C_lotOf ((2 * (gI σ 21 0 (Int32.toNatClampNeg (gI σ 7 (v_AL_get 14 0 a1 σ) 3)))) + 1) σ)))
def p_C_draw (a1 : Int32) (σ : MSto) : Prop := ((((v_C_isPiece a1 σ) = 0) → False) ∧ (¬ ((v_C_isPiece a1 σ) = 0) → ((p_AL_get 14 0 a1 σ) ∧ ((vp_in (gI σ 7 (v_AL_get 14 0 a1 σ) 3) 6) ∧ ((p_C_trueOf (v_AL_get 14 0 a1 σ) σ) ∧ ((p_C_lotOf ((2 * (gI σ 21 0 (Int32.toNatClampNeg (gI σ 7 (v_AL_get 14 0 a1 σ) 3)))) + 1) σ) ∧ (p_Pi_tell (v_AL_get 14 0 a1 σ) (((v_C_trueOf (v_AL_get 14 0 a1 σ) σ) + (v_C_lotOf ((2 * (gI σ 21 0 (Int32.toNatClampNeg (gI σ 7 (v_AL_get 14 0 a1 σ) 3)))) + 1) σ)) - (gI σ 21 0 (Int32.toNatClampNeg (gI σ 7 (v_AL_get 14 0 a1 σ) 3)))) (e_C_lotOf ((2 * (gI σ 21 0 (Int32.toNatClampNeg (gI σ 7 (v_AL_get 14 0 a1 σ) 3)))) + 1) σ))))))))
noncomputable def e_C_draw (a1 : Int32) (σ : MSto) : MSto := (ej_C_draw_j61 (v_AL_get 14 0 a1 σ) (e_Pi_tell (v_AL_get 14 0 a1 σ) (((v_C_trueOf (v_AL_get 14 0 a1 σ) σ) + (v_C_lotOf ((2 * (gI σ 21 0 (Int32.toNatClampNeg (gI σ 7 (v_AL_get 14 0 a1 σ) 3)))) + 1) σ)) - (gI σ 21 0 (Int32.toNatClampNeg (gI σ 7 (v_AL_get 14 0 a1 σ) 3)))) (e_C_lotOf ((2 * (gI σ 21 0 (Int32.toNatClampNeg (gI σ 7 (v_AL_get 14 0 a1 σ) 3)))) + 1) σ)))
noncomputable def S_C_draw : List MV → MSto → Option Prop × Option MV × MSto := fun as σ => match as with
  | [.inr (.inr (some (12, 0))), .inl a0] => (some (p_C_draw a0 σ), some (mI (v_C_draw a0 σ)), e_C_draw a0 σ)
  | _ => (some False, none, σ)
noncomputable def E_C_draw : MEnt := ((1, 1, 12), (9, 195, 0, 0), S_C_draw, ((⟨"ClothWithMan", "draw", "(I)I"⟩ : MethodName), prog_1_method_16_code, 4, (some .int)))

def T_C_draw : Nat → Option (Instr × Nat × List Nat) := fun k => bif Nat.blt k 66 then (bif Nat.blt k 38 then (bif Nat.blt k 18 then (bif Nat.blt k 8 then (bif Nat.blt k 2 then (bif Nat.blt k 1 then (bif Nat.beq k 0 then some (.aload_n 0, 1, []) else none) else (bif Nat.beq k 1 then some (.iload_n 1, 2, []) else none)) else (bif Nat.blt k 5 then (bif Nat.beq k 2 then some (.invokevirtual 173, 5, []) else none) else (bif Nat.beq k 5 then some (.ifCond .ne 13, 8, [18]) else none))) else (bif Nat.blt k 12 then (bif Nat.blt k 11 then (bif Nat.beq k 8 then some (.new 176, 11, []) else none) else (bif Nat.beq k 11 then some (.dup, 12, []) else none)) else (bif Nat.blt k 14 then (bif Nat.beq k 12 then some (.ldc 178, 14, []) else none) else (bif Nat.blt k 17 then (bif Nat.beq k 14 then some (.invokespecial 180, 17, []) else none) else (bif Nat.beq k 17 then some (.athrow, 18, []) else none))))) else (bif Nat.blt k 29 then (bif Nat.blt k 22 then (bif Nat.blt k 19 then (bif Nat.beq k 18 then some (.aload_n 0, 19, []) else none) else (bif Nat.beq k 19 then some (.getfield 33, 22, []) else none)) else (bif Nat.blt k 23 then (bif Nat.beq k 22 then some (.iload_n 1, 23, []) else none) else (bif Nat.blt k 26 then (bif Nat.beq k 23 then some (.invokevirtual 183, 26, []) else none) else (bif Nat.beq k 26 then some (.checkcast 168, 29, []) else none)))) else (bif Nat.blt k 31 then (bif Nat.blt k 30 then (bif Nat.beq k 29 then some (.astore_n 2, 30, []) else none) else (bif Nat.beq k 30 then some (.aload_n 0, 31, []) else none)) else (bif Nat.blt k 34 then (bif Nat.beq k 31 then some (.getfield 27, 34, []) else none) else (bif Nat.blt k 35 then (bif Nat.beq k 34 then some (.aload_n 2, 35, []) else none) else (bif Nat.beq k 35 then some (.getfield 195, 38, []) else none)))))) else (bif Nat.blt k 50 then (bif Nat.blt k 43 then (bif Nat.blt k 40 then (bif Nat.blt k 39 then (bif Nat.beq k 38 then some (.iaload, 39, []) else none) else (bif Nat.beq k 39 then some (.istore_n 3, 40, []) else none)) else (bif Nat.blt k 41 then (bif Nat.beq k 40 then some (.aload_n 2, 41, []) else none) else (bif Nat.blt k 42 then (bif Nat.beq k 41 then some (.aload_n 0, 42, []) else none) else (bif Nat.beq k 42 then some (.aload_n 2, 43, []) else none)))) else (bif Nat.blt k 47 then (bif Nat.blt k 46 then (bif Nat.beq k 43 then some (.invokevirtual 187, 46, []) else none) else (bif Nat.beq k 46 then some (.aload_n 0, 47, []) else none)) else (bif Nat.blt k 48 then (bif Nat.beq k 47 then some (.iconst 2, 48, []) else none) else (bif Nat.blt k 49 then (bif Nat.beq k 48 then some (.iload_n 3, 49, []) else none) else (bif Nat.beq k 49 then some (.imul, 50, []) else none))))) else (bif Nat.blt k 57 then (bif Nat.blt k 52 then (bif Nat.blt k 51 then (bif Nat.beq k 50 then some (.iconst 1, 51, []) else none) else (bif Nat.beq k 51 then some (.iadd, 52, []) else none)) else (bif Nat.blt k 55 then (bif Nat.beq k 52 then some (.invokevirtual 198, 55, []) else none) else (bif Nat.blt k 56 then (bif Nat.beq k 55 then some (.iadd, 56, []) else none) else (bif Nat.beq k 56 then some (.iload_n 3, 57, []) else none)))) else (bif Nat.blt k 61 then (bif Nat.blt k 58 then (bif Nat.beq k 57 then some (.isub, 58, []) else none) else (bif Nat.beq k 58 then some (.invokevirtual 191, 61, []) else none)) else (bif Nat.blt k 62 then (bif Nat.beq k 61 then some (.aload_n 2, 62, []) else none) else (bif Nat.blt k 65 then (bif Nat.beq k 62 then some (.getfield 201, 65, []) else none) else (bif Nat.beq k 65 then some (.ireturn, 66, []) else none))))))) else none
noncomputable def P_C_draw : MP := (T_C_draw, (fun k => mLook k [(27, (12, 3, (.array .int), true)), (33, (12, 4, (.object "java/util/ArrayList"), true)), (195, (7, 3, .int, true)), (201, (7, 5, .int, false))]), (fun k => mLook k []), (fun k => mLook k [(173, E_C_isPiece), (183, E_AL_get), (187, E_C_trueOf), (191, E_Pi_tell), (198, E_C_lotOf)]), (fun k => mLook k []), (fun k => mLook k []), (fun k => mLook k [(168, 7)]), (fun k => mLook k [(61, [false, false, true, false])]), (fun k => [17, 65].any (Nat.beq k)), (9, 195, 0, 0), false, (fun _ => none))
set_option maxRecDepth 100000 in
set_option maxHeartbeats 4000000 in
theorem q_C_draw_e (a1 : Int32) (σ : MSto) (n : Nat) : mexe KT P_C_draw (n + 1) (0, [some (mR 12 0), some (mI a1), none, none], [], σ, 0, 0) = mIf ((v_C_isPiece a1 σ) = 0) (none) (mG (p_AL_get 14 0 a1 σ) (mG (vp_in (gI σ 7 (v_AL_get 14 0 a1 σ) 3) 6) (mG (p_C_trueOf (v_AL_get 14 0 a1 σ) σ) (mG (p_C_lotOf ((2 * (gI σ 21 0 (Int32.toNatClampNeg (gI σ 7 (v_AL_get 14 0 a1 σ) 3)))) + 1) σ) (mG (p_Pi_tell (v_AL_get 14 0 a1 σ) (((v_C_trueOf (v_AL_get 14 0 a1 σ) σ) + (v_C_lotOf ((2 * (gI σ 21 0 (Int32.toNatClampNeg (gI σ 7 (v_AL_get 14 0 a1 σ) 3)))) + 1) σ)) - (gI σ 21 0 (Int32.toNatClampNeg (gI σ 7 (v_AL_get 14 0 a1 σ) 3)))) (e_C_lotOf ((2 * (gI σ 21 0 (Int32.toNatClampNeg (gI σ 7 (v_AL_get 14 0 a1 σ) 3)))) + 1) σ)) (mexe KT P_C_draw n (61, [none, none, some (mR 7 (v_AL_get 14 0 a1 σ)), none], [], (e_Pi_tell (v_AL_get 14 0 a1 σ) (((v_C_trueOf (v_AL_get 14 0 a1 σ) σ) + (v_C_lotOf ((2 * (gI σ 21 0 (Int32.toNatClampNeg (gI σ 7 (v_AL_get 14 0 a1 σ) 3)))) + 1) σ)) - (gI σ 21 0 (Int32.toNatClampNeg (gI σ 7 (v_AL_get 14 0 a1 σ) 3)))) (e_C_lotOf ((2 * (gI σ 21 0 (Int32.toNatClampNeg (gI σ 7 (v_AL_get 14 0 a1 σ) 3)))) + 1) σ)), 0, 0))))))) := rfl
set_option maxRecDepth 100000 in
set_option maxHeartbeats 4000000 in
theorem q_C_draw_61 (r2 : Nat) (σ : MSto) (n : Nat) : mexe KT P_C_draw (n + 1) (61, [none, none, some (mR 7 r2), none], [], σ, 0, 0) = some (65, [], [(mI (gI σ 7 r2 5))], σ, 0, 0) := rfl
set_option maxRecDepth 100000 in
theorem lj_C_draw_j61 (r2 : Nat) (σ : MSto) : mW1 P_C_draw (61, [none, none, some (mR 7 r2), none], [], σ, 0, 0) (mF [65] [mI (vj_C_draw_j61 r2 σ)] (ej_C_draw_j61 r2 σ) 0 0) := by
  refine mW1_eq (q_C_draw_61 _ _) ?_
  exact mTr_e (by decide) (congrArg (fun z => [mI z]) (Eq.symm (rfl))) (Eq.symm (rfl)) (by decide) (by decide)
set_option maxRecDepth 100000 in
set_option maxHeartbeats 4000000 in
theorem d_C_draw (a1 : Int32) (σ : MSto) (hp : p_C_draw a1 σ) : mW1 P_C_draw (0, [some (mR 12 0), some (mI a1), none, none], [], σ, 0, 0) (mF [65] [mI (v_C_draw a1 σ)] (e_C_draw a1 σ) 0 0) := by
  refine mW1_eq (q_C_draw_e _ _) ?_
  unfold p_C_draw at hp
  refine mTr_if (fun h0 => ?_) (fun h0 => ?_)
  · skip
    have hp := hp.1 h0
    exact hp.elim
  · skip
    have hp := hp.2 h0
    refine mTr_g hp.1 ?_
    have hp := hp.2
    refine mTr_g hp.1 ?_
    have hp := hp.2
    refine mTr_g hp.1 ?_
    have hp := hp.2
    refine mTr_g hp.1 ?_
    have hp := hp.2
    refine mTr_g hp ?_
    exact mTr_k (mF_cI (rfl) (rfl) (lj_C_draw_j61 (v_AL_get 14 0 a1 σ) (e_Pi_tell (v_AL_get 14 0 a1 σ) (((v_C_trueOf (v_AL_get 14 0 a1 σ) σ) + (v_C_lotOf ((2 * (gI σ 21 0 (Int32.toNatClampNeg (gI σ 7 (v_AL_get 14 0 a1 σ) 3)))) + 1) σ)) - (gI σ 21 0 (Int32.toNatClampNeg (gI σ 7 (v_AL_get 14 0 a1 σ) 3)))) (e_C_lotOf ((2 * (gI σ 21 0 (Int32.toNatClampNeg (gI σ 7 (v_AL_get 14 0 a1 σ) 3)))) + 1) σ))))
theorem li_C_198 : mLink "ClothWithMan" 198 E_C_lotOf := ⟨tw_5_162, tw_1_1, ⟨by decide, by decide⟩, by decide +kernel, Or.inl tw_5_159, (fun h => by cases h), (fun _ => ⟨tw_5_161, tw_0_45, TX11, 20, rfl⟩), (fun h => by cases h)⟩





theorem tk_C_draw : ∀ pc i nx tg, T_C_draw pc = some (i, nx, tg) → mOkB prog_1_method_16_code pc i nx tg = true := code_ok (N := 66) (fun k h => by unfold T_C_draw; rw [h]; rfl) (by decide +kernel)
theorem ok_C_draw (l : Launch) : mPOK l "ClothWithMan" prog_1_method_16_code P_C_draw := by
  refine ⟨tk_C_draw, ?_, ?_, ?_, (fun pc i nx tg kd _ h => by cases h), ?_, ?_, fun pc en h => by cases h⟩
  · intro x ci f ty fin h
    exact mLook_all (Q := fun x v => mFOK "ClothWithMan" x v.1 v.2.1 v.2.2.1 v.2.2.2 ∧ (v.2.2.2 = true → pIni P_C_draw = true → (Cond.fieldLink "ClothWithMan" x (((mCl[v.1]?).getD ("", fun _ => ("", "", "", false), 0)).2.1 v.2.1).1 (((mCl[v.1]?).getD ("", fun _ => ("", "", "", false), 0)).2.1 v.2.1).2.1 (((mCl[v.1]?).getD ("", fun _ => ("", "", "", false), 0)).2.1 v.2.1).2.2.1 ∈ lw_tbl ∧ (((mCl[v.1]?).getD ("", fun _ => ("", "", "", false), 0)).2.1 v.2.1).1 = "ClothWithMan"))) (fcC ⟨fo_C_27, fun h1 h2 => by cases h2⟩ (fcC ⟨fo_C_33, fun h1 h2 => by cases h2⟩ (fcC ⟨fo_C_195, fun h1 h2 => by cases h2⟩ (fcC ⟨fo_C_201, fun h1 h2 => by cases h1⟩ fcN)))) x (ci, f, ty, fin) h
  · intro x
    have hh := mLook_all (l := ([] : List (Nat × (Int32 ⊕ Int64)))) (Q := fun x (v : Int32 ⊕ Int64) => (∀ w, v = .inl w → Cond.constant "ClothWithMan" x w ∈ lw_tbl) ∧ (∀ w, v = .inr w → Cond.constantLong "ClothWithMan" x w ∈ lw_tbl)) fcN x
    exact ⟨fun w h => (hh _ h).1 w rfl, fun w h => (hh _ h).2 w rfl⟩
  · exact fun x en h => mLook_all (Q := fun x en => mLink "ClothWithMan" x en ∧ mCtr l en ∧ (en.1.1 = 2 → en.2.2.2.2.2.2 = none)) (fcC ⟨li_C_173, c_C_isPiece l, (fun h => by cases h)⟩ (fcC ⟨li_C_183, c_AL_get l, (fun h => by cases h)⟩ (fcC ⟨li_C_187, c_C_trueOf l, (fun h => by cases h)⟩ (fcC ⟨li_C_191, c_Pi_tell l, (fun h => by cases h)⟩ (fcC ⟨li_C_198, c_C_lotOf l, (fun h => by cases h)⟩ fcN))))) x en h
  · exact fun x kd h => mLook_all (Q := fun x kd => (kd = 95 ∧ Cond.fieldLink "ClothWithMan" x "ClothWithMan" "LIKENESSES" "[I" ∈ lw_tbl) ∨ (kd = 96 ∧ Cond.fieldLink "ClothWithMan" x "ClothWithMan" "APART_BOUNDS" "[I" ∈ lw_tbl)) fcN x kd h
  · exact fun x ci h => mLook_all (Q := fun x ci => ci ≠ 0 ∧ ∃ (C : String) (T : u_T) (N : Nat), mCl[ci]? = some (C, T, N) ∧ Cond.classLink "ClothWithMan" x C ∈ lw_tbl ∧ Cond.instantiable C N ∈ lw_tbl) (fcC ⟨by decide, "ClothWithMan$Piece", TX6, 6, rfl, tw_3_6, tw_3_7⟩ fcN) x ci h
set_option maxRecDepth 100000 in
theorem c_C_draw (l : Launch) : mCtr l E_C_draw := mCtr_of (P := P_C_draw) (own := "ClothWithMan") mLay_ok rfl (by decide +kernel) rfl (ok_C_draw l) (fun h => by cases h) (fun as σ pr rv σ' hF hpr hlv => by
  unfold E_C_draw S_C_draw at hF
  simp only [] at hF
  split at hF
  · cases hF
    obtain ⟨n, pcF, c1, s1, g1, g2, g3, g4⟩ := mF_inv (d_C_draw _ σ (hpr _ rfl))
    exact ⟨Nat.le_of_ble_eq_true rfl, (fun v h => by cases h; trivial), n, pcF, c1, s1, g1, ⟨mEnd_of (i := .ireturn) (P := P_C_draw) (rets := [65]) rfl g2, rfl⟩, g3, g4⟩
  · cases hF
    exact (hpr _ rfl).elim)
/-! ClothWithMan.counted(I)I -/
noncomputable def v_C_counted (a1 : Int32) (σ : MSto) : Int32 := (gI σ 7 (v_AL_get 14 0 a1 σ) 5)
def p_C_counted (a1 : Int32) (σ : MSto) : Prop := ((((v_C_isPiece a1 σ) = 0) → False) ∧ (¬ ((v_C_isPiece a1 σ) = 0) → ((p_AL_get 14 0 a1 σ) ∧ (((gI σ 7 (v_AL_get 14 0 a1 σ) 4) = 0) → False))))
noncomputable def S_C_counted : List MV → MSto → Option Prop × Option MV × MSto := fun as σ => match as with
  | [.inr (.inr (some (12, 0))), .inl a0] => (some (p_C_counted a0 σ), some (mI (v_C_counted a0 σ)), σ)
  | _ => (some False, none, σ)
noncomputable def E_C_counted : MEnt := ((1, 1, 12), (6, 121, 0, 0), S_C_counted, ((⟨"ClothWithMan", "counted", "(I)I"⟩ : MethodName), prog_1_method_17_code, 3, (some .int)))

def T_C_counted : Nat → Option (Instr × Nat × List Nat) := fun k => bif Nat.blt k 52 then (bif Nat.blt k 26 then (bif Nat.blt k 12 then (bif Nat.blt k 5 then (bif Nat.blt k 1 then (bif Nat.beq k 0 then some (.aload_n 0, 1, []) else none) else (bif Nat.blt k 2 then (bif Nat.beq k 1 then some (.iload_n 1, 2, []) else none) else (bif Nat.beq k 2 then some (.invokevirtual 173, 5, []) else none))) else (bif Nat.blt k 8 then (bif Nat.beq k 5 then some (.ifCond .ne 13, 8, [18]) else none) else (bif Nat.blt k 11 then (bif Nat.beq k 8 then some (.new 176, 11, []) else none) else (bif Nat.beq k 11 then some (.dup, 12, []) else none)))) else (bif Nat.blt k 18 then (bif Nat.blt k 14 then (bif Nat.beq k 12 then some (.ldc 178, 14, []) else none) else (bif Nat.blt k 17 then (bif Nat.beq k 14 then some (.invokespecial 180, 17, []) else none) else (bif Nat.beq k 17 then some (.athrow, 18, []) else none))) else (bif Nat.blt k 22 then (bif Nat.blt k 19 then (bif Nat.beq k 18 then some (.aload_n 0, 19, []) else none) else (bif Nat.beq k 19 then some (.getfield 33, 22, []) else none)) else (bif Nat.blt k 23 then (bif Nat.beq k 22 then some (.iload_n 1, 23, []) else none) else (bif Nat.beq k 23 then some (.invokevirtual 183, 26, []) else none))))) else (bif Nat.blt k 40 then (bif Nat.blt k 31 then (bif Nat.blt k 29 then (bif Nat.beq k 26 then some (.checkcast 168, 29, []) else none) else (bif Nat.blt k 30 then (bif Nat.beq k 29 then some (.astore_n 2, 30, []) else none) else (bif Nat.beq k 30 then some (.aload_n 2, 31, []) else none))) else (bif Nat.blt k 34 then (bif Nat.beq k 31 then some (.getfield 204, 34, []) else none) else (bif Nat.blt k 37 then (bif Nat.beq k 34 then some (.ifCond .ne 13, 37, [47]) else none) else (bif Nat.beq k 37 then some (.new 176, 40, []) else none)))) else (bif Nat.blt k 46 then (bif Nat.blt k 41 then (bif Nat.beq k 40 then some (.dup, 41, []) else none) else (bif Nat.blt k 43 then (bif Nat.beq k 41 then some (.ldc 208, 43, []) else none) else (bif Nat.beq k 43 then some (.invokespecial 180, 46, []) else none))) else (bif Nat.blt k 48 then (bif Nat.blt k 47 then (bif Nat.beq k 46 then some (.athrow, 47, []) else none) else (bif Nat.beq k 47 then some (.aload_n 2, 48, []) else none)) else (bif Nat.blt k 51 then (bif Nat.beq k 48 then some (.getfield 201, 51, []) else none) else (bif Nat.beq k 51 then some (.ireturn, 52, []) else none)))))) else none
noncomputable def P_C_counted : MP := (T_C_counted, (fun k => mLook k [(33, (12, 4, (.object "java/util/ArrayList"), true)), (201, (7, 5, .int, false)), (204, (7, 4, .boolean, false))]), (fun k => mLook k []), (fun k => mLook k [(173, E_C_isPiece), (183, E_AL_get)]), (fun k => mLook k []), (fun k => mLook k []), (fun k => mLook k [(168, 7)]), (fun k => mLook k []), (fun k => [17, 46, 51].any (Nat.beq k)), (6, 121, 0, 0), false, (fun _ => none))
set_option maxRecDepth 100000 in
set_option maxHeartbeats 4000000 in
theorem q_C_counted_e (a1 : Int32) (σ : MSto) (n : Nat) : mexe KT P_C_counted (n + 1) (0, [some (mR 12 0), some (mI a1), none], [], σ, 0, 0) = mIf ((v_C_isPiece a1 σ) = 0) (none) (mG (p_AL_get 14 0 a1 σ) (mIf ((gI σ 7 (v_AL_get 14 0 a1 σ) 4) = 0) (none) (some (51, [], [(mI (gI σ 7 (v_AL_get 14 0 a1 σ) 5))], σ, 0, 0)))) := rfl
set_option maxRecDepth 100000 in
set_option maxHeartbeats 4000000 in
theorem d_C_counted (a1 : Int32) (σ : MSto) (hp : p_C_counted a1 σ) : mW1 P_C_counted (0, [some (mR 12 0), some (mI a1), none], [], σ, 0, 0) (mF [51] [mI (v_C_counted a1 σ)] σ 0 0) := by
  refine mW1_eq (q_C_counted_e _ _) ?_
  unfold p_C_counted at hp
  refine mTr_if (fun h0 => ?_) (fun h0 => ?_)
  · skip
    have hp := hp.1 h0
    exact hp.elim
  · skip
    have hp := hp.2 h0
    refine mTr_g hp.1 ?_
    have hp := hp.2
    refine mTr_if (fun h1 => ?_) (fun h1 => ?_)
    · skip
      have hp := hp h1
      exact hp.elim
    · skip
      exact mTr_e (by decide) (congrArg (fun z => [mI z]) (Eq.symm (rfl))) rfl (by decide) (by decide)


theorem tk_C_counted : ∀ pc i nx tg, T_C_counted pc = some (i, nx, tg) → mOkB prog_1_method_17_code pc i nx tg = true := code_ok (N := 52) (fun k h => by unfold T_C_counted; rw [h]; rfl) (by decide +kernel)
theorem ok_C_counted (l : Launch) : mPOK l "ClothWithMan" prog_1_method_17_code P_C_counted := by
  refine ⟨tk_C_counted, ?_, ?_, ?_, (fun pc i nx tg kd _ h => by cases h), ?_, ?_, fun pc en h => by cases h⟩
  · intro x ci f ty fin h
    exact mLook_all (Q := fun x v => mFOK "ClothWithMan" x v.1 v.2.1 v.2.2.1 v.2.2.2 ∧ (v.2.2.2 = true → pIni P_C_counted = true → (Cond.fieldLink "ClothWithMan" x (((mCl[v.1]?).getD ("", fun _ => ("", "", "", false), 0)).2.1 v.2.1).1 (((mCl[v.1]?).getD ("", fun _ => ("", "", "", false), 0)).2.1 v.2.1).2.1 (((mCl[v.1]?).getD ("", fun _ => ("", "", "", false), 0)).2.1 v.2.1).2.2.1 ∈ lw_tbl ∧ (((mCl[v.1]?).getD ("", fun _ => ("", "", "", false), 0)).2.1 v.2.1).1 = "ClothWithMan"))) (fcC ⟨fo_C_33, fun h1 h2 => by cases h2⟩ (fcC ⟨fo_C_201, fun h1 h2 => by cases h1⟩ (fcC ⟨fo_C_204, fun h1 h2 => by cases h1⟩ fcN))) x (ci, f, ty, fin) h
  · intro x
    have hh := mLook_all (l := ([] : List (Nat × (Int32 ⊕ Int64)))) (Q := fun x (v : Int32 ⊕ Int64) => (∀ w, v = .inl w → Cond.constant "ClothWithMan" x w ∈ lw_tbl) ∧ (∀ w, v = .inr w → Cond.constantLong "ClothWithMan" x w ∈ lw_tbl)) fcN x
    exact ⟨fun w h => (hh _ h).1 w rfl, fun w h => (hh _ h).2 w rfl⟩
  · exact fun x en h => mLook_all (Q := fun x en => mLink "ClothWithMan" x en ∧ mCtr l en ∧ (en.1.1 = 2 → en.2.2.2.2.2.2 = none)) (fcC ⟨li_C_173, c_C_isPiece l, (fun h => by cases h)⟩ (fcC ⟨li_C_183, c_AL_get l, (fun h => by cases h)⟩ fcN)) x en h
  · exact fun x kd h => mLook_all (Q := fun x kd => (kd = 95 ∧ Cond.fieldLink "ClothWithMan" x "ClothWithMan" "LIKENESSES" "[I" ∈ lw_tbl) ∨ (kd = 96 ∧ Cond.fieldLink "ClothWithMan" x "ClothWithMan" "APART_BOUNDS" "[I" ∈ lw_tbl)) fcN x kd h
  · exact fun x ci h => mLook_all (Q := fun x ci => ci ≠ 0 ∧ ∃ (C : String) (T : u_T) (N : Nat), mCl[ci]? = some (C, T, N) ∧ Cond.classLink "ClothWithMan" x C ∈ lw_tbl ∧ Cond.instantiable C N ∈ lw_tbl) (fcC ⟨by decide, "ClothWithMan$Piece", TX6, 6, rfl, tw_3_6, tw_3_7⟩ fcN) x ci h
set_option maxRecDepth 100000 in
theorem c_C_counted (l : Launch) : mCtr l E_C_counted := mCtr_of (P := P_C_counted) (own := "ClothWithMan") mLay_ok rfl (by decide +kernel) rfl (ok_C_counted l) (fun h => by cases h) (fun as σ pr rv σ' hF hpr hlv => by
  unfold E_C_counted S_C_counted at hF
  simp only [] at hF
  split at hF
  · cases hF
    obtain ⟨n, pcF, c1, s1, g1, g2, g3, g4⟩ := mF_inv (d_C_counted _ σ (hpr _ rfl))
    exact ⟨Nat.le_of_ble_eq_true rfl, (fun v h => by cases h; trivial), n, pcF, c1, s1, g1, ⟨mEnd_of (i := .ireturn) (P := P_C_counted) (rets := [51]) rfl g2, rfl⟩, g3, g4⟩
  · cases hF
    exact (hpr _ rfl).elim)
/-! ClothWithMan.likeness(III)I -/
noncomputable def v_C_likeness (a1 : Int32) (a2 : Int32) (a3 : Int32) (σ : MSto) : Int32 := (if (v_C_isSpan a3 σ) = 0 then (-1) else (v_C_likenessOf a1 a2 a3 σ))
def p_C_likeness (a1 : Int32) (a2 : Int32) (a3 : Int32) (σ : MSto) : Prop := (¬ ((v_C_isSpan a3 σ) = 0) → (p_C_likenessOf a1 a2 a3 σ))
noncomputable def S_C_likeness : List MV → MSto → Option Prop × Option MV × MSto := fun as σ => match as with
  | [.inr (.inr (some (12, 0))), .inl a0, .inl a1, .inl a2] => (some (p_C_likeness a0 a1 a2 σ), some (mI (v_C_likeness a0 a1 a2 σ)), σ)
  | _ => (some False, none, σ)
noncomputable def E_C_likeness : MEnt := ((1, 3, 12), (3, 68, 0, 0), S_C_likeness, ((⟨"ClothWithMan", "likeness", "(III)I"⟩ : MethodName), prog_1_method_18_code, 4, (some .int)))

def T_C_likeness : Nat → Option (Instr × Nat × List Nat) := fun k => bif Nat.blt k 18 then (bif Nat.blt k 9 then (bif Nat.blt k 4 then (bif Nat.blt k 1 then (bif Nat.beq k 0 then some (.iload_n 3, 1, []) else none) else (bif Nat.beq k 1 then some (.invokestatic 154, 4, []) else none)) else (bif Nat.blt k 7 then (bif Nat.beq k 4 then some (.ifCond .eq 12, 7, [16]) else none) else (bif Nat.blt k 8 then (bif Nat.beq k 7 then some (.iload_n 1, 8, []) else none) else (bif Nat.beq k 8 then some (.iload_n 2, 9, []) else none)))) else (bif Nat.blt k 13 then (bif Nat.blt k 10 then (bif Nat.beq k 9 then some (.iload_n 3, 10, []) else none) else (bif Nat.beq k 10 then some (.invokestatic 210, 13, []) else none)) else (bif Nat.blt k 16 then (bif Nat.beq k 13 then some (.goto 4, 16, [17]) else none) else (bif Nat.blt k 17 then (bif Nat.beq k 16 then some (.iconst (-1), 17, []) else none) else (bif Nat.beq k 17 then some (.ireturn, 18, []) else none))))) else none
noncomputable def P_C_likeness : MP := (T_C_likeness, (fun k => mLook k []), (fun k => mLook k []), (fun k => mLook k [(154, E_C_isSpan), (210, E_C_likenessOf)]), (fun k => mLook k []), (fun k => mLook k []), (fun k => mLook k []), (fun k => mLook k []), (fun k => [17].any (Nat.beq k)), (3, 68, 0, 0), false, (fun _ => none))
set_option maxRecDepth 100000 in
set_option maxHeartbeats 4000000 in
theorem q_C_likeness_e (a1 : Int32) (a2 : Int32) (a3 : Int32) (σ : MSto) (n : Nat) : mexe KT P_C_likeness (n + 1) (0, [some (mR 12 0), some (mI a1), some (mI a2), some (mI a3)], [], σ, 0, 0) = mIf ((v_C_isSpan a3 σ) = 0) (some (17, [], [(mI (-1))], σ, 0, 0)) (mG (p_C_likenessOf a1 a2 a3 σ) (some (17, [], [(mI (v_C_likenessOf a1 a2 a3 σ))], σ, 0, 0))) := rfl
set_option maxRecDepth 100000 in
set_option maxHeartbeats 4000000 in
theorem d_C_likeness (a1 : Int32) (a2 : Int32) (a3 : Int32) (σ : MSto) (hp : p_C_likeness a1 a2 a3 σ) : mW1 P_C_likeness (0, [some (mR 12 0), some (mI a1), some (mI a2), some (mI a3)], [], σ, 0, 0) (mF [17] [mI (v_C_likeness a1 a2 a3 σ)] σ 0 0) := by
  refine mW1_eq (q_C_likeness_e _ _ _ _) ?_
  unfold p_C_likeness at hp
  refine mTr_if (fun h0 => ?_) (fun h0 => ?_)
  · skip
    exact mTr_e (by decide) (congrArg (fun z => [mI z]) (Eq.symm (if_pos h0))) rfl (by decide) (by decide)
  · skip
    have hp := hp h0
    refine mTr_g hp ?_
    exact mTr_e (by decide) (congrArg (fun z => [mI z]) (Eq.symm (if_neg h0))) rfl (by decide) (by decide)


theorem tk_C_likeness : ∀ pc i nx tg, T_C_likeness pc = some (i, nx, tg) → mOkB prog_1_method_18_code pc i nx tg = true := code_ok (N := 18) (fun k h => by unfold T_C_likeness; rw [h]; rfl) (by decide +kernel)
theorem ok_C_likeness (l : Launch) : mPOK l "ClothWithMan" prog_1_method_18_code P_C_likeness := by
  refine ⟨tk_C_likeness, ?_, ?_, ?_, (fun pc i nx tg kd _ h => by cases h), ?_, ?_, fun pc en h => by cases h⟩
  · intro x ci f ty fin h
    exact mLook_all (Q := fun x v => mFOK "ClothWithMan" x v.1 v.2.1 v.2.2.1 v.2.2.2 ∧ (v.2.2.2 = true → pIni P_C_likeness = true → (Cond.fieldLink "ClothWithMan" x (((mCl[v.1]?).getD ("", fun _ => ("", "", "", false), 0)).2.1 v.2.1).1 (((mCl[v.1]?).getD ("", fun _ => ("", "", "", false), 0)).2.1 v.2.1).2.1 (((mCl[v.1]?).getD ("", fun _ => ("", "", "", false), 0)).2.1 v.2.1).2.2.1 ∈ lw_tbl ∧ (((mCl[v.1]?).getD ("", fun _ => ("", "", "", false), 0)).2.1 v.2.1).1 = "ClothWithMan"))) fcN x (ci, f, ty, fin) h
  · intro x
    have hh := mLook_all (l := ([] : List (Nat × (Int32 ⊕ Int64)))) (Q := fun x (v : Int32 ⊕ Int64) => (∀ w, v = .inl w → Cond.constant "ClothWithMan" x w ∈ lw_tbl) ∧ (∀ w, v = .inr w → Cond.constantLong "ClothWithMan" x w ∈ lw_tbl)) fcN x
    exact ⟨fun w h => (hh _ h).1 w rfl, fun w h => (hh _ h).2 w rfl⟩
  · exact fun x en h => mLook_all (Q := fun x en => mLink "ClothWithMan" x en ∧ mCtr l en ∧ (en.1.1 = 2 → en.2.2.2.2.2.2 = none)) (fcC ⟨li_C_154, c_C_isSpan l, (fun h => by cases h)⟩ (fcC ⟨li_C_210, c_C_likenessOf l, (fun h => by cases h)⟩ fcN)) x en h
  · exact fun x kd h => mLook_all (Q := fun x kd => (kd = 95 ∧ Cond.fieldLink "ClothWithMan" x "ClothWithMan" "LIKENESSES" "[I" ∈ lw_tbl) ∨ (kd = 96 ∧ Cond.fieldLink "ClothWithMan" x "ClothWithMan" "APART_BOUNDS" "[I" ∈ lw_tbl)) fcN x kd h
  · exact fun x ci h => mLook_all (Q := fun x ci => ci ≠ 0 ∧ ∃ (C : String) (T : u_T) (N : Nat), mCl[ci]? = some (C, T, N) ∧ Cond.classLink "ClothWithMan" x C ∈ lw_tbl ∧ Cond.instantiable C N ∈ lw_tbl) fcN x ci h
set_option maxRecDepth 100000 in
theorem c_C_likeness (l : Launch) : mCtr l E_C_likeness := mCtr_of (P := P_C_likeness) (own := "ClothWithMan") mLay_ok rfl (by decide +kernel) rfl (ok_C_likeness l) (fun h => by cases h) (fun as σ pr rv σ' hF hpr hlv => by
  unfold E_C_likeness S_C_likeness at hF
  simp only [] at hF
  split at hF
  · cases hF
    obtain ⟨n, pcF, c1, s1, g1, g2, g3, g4⟩ := mF_inv (d_C_likeness _ _ _ σ (hpr _ rfl))
    exact ⟨Nat.le_of_ble_eq_true rfl, (fun v h => by cases h; trivial), n, pcF, c1, s1, g1, ⟨mEnd_of (i := .ireturn) (P := P_C_likeness) (rets := [17]) rfl g2, rfl⟩, g3, g4⟩
  · cases hF
    exact (hpr _ rfl).elim)
/-! ClothWithMan.years(II)I -/
noncomputable def tj_C_years_70j115 (x3 : Int32) (x4 : Int32) (σ : MSto) (s : Int32 × MSto) : Int32 × MSto := (if 10 < x3 then (x3, σ) else (if (v_C_endsSpan x4 σ) = 0 then (x3, σ) else (x3, (e_Ro_add (Int32.toInt64 x4) σ))))
noncomputable def qj_C_years_70j115 (x3 : Int32) (x4 : Int32) (σ : MSto) : Nat := 0
def gj_C_years_70j115 (x3 : Int32) (x4 : Int32) (σ : MSto) : Prop := (¬ (10 < x3) → ((p_C_endsSpan x4 σ) ∧ (¬ ((v_C_endsSpan x4 σ) = 0) → (p_Ro_add (Int32.toInt64 x4) σ))))
noncomputable def t_C_years_70  (c : Int32) (s : Int32 × MSto) : Int32 × MSto := (if 200 ≤ c then s else (if (v_C_startsSpan c (s.2)) = 0 then (if 10 < (s.1) then (tj_C_years_70j115 (s.1) c (s.2) s) else (if (v_C_startsSpan c (s.2)) = 0 then (tj_C_years_70j115 (s.1) c (s.2) s) else (tj_C_years_70j115 (s.1) c (e_Ro_add (Int32.toInt64 c) (s.2)) s))) else (if 10 < ((s.1) + 1) then (tj_C_years_70j115 ((s.1) + 1) c (s.2) s) else (if (v_C_startsSpan c (s.2)) = 0 then (tj_C_years_70j115 ((s.1) + 1) c (s.2) s) else (tj_C_years_70j115 ((s.1) + 1) c (e_Ro_add (Int32.toInt64 c) (s.2)) s)))))
noncomputable def q_C_years_70s  (c : Int32) (s : Int32 × MSto) : Nat := (if 200 ≤ c then 1 else 0)
def g_C_years_70  (c : Int32) (s : Int32 × MSto) : Prop := (¬ (200 ≤ c) → ((p_C_startsSpan c (s.2)) ∧ ((((v_C_startsSpan c (s.2)) = 0) → (((10 < (s.1)) → (gj_C_years_70j115 (s.1) c (s.2))) ∧ (¬ (10 < (s.1)) → ((p_C_startsSpan c (s.2)) ∧ ((((v_C_startsSpan c (s.2)) = 0) → (gj_C_years_70j115 (s.1) c (s.2))) ∧ (¬ ((v_C_startsSpan c (s.2)) = 0) → ((p_Ro_add (Int32.toInt64 c) (s.2)) ∧ (gj_C_years_70j115 (s.1) c (e_Ro_add (Int32.toInt64 c) (s.2)))))))))) ∧ (¬ ((v_C_startsSpan c (s.2)) = 0) → (((10 < ((s.1) + 1)) → (gj_C_years_70j115 ((s.1) + 1) c (s.2))) ∧ (¬ (10 < ((s.1) + 1)) → ((p_C_startsSpan c (s.2)) ∧ ((((v_C_startsSpan c (s.2)) = 0) → (gj_C_years_70j115 ((s.1) + 1) c (s.2))) ∧ (¬ ((v_C_startsSpan c (s.2)) = 0) → ((p_Ro_add (Int32.toInt64 c) (s.2)) ∧ (gj_C_years_70j115 ((s.1) + 1) c (e_Ro_add (Int32.toInt64 c) (s.2)))))))))))))
noncomputable def f_C_years_70  (c0 : Int32) (s0 : Int32 × MSto) (n : Nat) : Int32 × MSto := nfold (fun i s => t_C_years_70 (c0 + nI i) s) s0 n
noncomputable def n_C_years_70  (c0 : Int32) (s0 : Int32 × MSto) : Nat := 200
noncomputable def t_C_years_11 (x1 : Int32) (x2 : Int32) (c : Int32) (s : MSto) : MSto := (if 200 ≤ c then s else (if 0 < (lg_cmp (v_C_gap (Int32.toInt64 (v_Cu_at c s)) (Int32.toInt64 x1) s) (Int32.toInt64 x2)) then (sI s 27 0 (Int32.toNatClampNeg c) (vp_nar .boolean 0)) else (sI s 27 0 (Int32.toNatClampNeg c) (vp_nar .boolean 1))))
noncomputable def q_C_years_11s (x1 : Int32) (x2 : Int32) (c : Int32) (s : MSto) : Nat := (if 200 ≤ c then 1 else 0)
def g_C_years_11 (x1 : Int32) (x2 : Int32) (c : Int32) (s : MSto) : Prop := (¬ (200 ≤ c) → ((p_Cu_at c s) ∧ (((0 < (lg_cmp (v_C_gap (Int32.toInt64 (v_Cu_at c s)) (Int32.toInt64 x1) s) (Int32.toInt64 x2))) → (vp_in c 200)) ∧ (¬ (0 < (lg_cmp (v_C_gap (Int32.toInt64 (v_Cu_at c s)) (Int32.toInt64 x1) s) (Int32.toInt64 x2))) → (vp_in c 200)))))
noncomputable def f_C_years_11 (x1 : Int32) (x2 : Int32) (c0 : Int32) (s0 : MSto) (n : Nat) : MSto := nfold (fun i s => t_C_years_11 x1 x2 (c0 + nI i) s) s0 n
noncomputable def n_C_years_11 (x1 : Int32) (x2 : Int32) (c0 : Int32) (s0 : MSto) : Nat := 200
noncomputable def v_C_years (a1 : Int32) (a2 : Int32) (σ : MSto) : Int32 := (if (v_C_isSpan a2 σ) = 0 then (-1) else ((f_C_years_70 0 (0, (e_Ro_clear (f_C_years_11 a1 a2 0 σ (n_C_years_11 a1 a2 0 σ)))) (n_C_years_70 0 (0, (e_Ro_clear (f_C_years_11 a1 a2 0 σ (n_C_years_11 a1 a2 0 σ)))))).1))
def p_C_years (a1 : Int32) (a2 : Int32) (σ : MSto) : Prop := (¬ ((v_C_isSpan a2 σ) = 0) → ((∀ i, i < (n_C_years_11 a1 a2 0 σ) → g_C_years_11 a1 a2 (0 + nI i) (f_C_years_11 a1 a2 0 σ i) ∧ ¬ q_C_years_11s a1 a2 (0 + nI i) (f_C_years_11 a1 a2 0 σ i) = 1) ∧ (((200 ≤ (0 + nI (n_C_years_11 a1 a2 0 σ))) → ((∀ i, i < (n_C_years_70 0 (0, (e_Ro_clear (f_C_years_11 a1 a2 0 σ (n_C_years_11 a1 a2 0 σ))))) → g_C_years_70 (0 + nI i) (f_C_years_70 0 (0, (e_Ro_clear (f_C_years_11 a1 a2 0 σ (n_C_years_11 a1 a2 0 σ)))) i) ∧ ¬ q_C_years_70s (0 + nI i) (f_C_years_70 0 (0, (e_Ro_clear (f_C_years_11 a1 a2 0 σ (n_C_years_11 a1 a2 0 σ)))) i) = 1) ∧ (¬ (200 ≤ (0 + nI (n_C_years_70 0 (0, (e_Ro_clear (f_C_years_11 a1 a2 0 σ (n_C_years_11 a1 a2 0 σ))))))) → False))) ∧ (¬ (200 ≤ (0 + nI (n_C_years_11 a1 a2 0 σ))) → False))))
noncomputable def e_C_years (a1 : Int32) (a2 : Int32) (σ : MSto) : MSto := (if (v_C_isSpan a2 σ) = 0 then σ else ((f_C_years_70 0 (0, (e_Ro_clear (f_C_years_11 a1 a2 0 σ (n_C_years_11 a1 a2 0 σ)))) (n_C_years_70 0 (0, (e_Ro_clear (f_C_years_11 a1 a2 0 σ (n_C_years_11 a1 a2 0 σ)))))).2))
noncomputable def S_C_years : List MV → MSto → Option Prop × Option MV × MSto := fun as σ => match as with
  | [.inr (.inr (some (12, 0))), .inl a0, .inl a1] => (some (p_C_years a0 a1 σ), some (mI (v_C_years a0 a1 σ)), e_C_years a0 a1 σ)
  | _ => (some False, none, σ)
noncomputable def E_C_years : MEnt := ((1, 2, 12), (2, 44, 0, 0), S_C_years, ((⟨"ClothWithMan", "years", "(II)I"⟩ : MethodName), prog_1_method_19_code, 5, (some .int)))

def T_C_years : Nat → Option (Instr × Nat × List Nat) := fun k => bif Nat.blt k 148 then (bif Nat.blt k 67 then (bif Nat.blt k 34 then (bif Nat.blt k 15 then (bif Nat.blt k 8 then (bif Nat.blt k 4 then (bif Nat.blt k 1 then (bif Nat.beq k 0 then some (.iload_n 2, 1, []) else none) else (bif Nat.beq k 1 then some (.invokestatic 154, 4, []) else none)) else (bif Nat.blt k 7 then (bif Nat.beq k 4 then some (.ifCond .ne 5, 7, [9]) else none) else (bif Nat.beq k 7 then some (.iconst (-1), 8, []) else none))) else (bif Nat.blt k 10 then (bif Nat.blt k 9 then (bif Nat.beq k 8 then some (.ireturn, 9, []) else none) else (bif Nat.beq k 9 then some (.iconst 0, 10, []) else none)) else (bif Nat.blt k 11 then (bif Nat.beq k 10 then some (.istore_n 3, 11, []) else none) else (bif Nat.blt k 12 then (bif Nat.beq k 11 then some (.iload_n 3, 12, []) else none) else (bif Nat.beq k 12 then some (.sipush 200, 15, []) else none))))) else (bif Nat.blt k 23 then (bif Nat.blt k 19 then (bif Nat.blt k 18 then (bif Nat.beq k 15 then some (.if_icmp .ge 43, 18, [58]) else none) else (bif Nat.beq k 18 then some (.aload_n 0, 19, []) else none)) else (bif Nat.blt k 22 then (bif Nat.beq k 19 then some (.getfield 79, 22, []) else none) else (bif Nat.beq k 22 then some (.iload_n 3, 23, []) else none))) else (bif Nat.blt k 27 then (bif Nat.blt k 24 then (bif Nat.beq k 23 then some (.aload_n 0, 24, []) else none) else (bif Nat.beq k 24 then some (.getfield 19, 27, []) else none)) else (bif Nat.blt k 30 then (bif Nat.beq k 27 then some (.getfield 106, 30, []) else none) else (bif Nat.blt k 31 then (bif Nat.beq k 30 then some (.iload_n 3, 31, []) else none) else (bif Nat.beq k 31 then some (.invokevirtual 119, 34, []) else none)))))) else (bif Nat.blt k 47 then (bif Nat.blt k 40 then (bif Nat.blt k 36 then (bif Nat.blt k 35 then (bif Nat.beq k 34 then some (.i2l, 35, []) else none) else (bif Nat.beq k 35 then some (.iload_n 1, 36, []) else none)) else (bif Nat.blt k 37 then (bif Nat.beq k 36 then some (.i2l, 37, []) else none) else (bif Nat.beq k 37 then some (.invokestatic 213, 40, []) else none))) else (bif Nat.blt k 42 then (bif Nat.blt k 41 then (bif Nat.beq k 40 then some (.iload_n 2, 41, []) else none) else (bif Nat.beq k 41 then some (.i2l, 42, []) else none)) else (bif Nat.blt k 43 then (bif Nat.beq k 42 then some (.lcmp, 43, []) else none) else (bif Nat.blt k 46 then (bif Nat.beq k 43 then some (.ifCond .gt 7, 46, [50]) else none) else (bif Nat.beq k 46 then some (.iconst 1, 47, []) else none))))) else (bif Nat.blt k 58 then (bif Nat.blt k 51 then (bif Nat.blt k 50 then (bif Nat.beq k 47 then some (.goto 4, 50, [51]) else none) else (bif Nat.beq k 50 then some (.iconst 0, 51, []) else none)) else (bif Nat.blt k 52 then (bif Nat.beq k 51 then some (.bastore, 52, []) else none) else (bif Nat.blt k 55 then (bif Nat.beq k 52 then some (.iinc 3 1, 55, []) else none) else (bif Nat.beq k 55 then some (.goto (-44), 58, [11]) else none)))) else (bif Nat.blt k 62 then (bif Nat.blt k 59 then (bif Nat.beq k 58 then some (.aload_n 0, 59, []) else none) else (bif Nat.beq k 59 then some (.getfield 67, 62, []) else none)) else (bif Nat.blt k 65 then (bif Nat.beq k 62 then some (.invokevirtual 217, 65, []) else none) else (bif Nat.blt k 66 then (bif Nat.beq k 65 then some (.iconst 0, 66, []) else none) else (bif Nat.beq k 66 then some (.istore_n 3, 67, []) else none))))))) else (bif Nat.blt k 109 then (bif Nat.blt k 87 then (bif Nat.blt k 75 then (bif Nat.blt k 70 then (bif Nat.blt k 68 then (bif Nat.beq k 67 then some (.iconst 0, 68, []) else none) else (bif Nat.beq k 68 then some (.istore 4, 70, []) else none)) else (bif Nat.blt k 72 then (bif Nat.beq k 70 then some (.iload 4, 72, []) else none) else (bif Nat.beq k 72 then some (.sipush 200, 75, []) else none))) else (bif Nat.blt k 79 then (bif Nat.blt k 78 then (bif Nat.beq k 75 then some (.if_icmp .ge 71, 78, [146]) else none) else (bif Nat.beq k 78 then some (.aload_n 0, 79, []) else none)) else (bif Nat.blt k 81 then (bif Nat.beq k 79 then some (.iload 4, 81, []) else none) else (bif Nat.blt k 84 then (bif Nat.beq k 81 then some (.invokevirtual 220, 84, []) else none) else (bif Nat.beq k 84 then some (.ifCond .eq 6, 87, [90]) else none))))) else (bif Nat.blt k 97 then (bif Nat.blt k 91 then (bif Nat.blt k 90 then (bif Nat.beq k 87 then some (.iinc 3 1, 90, []) else none) else (bif Nat.beq k 90 then some (.iload_n 3, 91, []) else none)) else (bif Nat.blt k 93 then (bif Nat.beq k 91 then some (.bipush 10, 93, []) else none) else (bif Nat.blt k 96 then (bif Nat.beq k 93 then some (.if_icmp .gt 22, 96, [115]) else none) else (bif Nat.beq k 96 then some (.aload_n 0, 97, []) else none)))) else (bif Nat.blt k 102 then (bif Nat.blt k 99 then (bif Nat.beq k 97 then some (.iload 4, 99, []) else none) else (bif Nat.beq k 99 then some (.invokevirtual 220, 102, []) else none)) else (bif Nat.blt k 105 then (bif Nat.beq k 102 then some (.ifCond .eq 13, 105, [115]) else none) else (bif Nat.blt k 106 then (bif Nat.beq k 105 then some (.aload_n 0, 106, []) else none) else (bif Nat.beq k 106 then some (.getfield 67, 109, []) else none)))))) else (bif Nat.blt k 127 then (bif Nat.blt k 116 then (bif Nat.blt k 112 then (bif Nat.blt k 111 then (bif Nat.beq k 109 then some (.iload 4, 111, []) else none) else (bif Nat.beq k 111 then some (.i2l, 112, []) else none)) else (bif Nat.blt k 115 then (bif Nat.beq k 112 then some (.invokevirtual 223, 115, []) else none) else (bif Nat.beq k 115 then some (.iload_n 3, 116, []) else none))) else (bif Nat.blt k 121 then (bif Nat.blt k 118 then (bif Nat.beq k 116 then some (.bipush 10, 118, []) else none) else (bif Nat.beq k 118 then some (.if_icmp .gt 22, 121, [140]) else none)) else (bif Nat.blt k 122 then (bif Nat.beq k 121 then some (.aload_n 0, 122, []) else none) else (bif Nat.blt k 124 then (bif Nat.beq k 122 then some (.iload 4, 124, []) else none) else (bif Nat.beq k 124 then some (.invokevirtual 226, 127, []) else none))))) else (bif Nat.blt k 137 then (bif Nat.blt k 131 then (bif Nat.blt k 130 then (bif Nat.beq k 127 then some (.ifCond .eq 13, 130, [140]) else none) else (bif Nat.beq k 130 then some (.aload_n 0, 131, []) else none)) else (bif Nat.blt k 134 then (bif Nat.beq k 131 then some (.getfield 67, 134, []) else none) else (bif Nat.blt k 136 then (bif Nat.beq k 134 then some (.iload 4, 136, []) else none) else (bif Nat.beq k 136 then some (.i2l, 137, []) else none)))) else (bif Nat.blt k 143 then (bif Nat.blt k 140 then (bif Nat.beq k 137 then some (.invokevirtual 223, 140, []) else none) else (bif Nat.beq k 140 then some (.iinc 4 1, 143, []) else none)) else (bif Nat.blt k 146 then (bif Nat.beq k 143 then some (.goto (-73), 146, [70]) else none) else (bif Nat.blt k 147 then (bif Nat.beq k 146 then some (.iload_n 3, 147, []) else none) else (bif Nat.beq k 147 then some (.ireturn, 148, []) else none)))))))) else none
noncomputable def P_C_years : MP := (T_C_years, (fun k => mLook k [(19, (12, 1, (.object "ClothWithMan$Cloth"), true)), (67, (12, 11, (.object "ClothWithMan$Row"), true)), (79, (12, 14, (.array .boolean), true)), (106, (1, 0, (.object "ClothWithMan$Curve"), true))]), (fun k => mLook k []), (fun k => mLook k [(119, E_Cu_at), (154, E_C_isSpan), (213, E_C_gap), (217, E_Ro_clear), (220, E_C_startsSpan), (223, E_Ro_add), (226, E_C_endsSpan)]), (fun k => mLook k []), (fun k => mLook k []), (fun k => mLook k []), (fun k => mLook k [(11, [true, true, true, true, false]), (70, [true, false, false, true, true]), (115, [true, false, false, true, true])]), (fun k => [8, 147].any (Nat.beq k)), (2, 44, 0, 0), false, (fun _ => none))
set_option maxRecDepth 100000 in
set_option maxHeartbeats 4000000 in
theorem q_C_years_e (a1 : Int32) (a2 : Int32) (σ : MSto) (n : Nat) : mexe KT P_C_years (n + 1) (0, [some (mR 12 0), some (mI a1), some (mI a2), none, none], [], σ, 0, 0) = mIf ((v_C_isSpan a2 σ) = 0) (some (8, [], [(mI (-1))], σ, 0, 0)) (mexe KT P_C_years n (11, [some (mR 12 0), some (mI a1), some (mI a2), some (mI 0), none], [], σ, 0, 0)) := rfl
set_option maxRecDepth 100000 in
set_option maxHeartbeats 4000000 in
theorem q_C_years_11 (x1 : Int32) (x2 : Int32) (x3 : Int32) (σ : MSto) (n : Nat) : mexe KT P_C_years (n + 1) (11, [some (mR 12 0), some (mI x1), some (mI x2), some (mI x3), none], [], σ, 0, 0) = mIf (200 ≤ x3) (mexe KT P_C_years n (70, [some (mR 12 0), none, none, some (mI 0), some (mI 0)], [], (e_Ro_clear σ), 0, 0)) (mG (p_Cu_at x3 σ) (mIf (0 < (lg_cmp (v_C_gap (Int32.toInt64 (v_Cu_at x3 σ)) (Int32.toInt64 x1) σ) (Int32.toInt64 x2))) (mG (vp_in x3 200) (mexe KT P_C_years n (11, [some (mR 12 0), some (mI x1), some (mI x2), some (mI (x3 + 1)), none], [], (sI σ 27 0 (Int32.toNatClampNeg x3) (vp_nar .boolean 0)), 0, 0))) (mG (vp_in x3 200) (mexe KT P_C_years n (11, [some (mR 12 0), some (mI x1), some (mI x2), some (mI (x3 + 1)), none], [], (sI σ 27 0 (Int32.toNatClampNeg x3) (vp_nar .boolean 1)), 0, 0))))) := rfl
set_option maxRecDepth 100000 in
set_option maxHeartbeats 4000000 in
theorem q_C_years_70 (x3 : Int32) (x4 : Int32) (σ : MSto) (n : Nat) : mexe KT P_C_years (n + 1) (70, [some (mR 12 0), none, none, some (mI x3), some (mI x4)], [], σ, 0, 0) = mIf (200 ≤ x4) (some (147, [], [(mI x3)], σ, 0, 0)) (mG (p_C_startsSpan x4 σ) (mIf ((v_C_startsSpan x4 σ) = 0) (mIf (10 < x3) (mexe KT P_C_years n (115, [some (mR 12 0), none, none, some (mI x3), some (mI x4)], [], σ, 0, 0)) (mG (p_C_startsSpan x4 σ) (mIf ((v_C_startsSpan x4 σ) = 0) (mexe KT P_C_years n (115, [some (mR 12 0), none, none, some (mI x3), some (mI x4)], [], σ, 0, 0)) (mG (p_Ro_add (Int32.toInt64 x4) σ) (mexe KT P_C_years n (115, [some (mR 12 0), none, none, some (mI x3), some (mI x4)], [], (e_Ro_add (Int32.toInt64 x4) σ), 0, 0)))))) (mIf (10 < (x3 + 1)) (mexe KT P_C_years n (115, [some (mR 12 0), none, none, some (mI (x3 + 1)), some (mI x4)], [], σ, 0, 0)) (mG (p_C_startsSpan x4 σ) (mIf ((v_C_startsSpan x4 σ) = 0) (mexe KT P_C_years n (115, [some (mR 12 0), none, none, some (mI (x3 + 1)), some (mI x4)], [], σ, 0, 0)) (mG (p_Ro_add (Int32.toInt64 x4) σ) (mexe KT P_C_years n (115, [some (mR 12 0), none, none, some (mI (x3 + 1)), some (mI x4)], [], (e_Ro_add (Int32.toInt64 x4) σ), 0, 0)))))))) := rfl
set_option maxRecDepth 100000 in
set_option maxHeartbeats 4000000 in
theorem q_C_years_115 (x3 : Int32) (x4 : Int32) (σ : MSto) (n : Nat) : mexe KT P_C_years (n + 1) (115, [some (mR 12 0), none, none, some (mI x3), some (mI x4)], [], σ, 0, 0) = mIf (10 < x3) (mexe KT P_C_years n (70, [some (mR 12 0), none, none, some (mI x3), some (mI (x4 + 1))], [], σ, 0, 0)) (mG (p_C_endsSpan x4 σ) (mIf ((v_C_endsSpan x4 σ) = 0) (mexe KT P_C_years n (70, [some (mR 12 0), none, none, some (mI x3), some (mI (x4 + 1))], [], σ, 0, 0)) (mG (p_Ro_add (Int32.toInt64 x4) σ) (mexe KT P_C_years n (70, [some (mR 12 0), none, none, some (mI x3), some (mI (x4 + 1))], [], (e_Ro_add (Int32.toInt64 x4) σ), 0, 0))))) := rfl
set_option maxRecDepth 100000 in
theorem lj_C_years_70j115 {Post : MST → Prop} (x3 : Int32) (x4 : Int32) (σ : MSto) (s : Int32 × MSto) (hp : gj_C_years_70j115 x3 x4 σ) (hq : ¬ 0 = 1) (hn : ∀ (r1 : Int32) (r2 : MSto), tj_C_years_70j115 x3 x4 σ s = (r1, r2) → mW1 P_C_years (70, [some (mR 12 0), none, none, some (mI r1), some (mI (x4 + 1))], [], r2, 0, 0) Post) : mW1 P_C_years (115, [some (mR 12 0), none, none, some (mI x3), some (mI x4)], [], σ, 0, 0) Post := by
  unfold gj_C_years_70j115 at hp
  refine mW1_eq (q_C_years_115 _ _ _) ?_
  refine mTr_if (fun h0 => ?_) (fun h0 => ?_)
  · skip
    exact mTr_k (hn x3 σ (if_pos h0))
  · skip
    have hp := hp h0
    refine mTr_g hp.1 ?_
    have hp := hp.2
    refine mTr_if (fun h1 => ?_) (fun h1 => ?_)
    · skip
      exact mTr_k (hn x3 σ ((if_neg h0).trans (if_pos h1)))
    · skip
      have hp := hp h1
      refine mTr_g hp ?_
      exact mTr_k (hn x3 (e_Ro_add (Int32.toInt64 x4) σ) ((if_neg h0).trans (if_neg h1)))
set_option maxRecDepth 100000 in
theorem lt_C_years_70 {Post : MST → Prop}  (c : Int32) (s : Int32 × MSto) (hp : g_C_years_70 c s) (hq : ¬ q_C_years_70s c s = 1) (hn : ∀ (r1 : Int32) (r2 : MSto), t_C_years_70 c s = (r1, r2) → mW1 P_C_years (70, [some (mR 12 0), none, none, some (mI r1), some (mI (c + 1))], [], r2, 0, 0) Post) : mW1 P_C_years (70, [some (mR 12 0), none, none, some (mI (s.1)), some (mI c)], [], (s.2), 0, 0) Post := by
  unfold g_C_years_70 at hp
  refine mW1_eq (q_C_years_70 _ _ _) ?_
  refine mTr_if (fun h0 => ?_) (fun h0 => ?_)
  · skip
    exact absurd (if_pos h0) hq
  · skip
    have hp := hp h0
    refine mTr_g hp.1 ?_
    have hp := hp.2
    refine mTr_if (fun h1 => ?_) (fun h1 => ?_)
    · skip
      have hp := hp.1 h1
      refine mTr_if (fun h2 => ?_) (fun h2 => ?_)
      · skip
        have hp := hp.1 h2
        exact mTr_k (lj_C_years_70j115 (s.1) c (s.2) s hp (fun z => hq ((if_neg h0).trans z)) (fun r1 r2 zr => hn r1 r2 (((if_neg h0).trans ((if_pos h1).trans (if_pos h2))).trans zr)))
      · skip
        have hp := hp.2 h2
        refine mTr_g hp.1 ?_
        have hp := hp.2
        refine mTr_if (fun h3 => ?_) (fun h3 => ?_)
        · skip
          have hp := hp.1 h3
          exact mTr_k (lj_C_years_70j115 (s.1) c (s.2) s hp (fun z => hq ((if_neg h0).trans z)) (fun r1 r2 zr => hn r1 r2 (((if_neg h0).trans ((if_pos h1).trans ((if_neg h2).trans (if_pos h3)))).trans zr)))
        · skip
          have hp := hp.2 h3
          refine mTr_g hp.1 ?_
          have hp := hp.2
          exact mTr_k (lj_C_years_70j115 (s.1) c (e_Ro_add (Int32.toInt64 c) (s.2)) s hp (fun z => hq ((if_neg h0).trans z)) (fun r1 r2 zr => hn r1 r2 (((if_neg h0).trans ((if_pos h1).trans ((if_neg h2).trans (if_neg h3)))).trans zr)))
    · skip
      have hp := hp.2 h1
      refine mTr_if (fun h2 => ?_) (fun h2 => ?_)
      · skip
        have hp := hp.1 h2
        exact mTr_k (lj_C_years_70j115 ((s.1) + 1) c (s.2) s hp (fun z => hq ((if_neg h0).trans z)) (fun r1 r2 zr => hn r1 r2 (((if_neg h0).trans ((if_neg h1).trans (if_pos h2))).trans zr)))
      · skip
        have hp := hp.2 h2
        refine mTr_g hp.1 ?_
        have hp := hp.2
        refine mTr_if (fun h3 => ?_) (fun h3 => ?_)
        · skip
          have hp := hp.1 h3
          exact mTr_k (lj_C_years_70j115 ((s.1) + 1) c (s.2) s hp (fun z => hq ((if_neg h0).trans z)) (fun r1 r2 zr => hn r1 r2 (((if_neg h0).trans ((if_neg h1).trans ((if_neg h2).trans (if_pos h3)))).trans zr)))
        · skip
          have hp := hp.2 h3
          refine mTr_g hp.1 ?_
          have hp := hp.2
          exact mTr_k (lj_C_years_70j115 ((s.1) + 1) c (e_Ro_add (Int32.toInt64 c) (s.2)) s hp (fun z => hq ((if_neg h0).trans z)) (fun r1 r2 zr => hn r1 r2 (((if_neg h0).trans ((if_neg h1).trans ((if_neg h2).trans (if_neg h3)))).trans zr)))
theorem lp_C_years_70 {Post : MST → Prop}  (c0 : Int32) (s0 : Int32 × MSto) (N : Nat) (hb : ∀ i, i < N → g_C_years_70 (c0 + nI i) (f_C_years_70 c0 s0 i) ∧ ¬ q_C_years_70s (c0 + nI i) (f_C_years_70 c0 s0 i) = 1) (h : mW1 P_C_years (70, [some (mR 12 0), none, none, some (mI ((f_C_years_70 c0 s0 N).1)), some (mI (c0 + nI N))], [], ((f_C_years_70 c0 s0 N).2), 0, 0) Post) : mW1 P_C_years (70, [some (mR 12 0), none, none, some (mI (s0.1)), some (mI c0)], [], (s0.2), 0, 0) Post := by
  refine mW1_st (mW1_loop (fun i => (70, [some (mR 12 0), none, none, some (mI ((f_C_years_70 c0 s0 i).1)), some (mI (c0 + nI i))], [], ((f_C_years_70 c0 s0 i).2), 0, 0)) N (fun i hlt hn => ?_) h) (by rw [show nI 0 = 0 from rfl, Int32.add_zero] <;> rfl)
  refine lt_C_years_70 _ _ (hb i hlt).1 (hb i hlt).2 (fun r1 r2 hr => ?_)
  rw [Int32.add_assoc, nI_s]
  have e : f_C_years_70 c0 s0 (i + 1) = (r1, r2) := hr
  try dsimp only at hn
  rw [e] at hn
  exact hn
set_option maxRecDepth 100000 in
theorem lt_C_years_11 {Post : MST → Prop} (x1 : Int32) (x2 : Int32) (c : Int32) (s : MSto) (hp : g_C_years_11 x1 x2 c s) (hq : ¬ q_C_years_11s x1 x2 c s = 1) (hn : ∀ r, t_C_years_11 x1 x2 c s = r → mW1 P_C_years (11, [some (mR 12 0), some (mI x1), some (mI x2), some (mI (c + 1)), none], [], r, 0, 0) Post) : mW1 P_C_years (11, [some (mR 12 0), some (mI x1), some (mI x2), some (mI c), none], [], s, 0, 0) Post := by
  unfold g_C_years_11 at hp
  refine mW1_eq (q_C_years_11 _ _ _ _) ?_
  refine mTr_if (fun h0 => ?_) (fun h0 => ?_)
  · skip
    exact absurd (if_pos h0) hq
  · skip
    have hp := hp h0
    refine mTr_g hp.1 ?_
    have hp := hp.2
    refine mTr_if (fun h1 => ?_) (fun h1 => ?_)
    · skip
      have hp := hp.1 h1
      refine mTr_g hp ?_
      exact mTr_k (hn (sI s 27 0 (Int32.toNatClampNeg c) (vp_nar .boolean 0)) ((if_neg h0).trans (if_pos h1)))
    · skip
      have hp := hp.2 h1
      refine mTr_g hp ?_
      exact mTr_k (hn (sI s 27 0 (Int32.toNatClampNeg c) (vp_nar .boolean 1)) ((if_neg h0).trans (if_neg h1)))
theorem lp_C_years_11 {Post : MST → Prop} (x1 : Int32) (x2 : Int32) (c0 : Int32) (s0 : MSto) (N : Nat) (hb : ∀ i, i < N → g_C_years_11 x1 x2 (c0 + nI i) (f_C_years_11 x1 x2 c0 s0 i) ∧ ¬ q_C_years_11s x1 x2 (c0 + nI i) (f_C_years_11 x1 x2 c0 s0 i) = 1) (h : mW1 P_C_years (11, [some (mR 12 0), some (mI x1), some (mI x2), some (mI (c0 + nI N)), none], [], (f_C_years_11 x1 x2 c0 s0 N), 0, 0) Post) : mW1 P_C_years (11, [some (mR 12 0), some (mI x1), some (mI x2), some (mI c0), none], [], s0, 0, 0) Post := by
  refine mW1_st (mW1_loop (fun i => (11, [some (mR 12 0), some (mI x1), some (mI x2), some (mI (c0 + nI i)), none], [], (f_C_years_11 x1 x2 c0 s0 i), 0, 0)) N (fun i hlt hn => ?_) h) (by rw [show nI 0 = 0 from rfl, Int32.add_zero] <;> rfl)
  refine lt_C_years_11 x1 x2 _ _ (hb i hlt).1 (hb i hlt).2 (fun r hr => ?_)
  rw [Int32.add_assoc, nI_s]
  subst hr
  exact hn
set_option maxRecDepth 100000 in
set_option maxHeartbeats 4000000 in
theorem d_C_years (a1 : Int32) (a2 : Int32) (σ : MSto) (hp : p_C_years a1 a2 σ) : mW1 P_C_years (0, [some (mR 12 0), some (mI a1), some (mI a2), none, none], [], σ, 0, 0) (mF [8, 147] [mI (v_C_years a1 a2 σ)] (e_C_years a1 a2 σ) 0 0) := by
  refine mW1_eq (q_C_years_e _ _ _) ?_
  unfold p_C_years at hp
  refine mTr_if (fun h0 => ?_) (fun h0 => ?_)
  · skip
    exact mTr_e (by decide) (congrArg (fun z => [mI z]) (Eq.symm (if_pos h0))) (Eq.symm (if_pos h0)) (by decide) (by decide)
  · skip
    have hp := hp h0
    refine mTr_k (lp_C_years_11 a1 a2 0 σ (n_C_years_11 a1 a2 0 σ) hp.1 ?_)
    have hp := hp.2
    refine mW1_eq (q_C_years_11 _ _ _ _) ?_
    refine mTr_if (fun h1 => ?_) (fun h1 => ?_)
    · skip
      have hp := hp.1 h1
      refine mTr_k (lp_C_years_70 0 (0, (e_Ro_clear (f_C_years_11 a1 a2 0 σ (n_C_years_11 a1 a2 0 σ)))) (n_C_years_70 0 (0, (e_Ro_clear (f_C_years_11 a1 a2 0 σ (n_C_years_11 a1 a2 0 σ))))) hp.1 ?_)
      have hp := hp.2
      refine mW1_eq (q_C_years_70 _ _ _) ?_
      refine mTr_if (fun h2 => ?_) (fun h2 => ?_)
      · skip
        exact mTr_e (by decide) (congrArg (fun z => [mI z]) (Eq.symm (if_neg h0))) (Eq.symm (if_neg h0)) (by decide) (by decide)
      · skip
        have hp := hp h2
        exact hp.elim
    · skip
      have hp := hp.2 h1
      exact hp.elim
theorem li_C_226 : mLink "ClothWithMan" 226 E_C_endsSpan := ⟨tw_3_89, tw_1_1, ⟨by decide, by decide⟩, by decide +kernel, Or.inl tw_3_86, (fun h => by cases h), (fun _ => ⟨tw_3_88, tw_0_8, TX11, 20, rfl⟩), (fun h => by cases h)⟩







theorem tk_C_years : ∀ pc i nx tg, T_C_years pc = some (i, nx, tg) → mOkB prog_1_method_19_code pc i nx tg = true := code_ok (N := 148) (fun k h => by unfold T_C_years; rw [h]; rfl) (by decide +kernel)
theorem ok_C_years (l : Launch) : mPOK l "ClothWithMan" prog_1_method_19_code P_C_years := by
  refine ⟨tk_C_years, ?_, ?_, ?_, (fun pc i nx tg kd _ h => by cases h), ?_, ?_, fun pc en h => by cases h⟩
  · intro x ci f ty fin h
    exact mLook_all (Q := fun x v => mFOK "ClothWithMan" x v.1 v.2.1 v.2.2.1 v.2.2.2 ∧ (v.2.2.2 = true → pIni P_C_years = true → (Cond.fieldLink "ClothWithMan" x (((mCl[v.1]?).getD ("", fun _ => ("", "", "", false), 0)).2.1 v.2.1).1 (((mCl[v.1]?).getD ("", fun _ => ("", "", "", false), 0)).2.1 v.2.1).2.1 (((mCl[v.1]?).getD ("", fun _ => ("", "", "", false), 0)).2.1 v.2.1).2.2.1 ∈ lw_tbl ∧ (((mCl[v.1]?).getD ("", fun _ => ("", "", "", false), 0)).2.1 v.2.1).1 = "ClothWithMan"))) (fcC ⟨fo_C_19, fun h1 h2 => by cases h2⟩ (fcC ⟨fo_C_67, fun h1 h2 => by cases h2⟩ (fcC ⟨fo_C_79, fun h1 h2 => by cases h2⟩ (fcC ⟨fo_C_106, fun h1 h2 => by cases h2⟩ fcN)))) x (ci, f, ty, fin) h
  · intro x
    have hh := mLook_all (l := ([] : List (Nat × (Int32 ⊕ Int64)))) (Q := fun x (v : Int32 ⊕ Int64) => (∀ w, v = .inl w → Cond.constant "ClothWithMan" x w ∈ lw_tbl) ∧ (∀ w, v = .inr w → Cond.constantLong "ClothWithMan" x w ∈ lw_tbl)) fcN x
    exact ⟨fun w h => (hh _ h).1 w rfl, fun w h => (hh _ h).2 w rfl⟩
  · exact fun x en h => mLook_all (Q := fun x en => mLink "ClothWithMan" x en ∧ mCtr l en ∧ (en.1.1 = 2 → en.2.2.2.2.2.2 = none)) (fcC ⟨li_C_119, c_Cu_at l, (fun h => by cases h)⟩ (fcC ⟨li_C_154, c_C_isSpan l, (fun h => by cases h)⟩ (fcC ⟨li_C_213, c_C_gap l, (fun h => by cases h)⟩ (fcC ⟨li_C_217, c_Ro_clear l, (fun h => by cases h)⟩ (fcC ⟨li_C_220, c_C_startsSpan l, (fun h => by cases h)⟩ (fcC ⟨li_C_223, c_Ro_add l, (fun h => by cases h)⟩ (fcC ⟨li_C_226, c_C_endsSpan l, (fun h => by cases h)⟩ fcN))))))) x en h
  · exact fun x kd h => mLook_all (Q := fun x kd => (kd = 95 ∧ Cond.fieldLink "ClothWithMan" x "ClothWithMan" "LIKENESSES" "[I" ∈ lw_tbl) ∨ (kd = 96 ∧ Cond.fieldLink "ClothWithMan" x "ClothWithMan" "APART_BOUNDS" "[I" ∈ lw_tbl)) fcN x kd h
  · exact fun x ci h => mLook_all (Q := fun x ci => ci ≠ 0 ∧ ∃ (C : String) (T : u_T) (N : Nat), mCl[ci]? = some (C, T, N) ∧ Cond.classLink "ClothWithMan" x C ∈ lw_tbl ∧ Cond.instantiable C N ∈ lw_tbl) fcN x ci h
set_option maxRecDepth 100000 in
theorem c_C_years (l : Launch) : mCtr l E_C_years := mCtr_of (P := P_C_years) (own := "ClothWithMan") mLay_ok rfl (by decide +kernel) rfl (ok_C_years l) (fun h => by cases h) (fun as σ pr rv σ' hF hpr hlv => by
  unfold E_C_years S_C_years at hF
  simp only [] at hF
  split at hF
  · cases hF
    obtain ⟨n, pcF, c1, s1, g1, g2, g3, g4⟩ := mF_inv (d_C_years _ _ σ (hpr _ rfl))
    exact ⟨Nat.le_of_ble_eq_true rfl, (fun v h => by cases h; trivial), n, pcF, c1, s1, g1, ⟨mEnd_of (i := .ireturn) (P := P_C_years) (rets := [8, 147]) rfl g2, rfl⟩, g3, g4⟩
  · cases hF
    exact (hpr _ rfl).elim)
/-! ClothWithMan.likely(I)I -/
noncomputable def vj_C_likely_j60 (x4 : Int32) (σ : MSto) : Int32 := x4
noncomputable def ej_C_likely_j60 (x4 : Int32) (σ : MSto) : MSto := σ
noncomputable def v_C_likely (a1 : Int32) (σ : MSto) : Int32 := (if (v_C_areCounted a1 1 6 σ) = 0 then (-1) else (if (lg_cmp (v_C_weighYears a1 σ) 0) = 0 then (-2) else (vj_C_likely_j60 (v_C_heaviestUnmarked (e_C_clearMarks (e_C_weighYears a1 σ))) (e_Ro_addFraction (gJ (e_Ro_clear (e_C_clearMarks (e_C_weighYears a1 σ))) 26 0 (Int32.toNatClampNeg (v_C_heaviestUnmarked (e_C_clearMarks (e_C_weighYears a1 σ))))) (v_C_weighYears a1 σ) (e_Ro_clear (e_C_clearMarks (e_C_weighYears a1 σ)))))))
def p_C_likely (a1 : Int32) (σ : MSto) : Prop := ((p_C_areCounted a1 1 6 σ) ∧ (¬ ((v_C_areCounted a1 1 6 σ) = 0) → ((p_C_weighYears a1 σ) ∧ (¬ ((lg_cmp (v_C_weighYears a1 σ) 0) = 0) → ((p_C_clearMarks (e_C_weighYears a1 σ)) ∧ ((p_C_heaviestUnmarked (e_C_clearMarks (e_C_weighYears a1 σ))) ∧ ((vp_in (v_C_heaviestUnmarked (e_C_clearMarks (e_C_weighYears a1 σ))) 200) ∧ (p_Ro_addFraction (gJ (e_Ro_clear (e_C_clearMarks (e_C_weighYears a1 σ))) 26 0 (Int32.toNatClampNeg (v_C_heaviestUnmarked (e_C_clearMarks (e_C_weighYears a1 σ))))) (v_C_weighYears a1 σ) (e_Ro_clear (e_C_clearMarks (e_C_weighYears a1 σ)))))))))))
noncomputable def e_C_likely (a1 : Int32) (σ : MSto) : MSto := (if (v_C_areCounted a1 1 6 σ) = 0 then σ else (if (lg_cmp (v_C_weighYears a1 σ) 0) = 0 then (e_C_weighYears a1 σ) else (ej_C_likely_j60 (v_C_heaviestUnmarked (e_C_clearMarks (e_C_weighYears a1 σ))) (e_Ro_addFraction (gJ (e_Ro_clear (e_C_clearMarks (e_C_weighYears a1 σ))) 26 0 (Int32.toNatClampNeg (v_C_heaviestUnmarked (e_C_clearMarks (e_C_weighYears a1 σ))))) (v_C_weighYears a1 σ) (e_Ro_clear (e_C_clearMarks (e_C_weighYears a1 σ)))))))
noncomputable def S_C_likely : List MV → MSto → Option Prop × Option MV × MSto := fun as σ => match as with
  | [.inr (.inr (some (12, 0))), .inl a0] => (some (p_C_likely a0 σ), some (mI (v_C_likely a0 σ)), e_C_likely a0 σ)
  | _ => (some False, none, σ)
noncomputable def E_C_likely : MEnt := ((1, 1, 12), (8, 172, 0, 0), S_C_likely, ((⟨"ClothWithMan", "likely", "(I)I"⟩ : MethodName), prog_1_method_20_code, 5, (some .int)))

def T_C_likely : Nat → Option (Instr × Nat × List Nat) := fun k => bif Nat.blt k 63 then (bif Nat.blt k 28 then (bif Nat.blt k 14 then (bif Nat.blt k 5 then (bif Nat.blt k 2 then (bif Nat.blt k 1 then (bif Nat.beq k 0 then some (.aload_n 0, 1, []) else none) else (bif Nat.beq k 1 then some (.iload_n 1, 2, []) else none)) else (bif Nat.blt k 3 then (bif Nat.beq k 2 then some (.iconst 1, 3, []) else none) else (bif Nat.beq k 3 then some (.bipush 6, 5, []) else none))) else (bif Nat.blt k 11 then (bif Nat.blt k 8 then (bif Nat.beq k 5 then some (.invokevirtual 229, 8, []) else none) else (bif Nat.beq k 8 then some (.ifCond .ne 5, 11, [13]) else none)) else (bif Nat.blt k 12 then (bif Nat.beq k 11 then some (.iconst (-1), 12, []) else none) else (bif Nat.blt k 13 then (bif Nat.beq k 12 then some (.ireturn, 13, []) else none) else (bif Nat.beq k 13 then some (.aload_n 0, 14, []) else none))))) else (bif Nat.blt k 20 then (bif Nat.blt k 18 then (bif Nat.blt k 15 then (bif Nat.beq k 14 then some (.iload_n 1, 15, []) else none) else (bif Nat.beq k 15 then some (.invokevirtual 232, 18, []) else none)) else (bif Nat.blt k 19 then (bif Nat.beq k 18 then some (.lstore_n 2, 19, []) else none) else (bif Nat.beq k 19 then some (.lload_n 2, 20, []) else none))) else (bif Nat.blt k 22 then (bif Nat.blt k 21 then (bif Nat.beq k 20 then some (.lconst 0, 21, []) else none) else (bif Nat.beq k 21 then some (.lcmp, 22, []) else none)) else (bif Nat.blt k 25 then (bif Nat.beq k 22 then some (.ifCond .ne 6, 25, [28]) else none) else (bif Nat.blt k 27 then (bif Nat.beq k 25 then some (.bipush (-2), 27, []) else none) else (bif Nat.beq k 27 then some (.ireturn, 28, []) else none)))))) else (bif Nat.blt k 46 then (bif Nat.blt k 36 then (bif Nat.blt k 32 then (bif Nat.blt k 29 then (bif Nat.beq k 28 then some (.aload_n 0, 29, []) else none) else (bif Nat.beq k 29 then some (.invokevirtual 236, 32, []) else none)) else (bif Nat.blt k 33 then (bif Nat.beq k 32 then some (.aload_n 0, 33, []) else none) else (bif Nat.beq k 33 then some (.invokevirtual 239, 36, []) else none))) else (bif Nat.blt k 39 then (bif Nat.blt k 38 then (bif Nat.beq k 36 then some (.istore 4, 38, []) else none) else (bif Nat.beq k 38 then some (.aload_n 0, 39, []) else none)) else (bif Nat.blt k 42 then (bif Nat.beq k 39 then some (.getfield 67, 42, []) else none) else (bif Nat.blt k 45 then (bif Nat.beq k 42 then some (.invokevirtual 217, 45, []) else none) else (bif Nat.beq k 45 then some (.aload_n 0, 46, []) else none))))) else (bif Nat.blt k 55 then (bif Nat.blt k 50 then (bif Nat.blt k 49 then (bif Nat.beq k 46 then some (.getfield 67, 49, []) else none) else (bif Nat.beq k 49 then some (.aload_n 0, 50, []) else none)) else (bif Nat.blt k 53 then (bif Nat.beq k 50 then some (.getfield 75, 53, []) else none) else (bif Nat.beq k 53 then some (.iload 4, 55, []) else none))) else (bif Nat.blt k 57 then (bif Nat.blt k 56 then (bif Nat.beq k 55 then some (.laload, 56, []) else none) else (bif Nat.beq k 56 then some (.lload_n 2, 57, []) else none)) else (bif Nat.blt k 60 then (bif Nat.beq k 57 then some (.invokevirtual 242, 60, []) else none) else (bif Nat.blt k 62 then (bif Nat.beq k 60 then some (.iload 4, 62, []) else none) else (bif Nat.beq k 62 then some (.ireturn, 63, []) else none))))))) else none
noncomputable def P_C_likely : MP := (T_C_likely, (fun k => mLook k [(67, (12, 11, (.object "ClothWithMan$Row"), true)), (75, (12, 13, (.array .long), true))]), (fun k => mLook k []), (fun k => mLook k [(217, E_Ro_clear), (229, E_C_areCounted), (232, E_C_weighYears), (236, E_C_clearMarks), (239, E_C_heaviestUnmarked), (242, E_Ro_addFraction)]), (fun k => mLook k []), (fun k => mLook k []), (fun k => mLook k []), (fun k => mLook k [(60, [false, false, false, false, true])]), (fun k => [12, 27, 62].any (Nat.beq k)), (8, 172, 0, 0), false, (fun _ => none))
set_option maxRecDepth 100000 in
set_option maxHeartbeats 4000000 in
theorem q_C_likely_e (a1 : Int32) (σ : MSto) (n : Nat) : mexe KT P_C_likely (n + 1) (0, [some (mR 12 0), some (mI a1), none, none, none], [], σ, 0, 0) = mG (p_C_areCounted a1 1 6 σ) (mIf ((v_C_areCounted a1 1 6 σ) = 0) (some (12, [], [(mI (-1))], σ, 0, 0)) (mG (p_C_weighYears a1 σ) (mIf ((lg_cmp (v_C_weighYears a1 σ) 0) = 0) (some (27, [], [(mI (-2))], (e_C_weighYears a1 σ), 0, 0)) (mG (p_C_clearMarks (e_C_weighYears a1 σ)) (mG (p_C_heaviestUnmarked (e_C_clearMarks (e_C_weighYears a1 σ))) (mG (vp_in (v_C_heaviestUnmarked (e_C_clearMarks (e_C_weighYears a1 σ))) 200) (mG (p_Ro_addFraction (gJ (e_Ro_clear (e_C_clearMarks (e_C_weighYears a1 σ))) 26 0 (Int32.toNatClampNeg (v_C_heaviestUnmarked (e_C_clearMarks (e_C_weighYears a1 σ))))) (v_C_weighYears a1 σ) (e_Ro_clear (e_C_clearMarks (e_C_weighYears a1 σ)))) (mexe KT P_C_likely n (60, [none, none, none, none, some (mI (v_C_heaviestUnmarked (e_C_clearMarks (e_C_weighYears a1 σ))))], [], (e_Ro_addFraction (gJ (e_Ro_clear (e_C_clearMarks (e_C_weighYears a1 σ))) 26 0 (Int32.toNatClampNeg (v_C_heaviestUnmarked (e_C_clearMarks (e_C_weighYears a1 σ))))) (v_C_weighYears a1 σ) (e_Ro_clear (e_C_clearMarks (e_C_weighYears a1 σ)))), 0, 0))))))))) := rfl
set_option maxRecDepth 100000 in
set_option maxHeartbeats 4000000 in
theorem q_C_likely_60 (x4 : Int32) (σ : MSto) (n : Nat) : mexe KT P_C_likely (n + 1) (60, [none, none, none, none, some (mI x4)], [], σ, 0, 0) = some (62, [], [(mI x4)], σ, 0, 0) := rfl
set_option maxRecDepth 100000 in
theorem lj_C_likely_j60 (x4 : Int32) (σ : MSto) : mW1 P_C_likely (60, [none, none, none, none, some (mI x4)], [], σ, 0, 0) (mF [12, 27, 62] [mI (vj_C_likely_j60 x4 σ)] (ej_C_likely_j60 x4 σ) 0 0) := by
  refine mW1_eq (q_C_likely_60 _ _) ?_
  exact mTr_e (by decide) (congrArg (fun z => [mI z]) (Eq.symm (rfl))) (Eq.symm (rfl)) (by decide) (by decide)
set_option maxRecDepth 100000 in
set_option maxHeartbeats 4000000 in
theorem d_C_likely (a1 : Int32) (σ : MSto) (hp : p_C_likely a1 σ) : mW1 P_C_likely (0, [some (mR 12 0), some (mI a1), none, none, none], [], σ, 0, 0) (mF [12, 27, 62] [mI (v_C_likely a1 σ)] (e_C_likely a1 σ) 0 0) := by
  refine mW1_eq (q_C_likely_e _ _) ?_
  unfold p_C_likely at hp
  refine mTr_g hp.1 ?_
  have hp := hp.2
  refine mTr_if (fun h0 => ?_) (fun h0 => ?_)
  · skip
    exact mTr_e (by decide) (congrArg (fun z => [mI z]) (Eq.symm (if_pos h0))) (Eq.symm (if_pos h0)) (by decide) (by decide)
  · skip
    have hp := hp h0
    refine mTr_g hp.1 ?_
    have hp := hp.2
    refine mTr_if (fun h1 => ?_) (fun h1 => ?_)
    · skip
      exact mTr_e (by decide) (congrArg (fun z => [mI z]) (Eq.symm ((if_neg h0).trans (if_pos h1)))) (Eq.symm ((if_neg h0).trans (if_pos h1))) (by decide) (by decide)
    · skip
      have hp := hp h1
      refine mTr_g hp.1 ?_
      have hp := hp.2
      refine mTr_g hp.1 ?_
      have hp := hp.2
      refine mTr_g hp.1 ?_
      have hp := hp.2
      refine mTr_g hp ?_
      exact mTr_k (mF_cI ((if_neg h0).trans (if_neg h1)) ((if_neg h0).trans (if_neg h1)) (lj_C_likely_j60 (v_C_heaviestUnmarked (e_C_clearMarks (e_C_weighYears a1 σ))) (e_Ro_addFraction (gJ (e_Ro_clear (e_C_clearMarks (e_C_weighYears a1 σ))) 26 0 (Int32.toNatClampNeg (v_C_heaviestUnmarked (e_C_clearMarks (e_C_weighYears a1 σ))))) (v_C_weighYears a1 σ) (e_Ro_clear (e_C_clearMarks (e_C_weighYears a1 σ))))))
theorem li_C_242 : mLink "ClothWithMan" 242 E_Ro_addFraction := ⟨tw_3_135, tw_1_8, ⟨by decide, by decide⟩, by decide +kernel, Or.inl tw_3_132, (fun h => by cases h), (fun _ => ⟨tw_3_133, tw_3_134, TX7, 2, rfl⟩), (fun h => by cases h)⟩

theorem li_C_239 : mLink "ClothWithMan" 239 E_C_heaviestUnmarked := ⟨tw_3_130, tw_1_1, ⟨by decide, by decide⟩, by decide +kernel, Or.inl tw_3_127, (fun h => by cases h), (fun _ => ⟨tw_3_129, tw_0_15, TX11, 20, rfl⟩), (fun h => by cases h)⟩

theorem li_C_236 : mLink "ClothWithMan" 236 E_C_clearMarks := ⟨tw_3_126, tw_1_1, ⟨by decide, by decide⟩, by decide +kernel, Or.inl tw_3_123, (fun h => by cases h), (fun _ => ⟨tw_3_125, tw_0_14, TX11, 20, rfl⟩), (fun h => by cases h)⟩

theorem li_C_232 : mLink "ClothWithMan" 232 E_C_weighYears := ⟨tw_3_111, tw_1_1, ⟨by decide, by decide⟩, by decide +kernel, Or.inl tw_3_108, (fun h => by cases h), (fun _ => ⟨tw_3_110, tw_0_11, TX11, 20, rfl⟩), (fun h => by cases h)⟩



theorem tk_C_likely : ∀ pc i nx tg, T_C_likely pc = some (i, nx, tg) → mOkB prog_1_method_20_code pc i nx tg = true := code_ok (N := 63) (fun k h => by unfold T_C_likely; rw [h]; rfl) (by decide +kernel)
theorem ok_C_likely (l : Launch) : mPOK l "ClothWithMan" prog_1_method_20_code P_C_likely := by
  refine ⟨tk_C_likely, ?_, ?_, ?_, (fun pc i nx tg kd _ h => by cases h), ?_, ?_, fun pc en h => by cases h⟩
  · intro x ci f ty fin h
    exact mLook_all (Q := fun x v => mFOK "ClothWithMan" x v.1 v.2.1 v.2.2.1 v.2.2.2 ∧ (v.2.2.2 = true → pIni P_C_likely = true → (Cond.fieldLink "ClothWithMan" x (((mCl[v.1]?).getD ("", fun _ => ("", "", "", false), 0)).2.1 v.2.1).1 (((mCl[v.1]?).getD ("", fun _ => ("", "", "", false), 0)).2.1 v.2.1).2.1 (((mCl[v.1]?).getD ("", fun _ => ("", "", "", false), 0)).2.1 v.2.1).2.2.1 ∈ lw_tbl ∧ (((mCl[v.1]?).getD ("", fun _ => ("", "", "", false), 0)).2.1 v.2.1).1 = "ClothWithMan"))) (fcC ⟨fo_C_67, fun h1 h2 => by cases h2⟩ (fcC ⟨fo_C_75, fun h1 h2 => by cases h2⟩ fcN)) x (ci, f, ty, fin) h
  · intro x
    have hh := mLook_all (l := ([] : List (Nat × (Int32 ⊕ Int64)))) (Q := fun x (v : Int32 ⊕ Int64) => (∀ w, v = .inl w → Cond.constant "ClothWithMan" x w ∈ lw_tbl) ∧ (∀ w, v = .inr w → Cond.constantLong "ClothWithMan" x w ∈ lw_tbl)) fcN x
    exact ⟨fun w h => (hh _ h).1 w rfl, fun w h => (hh _ h).2 w rfl⟩
  · exact fun x en h => mLook_all (Q := fun x en => mLink "ClothWithMan" x en ∧ mCtr l en ∧ (en.1.1 = 2 → en.2.2.2.2.2.2 = none)) (fcC ⟨li_C_217, c_Ro_clear l, (fun h => by cases h)⟩ (fcC ⟨li_C_229, c_C_areCounted l, (fun h => by cases h)⟩ (fcC ⟨li_C_232, c_C_weighYears l, (fun h => by cases h)⟩ (fcC ⟨li_C_236, c_C_clearMarks l, (fun h => by cases h)⟩ (fcC ⟨li_C_239, c_C_heaviestUnmarked l, (fun h => by cases h)⟩ (fcC ⟨li_C_242, c_Ro_addFraction l, (fun h => by cases h)⟩ fcN)))))) x en h
  · exact fun x kd h => mLook_all (Q := fun x kd => (kd = 95 ∧ Cond.fieldLink "ClothWithMan" x "ClothWithMan" "LIKENESSES" "[I" ∈ lw_tbl) ∨ (kd = 96 ∧ Cond.fieldLink "ClothWithMan" x "ClothWithMan" "APART_BOUNDS" "[I" ∈ lw_tbl)) fcN x kd h
  · exact fun x ci h => mLook_all (Q := fun x ci => ci ≠ 0 ∧ ∃ (C : String) (T : u_T) (N : Nat), mCl[ci]? = some (C, T, N) ∧ Cond.classLink "ClothWithMan" x C ∈ lw_tbl ∧ Cond.instantiable C N ∈ lw_tbl) fcN x ci h
set_option maxRecDepth 100000 in
theorem c_C_likely (l : Launch) : mCtr l E_C_likely := mCtr_of (P := P_C_likely) (own := "ClothWithMan") mLay_ok rfl (by decide +kernel) rfl (ok_C_likely l) (fun h => by cases h) (fun as σ pr rv σ' hF hpr hlv => by
  unfold E_C_likely S_C_likely at hF
  simp only [] at hF
  split at hF
  · cases hF
    obtain ⟨n, pcF, c1, s1, g1, g2, g3, g4⟩ := mF_inv (d_C_likely _ σ (hpr _ rfl))
    exact ⟨Nat.le_of_ble_eq_true rfl, (fun v h => by cases h; trivial), n, pcF, c1, s1, g1, ⟨mEnd_of (i := .ireturn) (P := P_C_likely) (rets := [12, 27, 62]) rfl g2, rfl⟩, g3, g4⟩
  · cases hF
    exact (hpr _ rfl).elim)
/-! ClothWithMan.within(II)I -/
noncomputable def t_C_within_48 (x2 : Int32) (x3 : Int64) (c : Int32) (s : Int64 × MSto) : Int64 × MSto := (if 200 ≤ c then s else (if 0 ≤ (lg_cmp ((s.1) * 100) (x3 * (Int32.toInt64 x2))) then s else (((s.1) + (gJ (sI (s.2) 27 0 (Int32.toNatClampNeg (v_C_heaviestUnmarked (s.2))) (vp_nar .boolean 1)) 26 0 (Int32.toNatClampNeg (v_C_heaviestUnmarked (s.2))))), (sI (s.2) 27 0 (Int32.toNatClampNeg (v_C_heaviestUnmarked (s.2))) (vp_nar .boolean 1)))))
noncomputable def q_C_within_48s (x2 : Int32) (x3 : Int64) (c : Int32) (s : Int64 × MSto) : Nat := (if 200 ≤ c then 1 else (if 0 ≤ (lg_cmp ((s.1) * 100) (x3 * (Int32.toInt64 x2))) then 1 else 0))
def g_C_within_48 (x2 : Int32) (x3 : Int64) (c : Int32) (s : Int64 × MSto) : Prop := (¬ (200 ≤ c) → (¬ (0 ≤ (lg_cmp ((s.1) * 100) (x3 * (Int32.toInt64 x2)))) → ((p_C_heaviestUnmarked (s.2)) ∧ ((vp_in (v_C_heaviestUnmarked (s.2)) 200) ∧ (vp_in (v_C_heaviestUnmarked (s.2)) 200)))))
noncomputable def f_C_within_48 (x2 : Int32) (x3 : Int64) (c0 : Int32) (s0 : Int64 × MSto) (n : Nat) : Int64 × MSto := nfold (fun i s => t_C_within_48 x2 x3 (c0 + nI i) s) s0 n
noncomputable def n_C_within_48 (x2 : Int32) (x3 : Int64) (c0 : Int32) (s0 : Int64 × MSto) : Nat := leastN (fun i => q_C_within_48s x2 x3 (c0 + nI i) (f_C_within_48 x2 x3 c0 s0 i) = 1) 201
noncomputable def v_C_within (a1 : Int32) (a2 : Int32) (σ : MSto) : Int32 := (if (v_C_areCounted a1 1 6 σ) = 0 then (-1) else (if (v_C_isIn a2 1 100 σ) = 0 then (-1) else (if (lg_cmp (v_C_weighYears a1 σ) 0) = 0 then (-2) else (0 + nI (n_C_within_48 a2 (v_C_weighYears a1 σ) 0 (0, (e_C_clearMarks (e_C_weighYears a1 σ))))))))
def p_C_within (a1 : Int32) (a2 : Int32) (σ : MSto) : Prop := ((p_C_areCounted a1 1 6 σ) ∧ (¬ ((v_C_areCounted a1 1 6 σ) = 0) → (¬ ((v_C_isIn a2 1 100 σ) = 0) → ((p_C_weighYears a1 σ) ∧ (¬ ((lg_cmp (v_C_weighYears a1 σ) 0) = 0) → ((p_C_clearMarks (e_C_weighYears a1 σ)) ∧ ((∀ i, i < (n_C_within_48 a2 (v_C_weighYears a1 σ) 0 (0, (e_C_clearMarks (e_C_weighYears a1 σ)))) → g_C_within_48 a2 (v_C_weighYears a1 σ) (0 + nI i) (f_C_within_48 a2 (v_C_weighYears a1 σ) 0 (0, (e_C_clearMarks (e_C_weighYears a1 σ))) i) ∧ ¬ q_C_within_48s a2 (v_C_weighYears a1 σ) (0 + nI i) (f_C_within_48 a2 (v_C_weighYears a1 σ) 0 (0, (e_C_clearMarks (e_C_weighYears a1 σ))) i) = 1) ∧ (((200 ≤ (0 + nI (n_C_within_48 a2 (v_C_weighYears a1 σ) 0 (0, (e_C_clearMarks (e_C_weighYears a1 σ)))))) → (p_C_tellMarked ((f_C_within_48 a2 (v_C_weighYears a1 σ) 0 (0, (e_C_clearMarks (e_C_weighYears a1 σ))) (n_C_within_48 a2 (v_C_weighYears a1 σ) 0 (0, (e_C_clearMarks (e_C_weighYears a1 σ))))).2))) ∧ (¬ (200 ≤ (0 + nI (n_C_within_48 a2 (v_C_weighYears a1 σ) 0 (0, (e_C_clearMarks (e_C_weighYears a1 σ)))))) → (((0 ≤ (lg_cmp (((f_C_within_48 a2 (v_C_weighYears a1 σ) 0 (0, (e_C_clearMarks (e_C_weighYears a1 σ))) (n_C_within_48 a2 (v_C_weighYears a1 σ) 0 (0, (e_C_clearMarks (e_C_weighYears a1 σ))))).1) * 100) ((v_C_weighYears a1 σ) * (Int32.toInt64 a2)))) → (p_C_tellMarked ((f_C_within_48 a2 (v_C_weighYears a1 σ) 0 (0, (e_C_clearMarks (e_C_weighYears a1 σ))) (n_C_within_48 a2 (v_C_weighYears a1 σ) 0 (0, (e_C_clearMarks (e_C_weighYears a1 σ))))).2))) ∧ (¬ (0 ≤ (lg_cmp (((f_C_within_48 a2 (v_C_weighYears a1 σ) 0 (0, (e_C_clearMarks (e_C_weighYears a1 σ))) (n_C_within_48 a2 (v_C_weighYears a1 σ) 0 (0, (e_C_clearMarks (e_C_weighYears a1 σ))))).1) * 100) ((v_C_weighYears a1 σ) * (Int32.toInt64 a2)))) → False)))))))))))
noncomputable def e_C_within (a1 : Int32) (a2 : Int32) (σ : MSto) : MSto := (if (v_C_areCounted a1 1 6 σ) = 0 then σ else (if (v_C_isIn a2 1 100 σ) = 0 then σ else (if (lg_cmp (v_C_weighYears a1 σ) 0) = 0 then (e_C_weighYears a1 σ) else (e_C_tellMarked ((f_C_within_48 a2 (v_C_weighYears a1 σ) 0 (0, (e_C_clearMarks (e_C_weighYears a1 σ))) (n_C_within_48 a2 (v_C_weighYears a1 σ) 0 (0, (e_C_clearMarks (e_C_weighYears a1 σ))))).2)))))
noncomputable def S_C_within : List MV → MSto → Option Prop × Option MV × MSto := fun as σ => match as with
  | [.inr (.inr (some (12, 0))), .inl a0, .inl a1] => (some (p_C_within a0 a1 σ), some (mI (v_C_within a0 a1 σ)), e_C_within a0 a1 σ)
  | _ => (some False, none, σ)
noncomputable def E_C_within : MEnt := ((1, 2, 12), (8, 172, 0, 0), S_C_within, ((⟨"ClothWithMan", "within", "(II)I"⟩ : MethodName), prog_1_method_21_code, 9, (some .int)))

def T_C_within : Nat → Option (Instr × Nat × List Nat) := fun k => bif Nat.blt k 109 then (bif Nat.blt k 53 then (bif Nat.blt k 25 then (bif Nat.blt k 12 then (bif Nat.blt k 3 then (bif Nat.blt k 1 then (bif Nat.beq k 0 then some (.aload_n 0, 1, []) else none) else (bif Nat.blt k 2 then (bif Nat.beq k 1 then some (.iload_n 1, 2, []) else none) else (bif Nat.beq k 2 then some (.iconst 1, 3, []) else none))) else (bif Nat.blt k 8 then (bif Nat.blt k 5 then (bif Nat.beq k 3 then some (.bipush 6, 5, []) else none) else (bif Nat.beq k 5 then some (.invokevirtual 229, 8, []) else none)) else (bif Nat.blt k 11 then (bif Nat.beq k 8 then some (.ifCond .eq 13, 11, [21]) else none) else (bif Nat.beq k 11 then some (.iload_n 2, 12, []) else none)))) else (bif Nat.blt k 21 then (bif Nat.blt k 15 then (bif Nat.blt k 13 then (bif Nat.beq k 12 then some (.iconst 1, 13, []) else none) else (bif Nat.beq k 13 then some (.bipush 100, 15, []) else none)) else (bif Nat.blt k 18 then (bif Nat.beq k 15 then some (.invokestatic 145, 18, []) else none) else (bif Nat.beq k 18 then some (.ifCond .ne 5, 21, [23]) else none))) else (bif Nat.blt k 23 then (bif Nat.blt k 22 then (bif Nat.beq k 21 then some (.iconst (-1), 22, []) else none) else (bif Nat.beq k 22 then some (.ireturn, 23, []) else none)) else (bif Nat.blt k 24 then (bif Nat.beq k 23 then some (.aload_n 0, 24, []) else none) else (bif Nat.beq k 24 then some (.iload_n 1, 25, []) else none))))) else (bif Nat.blt k 38 then (bif Nat.blt k 31 then (bif Nat.blt k 29 then (bif Nat.blt k 28 then (bif Nat.beq k 25 then some (.invokevirtual 232, 28, []) else none) else (bif Nat.beq k 28 then some (.lstore_n 3, 29, []) else none)) else (bif Nat.blt k 30 then (bif Nat.beq k 29 then some (.lload_n 3, 30, []) else none) else (bif Nat.beq k 30 then some (.lconst 0, 31, []) else none))) else (bif Nat.blt k 35 then (bif Nat.blt k 32 then (bif Nat.beq k 31 then some (.lcmp, 32, []) else none) else (bif Nat.beq k 32 then some (.ifCond .ne 6, 35, [38]) else none)) else (bif Nat.blt k 37 then (bif Nat.beq k 35 then some (.bipush (-2), 37, []) else none) else (bif Nat.beq k 37 then some (.ireturn, 38, []) else none)))) else (bif Nat.blt k 45 then (bif Nat.blt k 42 then (bif Nat.blt k 39 then (bif Nat.beq k 38 then some (.aload_n 0, 39, []) else none) else (bif Nat.beq k 39 then some (.invokevirtual 236, 42, []) else none)) else (bif Nat.blt k 43 then (bif Nat.beq k 42 then some (.iconst 0, 43, []) else none) else (bif Nat.beq k 43 then some (.istore 5, 45, []) else none))) else (bif Nat.blt k 48 then (bif Nat.blt k 46 then (bif Nat.beq k 45 then some (.lconst 0, 46, []) else none) else (bif Nat.beq k 46 then some (.lstore 6, 48, []) else none)) else (bif Nat.blt k 50 then (bif Nat.beq k 48 then some (.iload 5, 50, []) else none) else (bif Nat.beq k 50 then some (.sipush 200, 53, []) else none)))))) else (bif Nat.blt k 80 then (bif Nat.blt k 65 then (bif Nat.blt k 61 then (bif Nat.blt k 56 then (bif Nat.beq k 53 then some (.if_icmp .ge 49, 56, [102]) else none) else (bif Nat.blt k 58 then (bif Nat.beq k 56 then some (.lload 6, 58, []) else none) else (bif Nat.beq k 58 then some (.ldc2_w 246, 61, []) else none))) else (bif Nat.blt k 63 then (bif Nat.blt k 62 then (bif Nat.beq k 61 then some (.lmul, 62, []) else none) else (bif Nat.beq k 62 then some (.lload_n 3, 63, []) else none)) else (bif Nat.blt k 64 then (bif Nat.beq k 63 then some (.iload_n 2, 64, []) else none) else (bif Nat.beq k 64 then some (.i2l, 65, []) else none)))) else (bif Nat.blt k 71 then (bif Nat.blt k 67 then (bif Nat.blt k 66 then (bif Nat.beq k 65 then some (.lmul, 66, []) else none) else (bif Nat.beq k 66 then some (.lcmp, 67, []) else none)) else (bif Nat.blt k 70 then (bif Nat.beq k 67 then some (.ifCond .ge 35, 70, [102]) else none) else (bif Nat.beq k 70 then some (.aload_n 0, 71, []) else none))) else (bif Nat.blt k 76 then (bif Nat.blt k 74 then (bif Nat.beq k 71 then some (.invokevirtual 239, 74, []) else none) else (bif Nat.beq k 74 then some (.istore 8, 76, []) else none)) else (bif Nat.blt k 77 then (bif Nat.beq k 76 then some (.aload_n 0, 77, []) else none) else (bif Nat.beq k 77 then some (.getfield 79, 80, []) else none))))) else (bif Nat.blt k 93 then (bif Nat.blt k 86 then (bif Nat.blt k 83 then (bif Nat.blt k 82 then (bif Nat.beq k 80 then some (.iload 8, 82, []) else none) else (bif Nat.beq k 82 then some (.iconst 1, 83, []) else none)) else (bif Nat.blt k 84 then (bif Nat.beq k 83 then some (.bastore, 84, []) else none) else (bif Nat.beq k 84 then some (.lload 6, 86, []) else none))) else (bif Nat.blt k 90 then (bif Nat.blt k 87 then (bif Nat.beq k 86 then some (.aload_n 0, 87, []) else none) else (bif Nat.beq k 87 then some (.getfield 75, 90, []) else none)) else (bif Nat.blt k 92 then (bif Nat.beq k 90 then some (.iload 8, 92, []) else none) else (bif Nat.beq k 92 then some (.laload, 93, []) else none)))) else (bif Nat.blt k 102 then (bif Nat.blt k 96 then (bif Nat.blt k 94 then (bif Nat.beq k 93 then some (.ladd, 94, []) else none) else (bif Nat.beq k 94 then some (.lstore 6, 96, []) else none)) else (bif Nat.blt k 99 then (bif Nat.beq k 96 then some (.iinc 5 1, 99, []) else none) else (bif Nat.beq k 99 then some (.goto (-51), 102, [48]) else none))) else (bif Nat.blt k 106 then (bif Nat.blt k 103 then (bif Nat.beq k 102 then some (.aload_n 0, 103, []) else none) else (bif Nat.beq k 103 then some (.invokevirtual 248, 106, []) else none)) else (bif Nat.blt k 108 then (bif Nat.beq k 106 then some (.iload 5, 108, []) else none) else (bif Nat.beq k 108 then some (.ireturn, 109, []) else none))))))) else none
noncomputable def P_C_within : MP := (T_C_within, (fun k => mLook k [(75, (12, 13, (.array .long), true)), (79, (12, 14, (.array .boolean), true))]), (fun k => mLook k [(246, .inr 100)]), (fun k => mLook k [(145, E_C_isIn), (229, E_C_areCounted), (232, E_C_weighYears), (236, E_C_clearMarks), (239, E_C_heaviestUnmarked), (248, E_C_tellMarked)]), (fun k => mLook k []), (fun k => mLook k []), (fun k => mLook k []), (fun k => mLook k [(48, [true, false, true, true, false, true, true, false, false])]), (fun k => [22, 37, 108].any (Nat.beq k)), (8, 172, 0, 0), false, (fun _ => none))
set_option maxRecDepth 100000 in
set_option maxHeartbeats 4000000 in
theorem q_C_within_e (a1 : Int32) (a2 : Int32) (σ : MSto) (n : Nat) : mexe KT P_C_within (n + 1) (0, [some (mR 12 0), some (mI a1), some (mI a2), none, none, none, none, none, none], [], σ, 0, 0) = mG (p_C_areCounted a1 1 6 σ) (mIf ((v_C_areCounted a1 1 6 σ) = 0) (some (22, [], [(mI (-1))], σ, 0, 0)) (mIf ((v_C_isIn a2 1 100 σ) = 0) (some (22, [], [(mI (-1))], σ, 0, 0)) (mG (p_C_weighYears a1 σ) (mIf ((lg_cmp (v_C_weighYears a1 σ) 0) = 0) (some (37, [], [(mI (-2))], (e_C_weighYears a1 σ), 0, 0)) (mG (p_C_clearMarks (e_C_weighYears a1 σ)) (mexe KT P_C_within n (48, [some (mR 12 0), none, some (mI a2), some (mJ (v_C_weighYears a1 σ)), none, some (mI 0), some (mJ 0), none, none], [], (e_C_clearMarks (e_C_weighYears a1 σ)), 0, 0))))))) := rfl
set_option maxRecDepth 100000 in
set_option maxHeartbeats 4000000 in
theorem q_C_within_48 (x2 : Int32) (x3 : Int64) (x5 : Int32) (x6 : Int64) (σ : MSto) (n : Nat) : mexe KT P_C_within (n + 1) (48, [some (mR 12 0), none, some (mI x2), some (mJ x3), none, some (mI x5), some (mJ x6), none, none], [], σ, 0, 0) = mIf (200 ≤ x5) (mG (p_C_tellMarked σ) (some (108, [], [(mI x5)], (e_C_tellMarked σ), 0, 0))) (mIf (0 ≤ (lg_cmp (x6 * 100) (x3 * (Int32.toInt64 x2)))) (mG (p_C_tellMarked σ) (some (108, [], [(mI x5)], (e_C_tellMarked σ), 0, 0))) (mG (p_C_heaviestUnmarked σ) (mG (vp_in (v_C_heaviestUnmarked σ) 200) (mG (vp_in (v_C_heaviestUnmarked σ) 200) (mexe KT P_C_within n (48, [some (mR 12 0), none, some (mI x2), some (mJ x3), none, some (mI (x5 + 1)), some (mJ (x6 + (gJ (sI σ 27 0 (Int32.toNatClampNeg (v_C_heaviestUnmarked σ)) (vp_nar .boolean 1)) 26 0 (Int32.toNatClampNeg (v_C_heaviestUnmarked σ))))), none, none], [], (sI σ 27 0 (Int32.toNatClampNeg (v_C_heaviestUnmarked σ)) (vp_nar .boolean 1)), 0, 0)))))) := rfl
set_option maxRecDepth 100000 in
theorem lt_C_within_48 {Post : MST → Prop} (x2 : Int32) (x3 : Int64) (c : Int32) (s : Int64 × MSto) (hp : g_C_within_48 x2 x3 c s) (hq : ¬ q_C_within_48s x2 x3 c s = 1) (hn : ∀ (r1 : Int64) (r2 : MSto), t_C_within_48 x2 x3 c s = (r1, r2) → mW1 P_C_within (48, [some (mR 12 0), none, some (mI x2), some (mJ x3), none, some (mI (c + 1)), some (mJ r1), none, none], [], r2, 0, 0) Post) : mW1 P_C_within (48, [some (mR 12 0), none, some (mI x2), some (mJ x3), none, some (mI c), some (mJ (s.1)), none, none], [], (s.2), 0, 0) Post := by
  unfold g_C_within_48 at hp
  refine mW1_eq (q_C_within_48 _ _ _ _ _) ?_
  refine mTr_if (fun h0 => ?_) (fun h0 => ?_)
  · skip
    exact absurd (if_pos h0) hq
  · skip
    have hp := hp h0
    refine mTr_if (fun h1 => ?_) (fun h1 => ?_)
    · skip
      exact absurd ((if_neg h0).trans (if_pos h1)) hq
    · skip
      have hp := hp h1
      refine mTr_g hp.1 ?_
      have hp := hp.2
      refine mTr_g hp.1 ?_
      have hp := hp.2
      refine mTr_g hp ?_
      exact mTr_k (hn ((s.1) + (gJ (sI (s.2) 27 0 (Int32.toNatClampNeg (v_C_heaviestUnmarked (s.2))) (vp_nar .boolean 1)) 26 0 (Int32.toNatClampNeg (v_C_heaviestUnmarked (s.2))))) (sI (s.2) 27 0 (Int32.toNatClampNeg (v_C_heaviestUnmarked (s.2))) (vp_nar .boolean 1)) ((if_neg h0).trans (if_neg h1)))
theorem lp_C_within_48 {Post : MST → Prop} (x2 : Int32) (x3 : Int64) (c0 : Int32) (s0 : Int64 × MSto) (N : Nat) (hb : ∀ i, i < N → g_C_within_48 x2 x3 (c0 + nI i) (f_C_within_48 x2 x3 c0 s0 i) ∧ ¬ q_C_within_48s x2 x3 (c0 + nI i) (f_C_within_48 x2 x3 c0 s0 i) = 1) (h : mW1 P_C_within (48, [some (mR 12 0), none, some (mI x2), some (mJ x3), none, some (mI (c0 + nI N)), some (mJ ((f_C_within_48 x2 x3 c0 s0 N).1)), none, none], [], ((f_C_within_48 x2 x3 c0 s0 N).2), 0, 0) Post) : mW1 P_C_within (48, [some (mR 12 0), none, some (mI x2), some (mJ x3), none, some (mI c0), some (mJ (s0.1)), none, none], [], (s0.2), 0, 0) Post := by
  refine mW1_st (mW1_loop (fun i => (48, [some (mR 12 0), none, some (mI x2), some (mJ x3), none, some (mI (c0 + nI i)), some (mJ ((f_C_within_48 x2 x3 c0 s0 i).1)), none, none], [], ((f_C_within_48 x2 x3 c0 s0 i).2), 0, 0)) N (fun i hlt hn => ?_) h) (by rw [show nI 0 = 0 from rfl, Int32.add_zero] <;> rfl)
  refine lt_C_within_48 x2 x3 _ _ (hb i hlt).1 (hb i hlt).2 (fun r1 r2 hr => ?_)
  rw [Int32.add_assoc, nI_s]
  have e : f_C_within_48 x2 x3 c0 s0 (i + 1) = (r1, r2) := hr
  try dsimp only at hn
  rw [e] at hn
  exact hn
set_option maxRecDepth 100000 in
set_option maxHeartbeats 4000000 in
theorem d_C_within (a1 : Int32) (a2 : Int32) (σ : MSto) (hp : p_C_within a1 a2 σ) : mW1 P_C_within (0, [some (mR 12 0), some (mI a1), some (mI a2), none, none, none, none, none, none], [], σ, 0, 0) (mF [22, 37, 108] [mI (v_C_within a1 a2 σ)] (e_C_within a1 a2 σ) 0 0) := by
  refine mW1_eq (q_C_within_e _ _ _) ?_
  unfold p_C_within at hp
  refine mTr_g hp.1 ?_
  have hp := hp.2
  refine mTr_if (fun h0 => ?_) (fun h0 => ?_)
  · skip
    exact mTr_e (by decide) (congrArg (fun z => [mI z]) (Eq.symm (if_pos h0))) (Eq.symm (if_pos h0)) (by decide) (by decide)
  · skip
    have hp := hp h0
    refine mTr_if (fun h1 => ?_) (fun h1 => ?_)
    · skip
      exact mTr_e (by decide) (congrArg (fun z => [mI z]) (Eq.symm ((if_neg h0).trans (if_pos h1)))) (Eq.symm ((if_neg h0).trans (if_pos h1))) (by decide) (by decide)
    · skip
      have hp := hp h1
      refine mTr_g hp.1 ?_
      have hp := hp.2
      refine mTr_if (fun h2 => ?_) (fun h2 => ?_)
      · skip
        exact mTr_e (by decide) (congrArg (fun z => [mI z]) (Eq.symm ((if_neg h0).trans ((if_neg h1).trans (if_pos h2))))) (Eq.symm ((if_neg h0).trans ((if_neg h1).trans (if_pos h2)))) (by decide) (by decide)
      · skip
        have hp := hp h2
        refine mTr_g hp.1 ?_
        have hp := hp.2
        refine mTr_k (lp_C_within_48 a2 (v_C_weighYears a1 σ) 0 (0, (e_C_clearMarks (e_C_weighYears a1 σ))) (n_C_within_48 a2 (v_C_weighYears a1 σ) 0 (0, (e_C_clearMarks (e_C_weighYears a1 σ)))) hp.1 ?_)
        have hp := hp.2
        refine mW1_eq (q_C_within_48 _ _ _ _ _) ?_
        refine mTr_if (fun h3 => ?_) (fun h3 => ?_)
        · skip
          have hp := hp.1 h3
          refine mTr_g hp ?_
          exact mTr_e (by decide) (congrArg (fun z => [mI z]) (Eq.symm ((if_neg h0).trans ((if_neg h1).trans (if_neg h2))))) (Eq.symm ((if_neg h0).trans ((if_neg h1).trans (if_neg h2)))) (by decide) (by decide)
        · skip
          have hp := hp.2 h3
          refine mTr_if (fun h4 => ?_) (fun h4 => ?_)
          · skip
            have hp := hp.1 h4
            refine mTr_g hp ?_
            exact mTr_e (by decide) (congrArg (fun z => [mI z]) (Eq.symm ((if_neg h0).trans ((if_neg h1).trans (if_neg h2))))) (Eq.symm ((if_neg h0).trans ((if_neg h1).trans (if_neg h2)))) (by decide) (by decide)
          · skip
            have hp := hp.2 h4
            exact hp.elim
theorem li_C_248 : mLink "ClothWithMan" 248 E_C_tellMarked := ⟨tw_3_149, tw_1_1, ⟨by decide, by decide⟩, by decide +kernel, Or.inl tw_3_146, (fun h => by cases h), (fun _ => ⟨tw_3_148, tw_0_16, TX11, 20, rfl⟩), (fun h => by cases h)⟩






theorem tk_C_within : ∀ pc i nx tg, T_C_within pc = some (i, nx, tg) → mOkB prog_1_method_21_code pc i nx tg = true := code_ok (N := 109) (fun k h => by unfold T_C_within; rw [h]; rfl) (by decide +kernel)
theorem ok_C_within (l : Launch) : mPOK l "ClothWithMan" prog_1_method_21_code P_C_within := by
  refine ⟨tk_C_within, ?_, ?_, ?_, (fun pc i nx tg kd _ h => by cases h), ?_, ?_, fun pc en h => by cases h⟩
  · intro x ci f ty fin h
    exact mLook_all (Q := fun x v => mFOK "ClothWithMan" x v.1 v.2.1 v.2.2.1 v.2.2.2 ∧ (v.2.2.2 = true → pIni P_C_within = true → (Cond.fieldLink "ClothWithMan" x (((mCl[v.1]?).getD ("", fun _ => ("", "", "", false), 0)).2.1 v.2.1).1 (((mCl[v.1]?).getD ("", fun _ => ("", "", "", false), 0)).2.1 v.2.1).2.1 (((mCl[v.1]?).getD ("", fun _ => ("", "", "", false), 0)).2.1 v.2.1).2.2.1 ∈ lw_tbl ∧ (((mCl[v.1]?).getD ("", fun _ => ("", "", "", false), 0)).2.1 v.2.1).1 = "ClothWithMan"))) (fcC ⟨fo_C_75, fun h1 h2 => by cases h2⟩ (fcC ⟨fo_C_79, fun h1 h2 => by cases h2⟩ fcN)) x (ci, f, ty, fin) h
  · intro x
    have hh := mLook_all (l := ([(246, .inr 100)] : List (Nat × (Int32 ⊕ Int64)))) (Q := fun x (v : Int32 ⊕ Int64) => (∀ w, v = .inl w → Cond.constant "ClothWithMan" x w ∈ lw_tbl) ∧ (∀ w, v = .inr w → Cond.constantLong "ClothWithMan" x w ∈ lw_tbl)) (fcC ⟨(fun v h => by cases h), fun v h => by cases h; exact tw_3_145⟩ fcN) x
    exact ⟨fun w h => (hh _ h).1 w rfl, fun w h => (hh _ h).2 w rfl⟩
  · exact fun x en h => mLook_all (Q := fun x en => mLink "ClothWithMan" x en ∧ mCtr l en ∧ (en.1.1 = 2 → en.2.2.2.2.2.2 = none)) (fcC ⟨li_C_145, c_C_isIn l, (fun h => by cases h)⟩ (fcC ⟨li_C_229, c_C_areCounted l, (fun h => by cases h)⟩ (fcC ⟨li_C_232, c_C_weighYears l, (fun h => by cases h)⟩ (fcC ⟨li_C_236, c_C_clearMarks l, (fun h => by cases h)⟩ (fcC ⟨li_C_239, c_C_heaviestUnmarked l, (fun h => by cases h)⟩ (fcC ⟨li_C_248, c_C_tellMarked l, (fun h => by cases h)⟩ fcN)))))) x en h
  · exact fun x kd h => mLook_all (Q := fun x kd => (kd = 95 ∧ Cond.fieldLink "ClothWithMan" x "ClothWithMan" "LIKENESSES" "[I" ∈ lw_tbl) ∨ (kd = 96 ∧ Cond.fieldLink "ClothWithMan" x "ClothWithMan" "APART_BOUNDS" "[I" ∈ lw_tbl)) fcN x kd h
  · exact fun x ci h => mLook_all (Q := fun x ci => ci ≠ 0 ∧ ∃ (C : String) (T : u_T) (N : Nat), mCl[ci]? = some (C, T, N) ∧ Cond.classLink "ClothWithMan" x C ∈ lw_tbl ∧ Cond.instantiable C N ∈ lw_tbl) fcN x ci h
set_option maxRecDepth 100000 in
theorem c_C_within (l : Launch) : mCtr l E_C_within := mCtr_of (P := P_C_within) (own := "ClothWithMan") mLay_ok rfl (by decide +kernel) rfl (ok_C_within l) (fun h => by cases h) (fun as σ pr rv σ' hF hpr hlv => by
  unfold E_C_within S_C_within at hF
  simp only [] at hF
  split at hF
  · cases hF
    obtain ⟨n, pcF, c1, s1, g1, g2, g3, g4⟩ := mF_inv (d_C_within _ _ σ (hpr _ rfl))
    exact ⟨Nat.le_of_ble_eq_true rfl, (fun v h => by cases h; trivial), n, pcF, c1, s1, g1, ⟨mEnd_of (i := .ireturn) (P := P_C_within) (rets := [22, 37, 108]) rfl g2, rfl⟩, g3, g4⟩
  · cases hF
    exact (hpr _ rfl).elim)
/-! ClothWithMan.between(III)I -/
noncomputable def t_C_between_55 (x3 : Int32) (x4 : Int64) (c : Int32) (σ : MSto) (s : Int64) : Int64 := (if x3 < c then s else (s + (gJ σ 26 0 (Int32.toNatClampNeg c))))
noncomputable def q_C_between_55s (x3 : Int32) (x4 : Int64) (c : Int32) (σ : MSto) (s : Int64) : Nat := (if x3 < c then 1 else 0)
def g_C_between_55 (x3 : Int32) (x4 : Int64) (c : Int32) (σ : MSto) (s : Int64) : Prop := (¬ (x3 < c) → (vp_in c 200))
noncomputable def f_C_between_55 (x3 : Int32) (x4 : Int64) (c0 : Int32) (σ : MSto) (s0 : Int64) (n : Nat) : Int64 := nfold (fun i s => t_C_between_55 x3 x4 (c0 + nI i) σ s) s0 n
noncomputable def n_C_between_55 (x3 : Int32) (x4 : Int64) (c0 : Int32) (σ : MSto) (s0 : Int64) : Nat := (x3.toNatClampNeg + 1 - c0.toNatClampNeg)
noncomputable def v_C_between (a1 : Int32) (a2 : Int32) (a3 : Int32) (σ : MSto) : Int32 := (if (v_C_areCounted a1 1 6 σ) = 0 then (-1) else (if (v_C_isYear a2 σ) = 0 then (-1) else (if (v_C_isYear a3 σ) = 0 then (-1) else (if a2 ≤ a3 then (if (lg_cmp (v_C_weighYears a1 σ) 0) = 0 then (-2) else 0) else (-1)))))
def p_C_between (a1 : Int32) (a2 : Int32) (a3 : Int32) (σ : MSto) : Prop := ((p_C_areCounted a1 1 6 σ) ∧ (¬ ((v_C_areCounted a1 1 6 σ) = 0) → (¬ ((v_C_isYear a2 σ) = 0) → (¬ ((v_C_isYear a3 σ) = 0) → ((a2 ≤ a3) → ((p_C_weighYears a1 σ) ∧ (¬ ((lg_cmp (v_C_weighYears a1 σ) 0) = 0) → ((∀ i, i < (n_C_between_55 a3 (v_C_weighYears a1 σ) a2 (e_C_weighYears a1 σ) 0) → g_C_between_55 a3 (v_C_weighYears a1 σ) (a2 + nI i) (e_C_weighYears a1 σ) (f_C_between_55 a3 (v_C_weighYears a1 σ) a2 (e_C_weighYears a1 σ) 0 i) ∧ ¬ q_C_between_55s a3 (v_C_weighYears a1 σ) (a2 + nI i) (e_C_weighYears a1 σ) (f_C_between_55 a3 (v_C_weighYears a1 σ) a2 (e_C_weighYears a1 σ) 0 i) = 1) ∧ (((a3 < (a2 + nI (n_C_between_55 a3 (v_C_weighYears a1 σ) a2 (e_C_weighYears a1 σ) 0))) → (p_Ro_addFraction (f_C_between_55 a3 (v_C_weighYears a1 σ) a2 (e_C_weighYears a1 σ) 0 (n_C_between_55 a3 (v_C_weighYears a1 σ) a2 (e_C_weighYears a1 σ) 0)) (v_C_weighYears a1 σ) (e_Ro_clear (e_C_weighYears a1 σ)))) ∧ (¬ (a3 < (a2 + nI (n_C_between_55 a3 (v_C_weighYears a1 σ) a2 (e_C_weighYears a1 σ) 0))) → False))))))))))
noncomputable def e_C_between (a1 : Int32) (a2 : Int32) (a3 : Int32) (σ : MSto) : MSto := (if (v_C_areCounted a1 1 6 σ) = 0 then σ else (if (v_C_isYear a2 σ) = 0 then σ else (if (v_C_isYear a3 σ) = 0 then σ else (if a2 ≤ a3 then (if (lg_cmp (v_C_weighYears a1 σ) 0) = 0 then (e_C_weighYears a1 σ) else (e_Ro_addFraction (f_C_between_55 a3 (v_C_weighYears a1 σ) a2 (e_C_weighYears a1 σ) 0 (n_C_between_55 a3 (v_C_weighYears a1 σ) a2 (e_C_weighYears a1 σ) 0)) (v_C_weighYears a1 σ) (e_Ro_clear (e_C_weighYears a1 σ)))) else σ))))
noncomputable def S_C_between : List MV → MSto → Option Prop × Option MV × MSto := fun as σ => match as with
  | [.inr (.inr (some (12, 0))), .inl a0, .inl a1, .inl a2] => (some (p_C_between a0 a1 a2 σ), some (mI (v_C_between a0 a1 a2 σ)), e_C_between a0 a1 a2 σ)
  | _ => (some False, none, σ)
noncomputable def E_C_between : MEnt := ((1, 3, 12), (8, 172, 0, 0), S_C_between, ((⟨"ClothWithMan", "between", "(III)I"⟩ : MethodName), prog_1_method_22_code, 9, (some .int)))

def T_C_between : Nat → Option (Instr × Nat × List Nat) := fun k => bif Nat.blt k 99 then (bif Nat.blt k 48 then (bif Nat.blt k 26 then (bif Nat.blt k 11 then (bif Nat.blt k 3 then (bif Nat.blt k 1 then (bif Nat.beq k 0 then some (.aload_n 0, 1, []) else none) else (bif Nat.blt k 2 then (bif Nat.beq k 1 then some (.iload_n 1, 2, []) else none) else (bif Nat.beq k 2 then some (.iconst 1, 3, []) else none))) else (bif Nat.blt k 5 then (bif Nat.beq k 3 then some (.bipush 6, 5, []) else none) else (bif Nat.blt k 8 then (bif Nat.beq k 5 then some (.invokevirtual 229, 8, []) else none) else (bif Nat.beq k 8 then some (.ifCond .eq 22, 11, [30]) else none)))) else (bif Nat.blt k 18 then (bif Nat.blt k 12 then (bif Nat.beq k 11 then some (.iload_n 2, 12, []) else none) else (bif Nat.blt k 15 then (bif Nat.beq k 12 then some (.invokestatic 116, 15, []) else none) else (bif Nat.beq k 15 then some (.ifCond .eq 15, 18, [30]) else none))) else (bif Nat.blt k 22 then (bif Nat.blt k 19 then (bif Nat.beq k 18 then some (.iload_n 3, 19, []) else none) else (bif Nat.beq k 19 then some (.invokestatic 116, 22, []) else none)) else (bif Nat.blt k 25 then (bif Nat.beq k 22 then some (.ifCond .eq 8, 25, [30]) else none) else (bif Nat.beq k 25 then some (.iload_n 2, 26, []) else none))))) else (bif Nat.blt k 34 then (bif Nat.blt k 31 then (bif Nat.blt k 27 then (bif Nat.beq k 26 then some (.iload_n 3, 27, []) else none) else (bif Nat.blt k 30 then (bif Nat.beq k 27 then some (.if_icmp .le 5, 30, [32]) else none) else (bif Nat.beq k 30 then some (.iconst (-1), 31, []) else none))) else (bif Nat.blt k 32 then (bif Nat.beq k 31 then some (.ireturn, 32, []) else none) else (bif Nat.blt k 33 then (bif Nat.beq k 32 then some (.aload_n 0, 33, []) else none) else (bif Nat.beq k 33 then some (.iload_n 1, 34, []) else none)))) else (bif Nat.blt k 41 then (bif Nat.blt k 37 then (bif Nat.beq k 34 then some (.invokevirtual 232, 37, []) else none) else (bif Nat.blt k 39 then (bif Nat.beq k 37 then some (.lstore 4, 39, []) else none) else (bif Nat.beq k 39 then some (.lload 4, 41, []) else none))) else (bif Nat.blt k 43 then (bif Nat.blt k 42 then (bif Nat.beq k 41 then some (.lconst 0, 42, []) else none) else (bif Nat.beq k 42 then some (.lcmp, 43, []) else none)) else (bif Nat.blt k 46 then (bif Nat.beq k 43 then some (.ifCond .ne 6, 46, [49]) else none) else (bif Nat.beq k 46 then some (.bipush (-2), 48, []) else none)))))) else (bif Nat.blt k 70 then (bif Nat.blt k 57 then (bif Nat.blt k 52 then (bif Nat.blt k 49 then (bif Nat.beq k 48 then some (.ireturn, 49, []) else none) else (bif Nat.blt k 50 then (bif Nat.beq k 49 then some (.lconst 0, 50, []) else none) else (bif Nat.beq k 50 then some (.lstore 6, 52, []) else none))) else (bif Nat.blt k 53 then (bif Nat.beq k 52 then some (.iload_n 2, 53, []) else none) else (bif Nat.blt k 55 then (bif Nat.beq k 53 then some (.istore 8, 55, []) else none) else (bif Nat.beq k 55 then some (.iload 8, 57, []) else none)))) else (bif Nat.blt k 63 then (bif Nat.blt k 58 then (bif Nat.beq k 57 then some (.iload_n 3, 58, []) else none) else (bif Nat.blt k 61 then (bif Nat.beq k 58 then some (.if_icmp .gt 21, 61, [79]) else none) else (bif Nat.beq k 61 then some (.lload 6, 63, []) else none))) else (bif Nat.blt k 67 then (bif Nat.blt k 64 then (bif Nat.beq k 63 then some (.aload_n 0, 64, []) else none) else (bif Nat.beq k 64 then some (.getfield 75, 67, []) else none)) else (bif Nat.blt k 69 then (bif Nat.beq k 67 then some (.iload 8, 69, []) else none) else (bif Nat.beq k 69 then some (.laload, 70, []) else none))))) else (bif Nat.blt k 86 then (bif Nat.blt k 76 then (bif Nat.blt k 71 then (bif Nat.beq k 70 then some (.ladd, 71, []) else none) else (bif Nat.blt k 73 then (bif Nat.beq k 71 then some (.lstore 6, 73, []) else none) else (bif Nat.beq k 73 then some (.iinc 8 1, 76, []) else none))) else (bif Nat.blt k 80 then (bif Nat.blt k 79 then (bif Nat.beq k 76 then some (.goto (-21), 79, [55]) else none) else (bif Nat.beq k 79 then some (.aload_n 0, 80, []) else none)) else (bif Nat.blt k 83 then (bif Nat.beq k 80 then some (.getfield 67, 83, []) else none) else (bif Nat.beq k 83 then some (.invokevirtual 217, 86, []) else none)))) else (bif Nat.blt k 92 then (bif Nat.blt k 87 then (bif Nat.beq k 86 then some (.aload_n 0, 87, []) else none) else (bif Nat.blt k 90 then (bif Nat.beq k 87 then some (.getfield 67, 90, []) else none) else (bif Nat.beq k 90 then some (.lload 6, 92, []) else none))) else (bif Nat.blt k 97 then (bif Nat.blt k 94 then (bif Nat.beq k 92 then some (.lload 4, 94, []) else none) else (bif Nat.beq k 94 then some (.invokevirtual 242, 97, []) else none)) else (bif Nat.blt k 98 then (bif Nat.beq k 97 then some (.iconst 0, 98, []) else none) else (bif Nat.beq k 98 then some (.ireturn, 99, []) else none))))))) else none
noncomputable def P_C_between : MP := (T_C_between, (fun k => mLook k [(67, (12, 11, (.object "ClothWithMan$Row"), true)), (75, (12, 13, (.array .long), true))]), (fun k => mLook k []), (fun k => mLook k [(116, E_C_isYear), (217, E_Ro_clear), (229, E_C_areCounted), (232, E_C_weighYears), (242, E_Ro_addFraction)]), (fun k => mLook k []), (fun k => mLook k []), (fun k => mLook k []), (fun k => mLook k [(55, [true, false, false, true, true, false, true, false, true])]), (fun k => [31, 48, 98].any (Nat.beq k)), (8, 172, 0, 0), false, (fun _ => none))
set_option maxRecDepth 100000 in
set_option maxHeartbeats 4000000 in
theorem q_C_between_e (a1 : Int32) (a2 : Int32) (a3 : Int32) (σ : MSto) (n : Nat) : mexe KT P_C_between (n + 1) (0, [some (mR 12 0), some (mI a1), some (mI a2), some (mI a3), none, none, none, none, none], [], σ, 0, 0) = mG (p_C_areCounted a1 1 6 σ) (mIf ((v_C_areCounted a1 1 6 σ) = 0) (some (31, [], [(mI (-1))], σ, 0, 0)) (mIf ((v_C_isYear a2 σ) = 0) (some (31, [], [(mI (-1))], σ, 0, 0)) (mIf ((v_C_isYear a3 σ) = 0) (some (31, [], [(mI (-1))], σ, 0, 0)) (mIf (a2 ≤ a3) (mG (p_C_weighYears a1 σ) (mIf ((lg_cmp (v_C_weighYears a1 σ) 0) = 0) (some (48, [], [(mI (-2))], (e_C_weighYears a1 σ), 0, 0)) (mexe KT P_C_between n (55, [some (mR 12 0), none, none, some (mI a3), some (mJ (v_C_weighYears a1 σ)), none, some (mJ 0), none, some (mI a2)], [], (e_C_weighYears a1 σ), 0, 0)))) (some (31, [], [(mI (-1))], σ, 0, 0)))))) := rfl
set_option maxRecDepth 100000 in
set_option maxHeartbeats 4000000 in
theorem q_C_between_55 (x3 : Int32) (x4 : Int64) (x6 : Int64) (x8 : Int32) (σ : MSto) (n : Nat) : mexe KT P_C_between (n + 1) (55, [some (mR 12 0), none, none, some (mI x3), some (mJ x4), none, some (mJ x6), none, some (mI x8)], [], σ, 0, 0) = mIf (x3 < x8) (mG (p_Ro_addFraction x6 x4 (e_Ro_clear σ)) (some (98, [], [(mI 0)], (e_Ro_addFraction x6 x4 (e_Ro_clear σ)), 0, 0))) (mG (vp_in x8 200) (mexe KT P_C_between n (55, [some (mR 12 0), none, none, some (mI x3), some (mJ x4), none, some (mJ (x6 + (gJ σ 26 0 (Int32.toNatClampNeg x8)))), none, some (mI (x8 + 1))], [], σ, 0, 0))) := rfl
set_option maxRecDepth 100000 in
theorem lt_C_between_55 {Post : MST → Prop} (x3 : Int32) (x4 : Int64) (c : Int32) (σ : MSto) (s : Int64) (hp : g_C_between_55 x3 x4 c σ s) (hq : ¬ q_C_between_55s x3 x4 c σ s = 1) (hn : ∀ r, t_C_between_55 x3 x4 c σ s = r → mW1 P_C_between (55, [some (mR 12 0), none, none, some (mI x3), some (mJ x4), none, some (mJ r), none, some (mI (c + 1))], [], σ, 0, 0) Post) : mW1 P_C_between (55, [some (mR 12 0), none, none, some (mI x3), some (mJ x4), none, some (mJ s), none, some (mI c)], [], σ, 0, 0) Post := by
  unfold g_C_between_55 at hp
  refine mW1_eq (q_C_between_55 _ _ _ _ _) ?_
  refine mTr_if (fun h0 => ?_) (fun h0 => ?_)
  · skip
    exact absurd (if_pos h0) hq
  · skip
    have hp := hp h0
    refine mTr_g hp ?_
    exact mTr_k (hn (s + (gJ σ 26 0 (Int32.toNatClampNeg c))) (if_neg h0))
theorem lp_C_between_55 {Post : MST → Prop} (x3 : Int32) (x4 : Int64) (c0 : Int32) (σ : MSto) (s0 : Int64) (N : Nat) (hb : ∀ i, i < N → g_C_between_55 x3 x4 (c0 + nI i) σ (f_C_between_55 x3 x4 c0 σ s0 i) ∧ ¬ q_C_between_55s x3 x4 (c0 + nI i) σ (f_C_between_55 x3 x4 c0 σ s0 i) = 1) (h : mW1 P_C_between (55, [some (mR 12 0), none, none, some (mI x3), some (mJ x4), none, some (mJ (f_C_between_55 x3 x4 c0 σ s0 N)), none, some (mI (c0 + nI N))], [], σ, 0, 0) Post) : mW1 P_C_between (55, [some (mR 12 0), none, none, some (mI x3), some (mJ x4), none, some (mJ s0), none, some (mI c0)], [], σ, 0, 0) Post := by
  refine mW1_st (mW1_loop (fun i => (55, [some (mR 12 0), none, none, some (mI x3), some (mJ x4), none, some (mJ (f_C_between_55 x3 x4 c0 σ s0 i)), none, some (mI (c0 + nI i))], [], σ, 0, 0)) N (fun i hlt hn => ?_) h) (by rw [show nI 0 = 0 from rfl, Int32.add_zero] <;> rfl)
  refine lt_C_between_55 x3 x4 _ σ _ (hb i hlt).1 (hb i hlt).2 (fun r hr => ?_)
  rw [Int32.add_assoc, nI_s]
  subst hr
  exact hn
set_option maxRecDepth 100000 in
set_option maxHeartbeats 4000000 in
theorem d_C_between (a1 : Int32) (a2 : Int32) (a3 : Int32) (σ : MSto) (hp : p_C_between a1 a2 a3 σ) : mW1 P_C_between (0, [some (mR 12 0), some (mI a1), some (mI a2), some (mI a3), none, none, none, none, none], [], σ, 0, 0) (mF [31, 48, 98] [mI (v_C_between a1 a2 a3 σ)] (e_C_between a1 a2 a3 σ) 0 0) := by
  refine mW1_eq (q_C_between_e _ _ _ _) ?_
  unfold p_C_between at hp
  refine mTr_g hp.1 ?_
  have hp := hp.2
  refine mTr_if (fun h0 => ?_) (fun h0 => ?_)
  · skip
    exact mTr_e (by decide) (congrArg (fun z => [mI z]) (Eq.symm (if_pos h0))) (Eq.symm (if_pos h0)) (by decide) (by decide)
  · skip
    have hp := hp h0
    refine mTr_if (fun h1 => ?_) (fun h1 => ?_)
    · skip
      exact mTr_e (by decide) (congrArg (fun z => [mI z]) (Eq.symm ((if_neg h0).trans (if_pos h1)))) (Eq.symm ((if_neg h0).trans (if_pos h1))) (by decide) (by decide)
    · skip
      have hp := hp h1
      refine mTr_if (fun h2 => ?_) (fun h2 => ?_)
      · skip
        exact mTr_e (by decide) (congrArg (fun z => [mI z]) (Eq.symm ((if_neg h0).trans ((if_neg h1).trans (if_pos h2))))) (Eq.symm ((if_neg h0).trans ((if_neg h1).trans (if_pos h2)))) (by decide) (by decide)
      · skip
        have hp := hp h2
        refine mTr_if (fun h3 => ?_) (fun h3 => ?_)
        · skip
          have hp := hp h3
          refine mTr_g hp.1 ?_
          have hp := hp.2
          refine mTr_if (fun h4 => ?_) (fun h4 => ?_)
          · skip
            exact mTr_e (by decide) (congrArg (fun z => [mI z]) (Eq.symm ((if_neg h0).trans ((if_neg h1).trans ((if_neg h2).trans ((if_pos h3).trans (if_pos h4))))))) (Eq.symm ((if_neg h0).trans ((if_neg h1).trans ((if_neg h2).trans ((if_pos h3).trans (if_pos h4)))))) (by decide) (by decide)
          · skip
            have hp := hp h4
            refine mTr_k (lp_C_between_55 a3 (v_C_weighYears a1 σ) a2 (e_C_weighYears a1 σ) 0 (n_C_between_55 a3 (v_C_weighYears a1 σ) a2 (e_C_weighYears a1 σ) 0) hp.1 ?_)
            have hp := hp.2
            refine mW1_eq (q_C_between_55 _ _ _ _ _) ?_
            refine mTr_if (fun h5 => ?_) (fun h5 => ?_)
            · skip
              have hp := hp.1 h5
              refine mTr_g hp ?_
              exact mTr_e (by decide) (congrArg (fun z => [mI z]) (Eq.symm ((if_neg h0).trans ((if_neg h1).trans ((if_neg h2).trans ((if_pos h3).trans (if_neg h4))))))) (Eq.symm ((if_neg h0).trans ((if_neg h1).trans ((if_neg h2).trans ((if_pos h3).trans (if_neg h4)))))) (by decide) (by decide)
            · skip
              have hp := hp.2 h5
              exact hp.elim
        · skip
          exact mTr_e (by decide) (congrArg (fun z => [mI z]) (Eq.symm ((if_neg h0).trans ((if_neg h1).trans ((if_neg h2).trans (if_neg h3)))))) (Eq.symm ((if_neg h0).trans ((if_neg h1).trans ((if_neg h2).trans (if_neg h3))))) (by decide) (by decide)





theorem tk_C_between : ∀ pc i nx tg, T_C_between pc = some (i, nx, tg) → mOkB prog_1_method_22_code pc i nx tg = true := code_ok (N := 99) (fun k h => by unfold T_C_between; rw [h]; rfl) (by decide +kernel)
theorem ok_C_between (l : Launch) : mPOK l "ClothWithMan" prog_1_method_22_code P_C_between := by
  refine ⟨tk_C_between, ?_, ?_, ?_, (fun pc i nx tg kd _ h => by cases h), ?_, ?_, fun pc en h => by cases h⟩
  · intro x ci f ty fin h
    exact mLook_all (Q := fun x v => mFOK "ClothWithMan" x v.1 v.2.1 v.2.2.1 v.2.2.2 ∧ (v.2.2.2 = true → pIni P_C_between = true → (Cond.fieldLink "ClothWithMan" x (((mCl[v.1]?).getD ("", fun _ => ("", "", "", false), 0)).2.1 v.2.1).1 (((mCl[v.1]?).getD ("", fun _ => ("", "", "", false), 0)).2.1 v.2.1).2.1 (((mCl[v.1]?).getD ("", fun _ => ("", "", "", false), 0)).2.1 v.2.1).2.2.1 ∈ lw_tbl ∧ (((mCl[v.1]?).getD ("", fun _ => ("", "", "", false), 0)).2.1 v.2.1).1 = "ClothWithMan"))) (fcC ⟨fo_C_67, fun h1 h2 => by cases h2⟩ (fcC ⟨fo_C_75, fun h1 h2 => by cases h2⟩ fcN)) x (ci, f, ty, fin) h
  · intro x
    have hh := mLook_all (l := ([] : List (Nat × (Int32 ⊕ Int64)))) (Q := fun x (v : Int32 ⊕ Int64) => (∀ w, v = .inl w → Cond.constant "ClothWithMan" x w ∈ lw_tbl) ∧ (∀ w, v = .inr w → Cond.constantLong "ClothWithMan" x w ∈ lw_tbl)) fcN x
    exact ⟨fun w h => (hh _ h).1 w rfl, fun w h => (hh _ h).2 w rfl⟩
  · exact fun x en h => mLook_all (Q := fun x en => mLink "ClothWithMan" x en ∧ mCtr l en ∧ (en.1.1 = 2 → en.2.2.2.2.2.2 = none)) (fcC ⟨li_C_116, c_C_isYear l, (fun h => by cases h)⟩ (fcC ⟨li_C_217, c_Ro_clear l, (fun h => by cases h)⟩ (fcC ⟨li_C_229, c_C_areCounted l, (fun h => by cases h)⟩ (fcC ⟨li_C_232, c_C_weighYears l, (fun h => by cases h)⟩ (fcC ⟨li_C_242, c_Ro_addFraction l, (fun h => by cases h)⟩ fcN))))) x en h
  · exact fun x kd h => mLook_all (Q := fun x kd => (kd = 95 ∧ Cond.fieldLink "ClothWithMan" x "ClothWithMan" "LIKENESSES" "[I" ∈ lw_tbl) ∨ (kd = 96 ∧ Cond.fieldLink "ClothWithMan" x "ClothWithMan" "APART_BOUNDS" "[I" ∈ lw_tbl)) fcN x kd h
  · exact fun x ci h => mLook_all (Q := fun x ci => ci ≠ 0 ∧ ∃ (C : String) (T : u_T) (N : Nat), mCl[ci]? = some (C, T, N) ∧ Cond.classLink "ClothWithMan" x C ∈ lw_tbl ∧ Cond.instantiable C N ∈ lw_tbl) fcN x ci h
set_option maxRecDepth 100000 in
theorem c_C_between (l : Launch) : mCtr l E_C_between := mCtr_of (P := P_C_between) (own := "ClothWithMan") mLay_ok rfl (by decide +kernel) rfl (ok_C_between l) (fun h => by cases h) (fun as σ pr rv σ' hF hpr hlv => by
  unfold E_C_between S_C_between at hF
  simp only [] at hF
  split at hF
  · cases hF
    obtain ⟨n, pcF, c1, s1, g1, g2, g3, g4⟩ := mF_inv (d_C_between _ _ _ σ (hpr _ rfl))
    exact ⟨Nat.le_of_ble_eq_true rfl, (fun v h => by cases h; trivial), n, pcF, c1, s1, g1, ⟨mEnd_of (i := .ireturn) (P := P_C_between) (rets := [31, 48, 98]) rfl g2, rfl⟩, g3, g4⟩
  · cases hF
    exact (hpr _ rfl).elim)
/-! ClothWithMan.apart(I)I -/
noncomputable def v_C_apart (a1 : Int32) (σ : MSto) : Int32 := (if (v_C_areCounted a1 2 4 σ) = 0 then (-1) else (if (lg_cmp ((v_C_apartUpper a1 σ) * 100) ((v_C_apartLower a1 σ) * (Int32.toInt64 (gI (e_Ro_addFraction (v_C_apartUpper a1 σ) (v_C_apartLower a1 σ) (e_Ro_clear σ)) 96 0 (Int32.toNatClampNeg (v_In_bitCount a1 (e_Ro_addFraction (v_C_apartUpper a1 σ) (v_C_apartLower a1 σ) (e_Ro_clear σ)))))))) ≤ 0 then 0 else 1))
def p_C_apart (a1 : Int32) (σ : MSto) : Prop := ((p_C_areCounted a1 2 4 σ) ∧ (¬ ((v_C_areCounted a1 2 4 σ) = 0) → ((p_C_apartUpper a1 σ) ∧ ((p_C_apartLower a1 σ) ∧ ((p_Ro_addFraction (v_C_apartUpper a1 σ) (v_C_apartLower a1 σ) (e_Ro_clear σ)) ∧ (vp_in (v_In_bitCount a1 (e_Ro_addFraction (v_C_apartUpper a1 σ) (v_C_apartLower a1 σ) (e_Ro_clear σ))) 5))))))
noncomputable def e_C_apart (a1 : Int32) (σ : MSto) : MSto := (if (v_C_areCounted a1 2 4 σ) = 0 then σ else (e_Ro_addFraction (v_C_apartUpper a1 σ) (v_C_apartLower a1 σ) (e_Ro_clear σ)))
noncomputable def S_C_apart : List MV → MSto → Option Prop × Option MV × MSto := fun as σ => match as with
  | [.inr (.inr (some (12, 0))), .inl a0] => (some (p_C_apart a0 σ), some (mI (v_C_apart a0 σ)), e_C_apart a0 σ)
  | _ => (some False, none, σ)
noncomputable def E_C_apart : MEnt := ((1, 1, 12), (8, 174, 0, 0), S_C_apart, ((⟨"ClothWithMan", "apart", "(I)I"⟩ : MethodName), prog_1_method_23_code, 6, (some .int)))

def T_C_apart : Nat → Option (Instr × Nat × List Nat) := fun k => bif Nat.blt k 69 then (bif Nat.blt k 33 then (bif Nat.blt k 14 then (bif Nat.blt k 7 then (bif Nat.blt k 2 then (bif Nat.blt k 1 then (bif Nat.beq k 0 then some (.aload_n 0, 1, []) else none) else (bif Nat.beq k 1 then some (.iload_n 1, 2, []) else none)) else (bif Nat.blt k 3 then (bif Nat.beq k 2 then some (.iconst 2, 3, []) else none) else (bif Nat.blt k 4 then (bif Nat.beq k 3 then some (.iconst 4, 4, []) else none) else (bif Nat.beq k 4 then some (.invokevirtual 229, 7, []) else none)))) else (bif Nat.blt k 11 then (bif Nat.blt k 10 then (bif Nat.beq k 7 then some (.ifCond .ne 5, 10, [12]) else none) else (bif Nat.beq k 10 then some (.iconst (-1), 11, []) else none)) else (bif Nat.blt k 12 then (bif Nat.beq k 11 then some (.ireturn, 12, []) else none) else (bif Nat.blt k 13 then (bif Nat.beq k 12 then some (.aload_n 0, 13, []) else none) else (bif Nat.beq k 13 then some (.iload_n 1, 14, []) else none))))) else (bif Nat.blt k 23 then (bif Nat.blt k 18 then (bif Nat.blt k 17 then (bif Nat.beq k 14 then some (.invokevirtual 251, 17, []) else none) else (bif Nat.beq k 17 then some (.lstore_n 2, 18, []) else none)) else (bif Nat.blt k 19 then (bif Nat.beq k 18 then some (.aload_n 0, 19, []) else none) else (bif Nat.blt k 20 then (bif Nat.beq k 19 then some (.iload_n 1, 20, []) else none) else (bif Nat.beq k 20 then some (.invokevirtual 254, 23, []) else none)))) else (bif Nat.blt k 26 then (bif Nat.blt k 25 then (bif Nat.beq k 23 then some (.lstore 4, 25, []) else none) else (bif Nat.beq k 25 then some (.aload_n 0, 26, []) else none)) else (bif Nat.blt k 29 then (bif Nat.beq k 26 then some (.getfield 67, 29, []) else none) else (bif Nat.blt k 32 then (bif Nat.beq k 29 then some (.invokevirtual 217, 32, []) else none) else (bif Nat.beq k 32 then some (.aload_n 0, 33, []) else none)))))) else (bif Nat.blt k 53 then (bif Nat.blt k 43 then (bif Nat.blt k 37 then (bif Nat.blt k 36 then (bif Nat.beq k 33 then some (.getfield 67, 36, []) else none) else (bif Nat.beq k 36 then some (.lload_n 2, 37, []) else none)) else (bif Nat.blt k 39 then (bif Nat.beq k 37 then some (.lload 4, 39, []) else none) else (bif Nat.blt k 42 then (bif Nat.beq k 39 then some (.invokevirtual 242, 42, []) else none) else (bif Nat.beq k 42 then some (.lload_n 2, 43, []) else none)))) else (bif Nat.blt k 47 then (bif Nat.blt k 46 then (bif Nat.beq k 43 then some (.ldc2_w 246, 46, []) else none) else (bif Nat.beq k 46 then some (.lmul, 47, []) else none)) else (bif Nat.blt k 49 then (bif Nat.beq k 47 then some (.lload 4, 49, []) else none) else (bif Nat.blt k 52 then (bif Nat.beq k 49 then some (.getstatic 257, 52, []) else none) else (bif Nat.beq k 52 then some (.iload_n 1, 53, []) else none))))) else (bif Nat.blt k 60 then (bif Nat.blt k 57 then (bif Nat.blt k 56 then (bif Nat.beq k 53 then some (.invokestatic 260, 56, []) else none) else (bif Nat.beq k 56 then some (.iaload, 57, []) else none)) else (bif Nat.blt k 58 then (bif Nat.beq k 57 then some (.i2l, 58, []) else none) else (bif Nat.blt k 59 then (bif Nat.beq k 58 then some (.lmul, 59, []) else none) else (bif Nat.beq k 59 then some (.lcmp, 60, []) else none)))) else (bif Nat.blt k 64 then (bif Nat.blt k 63 then (bif Nat.beq k 60 then some (.ifCond .le 7, 63, [67]) else none) else (bif Nat.beq k 63 then some (.iconst 1, 64, []) else none)) else (bif Nat.blt k 67 then (bif Nat.beq k 64 then some (.goto 4, 67, [68]) else none) else (bif Nat.blt k 68 then (bif Nat.beq k 67 then some (.iconst 0, 68, []) else none) else (bif Nat.beq k 68 then some (.ireturn, 69, []) else none))))))) else none
noncomputable def P_C_apart : MP := (T_C_apart, (fun k => mLook k [(67, (12, 11, (.object "ClothWithMan$Row"), true))]), (fun k => mLook k [(246, .inr 100)]), (fun k => mLook k [(217, E_Ro_clear), (229, E_C_areCounted), (242, E_Ro_addFraction), (251, E_C_apartUpper), (254, E_C_apartLower), (260, E_In_bitCount)]), (fun k => mLook k []), (fun k => mLook k [(257, 96)]), (fun k => mLook k []), (fun k => mLook k []), (fun k => [11, 68].any (Nat.beq k)), (8, 174, 0, 0), false, (fun _ => none))
set_option maxRecDepth 100000 in
set_option maxHeartbeats 4000000 in
theorem q_C_apart_e (a1 : Int32) (σ : MSto) (n : Nat) : mexe KT P_C_apart (n + 1) (0, [some (mR 12 0), some (mI a1), none, none, none, none], [], σ, 0, 0) = mG (p_C_areCounted a1 2 4 σ) (mIf ((v_C_areCounted a1 2 4 σ) = 0) (some (11, [], [(mI (-1))], σ, 0, 0)) (mG (p_C_apartUpper a1 σ) (mG (p_C_apartLower a1 σ) (mG (p_Ro_addFraction (v_C_apartUpper a1 σ) (v_C_apartLower a1 σ) (e_Ro_clear σ)) (mG (vp_in (v_In_bitCount a1 (e_Ro_addFraction (v_C_apartUpper a1 σ) (v_C_apartLower a1 σ) (e_Ro_clear σ))) 5) (mIf ((lg_cmp ((v_C_apartUpper a1 σ) * 100) ((v_C_apartLower a1 σ) * (Int32.toInt64 (gI (e_Ro_addFraction (v_C_apartUpper a1 σ) (v_C_apartLower a1 σ) (e_Ro_clear σ)) 96 0 (Int32.toNatClampNeg (v_In_bitCount a1 (e_Ro_addFraction (v_C_apartUpper a1 σ) (v_C_apartLower a1 σ) (e_Ro_clear σ)))))))) ≤ 0) (some (68, [], [(mI 0)], (e_Ro_addFraction (v_C_apartUpper a1 σ) (v_C_apartLower a1 σ) (e_Ro_clear σ)), 0, 0)) (some (68, [], [(mI 1)], (e_Ro_addFraction (v_C_apartUpper a1 σ) (v_C_apartLower a1 σ) (e_Ro_clear σ)), 0, 0)))))))) := rfl
set_option maxRecDepth 100000 in
set_option maxHeartbeats 4000000 in
theorem d_C_apart (a1 : Int32) (σ : MSto) (hp : p_C_apart a1 σ) : mW1 P_C_apart (0, [some (mR 12 0), some (mI a1), none, none, none, none], [], σ, 0, 0) (mF [11, 68] [mI (v_C_apart a1 σ)] (e_C_apart a1 σ) 0 0) := by
  refine mW1_eq (q_C_apart_e _ _) ?_
  unfold p_C_apart at hp
  refine mTr_g hp.1 ?_
  have hp := hp.2
  refine mTr_if (fun h0 => ?_) (fun h0 => ?_)
  · skip
    exact mTr_e (by decide) (congrArg (fun z => [mI z]) (Eq.symm (if_pos h0))) (Eq.symm (if_pos h0)) (by decide) (by decide)
  · skip
    have hp := hp h0
    refine mTr_g hp.1 ?_
    have hp := hp.2
    refine mTr_g hp.1 ?_
    have hp := hp.2
    refine mTr_g hp.1 ?_
    have hp := hp.2
    refine mTr_g hp ?_
    refine mTr_if (fun h1 => ?_) (fun h1 => ?_)
    · skip
      exact mTr_e (by decide) (congrArg (fun z => [mI z]) (Eq.symm ((if_neg h0).trans (if_pos h1)))) (Eq.symm (if_neg h0)) (by decide) (by decide)
    · skip
      exact mTr_e (by decide) (congrArg (fun z => [mI z]) (Eq.symm ((if_neg h0).trans (if_neg h1)))) (Eq.symm (if_neg h0)) (by decide) (by decide)

theorem li_C_254 : mLink "ClothWithMan" 254 E_C_apartLower := ⟨tw_3_172, tw_1_1, ⟨by decide, by decide⟩, by decide +kernel, Or.inl tw_3_169, (fun h => by cases h), (fun _ => ⟨tw_3_171, tw_0_19, TX11, 20, rfl⟩), (fun h => by cases h)⟩

theorem li_C_251 : mLink "ClothWithMan" 251 E_C_apartUpper := ⟨tw_3_161, tw_1_1, ⟨by decide, by decide⟩, by decide +kernel, Or.inl tw_3_158, (fun h => by cases h), (fun _ => ⟨tw_3_160, tw_0_17, TX11, 20, rfl⟩), (fun h => by cases h)⟩




theorem tk_C_apart : ∀ pc i nx tg, T_C_apart pc = some (i, nx, tg) → mOkB prog_1_method_23_code pc i nx tg = true := code_ok (N := 69) (fun k h => by unfold T_C_apart; rw [h]; rfl) (by decide +kernel)
theorem ok_C_apart (l : Launch) : mPOK l "ClothWithMan" prog_1_method_23_code P_C_apart := by
  refine ⟨tk_C_apart, ?_, ?_, ?_, (fun pc i nx tg kd _ h => by cases h), ?_, ?_, fun pc en h => by cases h⟩
  · intro x ci f ty fin h
    exact mLook_all (Q := fun x v => mFOK "ClothWithMan" x v.1 v.2.1 v.2.2.1 v.2.2.2 ∧ (v.2.2.2 = true → pIni P_C_apart = true → (Cond.fieldLink "ClothWithMan" x (((mCl[v.1]?).getD ("", fun _ => ("", "", "", false), 0)).2.1 v.2.1).1 (((mCl[v.1]?).getD ("", fun _ => ("", "", "", false), 0)).2.1 v.2.1).2.1 (((mCl[v.1]?).getD ("", fun _ => ("", "", "", false), 0)).2.1 v.2.1).2.2.1 ∈ lw_tbl ∧ (((mCl[v.1]?).getD ("", fun _ => ("", "", "", false), 0)).2.1 v.2.1).1 = "ClothWithMan"))) (fcC ⟨fo_C_67, fun h1 h2 => by cases h2⟩ fcN) x (ci, f, ty, fin) h
  · intro x
    have hh := mLook_all (l := ([(246, .inr 100)] : List (Nat × (Int32 ⊕ Int64)))) (Q := fun x (v : Int32 ⊕ Int64) => (∀ w, v = .inl w → Cond.constant "ClothWithMan" x w ∈ lw_tbl) ∧ (∀ w, v = .inr w → Cond.constantLong "ClothWithMan" x w ∈ lw_tbl)) (fcC ⟨(fun v h => by cases h), fun v h => by cases h; exact tw_3_145⟩ fcN) x
    exact ⟨fun w h => (hh _ h).1 w rfl, fun w h => (hh _ h).2 w rfl⟩
  · exact fun x en h => mLook_all (Q := fun x en => mLink "ClothWithMan" x en ∧ mCtr l en ∧ (en.1.1 = 2 → en.2.2.2.2.2.2 = none)) (fcC ⟨li_C_217, c_Ro_clear l, (fun h => by cases h)⟩ (fcC ⟨li_C_229, c_C_areCounted l, (fun h => by cases h)⟩ (fcC ⟨li_C_242, c_Ro_addFraction l, (fun h => by cases h)⟩ (fcC ⟨li_C_251, c_C_apartUpper l, (fun h => by cases h)⟩ (fcC ⟨li_C_254, c_C_apartLower l, (fun h => by cases h)⟩ (fcC ⟨li_C_260, c_In_bitCount l, (fun h => by cases h)⟩ fcN)))))) x en h
  · exact fun x kd h => mLook_all (Q := fun x kd => (kd = 95 ∧ Cond.fieldLink "ClothWithMan" x "ClothWithMan" "LIKENESSES" "[I" ∈ lw_tbl) ∨ (kd = 96 ∧ Cond.fieldLink "ClothWithMan" x "ClothWithMan" "APART_BOUNDS" "[I" ∈ lw_tbl)) (fcC (Or.inr ⟨rfl, tw_3_173⟩) fcN) x kd h
  · exact fun x ci h => mLook_all (Q := fun x ci => ci ≠ 0 ∧ ∃ (C : String) (T : u_T) (N : Nat), mCl[ci]? = some (C, T, N) ∧ Cond.classLink "ClothWithMan" x C ∈ lw_tbl ∧ Cond.instantiable C N ∈ lw_tbl) fcN x ci h
set_option maxRecDepth 100000 in
theorem c_C_apart (l : Launch) : mCtr l E_C_apart := mCtr_of (P := P_C_apart) (own := "ClothWithMan") mLay_ok rfl (by decide +kernel) rfl (ok_C_apart l) (fun h => by cases h) (fun as σ pr rv σ' hF hpr hlv => by
  unfold E_C_apart S_C_apart at hF
  simp only [] at hF
  split at hF
  · cases hF
    obtain ⟨n, pcF, c1, s1, g1, g2, g3, g4⟩ := mF_inv (d_C_apart _ σ (hpr _ rfl))
    exact ⟨Nat.le_of_ble_eq_true rfl, (fun v h => by cases h; trivial), n, pcF, c1, s1, g1, ⟨mEnd_of (i := .ireturn) (P := P_C_apart) (rets := [11, 68]) rfl g2, rfl⟩, g3, g4⟩
  · cases hF
    exact (hpr _ rfl).elim)
/-! ClothWithMan.slope(I)I -/
noncomputable def vj_C_slope_j59 (x5 : Int64) (σ : MSto) : Int32 := (if (lg_cmp x5 0) ≤ 0 then (if 0 ≤ (lg_cmp x5 0) then 0 else 2) else 1)
noncomputable def ej_C_slope_j59 (x5 : Int64) (σ : MSto) : MSto := σ
noncomputable def v_C_slope (a1 : Int32) (σ : MSto) : Int32 := (if (v_C_areCounted a1 2 6 σ) = 0 then (-1) else (if (lg_cmp (v_C_slopeLower (v_C_layOut a1 σ) (e_C_layOut a1 σ)) 0) = 0 then (-2) else (vj_C_slope_j59 (v_C_slopeUpper (v_C_layOut a1 σ) 0 (e_C_layOut a1 σ)) (e_Ro_addFraction (v_C_slopeUpper (v_C_layOut a1 σ) 0 (e_C_layOut a1 σ)) (v_C_slopeLower (v_C_layOut a1 σ) (e_C_layOut a1 σ)) (e_Ro_clear (e_C_layOut a1 σ))))))
def p_C_slope (a1 : Int32) (σ : MSto) : Prop := ((p_C_areCounted a1 2 6 σ) ∧ (¬ ((v_C_areCounted a1 2 6 σ) = 0) → ((p_C_layOut a1 σ) ∧ ((p_C_slopeLower (v_C_layOut a1 σ) (e_C_layOut a1 σ)) ∧ (¬ ((lg_cmp (v_C_slopeLower (v_C_layOut a1 σ) (e_C_layOut a1 σ)) 0) = 0) → ((p_C_slopeUpper (v_C_layOut a1 σ) 0 (e_C_layOut a1 σ)) ∧ (p_Ro_addFraction (v_C_slopeUpper (v_C_layOut a1 σ) 0 (e_C_layOut a1 σ)) (v_C_slopeLower (v_C_layOut a1 σ) (e_C_layOut a1 σ)) (e_Ro_clear (e_C_layOut a1 σ)))))))))
noncomputable def e_C_slope (a1 : Int32) (σ : MSto) : MSto := (if (v_C_areCounted a1 2 6 σ) = 0 then σ else (if (lg_cmp (v_C_slopeLower (v_C_layOut a1 σ) (e_C_layOut a1 σ)) 0) = 0 then (e_C_layOut a1 σ) else (ej_C_slope_j59 (v_C_slopeUpper (v_C_layOut a1 σ) 0 (e_C_layOut a1 σ)) (e_Ro_addFraction (v_C_slopeUpper (v_C_layOut a1 σ) 0 (e_C_layOut a1 σ)) (v_C_slopeLower (v_C_layOut a1 σ) (e_C_layOut a1 σ)) (e_Ro_clear (e_C_layOut a1 σ))))))
noncomputable def S_C_slope : List MV → MSto → Option Prop × Option MV × MSto := fun as σ => match as with
  | [.inr (.inr (some (12, 0))), .inl a0] => (some (p_C_slope a0 σ), some (mI (v_C_slope a0 σ)), e_C_slope a0 σ)
  | _ => (some False, none, σ)
noncomputable def E_C_slope : MEnt := ((1, 1, 12), (8, 166, 0, 0), S_C_slope, ((⟨"ClothWithMan", "slope", "(I)I"⟩ : MethodName), prog_1_method_24_code, 7, (some .int)))

def T_C_slope : Nat → Option (Instr × Nat × List Nat) := fun k => bif Nat.blt k 83 then (bif Nat.blt k 36 then (bif Nat.blt k 19 then (bif Nat.blt k 11 then (bif Nat.blt k 3 then (bif Nat.blt k 1 then (bif Nat.beq k 0 then some (.aload_n 0, 1, []) else none) else (bif Nat.blt k 2 then (bif Nat.beq k 1 then some (.iload_n 1, 2, []) else none) else (bif Nat.beq k 2 then some (.iconst 2, 3, []) else none))) else (bif Nat.blt k 5 then (bif Nat.beq k 3 then some (.bipush 6, 5, []) else none) else (bif Nat.blt k 8 then (bif Nat.beq k 5 then some (.invokevirtual 229, 8, []) else none) else (bif Nat.beq k 8 then some (.ifCond .ne 5, 11, [13]) else none)))) else (bif Nat.blt k 14 then (bif Nat.blt k 12 then (bif Nat.beq k 11 then some (.iconst (-1), 12, []) else none) else (bif Nat.blt k 13 then (bif Nat.beq k 12 then some (.ireturn, 13, []) else none) else (bif Nat.beq k 13 then some (.aload_n 0, 14, []) else none))) else (bif Nat.blt k 15 then (bif Nat.beq k 14 then some (.iload_n 1, 15, []) else none) else (bif Nat.blt k 18 then (bif Nat.beq k 15 then some (.invokevirtual 265, 18, []) else none) else (bif Nat.beq k 18 then some (.istore_n 2, 19, []) else none))))) else (bif Nat.blt k 27 then (bif Nat.blt k 24 then (bif Nat.blt k 20 then (bif Nat.beq k 19 then some (.aload_n 0, 20, []) else none) else (bif Nat.blt k 21 then (bif Nat.beq k 20 then some (.iload_n 2, 21, []) else none) else (bif Nat.beq k 21 then some (.invokevirtual 268, 24, []) else none))) else (bif Nat.blt k 25 then (bif Nat.beq k 24 then some (.lstore_n 3, 25, []) else none) else (bif Nat.blt k 26 then (bif Nat.beq k 25 then some (.lload_n 3, 26, []) else none) else (bif Nat.beq k 26 then some (.lconst 0, 27, []) else none)))) else (bif Nat.blt k 33 then (bif Nat.blt k 28 then (bif Nat.beq k 27 then some (.lcmp, 28, []) else none) else (bif Nat.blt k 31 then (bif Nat.beq k 28 then some (.ifCond .ne 6, 31, [34]) else none) else (bif Nat.beq k 31 then some (.bipush (-2), 33, []) else none))) else (bif Nat.blt k 34 then (bif Nat.beq k 33 then some (.ireturn, 34, []) else none) else (bif Nat.blt k 35 then (bif Nat.beq k 34 then some (.aload_n 0, 35, []) else none) else (bif Nat.beq k 35 then some (.iload_n 2, 36, []) else none)))))) else (bif Nat.blt k 61 then (bif Nat.blt k 49 then (bif Nat.blt k 42 then (bif Nat.blt k 37 then (bif Nat.beq k 36 then some (.iconst 0, 37, []) else none) else (bif Nat.blt k 40 then (bif Nat.beq k 37 then some (.invokevirtual 271, 40, []) else none) else (bif Nat.beq k 40 then some (.lstore 5, 42, []) else none))) else (bif Nat.blt k 43 then (bif Nat.beq k 42 then some (.aload_n 0, 43, []) else none) else (bif Nat.blt k 46 then (bif Nat.beq k 43 then some (.getfield 67, 46, []) else none) else (bif Nat.beq k 46 then some (.invokevirtual 217, 49, []) else none)))) else (bif Nat.blt k 55 then (bif Nat.blt k 50 then (bif Nat.beq k 49 then some (.aload_n 0, 50, []) else none) else (bif Nat.blt k 53 then (bif Nat.beq k 50 then some (.getfield 67, 53, []) else none) else (bif Nat.beq k 53 then some (.lload 5, 55, []) else none))) else (bif Nat.blt k 56 then (bif Nat.beq k 55 then some (.lload_n 3, 56, []) else none) else (bif Nat.blt k 59 then (bif Nat.beq k 56 then some (.invokevirtual 242, 59, []) else none) else (bif Nat.beq k 59 then some (.lload 5, 61, []) else none))))) else (bif Nat.blt k 72 then (bif Nat.blt k 66 then (bif Nat.blt k 62 then (bif Nat.beq k 61 then some (.lconst 0, 62, []) else none) else (bif Nat.blt k 63 then (bif Nat.beq k 62 then some (.lcmp, 63, []) else none) else (bif Nat.beq k 63 then some (.ifCond .le 7, 66, [70]) else none))) else (bif Nat.blt k 67 then (bif Nat.beq k 66 then some (.iconst 1, 67, []) else none) else (bif Nat.blt k 70 then (bif Nat.beq k 67 then some (.goto 15, 70, [82]) else none) else (bif Nat.beq k 70 then some (.lload 5, 72, []) else none)))) else (bif Nat.blt k 77 then (bif Nat.blt k 73 then (bif Nat.beq k 72 then some (.lconst 0, 73, []) else none) else (bif Nat.blt k 74 then (bif Nat.beq k 73 then some (.lcmp, 74, []) else none) else (bif Nat.beq k 74 then some (.ifCond .ge 7, 77, [81]) else none))) else (bif Nat.blt k 81 then (bif Nat.blt k 78 then (bif Nat.beq k 77 then some (.iconst 2, 78, []) else none) else (bif Nat.beq k 78 then some (.goto 4, 81, [82]) else none)) else (bif Nat.blt k 82 then (bif Nat.beq k 81 then some (.iconst 0, 82, []) else none) else (bif Nat.beq k 82 then some (.ireturn, 83, []) else none))))))) else none
noncomputable def P_C_slope : MP := (T_C_slope, (fun k => mLook k [(67, (12, 11, (.object "ClothWithMan$Row"), true))]), (fun k => mLook k []), (fun k => mLook k [(217, E_Ro_clear), (229, E_C_areCounted), (242, E_Ro_addFraction), (265, E_C_layOut), (268, E_C_slopeLower), (271, E_C_slopeUpper)]), (fun k => mLook k []), (fun k => mLook k []), (fun k => mLook k []), (fun k => mLook k [(59, [false, false, false, false, false, true, false])]), (fun k => [12, 33, 82].any (Nat.beq k)), (8, 166, 0, 0), false, (fun _ => none))
set_option maxRecDepth 100000 in
set_option maxHeartbeats 4000000 in
theorem q_C_slope_e (a1 : Int32) (σ : MSto) (n : Nat) : mexe KT P_C_slope (n + 1) (0, [some (mR 12 0), some (mI a1), none, none, none, none, none], [], σ, 0, 0) = mG (p_C_areCounted a1 2 6 σ) (mIf ((v_C_areCounted a1 2 6 σ) = 0) (some (12, [], [(mI (-1))], σ, 0, 0)) (mG (p_C_layOut a1 σ) (mG (p_C_slopeLower (v_C_layOut a1 σ) (e_C_layOut a1 σ)) (mIf ((lg_cmp (v_C_slopeLower (v_C_layOut a1 σ) (e_C_layOut a1 σ)) 0) = 0) (some (33, [], [(mI (-2))], (e_C_layOut a1 σ), 0, 0)) (mG (p_C_slopeUpper (v_C_layOut a1 σ) 0 (e_C_layOut a1 σ)) (mG (p_Ro_addFraction (v_C_slopeUpper (v_C_layOut a1 σ) 0 (e_C_layOut a1 σ)) (v_C_slopeLower (v_C_layOut a1 σ) (e_C_layOut a1 σ)) (e_Ro_clear (e_C_layOut a1 σ))) (mexe KT P_C_slope n (59, [none, none, none, none, none, some (mJ (v_C_slopeUpper (v_C_layOut a1 σ) 0 (e_C_layOut a1 σ))), none], [], (e_Ro_addFraction (v_C_slopeUpper (v_C_layOut a1 σ) 0 (e_C_layOut a1 σ)) (v_C_slopeLower (v_C_layOut a1 σ) (e_C_layOut a1 σ)) (e_Ro_clear (e_C_layOut a1 σ))), 0, 0)))))))) := rfl
set_option maxRecDepth 100000 in
set_option maxHeartbeats 4000000 in
theorem q_C_slope_59 (x5 : Int64) (σ : MSto) (n : Nat) : mexe KT P_C_slope (n + 1) (59, [none, none, none, none, none, some (mJ x5), none], [], σ, 0, 0) = mIf ((lg_cmp x5 0) ≤ 0) (mIf (0 ≤ (lg_cmp x5 0)) (some (82, [], [(mI 0)], σ, 0, 0)) (some (82, [], [(mI 2)], σ, 0, 0))) (some (82, [], [(mI 1)], σ, 0, 0)) := rfl
set_option maxRecDepth 100000 in
theorem lj_C_slope_j59 (x5 : Int64) (σ : MSto) : mW1 P_C_slope (59, [none, none, none, none, none, some (mJ x5), none], [], σ, 0, 0) (mF [12, 33, 82] [mI (vj_C_slope_j59 x5 σ)] (ej_C_slope_j59 x5 σ) 0 0) := by
  refine mW1_eq (q_C_slope_59 _ _) ?_
  refine mTr_if (fun h0 => ?_) (fun h0 => ?_)
  · skip
    refine mTr_if (fun h1 => ?_) (fun h1 => ?_)
    · skip
      exact mTr_e (by decide) (congrArg (fun z => [mI z]) (Eq.symm ((if_pos h0).trans (if_pos h1)))) (Eq.symm (rfl)) (by decide) (by decide)
    · skip
      exact mTr_e (by decide) (congrArg (fun z => [mI z]) (Eq.symm ((if_pos h0).trans (if_neg h1)))) (Eq.symm (rfl)) (by decide) (by decide)
  · skip
    exact mTr_e (by decide) (congrArg (fun z => [mI z]) (Eq.symm (if_neg h0))) (Eq.symm (rfl)) (by decide) (by decide)
set_option maxRecDepth 100000 in
set_option maxHeartbeats 4000000 in
theorem d_C_slope (a1 : Int32) (σ : MSto) (hp : p_C_slope a1 σ) : mW1 P_C_slope (0, [some (mR 12 0), some (mI a1), none, none, none, none, none], [], σ, 0, 0) (mF [12, 33, 82] [mI (v_C_slope a1 σ)] (e_C_slope a1 σ) 0 0) := by
  refine mW1_eq (q_C_slope_e _ _) ?_
  unfold p_C_slope at hp
  refine mTr_g hp.1 ?_
  have hp := hp.2
  refine mTr_if (fun h0 => ?_) (fun h0 => ?_)
  · skip
    exact mTr_e (by decide) (congrArg (fun z => [mI z]) (Eq.symm (if_pos h0))) (Eq.symm (if_pos h0)) (by decide) (by decide)
  · skip
    have hp := hp h0
    refine mTr_g hp.1 ?_
    have hp := hp.2
    refine mTr_g hp.1 ?_
    have hp := hp.2
    refine mTr_if (fun h1 => ?_) (fun h1 => ?_)
    · skip
      exact mTr_e (by decide) (congrArg (fun z => [mI z]) (Eq.symm ((if_neg h0).trans (if_pos h1)))) (Eq.symm ((if_neg h0).trans (if_pos h1))) (by decide) (by decide)
    · skip
      have hp := hp h1
      refine mTr_g hp.1 ?_
      have hp := hp.2
      refine mTr_g hp ?_
      exact mTr_k (mF_cI ((if_neg h0).trans (if_neg h1)) ((if_neg h0).trans (if_neg h1)) (lj_C_slope_j59 (v_C_slopeUpper (v_C_layOut a1 σ) 0 (e_C_layOut a1 σ)) (e_Ro_addFraction (v_C_slopeUpper (v_C_layOut a1 σ) 0 (e_C_layOut a1 σ)) (v_C_slopeLower (v_C_layOut a1 σ) (e_C_layOut a1 σ)) (e_Ro_clear (e_C_layOut a1 σ)))))
theorem li_C_271 : mLink "ClothWithMan" 271 E_C_slopeUpper := ⟨tw_3_190, tw_1_1, ⟨by decide, by decide⟩, by decide +kernel, Or.inl tw_3_187, (fun h => by cases h), (fun _ => ⟨tw_3_189, tw_0_22, TX11, 20, rfl⟩), (fun h => by cases h)⟩

theorem li_C_268 : mLink "ClothWithMan" 268 E_C_slopeLower := ⟨tw_3_186, tw_1_1, ⟨by decide, by decide⟩, by decide +kernel, Or.inl tw_3_183, (fun h => by cases h), (fun _ => ⟨tw_3_185, tw_0_21, TX11, 20, rfl⟩), (fun h => by cases h)⟩

theorem li_C_265 : mLink "ClothWithMan" 265 E_C_layOut := ⟨tw_3_182, tw_1_1, ⟨by decide, by decide⟩, by decide +kernel, Or.inl tw_3_179, (fun h => by cases h), (fun _ => ⟨tw_3_181, tw_0_20, TX11, 20, rfl⟩), (fun h => by cases h)⟩




theorem tk_C_slope : ∀ pc i nx tg, T_C_slope pc = some (i, nx, tg) → mOkB prog_1_method_24_code pc i nx tg = true := code_ok (N := 83) (fun k h => by unfold T_C_slope; rw [h]; rfl) (by decide +kernel)
theorem ok_C_slope (l : Launch) : mPOK l "ClothWithMan" prog_1_method_24_code P_C_slope := by
  refine ⟨tk_C_slope, ?_, ?_, ?_, (fun pc i nx tg kd _ h => by cases h), ?_, ?_, fun pc en h => by cases h⟩
  · intro x ci f ty fin h
    exact mLook_all (Q := fun x v => mFOK "ClothWithMan" x v.1 v.2.1 v.2.2.1 v.2.2.2 ∧ (v.2.2.2 = true → pIni P_C_slope = true → (Cond.fieldLink "ClothWithMan" x (((mCl[v.1]?).getD ("", fun _ => ("", "", "", false), 0)).2.1 v.2.1).1 (((mCl[v.1]?).getD ("", fun _ => ("", "", "", false), 0)).2.1 v.2.1).2.1 (((mCl[v.1]?).getD ("", fun _ => ("", "", "", false), 0)).2.1 v.2.1).2.2.1 ∈ lw_tbl ∧ (((mCl[v.1]?).getD ("", fun _ => ("", "", "", false), 0)).2.1 v.2.1).1 = "ClothWithMan"))) (fcC ⟨fo_C_67, fun h1 h2 => by cases h2⟩ fcN) x (ci, f, ty, fin) h
  · intro x
    have hh := mLook_all (l := ([] : List (Nat × (Int32 ⊕ Int64)))) (Q := fun x (v : Int32 ⊕ Int64) => (∀ w, v = .inl w → Cond.constant "ClothWithMan" x w ∈ lw_tbl) ∧ (∀ w, v = .inr w → Cond.constantLong "ClothWithMan" x w ∈ lw_tbl)) fcN x
    exact ⟨fun w h => (hh _ h).1 w rfl, fun w h => (hh _ h).2 w rfl⟩
  · exact fun x en h => mLook_all (Q := fun x en => mLink "ClothWithMan" x en ∧ mCtr l en ∧ (en.1.1 = 2 → en.2.2.2.2.2.2 = none)) (fcC ⟨li_C_217, c_Ro_clear l, (fun h => by cases h)⟩ (fcC ⟨li_C_229, c_C_areCounted l, (fun h => by cases h)⟩ (fcC ⟨li_C_242, c_Ro_addFraction l, (fun h => by cases h)⟩ (fcC ⟨li_C_265, c_C_layOut l, (fun h => by cases h)⟩ (fcC ⟨li_C_268, c_C_slopeLower l, (fun h => by cases h)⟩ (fcC ⟨li_C_271, c_C_slopeUpper l, (fun h => by cases h)⟩ fcN)))))) x en h
  · exact fun x kd h => mLook_all (Q := fun x kd => (kd = 95 ∧ Cond.fieldLink "ClothWithMan" x "ClothWithMan" "LIKENESSES" "[I" ∈ lw_tbl) ∨ (kd = 96 ∧ Cond.fieldLink "ClothWithMan" x "ClothWithMan" "APART_BOUNDS" "[I" ∈ lw_tbl)) fcN x kd h
  · exact fun x ci h => mLook_all (Q := fun x ci => ci ≠ 0 ∧ ∃ (C : String) (T : u_T) (N : Nat), mCl[ci]? = some (C, T, N) ∧ Cond.classLink "ClothWithMan" x C ∈ lw_tbl ∧ Cond.instantiable C N ∈ lw_tbl) fcN x ci h
set_option maxRecDepth 100000 in
theorem c_C_slope (l : Launch) : mCtr l E_C_slope := mCtr_of (P := P_C_slope) (own := "ClothWithMan") mLay_ok rfl (by decide +kernel) rfl (ok_C_slope l) (fun h => by cases h) (fun as σ pr rv σ' hF hpr hlv => by
  unfold E_C_slope S_C_slope at hF
  simp only [] at hF
  split at hF
  · cases hF
    obtain ⟨n, pcF, c1, s1, g1, g2, g3, g4⟩ := mF_inv (d_C_slope _ σ (hpr _ rfl))
    exact ⟨Nat.le_of_ble_eq_true rfl, (fun v h => by cases h; trivial), n, pcF, c1, s1, g1, ⟨mEnd_of (i := .ireturn) (P := P_C_slope) (rets := [12, 33, 82]) rfl g2, rfl⟩, g3, g4⟩
  · cases hF
    exact (hpr _ rfl).elim)
/-! ClothWithMan.lot(I)I -/
noncomputable def t_C_lot_71 (x2 : Int32) (x3 : Int32) (x4 : Int64) (c : Int32) (σ : MSto) (s : Int32) : Int32 := (if x3 ≤ c then s else (if (lg_cmp (v_Ma_absJ (v_C_slopeUpper x2 c σ) σ) x4) < 0 then s else (s + 1)))
noncomputable def q_C_lot_71s (x2 : Int32) (x3 : Int32) (x4 : Int64) (c : Int32) (σ : MSto) (s : Int32) : Nat := (if x3 ≤ c then 1 else 0)
def g_C_lot_71 (x2 : Int32) (x3 : Int32) (x4 : Int64) (c : Int32) (σ : MSto) (s : Int32) : Prop := (¬ (x3 ≤ c) → (p_C_slopeUpper x2 c σ))
noncomputable def f_C_lot_71 (x2 : Int32) (x3 : Int32) (x4 : Int64) (c0 : Int32) (σ : MSto) (s0 : Int32) (n : Nat) : Int32 := nfold (fun i s => t_C_lot_71 x2 x3 x4 (c0 + nI i) σ s) s0 n
noncomputable def n_C_lot_71 (x2 : Int32) (x3 : Int32) (x4 : Int64) (c0 : Int32) (σ : MSto) (s0 : Int32) : Nat := x3.toNatClampNeg
noncomputable def t_C_lot_37 (x2 : Int32) (c : Int32) (σ : MSto) (s : Int32) : Int32 := (if x2 < c then s else (s * c))
noncomputable def q_C_lot_37s (x2 : Int32) (c : Int32) (σ : MSto) (s : Int32) : Nat := (if x2 < c then 1 else 0)
def g_C_lot_37 (x2 : Int32) (c : Int32) (σ : MSto) (s : Int32) : Prop := True
noncomputable def f_C_lot_37 (x2 : Int32) (c0 : Int32) (σ : MSto) (s0 : Int32) (n : Nat) : Int32 := nfold (fun i s => t_C_lot_37 x2 (c0 + nI i) σ s) s0 n
noncomputable def n_C_lot_37 (x2 : Int32) (c0 : Int32) (σ : MSto) (s0 : Int32) : Nat := (x2.toNatClampNeg - 1)
noncomputable def v_C_lot (a1 : Int32) (σ : MSto) : Int32 := (if (v_C_areCounted a1 2 6 σ) = 0 then (-1) else (if (lg_cmp (v_C_slopeLower (v_C_layOut a1 σ) (e_C_layOut a1 σ)) 0) = 0 then (-2) else 0))
def p_C_lot (a1 : Int32) (σ : MSto) : Prop := ((p_C_areCounted a1 2 6 σ) ∧ (¬ ((v_C_areCounted a1 2 6 σ) = 0) → ((p_C_layOut a1 σ) ∧ ((p_C_slopeLower (v_C_layOut a1 σ) (e_C_layOut a1 σ)) ∧ (¬ ((lg_cmp (v_C_slopeLower (v_C_layOut a1 σ) (e_C_layOut a1 σ)) 0) = 0) → ((∀ i, i < (n_C_lot_37 (v_C_layOut a1 σ) 2 (e_C_layOut a1 σ) 1) → g_C_lot_37 (v_C_layOut a1 σ) (2 + nI i) (e_C_layOut a1 σ) (f_C_lot_37 (v_C_layOut a1 σ) 2 (e_C_layOut a1 σ) 1 i) ∧ ¬ q_C_lot_37s (v_C_layOut a1 σ) (2 + nI i) (e_C_layOut a1 σ) (f_C_lot_37 (v_C_layOut a1 σ) 2 (e_C_layOut a1 σ) 1 i) = 1) ∧ ((((v_C_layOut a1 σ) < (2 + nI (n_C_lot_37 (v_C_layOut a1 σ) 2 (e_C_layOut a1 σ) 1))) → ((p_C_slopeUpper (v_C_layOut a1 σ) 0 (e_C_layOut a1 σ)) ∧ ((∀ i, i < (n_C_lot_71 (v_C_layOut a1 σ) (f_C_lot_37 (v_C_layOut a1 σ) 2 (e_C_layOut a1 σ) 1 (n_C_lot_37 (v_C_layOut a1 σ) 2 (e_C_layOut a1 σ) 1)) (v_Ma_absJ (v_C_slopeUpper (v_C_layOut a1 σ) 0 (e_C_layOut a1 σ)) (e_C_layOut a1 σ)) 0 (e_C_layOut a1 σ) 0) → g_C_lot_71 (v_C_layOut a1 σ) (f_C_lot_37 (v_C_layOut a1 σ) 2 (e_C_layOut a1 σ) 1 (n_C_lot_37 (v_C_layOut a1 σ) 2 (e_C_layOut a1 σ) 1)) (v_Ma_absJ (v_C_slopeUpper (v_C_layOut a1 σ) 0 (e_C_layOut a1 σ)) (e_C_layOut a1 σ)) (0 + nI i) (e_C_layOut a1 σ) (f_C_lot_71 (v_C_layOut a1 σ) (f_C_lot_37 (v_C_layOut a1 σ) 2 (e_C_layOut a1 σ) 1 (n_C_lot_37 (v_C_layOut a1 σ) 2 (e_C_layOut a1 σ) 1)) (v_Ma_absJ (v_C_slopeUpper (v_C_layOut a1 σ) 0 (e_C_layOut a1 σ)) (e_C_layOut a1 σ)) 0 (e_C_layOut a1 σ) 0 i) ∧ ¬ q_C_lot_71s (v_C_layOut a1 σ) (f_C_lot_37 (v_C_layOut a1 σ) 2 (e_C_layOut a1 σ) 1 (n_C_lot_37 (v_C_layOut a1 σ) 2 (e_C_layOut a1 σ) 1)) (v_Ma_absJ (v_C_slopeUpper (v_C_layOut a1 σ) 0 (e_C_layOut a1 σ)) (e_C_layOut a1 σ)) (0 + nI i) (e_C_layOut a1 σ) (f_C_lot_71 (v_C_layOut a1 σ) (f_C_lot_37 (v_C_layOut a1 σ) 2 (e_C_layOut a1 σ) 1 (n_C_lot_37 (v_C_layOut a1 σ) 2 (e_C_layOut a1 σ) 1)) (v_Ma_absJ (v_C_slopeUpper (v_C_layOut a1 σ) 0 (e_C_layOut a1 σ)) (e_C_layOut a1 σ)) 0 (e_C_layOut a1 σ) 0 i) = 1) ∧ ((((f_C_lot_37 (v_C_layOut a1 σ) 2 (e_C_layOut a1 σ) 1 (n_C_lot_37 (v_C_layOut a1 σ) 2 (e_C_layOut a1 σ) 1)) ≤ (0 + nI (n_C_lot_71 (v_C_layOut a1 σ) (f_C_lot_37 (v_C_layOut a1 σ) 2 (e_C_layOut a1 σ) 1 (n_C_lot_37 (v_C_layOut a1 σ) 2 (e_C_layOut a1 σ) 1)) (v_Ma_absJ (v_C_slopeUpper (v_C_layOut a1 σ) 0 (e_C_layOut a1 σ)) (e_C_layOut a1 σ)) 0 (e_C_layOut a1 σ) 0))) → (p_Ro_addFraction (Int32.toInt64 (f_C_lot_71 (v_C_layOut a1 σ) (f_C_lot_37 (v_C_layOut a1 σ) 2 (e_C_layOut a1 σ) 1 (n_C_lot_37 (v_C_layOut a1 σ) 2 (e_C_layOut a1 σ) 1)) (v_Ma_absJ (v_C_slopeUpper (v_C_layOut a1 σ) 0 (e_C_layOut a1 σ)) (e_C_layOut a1 σ)) 0 (e_C_layOut a1 σ) 0 (n_C_lot_71 (v_C_layOut a1 σ) (f_C_lot_37 (v_C_layOut a1 σ) 2 (e_C_layOut a1 σ) 1 (n_C_lot_37 (v_C_layOut a1 σ) 2 (e_C_layOut a1 σ) 1)) (v_Ma_absJ (v_C_slopeUpper (v_C_layOut a1 σ) 0 (e_C_layOut a1 σ)) (e_C_layOut a1 σ)) 0 (e_C_layOut a1 σ) 0))) (Int32.toInt64 (f_C_lot_37 (v_C_layOut a1 σ) 2 (e_C_layOut a1 σ) 1 (n_C_lot_37 (v_C_layOut a1 σ) 2 (e_C_layOut a1 σ) 1))) (e_Ro_clear (e_C_layOut a1 σ)))) ∧ (¬ ((f_C_lot_37 (v_C_layOut a1 σ) 2 (e_C_layOut a1 σ) 1 (n_C_lot_37 (v_C_layOut a1 σ) 2 (e_C_layOut a1 σ) 1)) ≤ (0 + nI (n_C_lot_71 (v_C_layOut a1 σ) (f_C_lot_37 (v_C_layOut a1 σ) 2 (e_C_layOut a1 σ) 1 (n_C_lot_37 (v_C_layOut a1 σ) 2 (e_C_layOut a1 σ) 1)) (v_Ma_absJ (v_C_slopeUpper (v_C_layOut a1 σ) 0 (e_C_layOut a1 σ)) (e_C_layOut a1 σ)) 0 (e_C_layOut a1 σ) 0))) → False))))) ∧ (¬ ((v_C_layOut a1 σ) < (2 + nI (n_C_lot_37 (v_C_layOut a1 σ) 2 (e_C_layOut a1 σ) 1))) → False))))))))
noncomputable def e_C_lot (a1 : Int32) (σ : MSto) : MSto := (if (v_C_areCounted a1 2 6 σ) = 0 then σ else (if (lg_cmp (v_C_slopeLower (v_C_layOut a1 σ) (e_C_layOut a1 σ)) 0) = 0 then (e_C_layOut a1 σ) else (e_Ro_addFraction (Int32.toInt64 (f_C_lot_71 (v_C_layOut a1 σ) (f_C_lot_37 (v_C_layOut a1 σ) 2 (e_C_layOut a1 σ) 1 (n_C_lot_37 (v_C_layOut a1 σ) 2 (e_C_layOut a1 σ) 1)) (v_Ma_absJ (v_C_slopeUpper (v_C_layOut a1 σ) 0 (e_C_layOut a1 σ)) (e_C_layOut a1 σ)) 0 (e_C_layOut a1 σ) 0 (n_C_lot_71 (v_C_layOut a1 σ) (f_C_lot_37 (v_C_layOut a1 σ) 2 (e_C_layOut a1 σ) 1 (n_C_lot_37 (v_C_layOut a1 σ) 2 (e_C_layOut a1 σ) 1)) (v_Ma_absJ (v_C_slopeUpper (v_C_layOut a1 σ) 0 (e_C_layOut a1 σ)) (e_C_layOut a1 σ)) 0 (e_C_layOut a1 σ) 0))) (Int32.toInt64 (f_C_lot_37 (v_C_layOut a1 σ) 2 (e_C_layOut a1 σ) 1 (n_C_lot_37 (v_C_layOut a1 σ) 2 (e_C_layOut a1 σ) 1))) (e_Ro_clear (e_C_layOut a1 σ)))))
noncomputable def S_C_lot : List MV → MSto → Option Prop × Option MV × MSto := fun as σ => match as with
  | [.inr (.inr (some (12, 0))), .inl a0] => (some (p_C_lot a0 σ), some (mI (v_C_lot a0 σ)), e_C_lot a0 σ)
  | _ => (some False, none, σ)
noncomputable def E_C_lot : MEnt := ((1, 1, 12), (8, 166, 0, 0), S_C_lot, ((⟨"ClothWithMan", "lot", "(I)I"⟩ : MethodName), prog_1_method_25_code, 8, (some .int)))

def T_C_lot : Nat → Option (Instr × Nat × List Nat) := fun k => bif Nat.blt k 123 then (bif Nat.blt k 55 then (bif Nat.blt k 26 then (bif Nat.blt k 13 then (bif Nat.blt k 5 then (bif Nat.blt k 2 then (bif Nat.blt k 1 then (bif Nat.beq k 0 then some (.aload_n 0, 1, []) else none) else (bif Nat.beq k 1 then some (.iload_n 1, 2, []) else none)) else (bif Nat.blt k 3 then (bif Nat.beq k 2 then some (.iconst 2, 3, []) else none) else (bif Nat.beq k 3 then some (.bipush 6, 5, []) else none))) else (bif Nat.blt k 11 then (bif Nat.blt k 8 then (bif Nat.beq k 5 then some (.invokevirtual 229, 8, []) else none) else (bif Nat.beq k 8 then some (.ifCond .ne 5, 11, [13]) else none)) else (bif Nat.blt k 12 then (bif Nat.beq k 11 then some (.iconst (-1), 12, []) else none) else (bif Nat.beq k 12 then some (.ireturn, 13, []) else none)))) else (bif Nat.blt k 19 then (bif Nat.blt k 15 then (bif Nat.blt k 14 then (bif Nat.beq k 13 then some (.aload_n 0, 14, []) else none) else (bif Nat.beq k 14 then some (.iload_n 1, 15, []) else none)) else (bif Nat.blt k 18 then (bif Nat.beq k 15 then some (.invokevirtual 265, 18, []) else none) else (bif Nat.beq k 18 then some (.istore_n 2, 19, []) else none))) else (bif Nat.blt k 21 then (bif Nat.blt k 20 then (bif Nat.beq k 19 then some (.aload_n 0, 20, []) else none) else (bif Nat.beq k 20 then some (.iload_n 2, 21, []) else none)) else (bif Nat.blt k 24 then (bif Nat.beq k 21 then some (.invokevirtual 268, 24, []) else none) else (bif Nat.blt k 25 then (bif Nat.beq k 24 then some (.lconst 0, 25, []) else none) else (bif Nat.beq k 25 then some (.lcmp, 26, []) else none)))))) else (bif Nat.blt k 39 then (bif Nat.blt k 33 then (bif Nat.blt k 31 then (bif Nat.blt k 29 then (bif Nat.beq k 26 then some (.ifCond .ne 6, 29, [32]) else none) else (bif Nat.beq k 29 then some (.bipush (-2), 31, []) else none)) else (bif Nat.blt k 32 then (bif Nat.beq k 31 then some (.ireturn, 32, []) else none) else (bif Nat.beq k 32 then some (.iconst 1, 33, []) else none))) else (bif Nat.blt k 35 then (bif Nat.blt k 34 then (bif Nat.beq k 33 then some (.istore_n 3, 34, []) else none) else (bif Nat.beq k 34 then some (.iconst 2, 35, []) else none)) else (bif Nat.blt k 37 then (bif Nat.beq k 35 then some (.istore 4, 37, []) else none) else (bif Nat.beq k 37 then some (.iload 4, 39, []) else none)))) else (bif Nat.blt k 46 then (bif Nat.blt k 43 then (bif Nat.blt k 40 then (bif Nat.beq k 39 then some (.iload_n 2, 40, []) else none) else (bif Nat.beq k 40 then some (.if_icmp .gt 14, 43, [54]) else none)) else (bif Nat.blt k 44 then (bif Nat.beq k 43 then some (.iload_n 3, 44, []) else none) else (bif Nat.beq k 44 then some (.iload 4, 46, []) else none))) else (bif Nat.blt k 48 then (bif Nat.blt k 47 then (bif Nat.beq k 46 then some (.imul, 47, []) else none) else (bif Nat.beq k 47 then some (.istore_n 3, 48, []) else none)) else (bif Nat.blt k 51 then (bif Nat.beq k 48 then some (.iinc 4 1, 51, []) else none) else (bif Nat.blt k 54 then (bif Nat.beq k 51 then some (.goto (-14), 54, [37]) else none) else (bif Nat.beq k 54 then some (.aload_n 0, 55, []) else none))))))) else (bif Nat.blt k 87 then (bif Nat.blt k 69 then (bif Nat.blt k 63 then (bif Nat.blt k 57 then (bif Nat.blt k 56 then (bif Nat.beq k 55 then some (.iload_n 2, 56, []) else none) else (bif Nat.beq k 56 then some (.iconst 0, 57, []) else none)) else (bif Nat.blt k 60 then (bif Nat.beq k 57 then some (.invokevirtual 271, 60, []) else none) else (bif Nat.beq k 60 then some (.invokestatic 275, 63, []) else none))) else (bif Nat.blt k 66 then (bif Nat.blt k 65 then (bif Nat.beq k 63 then some (.lstore 4, 65, []) else none) else (bif Nat.beq k 65 then some (.iconst 0, 66, []) else none)) else (bif Nat.blt k 68 then (bif Nat.beq k 66 then some (.istore 6, 68, []) else none) else (bif Nat.beq k 68 then some (.iconst 0, 69, []) else none)))) else (bif Nat.blt k 77 then (bif Nat.blt k 73 then (bif Nat.blt k 71 then (bif Nat.beq k 69 then some (.istore 7, 71, []) else none) else (bif Nat.beq k 71 then some (.iload 7, 73, []) else none)) else (bif Nat.blt k 74 then (bif Nat.beq k 73 then some (.iload_n 3, 74, []) else none) else (bif Nat.beq k 74 then some (.if_icmp .ge 28, 77, [102]) else none))) else (bif Nat.blt k 79 then (bif Nat.blt k 78 then (bif Nat.beq k 77 then some (.aload_n 0, 78, []) else none) else (bif Nat.beq k 78 then some (.iload_n 2, 79, []) else none)) else (bif Nat.blt k 81 then (bif Nat.beq k 79 then some (.iload 7, 81, []) else none) else (bif Nat.blt k 84 then (bif Nat.beq k 81 then some (.invokevirtual 271, 84, []) else none) else (bif Nat.beq k 84 then some (.invokestatic 275, 87, []) else none)))))) else (bif Nat.blt k 109 then (bif Nat.blt k 96 then (bif Nat.blt k 90 then (bif Nat.blt k 89 then (bif Nat.beq k 87 then some (.lload 4, 89, []) else none) else (bif Nat.beq k 89 then some (.lcmp, 90, []) else none)) else (bif Nat.blt k 93 then (bif Nat.beq k 90 then some (.ifCond .lt 6, 93, [96]) else none) else (bif Nat.beq k 93 then some (.iinc 6 1, 96, []) else none))) else (bif Nat.blt k 102 then (bif Nat.blt k 99 then (bif Nat.beq k 96 then some (.iinc 7 1, 99, []) else none) else (bif Nat.beq k 99 then some (.goto (-28), 102, [71]) else none)) else (bif Nat.blt k 103 then (bif Nat.beq k 102 then some (.aload_n 0, 103, []) else none) else (bif Nat.blt k 106 then (bif Nat.beq k 103 then some (.getfield 67, 106, []) else none) else (bif Nat.beq k 106 then some (.invokevirtual 217, 109, []) else none))))) else (bif Nat.blt k 116 then (bif Nat.blt k 113 then (bif Nat.blt k 110 then (bif Nat.beq k 109 then some (.aload_n 0, 110, []) else none) else (bif Nat.beq k 110 then some (.getfield 67, 113, []) else none)) else (bif Nat.blt k 115 then (bif Nat.beq k 113 then some (.iload 6, 115, []) else none) else (bif Nat.beq k 115 then some (.i2l, 116, []) else none))) else (bif Nat.blt k 118 then (bif Nat.blt k 117 then (bif Nat.beq k 116 then some (.iload_n 3, 117, []) else none) else (bif Nat.beq k 117 then some (.i2l, 118, []) else none)) else (bif Nat.blt k 121 then (bif Nat.beq k 118 then some (.invokevirtual 242, 121, []) else none) else (bif Nat.blt k 122 then (bif Nat.beq k 121 then some (.iconst 0, 122, []) else none) else (bif Nat.beq k 122 then some (.ireturn, 123, []) else none)))))))) else none
noncomputable def P_C_lot : MP := (T_C_lot, (fun k => mLook k [(67, (12, 11, (.object "ClothWithMan$Row"), true))]), (fun k => mLook k []), (fun k => mLook k [(217, E_Ro_clear), (229, E_C_areCounted), (242, E_Ro_addFraction), (265, E_C_layOut), (268, E_C_slopeLower), (271, E_C_slopeUpper), (275, E_Ma_absJ)]), (fun k => mLook k []), (fun k => mLook k []), (fun k => mLook k []), (fun k => mLook k [(37, [true, false, true, true, true, false, false, false]), (71, [true, false, true, true, true, false, true, true])]), (fun k => [12, 31, 122].any (Nat.beq k)), (8, 166, 0, 0), false, (fun _ => none))
set_option maxRecDepth 100000 in
set_option maxHeartbeats 4000000 in
theorem q_C_lot_e (a1 : Int32) (σ : MSto) (n : Nat) : mexe KT P_C_lot (n + 1) (0, [some (mR 12 0), some (mI a1), none, none, none, none, none, none], [], σ, 0, 0) = mG (p_C_areCounted a1 2 6 σ) (mIf ((v_C_areCounted a1 2 6 σ) = 0) (some (12, [], [(mI (-1))], σ, 0, 0)) (mG (p_C_layOut a1 σ) (mG (p_C_slopeLower (v_C_layOut a1 σ) (e_C_layOut a1 σ)) (mIf ((lg_cmp (v_C_slopeLower (v_C_layOut a1 σ) (e_C_layOut a1 σ)) 0) = 0) (some (31, [], [(mI (-2))], (e_C_layOut a1 σ), 0, 0)) (mexe KT P_C_lot n (37, [some (mR 12 0), none, some (mI (v_C_layOut a1 σ)), some (mI 1), some (mI 2), none, none, none], [], (e_C_layOut a1 σ), 0, 0)))))) := rfl
set_option maxRecDepth 100000 in
set_option maxHeartbeats 4000000 in
theorem q_C_lot_37 (x2 : Int32) (x3 : Int32) (x4 : Int32) (σ : MSto) (n : Nat) : mexe KT P_C_lot (n + 1) (37, [some (mR 12 0), none, some (mI x2), some (mI x3), some (mI x4), none, none, none], [], σ, 0, 0) = mIf (x2 < x4) (mG (p_C_slopeUpper x2 0 σ) (mexe KT P_C_lot n (71, [some (mR 12 0), none, some (mI x2), some (mI x3), some (mJ (v_Ma_absJ (v_C_slopeUpper x2 0 σ) σ)), none, some (mI 0), some (mI 0)], [], σ, 0, 0))) (mexe KT P_C_lot n (37, [some (mR 12 0), none, some (mI x2), some (mI (x3 * x4)), some (mI (x4 + 1)), none, none, none], [], σ, 0, 0)) := rfl
set_option maxRecDepth 100000 in
set_option maxHeartbeats 4000000 in
theorem q_C_lot_71 (x2 : Int32) (x3 : Int32) (x4 : Int64) (x6 : Int32) (x7 : Int32) (σ : MSto) (n : Nat) : mexe KT P_C_lot (n + 1) (71, [some (mR 12 0), none, some (mI x2), some (mI x3), some (mJ x4), none, some (mI x6), some (mI x7)], [], σ, 0, 0) = mIf (x3 ≤ x7) (mG (p_Ro_addFraction (Int32.toInt64 x6) (Int32.toInt64 x3) (e_Ro_clear σ)) (some (122, [], [(mI 0)], (e_Ro_addFraction (Int32.toInt64 x6) (Int32.toInt64 x3) (e_Ro_clear σ)), 0, 0))) (mG (p_C_slopeUpper x2 x7 σ) (mIf ((lg_cmp (v_Ma_absJ (v_C_slopeUpper x2 x7 σ) σ) x4) < 0) (mexe KT P_C_lot n (71, [some (mR 12 0), none, some (mI x2), some (mI x3), some (mJ x4), none, some (mI x6), some (mI (x7 + 1))], [], σ, 0, 0)) (mexe KT P_C_lot n (71, [some (mR 12 0), none, some (mI x2), some (mI x3), some (mJ x4), none, some (mI (x6 + 1)), some (mI (x7 + 1))], [], σ, 0, 0)))) := rfl
set_option maxRecDepth 100000 in
theorem lt_C_lot_71 {Post : MST → Prop} (x2 : Int32) (x3 : Int32) (x4 : Int64) (c : Int32) (σ : MSto) (s : Int32) (hp : g_C_lot_71 x2 x3 x4 c σ s) (hq : ¬ q_C_lot_71s x2 x3 x4 c σ s = 1) (hn : ∀ r, t_C_lot_71 x2 x3 x4 c σ s = r → mW1 P_C_lot (71, [some (mR 12 0), none, some (mI x2), some (mI x3), some (mJ x4), none, some (mI r), some (mI (c + 1))], [], σ, 0, 0) Post) : mW1 P_C_lot (71, [some (mR 12 0), none, some (mI x2), some (mI x3), some (mJ x4), none, some (mI s), some (mI c)], [], σ, 0, 0) Post := by
  unfold g_C_lot_71 at hp
  refine mW1_eq (q_C_lot_71 _ _ _ _ _ _) ?_
  refine mTr_if (fun h0 => ?_) (fun h0 => ?_)
  · skip
    exact absurd (if_pos h0) hq
  · skip
    have hp := hp h0
    refine mTr_g hp ?_
    refine mTr_if (fun h1 => ?_) (fun h1 => ?_)
    · skip
      exact mTr_k (hn s ((if_neg h0).trans (if_pos h1)))
    · skip
      exact mTr_k (hn (s + 1) ((if_neg h0).trans (if_neg h1)))
theorem lp_C_lot_71 {Post : MST → Prop} (x2 : Int32) (x3 : Int32) (x4 : Int64) (c0 : Int32) (σ : MSto) (s0 : Int32) (N : Nat) (hb : ∀ i, i < N → g_C_lot_71 x2 x3 x4 (c0 + nI i) σ (f_C_lot_71 x2 x3 x4 c0 σ s0 i) ∧ ¬ q_C_lot_71s x2 x3 x4 (c0 + nI i) σ (f_C_lot_71 x2 x3 x4 c0 σ s0 i) = 1) (h : mW1 P_C_lot (71, [some (mR 12 0), none, some (mI x2), some (mI x3), some (mJ x4), none, some (mI (f_C_lot_71 x2 x3 x4 c0 σ s0 N)), some (mI (c0 + nI N))], [], σ, 0, 0) Post) : mW1 P_C_lot (71, [some (mR 12 0), none, some (mI x2), some (mI x3), some (mJ x4), none, some (mI s0), some (mI c0)], [], σ, 0, 0) Post := by
  refine mW1_st (mW1_loop (fun i => (71, [some (mR 12 0), none, some (mI x2), some (mI x3), some (mJ x4), none, some (mI (f_C_lot_71 x2 x3 x4 c0 σ s0 i)), some (mI (c0 + nI i))], [], σ, 0, 0)) N (fun i hlt hn => ?_) h) (by rw [show nI 0 = 0 from rfl, Int32.add_zero] <;> rfl)
  refine lt_C_lot_71 x2 x3 x4 _ σ _ (hb i hlt).1 (hb i hlt).2 (fun r hr => ?_)
  rw [Int32.add_assoc, nI_s]
  subst hr
  exact hn
set_option maxRecDepth 100000 in
theorem lt_C_lot_37 {Post : MST → Prop} (x2 : Int32) (c : Int32) (σ : MSto) (s : Int32) (hp : g_C_lot_37 x2 c σ s) (hq : ¬ q_C_lot_37s x2 c σ s = 1) (hn : ∀ r, t_C_lot_37 x2 c σ s = r → mW1 P_C_lot (37, [some (mR 12 0), none, some (mI x2), some (mI r), some (mI (c + 1)), none, none, none], [], σ, 0, 0) Post) : mW1 P_C_lot (37, [some (mR 12 0), none, some (mI x2), some (mI s), some (mI c), none, none, none], [], σ, 0, 0) Post := by
  unfold g_C_lot_37 at hp
  refine mW1_eq (q_C_lot_37 _ _ _ _) ?_
  refine mTr_if (fun h0 => ?_) (fun h0 => ?_)
  · skip
    exact absurd (if_pos h0) hq
  · skip
    exact mTr_k (hn (s * c) (if_neg h0))
theorem lp_C_lot_37 {Post : MST → Prop} (x2 : Int32) (c0 : Int32) (σ : MSto) (s0 : Int32) (N : Nat) (hb : ∀ i, i < N → g_C_lot_37 x2 (c0 + nI i) σ (f_C_lot_37 x2 c0 σ s0 i) ∧ ¬ q_C_lot_37s x2 (c0 + nI i) σ (f_C_lot_37 x2 c0 σ s0 i) = 1) (h : mW1 P_C_lot (37, [some (mR 12 0), none, some (mI x2), some (mI (f_C_lot_37 x2 c0 σ s0 N)), some (mI (c0 + nI N)), none, none, none], [], σ, 0, 0) Post) : mW1 P_C_lot (37, [some (mR 12 0), none, some (mI x2), some (mI s0), some (mI c0), none, none, none], [], σ, 0, 0) Post := by
  refine mW1_st (mW1_loop (fun i => (37, [some (mR 12 0), none, some (mI x2), some (mI (f_C_lot_37 x2 c0 σ s0 i)), some (mI (c0 + nI i)), none, none, none], [], σ, 0, 0)) N (fun i hlt hn => ?_) h) (by rw [show nI 0 = 0 from rfl, Int32.add_zero] <;> rfl)
  refine lt_C_lot_37 x2 _ σ _ (hb i hlt).1 (hb i hlt).2 (fun r hr => ?_)
  rw [Int32.add_assoc, nI_s]
  subst hr
  exact hn
set_option maxRecDepth 100000 in
set_option maxHeartbeats 4000000 in
theorem d_C_lot (a1 : Int32) (σ : MSto) (hp : p_C_lot a1 σ) : mW1 P_C_lot (0, [some (mR 12 0), some (mI a1), none, none, none, none, none, none], [], σ, 0, 0) (mF [12, 31, 122] [mI (v_C_lot a1 σ)] (e_C_lot a1 σ) 0 0) := by
  refine mW1_eq (q_C_lot_e _ _) ?_
  unfold p_C_lot at hp
  refine mTr_g hp.1 ?_
  have hp := hp.2
  refine mTr_if (fun h0 => ?_) (fun h0 => ?_)
  · skip
    exact mTr_e (by decide) (congrArg (fun z => [mI z]) (Eq.symm (if_pos h0))) (Eq.symm (if_pos h0)) (by decide) (by decide)
  · skip
    have hp := hp h0
    refine mTr_g hp.1 ?_
    have hp := hp.2
    refine mTr_g hp.1 ?_
    have hp := hp.2
    refine mTr_if (fun h1 => ?_) (fun h1 => ?_)
    · skip
      exact mTr_e (by decide) (congrArg (fun z => [mI z]) (Eq.symm ((if_neg h0).trans (if_pos h1)))) (Eq.symm ((if_neg h0).trans (if_pos h1))) (by decide) (by decide)
    · skip
      have hp := hp h1
      refine mTr_k (lp_C_lot_37 (v_C_layOut a1 σ) 2 (e_C_layOut a1 σ) 1 (n_C_lot_37 (v_C_layOut a1 σ) 2 (e_C_layOut a1 σ) 1) hp.1 ?_)
      have hp := hp.2
      refine mW1_eq (q_C_lot_37 _ _ _ _) ?_
      refine mTr_if (fun h2 => ?_) (fun h2 => ?_)
      · skip
        have hp := hp.1 h2
        refine mTr_g hp.1 ?_
        have hp := hp.2
        refine mTr_k (lp_C_lot_71 (v_C_layOut a1 σ) (f_C_lot_37 (v_C_layOut a1 σ) 2 (e_C_layOut a1 σ) 1 (n_C_lot_37 (v_C_layOut a1 σ) 2 (e_C_layOut a1 σ) 1)) (v_Ma_absJ (v_C_slopeUpper (v_C_layOut a1 σ) 0 (e_C_layOut a1 σ)) (e_C_layOut a1 σ)) 0 (e_C_layOut a1 σ) 0 (n_C_lot_71 (v_C_layOut a1 σ) (f_C_lot_37 (v_C_layOut a1 σ) 2 (e_C_layOut a1 σ) 1 (n_C_lot_37 (v_C_layOut a1 σ) 2 (e_C_layOut a1 σ) 1)) (v_Ma_absJ (v_C_slopeUpper (v_C_layOut a1 σ) 0 (e_C_layOut a1 σ)) (e_C_layOut a1 σ)) 0 (e_C_layOut a1 σ) 0) hp.1 ?_)
        have hp := hp.2
        refine mW1_eq (q_C_lot_71 _ _ _ _ _ _) ?_
        refine mTr_if (fun h3 => ?_) (fun h3 => ?_)
        · skip
          have hp := hp.1 h3
          refine mTr_g hp ?_
          exact mTr_e (by decide) (congrArg (fun z => [mI z]) (Eq.symm ((if_neg h0).trans (if_neg h1)))) (Eq.symm ((if_neg h0).trans (if_neg h1))) (by decide) (by decide)
        · skip
          have hp := hp.2 h3
          exact hp.elim
      · skip
        have hp := hp.2 h2
        exact hp.elim







theorem tk_C_lot : ∀ pc i nx tg, T_C_lot pc = some (i, nx, tg) → mOkB prog_1_method_25_code pc i nx tg = true := code_ok (N := 123) (fun k h => by unfold T_C_lot; rw [h]; rfl) (by decide +kernel)
theorem ok_C_lot (l : Launch) : mPOK l "ClothWithMan" prog_1_method_25_code P_C_lot := by
  refine ⟨tk_C_lot, ?_, ?_, ?_, (fun pc i nx tg kd _ h => by cases h), ?_, ?_, fun pc en h => by cases h⟩
  · intro x ci f ty fin h
    exact mLook_all (Q := fun x v => mFOK "ClothWithMan" x v.1 v.2.1 v.2.2.1 v.2.2.2 ∧ (v.2.2.2 = true → pIni P_C_lot = true → (Cond.fieldLink "ClothWithMan" x (((mCl[v.1]?).getD ("", fun _ => ("", "", "", false), 0)).2.1 v.2.1).1 (((mCl[v.1]?).getD ("", fun _ => ("", "", "", false), 0)).2.1 v.2.1).2.1 (((mCl[v.1]?).getD ("", fun _ => ("", "", "", false), 0)).2.1 v.2.1).2.2.1 ∈ lw_tbl ∧ (((mCl[v.1]?).getD ("", fun _ => ("", "", "", false), 0)).2.1 v.2.1).1 = "ClothWithMan"))) (fcC ⟨fo_C_67, fun h1 h2 => by cases h2⟩ fcN) x (ci, f, ty, fin) h
  · intro x
    have hh := mLook_all (l := ([] : List (Nat × (Int32 ⊕ Int64)))) (Q := fun x (v : Int32 ⊕ Int64) => (∀ w, v = .inl w → Cond.constant "ClothWithMan" x w ∈ lw_tbl) ∧ (∀ w, v = .inr w → Cond.constantLong "ClothWithMan" x w ∈ lw_tbl)) fcN x
    exact ⟨fun w h => (hh _ h).1 w rfl, fun w h => (hh _ h).2 w rfl⟩
  · exact fun x en h => mLook_all (Q := fun x en => mLink "ClothWithMan" x en ∧ mCtr l en ∧ (en.1.1 = 2 → en.2.2.2.2.2.2 = none)) (fcC ⟨li_C_217, c_Ro_clear l, (fun h => by cases h)⟩ (fcC ⟨li_C_229, c_C_areCounted l, (fun h => by cases h)⟩ (fcC ⟨li_C_242, c_Ro_addFraction l, (fun h => by cases h)⟩ (fcC ⟨li_C_265, c_C_layOut l, (fun h => by cases h)⟩ (fcC ⟨li_C_268, c_C_slopeLower l, (fun h => by cases h)⟩ (fcC ⟨li_C_271, c_C_slopeUpper l, (fun h => by cases h)⟩ (fcC ⟨li_C_275, c_Ma_absJ l, (fun h => by cases h)⟩ fcN))))))) x en h
  · exact fun x kd h => mLook_all (Q := fun x kd => (kd = 95 ∧ Cond.fieldLink "ClothWithMan" x "ClothWithMan" "LIKENESSES" "[I" ∈ lw_tbl) ∨ (kd = 96 ∧ Cond.fieldLink "ClothWithMan" x "ClothWithMan" "APART_BOUNDS" "[I" ∈ lw_tbl)) fcN x kd h
  · exact fun x ci h => mLook_all (Q := fun x ci => ci ≠ 0 ∧ ∃ (C : String) (T : u_T) (N : Nat), mCl[ci]? = some (C, T, N) ∧ Cond.classLink "ClothWithMan" x C ∈ lw_tbl ∧ Cond.instantiable C N ∈ lw_tbl) fcN x ci h
set_option maxRecDepth 100000 in
theorem c_C_lot (l : Launch) : mCtr l E_C_lot := mCtr_of (P := P_C_lot) (own := "ClothWithMan") mLay_ok rfl (by decide +kernel) rfl (ok_C_lot l) (fun h => by cases h) (fun as σ pr rv σ' hF hpr hlv => by
  unfold E_C_lot S_C_lot at hF
  simp only [] at hF
  split at hF
  · cases hF
    obtain ⟨n, pcF, c1, s1, g1, g2, g3, g4⟩ := mF_inv (d_C_lot _ σ (hpr _ rfl))
    exact ⟨Nat.le_of_ble_eq_true rfl, (fun v h => by cases h; trivial), n, pcF, c1, s1, g1, ⟨mEnd_of (i := .ireturn) (P := P_C_lot) (rets := [12, 31, 122]) rfl g2, rfl⟩, g3, g4⟩
  · cases hF
    exact (hpr _ rfl).elim)
/-! ClothWithMan.odd(I)I -/
noncomputable def t_C_odd_22 (x1 : Int32) (c : Int32) (σ : MSto) (s : Int32 × Int64 × Int64) : Int32 × Int64 × Int64 := (if (v_C_pieceCount σ) ≤ c then s else (if (v_C_has x1 c σ) = 0 then ((s.1), (s.2.1), (s.2.2)) else (if (s.1) = (-1) then (c, (v_C_apartUpper (v_C_without x1 c σ) σ), (v_C_apartLower (v_C_without x1 c σ) σ)) else (if 0 ≤ (lg_cmp ((v_C_apartUpper (v_C_without x1 c σ) σ) * (s.2.2)) ((s.2.1) * (v_C_apartLower (v_C_without x1 c σ) σ))) then ((s.1), (s.2.1), (s.2.2)) else (c, (v_C_apartUpper (v_C_without x1 c σ) σ), (v_C_apartLower (v_C_without x1 c σ) σ))))))
noncomputable def q_C_odd_22s (x1 : Int32) (c : Int32) (σ : MSto) (s : Int32 × Int64 × Int64) : Nat := (if (v_C_pieceCount σ) ≤ c then 1 else 0)
def g_C_odd_22 (x1 : Int32) (c : Int32) (σ : MSto) (s : Int32 × Int64 × Int64) : Prop := (¬ ((v_C_pieceCount σ) ≤ c) → (¬ ((v_C_has x1 c σ) = 0) → ((p_C_apartUpper (v_C_without x1 c σ) σ) ∧ (p_C_apartLower (v_C_without x1 c σ) σ))))
noncomputable def f_C_odd_22 (x1 : Int32) (c0 : Int32) (σ : MSto) (s0 : Int32 × Int64 × Int64) (n : Nat) : Int32 × Int64 × Int64 := nfold (fun i s => t_C_odd_22 x1 (c0 + nI i) σ s) s0 n
noncomputable def n_C_odd_22 (x1 : Int32) (c0 : Int32) (σ : MSto) (s0 : Int32 × Int64 × Int64) : Nat := (v_C_pieceCount σ).toNatClampNeg
noncomputable def v_C_odd (a1 : Int32) (σ : MSto) : Int32 := (if (v_C_areCounted a1 3 4 σ) = 0 then (-1) else ((f_C_odd_22 a1 0 σ ((-1), 0, 1) (n_C_odd_22 a1 0 σ ((-1), 0, 1))).1))
def p_C_odd (a1 : Int32) (σ : MSto) : Prop := ((p_C_areCounted a1 3 4 σ) ∧ (¬ ((v_C_areCounted a1 3 4 σ) = 0) → ((∀ i, i < (n_C_odd_22 a1 0 σ ((-1), 0, 1)) → g_C_odd_22 a1 (0 + nI i) σ (f_C_odd_22 a1 0 σ ((-1), 0, 1) i) ∧ ¬ q_C_odd_22s a1 (0 + nI i) σ (f_C_odd_22 a1 0 σ ((-1), 0, 1) i) = 1) ∧ ((((v_C_pieceCount σ) ≤ (0 + nI (n_C_odd_22 a1 0 σ ((-1), 0, 1)))) → (p_Ro_addFraction ((f_C_odd_22 a1 0 σ ((-1), 0, 1) (n_C_odd_22 a1 0 σ ((-1), 0, 1))).2.1) ((f_C_odd_22 a1 0 σ ((-1), 0, 1) (n_C_odd_22 a1 0 σ ((-1), 0, 1))).2.2) (e_Ro_clear σ))) ∧ (¬ ((v_C_pieceCount σ) ≤ (0 + nI (n_C_odd_22 a1 0 σ ((-1), 0, 1)))) → False)))))
noncomputable def e_C_odd (a1 : Int32) (σ : MSto) : MSto := (if (v_C_areCounted a1 3 4 σ) = 0 then σ else (e_Ro_addFraction ((f_C_odd_22 a1 0 σ ((-1), 0, 1) (n_C_odd_22 a1 0 σ ((-1), 0, 1))).2.1) ((f_C_odd_22 a1 0 σ ((-1), 0, 1) (n_C_odd_22 a1 0 σ ((-1), 0, 1))).2.2) (e_Ro_clear σ)))
noncomputable def S_C_odd : List MV → MSto → Option Prop × Option MV × MSto := fun as σ => match as with
  | [.inr (.inr (some (12, 0))), .inl a0] => (some (p_C_odd a0 σ), some (mI (v_C_odd a0 σ)), e_C_odd a0 σ)
  | _ => (some False, none, σ)
noncomputable def E_C_odd : MEnt := ((1, 1, 12), (8, 174, 0, 0), S_C_odd, ((⟨"ClothWithMan", "odd", "(I)I"⟩ : MethodName), prog_1_method_26_code, 12, (some .int)))

def T_C_odd : Nat → Option (Instr × Nat × List Nat) := fun k => bif Nat.blt k 120 then (bif Nat.blt k 57 then (bif Nat.blt k 22 then (bif Nat.blt k 12 then (bif Nat.blt k 4 then (bif Nat.blt k 2 then (bif Nat.blt k 1 then (bif Nat.beq k 0 then some (.aload_n 0, 1, []) else none) else (bif Nat.beq k 1 then some (.iload_n 1, 2, []) else none)) else (bif Nat.blt k 3 then (bif Nat.beq k 2 then some (.iconst 3, 3, []) else none) else (bif Nat.beq k 3 then some (.iconst 4, 4, []) else none))) else (bif Nat.blt k 10 then (bif Nat.blt k 7 then (bif Nat.beq k 4 then some (.invokevirtual 229, 7, []) else none) else (bif Nat.beq k 7 then some (.ifCond .ne 5, 10, [12]) else none)) else (bif Nat.blt k 11 then (bif Nat.beq k 10 then some (.iconst (-1), 11, []) else none) else (bif Nat.beq k 11 then some (.ireturn, 12, []) else none)))) else (bif Nat.blt k 16 then (bif Nat.blt k 14 then (bif Nat.blt k 13 then (bif Nat.beq k 12 then some (.iconst (-1), 13, []) else none) else (bif Nat.beq k 13 then some (.istore_n 2, 14, []) else none)) else (bif Nat.blt k 15 then (bif Nat.beq k 14 then some (.lconst 0, 15, []) else none) else (bif Nat.beq k 15 then some (.lstore_n 3, 16, []) else none))) else (bif Nat.blt k 19 then (bif Nat.blt k 17 then (bif Nat.beq k 16 then some (.lconst 1, 17, []) else none) else (bif Nat.beq k 17 then some (.lstore 5, 19, []) else none)) else (bif Nat.blt k 20 then (bif Nat.beq k 19 then some (.iconst 0, 20, []) else none) else (bif Nat.beq k 20 then some (.istore 7, 22, []) else none))))) else (bif Nat.blt k 40 then (bif Nat.blt k 31 then (bif Nat.blt k 25 then (bif Nat.blt k 24 then (bif Nat.beq k 22 then some (.iload 7, 24, []) else none) else (bif Nat.beq k 24 then some (.aload_n 0, 25, []) else none)) else (bif Nat.blt k 28 then (bif Nat.beq k 25 then some (.invokevirtual 281, 28, []) else none) else (bif Nat.beq k 28 then some (.if_icmp .ge 73, 31, [101]) else none))) else (bif Nat.blt k 34 then (bif Nat.blt k 32 then (bif Nat.beq k 31 then some (.iload_n 1, 32, []) else none) else (bif Nat.beq k 32 then some (.iload 7, 34, []) else none)) else (bif Nat.blt k 37 then (bif Nat.beq k 34 then some (.invokestatic 284, 37, []) else none) else (bif Nat.beq k 37 then some (.ifCond .ne 6, 40, [43]) else none)))) else (bif Nat.blt k 47 then (bif Nat.blt k 44 then (bif Nat.blt k 43 then (bif Nat.beq k 40 then some (.goto 55, 43, [95]) else none) else (bif Nat.beq k 43 then some (.aload_n 0, 44, []) else none)) else (bif Nat.blt k 45 then (bif Nat.beq k 44 then some (.iload_n 1, 45, []) else none) else (bif Nat.beq k 45 then some (.iload 7, 47, []) else none))) else (bif Nat.blt k 53 then (bif Nat.blt k 50 then (bif Nat.beq k 47 then some (.invokestatic 288, 50, []) else none) else (bif Nat.beq k 50 then some (.invokevirtual 251, 53, []) else none)) else (bif Nat.blt k 55 then (bif Nat.beq k 53 then some (.lstore 8, 55, []) else none) else (bif Nat.blt k 56 then (bif Nat.beq k 55 then some (.aload_n 0, 56, []) else none) else (bif Nat.beq k 56 then some (.iload_n 1, 57, []) else none))))))) else (bif Nat.blt k 87 then (bif Nat.blt k 74 then (bif Nat.blt k 67 then (bif Nat.blt k 62 then (bif Nat.blt k 59 then (bif Nat.beq k 57 then some (.iload 7, 59, []) else none) else (bif Nat.beq k 59 then some (.invokestatic 288, 62, []) else none)) else (bif Nat.blt k 65 then (bif Nat.beq k 62 then some (.invokevirtual 254, 65, []) else none) else (bif Nat.beq k 65 then some (.lstore 10, 67, []) else none))) else (bif Nat.blt k 69 then (bif Nat.blt k 68 then (bif Nat.beq k 67 then some (.iload_n 2, 68, []) else none) else (bif Nat.beq k 68 then some (.iconst (-1), 69, []) else none)) else (bif Nat.blt k 72 then (bif Nat.beq k 69 then some (.if_icmp .eq 16, 72, [85]) else none) else (bif Nat.beq k 72 then some (.lload 8, 74, []) else none)))) else (bif Nat.blt k 80 then (bif Nat.blt k 77 then (bif Nat.blt k 76 then (bif Nat.beq k 74 then some (.lload 5, 76, []) else none) else (bif Nat.beq k 76 then some (.lmul, 77, []) else none)) else (bif Nat.blt k 78 then (bif Nat.beq k 77 then some (.lload_n 3, 78, []) else none) else (bif Nat.beq k 78 then some (.lload 10, 80, []) else none))) else (bif Nat.blt k 82 then (bif Nat.blt k 81 then (bif Nat.beq k 80 then some (.lmul, 81, []) else none) else (bif Nat.beq k 81 then some (.lcmp, 82, []) else none)) else (bif Nat.blt k 85 then (bif Nat.beq k 82 then some (.ifCond .ge 13, 85, [95]) else none) else (bif Nat.beq k 85 then some (.iload 7, 87, []) else none))))) else (bif Nat.blt k 102 then (bif Nat.blt k 93 then (bif Nat.blt k 90 then (bif Nat.blt k 88 then (bif Nat.beq k 87 then some (.istore_n 2, 88, []) else none) else (bif Nat.beq k 88 then some (.lload 8, 90, []) else none)) else (bif Nat.blt k 91 then (bif Nat.beq k 90 then some (.lstore_n 3, 91, []) else none) else (bif Nat.beq k 91 then some (.lload 10, 93, []) else none))) else (bif Nat.blt k 98 then (bif Nat.blt k 95 then (bif Nat.beq k 93 then some (.lstore 5, 95, []) else none) else (bif Nat.beq k 95 then some (.iinc 7 1, 98, []) else none)) else (bif Nat.blt k 101 then (bif Nat.beq k 98 then some (.goto (-76), 101, [22]) else none) else (bif Nat.beq k 101 then some (.aload_n 0, 102, []) else none)))) else (bif Nat.blt k 112 then (bif Nat.blt k 108 then (bif Nat.blt k 105 then (bif Nat.beq k 102 then some (.getfield 67, 105, []) else none) else (bif Nat.beq k 105 then some (.invokevirtual 217, 108, []) else none)) else (bif Nat.blt k 109 then (bif Nat.beq k 108 then some (.aload_n 0, 109, []) else none) else (bif Nat.beq k 109 then some (.getfield 67, 112, []) else none))) else (bif Nat.blt k 115 then (bif Nat.blt k 113 then (bif Nat.beq k 112 then some (.lload_n 3, 113, []) else none) else (bif Nat.beq k 113 then some (.lload 5, 115, []) else none)) else (bif Nat.blt k 118 then (bif Nat.beq k 115 then some (.invokevirtual 242, 118, []) else none) else (bif Nat.blt k 119 then (bif Nat.beq k 118 then some (.iload_n 2, 119, []) else none) else (bif Nat.beq k 119 then some (.ireturn, 120, []) else none)))))))) else none
noncomputable def P_C_odd : MP := (T_C_odd, (fun k => mLook k [(67, (12, 11, (.object "ClothWithMan$Row"), true))]), (fun k => mLook k []), (fun k => mLook k [(217, E_Ro_clear), (229, E_C_areCounted), (242, E_Ro_addFraction), (251, E_C_apartUpper), (254, E_C_apartLower), (281, E_C_pieceCount), (284, E_C_has), (288, E_C_without)]), (fun k => mLook k []), (fun k => mLook k []), (fun k => mLook k []), (fun k => mLook k [(22, [true, true, true, true, false, true, false, true, false, false, false, false])]), (fun k => [11, 119].any (Nat.beq k)), (8, 174, 0, 0), false, (fun _ => none))
set_option maxRecDepth 100000 in
set_option maxHeartbeats 4000000 in
theorem q_C_odd_e (a1 : Int32) (σ : MSto) (n : Nat) : mexe KT P_C_odd (n + 1) (0, [some (mR 12 0), some (mI a1), none, none, none, none, none, none, none, none, none, none], [], σ, 0, 0) = mG (p_C_areCounted a1 3 4 σ) (mIf ((v_C_areCounted a1 3 4 σ) = 0) (some (11, [], [(mI (-1))], σ, 0, 0)) (mexe KT P_C_odd n (22, [some (mR 12 0), some (mI a1), some (mI (-1)), some (mJ 0), none, some (mJ 1), none, some (mI 0), none, none, none, none], [], σ, 0, 0))) := rfl
set_option maxRecDepth 100000 in
set_option maxHeartbeats 4000000 in
theorem q_C_odd_22 (x1 : Int32) (x2 : Int32) (x3 : Int64) (x5 : Int64) (x7 : Int32) (σ : MSto) (n : Nat) : mexe KT P_C_odd (n + 1) (22, [some (mR 12 0), some (mI x1), some (mI x2), some (mJ x3), none, some (mJ x5), none, some (mI x7), none, none, none, none], [], σ, 0, 0) = mIf ((v_C_pieceCount σ) ≤ x7) (mG (p_Ro_addFraction x3 x5 (e_Ro_clear σ)) (some (119, [], [(mI x2)], (e_Ro_addFraction x3 x5 (e_Ro_clear σ)), 0, 0))) (mIf ((v_C_has x1 x7 σ) = 0) (mexe KT P_C_odd n (22, [some (mR 12 0), some (mI x1), some (mI x2), some (mJ x3), none, some (mJ x5), none, some (mI (x7 + 1)), none, none, none, none], [], σ, 0, 0)) (mG (p_C_apartUpper (v_C_without x1 x7 σ) σ) (mG (p_C_apartLower (v_C_without x1 x7 σ) σ) (mIf (x2 = (-1)) (mexe KT P_C_odd n (22, [some (mR 12 0), some (mI x1), some (mI x7), some (mJ (v_C_apartUpper (v_C_without x1 x7 σ) σ)), none, some (mJ (v_C_apartLower (v_C_without x1 x7 σ) σ)), none, some (mI (x7 + 1)), none, none, none, none], [], σ, 0, 0)) (mIf (0 ≤ (lg_cmp ((v_C_apartUpper (v_C_without x1 x7 σ) σ) * x5) (x3 * (v_C_apartLower (v_C_without x1 x7 σ) σ)))) (mexe KT P_C_odd n (22, [some (mR 12 0), some (mI x1), some (mI x2), some (mJ x3), none, some (mJ x5), none, some (mI (x7 + 1)), none, none, none, none], [], σ, 0, 0)) (mexe KT P_C_odd n (22, [some (mR 12 0), some (mI x1), some (mI x7), some (mJ (v_C_apartUpper (v_C_without x1 x7 σ) σ)), none, some (mJ (v_C_apartLower (v_C_without x1 x7 σ) σ)), none, some (mI (x7 + 1)), none, none, none, none], [], σ, 0, 0))))))) := rfl
set_option maxRecDepth 100000 in
theorem lt_C_odd_22 {Post : MST → Prop} (x1 : Int32) (c : Int32) (σ : MSto) (s : Int32 × Int64 × Int64) (hp : g_C_odd_22 x1 c σ s) (hq : ¬ q_C_odd_22s x1 c σ s = 1) (hn : ∀ (r1 : Int32) (r2 : Int64) (r3 : Int64), t_C_odd_22 x1 c σ s = (r1, r2, r3) → mW1 P_C_odd (22, [some (mR 12 0), some (mI x1), some (mI r1), some (mJ r2), none, some (mJ r3), none, some (mI (c + 1)), none, none, none, none], [], σ, 0, 0) Post) : mW1 P_C_odd (22, [some (mR 12 0), some (mI x1), some (mI (s.1)), some (mJ (s.2.1)), none, some (mJ (s.2.2)), none, some (mI c), none, none, none, none], [], σ, 0, 0) Post := by
  unfold g_C_odd_22 at hp
  refine mW1_eq (q_C_odd_22 _ _ _ _ _ _) ?_
  refine mTr_if (fun h0 => ?_) (fun h0 => ?_)
  · skip
    exact absurd (if_pos h0) hq
  · skip
    have hp := hp h0
    refine mTr_if (fun h1 => ?_) (fun h1 => ?_)
    · skip
      exact mTr_k (hn (s.1) (s.2.1) (s.2.2) ((if_neg h0).trans (if_pos h1)))
    · skip
      have hp := hp h1
      refine mTr_g hp.1 ?_
      have hp := hp.2
      refine mTr_g hp ?_
      refine mTr_if (fun h2 => ?_) (fun h2 => ?_)
      · skip
        exact mTr_k (hn c (v_C_apartUpper (v_C_without x1 c σ) σ) (v_C_apartLower (v_C_without x1 c σ) σ) ((if_neg h0).trans ((if_neg h1).trans (if_pos h2))))
      · skip
        refine mTr_if (fun h3 => ?_) (fun h3 => ?_)
        · skip
          exact mTr_k (hn (s.1) (s.2.1) (s.2.2) ((if_neg h0).trans ((if_neg h1).trans ((if_neg h2).trans (if_pos h3)))))
        · skip
          exact mTr_k (hn c (v_C_apartUpper (v_C_without x1 c σ) σ) (v_C_apartLower (v_C_without x1 c σ) σ) ((if_neg h0).trans ((if_neg h1).trans ((if_neg h2).trans (if_neg h3)))))
theorem lp_C_odd_22 {Post : MST → Prop} (x1 : Int32) (c0 : Int32) (σ : MSto) (s0 : Int32 × Int64 × Int64) (N : Nat) (hb : ∀ i, i < N → g_C_odd_22 x1 (c0 + nI i) σ (f_C_odd_22 x1 c0 σ s0 i) ∧ ¬ q_C_odd_22s x1 (c0 + nI i) σ (f_C_odd_22 x1 c0 σ s0 i) = 1) (h : mW1 P_C_odd (22, [some (mR 12 0), some (mI x1), some (mI ((f_C_odd_22 x1 c0 σ s0 N).1)), some (mJ ((f_C_odd_22 x1 c0 σ s0 N).2.1)), none, some (mJ ((f_C_odd_22 x1 c0 σ s0 N).2.2)), none, some (mI (c0 + nI N)), none, none, none, none], [], σ, 0, 0) Post) : mW1 P_C_odd (22, [some (mR 12 0), some (mI x1), some (mI (s0.1)), some (mJ (s0.2.1)), none, some (mJ (s0.2.2)), none, some (mI c0), none, none, none, none], [], σ, 0, 0) Post := by
  refine mW1_st (mW1_loop (fun i => (22, [some (mR 12 0), some (mI x1), some (mI ((f_C_odd_22 x1 c0 σ s0 i).1)), some (mJ ((f_C_odd_22 x1 c0 σ s0 i).2.1)), none, some (mJ ((f_C_odd_22 x1 c0 σ s0 i).2.2)), none, some (mI (c0 + nI i)), none, none, none, none], [], σ, 0, 0)) N (fun i hlt hn => ?_) h) (by rw [show nI 0 = 0 from rfl, Int32.add_zero] <;> rfl)
  refine lt_C_odd_22 x1 _ σ _ (hb i hlt).1 (hb i hlt).2 (fun r1 r2 r3 hr => ?_)
  rw [Int32.add_assoc, nI_s]
  have e : f_C_odd_22 x1 c0 σ s0 (i + 1) = (r1, r2, r3) := hr
  try dsimp only at hn
  rw [e] at hn
  exact hn
set_option maxRecDepth 100000 in
set_option maxHeartbeats 4000000 in
theorem d_C_odd (a1 : Int32) (σ : MSto) (hp : p_C_odd a1 σ) : mW1 P_C_odd (0, [some (mR 12 0), some (mI a1), none, none, none, none, none, none, none, none, none, none], [], σ, 0, 0) (mF [11, 119] [mI (v_C_odd a1 σ)] (e_C_odd a1 σ) 0 0) := by
  refine mW1_eq (q_C_odd_e _ _) ?_
  unfold p_C_odd at hp
  refine mTr_g hp.1 ?_
  have hp := hp.2
  refine mTr_if (fun h0 => ?_) (fun h0 => ?_)
  · skip
    exact mTr_e (by decide) (congrArg (fun z => [mI z]) (Eq.symm (if_pos h0))) (Eq.symm (if_pos h0)) (by decide) (by decide)
  · skip
    have hp := hp h0
    refine mTr_k (lp_C_odd_22 a1 0 σ ((-1), 0, 1) (n_C_odd_22 a1 0 σ ((-1), 0, 1)) hp.1 ?_)
    have hp := hp.2
    refine mW1_eq (q_C_odd_22 _ _ _ _ _ _) ?_
    refine mTr_if (fun h1 => ?_) (fun h1 => ?_)
    · skip
      have hp := hp.1 h1
      refine mTr_g hp ?_
      exact mTr_e (by decide) (congrArg (fun z => [mI z]) (Eq.symm (if_neg h0))) (Eq.symm (if_neg h0)) (by decide) (by decide)
    · skip
      have hp := hp.2 h1
      exact hp.elim








theorem tk_C_odd : ∀ pc i nx tg, T_C_odd pc = some (i, nx, tg) → mOkB prog_1_method_26_code pc i nx tg = true := code_ok (N := 120) (fun k h => by unfold T_C_odd; rw [h]; rfl) (by decide +kernel)
theorem ok_C_odd (l : Launch) : mPOK l "ClothWithMan" prog_1_method_26_code P_C_odd := by
  refine ⟨tk_C_odd, ?_, ?_, ?_, (fun pc i nx tg kd _ h => by cases h), ?_, ?_, fun pc en h => by cases h⟩
  · intro x ci f ty fin h
    exact mLook_all (Q := fun x v => mFOK "ClothWithMan" x v.1 v.2.1 v.2.2.1 v.2.2.2 ∧ (v.2.2.2 = true → pIni P_C_odd = true → (Cond.fieldLink "ClothWithMan" x (((mCl[v.1]?).getD ("", fun _ => ("", "", "", false), 0)).2.1 v.2.1).1 (((mCl[v.1]?).getD ("", fun _ => ("", "", "", false), 0)).2.1 v.2.1).2.1 (((mCl[v.1]?).getD ("", fun _ => ("", "", "", false), 0)).2.1 v.2.1).2.2.1 ∈ lw_tbl ∧ (((mCl[v.1]?).getD ("", fun _ => ("", "", "", false), 0)).2.1 v.2.1).1 = "ClothWithMan"))) (fcC ⟨fo_C_67, fun h1 h2 => by cases h2⟩ fcN) x (ci, f, ty, fin) h
  · intro x
    have hh := mLook_all (l := ([] : List (Nat × (Int32 ⊕ Int64)))) (Q := fun x (v : Int32 ⊕ Int64) => (∀ w, v = .inl w → Cond.constant "ClothWithMan" x w ∈ lw_tbl) ∧ (∀ w, v = .inr w → Cond.constantLong "ClothWithMan" x w ∈ lw_tbl)) fcN x
    exact ⟨fun w h => (hh _ h).1 w rfl, fun w h => (hh _ h).2 w rfl⟩
  · exact fun x en h => mLook_all (Q := fun x en => mLink "ClothWithMan" x en ∧ mCtr l en ∧ (en.1.1 = 2 → en.2.2.2.2.2.2 = none)) (fcC ⟨li_C_217, c_Ro_clear l, (fun h => by cases h)⟩ (fcC ⟨li_C_229, c_C_areCounted l, (fun h => by cases h)⟩ (fcC ⟨li_C_242, c_Ro_addFraction l, (fun h => by cases h)⟩ (fcC ⟨li_C_251, c_C_apartUpper l, (fun h => by cases h)⟩ (fcC ⟨li_C_254, c_C_apartLower l, (fun h => by cases h)⟩ (fcC ⟨li_C_281, c_C_pieceCount l, (fun h => by cases h)⟩ (fcC ⟨li_C_284, c_C_has l, (fun h => by cases h)⟩ (fcC ⟨li_C_288, c_C_without l, (fun h => by cases h)⟩ fcN)))))))) x en h
  · exact fun x kd h => mLook_all (Q := fun x kd => (kd = 95 ∧ Cond.fieldLink "ClothWithMan" x "ClothWithMan" "LIKENESSES" "[I" ∈ lw_tbl) ∨ (kd = 96 ∧ Cond.fieldLink "ClothWithMan" x "ClothWithMan" "APART_BOUNDS" "[I" ∈ lw_tbl)) fcN x kd h
  · exact fun x ci h => mLook_all (Q := fun x ci => ci ≠ 0 ∧ ∃ (C : String) (T : u_T) (N : Nat), mCl[ci]? = some (C, T, N) ∧ Cond.classLink "ClothWithMan" x C ∈ lw_tbl ∧ Cond.instantiable C N ∈ lw_tbl) fcN x ci h
set_option maxRecDepth 100000 in
theorem c_C_odd (l : Launch) : mCtr l E_C_odd := mCtr_of (P := P_C_odd) (own := "ClothWithMan") mLay_ok rfl (by decide +kernel) rfl (ok_C_odd l) (fun h => by cases h) (fun as σ pr rv σ' hF hpr hlv => by
  unfold E_C_odd S_C_odd at hF
  simp only [] at hF
  split at hF
  · cases hF
    obtain ⟨n, pcF, c1, s1, g1, g2, g3, g4⟩ := mF_inv (d_C_odd _ σ (hpr _ rfl))
    exact ⟨Nat.le_of_ble_eq_true rfl, (fun v h => by cases h; trivial), n, pcF, c1, s1, g1, ⟨mEnd_of (i := .ireturn) (P := P_C_odd) (rets := [11, 119]) rfl g2, rfl⟩, g3, g4⟩
  · cases hF
    exact (hpr _ rfl).elim)
/-! ClothWithMan.younger(III)I -/
noncomputable def t_C_younger_45 (x3 : Int32) (x4 : Int32) (x5 : Int32) (c : Int32) (σ : MSto) (s : Unit) : Unit := (if 100 < c then s else (if x3 < (v_C_mixOf x4 x5 c σ) then () else s))
noncomputable def q_C_younger_45s (x3 : Int32) (x4 : Int32) (x5 : Int32) (c : Int32) (σ : MSto) (s : Unit) : Nat := (if 100 < c then 1 else (if x3 < (v_C_mixOf x4 x5 c σ) then 0 else 1))
def g_C_younger_45 (x3 : Int32) (x4 : Int32) (x5 : Int32) (c : Int32) (σ : MSto) (s : Unit) : Prop := True
noncomputable def f_C_younger_45 (x3 : Int32) (x4 : Int32) (x5 : Int32) (c0 : Int32) (σ : MSto) (s0 : Unit) (n : Nat) : Unit := nfold (fun i s => t_C_younger_45 x3 x4 x5 (c0 + nI i) σ s) s0 n
noncomputable def n_C_younger_45 (x3 : Int32) (x4 : Int32) (x5 : Int32) (c0 : Int32) (σ : MSto) (s0 : Unit) : Nat := leastN (fun i => q_C_younger_45s x3 x4 x5 (c0 + nI i) σ (f_C_younger_45 x3 x4 x5 c0 σ s0 i) = 1) 102
noncomputable def v_C_younger (a1 : Int32) (a2 : Int32) (a3 : Int32) (σ : MSto) : Int32 := (if (v_C_isYear a1 σ) = 0 then (-1) else (if (v_C_isYear a2 σ) = 0 then (-1) else (if 100 < (0 + nI (n_C_younger_45 a3 (v_Cu_at a1 σ) (v_Cu_at a2 σ) 0 σ ())) then (-2) else (0 + nI (n_C_younger_45 a3 (v_Cu_at a1 σ) (v_Cu_at a2 σ) 0 σ ())))))
def p_C_younger (a1 : Int32) (a2 : Int32) (a3 : Int32) (σ : MSto) : Prop := (¬ ((v_C_isYear a1 σ) = 0) → (¬ ((v_C_isYear a2 σ) = 0) → ((p_Cu_at a1 σ) ∧ ((p_Cu_at a2 σ) ∧ ((∀ i, i < (n_C_younger_45 a3 (v_Cu_at a1 σ) (v_Cu_at a2 σ) 0 σ ()) → g_C_younger_45 a3 (v_Cu_at a1 σ) (v_Cu_at a2 σ) (0 + nI i) σ (f_C_younger_45 a3 (v_Cu_at a1 σ) (v_Cu_at a2 σ) 0 σ () i) ∧ ¬ q_C_younger_45s a3 (v_Cu_at a1 σ) (v_Cu_at a2 σ) (0 + nI i) σ (f_C_younger_45 a3 (v_Cu_at a1 σ) (v_Cu_at a2 σ) 0 σ () i) = 1) ∧ (¬ (100 < (0 + nI (n_C_younger_45 a3 (v_Cu_at a1 σ) (v_Cu_at a2 σ) 0 σ ()))) → ((a3 < (v_C_mixOf (v_Cu_at a1 σ) (v_Cu_at a2 σ) (0 + nI (n_C_younger_45 a3 (v_Cu_at a1 σ) (v_Cu_at a2 σ) 0 σ ())) σ)) → False)))))))
noncomputable def S_C_younger : List MV → MSto → Option Prop × Option MV × MSto := fun as σ => match as with
  | [.inr (.inr (some (12, 0))), .inl a0, .inl a1, .inl a2] => (some (p_C_younger a0 a1 a2 σ), some (mI (v_C_younger a0 a1 a2 σ)), σ)
  | _ => (some False, none, σ)
noncomputable def E_C_younger : MEnt := ((1, 3, 12), (2, 42, 0, 0), S_C_younger, ((⟨"ClothWithMan", "younger", "(III)I"⟩ : MethodName), prog_1_method_27_code, 7, (some .int)))

def T_C_younger : Nat → Option (Instr × Nat × List Nat) := fun k => bif Nat.blt k 77 then (bif Nat.blt k 37 then (bif Nat.blt k 17 then (bif Nat.blt k 8 then (bif Nat.blt k 4 then (bif Nat.blt k 1 then (bif Nat.beq k 0 then some (.iload_n 1, 1, []) else none) else (bif Nat.beq k 1 then some (.invokestatic 116, 4, []) else none)) else (bif Nat.blt k 7 then (bif Nat.beq k 4 then some (.ifCond .eq 10, 7, [14]) else none) else (bif Nat.beq k 7 then some (.iload_n 2, 8, []) else none))) else (bif Nat.blt k 14 then (bif Nat.blt k 11 then (bif Nat.beq k 8 then some (.invokestatic 116, 11, []) else none) else (bif Nat.beq k 11 then some (.ifCond .ne 5, 14, [16]) else none)) else (bif Nat.blt k 15 then (bif Nat.beq k 14 then some (.iconst (-1), 15, []) else none) else (bif Nat.blt k 16 then (bif Nat.beq k 15 then some (.ireturn, 16, []) else none) else (bif Nat.beq k 16 then some (.aload_n 0, 17, []) else none))))) else (bif Nat.blt k 27 then (bif Nat.blt k 23 then (bif Nat.blt k 20 then (bif Nat.beq k 17 then some (.getfield 19, 20, []) else none) else (bif Nat.beq k 20 then some (.getfield 106, 23, []) else none)) else (bif Nat.blt k 24 then (bif Nat.beq k 23 then some (.iload_n 1, 24, []) else none) else (bif Nat.beq k 24 then some (.invokevirtual 119, 27, []) else none))) else (bif Nat.blt k 30 then (bif Nat.blt k 29 then (bif Nat.beq k 27 then some (.istore 4, 29, []) else none) else (bif Nat.beq k 29 then some (.aload_n 0, 30, []) else none)) else (bif Nat.blt k 33 then (bif Nat.beq k 30 then some (.getfield 19, 33, []) else none) else (bif Nat.blt k 36 then (bif Nat.beq k 33 then some (.getfield 106, 36, []) else none) else (bif Nat.beq k 36 then some (.iload_n 2, 37, []) else none)))))) else (bif Nat.blt k 56 then (bif Nat.blt k 45 then (bif Nat.blt k 42 then (bif Nat.blt k 40 then (bif Nat.beq k 37 then some (.invokevirtual 119, 40, []) else none) else (bif Nat.beq k 40 then some (.istore 5, 42, []) else none)) else (bif Nat.blt k 43 then (bif Nat.beq k 42 then some (.iconst 0, 43, []) else none) else (bif Nat.beq k 43 then some (.istore 6, 45, []) else none))) else (bif Nat.blt k 49 then (bif Nat.blt k 47 then (bif Nat.beq k 45 then some (.iload 6, 47, []) else none) else (bif Nat.beq k 47 then some (.bipush 100, 49, []) else none)) else (bif Nat.blt k 52 then (bif Nat.beq k 49 then some (.if_icmp .gt 25, 52, [74]) else none) else (bif Nat.blt k 54 then (bif Nat.beq k 52 then some (.iload 4, 54, []) else none) else (bif Nat.beq k 54 then some (.iload 5, 56, []) else none))))) else (bif Nat.blt k 67 then (bif Nat.blt k 61 then (bif Nat.blt k 58 then (bif Nat.beq k 56 then some (.iload 6, 58, []) else none) else (bif Nat.beq k 58 then some (.invokestatic 291, 61, []) else none)) else (bif Nat.blt k 62 then (bif Nat.beq k 61 then some (.iload_n 3, 62, []) else none) else (bif Nat.blt k 65 then (bif Nat.beq k 62 then some (.if_icmp .gt 6, 65, [68]) else none) else (bif Nat.beq k 65 then some (.iload 6, 67, []) else none)))) else (bif Nat.blt k 71 then (bif Nat.blt k 68 then (bif Nat.beq k 67 then some (.ireturn, 68, []) else none) else (bif Nat.beq k 68 then some (.iinc 6 1, 71, []) else none)) else (bif Nat.blt k 74 then (bif Nat.beq k 71 then some (.goto (-26), 74, [45]) else none) else (bif Nat.blt k 76 then (bif Nat.beq k 74 then some (.bipush (-2), 76, []) else none) else (bif Nat.beq k 76 then some (.ireturn, 77, []) else none))))))) else none
noncomputable def P_C_younger : MP := (T_C_younger, (fun k => mLook k [(19, (12, 1, (.object "ClothWithMan$Cloth"), true)), (106, (1, 0, (.object "ClothWithMan$Curve"), true))]), (fun k => mLook k []), (fun k => mLook k [(116, E_C_isYear), (119, E_Cu_at), (291, E_C_mixOf)]), (fun k => mLook k []), (fun k => mLook k []), (fun k => mLook k []), (fun k => mLook k [(45, [false, false, false, true, true, true, true])]), (fun k => [15, 67, 76].any (Nat.beq k)), (2, 42, 0, 0), false, (fun _ => none))
set_option maxRecDepth 100000 in
set_option maxHeartbeats 4000000 in
theorem q_C_younger_e (a1 : Int32) (a2 : Int32) (a3 : Int32) (σ : MSto) (n : Nat) : mexe KT P_C_younger (n + 1) (0, [some (mR 12 0), some (mI a1), some (mI a2), some (mI a3), none, none, none], [], σ, 0, 0) = mIf ((v_C_isYear a1 σ) = 0) (some (15, [], [(mI (-1))], σ, 0, 0)) (mIf ((v_C_isYear a2 σ) = 0) (some (15, [], [(mI (-1))], σ, 0, 0)) (mG (p_Cu_at a1 σ) (mG (p_Cu_at a2 σ) (mexe KT P_C_younger n (45, [none, none, none, some (mI a3), some (mI (v_Cu_at a1 σ)), some (mI (v_Cu_at a2 σ)), some (mI 0)], [], σ, 0, 0))))) := rfl
set_option maxRecDepth 100000 in
set_option maxHeartbeats 4000000 in
theorem q_C_younger_45 (x3 : Int32) (x4 : Int32) (x5 : Int32) (x6 : Int32) (σ : MSto) (n : Nat) : mexe KT P_C_younger (n + 1) (45, [none, none, none, some (mI x3), some (mI x4), some (mI x5), some (mI x6)], [], σ, 0, 0) = mIf (100 < x6) (some (76, [], [(mI (-2))], σ, 0, 0)) (mIf (x3 < (v_C_mixOf x4 x5 x6 σ)) (mexe KT P_C_younger n (45, [none, none, none, some (mI x3), some (mI x4), some (mI x5), some (mI (x6 + 1))], [], σ, 0, 0)) (some (67, [], [(mI x6)], σ, 0, 0))) := rfl
set_option maxRecDepth 100000 in
theorem lt_C_younger_45 {Post : MST → Prop} (x3 : Int32) (x4 : Int32) (x5 : Int32) (c : Int32) (σ : MSto) (s : Unit) (hp : g_C_younger_45 x3 x4 x5 c σ s) (hq : ¬ q_C_younger_45s x3 x4 x5 c σ s = 1) (hn : ∀ r, t_C_younger_45 x3 x4 x5 c σ s = r → mW1 P_C_younger (45, [none, none, none, some (mI x3), some (mI x4), some (mI x5), some (mI (c + 1))], [], σ, 0, 0) Post) : mW1 P_C_younger (45, [none, none, none, some (mI x3), some (mI x4), some (mI x5), some (mI c)], [], σ, 0, 0) Post := by
  unfold g_C_younger_45 at hp
  refine mW1_eq (q_C_younger_45 _ _ _ _ _) ?_
  refine mTr_if (fun h0 => ?_) (fun h0 => ?_)
  · skip
    exact absurd (if_pos h0) hq
  · skip
    refine mTr_if (fun h1 => ?_) (fun h1 => ?_)
    · skip
      exact mTr_k (hn () ((if_neg h0).trans (if_pos h1)))
    · skip
      exact absurd ((if_neg h0).trans (if_neg h1)) hq
theorem lp_C_younger_45 {Post : MST → Prop} (x3 : Int32) (x4 : Int32) (x5 : Int32) (c0 : Int32) (σ : MSto) (s0 : Unit) (N : Nat) (hb : ∀ i, i < N → g_C_younger_45 x3 x4 x5 (c0 + nI i) σ (f_C_younger_45 x3 x4 x5 c0 σ s0 i) ∧ ¬ q_C_younger_45s x3 x4 x5 (c0 + nI i) σ (f_C_younger_45 x3 x4 x5 c0 σ s0 i) = 1) (h : mW1 P_C_younger (45, [none, none, none, some (mI x3), some (mI x4), some (mI x5), some (mI (c0 + nI N))], [], σ, 0, 0) Post) : mW1 P_C_younger (45, [none, none, none, some (mI x3), some (mI x4), some (mI x5), some (mI c0)], [], σ, 0, 0) Post := by
  refine mW1_st (mW1_loop (fun i => (45, [none, none, none, some (mI x3), some (mI x4), some (mI x5), some (mI (c0 + nI i))], [], σ, 0, 0)) N (fun i hlt hn => ?_) h) (by rw [show nI 0 = 0 from rfl, Int32.add_zero] <;> rfl)
  refine lt_C_younger_45 x3 x4 x5 _ σ _ (hb i hlt).1 (hb i hlt).2 (fun r hr => ?_)
  rw [Int32.add_assoc, nI_s]
  subst hr
  exact hn
set_option maxRecDepth 100000 in
set_option maxHeartbeats 4000000 in
theorem d_C_younger (a1 : Int32) (a2 : Int32) (a3 : Int32) (σ : MSto) (hp : p_C_younger a1 a2 a3 σ) : mW1 P_C_younger (0, [some (mR 12 0), some (mI a1), some (mI a2), some (mI a3), none, none, none], [], σ, 0, 0) (mF [15, 67, 76] [mI (v_C_younger a1 a2 a3 σ)] σ 0 0) := by
  refine mW1_eq (q_C_younger_e _ _ _ _) ?_
  unfold p_C_younger at hp
  refine mTr_if (fun h0 => ?_) (fun h0 => ?_)
  · skip
    exact mTr_e (by decide) (congrArg (fun z => [mI z]) (Eq.symm (if_pos h0))) rfl (by decide) (by decide)
  · skip
    have hp := hp h0
    refine mTr_if (fun h1 => ?_) (fun h1 => ?_)
    · skip
      exact mTr_e (by decide) (congrArg (fun z => [mI z]) (Eq.symm ((if_neg h0).trans (if_pos h1)))) rfl (by decide) (by decide)
    · skip
      have hp := hp h1
      refine mTr_g hp.1 ?_
      have hp := hp.2
      refine mTr_g hp.1 ?_
      have hp := hp.2
      refine mTr_k (lp_C_younger_45 a3 (v_Cu_at a1 σ) (v_Cu_at a2 σ) 0 σ () (n_C_younger_45 a3 (v_Cu_at a1 σ) (v_Cu_at a2 σ) 0 σ ()) hp.1 ?_)
      have hp := hp.2
      refine mW1_eq (q_C_younger_45 _ _ _ _ _) ?_
      refine mTr_if (fun h2 => ?_) (fun h2 => ?_)
      · skip
        exact mTr_e (by decide) (congrArg (fun z => [mI z]) (Eq.symm ((if_neg h0).trans ((if_neg h1).trans (if_pos h2))))) rfl (by decide) (by decide)
      · skip
        have hp := hp h2
        refine mTr_if (fun h3 => ?_) (fun h3 => ?_)
        · skip
          have hp := hp h3
          exact hp.elim
        · skip
          exact mTr_e (by decide) (congrArg (fun z => [mI z]) (Eq.symm ((if_neg h0).trans ((if_neg h1).trans (if_neg h2))))) rfl (by decide) (by decide)



theorem tk_C_younger : ∀ pc i nx tg, T_C_younger pc = some (i, nx, tg) → mOkB prog_1_method_27_code pc i nx tg = true := code_ok (N := 77) (fun k h => by unfold T_C_younger; rw [h]; rfl) (by decide +kernel)
theorem ok_C_younger (l : Launch) : mPOK l "ClothWithMan" prog_1_method_27_code P_C_younger := by
  refine ⟨tk_C_younger, ?_, ?_, ?_, (fun pc i nx tg kd _ h => by cases h), ?_, ?_, fun pc en h => by cases h⟩
  · intro x ci f ty fin h
    exact mLook_all (Q := fun x v => mFOK "ClothWithMan" x v.1 v.2.1 v.2.2.1 v.2.2.2 ∧ (v.2.2.2 = true → pIni P_C_younger = true → (Cond.fieldLink "ClothWithMan" x (((mCl[v.1]?).getD ("", fun _ => ("", "", "", false), 0)).2.1 v.2.1).1 (((mCl[v.1]?).getD ("", fun _ => ("", "", "", false), 0)).2.1 v.2.1).2.1 (((mCl[v.1]?).getD ("", fun _ => ("", "", "", false), 0)).2.1 v.2.1).2.2.1 ∈ lw_tbl ∧ (((mCl[v.1]?).getD ("", fun _ => ("", "", "", false), 0)).2.1 v.2.1).1 = "ClothWithMan"))) (fcC ⟨fo_C_19, fun h1 h2 => by cases h2⟩ (fcC ⟨fo_C_106, fun h1 h2 => by cases h2⟩ fcN)) x (ci, f, ty, fin) h
  · intro x
    have hh := mLook_all (l := ([] : List (Nat × (Int32 ⊕ Int64)))) (Q := fun x (v : Int32 ⊕ Int64) => (∀ w, v = .inl w → Cond.constant "ClothWithMan" x w ∈ lw_tbl) ∧ (∀ w, v = .inr w → Cond.constantLong "ClothWithMan" x w ∈ lw_tbl)) fcN x
    exact ⟨fun w h => (hh _ h).1 w rfl, fun w h => (hh _ h).2 w rfl⟩
  · exact fun x en h => mLook_all (Q := fun x en => mLink "ClothWithMan" x en ∧ mCtr l en ∧ (en.1.1 = 2 → en.2.2.2.2.2.2 = none)) (fcC ⟨li_C_116, c_C_isYear l, (fun h => by cases h)⟩ (fcC ⟨li_C_119, c_Cu_at l, (fun h => by cases h)⟩ (fcC ⟨li_C_291, c_C_mixOf l, (fun h => by cases h)⟩ fcN))) x en h
  · exact fun x kd h => mLook_all (Q := fun x kd => (kd = 95 ∧ Cond.fieldLink "ClothWithMan" x "ClothWithMan" "LIKENESSES" "[I" ∈ lw_tbl) ∨ (kd = 96 ∧ Cond.fieldLink "ClothWithMan" x "ClothWithMan" "APART_BOUNDS" "[I" ∈ lw_tbl)) fcN x kd h
  · exact fun x ci h => mLook_all (Q := fun x ci => ci ≠ 0 ∧ ∃ (C : String) (T : u_T) (N : Nat), mCl[ci]? = some (C, T, N) ∧ Cond.classLink "ClothWithMan" x C ∈ lw_tbl ∧ Cond.instantiable C N ∈ lw_tbl) fcN x ci h
set_option maxRecDepth 100000 in
theorem c_C_younger (l : Launch) : mCtr l E_C_younger := mCtr_of (P := P_C_younger) (own := "ClothWithMan") mLay_ok rfl (by decide +kernel) rfl (ok_C_younger l) (fun h => by cases h) (fun as σ pr rv σ' hF hpr hlv => by
  unfold E_C_younger S_C_younger at hF
  simp only [] at hF
  split at hF
  · cases hF
    obtain ⟨n, pcF, c1, s1, g1, g2, g3, g4⟩ := mF_inv (d_C_younger _ _ _ σ (hpr _ rfl))
    exact ⟨Nat.le_of_ble_eq_true rfl, (fun v h => by cases h; trivial), n, pcF, c1, s1, g1, ⟨mEnd_of (i := .ireturn) (P := P_C_younger) (rets := [15, 67, 76]) rfl g2, rfl⟩, g3, g4⟩
  · cases hF
    exact (hpr _ rfl).elim)
/-! ClothWithMan.must(III)I -/
noncomputable def t_C_must_63 (x2 : Int32) (x3 : Int32) (x4 : Int32) (c : Int32) (σ : MSto) (s : Int32 × Int64) : Int32 × Int64 := (if 200 ≤ c then s else (if 0 ≤ (lg_cmp (v_C_gap (Int32.toInt64 (v_C_mixOf (v_Cu_at c σ) x4 x2 σ)) (Int32.toInt64 x3) σ) (s.2)) then ((s.1), (s.2)) else (c, (v_C_gap (Int32.toInt64 (v_C_mixOf (v_Cu_at c σ) x4 x2 σ)) (Int32.toInt64 x3) σ))))
noncomputable def q_C_must_63s (x2 : Int32) (x3 : Int32) (x4 : Int32) (c : Int32) (σ : MSto) (s : Int32 × Int64) : Nat := (if 200 ≤ c then 1 else 0)
def g_C_must_63 (x2 : Int32) (x3 : Int32) (x4 : Int32) (c : Int32) (σ : MSto) (s : Int32 × Int64) : Prop := (¬ (200 ≤ c) → (p_Cu_at c σ))
noncomputable def f_C_must_63 (x2 : Int32) (x3 : Int32) (x4 : Int32) (c0 : Int32) (σ : MSto) (s0 : Int32 × Int64) (n : Nat) : Int32 × Int64 := nfold (fun i s => t_C_must_63 x2 x3 x4 (c0 + nI i) σ s) s0 n
noncomputable def n_C_must_63 (x2 : Int32) (x3 : Int32) (x4 : Int32) (c0 : Int32) (σ : MSto) (s0 : Int32 × Int64) : Nat := 199
noncomputable def v_C_must (a1 : Int32) (a2 : Int32) (a3 : Int32) (σ : MSto) : Int32 := (if (v_C_isYear a1 σ) = 0 then (-1) else (if (v_C_isIn a2 0 100 σ) = 0 then (-1) else ((f_C_must_63 a2 a3 (v_Cu_at a1 σ) 1 σ (0, (v_C_gap (Int32.toInt64 (v_C_mixOf (v_Cu_at 0 σ) (v_Cu_at a1 σ) a2 σ)) (Int32.toInt64 a3) σ)) (n_C_must_63 a2 a3 (v_Cu_at a1 σ) 1 σ (0, (v_C_gap (Int32.toInt64 (v_C_mixOf (v_Cu_at 0 σ) (v_Cu_at a1 σ) a2 σ)) (Int32.toInt64 a3) σ)))).1)))
def p_C_must (a1 : Int32) (a2 : Int32) (a3 : Int32) (σ : MSto) : Prop := (¬ ((v_C_isYear a1 σ) = 0) → (¬ ((v_C_isIn a2 0 100 σ) = 0) → ((p_Cu_at a1 σ) ∧ ((p_Cu_at 0 σ) ∧ ((∀ i, i < (n_C_must_63 a2 a3 (v_Cu_at a1 σ) 1 σ (0, (v_C_gap (Int32.toInt64 (v_C_mixOf (v_Cu_at 0 σ) (v_Cu_at a1 σ) a2 σ)) (Int32.toInt64 a3) σ))) → g_C_must_63 a2 a3 (v_Cu_at a1 σ) (1 + nI i) σ (f_C_must_63 a2 a3 (v_Cu_at a1 σ) 1 σ (0, (v_C_gap (Int32.toInt64 (v_C_mixOf (v_Cu_at 0 σ) (v_Cu_at a1 σ) a2 σ)) (Int32.toInt64 a3) σ)) i) ∧ ¬ q_C_must_63s a2 a3 (v_Cu_at a1 σ) (1 + nI i) σ (f_C_must_63 a2 a3 (v_Cu_at a1 σ) 1 σ (0, (v_C_gap (Int32.toInt64 (v_C_mixOf (v_Cu_at 0 σ) (v_Cu_at a1 σ) a2 σ)) (Int32.toInt64 a3) σ)) i) = 1) ∧ (((200 ≤ (1 + nI (n_C_must_63 a2 a3 (v_Cu_at a1 σ) 1 σ (0, (v_C_gap (Int32.toInt64 (v_C_mixOf (v_Cu_at 0 σ) (v_Cu_at a1 σ) a2 σ)) (Int32.toInt64 a3) σ))))) → (p_Ro_add ((f_C_must_63 a2 a3 (v_Cu_at a1 σ) 1 σ (0, (v_C_gap (Int32.toInt64 (v_C_mixOf (v_Cu_at 0 σ) (v_Cu_at a1 σ) a2 σ)) (Int32.toInt64 a3) σ)) (n_C_must_63 a2 a3 (v_Cu_at a1 σ) 1 σ (0, (v_C_gap (Int32.toInt64 (v_C_mixOf (v_Cu_at 0 σ) (v_Cu_at a1 σ) a2 σ)) (Int32.toInt64 a3) σ)))).2) (e_Ro_clear σ))) ∧ (¬ (200 ≤ (1 + nI (n_C_must_63 a2 a3 (v_Cu_at a1 σ) 1 σ (0, (v_C_gap (Int32.toInt64 (v_C_mixOf (v_Cu_at 0 σ) (v_Cu_at a1 σ) a2 σ)) (Int32.toInt64 a3) σ))))) → False)))))))
noncomputable def e_C_must (a1 : Int32) (a2 : Int32) (a3 : Int32) (σ : MSto) : MSto := (if (v_C_isYear a1 σ) = 0 then σ else (if (v_C_isIn a2 0 100 σ) = 0 then σ else (e_Ro_add ((f_C_must_63 a2 a3 (v_Cu_at a1 σ) 1 σ (0, (v_C_gap (Int32.toInt64 (v_C_mixOf (v_Cu_at 0 σ) (v_Cu_at a1 σ) a2 σ)) (Int32.toInt64 a3) σ)) (n_C_must_63 a2 a3 (v_Cu_at a1 σ) 1 σ (0, (v_C_gap (Int32.toInt64 (v_C_mixOf (v_Cu_at 0 σ) (v_Cu_at a1 σ) a2 σ)) (Int32.toInt64 a3) σ)))).2) (e_Ro_clear σ))))
noncomputable def S_C_must : List MV → MSto → Option Prop × Option MV × MSto := fun as σ => match as with
  | [.inr (.inr (some (12, 0))), .inl a0, .inl a1, .inl a2] => (some (p_C_must a0 a1 a2 σ), some (mI (v_C_must a0 a1 a2 σ)), e_C_must a0 a1 a2 σ)
  | _ => (some False, none, σ)
noncomputable def E_C_must : MEnt := ((1, 3, 12), (2, 44, 0, 0), S_C_must, ((⟨"ClothWithMan", "must", "(III)I"⟩ : MethodName), prog_1_method_28_code, 11, (some .int)))

def T_C_must : Nat → Option (Instr × Nat × List Nat) := fun k => bif Nat.blt k 138 then (bif Nat.blt k 65 then (bif Nat.blt k 33 then (bif Nat.blt k 17 then (bif Nat.blt k 8 then (bif Nat.blt k 4 then (bif Nat.blt k 1 then (bif Nat.beq k 0 then some (.iload_n 1, 1, []) else none) else (bif Nat.beq k 1 then some (.invokestatic 116, 4, []) else none)) else (bif Nat.blt k 7 then (bif Nat.beq k 4 then some (.ifCond .eq 13, 7, [17]) else none) else (bif Nat.beq k 7 then some (.iload_n 2, 8, []) else none))) else (bif Nat.blt k 11 then (bif Nat.blt k 9 then (bif Nat.beq k 8 then some (.iconst 0, 9, []) else none) else (bif Nat.beq k 9 then some (.bipush 100, 11, []) else none)) else (bif Nat.blt k 14 then (bif Nat.beq k 11 then some (.invokestatic 145, 14, []) else none) else (bif Nat.beq k 14 then some (.ifCond .ne 5, 17, [19]) else none)))) else (bif Nat.blt k 23 then (bif Nat.blt k 19 then (bif Nat.blt k 18 then (bif Nat.beq k 17 then some (.iconst (-1), 18, []) else none) else (bif Nat.beq k 18 then some (.ireturn, 19, []) else none)) else (bif Nat.blt k 20 then (bif Nat.beq k 19 then some (.aload_n 0, 20, []) else none) else (bif Nat.beq k 20 then some (.getfield 19, 23, []) else none))) else (bif Nat.blt k 27 then (bif Nat.blt k 26 then (bif Nat.beq k 23 then some (.getfield 106, 26, []) else none) else (bif Nat.beq k 26 then some (.iload_n 1, 27, []) else none)) else (bif Nat.blt k 30 then (bif Nat.beq k 27 then some (.invokevirtual 119, 30, []) else none) else (bif Nat.blt k 32 then (bif Nat.beq k 30 then some (.istore 4, 32, []) else none) else (bif Nat.beq k 32 then some (.iconst 0, 33, []) else none)))))) else (bif Nat.blt k 49 then (bif Nat.blt k 42 then (bif Nat.blt k 36 then (bif Nat.blt k 35 then (bif Nat.beq k 33 then some (.istore 5, 35, []) else none) else (bif Nat.beq k 35 then some (.aload_n 0, 36, []) else none)) else (bif Nat.blt k 39 then (bif Nat.beq k 36 then some (.getfield 19, 39, []) else none) else (bif Nat.beq k 39 then some (.getfield 106, 42, []) else none))) else (bif Nat.blt k 46 then (bif Nat.blt k 43 then (bif Nat.beq k 42 then some (.iconst 0, 43, []) else none) else (bif Nat.beq k 43 then some (.invokevirtual 119, 46, []) else none)) else (bif Nat.blt k 48 then (bif Nat.beq k 46 then some (.iload 4, 48, []) else none) else (bif Nat.beq k 48 then some (.iload_n 2, 49, []) else none)))) else (bif Nat.blt k 55 then (bif Nat.blt k 53 then (bif Nat.blt k 52 then (bif Nat.beq k 49 then some (.invokestatic 291, 52, []) else none) else (bif Nat.beq k 52 then some (.i2l, 53, []) else none)) else (bif Nat.blt k 54 then (bif Nat.beq k 53 then some (.iload_n 3, 54, []) else none) else (bif Nat.beq k 54 then some (.i2l, 55, []) else none))) else (bif Nat.blt k 60 then (bif Nat.blt k 58 then (bif Nat.beq k 55 then some (.invokestatic 213, 58, []) else none) else (bif Nat.beq k 58 then some (.lstore 6, 60, []) else none)) else (bif Nat.blt k 61 then (bif Nat.beq k 60 then some (.iconst 1, 61, []) else none) else (bif Nat.blt k 63 then (bif Nat.beq k 61 then some (.istore 8, 63, []) else none) else (bif Nat.beq k 63 then some (.iload 8, 65, []) else none))))))) else (bif Nat.blt k 101 then (bif Nat.blt k 85 then (bif Nat.blt k 75 then (bif Nat.blt k 71 then (bif Nat.blt k 68 then (bif Nat.beq k 65 then some (.sipush 200, 68, []) else none) else (bif Nat.beq k 68 then some (.if_icmp .ge 51, 71, [119]) else none)) else (bif Nat.blt k 72 then (bif Nat.beq k 71 then some (.aload_n 0, 72, []) else none) else (bif Nat.beq k 72 then some (.getfield 19, 75, []) else none))) else (bif Nat.blt k 80 then (bif Nat.blt k 78 then (bif Nat.beq k 75 then some (.getfield 106, 78, []) else none) else (bif Nat.beq k 78 then some (.iload 8, 80, []) else none)) else (bif Nat.blt k 83 then (bif Nat.beq k 80 then some (.invokevirtual 119, 83, []) else none) else (bif Nat.beq k 83 then some (.iload 4, 85, []) else none)))) else (bif Nat.blt k 91 then (bif Nat.blt k 89 then (bif Nat.blt k 86 then (bif Nat.beq k 85 then some (.iload_n 2, 86, []) else none) else (bif Nat.beq k 86 then some (.invokestatic 291, 89, []) else none)) else (bif Nat.blt k 90 then (bif Nat.beq k 89 then some (.i2l, 90, []) else none) else (bif Nat.beq k 90 then some (.iload_n 3, 91, []) else none))) else (bif Nat.blt k 95 then (bif Nat.blt k 92 then (bif Nat.beq k 91 then some (.i2l, 92, []) else none) else (bif Nat.beq k 92 then some (.invokestatic 213, 95, []) else none)) else (bif Nat.blt k 97 then (bif Nat.beq k 95 then some (.lstore 9, 97, []) else none) else (bif Nat.blt k 99 then (bif Nat.beq k 97 then some (.lload 9, 99, []) else none) else (bif Nat.beq k 99 then some (.lload 6, 101, []) else none)))))) else (bif Nat.blt k 119 then (bif Nat.blt k 109 then (bif Nat.blt k 105 then (bif Nat.blt k 102 then (bif Nat.beq k 101 then some (.lcmp, 102, []) else none) else (bif Nat.beq k 102 then some (.ifCond .ge 11, 105, [113]) else none)) else (bif Nat.blt k 107 then (bif Nat.beq k 105 then some (.iload 8, 107, []) else none) else (bif Nat.beq k 107 then some (.istore 5, 109, []) else none))) else (bif Nat.blt k 113 then (bif Nat.blt k 111 then (bif Nat.beq k 109 then some (.lload 9, 111, []) else none) else (bif Nat.beq k 111 then some (.lstore 6, 113, []) else none)) else (bif Nat.blt k 116 then (bif Nat.beq k 113 then some (.iinc 8 1, 116, []) else none) else (bif Nat.beq k 116 then some (.goto (-53), 119, [63]) else none)))) else (bif Nat.blt k 127 then (bif Nat.blt k 123 then (bif Nat.blt k 120 then (bif Nat.beq k 119 then some (.aload_n 0, 120, []) else none) else (bif Nat.beq k 120 then some (.getfield 67, 123, []) else none)) else (bif Nat.blt k 126 then (bif Nat.beq k 123 then some (.invokevirtual 217, 126, []) else none) else (bif Nat.beq k 126 then some (.aload_n 0, 127, []) else none))) else (bif Nat.blt k 132 then (bif Nat.blt k 130 then (bif Nat.beq k 127 then some (.getfield 67, 130, []) else none) else (bif Nat.beq k 130 then some (.lload 6, 132, []) else none)) else (bif Nat.blt k 135 then (bif Nat.beq k 132 then some (.invokevirtual 223, 135, []) else none) else (bif Nat.blt k 137 then (bif Nat.beq k 135 then some (.iload 5, 137, []) else none) else (bif Nat.beq k 137 then some (.ireturn, 138, []) else none)))))))) else none
noncomputable def P_C_must : MP := (T_C_must, (fun k => mLook k [(19, (12, 1, (.object "ClothWithMan$Cloth"), true)), (67, (12, 11, (.object "ClothWithMan$Row"), true)), (106, (1, 0, (.object "ClothWithMan$Curve"), true))]), (fun k => mLook k []), (fun k => mLook k [(116, E_C_isYear), (119, E_Cu_at), (145, E_C_isIn), (213, E_C_gap), (217, E_Ro_clear), (223, E_Ro_add), (291, E_C_mixOf)]), (fun k => mLook k []), (fun k => mLook k []), (fun k => mLook k []), (fun k => mLook k [(63, [true, false, true, true, true, true, true, false, true, false, false])]), (fun k => [18, 137].any (Nat.beq k)), (2, 44, 0, 0), false, (fun _ => none))
set_option maxRecDepth 100000 in
set_option maxHeartbeats 4000000 in
theorem q_C_must_e (a1 : Int32) (a2 : Int32) (a3 : Int32) (σ : MSto) (n : Nat) : mexe KT P_C_must (n + 1) (0, [some (mR 12 0), some (mI a1), some (mI a2), some (mI a3), none, none, none, none, none, none, none], [], σ, 0, 0) = mIf ((v_C_isYear a1 σ) = 0) (some (18, [], [(mI (-1))], σ, 0, 0)) (mIf ((v_C_isIn a2 0 100 σ) = 0) (some (18, [], [(mI (-1))], σ, 0, 0)) (mG (p_Cu_at a1 σ) (mG (p_Cu_at 0 σ) (mexe KT P_C_must n (63, [some (mR 12 0), none, some (mI a2), some (mI a3), some (mI (v_Cu_at a1 σ)), some (mI 0), some (mJ (v_C_gap (Int32.toInt64 (v_C_mixOf (v_Cu_at 0 σ) (v_Cu_at a1 σ) a2 σ)) (Int32.toInt64 a3) σ)), none, some (mI 1), none, none], [], σ, 0, 0))))) := rfl
set_option maxRecDepth 100000 in
set_option maxHeartbeats 4000000 in
theorem q_C_must_63 (x2 : Int32) (x3 : Int32) (x4 : Int32) (x5 : Int32) (x6 : Int64) (x8 : Int32) (σ : MSto) (n : Nat) : mexe KT P_C_must (n + 1) (63, [some (mR 12 0), none, some (mI x2), some (mI x3), some (mI x4), some (mI x5), some (mJ x6), none, some (mI x8), none, none], [], σ, 0, 0) = mIf (200 ≤ x8) (mG (p_Ro_add x6 (e_Ro_clear σ)) (some (137, [], [(mI x5)], (e_Ro_add x6 (e_Ro_clear σ)), 0, 0))) (mG (p_Cu_at x8 σ) (mIf (0 ≤ (lg_cmp (v_C_gap (Int32.toInt64 (v_C_mixOf (v_Cu_at x8 σ) x4 x2 σ)) (Int32.toInt64 x3) σ) x6)) (mexe KT P_C_must n (63, [some (mR 12 0), none, some (mI x2), some (mI x3), some (mI x4), some (mI x5), some (mJ x6), none, some (mI (x8 + 1)), none, none], [], σ, 0, 0)) (mexe KT P_C_must n (63, [some (mR 12 0), none, some (mI x2), some (mI x3), some (mI x4), some (mI x8), some (mJ (v_C_gap (Int32.toInt64 (v_C_mixOf (v_Cu_at x8 σ) x4 x2 σ)) (Int32.toInt64 x3) σ)), none, some (mI (x8 + 1)), none, none], [], σ, 0, 0)))) := rfl
set_option maxRecDepth 100000 in
theorem lt_C_must_63 {Post : MST → Prop} (x2 : Int32) (x3 : Int32) (x4 : Int32) (c : Int32) (σ : MSto) (s : Int32 × Int64) (hp : g_C_must_63 x2 x3 x4 c σ s) (hq : ¬ q_C_must_63s x2 x3 x4 c σ s = 1) (hn : ∀ (r1 : Int32) (r2 : Int64), t_C_must_63 x2 x3 x4 c σ s = (r1, r2) → mW1 P_C_must (63, [some (mR 12 0), none, some (mI x2), some (mI x3), some (mI x4), some (mI r1), some (mJ r2), none, some (mI (c + 1)), none, none], [], σ, 0, 0) Post) : mW1 P_C_must (63, [some (mR 12 0), none, some (mI x2), some (mI x3), some (mI x4), some (mI (s.1)), some (mJ (s.2)), none, some (mI c), none, none], [], σ, 0, 0) Post := by
  unfold g_C_must_63 at hp
  refine mW1_eq (q_C_must_63 _ _ _ _ _ _ _) ?_
  refine mTr_if (fun h0 => ?_) (fun h0 => ?_)
  · skip
    exact absurd (if_pos h0) hq
  · skip
    have hp := hp h0
    refine mTr_g hp ?_
    refine mTr_if (fun h1 => ?_) (fun h1 => ?_)
    · skip
      exact mTr_k (hn (s.1) (s.2) ((if_neg h0).trans (if_pos h1)))
    · skip
      exact mTr_k (hn c (v_C_gap (Int32.toInt64 (v_C_mixOf (v_Cu_at c σ) x4 x2 σ)) (Int32.toInt64 x3) σ) ((if_neg h0).trans (if_neg h1)))
theorem lp_C_must_63 {Post : MST → Prop} (x2 : Int32) (x3 : Int32) (x4 : Int32) (c0 : Int32) (σ : MSto) (s0 : Int32 × Int64) (N : Nat) (hb : ∀ i, i < N → g_C_must_63 x2 x3 x4 (c0 + nI i) σ (f_C_must_63 x2 x3 x4 c0 σ s0 i) ∧ ¬ q_C_must_63s x2 x3 x4 (c0 + nI i) σ (f_C_must_63 x2 x3 x4 c0 σ s0 i) = 1) (h : mW1 P_C_must (63, [some (mR 12 0), none, some (mI x2), some (mI x3), some (mI x4), some (mI ((f_C_must_63 x2 x3 x4 c0 σ s0 N).1)), some (mJ ((f_C_must_63 x2 x3 x4 c0 σ s0 N).2)), none, some (mI (c0 + nI N)), none, none], [], σ, 0, 0) Post) : mW1 P_C_must (63, [some (mR 12 0), none, some (mI x2), some (mI x3), some (mI x4), some (mI (s0.1)), some (mJ (s0.2)), none, some (mI c0), none, none], [], σ, 0, 0) Post := by
  refine mW1_st (mW1_loop (fun i => (63, [some (mR 12 0), none, some (mI x2), some (mI x3), some (mI x4), some (mI ((f_C_must_63 x2 x3 x4 c0 σ s0 i).1)), some (mJ ((f_C_must_63 x2 x3 x4 c0 σ s0 i).2)), none, some (mI (c0 + nI i)), none, none], [], σ, 0, 0)) N (fun i hlt hn => ?_) h) (by rw [show nI 0 = 0 from rfl, Int32.add_zero] <;> rfl)
  refine lt_C_must_63 x2 x3 x4 _ σ _ (hb i hlt).1 (hb i hlt).2 (fun r1 r2 hr => ?_)
  rw [Int32.add_assoc, nI_s]
  have e : f_C_must_63 x2 x3 x4 c0 σ s0 (i + 1) = (r1, r2) := hr
  try dsimp only at hn
  rw [e] at hn
  exact hn
set_option maxRecDepth 100000 in
set_option maxHeartbeats 4000000 in
theorem d_C_must (a1 : Int32) (a2 : Int32) (a3 : Int32) (σ : MSto) (hp : p_C_must a1 a2 a3 σ) : mW1 P_C_must (0, [some (mR 12 0), some (mI a1), some (mI a2), some (mI a3), none, none, none, none, none, none, none], [], σ, 0, 0) (mF [18, 137] [mI (v_C_must a1 a2 a3 σ)] (e_C_must a1 a2 a3 σ) 0 0) := by
  refine mW1_eq (q_C_must_e _ _ _ _) ?_
  unfold p_C_must at hp
  refine mTr_if (fun h0 => ?_) (fun h0 => ?_)
  · skip
    exact mTr_e (by decide) (congrArg (fun z => [mI z]) (Eq.symm (if_pos h0))) (Eq.symm (if_pos h0)) (by decide) (by decide)
  · skip
    have hp := hp h0
    refine mTr_if (fun h1 => ?_) (fun h1 => ?_)
    · skip
      exact mTr_e (by decide) (congrArg (fun z => [mI z]) (Eq.symm ((if_neg h0).trans (if_pos h1)))) (Eq.symm ((if_neg h0).trans (if_pos h1))) (by decide) (by decide)
    · skip
      have hp := hp h1
      refine mTr_g hp.1 ?_
      have hp := hp.2
      refine mTr_g hp.1 ?_
      have hp := hp.2
      refine mTr_k (lp_C_must_63 a2 a3 (v_Cu_at a1 σ) 1 σ (0, (v_C_gap (Int32.toInt64 (v_C_mixOf (v_Cu_at 0 σ) (v_Cu_at a1 σ) a2 σ)) (Int32.toInt64 a3) σ)) (n_C_must_63 a2 a3 (v_Cu_at a1 σ) 1 σ (0, (v_C_gap (Int32.toInt64 (v_C_mixOf (v_Cu_at 0 σ) (v_Cu_at a1 σ) a2 σ)) (Int32.toInt64 a3) σ))) hp.1 ?_)
      have hp := hp.2
      refine mW1_eq (q_C_must_63 _ _ _ _ _ _ _) ?_
      refine mTr_if (fun h2 => ?_) (fun h2 => ?_)
      · skip
        have hp := hp.1 h2
        refine mTr_g hp ?_
        exact mTr_e (by decide) (congrArg (fun z => [mI z]) (Eq.symm ((if_neg h0).trans (if_neg h1)))) (Eq.symm ((if_neg h0).trans (if_neg h1))) (by decide) (by decide)
      · skip
        have hp := hp.2 h2
        exact hp.elim







theorem tk_C_must : ∀ pc i nx tg, T_C_must pc = some (i, nx, tg) → mOkB prog_1_method_28_code pc i nx tg = true := code_ok (N := 138) (fun k h => by unfold T_C_must; rw [h]; rfl) (by decide +kernel)
theorem ok_C_must (l : Launch) : mPOK l "ClothWithMan" prog_1_method_28_code P_C_must := by
  refine ⟨tk_C_must, ?_, ?_, ?_, (fun pc i nx tg kd _ h => by cases h), ?_, ?_, fun pc en h => by cases h⟩
  · intro x ci f ty fin h
    exact mLook_all (Q := fun x v => mFOK "ClothWithMan" x v.1 v.2.1 v.2.2.1 v.2.2.2 ∧ (v.2.2.2 = true → pIni P_C_must = true → (Cond.fieldLink "ClothWithMan" x (((mCl[v.1]?).getD ("", fun _ => ("", "", "", false), 0)).2.1 v.2.1).1 (((mCl[v.1]?).getD ("", fun _ => ("", "", "", false), 0)).2.1 v.2.1).2.1 (((mCl[v.1]?).getD ("", fun _ => ("", "", "", false), 0)).2.1 v.2.1).2.2.1 ∈ lw_tbl ∧ (((mCl[v.1]?).getD ("", fun _ => ("", "", "", false), 0)).2.1 v.2.1).1 = "ClothWithMan"))) (fcC ⟨fo_C_19, fun h1 h2 => by cases h2⟩ (fcC ⟨fo_C_67, fun h1 h2 => by cases h2⟩ (fcC ⟨fo_C_106, fun h1 h2 => by cases h2⟩ fcN))) x (ci, f, ty, fin) h
  · intro x
    have hh := mLook_all (l := ([] : List (Nat × (Int32 ⊕ Int64)))) (Q := fun x (v : Int32 ⊕ Int64) => (∀ w, v = .inl w → Cond.constant "ClothWithMan" x w ∈ lw_tbl) ∧ (∀ w, v = .inr w → Cond.constantLong "ClothWithMan" x w ∈ lw_tbl)) fcN x
    exact ⟨fun w h => (hh _ h).1 w rfl, fun w h => (hh _ h).2 w rfl⟩
  · exact fun x en h => mLook_all (Q := fun x en => mLink "ClothWithMan" x en ∧ mCtr l en ∧ (en.1.1 = 2 → en.2.2.2.2.2.2 = none)) (fcC ⟨li_C_116, c_C_isYear l, (fun h => by cases h)⟩ (fcC ⟨li_C_119, c_Cu_at l, (fun h => by cases h)⟩ (fcC ⟨li_C_145, c_C_isIn l, (fun h => by cases h)⟩ (fcC ⟨li_C_213, c_C_gap l, (fun h => by cases h)⟩ (fcC ⟨li_C_217, c_Ro_clear l, (fun h => by cases h)⟩ (fcC ⟨li_C_223, c_Ro_add l, (fun h => by cases h)⟩ (fcC ⟨li_C_291, c_C_mixOf l, (fun h => by cases h)⟩ fcN))))))) x en h
  · exact fun x kd h => mLook_all (Q := fun x kd => (kd = 95 ∧ Cond.fieldLink "ClothWithMan" x "ClothWithMan" "LIKENESSES" "[I" ∈ lw_tbl) ∨ (kd = 96 ∧ Cond.fieldLink "ClothWithMan" x "ClothWithMan" "APART_BOUNDS" "[I" ∈ lw_tbl)) fcN x kd h
  · exact fun x ci h => mLook_all (Q := fun x ci => ci ≠ 0 ∧ ∃ (C : String) (T : u_T) (N : Nat), mCl[ci]? = some (C, T, N) ∧ Cond.classLink "ClothWithMan" x C ∈ lw_tbl ∧ Cond.instantiable C N ∈ lw_tbl) fcN x ci h
set_option maxRecDepth 100000 in
theorem c_C_must (l : Launch) : mCtr l E_C_must := mCtr_of (P := P_C_must) (own := "ClothWithMan") mLay_ok rfl (by decide +kernel) rfl (ok_C_must l) (fun h => by cases h) (fun as σ pr rv σ' hF hpr hlv => by
  unfold E_C_must S_C_must at hF
  simp only [] at hF
  split at hF
  · cases hF
    obtain ⟨n, pcF, c1, s1, g1, g2, g3, g4⟩ := mF_inv (d_C_must _ _ _ σ (hpr _ rfl))
    exact ⟨Nat.le_of_ble_eq_true rfl, (fun v h => by cases h; trivial), n, pcF, c1, s1, g1, ⟨mEnd_of (i := .ireturn) (P := P_C_must) (rets := [18, 137]) rfl g2, rfl⟩, g3, g4⟩
  · cases hF
    exact (hpr _ rfl).elim)

