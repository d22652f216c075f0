/-! ClothWithManModel.mixed(III)I -/
def v_M_mixed (v y s : Int32) (σ : MSto) : Int32 := (v * (100 - s) + gI σ 41 0 y.toNatClampNeg * s) / 100
def p_M_mixed (v y s : Int32) (σ : MSto) : Prop := vp_in y 200
noncomputable def S_M_mixed : List MV → MSto → Option Prop × Option MV × MSto := fun as σ => match as with
  | [.inr (.inr (some (13, 0))), .inl a0, .inl a1, .inl a2] => (some (p_M_mixed a0 a1 a2 σ), some (mI (v_M_mixed a0 a1 a2 σ)), σ)
  | _ => (some False, none, σ)
noncomputable def E_M_mixed : MEnt := ((1, 3, 13), (0, 0, 0, 0), S_M_mixed, ((⟨"ClothWithManModel", "mixed", "(III)I"⟩ : MethodName), prog_14_method_30_code, 4, (some .int)))

def T_M_mixed : Nat → Option (Instr × Nat × List Nat) := fun k => bif Nat.blt k 19 then (bif Nat.blt k 10 then (bif Nat.blt k 4 then (bif Nat.blt k 1 then (bif Nat.beq k 0 then some (.iload_n 1, 1, []) else none) else (bif Nat.blt k 3 then (bif Nat.beq k 1 then some (.bipush 100, 3, []) else none) else (bif Nat.beq k 3 then some (.iload_n 3, 4, []) else none))) else (bif Nat.blt k 6 then (bif Nat.blt k 5 then (bif Nat.beq k 4 then some (.isub, 5, []) else none) else (bif Nat.beq k 5 then some (.imul, 6, []) else none)) else (bif Nat.blt k 7 then (bif Nat.beq k 6 then some (.aload_n 0, 7, []) else none) else (bif Nat.beq k 7 then some (.getfield 9, 10, []) else none)))) else (bif Nat.blt k 14 then (bif Nat.blt k 12 then (bif Nat.blt k 11 then (bif Nat.beq k 10 then some (.iload_n 2, 11, []) else none) else (bif Nat.beq k 11 then some (.iaload, 12, []) else none)) else (bif Nat.blt k 13 then (bif Nat.beq k 12 then some (.iload_n 3, 13, []) else none) else (bif Nat.beq k 13 then some (.imul, 14, []) else none))) else (bif Nat.blt k 17 then (bif Nat.blt k 15 then (bif Nat.beq k 14 then some (.iadd, 15, []) else none) else (bif Nat.beq k 15 then some (.bipush 100, 17, []) else none)) else (bif Nat.blt k 18 then (bif Nat.beq k 17 then some (.idiv, 18, []) else none) else (bif Nat.beq k 18 then some (.ireturn, 19, []) else none))))) else none
noncomputable def P_M_mixed : MP := (T_M_mixed, (fun k => mLook k [(9, (13, 0, (.array .int), true))]), (fun k => mLook k []), (fun k => mLook k []), (fun k => mLook k []), (fun k => mLook k []), (fun k => mLook k []), (fun k => mLook k []), (fun k => [18].any (Nat.beq k)), (0, 0, 0, 0), false, (fun _ => none))
set_option maxRecDepth 100000 in
set_option maxHeartbeats 4000000 in
theorem q_M_mixed_e (a1 : Int32) (a2 : Int32) (a3 : Int32) (σ : MSto) (n : Nat) : mexe KT P_M_mixed (n + 1) (0, [some (mR 13 0), some (mI a1), some (mI a2), some (mI a3)], [], σ, 0, 0) = mG (vp_in a2 200) (mG (¬ (100 : Int32) = 0) (some (18, [], [(mI (((a1 * (100 - a3)) + ((gI σ 41 0 (Int32.toNatClampNeg a2)) * a3)) / 100))], σ, 0, 0))) := rfl
set_option maxRecDepth 100000 in
set_option maxHeartbeats 4000000 in
theorem d_M_mixed (a1 : Int32) (a2 : Int32) (a3 : Int32) (σ : MSto) (hp : p_M_mixed a1 a2 a3 σ) : mW1 P_M_mixed (0, [some (mR 13 0), some (mI a1), some (mI a2), some (mI a3)], [], σ, 0, 0) (mF [18] [mI (v_M_mixed a1 a2 a3 σ)] σ 0 0) := by
  unfold p_M_mixed at hp
  refine mW1_eq (q_M_mixed_e _ _ _ _) ?_
  try simp only [bI_0]
  repeat' (first
    | exact mTr_e (by decide) rfl rfl (by decide) (by decide)
    | exact mTr_e (by decide) (bI_e0 (by grind)) rfl (by decide) (by decide)
    | exact mTr_e (by decide) (bI_e1 (by grind)) rfl (by decide) (by decide)
    | exact mTr_e (by decide) (ifI0 (by grind)) rfl (by decide) (by decide)
    | exact mTr_e (by decide) (ifI1 (by grind)) rfl (by decide) (by decide)
    | exact mTr_e (by decide) (ifI0 (by grind)) (ifE0 (by grind)) (by decide) (by decide)
    | exact mTr_e (by decide) (ifI1 (by grind)) (ifE1 (by grind)) (by decide) (by decide)
    | exact mTr_e (by decide) (bI_e0 (by grind)) (ifE0 (by grind)) (by decide) (by decide)
    | exact mTr_e (by decide) (bI_e1 (by grind)) (ifE1 (by grind)) (by decide) (by decide)
    | refine mTr_g (by first | assumption | decide | exact inG (by grind)) ?_
    | refine mTr_if (fun _ => ?_) (fun _ => ?_))
theorem tk_M_mixed : ∀ pc i nx tg, T_M_mixed pc = some (i, nx, tg) → mOkB prog_14_method_30_code pc i nx tg = true := code_ok (N := 19) (fun k h => by unfold T_M_mixed; rw [h]; rfl) (by decide +kernel)
theorem ok_M_mixed (l : Launch) : mPOK l "ClothWithManModel" prog_14_method_30_code P_M_mixed := by
  refine ⟨tk_M_mixed, ?_, ?_, ?_, (fun pc i nx tg kd _ h => by cases h), ?_, ?_, fun pc en h => by cases h⟩
  · intro x ci f ty fin h
    exact mLook_all (Q := fun x v => mFOK "ClothWithManModel" x v.1 v.2.1 v.2.2.1 v.2.2.2 ∧ (v.2.2.2 = true → pIni P_M_mixed = true → (Cond.fieldLink "ClothWithManModel" x (((mCl[v.1]?).getD ("", fun _ => ("", "", "", false), 0)).2.1 v.2.1).1 (((mCl[v.1]?).getD ("", fun _ => ("", "", "", false), 0)).2.1 v.2.1).2.1 (((mCl[v.1]?).getD ("", fun _ => ("", "", "", false), 0)).2.1 v.2.1).2.2.1 ∈ lw_tbl ∧ (((mCl[v.1]?).getD ("", fun _ => ("", "", "", false), 0)).2.1 v.2.1).1 = "ClothWithManModel"))) (fcC ⟨fo_M_9, fun h1 h2 => by cases h2⟩ fcN) x (ci, f, ty, fin) h
  · intro x
    have hh := mLook_all (l := ([] : List (Nat × (Int32 ⊕ Int64)))) (Q := fun x (v : Int32 ⊕ Int64) => (∀ w, v = .inl w → Cond.constant "ClothWithManModel" x w ∈ lw_tbl) ∧ (∀ w, v = .inr w → Cond.constantLong "ClothWithManModel" x w ∈ lw_tbl)) fcN x
    exact ⟨fun w h => (hh _ h).1 w rfl, fun w h => (hh _ h).2 w rfl⟩
  · exact fun x en h => mLook_all (Q := fun x en => mLink "ClothWithManModel" x en ∧ mCtr l en ∧ (en.1.1 = 2 → en.2.2.2.2.2.2 = none)) fcN x en h
  · exact fun x kd h => mLook_all (Q := fun x kd => (kd = 95 ∧ Cond.fieldLink "ClothWithManModel" x "ClothWithMan" "LIKENESSES" "[I" ∈ lw_tbl) ∨ (kd = 96 ∧ Cond.fieldLink "ClothWithManModel" x "ClothWithMan" "APART_BOUNDS" "[I" ∈ lw_tbl)) fcN x kd h
  · exact fun x ci h => mLook_all (Q := fun x ci => ci ≠ 0 ∧ ∃ (C : String) (T : u_T) (N : Nat), mCl[ci]? = some (C, T, N) ∧ Cond.classLink "ClothWithManModel" x C ∈ lw_tbl ∧ Cond.instantiable C N ∈ lw_tbl) fcN x ci h
set_option maxRecDepth 100000 in
theorem c_M_mixed (l : Launch) : mCtr l E_M_mixed := mCtr_of (P := P_M_mixed) (own := "ClothWithManModel") mLay_ok rfl (by decide +kernel) rfl (ok_M_mixed l) (fun h => by cases h) (fun as σ pr rv σ' hF hpr hlv => by
  unfold E_M_mixed S_M_mixed at hF
  simp only [] at hF
  split at hF
  · cases hF
    obtain ⟨n, pcF, c1, s1, g1, g2, g3, g4⟩ := mF_inv (d_M_mixed _ _ _ σ (hpr _ rfl))
    exact ⟨Nat.le_of_ble_eq_true rfl, (fun v h => by cases h; trivial), n, pcF, c1, s1, g1, ⟨mEnd_of (i := .ireturn) (P := P_M_mixed) (rets := [18]) rfl g2, rfl⟩, g3, g4⟩
  · cases hF
    exact (hpr _ rfl).elim)
/-! ClothWithManModel.holds([IIII)Z -/
noncomputable def v_M_holds43 (k x y : Int32) (σ : MSto) : Int32 := bI ((gI σ 43 0 k.toNatClampNeg ≤ x ∧ x < gI σ 43 0 k.toNatClampNeg + gI σ 43 0 (k + 2).toNatClampNeg) ∧ (gI σ 43 0 (k + 1).toNatClampNeg ≤ y ∧ y < gI σ 43 0 (k + 1).toNatClampNeg + gI σ 43 0 (k + 3).toNatClampNeg))
def p_M_holds43 (k x y : Int32) (σ : MSto) : Prop := vp_in k 36 ∧ vp_in (k + 1) 36 ∧ vp_in (k + 2) 36 ∧ vp_in (k + 3) 36
noncomputable def S_M_holds43 : List MV → MSto → Option Prop × Option MV × MSto := fun as σ => match as with
  | [.inr (.inr (some (43, 0))), .inl a1, .inl a2, .inl a3] => (some (p_M_holds43 a1 a2 a3 σ), some (mI (v_M_holds43 a1 a2 a3 σ)), σ)
  | _ => (some False, none, σ)
noncomputable def E_M_holds43 : MEnt := ((0, 4, 13), (0, 0, 0, 0), S_M_holds43, ((⟨"ClothWithManModel", "holds", "([IIII)Z"⟩ : MethodName), prog_14_method_31_code, 4, (some .boolean)))

def T_M_holds43 : Nat → Option (Instr × Nat × List Nat) := fun k => bif Nat.blt k 50 then (bif Nat.blt k 24 then (bif Nat.blt k 12 then (bif Nat.blt k 7 then (bif Nat.blt k 2 then (bif Nat.blt k 1 then (bif Nat.beq k 0 then some (.iload_n 2, 1, []) else none) else (bif Nat.beq k 1 then some (.aload_n 0, 2, []) else none)) else (bif Nat.blt k 3 then (bif Nat.beq k 2 then some (.iload_n 1, 3, []) else none) else (bif Nat.blt k 4 then (bif Nat.beq k 3 then some (.iaload, 4, []) else none) else (bif Nat.beq k 4 then some (.if_icmp .lt 44, 7, [48]) else none)))) else (bif Nat.blt k 9 then (bif Nat.blt k 8 then (bif Nat.beq k 7 then some (.iload_n 2, 8, []) else none) else (bif Nat.beq k 8 then some (.aload_n 0, 9, []) else none)) else (bif Nat.blt k 10 then (bif Nat.beq k 9 then some (.iload_n 1, 10, []) else none) else (bif Nat.blt k 11 then (bif Nat.beq k 10 then some (.iaload, 11, []) else none) else (bif Nat.beq k 11 then some (.aload_n 0, 12, []) else none))))) else (bif Nat.blt k 17 then (bif Nat.blt k 14 then (bif Nat.blt k 13 then (bif Nat.beq k 12 then some (.iload_n 1, 13, []) else none) else (bif Nat.beq k 13 then some (.iconst 2, 14, []) else none)) else (bif Nat.blt k 15 then (bif Nat.beq k 14 then some (.iadd, 15, []) else none) else (bif Nat.blt k 16 then (bif Nat.beq k 15 then some (.iaload, 16, []) else none) else (bif Nat.beq k 16 then some (.iadd, 17, []) else none)))) else (bif Nat.blt k 21 then (bif Nat.blt k 20 then (bif Nat.beq k 17 then some (.if_icmp .ge 31, 20, [48]) else none) else (bif Nat.beq k 20 then some (.iload_n 3, 21, []) else none)) else (bif Nat.blt k 22 then (bif Nat.beq k 21 then some (.aload_n 0, 22, []) else none) else (bif Nat.blt k 23 then (bif Nat.beq k 22 then some (.iload_n 1, 23, []) else none) else (bif Nat.beq k 23 then some (.iconst 1, 24, []) else none)))))) else (bif Nat.blt k 36 then (bif Nat.blt k 31 then (bif Nat.blt k 26 then (bif Nat.blt k 25 then (bif Nat.beq k 24 then some (.iadd, 25, []) else none) else (bif Nat.beq k 25 then some (.iaload, 26, []) else none)) else (bif Nat.blt k 29 then (bif Nat.beq k 26 then some (.if_icmp .lt 22, 29, [48]) else none) else (bif Nat.blt k 30 then (bif Nat.beq k 29 then some (.iload_n 3, 30, []) else none) else (bif Nat.beq k 30 then some (.aload_n 0, 31, []) else none)))) else (bif Nat.blt k 33 then (bif Nat.blt k 32 then (bif Nat.beq k 31 then some (.iload_n 1, 32, []) else none) else (bif Nat.beq k 32 then some (.iconst 1, 33, []) else none)) else (bif Nat.blt k 34 then (bif Nat.beq k 33 then some (.iadd, 34, []) else none) else (bif Nat.blt k 35 then (bif Nat.beq k 34 then some (.iaload, 35, []) else none) else (bif Nat.beq k 35 then some (.aload_n 0, 36, []) else none))))) else (bif Nat.blt k 41 then (bif Nat.blt k 38 then (bif Nat.blt k 37 then (bif Nat.beq k 36 then some (.iload_n 1, 37, []) else none) else (bif Nat.beq k 37 then some (.iconst 3, 38, []) else none)) else (bif Nat.blt k 39 then (bif Nat.beq k 38 then some (.iadd, 39, []) else none) else (bif Nat.blt k 40 then (bif Nat.beq k 39 then some (.iaload, 40, []) else none) else (bif Nat.beq k 40 then some (.iadd, 41, []) else none)))) else (bif Nat.blt k 45 then (bif Nat.blt k 44 then (bif Nat.beq k 41 then some (.if_icmp .ge 7, 44, [48]) else none) else (bif Nat.beq k 44 then some (.iconst 1, 45, []) else none)) else (bif Nat.blt k 48 then (bif Nat.beq k 45 then some (.goto 4, 48, [49]) else none) else (bif Nat.blt k 49 then (bif Nat.beq k 48 then some (.iconst 0, 49, []) else none) else (bif Nat.beq k 49 then some (.ireturn, 50, []) else none))))))) else none
noncomputable def P_M_holds43 : MP := (T_M_holds43, (fun k => mLook k []), (fun k => mLook k []), (fun k => mLook k []), (fun k => mLook k []), (fun k => mLook k []), (fun k => mLook k []), (fun k => mLook k []), (fun k => [49].any (Nat.beq k)), (0, 0, 0, 0), false, (fun _ => none))
set_option maxRecDepth 100000 in
set_option maxHeartbeats 4000000 in
theorem q_M_holds43_e (a1 : Int32) (a2 : Int32) (a3 : Int32) (σ : MSto) (n : Nat) : mexe KT P_M_holds43 (n + 1) (0, [some (mR 43 0), some (mI a1), some (mI a2), some (mI a3)], [], σ, 0, 0) = mG (vp_in a1 36) (mIf (a2 < (gI σ 43 0 (Int32.toNatClampNeg a1))) (some (49, [], [(mI 0)], σ, 0, 0)) (mG (vp_in a1 36) (mG (vp_in (a1 + 2) 36) (mIf (((gI σ 43 0 (Int32.toNatClampNeg a1)) + (gI σ 43 0 (Int32.toNatClampNeg (a1 + 2)))) ≤ a2) (some (49, [], [(mI 0)], σ, 0, 0)) (mG (vp_in (a1 + 1) 36) (mIf (a3 < (gI σ 43 0 (Int32.toNatClampNeg (a1 + 1)))) (some (49, [], [(mI 0)], σ, 0, 0)) (mG (vp_in (a1 + 1) 36) (mG (vp_in (a1 + 3) 36) (mIf (((gI σ 43 0 (Int32.toNatClampNeg (a1 + 1))) + (gI σ 43 0 (Int32.toNatClampNeg (a1 + 3)))) ≤ a3) (some (49, [], [(mI 0)], σ, 0, 0)) (some (49, [], [(mI 1)], σ, 0, 0))))))))))) := rfl
set_option maxRecDepth 100000 in
set_option maxHeartbeats 4000000 in
theorem d_M_holds43 (a1 : Int32) (a2 : Int32) (a3 : Int32) (σ : MSto) (hp : p_M_holds43 a1 a2 a3 σ) : mW1 P_M_holds43 (0, [some (mR 43 0), some (mI a1), some (mI a2), some (mI a3)], [], σ, 0, 0) (mF [49] [mI (v_M_holds43 a1 a2 a3 σ)] σ 0 0) := by
  obtain ⟨g1, g2, g3, g4⟩ := hp
  refine mW1_eq (q_M_holds43_e _ _ _ _) ?_
  try simp only [bI_0]
  repeat' (first
    | exact mTr_e (by decide) rfl rfl (by decide) (by decide)
    | exact mTr_e (by decide) (bI_e0 (by grind)) rfl (by decide) (by decide)
    | exact mTr_e (by decide) (bI_e1 (by grind)) rfl (by decide) (by decide)
    | exact mTr_e (by decide) (ifI0 (by grind)) rfl (by decide) (by decide)
    | exact mTr_e (by decide) (ifI1 (by grind)) rfl (by decide) (by decide)
    | exact mTr_e (by decide) (ifI0 (by grind)) (ifE0 (by grind)) (by decide) (by decide)
    | exact mTr_e (by decide) (ifI1 (by grind)) (ifE1 (by grind)) (by decide) (by decide)
    | exact mTr_e (by decide) (bI_e0 (by grind)) (ifE0 (by grind)) (by decide) (by decide)
    | exact mTr_e (by decide) (bI_e1 (by grind)) (ifE1 (by grind)) (by decide) (by decide)
    | refine mTr_g (by first | assumption | decide | exact inG (by grind)) ?_
    | refine mTr_if (fun _ => ?_) (fun _ => ?_))
theorem tk_M_holds43 : ∀ pc i nx tg, T_M_holds43 pc = some (i, nx, tg) → mOkB prog_14_method_31_code pc i nx tg = true := code_ok (N := 50) (fun k h => by unfold T_M_holds43; rw [h]; rfl) (by decide +kernel)
theorem ok_M_holds43 (l : Launch) : mPOK l "ClothWithManModel" prog_14_method_31_code P_M_holds43 := by
  refine ⟨tk_M_holds43, ?_, ?_, ?_, (fun pc i nx tg kd _ h => by cases h), ?_, ?_, fun pc en h => by cases h⟩
  · intro x ci f ty fin h
    exact mLook_all (Q := fun x v => mFOK "ClothWithManModel" x v.1 v.2.1 v.2.2.1 v.2.2.2 ∧ (v.2.2.2 = true → pIni P_M_holds43 = true → (Cond.fieldLink "ClothWithManModel" x (((mCl[v.1]?).getD ("", fun _ => ("", "", "", false), 0)).2.1 v.2.1).1 (((mCl[v.1]?).getD ("", fun _ => ("", "", "", false), 0)).2.1 v.2.1).2.1 (((mCl[v.1]?).getD ("", fun _ => ("", "", "", false), 0)).2.1 v.2.1).2.2.1 ∈ lw_tbl ∧ (((mCl[v.1]?).getD ("", fun _ => ("", "", "", false), 0)).2.1 v.2.1).1 = "ClothWithManModel"))) fcN x (ci, f, ty, fin) h
  · intro x
    have hh := mLook_all (l := ([] : List (Nat × (Int32 ⊕ Int64)))) (Q := fun x (v : Int32 ⊕ Int64) => (∀ w, v = .inl w → Cond.constant "ClothWithManModel" x w ∈ lw_tbl) ∧ (∀ w, v = .inr w → Cond.constantLong "ClothWithManModel" x w ∈ lw_tbl)) fcN x
    exact ⟨fun w h => (hh _ h).1 w rfl, fun w h => (hh _ h).2 w rfl⟩
  · exact fun x en h => mLook_all (Q := fun x en => mLink "ClothWithManModel" x en ∧ mCtr l en ∧ (en.1.1 = 2 → en.2.2.2.2.2.2 = none)) fcN x en h
  · exact fun x kd h => mLook_all (Q := fun x kd => (kd = 95 ∧ Cond.fieldLink "ClothWithManModel" x "ClothWithMan" "LIKENESSES" "[I" ∈ lw_tbl) ∨ (kd = 96 ∧ Cond.fieldLink "ClothWithManModel" x "ClothWithMan" "APART_BOUNDS" "[I" ∈ lw_tbl)) fcN x kd h
  · exact fun x ci h => mLook_all (Q := fun x ci => ci ≠ 0 ∧ ∃ (C : String) (T : u_T) (N : Nat), mCl[ci]? = some (C, T, N) ∧ Cond.classLink "ClothWithManModel" x C ∈ lw_tbl ∧ Cond.instantiable C N ∈ lw_tbl) fcN x ci h
set_option maxRecDepth 100000 in
theorem c_M_holds43 (l : Launch) : mCtr l E_M_holds43 := mCtr_of (P := P_M_holds43) (own := "ClothWithManModel") mLay_ok rfl (by decide +kernel) rfl (ok_M_holds43 l) (fun h => by cases h) (fun as σ pr rv σ' hF hpr hlv => by
  unfold E_M_holds43 S_M_holds43 at hF
  simp only [] at hF
  split at hF
  · cases hF
    obtain ⟨n, pcF, c1, s1, g1, g2, g3, g4⟩ := mF_inv (d_M_holds43 _ _ _ σ (hpr _ rfl))
    exact ⟨Nat.le_of_ble_eq_true rfl, (fun v h => by cases h; trivial), n, pcF, c1, s1, g1, ⟨mEnd_of (i := .ireturn) (P := P_M_holds43) (rets := [49]) rfl g2, bI_narrow _⟩, g3, g4⟩
  · cases hF
    exact (hpr _ rfl).elim)
/-! ClothWithManModel.withStuff(IIII)I -/
noncomputable def t_M_stuff (x y w : Int32) (σ : MSto) (i : Nat) (a : Int32) : Int32 := if (gI σ 43 0 (6 * i) ≤ x ∧ x < gI σ 43 0 (6 * i) + gI σ 43 0 (6 * i + 2)) ∧ (gI σ 43 0 (6 * i + 1) ≤ y ∧ y < gI σ 43 0 (6 * i + 1) + gI σ 43 0 (6 * i + 3)) then v_M_mixed a (gI σ 43 0 (6 * i + 4)) (gI σ 43 0 (6 * i + 5) * (100 - gI σ 44 0 w.toNatClampNeg) / 100) σ else a
noncomputable def v_M_withStuff (v x y w : Int32) (σ : MSto) : Int32 := nfold (t_M_stuff x y w σ) v (nM σ 5)
def p_M_withStuff (v x y w : Int32) (σ : MSto) : Prop := iM σ ∧ vp_in w 4
noncomputable def S_M_withStuff : List MV → MSto → Option Prop × Option MV × MSto := fun as σ => match as with
  | [.inr (.inr (some (13, 0))), .inl a0, .inl a1, .inl a2, .inl a3] => (some (p_M_withStuff a0 a1 a2 a3 σ), some (mI (v_M_withStuff a0 a1 a2 a3 σ)), σ)
  | _ => (some False, none, σ)
noncomputable def E_M_withStuff : MEnt := ((1, 4, 13), (1, 23, 0, 0), S_M_withStuff, ((⟨"ClothWithManModel", "withStuff", "(IIII)I"⟩ : MethodName), prog_14_method_32_code, 7, (some .int)))

def T_M_withStuff : Nat → Option (Instr × Nat × List Nat) := fun k => bif Nat.blt k 81 then (bif Nat.blt k 42 then (bif Nat.blt k 19 then (bif Nat.blt k 8 then (bif Nat.blt k 3 then (bif Nat.blt k 1 then (bif Nat.beq k 0 then some (.iload_n 1, 1, []) else none) else (bif Nat.beq k 1 then some (.istore 5, 3, []) else none)) else (bif Nat.blt k 4 then (bif Nat.beq k 3 then some (.iconst 0, 4, []) else none) else (bif Nat.blt k 6 then (bif Nat.beq k 4 then some (.istore 6, 6, []) else none) else (bif Nat.beq k 6 then some (.iload 6, 8, []) else none)))) else (bif Nat.blt k 14 then (bif Nat.blt k 10 then (bif Nat.beq k 8 then some (.bipush 6, 10, []) else none) else (bif Nat.blt k 11 then (bif Nat.beq k 10 then some (.aload_n 0, 11, []) else none) else (bif Nat.beq k 11 then some (.getfield 243, 14, []) else none))) else (bif Nat.blt k 15 then (bif Nat.beq k 14 then some (.imul, 15, []) else none) else (bif Nat.blt k 18 then (bif Nat.beq k 15 then some (.if_icmp .ge 63, 18, [78]) else none) else (bif Nat.beq k 18 then some (.aload_n 0, 19, []) else none))))) else (bif Nat.blt k 32 then (bif Nat.blt k 25 then (bif Nat.blt k 22 then (bif Nat.beq k 19 then some (.getfield 23, 22, []) else none) else (bif Nat.blt k 24 then (bif Nat.beq k 22 then some (.iload 6, 24, []) else none) else (bif Nat.beq k 24 then some (.iload_n 2, 25, []) else none))) else (bif Nat.blt k 26 then (bif Nat.beq k 25 then some (.iload_n 3, 26, []) else none) else (bif Nat.blt k 29 then (bif Nat.beq k 26 then some (.invokestatic 252, 29, []) else none) else (bif Nat.beq k 29 then some (.ifCond .eq 43, 32, [72]) else none)))) else (bif Nat.blt k 36 then (bif Nat.blt k 33 then (bif Nat.beq k 32 then some (.aload_n 0, 33, []) else none) else (bif Nat.blt k 35 then (bif Nat.beq k 33 then some (.iload 5, 35, []) else none) else (bif Nat.beq k 35 then some (.aload_n 0, 36, []) else none))) else (bif Nat.blt k 39 then (bif Nat.beq k 36 then some (.getfield 23, 39, []) else none) else (bif Nat.blt k 41 then (bif Nat.beq k 39 then some (.iload 6, 41, []) else none) else (bif Nat.beq k 41 then some (.iconst 4, 42, []) else none)))))) else (bif Nat.blt k 59 then (bif Nat.blt k 50 then (bif Nat.blt k 44 then (bif Nat.blt k 43 then (bif Nat.beq k 42 then some (.iadd, 43, []) else none) else (bif Nat.beq k 43 then some (.iaload, 44, []) else none)) else (bif Nat.blt k 45 then (bif Nat.beq k 44 then some (.aload_n 0, 45, []) else none) else (bif Nat.blt k 48 then (bif Nat.beq k 45 then some (.getfield 23, 48, []) else none) else (bif Nat.beq k 48 then some (.iload 6, 50, []) else none)))) else (bif Nat.blt k 53 then (bif Nat.blt k 51 then (bif Nat.beq k 50 then some (.iconst 5, 51, []) else none) else (bif Nat.blt k 52 then (bif Nat.beq k 51 then some (.iadd, 52, []) else none) else (bif Nat.beq k 52 then some (.iaload, 53, []) else none))) else (bif Nat.blt k 55 then (bif Nat.beq k 53 then some (.bipush 100, 55, []) else none) else (bif Nat.blt k 56 then (bif Nat.beq k 55 then some (.aload_n 0, 56, []) else none) else (bif Nat.beq k 56 then some (.getfield 26, 59, []) else none))))) else (bif Nat.blt k 67 then (bif Nat.blt k 63 then (bif Nat.blt k 61 then (bif Nat.beq k 59 then some (.iload 4, 61, []) else none) else (bif Nat.blt k 62 then (bif Nat.beq k 61 then some (.iaload, 62, []) else none) else (bif Nat.beq k 62 then some (.isub, 63, []) else none))) else (bif Nat.blt k 64 then (bif Nat.beq k 63 then some (.imul, 64, []) else none) else (bif Nat.blt k 66 then (bif Nat.beq k 64 then some (.bipush 100, 66, []) else none) else (bif Nat.beq k 66 then some (.idiv, 67, []) else none)))) else (bif Nat.blt k 75 then (bif Nat.blt k 70 then (bif Nat.beq k 67 then some (.invokevirtual 256, 70, []) else none) else (bif Nat.blt k 72 then (bif Nat.beq k 70 then some (.istore 5, 72, []) else none) else (bif Nat.beq k 72 then some (.iinc 6 6, 75, []) else none))) else (bif Nat.blt k 78 then (bif Nat.beq k 75 then some (.goto (-69), 78, [6]) else none) else (bif Nat.blt k 80 then (bif Nat.beq k 78 then some (.iload 5, 80, []) else none) else (bif Nat.beq k 80 then some (.ireturn, 81, []) else none))))))) else none
noncomputable def P_M_withStuff : MP := (T_M_withStuff, (fun k => mLook k [(23, (13, 6, (.array .int), true)), (26, (13, 7, (.array .int), true)), (243, (13, 5, .int, false))]), (fun k => mLook k []), (fun k => mLook k [(252, E_M_holds43), (256, E_M_mixed)]), (fun k => mLook k []), (fun k => mLook k []), (fun k => mLook k []), (fun k => mLook k [(6, [true, false, true, true, true, true, true])]), (fun k => [80].any (Nat.beq k)), (1, 23, 0, 0), false, (fun _ => none))
set_option maxRecDepth 100000 in
set_option maxHeartbeats 4000000 in
theorem q_M_withStuff_e (a1 : Int32) (a2 : Int32) (a3 : Int32) (a4 : Int32) (σ : MSto) (n : Nat) : mexe KT P_M_withStuff (n + 1) (0, [some (mR 13 0), some (mI a1), some (mI a2), some (mI a3), some (mI a4), none, none], [], σ, 0, 0) = mexe KT P_M_withStuff n (6, [some (mR 13 0), none, some (mI a2), some (mI a3), some (mI a4), some (mI a1), some (mI 0)], [], σ, 0, 0) := rfl
set_option maxRecDepth 100000 in
set_option maxHeartbeats 4000000 in
theorem q_M_withStuff_6 (x2 : Int32) (x3 : Int32) (x4 : Int32) (x5 : Int32) (x6 : Int32) (σ : MSto) (n : Nat) : mexe KT P_M_withStuff (n + 1) (6, [some (mR 13 0), none, some (mI x2), some (mI x3), some (mI x4), some (mI x5), some (mI x6)], [], σ, 0, 0) = mIf ((6 * (gI σ 13 0 5)) ≤ x6) (some (80, [], [(mI x5)], σ, 0, 0)) (mG (p_M_holds43 x6 x2 x3 σ) (mIf ((v_M_holds43 x6 x2 x3 σ) = 0) (mexe KT P_M_withStuff n (6, [some (mR 13 0), none, some (mI x2), some (mI x3), some (mI x4), some (mI x5), some (mI (x6 + 6))], [], σ, 0, 0)) (mG (vp_in (x6 + 4) 36) (mG (vp_in (x6 + 5) 36) (mG (vp_in x4 4) (mG (¬ (100 : Int32) = 0) (mG (p_M_mixed x5 (gI σ 43 0 (Int32.toNatClampNeg (x6 + 4))) (((gI σ 43 0 (Int32.toNatClampNeg (x6 + 5))) * (100 - (gI σ 44 0 (Int32.toNatClampNeg x4)))) / 100) σ) (mexe KT P_M_withStuff n (6, [some (mR 13 0), none, some (mI x2), some (mI x3), some (mI x4), some (mI (v_M_mixed x5 (gI σ 43 0 (Int32.toNatClampNeg (x6 + 4))) (((gI σ 43 0 (Int32.toNatClampNeg (x6 + 5))) * (100 - (gI σ 44 0 (Int32.toNatClampNeg x4)))) / 100) σ)), some (mI (x6 + 6))], [], σ, 0, 0))))))))) := rfl
set_option maxRecDepth 100000 in
set_option maxHeartbeats 4000000 in
theorem d_M_withStuff (a1 : Int32) (a2 : Int32) (a3 : Int32) (a4 : Int32) (σ : MSto) (hp : p_M_withStuff a1 a2 a3 a4 σ) : mW1 P_M_withStuff (0, [some (mR 13 0), some (mI a1), some (mI a2), some (mI a3), some (mI a4), none, none], [], σ, 0, 0) (mF [80] [mI (v_M_withStuff a1 a2 a3 a4 σ)] σ 0 0) := by
  obtain ⟨hi, hw⟩ := hp
  obtain ⟨hc, hc6⟩ := hi.c.2.1
  have e6 : 6 * gI σ 13 0 5 = nI (6 * nM σ 5) := by rw [hc]; exact nMul 6 _
  refine mW1_eq (q_M_withStuff_e _ _ _ _ _) ?_
  try simp only [bI_0]
  refine mTr_k (mW1_loop (fun i => (6, [some (mR 13 0), none, some (mI a2), some (mI a3), some (mI a4), some (mI (nfold (t_M_stuff a2 a3 a4 σ) a1 i)), some (mI (nI (6 * i)))], [], σ, 0, 0)) (nM σ 5) (fun i hlt hn => ?_) ?_)
  · have h0 : (nI (6 * i)).toNatClampNeg = 6 * i := nI_cl (by omega)
    have h1 : (nI (6 * i) + 1).toNatClampNeg = 6 * i + 1 := clA (c := 1) (by omega)
    have h2 : (nI (6 * i) + 2).toNatClampNeg = 6 * i + 2 := clA (c := 2) (by omega)
    have h3 : (nI (6 * i) + 3).toNatClampNeg = 6 * i + 3 := clA (c := 3) (by omega)
    have h4 : (nI (6 * i) + 4).toNatClampNeg = 6 * i + 4 := clA (c := 4) (by omega)
    have h5 : (nI (6 * i) + 5).toNatClampNeg = 6 * i + 5 := clA (c := 5) (by omega)
    have h6 : nI (6 * i) + 6 = nI (6 * (i + 1)) := nA (6 * i) 6
    have hy := (hi.s i hlt).1
    refine mW1_eq (q_M_withStuff_6 _ _ _ _ _ _) ?_
    refine mTr_f (by rw [e6, leN (by omega) (by omega)]; omega) ?_
    refine mTr_g ⟨nI_inb (by omega) (by omega), inb (c := 1) (by omega) (by omega), inb (c := 2) (by omega) (by omega), inb (c := 3) (by omega) (by omega)⟩ ?_
    unfold v_M_holds43
    simp only [h0, h1, h2, h3, h4, h5, bI_0]
    refine mTr_if (fun g => ?_) (fun g => ?_)
    · exact mTr_l hn (by rw [h6, nfold_s]; unfold t_M_stuff; rw [if_neg g])
    · refine mTr_g (inb (c := 4) (by omega) (by omega)) (mTr_g (inb (c := 5) (by omega) (by omega)) (mTr_g hw (mTr_g (by decide) (mTr_g (rgI hy (by decide) rfl) ?_))))
      exact mTr_l hn (by rw [h6, nfold_s]; unfold t_M_stuff; rw [if_pos (Classical.not_not.mp g)])
  · refine mW1_eq (q_M_withStuff_6 _ _ _ _ _ _) ?_
    refine mTr_t (by rw [e6]; exact Int32.le_refl _) ?_
    exact mTr_e (by decide) rfl rfl (by decide) (by decide)
theorem li_M_256 : mLink "ClothWithManModel" 256 E_M_mixed := ⟨tw_7_28, tw_1_9, ⟨by decide, by decide⟩, by decide +kernel, Or.inl tw_7_25, (fun h => by cases h), (fun _ => ⟨tw_7_27, tw_0_54, TX12, 71, rfl⟩), (fun h => by cases h)⟩

theorem li_M_252 : mLink "ClothWithManModel" 252 E_M_holds43 := ⟨tw_7_20, tw_1_9, ⟨by decide, by decide⟩, by decide +kernel, Or.inl tw_7_18, (fun _ => tw_7_19), (fun h => by cases h), (fun h => by cases h)⟩

theorem tk_M_withStuff : ∀ pc i nx tg, T_M_withStuff pc = some (i, nx, tg) → mOkB prog_14_method_32_code pc i nx tg = true := code_ok (N := 81) (fun k h => by unfold T_M_withStuff; rw [h]; rfl) (by decide +kernel)
theorem ok_M_withStuff (l : Launch) : mPOK l "ClothWithManModel" prog_14_method_32_code P_M_withStuff := by
  refine ⟨tk_M_withStuff, ?_, ?_, ?_, (fun pc i nx tg kd _ h => by cases h), ?_, ?_, fun pc en h => by cases h⟩
  · intro x ci f ty fin h
    exact mLook_all (Q := fun x v => mFOK "ClothWithManModel" x v.1 v.2.1 v.2.2.1 v.2.2.2 ∧ (v.2.2.2 = true → pIni P_M_withStuff = true → (Cond.fieldLink "ClothWithManModel" x (((mCl[v.1]?).getD ("", fun _ => ("", "", "", false), 0)).2.1 v.2.1).1 (((mCl[v.1]?).getD ("", fun _ => ("", "", "", false), 0)).2.1 v.2.1).2.1 (((mCl[v.1]?).getD ("", fun _ => ("", "", "", false), 0)).2.1 v.2.1).2.2.1 ∈ lw_tbl ∧ (((mCl[v.1]?).getD ("", fun _ => ("", "", "", false), 0)).2.1 v.2.1).1 = "ClothWithManModel"))) (fcC ⟨fo_M_23, fun h1 h2 => by cases h2⟩ (fcC ⟨fo_M_26, fun h1 h2 => by cases h2⟩ (fcC ⟨fo_M_243, fun h1 h2 => by cases h1⟩ fcN))) x (ci, f, ty, fin) h
  · intro x
    have hh := mLook_all (l := ([] : List (Nat × (Int32 ⊕ Int64)))) (Q := fun x (v : Int32 ⊕ Int64) => (∀ w, v = .inl w → Cond.constant "ClothWithManModel" x w ∈ lw_tbl) ∧ (∀ w, v = .inr w → Cond.constantLong "ClothWithManModel" x w ∈ lw_tbl)) fcN x
    exact ⟨fun w h => (hh _ h).1 w rfl, fun w h => (hh _ h).2 w rfl⟩
  · exact fun x en h => mLook_all (Q := fun x en => mLink "ClothWithManModel" x en ∧ mCtr l en ∧ (en.1.1 = 2 → en.2.2.2.2.2.2 = none)) (fcC ⟨li_M_252, c_M_holds43 l, (fun h => by cases h)⟩ (fcC ⟨li_M_256, c_M_mixed l, (fun h => by cases h)⟩ fcN)) x en h
  · exact fun x kd h => mLook_all (Q := fun x kd => (kd = 95 ∧ Cond.fieldLink "ClothWithManModel" x "ClothWithMan" "LIKENESSES" "[I" ∈ lw_tbl) ∨ (kd = 96 ∧ Cond.fieldLink "ClothWithManModel" x "ClothWithMan" "APART_BOUNDS" "[I" ∈ lw_tbl)) fcN x kd h
  · exact fun x ci h => mLook_all (Q := fun x ci => ci ≠ 0 ∧ ∃ (C : String) (T : u_T) (N : Nat), mCl[ci]? = some (C, T, N) ∧ Cond.classLink "ClothWithManModel" x C ∈ lw_tbl ∧ Cond.instantiable C N ∈ lw_tbl) fcN x ci h
set_option maxRecDepth 100000 in
theorem c_M_withStuff (l : Launch) : mCtr l E_M_withStuff := mCtr_of (P := P_M_withStuff) (own := "ClothWithManModel") mLay_ok rfl (by decide +kernel) rfl (ok_M_withStuff l) (fun h => by cases h) (fun as σ pr rv σ' hF hpr hlv => by
  unfold E_M_withStuff S_M_withStuff at hF
  simp only [] at hF
  split at hF
  · cases hF
    obtain ⟨n, pcF, c1, s1, g1, g2, g3, g4⟩ := mF_inv (d_M_withStuff _ _ _ _ σ (hpr _ rfl))
    exact ⟨Nat.le_of_ble_eq_true rfl, (fun v h => by cases h; trivial), n, pcF, c1, s1, g1, ⟨mEnd_of (i := .ireturn) (P := P_M_withStuff) (rets := [80]) rfl g2, rfl⟩, g3, g4⟩
  · cases hF
    exact (hpr _ rfl).elim)

