/-! ClothWithManModel.holds([IIII)Z -/
noncomputable def v_M_holds42 (k x y : Int32) (σ : MSto) : Int32 := bI ((gI σ 42 0 k.toNatClampNeg ≤ x ∧ x < gI σ 42 0 k.toNatClampNeg + gI σ 42 0 (k + 2).toNatClampNeg) ∧ (gI σ 42 0 (k + 1).toNatClampNeg ≤ y ∧ y < gI σ 42 0 (k + 1).toNatClampNeg + gI σ 42 0 (k + 3).toNatClampNeg))
def p_M_holds42 (k x y : Int32) (σ : MSto) : Prop := vp_in k 30 ∧ vp_in (k + 1) 30 ∧ vp_in (k + 2) 30 ∧ vp_in (k + 3) 30
noncomputable def S_M_holds42 : List MV → MSto → Option Prop × Option MV × MSto := fun as σ => match as with
  | [.inr (.inr (some (42, 0))), .inl a1, .inl a2, .inl a3] => (some (p_M_holds42 a1 a2 a3 σ), some (mI (v_M_holds42 a1 a2 a3 σ)), σ)
  | _ => (some False, none, σ)
noncomputable def E_M_holds42 : MEnt := ((0, 4, 13), (0, 0, 0, 0), S_M_holds42, ((⟨"ClothWithManModel", "holds", "([IIII)Z"⟩ : MethodName), prog_14_method_31_code, 4, (some .boolean)))

def T_M_holds42 : Nat → Option (Instr × Nat × List Nat) := fun k => bif Nat.blt k 50 then (bif Nat.blt k 24 then (bif Nat.blt k 12 then (bif Nat.blt k 7 then (bif Nat.blt k 2 then (bif Nat.blt k 1 then (bif Nat.beq k 0 then some (.iload_n 2, 1, []) else none) else (bif Nat.beq k 1 then some (.aload_n 0, 2, []) else none)) else (bif Nat.blt k 3 then (bif Nat.beq k 2 then some (.iload_n 1, 3, []) else none) else (bif Nat.blt k 4 then (bif Nat.beq k 3 then some (.iaload, 4, []) else none) else (bif Nat.beq k 4 then some (.if_icmp .lt 44, 7, [48]) else none)))) else (bif Nat.blt k 9 then (bif Nat.blt k 8 then (bif Nat.beq k 7 then some (.iload_n 2, 8, []) else none) else (bif Nat.beq k 8 then some (.aload_n 0, 9, []) else none)) else (bif Nat.blt k 10 then (bif Nat.beq k 9 then some (.iload_n 1, 10, []) else none) else (bif Nat.blt k 11 then (bif Nat.beq k 10 then some (.iaload, 11, []) else none) else (bif Nat.beq k 11 then some (.aload_n 0, 12, []) else none))))) else (bif Nat.blt k 17 then (bif Nat.blt k 14 then (bif Nat.blt k 13 then (bif Nat.beq k 12 then some (.iload_n 1, 13, []) else none) else (bif Nat.beq k 13 then some (.iconst 2, 14, []) else none)) else (bif Nat.blt k 15 then (bif Nat.beq k 14 then some (.iadd, 15, []) else none) else (bif Nat.blt k 16 then (bif Nat.beq k 15 then some (.iaload, 16, []) else none) else (bif Nat.beq k 16 then some (.iadd, 17, []) else none)))) else (bif Nat.blt k 21 then (bif Nat.blt k 20 then (bif Nat.beq k 17 then some (.if_icmp .ge 31, 20, [48]) else none) else (bif Nat.beq k 20 then some (.iload_n 3, 21, []) else none)) else (bif Nat.blt k 22 then (bif Nat.beq k 21 then some (.aload_n 0, 22, []) else none) else (bif Nat.blt k 23 then (bif Nat.beq k 22 then some (.iload_n 1, 23, []) else none) else (bif Nat.beq k 23 then some (.iconst 1, 24, []) else none)))))) else (bif Nat.blt k 36 then (bif Nat.blt k 31 then (bif Nat.blt k 26 then (bif Nat.blt k 25 then (bif Nat.beq k 24 then some (.iadd, 25, []) else none) else (bif Nat.beq k 25 then some (.iaload, 26, []) else none)) else (bif Nat.blt k 29 then (bif Nat.beq k 26 then some (.if_icmp .lt 22, 29, [48]) else none) else (bif Nat.blt k 30 then (bif Nat.beq k 29 then some (.iload_n 3, 30, []) else none) else (bif Nat.beq k 30 then some (.aload_n 0, 31, []) else none)))) else (bif Nat.blt k 33 then (bif Nat.blt k 32 then (bif Nat.beq k 31 then some (.iload_n 1, 32, []) else none) else (bif Nat.beq k 32 then some (.iconst 1, 33, []) else none)) else (bif Nat.blt k 34 then (bif Nat.beq k 33 then some (.iadd, 34, []) else none) else (bif Nat.blt k 35 then (bif Nat.beq k 34 then some (.iaload, 35, []) else none) else (bif Nat.beq k 35 then some (.aload_n 0, 36, []) else none))))) else (bif Nat.blt k 41 then (bif Nat.blt k 38 then (bif Nat.blt k 37 then (bif Nat.beq k 36 then some (.iload_n 1, 37, []) else none) else (bif Nat.beq k 37 then some (.iconst 3, 38, []) else none)) else (bif Nat.blt k 39 then (bif Nat.beq k 38 then some (.iadd, 39, []) else none) else (bif Nat.blt k 40 then (bif Nat.beq k 39 then some (.iaload, 40, []) else none) else (bif Nat.beq k 40 then some (.iadd, 41, []) else none)))) else (bif Nat.blt k 45 then (bif Nat.blt k 44 then (bif Nat.beq k 41 then some (.if_icmp .ge 7, 44, [48]) else none) else (bif Nat.beq k 44 then some (.iconst 1, 45, []) else none)) else (bif Nat.blt k 48 then (bif Nat.beq k 45 then some (.goto 4, 48, [49]) else none) else (bif Nat.blt k 49 then (bif Nat.beq k 48 then some (.iconst 0, 49, []) else none) else (bif Nat.beq k 49 then some (.ireturn, 50, []) else none))))))) else none
noncomputable def P_M_holds42 : MP := (T_M_holds42, (fun k => mLook k []), (fun k => mLook k []), (fun k => mLook k []), (fun k => mLook k []), (fun k => mLook k []), (fun k => mLook k []), (fun k => mLook k []), (fun k => [49].any (Nat.beq k)), (0, 0, 0, 0), false, (fun _ => none))
set_option maxRecDepth 100000 in
set_option maxHeartbeats 4000000 in
theorem q_M_holds42_e (a1 : Int32) (a2 : Int32) (a3 : Int32) (σ : MSto) (n : Nat) : mexe KT P_M_holds42 (n + 1) (0, [some (mR 42 0), some (mI a1), some (mI a2), some (mI a3)], [], σ, 0, 0) = mG (vp_in a1 30) (mIf (a2 < (gI σ 42 0 (Int32.toNatClampNeg a1))) (some (49, [], [(mI 0)], σ, 0, 0)) (mG (vp_in a1 30) (mG (vp_in (a1 + 2) 30) (mIf (((gI σ 42 0 (Int32.toNatClampNeg a1)) + (gI σ 42 0 (Int32.toNatClampNeg (a1 + 2)))) ≤ a2) (some (49, [], [(mI 0)], σ, 0, 0)) (mG (vp_in (a1 + 1) 30) (mIf (a3 < (gI σ 42 0 (Int32.toNatClampNeg (a1 + 1)))) (some (49, [], [(mI 0)], σ, 0, 0)) (mG (vp_in (a1 + 1) 30) (mG (vp_in (a1 + 3) 30) (mIf (((gI σ 42 0 (Int32.toNatClampNeg (a1 + 1))) + (gI σ 42 0 (Int32.toNatClampNeg (a1 + 3)))) ≤ a3) (some (49, [], [(mI 0)], σ, 0, 0)) (some (49, [], [(mI 1)], σ, 0, 0))))))))))) := rfl
set_option maxRecDepth 100000 in
set_option maxHeartbeats 4000000 in
theorem d_M_holds42 (a1 : Int32) (a2 : Int32) (a3 : Int32) (σ : MSto) (hp : p_M_holds42 a1 a2 a3 σ) : mW1 P_M_holds42 (0, [some (mR 42 0), some (mI a1), some (mI a2), some (mI a3)], [], σ, 0, 0) (mF [49] [mI (v_M_holds42 a1 a2 a3 σ)] σ 0 0) := by
  obtain ⟨g1, g2, g3, g4⟩ := hp
  refine mW1_eq (q_M_holds42_e _ _ _ _) ?_
  try simp only [bI_0]
  repeat' (first
    | exact mTr_e (by decide) rfl rfl (by decide) (by decide)
    | exact mTr_e (by decide) (bI_e0 (by grind)) rfl (by decide) (by decide)
    | exact mTr_e (by decide) (bI_e1 (by grind)) rfl (by decide) (by decide)
    | exact mTr_e (by decide) (ifI0 (by grind)) rfl (by decide) (by decide)
    | exact mTr_e (by decide) (ifI1 (by grind)) rfl (by decide) (by decide)
    | exact mTr_e (by decide) (ifI0 (by grind)) (ifE0 (by grind)) (by decide) (by decide)
    | exact mTr_e (by decide) (ifI1 (by grind)) (ifE1 (by grind)) (by decide) (by decide)
    | exact mTr_e (by decide) (bI_e0 (by grind)) (ifE0 (by grind)) (by decide) (by decide)
    | exact mTr_e (by decide) (bI_e1 (by grind)) (ifE1 (by grind)) (by decide) (by decide)
    | refine mTr_g (by first | assumption | decide | exact inG (by grind)) ?_
    | refine mTr_if (fun _ => ?_) (fun _ => ?_))
theorem tk_M_holds42 : ∀ pc i nx tg, T_M_holds42 pc = some (i, nx, tg) → mOkB prog_14_method_31_code pc i nx tg = true := code_ok (N := 50) (fun k h => by unfold T_M_holds42; rw [h]; rfl) (by decide +kernel)
theorem ok_M_holds42 (l : Launch) : mPOK l "ClothWithManModel" prog_14_method_31_code P_M_holds42 := by
  refine ⟨tk_M_holds42, ?_, ?_, ?_, (fun pc i nx tg kd _ h => by cases h), ?_, ?_, fun pc en h => by cases h⟩
  · intro x ci f ty fin h
    exact mLook_all (Q := fun x v => mFOK "ClothWithManModel" x v.1 v.2.1 v.2.2.1 v.2.2.2 ∧ (v.2.2.2 = true → pIni P_M_holds42 = true → (Cond.fieldLink "ClothWithManModel" x (((mCl[v.1]?).getD ("", fun _ => ("", "", "", false), 0)).2.1 v.2.1).1 (((mCl[v.1]?).getD ("", fun _ => ("", "", "", false), 0)).2.1 v.2.1).2.1 (((mCl[v.1]?).getD ("", fun _ => ("", "", "", false), 0)).2.1 v.2.1).2.2.1 ∈ lw_tbl ∧ (((mCl[v.1]?).getD ("", fun _ => ("", "", "", false), 0)).2.1 v.2.1).1 = "ClothWithManModel"))) fcN x (ci, f, ty, fin) h
  · intro x
    have hh := mLook_all (l := ([] : List (Nat × (Int32 ⊕ Int64)))) (Q := fun x (v : Int32 ⊕ Int64) => (∀ w, v = .inl w → Cond.constant "ClothWithManModel" x w ∈ lw_tbl) ∧ (∀ w, v = .inr w → Cond.constantLong "ClothWithManModel" x w ∈ lw_tbl)) fcN x
    exact ⟨fun w h => (hh _ h).1 w rfl, fun w h => (hh _ h).2 w rfl⟩
  · exact fun x en h => mLook_all (Q := fun x en => mLink "ClothWithManModel" x en ∧ mCtr l en ∧ (en.1.1 = 2 → en.2.2.2.2.2.2 = none)) fcN x en h
  · exact fun x kd h => mLook_all (Q := fun x kd => (kd = 95 ∧ Cond.fieldLink "ClothWithManModel" x "ClothWithMan" "LIKENESSES" "[I" ∈ lw_tbl) ∨ (kd = 96 ∧ Cond.fieldLink "ClothWithManModel" x "ClothWithMan" "APART_BOUNDS" "[I" ∈ lw_tbl)) fcN x kd h
  · exact fun x ci h => mLook_all (Q := fun x ci => ci ≠ 0 ∧ ∃ (C : String) (T : u_T) (N : Nat), mCl[ci]? = some (C, T, N) ∧ Cond.classLink "ClothWithManModel" x C ∈ lw_tbl ∧ Cond.instantiable C N ∈ lw_tbl) fcN x ci h
set_option maxRecDepth 100000 in
theorem c_M_holds42 (l : Launch) : mCtr l E_M_holds42 := mCtr_of (P := P_M_holds42) (own := "ClothWithManModel") mLay_ok rfl (by decide +kernel) rfl (ok_M_holds42 l) (fun h => by cases h) (fun as σ pr rv σ' hF hpr hlv => by
  unfold E_M_holds42 S_M_holds42 at hF
  simp only [] at hF
  split at hF
  · cases hF
    obtain ⟨n, pcF, c1, s1, g1, g2, g3, g4⟩ := mF_inv (d_M_holds42 _ _ _ σ (hpr _ rfl))
    exact ⟨Nat.le_of_ble_eq_true rfl, (fun v h => by cases h; trivial), n, pcF, c1, s1, g1, ⟨mEnd_of (i := .ireturn) (P := P_M_holds42) (rets := [49]) rfl g2, bI_narrow _⟩, g3, g4⟩
  · cases hF
    exact (hpr _ rfl).elim)
/-! ClothWithManModel.threadOf(III)I -/
noncomputable def t_M_mend (x y : Int32) (σ : MSto) (i : Nat) (a : Int32) : Int32 := if (gI σ 42 0 (5 * i) ≤ x ∧ x < gI σ 42 0 (5 * i) + gI σ 42 0 (5 * i + 2)) ∧ (gI σ 42 0 (5 * i + 1) ≤ y ∧ y < gI σ 42 0 (5 * i + 1) + gI σ 42 0 (5 * i + 3)) then gI σ 42 0 (5 * i + 4) else a
noncomputable def w_M_mendYear (x y : Int32) (σ : MSto) : Int32 := nfold (t_M_mend x y σ) (gI σ 13 0 2) (nM σ 3)
noncomputable def v_M_threadOf (x y w : Int32) (σ : MSto) : Int32 := v_M_withStuff (gI σ 41 0 (w_M_mendYear x y σ).toNatClampNeg) x y w σ
def p_M_threadOf (x y w : Int32) (σ : MSto) : Prop := iM σ ∧ vp_in w 4
theorem mendYear_rg (x y : Int32) {σ : MSto} (hi : iM σ) : rg (w_M_mendYear x y σ) 0 199 := by
  unfold w_M_mendYear
  refine nfold_ind (Q := fun a => rg a 0 199) hi.c.2.2.2.2.2.2 (fun i h a ha => ?_)
  unfold t_M_mend
  split
  · exact hi.m i h
  · exact ha
noncomputable def S_M_threadOf : List MV → MSto → Option Prop × Option MV × MSto := fun as σ => match as with
  | [.inr (.inr (some (13, 0))), .inl a0, .inl a1, .inl a2] => (some (p_M_threadOf a0 a1 a2 σ), some (mI (v_M_threadOf a0 a1 a2 σ)), σ)
  | _ => (some False, none, σ)
noncomputable def E_M_threadOf : MEnt := ((1, 3, 13), (2, 49, 0, 0), S_M_threadOf, ((⟨"ClothWithManModel", "threadOf", "(III)I"⟩ : MethodName), prog_14_method_33_code, 6, (some .int)))

def T_M_threadOf : Nat → Option (Instr × Nat × List Nat) := fun k => bif Nat.blt k 66 then (bif Nat.blt k 34 then (bif Nat.blt k 16 then (bif Nat.blt k 7 then (bif Nat.blt k 4 then (bif Nat.blt k 1 then (bif Nat.beq k 0 then some (.aload_n 0, 1, []) else none) else (bif Nat.beq k 1 then some (.getfield 17, 4, []) else none)) else (bif Nat.blt k 6 then (bif Nat.beq k 4 then some (.istore 4, 6, []) else none) else (bif Nat.beq k 6 then some (.iconst 0, 7, []) else none))) else (bif Nat.blt k 11 then (bif Nat.blt k 9 then (bif Nat.beq k 7 then some (.istore 5, 9, []) else none) else (bif Nat.beq k 9 then some (.iload 5, 11, []) else none)) else (bif Nat.blt k 12 then (bif Nat.beq k 11 then some (.iconst 5, 12, []) else none) else (bif Nat.blt k 13 then (bif Nat.beq k 12 then some (.aload_n 0, 13, []) else none) else (bif Nat.beq k 13 then some (.getfield 240, 16, []) else none))))) else (bif Nat.blt k 24 then (bif Nat.blt k 20 then (bif Nat.blt k 17 then (bif Nat.beq k 16 then some (.imul, 17, []) else none) else (bif Nat.beq k 17 then some (.if_icmp .ge 34, 20, [51]) else none)) else (bif Nat.blt k 21 then (bif Nat.beq k 20 then some (.aload_n 0, 21, []) else none) else (bif Nat.beq k 21 then some (.getfield 20, 24, []) else none))) else (bif Nat.blt k 27 then (bif Nat.blt k 26 then (bif Nat.beq k 24 then some (.iload 5, 26, []) else none) else (bif Nat.beq k 26 then some (.iload_n 1, 27, []) else none)) else (bif Nat.blt k 28 then (bif Nat.beq k 27 then some (.iload_n 2, 28, []) else none) else (bif Nat.blt k 31 then (bif Nat.beq k 28 then some (.invokestatic 252, 31, []) else none) else (bif Nat.beq k 31 then some (.ifCond .eq 14, 34, [45]) else none)))))) else (bif Nat.blt k 51 then (bif Nat.blt k 41 then (bif Nat.blt k 38 then (bif Nat.blt k 35 then (bif Nat.beq k 34 then some (.aload_n 0, 35, []) else none) else (bif Nat.beq k 35 then some (.getfield 20, 38, []) else none)) else (bif Nat.blt k 40 then (bif Nat.beq k 38 then some (.iload 5, 40, []) else none) else (bif Nat.beq k 40 then some (.iconst 4, 41, []) else none))) else (bif Nat.blt k 43 then (bif Nat.blt k 42 then (bif Nat.beq k 41 then some (.iadd, 42, []) else none) else (bif Nat.beq k 42 then some (.iaload, 43, []) else none)) else (bif Nat.blt k 45 then (bif Nat.beq k 43 then some (.istore 4, 45, []) else none) else (bif Nat.blt k 48 then (bif Nat.beq k 45 then some (.iinc 5 5, 48, []) else none) else (bif Nat.beq k 48 then some (.goto (-39), 51, [9]) else none))))) else (bif Nat.blt k 59 then (bif Nat.blt k 53 then (bif Nat.blt k 52 then (bif Nat.beq k 51 then some (.aload_n 0, 52, []) else none) else (bif Nat.beq k 52 then some (.aload_n 0, 53, []) else none)) else (bif Nat.blt k 56 then (bif Nat.beq k 53 then some (.getfield 9, 56, []) else none) else (bif Nat.blt k 58 then (bif Nat.beq k 56 then some (.iload 4, 58, []) else none) else (bif Nat.beq k 58 then some (.iaload, 59, []) else none)))) else (bif Nat.blt k 61 then (bif Nat.blt k 60 then (bif Nat.beq k 59 then some (.iload_n 1, 60, []) else none) else (bif Nat.beq k 60 then some (.iload_n 2, 61, []) else none)) else (bif Nat.blt k 62 then (bif Nat.beq k 61 then some (.iload_n 3, 62, []) else none) else (bif Nat.blt k 65 then (bif Nat.beq k 62 then some (.invokevirtual 260, 65, []) else none) else (bif Nat.beq k 65 then some (.ireturn, 66, []) else none))))))) else none
noncomputable def P_M_threadOf : MP := (T_M_threadOf, (fun k => mLook k [(9, (13, 0, (.array .int), true)), (17, (13, 2, .int, false)), (20, (13, 4, (.array .int), true)), (240, (13, 3, .int, false))]), (fun k => mLook k []), (fun k => mLook k [(252, E_M_holds42), (260, E_M_withStuff)]), (fun k => mLook k []), (fun k => mLook k []), (fun k => mLook k []), (fun k => mLook k [(9, [true, true, true, true, true, true])]), (fun k => [65].any (Nat.beq k)), (2, 49, 0, 0), false, (fun _ => none))
set_option maxRecDepth 100000 in
set_option maxHeartbeats 4000000 in
theorem q_M_threadOf_e (a1 : Int32) (a2 : Int32) (a3 : Int32) (σ : MSto) (n : Nat) : mexe KT P_M_threadOf (n + 1) (0, [some (mR 13 0), some (mI a1), some (mI a2), some (mI a3), none, none], [], σ, 0, 0) = mexe KT P_M_threadOf n (9, [some (mR 13 0), some (mI a1), some (mI a2), some (mI a3), some (mI (gI σ 13 0 2)), some (mI 0)], [], σ, 0, 0) := rfl
set_option maxRecDepth 100000 in
set_option maxHeartbeats 4000000 in
theorem q_M_threadOf_9 (x1 : Int32) (x2 : Int32) (x3 : Int32) (x4 : Int32) (x5 : Int32) (σ : MSto) (n : Nat) : mexe KT P_M_threadOf (n + 1) (9, [some (mR 13 0), some (mI x1), some (mI x2), some (mI x3), some (mI x4), some (mI x5)], [], σ, 0, 0) = mIf ((5 * (gI σ 13 0 3)) ≤ x5) (mG (vp_in x4 200) (mG (p_M_withStuff (gI σ 41 0 (Int32.toNatClampNeg x4)) x1 x2 x3 σ) (some (65, [], [(mI (v_M_withStuff (gI σ 41 0 (Int32.toNatClampNeg x4)) x1 x2 x3 σ))], σ, 0, 0)))) (mG (p_M_holds42 x5 x1 x2 σ) (mIf ((v_M_holds42 x5 x1 x2 σ) = 0) (mexe KT P_M_threadOf n (9, [some (mR 13 0), some (mI x1), some (mI x2), some (mI x3), some (mI x4), some (mI (x5 + 5))], [], σ, 0, 0)) (mG (vp_in (x5 + 4) 30) (mexe KT P_M_threadOf n (9, [some (mR 13 0), some (mI x1), some (mI x2), some (mI x3), some (mI (gI σ 42 0 (Int32.toNatClampNeg (x5 + 4)))), some (mI (x5 + 5))], [], σ, 0, 0))))) := rfl
set_option maxRecDepth 100000 in
set_option maxHeartbeats 4000000 in
theorem d_M_threadOf (a1 : Int32) (a2 : Int32) (a3 : Int32) (σ : MSto) (hp : p_M_threadOf a1 a2 a3 σ) : mW1 P_M_threadOf (0, [some (mR 13 0), some (mI a1), some (mI a2), some (mI a3), none, none], [], σ, 0, 0) (mF [65] [mI (v_M_threadOf a1 a2 a3 σ)] σ 0 0) := by
  obtain ⟨hi, hw⟩ := hp
  obtain ⟨hc, hc6⟩ := hi.c.1
  have e6 : 5 * gI σ 13 0 3 = nI (5 * nM σ 3) := by rw [hc]; exact nMul 5 _
  refine mW1_eq (q_M_threadOf_e _ _ _ _) ?_
  try simp only [bI_0]
  refine mTr_k (mW1_loop (fun i => (9, [some (mR 13 0), some (mI a1), some (mI a2), some (mI a3), some (mI (nfold (t_M_mend a1 a2 σ) (gI σ 13 0 2) i)), some (mI (nI (5 * i)))], [], σ, 0, 0)) (nM σ 3) (fun i hlt hn => ?_) ?_)
  · have h0 : (nI (5 * i)).toNatClampNeg = 5 * i := nI_cl (by omega)
    have h1 : (nI (5 * i) + 1).toNatClampNeg = 5 * i + 1 := clA (c := 1) (by omega)
    have h2 : (nI (5 * i) + 2).toNatClampNeg = 5 * i + 2 := clA (c := 2) (by omega)
    have h3 : (nI (5 * i) + 3).toNatClampNeg = 5 * i + 3 := clA (c := 3) (by omega)
    have h4 : (nI (5 * i) + 4).toNatClampNeg = 5 * i + 4 := clA (c := 4) (by omega)
    have h6 : nI (5 * i) + 5 = nI (5 * (i + 1)) := nA (5 * i) 5
    refine mW1_eq (q_M_threadOf_9 _ _ _ _ _ _) ?_
    refine mTr_f (by rw [e6, leN (by omega) (by omega)]; omega) ?_
    refine mTr_g ⟨nI_inb (by omega) (by omega), inb (c := 1) (by omega) (by omega), inb (c := 2) (by omega) (by omega), inb (c := 3) (by omega) (by omega)⟩ ?_
    unfold v_M_holds42
    simp only [h0, h1, h2, h3, h4, bI_0]
    refine mTr_if (fun g => ?_) (fun g => ?_)
    · exact mTr_l hn (by rw [h6, nfold_s]; unfold t_M_mend; rw [if_neg g])
    · refine mTr_g (inb (c := 4) (by omega) (by omega)) ?_
      exact mTr_l hn (by rw [h6, nfold_s]; unfold t_M_mend; rw [if_pos (Classical.not_not.mp g)])
  · refine mW1_eq (q_M_threadOf_9 _ _ _ _ _ _) ?_
    refine mTr_t (by rw [e6]; exact Int32.le_refl _) ?_
    refine mTr_g (rgI (mendYear_rg a1 a2 hi) (by decide) rfl) (mTr_g ⟨hi, hw⟩ ?_)
    exact mTr_e (by decide) rfl rfl (by decide) (by decide)
theorem li_M_260 : mLink "ClothWithManModel" 260 E_M_withStuff := ⟨tw_7_24, tw_1_9, ⟨by decide, by decide⟩, by decide +kernel, Or.inl tw_7_21, (fun h => by cases h), (fun _ => ⟨tw_7_23, tw_0_53, TX12, 71, rfl⟩), (fun h => by cases h)⟩


theorem tk_M_threadOf : ∀ pc i nx tg, T_M_threadOf pc = some (i, nx, tg) → mOkB prog_14_method_33_code pc i nx tg = true := code_ok (N := 66) (fun k h => by unfold T_M_threadOf; rw [h]; rfl) (by decide +kernel)
theorem ok_M_threadOf (l : Launch) : mPOK l "ClothWithManModel" prog_14_method_33_code P_M_threadOf := by
  refine ⟨tk_M_threadOf, ?_, ?_, ?_, (fun pc i nx tg kd _ h => by cases h), ?_, ?_, fun pc en h => by cases h⟩
  · intro x ci f ty fin h
    exact mLook_all (Q := fun x v => mFOK "ClothWithManModel" x v.1 v.2.1 v.2.2.1 v.2.2.2 ∧ (v.2.2.2 = true → pIni P_M_threadOf = true → (Cond.fieldLink "ClothWithManModel" x (((mCl[v.1]?).getD ("", fun _ => ("", "", "", false), 0)).2.1 v.2.1).1 (((mCl[v.1]?).getD ("", fun _ => ("", "", "", false), 0)).2.1 v.2.1).2.1 (((mCl[v.1]?).getD ("", fun _ => ("", "", "", false), 0)).2.1 v.2.1).2.2.1 ∈ lw_tbl ∧ (((mCl[v.1]?).getD ("", fun _ => ("", "", "", false), 0)).2.1 v.2.1).1 = "ClothWithManModel"))) (fcC ⟨fo_M_9, fun h1 h2 => by cases h2⟩ (fcC ⟨fo_M_17, fun h1 h2 => by cases h1⟩ (fcC ⟨fo_M_20, fun h1 h2 => by cases h2⟩ (fcC ⟨fo_M_240, fun h1 h2 => by cases h1⟩ fcN)))) x (ci, f, ty, fin) h
  · intro x
    have hh := mLook_all (l := ([] : List (Nat × (Int32 ⊕ Int64)))) (Q := fun x (v : Int32 ⊕ Int64) => (∀ w, v = .inl w → Cond.constant "ClothWithManModel" x w ∈ lw_tbl) ∧ (∀ w, v = .inr w → Cond.constantLong "ClothWithManModel" x w ∈ lw_tbl)) fcN x
    exact ⟨fun w h => (hh _ h).1 w rfl, fun w h => (hh _ h).2 w rfl⟩
  · exact fun x en h => mLook_all (Q := fun x en => mLink "ClothWithManModel" x en ∧ mCtr l en ∧ (en.1.1 = 2 → en.2.2.2.2.2.2 = none)) (fcC ⟨li_M_252, c_M_holds42 l, (fun h => by cases h)⟩ (fcC ⟨li_M_260, c_M_withStuff l, (fun h => by cases h)⟩ fcN)) x en h
  · exact fun x kd h => mLook_all (Q := fun x kd => (kd = 95 ∧ Cond.fieldLink "ClothWithManModel" x "ClothWithMan" "LIKENESSES" "[I" ∈ lw_tbl) ∨ (kd = 96 ∧ Cond.fieldLink "ClothWithManModel" x "ClothWithMan" "APART_BOUNDS" "[I" ∈ lw_tbl)) fcN x kd h
  · exact fun x ci h => mLook_all (Q := fun x ci => ci ≠ 0 ∧ ∃ (C : String) (T : u_T) (N : Nat), mCl[ci]? = some (C, T, N) ∧ Cond.classLink "ClothWithManModel" x C ∈ lw_tbl ∧ Cond.instantiable C N ∈ lw_tbl) fcN x ci h
set_option maxRecDepth 100000 in
theorem c_M_threadOf (l : Launch) : mCtr l E_M_threadOf := mCtr_of (P := P_M_threadOf) (own := "ClothWithManModel") mLay_ok rfl (by decide +kernel) rfl (ok_M_threadOf l) (fun h => by cases h) (fun as σ pr rv σ' hF hpr hlv => by
  unfold E_M_threadOf S_M_threadOf at hF
  simp only [] at hF
  split at hF
  · cases hF
    obtain ⟨n, pcF, c1, s1, g1, g2, g3, g4⟩ := mF_inv (d_M_threadOf _ _ _ σ (hpr _ rfl))
    exact ⟨Nat.le_of_ble_eq_true rfl, (fun v h => by cases h; trivial), n, pcF, c1, s1, g1, ⟨mEnd_of (i := .ireturn) (P := P_M_threadOf) (rets := [65]) rfl g2, rfl⟩, g3, g4⟩
  · cases hF
    exact (hpr _ rfl).elim)
/-! ClothWithManModel.thread(III)I -/
noncomputable def v_M_thread (a1 : Int32) (a2 : Int32) (a3 : Int32) (σ : MSto) : Int32 := (if (v_M_isPlace a1 a2 (sI σ 13 0 52 0)) = 0 then (-1) else (if (v_M_in a3 0 3 (sI σ 13 0 52 0)) = 0 then (-1) else (v_M_threadOf a1 a2 a3 (sI σ 13 0 52 0))))
def p_M_thread (a1 : Int32) (a2 : Int32) (a3 : Int32) (σ : MSto) : Prop := (¬ ((v_M_isPlace a1 a2 (sI σ 13 0 52 0)) = 0) → (¬ ((v_M_in a3 0 3 (sI σ 13 0 52 0)) = 0) → (p_M_threadOf a1 a2 a3 (sI σ 13 0 52 0))))
noncomputable def e_M_thread (a1 : Int32) (a2 : Int32) (a3 : Int32) (σ : MSto) : MSto := (sI σ 13 0 52 0)
noncomputable def S_M_thread : List MV → MSto → Option Prop × Option MV × MSto := fun as σ => match as with
  | [.inr (.inr (some (13, 0))), .inl a0, .inl a1, .inl a2] => (some (p_M_thread a0 a1 a2 σ), some (mI (v_M_thread a0 a1 a2 σ)), e_M_thread a0 a1 a2 σ)
  | _ => (some False, none, σ)
noncomputable def E_M_thread : MEnt := ((1, 3, 13), (3, 74, 0, 0), S_M_thread, ((⟨"ClothWithManModel", "thread", "(III)I"⟩ : MethodName), prog_14_method_34_code, 4, (some .int)))

def T_M_thread : Nat → Option (Instr × Nat × List Nat) := fun k => bif Nat.blt k 34 then (bif Nat.blt k 16 then (bif Nat.blt k 7 then (bif Nat.blt k 2 then (bif Nat.blt k 1 then (bif Nat.beq k 0 then some (.aload_n 0, 1, []) else none) else (bif Nat.beq k 1 then some (.iconst 0, 2, []) else none)) else (bif Nat.blt k 5 then (bif Nat.beq k 2 then some (.putfield 161, 5, []) else none) else (bif Nat.blt k 6 then (bif Nat.beq k 5 then some (.iload_n 1, 6, []) else none) else (bif Nat.beq k 6 then some (.iload_n 2, 7, []) else none)))) else (bif Nat.blt k 13 then (bif Nat.blt k 10 then (bif Nat.beq k 7 then some (.invokestatic 232, 10, []) else none) else (bif Nat.beq k 10 then some (.ifCond .eq 22, 13, [32]) else none)) else (bif Nat.blt k 14 then (bif Nat.beq k 13 then some (.iload_n 3, 14, []) else none) else (bif Nat.blt k 15 then (bif Nat.beq k 14 then some (.iconst 0, 15, []) else none) else (bif Nat.beq k 15 then some (.iconst 3, 16, []) else none))))) else (bif Nat.blt k 25 then (bif Nat.blt k 22 then (bif Nat.blt k 19 then (bif Nat.beq k 16 then some (.invokestatic 181, 19, []) else none) else (bif Nat.beq k 19 then some (.ifCond .eq 13, 22, [32]) else none)) else (bif Nat.blt k 23 then (bif Nat.beq k 22 then some (.aload_n 0, 23, []) else none) else (bif Nat.blt k 24 then (bif Nat.beq k 23 then some (.iload_n 1, 24, []) else none) else (bif Nat.beq k 24 then some (.iload_n 2, 25, []) else none)))) else (bif Nat.blt k 29 then (bif Nat.blt k 26 then (bif Nat.beq k 25 then some (.iload_n 3, 26, []) else none) else (bif Nat.beq k 26 then some (.invokevirtual 264, 29, []) else none)) else (bif Nat.blt k 32 then (bif Nat.beq k 29 then some (.goto 4, 32, [33]) else none) else (bif Nat.blt k 33 then (bif Nat.beq k 32 then some (.iconst (-1), 33, []) else none) else (bif Nat.beq k 33 then some (.ireturn, 34, []) else none)))))) else none
noncomputable def P_M_thread : MP := (T_M_thread, (fun k => mLook k [(161, (13, 52, .int, false))]), (fun k => mLook k []), (fun k => mLook k [(181, E_M_in), (232, E_M_isPlace), (264, E_M_threadOf)]), (fun k => mLook k []), (fun k => mLook k []), (fun k => mLook k []), (fun k => mLook k []), (fun k => [33].any (Nat.beq k)), (3, 74, 0, 0), false, (fun _ => none))
set_option maxRecDepth 100000 in
set_option maxHeartbeats 4000000 in
theorem q_M_thread_e (a1 : Int32) (a2 : Int32) (a3 : Int32) (σ : MSto) (n : Nat) : mexe KT P_M_thread (n + 1) (0, [some (mR 13 0), some (mI a1), some (mI a2), some (mI a3)], [], σ, 0, 0) = mIf ((v_M_isPlace a1 a2 (sI σ 13 0 52 0)) = 0) (some (33, [], [(mI (-1))], (sI σ 13 0 52 0), 0, 0)) (mIf ((v_M_in a3 0 3 (sI σ 13 0 52 0)) = 0) (some (33, [], [(mI (-1))], (sI σ 13 0 52 0), 0, 0)) (mG (p_M_threadOf a1 a2 a3 (sI σ 13 0 52 0)) (some (33, [], [(mI (v_M_threadOf a1 a2 a3 (sI σ 13 0 52 0)))], (sI σ 13 0 52 0), 0, 0)))) := rfl
set_option maxRecDepth 100000 in
set_option maxHeartbeats 4000000 in
theorem d_M_thread (a1 : Int32) (a2 : Int32) (a3 : Int32) (σ : MSto) (hp : p_M_thread a1 a2 a3 σ) : mW1 P_M_thread (0, [some (mR 13 0), some (mI a1), some (mI a2), some (mI a3)], [], σ, 0, 0) (mF [33] [mI (v_M_thread a1 a2 a3 σ)] (e_M_thread a1 a2 a3 σ) 0 0) := by
  refine mW1_eq (q_M_thread_e _ _ _ _) ?_
  unfold p_M_thread at hp
  refine mTr_if (fun h0 => ?_) (fun h0 => ?_)
  · skip
    exact mTr_e (by decide) (congrArg (fun z => [mI z]) (Eq.symm (if_pos h0))) (Eq.symm (rfl)) (by decide) (by decide)
  · skip
    have hp := hp h0
    refine mTr_if (fun h1 => ?_) (fun h1 => ?_)
    · skip
      exact mTr_e (by decide) (congrArg (fun z => [mI z]) (Eq.symm ((if_neg h0).trans (if_pos h1)))) (Eq.symm (rfl)) (by decide) (by decide)
    · skip
      have hp := hp h1
      refine mTr_g hp ?_
      exact mTr_e (by decide) (congrArg (fun z => [mI z]) (Eq.symm ((if_neg h0).trans (if_neg h1)))) (Eq.symm (rfl)) (by decide) (by decide)
theorem li_M_264 : mLink "ClothWithManModel" 264 E_M_threadOf := ⟨tw_7_17, tw_1_9, ⟨by decide, by decide⟩, by decide +kernel, Or.inl tw_7_14, (fun h => by cases h), (fun _ => ⟨tw_7_16, tw_0_52, TX12, 71, rfl⟩), (fun h => by cases h)⟩



theorem tk_M_thread : ∀ pc i nx tg, T_M_thread pc = some (i, nx, tg) → mOkB prog_14_method_34_code pc i nx tg = true := code_ok (N := 34) (fun k h => by unfold T_M_thread; rw [h]; rfl) (by decide +kernel)
theorem ok_M_thread (l : Launch) : mPOK l "ClothWithManModel" prog_14_method_34_code P_M_thread := by
  refine ⟨tk_M_thread, ?_, ?_, ?_, (fun pc i nx tg kd _ h => by cases h), ?_, ?_, fun pc en h => by cases h⟩
  · intro x ci f ty fin h
    exact mLook_all (Q := fun x v => mFOK "ClothWithManModel" x v.1 v.2.1 v.2.2.1 v.2.2.2 ∧ (v.2.2.2 = true → pIni P_M_thread = true → (Cond.fieldLink "ClothWithManModel" x (((mCl[v.1]?).getD ("", fun _ => ("", "", "", false), 0)).2.1 v.2.1).1 (((mCl[v.1]?).getD ("", fun _ => ("", "", "", false), 0)).2.1 v.2.1).2.1 (((mCl[v.1]?).getD ("", fun _ => ("", "", "", false), 0)).2.1 v.2.1).2.2.1 ∈ lw_tbl ∧ (((mCl[v.1]?).getD ("", fun _ => ("", "", "", false), 0)).2.1 v.2.1).1 = "ClothWithManModel"))) (fcC ⟨fo_M_161, fun h1 h2 => by cases h1⟩ fcN) x (ci, f, ty, fin) h
  · intro x
    have hh := mLook_all (l := ([] : List (Nat × (Int32 ⊕ Int64)))) (Q := fun x (v : Int32 ⊕ Int64) => (∀ w, v = .inl w → Cond.constant "ClothWithManModel" x w ∈ lw_tbl) ∧ (∀ w, v = .inr w → Cond.constantLong "ClothWithManModel" x w ∈ lw_tbl)) fcN x
    exact ⟨fun w h => (hh _ h).1 w rfl, fun w h => (hh _ h).2 w rfl⟩
  · exact fun x en h => mLook_all (Q := fun x en => mLink "ClothWithManModel" x en ∧ mCtr l en ∧ (en.1.1 = 2 → en.2.2.2.2.2.2 = none)) (fcC ⟨li_M_181, c_M_in l, (fun h => by cases h)⟩ (fcC ⟨li_M_232, c_M_isPlace l, (fun h => by cases h)⟩ (fcC ⟨li_M_264, c_M_threadOf l, (fun h => by cases h)⟩ fcN))) x en h
  · exact fun x kd h => mLook_all (Q := fun x kd => (kd = 95 ∧ Cond.fieldLink "ClothWithManModel" x "ClothWithMan" "LIKENESSES" "[I" ∈ lw_tbl) ∨ (kd = 96 ∧ Cond.fieldLink "ClothWithManModel" x "ClothWithMan" "APART_BOUNDS" "[I" ∈ lw_tbl)) fcN x kd h
  · exact fun x ci h => mLook_all (Q := fun x ci => ci ≠ 0 ∧ ∃ (C : String) (T : u_T) (N : Nat), mCl[ci]? = some (C, T, N) ∧ Cond.classLink "ClothWithManModel" x C ∈ lw_tbl ∧ Cond.instantiable C N ∈ lw_tbl) fcN x ci h
set_option maxRecDepth 100000 in
theorem c_M_thread (l : Launch) : mCtr l E_M_thread := mCtr_of (P := P_M_thread) (own := "ClothWithManModel") mLay_ok rfl (by decide +kernel) rfl (ok_M_thread l) (fun h => by cases h) (fun as σ pr rv σ' hF hpr hlv => by
  unfold E_M_thread S_M_thread at hF
  simp only [] at hF
  split at hF
  · cases hF
    obtain ⟨n, pcF, c1, s1, g1, g2, g3, g4⟩ := mF_inv (d_M_thread _ _ _ σ (hpr _ rfl))
    exact ⟨Nat.le_of_ble_eq_true rfl, (fun v h => by cases h; trivial), n, pcF, c1, s1, g1, ⟨mEnd_of (i := .ireturn) (P := P_M_thread) (rets := [33]) rfl g2, rfl⟩, g3, g4⟩
  · cases hF
    exact (hpr _ rfl).elim)
/-! ClothWithManModel.piece(IIII)I -/
noncomputable def v_M_piece (a1 : Int32) (a2 : Int32) (a3 : Int32) (a4 : Int32) (σ : MSto) : Int32 := (if (v_M_isPlace a1 a2 (sI σ 13 0 52 0)) = 0 then (-1) else (if (v_M_in a3 0 3 (sI σ 13 0 52 0)) = 0 then (-1) else (if (v_M_in a4 0 5 (sI σ 13 0 52 0)) = 0 then (-1) else (if (gI (sI σ 13 0 52 0) 13 0 10) = 12 then (-1) else ((gI (sI (sI (sI (sI (sI (sI σ 13 0 52 0) 47 0 (Int32.toNatClampNeg (gI (sI σ 13 0 52 0) 13 0 10)) a1) 48 0 (Int32.toNatClampNeg (gI (sI (sI σ 13 0 52 0) 47 0 (Int32.toNatClampNeg (gI (sI σ 13 0 52 0) 13 0 10)) a1) 13 0 10)) a2) 49 0 (Int32.toNatClampNeg (gI (sI (sI (sI σ 13 0 52 0) 47 0 (Int32.toNatClampNeg (gI (sI σ 13 0 52 0) 13 0 10)) a1) 48 0 (Int32.toNatClampNeg (gI (sI (sI σ 13 0 52 0) 47 0 (Int32.toNatClampNeg (gI (sI σ 13 0 52 0) 13 0 10)) a1) 13 0 10)) a2) 13 0 10)) a3) 50 0 (Int32.toNatClampNeg (gI (sI (sI (sI (sI σ 13 0 52 0) 47 0 (Int32.toNatClampNeg (gI (sI σ 13 0 52 0) 13 0 10)) a1) 48 0 (Int32.toNatClampNeg (gI (sI (sI σ 13 0 52 0) 47 0 (Int32.toNatClampNeg (gI (sI σ 13 0 52 0) 13 0 10)) a1) 13 0 10)) a2) 49 0 (Int32.toNatClampNeg (gI (sI (sI (sI σ 13 0 52 0) 47 0 (Int32.toNatClampNeg (gI (sI σ 13 0 52 0) 13 0 10)) a1) 48 0 (Int32.toNatClampNeg (gI (sI (sI σ 13 0 52 0) 47 0 (Int32.toNatClampNeg (gI (sI σ 13 0 52 0) 13 0 10)) a1) 13 0 10)) a2) 13 0 10)) a3) 13 0 10)) a4) 13 0 10 ((gI (sI (sI (sI (sI (sI σ 13 0 52 0) 47 0 (Int32.toNatClampNeg (gI (sI σ 13 0 52 0) 13 0 10)) a1) 48 0 (Int32.toNatClampNeg (gI (sI (sI σ 13 0 52 0) 47 0 (Int32.toNatClampNeg (gI (sI σ 13 0 52 0) 13 0 10)) a1) 13 0 10)) a2) 49 0 (Int32.toNatClampNeg (gI (sI (sI (sI σ 13 0 52 0) 47 0 (Int32.toNatClampNeg (gI (sI σ 13 0 52 0) 13 0 10)) a1) 48 0 (Int32.toNatClampNeg (gI (sI (sI σ 13 0 52 0) 47 0 (Int32.toNatClampNeg (gI (sI σ 13 0 52 0) 13 0 10)) a1) 13 0 10)) a2) 13 0 10)) a3) 50 0 (Int32.toNatClampNeg (gI (sI (sI (sI (sI σ 13 0 52 0) 47 0 (Int32.toNatClampNeg (gI (sI σ 13 0 52 0) 13 0 10)) a1) 48 0 (Int32.toNatClampNeg (gI (sI (sI σ 13 0 52 0) 47 0 (Int32.toNatClampNeg (gI (sI σ 13 0 52 0) 13 0 10)) a1) 13 0 10)) a2) 49 0 (Int32.toNatClampNeg (gI (sI (sI (sI σ 13 0 52 0) 47 0 (Int32.toNatClampNeg (gI (sI σ 13 0 52 0) 13 0 10)) a1) 48 0 (Int32.toNatClampNeg (gI (sI (sI σ 13 0 52 0) 47 0 (Int32.toNatClampNeg (gI (sI σ 13 0 52 0) 13 0 10)) a1) 13 0 10)) a2) 13 0 10)) a3) 13 0 10)) a4) 13 0 10) + 1)) 13 0 10) - 1)))))
def p_M_piece (a1 : Int32) (a2 : Int32) (a3 : Int32) (a4 : Int32) (σ : MSto) : Prop := (¬ ((v_M_isPlace a1 a2 (sI σ 13 0 52 0)) = 0) → (¬ ((v_M_in a3 0 3 (sI σ 13 0 52 0)) = 0) → (¬ ((v_M_in a4 0 5 (sI σ 13 0 52 0)) = 0) → (¬ ((gI (sI σ 13 0 52 0) 13 0 10) = 12) → ((vp_in (gI (sI σ 13 0 52 0) 13 0 10) 12) ∧ ((vp_in (gI (sI (sI σ 13 0 52 0) 47 0 (Int32.toNatClampNeg (gI (sI σ 13 0 52 0) 13 0 10)) a1) 13 0 10) 12) ∧ ((vp_in (gI (sI (sI (sI σ 13 0 52 0) 47 0 (Int32.toNatClampNeg (gI (sI σ 13 0 52 0) 13 0 10)) a1) 48 0 (Int32.toNatClampNeg (gI (sI (sI σ 13 0 52 0) 47 0 (Int32.toNatClampNeg (gI (sI σ 13 0 52 0) 13 0 10)) a1) 13 0 10)) a2) 13 0 10) 12) ∧ (vp_in (gI (sI (sI (sI (sI σ 13 0 52 0) 47 0 (Int32.toNatClampNeg (gI (sI σ 13 0 52 0) 13 0 10)) a1) 48 0 (Int32.toNatClampNeg (gI (sI (sI σ 13 0 52 0) 47 0 (Int32.toNatClampNeg (gI (sI σ 13 0 52 0) 13 0 10)) a1) 13 0 10)) a2) 49 0 (Int32.toNatClampNeg (gI (sI (sI (sI σ 13 0 52 0) 47 0 (Int32.toNatClampNeg (gI (sI σ 13 0 52 0) 13 0 10)) a1) 48 0 (Int32.toNatClampNeg (gI (sI (sI σ 13 0 52 0) 47 0 (Int32.toNatClampNeg (gI (sI σ 13 0 52 0) 13 0 10)) a1) 13 0 10)) a2) 13 0 10)) a3) 13 0 10) 12))))))))
noncomputable def e_M_piece (a1 : Int32) (a2 : Int32) (a3 : Int32) (a4 : Int32) (σ : MSto) : MSto := (if (v_M_isPlace a1 a2 (sI σ 13 0 52 0)) = 0 then (sI σ 13 0 52 0) else (if (v_M_in a3 0 3 (sI σ 13 0 52 0)) = 0 then (sI σ 13 0 52 0) else (if (v_M_in a4 0 5 (sI σ 13 0 52 0)) = 0 then (sI σ 13 0 52 0) else (if (gI (sI σ 13 0 52 0) 13 0 10) = 12 then (sI σ 13 0 52 0) else (sI (sI (sI (sI (sI (sI σ 13 0 52 0) 47 0 (Int32.toNatClampNeg (gI (sI σ 13 0 52 0) 13 0 10)) a1) 48 0 (Int32.toNatClampNeg (gI (sI (sI σ 13 0 52 0) 47 0 (Int32.toNatClampNeg (gI (sI σ 13 0 52 0) 13 0 10)) a1) 13 0 10)) a2) 49 0 (Int32.toNatClampNeg (gI (sI (sI (sI σ 13 0 52 0) 47 0 (Int32.toNatClampNeg (gI (sI σ 13 0 52 0) 13 0 10)) a1) 48 0 (Int32.toNatClampNeg (gI (sI (sI σ 13 0 52 0) 47 0 (Int32.toNatClampNeg (gI (sI σ 13 0 52 0) 13 0 10)) a1) 13 0 10)) a2) 13 0 10)) a3) 50 0 (Int32.toNatClampNeg (gI (sI (sI (sI (sI σ 13 0 52 0) 47 0 (Int32.toNatClampNeg (gI (sI σ 13 0 52 0) 13 0 10)) a1) 48 0 (Int32.toNatClampNeg (gI (sI (sI σ 13 0 52 0) 47 0 (Int32.toNatClampNeg (gI (sI σ 13 0 52 0) 13 0 10)) a1) 13 0 10)) a2) 49 0 (Int32.toNatClampNeg (gI (sI (sI (sI σ 13 0 52 0) 47 0 (Int32.toNatClampNeg (gI (sI σ 13 0 52 0) 13 0 10)) a1) 48 0 (Int32.toNatClampNeg (gI (sI (sI σ 13 0 52 0) 47 0 (Int32.toNatClampNeg (gI (sI σ 13 0 52 0) 13 0 10)) a1) 13 0 10)) a2) 13 0 10)) a3) 13 0 10)) a4) 13 0 10 ((gI (sI (sI (sI (sI (sI σ 13 0 52 0) 47 0 (Int32.toNatClampNeg (gI (sI σ 13 0 52 0) 13 0 10)) a1) 48 0 (Int32.toNatClampNeg (gI (sI (sI σ 13 0 52 0) 47 0 (Int32.toNatClampNeg (gI (sI σ 13 0 52 0) 13 0 10)) a1) 13 0 10)) a2) 49 0 (Int32.toNatClampNeg (gI (sI (sI (sI σ 13 0 52 0) 47 0 (Int32.toNatClampNeg (gI (sI σ 13 0 52 0) 13 0 10)) a1) 48 0 (Int32.toNatClampNeg (gI (sI (sI σ 13 0 52 0) 47 0 (Int32.toNatClampNeg (gI (sI σ 13 0 52 0) 13 0 10)) a1) 13 0 10)) a2) 13 0 10)) a3) 50 0 (Int32.toNatClampNeg (gI (sI (sI (sI (sI σ 13 0 52 0) 47 0 (Int32.toNatClampNeg (gI (sI σ 13 0 52 0) 13 0 10)) a1) 48 0 (Int32.toNatClampNeg (gI (sI (sI σ 13 0 52 0) 47 0 (Int32.toNatClampNeg (gI (sI σ 13 0 52 0) 13 0 10)) a1) 13 0 10)) a2) 49 0 (Int32.toNatClampNeg (gI (sI (sI (sI σ 13 0 52 0) 47 0 (Int32.toNatClampNeg (gI (sI σ 13 0 52 0) 13 0 10)) a1) 48 0 (Int32.toNatClampNeg (gI (sI (sI σ 13 0 52 0) 47 0 (Int32.toNatClampNeg (gI (sI σ 13 0 52 0) 13 0 10)) a1) 13 0 10)) a2) 13 0 10)) a3) 13 0 10)) a4) 13 0 10) + 1))))))
noncomputable def S_M_piece : List MV → MSto → Option Prop × Option MV × MSto := fun as σ => match as with
  | [.inr (.inr (some (13, 0))), .inl a0, .inl a1, .inl a2, .inl a3] => (some (p_M_piece a0 a1 a2 a3 σ), some (mI (v_M_piece a0 a1 a2 a3 σ)), e_M_piece a0 a1 a2 a3 σ)
  | _ => (some False, none, σ)
noncomputable def E_M_piece : MEnt := ((1, 4, 13), (2, 43, 0, 0), S_M_piece, ((⟨"ClothWithManModel", "piece", "(IIII)I"⟩ : MethodName), prog_14_method_35_code, 5, (some .int)))

def T_M_piece : Nat → Option (Instr × Nat × List Nat) := fun k => bif Nat.blt k 101 then (bif Nat.blt k 53 then (bif Nat.blt k 25 then (bif Nat.blt k 13 then (bif Nat.blt k 5 then (bif Nat.blt k 1 then (bif Nat.beq k 0 then some (.aload_n 0, 1, []) else none) else (bif Nat.blt k 2 then (bif Nat.beq k 1 then some (.iconst 0, 2, []) else none) else (bif Nat.beq k 2 then some (.putfield 161, 5, []) else none))) else (bif Nat.blt k 7 then (bif Nat.blt k 6 then (bif Nat.beq k 5 then some (.iload_n 1, 6, []) else none) else (bif Nat.beq k 6 then some (.iload_n 2, 7, []) else none)) else (bif Nat.blt k 10 then (bif Nat.beq k 7 then some (.invokestatic 232, 10, []) else none) else (bif Nat.beq k 10 then some (.ifCond .eq 31, 13, [41]) else none)))) else (bif Nat.blt k 16 then (bif Nat.blt k 14 then (bif Nat.beq k 13 then some (.iload_n 3, 14, []) else none) else (bif Nat.blt k 15 then (bif Nat.beq k 14 then some (.iconst 0, 15, []) else none) else (bif Nat.beq k 15 then some (.iconst 3, 16, []) else none))) else (bif Nat.blt k 22 then (bif Nat.blt k 19 then (bif Nat.beq k 16 then some (.invokestatic 181, 19, []) else none) else (bif Nat.beq k 19 then some (.ifCond .eq 22, 22, [41]) else none)) else (bif Nat.blt k 24 then (bif Nat.beq k 22 then some (.iload 4, 24, []) else none) else (bif Nat.beq k 24 then some (.iconst 0, 25, []) else none))))) else (bif Nat.blt k 41 then (bif Nat.blt k 32 then (bif Nat.blt k 26 then (bif Nat.beq k 25 then some (.iconst 5, 26, []) else none) else (bif Nat.blt k 29 then (bif Nat.beq k 26 then some (.invokestatic 181, 29, []) else none) else (bif Nat.beq k 29 then some (.ifCond .eq 12, 32, [41]) else none))) else (bif Nat.blt k 36 then (bif Nat.blt k 33 then (bif Nat.beq k 32 then some (.aload_n 0, 33, []) else none) else (bif Nat.beq k 33 then some (.getfield 185, 36, []) else none)) else (bif Nat.blt k 38 then (bif Nat.beq k 36 then some (.bipush 12, 38, []) else none) else (bif Nat.beq k 38 then some (.if_icmp .ne 5, 41, [43]) else none)))) else (bif Nat.blt k 47 then (bif Nat.blt k 43 then (bif Nat.blt k 42 then (bif Nat.beq k 41 then some (.iconst (-1), 42, []) else none) else (bif Nat.beq k 42 then some (.ireturn, 43, []) else none)) else (bif Nat.blt k 44 then (bif Nat.beq k 43 then some (.aload_n 0, 44, []) else none) else (bif Nat.beq k 44 then some (.getfield 35, 47, []) else none))) else (bif Nat.blt k 51 then (bif Nat.blt k 48 then (bif Nat.beq k 47 then some (.aload_n 0, 48, []) else none) else (bif Nat.beq k 48 then some (.getfield 185, 51, []) else none)) else (bif Nat.blt k 52 then (bif Nat.beq k 51 then some (.iload_n 1, 52, []) else none) else (bif Nat.beq k 52 then some (.iastore, 53, []) else none)))))) else (bif Nat.blt k 77 then (bif Nat.blt k 64 then (bif Nat.blt k 58 then (bif Nat.blt k 54 then (bif Nat.beq k 53 then some (.aload_n 0, 54, []) else none) else (bif Nat.blt k 57 then (bif Nat.beq k 54 then some (.getfield 38, 57, []) else none) else (bif Nat.beq k 57 then some (.aload_n 0, 58, []) else none))) else (bif Nat.blt k 62 then (bif Nat.blt k 61 then (bif Nat.beq k 58 then some (.getfield 185, 61, []) else none) else (bif Nat.beq k 61 then some (.iload_n 2, 62, []) else none)) else (bif Nat.blt k 63 then (bif Nat.beq k 62 then some (.iastore, 63, []) else none) else (bif Nat.beq k 63 then some (.aload_n 0, 64, []) else none)))) else (bif Nat.blt k 71 then (bif Nat.blt k 67 then (bif Nat.beq k 64 then some (.getfield 41, 67, []) else none) else (bif Nat.blt k 68 then (bif Nat.beq k 67 then some (.aload_n 0, 68, []) else none) else (bif Nat.beq k 68 then some (.getfield 185, 71, []) else none))) else (bif Nat.blt k 73 then (bif Nat.blt k 72 then (bif Nat.beq k 71 then some (.iload_n 3, 72, []) else none) else (bif Nat.beq k 72 then some (.iastore, 73, []) else none)) else (bif Nat.blt k 74 then (bif Nat.beq k 73 then some (.aload_n 0, 74, []) else none) else (bif Nat.beq k 74 then some (.getfield 44, 77, []) else none))))) else (bif Nat.blt k 89 then (bif Nat.blt k 83 then (bif Nat.blt k 78 then (bif Nat.beq k 77 then some (.aload_n 0, 78, []) else none) else (bif Nat.blt k 81 then (bif Nat.beq k 78 then some (.getfield 185, 81, []) else none) else (bif Nat.beq k 81 then some (.iload 4, 83, []) else none))) else (bif Nat.blt k 85 then (bif Nat.blt k 84 then (bif Nat.beq k 83 then some (.iastore, 84, []) else none) else (bif Nat.beq k 84 then some (.aload_n 0, 85, []) else none)) else (bif Nat.blt k 86 then (bif Nat.beq k 85 then some (.dup, 86, []) else none) else (bif Nat.beq k 86 then some (.getfield 185, 89, []) else none)))) else (bif Nat.blt k 95 then (bif Nat.blt k 91 then (bif Nat.blt k 90 then (bif Nat.beq k 89 then some (.iconst 1, 90, []) else none) else (bif Nat.beq k 90 then some (.iadd, 91, []) else none)) else (bif Nat.blt k 94 then (bif Nat.beq k 91 then some (.putfield 185, 94, []) else none) else (bif Nat.beq k 94 then some (.aload_n 0, 95, []) else none))) else (bif Nat.blt k 99 then (bif Nat.blt k 98 then (bif Nat.beq k 95 then some (.getfield 185, 98, []) else none) else (bif Nat.beq k 98 then some (.iconst 1, 99, []) else none)) else (bif Nat.blt k 100 then (bif Nat.beq k 99 then some (.isub, 100, []) else none) else (bif Nat.beq k 100 then some (.ireturn, 101, []) else none))))))) else none
noncomputable def P_M_piece : MP := (T_M_piece, (fun k => mLook k [(35, (13, 11, (.array .int), true)), (38, (13, 12, (.array .int), true)), (41, (13, 13, (.array .int), true)), (44, (13, 14, (.array .int), true)), (161, (13, 52, .int, false)), (185, (13, 10, .int, false))]), (fun k => mLook k []), (fun k => mLook k [(181, E_M_in), (232, E_M_isPlace)]), (fun k => mLook k []), (fun k => mLook k []), (fun k => mLook k []), (fun k => mLook k []), (fun k => [42, 100].any (Nat.beq k)), (2, 43, 0, 0), false, (fun _ => none))
set_option maxRecDepth 100000 in
set_option maxHeartbeats 4000000 in
theorem q_M_piece_e (a1 : Int32) (a2 : Int32) (a3 : Int32) (a4 : Int32) (σ : MSto) (n : Nat) : mexe KT P_M_piece (n + 1) (0, [some (mR 13 0), some (mI a1), some (mI a2), some (mI a3), some (mI a4)], [], σ, 0, 0) = mIf ((v_M_isPlace a1 a2 (sI σ 13 0 52 0)) = 0) (some (42, [], [(mI (-1))], (sI σ 13 0 52 0), 0, 0)) (mIf ((v_M_in a3 0 3 (sI σ 13 0 52 0)) = 0) (some (42, [], [(mI (-1))], (sI σ 13 0 52 0), 0, 0)) (mIf ((v_M_in a4 0 5 (sI σ 13 0 52 0)) = 0) (some (42, [], [(mI (-1))], (sI σ 13 0 52 0), 0, 0)) (mIf ((gI (sI σ 13 0 52 0) 13 0 10) = 12) (some (42, [], [(mI (-1))], (sI σ 13 0 52 0), 0, 0)) (mG (vp_in (gI (sI σ 13 0 52 0) 13 0 10) 12) (mG (vp_in (gI (sI (sI σ 13 0 52 0) 47 0 (Int32.toNatClampNeg (gI (sI σ 13 0 52 0) 13 0 10)) a1) 13 0 10) 12) (mG (vp_in (gI (sI (sI (sI σ 13 0 52 0) 47 0 (Int32.toNatClampNeg (gI (sI σ 13 0 52 0) 13 0 10)) a1) 48 0 (Int32.toNatClampNeg (gI (sI (sI σ 13 0 52 0) 47 0 (Int32.toNatClampNeg (gI (sI σ 13 0 52 0) 13 0 10)) a1) 13 0 10)) a2) 13 0 10) 12) (mG (vp_in (gI (sI (sI (sI (sI σ 13 0 52 0) 47 0 (Int32.toNatClampNeg (gI (sI σ 13 0 52 0) 13 0 10)) a1) 48 0 (Int32.toNatClampNeg (gI (sI (sI σ 13 0 52 0) 47 0 (Int32.toNatClampNeg (gI (sI σ 13 0 52 0) 13 0 10)) a1) 13 0 10)) a2) 49 0 (Int32.toNatClampNeg (gI (sI (sI (sI σ 13 0 52 0) 47 0 (Int32.toNatClampNeg (gI (sI σ 13 0 52 0) 13 0 10)) a1) 48 0 (Int32.toNatClampNeg (gI (sI (sI σ 13 0 52 0) 47 0 (Int32.toNatClampNeg (gI (sI σ 13 0 52 0) 13 0 10)) a1) 13 0 10)) a2) 13 0 10)) a3) 13 0 10) 12) (some (100, [], [(mI ((gI (sI (sI (sI (sI (sI (sI σ 13 0 52 0) 47 0 (Int32.toNatClampNeg (gI (sI σ 13 0 52 0) 13 0 10)) a1) 48 0 (Int32.toNatClampNeg (gI (sI (sI σ 13 0 52 0) 47 0 (Int32.toNatClampNeg (gI (sI σ 13 0 52 0) 13 0 10)) a1) 13 0 10)) a2) 49 0 (Int32.toNatClampNeg (gI (sI (sI (sI σ 13 0 52 0) 47 0 (Int32.toNatClampNeg (gI (sI σ 13 0 52 0) 13 0 10)) a1) 48 0 (Int32.toNatClampNeg (gI (sI (sI σ 13 0 52 0) 47 0 (Int32.toNatClampNeg (gI (sI σ 13 0 52 0) 13 0 10)) a1) 13 0 10)) a2) 13 0 10)) a3) 50 0 (Int32.toNatClampNeg (gI (sI (sI (sI (sI σ 13 0 52 0) 47 0 (Int32.toNatClampNeg (gI (sI σ 13 0 52 0) 13 0 10)) a1) 48 0 (Int32.toNatClampNeg (gI (sI (sI σ 13 0 52 0) 47 0 (Int32.toNatClampNeg (gI (sI σ 13 0 52 0) 13 0 10)) a1) 13 0 10)) a2) 49 0 (Int32.toNatClampNeg (gI (sI (sI (sI σ 13 0 52 0) 47 0 (Int32.toNatClampNeg (gI (sI σ 13 0 52 0) 13 0 10)) a1) 48 0 (Int32.toNatClampNeg (gI (sI (sI σ 13 0 52 0) 47 0 (Int32.toNatClampNeg (gI (sI σ 13 0 52 0) 13 0 10)) a1) 13 0 10)) a2) 13 0 10)) a3) 13 0 10)) a4) 13 0 10 ((gI (sI (sI (sI (sI (sI σ 13 0 52 0) 47 0 (Int32.toNatClampNeg (gI (sI σ 13 0 52 0) 13 0 10)) a1) 48 0 (Int32.toNatClampNeg (gI (sI (sI σ 13 0 52 0) 47 0 (Int32.toNatClampNeg (gI (sI σ 13 0 52 0) 13 0 10)) a1) 13 0 10)) a2) 49 0 (Int32.toNatClampNeg (gI (sI (sI (sI σ 13 0 52 0) 47 0 (Int32.toNatClampNeg (gI (sI σ 13 0 52 0) 13 0 10)) a1) 48 0 (Int32.toNatClampNeg (gI (sI (sI σ 13 0 52 0) 47 0 (Int32.toNatClampNeg (gI (sI σ 13 0 52 0) 13 0 10)) a1) 13 0 10)) a2) 13 0 10)) a3) 50 0 (Int32.toNatClampNeg (gI (sI (sI (sI (sI σ 13 0 52 0) 47 0 (Int32.toNatClampNeg (gI (sI σ 13 0 52 0) 13 0 10)) a1) 48 0 (Int32.toNatClampNeg (gI (sI (sI σ 13 0 52 0) 47 0 (Int32.toNatClampNeg (gI (sI σ 13 0 52 0) 13 0 10)) a1) 13 0 10)) a2) 49 0 (Int32.toNatClampNeg (gI (sI (sI (sI σ 13 0 52 0) 47 0 (Int32.toNatClampNeg (gI (sI σ 13 0 52 0) 13 0 10)) a1) 48 0 (Int32.toNatClampNeg (gI (sI (sI σ 13 0 52 0) 47 0 (Int32.toNatClampNeg (gI (sI σ 13 0 52 0) 13 0 10)) a1) 13 0 10)) a2) 13 0 10)) a3) 13 0 10)) a4) 13 0 10) + 1)) 13 0 10) - 1))], (sI (sI (sI (sI (sI (sI σ 13 0 52 0) 47 0 (Int32.toNatClampNeg (gI (sI σ 13 0 52 0) 13 0 10)) a1) 48 0 (Int32.toNatClampNeg (gI (sI (sI σ 13 0 52 0) 47 0 (Int32.toNatClampNeg (gI (sI σ 13 0 52 0) 13 0 10)) a1) 13 0 10)) a2) 49 0 (Int32.toNatClampNeg (gI (sI (sI (sI σ 13 0 52 0) 47 0 (Int32.toNatClampNeg (gI (sI σ 13 0 52 0) 13 0 10)) a1) 48 0 (Int32.toNatClampNeg (gI (sI (sI σ 13 0 52 0) 47 0 (Int32.toNatClampNeg (gI (sI σ 13 0 52 0) 13 0 10)) a1) 13 0 10)) a2) 13 0 10)) a3) 50 0 (Int32.toNatClampNeg (gI (sI (sI (sI (sI σ 13 0 52 0) 47 0 (Int32.toNatClampNeg (gI (sI σ 13 0 52 0) 13 0 10)) a1) 48 0 (Int32.toNatClampNeg (gI (sI (sI σ 13 0 52 0) 47 0 (Int32.toNatClampNeg (gI (sI σ 13 0 52 0) 13 0 10)) a1) 13 0 10)) a2) 49 0 (Int32.toNatClampNeg (gI (sI (sI (sI σ 13 0 52 0) 47 0 (Int32.toNatClampNeg (gI (sI σ 13 0 52 0) 13 0 10)) a1) 48 0 (Int32.toNatClampNeg (gI (sI (sI σ 13 0 52 0) 47 0 (Int32.toNatClampNeg (gI (sI σ 13 0 52 0) 13 0 10)) a1) 13 0 10)) a2) 13 0 10)) a3) 13 0 10)) a4) 13 0 10 ((gI (sI (sI (sI (sI (sI σ 13 0 52 0) 47 0 (Int32.toNatClampNeg (gI (sI σ 13 0 52 0) 13 0 10)) a1) 48 0 (Int32.toNatClampNeg (gI (sI (sI σ 13 0 52 0) 47 0 (Int32.toNatClampNeg (gI (sI σ 13 0 52 0) 13 0 10)) a1) 13 0 10)) a2) 49 0 (Int32.toNatClampNeg (gI (sI (sI (sI σ 13 0 52 0) 47 0 (Int32.toNatClampNeg (gI (sI σ 13 0 52 0) 13 0 10)) a1) 48 0 (Int32.toNatClampNeg (gI (sI (sI σ 13 0 52 0) 47 0 (Int32.toNatClampNeg (gI (sI σ 13 0 52 0) 13 0 10)) a1) 13 0 10)) a2) 13 0 10)) a3) 50 0 (Int32.toNatClampNeg (gI (sI (sI (sI (sI σ 13 0 52 0) 47 0 (Int32.toNatClampNeg (gI (sI σ 13 0 52 0) 13 0 10)) a1) 48 0 (Int32.toNatClampNeg (gI (sI (sI σ 13 0 52 0) 47 0 (Int32.toNatClampNeg (gI (sI σ 13 0 52 0) 13 0 10)) a1) 13 0 10)) a2) 49 0 (Int32.toNatClampNeg (gI (sI (sI (sI σ 13 0 52 0) 47 0 (Int32.toNatClampNeg (gI (sI σ 13 0 52 0) 13 0 10)) a1) 48 0 (Int32.toNatClampNeg (gI (sI (sI σ 13 0 52 0) 47 0 (Int32.toNatClampNeg (gI (sI σ 13 0 52 0) 13 0 10)) a1) 13 0 10)) a2) 13 0 10)) a3) 13 0 10)) a4) 13 0 10) + 1)), 0, 0))))))))) := rfl
set_option maxRecDepth 100000 in
set_option maxHeartbeats 4000000 in
theorem d_M_piece (a1 : Int32) (a2 : Int32) (a3 : Int32) (a4 : Int32) (σ : MSto) (hp : p_M_piece a1 a2 a3 a4 σ) : mW1 P_M_piece (0, [some (mR 13 0), some (mI a1), some (mI a2), some (mI a3), some (mI a4)], [], σ, 0, 0) (mF [42, 100] [mI (v_M_piece a1 a2 a3 a4 σ)] (e_M_piece a1 a2 a3 a4 σ) 0 0) := by
  refine mW1_eq (q_M_piece_e _ _ _ _ _) ?_
  unfold p_M_piece at hp
  refine mTr_if (fun h0 => ?_) (fun h0 => ?_)
  · skip
    exact mTr_e (by decide) (congrArg (fun z => [mI z]) (Eq.symm (if_pos h0))) (Eq.symm (if_pos h0)) (by decide) (by decide)
  · skip
    have hp := hp h0
    refine mTr_if (fun h1 => ?_) (fun h1 => ?_)
    · skip
      exact mTr_e (by decide) (congrArg (fun z => [mI z]) (Eq.symm ((if_neg h0).trans (if_pos h1)))) (Eq.symm ((if_neg h0).trans (if_pos h1))) (by decide) (by decide)
    · skip
      have hp := hp h1
      refine mTr_if (fun h2 => ?_) (fun h2 => ?_)
      · skip
        exact mTr_e (by decide) (congrArg (fun z => [mI z]) (Eq.symm ((if_neg h0).trans ((if_neg h1).trans (if_pos h2))))) (Eq.symm ((if_neg h0).trans ((if_neg h1).trans (if_pos h2)))) (by decide) (by decide)
      · skip
        have hp := hp h2
        refine mTr_if (fun h3 => ?_) (fun h3 => ?_)
        · skip
          exact mTr_e (by decide) (congrArg (fun z => [mI z]) (Eq.symm ((if_neg h0).trans ((if_neg h1).trans ((if_neg h2).trans (if_pos h3)))))) (Eq.symm ((if_neg h0).trans ((if_neg h1).trans ((if_neg h2).trans (if_pos h3))))) (by decide) (by decide)
        · skip
          have hp := hp h3
          refine mTr_g hp.1 ?_
          have hp := hp.2
          refine mTr_g hp.1 ?_
          have hp := hp.2
          refine mTr_g hp.1 ?_
          have hp := hp.2
          refine mTr_g hp ?_
          exact mTr_e (by decide) (congrArg (fun z => [mI z]) (Eq.symm ((if_neg h0).trans ((if_neg h1).trans ((if_neg h2).trans (if_neg h3)))))) (Eq.symm ((if_neg h0).trans ((if_neg h1).trans ((if_neg h2).trans (if_neg h3))))) (by decide) (by decide)


theorem tk_M_piece : ∀ pc i nx tg, T_M_piece pc = some (i, nx, tg) → mOkB prog_14_method_35_code pc i nx tg = true := code_ok (N := 101) (fun k h => by unfold T_M_piece; rw [h]; rfl) (by decide +kernel)
theorem ok_M_piece (l : Launch) : mPOK l "ClothWithManModel" prog_14_method_35_code P_M_piece := by
  refine ⟨tk_M_piece, ?_, ?_, ?_, (fun pc i nx tg kd _ h => by cases h), ?_, ?_, fun pc en h => by cases h⟩
  · intro x ci f ty fin h
    exact mLook_all (Q := fun x v => mFOK "ClothWithManModel" x v.1 v.2.1 v.2.2.1 v.2.2.2 ∧ (v.2.2.2 = true → pIni P_M_piece = true → (Cond.fieldLink "ClothWithManModel" x (((mCl[v.1]?).getD ("", fun _ => ("", "", "", false), 0)).2.1 v.2.1).1 (((mCl[v.1]?).getD ("", fun _ => ("", "", "", false), 0)).2.1 v.2.1).2.1 (((mCl[v.1]?).getD ("", fun _ => ("", "", "", false), 0)).2.1 v.2.1).2.2.1 ∈ lw_tbl ∧ (((mCl[v.1]?).getD ("", fun _ => ("", "", "", false), 0)).2.1 v.2.1).1 = "ClothWithManModel"))) (fcC ⟨fo_M_35, fun h1 h2 => by cases h2⟩ (fcC ⟨fo_M_38, fun h1 h2 => by cases h2⟩ (fcC ⟨fo_M_41, fun h1 h2 => by cases h2⟩ (fcC ⟨fo_M_44, fun h1 h2 => by cases h2⟩ (fcC ⟨fo_M_161, fun h1 h2 => by cases h1⟩ (fcC ⟨fo_M_185, fun h1 h2 => by cases h1⟩ fcN)))))) x (ci, f, ty, fin) h
  · intro x
    have hh := mLook_all (l := ([] : List (Nat × (Int32 ⊕ Int64)))) (Q := fun x (v : Int32 ⊕ Int64) => (∀ w, v = .inl w → Cond.constant "ClothWithManModel" x w ∈ lw_tbl) ∧ (∀ w, v = .inr w → Cond.constantLong "ClothWithManModel" x w ∈ lw_tbl)) fcN x
    exact ⟨fun w h => (hh _ h).1 w rfl, fun w h => (hh _ h).2 w rfl⟩
  · exact fun x en h => mLook_all (Q := fun x en => mLink "ClothWithManModel" x en ∧ mCtr l en ∧ (en.1.1 = 2 → en.2.2.2.2.2.2 = none)) (fcC ⟨li_M_181, c_M_in l, (fun h => by cases h)⟩ (fcC ⟨li_M_232, c_M_isPlace l, (fun h => by cases h)⟩ fcN)) x en h
  · exact fun x kd h => mLook_all (Q := fun x kd => (kd = 95 ∧ Cond.fieldLink "ClothWithManModel" x "ClothWithMan" "LIKENESSES" "[I" ∈ lw_tbl) ∨ (kd = 96 ∧ Cond.fieldLink "ClothWithManModel" x "ClothWithMan" "APART_BOUNDS" "[I" ∈ lw_tbl)) fcN x kd h
  · exact fun x ci h => mLook_all (Q := fun x ci => ci ≠ 0 ∧ ∃ (C : String) (T : u_T) (N : Nat), mCl[ci]? = some (C, T, N) ∧ Cond.classLink "ClothWithManModel" x C ∈ lw_tbl ∧ Cond.instantiable C N ∈ lw_tbl) fcN x ci h
set_option maxRecDepth 100000 in
theorem c_M_piece (l : Launch) : mCtr l E_M_piece := mCtr_of (P := P_M_piece) (own := "ClothWithManModel") mLay_ok rfl (by decide +kernel) rfl (ok_M_piece l) (fun h => by cases h) (fun as σ pr rv σ' hF hpr hlv => by
  unfold E_M_piece S_M_piece at hF
  simp only [] at hF
  split at hF
  · cases hF
    obtain ⟨n, pcF, c1, s1, g1, g2, g3, g4⟩ := mF_inv (d_M_piece _ _ _ _ σ (hpr _ rfl))
    exact ⟨Nat.le_of_ble_eq_true rfl, (fun v h => by cases h; trivial), n, pcF, c1, s1, g1, ⟨mEnd_of (i := .ireturn) (P := P_M_piece) (rets := [42, 100]) rfl g2, rfl⟩, g3, g4⟩
  · cases hF
    exact (hpr _ rfl).elim)
/-! ClothWithManModel.truthOf(I)I -/
noncomputable def v_M_truthOf (a1 : Int32) (σ : MSto) : Int32 := ((v_M_threadOf (gI σ 47 0 (Int32.toNatClampNeg a1)) (gI σ 48 0 (Int32.toNatClampNeg a1)) (gI σ 49 0 (Int32.toNatClampNeg a1)) σ) + (gI σ 45 0 (Int32.toNatClampNeg (gI σ 50 0 (Int32.toNatClampNeg a1)))))
def p_M_truthOf (a1 : Int32) (σ : MSto) : Prop := ((vp_in a1 12) ∧ ((vp_in a1 12) ∧ ((vp_in a1 12) ∧ ((p_M_threadOf (gI σ 47 0 (Int32.toNatClampNeg a1)) (gI σ 48 0 (Int32.toNatClampNeg a1)) (gI σ 49 0 (Int32.toNatClampNeg a1)) σ) ∧ ((vp_in a1 12) ∧ (vp_in (gI σ 50 0 (Int32.toNatClampNeg a1)) 6))))))
noncomputable def S_M_truthOf : List MV → MSto → Option Prop × Option MV × MSto := fun as σ => match as with
  | [.inr (.inr (some (13, 0))), .inl a0] => (some (p_M_truthOf a0 σ), some (mI (v_M_truthOf a0 σ)), σ)
  | _ => (some False, none, σ)
noncomputable def E_M_truthOf : MEnt := ((1, 1, 13), (3, 74, 0, 0), S_M_truthOf, ((⟨"ClothWithManModel", "truthOf", "(I)I"⟩ : MethodName), prog_14_method_36_code, 2, (some .int)))

def T_M_truthOf : Nat → Option (Instr × Nat × List Nat) := fun k => bif Nat.blt k 35 then (bif Nat.blt k 17 then (bif Nat.blt k 7 then (bif Nat.blt k 2 then (bif Nat.blt k 1 then (bif Nat.beq k 0 then some (.aload_n 0, 1, []) else none) else (bif Nat.beq k 1 then some (.aload_n 0, 2, []) else none)) else (bif Nat.blt k 5 then (bif Nat.beq k 2 then some (.getfield 35, 5, []) else none) else (bif Nat.blt k 6 then (bif Nat.beq k 5 then some (.iload_n 1, 6, []) else none) else (bif Nat.beq k 6 then some (.iaload, 7, []) else none)))) else (bif Nat.blt k 12 then (bif Nat.blt k 8 then (bif Nat.beq k 7 then some (.aload_n 0, 8, []) else none) else (bif Nat.blt k 11 then (bif Nat.beq k 8 then some (.getfield 38, 11, []) else none) else (bif Nat.beq k 11 then some (.iload_n 1, 12, []) else none))) else (bif Nat.blt k 13 then (bif Nat.beq k 12 then some (.iaload, 13, []) else none) else (bif Nat.blt k 14 then (bif Nat.beq k 13 then some (.aload_n 0, 14, []) else none) else (bif Nat.beq k 14 then some (.getfield 41, 17, []) else none))))) else (bif Nat.blt k 27 then (bif Nat.blt k 22 then (bif Nat.blt k 18 then (bif Nat.beq k 17 then some (.iload_n 1, 18, []) else none) else (bif Nat.blt k 19 then (bif Nat.beq k 18 then some (.iaload, 19, []) else none) else (bif Nat.beq k 19 then some (.invokevirtual 264, 22, []) else none))) else (bif Nat.blt k 23 then (bif Nat.beq k 22 then some (.aload_n 0, 23, []) else none) else (bif Nat.blt k 26 then (bif Nat.beq k 23 then some (.getfield 29, 26, []) else none) else (bif Nat.beq k 26 then some (.aload_n 0, 27, []) else none)))) else (bif Nat.blt k 32 then (bif Nat.blt k 30 then (bif Nat.beq k 27 then some (.getfield 44, 30, []) else none) else (bif Nat.blt k 31 then (bif Nat.beq k 30 then some (.iload_n 1, 31, []) else none) else (bif Nat.beq k 31 then some (.iaload, 32, []) else none))) else (bif Nat.blt k 33 then (bif Nat.beq k 32 then some (.iaload, 33, []) else none) else (bif Nat.blt k 34 then (bif Nat.beq k 33 then some (.iadd, 34, []) else none) else (bif Nat.beq k 34 then some (.ireturn, 35, []) else none)))))) else none
noncomputable def P_M_truthOf : MP := (T_M_truthOf, (fun k => mLook k [(29, (13, 8, (.array .int), true)), (35, (13, 11, (.array .int), true)), (38, (13, 12, (.array .int), true)), (41, (13, 13, (.array .int), true)), (44, (13, 14, (.array .int), true))]), (fun k => mLook k []), (fun k => mLook k [(264, E_M_threadOf)]), (fun k => mLook k []), (fun k => mLook k []), (fun k => mLook k []), (fun k => mLook k []), (fun k => [34].any (Nat.beq k)), (3, 74, 0, 0), false, (fun _ => none))
set_option maxRecDepth 100000 in
set_option maxHeartbeats 4000000 in
theorem q_M_truthOf_e (a1 : Int32) (σ : MSto) (n : Nat) : mexe KT P_M_truthOf (n + 1) (0, [some (mR 13 0), some (mI a1)], [], σ, 0, 0) = mG (vp_in a1 12) (mG (vp_in a1 12) (mG (vp_in a1 12) (mG (p_M_threadOf (gI σ 47 0 (Int32.toNatClampNeg a1)) (gI σ 48 0 (Int32.toNatClampNeg a1)) (gI σ 49 0 (Int32.toNatClampNeg a1)) σ) (mG (vp_in a1 12) (mG (vp_in (gI σ 50 0 (Int32.toNatClampNeg a1)) 6) (some (34, [], [(mI ((v_M_threadOf (gI σ 47 0 (Int32.toNatClampNeg a1)) (gI σ 48 0 (Int32.toNatClampNeg a1)) (gI σ 49 0 (Int32.toNatClampNeg a1)) σ) + (gI σ 45 0 (Int32.toNatClampNeg (gI σ 50 0 (Int32.toNatClampNeg a1))))))], σ, 0, 0))))))) := rfl
set_option maxRecDepth 100000 in
set_option maxHeartbeats 4000000 in
theorem d_M_truthOf (a1 : Int32) (σ : MSto) (hp : p_M_truthOf a1 σ) : mW1 P_M_truthOf (0, [some (mR 13 0), some (mI a1)], [], σ, 0, 0) (mF [34] [mI (v_M_truthOf a1 σ)] σ 0 0) := by
  refine mW1_eq (q_M_truthOf_e _ _) ?_
  unfold p_M_truthOf at hp
  refine mTr_g hp.1 ?_
  have hp := hp.2
  refine mTr_g hp.1 ?_
  have hp := hp.2
  refine mTr_g hp.1 ?_
  have hp := hp.2
  refine mTr_g hp.1 ?_
  have hp := hp.2
  refine mTr_g hp.1 ?_
  have hp := hp.2
  refine mTr_g hp ?_
  exact mTr_e (by decide) (congrArg (fun z => [mI z]) (Eq.symm (rfl))) rfl (by decide) (by decide)

theorem tk_M_truthOf : ∀ pc i nx tg, T_M_truthOf pc = some (i, nx, tg) → mOkB prog_14_method_36_code pc i nx tg = true := code_ok (N := 35) (fun k h => by unfold T_M_truthOf; rw [h]; rfl) (by decide +kernel)
theorem ok_M_truthOf (l : Launch) : mPOK l "ClothWithManModel" prog_14_method_36_code P_M_truthOf := by
  refine ⟨tk_M_truthOf, ?_, ?_, ?_, (fun pc i nx tg kd _ h => by cases h), ?_, ?_, fun pc en h => by cases h⟩
  · intro x ci f ty fin h
    exact mLook_all (Q := fun x v => mFOK "ClothWithManModel" x v.1 v.2.1 v.2.2.1 v.2.2.2 ∧ (v.2.2.2 = true → pIni P_M_truthOf = true → (Cond.fieldLink "ClothWithManModel" x (((mCl[v.1]?).getD ("", fun _ => ("", "", "", false), 0)).2.1 v.2.1).1 (((mCl[v.1]?).getD ("", fun _ => ("", "", "", false), 0)).2.1 v.2.1).2.1 (((mCl[v.1]?).getD ("", fun _ => ("", "", "", false), 0)).2.1 v.2.1).2.2.1 ∈ lw_tbl ∧ (((mCl[v.1]?).getD ("", fun _ => ("", "", "", false), 0)).2.1 v.2.1).1 = "ClothWithManModel"))) (fcC ⟨fo_M_29, fun h1 h2 => by cases h2⟩ (fcC ⟨fo_M_35, fun h1 h2 => by cases h2⟩ (fcC ⟨fo_M_38, fun h1 h2 => by cases h2⟩ (fcC ⟨fo_M_41, fun h1 h2 => by cases h2⟩ (fcC ⟨fo_M_44, fun h1 h2 => by cases h2⟩ fcN))))) x (ci, f, ty, fin) h
  · intro x
    have hh := mLook_all (l := ([] : List (Nat × (Int32 ⊕ Int64)))) (Q := fun x (v : Int32 ⊕ Int64) => (∀ w, v = .inl w → Cond.constant "ClothWithManModel" x w ∈ lw_tbl) ∧ (∀ w, v = .inr w → Cond.constantLong "ClothWithManModel" x w ∈ lw_tbl)) fcN x
    exact ⟨fun w h => (hh _ h).1 w rfl, fun w h => (hh _ h).2 w rfl⟩
  · exact fun x en h => mLook_all (Q := fun x en => mLink "ClothWithManModel" x en ∧ mCtr l en ∧ (en.1.1 = 2 → en.2.2.2.2.2.2 = none)) (fcC ⟨li_M_264, c_M_threadOf l, (fun h => by cases h)⟩ fcN) x en h
  · exact fun x kd h => mLook_all (Q := fun x kd => (kd = 95 ∧ Cond.fieldLink "ClothWithManModel" x "ClothWithMan" "LIKENESSES" "[I" ∈ lw_tbl) ∨ (kd = 96 ∧ Cond.fieldLink "ClothWithManModel" x "ClothWithMan" "APART_BOUNDS" "[I" ∈ lw_tbl)) fcN x kd h
  · exact fun x ci h => mLook_all (Q := fun x ci => ci ≠ 0 ∧ ∃ (C : String) (T : u_T) (N : Nat), mCl[ci]? = some (C, T, N) ∧ Cond.classLink "ClothWithManModel" x C ∈ lw_tbl ∧ Cond.instantiable C N ∈ lw_tbl) fcN x ci h
set_option maxRecDepth 100000 in
theorem c_M_truthOf (l : Launch) : mCtr l E_M_truthOf := mCtr_of (P := P_M_truthOf) (own := "ClothWithManModel") mLay_ok rfl (by decide +kernel) rfl (ok_M_truthOf l) (fun h => by cases h) (fun as σ pr rv σ' hF hpr hlv => by
  unfold E_M_truthOf S_M_truthOf at hF
  simp only [] at hF
  split at hF
  · cases hF
    obtain ⟨n, pcF, c1, s1, g1, g2, g3, g4⟩ := mF_inv (d_M_truthOf _ σ (hpr _ rfl))
    exact ⟨Nat.le_of_ble_eq_true rfl, (fun v h => by cases h; trivial), n, pcF, c1, s1, g1, ⟨mEnd_of (i := .ireturn) (P := P_M_truthOf) (rets := [34]) rfl g2, rfl⟩, g3, g4⟩
  · cases hF
    exact (hpr _ rfl).elim)
/-! ClothWithManModel.truth(I)I -/
noncomputable def v_M_truth (a1 : Int32) (σ : MSto) : Int32 := (if (v_M_isPiece a1 (sI σ 13 0 52 0)) = 0 then (v_M_lost (sI σ 13 0 52 0)) else (v_M_truthOf a1 (sI σ 13 0 52 0)))
def p_M_truth (a1 : Int32) (σ : MSto) : Prop := (¬ ((v_M_isPiece a1 (sI σ 13 0 52 0)) = 0) → (p_M_truthOf a1 (sI σ 13 0 52 0)))
noncomputable def e_M_truth (a1 : Int32) (σ : MSto) : MSto := (if (v_M_isPiece a1 (sI σ 13 0 52 0)) = 0 then (e_M_lost (sI σ 13 0 52 0)) else (sI σ 13 0 52 0))
noncomputable def S_M_truth : List MV → MSto → Option Prop × Option MV × MSto := fun as σ => match as with
  | [.inr (.inr (some (13, 0))), .inl a0] => (some (p_M_truth a0 σ), some (mI (v_M_truth a0 σ)), e_M_truth a0 σ)
  | _ => (some False, none, σ)
noncomputable def E_M_truth : MEnt := ((1, 1, 13), (4, 95, 0, 0), S_M_truth, ((⟨"ClothWithManModel", "truth", "(I)I"⟩ : MethodName), prog_14_method_37_code, 2, (some .int)))

def T_M_truth : Nat → Option (Instr × Nat × List Nat) := fun k => bif Nat.blt k 26 then (bif Nat.blt k 13 then (bif Nat.blt k 5 then (bif Nat.blt k 1 then (bif Nat.beq k 0 then some (.aload_n 0, 1, []) else none) else (bif Nat.blt k 2 then (bif Nat.beq k 1 then some (.iconst 0, 2, []) else none) else (bif Nat.beq k 2 then some (.putfield 161, 5, []) else none))) else (bif Nat.blt k 7 then (bif Nat.blt k 6 then (bif Nat.beq k 5 then some (.aload_n 0, 6, []) else none) else (bif Nat.beq k 6 then some (.iload_n 1, 7, []) else none)) else (bif Nat.blt k 10 then (bif Nat.beq k 7 then some (.invokevirtual 267, 10, []) else none) else (bif Nat.beq k 10 then some (.ifCond .eq 11, 13, [21]) else none)))) else (bif Nat.blt k 18 then (bif Nat.blt k 14 then (bif Nat.beq k 13 then some (.aload_n 0, 14, []) else none) else (bif Nat.blt k 15 then (bif Nat.beq k 14 then some (.iload_n 1, 15, []) else none) else (bif Nat.beq k 15 then some (.invokevirtual 270, 18, []) else none))) else (bif Nat.blt k 22 then (bif Nat.blt k 21 then (bif Nat.beq k 18 then some (.goto 7, 21, [25]) else none) else (bif Nat.beq k 21 then some (.aload_n 0, 22, []) else none)) else (bif Nat.blt k 25 then (bif Nat.beq k 22 then some (.invokevirtual 274, 25, []) else none) else (bif Nat.beq k 25 then some (.ireturn, 26, []) else none))))) else none
noncomputable def P_M_truth : MP := (T_M_truth, (fun k => mLook k [(161, (13, 52, .int, false))]), (fun k => mLook k []), (fun k => mLook k [(267, E_M_isPiece), (270, E_M_truthOf), (274, E_M_lost)]), (fun k => mLook k []), (fun k => mLook k []), (fun k => mLook k []), (fun k => mLook k []), (fun k => [25].any (Nat.beq k)), (4, 95, 0, 0), false, (fun _ => none))
set_option maxRecDepth 100000 in
set_option maxHeartbeats 4000000 in
theorem q_M_truth_e (a1 : Int32) (σ : MSto) (n : Nat) : mexe KT P_M_truth (n + 1) (0, [some (mR 13 0), some (mI a1)], [], σ, 0, 0) = mIf ((v_M_isPiece a1 (sI σ 13 0 52 0)) = 0) (some (25, [], [(mI (v_M_lost (sI σ 13 0 52 0)))], (e_M_lost (sI σ 13 0 52 0)), 0, 0)) (mG (p_M_truthOf a1 (sI σ 13 0 52 0)) (some (25, [], [(mI (v_M_truthOf a1 (sI σ 13 0 52 0)))], (sI σ 13 0 52 0), 0, 0))) := rfl
set_option maxRecDepth 100000 in
set_option maxHeartbeats 4000000 in
theorem d_M_truth (a1 : Int32) (σ : MSto) (hp : p_M_truth a1 σ) : mW1 P_M_truth (0, [some (mR 13 0), some (mI a1)], [], σ, 0, 0) (mF [25] [mI (v_M_truth a1 σ)] (e_M_truth a1 σ) 0 0) := by
  refine mW1_eq (q_M_truth_e _ _) ?_
  unfold p_M_truth at hp
  refine mTr_if (fun h0 => ?_) (fun h0 => ?_)
  · skip
    exact mTr_e (by decide) (congrArg (fun z => [mI z]) (Eq.symm (if_pos h0))) (Eq.symm (if_pos h0)) (by decide) (by decide)
  · skip
    have hp := hp h0
    refine mTr_g hp ?_
    exact mTr_e (by decide) (congrArg (fun z => [mI z]) (Eq.symm (if_neg h0))) (Eq.symm (if_neg h0)) (by decide) (by decide)
theorem li_M_274 : mLink "ClothWithManModel" 274 E_M_lost := ⟨tw_7_48, tw_1_9, ⟨by decide, by decide⟩, by decide +kernel, Or.inl tw_7_45, (fun h => by cases h), (fun _ => ⟨tw_7_47, tw_0_57, TX12, 71, rfl⟩), (fun h => by cases h)⟩

theorem li_M_270 : mLink "ClothWithManModel" 270 E_M_truthOf := ⟨tw_7_44, tw_1_9, ⟨by decide, by decide⟩, by decide +kernel, Or.inl tw_7_41, (fun h => by cases h), (fun _ => ⟨tw_7_43, tw_0_56, TX12, 71, rfl⟩), (fun h => by cases h)⟩

theorem li_M_267 : mLink "ClothWithManModel" 267 E_M_isPiece := ⟨tw_7_40, tw_1_9, ⟨by decide, by decide⟩, by decide +kernel, Or.inl tw_7_37, (fun h => by cases h), (fun _ => ⟨tw_7_39, tw_0_55, TX12, 71, rfl⟩), (fun h => by cases h)⟩

theorem tk_M_truth : ∀ pc i nx tg, T_M_truth pc = some (i, nx, tg) → mOkB prog_14_method_37_code pc i nx tg = true := code_ok (N := 26) (fun k h => by unfold T_M_truth; rw [h]; rfl) (by decide +kernel)
theorem ok_M_truth (l : Launch) : mPOK l "ClothWithManModel" prog_14_method_37_code P_M_truth := by
  refine ⟨tk_M_truth, ?_, ?_, ?_, (fun pc i nx tg kd _ h => by cases h), ?_, ?_, fun pc en h => by cases h⟩
  · intro x ci f ty fin h
    exact mLook_all (Q := fun x v => mFOK "ClothWithManModel" x v.1 v.2.1 v.2.2.1 v.2.2.2 ∧ (v.2.2.2 = true → pIni P_M_truth = true → (Cond.fieldLink "ClothWithManModel" x (((mCl[v.1]?).getD ("", fun _ => ("", "", "", false), 0)).2.1 v.2.1).1 (((mCl[v.1]?).getD ("", fun _ => ("", "", "", false), 0)).2.1 v.2.1).2.1 (((mCl[v.1]?).getD ("", fun _ => ("", "", "", false), 0)).2.1 v.2.1).2.2.1 ∈ lw_tbl ∧ (((mCl[v.1]?).getD ("", fun _ => ("", "", "", false), 0)).2.1 v.2.1).1 = "ClothWithManModel"))) (fcC ⟨fo_M_161, fun h1 h2 => by cases h1⟩ fcN) x (ci, f, ty, fin) h
  · intro x
    have hh := mLook_all (l := ([] : List (Nat × (Int32 ⊕ Int64)))) (Q := fun x (v : Int32 ⊕ Int64) => (∀ w, v = .inl w → Cond.constant "ClothWithManModel" x w ∈ lw_tbl) ∧ (∀ w, v = .inr w → Cond.constantLong "ClothWithManModel" x w ∈ lw_tbl)) fcN x
    exact ⟨fun w h => (hh _ h).1 w rfl, fun w h => (hh _ h).2 w rfl⟩
  · exact fun x en h => mLook_all (Q := fun x en => mLink "ClothWithManModel" x en ∧ mCtr l en ∧ (en.1.1 = 2 → en.2.2.2.2.2.2 = none)) (fcC ⟨li_M_267, c_M_isPiece l, (fun h => by cases h)⟩ (fcC ⟨li_M_270, c_M_truthOf l, (fun h => by cases h)⟩ (fcC ⟨li_M_274, c_M_lost l, (fun h => by cases h)⟩ fcN))) x en h
  · exact fun x kd h => mLook_all (Q := fun x kd => (kd = 95 ∧ Cond.fieldLink "ClothWithManModel" x "ClothWithMan" "LIKENESSES" "[I" ∈ lw_tbl) ∨ (kd = 96 ∧ Cond.fieldLink "ClothWithManModel" x "ClothWithMan" "APART_BOUNDS" "[I" ∈ lw_tbl)) fcN x kd h
  · exact fun x ci h => mLook_all (Q := fun x ci => ci ≠ 0 ∧ ∃ (C : String) (T : u_T) (N : Nat), mCl[ci]? = some (C, T, N) ∧ Cond.classLink "ClothWithManModel" x C ∈ lw_tbl ∧ Cond.instantiable C N ∈ lw_tbl) fcN x ci h
set_option maxRecDepth 100000 in
theorem c_M_truth (l : Launch) : mCtr l E_M_truth := mCtr_of (P := P_M_truth) (own := "ClothWithManModel") mLay_ok rfl (by decide +kernel) rfl (ok_M_truth l) (fun h => by cases h) (fun as σ pr rv σ' hF hpr hlv => by
  unfold E_M_truth S_M_truth at hF
  simp only [] at hF
  split at hF
  · cases hF
    obtain ⟨n, pcF, c1, s1, g1, g2, g3, g4⟩ := mF_inv (d_M_truth _ σ (hpr _ rfl))
    exact ⟨Nat.le_of_ble_eq_true rfl, (fun v h => by cases h; trivial), n, pcF, c1, s1, g1, ⟨mEnd_of (i := .ireturn) (P := P_M_truth) (rets := [25]) rfl g2, rfl⟩, g3, g4⟩
  · cases hF
    exact (hpr _ rfl).elim)
/-! ClothWithManModel.spanOf(I)I -/
noncomputable def v_M_spanOf (a1 : Int32) (σ : MSto) : Int32 := (gI σ 46 0 (Int32.toNatClampNeg (gI σ 50 0 (Int32.toNatClampNeg a1))))
def p_M_spanOf (a1 : Int32) (σ : MSto) : Prop := ((vp_in a1 12) ∧ (vp_in (gI σ 50 0 (Int32.toNatClampNeg a1)) 6))
noncomputable def S_M_spanOf : List MV → MSto → Option Prop × Option MV × MSto := fun as σ => match as with
  | [.inr (.inr (some (13, 0))), .inl a0] => (some (p_M_spanOf a0 σ), some (mI (v_M_spanOf a0 σ)), σ)
  | _ => (some False, none, σ)
noncomputable def E_M_spanOf : MEnt := ((1, 1, 13), (0, 0, 0, 0), S_M_spanOf, ((⟨"ClothWithManModel", "spanOf", "(I)I"⟩ : MethodName), prog_14_method_40_code, 2, (some .int)))

def T_M_spanOf : Nat → Option (Instr × Nat × List Nat) := fun k => bif Nat.blt k 12 then (bif Nat.blt k 8 then (bif Nat.blt k 4 then (bif Nat.blt k 1 then (bif Nat.beq k 0 then some (.aload_n 0, 1, []) else none) else (bif Nat.beq k 1 then some (.getfield 32, 4, []) else none)) else (bif Nat.blt k 5 then (bif Nat.beq k 4 then some (.aload_n 0, 5, []) else none) else (bif Nat.beq k 5 then some (.getfield 44, 8, []) else none))) else (bif Nat.blt k 10 then (bif Nat.blt k 9 then (bif Nat.beq k 8 then some (.iload_n 1, 9, []) else none) else (bif Nat.beq k 9 then some (.iaload, 10, []) else none)) else (bif Nat.blt k 11 then (bif Nat.beq k 10 then some (.iaload, 11, []) else none) else (bif Nat.beq k 11 then some (.ireturn, 12, []) else none)))) else none
noncomputable def P_M_spanOf : MP := (T_M_spanOf, (fun k => mLook k [(32, (13, 9, (.array .int), true)), (44, (13, 14, (.array .int), true))]), (fun k => mLook k []), (fun k => mLook k []), (fun k => mLook k []), (fun k => mLook k []), (fun k => mLook k []), (fun k => mLook k []), (fun k => [11].any (Nat.beq k)), (0, 0, 0, 0), false, (fun _ => none))
set_option maxRecDepth 100000 in
set_option maxHeartbeats 4000000 in
theorem q_M_spanOf_e (a1 : Int32) (σ : MSto) (n : Nat) : mexe KT P_M_spanOf (n + 1) (0, [some (mR 13 0), some (mI a1)], [], σ, 0, 0) = mG (vp_in a1 12) (mG (vp_in (gI σ 50 0 (Int32.toNatClampNeg a1)) 6) (some (11, [], [(mI (gI σ 46 0 (Int32.toNatClampNeg (gI σ 50 0 (Int32.toNatClampNeg a1)))))], σ, 0, 0))) := rfl
set_option maxRecDepth 100000 in
set_option maxHeartbeats 4000000 in
theorem d_M_spanOf (a1 : Int32) (σ : MSto) (hp : p_M_spanOf a1 σ) : mW1 P_M_spanOf (0, [some (mR 13 0), some (mI a1)], [], σ, 0, 0) (mF [11] [mI (v_M_spanOf a1 σ)] σ 0 0) := by
  refine mW1_eq (q_M_spanOf_e _ _) ?_
  unfold p_M_spanOf at hp
  refine mTr_g hp.1 ?_
  have hp := hp.2
  refine mTr_g hp ?_
  exact mTr_e (by decide) (congrArg (fun z => [mI z]) (Eq.symm (rfl))) rfl (by decide) (by decide)
theorem tk_M_spanOf : ∀ pc i nx tg, T_M_spanOf pc = some (i, nx, tg) → mOkB prog_14_method_40_code pc i nx tg = true := code_ok (N := 12) (fun k h => by unfold T_M_spanOf; rw [h]; rfl) (by decide +kernel)
theorem ok_M_spanOf (l : Launch) : mPOK l "ClothWithManModel" prog_14_method_40_code P_M_spanOf := by
  refine ⟨tk_M_spanOf, ?_, ?_, ?_, (fun pc i nx tg kd _ h => by cases h), ?_, ?_, fun pc en h => by cases h⟩
  · intro x ci f ty fin h
    exact mLook_all (Q := fun x v => mFOK "ClothWithManModel" x v.1 v.2.1 v.2.2.1 v.2.2.2 ∧ (v.2.2.2 = true → pIni P_M_spanOf = true → (Cond.fieldLink "ClothWithManModel" x (((mCl[v.1]?).getD ("", fun _ => ("", "", "", false), 0)).2.1 v.2.1).1 (((mCl[v.1]?).getD ("", fun _ => ("", "", "", false), 0)).2.1 v.2.1).2.1 (((mCl[v.1]?).getD ("", fun _ => ("", "", "", false), 0)).2.1 v.2.1).2.2.1 ∈ lw_tbl ∧ (((mCl[v.1]?).getD ("", fun _ => ("", "", "", false), 0)).2.1 v.2.1).1 = "ClothWithManModel"))) (fcC ⟨fo_M_32, fun h1 h2 => by cases h2⟩ (fcC ⟨fo_M_44, fun h1 h2 => by cases h2⟩ fcN)) x (ci, f, ty, fin) h
  · intro x
    have hh := mLook_all (l := ([] : List (Nat × (Int32 ⊕ Int64)))) (Q := fun x (v : Int32 ⊕ Int64) => (∀ w, v = .inl w → Cond.constant "ClothWithManModel" x w ∈ lw_tbl) ∧ (∀ w, v = .inr w → Cond.constantLong "ClothWithManModel" x w ∈ lw_tbl)) fcN x
    exact ⟨fun w h => (hh _ h).1 w rfl, fun w h => (hh _ h).2 w rfl⟩
  · exact fun x en h => mLook_all (Q := fun x en => mLink "ClothWithManModel" x en ∧ mCtr l en ∧ (en.1.1 = 2 → en.2.2.2.2.2.2 = none)) fcN x en h
  · exact fun x kd h => mLook_all (Q := fun x kd => (kd = 95 ∧ Cond.fieldLink "ClothWithManModel" x "ClothWithMan" "LIKENESSES" "[I" ∈ lw_tbl) ∨ (kd = 96 ∧ Cond.fieldLink "ClothWithManModel" x "ClothWithMan" "APART_BOUNDS" "[I" ∈ lw_tbl)) fcN x kd h
  · exact fun x ci h => mLook_all (Q := fun x ci => ci ≠ 0 ∧ ∃ (C : String) (T : u_T) (N : Nat), mCl[ci]? = some (C, T, N) ∧ Cond.classLink "ClothWithManModel" x C ∈ lw_tbl ∧ Cond.instantiable C N ∈ lw_tbl) fcN x ci h
set_option maxRecDepth 100000 in
theorem c_M_spanOf (l : Launch) : mCtr l E_M_spanOf := mCtr_of (P := P_M_spanOf) (own := "ClothWithManModel") mLay_ok rfl (by decide +kernel) rfl (ok_M_spanOf l) (fun h => by cases h) (fun as σ pr rv σ' hF hpr hlv => by
  unfold E_M_spanOf S_M_spanOf at hF
  simp only [] at hF
  split at hF
  · cases hF
    obtain ⟨n, pcF, c1, s1, g1, g2, g3, g4⟩ := mF_inv (d_M_spanOf _ σ (hpr _ rfl))
    exact ⟨Nat.le_of_ble_eq_true rfl, (fun v h => by cases h; trivial), n, pcF, c1, s1, g1, ⟨mEnd_of (i := .ireturn) (P := P_M_spanOf) (rets := [11]) rfl g2, rfl⟩, g3, g4⟩
  · cases hF
    exact (hpr _ rfl).elim)
/-! ClothWithManModel.setCounted(II)V -/
def p_M_setCounted (a1 : Int32) (a2 : Int32) (σ : MSto) : Prop := (vp_in a1 12)
noncomputable def e_M_setCounted (a1 : Int32) (a2 : Int32) (σ : MSto) : MSto := (sI (sI σ 13 0 15 ((gI σ 13 0 15) ||| ((1 : Int32) <<< (a1 &&& 31)))) 51 0 (Int32.toNatClampNeg a1) a2)
noncomputable def S_M_setCounted : List MV → MSto → Option Prop × Option MV × MSto := fun as σ => match as with
  | [.inr (.inr (some (13, 0))), .inl a0, .inl a1] => (some (p_M_setCounted a0 a1 σ), none, e_M_setCounted a0 a1 σ)
  | _ => (some False, none, σ)
noncomputable def E_M_setCounted : MEnt := ((1, 2, 13), (0, 0, 0, 0), S_M_setCounted, ((⟨"ClothWithManModel", "setCounted", "(II)V"⟩ : MethodName), prog_14_method_38_code, 3, none))

def T_M_setCounted : Nat → Option (Instr × Nat × List Nat) := fun k => bif Nat.blt k 20 then (bif Nat.blt k 9 then (bif Nat.blt k 5 then (bif Nat.blt k 1 then (bif Nat.beq k 0 then some (.aload_n 0, 1, []) else none) else (bif Nat.blt k 2 then (bif Nat.beq k 1 then some (.dup, 2, []) else none) else (bif Nat.beq k 2 then some (.getfield 277, 5, []) else none))) else (bif Nat.blt k 7 then (bif Nat.blt k 6 then (bif Nat.beq k 5 then some (.iconst 1, 6, []) else none) else (bif Nat.beq k 6 then some (.iload_n 1, 7, []) else none)) else (bif Nat.blt k 8 then (bif Nat.beq k 7 then some (.ishl, 8, []) else none) else (bif Nat.beq k 8 then some (.ior, 9, []) else none)))) else (bif Nat.blt k 16 then (bif Nat.blt k 12 then (bif Nat.beq k 9 then some (.putfield 277, 12, []) else none) else (bif Nat.blt k 13 then (bif Nat.beq k 12 then some (.aload_n 0, 13, []) else none) else (bif Nat.beq k 13 then some (.getfield 47, 16, []) else none))) else (bif Nat.blt k 18 then (bif Nat.blt k 17 then (bif Nat.beq k 16 then some (.iload_n 1, 17, []) else none) else (bif Nat.beq k 17 then some (.iload_n 2, 18, []) else none)) else (bif Nat.blt k 19 then (bif Nat.beq k 18 then some (.iastore, 19, []) else none) else (bif Nat.beq k 19 then some (.return_, 20, []) else none))))) else none
noncomputable def P_M_setCounted : MP := (T_M_setCounted, (fun k => mLook k [(47, (13, 16, (.array .int), true)), (277, (13, 15, .int, false))]), (fun k => mLook k []), (fun k => mLook k []), (fun k => mLook k []), (fun k => mLook k []), (fun k => mLook k []), (fun k => mLook k []), (fun k => [19].any (Nat.beq k)), (0, 0, 0, 0), false, (fun _ => none))
set_option maxRecDepth 100000 in
set_option maxHeartbeats 4000000 in
theorem q_M_setCounted_e (a1 : Int32) (a2 : Int32) (σ : MSto) (n : Nat) : mexe KT P_M_setCounted (n + 1) (0, [some (mR 13 0), some (mI a1), some (mI a2)], [], σ, 0, 0) = mG (vp_in a1 12) (some (19, [], [], (sI (sI σ 13 0 15 ((gI σ 13 0 15) ||| ((1 : Int32) <<< (a1 &&& 31)))) 51 0 (Int32.toNatClampNeg a1) a2), 0, 0)) := rfl
set_option maxRecDepth 100000 in
set_option maxHeartbeats 4000000 in
theorem d_M_setCounted (a1 : Int32) (a2 : Int32) (σ : MSto) (hp : p_M_setCounted a1 a2 σ) : mW1 P_M_setCounted (0, [some (mR 13 0), some (mI a1), some (mI a2)], [], σ, 0, 0) (mF [19] [] (e_M_setCounted a1 a2 σ) 0 0) := by
  refine mW1_eq (q_M_setCounted_e _ _ _) ?_
  unfold p_M_setCounted at hp
  refine mTr_g hp ?_
  exact mTr_e (by decide) rfl (Eq.symm (rfl)) (by decide) (by decide)
theorem tk_M_setCounted : ∀ pc i nx tg, T_M_setCounted pc = some (i, nx, tg) → mOkB prog_14_method_38_code pc i nx tg = true := code_ok (N := 20) (fun k h => by unfold T_M_setCounted; rw [h]; rfl) (by decide +kernel)
theorem ok_M_setCounted (l : Launch) : mPOK l "ClothWithManModel" prog_14_method_38_code P_M_setCounted := by
  refine ⟨tk_M_setCounted, ?_, ?_, ?_, (fun pc i nx tg kd _ h => by cases h), ?_, ?_, fun pc en h => by cases h⟩
  · intro x ci f ty fin h
    exact mLook_all (Q := fun x v => mFOK "ClothWithManModel" x v.1 v.2.1 v.2.2.1 v.2.2.2 ∧ (v.2.2.2 = true → pIni P_M_setCounted = true → (Cond.fieldLink "ClothWithManModel" x (((mCl[v.1]?).getD ("", fun _ => ("", "", "", false), 0)).2.1 v.2.1).1 (((mCl[v.1]?).getD ("", fun _ => ("", "", "", false), 0)).2.1 v.2.1).2.1 (((mCl[v.1]?).getD ("", fun _ => ("", "", "", false), 0)).2.1 v.2.1).2.2.1 ∈ lw_tbl ∧ (((mCl[v.1]?).getD ("", fun _ => ("", "", "", false), 0)).2.1 v.2.1).1 = "ClothWithManModel"))) (fcC ⟨fo_M_47, fun h1 h2 => by cases h2⟩ (fcC ⟨fo_M_277, fun h1 h2 => by cases h1⟩ fcN)) x (ci, f, ty, fin) h
  · intro x
    have hh := mLook_all (l := ([] : List (Nat × (Int32 ⊕ Int64)))) (Q := fun x (v : Int32 ⊕ Int64) => (∀ w, v = .inl w → Cond.constant "ClothWithManModel" x w ∈ lw_tbl) ∧ (∀ w, v = .inr w → Cond.constantLong "ClothWithManModel" x w ∈ lw_tbl)) fcN x
    exact ⟨fun w h => (hh _ h).1 w rfl, fun w h => (hh _ h).2 w rfl⟩
  · exact fun x en h => mLook_all (Q := fun x en => mLink "ClothWithManModel" x en ∧ mCtr l en ∧ (en.1.1 = 2 → en.2.2.2.2.2.2 = none)) fcN x en h
  · exact fun x kd h => mLook_all (Q := fun x kd => (kd = 95 ∧ Cond.fieldLink "ClothWithManModel" x "ClothWithMan" "LIKENESSES" "[I" ∈ lw_tbl) ∨ (kd = 96 ∧ Cond.fieldLink "ClothWithManModel" x "ClothWithMan" "APART_BOUNDS" "[I" ∈ lw_tbl)) fcN x kd h
  · exact fun x ci h => mLook_all (Q := fun x ci => ci ≠ 0 ∧ ∃ (C : String) (T : u_T) (N : Nat), mCl[ci]? = some (C, T, N) ∧ Cond.classLink "ClothWithManModel" x C ∈ lw_tbl ∧ Cond.instantiable C N ∈ lw_tbl) fcN x ci h
set_option maxRecDepth 100000 in
theorem c_M_setCounted (l : Launch) : mCtr l E_M_setCounted := mCtr_of (P := P_M_setCounted) (own := "ClothWithManModel") mLay_ok rfl (by decide +kernel) rfl (ok_M_setCounted l) (fun h => by cases h) (fun as σ pr rv σ' hF hpr hlv => by
  unfold E_M_setCounted S_M_setCounted at hF
  simp only [] at hF
  split at hF
  · cases hF
    obtain ⟨n, pcF, c1, s1, g1, g2, g3, g4⟩ := mF_inv (d_M_setCounted _ _ σ (hpr _ rfl))
    exact ⟨Nat.le_of_ble_eq_true rfl, (fun v h => by cases h), n, pcF, c1, s1, g1, mEnd_of (i := .return_) (P := P_M_setCounted) (rets := [19]) rfl g2, g3, g4⟩
  · cases hF
    exact (hpr _ rfl).elim)
/-! ClothWithManModel.count(II)Z -/
def b_M_count (a1 : Int32) (a2 : Int32) (σ : MSto) : Prop := (if (v_M_isPiece a1 (sI σ 13 0 52 0)) = 0 then False else (if (v_M_in a2 (-99) 1999 (sI σ 13 0 52 0)) = 0 then False else True))
noncomputable def v_M_count (a1 : Int32) (a2 : Int32) (σ : MSto) : Int32 := bI (b_M_count a1 a2 σ)
def p_M_count (a1 : Int32) (a2 : Int32) (σ : MSto) : Prop := (¬ ((v_M_isPiece a1 (sI σ 13 0 52 0)) = 0) → (¬ ((v_M_in a2 (-99) 1999 (sI σ 13 0 52 0)) = 0) → (p_M_setCounted a1 a2 (sI σ 13 0 52 0))))
noncomputable def e_M_count (a1 : Int32) (a2 : Int32) (σ : MSto) : MSto := (if (v_M_isPiece a1 (sI σ 13 0 52 0)) = 0 then (sI σ 13 0 52 0) else (if (v_M_in a2 (-99) 1999 (sI σ 13 0 52 0)) = 0 then (sI σ 13 0 52 0) else (e_M_setCounted a1 a2 (sI σ 13 0 52 0))))
noncomputable def S_M_count : List MV → MSto → Option Prop × Option MV × MSto := fun as σ => match as with
  | [.inr (.inr (some (13, 0))), .inl a0, .inl a1] => (some (p_M_count a0 a1 σ), some (mI (v_M_count a0 a1 σ)), e_M_count a0 a1 σ)
  | _ => (some False, none, σ)
noncomputable def E_M_count : MEnt := ((1, 2, 13), (2, 43, 0, 0), S_M_count, ((⟨"ClothWithManModel", "count", "(II)Z"⟩ : MethodName), prog_14_method_39_code, 3, (some .boolean)))

def T_M_count : Nat → Option (Instr × Nat × List Nat) := fun k => bif Nat.blt k 35 then (bif Nat.blt k 19 then (bif Nat.blt k 7 then (bif Nat.blt k 2 then (bif Nat.blt k 1 then (bif Nat.beq k 0 then some (.aload_n 0, 1, []) else none) else (bif Nat.beq k 1 then some (.iconst 0, 2, []) else none)) else (bif Nat.blt k 5 then (bif Nat.beq k 2 then some (.putfield 161, 5, []) else none) else (bif Nat.blt k 6 then (bif Nat.beq k 5 then some (.aload_n 0, 6, []) else none) else (bif Nat.beq k 6 then some (.iload_n 1, 7, []) else none)))) else (bif Nat.blt k 13 then (bif Nat.blt k 10 then (bif Nat.beq k 7 then some (.invokevirtual 267, 10, []) else none) else (bif Nat.beq k 10 then some (.ifCond .eq 15, 13, [25]) else none)) else (bif Nat.blt k 14 then (bif Nat.beq k 13 then some (.iload_n 2, 14, []) else none) else (bif Nat.blt k 16 then (bif Nat.beq k 14 then some (.bipush (-99), 16, []) else none) else (bif Nat.beq k 16 then some (.sipush 1999, 19, []) else none))))) else (bif Nat.blt k 28 then (bif Nat.blt k 25 then (bif Nat.blt k 22 then (bif Nat.beq k 19 then some (.invokestatic 181, 22, []) else none) else (bif Nat.beq k 22 then some (.ifCond .ne 5, 25, [27]) else none)) else (bif Nat.blt k 26 then (bif Nat.beq k 25 then some (.iconst 0, 26, []) else none) else (bif Nat.blt k 27 then (bif Nat.beq k 26 then some (.ireturn, 27, []) else none) else (bif Nat.beq k 27 then some (.aload_n 0, 28, []) else none)))) else (bif Nat.blt k 30 then (bif Nat.blt k 29 then (bif Nat.beq k 28 then some (.iload_n 1, 29, []) else none) else (bif Nat.beq k 29 then some (.iload_n 2, 30, []) else none)) else (bif Nat.blt k 33 then (bif Nat.beq k 30 then some (.invokevirtual 280, 33, []) else none) else (bif Nat.blt k 34 then (bif Nat.beq k 33 then some (.iconst 1, 34, []) else none) else (bif Nat.beq k 34 then some (.ireturn, 35, []) else none)))))) else none
noncomputable def P_M_count : MP := (T_M_count, (fun k => mLook k [(161, (13, 52, .int, false))]), (fun k => mLook k []), (fun k => mLook k [(181, E_M_in), (267, E_M_isPiece), (280, E_M_setCounted)]), (fun k => mLook k []), (fun k => mLook k []), (fun k => mLook k []), (fun k => mLook k []), (fun k => [26, 34].any (Nat.beq k)), (2, 43, 0, 0), false, (fun _ => none))
set_option maxRecDepth 100000 in
set_option maxHeartbeats 4000000 in
theorem q_M_count_e (a1 : Int32) (a2 : Int32) (σ : MSto) (n : Nat) : mexe KT P_M_count (n + 1) (0, [some (mR 13 0), some (mI a1), some (mI a2)], [], σ, 0, 0) = mIf ((v_M_isPiece a1 (sI σ 13 0 52 0)) = 0) (some (26, [], [(mI 0)], (sI σ 13 0 52 0), 0, 0)) (mIf ((v_M_in a2 (-99) 1999 (sI σ 13 0 52 0)) = 0) (some (26, [], [(mI 0)], (sI σ 13 0 52 0), 0, 0)) (mG (p_M_setCounted a1 a2 (sI σ 13 0 52 0)) (some (34, [], [(mI 1)], (e_M_setCounted a1 a2 (sI σ 13 0 52 0)), 0, 0)))) := rfl
set_option maxRecDepth 100000 in
set_option maxHeartbeats 4000000 in
theorem d_M_count (a1 : Int32) (a2 : Int32) (σ : MSto) (hp : p_M_count a1 a2 σ) : mW1 P_M_count (0, [some (mR 13 0), some (mI a1), some (mI a2)], [], σ, 0, 0) (mF [26, 34] [mI (v_M_count a1 a2 σ)] (e_M_count a1 a2 σ) 0 0) := by
  refine mW1_eq (q_M_count_e _ _ _) ?_
  unfold p_M_count at hp
  unfold v_M_count
  refine mTr_if (fun h0 => ?_) (fun h0 => ?_)
  · skip
    exact mTr_e (by decide) (bI_F (if_pos h0)) (Eq.symm (if_pos h0)) (by decide) (by decide)
  · skip
    have hp := hp h0
    refine mTr_if (fun h1 => ?_) (fun h1 => ?_)
    · skip
      exact mTr_e (by decide) (bI_F ((if_neg h0).trans (if_pos h1))) (Eq.symm ((if_neg h0).trans (if_pos h1))) (by decide) (by decide)
    · skip
      have hp := hp h1
      refine mTr_g hp ?_
      exact mTr_e (by decide) (bI_T ((if_neg h0).trans (if_neg h1))) (Eq.symm ((if_neg h0).trans (if_neg h1))) (by decide) (by decide)
theorem li_M_280 : mLink "ClothWithManModel" 280 E_M_setCounted := ⟨tw_7_56, tw_1_9, ⟨by decide, by decide⟩, by decide +kernel, Or.inl tw_7_53, (fun h => by cases h), (fun _ => ⟨tw_7_55, tw_0_58, TX12, 71, rfl⟩), (fun h => by cases h)⟩



theorem tk_M_count : ∀ pc i nx tg, T_M_count pc = some (i, nx, tg) → mOkB prog_14_method_39_code pc i nx tg = true := code_ok (N := 35) (fun k h => by unfold T_M_count; rw [h]; rfl) (by decide +kernel)
theorem ok_M_count (l : Launch) : mPOK l "ClothWithManModel" prog_14_method_39_code P_M_count := by
  refine ⟨tk_M_count, ?_, ?_, ?_, (fun pc i nx tg kd _ h => by cases h), ?_, ?_, fun pc en h => by cases h⟩
  · intro x ci f ty fin h
    exact mLook_all (Q := fun x v => mFOK "ClothWithManModel" x v.1 v.2.1 v.2.2.1 v.2.2.2 ∧ (v.2.2.2 = true → pIni P_M_count = true → (Cond.fieldLink "ClothWithManModel" x (((mCl[v.1]?).getD ("", fun _ => ("", "", "", false), 0)).2.1 v.2.1).1 (((mCl[v.1]?).getD ("", fun _ => ("", "", "", false), 0)).2.1 v.2.1).2.1 (((mCl[v.1]?).getD ("", fun _ => ("", "", "", false), 0)).2.1 v.2.1).2.2.1 ∈ lw_tbl ∧ (((mCl[v.1]?).getD ("", fun _ => ("", "", "", false), 0)).2.1 v.2.1).1 = "ClothWithManModel"))) (fcC ⟨fo_M_161, fun h1 h2 => by cases h1⟩ fcN) x (ci, f, ty, fin) h
  · intro x
    have hh := mLook_all (l := ([] : List (Nat × (Int32 ⊕ Int64)))) (Q := fun x (v : Int32 ⊕ Int64) => (∀ w, v = .inl w → Cond.constant "ClothWithManModel" x w ∈ lw_tbl) ∧ (∀ w, v = .inr w → Cond.constantLong "ClothWithManModel" x w ∈ lw_tbl)) fcN x
    exact ⟨fun w h => (hh _ h).1 w rfl, fun w h => (hh _ h).2 w rfl⟩
  · exact fun x en h => mLook_all (Q := fun x en => mLink "ClothWithManModel" x en ∧ mCtr l en ∧ (en.1.1 = 2 → en.2.2.2.2.2.2 = none)) (fcC ⟨li_M_181, c_M_in l, (fun h => by cases h)⟩ (fcC ⟨li_M_267, c_M_isPiece l, (fun h => by cases h)⟩ (fcC ⟨li_M_280, c_M_setCounted l, (fun h => by cases h)⟩ fcN))) x en h
  · exact fun x kd h => mLook_all (Q := fun x kd => (kd = 95 ∧ Cond.fieldLink "ClothWithManModel" x "ClothWithMan" "LIKENESSES" "[I" ∈ lw_tbl) ∨ (kd = 96 ∧ Cond.fieldLink "ClothWithManModel" x "ClothWithMan" "APART_BOUNDS" "[I" ∈ lw_tbl)) fcN x kd h
  · exact fun x ci h => mLook_all (Q := fun x ci => ci ≠ 0 ∧ ∃ (C : String) (T : u_T) (N : Nat), mCl[ci]? = some (C, T, N) ∧ Cond.classLink "ClothWithManModel" x C ∈ lw_tbl ∧ Cond.instantiable C N ∈ lw_tbl) fcN x ci h
set_option maxRecDepth 100000 in
theorem c_M_count (l : Launch) : mCtr l E_M_count := mCtr_of (P := P_M_count) (own := "ClothWithManModel") mLay_ok rfl (by decide +kernel) rfl (ok_M_count l) (fun h => by cases h) (fun as σ pr rv σ' hF hpr hlv => by
  unfold E_M_count S_M_count at hF
  simp only [] at hF
  split at hF
  · cases hF
    obtain ⟨n, pcF, c1, s1, g1, g2, g3, g4⟩ := mF_inv (d_M_count _ _ σ (hpr _ rfl))
    exact ⟨Nat.le_of_ble_eq_true rfl, (fun v h => by cases h; trivial), n, pcF, c1, s1, g1, ⟨mEnd_of (i := .ireturn) (P := P_M_count) (rets := [26, 34]) rfl g2, bI_narrow _⟩, g3, g4⟩
  · cases hF
    exact (hpr _ rfl).elim)
/-! ClothWithManModel.draw(I)I -/
noncomputable def v_M_draw (a1 : Int32) (σ : MSto) : Int32 := (if (v_M_isPiece a1 (sI σ 13 0 52 0)) = 0 then (v_M_lost (sI σ 13 0 52 0)) else (((v_M_truthOf a1 (sI (sI σ 13 0 52 0) 13 0 40 (((gI (sI σ 13 0 52 0) 13 0 40) * 1103515245) + 12345))) + ((Int32.toUInt32 (gI (sI (sI σ 13 0 52 0) 13 0 40 (((gI (sI σ 13 0 52 0) 13 0 40) * 1103515245) + 12345)) 13 0 40) >>> (Int32.toUInt32 16 &&& Int32.toUInt32 31)).toInt32 - (Int32.toUInt32 (gI (sI (sI σ 13 0 52 0) 13 0 40 (((gI (sI σ 13 0 52 0) 13 0 40) * 1103515245) + 12345)) 13 0 40) >>> (Int32.toUInt32 16 &&& Int32.toUInt32 31)).toInt32 / ((2 * (v_M_spanOf a1 (sI (sI σ 13 0 52 0) 13 0 40 (((gI (sI σ 13 0 52 0) 13 0 40) * 1103515245) + 12345)))) + 1) * ((2 * (v_M_spanOf a1 (sI (sI σ 13 0 52 0) 13 0 40 (((gI (sI σ 13 0 52 0) 13 0 40) * 1103515245) + 12345)))) + 1))) - (v_M_spanOf a1 (sI (sI σ 13 0 52 0) 13 0 40 (((gI (sI σ 13 0 52 0) 13 0 40) * 1103515245) + 12345)))))
def p_M_draw (a1 : Int32) (σ : MSto) : Prop := (¬ ((v_M_isPiece a1 (sI σ 13 0 52 0)) = 0) → ((p_M_truthOf a1 (sI (sI σ 13 0 52 0) 13 0 40 (((gI (sI σ 13 0 52 0) 13 0 40) * 1103515245) + 12345))) ∧ ((p_M_spanOf a1 (sI (sI σ 13 0 52 0) 13 0 40 (((gI (sI σ 13 0 52 0) 13 0 40) * 1103515245) + 12345))) ∧ ((¬ (((2 * (v_M_spanOf a1 (sI (sI σ 13 0 52 0) 13 0 40 (((gI (sI σ 13 0 52 0) 13 0 40) * 1103515245) + 12345)))) + 1) : Int32) = 0) ∧ ((p_M_spanOf a1 (sI (sI σ 13 0 52 0) 13 0 40 (((gI (sI σ 13 0 52 0) 13 0 40) * 1103515245) + 12345))) ∧ (p_M_setCounted a1 (((v_M_truthOf a1 (sI (sI σ 13 0 52 0) 13 0 40 (((gI (sI σ 13 0 52 0) 13 0 40) * 1103515245) + 12345))) + ((Int32.toUInt32 (gI (sI (sI σ 13 0 52 0) 13 0 40 (((gI (sI σ 13 0 52 0) 13 0 40) * 1103515245) + 12345)) 13 0 40) >>> (Int32.toUInt32 16 &&& Int32.toUInt32 31)).toInt32 - (Int32.toUInt32 (gI (sI (sI σ 13 0 52 0) 13 0 40 (((gI (sI σ 13 0 52 0) 13 0 40) * 1103515245) + 12345)) 13 0 40) >>> (Int32.toUInt32 16 &&& Int32.toUInt32 31)).toInt32 / ((2 * (v_M_spanOf a1 (sI (sI σ 13 0 52 0) 13 0 40 (((gI (sI σ 13 0 52 0) 13 0 40) * 1103515245) + 12345)))) + 1) * ((2 * (v_M_spanOf a1 (sI (sI σ 13 0 52 0) 13 0 40 (((gI (sI σ 13 0 52 0) 13 0 40) * 1103515245) + 12345)))) + 1))) - (v_M_spanOf a1 (sI (sI σ 13 0 52 0) 13 0 40 (((gI (sI σ 13 0 52 0) 13 0 40) * 1103515245) + 12345)))) (sI (sI σ 13 0 52 0) 13 0 40 (((gI (sI σ 13 0 52 0) 13 0 40) * 1103515245) + 12345))))))))
noncomputable def e_M_draw (a1 : Int32) (σ : MSto) : MSto := (if (v_M_isPiece a1 (sI σ 13 0 52 0)) = 0 then (e_M_lost (sI σ 13 0 52 0)) else (e_M_setCounted a1 (((v_M_truthOf a1 (sI (sI σ 13 0 52 0) 13 0 40 (((gI (sI σ 13 0 52 0) 13 0 40) * 1103515245) + 12345))) + ((Int32.toUInt32 (gI (sI (sI σ 13 0 52 0) 13 0 40 (((gI (sI σ 13 0 52 0) 13 0 40) * 1103515245) + 12345)) 13 0 40) >>> (Int32.toUInt32 16 &&& Int32.toUInt32 31)).toInt32 - (Int32.toUInt32 (gI (sI (sI σ 13 0 52 0) 13 0 40 (((gI (sI σ 13 0 52 0) 13 0 40) * 1103515245) + 12345)) 13 0 40) >>> (Int32.toUInt32 16 &&& Int32.toUInt32 31)).toInt32 / ((2 * (v_M_spanOf a1 (sI (sI σ 13 0 52 0) 13 0 40 (((gI (sI σ 13 0 52 0) 13 0 40) * 1103515245) + 12345)))) + 1) * ((2 * (v_M_spanOf a1 (sI (sI σ 13 0 52 0) 13 0 40 (((gI (sI σ 13 0 52 0) 13 0 40) * 1103515245) + 12345)))) + 1))) - (v_M_spanOf a1 (sI (sI σ 13 0 52 0) 13 0 40 (((gI (sI σ 13 0 52 0) 13 0 40) * 1103515245) + 12345)))) (sI (sI σ 13 0 52 0) 13 0 40 (((gI (sI σ 13 0 52 0) 13 0 40) * 1103515245) + 12345))))
noncomputable def S_M_draw : List MV → MSto → Option Prop × Option MV × MSto := fun as σ => match as with
  | [.inr (.inr (some (13, 0))), .inl a0] => (some (p_M_draw a0 σ), some (mI (v_M_draw a0 σ)), e_M_draw a0 σ)
  | _ => (some False, none, σ)
noncomputable def E_M_draw : MEnt := ((1, 1, 13), (4, 95, 0, 0), S_M_draw, ((⟨"ClothWithManModel", "draw", "(I)I"⟩ : MethodName), prog_14_method_41_code, 3, (some .int)))

def T_M_draw : Nat → Option (Instr × Nat × List Nat) := fun k => bif Nat.blt k 72 then (bif Nat.blt k 40 then (bif Nat.blt k 19 then (bif Nat.blt k 7 then (bif Nat.blt k 2 then (bif Nat.blt k 1 then (bif Nat.beq k 0 then some (.aload_n 0, 1, []) else none) else (bif Nat.beq k 1 then some (.iconst 0, 2, []) else none)) else (bif Nat.blt k 5 then (bif Nat.beq k 2 then some (.putfield 161, 5, []) else none) else (bif Nat.blt k 6 then (bif Nat.beq k 5 then some (.aload_n 0, 6, []) else none) else (bif Nat.beq k 6 then some (.iload_n 1, 7, []) else none)))) else (bif Nat.blt k 14 then (bif Nat.blt k 10 then (bif Nat.beq k 7 then some (.invokevirtual 267, 10, []) else none) else (bif Nat.blt k 13 then (bif Nat.beq k 10 then some (.ifCond .ne 8, 13, [18]) else none) else (bif Nat.beq k 13 then some (.aload_n 0, 14, []) else none))) else (bif Nat.blt k 17 then (bif Nat.beq k 14 then some (.invokevirtual 274, 17, []) else none) else (bif Nat.blt k 18 then (bif Nat.beq k 17 then some (.ireturn, 18, []) else none) else (bif Nat.beq k 18 then some (.aload_n 0, 19, []) else none))))) else (bif Nat.blt k 30 then (bif Nat.blt k 23 then (bif Nat.blt k 20 then (bif Nat.beq k 19 then some (.aload_n 0, 20, []) else none) else (bif Nat.beq k 20 then some (.getfield 105, 23, []) else none)) else (bif Nat.blt k 26 then (bif Nat.beq k 23 then some (.ldc_w 284, 26, []) else none) else (bif Nat.blt k 27 then (bif Nat.beq k 26 then some (.imul, 27, []) else none) else (bif Nat.beq k 27 then some (.sipush 12345, 30, []) else none)))) else (bif Nat.blt k 35 then (bif Nat.blt k 31 then (bif Nat.beq k 30 then some (.iadd, 31, []) else none) else (bif Nat.blt k 34 then (bif Nat.beq k 31 then some (.putfield 105, 34, []) else none) else (bif Nat.beq k 34 then some (.aload_n 0, 35, []) else none))) else (bif Nat.blt k 36 then (bif Nat.beq k 35 then some (.iload_n 1, 36, []) else none) else (bif Nat.blt k 39 then (bif Nat.beq k 36 then some (.invokevirtual 270, 39, []) else none) else (bif Nat.beq k 39 then some (.aload_n 0, 40, []) else none)))))) else (bif Nat.blt k 56 then (bif Nat.blt k 48 then (bif Nat.blt k 45 then (bif Nat.blt k 43 then (bif Nat.beq k 40 then some (.getfield 105, 43, []) else none) else (bif Nat.beq k 43 then some (.bipush 16, 45, []) else none)) else (bif Nat.blt k 46 then (bif Nat.beq k 45 then some (.iushr, 46, []) else none) else (bif Nat.blt k 47 then (bif Nat.beq k 46 then some (.iconst 2, 47, []) else none) else (bif Nat.beq k 47 then some (.aload_n 0, 48, []) else none)))) else (bif Nat.blt k 53 then (bif Nat.blt k 49 then (bif Nat.beq k 48 then some (.iload_n 1, 49, []) else none) else (bif Nat.blt k 52 then (bif Nat.beq k 49 then some (.invokevirtual 285, 52, []) else none) else (bif Nat.beq k 52 then some (.imul, 53, []) else none))) else (bif Nat.blt k 54 then (bif Nat.beq k 53 then some (.iconst 1, 54, []) else none) else (bif Nat.blt k 55 then (bif Nat.beq k 54 then some (.iadd, 55, []) else none) else (bif Nat.beq k 55 then some (.irem, 56, []) else none))))) else (bif Nat.blt k 64 then (bif Nat.blt k 59 then (bif Nat.blt k 57 then (bif Nat.beq k 56 then some (.iadd, 57, []) else none) else (bif Nat.blt k 58 then (bif Nat.beq k 57 then some (.aload_n 0, 58, []) else none) else (bif Nat.beq k 58 then some (.iload_n 1, 59, []) else none))) else (bif Nat.blt k 62 then (bif Nat.beq k 59 then some (.invokevirtual 285, 62, []) else none) else (bif Nat.blt k 63 then (bif Nat.beq k 62 then some (.isub, 63, []) else none) else (bif Nat.beq k 63 then some (.istore_n 2, 64, []) else none)))) else (bif Nat.blt k 67 then (bif Nat.blt k 65 then (bif Nat.beq k 64 then some (.aload_n 0, 65, []) else none) else (bif Nat.blt k 66 then (bif Nat.beq k 65 then some (.iload_n 1, 66, []) else none) else (bif Nat.beq k 66 then some (.iload_n 2, 67, []) else none))) else (bif Nat.blt k 70 then (bif Nat.beq k 67 then some (.invokevirtual 280, 70, []) else none) else (bif Nat.blt k 71 then (bif Nat.beq k 70 then some (.iload_n 2, 71, []) else none) else (bif Nat.beq k 71 then some (.ireturn, 72, []) else none))))))) else none
noncomputable def P_M_draw : MP := (T_M_draw, (fun k => mLook k [(105, (13, 40, .int, false)), (161, (13, 52, .int, false))]), (fun k => mLook k [(284, .inl 1103515245)]), (fun k => mLook k [(267, E_M_isPiece), (270, E_M_truthOf), (274, E_M_lost), (280, E_M_setCounted), (285, E_M_spanOf)]), (fun k => mLook k []), (fun k => mLook k []), (fun k => mLook k []), (fun k => mLook k []), (fun k => [17, 71].any (Nat.beq k)), (4, 95, 0, 0), false, (fun _ => none))
set_option maxRecDepth 100000 in
set_option maxHeartbeats 4000000 in
theorem q_M_draw_e (a1 : Int32) (σ : MSto) (n : Nat) : mexe KT P_M_draw (n + 1) (0, [some (mR 13 0), some (mI a1), none], [], σ, 0, 0) = mIf ((v_M_isPiece a1 (sI σ 13 0 52 0)) = 0) (some (17, [], [(mI (v_M_lost (sI σ 13 0 52 0)))], (e_M_lost (sI σ 13 0 52 0)), 0, 0)) (mG (p_M_truthOf a1 (sI (sI σ 13 0 52 0) 13 0 40 (((gI (sI σ 13 0 52 0) 13 0 40) * 1103515245) + 12345))) (mG (p_M_spanOf a1 (sI (sI σ 13 0 52 0) 13 0 40 (((gI (sI σ 13 0 52 0) 13 0 40) * 1103515245) + 12345))) (mG (¬ (((2 * (v_M_spanOf a1 (sI (sI σ 13 0 52 0) 13 0 40 (((gI (sI σ 13 0 52 0) 13 0 40) * 1103515245) + 12345)))) + 1) : Int32) = 0) (mG (p_M_spanOf a1 (sI (sI σ 13 0 52 0) 13 0 40 (((gI (sI σ 13 0 52 0) 13 0 40) * 1103515245) + 12345))) (mG (p_M_setCounted a1 (((v_M_truthOf a1 (sI (sI σ 13 0 52 0) 13 0 40 (((gI (sI σ 13 0 52 0) 13 0 40) * 1103515245) + 12345))) + ((Int32.toUInt32 (gI (sI (sI σ 13 0 52 0) 13 0 40 (((gI (sI σ 13 0 52 0) 13 0 40) * 1103515245) + 12345)) 13 0 40) >>> (Int32.toUInt32 16 &&& Int32.toUInt32 31)).toInt32 - (Int32.toUInt32 (gI (sI (sI σ 13 0 52 0) 13 0 40 (((gI (sI σ 13 0 52 0) 13 0 40) * 1103515245) + 12345)) 13 0 40) >>> (Int32.toUInt32 16 &&& Int32.toUInt32 31)).toInt32 / ((2 * (v_M_spanOf a1 (sI (sI σ 13 0 52 0) 13 0 40 (((gI (sI σ 13 0 52 0) 13 0 40) * 1103515245) + 12345)))) + 1) * ((2 * (v_M_spanOf a1 (sI (sI σ 13 0 52 0) 13 0 40 (((gI (sI σ 13 0 52 0) 13 0 40) * 1103515245) + 12345)))) + 1))) - (v_M_spanOf a1 (sI (sI σ 13 0 52 0) 13 0 40 (((gI (sI σ 13 0 52 0) 13 0 40) * 1103515245) + 12345)))) (sI (sI σ 13 0 52 0) 13 0 40 (((gI (sI σ 13 0 52 0) 13 0 40) * 1103515245) + 12345))) (some (71, [], [(mI (((v_M_truthOf a1 (sI (sI σ 13 0 52 0) 13 0 40 (((gI (sI σ 13 0 52 0) 13 0 40) * 1103515245) + 12345))) + ((Int32.toUInt32 (gI (sI (sI σ 13 0 52 0) 13 0 40 (((gI (sI σ 13 0 52 0) 13 0 40) * 1103515245) + 12345)) 13 0 40) >>> (Int32.toUInt32 16 &&& Int32.toUInt32 31)).toInt32 - (Int32.toUInt32 (gI (sI (sI σ 13 0 52 0) 13 0 40 (((gI (sI σ 13 0 52 0) 13 0 40) * 1103515245) + 12345)) 13 0 40) >>> (Int32.toUInt32 16 &&& Int32.toUInt32 31)).toInt32 / ((2 * (v_M_spanOf a1 (sI (sI σ 13 0 52 0) 13 0 40 (((gI (sI σ 13 0 52 0) 13 0 40) * 1103515245) + 12345)))) + 1) * ((2 * (v_M_spanOf a1 (sI (sI σ 13 0 52 0) 13 0 40 (((gI (sI σ 13 0 52 0) 13 0 40) * 1103515245) + 12345)))) + 1))) - (v_M_spanOf a1 (sI (sI σ 13 0 52 0) 13 0 40 (((gI (sI σ 13 0 52 0) 13 0 40) * 1103515245) + 12345)))))], (e_M_setCounted a1 (((v_M_truthOf a1 (sI (sI σ 13 0 52 0) 13 0 40 (((gI (sI σ 13 0 52 0) 13 0 40) * 1103515245) + 12345))) + ((Int32.toUInt32 (gI (sI (sI σ 13 0 52 0) 13 0 40 (((gI (sI σ 13 0 52 0) 13 0 40) * 1103515245) + 12345)) 13 0 40) >>> (Int32.toUInt32 16 &&& Int32.toUInt32 31)).toInt32 - (Int32.toUInt32 (gI (sI (sI σ 13 0 52 0) 13 0 40 (((gI (sI σ 13 0 52 0) 13 0 40) * 1103515245) + 12345)) 13 0 40) >>> (Int32.toUInt32 16 &&& Int32.toUInt32 31)).toInt32 / ((2 * (v_M_spanOf a1 (sI (sI σ 13 0 52 0) 13 0 40 (((gI (sI σ 13 0 52 0) 13 0 40) * 1103515245) + 12345)))) + 1) * ((2 * (v_M_spanOf a1 (sI (sI σ 13 0 52 0) 13 0 40 (((gI (sI σ 13 0 52 0) 13 0 40) * 1103515245) + 12345)))) + 1))) - (v_M_spanOf a1 (sI (sI σ 13 0 52 0) 13 0 40 (((gI (sI σ 13 0 52 0) 13 0 40) * 1103515245) + 12345)))) (sI (sI σ 13 0 52 0) 13 0 40 (((gI (sI σ 13 0 52 0) 13 0 40) * 1103515245) + 12345))), 0, 0))))))) := rfl
set_option maxRecDepth 100000 in
set_option maxHeartbeats 4000000 in
theorem d_M_draw (a1 : Int32) (σ : MSto) (hp : p_M_draw a1 σ) : mW1 P_M_draw (0, [some (mR 13 0), some (mI a1), none], [], σ, 0, 0) (mF [17, 71] [mI (v_M_draw a1 σ)] (e_M_draw a1 σ) 0 0) := by
  refine mW1_eq (q_M_draw_e _ _) ?_
  unfold p_M_draw at hp
  refine mTr_if (fun h0 => ?_) (fun h0 => ?_)
  · skip
    exact mTr_e (by decide) (congrArg (fun z => [mI z]) (Eq.symm (if_pos h0))) (Eq.symm (if_pos h0)) (by decide) (by decide)
  · skip
    have hp := hp h0
    refine mTr_g hp.1 ?_
    have hp := hp.2
    refine mTr_g hp.1 ?_
    have hp := hp.2
    refine mTr_g hp.1 ?_
    have hp := hp.2
    refine mTr_g hp.1 ?_
    have hp := hp.2
    refine mTr_g hp ?_
    exact mTr_e (by decide) (congrArg (fun z => [mI z]) (Eq.symm (if_neg h0))) (Eq.symm (if_neg h0)) (by decide) (by decide)
theorem li_M_285 : mLink "ClothWithManModel" 285 E_M_spanOf := ⟨tw_7_65, tw_1_9, ⟨by decide, by decide⟩, by decide +kernel, Or.inl tw_7_62, (fun h => by cases h), (fun _ => ⟨tw_7_64, tw_0_59, TX12, 71, rfl⟩), (fun h => by cases h)⟩





theorem tk_M_draw : ∀ pc i nx tg, T_M_draw pc = some (i, nx, tg) → mOkB prog_14_method_41_code pc i nx tg = true := code_ok (N := 72) (fun k h => by unfold T_M_draw; rw [h]; rfl) (by decide +kernel)
theorem ok_M_draw (l : Launch) : mPOK l "ClothWithManModel" prog_14_method_41_code P_M_draw := by
  refine ⟨tk_M_draw, ?_, ?_, ?_, (fun pc i nx tg kd _ h => by cases h), ?_, ?_, fun pc en h => by cases h⟩
  · intro x ci f ty fin h
    exact mLook_all (Q := fun x v => mFOK "ClothWithManModel" x v.1 v.2.1 v.2.2.1 v.2.2.2 ∧ (v.2.2.2 = true → pIni P_M_draw = true → (Cond.fieldLink "ClothWithManModel" x (((mCl[v.1]?).getD ("", fun _ => ("", "", "", false), 0)).2.1 v.2.1).1 (((mCl[v.1]?).getD ("", fun _ => ("", "", "", false), 0)).2.1 v.2.1).2.1 (((mCl[v.1]?).getD ("", fun _ => ("", "", "", false), 0)).2.1 v.2.1).2.2.1 ∈ lw_tbl ∧ (((mCl[v.1]?).getD ("", fun _ => ("", "", "", false), 0)).2.1 v.2.1).1 = "ClothWithManModel"))) (fcC ⟨fo_M_105, fun h1 h2 => by cases h1⟩ (fcC ⟨fo_M_161, fun h1 h2 => by cases h1⟩ fcN)) x (ci, f, ty, fin) h
  · intro x
    have hh := mLook_all (l := ([(284, .inl 1103515245)] : List (Nat × (Int32 ⊕ Int64)))) (Q := fun x (v : Int32 ⊕ Int64) => (∀ w, v = .inl w → Cond.constant "ClothWithManModel" x w ∈ lw_tbl) ∧ (∀ w, v = .inr w → Cond.constantLong "ClothWithManModel" x w ∈ lw_tbl)) (fcC ⟨(fun v h => by cases h; exact tw_7_61), fun v h => by cases h⟩ fcN) x
    exact ⟨fun w h => (hh _ h).1 w rfl, fun w h => (hh _ h).2 w rfl⟩
  · exact fun x en h => mLook_all (Q := fun x en => mLink "ClothWithManModel" x en ∧ mCtr l en ∧ (en.1.1 = 2 → en.2.2.2.2.2.2 = none)) (fcC ⟨li_M_267, c_M_isPiece l, (fun h => by cases h)⟩ (fcC ⟨li_M_270, c_M_truthOf l, (fun h => by cases h)⟩ (fcC ⟨li_M_274, c_M_lost l, (fun h => by cases h)⟩ (fcC ⟨li_M_280, c_M_setCounted l, (fun h => by cases h)⟩ (fcC ⟨li_M_285, c_M_spanOf l, (fun h => by cases h)⟩ fcN))))) x en h
  · exact fun x kd h => mLook_all (Q := fun x kd => (kd = 95 ∧ Cond.fieldLink "ClothWithManModel" x "ClothWithMan" "LIKENESSES" "[I" ∈ lw_tbl) ∨ (kd = 96 ∧ Cond.fieldLink "ClothWithManModel" x "ClothWithMan" "APART_BOUNDS" "[I" ∈ lw_tbl)) fcN x kd h
  · exact fun x ci h => mLook_all (Q := fun x ci => ci ≠ 0 ∧ ∃ (C : String) (T : u_T) (N : Nat), mCl[ci]? = some (C, T, N) ∧ Cond.classLink "ClothWithManModel" x C ∈ lw_tbl ∧ Cond.instantiable C N ∈ lw_tbl) fcN x ci h
set_option maxRecDepth 100000 in
theorem c_M_draw (l : Launch) : mCtr l E_M_draw := mCtr_of (P := P_M_draw) (own := "ClothWithManModel") mLay_ok rfl (by decide +kernel) rfl (ok_M_draw l) (fun h => by cases h) (fun as σ pr rv σ' hF hpr hlv => by
  unfold E_M_draw S_M_draw at hF
  simp only [] at hF
  split at hF
  · cases hF
    obtain ⟨n, pcF, c1, s1, g1, g2, g3, g4⟩ := mF_inv (d_M_draw _ σ (hpr _ rfl))
    exact ⟨Nat.le_of_ble_eq_true rfl, (fun v h => by cases h; trivial), n, pcF, c1, s1, g1, ⟨mEnd_of (i := .ireturn) (P := P_M_draw) (rets := [17, 71]) rfl g2, rfl⟩, g3, g4⟩
  · cases hF
    exact (hpr _ rfl).elim)
/-! ClothWithManModel.counted(I)I -/
noncomputable def v_M_counted (a1 : Int32) (σ : MSto) : Int32 := (if (v_M_isPiece a1 (sI σ 13 0 52 0)) = 0 then (v_M_lost (sI σ 13 0 52 0)) else (if (((gI (sI σ 13 0 52 0) 13 0 15) >>> (a1 &&& 31)) &&& 1) = 1 then (gI (sI σ 13 0 52 0) 51 0 (Int32.toNatClampNeg a1)) else (v_M_lost (sI σ 13 0 52 0))))
def p_M_counted (a1 : Int32) (σ : MSto) : Prop := (¬ ((v_M_isPiece a1 (sI σ 13 0 52 0)) = 0) → (((((gI (sI σ 13 0 52 0) 13 0 15) >>> (a1 &&& 31)) &&& 1) = 1) → (vp_in a1 12)))
noncomputable def e_M_counted (a1 : Int32) (σ : MSto) : MSto := (if (v_M_isPiece a1 (sI σ 13 0 52 0)) = 0 then (e_M_lost (sI σ 13 0 52 0)) else (if (((gI (sI σ 13 0 52 0) 13 0 15) >>> (a1 &&& 31)) &&& 1) = 1 then (sI σ 13 0 52 0) else (e_M_lost (sI σ 13 0 52 0))))
noncomputable def S_M_counted : List MV → MSto → Option Prop × Option MV × MSto := fun as σ => match as with
  | [.inr (.inr (some (13, 0))), .inl a0] => (some (p_M_counted a0 σ), some (mI (v_M_counted a0 σ)), e_M_counted a0 σ)
  | _ => (some False, none, σ)
noncomputable def E_M_counted : MEnt := ((1, 1, 13), (2, 43, 0, 0), S_M_counted, ((⟨"ClothWithManModel", "counted", "(I)I"⟩ : MethodName), prog_14_method_42_code, 2, (some .int)))

def T_M_counted : Nat → Option (Instr × Nat × List Nat) := fun k => bif Nat.blt k 39 then (bif Nat.blt k 19 then (bif Nat.blt k 7 then (bif Nat.blt k 2 then (bif Nat.blt k 1 then (bif Nat.beq k 0 then some (.aload_n 0, 1, []) else none) else (bif Nat.beq k 1 then some (.iconst 0, 2, []) else none)) else (bif Nat.blt k 5 then (bif Nat.beq k 2 then some (.putfield 161, 5, []) else none) else (bif Nat.blt k 6 then (bif Nat.beq k 5 then some (.aload_n 0, 6, []) else none) else (bif Nat.beq k 6 then some (.iload_n 1, 7, []) else none)))) else (bif Nat.blt k 14 then (bif Nat.blt k 10 then (bif Nat.beq k 7 then some (.invokevirtual 267, 10, []) else none) else (bif Nat.blt k 13 then (bif Nat.beq k 10 then some (.ifCond .eq 24, 13, [34]) else none) else (bif Nat.beq k 13 then some (.aload_n 0, 14, []) else none))) else (bif Nat.blt k 17 then (bif Nat.beq k 14 then some (.getfield 277, 17, []) else none) else (bif Nat.blt k 18 then (bif Nat.beq k 17 then some (.iload_n 1, 18, []) else none) else (bif Nat.beq k 18 then some (.ishr, 19, []) else none))))) else (bif Nat.blt k 29 then (bif Nat.blt k 22 then (bif Nat.blt k 20 then (bif Nat.beq k 19 then some (.iconst 1, 20, []) else none) else (bif Nat.blt k 21 then (bif Nat.beq k 20 then some (.iand, 21, []) else none) else (bif Nat.beq k 21 then some (.iconst 1, 22, []) else none))) else (bif Nat.blt k 25 then (bif Nat.beq k 22 then some (.if_icmp .ne 12, 25, [34]) else none) else (bif Nat.blt k 26 then (bif Nat.beq k 25 then some (.aload_n 0, 26, []) else none) else (bif Nat.beq k 26 then some (.getfield 47, 29, []) else none)))) else (bif Nat.blt k 34 then (bif Nat.blt k 30 then (bif Nat.beq k 29 then some (.iload_n 1, 30, []) else none) else (bif Nat.blt k 31 then (bif Nat.beq k 30 then some (.iaload, 31, []) else none) else (bif Nat.beq k 31 then some (.goto 7, 34, [38]) else none))) else (bif Nat.blt k 35 then (bif Nat.beq k 34 then some (.aload_n 0, 35, []) else none) else (bif Nat.blt k 38 then (bif Nat.beq k 35 then some (.invokevirtual 274, 38, []) else none) else (bif Nat.beq k 38 then some (.ireturn, 39, []) else none)))))) else none
noncomputable def P_M_counted : MP := (T_M_counted, (fun k => mLook k [(47, (13, 16, (.array .int), true)), (161, (13, 52, .int, false)), (277, (13, 15, .int, false))]), (fun k => mLook k []), (fun k => mLook k [(267, E_M_isPiece), (274, E_M_lost)]), (fun k => mLook k []), (fun k => mLook k []), (fun k => mLook k []), (fun k => mLook k []), (fun k => [38].any (Nat.beq k)), (2, 43, 0, 0), false, (fun _ => none))
set_option maxRecDepth 100000 in
set_option maxHeartbeats 4000000 in
theorem q_M_counted_e (a1 : Int32) (σ : MSto) (n : Nat) : mexe KT P_M_counted (n + 1) (0, [some (mR 13 0), some (mI a1)], [], σ, 0, 0) = mIf ((v_M_isPiece a1 (sI σ 13 0 52 0)) = 0) (some (38, [], [(mI (v_M_lost (sI σ 13 0 52 0)))], (e_M_lost (sI σ 13 0 52 0)), 0, 0)) (mIf ((((gI (sI σ 13 0 52 0) 13 0 15) >>> (a1 &&& 31)) &&& 1) = 1) (mG (vp_in a1 12) (some (38, [], [(mI (gI (sI σ 13 0 52 0) 51 0 (Int32.toNatClampNeg a1)))], (sI σ 13 0 52 0), 0, 0))) (some (38, [], [(mI (v_M_lost (sI σ 13 0 52 0)))], (e_M_lost (sI σ 13 0 52 0)), 0, 0))) := rfl
set_option maxRecDepth 100000 in
set_option maxHeartbeats 4000000 in
theorem d_M_counted (a1 : Int32) (σ : MSto) (hp : p_M_counted a1 σ) : mW1 P_M_counted (0, [some (mR 13 0), some (mI a1)], [], σ, 0, 0) (mF [38] [mI (v_M_counted a1 σ)] (e_M_counted a1 σ) 0 0) := by
  refine mW1_eq (q_M_counted_e _ _) ?_
  unfold p_M_counted at hp
  refine mTr_if (fun h0 => ?_) (fun h0 => ?_)
  · skip
    exact mTr_e (by decide) (congrArg (fun z => [mI z]) (Eq.symm (if_pos h0))) (Eq.symm (if_pos h0)) (by decide) (by decide)
  · skip
    have hp := hp h0
    refine mTr_if (fun h1 => ?_) (fun h1 => ?_)
    · skip
      have hp := hp h1
      refine mTr_g hp ?_
      exact mTr_e (by decide) (congrArg (fun z => [mI z]) (Eq.symm ((if_neg h0).trans (if_pos h1)))) (Eq.symm ((if_neg h0).trans (if_pos h1))) (by decide) (by decide)
    · skip
      exact mTr_e (by decide) (congrArg (fun z => [mI z]) (Eq.symm ((if_neg h0).trans (if_neg h1)))) (Eq.symm ((if_neg h0).trans (if_neg h1))) (by decide) (by decide)


theorem tk_M_counted : ∀ pc i nx tg, T_M_counted pc = some (i, nx, tg) → mOkB prog_14_method_42_code pc i nx tg = true := code_ok (N := 39) (fun k h => by unfold T_M_counted; rw [h]; rfl) (by decide +kernel)
theorem ok_M_counted (l : Launch) : mPOK l "ClothWithManModel" prog_14_method_42_code P_M_counted := by
  refine ⟨tk_M_counted, ?_, ?_, ?_, (fun pc i nx tg kd _ h => by cases h), ?_, ?_, fun pc en h => by cases h⟩
  · intro x ci f ty fin h
    exact mLook_all (Q := fun x v => mFOK "ClothWithManModel" x v.1 v.2.1 v.2.2.1 v.2.2.2 ∧ (v.2.2.2 = true → pIni P_M_counted = true → (Cond.fieldLink "ClothWithManModel" x (((mCl[v.1]?).getD ("", fun _ => ("", "", "", false), 0)).2.1 v.2.1).1 (((mCl[v.1]?).getD ("", fun _ => ("", "", "", false), 0)).2.1 v.2.1).2.1 (((mCl[v.1]?).getD ("", fun _ => ("", "", "", false), 0)).2.1 v.2.1).2.2.1 ∈ lw_tbl ∧ (((mCl[v.1]?).getD ("", fun _ => ("", "", "", false), 0)).2.1 v.2.1).1 = "ClothWithManModel"))) (fcC ⟨fo_M_47, fun h1 h2 => by cases h2⟩ (fcC ⟨fo_M_161, fun h1 h2 => by cases h1⟩ (fcC ⟨fo_M_277, fun h1 h2 => by cases h1⟩ fcN))) x (ci, f, ty, fin) h
  · intro x
    have hh := mLook_all (l := ([] : List (Nat × (Int32 ⊕ Int64)))) (Q := fun x (v : Int32 ⊕ Int64) => (∀ w, v = .inl w → Cond.constant "ClothWithManModel" x w ∈ lw_tbl) ∧ (∀ w, v = .inr w → Cond.constantLong "ClothWithManModel" x w ∈ lw_tbl)) fcN x
    exact ⟨fun w h => (hh _ h).1 w rfl, fun w h => (hh _ h).2 w rfl⟩
  · exact fun x en h => mLook_all (Q := fun x en => mLink "ClothWithManModel" x en ∧ mCtr l en ∧ (en.1.1 = 2 → en.2.2.2.2.2.2 = none)) (fcC ⟨li_M_267, c_M_isPiece l, (fun h => by cases h)⟩ (fcC ⟨li_M_274, c_M_lost l, (fun h => by cases h)⟩ fcN)) x en h
  · exact fun x kd h => mLook_all (Q := fun x kd => (kd = 95 ∧ Cond.fieldLink "ClothWithManModel" x "ClothWithMan" "LIKENESSES" "[I" ∈ lw_tbl) ∨ (kd = 96 ∧ Cond.fieldLink "ClothWithManModel" x "ClothWithMan" "APART_BOUNDS" "[I" ∈ lw_tbl)) fcN x kd h
  · exact fun x ci h => mLook_all (Q := fun x ci => ci ≠ 0 ∧ ∃ (C : String) (T : u_T) (N : Nat), mCl[ci]? = some (C, T, N) ∧ Cond.classLink "ClothWithManModel" x C ∈ lw_tbl ∧ Cond.instantiable C N ∈ lw_tbl) fcN x ci h
set_option maxRecDepth 100000 in
theorem c_M_counted (l : Launch) : mCtr l E_M_counted := mCtr_of (P := P_M_counted) (own := "ClothWithManModel") mLay_ok rfl (by decide +kernel) rfl (ok_M_counted l) (fun h => by cases h) (fun as σ pr rv σ' hF hpr hlv => by
  unfold E_M_counted S_M_counted at hF
  simp only [] at hF
  split at hF
  · cases hF
    obtain ⟨n, pcF, c1, s1, g1, g2, g3, g4⟩ := mF_inv (d_M_counted _ σ (hpr _ rfl))
    exact ⟨Nat.le_of_ble_eq_true rfl, (fun v h => by cases h; trivial), n, pcF, c1, s1, g1, ⟨mEnd_of (i := .ireturn) (P := P_M_counted) (rets := [38]) rfl g2, rfl⟩, g3, g4⟩
  · cases hF
    exact (hpr _ rfl).elim)
/-! ClothWithManModel.cleared(I)I -/
noncomputable def v_M_cleared (a1 : Int32) (σ : MSto) : Int32 := ((gI σ 51 0 (Int32.toNatClampNeg a1)) - (gI σ 45 0 (Int32.toNatClampNeg (gI σ 50 0 (Int32.toNatClampNeg a1)))))
def p_M_cleared (a1 : Int32) (σ : MSto) : Prop := ((vp_in a1 12) ∧ ((vp_in a1 12) ∧ (vp_in (gI σ 50 0 (Int32.toNatClampNeg a1)) 6)))
noncomputable def S_M_cleared : List MV → MSto → Option Prop × Option MV × MSto := fun as σ => match as with
  | [.inr (.inr (some (13, 0))), .inl a0] => (some (p_M_cleared a0 σ), some (mI (v_M_cleared a0 σ)), σ)
  | _ => (some False, none, σ)
noncomputable def E_M_cleared : MEnt := ((1, 1, 13), (0, 0, 0, 0), S_M_cleared, ((⟨"ClothWithManModel", "cleared", "(I)I"⟩ : MethodName), prog_14_method_48_code, 2, (some .int)))

def T_M_cleared : Nat → Option (Instr × Nat × List Nat) := fun k => bif Nat.blt k 19 then (bif Nat.blt k 10 then (bif Nat.blt k 5 then (bif Nat.blt k 1 then (bif Nat.beq k 0 then some (.aload_n 0, 1, []) else none) else (bif Nat.blt k 4 then (bif Nat.beq k 1 then some (.getfield 47, 4, []) else none) else (bif Nat.beq k 4 then some (.iload_n 1, 5, []) else none))) else (bif Nat.blt k 6 then (bif Nat.beq k 5 then some (.iaload, 6, []) else none) else (bif Nat.blt k 7 then (bif Nat.beq k 6 then some (.aload_n 0, 7, []) else none) else (bif Nat.beq k 7 then some (.getfield 29, 10, []) else none)))) else (bif Nat.blt k 15 then (bif Nat.blt k 11 then (bif Nat.beq k 10 then some (.aload_n 0, 11, []) else none) else (bif Nat.blt k 14 then (bif Nat.beq k 11 then some (.getfield 44, 14, []) else none) else (bif Nat.beq k 14 then some (.iload_n 1, 15, []) else none))) else (bif Nat.blt k 17 then (bif Nat.blt k 16 then (bif Nat.beq k 15 then some (.iaload, 16, []) else none) else (bif Nat.beq k 16 then some (.iaload, 17, []) else none)) else (bif Nat.blt k 18 then (bif Nat.beq k 17 then some (.isub, 18, []) else none) else (bif Nat.beq k 18 then some (.ireturn, 19, []) else none))))) else none
noncomputable def P_M_cleared : MP := (T_M_cleared, (fun k => mLook k [(29, (13, 8, (.array .int), true)), (44, (13, 14, (.array .int), true)), (47, (13, 16, (.array .int), true))]), (fun k => mLook k []), (fun k => mLook k []), (fun k => mLook k []), (fun k => mLook k []), (fun k => mLook k []), (fun k => mLook k []), (fun k => [18].any (Nat.beq k)), (0, 0, 0, 0), false, (fun _ => none))
set_option maxRecDepth 100000 in
set_option maxHeartbeats 4000000 in
theorem q_M_cleared_e (a1 : Int32) (σ : MSto) (n : Nat) : mexe KT P_M_cleared (n + 1) (0, [some (mR 13 0), some (mI a1)], [], σ, 0, 0) = mG (vp_in a1 12) (mG (vp_in a1 12) (mG (vp_in (gI σ 50 0 (Int32.toNatClampNeg a1)) 6) (some (18, [], [(mI ((gI σ 51 0 (Int32.toNatClampNeg a1)) - (gI σ 45 0 (Int32.toNatClampNeg (gI σ 50 0 (Int32.toNatClampNeg a1))))))], σ, 0, 0)))) := rfl
set_option maxRecDepth 100000 in
set_option maxHeartbeats 4000000 in
theorem d_M_cleared (a1 : Int32) (σ : MSto) (hp : p_M_cleared a1 σ) : mW1 P_M_cleared (0, [some (mR 13 0), some (mI a1)], [], σ, 0, 0) (mF [18] [mI (v_M_cleared a1 σ)] σ 0 0) := by
  refine mW1_eq (q_M_cleared_e _ _) ?_
  unfold p_M_cleared at hp
  refine mTr_g hp.1 ?_
  have hp := hp.2
  refine mTr_g hp.1 ?_
  have hp := hp.2
  refine mTr_g hp ?_
  exact mTr_e (by decide) (congrArg (fun z => [mI z]) (Eq.symm (rfl))) rfl (by decide) (by decide)
theorem tk_M_cleared : ∀ pc i nx tg, T_M_cleared pc = some (i, nx, tg) → mOkB prog_14_method_48_code pc i nx tg = true := code_ok (N := 19) (fun k h => by unfold T_M_cleared; rw [h]; rfl) (by decide +kernel)
theorem ok_M_cleared (l : Launch) : mPOK l "ClothWithManModel" prog_14_method_48_code P_M_cleared := by
  refine ⟨tk_M_cleared, ?_, ?_, ?_, (fun pc i nx tg kd _ h => by cases h), ?_, ?_, fun pc en h => by cases h⟩
  · intro x ci f ty fin h
    exact mLook_all (Q := fun x v => mFOK "ClothWithManModel" x v.1 v.2.1 v.2.2.1 v.2.2.2 ∧ (v.2.2.2 = true → pIni P_M_cleared = true → (Cond.fieldLink "ClothWithManModel" x (((mCl[v.1]?).getD ("", fun _ => ("", "", "", false), 0)).2.1 v.2.1).1 (((mCl[v.1]?).getD ("", fun _ => ("", "", "", false), 0)).2.1 v.2.1).2.1 (((mCl[v.1]?).getD ("", fun _ => ("", "", "", false), 0)).2.1 v.2.1).2.2.1 ∈ lw_tbl ∧ (((mCl[v.1]?).getD ("", fun _ => ("", "", "", false), 0)).2.1 v.2.1).1 = "ClothWithManModel"))) (fcC ⟨fo_M_29, fun h1 h2 => by cases h2⟩ (fcC ⟨fo_M_44, fun h1 h2 => by cases h2⟩ (fcC ⟨fo_M_47, fun h1 h2 => by cases h2⟩ fcN))) x (ci, f, ty, fin) h
  · intro x
    have hh := mLook_all (l := ([] : List (Nat × (Int32 ⊕ Int64)))) (Q := fun x (v : Int32 ⊕ Int64) => (∀ w, v = .inl w → Cond.constant "ClothWithManModel" x w ∈ lw_tbl) ∧ (∀ w, v = .inr w → Cond.constantLong "ClothWithManModel" x w ∈ lw_tbl)) fcN x
    exact ⟨fun w h => (hh _ h).1 w rfl, fun w h => (hh _ h).2 w rfl⟩
  · exact fun x en h => mLook_all (Q := fun x en => mLink "ClothWithManModel" x en ∧ mCtr l en ∧ (en.1.1 = 2 → en.2.2.2.2.2.2 = none)) fcN x en h
  · exact fun x kd h => mLook_all (Q := fun x kd => (kd = 95 ∧ Cond.fieldLink "ClothWithManModel" x "ClothWithMan" "LIKENESSES" "[I" ∈ lw_tbl) ∨ (kd = 96 ∧ Cond.fieldLink "ClothWithManModel" x "ClothWithMan" "APART_BOUNDS" "[I" ∈ lw_tbl)) fcN x kd h
  · exact fun x ci h => mLook_all (Q := fun x ci => ci ≠ 0 ∧ ∃ (C : String) (T : u_T) (N : Nat), mCl[ci]? = some (C, T, N) ∧ Cond.classLink "ClothWithManModel" x C ∈ lw_tbl ∧ Cond.instantiable C N ∈ lw_tbl) fcN x ci h
set_option maxRecDepth 100000 in
theorem c_M_cleared (l : Launch) : mCtr l E_M_cleared := mCtr_of (P := P_M_cleared) (own := "ClothWithManModel") mLay_ok rfl (by decide +kernel) rfl (ok_M_cleared l) (fun h => by cases h) (fun as σ pr rv σ' hF hpr hlv => by
  unfold E_M_cleared S_M_cleared at hF
  simp only [] at hF
  split at hF
  · cases hF
    obtain ⟨n, pcF, c1, s1, g1, g2, g3, g4⟩ := mF_inv (d_M_cleared _ σ (hpr _ rfl))
    exact ⟨Nat.le_of_ble_eq_true rfl, (fun v h => by cases h; trivial), n, pcF, c1, s1, g1, ⟨mEnd_of (i := .ireturn) (P := P_M_cleared) (rets := [18]) rfl g2, rfl⟩, g3, g4⟩
  · cases hF
    exact (hpr _ rfl).elim)
/-! ClothWithManModel.likenessOf(JJI)I -/
noncomputable def v_M_likenessOf (a0 : Int64) (a2 : Int64) (a4 : Int32) (σ : MSto) : Int32 := (if (lg_cmp ((2 * (v_Ma_absJ (a0 - a2) σ)) / (Int32.toInt64 a4)) 6) ≤ 0 then (if (Int64.toInt32 ((2 * (v_Ma_absJ (a0 - a2) σ)) / (Int32.toInt64 a4))) = 0 then 100 else (if (Int64.toInt32 ((2 * (v_Ma_absJ (a0 - a2) σ)) / (Int32.toInt64 a4))) = 1 then 88 else (if (Int64.toInt32 ((2 * (v_Ma_absJ (a0 - a2) σ)) / (Int32.toInt64 a4))) = 2 then 61 else (if (Int64.toInt32 ((2 * (v_Ma_absJ (a0 - a2) σ)) / (Int32.toInt64 a4))) = 3 then 32 else (if (Int64.toInt32 ((2 * (v_Ma_absJ (a0 - a2) σ)) / (Int32.toInt64 a4))) = 4 then 14 else (if (Int64.toInt32 ((2 * (v_Ma_absJ (a0 - a2) σ)) / (Int32.toInt64 a4))) = 5 then 4 else 1)))))) else 0)
def p_M_likenessOf (a0 : Int64) (a2 : Int64) (a4 : Int32) (σ : MSto) : Prop := (¬ ((Int32.toInt64 a4) : Int64) = 0)
noncomputable def S_M_likenessOf : List MV → MSto → Option Prop × Option MV × MSto := fun as σ => match as with
  | [.inr (.inl a0), .inr (.inl a1), .inl a2] => (some (p_M_likenessOf a0 a1 a2 σ), some (mI (v_M_likenessOf a0 a1 a2 σ)), σ)
  | _ => (some False, none, σ)
noncomputable def E_M_likenessOf : MEnt := ((0, 3, 13), (1, 21, 0, 0), S_M_likenessOf, ((⟨"ClothWithManModel", "likenessOf", "(JJI)I"⟩ : MethodName), prog_14_method_43_code, 7, (some .int)))

def T_M_likenessOf : Nat → Option (Instr × Nat × List Nat) := fun k => bif Nat.blt k 87 then (bif Nat.blt k 27 then (bif Nat.blt k 13 then (bif Nat.blt k 6 then (bif Nat.blt k 4 then (bif Nat.blt k 3 then (bif Nat.beq k 0 then some (.ldc2_w 288, 3, []) else none) else (bif Nat.beq k 3 then some (.lload_n 0, 4, []) else none)) else (bif Nat.blt k 5 then (bif Nat.beq k 4 then some (.lload_n 2, 5, []) else none) else (bif Nat.beq k 5 then some (.lsub, 6, []) else none))) else (bif Nat.blt k 10 then (bif Nat.blt k 9 then (bif Nat.beq k 6 then some (.invokestatic 167, 9, []) else none) else (bif Nat.beq k 9 then some (.lmul, 10, []) else none)) else (bif Nat.blt k 12 then (bif Nat.beq k 10 then some (.iload 4, 12, []) else none) else (bif Nat.beq k 12 then some (.i2l, 13, []) else none)))) else (bif Nat.blt k 21 then (bif Nat.blt k 16 then (bif Nat.blt k 14 then (bif Nat.beq k 13 then some (.ldiv, 14, []) else none) else (bif Nat.beq k 14 then some (.lstore 5, 16, []) else none)) else (bif Nat.blt k 18 then (bif Nat.beq k 16 then some (.lload 5, 18, []) else none) else (bif Nat.beq k 18 then some (.ldc2_w 290, 21, []) else none))) else (bif Nat.blt k 25 then (bif Nat.blt k 22 then (bif Nat.beq k 21 then some (.lcmp, 22, []) else none) else (bif Nat.beq k 22 then some (.ifCond .le 5, 25, [27]) else none)) else (bif Nat.blt k 26 then (bif Nat.beq k 25 then some (.iconst 0, 26, []) else none) else (bif Nat.beq k 26 then some (.ireturn, 27, []) else none))))) else (bif Nat.blt k 76 then (bif Nat.blt k 70 then (bif Nat.blt k 30 then (bif Nat.blt k 29 then (bif Nat.beq k 27 then some (.lload 5, 29, []) else none) else (bif Nat.beq k 29 then some (.l2i, 30, []) else none)) else (bif Nat.blt k 68 then (bif Nat.beq k 30 then some (.tableswitch 55 0 5 #[38, 41, 44, 47, 50, 53], 68, [85, 68, 71, 74, 77, 80, 83]) else none) else (bif Nat.beq k 68 then some (.bipush 100, 70, []) else none))) else (bif Nat.blt k 73 then (bif Nat.blt k 71 then (bif Nat.beq k 70 then some (.ireturn, 71, []) else none) else (bif Nat.beq k 71 then some (.bipush 88, 73, []) else none)) else (bif Nat.blt k 74 then (bif Nat.beq k 73 then some (.ireturn, 74, []) else none) else (bif Nat.beq k 74 then some (.bipush 61, 76, []) else none)))) else (bif Nat.blt k 82 then (bif Nat.blt k 79 then (bif Nat.blt k 77 then (bif Nat.beq k 76 then some (.ireturn, 77, []) else none) else (bif Nat.beq k 77 then some (.bipush 32, 79, []) else none)) else (bif Nat.blt k 80 then (bif Nat.beq k 79 then some (.ireturn, 80, []) else none) else (bif Nat.beq k 80 then some (.bipush 14, 82, []) else none))) else (bif Nat.blt k 84 then (bif Nat.blt k 83 then (bif Nat.beq k 82 then some (.ireturn, 83, []) else none) else (bif Nat.beq k 83 then some (.iconst 4, 84, []) else none)) else (bif Nat.blt k 85 then (bif Nat.beq k 84 then some (.ireturn, 85, []) else none) else (bif Nat.blt k 86 then (bif Nat.beq k 85 then some (.iconst 1, 86, []) else none) else (bif Nat.beq k 86 then some (.ireturn, 87, []) else none))))))) else none
noncomputable def P_M_likenessOf : MP := (T_M_likenessOf, (fun k => mLook k []), (fun k => mLook k [(288, .inr 2), (290, .inr 6)]), (fun k => mLook k [(167, E_Ma_absJ)]), (fun k => mLook k []), (fun k => mLook k []), (fun k => mLook k []), (fun k => mLook k []), (fun k => [26, 70, 73, 76, 79, 82, 84, 86].any (Nat.beq k)), (1, 21, 0, 0), false, (fun _ => none))
set_option maxRecDepth 100000 in
set_option maxHeartbeats 4000000 in
theorem q_M_likenessOf_e (a0 : Int64) (a2 : Int64) (a4 : Int32) (σ : MSto) (n : Nat) : mexe KT P_M_likenessOf (n + 1) (0, [some (mJ a0), none, some (mJ a2), none, some (mI a4), none, none], [], σ, 0, 0) = mG (¬ ((Int32.toInt64 a4) : Int64) = 0) (mIf ((lg_cmp ((2 * (v_Ma_absJ (a0 - a2) σ)) / (Int32.toInt64 a4)) 6) ≤ 0) (mIf ((Int64.toInt32 ((2 * (v_Ma_absJ (a0 - a2) σ)) / (Int32.toInt64 a4))) = 0) (some (70, [], [(mI 100)], σ, 0, 0)) (mIf ((Int64.toInt32 ((2 * (v_Ma_absJ (a0 - a2) σ)) / (Int32.toInt64 a4))) = 1) (some (73, [], [(mI 88)], σ, 0, 0)) (mIf ((Int64.toInt32 ((2 * (v_Ma_absJ (a0 - a2) σ)) / (Int32.toInt64 a4))) = 2) (some (76, [], [(mI 61)], σ, 0, 0)) (mIf ((Int64.toInt32 ((2 * (v_Ma_absJ (a0 - a2) σ)) / (Int32.toInt64 a4))) = 3) (some (79, [], [(mI 32)], σ, 0, 0)) (mIf ((Int64.toInt32 ((2 * (v_Ma_absJ (a0 - a2) σ)) / (Int32.toInt64 a4))) = 4) (some (82, [], [(mI 14)], σ, 0, 0)) (mIf ((Int64.toInt32 ((2 * (v_Ma_absJ (a0 - a2) σ)) / (Int32.toInt64 a4))) = 5) (some (84, [], [(mI 4)], σ, 0, 0)) (some (86, [], [(mI 1)], σ, 0, 0)))))))) (some (26, [], [(mI 0)], σ, 0, 0))) := rfl
set_option maxRecDepth 100000 in
set_option maxHeartbeats 4000000 in
theorem d_M_likenessOf (a0 : Int64) (a2 : Int64) (a4 : Int32) (σ : MSto) (hp : p_M_likenessOf a0 a2 a4 σ) : mW1 P_M_likenessOf (0, [some (mJ a0), none, some (mJ a2), none, some (mI a4), none, none], [], σ, 0, 0) (mF [26, 70, 73, 76, 79, 82, 84, 86] [mI (v_M_likenessOf a0 a2 a4 σ)] σ 0 0) := by
  refine mW1_eq (q_M_likenessOf_e _ _ _ _) ?_
  unfold p_M_likenessOf at hp
  refine mTr_g hp ?_
  refine mTr_if (fun h0 => ?_) (fun h0 => ?_)
  · skip
    refine mTr_if (fun h1 => ?_) (fun h1 => ?_)
    · skip
      exact mTr_e (by decide) (congrArg (fun z => [mI z]) (Eq.symm ((if_pos h0).trans (if_pos h1)))) rfl (by decide) (by decide)
    · skip
      refine mTr_if (fun h2 => ?_) (fun h2 => ?_)
      · skip
        exact mTr_e (by decide) (congrArg (fun z => [mI z]) (Eq.symm ((if_pos h0).trans ((if_neg h1).trans (if_pos h2))))) rfl (by decide) (by decide)
      · skip
        refine mTr_if (fun h3 => ?_) (fun h3 => ?_)
        · skip
          exact mTr_e (by decide) (congrArg (fun z => [mI z]) (Eq.symm ((if_pos h0).trans ((if_neg h1).trans ((if_neg h2).trans (if_pos h3)))))) rfl (by decide) (by decide)
        · skip
          refine mTr_if (fun h4 => ?_) (fun h4 => ?_)
          · skip
            exact mTr_e (by decide) (congrArg (fun z => [mI z]) (Eq.symm ((if_pos h0).trans ((if_neg h1).trans ((if_neg h2).trans ((if_neg h3).trans (if_pos h4))))))) rfl (by decide) (by decide)
          · skip
            refine mTr_if (fun h5 => ?_) (fun h5 => ?_)
            · skip
              exact mTr_e (by decide) (congrArg (fun z => [mI z]) (Eq.symm ((if_pos h0).trans ((if_neg h1).trans ((if_neg h2).trans ((if_neg h3).trans ((if_neg h4).trans (if_pos h5)))))))) rfl (by decide) (by decide)
            · skip
              refine mTr_if (fun h6 => ?_) (fun h6 => ?_)
              · skip
                exact mTr_e (by decide) (congrArg (fun z => [mI z]) (Eq.symm ((if_pos h0).trans ((if_neg h1).trans ((if_neg h2).trans ((if_neg h3).trans ((if_neg h4).trans ((if_neg h5).trans (if_pos h6))))))))) rfl (by decide) (by decide)
              · skip
                exact mTr_e (by decide) (congrArg (fun z => [mI z]) (Eq.symm ((if_pos h0).trans ((if_neg h1).trans ((if_neg h2).trans ((if_neg h3).trans ((if_neg h4).trans ((if_neg h5).trans (if_neg h6))))))))) rfl (by decide) (by decide)
  · skip
    exact mTr_e (by decide) (congrArg (fun z => [mI z]) (Eq.symm (if_neg h0))) rfl (by decide) (by decide)
theorem li_M_167 : mLink "ClothWithManModel" 167 E_Ma_absJ := ⟨tw_3_67, tw_1_10, ⟨by decide, by decide⟩, by decide +kernel, Or.inl tw_7_78, (fun _ => tw_3_66), (fun h => by cases h), (fun h => by cases h)⟩

theorem tk_M_likenessOf : ∀ pc i nx tg, T_M_likenessOf pc = some (i, nx, tg) → mOkB prog_14_method_43_code pc i nx tg = true := code_ok (N := 87) (fun k h => by unfold T_M_likenessOf; rw [h]; rfl) (by decide +kernel)
theorem ok_M_likenessOf (l : Launch) : mPOK l "ClothWithManModel" prog_14_method_43_code P_M_likenessOf := by
  refine ⟨tk_M_likenessOf, ?_, ?_, ?_, (fun pc i nx tg kd _ h => by cases h), ?_, ?_, fun pc en h => by cases h⟩
  · intro x ci f ty fin h
    exact mLook_all (Q := fun x v => mFOK "ClothWithManModel" x v.1 v.2.1 v.2.2.1 v.2.2.2 ∧ (v.2.2.2 = true → pIni P_M_likenessOf = true → (Cond.fieldLink "ClothWithManModel" x (((mCl[v.1]?).getD ("", fun _ => ("", "", "", false), 0)).2.1 v.2.1).1 (((mCl[v.1]?).getD ("", fun _ => ("", "", "", false), 0)).2.1 v.2.1).2.1 (((mCl[v.1]?).getD ("", fun _ => ("", "", "", false), 0)).2.1 v.2.1).2.2.1 ∈ lw_tbl ∧ (((mCl[v.1]?).getD ("", fun _ => ("", "", "", false), 0)).2.1 v.2.1).1 = "ClothWithManModel"))) fcN x (ci, f, ty, fin) h
  · intro x
    have hh := mLook_all (l := ([(288, .inr 2), (290, .inr 6)] : List (Nat × (Int32 ⊕ Int64)))) (Q := fun x (v : Int32 ⊕ Int64) => (∀ w, v = .inl w → Cond.constant "ClothWithManModel" x w ∈ lw_tbl) ∧ (∀ w, v = .inr w → Cond.constantLong "ClothWithManModel" x w ∈ lw_tbl)) (fcC ⟨(fun v h => by cases h), fun v h => by cases h; exact tw_7_77⟩ (fcC ⟨(fun v h => by cases h), fun v h => by cases h; exact tw_7_79⟩ fcN)) x
    exact ⟨fun w h => (hh _ h).1 w rfl, fun w h => (hh _ h).2 w rfl⟩
  · exact fun x en h => mLook_all (Q := fun x en => mLink "ClothWithManModel" x en ∧ mCtr l en ∧ (en.1.1 = 2 → en.2.2.2.2.2.2 = none)) (fcC ⟨li_M_167, c_Ma_absJ l, (fun h => by cases h)⟩ fcN) x en h
  · exact fun x kd h => mLook_all (Q := fun x kd => (kd = 95 ∧ Cond.fieldLink "ClothWithManModel" x "ClothWithMan" "LIKENESSES" "[I" ∈ lw_tbl) ∨ (kd = 96 ∧ Cond.fieldLink "ClothWithManModel" x "ClothWithMan" "APART_BOUNDS" "[I" ∈ lw_tbl)) fcN x kd h
  · exact fun x ci h => mLook_all (Q := fun x ci => ci ≠ 0 ∧ ∃ (C : String) (T : u_T) (N : Nat), mCl[ci]? = some (C, T, N) ∧ Cond.classLink "ClothWithManModel" x C ∈ lw_tbl ∧ Cond.instantiable C N ∈ lw_tbl) fcN x ci h
set_option maxRecDepth 100000 in
theorem c_M_likenessOf (l : Launch) : mCtr l E_M_likenessOf := mCtr_of (P := P_M_likenessOf) (own := "ClothWithManModel") mLay_ok rfl (by decide +kernel) rfl (ok_M_likenessOf l) (fun h => by cases h) (fun as σ pr rv σ' hF hpr hlv => by
  unfold E_M_likenessOf S_M_likenessOf at hF
  simp only [] at hF
  split at hF
  · cases hF
    obtain ⟨n, pcF, c1, s1, g1, g2, g3, g4⟩ := mF_inv (d_M_likenessOf _ _ _ σ (hpr _ rfl))
    exact ⟨Nat.le_of_ble_eq_true rfl, (fun v h => by cases h; trivial), n, pcF, c1, s1, g1, ⟨mEnd_of (i := .ireturn) (P := P_M_likenessOf) (rets := [26, 70, 73, 76, 79, 82, 84, 86]) rfl g2, rfl⟩, g3, g4⟩
  · cases hF
    exact (hpr _ rfl).elim)
/-! ClothWithManModel.likeness(III)I -/
noncomputable def v_M_likeness (a1 : Int32) (a2 : Int32) (a3 : Int32) (σ : MSto) : Int32 := (if (v_M_in a3 1 60 (sI σ 13 0 52 0)) = 0 then (-1) else (v_M_likenessOf (Int32.toInt64 a1) (Int32.toInt64 a2) a3 (sI σ 13 0 52 0)))
def p_M_likeness (a1 : Int32) (a2 : Int32) (a3 : Int32) (σ : MSto) : Prop := (¬ ((v_M_in a3 1 60 (sI σ 13 0 52 0)) = 0) → (p_M_likenessOf (Int32.toInt64 a1) (Int32.toInt64 a2) a3 (sI σ 13 0 52 0)))
noncomputable def e_M_likeness (a1 : Int32) (a2 : Int32) (a3 : Int32) (σ : MSto) : MSto := (sI σ 13 0 52 0)
noncomputable def S_M_likeness : List MV → MSto → Option Prop × Option MV × MSto := fun as σ => match as with
  | [.inr (.inr (some (13, 0))), .inl a0, .inl a1, .inl a2] => (some (p_M_likeness a0 a1 a2 σ), some (mI (v_M_likeness a0 a1 a2 σ)), e_M_likeness a0 a1 a2 σ)
  | _ => (some False, none, σ)
noncomputable def E_M_likeness : MEnt := ((1, 3, 13), (2, 47, 0, 0), S_M_likeness, ((⟨"ClothWithManModel", "likeness", "(III)I"⟩ : MethodName), prog_14_method_44_code, 4, (some .int)))

def T_M_likeness : Nat → Option (Instr × Nat × List Nat) := fun k => bif Nat.blt k 28 then (bif Nat.blt k 15 then (bif Nat.blt k 6 then (bif Nat.blt k 2 then (bif Nat.blt k 1 then (bif Nat.beq k 0 then some (.aload_n 0, 1, []) else none) else (bif Nat.beq k 1 then some (.iconst 0, 2, []) else none)) else (bif Nat.blt k 5 then (bif Nat.beq k 2 then some (.putfield 161, 5, []) else none) else (bif Nat.beq k 5 then some (.iload_n 3, 6, []) else none))) else (bif Nat.blt k 9 then (bif Nat.blt k 7 then (bif Nat.beq k 6 then some (.iconst 1, 7, []) else none) else (bif Nat.beq k 7 then some (.bipush 60, 9, []) else none)) else (bif Nat.blt k 12 then (bif Nat.beq k 9 then some (.invokestatic 181, 12, []) else none) else (bif Nat.beq k 12 then some (.ifCond .eq 14, 15, [26]) else none)))) else (bif Nat.blt k 19 then (bif Nat.blt k 17 then (bif Nat.blt k 16 then (bif Nat.beq k 15 then some (.iload_n 1, 16, []) else none) else (bif Nat.beq k 16 then some (.i2l, 17, []) else none)) else (bif Nat.blt k 18 then (bif Nat.beq k 17 then some (.iload_n 2, 18, []) else none) else (bif Nat.beq k 18 then some (.i2l, 19, []) else none))) else (bif Nat.blt k 23 then (bif Nat.blt k 20 then (bif Nat.beq k 19 then some (.iload_n 3, 20, []) else none) else (bif Nat.beq k 20 then some (.invokestatic 292, 23, []) else none)) else (bif Nat.blt k 26 then (bif Nat.beq k 23 then some (.goto 4, 26, [27]) else none) else (bif Nat.blt k 27 then (bif Nat.beq k 26 then some (.iconst (-1), 27, []) else none) else (bif Nat.beq k 27 then some (.ireturn, 28, []) else none)))))) else none
noncomputable def P_M_likeness : MP := (T_M_likeness, (fun k => mLook k [(161, (13, 52, .int, false))]), (fun k => mLook k []), (fun k => mLook k [(181, E_M_in), (292, E_M_likenessOf)]), (fun k => mLook k []), (fun k => mLook k []), (fun k => mLook k []), (fun k => mLook k []), (fun k => [27].any (Nat.beq k)), (2, 47, 0, 0), false, (fun _ => none))
set_option maxRecDepth 100000 in
set_option maxHeartbeats 4000000 in
theorem q_M_likeness_e (a1 : Int32) (a2 : Int32) (a3 : Int32) (σ : MSto) (n : Nat) : mexe KT P_M_likeness (n + 1) (0, [some (mR 13 0), some (mI a1), some (mI a2), some (mI a3)], [], σ, 0, 0) = mIf ((v_M_in a3 1 60 (sI σ 13 0 52 0)) = 0) (some (27, [], [(mI (-1))], (sI σ 13 0 52 0), 0, 0)) (mG (p_M_likenessOf (Int32.toInt64 a1) (Int32.toInt64 a2) a3 (sI σ 13 0 52 0)) (some (27, [], [(mI (v_M_likenessOf (Int32.toInt64 a1) (Int32.toInt64 a2) a3 (sI σ 13 0 52 0)))], (sI σ 13 0 52 0), 0, 0))) := rfl
set_option maxRecDepth 100000 in
set_option maxHeartbeats 4000000 in
theorem d_M_likeness (a1 : Int32) (a2 : Int32) (a3 : Int32) (σ : MSto) (hp : p_M_likeness a1 a2 a3 σ) : mW1 P_M_likeness (0, [some (mR 13 0), some (mI a1), some (mI a2), some (mI a3)], [], σ, 0, 0) (mF [27] [mI (v_M_likeness a1 a2 a3 σ)] (e_M_likeness a1 a2 a3 σ) 0 0) := by
  refine mW1_eq (q_M_likeness_e _ _ _ _) ?_
  unfold p_M_likeness at hp
  refine mTr_if (fun h0 => ?_) (fun h0 => ?_)
  · skip
    exact mTr_e (by decide) (congrArg (fun z => [mI z]) (Eq.symm (if_pos h0))) (Eq.symm (rfl)) (by decide) (by decide)
  · skip
    have hp := hp h0
    refine mTr_g hp ?_
    exact mTr_e (by decide) (congrArg (fun z => [mI z]) (Eq.symm (if_neg h0))) (Eq.symm (rfl)) (by decide) (by decide)
theorem li_M_292 : mLink "ClothWithManModel" 292 E_M_likenessOf := ⟨tw_7_76, tw_1_9, ⟨by decide, by decide⟩, by decide +kernel, Or.inl tw_7_74, (fun _ => tw_7_75), (fun h => by cases h), (fun h => by cases h)⟩


theorem tk_M_likeness : ∀ pc i nx tg, T_M_likeness pc = some (i, nx, tg) → mOkB prog_14_method_44_code pc i nx tg = true := code_ok (N := 28) (fun k h => by unfold T_M_likeness; rw [h]; rfl) (by decide +kernel)
theorem ok_M_likeness (l : Launch) : mPOK l "ClothWithManModel" prog_14_method_44_code P_M_likeness := by
  refine ⟨tk_M_likeness, ?_, ?_, ?_, (fun pc i nx tg kd _ h => by cases h), ?_, ?_, fun pc en h => by cases h⟩
  · intro x ci f ty fin h
    exact mLook_all (Q := fun x v => mFOK "ClothWithManModel" x v.1 v.2.1 v.2.2.1 v.2.2.2 ∧ (v.2.2.2 = true → pIni P_M_likeness = true → (Cond.fieldLink "ClothWithManModel" x (((mCl[v.1]?).getD ("", fun _ => ("", "", "", false), 0)).2.1 v.2.1).1 (((mCl[v.1]?).getD ("", fun _ => ("", "", "", false), 0)).2.1 v.2.1).2.1 (((mCl[v.1]?).getD ("", fun _ => ("", "", "", false), 0)).2.1 v.2.1).2.2.1 ∈ lw_tbl ∧ (((mCl[v.1]?).getD ("", fun _ => ("", "", "", false), 0)).2.1 v.2.1).1 = "ClothWithManModel"))) (fcC ⟨fo_M_161, fun h1 h2 => by cases h1⟩ fcN) x (ci, f, ty, fin) h
  · intro x
    have hh := mLook_all (l := ([] : List (Nat × (Int32 ⊕ Int64)))) (Q := fun x (v : Int32 ⊕ Int64) => (∀ w, v = .inl w → Cond.constant "ClothWithManModel" x w ∈ lw_tbl) ∧ (∀ w, v = .inr w → Cond.constantLong "ClothWithManModel" x w ∈ lw_tbl)) fcN x
    exact ⟨fun w h => (hh _ h).1 w rfl, fun w h => (hh _ h).2 w rfl⟩
  · exact fun x en h => mLook_all (Q := fun x en => mLink "ClothWithManModel" x en ∧ mCtr l en ∧ (en.1.1 = 2 → en.2.2.2.2.2.2 = none)) (fcC ⟨li_M_181, c_M_in l, (fun h => by cases h)⟩ (fcC ⟨li_M_292, c_M_likenessOf l, (fun h => by cases h)⟩ fcN)) x en h
  · exact fun x kd h => mLook_all (Q := fun x kd => (kd = 95 ∧ Cond.fieldLink "ClothWithManModel" x "ClothWithMan" "LIKENESSES" "[I" ∈ lw_tbl) ∨ (kd = 96 ∧ Cond.fieldLink "ClothWithManModel" x "ClothWithMan" "APART_BOUNDS" "[I" ∈ lw_tbl)) fcN x kd h
  · exact fun x ci h => mLook_all (Q := fun x ci => ci ≠ 0 ∧ ∃ (C : String) (T : u_T) (N : Nat), mCl[ci]? = some (C, T, N) ∧ Cond.classLink "ClothWithManModel" x C ∈ lw_tbl ∧ Cond.instantiable C N ∈ lw_tbl) fcN x ci h
set_option maxRecDepth 100000 in
theorem c_M_likeness (l : Launch) : mCtr l E_M_likeness := mCtr_of (P := P_M_likeness) (own := "ClothWithManModel") mLay_ok rfl (by decide +kernel) rfl (ok_M_likeness l) (fun h => by cases h) (fun as σ pr rv σ' hF hpr hlv => by
  unfold E_M_likeness S_M_likeness at hF
  simp only [] at hF
  split at hF
  · cases hF
    obtain ⟨n, pcF, c1, s1, g1, g2, g3, g4⟩ := mF_inv (d_M_likeness _ _ _ σ (hpr _ rfl))
    exact ⟨Nat.le_of_ble_eq_true rfl, (fun v h => by cases h; trivial), n, pcF, c1, s1, g1, ⟨mEnd_of (i := .ireturn) (P := P_M_likeness) (rets := [27]) rfl g2, rfl⟩, g3, g4⟩
  · cases hF
    exact (hpr _ rfl).elim)
/-! ClothWithManModel.mend(IIIII)I -/
noncomputable def v_M_mend (a1 : Int32) (a2 : Int32) (a3 : Int32) (a4 : Int32) (a5 : Int32) (σ : MSto) : Int32 := (if (v_M_isOn a1 a2 a3 a4 (sI σ 13 0 52 0)) = 0 then (-1) else (if (v_M_isYear a5 (sI σ 13 0 52 0)) = 0 then (-1) else (if (gI (sI σ 13 0 52 0) 13 0 3) = 6 then (-1) else ((gI (sI (sI (sI (sI (sI (sI (sI σ 13 0 52 0) 42 0 (Int32.toNatClampNeg (5 * (gI (sI σ 13 0 52 0) 13 0 3))) a1) 42 0 (Int32.toNatClampNeg ((5 * (gI (sI σ 13 0 52 0) 13 0 3)) + 1)) a2) 42 0 (Int32.toNatClampNeg ((5 * (gI (sI σ 13 0 52 0) 13 0 3)) + 2)) a3) 42 0 (Int32.toNatClampNeg ((5 * (gI (sI σ 13 0 52 0) 13 0 3)) + 3)) a4) 42 0 (Int32.toNatClampNeg ((5 * (gI (sI σ 13 0 52 0) 13 0 3)) + 4)) a5) 13 0 3 ((gI (sI (sI (sI (sI (sI (sI σ 13 0 52 0) 42 0 (Int32.toNatClampNeg (5 * (gI (sI σ 13 0 52 0) 13 0 3))) a1) 42 0 (Int32.toNatClampNeg ((5 * (gI (sI σ 13 0 52 0) 13 0 3)) + 1)) a2) 42 0 (Int32.toNatClampNeg ((5 * (gI (sI σ 13 0 52 0) 13 0 3)) + 2)) a3) 42 0 (Int32.toNatClampNeg ((5 * (gI (sI σ 13 0 52 0) 13 0 3)) + 3)) a4) 42 0 (Int32.toNatClampNeg ((5 * (gI (sI σ 13 0 52 0) 13 0 3)) + 4)) a5) 13 0 3) + 1)) 13 0 3) - 1))))
def p_M_mend (a1 : Int32) (a2 : Int32) (a3 : Int32) (a4 : Int32) (a5 : Int32) (σ : MSto) : Prop := (¬ ((v_M_isOn a1 a2 a3 a4 (sI σ 13 0 52 0)) = 0) → (¬ ((v_M_isYear a5 (sI σ 13 0 52 0)) = 0) → (¬ ((gI (sI σ 13 0 52 0) 13 0 3) = 6) → ((vp_in (5 * (gI (sI σ 13 0 52 0) 13 0 3)) 30) ∧ ((vp_in ((5 * (gI (sI σ 13 0 52 0) 13 0 3)) + 1) 30) ∧ ((vp_in ((5 * (gI (sI σ 13 0 52 0) 13 0 3)) + 2) 30) ∧ ((vp_in ((5 * (gI (sI σ 13 0 52 0) 13 0 3)) + 3) 30) ∧ (vp_in ((5 * (gI (sI σ 13 0 52 0) 13 0 3)) + 4) 30))))))))
noncomputable def e_M_mend (a1 : Int32) (a2 : Int32) (a3 : Int32) (a4 : Int32) (a5 : Int32) (σ : MSto) : MSto := (if (v_M_isOn a1 a2 a3 a4 (sI σ 13 0 52 0)) = 0 then (sI σ 13 0 52 0) else (if (v_M_isYear a5 (sI σ 13 0 52 0)) = 0 then (sI σ 13 0 52 0) else (if (gI (sI σ 13 0 52 0) 13 0 3) = 6 then (sI σ 13 0 52 0) else (sI (sI (sI (sI (sI (sI (sI σ 13 0 52 0) 42 0 (Int32.toNatClampNeg (5 * (gI (sI σ 13 0 52 0) 13 0 3))) a1) 42 0 (Int32.toNatClampNeg ((5 * (gI (sI σ 13 0 52 0) 13 0 3)) + 1)) a2) 42 0 (Int32.toNatClampNeg ((5 * (gI (sI σ 13 0 52 0) 13 0 3)) + 2)) a3) 42 0 (Int32.toNatClampNeg ((5 * (gI (sI σ 13 0 52 0) 13 0 3)) + 3)) a4) 42 0 (Int32.toNatClampNeg ((5 * (gI (sI σ 13 0 52 0) 13 0 3)) + 4)) a5) 13 0 3 ((gI (sI (sI (sI (sI (sI (sI σ 13 0 52 0) 42 0 (Int32.toNatClampNeg (5 * (gI (sI σ 13 0 52 0) 13 0 3))) a1) 42 0 (Int32.toNatClampNeg ((5 * (gI (sI σ 13 0 52 0) 13 0 3)) + 1)) a2) 42 0 (Int32.toNatClampNeg ((5 * (gI (sI σ 13 0 52 0) 13 0 3)) + 2)) a3) 42 0 (Int32.toNatClampNeg ((5 * (gI (sI σ 13 0 52 0) 13 0 3)) + 3)) a4) 42 0 (Int32.toNatClampNeg ((5 * (gI (sI σ 13 0 52 0) 13 0 3)) + 4)) a5) 13 0 3) + 1)))))
noncomputable def S_M_mend : List MV → MSto → Option Prop × Option MV × MSto := fun as σ => match as with
  | [.inr (.inr (some (13, 0))), .inl a0, .inl a1, .inl a2, .inl a3, .inl a4] => (some (p_M_mend a0 a1 a2 a3 a4 σ), some (mI (v_M_mend a0 a1 a2 a3 a4 σ)), e_M_mend a0 a1 a2 a3 a4 σ)
  | _ => (some False, none, σ)
noncomputable def E_M_mend : MEnt := ((1, 5, 13), (3, 66, 0, 0), S_M_mend, ((⟨"ClothWithManModel", "mend", "(IIIII)I"⟩ : MethodName), prog_14_method_25_code, 7, (some .int)))

def T_M_mend : Nat → Option (Instr × Nat × List Nat) := fun k => bif Nat.blt k 110 then (bif Nat.blt k 59 then (bif Nat.blt k 33 then (bif Nat.blt k 13 then (bif Nat.blt k 6 then (bif Nat.blt k 2 then (bif Nat.blt k 1 then (bif Nat.beq k 0 then some (.aload_n 0, 1, []) else none) else (bif Nat.beq k 1 then some (.iconst 0, 2, []) else none)) else (bif Nat.blt k 5 then (bif Nat.beq k 2 then some (.putfield 161, 5, []) else none) else (bif Nat.beq k 5 then some (.iload_n 1, 6, []) else none))) else (bif Nat.blt k 8 then (bif Nat.blt k 7 then (bif Nat.beq k 6 then some (.iload_n 2, 7, []) else none) else (bif Nat.beq k 7 then some (.iload_n 3, 8, []) else none)) else (bif Nat.blt k 10 then (bif Nat.beq k 8 then some (.iload 4, 10, []) else none) else (bif Nat.beq k 10 then some (.invokestatic 236, 13, []) else none)))) else (bif Nat.blt k 24 then (bif Nat.blt k 18 then (bif Nat.blt k 16 then (bif Nat.beq k 13 then some (.ifCond .eq 20, 16, [33]) else none) else (bif Nat.beq k 16 then some (.iload 5, 18, []) else none)) else (bif Nat.blt k 21 then (bif Nat.beq k 18 then some (.invokestatic 228, 21, []) else none) else (bif Nat.beq k 21 then some (.ifCond .eq 12, 24, [33]) else none))) else (bif Nat.blt k 28 then (bif Nat.blt k 25 then (bif Nat.beq k 24 then some (.aload_n 0, 25, []) else none) else (bif Nat.beq k 25 then some (.getfield 240, 28, []) else none)) else (bif Nat.blt k 30 then (bif Nat.beq k 28 then some (.bipush 6, 30, []) else none) else (bif Nat.beq k 30 then some (.if_icmp .ne 5, 33, [35]) else none))))) else (bif Nat.blt k 44 then (bif Nat.blt k 37 then (bif Nat.blt k 35 then (bif Nat.blt k 34 then (bif Nat.beq k 33 then some (.iconst (-1), 34, []) else none) else (bif Nat.beq k 34 then some (.ireturn, 35, []) else none)) else (bif Nat.blt k 36 then (bif Nat.beq k 35 then some (.iconst 5, 36, []) else none) else (bif Nat.beq k 36 then some (.aload_n 0, 37, []) else none))) else (bif Nat.blt k 41 then (bif Nat.blt k 40 then (bif Nat.beq k 37 then some (.getfield 240, 40, []) else none) else (bif Nat.beq k 40 then some (.imul, 41, []) else none)) else (bif Nat.blt k 43 then (bif Nat.beq k 41 then some (.istore 6, 43, []) else none) else (bif Nat.beq k 43 then some (.aload_n 0, 44, []) else none)))) else (bif Nat.blt k 51 then (bif Nat.blt k 49 then (bif Nat.blt k 47 then (bif Nat.beq k 44 then some (.getfield 20, 47, []) else none) else (bif Nat.beq k 47 then some (.iload 6, 49, []) else none)) else (bif Nat.blt k 50 then (bif Nat.beq k 49 then some (.iload_n 1, 50, []) else none) else (bif Nat.beq k 50 then some (.iastore, 51, []) else none))) else (bif Nat.blt k 55 then (bif Nat.blt k 52 then (bif Nat.beq k 51 then some (.aload_n 0, 52, []) else none) else (bif Nat.beq k 52 then some (.getfield 20, 55, []) else none)) else (bif Nat.blt k 57 then (bif Nat.beq k 55 then some (.iload 6, 57, []) else none) else (bif Nat.blt k 58 then (bif Nat.beq k 57 then some (.iconst 1, 58, []) else none) else (bif Nat.beq k 58 then some (.iadd, 59, []) else none))))))) else (bif Nat.blt k 83 then (bif Nat.blt k 70 then (bif Nat.blt k 65 then (bif Nat.blt k 61 then (bif Nat.blt k 60 then (bif Nat.beq k 59 then some (.iload_n 2, 60, []) else none) else (bif Nat.beq k 60 then some (.iastore, 61, []) else none)) else (bif Nat.blt k 62 then (bif Nat.beq k 61 then some (.aload_n 0, 62, []) else none) else (bif Nat.beq k 62 then some (.getfield 20, 65, []) else none))) else (bif Nat.blt k 68 then (bif Nat.blt k 67 then (bif Nat.beq k 65 then some (.iload 6, 67, []) else none) else (bif Nat.beq k 67 then some (.iconst 2, 68, []) else none)) else (bif Nat.blt k 69 then (bif Nat.beq k 68 then some (.iadd, 69, []) else none) else (bif Nat.beq k 69 then some (.iload_n 3, 70, []) else none)))) else (bif Nat.blt k 77 then (bif Nat.blt k 72 then (bif Nat.blt k 71 then (bif Nat.beq k 70 then some (.iastore, 71, []) else none) else (bif Nat.beq k 71 then some (.aload_n 0, 72, []) else none)) else (bif Nat.blt k 75 then (bif Nat.beq k 72 then some (.getfield 20, 75, []) else none) else (bif Nat.beq k 75 then some (.iload 6, 77, []) else none))) else (bif Nat.blt k 79 then (bif Nat.blt k 78 then (bif Nat.beq k 77 then some (.iconst 3, 78, []) else none) else (bif Nat.beq k 78 then some (.iadd, 79, []) else none)) else (bif Nat.blt k 81 then (bif Nat.beq k 79 then some (.iload 4, 81, []) else none) else (bif Nat.blt k 82 then (bif Nat.beq k 81 then some (.iastore, 82, []) else none) else (bif Nat.beq k 82 then some (.aload_n 0, 83, []) else none)))))) else (bif Nat.blt k 95 then (bif Nat.blt k 90 then (bif Nat.blt k 88 then (bif Nat.blt k 86 then (bif Nat.beq k 83 then some (.getfield 20, 86, []) else none) else (bif Nat.beq k 86 then some (.iload 6, 88, []) else none)) else (bif Nat.blt k 89 then (bif Nat.beq k 88 then some (.iconst 4, 89, []) else none) else (bif Nat.beq k 89 then some (.iadd, 90, []) else none))) else (bif Nat.blt k 93 then (bif Nat.blt k 92 then (bif Nat.beq k 90 then some (.iload 5, 92, []) else none) else (bif Nat.beq k 92 then some (.iastore, 93, []) else none)) else (bif Nat.blt k 94 then (bif Nat.beq k 93 then some (.aload_n 0, 94, []) else none) else (bif Nat.beq k 94 then some (.dup, 95, []) else none)))) else (bif Nat.blt k 103 then (bif Nat.blt k 99 then (bif Nat.blt k 98 then (bif Nat.beq k 95 then some (.getfield 240, 98, []) else none) else (bif Nat.beq k 98 then some (.iconst 1, 99, []) else none)) else (bif Nat.blt k 100 then (bif Nat.beq k 99 then some (.iadd, 100, []) else none) else (bif Nat.beq k 100 then some (.putfield 240, 103, []) else none))) else (bif Nat.blt k 107 then (bif Nat.blt k 104 then (bif Nat.beq k 103 then some (.aload_n 0, 104, []) else none) else (bif Nat.beq k 104 then some (.getfield 240, 107, []) else none)) else (bif Nat.blt k 108 then (bif Nat.beq k 107 then some (.iconst 1, 108, []) else none) else (bif Nat.blt k 109 then (bif Nat.beq k 108 then some (.isub, 109, []) else none) else (bif Nat.beq k 109 then some (.ireturn, 110, []) else none)))))))) else none
noncomputable def P_M_mend : MP := (T_M_mend, (fun k => mLook k [(20, (13, 4, (.array .int), true)), (161, (13, 52, .int, false)), (240, (13, 3, .int, false))]), (fun k => mLook k []), (fun k => mLook k [(228, E_M_isYear), (236, E_M_isOn)]), (fun k => mLook k []), (fun k => mLook k []), (fun k => mLook k []), (fun k => mLook k []), (fun k => [34, 109].any (Nat.beq k)), (3, 66, 0, 0), false, (fun _ => none))
set_option maxRecDepth 100000 in
set_option maxHeartbeats 4000000 in
theorem q_M_mend_e (a1 : Int32) (a2 : Int32) (a3 : Int32) (a4 : Int32) (a5 : Int32) (σ : MSto) (n : Nat) : mexe KT P_M_mend (n + 1) (0, [some (mR 13 0), some (mI a1), some (mI a2), some (mI a3), some (mI a4), some (mI a5), none], [], σ, 0, 0) = mIf ((v_M_isOn a1 a2 a3 a4 (sI σ 13 0 52 0)) = 0) (some (34, [], [(mI (-1))], (sI σ 13 0 52 0), 0, 0)) (mIf ((v_M_isYear a5 (sI σ 13 0 52 0)) = 0) (some (34, [], [(mI (-1))], (sI σ 13 0 52 0), 0, 0)) (mIf ((gI (sI σ 13 0 52 0) 13 0 3) = 6) (some (34, [], [(mI (-1))], (sI σ 13 0 52 0), 0, 0)) (mG (vp_in (5 * (gI (sI σ 13 0 52 0) 13 0 3)) 30) (mG (vp_in ((5 * (gI (sI σ 13 0 52 0) 13 0 3)) + 1) 30) (mG (vp_in ((5 * (gI (sI σ 13 0 52 0) 13 0 3)) + 2) 30) (mG (vp_in ((5 * (gI (sI σ 13 0 52 0) 13 0 3)) + 3) 30) (mG (vp_in ((5 * (gI (sI σ 13 0 52 0) 13 0 3)) + 4) 30) (some (109, [], [(mI ((gI (sI (sI (sI (sI (sI (sI (sI σ 13 0 52 0) 42 0 (Int32.toNatClampNeg (5 * (gI (sI σ 13 0 52 0) 13 0 3))) a1) 42 0 (Int32.toNatClampNeg ((5 * (gI (sI σ 13 0 52 0) 13 0 3)) + 1)) a2) 42 0 (Int32.toNatClampNeg ((5 * (gI (sI σ 13 0 52 0) 13 0 3)) + 2)) a3) 42 0 (Int32.toNatClampNeg ((5 * (gI (sI σ 13 0 52 0) 13 0 3)) + 3)) a4) 42 0 (Int32.toNatClampNeg ((5 * (gI (sI σ 13 0 52 0) 13 0 3)) + 4)) a5) 13 0 3 ((gI (sI (sI (sI (sI (sI (sI σ 13 0 52 0) 42 0 (Int32.toNatClampNeg (5 * (gI (sI σ 13 0 52 0) 13 0 3))) a1) 42 0 (Int32.toNatClampNeg ((5 * (gI (sI σ 13 0 52 0) 13 0 3)) + 1)) a2) 42 0 (Int32.toNatClampNeg ((5 * (gI (sI σ 13 0 52 0) 13 0 3)) + 2)) a3) 42 0 (Int32.toNatClampNeg ((5 * (gI (sI σ 13 0 52 0) 13 0 3)) + 3)) a4) 42 0 (Int32.toNatClampNeg ((5 * (gI (sI σ 13 0 52 0) 13 0 3)) + 4)) a5) 13 0 3) + 1)) 13 0 3) - 1))], (sI (sI (sI (sI (sI (sI (sI σ 13 0 52 0) 42 0 (Int32.toNatClampNeg (5 * (gI (sI σ 13 0 52 0) 13 0 3))) a1) 42 0 (Int32.toNatClampNeg ((5 * (gI (sI σ 13 0 52 0) 13 0 3)) + 1)) a2) 42 0 (Int32.toNatClampNeg ((5 * (gI (sI σ 13 0 52 0) 13 0 3)) + 2)) a3) 42 0 (Int32.toNatClampNeg ((5 * (gI (sI σ 13 0 52 0) 13 0 3)) + 3)) a4) 42 0 (Int32.toNatClampNeg ((5 * (gI (sI σ 13 0 52 0) 13 0 3)) + 4)) a5) 13 0 3 ((gI (sI (sI (sI (sI (sI (sI σ 13 0 52 0) 42 0 (Int32.toNatClampNeg (5 * (gI (sI σ 13 0 52 0) 13 0 3))) a1) 42 0 (Int32.toNatClampNeg ((5 * (gI (sI σ 13 0 52 0) 13 0 3)) + 1)) a2) 42 0 (Int32.toNatClampNeg ((5 * (gI (sI σ 13 0 52 0) 13 0 3)) + 2)) a3) 42 0 (Int32.toNatClampNeg ((5 * (gI (sI σ 13 0 52 0) 13 0 3)) + 3)) a4) 42 0 (Int32.toNatClampNeg ((5 * (gI (sI σ 13 0 52 0) 13 0 3)) + 4)) a5) 13 0 3) + 1)), 0, 0))))))))) := rfl
set_option maxRecDepth 100000 in
set_option maxHeartbeats 4000000 in
theorem d_M_mend (a1 : Int32) (a2 : Int32) (a3 : Int32) (a4 : Int32) (a5 : Int32) (σ : MSto) (hp : p_M_mend a1 a2 a3 a4 a5 σ) : mW1 P_M_mend (0, [some (mR 13 0), some (mI a1), some (mI a2), some (mI a3), some (mI a4), some (mI a5), none], [], σ, 0, 0) (mF [34, 109] [mI (v_M_mend a1 a2 a3 a4 a5 σ)] (e_M_mend a1 a2 a3 a4 a5 σ) 0 0) := by
  refine mW1_eq (q_M_mend_e _ _ _ _ _ _) ?_
  unfold p_M_mend at hp
  refine mTr_if (fun h0 => ?_) (fun h0 => ?_)
  · skip
    exact mTr_e (by decide) (congrArg (fun z => [mI z]) (Eq.symm (if_pos h0))) (Eq.symm (if_pos h0)) (by decide) (by decide)
  · skip
    have hp := hp h0
    refine mTr_if (fun h1 => ?_) (fun h1 => ?_)
    · skip
      exact mTr_e (by decide) (congrArg (fun z => [mI z]) (Eq.symm ((if_neg h0).trans (if_pos h1)))) (Eq.symm ((if_neg h0).trans (if_pos h1))) (by decide) (by decide)
    · skip
      have hp := hp h1
      refine mTr_if (fun h2 => ?_) (fun h2 => ?_)
      · skip
        exact mTr_e (by decide) (congrArg (fun z => [mI z]) (Eq.symm ((if_neg h0).trans ((if_neg h1).trans (if_pos h2))))) (Eq.symm ((if_neg h0).trans ((if_neg h1).trans (if_pos h2)))) (by decide) (by decide)
      · skip
        have hp := hp h2
        refine mTr_g hp.1 ?_
        have hp := hp.2
        refine mTr_g hp.1 ?_
        have hp := hp.2
        refine mTr_g hp.1 ?_
        have hp := hp.2
        refine mTr_g hp.1 ?_
        have hp := hp.2
        refine mTr_g hp ?_
        exact mTr_e (by decide) (congrArg (fun z => [mI z]) (Eq.symm ((if_neg h0).trans ((if_neg h1).trans (if_neg h2))))) (Eq.symm ((if_neg h0).trans ((if_neg h1).trans (if_neg h2)))) (by decide) (by decide)
theorem li_M_236 : mLink "ClothWithManModel" 236 E_M_isOn := ⟨tw_6_228, tw_1_9, ⟨by decide, by decide⟩, by decide +kernel, Or.inl tw_6_226, (fun _ => tw_6_227), (fun h => by cases h), (fun h => by cases h)⟩


theorem tk_M_mend : ∀ pc i nx tg, T_M_mend pc = some (i, nx, tg) → mOkB prog_14_method_25_code pc i nx tg = true := code_ok (N := 110) (fun k h => by unfold T_M_mend; rw [h]; rfl) (by decide +kernel)
theorem ok_M_mend (l : Launch) : mPOK l "ClothWithManModel" prog_14_method_25_code P_M_mend := by
  refine ⟨tk_M_mend, ?_, ?_, ?_, (fun pc i nx tg kd _ h => by cases h), ?_, ?_, fun pc en h => by cases h⟩
  · intro x ci f ty fin h
    exact mLook_all (Q := fun x v => mFOK "ClothWithManModel" x v.1 v.2.1 v.2.2.1 v.2.2.2 ∧ (v.2.2.2 = true → pIni P_M_mend = true → (Cond.fieldLink "ClothWithManModel" x (((mCl[v.1]?).getD ("", fun _ => ("", "", "", false), 0)).2.1 v.2.1).1 (((mCl[v.1]?).getD ("", fun _ => ("", "", "", false), 0)).2.1 v.2.1).2.1 (((mCl[v.1]?).getD ("", fun _ => ("", "", "", false), 0)).2.1 v.2.1).2.2.1 ∈ lw_tbl ∧ (((mCl[v.1]?).getD ("", fun _ => ("", "", "", false), 0)).2.1 v.2.1).1 = "ClothWithManModel"))) (fcC ⟨fo_M_20, fun h1 h2 => by cases h2⟩ (fcC ⟨fo_M_161, fun h1 h2 => by cases h1⟩ (fcC ⟨fo_M_240, fun h1 h2 => by cases h1⟩ fcN))) x (ci, f, ty, fin) h
  · intro x
    have hh := mLook_all (l := ([] : List (Nat × (Int32 ⊕ Int64)))) (Q := fun x (v : Int32 ⊕ Int64) => (∀ w, v = .inl w → Cond.constant "ClothWithManModel" x w ∈ lw_tbl) ∧ (∀ w, v = .inr w → Cond.constantLong "ClothWithManModel" x w ∈ lw_tbl)) fcN x
    exact ⟨fun w h => (hh _ h).1 w rfl, fun w h => (hh _ h).2 w rfl⟩
  · exact fun x en h => mLook_all (Q := fun x en => mLink "ClothWithManModel" x en ∧ mCtr l en ∧ (en.1.1 = 2 → en.2.2.2.2.2.2 = none)) (fcC ⟨li_M_228, c_M_isYear l, (fun h => by cases h)⟩ (fcC ⟨li_M_236, c_M_isOn l, (fun h => by cases h)⟩ fcN)) x en h
  · exact fun x kd h => mLook_all (Q := fun x kd => (kd = 95 ∧ Cond.fieldLink "ClothWithManModel" x "ClothWithMan" "LIKENESSES" "[I" ∈ lw_tbl) ∨ (kd = 96 ∧ Cond.fieldLink "ClothWithManModel" x "ClothWithMan" "APART_BOUNDS" "[I" ∈ lw_tbl)) fcN x kd h
  · exact fun x ci h => mLook_all (Q := fun x ci => ci ≠ 0 ∧ ∃ (C : String) (T : u_T) (N : Nat), mCl[ci]? = some (C, T, N) ∧ Cond.classLink "ClothWithManModel" x C ∈ lw_tbl ∧ Cond.instantiable C N ∈ lw_tbl) fcN x ci h
set_option maxRecDepth 100000 in
theorem c_M_mend (l : Launch) : mCtr l E_M_mend := mCtr_of (P := P_M_mend) (own := "ClothWithManModel") mLay_ok rfl (by decide +kernel) rfl (ok_M_mend l) (fun h => by cases h) (fun as σ pr rv σ' hF hpr hlv => by
  unfold E_M_mend S_M_mend at hF
  simp only [] at hF
  split at hF
  · cases hF
    obtain ⟨n, pcF, c1, s1, g1, g2, g3, g4⟩ := mF_inv (d_M_mend _ _ _ _ _ σ (hpr _ rfl))
    exact ⟨Nat.le_of_ble_eq_true rfl, (fun v h => by cases h; trivial), n, pcF, c1, s1, g1, ⟨mEnd_of (i := .ireturn) (P := P_M_mend) (rets := [34, 109]) rfl g2, rfl⟩, g3, g4⟩
  · cases hF
    exact (hpr _ rfl).elim)
/-! ClothWithManModel.stuff(IIIIII)I -/
noncomputable def v_M_stuff (a1 : Int32) (a2 : Int32) (a3 : Int32) (a4 : Int32) (a5 : Int32) (a6 : Int32) (σ : MSto) : Int32 := (if (v_M_isOn a1 a2 a3 a4 (sI σ 13 0 52 0)) = 0 then (-1) else (if (v_M_isYear a5 (sI σ 13 0 52 0)) = 0 then (-1) else (if (v_M_in a6 0 90 (sI σ 13 0 52 0)) = 0 then (-1) else (if (gI (sI σ 13 0 52 0) 13 0 5) = 6 then (-1) else ((gI (sI (sI (sI (sI (sI (sI (sI (sI σ 13 0 52 0) 43 0 (Int32.toNatClampNeg (6 * (gI (sI σ 13 0 52 0) 13 0 5))) a1) 43 0 (Int32.toNatClampNeg ((6 * (gI (sI σ 13 0 52 0) 13 0 5)) + 1)) a2) 43 0 (Int32.toNatClampNeg ((6 * (gI (sI σ 13 0 52 0) 13 0 5)) + 2)) a3) 43 0 (Int32.toNatClampNeg ((6 * (gI (sI σ 13 0 52 0) 13 0 5)) + 3)) a4) 43 0 (Int32.toNatClampNeg ((6 * (gI (sI σ 13 0 52 0) 13 0 5)) + 4)) a5) 43 0 (Int32.toNatClampNeg ((6 * (gI (sI σ 13 0 52 0) 13 0 5)) + 5)) a6) 13 0 5 ((gI (sI (sI (sI (sI (sI (sI (sI σ 13 0 52 0) 43 0 (Int32.toNatClampNeg (6 * (gI (sI σ 13 0 52 0) 13 0 5))) a1) 43 0 (Int32.toNatClampNeg ((6 * (gI (sI σ 13 0 52 0) 13 0 5)) + 1)) a2) 43 0 (Int32.toNatClampNeg ((6 * (gI (sI σ 13 0 52 0) 13 0 5)) + 2)) a3) 43 0 (Int32.toNatClampNeg ((6 * (gI (sI σ 13 0 52 0) 13 0 5)) + 3)) a4) 43 0 (Int32.toNatClampNeg ((6 * (gI (sI σ 13 0 52 0) 13 0 5)) + 4)) a5) 43 0 (Int32.toNatClampNeg ((6 * (gI (sI σ 13 0 52 0) 13 0 5)) + 5)) a6) 13 0 5) + 1)) 13 0 5) - 1)))))
def p_M_stuff (a1 : Int32) (a2 : Int32) (a3 : Int32) (a4 : Int32) (a5 : Int32) (a6 : Int32) (σ : MSto) : Prop := (¬ ((v_M_isOn a1 a2 a3 a4 (sI σ 13 0 52 0)) = 0) → (¬ ((v_M_isYear a5 (sI σ 13 0 52 0)) = 0) → (¬ ((v_M_in a6 0 90 (sI σ 13 0 52 0)) = 0) → (¬ ((gI (sI σ 13 0 52 0) 13 0 5) = 6) → ((vp_in (6 * (gI (sI σ 13 0 52 0) 13 0 5)) 36) ∧ ((vp_in ((6 * (gI (sI σ 13 0 52 0) 13 0 5)) + 1) 36) ∧ ((vp_in ((6 * (gI (sI σ 13 0 52 0) 13 0 5)) + 2) 36) ∧ ((vp_in ((6 * (gI (sI σ 13 0 52 0) 13 0 5)) + 3) 36) ∧ ((vp_in ((6 * (gI (sI σ 13 0 52 0) 13 0 5)) + 4) 36) ∧ (vp_in ((6 * (gI (sI σ 13 0 52 0) 13 0 5)) + 5) 36))))))))))
noncomputable def e_M_stuff (a1 : Int32) (a2 : Int32) (a3 : Int32) (a4 : Int32) (a5 : Int32) (a6 : Int32) (σ : MSto) : MSto := (if (v_M_isOn a1 a2 a3 a4 (sI σ 13 0 52 0)) = 0 then (sI σ 13 0 52 0) else (if (v_M_isYear a5 (sI σ 13 0 52 0)) = 0 then (sI σ 13 0 52 0) else (if (v_M_in a6 0 90 (sI σ 13 0 52 0)) = 0 then (sI σ 13 0 52 0) else (if (gI (sI σ 13 0 52 0) 13 0 5) = 6 then (sI σ 13 0 52 0) else (sI (sI (sI (sI (sI (sI (sI (sI σ 13 0 52 0) 43 0 (Int32.toNatClampNeg (6 * (gI (sI σ 13 0 52 0) 13 0 5))) a1) 43 0 (Int32.toNatClampNeg ((6 * (gI (sI σ 13 0 52 0) 13 0 5)) + 1)) a2) 43 0 (Int32.toNatClampNeg ((6 * (gI (sI σ 13 0 52 0) 13 0 5)) + 2)) a3) 43 0 (Int32.toNatClampNeg ((6 * (gI (sI σ 13 0 52 0) 13 0 5)) + 3)) a4) 43 0 (Int32.toNatClampNeg ((6 * (gI (sI σ 13 0 52 0) 13 0 5)) + 4)) a5) 43 0 (Int32.toNatClampNeg ((6 * (gI (sI σ 13 0 52 0) 13 0 5)) + 5)) a6) 13 0 5 ((gI (sI (sI (sI (sI (sI (sI (sI σ 13 0 52 0) 43 0 (Int32.toNatClampNeg (6 * (gI (sI σ 13 0 52 0) 13 0 5))) a1) 43 0 (Int32.toNatClampNeg ((6 * (gI (sI σ 13 0 52 0) 13 0 5)) + 1)) a2) 43 0 (Int32.toNatClampNeg ((6 * (gI (sI σ 13 0 52 0) 13 0 5)) + 2)) a3) 43 0 (Int32.toNatClampNeg ((6 * (gI (sI σ 13 0 52 0) 13 0 5)) + 3)) a4) 43 0 (Int32.toNatClampNeg ((6 * (gI (sI σ 13 0 52 0) 13 0 5)) + 4)) a5) 43 0 (Int32.toNatClampNeg ((6 * (gI (sI σ 13 0 52 0) 13 0 5)) + 5)) a6) 13 0 5) + 1))))))
noncomputable def S_M_stuff : List MV → MSto → Option Prop × Option MV × MSto := fun as σ => match as with
  | [.inr (.inr (some (13, 0))), .inl a0, .inl a1, .inl a2, .inl a3, .inl a4, .inl a5] => (some (p_M_stuff a0 a1 a2 a3 a4 a5 σ), some (mI (v_M_stuff a0 a1 a2 a3 a4 a5 σ)), e_M_stuff a0 a1 a2 a3 a4 a5 σ)
  | _ => (some False, none, σ)
noncomputable def E_M_stuff : MEnt := ((1, 6, 13), (3, 66, 0, 0), S_M_stuff, ((⟨"ClothWithManModel", "stuff", "(IIIIII)I"⟩ : MethodName), prog_14_method_26_code, 8, (some .int)))

def T_M_stuff : Nat → Option (Instr × Nat × List Nat) := fun k => bif Nat.blt k 133 then (bif Nat.blt k 72 then (bif Nat.blt k 39 then (bif Nat.blt k 16 then (bif Nat.blt k 6 then (bif Nat.blt k 2 then (bif Nat.blt k 1 then (bif Nat.beq k 0 then some (.aload_n 0, 1, []) else none) else (bif Nat.beq k 1 then some (.iconst 0, 2, []) else none)) else (bif Nat.blt k 5 then (bif Nat.beq k 2 then some (.putfield 161, 5, []) else none) else (bif Nat.beq k 5 then some (.iload_n 1, 6, []) else none))) else (bif Nat.blt k 8 then (bif Nat.blt k 7 then (bif Nat.beq k 6 then some (.iload_n 2, 7, []) else none) else (bif Nat.beq k 7 then some (.iload_n 3, 8, []) else none)) else (bif Nat.blt k 10 then (bif Nat.beq k 8 then some (.iload 4, 10, []) else none) else (bif Nat.blt k 13 then (bif Nat.beq k 10 then some (.invokestatic 236, 13, []) else none) else (bif Nat.beq k 13 then some (.ifCond .eq 31, 16, [44]) else none))))) else (bif Nat.blt k 27 then (bif Nat.blt k 21 then (bif Nat.blt k 18 then (bif Nat.beq k 16 then some (.iload 5, 18, []) else none) else (bif Nat.beq k 18 then some (.invokestatic 228, 21, []) else none)) else (bif Nat.blt k 24 then (bif Nat.beq k 21 then some (.ifCond .eq 23, 24, [44]) else none) else (bif Nat.blt k 26 then (bif Nat.beq k 24 then some (.iload 6, 26, []) else none) else (bif Nat.beq k 26 then some (.iconst 0, 27, []) else none)))) else (bif Nat.blt k 32 then (bif Nat.blt k 29 then (bif Nat.beq k 27 then some (.bipush 90, 29, []) else none) else (bif Nat.beq k 29 then some (.invokestatic 181, 32, []) else none)) else (bif Nat.blt k 35 then (bif Nat.beq k 32 then some (.ifCond .eq 12, 35, [44]) else none) else (bif Nat.blt k 36 then (bif Nat.beq k 35 then some (.aload_n 0, 36, []) else none) else (bif Nat.beq k 36 then some (.getfield 243, 39, []) else none)))))) else (bif Nat.blt k 56 then (bif Nat.blt k 48 then (bif Nat.blt k 44 then (bif Nat.blt k 41 then (bif Nat.beq k 39 then some (.bipush 6, 41, []) else none) else (bif Nat.beq k 41 then some (.if_icmp .ne 5, 44, [46]) else none)) else (bif Nat.blt k 45 then (bif Nat.beq k 44 then some (.iconst (-1), 45, []) else none) else (bif Nat.blt k 46 then (bif Nat.beq k 45 then some (.ireturn, 46, []) else none) else (bif Nat.beq k 46 then some (.bipush 6, 48, []) else none)))) else (bif Nat.blt k 52 then (bif Nat.blt k 49 then (bif Nat.beq k 48 then some (.aload_n 0, 49, []) else none) else (bif Nat.beq k 49 then some (.getfield 243, 52, []) else none)) else (bif Nat.blt k 53 then (bif Nat.beq k 52 then some (.imul, 53, []) else none) else (bif Nat.blt k 55 then (bif Nat.beq k 53 then some (.istore 7, 55, []) else none) else (bif Nat.beq k 55 then some (.aload_n 0, 56, []) else none))))) else (bif Nat.blt k 64 then (bif Nat.blt k 61 then (bif Nat.blt k 59 then (bif Nat.beq k 56 then some (.getfield 23, 59, []) else none) else (bif Nat.beq k 59 then some (.iload 7, 61, []) else none)) else (bif Nat.blt k 62 then (bif Nat.beq k 61 then some (.iload_n 1, 62, []) else none) else (bif Nat.blt k 63 then (bif Nat.beq k 62 then some (.iastore, 63, []) else none) else (bif Nat.beq k 63 then some (.aload_n 0, 64, []) else none)))) else (bif Nat.blt k 69 then (bif Nat.blt k 67 then (bif Nat.beq k 64 then some (.getfield 23, 67, []) else none) else (bif Nat.beq k 67 then some (.iload 7, 69, []) else none)) else (bif Nat.blt k 70 then (bif Nat.beq k 69 then some (.iconst 1, 70, []) else none) else (bif Nat.blt k 71 then (bif Nat.beq k 70 then some (.iadd, 71, []) else none) else (bif Nat.beq k 71 then some (.iload_n 2, 72, []) else none))))))) else (bif Nat.blt k 102 then (bif Nat.blt k 87 then (bif Nat.blt k 80 then (bif Nat.blt k 74 then (bif Nat.blt k 73 then (bif Nat.beq k 72 then some (.iastore, 73, []) else none) else (bif Nat.beq k 73 then some (.aload_n 0, 74, []) else none)) else (bif Nat.blt k 77 then (bif Nat.beq k 74 then some (.getfield 23, 77, []) else none) else (bif Nat.blt k 79 then (bif Nat.beq k 77 then some (.iload 7, 79, []) else none) else (bif Nat.beq k 79 then some (.iconst 2, 80, []) else none)))) else (bif Nat.blt k 82 then (bif Nat.blt k 81 then (bif Nat.beq k 80 then some (.iadd, 81, []) else none) else (bif Nat.beq k 81 then some (.iload_n 3, 82, []) else none)) else (bif Nat.blt k 83 then (bif Nat.beq k 82 then some (.iastore, 83, []) else none) else (bif Nat.blt k 84 then (bif Nat.beq k 83 then some (.aload_n 0, 84, []) else none) else (bif Nat.beq k 84 then some (.getfield 23, 87, []) else none))))) else (bif Nat.blt k 94 then (bif Nat.blt k 90 then (bif Nat.blt k 89 then (bif Nat.beq k 87 then some (.iload 7, 89, []) else none) else (bif Nat.beq k 89 then some (.iconst 3, 90, []) else none)) else (bif Nat.blt k 91 then (bif Nat.beq k 90 then some (.iadd, 91, []) else none) else (bif Nat.blt k 93 then (bif Nat.beq k 91 then some (.iload 4, 93, []) else none) else (bif Nat.beq k 93 then some (.iastore, 94, []) else none)))) else (bif Nat.blt k 98 then (bif Nat.blt k 95 then (bif Nat.beq k 94 then some (.aload_n 0, 95, []) else none) else (bif Nat.beq k 95 then some (.getfield 23, 98, []) else none)) else (bif Nat.blt k 100 then (bif Nat.beq k 98 then some (.iload 7, 100, []) else none) else (bif Nat.blt k 101 then (bif Nat.beq k 100 then some (.iconst 4, 101, []) else none) else (bif Nat.beq k 101 then some (.iadd, 102, []) else none)))))) else (bif Nat.blt k 117 then (bif Nat.blt k 111 then (bif Nat.blt k 105 then (bif Nat.blt k 104 then (bif Nat.beq k 102 then some (.iload 5, 104, []) else none) else (bif Nat.beq k 104 then some (.iastore, 105, []) else none)) else (bif Nat.blt k 106 then (bif Nat.beq k 105 then some (.aload_n 0, 106, []) else none) else (bif Nat.blt k 109 then (bif Nat.beq k 106 then some (.getfield 23, 109, []) else none) else (bif Nat.beq k 109 then some (.iload 7, 111, []) else none)))) else (bif Nat.blt k 113 then (bif Nat.blt k 112 then (bif Nat.beq k 111 then some (.iconst 5, 112, []) else none) else (bif Nat.beq k 112 then some (.iadd, 113, []) else none)) else (bif Nat.blt k 115 then (bif Nat.beq k 113 then some (.iload 6, 115, []) else none) else (bif Nat.blt k 116 then (bif Nat.beq k 115 then some (.iastore, 116, []) else none) else (bif Nat.beq k 116 then some (.aload_n 0, 117, []) else none))))) else (bif Nat.blt k 126 then (bif Nat.blt k 121 then (bif Nat.blt k 118 then (bif Nat.beq k 117 then some (.dup, 118, []) else none) else (bif Nat.beq k 118 then some (.getfield 243, 121, []) else none)) else (bif Nat.blt k 122 then (bif Nat.beq k 121 then some (.iconst 1, 122, []) else none) else (bif Nat.blt k 123 then (bif Nat.beq k 122 then some (.iadd, 123, []) else none) else (bif Nat.beq k 123 then some (.putfield 243, 126, []) else none)))) else (bif Nat.blt k 130 then (bif Nat.blt k 127 then (bif Nat.beq k 126 then some (.aload_n 0, 127, []) else none) else (bif Nat.beq k 127 then some (.getfield 243, 130, []) else none)) else (bif Nat.blt k 131 then (bif Nat.beq k 130 then some (.iconst 1, 131, []) else none) else (bif Nat.blt k 132 then (bif Nat.beq k 131 then some (.isub, 132, []) else none) else (bif Nat.beq k 132 then some (.ireturn, 133, []) else none)))))))) else none
noncomputable def P_M_stuff : MP := (T_M_stuff, (fun k => mLook k [(23, (13, 6, (.array .int), true)), (161, (13, 52, .int, false)), (243, (13, 5, .int, false))]), (fun k => mLook k []), (fun k => mLook k [(181, E_M_in), (228, E_M_isYear), (236, E_M_isOn)]), (fun k => mLook k []), (fun k => mLook k []), (fun k => mLook k []), (fun k => mLook k []), (fun k => [45, 132].any (Nat.beq k)), (3, 66, 0, 0), false, (fun _ => none))
set_option maxRecDepth 100000 in
set_option maxHeartbeats 4000000 in
theorem q_M_stuff_e (a1 : Int32) (a2 : Int32) (a3 : Int32) (a4 : Int32) (a5 : Int32) (a6 : Int32) (σ : MSto) (n : Nat) : mexe KT P_M_stuff (n + 1) (0, [some (mR 13 0), some (mI a1), some (mI a2), some (mI a3), some (mI a4), some (mI a5), some (mI a6), none], [], σ, 0, 0) = mIf ((v_M_isOn a1 a2 a3 a4 (sI σ 13 0 52 0)) = 0) (some (45, [], [(mI (-1))], (sI σ 13 0 52 0), 0, 0)) (mIf ((v_M_isYear a5 (sI σ 13 0 52 0)) = 0) (some (45, [], [(mI (-1))], (sI σ 13 0 52 0), 0, 0)) (mIf ((v_M_in a6 0 90 (sI σ 13 0 52 0)) = 0) (some (45, [], [(mI (-1))], (sI σ 13 0 52 0), 0, 0)) (mIf ((gI (sI σ 13 0 52 0) 13 0 5) = 6) (some (45, [], [(mI (-1))], (sI σ 13 0 52 0), 0, 0)) (mG (vp_in (6 * (gI (sI σ 13 0 52 0) 13 0 5)) 36) (mG (vp_in ((6 * (gI (sI σ 13 0 52 0) 13 0 5)) + 1) 36) (mG (vp_in ((6 * (gI (sI σ 13 0 52 0) 13 0 5)) + 2) 36) (mG (vp_in ((6 * (gI (sI σ 13 0 52 0) 13 0 5)) + 3) 36) (mG (vp_in ((6 * (gI (sI σ 13 0 52 0) 13 0 5)) + 4) 36) (mG (vp_in ((6 * (gI (sI σ 13 0 52 0) 13 0 5)) + 5) 36) (some (132, [], [(mI ((gI (sI (sI (sI (sI (sI (sI (sI (sI σ 13 0 52 0) 43 0 (Int32.toNatClampNeg (6 * (gI (sI σ 13 0 52 0) 13 0 5))) a1) 43 0 (Int32.toNatClampNeg ((6 * (gI (sI σ 13 0 52 0) 13 0 5)) + 1)) a2) 43 0 (Int32.toNatClampNeg ((6 * (gI (sI σ 13 0 52 0) 13 0 5)) + 2)) a3) 43 0 (Int32.toNatClampNeg ((6 * (gI (sI σ 13 0 52 0) 13 0 5)) + 3)) a4) 43 0 (Int32.toNatClampNeg ((6 * (gI (sI σ 13 0 52 0) 13 0 5)) + 4)) a5) 43 0 (Int32.toNatClampNeg ((6 * (gI (sI σ 13 0 52 0) 13 0 5)) + 5)) a6) 13 0 5 ((gI (sI (sI (sI (sI (sI (sI (sI σ 13 0 52 0) 43 0 (Int32.toNatClampNeg (6 * (gI (sI σ 13 0 52 0) 13 0 5))) a1) 43 0 (Int32.toNatClampNeg ((6 * (gI (sI σ 13 0 52 0) 13 0 5)) + 1)) a2) 43 0 (Int32.toNatClampNeg ((6 * (gI (sI σ 13 0 52 0) 13 0 5)) + 2)) a3) 43 0 (Int32.toNatClampNeg ((6 * (gI (sI σ 13 0 52 0) 13 0 5)) + 3)) a4) 43 0 (Int32.toNatClampNeg ((6 * (gI (sI σ 13 0 52 0) 13 0 5)) + 4)) a5) 43 0 (Int32.toNatClampNeg ((6 * (gI (sI σ 13 0 52 0) 13 0 5)) + 5)) a6) 13 0 5) + 1)) 13 0 5) - 1))], (sI (sI (sI (sI (sI (sI (sI (sI σ 13 0 52 0) 43 0 (Int32.toNatClampNeg (6 * (gI (sI σ 13 0 52 0) 13 0 5))) a1) 43 0 (Int32.toNatClampNeg ((6 * (gI (sI σ 13 0 52 0) 13 0 5)) + 1)) a2) 43 0 (Int32.toNatClampNeg ((6 * (gI (sI σ 13 0 52 0) 13 0 5)) + 2)) a3) 43 0 (Int32.toNatClampNeg ((6 * (gI (sI σ 13 0 52 0) 13 0 5)) + 3)) a4) 43 0 (Int32.toNatClampNeg ((6 * (gI (sI σ 13 0 52 0) 13 0 5)) + 4)) a5) 43 0 (Int32.toNatClampNeg ((6 * (gI (sI σ 13 0 52 0) 13 0 5)) + 5)) a6) 13 0 5 ((gI (sI (sI (sI (sI (sI (sI (sI σ 13 0 52 0) 43 0 (Int32.toNatClampNeg (6 * (gI (sI σ 13 0 52 0) 13 0 5))) a1) 43 0 (Int32.toNatClampNeg ((6 * (gI (sI σ 13 0 52 0) 13 0 5)) + 1)) a2) 43 0 (Int32.toNatClampNeg ((6 * (gI (sI σ 13 0 52 0) 13 0 5)) + 2)) a3) 43 0 (Int32.toNatClampNeg ((6 * (gI (sI σ 13 0 52 0) 13 0 5)) + 3)) a4) 43 0 (Int32.toNatClampNeg ((6 * (gI (sI σ 13 0 52 0) 13 0 5)) + 4)) a5) 43 0 (Int32.toNatClampNeg ((6 * (gI (sI σ 13 0 52 0) 13 0 5)) + 5)) a6) 13 0 5) + 1)), 0, 0))))))))))) := rfl
set_option maxRecDepth 100000 in
set_option maxHeartbeats 4000000 in
theorem d_M_stuff (a1 : Int32) (a2 : Int32) (a3 : Int32) (a4 : Int32) (a5 : Int32) (a6 : Int32) (σ : MSto) (hp : p_M_stuff a1 a2 a3 a4 a5 a6 σ) : mW1 P_M_stuff (0, [some (mR 13 0), some (mI a1), some (mI a2), some (mI a3), some (mI a4), some (mI a5), some (mI a6), none], [], σ, 0, 0) (mF [45, 132] [mI (v_M_stuff a1 a2 a3 a4 a5 a6 σ)] (e_M_stuff a1 a2 a3 a4 a5 a6 σ) 0 0) := by
  refine mW1_eq (q_M_stuff_e _ _ _ _ _ _ _) ?_
  unfold p_M_stuff at hp
  refine mTr_if (fun h0 => ?_) (fun h0 => ?_)
  · skip
    exact mTr_e (by decide) (congrArg (fun z => [mI z]) (Eq.symm (if_pos h0))) (Eq.symm (if_pos h0)) (by decide) (by decide)
  · skip
    have hp := hp h0
    refine mTr_if (fun h1 => ?_) (fun h1 => ?_)
    · skip
      exact mTr_e (by decide) (congrArg (fun z => [mI z]) (Eq.symm ((if_neg h0).trans (if_pos h1)))) (Eq.symm ((if_neg h0).trans (if_pos h1))) (by decide) (by decide)
    · skip
      have hp := hp h1
      refine mTr_if (fun h2 => ?_) (fun h2 => ?_)
      · skip
        exact mTr_e (by decide) (congrArg (fun z => [mI z]) (Eq.symm ((if_neg h0).trans ((if_neg h1).trans (if_pos h2))))) (Eq.symm ((if_neg h0).trans ((if_neg h1).trans (if_pos h2)))) (by decide) (by decide)
      · skip
        have hp := hp h2
        refine mTr_if (fun h3 => ?_) (fun h3 => ?_)
        · skip
          exact mTr_e (by decide) (congrArg (fun z => [mI z]) (Eq.symm ((if_neg h0).trans ((if_neg h1).trans ((if_neg h2).trans (if_pos h3)))))) (Eq.symm ((if_neg h0).trans ((if_neg h1).trans ((if_neg h2).trans (if_pos h3))))) (by decide) (by decide)
        · skip
          have hp := hp h3
          refine mTr_g hp.1 ?_
          have hp := hp.2
          refine mTr_g hp.1 ?_
          have hp := hp.2
          refine mTr_g hp.1 ?_
          have hp := hp.2
          refine mTr_g hp.1 ?_
          have hp := hp.2
          refine mTr_g hp.1 ?_
          have hp := hp.2
          refine mTr_g hp ?_
          exact mTr_e (by decide) (congrArg (fun z => [mI z]) (Eq.symm ((if_neg h0).trans ((if_neg h1).trans ((if_neg h2).trans (if_neg h3)))))) (Eq.symm ((if_neg h0).trans ((if_neg h1).trans ((if_neg h2).trans (if_neg h3))))) (by decide) (by decide)



theorem tk_M_stuff : ∀ pc i nx tg, T_M_stuff pc = some (i, nx, tg) → mOkB prog_14_method_26_code pc i nx tg = true := code_ok (N := 133) (fun k h => by unfold T_M_stuff; rw [h]; rfl) (by decide +kernel)
theorem ok_M_stuff (l : Launch) : mPOK l "ClothWithManModel" prog_14_method_26_code P_M_stuff := by
  refine ⟨tk_M_stuff, ?_, ?_, ?_, (fun pc i nx tg kd _ h => by cases h), ?_, ?_, fun pc en h => by cases h⟩
  · intro x ci f ty fin h
    exact mLook_all (Q := fun x v => mFOK "ClothWithManModel" x v.1 v.2.1 v.2.2.1 v.2.2.2 ∧ (v.2.2.2 = true → pIni P_M_stuff = true → (Cond.fieldLink "ClothWithManModel" x (((mCl[v.1]?).getD ("", fun _ => ("", "", "", false), 0)).2.1 v.2.1).1 (((mCl[v.1]?).getD ("", fun _ => ("", "", "", false), 0)).2.1 v.2.1).2.1 (((mCl[v.1]?).getD ("", fun _ => ("", "", "", false), 0)).2.1 v.2.1).2.2.1 ∈ lw_tbl ∧ (((mCl[v.1]?).getD ("", fun _ => ("", "", "", false), 0)).2.1 v.2.1).1 = "ClothWithManModel"))) (fcC ⟨fo_M_23, fun h1 h2 => by cases h2⟩ (fcC ⟨fo_M_161, fun h1 h2 => by cases h1⟩ (fcC ⟨fo_M_243, fun h1 h2 => by cases h1⟩ fcN))) x (ci, f, ty, fin) h
  · intro x
    have hh := mLook_all (l := ([] : List (Nat × (Int32 ⊕ Int64)))) (Q := fun x (v : Int32 ⊕ Int64) => (∀ w, v = .inl w → Cond.constant "ClothWithManModel" x w ∈ lw_tbl) ∧ (∀ w, v = .inr w → Cond.constantLong "ClothWithManModel" x w ∈ lw_tbl)) fcN x
    exact ⟨fun w h => (hh _ h).1 w rfl, fun w h => (hh _ h).2 w rfl⟩
  · exact fun x en h => mLook_all (Q := fun x en => mLink "ClothWithManModel" x en ∧ mCtr l en ∧ (en.1.1 = 2 → en.2.2.2.2.2.2 = none)) (fcC ⟨li_M_181, c_M_in l, (fun h => by cases h)⟩ (fcC ⟨li_M_228, c_M_isYear l, (fun h => by cases h)⟩ (fcC ⟨li_M_236, c_M_isOn l, (fun h => by cases h)⟩ fcN))) x en h
  · exact fun x kd h => mLook_all (Q := fun x kd => (kd = 95 ∧ Cond.fieldLink "ClothWithManModel" x "ClothWithMan" "LIKENESSES" "[I" ∈ lw_tbl) ∨ (kd = 96 ∧ Cond.fieldLink "ClothWithManModel" x "ClothWithMan" "APART_BOUNDS" "[I" ∈ lw_tbl)) fcN x kd h
  · exact fun x ci h => mLook_all (Q := fun x ci => ci ≠ 0 ∧ ∃ (C : String) (T : u_T) (N : Nat), mCl[ci]? = some (C, T, N) ∧ Cond.classLink "ClothWithManModel" x C ∈ lw_tbl ∧ Cond.instantiable C N ∈ lw_tbl) fcN x ci h
set_option maxRecDepth 100000 in
theorem c_M_stuff (l : Launch) : mCtr l E_M_stuff := mCtr_of (P := P_M_stuff) (own := "ClothWithManModel") mLay_ok rfl (by decide +kernel) rfl (ok_M_stuff l) (fun h => by cases h) (fun as σ pr rv σ' hF hpr hlv => by
  unfold E_M_stuff S_M_stuff at hF
  simp only [] at hF
  split at hF
  · cases hF
    obtain ⟨n, pcF, c1, s1, g1, g2, g3, g4⟩ := mF_inv (d_M_stuff _ _ _ _ _ _ σ (hpr _ rfl))
    exact ⟨Nat.le_of_ble_eq_true rfl, (fun v h => by cases h; trivial), n, pcF, c1, s1, g1, ⟨mEnd_of (i := .ireturn) (P := P_M_stuff) (rets := [45, 132]) rfl g2, rfl⟩, g3, g4⟩
  · cases hF
    exact (hpr _ rfl).elim)
/-! ClothWithManModel.way(II)I -/
noncomputable def v_M_way (a1 : Int32) (a2 : Int32) (σ : MSto) : Int32 := (if (v_M_in a1 0 3 (sI σ 13 0 52 0)) = 0 then (-1) else (if (v_M_in a2 0 100 (sI σ 13 0 52 0)) = 0 then (-1) else (gI (sI σ 13 0 52 0) 44 0 (Int32.toNatClampNeg a1))))
def p_M_way (a1 : Int32) (a2 : Int32) (σ : MSto) : Prop := (¬ ((v_M_in a1 0 3 (sI σ 13 0 52 0)) = 0) → (¬ ((v_M_in a2 0 100 (sI σ 13 0 52 0)) = 0) → ((vp_in a1 4) ∧ (vp_in a1 4))))
noncomputable def e_M_way (a1 : Int32) (a2 : Int32) (σ : MSto) : MSto := (if (v_M_in a1 0 3 (sI σ 13 0 52 0)) = 0 then (sI σ 13 0 52 0) else (if (v_M_in a2 0 100 (sI σ 13 0 52 0)) = 0 then (sI σ 13 0 52 0) else (sI (sI σ 13 0 52 0) 44 0 (Int32.toNatClampNeg a1) a2)))
noncomputable def S_M_way : List MV → MSto → Option Prop × Option MV × MSto := fun as σ => match as with
  | [.inr (.inr (some (13, 0))), .inl a0, .inl a1] => (some (p_M_way a0 a1 σ), some (mI (v_M_way a0 a1 σ)), e_M_way a0 a1 σ)
  | _ => (some False, none, σ)
noncomputable def E_M_way : MEnt := ((1, 2, 13), (1, 22, 0, 0), S_M_way, ((⟨"ClothWithManModel", "way", "(II)I"⟩ : MethodName), prog_14_method_27_code, 4, (some .int)))

def T_M_way : Nat → Option (Instr × Nat × List Nat) := fun k => bif Nat.blt k 42 then (bif Nat.blt k 24 then (bif Nat.blt k 8 then (bif Nat.blt k 5 then (bif Nat.blt k 1 then (bif Nat.beq k 0 then some (.aload_n 0, 1, []) else none) else (bif Nat.blt k 2 then (bif Nat.beq k 1 then some (.iconst 0, 2, []) else none) else (bif Nat.beq k 2 then some (.putfield 161, 5, []) else none))) else (bif Nat.blt k 6 then (bif Nat.beq k 5 then some (.iload_n 1, 6, []) else none) else (bif Nat.blt k 7 then (bif Nat.beq k 6 then some (.iconst 0, 7, []) else none) else (bif Nat.beq k 7 then some (.iconst 3, 8, []) else none)))) else (bif Nat.blt k 15 then (bif Nat.blt k 11 then (bif Nat.beq k 8 then some (.invokestatic 181, 11, []) else none) else (bif Nat.blt k 14 then (bif Nat.beq k 11 then some (.ifCond .eq 13, 14, [24]) else none) else (bif Nat.beq k 14 then some (.iload_n 2, 15, []) else none))) else (bif Nat.blt k 18 then (bif Nat.blt k 16 then (bif Nat.beq k 15 then some (.iconst 0, 16, []) else none) else (bif Nat.beq k 16 then some (.bipush 100, 18, []) else none)) else (bif Nat.blt k 21 then (bif Nat.beq k 18 then some (.invokestatic 181, 21, []) else none) else (bif Nat.beq k 21 then some (.ifCond .ne 5, 24, [26]) else none))))) else (bif Nat.blt k 33 then (bif Nat.blt k 27 then (bif Nat.blt k 25 then (bif Nat.beq k 24 then some (.iconst (-1), 25, []) else none) else (bif Nat.blt k 26 then (bif Nat.beq k 25 then some (.ireturn, 26, []) else none) else (bif Nat.beq k 26 then some (.aload_n 0, 27, []) else none))) else (bif Nat.blt k 31 then (bif Nat.blt k 30 then (bif Nat.beq k 27 then some (.getfield 26, 30, []) else none) else (bif Nat.beq k 30 then some (.iload_n 1, 31, []) else none)) else (bif Nat.blt k 32 then (bif Nat.beq k 31 then some (.iaload, 32, []) else none) else (bif Nat.beq k 32 then some (.istore_n 3, 33, []) else none)))) else (bif Nat.blt k 38 then (bif Nat.blt k 34 then (bif Nat.beq k 33 then some (.aload_n 0, 34, []) else none) else (bif Nat.blt k 37 then (bif Nat.beq k 34 then some (.getfield 26, 37, []) else none) else (bif Nat.beq k 37 then some (.iload_n 1, 38, []) else none))) else (bif Nat.blt k 40 then (bif Nat.blt k 39 then (bif Nat.beq k 38 then some (.iload_n 2, 39, []) else none) else (bif Nat.beq k 39 then some (.iastore, 40, []) else none)) else (bif Nat.blt k 41 then (bif Nat.beq k 40 then some (.iload_n 3, 41, []) else none) else (bif Nat.beq k 41 then some (.ireturn, 42, []) else none)))))) else none
noncomputable def P_M_way : MP := (T_M_way, (fun k => mLook k [(26, (13, 7, (.array .int), true)), (161, (13, 52, .int, false))]), (fun k => mLook k []), (fun k => mLook k [(181, E_M_in)]), (fun k => mLook k []), (fun k => mLook k []), (fun k => mLook k []), (fun k => mLook k []), (fun k => [25, 41].any (Nat.beq k)), (1, 22, 0, 0), false, (fun _ => none))
set_option maxRecDepth 100000 in
set_option maxHeartbeats 4000000 in
theorem q_M_way_e (a1 : Int32) (a2 : Int32) (σ : MSto) (n : Nat) : mexe KT P_M_way (n + 1) (0, [some (mR 13 0), some (mI a1), some (mI a2), none], [], σ, 0, 0) = mIf ((v_M_in a1 0 3 (sI σ 13 0 52 0)) = 0) (some (25, [], [(mI (-1))], (sI σ 13 0 52 0), 0, 0)) (mIf ((v_M_in a2 0 100 (sI σ 13 0 52 0)) = 0) (some (25, [], [(mI (-1))], (sI σ 13 0 52 0), 0, 0)) (mG (vp_in a1 4) (mG (vp_in a1 4) (some (41, [], [(mI (gI (sI σ 13 0 52 0) 44 0 (Int32.toNatClampNeg a1)))], (sI (sI σ 13 0 52 0) 44 0 (Int32.toNatClampNeg a1) a2), 0, 0))))) := rfl
set_option maxRecDepth 100000 in
set_option maxHeartbeats 4000000 in
theorem d_M_way (a1 : Int32) (a2 : Int32) (σ : MSto) (hp : p_M_way a1 a2 σ) : mW1 P_M_way (0, [some (mR 13 0), some (mI a1), some (mI a2), none], [], σ, 0, 0) (mF [25, 41] [mI (v_M_way a1 a2 σ)] (e_M_way a1 a2 σ) 0 0) := by
  refine mW1_eq (q_M_way_e _ _ _) ?_
  unfold p_M_way at hp
  refine mTr_if (fun h0 => ?_) (fun h0 => ?_)
  · skip
    exact mTr_e (by decide) (congrArg (fun z => [mI z]) (Eq.symm (if_pos h0))) (Eq.symm (if_pos h0)) (by decide) (by decide)
  · skip
    have hp := hp h0
    refine mTr_if (fun h1 => ?_) (fun h1 => ?_)
    · skip
      exact mTr_e (by decide) (congrArg (fun z => [mI z]) (Eq.symm ((if_neg h0).trans (if_pos h1)))) (Eq.symm ((if_neg h0).trans (if_pos h1))) (by decide) (by decide)
    · skip
      have hp := hp h1
      refine mTr_g hp.1 ?_
      have hp := hp.2
      refine mTr_g hp ?_
      exact mTr_e (by decide) (congrArg (fun z => [mI z]) (Eq.symm ((if_neg h0).trans (if_neg h1)))) (Eq.symm ((if_neg h0).trans (if_neg h1))) (by decide) (by decide)

theorem tk_M_way : ∀ pc i nx tg, T_M_way pc = some (i, nx, tg) → mOkB prog_14_method_27_code pc i nx tg = true := code_ok (N := 42) (fun k h => by unfold T_M_way; rw [h]; rfl) (by decide +kernel)
theorem ok_M_way (l : Launch) : mPOK l "ClothWithManModel" prog_14_method_27_code P_M_way := by
  refine ⟨tk_M_way, ?_, ?_, ?_, (fun pc i nx tg kd _ h => by cases h), ?_, ?_, fun pc en h => by cases h⟩
  · intro x ci f ty fin h
    exact mLook_all (Q := fun x v => mFOK "ClothWithManModel" x v.1 v.2.1 v.2.2.1 v.2.2.2 ∧ (v.2.2.2 = true → pIni P_M_way = true → (Cond.fieldLink "ClothWithManModel" x (((mCl[v.1]?).getD ("", fun _ => ("", "", "", false), 0)).2.1 v.2.1).1 (((mCl[v.1]?).getD ("", fun _ => ("", "", "", false), 0)).2.1 v.2.1).2.1 (((mCl[v.1]?).getD ("", fun _ => ("", "", "", false), 0)).2.1 v.2.1).2.2.1 ∈ lw_tbl ∧ (((mCl[v.1]?).getD ("", fun _ => ("", "", "", false), 0)).2.1 v.2.1).1 = "ClothWithManModel"))) (fcC ⟨fo_M_26, fun h1 h2 => by cases h2⟩ (fcC ⟨fo_M_161, fun h1 h2 => by cases h1⟩ fcN)) x (ci, f, ty, fin) h
  · intro x
    have hh := mLook_all (l := ([] : List (Nat × (Int32 ⊕ Int64)))) (Q := fun x (v : Int32 ⊕ Int64) => (∀ w, v = .inl w → Cond.constant "ClothWithManModel" x w ∈ lw_tbl) ∧ (∀ w, v = .inr w → Cond.constantLong "ClothWithManModel" x w ∈ lw_tbl)) fcN x
    exact ⟨fun w h => (hh _ h).1 w rfl, fun w h => (hh _ h).2 w rfl⟩
  · exact fun x en h => mLook_all (Q := fun x en => mLink "ClothWithManModel" x en ∧ mCtr l en ∧ (en.1.1 = 2 → en.2.2.2.2.2.2 = none)) (fcC ⟨li_M_181, c_M_in l, (fun h => by cases h)⟩ fcN) x en h
  · exact fun x kd h => mLook_all (Q := fun x kd => (kd = 95 ∧ Cond.fieldLink "ClothWithManModel" x "ClothWithMan" "LIKENESSES" "[I" ∈ lw_tbl) ∨ (kd = 96 ∧ Cond.fieldLink "ClothWithManModel" x "ClothWithMan" "APART_BOUNDS" "[I" ∈ lw_tbl)) fcN x kd h
  · exact fun x ci h => mLook_all (Q := fun x ci => ci ≠ 0 ∧ ∃ (C : String) (T : u_T) (N : Nat), mCl[ci]? = some (C, T, N) ∧ Cond.classLink "ClothWithManModel" x C ∈ lw_tbl ∧ Cond.instantiable C N ∈ lw_tbl) fcN x ci h
set_option maxRecDepth 100000 in
theorem c_M_way (l : Launch) : mCtr l E_M_way := mCtr_of (P := P_M_way) (own := "ClothWithManModel") mLay_ok rfl (by decide +kernel) rfl (ok_M_way l) (fun h => by cases h) (fun as σ pr rv σ' hF hpr hlv => by
  unfold E_M_way S_M_way at hF
  simp only [] at hF
  split at hF
  · cases hF
    obtain ⟨n, pcF, c1, s1, g1, g2, g3, g4⟩ := mF_inv (d_M_way _ _ σ (hpr _ rfl))
    exact ⟨Nat.le_of_ble_eq_true rfl, (fun v h => by cases h; trivial), n, pcF, c1, s1, g1, ⟨mEnd_of (i := .ireturn) (P := P_M_way) (rets := [25, 41]) rfl g2, rfl⟩, g3, g4⟩
  · cases hF
    exact (hpr _ rfl).elim)
/-! ClothWithManModel.house(III)Z -/
def b_M_house (a1 : Int32) (a2 : Int32) (a3 : Int32) (σ : MSto) : Prop := (if (v_M_in a1 0 5 (sI σ 13 0 52 0)) = 0 then False else (if (v_M_in a2 (-50) 50 (sI σ 13 0 52 0)) = 0 then False else (if (v_M_in a3 1 60 (sI σ 13 0 52 0)) = 0 then False else True)))
noncomputable def v_M_house (a1 : Int32) (a2 : Int32) (a3 : Int32) (σ : MSto) : Int32 := bI (b_M_house a1 a2 a3 σ)
def p_M_house (a1 : Int32) (a2 : Int32) (a3 : Int32) (σ : MSto) : Prop := (¬ ((v_M_in a1 0 5 (sI σ 13 0 52 0)) = 0) → (¬ ((v_M_in a2 (-50) 50 (sI σ 13 0 52 0)) = 0) → (¬ ((v_M_in a3 1 60 (sI σ 13 0 52 0)) = 0) → ((vp_in a1 6) ∧ (vp_in a1 6)))))
noncomputable def e_M_house (a1 : Int32) (a2 : Int32) (a3 : Int32) (σ : MSto) : MSto := (if (v_M_in a1 0 5 (sI σ 13 0 52 0)) = 0 then (sI σ 13 0 52 0) else (if (v_M_in a2 (-50) 50 (sI σ 13 0 52 0)) = 0 then (sI σ 13 0 52 0) else (if (v_M_in a3 1 60 (sI σ 13 0 52 0)) = 0 then (sI σ 13 0 52 0) else (sI (sI (sI σ 13 0 52 0) 45 0 (Int32.toNatClampNeg a1) a2) 46 0 (Int32.toNatClampNeg a1) a3))))
noncomputable def S_M_house : List MV → MSto → Option Prop × Option MV × MSto := fun as σ => match as with
  | [.inr (.inr (some (13, 0))), .inl a0, .inl a1, .inl a2] => (some (p_M_house a0 a1 a2 σ), some (mI (v_M_house a0 a1 a2 σ)), e_M_house a0 a1 a2 σ)
  | _ => (some False, none, σ)
noncomputable def E_M_house : MEnt := ((1, 3, 13), (1, 22, 0, 0), S_M_house, ((⟨"ClothWithManModel", "house", "(III)Z"⟩ : MethodName), prog_14_method_28_code, 4, (some .boolean)))

def T_M_house : Nat → Option (Instr × Nat × List Nat) := fun k => bif Nat.blt k 53 then (bif Nat.blt k 29 then (bif Nat.blt k 14 then (bif Nat.blt k 6 then (bif Nat.blt k 2 then (bif Nat.blt k 1 then (bif Nat.beq k 0 then some (.aload_n 0, 1, []) else none) else (bif Nat.beq k 1 then some (.iconst 0, 2, []) else none)) else (bif Nat.blt k 5 then (bif Nat.beq k 2 then some (.putfield 161, 5, []) else none) else (bif Nat.beq k 5 then some (.iload_n 1, 6, []) else none))) else (bif Nat.blt k 8 then (bif Nat.blt k 7 then (bif Nat.beq k 6 then some (.iconst 0, 7, []) else none) else (bif Nat.beq k 7 then some (.iconst 5, 8, []) else none)) else (bif Nat.blt k 11 then (bif Nat.beq k 8 then some (.invokestatic 181, 11, []) else none) else (bif Nat.beq k 11 then some (.ifCond .eq 24, 14, [35]) else none)))) else (bif Nat.blt k 22 then (bif Nat.blt k 17 then (bif Nat.blt k 15 then (bif Nat.beq k 14 then some (.iload_n 2, 15, []) else none) else (bif Nat.beq k 15 then some (.bipush (-50), 17, []) else none)) else (bif Nat.blt k 19 then (bif Nat.beq k 17 then some (.bipush 50, 19, []) else none) else (bif Nat.beq k 19 then some (.invokestatic 181, 22, []) else none))) else (bif Nat.blt k 26 then (bif Nat.blt k 25 then (bif Nat.beq k 22 then some (.ifCond .eq 13, 25, [35]) else none) else (bif Nat.beq k 25 then some (.iload_n 3, 26, []) else none)) else (bif Nat.blt k 27 then (bif Nat.beq k 26 then some (.iconst 1, 27, []) else none) else (bif Nat.beq k 27 then some (.bipush 60, 29, []) else none))))) else (bif Nat.blt k 43 then (bif Nat.blt k 37 then (bif Nat.blt k 35 then (bif Nat.blt k 32 then (bif Nat.beq k 29 then some (.invokestatic 181, 32, []) else none) else (bif Nat.beq k 32 then some (.ifCond .ne 5, 35, [37]) else none)) else (bif Nat.blt k 36 then (bif Nat.beq k 35 then some (.iconst 0, 36, []) else none) else (bif Nat.beq k 36 then some (.ireturn, 37, []) else none))) else (bif Nat.blt k 41 then (bif Nat.blt k 38 then (bif Nat.beq k 37 then some (.aload_n 0, 38, []) else none) else (bif Nat.beq k 38 then some (.getfield 29, 41, []) else none)) else (bif Nat.blt k 42 then (bif Nat.beq k 41 then some (.iload_n 1, 42, []) else none) else (bif Nat.beq k 42 then some (.iload_n 2, 43, []) else none)))) else (bif Nat.blt k 49 then (bif Nat.blt k 45 then (bif Nat.blt k 44 then (bif Nat.beq k 43 then some (.iastore, 44, []) else none) else (bif Nat.beq k 44 then some (.aload_n 0, 45, []) else none)) else (bif Nat.blt k 48 then (bif Nat.beq k 45 then some (.getfield 32, 48, []) else none) else (bif Nat.beq k 48 then some (.iload_n 1, 49, []) else none))) else (bif Nat.blt k 51 then (bif Nat.blt k 50 then (bif Nat.beq k 49 then some (.iload_n 3, 50, []) else none) else (bif Nat.beq k 50 then some (.iastore, 51, []) else none)) else (bif Nat.blt k 52 then (bif Nat.beq k 51 then some (.iconst 1, 52, []) else none) else (bif Nat.beq k 52 then some (.ireturn, 53, []) else none)))))) else none
noncomputable def P_M_house : MP := (T_M_house, (fun k => mLook k [(29, (13, 8, (.array .int), true)), (32, (13, 9, (.array .int), true)), (161, (13, 52, .int, false))]), (fun k => mLook k []), (fun k => mLook k [(181, E_M_in)]), (fun k => mLook k []), (fun k => mLook k []), (fun k => mLook k []), (fun k => mLook k []), (fun k => [36, 52].any (Nat.beq k)), (1, 22, 0, 0), false, (fun _ => none))
set_option maxRecDepth 100000 in
set_option maxHeartbeats 4000000 in
theorem q_M_house_e (a1 : Int32) (a2 : Int32) (a3 : Int32) (σ : MSto) (n : Nat) : mexe KT P_M_house (n + 1) (0, [some (mR 13 0), some (mI a1), some (mI a2), some (mI a3)], [], σ, 0, 0) = mIf ((v_M_in a1 0 5 (sI σ 13 0 52 0)) = 0) (some (36, [], [(mI 0)], (sI σ 13 0 52 0), 0, 0)) (mIf ((v_M_in a2 (-50) 50 (sI σ 13 0 52 0)) = 0) (some (36, [], [(mI 0)], (sI σ 13 0 52 0), 0, 0)) (mIf ((v_M_in a3 1 60 (sI σ 13 0 52 0)) = 0) (some (36, [], [(mI 0)], (sI σ 13 0 52 0), 0, 0)) (mG (vp_in a1 6) (mG (vp_in a1 6) (some (52, [], [(mI 1)], (sI (sI (sI σ 13 0 52 0) 45 0 (Int32.toNatClampNeg a1) a2) 46 0 (Int32.toNatClampNeg a1) a3), 0, 0)))))) := rfl
set_option maxRecDepth 100000 in
set_option maxHeartbeats 4000000 in
theorem d_M_house (a1 : Int32) (a2 : Int32) (a3 : Int32) (σ : MSto) (hp : p_M_house a1 a2 a3 σ) : mW1 P_M_house (0, [some (mR 13 0), some (mI a1), some (mI a2), some (mI a3)], [], σ, 0, 0) (mF [36, 52] [mI (v_M_house a1 a2 a3 σ)] (e_M_house a1 a2 a3 σ) 0 0) := by
  refine mW1_eq (q_M_house_e _ _ _ _) ?_
  unfold p_M_house at hp
  unfold v_M_house
  refine mTr_if (fun h0 => ?_) (fun h0 => ?_)
  · skip
    exact mTr_e (by decide) (bI_F (if_pos h0)) (Eq.symm (if_pos h0)) (by decide) (by decide)
  · skip
    have hp := hp h0
    refine mTr_if (fun h1 => ?_) (fun h1 => ?_)
    · skip
      exact mTr_e (by decide) (bI_F ((if_neg h0).trans (if_pos h1))) (Eq.symm ((if_neg h0).trans (if_pos h1))) (by decide) (by decide)
    · skip
      have hp := hp h1
      refine mTr_if (fun h2 => ?_) (fun h2 => ?_)
      · skip
        exact mTr_e (by decide) (bI_F ((if_neg h0).trans ((if_neg h1).trans (if_pos h2)))) (Eq.symm ((if_neg h0).trans ((if_neg h1).trans (if_pos h2)))) (by decide) (by decide)
      · skip
        have hp := hp h2
        refine mTr_g hp.1 ?_
        have hp := hp.2
        refine mTr_g hp ?_
        exact mTr_e (by decide) (bI_T ((if_neg h0).trans ((if_neg h1).trans (if_neg h2)))) (Eq.symm ((if_neg h0).trans ((if_neg h1).trans (if_neg h2)))) (by decide) (by decide)

theorem tk_M_house : ∀ pc i nx tg, T_M_house pc = some (i, nx, tg) → mOkB prog_14_method_28_code pc i nx tg = true := code_ok (N := 53) (fun k h => by unfold T_M_house; rw [h]; rfl) (by decide +kernel)
theorem ok_M_house (l : Launch) : mPOK l "ClothWithManModel" prog_14_method_28_code P_M_house := by
  refine ⟨tk_M_house, ?_, ?_, ?_, (fun pc i nx tg kd _ h => by cases h), ?_, ?_, fun pc en h => by cases h⟩
  · intro x ci f ty fin h
    exact mLook_all (Q := fun x v => mFOK "ClothWithManModel" x v.1 v.2.1 v.2.2.1 v.2.2.2 ∧ (v.2.2.2 = true → pIni P_M_house = true → (Cond.fieldLink "ClothWithManModel" x (((mCl[v.1]?).getD ("", fun _ => ("", "", "", false), 0)).2.1 v.2.1).1 (((mCl[v.1]?).getD ("", fun _ => ("", "", "", false), 0)).2.1 v.2.1).2.1 (((mCl[v.1]?).getD ("", fun _ => ("", "", "", false), 0)).2.1 v.2.1).2.2.1 ∈ lw_tbl ∧ (((mCl[v.1]?).getD ("", fun _ => ("", "", "", false), 0)).2.1 v.2.1).1 = "ClothWithManModel"))) (fcC ⟨fo_M_29, fun h1 h2 => by cases h2⟩ (fcC ⟨fo_M_32, fun h1 h2 => by cases h2⟩ (fcC ⟨fo_M_161, fun h1 h2 => by cases h1⟩ fcN))) x (ci, f, ty, fin) h
  · intro x
    have hh := mLook_all (l := ([] : List (Nat × (Int32 ⊕ Int64)))) (Q := fun x (v : Int32 ⊕ Int64) => (∀ w, v = .inl w → Cond.constant "ClothWithManModel" x w ∈ lw_tbl) ∧ (∀ w, v = .inr w → Cond.constantLong "ClothWithManModel" x w ∈ lw_tbl)) fcN x
    exact ⟨fun w h => (hh _ h).1 w rfl, fun w h => (hh _ h).2 w rfl⟩
  · exact fun x en h => mLook_all (Q := fun x en => mLink "ClothWithManModel" x en ∧ mCtr l en ∧ (en.1.1 = 2 → en.2.2.2.2.2.2 = none)) (fcC ⟨li_M_181, c_M_in l, (fun h => by cases h)⟩ fcN) x en h
  · exact fun x kd h => mLook_all (Q := fun x kd => (kd = 95 ∧ Cond.fieldLink "ClothWithManModel" x "ClothWithMan" "LIKENESSES" "[I" ∈ lw_tbl) ∨ (kd = 96 ∧ Cond.fieldLink "ClothWithManModel" x "ClothWithMan" "APART_BOUNDS" "[I" ∈ lw_tbl)) fcN x kd h
  · exact fun x ci h => mLook_all (Q := fun x ci => ci ≠ 0 ∧ ∃ (C : String) (T : u_T) (N : Nat), mCl[ci]? = some (C, T, N) ∧ Cond.classLink "ClothWithManModel" x C ∈ lw_tbl ∧ Cond.instantiable C N ∈ lw_tbl) fcN x ci h
set_option maxRecDepth 100000 in
theorem c_M_house (l : Launch) : mCtr l E_M_house := mCtr_of (P := P_M_house) (own := "ClothWithManModel") mLay_ok rfl (by decide +kernel) rfl (ok_M_house l) (fun h => by cases h) (fun as σ pr rv σ' hF hpr hlv => by
  unfold E_M_house S_M_house at hF
  simp only [] at hF
  split at hF
  · cases hF
    obtain ⟨n, pcF, c1, s1, g1, g2, g3, g4⟩ := mF_inv (d_M_house _ _ _ σ (hpr _ rfl))
    exact ⟨Nat.le_of_ble_eq_true rfl, (fun v h => by cases h; trivial), n, pcF, c1, s1, g1, ⟨mEnd_of (i := .ireturn) (P := P_M_house) (rets := [36, 52]) rfl g2, bI_narrow _⟩, g3, g4⟩
  · cases hF
    exact (hpr _ rfl).elim)

