/-! ClothWithManModel.signed(I)I -/
noncomputable def v_M_signed (a1 : Int32) (σ : MSto) : Int32 := (if (v_M_passes 45 σ) = 0 then (v_M_number 0 a1 (e_M_passes 45 σ)) else (-(v_M_number 0 a1 (e_M_passes 45 σ))))
def p_M_signed (a1 : Int32) (σ : MSto) : Prop := ((p_M_passes 45 σ) ∧ (p_M_number 0 a1 (e_M_passes 45 σ)))
noncomputable def e_M_signed (a1 : Int32) (σ : MSto) : MSto := (e_M_number 0 a1 (e_M_passes 45 σ))
noncomputable def S_M_signed : List MV → MSto → Option Prop × Option MV × MSto := fun as σ => match as with
  | [.inr (.inr (some (13, 0))), .inl a0] => (some (p_M_signed a0 σ), some (mI (v_M_signed a0 σ)), e_M_signed a0 σ)
  | _ => (some False, none, σ)
noncomputable def E_M_signed : MEnt := ((1, 1, 13), (2, 46, 0, 0), S_M_signed, ((⟨"ClothWithManModel", "signed", "(I)I"⟩ : MethodName), prog_14_method_20_code, 4, (some .int)))

def T_M_signed : Nat → Option (Instr × Nat × List Nat) := fun k => bif Nat.blt k 25 then (bif Nat.blt k 13 then (bif Nat.blt k 7 then (bif Nat.blt k 3 then (bif Nat.blt k 1 then (bif Nat.beq k 0 then some (.aload_n 0, 1, []) else none) else (bif Nat.beq k 1 then some (.bipush 45, 3, []) else none)) else (bif Nat.blt k 6 then (bif Nat.beq k 3 then some (.invokevirtual 210, 6, []) else none) else (bif Nat.beq k 6 then some (.istore_n 2, 7, []) else none))) else (bif Nat.blt k 9 then (bif Nat.blt k 8 then (bif Nat.beq k 7 then some (.aload_n 0, 8, []) else none) else (bif Nat.beq k 8 then some (.iconst 0, 9, []) else none)) else (bif Nat.blt k 10 then (bif Nat.beq k 9 then some (.iload_n 1, 10, []) else none) else (bif Nat.beq k 10 then some (.invokevirtual 218, 13, []) else none)))) else (bif Nat.blt k 19 then (bif Nat.blt k 15 then (bif Nat.blt k 14 then (bif Nat.beq k 13 then some (.istore_n 3, 14, []) else none) else (bif Nat.beq k 14 then some (.iload_n 2, 15, []) else none)) else (bif Nat.blt k 18 then (bif Nat.beq k 15 then some (.ifCond .eq 8, 18, [23]) else none) else (bif Nat.beq k 18 then some (.iload_n 3, 19, []) else none))) else (bif Nat.blt k 23 then (bif Nat.blt k 20 then (bif Nat.beq k 19 then some (.ineg, 20, []) else none) else (bif Nat.beq k 20 then some (.goto 4, 23, [24]) else none)) else (bif Nat.blt k 24 then (bif Nat.beq k 23 then some (.iload_n 3, 24, []) else none) else (bif Nat.beq k 24 then some (.ireturn, 25, []) else none))))) else none
noncomputable def P_M_signed : MP := (T_M_signed, (fun k => mLook k []), (fun k => mLook k []), (fun k => mLook k [(210, E_M_passes), (218, E_M_number)]), (fun k => mLook k []), (fun k => mLook k []), (fun k => mLook k []), (fun k => mLook k []), (fun k => [24].any (Nat.beq k)), (2, 46, 0, 0), false, (fun _ => none))
set_option maxRecDepth 100000 in
set_option maxHeartbeats 4000000 in
theorem q_M_signed_e (a1 : Int32) (σ : MSto) (n : Nat) : mexe KT P_M_signed (n + 1) (0, [some (mR 13 0), some (mI a1), none, none], [], σ, 0, 0) = mG (p_M_passes 45 σ) (mG (p_M_number 0 a1 (e_M_passes 45 σ)) (mIf ((v_M_passes 45 σ) = 0) (some (24, [], [(mI (v_M_number 0 a1 (e_M_passes 45 σ)))], (e_M_number 0 a1 (e_M_passes 45 σ)), 0, 0)) (some (24, [], [(mI (-(v_M_number 0 a1 (e_M_passes 45 σ))))], (e_M_number 0 a1 (e_M_passes 45 σ)), 0, 0)))) := rfl
set_option maxRecDepth 100000 in
set_option maxHeartbeats 4000000 in
theorem d_M_signed (a1 : Int32) (σ : MSto) (hp : p_M_signed a1 σ) : mW1 P_M_signed (0, [some (mR 13 0), some (mI a1), none, none], [], σ, 0, 0) (mF [24] [mI (v_M_signed a1 σ)] (e_M_signed a1 σ) 0 0) := by
  refine mW1_eq (q_M_signed_e _ _) ?_
  unfold p_M_signed at hp
  refine mTr_g hp.1 ?_
  have hp := hp.2
  refine mTr_g hp ?_
  refine mTr_if (fun h0 => ?_) (fun h0 => ?_)
  · skip
    exact mTr_e (by decide) (congrArg (fun z => [mI z]) (Eq.symm (if_pos h0))) (Eq.symm (rfl)) (by decide) (by decide)
  · skip
    exact mTr_e (by decide) (congrArg (fun z => [mI z]) (Eq.symm (if_neg h0))) (Eq.symm (rfl)) (by decide) (by decide)
theorem li_M_218 : mLink "ClothWithManModel" 218 E_M_number := ⟨tw_6_194, tw_1_9, ⟨by decide, by decide⟩, by decide +kernel, Or.inl tw_6_191, (fun h => by cases h), (fun _ => ⟨tw_6_193, tw_0_47, TX12, 71, rfl⟩), (fun h => by cases h)⟩


theorem tk_M_signed : ∀ pc i nx tg, T_M_signed pc = some (i, nx, tg) → mOkB prog_14_method_20_code pc i nx tg = true := code_ok (N := 25) (fun k h => by unfold T_M_signed; rw [h]; rfl) (by decide +kernel)
theorem ok_M_signed (l : Launch) : mPOK l "ClothWithManModel" prog_14_method_20_code P_M_signed := by
  refine ⟨tk_M_signed, ?_, ?_, ?_, (fun pc i nx tg kd _ h => by cases h), ?_, ?_, fun pc en h => by cases h⟩
  · intro x ci f ty fin h
    exact mLook_all (Q := fun x v => mFOK "ClothWithManModel" x v.1 v.2.1 v.2.2.1 v.2.2.2 ∧ (v.2.2.2 = true → pIni P_M_signed = true → (Cond.fieldLink "ClothWithManModel" x (((mCl[v.1]?).getD ("", fun _ => ("", "", "", false), 0)).2.1 v.2.1).1 (((mCl[v.1]?).getD ("", fun _ => ("", "", "", false), 0)).2.1 v.2.1).2.1 (((mCl[v.1]?).getD ("", fun _ => ("", "", "", false), 0)).2.1 v.2.1).2.2.1 ∈ lw_tbl ∧ (((mCl[v.1]?).getD ("", fun _ => ("", "", "", false), 0)).2.1 v.2.1).1 = "ClothWithManModel"))) fcN x (ci, f, ty, fin) h
  · intro x
    have hh := mLook_all (l := ([] : List (Nat × (Int32 ⊕ Int64)))) (Q := fun x (v : Int32 ⊕ Int64) => (∀ w, v = .inl w → Cond.constant "ClothWithManModel" x w ∈ lw_tbl) ∧ (∀ w, v = .inr w → Cond.constantLong "ClothWithManModel" x w ∈ lw_tbl)) fcN x
    exact ⟨fun w h => (hh _ h).1 w rfl, fun w h => (hh _ h).2 w rfl⟩
  · exact fun x en h => mLook_all (Q := fun x en => mLink "ClothWithManModel" x en ∧ mCtr l en ∧ (en.1.1 = 2 → en.2.2.2.2.2.2 = none)) (fcC ⟨li_M_210, c_M_passes l, (fun h => by cases h)⟩ (fcC ⟨li_M_218, c_M_number l, (fun h => by cases h)⟩ fcN)) x en h
  · exact fun x kd h => mLook_all (Q := fun x kd => (kd = 95 ∧ Cond.fieldLink "ClothWithManModel" x "ClothWithMan" "LIKENESSES" "[I" ∈ lw_tbl) ∨ (kd = 96 ∧ Cond.fieldLink "ClothWithManModel" x "ClothWithMan" "APART_BOUNDS" "[I" ∈ lw_tbl)) fcN x kd h
  · exact fun x ci h => mLook_all (Q := fun x ci => ci ≠ 0 ∧ ∃ (C : String) (T : u_T) (N : Nat), mCl[ci]? = some (C, T, N) ∧ Cond.classLink "ClothWithManModel" x C ∈ lw_tbl ∧ Cond.instantiable C N ∈ lw_tbl) fcN x ci h
set_option maxRecDepth 100000 in
theorem c_M_signed (l : Launch) : mCtr l E_M_signed := mCtr_of (P := P_M_signed) (own := "ClothWithManModel") mLay_ok rfl (by decide +kernel) rfl (ok_M_signed l) (fun h => by cases h) (fun as σ pr rv σ' hF hpr hlv => by
  unfold E_M_signed S_M_signed at hF
  simp only [] at hF
  split at hF
  · cases hF
    obtain ⟨n, pcF, c1, s1, g1, g2, g3, g4⟩ := mF_inv (d_M_signed _ σ (hpr _ rfl))
    exact ⟨Nat.le_of_ble_eq_true rfl, (fun v h => by cases h; trivial), n, pcF, c1, s1, g1, ⟨mEnd_of (i := .ireturn) (P := P_M_signed) (rets := [24]) rfl g2, rfl⟩, g3, g4⟩
  · cases hF
    exact (hpr _ rfl).elim)
/-! ClothWithManModel.openBy(II)I -/
noncomputable def t_M_openBy_5 (x1 : Int32) (x2 : Int32) (c : Int32) (σ : MSto) (s : Int32) : Int32 := (if 8 ≤ c then s else (if (v_M_has (gI σ 13 0 33) c σ) = 0 then s else (if ((gI σ 65 0 (Int32.toNatClampNeg c)) &&& x2) = 0 then (if ((gI σ 66 0 (Int32.toNatClampNeg c)) &&& x1) = 0 then (s ||| ((1 : Int32) <<< (c &&& 31))) else s) else s)))
noncomputable def q_M_openBy_5s (x1 : Int32) (x2 : Int32) (c : Int32) (σ : MSto) (s : Int32) : Nat := (if 8 ≤ c then 1 else 0)
def g_M_openBy_5 (x1 : Int32) (x2 : Int32) (c : Int32) (σ : MSto) (s : Int32) : Prop := (¬ (8 ≤ c) → (¬ ((v_M_has (gI σ 13 0 33) c σ) = 0) → ((vp_in c 8) ∧ ((((gI σ 65 0 (Int32.toNatClampNeg c)) &&& x2) = 0) → (vp_in c 8)))))
noncomputable def f_M_openBy_5 (x1 : Int32) (x2 : Int32) (c0 : Int32) (σ : MSto) (s0 : Int32) (n : Nat) : Int32 := nfold (fun i s => t_M_openBy_5 x1 x2 (c0 + nI i) σ s) s0 n
noncomputable def n_M_openBy_5 (x1 : Int32) (x2 : Int32) (c0 : Int32) (σ : MSto) (s0 : Int32) : Nat := 8
noncomputable def v_M_openBy (a1 : Int32) (a2 : Int32) (σ : MSto) : Int32 := (f_M_openBy_5 a1 a2 0 σ 0 (n_M_openBy_5 a1 a2 0 σ 0))
def p_M_openBy (a1 : Int32) (a2 : Int32) (σ : MSto) : Prop := ((∀ i, i < (n_M_openBy_5 a1 a2 0 σ 0) → g_M_openBy_5 a1 a2 (0 + nI i) σ (f_M_openBy_5 a1 a2 0 σ 0 i) ∧ ¬ q_M_openBy_5s a1 a2 (0 + nI i) σ (f_M_openBy_5 a1 a2 0 σ 0 i) = 1) ∧ (¬ (8 ≤ (0 + nI (n_M_openBy_5 a1 a2 0 σ 0))) → False))
noncomputable def S_M_openBy : List MV → MSto → Option Prop × Option MV × MSto := fun as σ => match as with
  | [.inr (.inr (some (13, 0))), .inl a0, .inl a1] => (some (p_M_openBy a0 a1 σ), some (mI (v_M_openBy a0 a1 σ)), σ)
  | _ => (some False, none, σ)
noncomputable def E_M_openBy : MEnt := ((1, 2, 13), (1, 21, 0, 0), S_M_openBy, ((⟨"ClothWithManModel", "openBy", "(II)I"⟩ : MethodName), prog_14_method_96_code, 5, (some .int)))

def T_M_openBy : Nat → Option (Instr × Nat × List Nat) := fun k => bif Nat.blt k 63 then (bif Nat.blt k 33 then (bif Nat.blt k 16 then (bif Nat.blt k 5 then (bif Nat.blt k 2 then (bif Nat.blt k 1 then (bif Nat.beq k 0 then some (.iconst 0, 1, []) else none) else (bif Nat.beq k 1 then some (.istore_n 3, 2, []) else none)) else (bif Nat.blt k 3 then (bif Nat.beq k 2 then some (.iconst 0, 3, []) else none) else (bif Nat.beq k 3 then some (.istore 4, 5, []) else none))) else (bif Nat.blt k 9 then (bif Nat.blt k 7 then (bif Nat.beq k 5 then some (.iload 4, 7, []) else none) else (bif Nat.beq k 7 then some (.bipush 8, 9, []) else none)) else (bif Nat.blt k 12 then (bif Nat.beq k 9 then some (.if_icmp .ge 52, 12, [61]) else none) else (bif Nat.blt k 13 then (bif Nat.beq k 12 then some (.aload_n 0, 13, []) else none) else (bif Nat.beq k 13 then some (.getfield 431, 16, []) else none))))) else (bif Nat.blt k 25 then (bif Nat.blt k 21 then (bif Nat.blt k 18 then (bif Nat.beq k 16 then some (.iload 4, 18, []) else none) else (bif Nat.beq k 18 then some (.invokestatic 301, 21, []) else none)) else (bif Nat.blt k 24 then (bif Nat.beq k 21 then some (.ifCond .eq 34, 24, [55]) else none) else (bif Nat.beq k 24 then some (.aload_n 0, 25, []) else none))) else (bif Nat.blt k 30 then (bif Nat.blt k 28 then (bif Nat.beq k 25 then some (.getfield 90, 28, []) else none) else (bif Nat.beq k 28 then some (.iload 4, 30, []) else none)) else (bif Nat.blt k 31 then (bif Nat.beq k 30 then some (.iaload, 31, []) else none) else (bif Nat.blt k 32 then (bif Nat.beq k 31 then some (.iload_n 2, 32, []) else none) else (bif Nat.beq k 32 then some (.iand, 33, []) else none)))))) else (bif Nat.blt k 49 then (bif Nat.blt k 42 then (bif Nat.blt k 37 then (bif Nat.blt k 36 then (bif Nat.beq k 33 then some (.ifCond .ne 22, 36, [55]) else none) else (bif Nat.beq k 36 then some (.aload_n 0, 37, []) else none)) else (bif Nat.blt k 40 then (bif Nat.beq k 37 then some (.getfield 93, 40, []) else none) else (bif Nat.beq k 40 then some (.iload 4, 42, []) else none))) else (bif Nat.blt k 44 then (bif Nat.blt k 43 then (bif Nat.beq k 42 then some (.iaload, 43, []) else none) else (bif Nat.beq k 43 then some (.iload_n 1, 44, []) else none)) else (bif Nat.blt k 45 then (bif Nat.beq k 44 then some (.iand, 45, []) else none) else (bif Nat.blt k 48 then (bif Nat.beq k 45 then some (.ifCond .ne 10, 48, [55]) else none) else (bif Nat.beq k 48 then some (.iload_n 3, 49, []) else none))))) else (bif Nat.blt k 54 then (bif Nat.blt k 52 then (bif Nat.blt k 50 then (bif Nat.beq k 49 then some (.iconst 1, 50, []) else none) else (bif Nat.beq k 50 then some (.iload 4, 52, []) else none)) else (bif Nat.blt k 53 then (bif Nat.beq k 52 then some (.ishl, 53, []) else none) else (bif Nat.beq k 53 then some (.ior, 54, []) else none))) else (bif Nat.blt k 58 then (bif Nat.blt k 55 then (bif Nat.beq k 54 then some (.istore_n 3, 55, []) else none) else (bif Nat.beq k 55 then some (.iinc 4 1, 58, []) else none)) else (bif Nat.blt k 61 then (bif Nat.beq k 58 then some (.goto (-53), 61, [5]) else none) else (bif Nat.blt k 62 then (bif Nat.beq k 61 then some (.iload_n 3, 62, []) else none) else (bif Nat.beq k 62 then some (.ireturn, 63, []) else none))))))) else none
noncomputable def P_M_openBy : MP := (T_M_openBy, (fun k => mLook k [(90, (13, 34, (.array .int), true)), (93, (13, 35, (.array .int), true)), (431, (13, 33, .int, false))]), (fun k => mLook k []), (fun k => mLook k [(301, E_M_has)]), (fun k => mLook k []), (fun k => mLook k []), (fun k => mLook k []), (fun k => mLook k [(5, [true, true, true, true, true])]), (fun k => [62].any (Nat.beq k)), (1, 21, 0, 0), false, (fun _ => none))
set_option maxRecDepth 100000 in
set_option maxHeartbeats 4000000 in
theorem q_M_openBy_e (a1 : Int32) (a2 : Int32) (σ : MSto) (n : Nat) : mexe KT P_M_openBy (n + 1) (0, [some (mR 13 0), some (mI a1), some (mI a2), none, none], [], σ, 0, 0) = mexe KT P_M_openBy n (5, [some (mR 13 0), some (mI a1), some (mI a2), some (mI 0), some (mI 0)], [], σ, 0, 0) := rfl
set_option maxRecDepth 100000 in
set_option maxHeartbeats 4000000 in
theorem q_M_openBy_5 (x1 : Int32) (x2 : Int32) (x3 : Int32) (x4 : Int32) (σ : MSto) (n : Nat) : mexe KT P_M_openBy (n + 1) (5, [some (mR 13 0), some (mI x1), some (mI x2), some (mI x3), some (mI x4)], [], σ, 0, 0) = mIf (8 ≤ x4) (some (62, [], [(mI x3)], σ, 0, 0)) (mIf ((v_M_has (gI σ 13 0 33) x4 σ) = 0) (mexe KT P_M_openBy n (5, [some (mR 13 0), some (mI x1), some (mI x2), some (mI x3), some (mI (x4 + 1))], [], σ, 0, 0)) (mG (vp_in x4 8) (mIf (((gI σ 65 0 (Int32.toNatClampNeg x4)) &&& x2) = 0) (mG (vp_in x4 8) (mIf (((gI σ 66 0 (Int32.toNatClampNeg x4)) &&& x1) = 0) (mexe KT P_M_openBy n (5, [some (mR 13 0), some (mI x1), some (mI x2), some (mI (x3 ||| ((1 : Int32) <<< (x4 &&& 31)))), some (mI (x4 + 1))], [], σ, 0, 0)) (mexe KT P_M_openBy n (5, [some (mR 13 0), some (mI x1), some (mI x2), some (mI x3), some (mI (x4 + 1))], [], σ, 0, 0)))) (mexe KT P_M_openBy n (5, [some (mR 13 0), some (mI x1), some (mI x2), some (mI x3), some (mI (x4 + 1))], [], σ, 0, 0))))) := rfl
set_option maxRecDepth 100000 in
theorem lt_M_openBy_5 {Post : MST → Prop} (x1 : Int32) (x2 : Int32) (c : Int32) (σ : MSto) (s : Int32) (hp : g_M_openBy_5 x1 x2 c σ s) (hq : ¬ q_M_openBy_5s x1 x2 c σ s = 1) (hn : ∀ r, t_M_openBy_5 x1 x2 c σ s = r → mW1 P_M_openBy (5, [some (mR 13 0), some (mI x1), some (mI x2), some (mI r), some (mI (c + 1))], [], σ, 0, 0) Post) : mW1 P_M_openBy (5, [some (mR 13 0), some (mI x1), some (mI x2), some (mI s), some (mI c)], [], σ, 0, 0) Post := by
  unfold g_M_openBy_5 at hp
  refine mW1_eq (q_M_openBy_5 _ _ _ _ _) ?_
  refine mTr_if (fun h0 => ?_) (fun h0 => ?_)
  · skip
    exact absurd (if_pos h0) hq
  · skip
    have hp := hp h0
    refine mTr_if (fun h1 => ?_) (fun h1 => ?_)
    · skip
      exact mTr_k (hn s ((if_neg h0).trans (if_pos h1)))
    · skip
      have hp := hp h1
      refine mTr_g hp.1 ?_
      have hp := hp.2
      refine mTr_if (fun h2 => ?_) (fun h2 => ?_)
      · skip
        have hp := hp h2
        refine mTr_g hp ?_
        refine mTr_if (fun h3 => ?_) (fun h3 => ?_)
        · skip
          exact mTr_k (hn (s ||| ((1 : Int32) <<< (c &&& 31))) ((if_neg h0).trans ((if_neg h1).trans ((if_pos h2).trans (if_pos h3)))))
        · skip
          exact mTr_k (hn s ((if_neg h0).trans ((if_neg h1).trans ((if_pos h2).trans (if_neg h3)))))
      · skip
        exact mTr_k (hn s ((if_neg h0).trans ((if_neg h1).trans (if_neg h2))))
theorem lp_M_openBy_5 {Post : MST → Prop} (x1 : Int32) (x2 : Int32) (c0 : Int32) (σ : MSto) (s0 : Int32) (N : Nat) (hb : ∀ i, i < N → g_M_openBy_5 x1 x2 (c0 + nI i) σ (f_M_openBy_5 x1 x2 c0 σ s0 i) ∧ ¬ q_M_openBy_5s x1 x2 (c0 + nI i) σ (f_M_openBy_5 x1 x2 c0 σ s0 i) = 1) (h : mW1 P_M_openBy (5, [some (mR 13 0), some (mI x1), some (mI x2), some (mI (f_M_openBy_5 x1 x2 c0 σ s0 N)), some (mI (c0 + nI N))], [], σ, 0, 0) Post) : mW1 P_M_openBy (5, [some (mR 13 0), some (mI x1), some (mI x2), some (mI s0), some (mI c0)], [], σ, 0, 0) Post := by
  refine mW1_st (mW1_loop (fun i => (5, [some (mR 13 0), some (mI x1), some (mI x2), some (mI (f_M_openBy_5 x1 x2 c0 σ s0 i)), some (mI (c0 + nI i))], [], σ, 0, 0)) N (fun i hlt hn => ?_) h) (by rw [show nI 0 = 0 from rfl, Int32.add_zero] <;> rfl)
  refine lt_M_openBy_5 x1 x2 _ σ _ (hb i hlt).1 (hb i hlt).2 (fun r hr => ?_)
  rw [Int32.add_assoc, nI_s]
  subst hr
  exact hn
set_option maxRecDepth 100000 in
set_option maxHeartbeats 4000000 in
theorem d_M_openBy (a1 : Int32) (a2 : Int32) (σ : MSto) (hp : p_M_openBy a1 a2 σ) : mW1 P_M_openBy (0, [some (mR 13 0), some (mI a1), some (mI a2), none, none], [], σ, 0, 0) (mF [62] [mI (v_M_openBy a1 a2 σ)] σ 0 0) := by
  refine mW1_eq (q_M_openBy_e _ _ _) ?_
  unfold p_M_openBy at hp
  refine mTr_k (lp_M_openBy_5 a1 a2 0 σ 0 (n_M_openBy_5 a1 a2 0 σ 0) hp.1 ?_)
  have hp := hp.2
  refine mW1_eq (q_M_openBy_5 _ _ _ _ _) ?_
  refine mTr_if (fun h0 => ?_) (fun h0 => ?_)
  · skip
    exact mTr_e (by decide) (congrArg (fun z => [mI z]) (Eq.symm (rfl))) rfl (by decide) (by decide)
  · skip
    have hp := hp h0
    exact hp.elim

theorem tk_M_openBy : ∀ pc i nx tg, T_M_openBy pc = some (i, nx, tg) → mOkB prog_14_method_96_code pc i nx tg = true := code_ok (N := 63) (fun k h => by unfold T_M_openBy; rw [h]; rfl) (by decide +kernel)
theorem ok_M_openBy (l : Launch) : mPOK l "ClothWithManModel" prog_14_method_96_code P_M_openBy := by
  refine ⟨tk_M_openBy, ?_, ?_, ?_, (fun pc i nx tg kd _ h => by cases h), ?_, ?_, fun pc en h => by cases h⟩
  · intro x ci f ty fin h
    exact mLook_all (Q := fun x v => mFOK "ClothWithManModel" x v.1 v.2.1 v.2.2.1 v.2.2.2 ∧ (v.2.2.2 = true → pIni P_M_openBy = true → (Cond.fieldLink "ClothWithManModel" x (((mCl[v.1]?).getD ("", fun _ => ("", "", "", false), 0)).2.1 v.2.1).1 (((mCl[v.1]?).getD ("", fun _ => ("", "", "", false), 0)).2.1 v.2.1).2.1 (((mCl[v.1]?).getD ("", fun _ => ("", "", "", false), 0)).2.1 v.2.1).2.2.1 ∈ lw_tbl ∧ (((mCl[v.1]?).getD ("", fun _ => ("", "", "", false), 0)).2.1 v.2.1).1 = "ClothWithManModel"))) (fcC ⟨fo_M_90, fun h1 h2 => by cases h2⟩ (fcC ⟨fo_M_93, fun h1 h2 => by cases h2⟩ (fcC ⟨fo_M_431, fun h1 h2 => by cases h1⟩ fcN))) x (ci, f, ty, fin) h
  · intro x
    have hh := mLook_all (l := ([] : List (Nat × (Int32 ⊕ Int64)))) (Q := fun x (v : Int32 ⊕ Int64) => (∀ w, v = .inl w → Cond.constant "ClothWithManModel" x w ∈ lw_tbl) ∧ (∀ w, v = .inr w → Cond.constantLong "ClothWithManModel" x w ∈ lw_tbl)) fcN x
    exact ⟨fun w h => (hh _ h).1 w rfl, fun w h => (hh _ h).2 w rfl⟩
  · exact fun x en h => mLook_all (Q := fun x en => mLink "ClothWithManModel" x en ∧ mCtr l en ∧ (en.1.1 = 2 → en.2.2.2.2.2.2 = none)) (fcC ⟨li_M_301, c_M_has l, (fun h => by cases h)⟩ fcN) x en h
  · exact fun x kd h => mLook_all (Q := fun x kd => (kd = 95 ∧ Cond.fieldLink "ClothWithManModel" x "ClothWithMan" "LIKENESSES" "[I" ∈ lw_tbl) ∨ (kd = 96 ∧ Cond.fieldLink "ClothWithManModel" x "ClothWithMan" "APART_BOUNDS" "[I" ∈ lw_tbl)) fcN x kd h
  · exact fun x ci h => mLook_all (Q := fun x ci => ci ≠ 0 ∧ ∃ (C : String) (T : u_T) (N : Nat), mCl[ci]? = some (C, T, N) ∧ Cond.classLink "ClothWithManModel" x C ∈ lw_tbl ∧ Cond.instantiable C N ∈ lw_tbl) fcN x ci h
set_option maxRecDepth 100000 in
theorem c_M_openBy (l : Launch) : mCtr l E_M_openBy := mCtr_of (P := P_M_openBy) (own := "ClothWithManModel") mLay_ok rfl (by decide +kernel) rfl (ok_M_openBy l) (fun h => by cases h) (fun as σ pr rv σ' hF hpr hlv => by
  unfold E_M_openBy S_M_openBy at hF
  simp only [] at hF
  split at hF
  · cases hF
    obtain ⟨n, pcF, c1, s1, g1, g2, g3, g4⟩ := mF_inv (d_M_openBy _ _ σ (hpr _ rfl))
    exact ⟨Nat.le_of_ble_eq_true rfl, (fun v h => by cases h; trivial), n, pcF, c1, s1, g1, ⟨mEnd_of (i := .ireturn) (P := P_M_openBy) (rets := [62]) rfl g2, rfl⟩, g3, g4⟩
  · cases hF
    exact (hpr _ rfl).elim)
/-! ClothWithManModel.younger(III)I -/
noncomputable def t_M_younger_24 (x1 : Int32) (x2 : Int32) (x3 : Int32) (c : Int32) (σ : MSto) (s : Unit) : Unit := (if 100 < c then s else (if x3 < (v_M_mixed (gI σ 41 0 (Int32.toNatClampNeg x1)) x2 c σ) then () else s))
noncomputable def q_M_younger_24s (x1 : Int32) (x2 : Int32) (x3 : Int32) (c : Int32) (σ : MSto) (s : Unit) : Nat := (if 100 < c then 1 else (if x3 < (v_M_mixed (gI σ 41 0 (Int32.toNatClampNeg x1)) x2 c σ) then 0 else 1))
def g_M_younger_24 (x1 : Int32) (x2 : Int32) (x3 : Int32) (c : Int32) (σ : MSto) (s : Unit) : Prop := (¬ (100 < c) → ((vp_in x1 200) ∧ (p_M_mixed (gI σ 41 0 (Int32.toNatClampNeg x1)) x2 c σ)))
noncomputable def f_M_younger_24 (x1 : Int32) (x2 : Int32) (x3 : Int32) (c0 : Int32) (σ : MSto) (s0 : Unit) (n : Nat) : Unit := nfold (fun i s => t_M_younger_24 x1 x2 x3 (c0 + nI i) σ s) s0 n
noncomputable def n_M_younger_24 (x1 : Int32) (x2 : Int32) (x3 : Int32) (c0 : Int32) (σ : MSto) (s0 : Unit) : Nat := leastN (fun i => q_M_younger_24s x1 x2 x3 (c0 + nI i) σ (f_M_younger_24 x1 x2 x3 c0 σ s0 i) = 1) 101
noncomputable def v_M_younger (a1 : Int32) (a2 : Int32) (a3 : Int32) (σ : MSto) : Int32 := (if (v_M_isYear a1 (sI σ 13 0 52 0)) = 0 then (-1) else (if (v_M_isYear a2 (sI σ 13 0 52 0)) = 0 then (-1) else (if 100 < (0 + nI (n_M_younger_24 a1 a2 a3 0 (sI σ 13 0 52 0) ())) then (-2) else (0 + nI (n_M_younger_24 a1 a2 a3 0 (sI σ 13 0 52 0) ())))))
def p_M_younger (a1 : Int32) (a2 : Int32) (a3 : Int32) (σ : MSto) : Prop := (¬ ((v_M_isYear a1 (sI σ 13 0 52 0)) = 0) → (¬ ((v_M_isYear a2 (sI σ 13 0 52 0)) = 0) → ((∀ i, i < (n_M_younger_24 a1 a2 a3 0 (sI σ 13 0 52 0) ()) → g_M_younger_24 a1 a2 a3 (0 + nI i) (sI σ 13 0 52 0) (f_M_younger_24 a1 a2 a3 0 (sI σ 13 0 52 0) () i) ∧ ¬ q_M_younger_24s a1 a2 a3 (0 + nI i) (sI σ 13 0 52 0) (f_M_younger_24 a1 a2 a3 0 (sI σ 13 0 52 0) () i) = 1) ∧ (¬ (100 < (0 + nI (n_M_younger_24 a1 a2 a3 0 (sI σ 13 0 52 0) ()))) → ((vp_in a1 200) ∧ ((p_M_mixed (gI (sI σ 13 0 52 0) 41 0 (Int32.toNatClampNeg a1)) a2 (0 + nI (n_M_younger_24 a1 a2 a3 0 (sI σ 13 0 52 0) ())) (sI σ 13 0 52 0)) ∧ ((a3 < (v_M_mixed (gI (sI σ 13 0 52 0) 41 0 (Int32.toNatClampNeg a1)) a2 (0 + nI (n_M_younger_24 a1 a2 a3 0 (sI σ 13 0 52 0) ())) (sI σ 13 0 52 0))) → False)))))))
noncomputable def e_M_younger (a1 : Int32) (a2 : Int32) (a3 : Int32) (σ : MSto) : MSto := (sI σ 13 0 52 0)
noncomputable def S_M_younger : List MV → MSto → Option Prop × Option MV × MSto := fun as σ => match as with
  | [.inr (.inr (some (13, 0))), .inl a0, .inl a1, .inl a2] => (some (p_M_younger a0 a1 a2 σ), some (mI (v_M_younger a0 a1 a2 σ)), e_M_younger a0 a1 a2 σ)
  | _ => (some False, none, σ)
noncomputable def E_M_younger : MEnt := ((1, 3, 13), (2, 42, 0, 0), S_M_younger, ((⟨"ClothWithManModel", "younger", "(III)I"⟩ : MethodName), prog_14_method_66_code, 5, (some .int)))

def T_M_younger : Nat → Option (Instr × Nat × List Nat) := fun k => bif Nat.blt k 60 then (bif Nat.blt k 31 then (bif Nat.blt k 16 then (bif Nat.blt k 6 then (bif Nat.blt k 2 then (bif Nat.blt k 1 then (bif Nat.beq k 0 then some (.aload_n 0, 1, []) else none) else (bif Nat.beq k 1 then some (.iconst 0, 2, []) else none)) else (bif Nat.blt k 5 then (bif Nat.beq k 2 then some (.putfield 161, 5, []) else none) else (bif Nat.beq k 5 then some (.iload_n 1, 6, []) else none))) else (bif Nat.blt k 12 then (bif Nat.blt k 9 then (bif Nat.beq k 6 then some (.invokestatic 228, 9, []) else none) else (bif Nat.beq k 9 then some (.ifCond .eq 10, 12, [19]) else none)) else (bif Nat.blt k 13 then (bif Nat.beq k 12 then some (.iload_n 2, 13, []) else none) else (bif Nat.beq k 13 then some (.invokestatic 228, 16, []) else none)))) else (bif Nat.blt k 22 then (bif Nat.blt k 20 then (bif Nat.blt k 19 then (bif Nat.beq k 16 then some (.ifCond .ne 5, 19, [21]) else none) else (bif Nat.beq k 19 then some (.iconst (-1), 20, []) else none)) else (bif Nat.blt k 21 then (bif Nat.beq k 20 then some (.ireturn, 21, []) else none) else (bif Nat.beq k 21 then some (.iconst 0, 22, []) else none))) else (bif Nat.blt k 26 then (bif Nat.blt k 24 then (bif Nat.beq k 22 then some (.istore 4, 24, []) else none) else (bif Nat.beq k 24 then some (.iload 4, 26, []) else none)) else (bif Nat.blt k 28 then (bif Nat.beq k 26 then some (.bipush 100, 28, []) else none) else (bif Nat.beq k 28 then some (.if_icmp .gt 29, 31, [57]) else none))))) else (bif Nat.blt k 44 then (bif Nat.blt k 37 then (bif Nat.blt k 33 then (bif Nat.blt k 32 then (bif Nat.beq k 31 then some (.aload_n 0, 32, []) else none) else (bif Nat.beq k 32 then some (.aload_n 0, 33, []) else none)) else (bif Nat.blt k 36 then (bif Nat.beq k 33 then some (.getfield 9, 36, []) else none) else (bif Nat.beq k 36 then some (.iload_n 1, 37, []) else none))) else (bif Nat.blt k 39 then (bif Nat.blt k 38 then (bif Nat.beq k 37 then some (.iaload, 38, []) else none) else (bif Nat.beq k 38 then some (.iload_n 2, 39, []) else none)) else (bif Nat.blt k 41 then (bif Nat.beq k 39 then some (.iload 4, 41, []) else none) else (bif Nat.beq k 41 then some (.invokevirtual 256, 44, []) else none)))) else (bif Nat.blt k 51 then (bif Nat.blt k 48 then (bif Nat.blt k 45 then (bif Nat.beq k 44 then some (.iload_n 3, 45, []) else none) else (bif Nat.beq k 45 then some (.if_icmp .gt 6, 48, [51]) else none)) else (bif Nat.blt k 50 then (bif Nat.beq k 48 then some (.iload 4, 50, []) else none) else (bif Nat.beq k 50 then some (.ireturn, 51, []) else none))) else (bif Nat.blt k 57 then (bif Nat.blt k 54 then (bif Nat.beq k 51 then some (.iinc 4 1, 54, []) else none) else (bif Nat.beq k 54 then some (.goto (-30), 57, [24]) else none)) else (bif Nat.blt k 59 then (bif Nat.beq k 57 then some (.bipush (-2), 59, []) else none) else (bif Nat.beq k 59 then some (.ireturn, 60, []) else none)))))) else none
noncomputable def P_M_younger : MP := (T_M_younger, (fun k => mLook k [(9, (13, 0, (.array .int), true)), (161, (13, 52, .int, false))]), (fun k => mLook k []), (fun k => mLook k [(228, E_M_isYear), (256, E_M_mixed)]), (fun k => mLook k []), (fun k => mLook k []), (fun k => mLook k []), (fun k => mLook k [(24, [true, true, true, true, true])]), (fun k => [20, 50, 59].any (Nat.beq k)), (2, 42, 0, 0), false, (fun _ => none))
set_option maxRecDepth 100000 in
set_option maxHeartbeats 4000000 in
theorem q_M_younger_e (a1 : Int32) (a2 : Int32) (a3 : Int32) (σ : MSto) (n : Nat) : mexe KT P_M_younger (n + 1) (0, [some (mR 13 0), some (mI a1), some (mI a2), some (mI a3), none], [], σ, 0, 0) = mIf ((v_M_isYear a1 (sI σ 13 0 52 0)) = 0) (some (20, [], [(mI (-1))], (sI σ 13 0 52 0), 0, 0)) (mIf ((v_M_isYear a2 (sI σ 13 0 52 0)) = 0) (some (20, [], [(mI (-1))], (sI σ 13 0 52 0), 0, 0)) (mexe KT P_M_younger n (24, [some (mR 13 0), some (mI a1), some (mI a2), some (mI a3), some (mI 0)], [], (sI σ 13 0 52 0), 0, 0))) := rfl
set_option maxRecDepth 100000 in
set_option maxHeartbeats 4000000 in
theorem q_M_younger_24 (x1 : Int32) (x2 : Int32) (x3 : Int32) (x4 : Int32) (σ : MSto) (n : Nat) : mexe KT P_M_younger (n + 1) (24, [some (mR 13 0), some (mI x1), some (mI x2), some (mI x3), some (mI x4)], [], σ, 0, 0) = mIf (100 < x4) (some (59, [], [(mI (-2))], σ, 0, 0)) (mG (vp_in x1 200) (mG (p_M_mixed (gI σ 41 0 (Int32.toNatClampNeg x1)) x2 x4 σ) (mIf (x3 < (v_M_mixed (gI σ 41 0 (Int32.toNatClampNeg x1)) x2 x4 σ)) (mexe KT P_M_younger n (24, [some (mR 13 0), some (mI x1), some (mI x2), some (mI x3), some (mI (x4 + 1))], [], σ, 0, 0)) (some (50, [], [(mI x4)], σ, 0, 0))))) := rfl
set_option maxRecDepth 100000 in
theorem lt_M_younger_24 {Post : MST → Prop} (x1 : Int32) (x2 : Int32) (x3 : Int32) (c : Int32) (σ : MSto) (s : Unit) (hp : g_M_younger_24 x1 x2 x3 c σ s) (hq : ¬ q_M_younger_24s x1 x2 x3 c σ s = 1) (hn : ∀ r, t_M_younger_24 x1 x2 x3 c σ s = r → mW1 P_M_younger (24, [some (mR 13 0), some (mI x1), some (mI x2), some (mI x3), some (mI (c + 1))], [], σ, 0, 0) Post) : mW1 P_M_younger (24, [some (mR 13 0), some (mI x1), some (mI x2), some (mI x3), some (mI c)], [], σ, 0, 0) Post := by
  unfold g_M_younger_24 at hp
  refine mW1_eq (q_M_younger_24 _ _ _ _ _) ?_
  refine mTr_if (fun h0 => ?_) (fun h0 => ?_)
  · skip
    exact absurd (if_pos h0) hq
  · skip
    have hp := hp h0
    refine mTr_g hp.1 ?_
    have hp := hp.2
    refine mTr_g hp ?_
    refine mTr_if (fun h1 => ?_) (fun h1 => ?_)
    · skip
      exact mTr_k (hn () ((if_neg h0).trans (if_pos h1)))
    · skip
      exact absurd ((if_neg h0).trans (if_neg h1)) hq
theorem lp_M_younger_24 {Post : MST → Prop} (x1 : Int32) (x2 : Int32) (x3 : Int32) (c0 : Int32) (σ : MSto) (s0 : Unit) (N : Nat) (hb : ∀ i, i < N → g_M_younger_24 x1 x2 x3 (c0 + nI i) σ (f_M_younger_24 x1 x2 x3 c0 σ s0 i) ∧ ¬ q_M_younger_24s x1 x2 x3 (c0 + nI i) σ (f_M_younger_24 x1 x2 x3 c0 σ s0 i) = 1) (h : mW1 P_M_younger (24, [some (mR 13 0), some (mI x1), some (mI x2), some (mI x3), some (mI (c0 + nI N))], [], σ, 0, 0) Post) : mW1 P_M_younger (24, [some (mR 13 0), some (mI x1), some (mI x2), some (mI x3), some (mI c0)], [], σ, 0, 0) Post := by
  refine mW1_st (mW1_loop (fun i => (24, [some (mR 13 0), some (mI x1), some (mI x2), some (mI x3), some (mI (c0 + nI i))], [], σ, 0, 0)) N (fun i hlt hn => ?_) h) (by rw [show nI 0 = 0 from rfl, Int32.add_zero] <;> rfl)
  refine lt_M_younger_24 x1 x2 x3 _ σ _ (hb i hlt).1 (hb i hlt).2 (fun r hr => ?_)
  rw [Int32.add_assoc, nI_s]
  subst hr
  exact hn
set_option maxRecDepth 100000 in
set_option maxHeartbeats 4000000 in
theorem d_M_younger (a1 : Int32) (a2 : Int32) (a3 : Int32) (σ : MSto) (hp : p_M_younger a1 a2 a3 σ) : mW1 P_M_younger (0, [some (mR 13 0), some (mI a1), some (mI a2), some (mI a3), none], [], σ, 0, 0) (mF [20, 50, 59] [mI (v_M_younger a1 a2 a3 σ)] (e_M_younger a1 a2 a3 σ) 0 0) := by
  refine mW1_eq (q_M_younger_e _ _ _ _) ?_
  unfold p_M_younger at hp
  refine mTr_if (fun h0 => ?_) (fun h0 => ?_)
  · skip
    exact mTr_e (by decide) (congrArg (fun z => [mI z]) (Eq.symm (if_pos h0))) (Eq.symm (rfl)) (by decide) (by decide)
  · skip
    have hp := hp h0
    refine mTr_if (fun h1 => ?_) (fun h1 => ?_)
    · skip
      exact mTr_e (by decide) (congrArg (fun z => [mI z]) (Eq.symm ((if_neg h0).trans (if_pos h1)))) (Eq.symm (rfl)) (by decide) (by decide)
    · skip
      have hp := hp h1
      refine mTr_k (lp_M_younger_24 a1 a2 a3 0 (sI σ 13 0 52 0) () (n_M_younger_24 a1 a2 a3 0 (sI σ 13 0 52 0) ()) hp.1 ?_)
      have hp := hp.2
      refine mW1_eq (q_M_younger_24 _ _ _ _ _) ?_
      refine mTr_if (fun h2 => ?_) (fun h2 => ?_)
      · skip
        exact mTr_e (by decide) (congrArg (fun z => [mI z]) (Eq.symm ((if_neg h0).trans ((if_neg h1).trans (if_pos h2))))) (Eq.symm (rfl)) (by decide) (by decide)
      · skip
        have hp := hp h2
        refine mTr_g hp.1 ?_
        have hp := hp.2
        refine mTr_g hp.1 ?_
        have hp := hp.2
        refine mTr_if (fun h3 => ?_) (fun h3 => ?_)
        · skip
          have hp := hp h3
          exact hp.elim
        · skip
          exact mTr_e (by decide) (congrArg (fun z => [mI z]) (Eq.symm ((if_neg h0).trans ((if_neg h1).trans (if_neg h2))))) (Eq.symm (rfl)) (by decide) (by decide)


theorem tk_M_younger : ∀ pc i nx tg, T_M_younger pc = some (i, nx, tg) → mOkB prog_14_method_66_code pc i nx tg = true := code_ok (N := 60) (fun k h => by unfold T_M_younger; rw [h]; rfl) (by decide +kernel)
theorem ok_M_younger (l : Launch) : mPOK l "ClothWithManModel" prog_14_method_66_code P_M_younger := by
  refine ⟨tk_M_younger, ?_, ?_, ?_, (fun pc i nx tg kd _ h => by cases h), ?_, ?_, fun pc en h => by cases h⟩
  · intro x ci f ty fin h
    exact mLook_all (Q := fun x v => mFOK "ClothWithManModel" x v.1 v.2.1 v.2.2.1 v.2.2.2 ∧ (v.2.2.2 = true → pIni P_M_younger = true → (Cond.fieldLink "ClothWithManModel" x (((mCl[v.1]?).getD ("", fun _ => ("", "", "", false), 0)).2.1 v.2.1).1 (((mCl[v.1]?).getD ("", fun _ => ("", "", "", false), 0)).2.1 v.2.1).2.1 (((mCl[v.1]?).getD ("", fun _ => ("", "", "", false), 0)).2.1 v.2.1).2.2.1 ∈ lw_tbl ∧ (((mCl[v.1]?).getD ("", fun _ => ("", "", "", false), 0)).2.1 v.2.1).1 = "ClothWithManModel"))) (fcC ⟨fo_M_9, fun h1 h2 => by cases h2⟩ (fcC ⟨fo_M_161, fun h1 h2 => by cases h1⟩ fcN)) x (ci, f, ty, fin) h
  · intro x
    have hh := mLook_all (l := ([] : List (Nat × (Int32 ⊕ Int64)))) (Q := fun x (v : Int32 ⊕ Int64) => (∀ w, v = .inl w → Cond.constant "ClothWithManModel" x w ∈ lw_tbl) ∧ (∀ w, v = .inr w → Cond.constantLong "ClothWithManModel" x w ∈ lw_tbl)) fcN x
    exact ⟨fun w h => (hh _ h).1 w rfl, fun w h => (hh _ h).2 w rfl⟩
  · exact fun x en h => mLook_all (Q := fun x en => mLink "ClothWithManModel" x en ∧ mCtr l en ∧ (en.1.1 = 2 → en.2.2.2.2.2.2 = none)) (fcC ⟨li_M_228, c_M_isYear l, (fun h => by cases h)⟩ (fcC ⟨li_M_256, c_M_mixed l, (fun h => by cases h)⟩ fcN)) x en h
  · exact fun x kd h => mLook_all (Q := fun x kd => (kd = 95 ∧ Cond.fieldLink "ClothWithManModel" x "ClothWithMan" "LIKENESSES" "[I" ∈ lw_tbl) ∨ (kd = 96 ∧ Cond.fieldLink "ClothWithManModel" x "ClothWithMan" "APART_BOUNDS" "[I" ∈ lw_tbl)) fcN x kd h
  · exact fun x ci h => mLook_all (Q := fun x ci => ci ≠ 0 ∧ ∃ (C : String) (T : u_T) (N : Nat), mCl[ci]? = some (C, T, N) ∧ Cond.classLink "ClothWithManModel" x C ∈ lw_tbl ∧ Cond.instantiable C N ∈ lw_tbl) fcN x ci h
set_option maxRecDepth 100000 in
theorem c_M_younger (l : Launch) : mCtr l E_M_younger := mCtr_of (P := P_M_younger) (own := "ClothWithManModel") mLay_ok rfl (by decide +kernel) rfl (ok_M_younger l) (fun h => by cases h) (fun as σ pr rv σ' hF hpr hlv => by
  unfold E_M_younger S_M_younger at hF
  simp only [] at hF
  split at hF
  · cases hF
    obtain ⟨n, pcF, c1, s1, g1, g2, g3, g4⟩ := mF_inv (d_M_younger _ _ _ σ (hpr _ rfl))
    exact ⟨Nat.le_of_ble_eq_true rfl, (fun v h => by cases h; trivial), n, pcF, c1, s1, g1, ⟨mEnd_of (i := .ireturn) (P := P_M_younger) (rets := [20, 50, 59]) rfl g2, rfl⟩, g3, g4⟩
  · cases hF
    exact (hpr _ rfl).elim)
/-! ClothWithManModel.must(III)I -/
noncomputable def t_M_must_33 (x1 : Int32) (x2 : Int32) (x3 : Int32) (c : Int32) (σ : MSto) (s : Int32 × Int64) : Int32 × Int64 := (if 200 ≤ c then s else (if c ≤ 0 then (c, (v_Ma_absJ ((Int32.toInt64 (v_M_mixed (gI σ 41 0 (Int32.toNatClampNeg c)) x1 x2 σ)) - (Int32.toInt64 x3)) σ)) else (if (lg_cmp (v_Ma_absJ ((Int32.toInt64 (v_M_mixed (gI σ 41 0 (Int32.toNatClampNeg c)) x1 x2 σ)) - (Int32.toInt64 x3)) σ) (s.2)) < 0 then (c, (v_Ma_absJ ((Int32.toInt64 (v_M_mixed (gI σ 41 0 (Int32.toNatClampNeg c)) x1 x2 σ)) - (Int32.toInt64 x3)) σ)) else ((s.1), (s.2)))))
noncomputable def q_M_must_33s (x1 : Int32) (x2 : Int32) (x3 : Int32) (c : Int32) (σ : MSto) (s : Int32 × Int64) : Nat := (if 200 ≤ c then 1 else 0)
def g_M_must_33 (x1 : Int32) (x2 : Int32) (x3 : Int32) (c : Int32) (σ : MSto) (s : Int32 × Int64) : Prop := (¬ (200 ≤ c) → ((vp_in c 200) ∧ (p_M_mixed (gI σ 41 0 (Int32.toNatClampNeg c)) x1 x2 σ)))
noncomputable def f_M_must_33 (x1 : Int32) (x2 : Int32) (x3 : Int32) (c0 : Int32) (σ : MSto) (s0 : Int32 × Int64) (n : Nat) : Int32 × Int64 := nfold (fun i s => t_M_must_33 x1 x2 x3 (c0 + nI i) σ s) s0 n
noncomputable def n_M_must_33 (x1 : Int32) (x2 : Int32) (x3 : Int32) (c0 : Int32) (σ : MSto) (s0 : Int32 × Int64) : Nat := 200
noncomputable def v_M_must (a1 : Int32) (a2 : Int32) (a3 : Int32) (σ : MSto) : Int32 := (if (v_M_isYear a1 (sI σ 13 0 52 0)) = 0 then (-1) else (if (v_M_in a2 0 100 (sI σ 13 0 52 0)) = 0 then (-1) else ((f_M_must_33 a1 a2 a3 0 (sI σ 13 0 52 0) (0, 0) (n_M_must_33 a1 a2 a3 0 (sI σ 13 0 52 0) (0, 0))).1)))
def p_M_must (a1 : Int32) (a2 : Int32) (a3 : Int32) (σ : MSto) : Prop := (¬ ((v_M_isYear a1 (sI σ 13 0 52 0)) = 0) → (¬ ((v_M_in a2 0 100 (sI σ 13 0 52 0)) = 0) → ((∀ i, i < (n_M_must_33 a1 a2 a3 0 (sI σ 13 0 52 0) (0, 0)) → g_M_must_33 a1 a2 a3 (0 + nI i) (sI σ 13 0 52 0) (f_M_must_33 a1 a2 a3 0 (sI σ 13 0 52 0) (0, 0) i) ∧ ¬ q_M_must_33s a1 a2 a3 (0 + nI i) (sI σ 13 0 52 0) (f_M_must_33 a1 a2 a3 0 (sI σ 13 0 52 0) (0, 0) i) = 1) ∧ (((200 ≤ (0 + nI (n_M_must_33 a1 a2 a3 0 (sI σ 13 0 52 0) (0, 0)))) → (p_M_tell ((f_M_must_33 a1 a2 a3 0 (sI σ 13 0 52 0) (0, 0) (n_M_must_33 a1 a2 a3 0 (sI σ 13 0 52 0) (0, 0))).2) (sI (sI σ 13 0 52 0) 13 0 51 0))) ∧ (¬ (200 ≤ (0 + nI (n_M_must_33 a1 a2 a3 0 (sI σ 13 0 52 0) (0, 0)))) → False)))))
noncomputable def e_M_must (a1 : Int32) (a2 : Int32) (a3 : Int32) (σ : MSto) : MSto := (if (v_M_isYear a1 (sI σ 13 0 52 0)) = 0 then (sI σ 13 0 52 0) else (if (v_M_in a2 0 100 (sI σ 13 0 52 0)) = 0 then (sI σ 13 0 52 0) else (e_M_tell ((f_M_must_33 a1 a2 a3 0 (sI σ 13 0 52 0) (0, 0) (n_M_must_33 a1 a2 a3 0 (sI σ 13 0 52 0) (0, 0))).2) (sI (sI σ 13 0 52 0) 13 0 51 0))))
noncomputable def S_M_must : List MV → MSto → Option Prop × Option MV × MSto := fun as σ => match as with
  | [.inr (.inr (some (13, 0))), .inl a0, .inl a1, .inl a2] => (some (p_M_must a0 a1 a2 σ), some (mI (v_M_must a0 a1 a2 σ)), e_M_must a0 a1 a2 σ)
  | _ => (some False, none, σ)
noncomputable def E_M_must : MEnt := ((1, 3, 13), (2, 42, 0, 0), S_M_must, ((⟨"ClothWithManModel", "must", "(III)I"⟩ : MethodName), prog_14_method_67_code, 10, (some .int)))

def T_M_must : Nat → Option (Instr × Nat × List Nat) := fun k => bif Nat.blt k 107 then (bif Nat.blt k 50 then (bif Nat.blt k 25 then (bif Nat.blt k 13 then (bif Nat.blt k 5 then (bif Nat.blt k 1 then (bif Nat.beq k 0 then some (.aload_n 0, 1, []) else none) else (bif Nat.blt k 2 then (bif Nat.beq k 1 then some (.iconst 0, 2, []) else none) else (bif Nat.beq k 2 then some (.putfield 161, 5, []) else none))) else (bif Nat.blt k 9 then (bif Nat.blt k 6 then (bif Nat.beq k 5 then some (.iload_n 1, 6, []) else none) else (bif Nat.beq k 6 then some (.invokestatic 228, 9, []) else none)) else (bif Nat.blt k 12 then (bif Nat.beq k 9 then some (.ifCond .eq 13, 12, [22]) else none) else (bif Nat.beq k 12 then some (.iload_n 2, 13, []) else none)))) else (bif Nat.blt k 19 then (bif Nat.blt k 14 then (bif Nat.beq k 13 then some (.iconst 0, 14, []) else none) else (bif Nat.blt k 16 then (bif Nat.beq k 14 then some (.bipush 100, 16, []) else none) else (bif Nat.beq k 16 then some (.invokestatic 181, 19, []) else none))) else (bif Nat.blt k 23 then (bif Nat.blt k 22 then (bif Nat.beq k 19 then some (.ifCond .ne 5, 22, [24]) else none) else (bif Nat.beq k 22 then some (.iconst (-1), 23, []) else none)) else (bif Nat.blt k 24 then (bif Nat.beq k 23 then some (.ireturn, 24, []) else none) else (bif Nat.beq k 24 then some (.iconst 0, 25, []) else none))))) else (bif Nat.blt k 38 then (bif Nat.blt k 30 then (bif Nat.blt k 27 then (bif Nat.beq k 25 then some (.istore 4, 27, []) else none) else (bif Nat.blt k 28 then (bif Nat.beq k 27 then some (.lconst 0, 28, []) else none) else (bif Nat.beq k 28 then some (.lstore 5, 30, []) else none))) else (bif Nat.blt k 33 then (bif Nat.blt k 31 then (bif Nat.beq k 30 then some (.iconst 0, 31, []) else none) else (bif Nat.beq k 31 then some (.istore 7, 33, []) else none)) else (bif Nat.blt k 35 then (bif Nat.beq k 33 then some (.iload 7, 35, []) else none) else (bif Nat.beq k 35 then some (.sipush 200, 38, []) else none)))) else (bif Nat.blt k 43 then (bif Nat.blt k 41 then (bif Nat.beq k 38 then some (.if_icmp .ge 55, 41, [93]) else none) else (bif Nat.blt k 42 then (bif Nat.beq k 41 then some (.aload_n 0, 42, []) else none) else (bif Nat.beq k 42 then some (.aload_n 0, 43, []) else none))) else (bif Nat.blt k 48 then (bif Nat.blt k 46 then (bif Nat.beq k 43 then some (.getfield 9, 46, []) else none) else (bif Nat.beq k 46 then some (.iload 7, 48, []) else none)) else (bif Nat.blt k 49 then (bif Nat.beq k 48 then some (.iaload, 49, []) else none) else (bif Nat.beq k 49 then some (.iload_n 1, 50, []) else none)))))) else (bif Nat.blt k 76 then (bif Nat.blt k 61 then (bif Nat.blt k 55 then (bif Nat.blt k 51 then (bif Nat.beq k 50 then some (.iload_n 2, 51, []) else none) else (bif Nat.blt k 54 then (bif Nat.beq k 51 then some (.invokevirtual 256, 54, []) else none) else (bif Nat.beq k 54 then some (.i2l, 55, []) else none))) else (bif Nat.blt k 57 then (bif Nat.blt k 56 then (bif Nat.beq k 55 then some (.iload_n 3, 56, []) else none) else (bif Nat.beq k 56 then some (.i2l, 57, []) else none)) else (bif Nat.blt k 58 then (bif Nat.beq k 57 then some (.lsub, 58, []) else none) else (bif Nat.beq k 58 then some (.invokestatic 167, 61, []) else none)))) else (bif Nat.blt k 68 then (bif Nat.blt k 63 then (bif Nat.beq k 61 then some (.lstore 8, 63, []) else none) else (bif Nat.blt k 65 then (bif Nat.beq k 63 then some (.iload 7, 65, []) else none) else (bif Nat.beq k 65 then some (.ifCond .le 14, 68, [79]) else none))) else (bif Nat.blt k 72 then (bif Nat.blt k 70 then (bif Nat.beq k 68 then some (.lload 8, 70, []) else none) else (bif Nat.beq k 70 then some (.lload 5, 72, []) else none)) else (bif Nat.blt k 73 then (bif Nat.beq k 72 then some (.lcmp, 73, []) else none) else (bif Nat.beq k 73 then some (.ifCond .lt 6, 76, [79]) else none))))) else (bif Nat.blt k 93 then (bif Nat.blt k 83 then (bif Nat.blt k 79 then (bif Nat.beq k 76 then some (.goto 11, 79, [87]) else none) else (bif Nat.blt k 81 then (bif Nat.beq k 79 then some (.iload 7, 81, []) else none) else (bif Nat.beq k 81 then some (.istore 4, 83, []) else none))) else (bif Nat.blt k 87 then (bif Nat.blt k 85 then (bif Nat.beq k 83 then some (.lload 8, 85, []) else none) else (bif Nat.beq k 85 then some (.lstore 5, 87, []) else none)) else (bif Nat.blt k 90 then (bif Nat.beq k 87 then some (.iinc 7 1, 90, []) else none) else (bif Nat.beq k 90 then some (.goto (-57), 93, [33]) else none)))) else (bif Nat.blt k 99 then (bif Nat.blt k 95 then (bif Nat.blt k 94 then (bif Nat.beq k 93 then some (.aload_n 0, 94, []) else none) else (bif Nat.beq k 94 then some (.iconst 0, 95, []) else none)) else (bif Nat.blt k 98 then (bif Nat.beq k 95 then some (.putfield 164, 98, []) else none) else (bif Nat.beq k 98 then some (.aload_n 0, 99, []) else none))) else (bif Nat.blt k 104 then (bif Nat.blt k 101 then (bif Nat.beq k 99 then some (.lload 5, 101, []) else none) else (bif Nat.beq k 101 then some (.invokevirtual 177, 104, []) else none)) else (bif Nat.blt k 106 then (bif Nat.beq k 104 then some (.iload 4, 106, []) else none) else (bif Nat.beq k 106 then some (.ireturn, 107, []) else none))))))) else none
noncomputable def P_M_must : MP := (T_M_must, (fun k => mLook k [(9, (13, 0, (.array .int), true)), (161, (13, 52, .int, false)), (164, (13, 51, .int, false))]), (fun k => mLook k []), (fun k => mLook k [(167, E_Ma_absJ), (177, E_M_tell), (181, E_M_in), (228, E_M_isYear), (256, E_M_mixed)]), (fun k => mLook k []), (fun k => mLook k []), (fun k => mLook k []), (fun k => mLook k [(33, [true, true, true, true, true, true, false, true, false, false])]), (fun k => [23, 106].any (Nat.beq k)), (2, 42, 0, 0), false, (fun _ => none))
set_option maxRecDepth 100000 in
set_option maxHeartbeats 4000000 in
theorem q_M_must_e (a1 : Int32) (a2 : Int32) (a3 : Int32) (σ : MSto) (n : Nat) : mexe KT P_M_must (n + 1) (0, [some (mR 13 0), some (mI a1), some (mI a2), some (mI a3), none, none, none, none, none, none], [], σ, 0, 0) = mIf ((v_M_isYear a1 (sI σ 13 0 52 0)) = 0) (some (23, [], [(mI (-1))], (sI σ 13 0 52 0), 0, 0)) (mIf ((v_M_in a2 0 100 (sI σ 13 0 52 0)) = 0) (some (23, [], [(mI (-1))], (sI σ 13 0 52 0), 0, 0)) (mexe KT P_M_must n (33, [some (mR 13 0), some (mI a1), some (mI a2), some (mI a3), some (mI 0), some (mJ 0), none, some (mI 0), none, none], [], (sI σ 13 0 52 0), 0, 0))) := rfl
set_option maxRecDepth 100000 in
set_option maxHeartbeats 4000000 in
theorem q_M_must_33 (x1 : Int32) (x2 : Int32) (x3 : Int32) (x4 : Int32) (x5 : Int64) (x7 : Int32) (σ : MSto) (n : Nat) : mexe KT P_M_must (n + 1) (33, [some (mR 13 0), some (mI x1), some (mI x2), some (mI x3), some (mI x4), some (mJ x5), none, some (mI x7), none, none], [], σ, 0, 0) = mIf (200 ≤ x7) (mG (p_M_tell x5 (sI σ 13 0 51 0)) (some (106, [], [(mI x4)], (e_M_tell x5 (sI σ 13 0 51 0)), 0, 0))) (mG (vp_in x7 200) (mG (p_M_mixed (gI σ 41 0 (Int32.toNatClampNeg x7)) x1 x2 σ) (mIf (x7 ≤ 0) (mexe KT P_M_must n (33, [some (mR 13 0), some (mI x1), some (mI x2), some (mI x3), some (mI x7), some (mJ (v_Ma_absJ ((Int32.toInt64 (v_M_mixed (gI σ 41 0 (Int32.toNatClampNeg x7)) x1 x2 σ)) - (Int32.toInt64 x3)) σ)), none, some (mI (x7 + 1)), none, none], [], σ, 0, 0)) (mIf ((lg_cmp (v_Ma_absJ ((Int32.toInt64 (v_M_mixed (gI σ 41 0 (Int32.toNatClampNeg x7)) x1 x2 σ)) - (Int32.toInt64 x3)) σ) x5) < 0) (mexe KT P_M_must n (33, [some (mR 13 0), some (mI x1), some (mI x2), some (mI x3), some (mI x7), some (mJ (v_Ma_absJ ((Int32.toInt64 (v_M_mixed (gI σ 41 0 (Int32.toNatClampNeg x7)) x1 x2 σ)) - (Int32.toInt64 x3)) σ)), none, some (mI (x7 + 1)), none, none], [], σ, 0, 0)) (mexe KT P_M_must n (33, [some (mR 13 0), some (mI x1), some (mI x2), some (mI x3), some (mI x4), some (mJ x5), none, some (mI (x7 + 1)), none, none], [], σ, 0, 0)))))) := rfl
set_option maxRecDepth 100000 in
theorem lt_M_must_33 {Post : MST → Prop} (x1 : Int32) (x2 : Int32) (x3 : Int32) (c : Int32) (σ : MSto) (s : Int32 × Int64) (hp : g_M_must_33 x1 x2 x3 c σ s) (hq : ¬ q_M_must_33s x1 x2 x3 c σ s = 1) (hn : ∀ (r1 : Int32) (r2 : Int64), t_M_must_33 x1 x2 x3 c σ s = (r1, r2) → mW1 P_M_must (33, [some (mR 13 0), some (mI x1), some (mI x2), some (mI x3), some (mI r1), some (mJ r2), none, some (mI (c + 1)), none, none], [], σ, 0, 0) Post) : mW1 P_M_must (33, [some (mR 13 0), some (mI x1), some (mI x2), some (mI x3), some (mI (s.1)), some (mJ (s.2)), none, some (mI c), none, none], [], σ, 0, 0) Post := by
  unfold g_M_must_33 at hp
  refine mW1_eq (q_M_must_33 _ _ _ _ _ _ _) ?_
  refine mTr_if (fun h0 => ?_) (fun h0 => ?_)
  · skip
    exact absurd (if_pos h0) hq
  · skip
    have hp := hp h0
    refine mTr_g hp.1 ?_
    have hp := hp.2
    refine mTr_g hp ?_
    refine mTr_if (fun h1 => ?_) (fun h1 => ?_)
    · skip
      exact mTr_k (hn c (v_Ma_absJ ((Int32.toInt64 (v_M_mixed (gI σ 41 0 (Int32.toNatClampNeg c)) x1 x2 σ)) - (Int32.toInt64 x3)) σ) ((if_neg h0).trans (if_pos h1)))
    · skip
      refine mTr_if (fun h2 => ?_) (fun h2 => ?_)
      · skip
        exact mTr_k (hn c (v_Ma_absJ ((Int32.toInt64 (v_M_mixed (gI σ 41 0 (Int32.toNatClampNeg c)) x1 x2 σ)) - (Int32.toInt64 x3)) σ) ((if_neg h0).trans ((if_neg h1).trans (if_pos h2))))
      · skip
        exact mTr_k (hn (s.1) (s.2) ((if_neg h0).trans ((if_neg h1).trans (if_neg h2))))
theorem lp_M_must_33 {Post : MST → Prop} (x1 : Int32) (x2 : Int32) (x3 : Int32) (c0 : Int32) (σ : MSto) (s0 : Int32 × Int64) (N : Nat) (hb : ∀ i, i < N → g_M_must_33 x1 x2 x3 (c0 + nI i) σ (f_M_must_33 x1 x2 x3 c0 σ s0 i) ∧ ¬ q_M_must_33s x1 x2 x3 (c0 + nI i) σ (f_M_must_33 x1 x2 x3 c0 σ s0 i) = 1) (h : mW1 P_M_must (33, [some (mR 13 0), some (mI x1), some (mI x2), some (mI x3), some (mI ((f_M_must_33 x1 x2 x3 c0 σ s0 N).1)), some (mJ ((f_M_must_33 x1 x2 x3 c0 σ s0 N).2)), none, some (mI (c0 + nI N)), none, none], [], σ, 0, 0) Post) : mW1 P_M_must (33, [some (mR 13 0), some (mI x1), some (mI x2), some (mI x3), some (mI (s0.1)), some (mJ (s0.2)), none, some (mI c0), none, none], [], σ, 0, 0) Post := by
  refine mW1_st (mW1_loop (fun i => (33, [some (mR 13 0), some (mI x1), some (mI x2), some (mI x3), some (mI ((f_M_must_33 x1 x2 x3 c0 σ s0 i).1)), some (mJ ((f_M_must_33 x1 x2 x3 c0 σ s0 i).2)), none, some (mI (c0 + nI i)), none, none], [], σ, 0, 0)) N (fun i hlt hn => ?_) h) (by rw [show nI 0 = 0 from rfl, Int32.add_zero] <;> rfl)
  refine lt_M_must_33 x1 x2 x3 _ σ _ (hb i hlt).1 (hb i hlt).2 (fun r1 r2 hr => ?_)
  rw [Int32.add_assoc, nI_s]
  have e : f_M_must_33 x1 x2 x3 c0 σ s0 (i + 1) = (r1, r2) := hr
  try dsimp only at hn
  rw [e] at hn
  exact hn
set_option maxRecDepth 100000 in
set_option maxHeartbeats 4000000 in
theorem d_M_must (a1 : Int32) (a2 : Int32) (a3 : Int32) (σ : MSto) (hp : p_M_must a1 a2 a3 σ) : mW1 P_M_must (0, [some (mR 13 0), some (mI a1), some (mI a2), some (mI a3), none, none, none, none, none, none], [], σ, 0, 0) (mF [23, 106] [mI (v_M_must a1 a2 a3 σ)] (e_M_must a1 a2 a3 σ) 0 0) := by
  refine mW1_eq (q_M_must_e _ _ _ _) ?_
  unfold p_M_must at hp
  refine mTr_if (fun h0 => ?_) (fun h0 => ?_)
  · skip
    exact mTr_e (by decide) (congrArg (fun z => [mI z]) (Eq.symm (if_pos h0))) (Eq.symm (if_pos h0)) (by decide) (by decide)
  · skip
    have hp := hp h0
    refine mTr_if (fun h1 => ?_) (fun h1 => ?_)
    · skip
      exact mTr_e (by decide) (congrArg (fun z => [mI z]) (Eq.symm ((if_neg h0).trans (if_pos h1)))) (Eq.symm ((if_neg h0).trans (if_pos h1))) (by decide) (by decide)
    · skip
      have hp := hp h1
      refine mTr_k (lp_M_must_33 a1 a2 a3 0 (sI σ 13 0 52 0) (0, 0) (n_M_must_33 a1 a2 a3 0 (sI σ 13 0 52 0) (0, 0)) hp.1 ?_)
      have hp := hp.2
      refine mW1_eq (q_M_must_33 _ _ _ _ _ _ _) ?_
      refine mTr_if (fun h2 => ?_) (fun h2 => ?_)
      · skip
        have hp := hp.1 h2
        refine mTr_g hp ?_
        exact mTr_e (by decide) (congrArg (fun z => [mI z]) (Eq.symm ((if_neg h0).trans (if_neg h1)))) (Eq.symm ((if_neg h0).trans (if_neg h1))) (by decide) (by decide)
      · skip
        have hp := hp.2 h2
        exact hp.elim





theorem tk_M_must : ∀ pc i nx tg, T_M_must pc = some (i, nx, tg) → mOkB prog_14_method_67_code pc i nx tg = true := code_ok (N := 107) (fun k h => by unfold T_M_must; rw [h]; rfl) (by decide +kernel)
theorem ok_M_must (l : Launch) : mPOK l "ClothWithManModel" prog_14_method_67_code P_M_must := by
  refine ⟨tk_M_must, ?_, ?_, ?_, (fun pc i nx tg kd _ h => by cases h), ?_, ?_, fun pc en h => by cases h⟩
  · intro x ci f ty fin h
    exact mLook_all (Q := fun x v => mFOK "ClothWithManModel" x v.1 v.2.1 v.2.2.1 v.2.2.2 ∧ (v.2.2.2 = true → pIni P_M_must = true → (Cond.fieldLink "ClothWithManModel" x (((mCl[v.1]?).getD ("", fun _ => ("", "", "", false), 0)).2.1 v.2.1).1 (((mCl[v.1]?).getD ("", fun _ => ("", "", "", false), 0)).2.1 v.2.1).2.1 (((mCl[v.1]?).getD ("", fun _ => ("", "", "", false), 0)).2.1 v.2.1).2.2.1 ∈ lw_tbl ∧ (((mCl[v.1]?).getD ("", fun _ => ("", "", "", false), 0)).2.1 v.2.1).1 = "ClothWithManModel"))) (fcC ⟨fo_M_9, fun h1 h2 => by cases h2⟩ (fcC ⟨fo_M_161, fun h1 h2 => by cases h1⟩ (fcC ⟨fo_M_164, fun h1 h2 => by cases h1⟩ fcN))) x (ci, f, ty, fin) h
  · intro x
    have hh := mLook_all (l := ([] : List (Nat × (Int32 ⊕ Int64)))) (Q := fun x (v : Int32 ⊕ Int64) => (∀ w, v = .inl w → Cond.constant "ClothWithManModel" x w ∈ lw_tbl) ∧ (∀ w, v = .inr w → Cond.constantLong "ClothWithManModel" x w ∈ lw_tbl)) fcN x
    exact ⟨fun w h => (hh _ h).1 w rfl, fun w h => (hh _ h).2 w rfl⟩
  · exact fun x en h => mLook_all (Q := fun x en => mLink "ClothWithManModel" x en ∧ mCtr l en ∧ (en.1.1 = 2 → en.2.2.2.2.2.2 = none)) (fcC ⟨li_M_167, c_Ma_absJ l, (fun h => by cases h)⟩ (fcC ⟨li_M_177, c_M_tell l, (fun h => by cases h)⟩ (fcC ⟨li_M_181, c_M_in l, (fun h => by cases h)⟩ (fcC ⟨li_M_228, c_M_isYear l, (fun h => by cases h)⟩ (fcC ⟨li_M_256, c_M_mixed l, (fun h => by cases h)⟩ fcN))))) x en h
  · exact fun x kd h => mLook_all (Q := fun x kd => (kd = 95 ∧ Cond.fieldLink "ClothWithManModel" x "ClothWithMan" "LIKENESSES" "[I" ∈ lw_tbl) ∨ (kd = 96 ∧ Cond.fieldLink "ClothWithManModel" x "ClothWithMan" "APART_BOUNDS" "[I" ∈ lw_tbl)) fcN x kd h
  · exact fun x ci h => mLook_all (Q := fun x ci => ci ≠ 0 ∧ ∃ (C : String) (T : u_T) (N : Nat), mCl[ci]? = some (C, T, N) ∧ Cond.classLink "ClothWithManModel" x C ∈ lw_tbl ∧ Cond.instantiable C N ∈ lw_tbl) fcN x ci h
set_option maxRecDepth 100000 in
theorem c_M_must (l : Launch) : mCtr l E_M_must := mCtr_of (P := P_M_must) (own := "ClothWithManModel") mLay_ok rfl (by decide +kernel) rfl (ok_M_must l) (fun h => by cases h) (fun as σ pr rv σ' hF hpr hlv => by
  unfold E_M_must S_M_must at hF
  simp only [] at hF
  split at hF
  · cases hF
    obtain ⟨n, pcF, c1, s1, g1, g2, g3, g4⟩ := mF_inv (d_M_must _ _ _ σ (hpr _ rfl))
    exact ⟨Nat.le_of_ble_eq_true rfl, (fun v h => by cases h; trivial), n, pcF, c1, s1, g1, ⟨mEnd_of (i := .ireturn) (P := P_M_must) (rets := [23, 106]) rfl g2, rfl⟩, g3, g4⟩
  · cases hF
    exact (hpr _ rfl).elim)
/-! ClothWithManModel.likely(I)I -/
noncomputable def t_M_likely_39  (c : Int32) (σ : MSto) (s : Int32) : Int32 := (if 200 ≤ c then s else (if (lg_cmp (gJ σ 81 0 (Int32.toNatClampNeg c)) (gJ σ 81 0 (Int32.toNatClampNeg s))) ≤ 0 then s else c))
noncomputable def q_M_likely_39s  (c : Int32) (σ : MSto) (s : Int32) : Nat := (if 200 ≤ c then 1 else 0)
def g_M_likely_39  (c : Int32) (σ : MSto) (s : Int32) : Prop := (¬ (200 ≤ c) → ((vp_in c 200) ∧ (vp_in s 200)))
noncomputable def f_M_likely_39  (c0 : Int32) (σ : MSto) (s0 : Int32) (n : Nat) : Int32 := nfold (fun i s => t_M_likely_39 (c0 + nI i) σ s) s0 n
noncomputable def n_M_likely_39  (c0 : Int32) (σ : MSto) (s0 : Int32) : Nat := 199
noncomputable def v_M_likely (a1 : Int32) (σ : MSto) : Int32 := (if (v_M_areCounted a1 1 6 (sI σ 13 0 52 0)) = 0 then (-1) else (if (lg_cmp (gJ (e_M_weighYears a1 (sI σ 13 0 52 0)) 13 0 60) 0) = 0 then (-2) else (f_M_likely_39 1 (e_M_weighYears a1 (sI σ 13 0 52 0)) 0 (n_M_likely_39 1 (e_M_weighYears a1 (sI σ 13 0 52 0)) 0))))
def p_M_likely (a1 : Int32) (σ : MSto) : Prop := (¬ ((v_M_areCounted a1 1 6 (sI σ 13 0 52 0)) = 0) → ((p_M_weighYears a1 (sI σ 13 0 52 0)) ∧ (¬ ((lg_cmp (gJ (e_M_weighYears a1 (sI σ 13 0 52 0)) 13 0 60) 0) = 0) → ((∀ i, i < (n_M_likely_39 1 (e_M_weighYears a1 (sI σ 13 0 52 0)) 0) → g_M_likely_39 (1 + nI i) (e_M_weighYears a1 (sI σ 13 0 52 0)) (f_M_likely_39 1 (e_M_weighYears a1 (sI σ 13 0 52 0)) 0 i) ∧ ¬ q_M_likely_39s (1 + nI i) (e_M_weighYears a1 (sI σ 13 0 52 0)) (f_M_likely_39 1 (e_M_weighYears a1 (sI σ 13 0 52 0)) 0 i) = 1) ∧ (((200 ≤ (1 + nI (n_M_likely_39 1 (e_M_weighYears a1 (sI σ 13 0 52 0)) 0))) → ((vp_in (f_M_likely_39 1 (e_M_weighYears a1 (sI σ 13 0 52 0)) 0 (n_M_likely_39 1 (e_M_weighYears a1 (sI σ 13 0 52 0)) 0)) 200) ∧ (p_M_tellPart (gJ (sI (e_M_weighYears a1 (sI σ 13 0 52 0)) 13 0 51 0) 81 0 (Int32.toNatClampNeg (f_M_likely_39 1 (e_M_weighYears a1 (sI σ 13 0 52 0)) 0 (n_M_likely_39 1 (e_M_weighYears a1 (sI σ 13 0 52 0)) 0)))) (gJ (sI (e_M_weighYears a1 (sI σ 13 0 52 0)) 13 0 51 0) 13 0 60) (sI (e_M_weighYears a1 (sI σ 13 0 52 0)) 13 0 51 0)))) ∧ (¬ (200 ≤ (1 + nI (n_M_likely_39 1 (e_M_weighYears a1 (sI σ 13 0 52 0)) 0))) → False))))))
noncomputable def e_M_likely (a1 : Int32) (σ : MSto) : MSto := (if (v_M_areCounted a1 1 6 (sI σ 13 0 52 0)) = 0 then (sI σ 13 0 52 0) else (if (lg_cmp (gJ (e_M_weighYears a1 (sI σ 13 0 52 0)) 13 0 60) 0) = 0 then (e_M_weighYears a1 (sI σ 13 0 52 0)) else (e_M_tellPart (gJ (sI (e_M_weighYears a1 (sI σ 13 0 52 0)) 13 0 51 0) 81 0 (Int32.toNatClampNeg (f_M_likely_39 1 (e_M_weighYears a1 (sI σ 13 0 52 0)) 0 (n_M_likely_39 1 (e_M_weighYears a1 (sI σ 13 0 52 0)) 0)))) (gJ (sI (e_M_weighYears a1 (sI σ 13 0 52 0)) 13 0 51 0) 13 0 60) (sI (e_M_weighYears a1 (sI σ 13 0 52 0)) 13 0 51 0))))
noncomputable def S_M_likely : List MV → MSto → Option Prop × Option MV × MSto := fun as σ => match as with
  | [.inr (.inr (some (13, 0))), .inl a0] => (some (p_M_likely a0 σ), some (mI (v_M_likely a0 σ)), e_M_likely a0 σ)
  | _ => (some False, none, σ)
noncomputable def E_M_likely : MEnt := ((1, 1, 13), (4, 94, 0, 0), S_M_likely, ((⟨"ClothWithManModel", "likely", "(I)I"⟩ : MethodName), prog_14_method_51_code, 4, (some .int)))

def T_M_likely : Nat → Option (Instr × Nat × List Nat) := fun k => bif Nat.blt k 91 then (bif Nat.blt k 43 then (bif Nat.blt k 20 then (bif Nat.blt k 8 then (bif Nat.blt k 5 then (bif Nat.blt k 1 then (bif Nat.beq k 0 then some (.aload_n 0, 1, []) else none) else (bif Nat.blt k 2 then (bif Nat.beq k 1 then some (.iconst 0, 2, []) else none) else (bif Nat.beq k 2 then some (.putfield 161, 5, []) else none))) else (bif Nat.blt k 6 then (bif Nat.beq k 5 then some (.aload_n 0, 6, []) else none) else (bif Nat.blt k 7 then (bif Nat.beq k 6 then some (.iload_n 1, 7, []) else none) else (bif Nat.beq k 7 then some (.iconst 1, 8, []) else none)))) else (bif Nat.blt k 16 then (bif Nat.blt k 10 then (bif Nat.beq k 8 then some (.bipush 6, 10, []) else none) else (bif Nat.blt k 13 then (bif Nat.beq k 10 then some (.invokevirtual 315, 13, []) else none) else (bif Nat.beq k 13 then some (.ifCond .ne 5, 16, [18]) else none))) else (bif Nat.blt k 18 then (bif Nat.blt k 17 then (bif Nat.beq k 16 then some (.iconst (-1), 17, []) else none) else (bif Nat.beq k 17 then some (.ireturn, 18, []) else none)) else (bif Nat.blt k 19 then (bif Nat.beq k 18 then some (.aload_n 0, 19, []) else none) else (bif Nat.beq k 19 then some (.iload_n 1, 20, []) else none))))) else (bif Nat.blt k 34 then (bif Nat.blt k 27 then (bif Nat.blt k 23 then (bif Nat.beq k 20 then some (.invokevirtual 318, 23, []) else none) else (bif Nat.blt k 24 then (bif Nat.beq k 23 then some (.aload_n 0, 24, []) else none) else (bif Nat.beq k 24 then some (.getfield 307, 27, []) else none))) else (bif Nat.blt k 29 then (bif Nat.blt k 28 then (bif Nat.beq k 27 then some (.lconst 0, 28, []) else none) else (bif Nat.beq k 28 then some (.lcmp, 29, []) else none)) else (bif Nat.blt k 32 then (bif Nat.beq k 29 then some (.ifCond .ne 6, 32, [35]) else none) else (bif Nat.beq k 32 then some (.bipush (-2), 34, []) else none)))) else (bif Nat.blt k 37 then (bif Nat.blt k 35 then (bif Nat.beq k 34 then some (.ireturn, 35, []) else none) else (bif Nat.blt k 36 then (bif Nat.beq k 35 then some (.iconst 0, 36, []) else none) else (bif Nat.beq k 36 then some (.istore_n 2, 37, []) else none))) else (bif Nat.blt k 39 then (bif Nat.blt k 38 then (bif Nat.beq k 37 then some (.iconst 1, 38, []) else none) else (bif Nat.beq k 38 then some (.istore_n 3, 39, []) else none)) else (bif Nat.blt k 40 then (bif Nat.beq k 39 then some (.iload_n 3, 40, []) else none) else (bif Nat.beq k 40 then some (.sipush 200, 43, []) else none)))))) else (bif Nat.blt k 67 then (bif Nat.blt k 56 then (bif Nat.blt k 50 then (bif Nat.blt k 46 then (bif Nat.beq k 43 then some (.if_icmp .ge 27, 46, [70]) else none) else (bif Nat.blt k 47 then (bif Nat.beq k 46 then some (.aload_n 0, 47, []) else none) else (bif Nat.beq k 47 then some (.getfield 143, 50, []) else none))) else (bif Nat.blt k 52 then (bif Nat.blt k 51 then (bif Nat.beq k 50 then some (.iload_n 3, 51, []) else none) else (bif Nat.beq k 51 then some (.laload, 52, []) else none)) else (bif Nat.blt k 53 then (bif Nat.beq k 52 then some (.aload_n 0, 53, []) else none) else (bif Nat.beq k 53 then some (.getfield 143, 56, []) else none)))) else (bif Nat.blt k 59 then (bif Nat.blt k 57 then (bif Nat.beq k 56 then some (.iload_n 2, 57, []) else none) else (bif Nat.blt k 58 then (bif Nat.beq k 57 then some (.laload, 58, []) else none) else (bif Nat.beq k 58 then some (.lcmp, 59, []) else none))) else (bif Nat.blt k 63 then (bif Nat.blt k 62 then (bif Nat.beq k 59 then some (.ifCond .le 5, 62, [64]) else none) else (bif Nat.beq k 62 then some (.iload_n 3, 63, []) else none)) else (bif Nat.blt k 64 then (bif Nat.beq k 63 then some (.istore_n 2, 64, []) else none) else (bif Nat.beq k 64 then some (.iinc 3 1, 67, []) else none))))) else (bif Nat.blt k 80 then (bif Nat.blt k 72 then (bif Nat.blt k 70 then (bif Nat.beq k 67 then some (.goto (-28), 70, [39]) else none) else (bif Nat.blt k 71 then (bif Nat.beq k 70 then some (.aload_n 0, 71, []) else none) else (bif Nat.beq k 71 then some (.iconst 0, 72, []) else none))) else (bif Nat.blt k 76 then (bif Nat.blt k 75 then (bif Nat.beq k 72 then some (.putfield 164, 75, []) else none) else (bif Nat.beq k 75 then some (.aload_n 0, 76, []) else none)) else (bif Nat.blt k 77 then (bif Nat.beq k 76 then some (.aload_n 0, 77, []) else none) else (bif Nat.beq k 77 then some (.getfield 143, 80, []) else none)))) else (bif Nat.blt k 83 then (bif Nat.blt k 81 then (bif Nat.beq k 80 then some (.iload_n 2, 81, []) else none) else (bif Nat.blt k 82 then (bif Nat.beq k 81 then some (.laload, 82, []) else none) else (bif Nat.beq k 82 then some (.aload_n 0, 83, []) else none))) else (bif Nat.blt k 89 then (bif Nat.blt k 86 then (bif Nat.beq k 83 then some (.getfield 307, 86, []) else none) else (bif Nat.beq k 86 then some (.invokevirtual 321, 89, []) else none)) else (bif Nat.blt k 90 then (bif Nat.beq k 89 then some (.iload_n 2, 90, []) else none) else (bif Nat.beq k 90 then some (.ireturn, 91, []) else none))))))) else none
noncomputable def P_M_likely : MP := (T_M_likely, (fun k => mLook k [(143, (13, 59, (.array .long), true)), (161, (13, 52, .int, false)), (164, (13, 51, .int, false)), (307, (13, 60, .long, false))]), (fun k => mLook k []), (fun k => mLook k [(315, E_M_areCounted), (318, E_M_weighYears), (321, E_M_tellPart)]), (fun k => mLook k []), (fun k => mLook k []), (fun k => mLook k []), (fun k => mLook k [(39, [true, false, true, true])]), (fun k => [17, 34, 90].any (Nat.beq k)), (4, 94, 0, 0), false, (fun _ => none))
set_option maxRecDepth 100000 in
set_option maxHeartbeats 4000000 in
theorem q_M_likely_e (a1 : Int32) (σ : MSto) (n : Nat) : mexe KT P_M_likely (n + 1) (0, [some (mR 13 0), some (mI a1), none, none], [], σ, 0, 0) = mIf ((v_M_areCounted a1 1 6 (sI σ 13 0 52 0)) = 0) (some (17, [], [(mI (-1))], (sI σ 13 0 52 0), 0, 0)) (mG (p_M_weighYears a1 (sI σ 13 0 52 0)) (mIf ((lg_cmp (gJ (e_M_weighYears a1 (sI σ 13 0 52 0)) 13 0 60) 0) = 0) (some (34, [], [(mI (-2))], (e_M_weighYears a1 (sI σ 13 0 52 0)), 0, 0)) (mexe KT P_M_likely n (39, [some (mR 13 0), none, some (mI 0), some (mI 1)], [], (e_M_weighYears a1 (sI σ 13 0 52 0)), 0, 0)))) := rfl
set_option maxRecDepth 100000 in
set_option maxHeartbeats 4000000 in
theorem q_M_likely_39 (x2 : Int32) (x3 : Int32) (σ : MSto) (n : Nat) : mexe KT P_M_likely (n + 1) (39, [some (mR 13 0), none, some (mI x2), some (mI x3)], [], σ, 0, 0) = mIf (200 ≤ x3) (mG (vp_in x2 200) (mG (p_M_tellPart (gJ (sI σ 13 0 51 0) 81 0 (Int32.toNatClampNeg x2)) (gJ (sI σ 13 0 51 0) 13 0 60) (sI σ 13 0 51 0)) (some (90, [], [(mI x2)], (e_M_tellPart (gJ (sI σ 13 0 51 0) 81 0 (Int32.toNatClampNeg x2)) (gJ (sI σ 13 0 51 0) 13 0 60) (sI σ 13 0 51 0)), 0, 0)))) (mG (vp_in x3 200) (mG (vp_in x2 200) (mIf ((lg_cmp (gJ σ 81 0 (Int32.toNatClampNeg x3)) (gJ σ 81 0 (Int32.toNatClampNeg x2))) ≤ 0) (mexe KT P_M_likely n (39, [some (mR 13 0), none, some (mI x2), some (mI (x3 + 1))], [], σ, 0, 0)) (mexe KT P_M_likely n (39, [some (mR 13 0), none, some (mI x3), some (mI (x3 + 1))], [], σ, 0, 0))))) := rfl
set_option maxRecDepth 100000 in
theorem lt_M_likely_39 {Post : MST → Prop}  (c : Int32) (σ : MSto) (s : Int32) (hp : g_M_likely_39 c σ s) (hq : ¬ q_M_likely_39s c σ s = 1) (hn : ∀ r, t_M_likely_39 c σ s = r → mW1 P_M_likely (39, [some (mR 13 0), none, some (mI r), some (mI (c + 1))], [], σ, 0, 0) Post) : mW1 P_M_likely (39, [some (mR 13 0), none, some (mI s), some (mI c)], [], σ, 0, 0) Post := by
  unfold g_M_likely_39 at hp
  refine mW1_eq (q_M_likely_39 _ _ _) ?_
  refine mTr_if (fun h0 => ?_) (fun h0 => ?_)
  · skip
    exact absurd (if_pos h0) hq
  · skip
    have hp := hp h0
    refine mTr_g hp.1 ?_
    have hp := hp.2
    refine mTr_g hp ?_
    refine mTr_if (fun h1 => ?_) (fun h1 => ?_)
    · skip
      exact mTr_k (hn s ((if_neg h0).trans (if_pos h1)))
    · skip
      exact mTr_k (hn c ((if_neg h0).trans (if_neg h1)))
theorem lp_M_likely_39 {Post : MST → Prop}  (c0 : Int32) (σ : MSto) (s0 : Int32) (N : Nat) (hb : ∀ i, i < N → g_M_likely_39 (c0 + nI i) σ (f_M_likely_39 c0 σ s0 i) ∧ ¬ q_M_likely_39s (c0 + nI i) σ (f_M_likely_39 c0 σ s0 i) = 1) (h : mW1 P_M_likely (39, [some (mR 13 0), none, some (mI (f_M_likely_39 c0 σ s0 N)), some (mI (c0 + nI N))], [], σ, 0, 0) Post) : mW1 P_M_likely (39, [some (mR 13 0), none, some (mI s0), some (mI c0)], [], σ, 0, 0) Post := by
  refine mW1_st (mW1_loop (fun i => (39, [some (mR 13 0), none, some (mI (f_M_likely_39 c0 σ s0 i)), some (mI (c0 + nI i))], [], σ, 0, 0)) N (fun i hlt hn => ?_) h) (by rw [show nI 0 = 0 from rfl, Int32.add_zero] <;> rfl)
  refine lt_M_likely_39 _ σ _ (hb i hlt).1 (hb i hlt).2 (fun r hr => ?_)
  rw [Int32.add_assoc, nI_s]
  subst hr
  exact hn
set_option maxRecDepth 100000 in
set_option maxHeartbeats 4000000 in
theorem d_M_likely (a1 : Int32) (σ : MSto) (hp : p_M_likely a1 σ) : mW1 P_M_likely (0, [some (mR 13 0), some (mI a1), none, none], [], σ, 0, 0) (mF [17, 34, 90] [mI (v_M_likely a1 σ)] (e_M_likely a1 σ) 0 0) := by
  refine mW1_eq (q_M_likely_e _ _) ?_
  unfold p_M_likely at hp
  refine mTr_if (fun h0 => ?_) (fun h0 => ?_)
  · skip
    exact mTr_e (by decide) (congrArg (fun z => [mI z]) (Eq.symm (if_pos h0))) (Eq.symm (if_pos h0)) (by decide) (by decide)
  · skip
    have hp := hp h0
    refine mTr_g hp.1 ?_
    have hp := hp.2
    refine mTr_if (fun h1 => ?_) (fun h1 => ?_)
    · skip
      exact mTr_e (by decide) (congrArg (fun z => [mI z]) (Eq.symm ((if_neg h0).trans (if_pos h1)))) (Eq.symm ((if_neg h0).trans (if_pos h1))) (by decide) (by decide)
    · skip
      have hp := hp h1
      refine mTr_k (lp_M_likely_39 1 (e_M_weighYears a1 (sI σ 13 0 52 0)) 0 (n_M_likely_39 1 (e_M_weighYears a1 (sI σ 13 0 52 0)) 0) hp.1 ?_)
      have hp := hp.2
      refine mW1_eq (q_M_likely_39 _ _ _) ?_
      refine mTr_if (fun h2 => ?_) (fun h2 => ?_)
      · skip
        have hp := hp.1 h2
        refine mTr_g hp.1 ?_
        have hp := hp.2
        refine mTr_g hp ?_
        exact mTr_e (by decide) (congrArg (fun z => [mI z]) (Eq.symm ((if_neg h0).trans (if_neg h1)))) (Eq.symm ((if_neg h0).trans (if_neg h1))) (by decide) (by decide)
      · skip
        have hp := hp.2 h2
        exact hp.elim
theorem li_M_321 : mLink "ClothWithManModel" 321 E_M_tellPart := ⟨tw_7_115, tw_1_9, ⟨by decide, by decide⟩, by decide +kernel, Or.inl tw_7_112, (fun h => by cases h), (fun _ => ⟨tw_7_114, tw_0_65, TX12, 71, rfl⟩), (fun h => by cases h)⟩

theorem li_M_318 : mLink "ClothWithManModel" 318 E_M_weighYears := ⟨tw_7_100, tw_1_9, ⟨by decide, by decide⟩, by decide +kernel, Or.inl tw_7_97, (fun h => by cases h), (fun _ => ⟨tw_7_99, tw_0_62, TX12, 71, rfl⟩), (fun h => by cases h)⟩

theorem li_M_315 : mLink "ClothWithManModel" 315 E_M_areCounted := ⟨tw_7_95, tw_1_9, ⟨by decide, by decide⟩, by decide +kernel, Or.inl tw_7_92, (fun h => by cases h), (fun _ => ⟨tw_7_94, tw_0_61, TX12, 71, rfl⟩), (fun h => by cases h)⟩

theorem tk_M_likely : ∀ pc i nx tg, T_M_likely pc = some (i, nx, tg) → mOkB prog_14_method_51_code pc i nx tg = true := code_ok (N := 91) (fun k h => by unfold T_M_likely; rw [h]; rfl) (by decide +kernel)
theorem ok_M_likely (l : Launch) : mPOK l "ClothWithManModel" prog_14_method_51_code P_M_likely := by
  refine ⟨tk_M_likely, ?_, ?_, ?_, (fun pc i nx tg kd _ h => by cases h), ?_, ?_, fun pc en h => by cases h⟩
  · intro x ci f ty fin h
    exact mLook_all (Q := fun x v => mFOK "ClothWithManModel" x v.1 v.2.1 v.2.2.1 v.2.2.2 ∧ (v.2.2.2 = true → pIni P_M_likely = true → (Cond.fieldLink "ClothWithManModel" x (((mCl[v.1]?).getD ("", fun _ => ("", "", "", false), 0)).2.1 v.2.1).1 (((mCl[v.1]?).getD ("", fun _ => ("", "", "", false), 0)).2.1 v.2.1).2.1 (((mCl[v.1]?).getD ("", fun _ => ("", "", "", false), 0)).2.1 v.2.1).2.2.1 ∈ lw_tbl ∧ (((mCl[v.1]?).getD ("", fun _ => ("", "", "", false), 0)).2.1 v.2.1).1 = "ClothWithManModel"))) (fcC ⟨fo_M_143, fun h1 h2 => by cases h2⟩ (fcC ⟨fo_M_161, fun h1 h2 => by cases h1⟩ (fcC ⟨fo_M_164, fun h1 h2 => by cases h1⟩ (fcC ⟨fo_M_307, fun h1 h2 => by cases h1⟩ fcN)))) x (ci, f, ty, fin) h
  · intro x
    have hh := mLook_all (l := ([] : List (Nat × (Int32 ⊕ Int64)))) (Q := fun x (v : Int32 ⊕ Int64) => (∀ w, v = .inl w → Cond.constant "ClothWithManModel" x w ∈ lw_tbl) ∧ (∀ w, v = .inr w → Cond.constantLong "ClothWithManModel" x w ∈ lw_tbl)) fcN x
    exact ⟨fun w h => (hh _ h).1 w rfl, fun w h => (hh _ h).2 w rfl⟩
  · exact fun x en h => mLook_all (Q := fun x en => mLink "ClothWithManModel" x en ∧ mCtr l en ∧ (en.1.1 = 2 → en.2.2.2.2.2.2 = none)) (fcC ⟨li_M_315, c_M_areCounted l, (fun h => by cases h)⟩ (fcC ⟨li_M_318, c_M_weighYears l, (fun h => by cases h)⟩ (fcC ⟨li_M_321, c_M_tellPart l, (fun h => by cases h)⟩ fcN))) x en h
  · exact fun x kd h => mLook_all (Q := fun x kd => (kd = 95 ∧ Cond.fieldLink "ClothWithManModel" x "ClothWithMan" "LIKENESSES" "[I" ∈ lw_tbl) ∨ (kd = 96 ∧ Cond.fieldLink "ClothWithManModel" x "ClothWithMan" "APART_BOUNDS" "[I" ∈ lw_tbl)) fcN x kd h
  · exact fun x ci h => mLook_all (Q := fun x ci => ci ≠ 0 ∧ ∃ (C : String) (T : u_T) (N : Nat), mCl[ci]? = some (C, T, N) ∧ Cond.classLink "ClothWithManModel" x C ∈ lw_tbl ∧ Cond.instantiable C N ∈ lw_tbl) fcN x ci h
set_option maxRecDepth 100000 in
theorem c_M_likely (l : Launch) : mCtr l E_M_likely := mCtr_of (P := P_M_likely) (own := "ClothWithManModel") mLay_ok rfl (by decide +kernel) rfl (ok_M_likely l) (fun h => by cases h) (fun as σ pr rv σ' hF hpr hlv => by
  unfold E_M_likely S_M_likely at hF
  simp only [] at hF
  split at hF
  · cases hF
    obtain ⟨n, pcF, c1, s1, g1, g2, g3, g4⟩ := mF_inv (d_M_likely _ σ (hpr _ rfl))
    exact ⟨Nat.le_of_ble_eq_true rfl, (fun v h => by cases h; trivial), n, pcF, c1, s1, g1, ⟨mEnd_of (i := .ireturn) (P := P_M_likely) (rets := [17, 34, 90]) rfl g2, rfl⟩, g3, g4⟩
  · cases hF
    exact (hpr _ rfl).elim)
/-! ClothWithManModel.between(III)I -/
noncomputable def t_M_between_60 (x3 : Int32) (c : Int32) (σ : MSto) (s : Int64) : Int64 := (if x3 < c then s else (s + (gJ σ 81 0 (Int32.toNatClampNeg c))))
noncomputable def q_M_between_60s (x3 : Int32) (c : Int32) (σ : MSto) (s : Int64) : Nat := (if x3 < c then 1 else 0)
def g_M_between_60 (x3 : Int32) (c : Int32) (σ : MSto) (s : Int64) : Prop := (¬ (x3 < c) → (vp_in c 200))
noncomputable def f_M_between_60 (x3 : Int32) (c0 : Int32) (σ : MSto) (s0 : Int64) (n : Nat) : Int64 := nfold (fun i s => t_M_between_60 x3 (c0 + nI i) σ s) s0 n
noncomputable def n_M_between_60 (x3 : Int32) (c0 : Int32) (σ : MSto) (s0 : Int64) : Nat := leastN (fun i => q_M_between_60s x3 (c0 + nI i) σ (f_M_between_60 x3 c0 σ s0 i) = 1) 200
noncomputable def v_M_between (a1 : Int32) (a2 : Int32) (a3 : Int32) (σ : MSto) : Int32 := (if (v_M_areCounted a1 1 6 (sI σ 13 0 52 0)) = 0 then (-1) else (if (v_M_isYear a2 (sI σ 13 0 52 0)) = 0 then (-1) else (if (v_M_isYear a3 (sI σ 13 0 52 0)) = 0 then (-1) else (if a2 ≤ a3 then (if (lg_cmp (gJ (e_M_weighYears a1 (sI σ 13 0 52 0)) 13 0 60) 0) = 0 then (-2) else 0) else (-1)))))
def p_M_between (a1 : Int32) (a2 : Int32) (a3 : Int32) (σ : MSto) : Prop := (¬ ((v_M_areCounted a1 1 6 (sI σ 13 0 52 0)) = 0) → (¬ ((v_M_isYear a2 (sI σ 13 0 52 0)) = 0) → (¬ ((v_M_isYear a3 (sI σ 13 0 52 0)) = 0) → ((a2 ≤ a3) → ((p_M_weighYears a1 (sI σ 13 0 52 0)) ∧ (¬ ((lg_cmp (gJ (e_M_weighYears a1 (sI σ 13 0 52 0)) 13 0 60) 0) = 0) → ((∀ i, i < (n_M_between_60 a3 a2 (e_M_weighYears a1 (sI σ 13 0 52 0)) 0) → g_M_between_60 a3 (a2 + nI i) (e_M_weighYears a1 (sI σ 13 0 52 0)) (f_M_between_60 a3 a2 (e_M_weighYears a1 (sI σ 13 0 52 0)) 0 i) ∧ ¬ q_M_between_60s a3 (a2 + nI i) (e_M_weighYears a1 (sI σ 13 0 52 0)) (f_M_between_60 a3 a2 (e_M_weighYears a1 (sI σ 13 0 52 0)) 0 i) = 1) ∧ (((a3 < (a2 + nI (n_M_between_60 a3 a2 (e_M_weighYears a1 (sI σ 13 0 52 0)) 0))) → (p_M_tellPart (f_M_between_60 a3 a2 (e_M_weighYears a1 (sI σ 13 0 52 0)) 0 (n_M_between_60 a3 a2 (e_M_weighYears a1 (sI σ 13 0 52 0)) 0)) (gJ (sI (e_M_weighYears a1 (sI σ 13 0 52 0)) 13 0 51 0) 13 0 60) (sI (e_M_weighYears a1 (sI σ 13 0 52 0)) 13 0 51 0))) ∧ (¬ (a3 < (a2 + nI (n_M_between_60 a3 a2 (e_M_weighYears a1 (sI σ 13 0 52 0)) 0))) → False)))))))))
noncomputable def e_M_between (a1 : Int32) (a2 : Int32) (a3 : Int32) (σ : MSto) : MSto := (if (v_M_areCounted a1 1 6 (sI σ 13 0 52 0)) = 0 then (sI σ 13 0 52 0) else (if (v_M_isYear a2 (sI σ 13 0 52 0)) = 0 then (sI σ 13 0 52 0) else (if (v_M_isYear a3 (sI σ 13 0 52 0)) = 0 then (sI σ 13 0 52 0) else (if a2 ≤ a3 then (if (lg_cmp (gJ (e_M_weighYears a1 (sI σ 13 0 52 0)) 13 0 60) 0) = 0 then (e_M_weighYears a1 (sI σ 13 0 52 0)) else (e_M_tellPart (f_M_between_60 a3 a2 (e_M_weighYears a1 (sI σ 13 0 52 0)) 0 (n_M_between_60 a3 a2 (e_M_weighYears a1 (sI σ 13 0 52 0)) 0)) (gJ (sI (e_M_weighYears a1 (sI σ 13 0 52 0)) 13 0 51 0) 13 0 60) (sI (e_M_weighYears a1 (sI σ 13 0 52 0)) 13 0 51 0))) else (sI σ 13 0 52 0)))))
noncomputable def S_M_between : List MV → MSto → Option Prop × Option MV × MSto := fun as σ => match as with
  | [.inr (.inr (some (13, 0))), .inl a0, .inl a1, .inl a2] => (some (p_M_between a0 a1 a2 σ), some (mI (v_M_between a0 a1 a2 σ)), e_M_between a0 a1 a2 σ)
  | _ => (some False, none, σ)
noncomputable def E_M_between : MEnt := ((1, 3, 13), (4, 94, 0, 0), S_M_between, ((⟨"ClothWithManModel", "between", "(III)I"⟩ : MethodName), prog_14_method_53_code, 7, (some .int)))

def T_M_between : Nat → Option (Instr × Nat × List Nat) := fun k => bif Nat.blt k 101 then (bif Nat.blt k 51 then (bif Nat.blt k 27 then (bif Nat.blt k 10 then (bif Nat.blt k 5 then (bif Nat.blt k 1 then (bif Nat.beq k 0 then some (.aload_n 0, 1, []) else none) else (bif Nat.blt k 2 then (bif Nat.beq k 1 then some (.iconst 0, 2, []) else none) else (bif Nat.beq k 2 then some (.putfield 161, 5, []) else none))) else (bif Nat.blt k 7 then (bif Nat.blt k 6 then (bif Nat.beq k 5 then some (.aload_n 0, 6, []) else none) else (bif Nat.beq k 6 then some (.iload_n 1, 7, []) else none)) else (bif Nat.blt k 8 then (bif Nat.beq k 7 then some (.iconst 1, 8, []) else none) else (bif Nat.beq k 8 then some (.bipush 6, 10, []) else none)))) else (bif Nat.blt k 17 then (bif Nat.blt k 13 then (bif Nat.beq k 10 then some (.invokevirtual 315, 13, []) else none) else (bif Nat.blt k 16 then (bif Nat.beq k 13 then some (.ifCond .eq 22, 16, [35]) else none) else (bif Nat.beq k 16 then some (.iload_n 2, 17, []) else none))) else (bif Nat.blt k 23 then (bif Nat.blt k 20 then (bif Nat.beq k 17 then some (.invokestatic 228, 20, []) else none) else (bif Nat.beq k 20 then some (.ifCond .eq 15, 23, [35]) else none)) else (bif Nat.blt k 24 then (bif Nat.beq k 23 then some (.iload_n 3, 24, []) else none) else (bif Nat.beq k 24 then some (.invokestatic 228, 27, []) else none))))) else (bif Nat.blt k 38 then (bif Nat.blt k 32 then (bif Nat.blt k 30 then (bif Nat.beq k 27 then some (.ifCond .eq 8, 30, [35]) else none) else (bif Nat.blt k 31 then (bif Nat.beq k 30 then some (.iload_n 2, 31, []) else none) else (bif Nat.beq k 31 then some (.iload_n 3, 32, []) else none))) else (bif Nat.blt k 36 then (bif Nat.blt k 35 then (bif Nat.beq k 32 then some (.if_icmp .le 5, 35, [37]) else none) else (bif Nat.beq k 35 then some (.iconst (-1), 36, []) else none)) else (bif Nat.blt k 37 then (bif Nat.beq k 36 then some (.ireturn, 37, []) else none) else (bif Nat.beq k 37 then some (.aload_n 0, 38, []) else none)))) else (bif Nat.blt k 43 then (bif Nat.blt k 39 then (bif Nat.beq k 38 then some (.iload_n 1, 39, []) else none) else (bif Nat.blt k 42 then (bif Nat.beq k 39 then some (.invokevirtual 318, 42, []) else none) else (bif Nat.beq k 42 then some (.aload_n 0, 43, []) else none))) else (bif Nat.blt k 47 then (bif Nat.blt k 46 then (bif Nat.beq k 43 then some (.getfield 307, 46, []) else none) else (bif Nat.beq k 46 then some (.lconst 0, 47, []) else none)) else (bif Nat.blt k 48 then (bif Nat.beq k 47 then some (.lcmp, 48, []) else none) else (bif Nat.beq k 48 then some (.ifCond .ne 6, 51, [54]) else none)))))) else (bif Nat.blt k 75 then (bif Nat.blt k 62 then (bif Nat.blt k 55 then (bif Nat.blt k 53 then (bif Nat.beq k 51 then some (.bipush (-2), 53, []) else none) else (bif Nat.blt k 54 then (bif Nat.beq k 53 then some (.ireturn, 54, []) else none) else (bif Nat.beq k 54 then some (.lconst 0, 55, []) else none))) else (bif Nat.blt k 58 then (bif Nat.blt k 57 then (bif Nat.beq k 55 then some (.lstore 4, 57, []) else none) else (bif Nat.beq k 57 then some (.iload_n 2, 58, []) else none)) else (bif Nat.blt k 60 then (bif Nat.beq k 58 then some (.istore 6, 60, []) else none) else (bif Nat.beq k 60 then some (.iload 6, 62, []) else none)))) else (bif Nat.blt k 68 then (bif Nat.blt k 63 then (bif Nat.beq k 62 then some (.iload_n 3, 63, []) else none) else (bif Nat.blt k 66 then (bif Nat.beq k 63 then some (.if_icmp .gt 21, 66, [84]) else none) else (bif Nat.beq k 66 then some (.lload 4, 68, []) else none))) else (bif Nat.blt k 72 then (bif Nat.blt k 69 then (bif Nat.beq k 68 then some (.aload_n 0, 69, []) else none) else (bif Nat.beq k 69 then some (.getfield 143, 72, []) else none)) else (bif Nat.blt k 74 then (bif Nat.beq k 72 then some (.iload 6, 74, []) else none) else (bif Nat.beq k 74 then some (.laload, 75, []) else none))))) else (bif Nat.blt k 89 then (bif Nat.blt k 81 then (bif Nat.blt k 76 then (bif Nat.beq k 75 then some (.ladd, 76, []) else none) else (bif Nat.blt k 78 then (bif Nat.beq k 76 then some (.lstore 4, 78, []) else none) else (bif Nat.beq k 78 then some (.iinc 6 1, 81, []) else none))) else (bif Nat.blt k 85 then (bif Nat.blt k 84 then (bif Nat.beq k 81 then some (.goto (-21), 84, [60]) else none) else (bif Nat.beq k 84 then some (.aload_n 0, 85, []) else none)) else (bif Nat.blt k 86 then (bif Nat.beq k 85 then some (.iconst 0, 86, []) else none) else (bif Nat.beq k 86 then some (.putfield 164, 89, []) else none)))) else (bif Nat.blt k 93 then (bif Nat.blt k 90 then (bif Nat.beq k 89 then some (.aload_n 0, 90, []) else none) else (bif Nat.blt k 92 then (bif Nat.beq k 90 then some (.lload 4, 92, []) else none) else (bif Nat.beq k 92 then some (.aload_n 0, 93, []) else none))) else (bif Nat.blt k 99 then (bif Nat.blt k 96 then (bif Nat.beq k 93 then some (.getfield 307, 96, []) else none) else (bif Nat.beq k 96 then some (.invokevirtual 321, 99, []) else none)) else (bif Nat.blt k 100 then (bif Nat.beq k 99 then some (.iconst 0, 100, []) else none) else (bif Nat.beq k 100 then some (.ireturn, 101, []) else none))))))) else none
noncomputable def P_M_between : MP := (T_M_between, (fun k => mLook k [(143, (13, 59, (.array .long), true)), (161, (13, 52, .int, false)), (164, (13, 51, .int, false)), (307, (13, 60, .long, false))]), (fun k => mLook k []), (fun k => mLook k [(228, E_M_isYear), (315, E_M_areCounted), (318, E_M_weighYears), (321, E_M_tellPart)]), (fun k => mLook k []), (fun k => mLook k []), (fun k => mLook k []), (fun k => mLook k [(60, [true, false, false, true, true, false, true])]), (fun k => [36, 53, 100].any (Nat.beq k)), (4, 94, 0, 0), false, (fun _ => none))
set_option maxRecDepth 100000 in
set_option maxHeartbeats 4000000 in
theorem q_M_between_e (a1 : Int32) (a2 : Int32) (a3 : Int32) (σ : MSto) (n : Nat) : mexe KT P_M_between (n + 1) (0, [some (mR 13 0), some (mI a1), some (mI a2), some (mI a3), none, none, none], [], σ, 0, 0) = mIf ((v_M_areCounted a1 1 6 (sI σ 13 0 52 0)) = 0) (some (36, [], [(mI (-1))], (sI σ 13 0 52 0), 0, 0)) (mIf ((v_M_isYear a2 (sI σ 13 0 52 0)) = 0) (some (36, [], [(mI (-1))], (sI σ 13 0 52 0), 0, 0)) (mIf ((v_M_isYear a3 (sI σ 13 0 52 0)) = 0) (some (36, [], [(mI (-1))], (sI σ 13 0 52 0), 0, 0)) (mIf (a2 ≤ a3) (mG (p_M_weighYears a1 (sI σ 13 0 52 0)) (mIf ((lg_cmp (gJ (e_M_weighYears a1 (sI σ 13 0 52 0)) 13 0 60) 0) = 0) (some (53, [], [(mI (-2))], (e_M_weighYears a1 (sI σ 13 0 52 0)), 0, 0)) (mexe KT P_M_between n (60, [some (mR 13 0), none, none, some (mI a3), some (mJ 0), none, some (mI a2)], [], (e_M_weighYears a1 (sI σ 13 0 52 0)), 0, 0)))) (some (36, [], [(mI (-1))], (sI σ 13 0 52 0), 0, 0))))) := rfl
set_option maxRecDepth 100000 in
set_option maxHeartbeats 4000000 in
theorem q_M_between_60 (x3 : Int32) (x4 : Int64) (x6 : Int32) (σ : MSto) (n : Nat) : mexe KT P_M_between (n + 1) (60, [some (mR 13 0), none, none, some (mI x3), some (mJ x4), none, some (mI x6)], [], σ, 0, 0) = mIf (x3 < x6) (mG (p_M_tellPart x4 (gJ (sI σ 13 0 51 0) 13 0 60) (sI σ 13 0 51 0)) (some (100, [], [(mI 0)], (e_M_tellPart x4 (gJ (sI σ 13 0 51 0) 13 0 60) (sI σ 13 0 51 0)), 0, 0))) (mG (vp_in x6 200) (mexe KT P_M_between n (60, [some (mR 13 0), none, none, some (mI x3), some (mJ (x4 + (gJ σ 81 0 (Int32.toNatClampNeg x6)))), none, some (mI (x6 + 1))], [], σ, 0, 0))) := rfl
set_option maxRecDepth 100000 in
theorem lt_M_between_60 {Post : MST → Prop} (x3 : Int32) (c : Int32) (σ : MSto) (s : Int64) (hp : g_M_between_60 x3 c σ s) (hq : ¬ q_M_between_60s x3 c σ s = 1) (hn : ∀ r, t_M_between_60 x3 c σ s = r → mW1 P_M_between (60, [some (mR 13 0), none, none, some (mI x3), some (mJ r), none, some (mI (c + 1))], [], σ, 0, 0) Post) : mW1 P_M_between (60, [some (mR 13 0), none, none, some (mI x3), some (mJ s), none, some (mI c)], [], σ, 0, 0) Post := by
  unfold g_M_between_60 at hp
  refine mW1_eq (q_M_between_60 _ _ _ _) ?_
  refine mTr_if (fun h0 => ?_) (fun h0 => ?_)
  · skip
    exact absurd (if_pos h0) hq
  · skip
    have hp := hp h0
    refine mTr_g hp ?_
    exact mTr_k (hn (s + (gJ σ 81 0 (Int32.toNatClampNeg c))) (if_neg h0))
theorem lp_M_between_60 {Post : MST → Prop} (x3 : Int32) (c0 : Int32) (σ : MSto) (s0 : Int64) (N : Nat) (hb : ∀ i, i < N → g_M_between_60 x3 (c0 + nI i) σ (f_M_between_60 x3 c0 σ s0 i) ∧ ¬ q_M_between_60s x3 (c0 + nI i) σ (f_M_between_60 x3 c0 σ s0 i) = 1) (h : mW1 P_M_between (60, [some (mR 13 0), none, none, some (mI x3), some (mJ (f_M_between_60 x3 c0 σ s0 N)), none, some (mI (c0 + nI N))], [], σ, 0, 0) Post) : mW1 P_M_between (60, [some (mR 13 0), none, none, some (mI x3), some (mJ s0), none, some (mI c0)], [], σ, 0, 0) Post := by
  refine mW1_st (mW1_loop (fun i => (60, [some (mR 13 0), none, none, some (mI x3), some (mJ (f_M_between_60 x3 c0 σ s0 i)), none, some (mI (c0 + nI i))], [], σ, 0, 0)) N (fun i hlt hn => ?_) h) (by rw [show nI 0 = 0 from rfl, Int32.add_zero] <;> rfl)
  refine lt_M_between_60 x3 _ σ _ (hb i hlt).1 (hb i hlt).2 (fun r hr => ?_)
  rw [Int32.add_assoc, nI_s]
  subst hr
  exact hn
set_option maxRecDepth 100000 in
set_option maxHeartbeats 4000000 in
theorem d_M_between (a1 : Int32) (a2 : Int32) (a3 : Int32) (σ : MSto) (hp : p_M_between a1 a2 a3 σ) : mW1 P_M_between (0, [some (mR 13 0), some (mI a1), some (mI a2), some (mI a3), none, none, none], [], σ, 0, 0) (mF [36, 53, 100] [mI (v_M_between a1 a2 a3 σ)] (e_M_between a1 a2 a3 σ) 0 0) := by
  refine mW1_eq (q_M_between_e _ _ _ _) ?_
  unfold p_M_between at hp
  refine mTr_if (fun h0 => ?_) (fun h0 => ?_)
  · skip
    exact mTr_e (by decide) (congrArg (fun z => [mI z]) (Eq.symm (if_pos h0))) (Eq.symm (if_pos h0)) (by decide) (by decide)
  · skip
    have hp := hp h0
    refine mTr_if (fun h1 => ?_) (fun h1 => ?_)
    · skip
      exact mTr_e (by decide) (congrArg (fun z => [mI z]) (Eq.symm ((if_neg h0).trans (if_pos h1)))) (Eq.symm ((if_neg h0).trans (if_pos h1))) (by decide) (by decide)
    · skip
      have hp := hp h1
      refine mTr_if (fun h2 => ?_) (fun h2 => ?_)
      · skip
        exact mTr_e (by decide) (congrArg (fun z => [mI z]) (Eq.symm ((if_neg h0).trans ((if_neg h1).trans (if_pos h2))))) (Eq.symm ((if_neg h0).trans ((if_neg h1).trans (if_pos h2)))) (by decide) (by decide)
      · skip
        have hp := hp h2
        refine mTr_if (fun h3 => ?_) (fun h3 => ?_)
        · skip
          have hp := hp h3
          refine mTr_g hp.1 ?_
          have hp := hp.2
          refine mTr_if (fun h4 => ?_) (fun h4 => ?_)
          · skip
            exact mTr_e (by decide) (congrArg (fun z => [mI z]) (Eq.symm ((if_neg h0).trans ((if_neg h1).trans ((if_neg h2).trans ((if_pos h3).trans (if_pos h4))))))) (Eq.symm ((if_neg h0).trans ((if_neg h1).trans ((if_neg h2).trans ((if_pos h3).trans (if_pos h4)))))) (by decide) (by decide)
          · skip
            have hp := hp h4
            refine mTr_k (lp_M_between_60 a3 a2 (e_M_weighYears a1 (sI σ 13 0 52 0)) 0 (n_M_between_60 a3 a2 (e_M_weighYears a1 (sI σ 13 0 52 0)) 0) hp.1 ?_)
            have hp := hp.2
            refine mW1_eq (q_M_between_60 _ _ _ _) ?_
            refine mTr_if (fun h5 => ?_) (fun h5 => ?_)
            · skip
              have hp := hp.1 h5
              refine mTr_g hp ?_
              exact mTr_e (by decide) (congrArg (fun z => [mI z]) (Eq.symm ((if_neg h0).trans ((if_neg h1).trans ((if_neg h2).trans ((if_pos h3).trans (if_neg h4))))))) (Eq.symm ((if_neg h0).trans ((if_neg h1).trans ((if_neg h2).trans ((if_pos h3).trans (if_neg h4)))))) (by decide) (by decide)
            · skip
              have hp := hp.2 h5
              exact hp.elim
        · skip
          exact mTr_e (by decide) (congrArg (fun z => [mI z]) (Eq.symm ((if_neg h0).trans ((if_neg h1).trans ((if_neg h2).trans (if_neg h3)))))) (Eq.symm ((if_neg h0).trans ((if_neg h1).trans ((if_neg h2).trans (if_neg h3))))) (by decide) (by decide)




theorem tk_M_between : ∀ pc i nx tg, T_M_between pc = some (i, nx, tg) → mOkB prog_14_method_53_code pc i nx tg = true := code_ok (N := 101) (fun k h => by unfold T_M_between; rw [h]; rfl) (by decide +kernel)
theorem ok_M_between (l : Launch) : mPOK l "ClothWithManModel" prog_14_method_53_code P_M_between := by
  refine ⟨tk_M_between, ?_, ?_, ?_, (fun pc i nx tg kd _ h => by cases h), ?_, ?_, fun pc en h => by cases h⟩
  · intro x ci f ty fin h
    exact mLook_all (Q := fun x v => mFOK "ClothWithManModel" x v.1 v.2.1 v.2.2.1 v.2.2.2 ∧ (v.2.2.2 = true → pIni P_M_between = true → (Cond.fieldLink "ClothWithManModel" x (((mCl[v.1]?).getD ("", fun _ => ("", "", "", false), 0)).2.1 v.2.1).1 (((mCl[v.1]?).getD ("", fun _ => ("", "", "", false), 0)).2.1 v.2.1).2.1 (((mCl[v.1]?).getD ("", fun _ => ("", "", "", false), 0)).2.1 v.2.1).2.2.1 ∈ lw_tbl ∧ (((mCl[v.1]?).getD ("", fun _ => ("", "", "", false), 0)).2.1 v.2.1).1 = "ClothWithManModel"))) (fcC ⟨fo_M_143, fun h1 h2 => by cases h2⟩ (fcC ⟨fo_M_161, fun h1 h2 => by cases h1⟩ (fcC ⟨fo_M_164, fun h1 h2 => by cases h1⟩ (fcC ⟨fo_M_307, fun h1 h2 => by cases h1⟩ fcN)))) x (ci, f, ty, fin) h
  · intro x
    have hh := mLook_all (l := ([] : List (Nat × (Int32 ⊕ Int64)))) (Q := fun x (v : Int32 ⊕ Int64) => (∀ w, v = .inl w → Cond.constant "ClothWithManModel" x w ∈ lw_tbl) ∧ (∀ w, v = .inr w → Cond.constantLong "ClothWithManModel" x w ∈ lw_tbl)) fcN x
    exact ⟨fun w h => (hh _ h).1 w rfl, fun w h => (hh _ h).2 w rfl⟩
  · exact fun x en h => mLook_all (Q := fun x en => mLink "ClothWithManModel" x en ∧ mCtr l en ∧ (en.1.1 = 2 → en.2.2.2.2.2.2 = none)) (fcC ⟨li_M_228, c_M_isYear l, (fun h => by cases h)⟩ (fcC ⟨li_M_315, c_M_areCounted l, (fun h => by cases h)⟩ (fcC ⟨li_M_318, c_M_weighYears l, (fun h => by cases h)⟩ (fcC ⟨li_M_321, c_M_tellPart l, (fun h => by cases h)⟩ fcN)))) x en h
  · exact fun x kd h => mLook_all (Q := fun x kd => (kd = 95 ∧ Cond.fieldLink "ClothWithManModel" x "ClothWithMan" "LIKENESSES" "[I" ∈ lw_tbl) ∨ (kd = 96 ∧ Cond.fieldLink "ClothWithManModel" x "ClothWithMan" "APART_BOUNDS" "[I" ∈ lw_tbl)) fcN x kd h
  · exact fun x ci h => mLook_all (Q := fun x ci => ci ≠ 0 ∧ ∃ (C : String) (T : u_T) (N : Nat), mCl[ci]? = some (C, T, N) ∧ Cond.classLink "ClothWithManModel" x C ∈ lw_tbl ∧ Cond.instantiable C N ∈ lw_tbl) fcN x ci h
set_option maxRecDepth 100000 in
theorem c_M_between (l : Launch) : mCtr l E_M_between := mCtr_of (P := P_M_between) (own := "ClothWithManModel") mLay_ok rfl (by decide +kernel) rfl (ok_M_between l) (fun h => by cases h) (fun as σ pr rv σ' hF hpr hlv => by
  unfold E_M_between S_M_between at hF
  simp only [] at hF
  split at hF
  · cases hF
    obtain ⟨n, pcF, c1, s1, g1, g2, g3, g4⟩ := mF_inv (d_M_between _ _ _ σ (hpr _ rfl))
    exact ⟨Nat.le_of_ble_eq_true rfl, (fun v h => by cases h; trivial), n, pcF, c1, s1, g1, ⟨mEnd_of (i := .ireturn) (P := P_M_between) (rets := [36, 53, 100]) rfl g2, rfl⟩, g3, g4⟩
  · cases hF
    exact (hpr _ rfl).elim)
/-! ClothWithManModel.sheet(IIII)I -/
noncomputable def tj_M_sheet_43j73 (x1 : Int32) (x2 : Int32) (x4 : Int32) (x5 : Int32) (x6 : Int32) (x7 : Int32) (y0 : Int32) (σ : MSto) (s : Int32 × Int32 × MSto) : Int32 × Int32 × MSto := (if x1 = 3 then ((x5 + (gI (sI σ 46 0 (Int32.toNatClampNeg x7) 20) 46 0 (Int32.toNatClampNeg x7))), (x6 + x4), (sI σ 46 0 (Int32.toNatClampNeg x7) 20)) else (if x7 < x2 then ((x5 + (gI (sI σ 46 0 (Int32.toNatClampNeg x7) (v_Ma_max 1 (v_Ma_min 60 y0 σ) σ)) 46 0 (Int32.toNatClampNeg x7))), (x6 + x4), (sI σ 46 0 (Int32.toNatClampNeg x7) (v_Ma_max 1 (v_Ma_min 60 y0 σ) σ))) else ((x5 + (gI (sI σ 46 0 (Int32.toNatClampNeg x7) 20) 46 0 (Int32.toNatClampNeg x7))), (x6 + x4), (sI σ 46 0 (Int32.toNatClampNeg x7) 20))))
noncomputable def qj_M_sheet_43j73 (x1 : Int32) (x2 : Int32) (x4 : Int32) (x5 : Int32) (x6 : Int32) (x7 : Int32) (y0 : Int32) (σ : MSto) : Nat := 0
def gj_M_sheet_43j73 (x1 : Int32) (x2 : Int32) (x4 : Int32) (x5 : Int32) (x6 : Int32) (x7 : Int32) (y0 : Int32) (σ : MSto) : Prop := (((x1 = 3) → ((vp_in x7 6) ∧ (vp_in x7 6))) ∧ (¬ (x1 = 3) → (((x7 < x2) → ((vp_in x7 6) ∧ (vp_in x7 6))) ∧ (¬ (x7 < x2) → ((vp_in x7 6) ∧ (vp_in x7 6))))))
noncomputable def t_M_sheet_43 (x1 : Int32) (x2 : Int32) (x4 : Int32) (c : Int32) (s : Int32 × Int32 × MSto) : Int32 × Int32 × MSto := (if 6 ≤ c then s else (if x1 = 0 then (tj_M_sheet_43j73 x1 x2 x4 (s.1) (s.2.1) c (Int8.toInt32 (Int32.toInt8 (s.2.1))) (s.2.2) s) else (if x1 = 1 then (tj_M_sheet_43j73 x1 x2 x4 (s.1) (s.2.1) c (Int16.toInt32 (Int32.toInt16 (s.2.1))) (s.2.2) s) else (tj_M_sheet_43j73 x1 x2 x4 (s.1) (s.2.1) c (s.2.1) (s.2.2) s))))
noncomputable def q_M_sheet_43s (x1 : Int32) (x2 : Int32) (x4 : Int32) (c : Int32) (s : Int32 × Int32 × MSto) : Nat := (if 6 ≤ c then 1 else 0)
def g_M_sheet_43 (x1 : Int32) (x2 : Int32) (x4 : Int32) (c : Int32) (s : Int32 × Int32 × MSto) : Prop := (¬ (6 ≤ c) → (((x1 = 0) → (gj_M_sheet_43j73 x1 x2 x4 (s.1) (s.2.1) c (Int8.toInt32 (Int32.toInt8 (s.2.1))) (s.2.2))) ∧ (¬ (x1 = 0) → (((x1 = 1) → (gj_M_sheet_43j73 x1 x2 x4 (s.1) (s.2.1) c (Int16.toInt32 (Int32.toInt16 (s.2.1))) (s.2.2))) ∧ (¬ (x1 = 1) → (gj_M_sheet_43j73 x1 x2 x4 (s.1) (s.2.1) c (s.2.1) (s.2.2)))))))
noncomputable def f_M_sheet_43 (x1 : Int32) (x2 : Int32) (x4 : Int32) (c0 : Int32) (s0 : Int32 × Int32 × MSto) (n : Nat) : Int32 × Int32 × MSto := nfold (fun i s => t_M_sheet_43 x1 x2 x4 (c0 + nI i) s) s0 n
noncomputable def n_M_sheet_43 (x1 : Int32) (x2 : Int32) (x4 : Int32) (c0 : Int32) (s0 : Int32 × Int32 × MSto) : Nat := 6
noncomputable def v_M_sheet (a1 : Int32) (a2 : Int32) (a3 : Int32) (a4 : Int32) (σ : MSto) : Int32 := (if (v_M_in a1 0 3 (sI σ 13 0 52 0)) = 0 then (-1) else (if a2 ≤ 6 then (if 3 ≤ a1 then (if a1 = 3 then (-3) else ((f_M_sheet_43 a1 a2 a4 0 (0, a3, (sI σ 13 0 52 0)) (n_M_sheet_43 a1 a2 a4 0 (0, a3, (sI σ 13 0 52 0)))).1)) else (if 0 ≤ a2 then (if a1 = 3 then (-3) else ((f_M_sheet_43 a1 a2 a4 0 (0, a3, (sI σ 13 0 52 0)) (n_M_sheet_43 a1 a2 a4 0 (0, a3, (sI σ 13 0 52 0)))).1)) else (-2))) else (-1)))
def p_M_sheet (a1 : Int32) (a2 : Int32) (a3 : Int32) (a4 : Int32) (σ : MSto) : Prop := (¬ ((v_M_in a1 0 3 (sI σ 13 0 52 0)) = 0) → ((a2 ≤ 6) → (((3 ≤ a1) → ((∀ i, i < (n_M_sheet_43 a1 a2 a4 0 (0, a3, (sI σ 13 0 52 0))) → g_M_sheet_43 a1 a2 a4 (0 + nI i) (f_M_sheet_43 a1 a2 a4 0 (0, a3, (sI σ 13 0 52 0)) i) ∧ ¬ q_M_sheet_43s a1 a2 a4 (0 + nI i) (f_M_sheet_43 a1 a2 a4 0 (0, a3, (sI σ 13 0 52 0)) i) = 1) ∧ (¬ (6 ≤ (0 + nI (n_M_sheet_43 a1 a2 a4 0 (0, a3, (sI σ 13 0 52 0))))) → False))) ∧ (¬ (3 ≤ a1) → ((0 ≤ a2) → ((∀ i, i < (n_M_sheet_43 a1 a2 a4 0 (0, a3, (sI σ 13 0 52 0))) → g_M_sheet_43 a1 a2 a4 (0 + nI i) (f_M_sheet_43 a1 a2 a4 0 (0, a3, (sI σ 13 0 52 0)) i) ∧ ¬ q_M_sheet_43s a1 a2 a4 (0 + nI i) (f_M_sheet_43 a1 a2 a4 0 (0, a3, (sI σ 13 0 52 0)) i) = 1) ∧ (¬ (6 ≤ (0 + nI (n_M_sheet_43 a1 a2 a4 0 (0, a3, (sI σ 13 0 52 0))))) → False)))))))
noncomputable def e_M_sheet (a1 : Int32) (a2 : Int32) (a3 : Int32) (a4 : Int32) (σ : MSto) : MSto := (if (v_M_in a1 0 3 (sI σ 13 0 52 0)) = 0 then (sI σ 13 0 52 0) else (if a2 ≤ 6 then (if 3 ≤ a1 then ((f_M_sheet_43 a1 a2 a4 0 (0, a3, (sI σ 13 0 52 0)) (n_M_sheet_43 a1 a2 a4 0 (0, a3, (sI σ 13 0 52 0)))).2.2) else (if 0 ≤ a2 then ((f_M_sheet_43 a1 a2 a4 0 (0, a3, (sI σ 13 0 52 0)) (n_M_sheet_43 a1 a2 a4 0 (0, a3, (sI σ 13 0 52 0)))).2.2) else (sI σ 13 0 52 0))) else (sI σ 13 0 52 0)))
noncomputable def S_M_sheet : List MV → MSto → Option Prop × Option MV × MSto := fun as σ => match as with
  | [.inr (.inr (some (13, 0))), .inl a0, .inl a1, .inl a2, .inl a3] => (some (p_M_sheet a0 a1 a2 a3 σ), some (mI (v_M_sheet a0 a1 a2 a3 σ)), e_M_sheet a0 a1 a2 a3 σ)
  | _ => (some False, none, σ)
noncomputable def E_M_sheet : MEnt := ((1, 4, 13), (1, 22, 0, 0), S_M_sheet, ((⟨"ClothWithManModel", "sheet", "(IIII)I"⟩ : MethodName), prog_14_method_29_code, 9, (some .int)))

def T_M_sheet : Nat → Option (Instr × Nat × List Nat) := fun k => bif Nat.blt k 147 then (bif Nat.blt k 68 then (bif Nat.blt k 33 then (bif Nat.blt k 15 then (bif Nat.blt k 6 then (bif Nat.blt k 2 then (bif Nat.blt k 1 then (bif Nat.beq k 0 then some (.aload_n 0, 1, []) else none) else (bif Nat.beq k 1 then some (.iconst 0, 2, []) else none)) else (bif Nat.blt k 5 then (bif Nat.beq k 2 then some (.putfield 161, 5, []) else none) else (bif Nat.beq k 5 then some (.iload_n 1, 6, []) else none))) else (bif Nat.blt k 8 then (bif Nat.blt k 7 then (bif Nat.beq k 6 then some (.iconst 0, 7, []) else none) else (bif Nat.beq k 7 then some (.iconst 3, 8, []) else none)) else (bif Nat.blt k 11 then (bif Nat.beq k 8 then some (.invokestatic 181, 11, []) else none) else (bif Nat.blt k 14 then (bif Nat.beq k 11 then some (.ifCond .eq 9, 14, [20]) else none) else (bif Nat.beq k 14 then some (.iload_n 2, 15, []) else none))))) else (bif Nat.blt k 23 then (bif Nat.blt k 20 then (bif Nat.blt k 17 then (bif Nat.beq k 15 then some (.bipush 6, 17, []) else none) else (bif Nat.beq k 17 then some (.if_icmp .le 5, 20, [22]) else none)) else (bif Nat.blt k 21 then (bif Nat.beq k 20 then some (.iconst (-1), 21, []) else none) else (bif Nat.blt k 22 then (bif Nat.beq k 21 then some (.ireturn, 22, []) else none) else (bif Nat.beq k 22 then some (.iload_n 1, 23, []) else none)))) else (bif Nat.blt k 27 then (bif Nat.blt k 24 then (bif Nat.beq k 23 then some (.iconst 3, 24, []) else none) else (bif Nat.beq k 24 then some (.if_icmp .ge 10, 27, [34]) else none)) else (bif Nat.blt k 28 then (bif Nat.beq k 27 then some (.iload_n 2, 28, []) else none) else (bif Nat.blt k 31 then (bif Nat.beq k 28 then some (.ifCond .ge 6, 31, [34]) else none) else (bif Nat.beq k 31 then some (.bipush (-2), 33, []) else none)))))) else (bif Nat.blt k 50 then (bif Nat.blt k 40 then (bif Nat.blt k 35 then (bif Nat.blt k 34 then (bif Nat.beq k 33 then some (.ireturn, 34, []) else none) else (bif Nat.beq k 34 then some (.iconst 0, 35, []) else none)) else (bif Nat.blt k 37 then (bif Nat.beq k 35 then some (.istore 5, 37, []) else none) else (bif Nat.blt k 38 then (bif Nat.beq k 37 then some (.iload_n 3, 38, []) else none) else (bif Nat.beq k 38 then some (.istore 6, 40, []) else none)))) else (bif Nat.blt k 43 then (bif Nat.blt k 41 then (bif Nat.beq k 40 then some (.iconst 0, 41, []) else none) else (bif Nat.beq k 41 then some (.istore 7, 43, []) else none)) else (bif Nat.blt k 45 then (bif Nat.beq k 43 then some (.iload 7, 45, []) else none) else (bif Nat.blt k 47 then (bif Nat.beq k 45 then some (.bipush 6, 47, []) else none) else (bif Nat.beq k 47 then some (.if_icmp .ge 87, 50, [134]) else none))))) else (bif Nat.blt k 60 then (bif Nat.blt k 54 then (bif Nat.blt k 51 then (bif Nat.beq k 50 then some (.iload_n 1, 51, []) else none) else (bif Nat.beq k 51 then some (.ifCond .ne 9, 54, [60]) else none)) else (bif Nat.blt k 56 then (bif Nat.beq k 54 then some (.iload 6, 56, []) else none) else (bif Nat.blt k 57 then (bif Nat.beq k 56 then some (.i2b, 57, []) else none) else (bif Nat.beq k 57 then some (.goto 16, 60, [73]) else none)))) else (bif Nat.blt k 62 then (bif Nat.blt k 61 then (bif Nat.beq k 60 then some (.iload_n 1, 61, []) else none) else (bif Nat.beq k 61 then some (.iconst 1, 62, []) else none)) else (bif Nat.blt k 65 then (bif Nat.beq k 62 then some (.if_icmp .ne 9, 65, [71]) else none) else (bif Nat.blt k 67 then (bif Nat.beq k 65 then some (.iload 6, 67, []) else none) else (bif Nat.beq k 67 then some (.i2s, 68, []) else none))))))) else (bif Nat.blt k 109 then (bif Nat.blt k 88 then (bif Nat.blt k 79 then (bif Nat.blt k 73 then (bif Nat.blt k 71 then (bif Nat.beq k 68 then some (.goto 5, 71, [73]) else none) else (bif Nat.beq k 71 then some (.iload 6, 73, []) else none)) else (bif Nat.blt k 75 then (bif Nat.beq k 73 then some (.istore 8, 75, []) else none) else (bif Nat.blt k 76 then (bif Nat.beq k 75 then some (.aload_n 0, 76, []) else none) else (bif Nat.beq k 76 then some (.getfield 32, 79, []) else none)))) else (bif Nat.blt k 82 then (bif Nat.blt k 81 then (bif Nat.beq k 79 then some (.iload 7, 81, []) else none) else (bif Nat.beq k 81 then some (.iload_n 1, 82, []) else none)) else (bif Nat.blt k 83 then (bif Nat.beq k 82 then some (.iconst 3, 83, []) else none) else (bif Nat.blt k 86 then (bif Nat.beq k 83 then some (.if_icmp .eq 9, 86, [92]) else none) else (bif Nat.beq k 86 then some (.iload 7, 88, []) else none))))) else (bif Nat.blt k 98 then (bif Nat.blt k 92 then (bif Nat.blt k 89 then (bif Nat.beq k 88 then some (.iload_n 2, 89, []) else none) else (bif Nat.beq k 89 then some (.if_icmp .lt 8, 92, [97]) else none)) else (bif Nat.blt k 94 then (bif Nat.beq k 92 then some (.bipush 20, 94, []) else none) else (bif Nat.blt k 97 then (bif Nat.beq k 94 then some (.goto 14, 97, [108]) else none) else (bif Nat.beq k 97 then some (.iconst 1, 98, []) else none)))) else (bif Nat.blt k 102 then (bif Nat.blt k 100 then (bif Nat.beq k 98 then some (.bipush 60, 100, []) else none) else (bif Nat.beq k 100 then some (.iload 8, 102, []) else none)) else (bif Nat.blt k 105 then (bif Nat.beq k 102 then some (.invokestatic 246, 105, []) else none) else (bif Nat.blt k 108 then (bif Nat.beq k 105 then some (.invokestatic 249, 108, []) else none) else (bif Nat.beq k 108 then some (.iastore, 109, []) else none)))))) else (bif Nat.blt k 126 then (bif Nat.blt k 118 then (bif Nat.blt k 112 then (bif Nat.blt k 111 then (bif Nat.beq k 109 then some (.iload 5, 111, []) else none) else (bif Nat.beq k 111 then some (.aload_n 0, 112, []) else none)) else (bif Nat.blt k 115 then (bif Nat.beq k 112 then some (.getfield 32, 115, []) else none) else (bif Nat.blt k 117 then (bif Nat.beq k 115 then some (.iload 7, 117, []) else none) else (bif Nat.beq k 117 then some (.iaload, 118, []) else none)))) else (bif Nat.blt k 121 then (bif Nat.blt k 119 then (bif Nat.beq k 118 then some (.iadd, 119, []) else none) else (bif Nat.beq k 119 then some (.istore 5, 121, []) else none)) else (bif Nat.blt k 123 then (bif Nat.beq k 121 then some (.iload 6, 123, []) else none) else (bif Nat.blt k 125 then (bif Nat.beq k 123 then some (.iload 4, 125, []) else none) else (bif Nat.beq k 125 then some (.iadd, 126, []) else none))))) else (bif Nat.blt k 136 then (bif Nat.blt k 131 then (bif Nat.blt k 128 then (bif Nat.beq k 126 then some (.istore 6, 128, []) else none) else (bif Nat.beq k 128 then some (.iinc 7 1, 131, []) else none)) else (bif Nat.blt k 134 then (bif Nat.beq k 131 then some (.goto (-88), 134, [43]) else none) else (bif Nat.blt k 135 then (bif Nat.beq k 134 then some (.iload_n 1, 135, []) else none) else (bif Nat.beq k 135 then some (.iconst 3, 136, []) else none)))) else (bif Nat.blt k 141 then (bif Nat.blt k 139 then (bif Nat.beq k 136 then some (.if_icmp .ne 8, 139, [144]) else none) else (bif Nat.beq k 139 then some (.bipush (-3), 141, []) else none)) else (bif Nat.blt k 144 then (bif Nat.beq k 141 then some (.goto 5, 144, [146]) else none) else (bif Nat.blt k 146 then (bif Nat.beq k 144 then some (.iload 5, 146, []) else none) else (bif Nat.beq k 146 then some (.ireturn, 147, []) else none)))))))) else none
noncomputable def P_M_sheet : MP := (T_M_sheet, (fun k => mLook k [(32, (13, 9, (.array .int), true)), (161, (13, 52, .int, false))]), (fun k => mLook k []), (fun k => mLook k [(181, E_M_in), (246, E_Ma_min), (249, E_Ma_max)]), (fun k => mLook k []), (fun k => mLook k []), (fun k => mLook k []), (fun k => mLook k [(43, [true, true, true, false, true, true, true, true, false]), (73, [true, true, true, false, true, true, true, true, false])]), (fun k => [21, 33, 146].any (Nat.beq k)), (1, 22, 0, 0), false, (fun _ => none))
set_option maxRecDepth 100000 in
set_option maxHeartbeats 4000000 in
theorem q_M_sheet_e (a1 : Int32) (a2 : Int32) (a3 : Int32) (a4 : Int32) (σ : MSto) (n : Nat) : mexe KT P_M_sheet (n + 1) (0, [some (mR 13 0), some (mI a1), some (mI a2), some (mI a3), some (mI a4), none, none, none, none], [], σ, 0, 0) = mIf ((v_M_in a1 0 3 (sI σ 13 0 52 0)) = 0) (some (21, [], [(mI (-1))], (sI σ 13 0 52 0), 0, 0)) (mIf (a2 ≤ 6) (mIf (3 ≤ a1) (mexe KT P_M_sheet n (43, [some (mR 13 0), some (mI a1), some (mI a2), none, some (mI a4), some (mI 0), some (mI a3), some (mI 0), none], [], (sI σ 13 0 52 0), 0, 0)) (mIf (0 ≤ a2) (mexe KT P_M_sheet n (43, [some (mR 13 0), some (mI a1), some (mI a2), none, some (mI a4), some (mI 0), some (mI a3), some (mI 0), none], [], (sI σ 13 0 52 0), 0, 0)) (some (33, [], [(mI (-2))], (sI σ 13 0 52 0), 0, 0)))) (some (21, [], [(mI (-1))], (sI σ 13 0 52 0), 0, 0))) := rfl
set_option maxRecDepth 100000 in
set_option maxHeartbeats 4000000 in
theorem q_M_sheet_43 (x1 : Int32) (x2 : Int32) (x4 : Int32) (x5 : Int32) (x6 : Int32) (x7 : Int32) (σ : MSto) (n : Nat) : mexe KT P_M_sheet (n + 1) (43, [some (mR 13 0), some (mI x1), some (mI x2), none, some (mI x4), some (mI x5), some (mI x6), some (mI x7), none], [], σ, 0, 0) = mIf (6 ≤ x7) (mIf (x1 = 3) (some (146, [], [(mI (-3))], σ, 0, 0)) (some (146, [], [(mI x5)], σ, 0, 0))) (mIf (x1 = 0) (mexe KT P_M_sheet n (73, [some (mR 13 0), some (mI x1), some (mI x2), none, some (mI x4), some (mI x5), some (mI x6), some (mI x7), none], [(mI (Int8.toInt32 (Int32.toInt8 x6)))], σ, 0, 0)) (mIf (x1 = 1) (mexe KT P_M_sheet n (73, [some (mR 13 0), some (mI x1), some (mI x2), none, some (mI x4), some (mI x5), some (mI x6), some (mI x7), none], [(mI (Int16.toInt32 (Int32.toInt16 x6)))], σ, 0, 0)) (mexe KT P_M_sheet n (73, [some (mR 13 0), some (mI x1), some (mI x2), none, some (mI x4), some (mI x5), some (mI x6), some (mI x7), none], [(mI x6)], σ, 0, 0)))) := rfl
set_option maxRecDepth 100000 in
set_option maxHeartbeats 4000000 in
theorem q_M_sheet_73 (x1 : Int32) (x2 : Int32) (x4 : Int32) (x5 : Int32) (x6 : Int32) (x7 : Int32) (y0 : Int32) (σ : MSto) (n : Nat) : mexe KT P_M_sheet (n + 1) (73, [some (mR 13 0), some (mI x1), some (mI x2), none, some (mI x4), some (mI x5), some (mI x6), some (mI x7), none], [(mI y0)], σ, 0, 0) = mIf (x1 = 3) (mG (vp_in x7 6) (mG (vp_in x7 6) (mexe KT P_M_sheet n (43, [some (mR 13 0), some (mI x1), some (mI x2), none, some (mI x4), some (mI (x5 + (gI (sI σ 46 0 (Int32.toNatClampNeg x7) 20) 46 0 (Int32.toNatClampNeg x7)))), some (mI (x6 + x4)), some (mI (x7 + 1)), none], [], (sI σ 46 0 (Int32.toNatClampNeg x7) 20), 0, 0)))) (mIf (x7 < x2) (mG (vp_in x7 6) (mG (vp_in x7 6) (mexe KT P_M_sheet n (43, [some (mR 13 0), some (mI x1), some (mI x2), none, some (mI x4), some (mI (x5 + (gI (sI σ 46 0 (Int32.toNatClampNeg x7) (v_Ma_max 1 (v_Ma_min 60 y0 σ) σ)) 46 0 (Int32.toNatClampNeg x7)))), some (mI (x6 + x4)), some (mI (x7 + 1)), none], [], (sI σ 46 0 (Int32.toNatClampNeg x7) (v_Ma_max 1 (v_Ma_min 60 y0 σ) σ)), 0, 0)))) (mG (vp_in x7 6) (mG (vp_in x7 6) (mexe KT P_M_sheet n (43, [some (mR 13 0), some (mI x1), some (mI x2), none, some (mI x4), some (mI (x5 + (gI (sI σ 46 0 (Int32.toNatClampNeg x7) 20) 46 0 (Int32.toNatClampNeg x7)))), some (mI (x6 + x4)), some (mI (x7 + 1)), none], [], (sI σ 46 0 (Int32.toNatClampNeg x7) 20), 0, 0))))) := rfl
set_option maxRecDepth 100000 in
theorem lj_M_sheet_43j73 {Post : MST → Prop} (x1 : Int32) (x2 : Int32) (x4 : Int32) (x5 : Int32) (x6 : Int32) (x7 : Int32) (y0 : Int32) (σ : MSto) (s : Int32 × Int32 × MSto) (hp : gj_M_sheet_43j73 x1 x2 x4 x5 x6 x7 y0 σ) (hq : ¬ 0 = 1) (hn : ∀ (r1 : Int32) (r2 : Int32) (r3 : MSto), tj_M_sheet_43j73 x1 x2 x4 x5 x6 x7 y0 σ s = (r1, r2, r3) → mW1 P_M_sheet (43, [some (mR 13 0), some (mI x1), some (mI x2), none, some (mI x4), some (mI r1), some (mI r2), some (mI (x7 + 1)), none], [], r3, 0, 0) Post) : mW1 P_M_sheet (73, [some (mR 13 0), some (mI x1), some (mI x2), none, some (mI x4), some (mI x5), some (mI x6), some (mI x7), none], [(mI y0)], σ, 0, 0) Post := by
  unfold gj_M_sheet_43j73 at hp
  refine mW1_eq (q_M_sheet_73 _ _ _ _ _ _ _ _) ?_
  refine mTr_if (fun h0 => ?_) (fun h0 => ?_)
  · skip
    have hp := hp.1 h0
    refine mTr_g hp.1 ?_
    have hp := hp.2
    refine mTr_g hp ?_
    exact mTr_k (hn (x5 + (gI (sI σ 46 0 (Int32.toNatClampNeg x7) 20) 46 0 (Int32.toNatClampNeg x7))) (x6 + x4) (sI σ 46 0 (Int32.toNatClampNeg x7) 20) (if_pos h0))
  · skip
    have hp := hp.2 h0
    refine mTr_if (fun h1 => ?_) (fun h1 => ?_)
    · skip
      have hp := hp.1 h1
      refine mTr_g hp.1 ?_
      have hp := hp.2
      refine mTr_g hp ?_
      exact mTr_k (hn (x5 + (gI (sI σ 46 0 (Int32.toNatClampNeg x7) (v_Ma_max 1 (v_Ma_min 60 y0 σ) σ)) 46 0 (Int32.toNatClampNeg x7))) (x6 + x4) (sI σ 46 0 (Int32.toNatClampNeg x7) (v_Ma_max 1 (v_Ma_min 60 y0 σ) σ)) ((if_neg h0).trans (if_pos h1)))
    · skip
      have hp := hp.2 h1
      refine mTr_g hp.1 ?_
      have hp := hp.2
      refine mTr_g hp ?_
      exact mTr_k (hn (x5 + (gI (sI σ 46 0 (Int32.toNatClampNeg x7) 20) 46 0 (Int32.toNatClampNeg x7))) (x6 + x4) (sI σ 46 0 (Int32.toNatClampNeg x7) 20) ((if_neg h0).trans (if_neg h1)))
set_option maxRecDepth 100000 in
theorem lt_M_sheet_43 {Post : MST → Prop} (x1 : Int32) (x2 : Int32) (x4 : Int32) (c : Int32) (s : Int32 × Int32 × MSto) (hp : g_M_sheet_43 x1 x2 x4 c s) (hq : ¬ q_M_sheet_43s x1 x2 x4 c s = 1) (hn : ∀ (r1 : Int32) (r2 : Int32) (r3 : MSto), t_M_sheet_43 x1 x2 x4 c s = (r1, r2, r3) → mW1 P_M_sheet (43, [some (mR 13 0), some (mI x1), some (mI x2), none, some (mI x4), some (mI r1), some (mI r2), some (mI (c + 1)), none], [], r3, 0, 0) Post) : mW1 P_M_sheet (43, [some (mR 13 0), some (mI x1), some (mI x2), none, some (mI x4), some (mI (s.1)), some (mI (s.2.1)), some (mI c), none], [], (s.2.2), 0, 0) Post := by
  unfold g_M_sheet_43 at hp
  refine mW1_eq (q_M_sheet_43 _ _ _ _ _ _ _) ?_
  refine mTr_if (fun h0 => ?_) (fun h0 => ?_)
  · skip
    exact absurd (if_pos h0) hq
  · skip
    have hp := hp h0
    refine mTr_if (fun h1 => ?_) (fun h1 => ?_)
    · skip
      have hp := hp.1 h1
      exact mTr_k (lj_M_sheet_43j73 x1 x2 x4 (s.1) (s.2.1) c (Int8.toInt32 (Int32.toInt8 (s.2.1))) (s.2.2) s hp (fun z => hq ((if_neg h0).trans z)) (fun r1 r2 r3 zr => hn r1 r2 r3 (((if_neg h0).trans (if_pos h1)).trans zr)))
    · skip
      have hp := hp.2 h1
      refine mTr_if (fun h2 => ?_) (fun h2 => ?_)
      · skip
        have hp := hp.1 h2
        exact mTr_k (lj_M_sheet_43j73 x1 x2 x4 (s.1) (s.2.1) c (Int16.toInt32 (Int32.toInt16 (s.2.1))) (s.2.2) s hp (fun z => hq ((if_neg h0).trans z)) (fun r1 r2 r3 zr => hn r1 r2 r3 (((if_neg h0).trans ((if_neg h1).trans (if_pos h2))).trans zr)))
      · skip
        have hp := hp.2 h2
        exact mTr_k (lj_M_sheet_43j73 x1 x2 x4 (s.1) (s.2.1) c (s.2.1) (s.2.2) s hp (fun z => hq ((if_neg h0).trans z)) (fun r1 r2 r3 zr => hn r1 r2 r3 (((if_neg h0).trans ((if_neg h1).trans (if_neg h2))).trans zr)))
theorem lp_M_sheet_43 {Post : MST → Prop} (x1 : Int32) (x2 : Int32) (x4 : Int32) (c0 : Int32) (s0 : Int32 × Int32 × MSto) (N : Nat) (hb : ∀ i, i < N → g_M_sheet_43 x1 x2 x4 (c0 + nI i) (f_M_sheet_43 x1 x2 x4 c0 s0 i) ∧ ¬ q_M_sheet_43s x1 x2 x4 (c0 + nI i) (f_M_sheet_43 x1 x2 x4 c0 s0 i) = 1) (h : mW1 P_M_sheet (43, [some (mR 13 0), some (mI x1), some (mI x2), none, some (mI x4), some (mI ((f_M_sheet_43 x1 x2 x4 c0 s0 N).1)), some (mI ((f_M_sheet_43 x1 x2 x4 c0 s0 N).2.1)), some (mI (c0 + nI N)), none], [], ((f_M_sheet_43 x1 x2 x4 c0 s0 N).2.2), 0, 0) Post) : mW1 P_M_sheet (43, [some (mR 13 0), some (mI x1), some (mI x2), none, some (mI x4), some (mI (s0.1)), some (mI (s0.2.1)), some (mI c0), none], [], (s0.2.2), 0, 0) Post := by
  refine mW1_st (mW1_loop (fun i => (43, [some (mR 13 0), some (mI x1), some (mI x2), none, some (mI x4), some (mI ((f_M_sheet_43 x1 x2 x4 c0 s0 i).1)), some (mI ((f_M_sheet_43 x1 x2 x4 c0 s0 i).2.1)), some (mI (c0 + nI i)), none], [], ((f_M_sheet_43 x1 x2 x4 c0 s0 i).2.2), 0, 0)) N (fun i hlt hn => ?_) h) (by rw [show nI 0 = 0 from rfl, Int32.add_zero] <;> rfl)
  refine lt_M_sheet_43 x1 x2 x4 _ _ (hb i hlt).1 (hb i hlt).2 (fun r1 r2 r3 hr => ?_)
  rw [Int32.add_assoc, nI_s]
  have e : f_M_sheet_43 x1 x2 x4 c0 s0 (i + 1) = (r1, r2, r3) := hr
  try dsimp only at hn
  rw [e] at hn
  exact hn
set_option maxRecDepth 100000 in
set_option maxHeartbeats 4000000 in
theorem d_M_sheet (a1 : Int32) (a2 : Int32) (a3 : Int32) (a4 : Int32) (σ : MSto) (hp : p_M_sheet a1 a2 a3 a4 σ) : mW1 P_M_sheet (0, [some (mR 13 0), some (mI a1), some (mI a2), some (mI a3), some (mI a4), none, none, none, none], [], σ, 0, 0) (mF [21, 33, 146] [mI (v_M_sheet a1 a2 a3 a4 σ)] (e_M_sheet a1 a2 a3 a4 σ) 0 0) := by
  refine mW1_eq (q_M_sheet_e _ _ _ _ _) ?_
  unfold p_M_sheet at hp
  refine mTr_if (fun h0 => ?_) (fun h0 => ?_)
  · skip
    exact mTr_e (by decide) (congrArg (fun z => [mI z]) (Eq.symm (if_pos h0))) (Eq.symm (if_pos h0)) (by decide) (by decide)
  · skip
    have hp := hp h0
    refine mTr_if (fun h1 => ?_) (fun h1 => ?_)
    · skip
      have hp := hp h1
      refine mTr_if (fun h2 => ?_) (fun h2 => ?_)
      · skip
        have hp := hp.1 h2
        refine mTr_k (lp_M_sheet_43 a1 a2 a4 0 (0, a3, (sI σ 13 0 52 0)) (n_M_sheet_43 a1 a2 a4 0 (0, a3, (sI σ 13 0 52 0))) hp.1 ?_)
        have hp := hp.2
        refine mW1_eq (q_M_sheet_43 _ _ _ _ _ _ _) ?_
        refine mTr_if (fun h3 => ?_) (fun h3 => ?_)
        · skip
          refine mTr_if (fun h4 => ?_) (fun h4 => ?_)
          · skip
            exact mTr_e (by decide) (congrArg (fun z => [mI z]) (Eq.symm ((if_neg h0).trans ((if_pos h1).trans ((if_pos h2).trans (if_pos h4)))))) (Eq.symm ((if_neg h0).trans ((if_pos h1).trans (if_pos h2)))) (by decide) (by decide)
          · skip
            exact mTr_e (by decide) (congrArg (fun z => [mI z]) (Eq.symm ((if_neg h0).trans ((if_pos h1).trans ((if_pos h2).trans (if_neg h4)))))) (Eq.symm ((if_neg h0).trans ((if_pos h1).trans (if_pos h2)))) (by decide) (by decide)
        · skip
          have hp := hp h3
          exact hp.elim
      · skip
        have hp := hp.2 h2
        refine mTr_if (fun h3 => ?_) (fun h3 => ?_)
        · skip
          have hp := hp h3
          refine mTr_k (lp_M_sheet_43 a1 a2 a4 0 (0, a3, (sI σ 13 0 52 0)) (n_M_sheet_43 a1 a2 a4 0 (0, a3, (sI σ 13 0 52 0))) hp.1 ?_)
          have hp := hp.2
          refine mW1_eq (q_M_sheet_43 _ _ _ _ _ _ _) ?_
          refine mTr_if (fun h4 => ?_) (fun h4 => ?_)
          · skip
            refine mTr_if (fun h5 => ?_) (fun h5 => ?_)
            · skip
              exact mTr_e (by decide) (congrArg (fun z => [mI z]) (Eq.symm ((if_neg h0).trans ((if_pos h1).trans ((if_neg h2).trans ((if_pos h3).trans (if_pos h5))))))) (Eq.symm ((if_neg h0).trans ((if_pos h1).trans ((if_neg h2).trans (if_pos h3))))) (by decide) (by decide)
            · skip
              exact mTr_e (by decide) (congrArg (fun z => [mI z]) (Eq.symm ((if_neg h0).trans ((if_pos h1).trans ((if_neg h2).trans ((if_pos h3).trans (if_neg h5))))))) (Eq.symm ((if_neg h0).trans ((if_pos h1).trans ((if_neg h2).trans (if_pos h3))))) (by decide) (by decide)
          · skip
            have hp := hp h4
            exact hp.elim
        · skip
          exact mTr_e (by decide) (congrArg (fun z => [mI z]) (Eq.symm ((if_neg h0).trans ((if_pos h1).trans ((if_neg h2).trans (if_neg h3)))))) (Eq.symm ((if_neg h0).trans ((if_pos h1).trans ((if_neg h2).trans (if_neg h3))))) (by decide) (by decide)
    · skip
      exact mTr_e (by decide) (congrArg (fun z => [mI z]) (Eq.symm ((if_neg h0).trans (if_neg h1)))) (Eq.symm ((if_neg h0).trans (if_neg h1))) (by decide) (by decide)
theorem li_M_249 : mLink "ClothWithManModel" 249 E_Ma_max := ⟨tw_2_139, tw_1_10, ⟨by decide, by decide⟩, by decide +kernel, Or.inl tw_7_9, (fun _ => tw_2_138), (fun h => by cases h), (fun h => by cases h)⟩

theorem li_M_246 : mLink "ClothWithManModel" 246 E_Ma_min := ⟨tw_2_14, tw_1_10, ⟨by decide, by decide⟩, by decide +kernel, Or.inl tw_7_8, (fun _ => tw_2_13), (fun h => by cases h), (fun h => by cases h)⟩


theorem tk_M_sheet : ∀ pc i nx tg, T_M_sheet pc = some (i, nx, tg) → mOkB prog_14_method_29_code pc i nx tg = true := code_ok (N := 147) (fun k h => by unfold T_M_sheet; rw [h]; rfl) (by decide +kernel)
theorem ok_M_sheet (l : Launch) : mPOK l "ClothWithManModel" prog_14_method_29_code P_M_sheet := by
  refine ⟨tk_M_sheet, ?_, ?_, ?_, (fun pc i nx tg kd _ h => by cases h), ?_, ?_, fun pc en h => by cases h⟩
  · intro x ci f ty fin h
    exact mLook_all (Q := fun x v => mFOK "ClothWithManModel" x v.1 v.2.1 v.2.2.1 v.2.2.2 ∧ (v.2.2.2 = true → pIni P_M_sheet = true → (Cond.fieldLink "ClothWithManModel" x (((mCl[v.1]?).getD ("", fun _ => ("", "", "", false), 0)).2.1 v.2.1).1 (((mCl[v.1]?).getD ("", fun _ => ("", "", "", false), 0)).2.1 v.2.1).2.1 (((mCl[v.1]?).getD ("", fun _ => ("", "", "", false), 0)).2.1 v.2.1).2.2.1 ∈ lw_tbl ∧ (((mCl[v.1]?).getD ("", fun _ => ("", "", "", false), 0)).2.1 v.2.1).1 = "ClothWithManModel"))) (fcC ⟨fo_M_32, fun h1 h2 => by cases h2⟩ (fcC ⟨fo_M_161, fun h1 h2 => by cases h1⟩ fcN)) x (ci, f, ty, fin) h
  · intro x
    have hh := mLook_all (l := ([] : List (Nat × (Int32 ⊕ Int64)))) (Q := fun x (v : Int32 ⊕ Int64) => (∀ w, v = .inl w → Cond.constant "ClothWithManModel" x w ∈ lw_tbl) ∧ (∀ w, v = .inr w → Cond.constantLong "ClothWithManModel" x w ∈ lw_tbl)) fcN x
    exact ⟨fun w h => (hh _ h).1 w rfl, fun w h => (hh _ h).2 w rfl⟩
  · exact fun x en h => mLook_all (Q := fun x en => mLink "ClothWithManModel" x en ∧ mCtr l en ∧ (en.1.1 = 2 → en.2.2.2.2.2.2 = none)) (fcC ⟨li_M_181, c_M_in l, (fun h => by cases h)⟩ (fcC ⟨li_M_246, c_Ma_min l, (fun h => by cases h)⟩ (fcC ⟨li_M_249, c_Ma_max l, (fun h => by cases h)⟩ fcN))) x en h
  · exact fun x kd h => mLook_all (Q := fun x kd => (kd = 95 ∧ Cond.fieldLink "ClothWithManModel" x "ClothWithMan" "LIKENESSES" "[I" ∈ lw_tbl) ∨ (kd = 96 ∧ Cond.fieldLink "ClothWithManModel" x "ClothWithMan" "APART_BOUNDS" "[I" ∈ lw_tbl)) fcN x kd h
  · exact fun x ci h => mLook_all (Q := fun x ci => ci ≠ 0 ∧ ∃ (C : String) (T : u_T) (N : Nat), mCl[ci]? = some (C, T, N) ∧ Cond.classLink "ClothWithManModel" x C ∈ lw_tbl ∧ Cond.instantiable C N ∈ lw_tbl) fcN x ci h
set_option maxRecDepth 100000 in
theorem c_M_sheet (l : Launch) : mCtr l E_M_sheet := mCtr_of (P := P_M_sheet) (own := "ClothWithManModel") mLay_ok rfl (by decide +kernel) rfl (ok_M_sheet l) (fun h => by cases h) (fun as σ pr rv σ' hF hpr hlv => by
  unfold E_M_sheet S_M_sheet at hF
  simp only [] at hF
  split at hF
  · cases hF
    obtain ⟨n, pcF, c1, s1, g1, g2, g3, g4⟩ := mF_inv (d_M_sheet _ _ _ _ σ (hpr _ rfl))
    exact ⟨Nat.le_of_ble_eq_true rfl, (fun v h => by cases h; trivial), n, pcF, c1, s1, g1, ⟨mEnd_of (i := .ireturn) (P := P_M_sheet) (rets := [21, 33, 146]) rfl g2, rfl⟩, g3, g4⟩
  · cases hF
    exact (hpr _ rfl).elim)

