/-! ClothWithManModel.faith(II)I -/
noncomputable def v_M_faith (a1 : Int32) (a2 : Int32) (σ : MSto) : Int32 := (if (v_M_isStory a1 (sI σ 13 0 52 0)) = 0 then (-1) else (if (v_M_in a2 0 9 (sI σ 13 0 52 0)) = 0 then (-1) else (gI (sI σ 13 0 52 0) 60 0 (Int32.toNatClampNeg a1))))
def p_M_faith (a1 : Int32) (a2 : Int32) (σ : MSto) : Prop := (¬ ((v_M_isStory a1 (sI σ 13 0 52 0)) = 0) → (¬ ((v_M_in a2 0 9 (sI σ 13 0 52 0)) = 0) → ((vp_in a1 6) ∧ (vp_in a1 6))))
noncomputable def e_M_faith (a1 : Int32) (a2 : Int32) (σ : MSto) : MSto := (if (v_M_isStory a1 (sI σ 13 0 52 0)) = 0 then (sI σ 13 0 52 0) else (if (v_M_in a2 0 9 (sI σ 13 0 52 0)) = 0 then (sI σ 13 0 52 0) else (sI (sI σ 13 0 52 0) 60 0 (Int32.toNatClampNeg a1) a2)))
noncomputable def S_M_faith : List MV → MSto → Option Prop × Option MV × MSto := fun as σ => match as with
  | [.inr (.inr (some (13, 0))), .inl a0, .inl a1] => (some (p_M_faith a0 a1 σ), some (mI (v_M_faith a0 a1 σ)), e_M_faith a0 a1 σ)
  | _ => (some False, none, σ)
noncomputable def E_M_faith : MEnt := ((1, 2, 13), (2, 43, 0, 0), S_M_faith, ((⟨"ClothWithManModel", "faith", "(II)I"⟩ : MethodName), prog_14_method_71_code, 4, (some .int)))

def T_M_faith : Nat → Option (Instr × Nat × List Nat) := fun k => bif Nat.blt k 41 then (bif Nat.blt k 24 then (bif Nat.blt k 10 then (bif Nat.blt k 5 then (bif Nat.blt k 1 then (bif Nat.beq k 0 then some (.aload_n 0, 1, []) else none) else (bif Nat.blt k 2 then (bif Nat.beq k 1 then some (.iconst 0, 2, []) else none) else (bif Nat.beq k 2 then some (.putfield 161, 5, []) else none))) else (bif Nat.blt k 6 then (bif Nat.beq k 5 then some (.aload_n 0, 6, []) else none) else (bif Nat.blt k 7 then (bif Nat.beq k 6 then some (.iload_n 1, 7, []) else none) else (bif Nat.beq k 7 then some (.invokevirtual 381, 10, []) else none)))) else (bif Nat.blt k 15 then (bif Nat.blt k 13 then (bif Nat.beq k 10 then some (.ifCond .eq 13, 13, [23]) else none) else (bif Nat.blt k 14 then (bif Nat.beq k 13 then some (.iload_n 2, 14, []) else none) else (bif Nat.beq k 14 then some (.iconst 0, 15, []) else none))) else (bif Nat.blt k 20 then (bif Nat.blt k 17 then (bif Nat.beq k 15 then some (.bipush 9, 17, []) else none) else (bif Nat.beq k 17 then some (.invokestatic 181, 20, []) else none)) else (bif Nat.blt k 23 then (bif Nat.beq k 20 then some (.ifCond .ne 5, 23, [25]) else none) else (bif Nat.beq k 23 then some (.iconst (-1), 24, []) else none))))) else (bif Nat.blt k 32 then (bif Nat.blt k 29 then (bif Nat.blt k 25 then (bif Nat.beq k 24 then some (.ireturn, 25, []) else none) else (bif Nat.blt k 26 then (bif Nat.beq k 25 then some (.aload_n 0, 26, []) else none) else (bif Nat.beq k 26 then some (.getfield 74, 29, []) else none))) else (bif Nat.blt k 30 then (bif Nat.beq k 29 then some (.iload_n 1, 30, []) else none) else (bif Nat.blt k 31 then (bif Nat.beq k 30 then some (.iaload, 31, []) else none) else (bif Nat.beq k 31 then some (.istore_n 3, 32, []) else none)))) else (bif Nat.blt k 37 then (bif Nat.blt k 33 then (bif Nat.beq k 32 then some (.aload_n 0, 33, []) else none) else (bif Nat.blt k 36 then (bif Nat.beq k 33 then some (.getfield 74, 36, []) else none) else (bif Nat.beq k 36 then some (.iload_n 1, 37, []) else none))) else (bif Nat.blt k 39 then (bif Nat.blt k 38 then (bif Nat.beq k 37 then some (.iload_n 2, 38, []) else none) else (bif Nat.beq k 38 then some (.iastore, 39, []) else none)) else (bif Nat.blt k 40 then (bif Nat.beq k 39 then some (.iload_n 3, 40, []) else none) else (bif Nat.beq k 40 then some (.ireturn, 41, []) else none)))))) else none
noncomputable def P_M_faith : MP := (T_M_faith, (fun k => mLook k [(74, (13, 26, (.array .int), true)), (161, (13, 52, .int, false))]), (fun k => mLook k []), (fun k => mLook k [(181, E_M_in), (381, E_M_isStory)]), (fun k => mLook k []), (fun k => mLook k []), (fun k => mLook k []), (fun k => mLook k []), (fun k => [24, 40].any (Nat.beq k)), (2, 43, 0, 0), false, (fun _ => none))
set_option maxRecDepth 100000 in
set_option maxHeartbeats 4000000 in
theorem q_M_faith_e (a1 : Int32) (a2 : Int32) (σ : MSto) (n : Nat) : mexe KT P_M_faith (n + 1) (0, [some (mR 13 0), some (mI a1), some (mI a2), none], [], σ, 0, 0) = mIf ((v_M_isStory a1 (sI σ 13 0 52 0)) = 0) (some (24, [], [(mI (-1))], (sI σ 13 0 52 0), 0, 0)) (mIf ((v_M_in a2 0 9 (sI σ 13 0 52 0)) = 0) (some (24, [], [(mI (-1))], (sI σ 13 0 52 0), 0, 0)) (mG (vp_in a1 6) (mG (vp_in a1 6) (some (40, [], [(mI (gI (sI σ 13 0 52 0) 60 0 (Int32.toNatClampNeg a1)))], (sI (sI σ 13 0 52 0) 60 0 (Int32.toNatClampNeg a1) a2), 0, 0))))) := rfl
set_option maxRecDepth 100000 in
set_option maxHeartbeats 4000000 in
theorem d_M_faith (a1 : Int32) (a2 : Int32) (σ : MSto) (hp : p_M_faith a1 a2 σ) : mW1 P_M_faith (0, [some (mR 13 0), some (mI a1), some (mI a2), none], [], σ, 0, 0) (mF [24, 40] [mI (v_M_faith a1 a2 σ)] (e_M_faith a1 a2 σ) 0 0) := by
  refine mW1_eq (q_M_faith_e _ _ _) ?_
  unfold p_M_faith at hp
  refine mTr_if (fun h0 => ?_) (fun h0 => ?_)
  · skip
    exact mTr_e (by decide) (congrArg (fun z => [mI z]) (Eq.symm (if_pos h0))) (Eq.symm (if_pos h0)) (by decide) (by decide)
  · skip
    have hp := hp h0
    refine mTr_if (fun h1 => ?_) (fun h1 => ?_)
    · skip
      exact mTr_e (by decide) (congrArg (fun z => [mI z]) (Eq.symm ((if_neg h0).trans (if_pos h1)))) (Eq.symm ((if_neg h0).trans (if_pos h1))) (by decide) (by decide)
    · skip
      have hp := hp h1
      refine mTr_g hp.1 ?_
      have hp := hp.2
      refine mTr_g hp ?_
      exact mTr_e (by decide) (congrArg (fun z => [mI z]) (Eq.symm ((if_neg h0).trans (if_neg h1)))) (Eq.symm ((if_neg h0).trans (if_neg h1))) (by decide) (by decide)
theorem li_M_381 : mLink "ClothWithManModel" 381 E_M_isStory := ⟨tw_7_205, tw_1_9, ⟨by decide, by decide⟩, by decide +kernel, Or.inl tw_7_202, (fun h => by cases h), (fun _ => ⟨tw_7_204, tw_0_75, TX12, 71, rfl⟩), (fun h => by cases h)⟩


theorem tk_M_faith : ∀ pc i nx tg, T_M_faith pc = some (i, nx, tg) → mOkB prog_14_method_71_code pc i nx tg = true := code_ok (N := 41) (fun k h => by unfold T_M_faith; rw [h]; rfl) (by decide +kernel)
theorem ok_M_faith (l : Launch) : mPOK l "ClothWithManModel" prog_14_method_71_code P_M_faith := by
  refine ⟨tk_M_faith, ?_, ?_, ?_, (fun pc i nx tg kd _ h => by cases h), ?_, ?_, fun pc en h => by cases h⟩
  · intro x ci f ty fin h
    exact mLook_all (Q := fun x v => mFOK "ClothWithManModel" x v.1 v.2.1 v.2.2.1 v.2.2.2 ∧ (v.2.2.2 = true → pIni P_M_faith = true → (Cond.fieldLink "ClothWithManModel" x (((mCl[v.1]?).getD ("", fun _ => ("", "", "", false), 0)).2.1 v.2.1).1 (((mCl[v.1]?).getD ("", fun _ => ("", "", "", false), 0)).2.1 v.2.1).2.1 (((mCl[v.1]?).getD ("", fun _ => ("", "", "", false), 0)).2.1 v.2.1).2.2.1 ∈ lw_tbl ∧ (((mCl[v.1]?).getD ("", fun _ => ("", "", "", false), 0)).2.1 v.2.1).1 = "ClothWithManModel"))) (fcC ⟨fo_M_74, fun h1 h2 => by cases h2⟩ (fcC ⟨fo_M_161, fun h1 h2 => by cases h1⟩ fcN)) x (ci, f, ty, fin) h
  · intro x
    have hh := mLook_all (l := ([] : List (Nat × (Int32 ⊕ Int64)))) (Q := fun x (v : Int32 ⊕ Int64) => (∀ w, v = .inl w → Cond.constant "ClothWithManModel" x w ∈ lw_tbl) ∧ (∀ w, v = .inr w → Cond.constantLong "ClothWithManModel" x w ∈ lw_tbl)) fcN x
    exact ⟨fun w h => (hh _ h).1 w rfl, fun w h => (hh _ h).2 w rfl⟩
  · exact fun x en h => mLook_all (Q := fun x en => mLink "ClothWithManModel" x en ∧ mCtr l en ∧ (en.1.1 = 2 → en.2.2.2.2.2.2 = none)) (fcC ⟨li_M_181, c_M_in l, (fun h => by cases h)⟩ (fcC ⟨li_M_381, c_M_isStory l, (fun h => by cases h)⟩ fcN)) x en h
  · exact fun x kd h => mLook_all (Q := fun x kd => (kd = 95 ∧ Cond.fieldLink "ClothWithManModel" x "ClothWithMan" "LIKENESSES" "[I" ∈ lw_tbl) ∨ (kd = 96 ∧ Cond.fieldLink "ClothWithManModel" x "ClothWithMan" "APART_BOUNDS" "[I" ∈ lw_tbl)) fcN x kd h
  · exact fun x ci h => mLook_all (Q := fun x ci => ci ≠ 0 ∧ ∃ (C : String) (T : u_T) (N : Nat), mCl[ci]? = some (C, T, N) ∧ Cond.classLink "ClothWithManModel" x C ∈ lw_tbl ∧ Cond.instantiable C N ∈ lw_tbl) fcN x ci h
set_option maxRecDepth 100000 in
theorem c_M_faith (l : Launch) : mCtr l E_M_faith := mCtr_of (P := P_M_faith) (own := "ClothWithManModel") mLay_ok rfl (by decide +kernel) rfl (ok_M_faith l) (fun h => by cases h) (fun as σ pr rv σ' hF hpr hlv => by
  unfold E_M_faith S_M_faith at hF
  simp only [] at hF
  split at hF
  · cases hF
    obtain ⟨n, pcF, c1, s1, g1, g2, g3, g4⟩ := mF_inv (d_M_faith _ _ σ (hpr _ rfl))
    exact ⟨Nat.le_of_ble_eq_true rfl, (fun v h => by cases h; trivial), n, pcF, c1, s1, g1, ⟨mEnd_of (i := .ireturn) (P := P_M_faith) (rets := [24, 40]) rfl g2, rfl⟩, g3, g4⟩
  · cases hF
    exact (hpr _ rfl).elim)
/-! ClothWithManModel.wouldAt(IIIIII)I -/
noncomputable def vj_M_wouldAt_j49 (x1 : Int32) (x2 : Int32) (x3 : Int32) (x4 : Int32) (x5 : Int32) (x7 : Int32) (σ : MSto) : Int32 := (if (v_M_hasTerm x1 2 σ) = 0 then (if (gI σ 57 0 (Int32.toNatClampNeg x1)) = x5 then ((((v_M_withStuff (gI σ 41 0 (Int32.toNatClampNeg x7)) x2 x3 x4 σ) + (gI σ 45 0 (Int32.toNatClampNeg x5))) + ((gI σ 56 0 (Int32.toNatClampNeg x1)) * x2)) + (gI σ 58 0 (Int32.toNatClampNeg x1))) else ((((v_M_withStuff (gI σ 41 0 (Int32.toNatClampNeg x7)) x2 x3 x4 σ) + (gI σ 45 0 (Int32.toNatClampNeg x5))) + ((gI σ 56 0 (Int32.toNatClampNeg x1)) * x2)) + 0)) else (if (gI σ 57 0 (Int32.toNatClampNeg x1)) = x5 then ((((v_M_mixed (v_M_withStuff (gI σ 41 0 (Int32.toNatClampNeg x7)) x2 x3 x4 σ) (gI σ 53 0 (Int32.toNatClampNeg x1)) (gI σ 54 0 (Int32.toNatClampNeg x1)) σ) + (gI σ 45 0 (Int32.toNatClampNeg x5))) + ((gI σ 56 0 (Int32.toNatClampNeg x1)) * x2)) + (gI σ 58 0 (Int32.toNatClampNeg x1))) else ((((v_M_mixed (v_M_withStuff (gI σ 41 0 (Int32.toNatClampNeg x7)) x2 x3 x4 σ) (gI σ 53 0 (Int32.toNatClampNeg x1)) (gI σ 54 0 (Int32.toNatClampNeg x1)) σ) + (gI σ 45 0 (Int32.toNatClampNeg x5))) + ((gI σ 56 0 (Int32.toNatClampNeg x1)) * x2)) + 0)))
def gj_M_wouldAt_j49 (x1 : Int32) (x2 : Int32) (x3 : Int32) (x4 : Int32) (x5 : Int32) (x7 : Int32) (σ : MSto) : Prop := ((vp_in x7 200) ∧ ((p_M_withStuff (gI σ 41 0 (Int32.toNatClampNeg x7)) x2 x3 x4 σ) ∧ ((p_M_hasTerm x1 2 σ) ∧ ((((v_M_hasTerm x1 2 σ) = 0) → ((vp_in x5 6) ∧ ((vp_in x1 6) ∧ ((vp_in x1 6) ∧ (((gI σ 57 0 (Int32.toNatClampNeg x1)) = x5) → (vp_in x1 6)))))) ∧ (¬ ((v_M_hasTerm x1 2 σ) = 0) → ((vp_in x1 6) ∧ ((vp_in x1 6) ∧ ((p_M_mixed (v_M_withStuff (gI σ 41 0 (Int32.toNatClampNeg x7)) x2 x3 x4 σ) (gI σ 53 0 (Int32.toNatClampNeg x1)) (gI σ 54 0 (Int32.toNatClampNeg x1)) σ) ∧ ((vp_in x5 6) ∧ ((vp_in x1 6) ∧ ((vp_in x1 6) ∧ (((gI σ 57 0 (Int32.toNatClampNeg x1)) = x5) → (vp_in x1 6)))))))))))))
noncomputable def vj_M_wouldAt_j20 (x1 : Int32) (x2 : Int32) (x3 : Int32) (x4 : Int32) (x5 : Int32) (y0 : Int32) (σ : MSto) : Int32 := (if (v_M_hasTerm x1 4 σ) = 0 then (vj_M_wouldAt_j49 x1 x2 x3 x4 x5 y0 σ) else (if 4 ≤ x2 then (vj_M_wouldAt_j49 x1 x2 x3 x4 x5 y0 σ) else (if 2 ≤ x3 then (vj_M_wouldAt_j49 x1 x2 x3 x4 x5 y0 σ) else (vj_M_wouldAt_j49 x1 x2 x3 x4 x5 (gI σ 55 0 (Int32.toNatClampNeg x1)) σ))))
def gj_M_wouldAt_j20 (x1 : Int32) (x2 : Int32) (x3 : Int32) (x4 : Int32) (x5 : Int32) (y0 : Int32) (σ : MSto) : Prop := ((p_M_hasTerm x1 4 σ) ∧ ((((v_M_hasTerm x1 4 σ) = 0) → (gj_M_wouldAt_j49 x1 x2 x3 x4 x5 y0 σ)) ∧ (¬ ((v_M_hasTerm x1 4 σ) = 0) → (((4 ≤ x2) → (gj_M_wouldAt_j49 x1 x2 x3 x4 x5 y0 σ)) ∧ (¬ (4 ≤ x2) → (((2 ≤ x3) → (gj_M_wouldAt_j49 x1 x2 x3 x4 x5 y0 σ)) ∧ (¬ (2 ≤ x3) → ((vp_in x1 6) ∧ (gj_M_wouldAt_j49 x1 x2 x3 x4 x5 (gI σ 55 0 (Int32.toNatClampNeg x1)) σ)))))))))
noncomputable def v_M_wouldAt (a1 : Int32) (a2 : Int32) (a3 : Int32) (a4 : Int32) (a5 : Int32) (a6 : Int32) (σ : MSto) : Int32 := (if (v_M_hasTerm a1 1 σ) = 0 then (vj_M_wouldAt_j20 a1 a2 a3 a4 a5 a6 σ) else (vj_M_wouldAt_j20 a1 a2 a3 a4 a5 (gI σ 52 0 (Int32.toNatClampNeg a1)) σ))
def p_M_wouldAt (a1 : Int32) (a2 : Int32) (a3 : Int32) (a4 : Int32) (a5 : Int32) (a6 : Int32) (σ : MSto) : Prop := ((p_M_hasTerm a1 1 σ) ∧ ((((v_M_hasTerm a1 1 σ) = 0) → (gj_M_wouldAt_j20 a1 a2 a3 a4 a5 a6 σ)) ∧ (¬ ((v_M_hasTerm a1 1 σ) = 0) → ((vp_in a1 6) ∧ (gj_M_wouldAt_j20 a1 a2 a3 a4 a5 (gI σ 52 0 (Int32.toNatClampNeg a1)) σ)))))
noncomputable def S_M_wouldAt : List MV → MSto → Option Prop × Option MV × MSto := fun as σ => match as with
  | [.inr (.inr (some (13, 0))), .inl a0, .inl a1, .inl a2, .inl a3, .inl a4, .inl a5] => (some (p_M_wouldAt a0 a1 a2 a3 a4 a5 σ), some (mI (v_M_wouldAt a0 a1 a2 a3 a4 a5 σ)), σ)
  | _ => (some False, none, σ)
noncomputable def E_M_wouldAt : MEnt := ((1, 6, 13), (2, 49, 0, 0), S_M_wouldAt, ((⟨"ClothWithManModel", "wouldAt", "(IIIIII)I"⟩ : MethodName), prog_14_method_72_code, 9, (some .int)))

def T_M_wouldAt : Nat → Option (Instr × Nat × List Nat) := fun k => bif Nat.blt k 137 then (bif Nat.blt k 69 then (bif Nat.blt k 36 then (bif Nat.blt k 18 then (bif Nat.blt k 9 then (bif Nat.blt k 2 then (bif Nat.blt k 1 then (bif Nat.beq k 0 then some (.aload_n 0, 1, []) else none) else (bif Nat.beq k 1 then some (.iload_n 1, 2, []) else none)) else (bif Nat.blt k 3 then (bif Nat.beq k 2 then some (.iconst 1, 3, []) else none) else (bif Nat.blt k 6 then (bif Nat.beq k 3 then some (.invokevirtual 384, 6, []) else none) else (bif Nat.beq k 6 then some (.ifCond .eq 12, 9, [18]) else none)))) else (bif Nat.blt k 13 then (bif Nat.blt k 10 then (bif Nat.beq k 9 then some (.aload_n 0, 10, []) else none) else (bif Nat.beq k 10 then some (.getfield 50, 13, []) else none)) else (bif Nat.blt k 14 then (bif Nat.beq k 13 then some (.iload_n 1, 14, []) else none) else (bif Nat.blt k 15 then (bif Nat.beq k 14 then some (.iaload, 15, []) else none) else (bif Nat.beq k 15 then some (.goto 5, 18, [20]) else none))))) else (bif Nat.blt k 25 then (bif Nat.blt k 22 then (bif Nat.blt k 20 then (bif Nat.beq k 18 then some (.iload 6, 20, []) else none) else (bif Nat.beq k 20 then some (.istore 7, 22, []) else none)) else (bif Nat.blt k 23 then (bif Nat.beq k 22 then some (.aload_n 0, 23, []) else none) else (bif Nat.blt k 24 then (bif Nat.beq k 23 then some (.iload_n 1, 24, []) else none) else (bif Nat.beq k 24 then some (.iconst 4, 25, []) else none)))) else (bif Nat.blt k 31 then (bif Nat.blt k 28 then (bif Nat.beq k 25 then some (.invokevirtual 384, 28, []) else none) else (bif Nat.beq k 28 then some (.ifCond .eq 21, 31, [49]) else none)) else (bif Nat.blt k 32 then (bif Nat.beq k 31 then some (.iload_n 2, 32, []) else none) else (bif Nat.blt k 33 then (bif Nat.beq k 32 then some (.iconst 4, 33, []) else none) else (bif Nat.beq k 33 then some (.if_icmp .ge 16, 36, [49]) else none)))))) else (bif Nat.blt k 51 then (bif Nat.blt k 45 then (bif Nat.blt k 38 then (bif Nat.blt k 37 then (bif Nat.beq k 36 then some (.iload_n 3, 37, []) else none) else (bif Nat.beq k 37 then some (.iconst 2, 38, []) else none)) else (bif Nat.blt k 41 then (bif Nat.beq k 38 then some (.if_icmp .ge 11, 41, [49]) else none) else (bif Nat.blt k 42 then (bif Nat.beq k 41 then some (.aload_n 0, 42, []) else none) else (bif Nat.beq k 42 then some (.getfield 59, 45, []) else none)))) else (bif Nat.blt k 47 then (bif Nat.blt k 46 then (bif Nat.beq k 45 then some (.iload_n 1, 46, []) else none) else (bif Nat.beq k 46 then some (.iaload, 47, []) else none)) else (bif Nat.blt k 49 then (bif Nat.beq k 47 then some (.istore 7, 49, []) else none) else (bif Nat.blt k 50 then (bif Nat.beq k 49 then some (.aload_n 0, 50, []) else none) else (bif Nat.beq k 50 then some (.aload_n 0, 51, []) else none))))) else (bif Nat.blt k 59 then (bif Nat.blt k 56 then (bif Nat.blt k 54 then (bif Nat.beq k 51 then some (.getfield 9, 54, []) else none) else (bif Nat.beq k 54 then some (.iload 7, 56, []) else none)) else (bif Nat.blt k 57 then (bif Nat.beq k 56 then some (.iaload, 57, []) else none) else (bif Nat.blt k 58 then (bif Nat.beq k 57 then some (.iload_n 2, 58, []) else none) else (bif Nat.beq k 58 then some (.iload_n 3, 59, []) else none)))) else (bif Nat.blt k 66 then (bif Nat.blt k 61 then (bif Nat.beq k 59 then some (.iload 4, 61, []) else none) else (bif Nat.blt k 64 then (bif Nat.beq k 61 then some (.invokevirtual 260, 64, []) else none) else (bif Nat.beq k 64 then some (.istore 8, 66, []) else none))) else (bif Nat.blt k 67 then (bif Nat.beq k 66 then some (.aload_n 0, 67, []) else none) else (bif Nat.blt k 68 then (bif Nat.beq k 67 then some (.iload_n 1, 68, []) else none) else (bif Nat.beq k 68 then some (.iconst 2, 69, []) else none))))))) else (bif Nat.blt k 105 then (bif Nat.blt k 88 then (bif Nat.blt k 79 then (bif Nat.blt k 75 then (bif Nat.blt k 72 then (bif Nat.beq k 69 then some (.invokevirtual 384, 72, []) else none) else (bif Nat.beq k 72 then some (.ifCond .eq 23, 75, [95]) else none)) else (bif Nat.blt k 76 then (bif Nat.beq k 75 then some (.aload_n 0, 76, []) else none) else (bif Nat.blt k 78 then (bif Nat.beq k 76 then some (.iload 8, 78, []) else none) else (bif Nat.beq k 78 then some (.aload_n 0, 79, []) else none)))) else (bif Nat.blt k 83 then (bif Nat.blt k 82 then (bif Nat.beq k 79 then some (.getfield 53, 82, []) else none) else (bif Nat.beq k 82 then some (.iload_n 1, 83, []) else none)) else (bif Nat.blt k 84 then (bif Nat.beq k 83 then some (.iaload, 84, []) else none) else (bif Nat.blt k 85 then (bif Nat.beq k 84 then some (.aload_n 0, 85, []) else none) else (bif Nat.beq k 85 then some (.getfield 56, 88, []) else none))))) else (bif Nat.blt k 97 then (bif Nat.blt k 90 then (bif Nat.blt k 89 then (bif Nat.beq k 88 then some (.iload_n 1, 89, []) else none) else (bif Nat.beq k 89 then some (.iaload, 90, []) else none)) else (bif Nat.blt k 93 then (bif Nat.beq k 90 then some (.invokevirtual 256, 93, []) else none) else (bif Nat.blt k 95 then (bif Nat.beq k 93 then some (.istore 8, 95, []) else none) else (bif Nat.beq k 95 then some (.iload 8, 97, []) else none)))) else (bif Nat.blt k 101 then (bif Nat.blt k 98 then (bif Nat.beq k 97 then some (.aload_n 0, 98, []) else none) else (bif Nat.beq k 98 then some (.getfield 29, 101, []) else none)) else (bif Nat.blt k 103 then (bif Nat.beq k 101 then some (.iload 5, 103, []) else none) else (bif Nat.blt k 104 then (bif Nat.beq k 103 then some (.iaload, 104, []) else none) else (bif Nat.beq k 104 then some (.iadd, 105, []) else none)))))) else (bif Nat.blt k 119 then (bif Nat.blt k 112 then (bif Nat.blt k 109 then (bif Nat.blt k 106 then (bif Nat.beq k 105 then some (.aload_n 0, 106, []) else none) else (bif Nat.beq k 106 then some (.getfield 62, 109, []) else none)) else (bif Nat.blt k 110 then (bif Nat.beq k 109 then some (.iload_n 1, 110, []) else none) else (bif Nat.blt k 111 then (bif Nat.beq k 110 then some (.iaload, 111, []) else none) else (bif Nat.beq k 111 then some (.iload_n 2, 112, []) else none)))) else (bif Nat.blt k 114 then (bif Nat.blt k 113 then (bif Nat.beq k 112 then some (.imul, 113, []) else none) else (bif Nat.beq k 113 then some (.iadd, 114, []) else none)) else (bif Nat.blt k 115 then (bif Nat.beq k 114 then some (.aload_n 0, 115, []) else none) else (bif Nat.blt k 118 then (bif Nat.beq k 115 then some (.getfield 65, 118, []) else none) else (bif Nat.beq k 118 then some (.iload_n 1, 119, []) else none))))) else (bif Nat.blt k 129 then (bif Nat.blt k 122 then (bif Nat.blt k 120 then (bif Nat.beq k 119 then some (.iaload, 120, []) else none) else (bif Nat.beq k 120 then some (.iload 5, 122, []) else none)) else (bif Nat.blt k 125 then (bif Nat.beq k 122 then some (.if_icmp .ne 12, 125, [134]) else none) else (bif Nat.blt k 126 then (bif Nat.beq k 125 then some (.aload_n 0, 126, []) else none) else (bif Nat.beq k 126 then some (.getfield 68, 129, []) else none)))) else (bif Nat.blt k 134 then (bif Nat.blt k 130 then (bif Nat.beq k 129 then some (.iload_n 1, 130, []) else none) else (bif Nat.blt k 131 then (bif Nat.beq k 130 then some (.iaload, 131, []) else none) else (bif Nat.beq k 131 then some (.goto 4, 134, [135]) else none))) else (bif Nat.blt k 135 then (bif Nat.beq k 134 then some (.iconst 0, 135, []) else none) else (bif Nat.blt k 136 then (bif Nat.beq k 135 then some (.iadd, 136, []) else none) else (bif Nat.beq k 136 then some (.ireturn, 137, []) else none)))))))) else none
noncomputable def P_M_wouldAt : MP := (T_M_wouldAt, (fun k => mLook k [(9, (13, 0, (.array .int), true)), (29, (13, 8, (.array .int), true)), (50, (13, 18, (.array .int), true)), (53, (13, 19, (.array .int), true)), (56, (13, 20, (.array .int), true)), (59, (13, 21, (.array .int), true)), (62, (13, 22, (.array .int), true)), (65, (13, 23, (.array .int), true)), (68, (13, 24, (.array .int), true))]), (fun k => mLook k []), (fun k => mLook k [(256, E_M_mixed), (260, E_M_withStuff), (384, E_M_hasTerm)]), (fun k => mLook k []), (fun k => mLook k []), (fun k => mLook k []), (fun k => mLook k [(20, [true, true, true, true, true, true, false, false, false]), (49, [true, true, true, true, true, true, false, true, false])]), (fun k => [136].any (Nat.beq k)), (2, 49, 0, 0), false, (fun _ => none))
set_option maxRecDepth 100000 in
set_option maxHeartbeats 4000000 in
theorem q_M_wouldAt_e (a1 : Int32) (a2 : Int32) (a3 : Int32) (a4 : Int32) (a5 : Int32) (a6 : Int32) (σ : MSto) (n : Nat) : mexe KT P_M_wouldAt (n + 1) (0, [some (mR 13 0), some (mI a1), some (mI a2), some (mI a3), some (mI a4), some (mI a5), some (mI a6), none, none], [], σ, 0, 0) = mG (p_M_hasTerm a1 1 σ) (mIf ((v_M_hasTerm a1 1 σ) = 0) (mexe KT P_M_wouldAt n (20, [some (mR 13 0), some (mI a1), some (mI a2), some (mI a3), some (mI a4), some (mI a5), none, none, none], [(mI a6)], σ, 0, 0)) (mG (vp_in a1 6) (mexe KT P_M_wouldAt n (20, [some (mR 13 0), some (mI a1), some (mI a2), some (mI a3), some (mI a4), some (mI a5), none, none, none], [(mI (gI σ 52 0 (Int32.toNatClampNeg a1)))], σ, 0, 0)))) := rfl
set_option maxRecDepth 100000 in
set_option maxHeartbeats 4000000 in
theorem q_M_wouldAt_20 (x1 : Int32) (x2 : Int32) (x3 : Int32) (x4 : Int32) (x5 : Int32) (y0 : Int32) (σ : MSto) (n : Nat) : mexe KT P_M_wouldAt (n + 1) (20, [some (mR 13 0), some (mI x1), some (mI x2), some (mI x3), some (mI x4), some (mI x5), none, none, none], [(mI y0)], σ, 0, 0) = mG (p_M_hasTerm x1 4 σ) (mIf ((v_M_hasTerm x1 4 σ) = 0) (mexe KT P_M_wouldAt n (49, [some (mR 13 0), some (mI x1), some (mI x2), some (mI x3), some (mI x4), some (mI x5), none, some (mI y0), none], [], σ, 0, 0)) (mIf (4 ≤ x2) (mexe KT P_M_wouldAt n (49, [some (mR 13 0), some (mI x1), some (mI x2), some (mI x3), some (mI x4), some (mI x5), none, some (mI y0), none], [], σ, 0, 0)) (mIf (2 ≤ x3) (mexe KT P_M_wouldAt n (49, [some (mR 13 0), some (mI x1), some (mI x2), some (mI x3), some (mI x4), some (mI x5), none, some (mI y0), none], [], σ, 0, 0)) (mG (vp_in x1 6) (mexe KT P_M_wouldAt n (49, [some (mR 13 0), some (mI x1), some (mI x2), some (mI x3), some (mI x4), some (mI x5), none, some (mI (gI σ 55 0 (Int32.toNatClampNeg x1))), none], [], σ, 0, 0)))))) := rfl
set_option maxRecDepth 100000 in
set_option maxHeartbeats 4000000 in
theorem q_M_wouldAt_49 (x1 : Int32) (x2 : Int32) (x3 : Int32) (x4 : Int32) (x5 : Int32) (x7 : Int32) (σ : MSto) (n : Nat) : mexe KT P_M_wouldAt (n + 1) (49, [some (mR 13 0), some (mI x1), some (mI x2), some (mI x3), some (mI x4), some (mI x5), none, some (mI x7), none], [], σ, 0, 0) = mG (vp_in x7 200) (mG (p_M_withStuff (gI σ 41 0 (Int32.toNatClampNeg x7)) x2 x3 x4 σ) (mG (p_M_hasTerm x1 2 σ) (mIf ((v_M_hasTerm x1 2 σ) = 0) (mG (vp_in x5 6) (mG (vp_in x1 6) (mG (vp_in x1 6) (mIf ((gI σ 57 0 (Int32.toNatClampNeg x1)) = x5) (mG (vp_in x1 6) (some (136, [], [(mI ((((v_M_withStuff (gI σ 41 0 (Int32.toNatClampNeg x7)) x2 x3 x4 σ) + (gI σ 45 0 (Int32.toNatClampNeg x5))) + ((gI σ 56 0 (Int32.toNatClampNeg x1)) * x2)) + (gI σ 58 0 (Int32.toNatClampNeg x1))))], σ, 0, 0))) (some (136, [], [(mI ((((v_M_withStuff (gI σ 41 0 (Int32.toNatClampNeg x7)) x2 x3 x4 σ) + (gI σ 45 0 (Int32.toNatClampNeg x5))) + ((gI σ 56 0 (Int32.toNatClampNeg x1)) * x2)) + 0))], σ, 0, 0)))))) (mG (vp_in x1 6) (mG (vp_in x1 6) (mG (p_M_mixed (v_M_withStuff (gI σ 41 0 (Int32.toNatClampNeg x7)) x2 x3 x4 σ) (gI σ 53 0 (Int32.toNatClampNeg x1)) (gI σ 54 0 (Int32.toNatClampNeg x1)) σ) (mG (vp_in x5 6) (mG (vp_in x1 6) (mG (vp_in x1 6) (mIf ((gI σ 57 0 (Int32.toNatClampNeg x1)) = x5) (mG (vp_in x1 6) (some (136, [], [(mI ((((v_M_mixed (v_M_withStuff (gI σ 41 0 (Int32.toNatClampNeg x7)) x2 x3 x4 σ) (gI σ 53 0 (Int32.toNatClampNeg x1)) (gI σ 54 0 (Int32.toNatClampNeg x1)) σ) + (gI σ 45 0 (Int32.toNatClampNeg x5))) + ((gI σ 56 0 (Int32.toNatClampNeg x1)) * x2)) + (gI σ 58 0 (Int32.toNatClampNeg x1))))], σ, 0, 0))) (some (136, [], [(mI ((((v_M_mixed (v_M_withStuff (gI σ 41 0 (Int32.toNatClampNeg x7)) x2 x3 x4 σ) (gI σ 53 0 (Int32.toNatClampNeg x1)) (gI σ 54 0 (Int32.toNatClampNeg x1)) σ) + (gI σ 45 0 (Int32.toNatClampNeg x5))) + ((gI σ 56 0 (Int32.toNatClampNeg x1)) * x2)) + 0))], σ, 0, 0)))))))))))) := rfl
set_option maxRecDepth 100000 in
theorem lj_M_wouldAt_j49 (x1 : Int32) (x2 : Int32) (x3 : Int32) (x4 : Int32) (x5 : Int32) (x7 : Int32) (σ : MSto) (hp : gj_M_wouldAt_j49 x1 x2 x3 x4 x5 x7 σ) : mW1 P_M_wouldAt (49, [some (mR 13 0), some (mI x1), some (mI x2), some (mI x3), some (mI x4), some (mI x5), none, some (mI x7), none], [], σ, 0, 0) (mF [136] [mI (vj_M_wouldAt_j49 x1 x2 x3 x4 x5 x7 σ)] σ 0 0) := by
  unfold gj_M_wouldAt_j49 at hp
  refine mW1_eq (q_M_wouldAt_49 _ _ _ _ _ _ _) ?_
  refine mTr_g hp.1 ?_
  have hp := hp.2
  refine mTr_g hp.1 ?_
  have hp := hp.2
  refine mTr_g hp.1 ?_
  have hp := hp.2
  refine mTr_if (fun h0 => ?_) (fun h0 => ?_)
  · skip
    have hp := hp.1 h0
    refine mTr_g hp.1 ?_
    have hp := hp.2
    refine mTr_g hp.1 ?_
    have hp := hp.2
    refine mTr_g hp.1 ?_
    have hp := hp.2
    refine mTr_if (fun h1 => ?_) (fun h1 => ?_)
    · skip
      have hp := hp h1
      refine mTr_g hp ?_
      exact mTr_e (by decide) (congrArg (fun z => [mI z]) (Eq.symm ((if_pos h0).trans (if_pos h1)))) rfl (by decide) (by decide)
    · skip
      exact mTr_e (by decide) (congrArg (fun z => [mI z]) (Eq.symm ((if_pos h0).trans (if_neg h1)))) rfl (by decide) (by decide)
  · skip
    have hp := hp.2 h0
    refine mTr_g hp.1 ?_
    have hp := hp.2
    refine mTr_g hp.1 ?_
    have hp := hp.2
    refine mTr_g hp.1 ?_
    have hp := hp.2
    refine mTr_g hp.1 ?_
    have hp := hp.2
    refine mTr_g hp.1 ?_
    have hp := hp.2
    refine mTr_g hp.1 ?_
    have hp := hp.2
    refine mTr_if (fun h1 => ?_) (fun h1 => ?_)
    · skip
      have hp := hp h1
      refine mTr_g hp ?_
      exact mTr_e (by decide) (congrArg (fun z => [mI z]) (Eq.symm ((if_neg h0).trans (if_pos h1)))) rfl (by decide) (by decide)
    · skip
      exact mTr_e (by decide) (congrArg (fun z => [mI z]) (Eq.symm ((if_neg h0).trans (if_neg h1)))) rfl (by decide) (by decide)
set_option maxRecDepth 100000 in
theorem lj_M_wouldAt_j20 (x1 : Int32) (x2 : Int32) (x3 : Int32) (x4 : Int32) (x5 : Int32) (y0 : Int32) (σ : MSto) (hp : gj_M_wouldAt_j20 x1 x2 x3 x4 x5 y0 σ) : mW1 P_M_wouldAt (20, [some (mR 13 0), some (mI x1), some (mI x2), some (mI x3), some (mI x4), some (mI x5), none, none, none], [(mI y0)], σ, 0, 0) (mF [136] [mI (vj_M_wouldAt_j20 x1 x2 x3 x4 x5 y0 σ)] σ 0 0) := by
  unfold gj_M_wouldAt_j20 at hp
  refine mW1_eq (q_M_wouldAt_20 _ _ _ _ _ _ _) ?_
  refine mTr_g hp.1 ?_
  have hp := hp.2
  refine mTr_if (fun h0 => ?_) (fun h0 => ?_)
  · skip
    have hp := hp.1 h0
    exact mTr_k (mF_cI (if_pos h0) rfl (lj_M_wouldAt_j49 x1 x2 x3 x4 x5 y0 σ hp))
  · skip
    have hp := hp.2 h0
    refine mTr_if (fun h1 => ?_) (fun h1 => ?_)
    · skip
      have hp := hp.1 h1
      exact mTr_k (mF_cI ((if_neg h0).trans (if_pos h1)) rfl (lj_M_wouldAt_j49 x1 x2 x3 x4 x5 y0 σ hp))
    · skip
      have hp := hp.2 h1
      refine mTr_if (fun h2 => ?_) (fun h2 => ?_)
      · skip
        have hp := hp.1 h2
        exact mTr_k (mF_cI ((if_neg h0).trans ((if_neg h1).trans (if_pos h2))) rfl (lj_M_wouldAt_j49 x1 x2 x3 x4 x5 y0 σ hp))
      · skip
        have hp := hp.2 h2
        refine mTr_g hp.1 ?_
        have hp := hp.2
        exact mTr_k (mF_cI ((if_neg h0).trans ((if_neg h1).trans (if_neg h2))) rfl (lj_M_wouldAt_j49 x1 x2 x3 x4 x5 (gI σ 55 0 (Int32.toNatClampNeg x1)) σ hp))
set_option maxRecDepth 100000 in
set_option maxHeartbeats 4000000 in
theorem d_M_wouldAt (a1 : Int32) (a2 : Int32) (a3 : Int32) (a4 : Int32) (a5 : Int32) (a6 : Int32) (σ : MSto) (hp : p_M_wouldAt a1 a2 a3 a4 a5 a6 σ) : mW1 P_M_wouldAt (0, [some (mR 13 0), some (mI a1), some (mI a2), some (mI a3), some (mI a4), some (mI a5), some (mI a6), none, none], [], σ, 0, 0) (mF [136] [mI (v_M_wouldAt a1 a2 a3 a4 a5 a6 σ)] σ 0 0) := by
  refine mW1_eq (q_M_wouldAt_e _ _ _ _ _ _ _) ?_
  unfold p_M_wouldAt at hp
  refine mTr_g hp.1 ?_
  have hp := hp.2
  refine mTr_if (fun h0 => ?_) (fun h0 => ?_)
  · skip
    have hp := hp.1 h0
    exact mTr_k (mF_cI (if_pos h0) rfl (lj_M_wouldAt_j20 a1 a2 a3 a4 a5 a6 σ hp))
  · skip
    have hp := hp.2 h0
    refine mTr_g hp.1 ?_
    have hp := hp.2
    exact mTr_k (mF_cI (if_neg h0) rfl (lj_M_wouldAt_j20 a1 a2 a3 a4 a5 (gI σ 52 0 (Int32.toNatClampNeg a1)) σ hp))
theorem li_M_384 : mLink "ClothWithManModel" 384 E_M_hasTerm := ⟨tw_7_221, tw_1_9, ⟨by decide, by decide⟩, by decide +kernel, Or.inl tw_7_218, (fun h => by cases h), (fun _ => ⟨tw_7_220, tw_0_78, TX12, 71, rfl⟩), (fun h => by cases h)⟩



theorem tk_M_wouldAt : ∀ pc i nx tg, T_M_wouldAt pc = some (i, nx, tg) → mOkB prog_14_method_72_code pc i nx tg = true := code_ok (N := 137) (fun k h => by unfold T_M_wouldAt; rw [h]; rfl) (by decide +kernel)
theorem ok_M_wouldAt (l : Launch) : mPOK l "ClothWithManModel" prog_14_method_72_code P_M_wouldAt := by
  refine ⟨tk_M_wouldAt, ?_, ?_, ?_, (fun pc i nx tg kd _ h => by cases h), ?_, ?_, fun pc en h => by cases h⟩
  · intro x ci f ty fin h
    exact mLook_all (Q := fun x v => mFOK "ClothWithManModel" x v.1 v.2.1 v.2.2.1 v.2.2.2 ∧ (v.2.2.2 = true → pIni P_M_wouldAt = true → (Cond.fieldLink "ClothWithManModel" x (((mCl[v.1]?).getD ("", fun _ => ("", "", "", false), 0)).2.1 v.2.1).1 (((mCl[v.1]?).getD ("", fun _ => ("", "", "", false), 0)).2.1 v.2.1).2.1 (((mCl[v.1]?).getD ("", fun _ => ("", "", "", false), 0)).2.1 v.2.1).2.2.1 ∈ lw_tbl ∧ (((mCl[v.1]?).getD ("", fun _ => ("", "", "", false), 0)).2.1 v.2.1).1 = "ClothWithManModel"))) (fcC ⟨fo_M_9, fun h1 h2 => by cases h2⟩ (fcC ⟨fo_M_29, fun h1 h2 => by cases h2⟩ (fcC ⟨fo_M_50, fun h1 h2 => by cases h2⟩ (fcC ⟨fo_M_53, fun h1 h2 => by cases h2⟩ (fcC ⟨fo_M_56, fun h1 h2 => by cases h2⟩ (fcC ⟨fo_M_59, fun h1 h2 => by cases h2⟩ (fcC ⟨fo_M_62, fun h1 h2 => by cases h2⟩ (fcC ⟨fo_M_65, fun h1 h2 => by cases h2⟩ (fcC ⟨fo_M_68, fun h1 h2 => by cases h2⟩ fcN))))))))) x (ci, f, ty, fin) h
  · intro x
    have hh := mLook_all (l := ([] : List (Nat × (Int32 ⊕ Int64)))) (Q := fun x (v : Int32 ⊕ Int64) => (∀ w, v = .inl w → Cond.constant "ClothWithManModel" x w ∈ lw_tbl) ∧ (∀ w, v = .inr w → Cond.constantLong "ClothWithManModel" x w ∈ lw_tbl)) fcN x
    exact ⟨fun w h => (hh _ h).1 w rfl, fun w h => (hh _ h).2 w rfl⟩
  · exact fun x en h => mLook_all (Q := fun x en => mLink "ClothWithManModel" x en ∧ mCtr l en ∧ (en.1.1 = 2 → en.2.2.2.2.2.2 = none)) (fcC ⟨li_M_256, c_M_mixed l, (fun h => by cases h)⟩ (fcC ⟨li_M_260, c_M_withStuff l, (fun h => by cases h)⟩ (fcC ⟨li_M_384, c_M_hasTerm l, (fun h => by cases h)⟩ fcN))) x en h
  · exact fun x kd h => mLook_all (Q := fun x kd => (kd = 95 ∧ Cond.fieldLink "ClothWithManModel" x "ClothWithMan" "LIKENESSES" "[I" ∈ lw_tbl) ∨ (kd = 96 ∧ Cond.fieldLink "ClothWithManModel" x "ClothWithMan" "APART_BOUNDS" "[I" ∈ lw_tbl)) fcN x kd h
  · exact fun x ci h => mLook_all (Q := fun x ci => ci ≠ 0 ∧ ∃ (C : String) (T : u_T) (N : Nat), mCl[ci]? = some (C, T, N) ∧ Cond.classLink "ClothWithManModel" x C ∈ lw_tbl ∧ Cond.instantiable C N ∈ lw_tbl) fcN x ci h
set_option maxRecDepth 100000 in
theorem c_M_wouldAt (l : Launch) : mCtr l E_M_wouldAt := mCtr_of (P := P_M_wouldAt) (own := "ClothWithManModel") mLay_ok rfl (by decide +kernel) rfl (ok_M_wouldAt l) (fun h => by cases h) (fun as σ pr rv σ' hF hpr hlv => by
  unfold E_M_wouldAt S_M_wouldAt at hF
  simp only [] at hF
  split at hF
  · cases hF
    obtain ⟨n, pcF, c1, s1, g1, g2, g3, g4⟩ := mF_inv (d_M_wouldAt _ _ _ _ _ _ σ (hpr _ rfl))
    exact ⟨Nat.le_of_ble_eq_true rfl, (fun v h => by cases h; trivial), n, pcF, c1, s1, g1, ⟨mEnd_of (i := .ireturn) (P := P_M_wouldAt) (rets := [136]) rfl g2, rfl⟩, g3, g4⟩
  · cases hF
    exact (hpr _ rfl).elim)
/-! ClothWithManModel.wouldOf(III)I -/
noncomputable def v_M_wouldOf (a1 : Int32) (a2 : Int32) (a3 : Int32) (σ : MSto) : Int32 := (v_M_wouldAt a1 (gI σ 47 0 (Int32.toNatClampNeg a2)) (gI σ 48 0 (Int32.toNatClampNeg a2)) (gI σ 49 0 (Int32.toNatClampNeg a2)) (gI σ 50 0 (Int32.toNatClampNeg a2)) a3 σ)
def p_M_wouldOf (a1 : Int32) (a2 : Int32) (a3 : Int32) (σ : MSto) : Prop := ((vp_in a2 12) ∧ ((vp_in a2 12) ∧ ((vp_in a2 12) ∧ ((vp_in a2 12) ∧ (p_M_wouldAt a1 (gI σ 47 0 (Int32.toNatClampNeg a2)) (gI σ 48 0 (Int32.toNatClampNeg a2)) (gI σ 49 0 (Int32.toNatClampNeg a2)) (gI σ 50 0 (Int32.toNatClampNeg a2)) a3 σ)))))
noncomputable def S_M_wouldOf : List MV → MSto → Option Prop × Option MV × MSto := fun as σ => match as with
  | [.inr (.inr (some (13, 0))), .inl a0, .inl a1, .inl a2] => (some (p_M_wouldOf a0 a1 a2 σ), some (mI (v_M_wouldOf a0 a1 a2 σ)), σ)
  | _ => (some False, none, σ)
noncomputable def E_M_wouldOf : MEnt := ((1, 3, 13), (3, 77, 0, 0), S_M_wouldOf, ((⟨"ClothWithManModel", "wouldOf", "(III)I"⟩ : MethodName), prog_14_method_73_code, 4, (some .int)))

def T_M_wouldOf : Nat → Option (Instr × Nat × List Nat) := fun k => bif Nat.blt k 31 then (bif Nat.blt k 14 then (bif Nat.blt k 7 then (bif Nat.blt k 2 then (bif Nat.blt k 1 then (bif Nat.beq k 0 then some (.aload_n 0, 1, []) else none) else (bif Nat.beq k 1 then some (.iload_n 1, 2, []) else none)) else (bif Nat.blt k 3 then (bif Nat.beq k 2 then some (.aload_n 0, 3, []) else none) else (bif Nat.blt k 6 then (bif Nat.beq k 3 then some (.getfield 35, 6, []) else none) else (bif Nat.beq k 6 then some (.iload_n 2, 7, []) else none)))) else (bif Nat.blt k 9 then (bif Nat.blt k 8 then (bif Nat.beq k 7 then some (.iaload, 8, []) else none) else (bif Nat.beq k 8 then some (.aload_n 0, 9, []) else none)) else (bif Nat.blt k 12 then (bif Nat.beq k 9 then some (.getfield 38, 12, []) else none) else (bif Nat.blt k 13 then (bif Nat.beq k 12 then some (.iload_n 2, 13, []) else none) else (bif Nat.beq k 13 then some (.iaload, 14, []) else none))))) else (bif Nat.blt k 21 then (bif Nat.blt k 18 then (bif Nat.blt k 15 then (bif Nat.beq k 14 then some (.aload_n 0, 15, []) else none) else (bif Nat.beq k 15 then some (.getfield 41, 18, []) else none)) else (bif Nat.blt k 19 then (bif Nat.beq k 18 then some (.iload_n 2, 19, []) else none) else (bif Nat.blt k 20 then (bif Nat.beq k 19 then some (.iaload, 20, []) else none) else (bif Nat.beq k 20 then some (.aload_n 0, 21, []) else none)))) else (bif Nat.blt k 26 then (bif Nat.blt k 24 then (bif Nat.beq k 21 then some (.getfield 44, 24, []) else none) else (bif Nat.blt k 25 then (bif Nat.beq k 24 then some (.iload_n 2, 25, []) else none) else (bif Nat.beq k 25 then some (.iaload, 26, []) else none))) else (bif Nat.blt k 27 then (bif Nat.beq k 26 then some (.iload_n 3, 27, []) else none) else (bif Nat.blt k 30 then (bif Nat.beq k 27 then some (.invokevirtual 387, 30, []) else none) else (bif Nat.beq k 30 then some (.ireturn, 31, []) else none)))))) else none
noncomputable def P_M_wouldOf : MP := (T_M_wouldOf, (fun k => mLook k [(35, (13, 11, (.array .int), true)), (38, (13, 12, (.array .int), true)), (41, (13, 13, (.array .int), true)), (44, (13, 14, (.array .int), true))]), (fun k => mLook k []), (fun k => mLook k [(387, E_M_wouldAt)]), (fun k => mLook k []), (fun k => mLook k []), (fun k => mLook k []), (fun k => mLook k []), (fun k => [30].any (Nat.beq k)), (3, 77, 0, 0), false, (fun _ => none))
set_option maxRecDepth 100000 in
set_option maxHeartbeats 4000000 in
theorem q_M_wouldOf_e (a1 : Int32) (a2 : Int32) (a3 : Int32) (σ : MSto) (n : Nat) : mexe KT P_M_wouldOf (n + 1) (0, [some (mR 13 0), some (mI a1), some (mI a2), some (mI a3)], [], σ, 0, 0) = mG (vp_in a2 12) (mG (vp_in a2 12) (mG (vp_in a2 12) (mG (vp_in a2 12) (mG (p_M_wouldAt a1 (gI σ 47 0 (Int32.toNatClampNeg a2)) (gI σ 48 0 (Int32.toNatClampNeg a2)) (gI σ 49 0 (Int32.toNatClampNeg a2)) (gI σ 50 0 (Int32.toNatClampNeg a2)) a3 σ) (some (30, [], [(mI (v_M_wouldAt a1 (gI σ 47 0 (Int32.toNatClampNeg a2)) (gI σ 48 0 (Int32.toNatClampNeg a2)) (gI σ 49 0 (Int32.toNatClampNeg a2)) (gI σ 50 0 (Int32.toNatClampNeg a2)) a3 σ))], σ, 0, 0)))))) := rfl
set_option maxRecDepth 100000 in
set_option maxHeartbeats 4000000 in
theorem d_M_wouldOf (a1 : Int32) (a2 : Int32) (a3 : Int32) (σ : MSto) (hp : p_M_wouldOf a1 a2 a3 σ) : mW1 P_M_wouldOf (0, [some (mR 13 0), some (mI a1), some (mI a2), some (mI a3)], [], σ, 0, 0) (mF [30] [mI (v_M_wouldOf a1 a2 a3 σ)] σ 0 0) := by
  refine mW1_eq (q_M_wouldOf_e _ _ _ _) ?_
  unfold p_M_wouldOf at hp
  refine mTr_g hp.1 ?_
  have hp := hp.2
  refine mTr_g hp.1 ?_
  have hp := hp.2
  refine mTr_g hp.1 ?_
  have hp := hp.2
  refine mTr_g hp.1 ?_
  have hp := hp.2
  refine mTr_g hp ?_
  exact mTr_e (by decide) (congrArg (fun z => [mI z]) (Eq.symm (rfl))) rfl (by decide) (by decide)
theorem li_M_387 : mLink "ClothWithManModel" 387 E_M_wouldAt := ⟨tw_7_217, tw_1_9, ⟨by decide, by decide⟩, by decide +kernel, Or.inl tw_7_214, (fun h => by cases h), (fun _ => ⟨tw_7_216, tw_0_77, TX12, 71, rfl⟩), (fun h => by cases h)⟩

theorem tk_M_wouldOf : ∀ pc i nx tg, T_M_wouldOf pc = some (i, nx, tg) → mOkB prog_14_method_73_code pc i nx tg = true := code_ok (N := 31) (fun k h => by unfold T_M_wouldOf; rw [h]; rfl) (by decide +kernel)
theorem ok_M_wouldOf (l : Launch) : mPOK l "ClothWithManModel" prog_14_method_73_code P_M_wouldOf := by
  refine ⟨tk_M_wouldOf, ?_, ?_, ?_, (fun pc i nx tg kd _ h => by cases h), ?_, ?_, fun pc en h => by cases h⟩
  · intro x ci f ty fin h
    exact mLook_all (Q := fun x v => mFOK "ClothWithManModel" x v.1 v.2.1 v.2.2.1 v.2.2.2 ∧ (v.2.2.2 = true → pIni P_M_wouldOf = true → (Cond.fieldLink "ClothWithManModel" x (((mCl[v.1]?).getD ("", fun _ => ("", "", "", false), 0)).2.1 v.2.1).1 (((mCl[v.1]?).getD ("", fun _ => ("", "", "", false), 0)).2.1 v.2.1).2.1 (((mCl[v.1]?).getD ("", fun _ => ("", "", "", false), 0)).2.1 v.2.1).2.2.1 ∈ lw_tbl ∧ (((mCl[v.1]?).getD ("", fun _ => ("", "", "", false), 0)).2.1 v.2.1).1 = "ClothWithManModel"))) (fcC ⟨fo_M_35, fun h1 h2 => by cases h2⟩ (fcC ⟨fo_M_38, fun h1 h2 => by cases h2⟩ (fcC ⟨fo_M_41, fun h1 h2 => by cases h2⟩ (fcC ⟨fo_M_44, fun h1 h2 => by cases h2⟩ fcN)))) x (ci, f, ty, fin) h
  · intro x
    have hh := mLook_all (l := ([] : List (Nat × (Int32 ⊕ Int64)))) (Q := fun x (v : Int32 ⊕ Int64) => (∀ w, v = .inl w → Cond.constant "ClothWithManModel" x w ∈ lw_tbl) ∧ (∀ w, v = .inr w → Cond.constantLong "ClothWithManModel" x w ∈ lw_tbl)) fcN x
    exact ⟨fun w h => (hh _ h).1 w rfl, fun w h => (hh _ h).2 w rfl⟩
  · exact fun x en h => mLook_all (Q := fun x en => mLink "ClothWithManModel" x en ∧ mCtr l en ∧ (en.1.1 = 2 → en.2.2.2.2.2.2 = none)) (fcC ⟨li_M_387, c_M_wouldAt l, (fun h => by cases h)⟩ fcN) x en h
  · exact fun x kd h => mLook_all (Q := fun x kd => (kd = 95 ∧ Cond.fieldLink "ClothWithManModel" x "ClothWithMan" "LIKENESSES" "[I" ∈ lw_tbl) ∨ (kd = 96 ∧ Cond.fieldLink "ClothWithManModel" x "ClothWithMan" "APART_BOUNDS" "[I" ∈ lw_tbl)) fcN x kd h
  · exact fun x ci h => mLook_all (Q := fun x ci => ci ≠ 0 ∧ ∃ (C : String) (T : u_T) (N : Nat), mCl[ci]? = some (C, T, N) ∧ Cond.classLink "ClothWithManModel" x C ∈ lw_tbl ∧ Cond.instantiable C N ∈ lw_tbl) fcN x ci h
set_option maxRecDepth 100000 in
theorem c_M_wouldOf (l : Launch) : mCtr l E_M_wouldOf := mCtr_of (P := P_M_wouldOf) (own := "ClothWithManModel") mLay_ok rfl (by decide +kernel) rfl (ok_M_wouldOf l) (fun h => by cases h) (fun as σ pr rv σ' hF hpr hlv => by
  unfold E_M_wouldOf S_M_wouldOf at hF
  simp only [] at hF
  split at hF
  · cases hF
    obtain ⟨n, pcF, c1, s1, g1, g2, g3, g4⟩ := mF_inv (d_M_wouldOf _ _ _ σ (hpr _ rfl))
    exact ⟨Nat.le_of_ble_eq_true rfl, (fun v h => by cases h; trivial), n, pcF, c1, s1, g1, ⟨mEnd_of (i := .ireturn) (P := P_M_wouldOf) (rets := [30]) rfl g2, rfl⟩, g3, g4⟩
  · cases hF
    exact (hpr _ rfl).elim)
/-! ClothWithManModel.would(III)I -/
noncomputable def v_M_would (a1 : Int32) (a2 : Int32) (a3 : Int32) (σ : MSto) : Int32 := (if (v_M_isStory a1 (sI σ 13 0 52 0)) = 0 then (v_M_lost (sI σ 13 0 52 0)) else (if (v_M_isPiece a2 (sI σ 13 0 52 0)) = 0 then (v_M_lost (sI σ 13 0 52 0)) else (if (v_M_isYear a3 (sI σ 13 0 52 0)) = 0 then (v_M_lost (sI σ 13 0 52 0)) else (v_M_wouldOf a1 a2 a3 (sI σ 13 0 52 0)))))
def p_M_would (a1 : Int32) (a2 : Int32) (a3 : Int32) (σ : MSto) : Prop := (¬ ((v_M_isStory a1 (sI σ 13 0 52 0)) = 0) → (¬ ((v_M_isPiece a2 (sI σ 13 0 52 0)) = 0) → (¬ ((v_M_isYear a3 (sI σ 13 0 52 0)) = 0) → (p_M_wouldOf a1 a2 a3 (sI σ 13 0 52 0)))))
noncomputable def e_M_would (a1 : Int32) (a2 : Int32) (a3 : Int32) (σ : MSto) : MSto := (if (v_M_isStory a1 (sI σ 13 0 52 0)) = 0 then (e_M_lost (sI σ 13 0 52 0)) else (if (v_M_isPiece a2 (sI σ 13 0 52 0)) = 0 then (e_M_lost (sI σ 13 0 52 0)) else (if (v_M_isYear a3 (sI σ 13 0 52 0)) = 0 then (e_M_lost (sI σ 13 0 52 0)) else (sI σ 13 0 52 0))))
noncomputable def S_M_would : List MV → MSto → Option Prop × Option MV × MSto := fun as σ => match as with
  | [.inr (.inr (some (13, 0))), .inl a0, .inl a1, .inl a2] => (some (p_M_would a0 a1 a2 σ), some (mI (v_M_would a0 a1 a2 σ)), e_M_would a0 a1 a2 σ)
  | _ => (some False, none, σ)
noncomputable def E_M_would : MEnt := ((1, 3, 13), (4, 100, 0, 0), S_M_would, ((⟨"ClothWithManModel", "would", "(III)I"⟩ : MethodName), prog_14_method_74_code, 4, (some .int)))

def T_M_would : Nat → Option (Instr × Nat × List Nat) := fun k => bif Nat.blt k 43 then (bif Nat.blt k 21 then (bif Nat.blt k 7 then (bif Nat.blt k 2 then (bif Nat.blt k 1 then (bif Nat.beq k 0 then some (.aload_n 0, 1, []) else none) else (bif Nat.beq k 1 then some (.iconst 0, 2, []) else none)) else (bif Nat.blt k 5 then (bif Nat.beq k 2 then some (.putfield 161, 5, []) else none) else (bif Nat.blt k 6 then (bif Nat.beq k 5 then some (.aload_n 0, 6, []) else none) else (bif Nat.beq k 6 then some (.iload_n 1, 7, []) else none)))) else (bif Nat.blt k 14 then (bif Nat.blt k 10 then (bif Nat.beq k 7 then some (.invokevirtual 381, 10, []) else none) else (bif Nat.blt k 13 then (bif Nat.beq k 10 then some (.ifCond .eq 28, 13, [38]) else none) else (bif Nat.beq k 13 then some (.aload_n 0, 14, []) else none))) else (bif Nat.blt k 15 then (bif Nat.beq k 14 then some (.iload_n 2, 15, []) else none) else (bif Nat.blt k 18 then (bif Nat.beq k 15 then some (.invokevirtual 267, 18, []) else none) else (bif Nat.beq k 18 then some (.ifCond .eq 20, 21, [38]) else none))))) else (bif Nat.blt k 31 then (bif Nat.blt k 28 then (bif Nat.blt k 22 then (bif Nat.beq k 21 then some (.iload_n 3, 22, []) else none) else (bif Nat.blt k 25 then (bif Nat.beq k 22 then some (.invokestatic 228, 25, []) else none) else (bif Nat.beq k 25 then some (.ifCond .eq 13, 28, [38]) else none))) else (bif Nat.blt k 29 then (bif Nat.beq k 28 then some (.aload_n 0, 29, []) else none) else (bif Nat.blt k 30 then (bif Nat.beq k 29 then some (.iload_n 1, 30, []) else none) else (bif Nat.beq k 30 then some (.iload_n 2, 31, []) else none)))) else (bif Nat.blt k 38 then (bif Nat.blt k 32 then (bif Nat.beq k 31 then some (.iload_n 3, 32, []) else none) else (bif Nat.blt k 35 then (bif Nat.beq k 32 then some (.invokevirtual 391, 35, []) else none) else (bif Nat.beq k 35 then some (.goto 7, 38, [42]) else none))) else (bif Nat.blt k 39 then (bif Nat.beq k 38 then some (.aload_n 0, 39, []) else none) else (bif Nat.blt k 42 then (bif Nat.beq k 39 then some (.invokevirtual 274, 42, []) else none) else (bif Nat.beq k 42 then some (.ireturn, 43, []) else none)))))) else none
noncomputable def P_M_would : MP := (T_M_would, (fun k => mLook k [(161, (13, 52, .int, false))]), (fun k => mLook k []), (fun k => mLook k [(228, E_M_isYear), (267, E_M_isPiece), (274, E_M_lost), (381, E_M_isStory), (391, E_M_wouldOf)]), (fun k => mLook k []), (fun k => mLook k []), (fun k => mLook k []), (fun k => mLook k []), (fun k => [42].any (Nat.beq k)), (4, 100, 0, 0), false, (fun _ => none))
set_option maxRecDepth 100000 in
set_option maxHeartbeats 4000000 in
theorem q_M_would_e (a1 : Int32) (a2 : Int32) (a3 : Int32) (σ : MSto) (n : Nat) : mexe KT P_M_would (n + 1) (0, [some (mR 13 0), some (mI a1), some (mI a2), some (mI a3)], [], σ, 0, 0) = mIf ((v_M_isStory a1 (sI σ 13 0 52 0)) = 0) (some (42, [], [(mI (v_M_lost (sI σ 13 0 52 0)))], (e_M_lost (sI σ 13 0 52 0)), 0, 0)) (mIf ((v_M_isPiece a2 (sI σ 13 0 52 0)) = 0) (some (42, [], [(mI (v_M_lost (sI σ 13 0 52 0)))], (e_M_lost (sI σ 13 0 52 0)), 0, 0)) (mIf ((v_M_isYear a3 (sI σ 13 0 52 0)) = 0) (some (42, [], [(mI (v_M_lost (sI σ 13 0 52 0)))], (e_M_lost (sI σ 13 0 52 0)), 0, 0)) (mG (p_M_wouldOf a1 a2 a3 (sI σ 13 0 52 0)) (some (42, [], [(mI (v_M_wouldOf a1 a2 a3 (sI σ 13 0 52 0)))], (sI σ 13 0 52 0), 0, 0))))) := rfl
set_option maxRecDepth 100000 in
set_option maxHeartbeats 4000000 in
theorem d_M_would (a1 : Int32) (a2 : Int32) (a3 : Int32) (σ : MSto) (hp : p_M_would a1 a2 a3 σ) : mW1 P_M_would (0, [some (mR 13 0), some (mI a1), some (mI a2), some (mI a3)], [], σ, 0, 0) (mF [42] [mI (v_M_would a1 a2 a3 σ)] (e_M_would a1 a2 a3 σ) 0 0) := by
  refine mW1_eq (q_M_would_e _ _ _ _) ?_
  unfold p_M_would at hp
  refine mTr_if (fun h0 => ?_) (fun h0 => ?_)
  · skip
    exact mTr_e (by decide) (congrArg (fun z => [mI z]) (Eq.symm (if_pos h0))) (Eq.symm (if_pos h0)) (by decide) (by decide)
  · skip
    have hp := hp h0
    refine mTr_if (fun h1 => ?_) (fun h1 => ?_)
    · skip
      exact mTr_e (by decide) (congrArg (fun z => [mI z]) (Eq.symm ((if_neg h0).trans (if_pos h1)))) (Eq.symm ((if_neg h0).trans (if_pos h1))) (by decide) (by decide)
    · skip
      have hp := hp h1
      refine mTr_if (fun h2 => ?_) (fun h2 => ?_)
      · skip
        exact mTr_e (by decide) (congrArg (fun z => [mI z]) (Eq.symm ((if_neg h0).trans ((if_neg h1).trans (if_pos h2))))) (Eq.symm ((if_neg h0).trans ((if_neg h1).trans (if_pos h2)))) (by decide) (by decide)
      · skip
        have hp := hp h2
        refine mTr_g hp ?_
        exact mTr_e (by decide) (congrArg (fun z => [mI z]) (Eq.symm ((if_neg h0).trans ((if_neg h1).trans (if_neg h2))))) (Eq.symm ((if_neg h0).trans ((if_neg h1).trans (if_neg h2)))) (by decide) (by decide)
theorem li_M_391 : mLink "ClothWithManModel" 391 E_M_wouldOf := ⟨tw_7_213, tw_1_9, ⟨by decide, by decide⟩, by decide +kernel, Or.inl tw_7_210, (fun h => by cases h), (fun _ => ⟨tw_7_212, tw_0_76, TX12, 71, rfl⟩), (fun h => by cases h)⟩





theorem tk_M_would : ∀ pc i nx tg, T_M_would pc = some (i, nx, tg) → mOkB prog_14_method_74_code pc i nx tg = true := code_ok (N := 43) (fun k h => by unfold T_M_would; rw [h]; rfl) (by decide +kernel)
theorem ok_M_would (l : Launch) : mPOK l "ClothWithManModel" prog_14_method_74_code P_M_would := by
  refine ⟨tk_M_would, ?_, ?_, ?_, (fun pc i nx tg kd _ h => by cases h), ?_, ?_, fun pc en h => by cases h⟩
  · intro x ci f ty fin h
    exact mLook_all (Q := fun x v => mFOK "ClothWithManModel" x v.1 v.2.1 v.2.2.1 v.2.2.2 ∧ (v.2.2.2 = true → pIni P_M_would = true → (Cond.fieldLink "ClothWithManModel" x (((mCl[v.1]?).getD ("", fun _ => ("", "", "", false), 0)).2.1 v.2.1).1 (((mCl[v.1]?).getD ("", fun _ => ("", "", "", false), 0)).2.1 v.2.1).2.1 (((mCl[v.1]?).getD ("", fun _ => ("", "", "", false), 0)).2.1 v.2.1).2.2.1 ∈ lw_tbl ∧ (((mCl[v.1]?).getD ("", fun _ => ("", "", "", false), 0)).2.1 v.2.1).1 = "ClothWithManModel"))) (fcC ⟨fo_M_161, fun h1 h2 => by cases h1⟩ fcN) x (ci, f, ty, fin) h
  · intro x
    have hh := mLook_all (l := ([] : List (Nat × (Int32 ⊕ Int64)))) (Q := fun x (v : Int32 ⊕ Int64) => (∀ w, v = .inl w → Cond.constant "ClothWithManModel" x w ∈ lw_tbl) ∧ (∀ w, v = .inr w → Cond.constantLong "ClothWithManModel" x w ∈ lw_tbl)) fcN x
    exact ⟨fun w h => (hh _ h).1 w rfl, fun w h => (hh _ h).2 w rfl⟩
  · exact fun x en h => mLook_all (Q := fun x en => mLink "ClothWithManModel" x en ∧ mCtr l en ∧ (en.1.1 = 2 → en.2.2.2.2.2.2 = none)) (fcC ⟨li_M_228, c_M_isYear l, (fun h => by cases h)⟩ (fcC ⟨li_M_267, c_M_isPiece l, (fun h => by cases h)⟩ (fcC ⟨li_M_274, c_M_lost l, (fun h => by cases h)⟩ (fcC ⟨li_M_381, c_M_isStory l, (fun h => by cases h)⟩ (fcC ⟨li_M_391, c_M_wouldOf l, (fun h => by cases h)⟩ fcN))))) x en h
  · exact fun x kd h => mLook_all (Q := fun x kd => (kd = 95 ∧ Cond.fieldLink "ClothWithManModel" x "ClothWithMan" "LIKENESSES" "[I" ∈ lw_tbl) ∨ (kd = 96 ∧ Cond.fieldLink "ClothWithManModel" x "ClothWithMan" "APART_BOUNDS" "[I" ∈ lw_tbl)) fcN x kd h
  · exact fun x ci h => mLook_all (Q := fun x ci => ci ≠ 0 ∧ ∃ (C : String) (T : u_T) (N : Nat), mCl[ci]? = some (C, T, N) ∧ Cond.classLink "ClothWithManModel" x C ∈ lw_tbl ∧ Cond.instantiable C N ∈ lw_tbl) fcN x ci h
set_option maxRecDepth 100000 in
theorem c_M_would (l : Launch) : mCtr l E_M_would := mCtr_of (P := P_M_would) (own := "ClothWithManModel") mLay_ok rfl (by decide +kernel) rfl (ok_M_would l) (fun h => by cases h) (fun as σ pr rv σ' hF hpr hlv => by
  unfold E_M_would S_M_would at hF
  simp only [] at hF
  split at hF
  · cases hF
    obtain ⟨n, pcF, c1, s1, g1, g2, g3, g4⟩ := mF_inv (d_M_would _ _ _ σ (hpr _ rfl))
    exact ⟨Nat.le_of_ble_eq_true rfl, (fun v h => by cases h; trivial), n, pcF, c1, s1, g1, ⟨mEnd_of (i := .ireturn) (P := P_M_would) (rets := [42]) rfl g2, rfl⟩, g3, g4⟩
  · cases hF
    exact (hpr _ rfl).elim)
/-! ClothWithManModel.paper(IZI)I -/
noncomputable def v_M_paper (a1 : Int32) (a2 : Int32) (a3 : Int32) (σ : MSto) : Int32 := (if (v_M_isYear a1 (sI σ 13 0 52 0)) = 0 then (-1) else (if (v_M_in a3 1 9 (sI σ 13 0 52 0)) = 0 then (-1) else (if (gI (sI σ 13 0 52 0) 13 0 27) = 4 then (-1) else ((gI (sI (sI (sI (sI (sI σ 13 0 52 0) 61 0 (Int32.toNatClampNeg (gI (sI σ 13 0 52 0) 13 0 27)) a1) 62 0 (Int32.toNatClampNeg (gI (sI (sI σ 13 0 52 0) 61 0 (Int32.toNatClampNeg (gI (sI σ 13 0 52 0) 13 0 27)) a1) 13 0 27)) (vp_nar .boolean a2)) 63 0 (Int32.toNatClampNeg (gI (sI (sI (sI σ 13 0 52 0) 61 0 (Int32.toNatClampNeg (gI (sI σ 13 0 52 0) 13 0 27)) a1) 62 0 (Int32.toNatClampNeg (gI (sI (sI σ 13 0 52 0) 61 0 (Int32.toNatClampNeg (gI (sI σ 13 0 52 0) 13 0 27)) a1) 13 0 27)) (vp_nar .boolean a2)) 13 0 27)) a3) 13 0 27 ((gI (sI (sI (sI (sI σ 13 0 52 0) 61 0 (Int32.toNatClampNeg (gI (sI σ 13 0 52 0) 13 0 27)) a1) 62 0 (Int32.toNatClampNeg (gI (sI (sI σ 13 0 52 0) 61 0 (Int32.toNatClampNeg (gI (sI σ 13 0 52 0) 13 0 27)) a1) 13 0 27)) (vp_nar .boolean a2)) 63 0 (Int32.toNatClampNeg (gI (sI (sI (sI σ 13 0 52 0) 61 0 (Int32.toNatClampNeg (gI (sI σ 13 0 52 0) 13 0 27)) a1) 62 0 (Int32.toNatClampNeg (gI (sI (sI σ 13 0 52 0) 61 0 (Int32.toNatClampNeg (gI (sI σ 13 0 52 0) 13 0 27)) a1) 13 0 27)) (vp_nar .boolean a2)) 13 0 27)) a3) 13 0 27) + 1)) 13 0 27) - 1))))
def p_M_paper (a1 : Int32) (a2 : Int32) (a3 : Int32) (σ : MSto) : Prop := (¬ ((v_M_isYear a1 (sI σ 13 0 52 0)) = 0) → (¬ ((v_M_in a3 1 9 (sI σ 13 0 52 0)) = 0) → (¬ ((gI (sI σ 13 0 52 0) 13 0 27) = 4) → ((vp_in (gI (sI σ 13 0 52 0) 13 0 27) 4) ∧ ((vp_in (gI (sI (sI σ 13 0 52 0) 61 0 (Int32.toNatClampNeg (gI (sI σ 13 0 52 0) 13 0 27)) a1) 13 0 27) 4) ∧ (vp_in (gI (sI (sI (sI σ 13 0 52 0) 61 0 (Int32.toNatClampNeg (gI (sI σ 13 0 52 0) 13 0 27)) a1) 62 0 (Int32.toNatClampNeg (gI (sI (sI σ 13 0 52 0) 61 0 (Int32.toNatClampNeg (gI (sI σ 13 0 52 0) 13 0 27)) a1) 13 0 27)) (vp_nar .boolean a2)) 13 0 27) 4))))))
noncomputable def e_M_paper (a1 : Int32) (a2 : Int32) (a3 : Int32) (σ : MSto) : MSto := (if (v_M_isYear a1 (sI σ 13 0 52 0)) = 0 then (sI σ 13 0 52 0) else (if (v_M_in a3 1 9 (sI σ 13 0 52 0)) = 0 then (sI σ 13 0 52 0) else (if (gI (sI σ 13 0 52 0) 13 0 27) = 4 then (sI σ 13 0 52 0) else (sI (sI (sI (sI (sI σ 13 0 52 0) 61 0 (Int32.toNatClampNeg (gI (sI σ 13 0 52 0) 13 0 27)) a1) 62 0 (Int32.toNatClampNeg (gI (sI (sI σ 13 0 52 0) 61 0 (Int32.toNatClampNeg (gI (sI σ 13 0 52 0) 13 0 27)) a1) 13 0 27)) (vp_nar .boolean a2)) 63 0 (Int32.toNatClampNeg (gI (sI (sI (sI σ 13 0 52 0) 61 0 (Int32.toNatClampNeg (gI (sI σ 13 0 52 0) 13 0 27)) a1) 62 0 (Int32.toNatClampNeg (gI (sI (sI σ 13 0 52 0) 61 0 (Int32.toNatClampNeg (gI (sI σ 13 0 52 0) 13 0 27)) a1) 13 0 27)) (vp_nar .boolean a2)) 13 0 27)) a3) 13 0 27 ((gI (sI (sI (sI (sI σ 13 0 52 0) 61 0 (Int32.toNatClampNeg (gI (sI σ 13 0 52 0) 13 0 27)) a1) 62 0 (Int32.toNatClampNeg (gI (sI (sI σ 13 0 52 0) 61 0 (Int32.toNatClampNeg (gI (sI σ 13 0 52 0) 13 0 27)) a1) 13 0 27)) (vp_nar .boolean a2)) 63 0 (Int32.toNatClampNeg (gI (sI (sI (sI σ 13 0 52 0) 61 0 (Int32.toNatClampNeg (gI (sI σ 13 0 52 0) 13 0 27)) a1) 62 0 (Int32.toNatClampNeg (gI (sI (sI σ 13 0 52 0) 61 0 (Int32.toNatClampNeg (gI (sI σ 13 0 52 0) 13 0 27)) a1) 13 0 27)) (vp_nar .boolean a2)) 13 0 27)) a3) 13 0 27) + 1)))))
noncomputable def S_M_paper : List MV → MSto → Option Prop × Option MV × MSto := fun as σ => match as with
  | [.inr (.inr (some (13, 0))), .inl a0, .inl a1, .inl a2] => (some (p_M_paper a0 a1 a2 σ), some (mI (v_M_paper a0 a1 a2 σ)), e_M_paper a0 a1 a2 σ)
  | _ => (some False, none, σ)
noncomputable def E_M_paper : MEnt := ((1, 3, 13), (2, 42, 0, 0), S_M_paper, ((⟨"ClothWithManModel", "paper", "(IZI)I"⟩ : MethodName), prog_14_method_75_code, 4, (some .int)))

def T_M_paper : Nat → Option (Instr × Nat × List Nat) := fun k => bif Nat.blt k 79 then (bif Nat.blt k 42 then (bif Nat.blt k 22 then (bif Nat.blt k 9 then (bif Nat.blt k 2 then (bif Nat.blt k 1 then (bif Nat.beq k 0 then some (.aload_n 0, 1, []) else none) else (bif Nat.beq k 1 then some (.iconst 0, 2, []) else none)) else (bif Nat.blt k 5 then (bif Nat.beq k 2 then some (.putfield 161, 5, []) else none) else (bif Nat.blt k 6 then (bif Nat.beq k 5 then some (.iload_n 1, 6, []) else none) else (bif Nat.beq k 6 then some (.invokestatic 228, 9, []) else none)))) else (bif Nat.blt k 14 then (bif Nat.blt k 12 then (bif Nat.beq k 9 then some (.ifCond .eq 21, 12, [30]) else none) else (bif Nat.blt k 13 then (bif Nat.beq k 12 then some (.iload_n 3, 13, []) else none) else (bif Nat.beq k 13 then some (.iconst 1, 14, []) else none))) else (bif Nat.blt k 16 then (bif Nat.beq k 14 then some (.bipush 9, 16, []) else none) else (bif Nat.blt k 19 then (bif Nat.beq k 16 then some (.invokestatic 181, 19, []) else none) else (bif Nat.beq k 19 then some (.ifCond .eq 11, 22, [30]) else none))))) else (bif Nat.blt k 32 then (bif Nat.blt k 27 then (bif Nat.blt k 23 then (bif Nat.beq k 22 then some (.aload_n 0, 23, []) else none) else (bif Nat.blt k 26 then (bif Nat.beq k 23 then some (.getfield 394, 26, []) else none) else (bif Nat.beq k 26 then some (.iconst 4, 27, []) else none))) else (bif Nat.blt k 30 then (bif Nat.beq k 27 then some (.if_icmp .ne 5, 30, [32]) else none) else (bif Nat.blt k 31 then (bif Nat.beq k 30 then some (.iconst (-1), 31, []) else none) else (bif Nat.beq k 31 then some (.ireturn, 32, []) else none)))) else (bif Nat.blt k 37 then (bif Nat.blt k 33 then (bif Nat.beq k 32 then some (.aload_n 0, 33, []) else none) else (bif Nat.blt k 36 then (bif Nat.beq k 33 then some (.getfield 77, 36, []) else none) else (bif Nat.beq k 36 then some (.aload_n 0, 37, []) else none))) else (bif Nat.blt k 40 then (bif Nat.beq k 37 then some (.getfield 394, 40, []) else none) else (bif Nat.blt k 41 then (bif Nat.beq k 40 then some (.iload_n 1, 41, []) else none) else (bif Nat.beq k 41 then some (.iastore, 42, []) else none)))))) else (bif Nat.blt k 61 then (bif Nat.blt k 51 then (bif Nat.blt k 46 then (bif Nat.blt k 43 then (bif Nat.beq k 42 then some (.aload_n 0, 43, []) else none) else (bif Nat.beq k 43 then some (.getfield 80, 46, []) else none)) else (bif Nat.blt k 47 then (bif Nat.beq k 46 then some (.aload_n 0, 47, []) else none) else (bif Nat.blt k 50 then (bif Nat.beq k 47 then some (.getfield 394, 50, []) else none) else (bif Nat.beq k 50 then some (.iload_n 2, 51, []) else none)))) else (bif Nat.blt k 56 then (bif Nat.blt k 52 then (bif Nat.beq k 51 then some (.bastore, 52, []) else none) else (bif Nat.blt k 53 then (bif Nat.beq k 52 then some (.aload_n 0, 53, []) else none) else (bif Nat.beq k 53 then some (.getfield 84, 56, []) else none))) else (bif Nat.blt k 57 then (bif Nat.beq k 56 then some (.aload_n 0, 57, []) else none) else (bif Nat.blt k 60 then (bif Nat.beq k 57 then some (.getfield 394, 60, []) else none) else (bif Nat.beq k 60 then some (.iload_n 3, 61, []) else none))))) else (bif Nat.blt k 69 then (bif Nat.blt k 64 then (bif Nat.blt k 62 then (bif Nat.beq k 61 then some (.iastore, 62, []) else none) else (bif Nat.blt k 63 then (bif Nat.beq k 62 then some (.aload_n 0, 63, []) else none) else (bif Nat.beq k 63 then some (.dup, 64, []) else none))) else (bif Nat.blt k 67 then (bif Nat.beq k 64 then some (.getfield 394, 67, []) else none) else (bif Nat.blt k 68 then (bif Nat.beq k 67 then some (.iconst 1, 68, []) else none) else (bif Nat.beq k 68 then some (.iadd, 69, []) else none)))) else (bif Nat.blt k 76 then (bif Nat.blt k 72 then (bif Nat.beq k 69 then some (.putfield 394, 72, []) else none) else (bif Nat.blt k 73 then (bif Nat.beq k 72 then some (.aload_n 0, 73, []) else none) else (bif Nat.beq k 73 then some (.getfield 394, 76, []) else none))) else (bif Nat.blt k 77 then (bif Nat.beq k 76 then some (.iconst 1, 77, []) else none) else (bif Nat.blt k 78 then (bif Nat.beq k 77 then some (.isub, 78, []) else none) else (bif Nat.beq k 78 then some (.ireturn, 79, []) else none))))))) else none
noncomputable def P_M_paper : MP := (T_M_paper, (fun k => mLook k [(77, (13, 28, (.array .int), true)), (80, (13, 29, (.array .boolean), true)), (84, (13, 30, (.array .int), true)), (161, (13, 52, .int, false)), (394, (13, 27, .int, false))]), (fun k => mLook k []), (fun k => mLook k [(181, E_M_in), (228, E_M_isYear)]), (fun k => mLook k []), (fun k => mLook k []), (fun k => mLook k []), (fun k => mLook k []), (fun k => [31, 78].any (Nat.beq k)), (2, 42, 0, 0), false, (fun _ => none))
set_option maxRecDepth 100000 in
set_option maxHeartbeats 4000000 in
theorem q_M_paper_e (a1 : Int32) (a2 : Int32) (a3 : Int32) (σ : MSto) (n : Nat) : mexe KT P_M_paper (n + 1) (0, [some (mR 13 0), some (mI a1), some (mI a2), some (mI a3)], [], σ, 0, 0) = mIf ((v_M_isYear a1 (sI σ 13 0 52 0)) = 0) (some (31, [], [(mI (-1))], (sI σ 13 0 52 0), 0, 0)) (mIf ((v_M_in a3 1 9 (sI σ 13 0 52 0)) = 0) (some (31, [], [(mI (-1))], (sI σ 13 0 52 0), 0, 0)) (mIf ((gI (sI σ 13 0 52 0) 13 0 27) = 4) (some (31, [], [(mI (-1))], (sI σ 13 0 52 0), 0, 0)) (mG (vp_in (gI (sI σ 13 0 52 0) 13 0 27) 4) (mG (vp_in (gI (sI (sI σ 13 0 52 0) 61 0 (Int32.toNatClampNeg (gI (sI σ 13 0 52 0) 13 0 27)) a1) 13 0 27) 4) (mG (vp_in (gI (sI (sI (sI σ 13 0 52 0) 61 0 (Int32.toNatClampNeg (gI (sI σ 13 0 52 0) 13 0 27)) a1) 62 0 (Int32.toNatClampNeg (gI (sI (sI σ 13 0 52 0) 61 0 (Int32.toNatClampNeg (gI (sI σ 13 0 52 0) 13 0 27)) a1) 13 0 27)) (vp_nar .boolean a2)) 13 0 27) 4) (some (78, [], [(mI ((gI (sI (sI (sI (sI (sI σ 13 0 52 0) 61 0 (Int32.toNatClampNeg (gI (sI σ 13 0 52 0) 13 0 27)) a1) 62 0 (Int32.toNatClampNeg (gI (sI (sI σ 13 0 52 0) 61 0 (Int32.toNatClampNeg (gI (sI σ 13 0 52 0) 13 0 27)) a1) 13 0 27)) (vp_nar .boolean a2)) 63 0 (Int32.toNatClampNeg (gI (sI (sI (sI σ 13 0 52 0) 61 0 (Int32.toNatClampNeg (gI (sI σ 13 0 52 0) 13 0 27)) a1) 62 0 (Int32.toNatClampNeg (gI (sI (sI σ 13 0 52 0) 61 0 (Int32.toNatClampNeg (gI (sI σ 13 0 52 0) 13 0 27)) a1) 13 0 27)) (vp_nar .boolean a2)) 13 0 27)) a3) 13 0 27 ((gI (sI (sI (sI (sI σ 13 0 52 0) 61 0 (Int32.toNatClampNeg (gI (sI σ 13 0 52 0) 13 0 27)) a1) 62 0 (Int32.toNatClampNeg (gI (sI (sI σ 13 0 52 0) 61 0 (Int32.toNatClampNeg (gI (sI σ 13 0 52 0) 13 0 27)) a1) 13 0 27)) (vp_nar .boolean a2)) 63 0 (Int32.toNatClampNeg (gI (sI (sI (sI σ 13 0 52 0) 61 0 (Int32.toNatClampNeg (gI (sI σ 13 0 52 0) 13 0 27)) a1) 62 0 (Int32.toNatClampNeg (gI (sI (sI σ 13 0 52 0) 61 0 (Int32.toNatClampNeg (gI (sI σ 13 0 52 0) 13 0 27)) a1) 13 0 27)) (vp_nar .boolean a2)) 13 0 27)) a3) 13 0 27) + 1)) 13 0 27) - 1))], (sI (sI (sI (sI (sI σ 13 0 52 0) 61 0 (Int32.toNatClampNeg (gI (sI σ 13 0 52 0) 13 0 27)) a1) 62 0 (Int32.toNatClampNeg (gI (sI (sI σ 13 0 52 0) 61 0 (Int32.toNatClampNeg (gI (sI σ 13 0 52 0) 13 0 27)) a1) 13 0 27)) (vp_nar .boolean a2)) 63 0 (Int32.toNatClampNeg (gI (sI (sI (sI σ 13 0 52 0) 61 0 (Int32.toNatClampNeg (gI (sI σ 13 0 52 0) 13 0 27)) a1) 62 0 (Int32.toNatClampNeg (gI (sI (sI σ 13 0 52 0) 61 0 (Int32.toNatClampNeg (gI (sI σ 13 0 52 0) 13 0 27)) a1) 13 0 27)) (vp_nar .boolean a2)) 13 0 27)) a3) 13 0 27 ((gI (sI (sI (sI (sI σ 13 0 52 0) 61 0 (Int32.toNatClampNeg (gI (sI σ 13 0 52 0) 13 0 27)) a1) 62 0 (Int32.toNatClampNeg (gI (sI (sI σ 13 0 52 0) 61 0 (Int32.toNatClampNeg (gI (sI σ 13 0 52 0) 13 0 27)) a1) 13 0 27)) (vp_nar .boolean a2)) 63 0 (Int32.toNatClampNeg (gI (sI (sI (sI σ 13 0 52 0) 61 0 (Int32.toNatClampNeg (gI (sI σ 13 0 52 0) 13 0 27)) a1) 62 0 (Int32.toNatClampNeg (gI (sI (sI σ 13 0 52 0) 61 0 (Int32.toNatClampNeg (gI (sI σ 13 0 52 0) 13 0 27)) a1) 13 0 27)) (vp_nar .boolean a2)) 13 0 27)) a3) 13 0 27) + 1)), 0, 0))))))) := rfl
set_option maxRecDepth 100000 in
set_option maxHeartbeats 4000000 in
theorem d_M_paper (a1 : Int32) (a2 : Int32) (a3 : Int32) (σ : MSto) (hp : p_M_paper a1 a2 a3 σ) : mW1 P_M_paper (0, [some (mR 13 0), some (mI a1), some (mI a2), some (mI a3)], [], σ, 0, 0) (mF [31, 78] [mI (v_M_paper a1 a2 a3 σ)] (e_M_paper a1 a2 a3 σ) 0 0) := by
  refine mW1_eq (q_M_paper_e _ _ _ _) ?_
  unfold p_M_paper at hp
  refine mTr_if (fun h0 => ?_) (fun h0 => ?_)
  · skip
    exact mTr_e (by decide) (congrArg (fun z => [mI z]) (Eq.symm (if_pos h0))) (Eq.symm (if_pos h0)) (by decide) (by decide)
  · skip
    have hp := hp h0
    refine mTr_if (fun h1 => ?_) (fun h1 => ?_)
    · skip
      exact mTr_e (by decide) (congrArg (fun z => [mI z]) (Eq.symm ((if_neg h0).trans (if_pos h1)))) (Eq.symm ((if_neg h0).trans (if_pos h1))) (by decide) (by decide)
    · skip
      have hp := hp h1
      refine mTr_if (fun h2 => ?_) (fun h2 => ?_)
      · skip
        exact mTr_e (by decide) (congrArg (fun z => [mI z]) (Eq.symm ((if_neg h0).trans ((if_neg h1).trans (if_pos h2))))) (Eq.symm ((if_neg h0).trans ((if_neg h1).trans (if_pos h2)))) (by decide) (by decide)
      · skip
        have hp := hp h2
        refine mTr_g hp.1 ?_
        have hp := hp.2
        refine mTr_g hp.1 ?_
        have hp := hp.2
        refine mTr_g hp ?_
        exact mTr_e (by decide) (congrArg (fun z => [mI z]) (Eq.symm ((if_neg h0).trans ((if_neg h1).trans (if_neg h2))))) (Eq.symm ((if_neg h0).trans ((if_neg h1).trans (if_neg h2)))) (by decide) (by decide)


theorem tk_M_paper : ∀ pc i nx tg, T_M_paper pc = some (i, nx, tg) → mOkB prog_14_method_75_code pc i nx tg = true := code_ok (N := 79) (fun k h => by unfold T_M_paper; rw [h]; rfl) (by decide +kernel)
theorem ok_M_paper (l : Launch) : mPOK l "ClothWithManModel" prog_14_method_75_code P_M_paper := by
  refine ⟨tk_M_paper, ?_, ?_, ?_, (fun pc i nx tg kd _ h => by cases h), ?_, ?_, fun pc en h => by cases h⟩
  · intro x ci f ty fin h
    exact mLook_all (Q := fun x v => mFOK "ClothWithManModel" x v.1 v.2.1 v.2.2.1 v.2.2.2 ∧ (v.2.2.2 = true → pIni P_M_paper = true → (Cond.fieldLink "ClothWithManModel" x (((mCl[v.1]?).getD ("", fun _ => ("", "", "", false), 0)).2.1 v.2.1).1 (((mCl[v.1]?).getD ("", fun _ => ("", "", "", false), 0)).2.1 v.2.1).2.1 (((mCl[v.1]?).getD ("", fun _ => ("", "", "", false), 0)).2.1 v.2.1).2.2.1 ∈ lw_tbl ∧ (((mCl[v.1]?).getD ("", fun _ => ("", "", "", false), 0)).2.1 v.2.1).1 = "ClothWithManModel"))) (fcC ⟨fo_M_77, fun h1 h2 => by cases h2⟩ (fcC ⟨fo_M_80, fun h1 h2 => by cases h2⟩ (fcC ⟨fo_M_84, fun h1 h2 => by cases h2⟩ (fcC ⟨fo_M_161, fun h1 h2 => by cases h1⟩ (fcC ⟨fo_M_394, fun h1 h2 => by cases h1⟩ fcN))))) x (ci, f, ty, fin) h
  · intro x
    have hh := mLook_all (l := ([] : List (Nat × (Int32 ⊕ Int64)))) (Q := fun x (v : Int32 ⊕ Int64) => (∀ w, v = .inl w → Cond.constant "ClothWithManModel" x w ∈ lw_tbl) ∧ (∀ w, v = .inr w → Cond.constantLong "ClothWithManModel" x w ∈ lw_tbl)) fcN x
    exact ⟨fun w h => (hh _ h).1 w rfl, fun w h => (hh _ h).2 w rfl⟩
  · exact fun x en h => mLook_all (Q := fun x en => mLink "ClothWithManModel" x en ∧ mCtr l en ∧ (en.1.1 = 2 → en.2.2.2.2.2.2 = none)) (fcC ⟨li_M_181, c_M_in l, (fun h => by cases h)⟩ (fcC ⟨li_M_228, c_M_isYear l, (fun h => by cases h)⟩ fcN)) x en h
  · exact fun x kd h => mLook_all (Q := fun x kd => (kd = 95 ∧ Cond.fieldLink "ClothWithManModel" x "ClothWithMan" "LIKENESSES" "[I" ∈ lw_tbl) ∨ (kd = 96 ∧ Cond.fieldLink "ClothWithManModel" x "ClothWithMan" "APART_BOUNDS" "[I" ∈ lw_tbl)) fcN x kd h
  · exact fun x ci h => mLook_all (Q := fun x ci => ci ≠ 0 ∧ ∃ (C : String) (T : u_T) (N : Nat), mCl[ci]? = some (C, T, N) ∧ Cond.classLink "ClothWithManModel" x C ∈ lw_tbl ∧ Cond.instantiable C N ∈ lw_tbl) fcN x ci h
set_option maxRecDepth 100000 in
theorem c_M_paper (l : Launch) : mCtr l E_M_paper := mCtr_of (P := P_M_paper) (own := "ClothWithManModel") mLay_ok rfl (by decide +kernel) rfl (ok_M_paper l) (fun h => by cases h) (fun as σ pr rv σ' hF hpr hlv => by
  unfold E_M_paper S_M_paper at hF
  simp only [] at hF
  split at hF
  · cases hF
    obtain ⟨n, pcF, c1, s1, g1, g2, g3, g4⟩ := mF_inv (d_M_paper _ _ _ σ (hpr _ rfl))
    exact ⟨Nat.le_of_ble_eq_true rfl, (fun v h => by cases h; trivial), n, pcF, c1, s1, g1, ⟨mEnd_of (i := .ireturn) (P := P_M_paper) (rets := [31, 78]) rfl g2, rfl⟩, g3, g4⟩
  · cases hF
    exact (hpr _ rfl).elim)
/-! ClothWithManModel.fitOf(II)I -/
noncomputable def v_M_fitOf (a1 : Int32) (a2 : Int32) (σ : MSto) : Int32 := (if (gI σ 62 0 (Int32.toNatClampNeg a1)) = 0 then (if a2 ≤ (gI σ 61 0 (Int32.toNatClampNeg a1)) then (10 - (gI σ 63 0 (Int32.toNatClampNeg a1))) else (gI σ 63 0 (Int32.toNatClampNeg a1))) else (if (gI σ 61 0 (Int32.toNatClampNeg a1)) < a2 then (10 - (gI σ 63 0 (Int32.toNatClampNeg a1))) else (gI σ 63 0 (Int32.toNatClampNeg a1))))
def p_M_fitOf (a1 : Int32) (a2 : Int32) (σ : MSto) : Prop := ((vp_in a1 4) ∧ ((((gI σ 62 0 (Int32.toNatClampNeg a1)) = 0) → ((vp_in a1 4) ∧ (((a2 ≤ (gI σ 61 0 (Int32.toNatClampNeg a1))) → (vp_in a1 4)) ∧ (¬ (a2 ≤ (gI σ 61 0 (Int32.toNatClampNeg a1))) → (vp_in a1 4))))) ∧ (¬ ((gI σ 62 0 (Int32.toNatClampNeg a1)) = 0) → ((vp_in a1 4) ∧ ((((gI σ 61 0 (Int32.toNatClampNeg a1)) < a2) → (vp_in a1 4)) ∧ (¬ ((gI σ 61 0 (Int32.toNatClampNeg a1)) < a2) → (vp_in a1 4)))))))
noncomputable def S_M_fitOf : List MV → MSto → Option Prop × Option MV × MSto := fun as σ => match as with
  | [.inr (.inr (some (13, 0))), .inl a0, .inl a1] => (some (p_M_fitOf a0 a1 σ), some (mI (v_M_fitOf a0 a1 σ)), σ)
  | _ => (some False, none, σ)
noncomputable def E_M_fitOf : MEnt := ((1, 2, 13), (0, 0, 0, 0), S_M_fitOf, ((⟨"ClothWithManModel", "fitOf", "(II)I"⟩ : MethodName), prog_14_method_76_code, 4, (some .int)))

def T_M_fitOf : Nat → Option (Instr × Nat × List Nat) := fun k => bif Nat.blt k 66 then (bif Nat.blt k 33 then (bif Nat.blt k 15 then (bif Nat.blt k 6 then (bif Nat.blt k 4 then (bif Nat.blt k 1 then (bif Nat.beq k 0 then some (.aload_n 0, 1, []) else none) else (bif Nat.beq k 1 then some (.getfield 80, 4, []) else none)) else (bif Nat.blt k 5 then (bif Nat.beq k 4 then some (.iload_n 1, 5, []) else none) else (bif Nat.beq k 5 then some (.baload, 6, []) else none))) else (bif Nat.blt k 10 then (bif Nat.blt k 9 then (bif Nat.beq k 6 then some (.ifCond .eq 21, 9, [27]) else none) else (bif Nat.beq k 9 then some (.iload_n 2, 10, []) else none)) else (bif Nat.blt k 11 then (bif Nat.beq k 10 then some (.aload_n 0, 11, []) else none) else (bif Nat.blt k 14 then (bif Nat.beq k 11 then some (.getfield 77, 14, []) else none) else (bif Nat.beq k 14 then some (.iload_n 1, 15, []) else none))))) else (bif Nat.blt k 24 then (bif Nat.blt k 19 then (bif Nat.blt k 16 then (bif Nat.beq k 15 then some (.iaload, 16, []) else none) else (bif Nat.beq k 16 then some (.if_icmp .gt 7, 19, [23]) else none)) else (bif Nat.blt k 20 then (bif Nat.beq k 19 then some (.iconst 1, 20, []) else none) else (bif Nat.blt k 23 then (bif Nat.beq k 20 then some (.goto 22, 23, [42]) else none) else (bif Nat.beq k 23 then some (.iconst 0, 24, []) else none)))) else (bif Nat.blt k 28 then (bif Nat.blt k 27 then (bif Nat.beq k 24 then some (.goto 18, 27, [42]) else none) else (bif Nat.beq k 27 then some (.iload_n 2, 28, []) else none)) else (bif Nat.blt k 29 then (bif Nat.beq k 28 then some (.aload_n 0, 29, []) else none) else (bif Nat.blt k 32 then (bif Nat.beq k 29 then some (.getfield 77, 32, []) else none) else (bif Nat.beq k 32 then some (.iload_n 1, 33, []) else none)))))) else (bif Nat.blt k 51 then (bif Nat.blt k 42 then (bif Nat.blt k 37 then (bif Nat.blt k 34 then (bif Nat.beq k 33 then some (.iaload, 34, []) else none) else (bif Nat.beq k 34 then some (.if_icmp .le 7, 37, [41]) else none)) else (bif Nat.blt k 38 then (bif Nat.beq k 37 then some (.iconst 1, 38, []) else none) else (bif Nat.blt k 41 then (bif Nat.beq k 38 then some (.goto 4, 41, [42]) else none) else (bif Nat.beq k 41 then some (.iconst 0, 42, []) else none)))) else (bif Nat.blt k 44 then (bif Nat.blt k 43 then (bif Nat.beq k 42 then some (.istore_n 3, 43, []) else none) else (bif Nat.beq k 43 then some (.iload_n 3, 44, []) else none)) else (bif Nat.blt k 47 then (bif Nat.beq k 44 then some (.ifCond .eq 12, 47, [56]) else none) else (bif Nat.blt k 48 then (bif Nat.beq k 47 then some (.aload_n 0, 48, []) else none) else (bif Nat.beq k 48 then some (.getfield 84, 51, []) else none))))) else (bif Nat.blt k 59 then (bif Nat.blt k 53 then (bif Nat.blt k 52 then (bif Nat.beq k 51 then some (.iload_n 1, 52, []) else none) else (bif Nat.beq k 52 then some (.iaload, 53, []) else none)) else (bif Nat.blt k 56 then (bif Nat.beq k 53 then some (.goto 12, 56, [65]) else none) else (bif Nat.blt k 58 then (bif Nat.beq k 56 then some (.bipush 10, 58, []) else none) else (bif Nat.beq k 58 then some (.aload_n 0, 59, []) else none)))) else (bif Nat.blt k 63 then (bif Nat.blt k 62 then (bif Nat.beq k 59 then some (.getfield 84, 62, []) else none) else (bif Nat.beq k 62 then some (.iload_n 1, 63, []) else none)) else (bif Nat.blt k 64 then (bif Nat.beq k 63 then some (.iaload, 64, []) else none) else (bif Nat.blt k 65 then (bif Nat.beq k 64 then some (.isub, 65, []) else none) else (bif Nat.beq k 65 then some (.ireturn, 66, []) else none))))))) else none
noncomputable def P_M_fitOf : MP := (T_M_fitOf, (fun k => mLook k [(77, (13, 28, (.array .int), true)), (80, (13, 29, (.array .boolean), true)), (84, (13, 30, (.array .int), true))]), (fun k => mLook k []), (fun k => mLook k []), (fun k => mLook k []), (fun k => mLook k []), (fun k => mLook k []), (fun k => mLook k []), (fun k => [65].any (Nat.beq k)), (0, 0, 0, 0), false, (fun _ => none))
set_option maxRecDepth 100000 in
set_option maxHeartbeats 4000000 in
theorem q_M_fitOf_e (a1 : Int32) (a2 : Int32) (σ : MSto) (n : Nat) : mexe KT P_M_fitOf (n + 1) (0, [some (mR 13 0), some (mI a1), some (mI a2), none], [], σ, 0, 0) = mG (vp_in a1 4) (mIf ((gI σ 62 0 (Int32.toNatClampNeg a1)) = 0) (mG (vp_in a1 4) (mIf (a2 ≤ (gI σ 61 0 (Int32.toNatClampNeg a1))) (mIf ((0 : Int32) = 0) (mG (vp_in a1 4) (some (65, [], [(mI (10 - (gI σ 63 0 (Int32.toNatClampNeg a1))))], σ, 0, 0))) (mG (vp_in a1 4) (some (65, [], [(mI (gI σ 63 0 (Int32.toNatClampNeg a1)))], σ, 0, 0)))) (mIf ((1 : Int32) = 0) (mG (vp_in a1 4) (some (65, [], [(mI (10 - (gI σ 63 0 (Int32.toNatClampNeg a1))))], σ, 0, 0))) (mG (vp_in a1 4) (some (65, [], [(mI (gI σ 63 0 (Int32.toNatClampNeg a1)))], σ, 0, 0)))))) (mG (vp_in a1 4) (mIf ((gI σ 61 0 (Int32.toNatClampNeg a1)) < a2) (mIf ((0 : Int32) = 0) (mG (vp_in a1 4) (some (65, [], [(mI (10 - (gI σ 63 0 (Int32.toNatClampNeg a1))))], σ, 0, 0))) (mG (vp_in a1 4) (some (65, [], [(mI (gI σ 63 0 (Int32.toNatClampNeg a1)))], σ, 0, 0)))) (mIf ((1 : Int32) = 0) (mG (vp_in a1 4) (some (65, [], [(mI (10 - (gI σ 63 0 (Int32.toNatClampNeg a1))))], σ, 0, 0))) (mG (vp_in a1 4) (some (65, [], [(mI (gI σ 63 0 (Int32.toNatClampNeg a1)))], σ, 0, 0))))))) := rfl
set_option maxRecDepth 100000 in
set_option maxHeartbeats 4000000 in
theorem d_M_fitOf (a1 : Int32) (a2 : Int32) (σ : MSto) (hp : p_M_fitOf a1 a2 σ) : mW1 P_M_fitOf (0, [some (mR 13 0), some (mI a1), some (mI a2), none], [], σ, 0, 0) (mF [65] [mI (v_M_fitOf a1 a2 σ)] σ 0 0) := by
  refine mW1_eq (q_M_fitOf_e _ _ _) ?_
  unfold p_M_fitOf at hp
  refine mTr_g hp.1 ?_
  have hp := hp.2
  refine mTr_if (fun h0 => ?_) (fun h0 => ?_)
  · skip
    have hp := hp.1 h0
    refine mTr_g hp.1 ?_
    have hp := hp.2
    refine mTr_if (fun h1 => ?_) (fun h1 => ?_)
    · skip
      have hp := hp.1 h1
      refine mTr_t (by decide) ?_
      refine mTr_g hp ?_
      exact mTr_e (by decide) (congrArg (fun z => [mI z]) (Eq.symm ((if_pos h0).trans (if_pos h1)))) rfl (by decide) (by decide)
    · skip
      have hp := hp.2 h1
      refine mTr_f (by decide) ?_
      refine mTr_g hp ?_
      exact mTr_e (by decide) (congrArg (fun z => [mI z]) (Eq.symm ((if_pos h0).trans (if_neg h1)))) rfl (by decide) (by decide)
  · skip
    have hp := hp.2 h0
    refine mTr_g hp.1 ?_
    have hp := hp.2
    refine mTr_if (fun h1 => ?_) (fun h1 => ?_)
    · skip
      have hp := hp.1 h1
      refine mTr_t (by decide) ?_
      refine mTr_g hp ?_
      exact mTr_e (by decide) (congrArg (fun z => [mI z]) (Eq.symm ((if_neg h0).trans (if_pos h1)))) rfl (by decide) (by decide)
    · skip
      have hp := hp.2 h1
      refine mTr_f (by decide) ?_
      refine mTr_g hp ?_
      exact mTr_e (by decide) (congrArg (fun z => [mI z]) (Eq.symm ((if_neg h0).trans (if_neg h1)))) rfl (by decide) (by decide)
theorem tk_M_fitOf : ∀ pc i nx tg, T_M_fitOf pc = some (i, nx, tg) → mOkB prog_14_method_76_code pc i nx tg = true := code_ok (N := 66) (fun k h => by unfold T_M_fitOf; rw [h]; rfl) (by decide +kernel)
theorem ok_M_fitOf (l : Launch) : mPOK l "ClothWithManModel" prog_14_method_76_code P_M_fitOf := by
  refine ⟨tk_M_fitOf, ?_, ?_, ?_, (fun pc i nx tg kd _ h => by cases h), ?_, ?_, fun pc en h => by cases h⟩
  · intro x ci f ty fin h
    exact mLook_all (Q := fun x v => mFOK "ClothWithManModel" x v.1 v.2.1 v.2.2.1 v.2.2.2 ∧ (v.2.2.2 = true → pIni P_M_fitOf = true → (Cond.fieldLink "ClothWithManModel" x (((mCl[v.1]?).getD ("", fun _ => ("", "", "", false), 0)).2.1 v.2.1).1 (((mCl[v.1]?).getD ("", fun _ => ("", "", "", false), 0)).2.1 v.2.1).2.1 (((mCl[v.1]?).getD ("", fun _ => ("", "", "", false), 0)).2.1 v.2.1).2.2.1 ∈ lw_tbl ∧ (((mCl[v.1]?).getD ("", fun _ => ("", "", "", false), 0)).2.1 v.2.1).1 = "ClothWithManModel"))) (fcC ⟨fo_M_77, fun h1 h2 => by cases h2⟩ (fcC ⟨fo_M_80, fun h1 h2 => by cases h2⟩ (fcC ⟨fo_M_84, fun h1 h2 => by cases h2⟩ fcN))) x (ci, f, ty, fin) h
  · intro x
    have hh := mLook_all (l := ([] : List (Nat × (Int32 ⊕ Int64)))) (Q := fun x (v : Int32 ⊕ Int64) => (∀ w, v = .inl w → Cond.constant "ClothWithManModel" x w ∈ lw_tbl) ∧ (∀ w, v = .inr w → Cond.constantLong "ClothWithManModel" x w ∈ lw_tbl)) fcN x
    exact ⟨fun w h => (hh _ h).1 w rfl, fun w h => (hh _ h).2 w rfl⟩
  · exact fun x en h => mLook_all (Q := fun x en => mLink "ClothWithManModel" x en ∧ mCtr l en ∧ (en.1.1 = 2 → en.2.2.2.2.2.2 = none)) fcN x en h
  · exact fun x kd h => mLook_all (Q := fun x kd => (kd = 95 ∧ Cond.fieldLink "ClothWithManModel" x "ClothWithMan" "LIKENESSES" "[I" ∈ lw_tbl) ∨ (kd = 96 ∧ Cond.fieldLink "ClothWithManModel" x "ClothWithMan" "APART_BOUNDS" "[I" ∈ lw_tbl)) fcN x kd h
  · exact fun x ci h => mLook_all (Q := fun x ci => ci ≠ 0 ∧ ∃ (C : String) (T : u_T) (N : Nat), mCl[ci]? = some (C, T, N) ∧ Cond.classLink "ClothWithManModel" x C ∈ lw_tbl ∧ Cond.instantiable C N ∈ lw_tbl) fcN x ci h
set_option maxRecDepth 100000 in
theorem c_M_fitOf (l : Launch) : mCtr l E_M_fitOf := mCtr_of (P := P_M_fitOf) (own := "ClothWithManModel") mLay_ok rfl (by decide +kernel) rfl (ok_M_fitOf l) (fun h => by cases h) (fun as σ pr rv σ' hF hpr hlv => by
  unfold E_M_fitOf S_M_fitOf at hF
  simp only [] at hF
  split at hF
  · cases hF
    obtain ⟨n, pcF, c1, s1, g1, g2, g3, g4⟩ := mF_inv (d_M_fitOf _ _ σ (hpr _ rfl))
    exact ⟨Nat.le_of_ble_eq_true rfl, (fun v h => by cases h; trivial), n, pcF, c1, s1, g1, ⟨mEnd_of (i := .ireturn) (P := P_M_fitOf) (rets := [65]) rfl g2, rfl⟩, g3, g4⟩
  · cases hF
    exact (hpr _ rfl).elim)
/-! ClothWithManModel.needs(I)I -/
noncomputable def v_M_needs (a1 : Int32) (σ : MSto) : Int32 := (if (v_M_isStory a1 (sI σ 13 0 52 0)) = 0 then (-1) else (v_In_bitCount (gI (e_M_tell (Int32.toInt64 (gI (sI (sI σ 13 0 52 0) 13 0 51 0) 59 0 (Int32.toNatClampNeg a1))) (sI (sI σ 13 0 52 0) 13 0 51 0)) 59 0 (Int32.toNatClampNeg a1)) (e_M_tell (Int32.toInt64 (gI (sI (sI σ 13 0 52 0) 13 0 51 0) 59 0 (Int32.toNatClampNeg a1))) (sI (sI σ 13 0 52 0) 13 0 51 0))))
def p_M_needs (a1 : Int32) (σ : MSto) : Prop := (¬ ((v_M_isStory a1 (sI σ 13 0 52 0)) = 0) → ((vp_in a1 6) ∧ ((p_M_tell (Int32.toInt64 (gI (sI (sI σ 13 0 52 0) 13 0 51 0) 59 0 (Int32.toNatClampNeg a1))) (sI (sI σ 13 0 52 0) 13 0 51 0)) ∧ (vp_in a1 6))))
noncomputable def e_M_needs (a1 : Int32) (σ : MSto) : MSto := (if (v_M_isStory a1 (sI σ 13 0 52 0)) = 0 then (sI σ 13 0 52 0) else (e_M_tell (Int32.toInt64 (gI (sI (sI σ 13 0 52 0) 13 0 51 0) 59 0 (Int32.toNatClampNeg a1))) (sI (sI σ 13 0 52 0) 13 0 51 0)))
noncomputable def S_M_needs : List MV → MSto → Option Prop × Option MV × MSto := fun as σ => match as with
  | [.inr (.inr (some (13, 0))), .inl a0] => (some (p_M_needs a0 σ), some (mI (v_M_needs a0 σ)), e_M_needs a0 σ)
  | _ => (some False, none, σ)
noncomputable def E_M_needs : MEnt := ((1, 1, 13), (2, 43, 0, 0), S_M_needs, ((⟨"ClothWithManModel", "needs", "(I)I"⟩ : MethodName), prog_14_method_83_code, 2, (some .int)))

def T_M_needs : Nat → Option (Instr × Nat × List Nat) := fun k => bif Nat.blt k 41 then (bif Nat.blt k 20 then (bif Nat.blt k 10 then (bif Nat.blt k 5 then (bif Nat.blt k 1 then (bif Nat.beq k 0 then some (.aload_n 0, 1, []) else none) else (bif Nat.blt k 2 then (bif Nat.beq k 1 then some (.iconst 0, 2, []) else none) else (bif Nat.beq k 2 then some (.putfield 161, 5, []) else none))) else (bif Nat.blt k 6 then (bif Nat.beq k 5 then some (.aload_n 0, 6, []) else none) else (bif Nat.blt k 7 then (bif Nat.beq k 6 then some (.iload_n 1, 7, []) else none) else (bif Nat.beq k 7 then some (.invokevirtual 381, 10, []) else none)))) else (bif Nat.blt k 15 then (bif Nat.blt k 13 then (bif Nat.beq k 10 then some (.ifCond .ne 5, 13, [15]) else none) else (bif Nat.blt k 14 then (bif Nat.beq k 13 then some (.iconst (-1), 14, []) else none) else (bif Nat.beq k 14 then some (.ireturn, 15, []) else none))) else (bif Nat.blt k 16 then (bif Nat.beq k 15 then some (.aload_n 0, 16, []) else none) else (bif Nat.blt k 17 then (bif Nat.beq k 16 then some (.iconst 0, 17, []) else none) else (bif Nat.beq k 17 then some (.putfield 164, 20, []) else none))))) else (bif Nat.blt k 28 then (bif Nat.blt k 25 then (bif Nat.blt k 21 then (bif Nat.beq k 20 then some (.aload_n 0, 21, []) else none) else (bif Nat.blt k 22 then (bif Nat.beq k 21 then some (.aload_n 0, 22, []) else none) else (bif Nat.beq k 22 then some (.getfield 71, 25, []) else none))) else (bif Nat.blt k 26 then (bif Nat.beq k 25 then some (.iload_n 1, 26, []) else none) else (bif Nat.blt k 27 then (bif Nat.beq k 26 then some (.iaload, 27, []) else none) else (bif Nat.beq k 27 then some (.i2l, 28, []) else none)))) else (bif Nat.blt k 35 then (bif Nat.blt k 31 then (bif Nat.beq k 28 then some (.invokevirtual 177, 31, []) else none) else (bif Nat.blt k 32 then (bif Nat.beq k 31 then some (.aload_n 0, 32, []) else none) else (bif Nat.beq k 32 then some (.getfield 71, 35, []) else none))) else (bif Nat.blt k 37 then (bif Nat.blt k 36 then (bif Nat.beq k 35 then some (.iload_n 1, 36, []) else none) else (bif Nat.beq k 36 then some (.iaload, 37, []) else none)) else (bif Nat.blt k 40 then (bif Nat.beq k 37 then some (.invokestatic 296, 40, []) else none) else (bif Nat.beq k 40 then some (.ireturn, 41, []) else none)))))) else none
noncomputable def P_M_needs : MP := (T_M_needs, (fun k => mLook k [(71, (13, 25, (.array .int), true)), (161, (13, 52, .int, false)), (164, (13, 51, .int, false))]), (fun k => mLook k []), (fun k => mLook k [(177, E_M_tell), (296, E_In_bitCount), (381, E_M_isStory)]), (fun k => mLook k []), (fun k => mLook k []), (fun k => mLook k []), (fun k => mLook k []), (fun k => [14, 40].any (Nat.beq k)), (2, 43, 0, 0), false, (fun _ => none))
set_option maxRecDepth 100000 in
set_option maxHeartbeats 4000000 in
theorem q_M_needs_e (a1 : Int32) (σ : MSto) (n : Nat) : mexe KT P_M_needs (n + 1) (0, [some (mR 13 0), some (mI a1)], [], σ, 0, 0) = mIf ((v_M_isStory a1 (sI σ 13 0 52 0)) = 0) (some (14, [], [(mI (-1))], (sI σ 13 0 52 0), 0, 0)) (mG (vp_in a1 6) (mG (p_M_tell (Int32.toInt64 (gI (sI (sI σ 13 0 52 0) 13 0 51 0) 59 0 (Int32.toNatClampNeg a1))) (sI (sI σ 13 0 52 0) 13 0 51 0)) (mG (vp_in a1 6) (some (40, [], [(mI (v_In_bitCount (gI (e_M_tell (Int32.toInt64 (gI (sI (sI σ 13 0 52 0) 13 0 51 0) 59 0 (Int32.toNatClampNeg a1))) (sI (sI σ 13 0 52 0) 13 0 51 0)) 59 0 (Int32.toNatClampNeg a1)) (e_M_tell (Int32.toInt64 (gI (sI (sI σ 13 0 52 0) 13 0 51 0) 59 0 (Int32.toNatClampNeg a1))) (sI (sI σ 13 0 52 0) 13 0 51 0))))], (e_M_tell (Int32.toInt64 (gI (sI (sI σ 13 0 52 0) 13 0 51 0) 59 0 (Int32.toNatClampNeg a1))) (sI (sI σ 13 0 52 0) 13 0 51 0)), 0, 0))))) := rfl
set_option maxRecDepth 100000 in
set_option maxHeartbeats 4000000 in
theorem d_M_needs (a1 : Int32) (σ : MSto) (hp : p_M_needs a1 σ) : mW1 P_M_needs (0, [some (mR 13 0), some (mI a1)], [], σ, 0, 0) (mF [14, 40] [mI (v_M_needs a1 σ)] (e_M_needs a1 σ) 0 0) := by
  refine mW1_eq (q_M_needs_e _ _) ?_
  unfold p_M_needs at hp
  refine mTr_if (fun h0 => ?_) (fun h0 => ?_)
  · skip
    exact mTr_e (by decide) (congrArg (fun z => [mI z]) (Eq.symm (if_pos h0))) (Eq.symm (if_pos h0)) (by decide) (by decide)
  · skip
    have hp := hp h0
    refine mTr_g hp.1 ?_
    have hp := hp.2
    refine mTr_g hp.1 ?_
    have hp := hp.2
    refine mTr_g hp ?_
    exact mTr_e (by decide) (congrArg (fun z => [mI z]) (Eq.symm (if_neg h0))) (Eq.symm (if_neg h0)) (by decide) (by decide)



theorem tk_M_needs : ∀ pc i nx tg, T_M_needs pc = some (i, nx, tg) → mOkB prog_14_method_83_code pc i nx tg = true := code_ok (N := 41) (fun k h => by unfold T_M_needs; rw [h]; rfl) (by decide +kernel)
theorem ok_M_needs (l : Launch) : mPOK l "ClothWithManModel" prog_14_method_83_code P_M_needs := by
  refine ⟨tk_M_needs, ?_, ?_, ?_, (fun pc i nx tg kd _ h => by cases h), ?_, ?_, fun pc en h => by cases h⟩
  · intro x ci f ty fin h
    exact mLook_all (Q := fun x v => mFOK "ClothWithManModel" x v.1 v.2.1 v.2.2.1 v.2.2.2 ∧ (v.2.2.2 = true → pIni P_M_needs = true → (Cond.fieldLink "ClothWithManModel" x (((mCl[v.1]?).getD ("", fun _ => ("", "", "", false), 0)).2.1 v.2.1).1 (((mCl[v.1]?).getD ("", fun _ => ("", "", "", false), 0)).2.1 v.2.1).2.1 (((mCl[v.1]?).getD ("", fun _ => ("", "", "", false), 0)).2.1 v.2.1).2.2.1 ∈ lw_tbl ∧ (((mCl[v.1]?).getD ("", fun _ => ("", "", "", false), 0)).2.1 v.2.1).1 = "ClothWithManModel"))) (fcC ⟨fo_M_71, fun h1 h2 => by cases h2⟩ (fcC ⟨fo_M_161, fun h1 h2 => by cases h1⟩ (fcC ⟨fo_M_164, fun h1 h2 => by cases h1⟩ fcN))) x (ci, f, ty, fin) h
  · intro x
    have hh := mLook_all (l := ([] : List (Nat × (Int32 ⊕ Int64)))) (Q := fun x (v : Int32 ⊕ Int64) => (∀ w, v = .inl w → Cond.constant "ClothWithManModel" x w ∈ lw_tbl) ∧ (∀ w, v = .inr w → Cond.constantLong "ClothWithManModel" x w ∈ lw_tbl)) fcN x
    exact ⟨fun w h => (hh _ h).1 w rfl, fun w h => (hh _ h).2 w rfl⟩
  · exact fun x en h => mLook_all (Q := fun x en => mLink "ClothWithManModel" x en ∧ mCtr l en ∧ (en.1.1 = 2 → en.2.2.2.2.2.2 = none)) (fcC ⟨li_M_177, c_M_tell l, (fun h => by cases h)⟩ (fcC ⟨li_M_296, c_In_bitCount l, (fun h => by cases h)⟩ (fcC ⟨li_M_381, c_M_isStory l, (fun h => by cases h)⟩ fcN))) x en h
  · exact fun x kd h => mLook_all (Q := fun x kd => (kd = 95 ∧ Cond.fieldLink "ClothWithManModel" x "ClothWithMan" "LIKENESSES" "[I" ∈ lw_tbl) ∨ (kd = 96 ∧ Cond.fieldLink "ClothWithManModel" x "ClothWithMan" "APART_BOUNDS" "[I" ∈ lw_tbl)) fcN x kd h
  · exact fun x ci h => mLook_all (Q := fun x ci => ci ≠ 0 ∧ ∃ (C : String) (T : u_T) (N : Nat), mCl[ci]? = some (C, T, N) ∧ Cond.classLink "ClothWithManModel" x C ∈ lw_tbl ∧ Cond.instantiable C N ∈ lw_tbl) fcN x ci h
set_option maxRecDepth 100000 in
theorem c_M_needs (l : Launch) : mCtr l E_M_needs := mCtr_of (P := P_M_needs) (own := "ClothWithManModel") mLay_ok rfl (by decide +kernel) rfl (ok_M_needs l) (fun h => by cases h) (fun as σ pr rv σ' hF hpr hlv => by
  unfold E_M_needs S_M_needs at hF
  simp only [] at hF
  split at hF
  · cases hF
    obtain ⟨n, pcF, c1, s1, g1, g2, g3, g4⟩ := mF_inv (d_M_needs _ σ (hpr _ rfl))
    exact ⟨Nat.le_of_ble_eq_true rfl, (fun v h => by cases h; trivial), n, pcF, c1, s1, g1, ⟨mEnd_of (i := .ireturn) (P := P_M_needs) (rets := [14, 40]) rfl g2, rfl⟩, g3, g4⟩
  · cases hF
    exact (hpr _ rfl).elim)
/-! java/lang/Math.abs(I)I -/
noncomputable def v_Ma_absI (a0 : Int32) (σ : MSto) : Int32 := (if 0 ≤ a0 then a0 else (-a0))
noncomputable def S_Ma_absI : List MV → MSto → Option Prop × Option MV × MSto := fun as σ => match as with
  | [.inl a0] => (none, some (mI (v_Ma_absI a0 σ)), σ)
  | _ => (some False, none, σ)
noncomputable def E_Ma_absI : MEnt := ((0, 1, 0), (0, 0, 0, 0), S_Ma_absI, ((⟨"java/lang/Math", "abs", "(I)I"⟩ : MethodName), prog_20_method_59_code, 1, (some .int)))

def T_Ma_absI : Nat → Option (Instr × Nat × List Nat) := fun k => bif Nat.blt k 11 then (bif Nat.blt k 5 then (bif Nat.blt k 1 then (bif Nat.beq k 0 then some (.iload_n 0, 1, []) else none) else (bif Nat.blt k 4 then (bif Nat.beq k 1 then some (.ifCond .ge 8, 4, [9]) else none) else (bif Nat.beq k 4 then some (.iload_n 0, 5, []) else none))) else (bif Nat.blt k 9 then (bif Nat.blt k 6 then (bif Nat.beq k 5 then some (.ineg, 6, []) else none) else (bif Nat.beq k 6 then some (.goto 4, 9, [10]) else none)) else (bif Nat.blt k 10 then (bif Nat.beq k 9 then some (.iload_n 0, 10, []) else none) else (bif Nat.beq k 10 then some (.ireturn, 11, []) else none)))) else none
noncomputable def P_Ma_absI : MP := (T_Ma_absI, (fun k => mLook k []), (fun k => mLook k []), (fun k => mLook k []), (fun k => mLook k []), (fun k => mLook k []), (fun k => mLook k []), (fun k => mLook k []), (fun k => [10].any (Nat.beq k)), (0, 0, 0, 0), false, (fun _ => none))
set_option maxRecDepth 100000 in
set_option maxHeartbeats 4000000 in
theorem q_Ma_absI_e (a0 : Int32) (σ : MSto) (n : Nat) : mexe KT P_Ma_absI (n + 1) (0, [some (mI a0)], [], σ, 0, 0) = mIf (0 ≤ a0) (some (10, [], [(mI a0)], σ, 0, 0)) (some (10, [], [(mI (-a0))], σ, 0, 0)) := rfl
set_option maxRecDepth 100000 in
set_option maxHeartbeats 4000000 in
theorem d_Ma_absI (a0 : Int32) (σ : MSto) : mW1 P_Ma_absI (0, [some (mI a0)], [], σ, 0, 0) (mF [10] [mI (v_Ma_absI a0 σ)] σ 0 0) := by
  refine mW1_eq (q_Ma_absI_e _ _) ?_
  refine mTr_if (fun h0 => ?_) (fun h0 => ?_)
  · skip
    exact mTr_e (by decide) (congrArg (fun z => [mI z]) (Eq.symm (if_pos h0))) rfl (by decide) (by decide)
  · skip
    exact mTr_e (by decide) (congrArg (fun z => [mI z]) (Eq.symm (if_neg h0))) rfl (by decide) (by decide)
theorem tk_Ma_absI : ∀ pc i nx tg, T_Ma_absI pc = some (i, nx, tg) → mOkB prog_20_method_59_code pc i nx tg = true := code_ok (N := 11) (fun k h => by unfold T_Ma_absI; rw [h]; rfl) (by decide +kernel)
theorem ok_Ma_absI (l : Launch) : mPOK l "java/lang/Math" prog_20_method_59_code P_Ma_absI := by
  refine ⟨tk_Ma_absI, ?_, ?_, ?_, (fun pc i nx tg kd _ h => by cases h), ?_, ?_, fun pc en h => by cases h⟩
  · intro x ci f ty fin h
    exact mLook_all (Q := fun x v => mFOK "java/lang/Math" x v.1 v.2.1 v.2.2.1 v.2.2.2 ∧ (v.2.2.2 = true → pIni P_Ma_absI = true → (Cond.fieldLink "java/lang/Math" x (((mCl[v.1]?).getD ("", fun _ => ("", "", "", false), 0)).2.1 v.2.1).1 (((mCl[v.1]?).getD ("", fun _ => ("", "", "", false), 0)).2.1 v.2.1).2.1 (((mCl[v.1]?).getD ("", fun _ => ("", "", "", false), 0)).2.1 v.2.1).2.2.1 ∈ lw_tbl ∧ (((mCl[v.1]?).getD ("", fun _ => ("", "", "", false), 0)).2.1 v.2.1).1 = "java/lang/Math"))) fcN x (ci, f, ty, fin) h
  · intro x
    have hh := mLook_all (l := ([] : List (Nat × (Int32 ⊕ Int64)))) (Q := fun x (v : Int32 ⊕ Int64) => (∀ w, v = .inl w → Cond.constant "java/lang/Math" x w ∈ lw_tbl) ∧ (∀ w, v = .inr w → Cond.constantLong "java/lang/Math" x w ∈ lw_tbl)) fcN x
    exact ⟨fun w h => (hh _ h).1 w rfl, fun w h => (hh _ h).2 w rfl⟩
  · exact fun x en h => mLook_all (Q := fun x en => mLink "java/lang/Math" x en ∧ mCtr l en ∧ (en.1.1 = 2 → en.2.2.2.2.2.2 = none)) fcN x en h
  · exact fun x kd h => mLook_all (Q := fun x kd => (kd = 95 ∧ Cond.fieldLink "java/lang/Math" x "ClothWithMan" "LIKENESSES" "[I" ∈ lw_tbl) ∨ (kd = 96 ∧ Cond.fieldLink "java/lang/Math" x "ClothWithMan" "APART_BOUNDS" "[I" ∈ lw_tbl)) fcN x kd h
  · exact fun x ci h => mLook_all (Q := fun x ci => ci ≠ 0 ∧ ∃ (C : String) (T : u_T) (N : Nat), mCl[ci]? = some (C, T, N) ∧ Cond.classLink "java/lang/Math" x C ∈ lw_tbl ∧ Cond.instantiable C N ∈ lw_tbl) fcN x ci h
set_option maxRecDepth 100000 in
theorem c_Ma_absI (l : Launch) : mCtr l E_Ma_absI := mCtr_of (P := P_Ma_absI) (own := "java/lang/Math") mLay_ok rfl (by decide +kernel) rfl (ok_Ma_absI l) (fun h => by cases h) (fun as σ pr rv σ' hF hpr hlv => by
  unfold E_Ma_absI S_Ma_absI at hF
  simp only [] at hF
  split at hF
  · cases hF
    obtain ⟨n, pcF, c1, s1, g1, g2, g3, g4⟩ := mF_inv (d_Ma_absI _ σ)
    exact ⟨Nat.le_of_ble_eq_true rfl, (fun v h => by cases h; trivial), n, pcF, c1, s1, g1, ⟨mEnd_of (i := .ireturn) (P := P_Ma_absI) (rets := [10]) rfl g2, rfl⟩, g3, g4⟩
  · cases hF
    exact (hpr _ rfl).elim)
/-! ClothWithManModel.areParted(IIIIIII)Z -/
def b_M_areParted (a1 : Int32) (a2 : Int32) (a3 : Int32) (a4 : Int32) (a5 : Int32) (a6 : Int32) (a7 : Int32) (σ : MSto) : Prop := (if (v_Ma_absI ((v_M_wouldAt a1 a3 a4 a5 a6 a7 σ) - (v_M_wouldAt a2 a3 a4 a5 a6 a7 σ)) σ) ≤ (2 * (gI σ 46 0 (Int32.toNatClampNeg a6))) then False else True)
noncomputable def v_M_areParted (a1 : Int32) (a2 : Int32) (a3 : Int32) (a4 : Int32) (a5 : Int32) (a6 : Int32) (a7 : Int32) (σ : MSto) : Int32 := bI (b_M_areParted a1 a2 a3 a4 a5 a6 a7 σ)
def p_M_areParted (a1 : Int32) (a2 : Int32) (a3 : Int32) (a4 : Int32) (a5 : Int32) (a6 : Int32) (a7 : Int32) (σ : MSto) : Prop := ((p_M_wouldAt a1 a3 a4 a5 a6 a7 σ) ∧ ((p_M_wouldAt a2 a3 a4 a5 a6 a7 σ) ∧ (vp_in a6 6)))
noncomputable def S_M_areParted : List MV → MSto → Option Prop × Option MV × MSto := fun as σ => match as with
  | [.inr (.inr (some (13, 0))), .inl a0, .inl a1, .inl a2, .inl a3, .inl a4, .inl a5, .inl a6] => (some (p_M_areParted a0 a1 a2 a3 a4 a5 a6 σ), some (mI (v_M_areParted a0 a1 a2 a3 a4 a5 a6 σ)), σ)
  | _ => (some False, none, σ)
noncomputable def E_M_areParted : MEnt := ((1, 7, 13), (3, 77, 0, 0), S_M_areParted, ((⟨"ClothWithManModel", "areParted", "(IIIIIII)Z"⟩ : MethodName), prog_14_method_84_code, 8, (some .boolean)))

def T_M_areParted : Nat → Option (Instr × Nat × List Nat) := fun k => bif Nat.blt k 50 then (bif Nat.blt k 23 then (bif Nat.blt k 11 then (bif Nat.blt k 3 then (bif Nat.blt k 1 then (bif Nat.beq k 0 then some (.aload_n 0, 1, []) else none) else (bif Nat.blt k 2 then (bif Nat.beq k 1 then some (.iload_n 1, 2, []) else none) else (bif Nat.beq k 2 then some (.iload_n 3, 3, []) else none))) else (bif Nat.blt k 7 then (bif Nat.blt k 5 then (bif Nat.beq k 3 then some (.iload 4, 5, []) else none) else (bif Nat.beq k 5 then some (.iload 5, 7, []) else none)) else (bif Nat.blt k 9 then (bif Nat.beq k 7 then some (.iload 6, 9, []) else none) else (bif Nat.beq k 9 then some (.iload 7, 11, []) else none)))) else (bif Nat.blt k 16 then (bif Nat.blt k 14 then (bif Nat.beq k 11 then some (.invokevirtual 387, 14, []) else none) else (bif Nat.blt k 15 then (bif Nat.beq k 14 then some (.aload_n 0, 15, []) else none) else (bif Nat.beq k 15 then some (.iload_n 2, 16, []) else none))) else (bif Nat.blt k 19 then (bif Nat.blt k 17 then (bif Nat.beq k 16 then some (.iload_n 3, 17, []) else none) else (bif Nat.beq k 17 then some (.iload 4, 19, []) else none)) else (bif Nat.blt k 21 then (bif Nat.beq k 19 then some (.iload 5, 21, []) else none) else (bif Nat.beq k 21 then some (.iload 6, 23, []) else none))))) else (bif Nat.blt k 37 then (bif Nat.blt k 29 then (bif Nat.blt k 25 then (bif Nat.beq k 23 then some (.iload 7, 25, []) else none) else (bif Nat.blt k 28 then (bif Nat.beq k 25 then some (.invokevirtual 387, 28, []) else none) else (bif Nat.beq k 28 then some (.isub, 29, []) else none))) else (bif Nat.blt k 33 then (bif Nat.blt k 32 then (bif Nat.beq k 29 then some (.invokestatic 412, 32, []) else none) else (bif Nat.beq k 32 then some (.iconst 2, 33, []) else none)) else (bif Nat.blt k 34 then (bif Nat.beq k 33 then some (.aload_n 0, 34, []) else none) else (bif Nat.beq k 34 then some (.getfield 32, 37, []) else none)))) else (bif Nat.blt k 44 then (bif Nat.blt k 40 then (bif Nat.blt k 39 then (bif Nat.beq k 37 then some (.iload 6, 39, []) else none) else (bif Nat.beq k 39 then some (.iaload, 40, []) else none)) else (bif Nat.blt k 41 then (bif Nat.beq k 40 then some (.imul, 41, []) else none) else (bif Nat.beq k 41 then some (.if_icmp .le 7, 44, [48]) else none))) else (bif Nat.blt k 48 then (bif Nat.blt k 45 then (bif Nat.beq k 44 then some (.iconst 1, 45, []) else none) else (bif Nat.beq k 45 then some (.goto 4, 48, [49]) else none)) else (bif Nat.blt k 49 then (bif Nat.beq k 48 then some (.iconst 0, 49, []) else none) else (bif Nat.beq k 49 then some (.ireturn, 50, []) else none)))))) else none
noncomputable def P_M_areParted : MP := (T_M_areParted, (fun k => mLook k [(32, (13, 9, (.array .int), true))]), (fun k => mLook k []), (fun k => mLook k [(387, E_M_wouldAt), (412, E_Ma_absI)]), (fun k => mLook k []), (fun k => mLook k []), (fun k => mLook k []), (fun k => mLook k []), (fun k => [49].any (Nat.beq k)), (3, 77, 0, 0), false, (fun _ => none))
set_option maxRecDepth 100000 in
set_option maxHeartbeats 4000000 in
theorem q_M_areParted_e (a1 : Int32) (a2 : Int32) (a3 : Int32) (a4 : Int32) (a5 : Int32) (a6 : Int32) (a7 : Int32) (σ : MSto) (n : Nat) : mexe KT P_M_areParted (n + 1) (0, [some (mR 13 0), some (mI a1), some (mI a2), some (mI a3), some (mI a4), some (mI a5), some (mI a6), some (mI a7)], [], σ, 0, 0) = mG (p_M_wouldAt a1 a3 a4 a5 a6 a7 σ) (mG (p_M_wouldAt a2 a3 a4 a5 a6 a7 σ) (mG (vp_in a6 6) (mIf ((v_Ma_absI ((v_M_wouldAt a1 a3 a4 a5 a6 a7 σ) - (v_M_wouldAt a2 a3 a4 a5 a6 a7 σ)) σ) ≤ (2 * (gI σ 46 0 (Int32.toNatClampNeg a6)))) (some (49, [], [(mI 0)], σ, 0, 0)) (some (49, [], [(mI 1)], σ, 0, 0))))) := rfl
set_option maxRecDepth 100000 in
set_option maxHeartbeats 4000000 in
theorem d_M_areParted (a1 : Int32) (a2 : Int32) (a3 : Int32) (a4 : Int32) (a5 : Int32) (a6 : Int32) (a7 : Int32) (σ : MSto) (hp : p_M_areParted a1 a2 a3 a4 a5 a6 a7 σ) : mW1 P_M_areParted (0, [some (mR 13 0), some (mI a1), some (mI a2), some (mI a3), some (mI a4), some (mI a5), some (mI a6), some (mI a7)], [], σ, 0, 0) (mF [49] [mI (v_M_areParted a1 a2 a3 a4 a5 a6 a7 σ)] σ 0 0) := by
  refine mW1_eq (q_M_areParted_e _ _ _ _ _ _ _ _) ?_
  unfold p_M_areParted at hp
  unfold v_M_areParted
  refine mTr_g hp.1 ?_
  have hp := hp.2
  refine mTr_g hp.1 ?_
  have hp := hp.2
  refine mTr_g hp ?_
  refine mTr_if (fun h0 => ?_) (fun h0 => ?_)
  · skip
    exact mTr_e (by decide) (bI_F (if_pos h0)) rfl (by decide) (by decide)
  · skip
    exact mTr_e (by decide) (bI_T (if_neg h0)) rfl (by decide) (by decide)
theorem li_M_412 : mLink "ClothWithManModel" 412 E_Ma_absI := ⟨tw_8_29, tw_1_10, ⟨by decide, by decide⟩, by decide +kernel, Or.inl tw_8_27, (fun _ => tw_8_28), (fun h => by cases h), (fun h => by cases h)⟩


theorem tk_M_areParted : ∀ pc i nx tg, T_M_areParted pc = some (i, nx, tg) → mOkB prog_14_method_84_code pc i nx tg = true := code_ok (N := 50) (fun k h => by unfold T_M_areParted; rw [h]; rfl) (by decide +kernel)
theorem ok_M_areParted (l : Launch) : mPOK l "ClothWithManModel" prog_14_method_84_code P_M_areParted := by
  refine ⟨tk_M_areParted, ?_, ?_, ?_, (fun pc i nx tg kd _ h => by cases h), ?_, ?_, fun pc en h => by cases h⟩
  · intro x ci f ty fin h
    exact mLook_all (Q := fun x v => mFOK "ClothWithManModel" x v.1 v.2.1 v.2.2.1 v.2.2.2 ∧ (v.2.2.2 = true → pIni P_M_areParted = true → (Cond.fieldLink "ClothWithManModel" x (((mCl[v.1]?).getD ("", fun _ => ("", "", "", false), 0)).2.1 v.2.1).1 (((mCl[v.1]?).getD ("", fun _ => ("", "", "", false), 0)).2.1 v.2.1).2.1 (((mCl[v.1]?).getD ("", fun _ => ("", "", "", false), 0)).2.1 v.2.1).2.2.1 ∈ lw_tbl ∧ (((mCl[v.1]?).getD ("", fun _ => ("", "", "", false), 0)).2.1 v.2.1).1 = "ClothWithManModel"))) (fcC ⟨fo_M_32, fun h1 h2 => by cases h2⟩ fcN) x (ci, f, ty, fin) h
  · intro x
    have hh := mLook_all (l := ([] : List (Nat × (Int32 ⊕ Int64)))) (Q := fun x (v : Int32 ⊕ Int64) => (∀ w, v = .inl w → Cond.constant "ClothWithManModel" x w ∈ lw_tbl) ∧ (∀ w, v = .inr w → Cond.constantLong "ClothWithManModel" x w ∈ lw_tbl)) fcN x
    exact ⟨fun w h => (hh _ h).1 w rfl, fun w h => (hh _ h).2 w rfl⟩
  · exact fun x en h => mLook_all (Q := fun x en => mLink "ClothWithManModel" x en ∧ mCtr l en ∧ (en.1.1 = 2 → en.2.2.2.2.2.2 = none)) (fcC ⟨li_M_387, c_M_wouldAt l, (fun h => by cases h)⟩ (fcC ⟨li_M_412, c_Ma_absI l, (fun h => by cases h)⟩ fcN)) x en h
  · exact fun x kd h => mLook_all (Q := fun x kd => (kd = 95 ∧ Cond.fieldLink "ClothWithManModel" x "ClothWithMan" "LIKENESSES" "[I" ∈ lw_tbl) ∨ (kd = 96 ∧ Cond.fieldLink "ClothWithManModel" x "ClothWithMan" "APART_BOUNDS" "[I" ∈ lw_tbl)) fcN x kd h
  · exact fun x ci h => mLook_all (Q := fun x ci => ci ≠ 0 ∧ ∃ (C : String) (T : u_T) (N : Nat), mCl[ci]? = some (C, T, N) ∧ Cond.classLink "ClothWithManModel" x C ∈ lw_tbl ∧ Cond.instantiable C N ∈ lw_tbl) fcN x ci h
set_option maxRecDepth 100000 in
theorem c_M_areParted (l : Launch) : mCtr l E_M_areParted := mCtr_of (P := P_M_areParted) (own := "ClothWithManModel") mLay_ok rfl (by decide +kernel) rfl (ok_M_areParted l) (fun h => by cases h) (fun as σ pr rv σ' hF hpr hlv => by
  unfold E_M_areParted S_M_areParted at hF
  simp only [] at hF
  split at hF
  · cases hF
    obtain ⟨n, pcF, c1, s1, g1, g2, g3, g4⟩ := mF_inv (d_M_areParted _ _ _ _ _ _ _ σ (hpr _ rfl))
    exact ⟨Nat.le_of_ble_eq_true rfl, (fun v h => by cases h; trivial), n, pcF, c1, s1, g1, ⟨mEnd_of (i := .ireturn) (P := P_M_areParted) (rets := [49]) rfl g2, bI_narrow _⟩, g3, g4⟩
  · cases hF
    exact (hpr _ rfl).elim)
/-! ClothWithManModel.like(I)I -/
noncomputable def v_M_like (a1 : Int32) (σ : MSto) : Int32 := (if (v_M_in a1 0 5 (sI σ 13 0 52 0)) = 0 then (-1) else (if (gI (sI σ 13 0 52 0) 13 0 31) = 9 then (-1) else (gI (sI (sI (sI σ 13 0 52 0) 64 0 (Int32.toNatClampNeg (gI (sI σ 13 0 52 0) 13 0 31)) a1) 13 0 31 ((gI (sI (sI σ 13 0 52 0) 64 0 (Int32.toNatClampNeg (gI (sI σ 13 0 52 0) 13 0 31)) a1) 13 0 31) + 1)) 13 0 31)))
def p_M_like (a1 : Int32) (σ : MSto) : Prop := (¬ ((v_M_in a1 0 5 (sI σ 13 0 52 0)) = 0) → (¬ ((gI (sI σ 13 0 52 0) 13 0 31) = 9) → (vp_in (gI (sI σ 13 0 52 0) 13 0 31) 9)))
noncomputable def e_M_like (a1 : Int32) (σ : MSto) : MSto := (if (v_M_in a1 0 5 (sI σ 13 0 52 0)) = 0 then (sI σ 13 0 52 0) else (if (gI (sI σ 13 0 52 0) 13 0 31) = 9 then (sI σ 13 0 52 0) else (sI (sI (sI σ 13 0 52 0) 64 0 (Int32.toNatClampNeg (gI (sI σ 13 0 52 0) 13 0 31)) a1) 13 0 31 ((gI (sI (sI σ 13 0 52 0) 64 0 (Int32.toNatClampNeg (gI (sI σ 13 0 52 0) 13 0 31)) a1) 13 0 31) + 1))))
noncomputable def S_M_like : List MV → MSto → Option Prop × Option MV × MSto := fun as σ => match as with
  | [.inr (.inr (some (13, 0))), .inl a0] => (some (p_M_like a0 σ), some (mI (v_M_like a0 σ)), e_M_like a0 σ)
  | _ => (some False, none, σ)
noncomputable def E_M_like : MEnt := ((1, 1, 13), (1, 22, 0, 0), S_M_like, ((⟨"ClothWithManModel", "like", "(I)I"⟩ : MethodName), prog_14_method_91_code, 2, (some .int)))

def T_M_like : Nat → Option (Instr × Nat × List Nat) := fun k => bif Nat.blt k 50 then (bif Nat.blt k 25 then (bif Nat.blt k 11 then (bif Nat.blt k 5 then (bif Nat.blt k 1 then (bif Nat.beq k 0 then some (.aload_n 0, 1, []) else none) else (bif Nat.blt k 2 then (bif Nat.beq k 1 then some (.iconst 0, 2, []) else none) else (bif Nat.beq k 2 then some (.putfield 161, 5, []) else none))) else (bif Nat.blt k 7 then (bif Nat.blt k 6 then (bif Nat.beq k 5 then some (.iload_n 1, 6, []) else none) else (bif Nat.beq k 6 then some (.iconst 0, 7, []) else none)) else (bif Nat.blt k 8 then (bif Nat.beq k 7 then some (.iconst 5, 8, []) else none) else (bif Nat.beq k 8 then some (.invokestatic 181, 11, []) else none)))) else (bif Nat.blt k 18 then (bif Nat.blt k 14 then (bif Nat.beq k 11 then some (.ifCond .eq 12, 14, [23]) else none) else (bif Nat.blt k 15 then (bif Nat.beq k 14 then some (.aload_n 0, 15, []) else none) else (bif Nat.beq k 15 then some (.getfield 425, 18, []) else none))) else (bif Nat.blt k 23 then (bif Nat.blt k 20 then (bif Nat.beq k 18 then some (.bipush 9, 20, []) else none) else (bif Nat.beq k 20 then some (.if_icmp .ne 5, 23, [25]) else none)) else (bif Nat.blt k 24 then (bif Nat.beq k 23 then some (.iconst (-1), 24, []) else none) else (bif Nat.beq k 24 then some (.ireturn, 25, []) else none))))) else (bif Nat.blt k 36 then (bif Nat.blt k 30 then (bif Nat.blt k 26 then (bif Nat.beq k 25 then some (.aload_n 0, 26, []) else none) else (bif Nat.blt k 29 then (bif Nat.beq k 26 then some (.getfield 87, 29, []) else none) else (bif Nat.beq k 29 then some (.aload_n 0, 30, []) else none))) else (bif Nat.blt k 34 then (bif Nat.blt k 33 then (bif Nat.beq k 30 then some (.getfield 425, 33, []) else none) else (bif Nat.beq k 33 then some (.iload_n 1, 34, []) else none)) else (bif Nat.blt k 35 then (bif Nat.beq k 34 then some (.iastore, 35, []) else none) else (bif Nat.beq k 35 then some (.aload_n 0, 36, []) else none)))) else (bif Nat.blt k 42 then (bif Nat.blt k 40 then (bif Nat.blt k 37 then (bif Nat.beq k 36 then some (.dup, 37, []) else none) else (bif Nat.beq k 37 then some (.getfield 425, 40, []) else none)) else (bif Nat.blt k 41 then (bif Nat.beq k 40 then some (.iconst 1, 41, []) else none) else (bif Nat.beq k 41 then some (.iadd, 42, []) else none))) else (bif Nat.blt k 46 then (bif Nat.blt k 45 then (bif Nat.beq k 42 then some (.putfield 425, 45, []) else none) else (bif Nat.beq k 45 then some (.aload_n 0, 46, []) else none)) else (bif Nat.blt k 49 then (bif Nat.beq k 46 then some (.getfield 425, 49, []) else none) else (bif Nat.beq k 49 then some (.ireturn, 50, []) else none)))))) else none
noncomputable def P_M_like : MP := (T_M_like, (fun k => mLook k [(87, (13, 32, (.array .int), true)), (161, (13, 52, .int, false)), (425, (13, 31, .int, false))]), (fun k => mLook k []), (fun k => mLook k [(181, E_M_in)]), (fun k => mLook k []), (fun k => mLook k []), (fun k => mLook k []), (fun k => mLook k []), (fun k => [24, 49].any (Nat.beq k)), (1, 22, 0, 0), false, (fun _ => none))
set_option maxRecDepth 100000 in
set_option maxHeartbeats 4000000 in
theorem q_M_like_e (a1 : Int32) (σ : MSto) (n : Nat) : mexe KT P_M_like (n + 1) (0, [some (mR 13 0), some (mI a1)], [], σ, 0, 0) = mIf ((v_M_in a1 0 5 (sI σ 13 0 52 0)) = 0) (some (24, [], [(mI (-1))], (sI σ 13 0 52 0), 0, 0)) (mIf ((gI (sI σ 13 0 52 0) 13 0 31) = 9) (some (24, [], [(mI (-1))], (sI σ 13 0 52 0), 0, 0)) (mG (vp_in (gI (sI σ 13 0 52 0) 13 0 31) 9) (some (49, [], [(mI (gI (sI (sI (sI σ 13 0 52 0) 64 0 (Int32.toNatClampNeg (gI (sI σ 13 0 52 0) 13 0 31)) a1) 13 0 31 ((gI (sI (sI σ 13 0 52 0) 64 0 (Int32.toNatClampNeg (gI (sI σ 13 0 52 0) 13 0 31)) a1) 13 0 31) + 1)) 13 0 31))], (sI (sI (sI σ 13 0 52 0) 64 0 (Int32.toNatClampNeg (gI (sI σ 13 0 52 0) 13 0 31)) a1) 13 0 31 ((gI (sI (sI σ 13 0 52 0) 64 0 (Int32.toNatClampNeg (gI (sI σ 13 0 52 0) 13 0 31)) a1) 13 0 31) + 1)), 0, 0)))) := rfl
set_option maxRecDepth 100000 in
set_option maxHeartbeats 4000000 in
theorem d_M_like (a1 : Int32) (σ : MSto) (hp : p_M_like a1 σ) : mW1 P_M_like (0, [some (mR 13 0), some (mI a1)], [], σ, 0, 0) (mF [24, 49] [mI (v_M_like a1 σ)] (e_M_like a1 σ) 0 0) := by
  refine mW1_eq (q_M_like_e _ _) ?_
  unfold p_M_like at hp
  refine mTr_if (fun h0 => ?_) (fun h0 => ?_)
  · skip
    exact mTr_e (by decide) (congrArg (fun z => [mI z]) (Eq.symm (if_pos h0))) (Eq.symm (if_pos h0)) (by decide) (by decide)
  · skip
    have hp := hp h0
    refine mTr_if (fun h1 => ?_) (fun h1 => ?_)
    · skip
      exact mTr_e (by decide) (congrArg (fun z => [mI z]) (Eq.symm ((if_neg h0).trans (if_pos h1)))) (Eq.symm ((if_neg h0).trans (if_pos h1))) (by decide) (by decide)
    · skip
      have hp := hp h1
      refine mTr_g hp ?_
      exact mTr_e (by decide) (congrArg (fun z => [mI z]) (Eq.symm ((if_neg h0).trans (if_neg h1)))) (Eq.symm ((if_neg h0).trans (if_neg h1))) (by decide) (by decide)

theorem tk_M_like : ∀ pc i nx tg, T_M_like pc = some (i, nx, tg) → mOkB prog_14_method_91_code pc i nx tg = true := code_ok (N := 50) (fun k h => by unfold T_M_like; rw [h]; rfl) (by decide +kernel)
theorem ok_M_like (l : Launch) : mPOK l "ClothWithManModel" prog_14_method_91_code P_M_like := by
  refine ⟨tk_M_like, ?_, ?_, ?_, (fun pc i nx tg kd _ h => by cases h), ?_, ?_, fun pc en h => by cases h⟩
  · intro x ci f ty fin h
    exact mLook_all (Q := fun x v => mFOK "ClothWithManModel" x v.1 v.2.1 v.2.2.1 v.2.2.2 ∧ (v.2.2.2 = true → pIni P_M_like = true → (Cond.fieldLink "ClothWithManModel" x (((mCl[v.1]?).getD ("", fun _ => ("", "", "", false), 0)).2.1 v.2.1).1 (((mCl[v.1]?).getD ("", fun _ => ("", "", "", false), 0)).2.1 v.2.1).2.1 (((mCl[v.1]?).getD ("", fun _ => ("", "", "", false), 0)).2.1 v.2.1).2.2.1 ∈ lw_tbl ∧ (((mCl[v.1]?).getD ("", fun _ => ("", "", "", false), 0)).2.1 v.2.1).1 = "ClothWithManModel"))) (fcC ⟨fo_M_87, fun h1 h2 => by cases h2⟩ (fcC ⟨fo_M_161, fun h1 h2 => by cases h1⟩ (fcC ⟨fo_M_425, fun h1 h2 => by cases h1⟩ fcN))) x (ci, f, ty, fin) h
  · intro x
    have hh := mLook_all (l := ([] : List (Nat × (Int32 ⊕ Int64)))) (Q := fun x (v : Int32 ⊕ Int64) => (∀ w, v = .inl w → Cond.constant "ClothWithManModel" x w ∈ lw_tbl) ∧ (∀ w, v = .inr w → Cond.constantLong "ClothWithManModel" x w ∈ lw_tbl)) fcN x
    exact ⟨fun w h => (hh _ h).1 w rfl, fun w h => (hh _ h).2 w rfl⟩
  · exact fun x en h => mLook_all (Q := fun x en => mLink "ClothWithManModel" x en ∧ mCtr l en ∧ (en.1.1 = 2 → en.2.2.2.2.2.2 = none)) (fcC ⟨li_M_181, c_M_in l, (fun h => by cases h)⟩ fcN) x en h
  · exact fun x kd h => mLook_all (Q := fun x kd => (kd = 95 ∧ Cond.fieldLink "ClothWithManModel" x "ClothWithMan" "LIKENESSES" "[I" ∈ lw_tbl) ∨ (kd = 96 ∧ Cond.fieldLink "ClothWithManModel" x "ClothWithMan" "APART_BOUNDS" "[I" ∈ lw_tbl)) fcN x kd h
  · exact fun x ci h => mLook_all (Q := fun x ci => ci ≠ 0 ∧ ∃ (C : String) (T : u_T) (N : Nat), mCl[ci]? = some (C, T, N) ∧ Cond.classLink "ClothWithManModel" x C ∈ lw_tbl ∧ Cond.instantiable C N ∈ lw_tbl) fcN x ci h
set_option maxRecDepth 100000 in
theorem c_M_like (l : Launch) : mCtr l E_M_like := mCtr_of (P := P_M_like) (own := "ClothWithManModel") mLay_ok rfl (by decide +kernel) rfl (ok_M_like l) (fun h => by cases h) (fun as σ pr rv σ' hF hpr hlv => by
  unfold E_M_like S_M_like at hF
  simp only [] at hF
  split at hF
  · cases hF
    obtain ⟨n, pcF, c1, s1, g1, g2, g3, g4⟩ := mF_inv (d_M_like _ σ (hpr _ rfl))
    exact ⟨Nat.le_of_ble_eq_true rfl, (fun v h => by cases h; trivial), n, pcF, c1, s1, g1, ⟨mEnd_of (i := .ireturn) (P := P_M_like) (rets := [24, 49]) rfl g2, rfl⟩, g3, g4⟩
  · cases hF
    exact (hpr _ rfl).elim)
/-! ClothWithManModel.how(III)Z -/
def b_M_how (a1 : Int32) (a2 : Int32) (a3 : Int32) (σ : MSto) : Prop := (if (v_M_in a1 0 7 (sI σ 13 0 52 0)) = 0 then False else (if (v_M_in a2 0 255 (sI σ 13 0 52 0)) = 0 then False else (if (v_M_in a3 0 255 (sI σ 13 0 52 0)) = 0 then False else (if (a2 &&& a3) = 0 then True else False))))
noncomputable def v_M_how (a1 : Int32) (a2 : Int32) (a3 : Int32) (σ : MSto) : Int32 := bI (b_M_how a1 a2 a3 σ)
def p_M_how (a1 : Int32) (a2 : Int32) (a3 : Int32) (σ : MSto) : Prop := (¬ ((v_M_in a1 0 7 (sI σ 13 0 52 0)) = 0) → (¬ ((v_M_in a2 0 255 (sI σ 13 0 52 0)) = 0) → (¬ ((v_M_in a3 0 255 (sI σ 13 0 52 0)) = 0) → (((a2 &&& a3) = 0) → ((vp_in a1 8) ∧ (vp_in a1 8))))))
noncomputable def e_M_how (a1 : Int32) (a2 : Int32) (a3 : Int32) (σ : MSto) : MSto := (if (v_M_in a1 0 7 (sI σ 13 0 52 0)) = 0 then (sI σ 13 0 52 0) else (if (v_M_in a2 0 255 (sI σ 13 0 52 0)) = 0 then (sI σ 13 0 52 0) else (if (v_M_in a3 0 255 (sI σ 13 0 52 0)) = 0 then (sI σ 13 0 52 0) else (if (a2 &&& a3) = 0 then (sI (sI (sI (sI σ 13 0 52 0) 65 0 (Int32.toNatClampNeg a1) a2) 66 0 (Int32.toNatClampNeg a1) a3) 13 0 33 ((gI (sI (sI (sI σ 13 0 52 0) 65 0 (Int32.toNatClampNeg a1) a2) 66 0 (Int32.toNatClampNeg a1) a3) 13 0 33) ||| ((1 : Int32) <<< (a1 &&& 31)))) else (sI σ 13 0 52 0)))))
noncomputable def S_M_how : List MV → MSto → Option Prop × Option MV × MSto := fun as σ => match as with
  | [.inr (.inr (some (13, 0))), .inl a0, .inl a1, .inl a2] => (some (p_M_how a0 a1 a2 σ), some (mI (v_M_how a0 a1 a2 σ)), e_M_how a0 a1 a2 σ)
  | _ => (some False, none, σ)
noncomputable def E_M_how : MEnt := ((1, 3, 13), (1, 22, 0, 0), S_M_how, ((⟨"ClothWithManModel", "how", "(III)Z"⟩ : MethodName), prog_14_method_94_code, 4, (some .boolean)))

def T_M_how : Nat → Option (Instr × Nat × List Nat) := fun k => bif Nat.blt k 73 then (bif Nat.blt k 43 then (bif Nat.blt k 20 then (bif Nat.blt k 7 then (bif Nat.blt k 2 then (bif Nat.blt k 1 then (bif Nat.beq k 0 then some (.aload_n 0, 1, []) else none) else (bif Nat.beq k 1 then some (.iconst 0, 2, []) else none)) else (bif Nat.blt k 5 then (bif Nat.beq k 2 then some (.putfield 161, 5, []) else none) else (bif Nat.blt k 6 then (bif Nat.beq k 5 then some (.iload_n 1, 6, []) else none) else (bif Nat.beq k 6 then some (.iconst 0, 7, []) else none)))) else (bif Nat.blt k 15 then (bif Nat.blt k 9 then (bif Nat.beq k 7 then some (.bipush 7, 9, []) else none) else (bif Nat.blt k 12 then (bif Nat.beq k 9 then some (.invokestatic 181, 12, []) else none) else (bif Nat.beq k 12 then some (.ifCond .eq 31, 15, [43]) else none))) else (bif Nat.blt k 16 then (bif Nat.beq k 15 then some (.iload_n 2, 16, []) else none) else (bif Nat.blt k 17 then (bif Nat.beq k 16 then some (.iconst 0, 17, []) else none) else (bif Nat.beq k 17 then some (.sipush 255, 20, []) else none))))) else (bif Nat.blt k 31 then (bif Nat.blt k 26 then (bif Nat.blt k 23 then (bif Nat.beq k 20 then some (.invokestatic 181, 23, []) else none) else (bif Nat.beq k 23 then some (.ifCond .eq 20, 26, [43]) else none)) else (bif Nat.blt k 27 then (bif Nat.beq k 26 then some (.iload_n 3, 27, []) else none) else (bif Nat.blt k 28 then (bif Nat.beq k 27 then some (.iconst 0, 28, []) else none) else (bif Nat.beq k 28 then some (.sipush 255, 31, []) else none)))) else (bif Nat.blt k 38 then (bif Nat.blt k 34 then (bif Nat.beq k 31 then some (.invokestatic 181, 34, []) else none) else (bif Nat.blt k 37 then (bif Nat.beq k 34 then some (.ifCond .eq 9, 37, [43]) else none) else (bif Nat.beq k 37 then some (.iload_n 2, 38, []) else none))) else (bif Nat.blt k 39 then (bif Nat.beq k 38 then some (.iload_n 3, 39, []) else none) else (bif Nat.blt k 40 then (bif Nat.beq k 39 then some (.iand, 40, []) else none) else (bif Nat.beq k 40 then some (.ifCond .eq 5, 43, [45]) else none)))))) else (bif Nat.blt k 58 then (bif Nat.blt k 50 then (bif Nat.blt k 45 then (bif Nat.blt k 44 then (bif Nat.beq k 43 then some (.iconst 0, 44, []) else none) else (bif Nat.beq k 44 then some (.ireturn, 45, []) else none)) else (bif Nat.blt k 46 then (bif Nat.beq k 45 then some (.aload_n 0, 46, []) else none) else (bif Nat.blt k 49 then (bif Nat.beq k 46 then some (.getfield 90, 49, []) else none) else (bif Nat.beq k 49 then some (.iload_n 1, 50, []) else none)))) else (bif Nat.blt k 53 then (bif Nat.blt k 51 then (bif Nat.beq k 50 then some (.iload_n 2, 51, []) else none) else (bif Nat.blt k 52 then (bif Nat.beq k 51 then some (.iastore, 52, []) else none) else (bif Nat.beq k 52 then some (.aload_n 0, 53, []) else none))) else (bif Nat.blt k 56 then (bif Nat.beq k 53 then some (.getfield 93, 56, []) else none) else (bif Nat.blt k 57 then (bif Nat.beq k 56 then some (.iload_n 1, 57, []) else none) else (bif Nat.beq k 57 then some (.iload_n 3, 58, []) else none))))) else (bif Nat.blt k 65 then (bif Nat.blt k 60 then (bif Nat.blt k 59 then (bif Nat.beq k 58 then some (.iastore, 59, []) else none) else (bif Nat.beq k 59 then some (.aload_n 0, 60, []) else none)) else (bif Nat.blt k 61 then (bif Nat.beq k 60 then some (.dup, 61, []) else none) else (bif Nat.blt k 64 then (bif Nat.beq k 61 then some (.getfield 431, 64, []) else none) else (bif Nat.beq k 64 then some (.iconst 1, 65, []) else none)))) else (bif Nat.blt k 68 then (bif Nat.blt k 66 then (bif Nat.beq k 65 then some (.iload_n 1, 66, []) else none) else (bif Nat.blt k 67 then (bif Nat.beq k 66 then some (.ishl, 67, []) else none) else (bif Nat.beq k 67 then some (.ior, 68, []) else none))) else (bif Nat.blt k 71 then (bif Nat.beq k 68 then some (.putfield 431, 71, []) else none) else (bif Nat.blt k 72 then (bif Nat.beq k 71 then some (.iconst 1, 72, []) else none) else (bif Nat.beq k 72 then some (.ireturn, 73, []) else none))))))) else none
noncomputable def P_M_how : MP := (T_M_how, (fun k => mLook k [(90, (13, 34, (.array .int), true)), (93, (13, 35, (.array .int), true)), (161, (13, 52, .int, false)), (431, (13, 33, .int, false))]), (fun k => mLook k []), (fun k => mLook k [(181, E_M_in)]), (fun k => mLook k []), (fun k => mLook k []), (fun k => mLook k []), (fun k => mLook k []), (fun k => [44, 72].any (Nat.beq k)), (1, 22, 0, 0), false, (fun _ => none))
set_option maxRecDepth 100000 in
set_option maxHeartbeats 4000000 in
theorem q_M_how_e (a1 : Int32) (a2 : Int32) (a3 : Int32) (σ : MSto) (n : Nat) : mexe KT P_M_how (n + 1) (0, [some (mR 13 0), some (mI a1), some (mI a2), some (mI a3)], [], σ, 0, 0) = mIf ((v_M_in a1 0 7 (sI σ 13 0 52 0)) = 0) (some (44, [], [(mI 0)], (sI σ 13 0 52 0), 0, 0)) (mIf ((v_M_in a2 0 255 (sI σ 13 0 52 0)) = 0) (some (44, [], [(mI 0)], (sI σ 13 0 52 0), 0, 0)) (mIf ((v_M_in a3 0 255 (sI σ 13 0 52 0)) = 0) (some (44, [], [(mI 0)], (sI σ 13 0 52 0), 0, 0)) (mIf ((a2 &&& a3) = 0) (mG (vp_in a1 8) (mG (vp_in a1 8) (some (72, [], [(mI 1)], (sI (sI (sI (sI σ 13 0 52 0) 65 0 (Int32.toNatClampNeg a1) a2) 66 0 (Int32.toNatClampNeg a1) a3) 13 0 33 ((gI (sI (sI (sI σ 13 0 52 0) 65 0 (Int32.toNatClampNeg a1) a2) 66 0 (Int32.toNatClampNeg a1) a3) 13 0 33) ||| ((1 : Int32) <<< (a1 &&& 31)))), 0, 0)))) (some (44, [], [(mI 0)], (sI σ 13 0 52 0), 0, 0))))) := rfl
set_option maxRecDepth 100000 in
set_option maxHeartbeats 4000000 in
theorem d_M_how (a1 : Int32) (a2 : Int32) (a3 : Int32) (σ : MSto) (hp : p_M_how a1 a2 a3 σ) : mW1 P_M_how (0, [some (mR 13 0), some (mI a1), some (mI a2), some (mI a3)], [], σ, 0, 0) (mF [44, 72] [mI (v_M_how a1 a2 a3 σ)] (e_M_how a1 a2 a3 σ) 0 0) := by
  refine mW1_eq (q_M_how_e _ _ _ _) ?_
  unfold p_M_how at hp
  unfold v_M_how
  refine mTr_if (fun h0 => ?_) (fun h0 => ?_)
  · skip
    exact mTr_e (by decide) (bI_F (if_pos h0)) (Eq.symm (if_pos h0)) (by decide) (by decide)
  · skip
    have hp := hp h0
    refine mTr_if (fun h1 => ?_) (fun h1 => ?_)
    · skip
      exact mTr_e (by decide) (bI_F ((if_neg h0).trans (if_pos h1))) (Eq.symm ((if_neg h0).trans (if_pos h1))) (by decide) (by decide)
    · skip
      have hp := hp h1
      refine mTr_if (fun h2 => ?_) (fun h2 => ?_)
      · skip
        exact mTr_e (by decide) (bI_F ((if_neg h0).trans ((if_neg h1).trans (if_pos h2)))) (Eq.symm ((if_neg h0).trans ((if_neg h1).trans (if_pos h2)))) (by decide) (by decide)
      · skip
        have hp := hp h2
        refine mTr_if (fun h3 => ?_) (fun h3 => ?_)
        · skip
          have hp := hp h3
          refine mTr_g hp.1 ?_
          have hp := hp.2
          refine mTr_g hp ?_
          exact mTr_e (by decide) (bI_T ((if_neg h0).trans ((if_neg h1).trans ((if_neg h2).trans (if_pos h3))))) (Eq.symm ((if_neg h0).trans ((if_neg h1).trans ((if_neg h2).trans (if_pos h3))))) (by decide) (by decide)
        · skip
          exact mTr_e (by decide) (bI_F ((if_neg h0).trans ((if_neg h1).trans ((if_neg h2).trans (if_neg h3))))) (Eq.symm ((if_neg h0).trans ((if_neg h1).trans ((if_neg h2).trans (if_neg h3))))) (by decide) (by decide)

theorem tk_M_how : ∀ pc i nx tg, T_M_how pc = some (i, nx, tg) → mOkB prog_14_method_94_code pc i nx tg = true := code_ok (N := 73) (fun k h => by unfold T_M_how; rw [h]; rfl) (by decide +kernel)
theorem ok_M_how (l : Launch) : mPOK l "ClothWithManModel" prog_14_method_94_code P_M_how := by
  refine ⟨tk_M_how, ?_, ?_, ?_, (fun pc i nx tg kd _ h => by cases h), ?_, ?_, fun pc en h => by cases h⟩
  · intro x ci f ty fin h
    exact mLook_all (Q := fun x v => mFOK "ClothWithManModel" x v.1 v.2.1 v.2.2.1 v.2.2.2 ∧ (v.2.2.2 = true → pIni P_M_how = true → (Cond.fieldLink "ClothWithManModel" x (((mCl[v.1]?).getD ("", fun _ => ("", "", "", false), 0)).2.1 v.2.1).1 (((mCl[v.1]?).getD ("", fun _ => ("", "", "", false), 0)).2.1 v.2.1).2.1 (((mCl[v.1]?).getD ("", fun _ => ("", "", "", false), 0)).2.1 v.2.1).2.2.1 ∈ lw_tbl ∧ (((mCl[v.1]?).getD ("", fun _ => ("", "", "", false), 0)).2.1 v.2.1).1 = "ClothWithManModel"))) (fcC ⟨fo_M_90, fun h1 h2 => by cases h2⟩ (fcC ⟨fo_M_93, fun h1 h2 => by cases h2⟩ (fcC ⟨fo_M_161, fun h1 h2 => by cases h1⟩ (fcC ⟨fo_M_431, fun h1 h2 => by cases h1⟩ fcN)))) x (ci, f, ty, fin) h
  · intro x
    have hh := mLook_all (l := ([] : List (Nat × (Int32 ⊕ Int64)))) (Q := fun x (v : Int32 ⊕ Int64) => (∀ w, v = .inl w → Cond.constant "ClothWithManModel" x w ∈ lw_tbl) ∧ (∀ w, v = .inr w → Cond.constantLong "ClothWithManModel" x w ∈ lw_tbl)) fcN x
    exact ⟨fun w h => (hh _ h).1 w rfl, fun w h => (hh _ h).2 w rfl⟩
  · exact fun x en h => mLook_all (Q := fun x en => mLink "ClothWithManModel" x en ∧ mCtr l en ∧ (en.1.1 = 2 → en.2.2.2.2.2.2 = none)) (fcC ⟨li_M_181, c_M_in l, (fun h => by cases h)⟩ fcN) x en h
  · exact fun x kd h => mLook_all (Q := fun x kd => (kd = 95 ∧ Cond.fieldLink "ClothWithManModel" x "ClothWithMan" "LIKENESSES" "[I" ∈ lw_tbl) ∨ (kd = 96 ∧ Cond.fieldLink "ClothWithManModel" x "ClothWithMan" "APART_BOUNDS" "[I" ∈ lw_tbl)) fcN x kd h
  · exact fun x ci h => mLook_all (Q := fun x ci => ci ≠ 0 ∧ ∃ (C : String) (T : u_T) (N : Nat), mCl[ci]? = some (C, T, N) ∧ Cond.classLink "ClothWithManModel" x C ∈ lw_tbl ∧ Cond.instantiable C N ∈ lw_tbl) fcN x ci h
set_option maxRecDepth 100000 in
theorem c_M_how (l : Launch) : mCtr l E_M_how := mCtr_of (P := P_M_how) (own := "ClothWithManModel") mLay_ok rfl (by decide +kernel) rfl (ok_M_how l) (fun h => by cases h) (fun as σ pr rv σ' hF hpr hlv => by
  unfold E_M_how S_M_how at hF
  simp only [] at hF
  split at hF
  · cases hF
    obtain ⟨n, pcF, c1, s1, g1, g2, g3, g4⟩ := mF_inv (d_M_how _ _ _ σ (hpr _ rfl))
    exact ⟨Nat.le_of_ble_eq_true rfl, (fun v h => by cases h; trivial), n, pcF, c1, s1, g1, ⟨mEnd_of (i := .ireturn) (P := P_M_how) (rets := [44, 72]) rfl g2, bI_narrow _⟩, g3, g4⟩
  · cases hF
    exact (hpr _ rfl).elim)
/-! ClothWithManModel.areMarks(II)Z -/
def b_M_areMarks (a0 : Int32) (a1 : Int32) (σ : MSto) : Prop := (if (v_M_in a0 0 255 σ) = 0 then False else (if (v_M_in a1 0 255 σ) = 0 then False else (if (a0 &&& a1) = 0 then True else False)))
noncomputable def v_M_areMarks (a0 : Int32) (a1 : Int32) (σ : MSto) : Int32 := bI (b_M_areMarks a0 a1 σ)
noncomputable def S_M_areMarks : List MV → MSto → Option Prop × Option MV × MSto := fun as σ => match as with
  | [.inl a0, .inl a1] => (none, some (mI (v_M_areMarks a0 a1 σ)), σ)
  | _ => (some False, none, σ)
noncomputable def E_M_areMarks : MEnt := ((0, 2, 13), (1, 22, 0, 0), S_M_areMarks, ((⟨"ClothWithManModel", "areMarks", "(II)Z"⟩ : MethodName), prog_14_method_95_code, 2, (some .boolean)))

def T_M_areMarks : Nat → Option (Instr × Nat × List Nat) := fun k => bif Nat.blt k 34 then (bif Nat.blt k 19 then (bif Nat.blt k 8 then (bif Nat.blt k 2 then (bif Nat.blt k 1 then (bif Nat.beq k 0 then some (.iload_n 0, 1, []) else none) else (bif Nat.beq k 1 then some (.iconst 0, 2, []) else none)) else (bif Nat.blt k 5 then (bif Nat.beq k 2 then some (.sipush 255, 5, []) else none) else (bif Nat.beq k 5 then some (.invokestatic 181, 8, []) else none))) else (bif Nat.blt k 12 then (bif Nat.blt k 11 then (bif Nat.beq k 8 then some (.ifCond .eq 24, 11, [32]) else none) else (bif Nat.beq k 11 then some (.iload_n 1, 12, []) else none)) else (bif Nat.blt k 13 then (bif Nat.beq k 12 then some (.iconst 0, 13, []) else none) else (bif Nat.blt k 16 then (bif Nat.beq k 13 then some (.sipush 255, 16, []) else none) else (bif Nat.beq k 16 then some (.invokestatic 181, 19, []) else none))))) else (bif Nat.blt k 25 then (bif Nat.blt k 23 then (bif Nat.blt k 22 then (bif Nat.beq k 19 then some (.ifCond .eq 13, 22, [32]) else none) else (bif Nat.beq k 22 then some (.iload_n 0, 23, []) else none)) else (bif Nat.blt k 24 then (bif Nat.beq k 23 then some (.iload_n 1, 24, []) else none) else (bif Nat.beq k 24 then some (.iand, 25, []) else none))) else (bif Nat.blt k 29 then (bif Nat.blt k 28 then (bif Nat.beq k 25 then some (.ifCond .ne 7, 28, [32]) else none) else (bif Nat.beq k 28 then some (.iconst 1, 29, []) else none)) else (bif Nat.blt k 32 then (bif Nat.beq k 29 then some (.goto 4, 32, [33]) else none) else (bif Nat.blt k 33 then (bif Nat.beq k 32 then some (.iconst 0, 33, []) else none) else (bif Nat.beq k 33 then some (.ireturn, 34, []) else none)))))) else none
noncomputable def P_M_areMarks : MP := (T_M_areMarks, (fun k => mLook k []), (fun k => mLook k []), (fun k => mLook k [(181, E_M_in)]), (fun k => mLook k []), (fun k => mLook k []), (fun k => mLook k []), (fun k => mLook k []), (fun k => [33].any (Nat.beq k)), (1, 22, 0, 0), false, (fun _ => none))
set_option maxRecDepth 100000 in
set_option maxHeartbeats 4000000 in
theorem q_M_areMarks_e (a0 : Int32) (a1 : Int32) (σ : MSto) (n : Nat) : mexe KT P_M_areMarks (n + 1) (0, [some (mI a0), some (mI a1)], [], σ, 0, 0) = mIf ((v_M_in a0 0 255 σ) = 0) (some (33, [], [(mI 0)], σ, 0, 0)) (mIf ((v_M_in a1 0 255 σ) = 0) (some (33, [], [(mI 0)], σ, 0, 0)) (mIf ((a0 &&& a1) = 0) (some (33, [], [(mI 1)], σ, 0, 0)) (some (33, [], [(mI 0)], σ, 0, 0)))) := rfl
set_option maxRecDepth 100000 in
set_option maxHeartbeats 4000000 in
theorem d_M_areMarks (a0 : Int32) (a1 : Int32) (σ : MSto) : mW1 P_M_areMarks (0, [some (mI a0), some (mI a1)], [], σ, 0, 0) (mF [33] [mI (v_M_areMarks a0 a1 σ)] σ 0 0) := by
  refine mW1_eq (q_M_areMarks_e _ _ _) ?_
  unfold v_M_areMarks
  refine mTr_if (fun h0 => ?_) (fun h0 => ?_)
  · skip
    exact mTr_e (by decide) (bI_F (if_pos h0)) rfl (by decide) (by decide)
  · skip
    refine mTr_if (fun h1 => ?_) (fun h1 => ?_)
    · skip
      exact mTr_e (by decide) (bI_F ((if_neg h0).trans (if_pos h1))) rfl (by decide) (by decide)
    · skip
      refine mTr_if (fun h2 => ?_) (fun h2 => ?_)
      · skip
        exact mTr_e (by decide) (bI_T ((if_neg h0).trans ((if_neg h1).trans (if_pos h2)))) rfl (by decide) (by decide)
      · skip
        exact mTr_e (by decide) (bI_F ((if_neg h0).trans ((if_neg h1).trans (if_neg h2)))) rfl (by decide) (by decide)

theorem tk_M_areMarks : ∀ pc i nx tg, T_M_areMarks pc = some (i, nx, tg) → mOkB prog_14_method_95_code pc i nx tg = true := code_ok (N := 34) (fun k h => by unfold T_M_areMarks; rw [h]; rfl) (by decide +kernel)
theorem ok_M_areMarks (l : Launch) : mPOK l "ClothWithManModel" prog_14_method_95_code P_M_areMarks := by
  refine ⟨tk_M_areMarks, ?_, ?_, ?_, (fun pc i nx tg kd _ h => by cases h), ?_, ?_, fun pc en h => by cases h⟩
  · intro x ci f ty fin h
    exact mLook_all (Q := fun x v => mFOK "ClothWithManModel" x v.1 v.2.1 v.2.2.1 v.2.2.2 ∧ (v.2.2.2 = true → pIni P_M_areMarks = true → (Cond.fieldLink "ClothWithManModel" x (((mCl[v.1]?).getD ("", fun _ => ("", "", "", false), 0)).2.1 v.2.1).1 (((mCl[v.1]?).getD ("", fun _ => ("", "", "", false), 0)).2.1 v.2.1).2.1 (((mCl[v.1]?).getD ("", fun _ => ("", "", "", false), 0)).2.1 v.2.1).2.2.1 ∈ lw_tbl ∧ (((mCl[v.1]?).getD ("", fun _ => ("", "", "", false), 0)).2.1 v.2.1).1 = "ClothWithManModel"))) fcN x (ci, f, ty, fin) h
  · intro x
    have hh := mLook_all (l := ([] : List (Nat × (Int32 ⊕ Int64)))) (Q := fun x (v : Int32 ⊕ Int64) => (∀ w, v = .inl w → Cond.constant "ClothWithManModel" x w ∈ lw_tbl) ∧ (∀ w, v = .inr w → Cond.constantLong "ClothWithManModel" x w ∈ lw_tbl)) fcN x
    exact ⟨fun w h => (hh _ h).1 w rfl, fun w h => (hh _ h).2 w rfl⟩
  · exact fun x en h => mLook_all (Q := fun x en => mLink "ClothWithManModel" x en ∧ mCtr l en ∧ (en.1.1 = 2 → en.2.2.2.2.2.2 = none)) (fcC ⟨li_M_181, c_M_in l, (fun h => by cases h)⟩ fcN) x en h
  · exact fun x kd h => mLook_all (Q := fun x kd => (kd = 95 ∧ Cond.fieldLink "ClothWithManModel" x "ClothWithMan" "LIKENESSES" "[I" ∈ lw_tbl) ∨ (kd = 96 ∧ Cond.fieldLink "ClothWithManModel" x "ClothWithMan" "APART_BOUNDS" "[I" ∈ lw_tbl)) fcN x kd h
  · exact fun x ci h => mLook_all (Q := fun x ci => ci ≠ 0 ∧ ∃ (C : String) (T : u_T) (N : Nat), mCl[ci]? = some (C, T, N) ∧ Cond.classLink "ClothWithManModel" x C ∈ lw_tbl ∧ Cond.instantiable C N ∈ lw_tbl) fcN x ci h
set_option maxRecDepth 100000 in
theorem c_M_areMarks (l : Launch) : mCtr l E_M_areMarks := mCtr_of (P := P_M_areMarks) (own := "ClothWithManModel") mLay_ok rfl (by decide +kernel) rfl (ok_M_areMarks l) (fun h => by cases h) (fun as σ pr rv σ' hF hpr hlv => by
  unfold E_M_areMarks S_M_areMarks at hF
  simp only [] at hF
  split at hF
  · cases hF
    obtain ⟨n, pcF, c1, s1, g1, g2, g3, g4⟩ := mF_inv (d_M_areMarks _ _ σ)
    exact ⟨Nat.le_of_ble_eq_true rfl, (fun v h => by cases h; trivial), n, pcF, c1, s1, g1, ⟨mEnd_of (i := .ireturn) (P := P_M_areMarks) (rets := [33]) rfl g2, bI_narrow _⟩, g3, g4⟩
  · cases hF
    exact (hpr _ rfl).elim)
/-! ClothWithManModel.wanted(IIII)Z -/
def b_M_wanted (a1 : Int32) (a2 : Int32) (a3 : Int32) (a4 : Int32) (σ : MSto) : Prop := (if (v_M_in a1 0 7 (sI σ 13 0 52 0)) = 0 then False else (if (v_M_isStory a2 (sI σ 13 0 52 0)) = 0 then False else (if (v_M_in a3 0 15 (sI σ 13 0 52 0)) = 0 then False else (if (v_M_in a4 0 4095 (sI σ 13 0 52 0)) = 0 then False else True))))
noncomputable def v_M_wanted (a1 : Int32) (a2 : Int32) (a3 : Int32) (a4 : Int32) (σ : MSto) : Int32 := bI (b_M_wanted a1 a2 a3 a4 σ)
def p_M_wanted (a1 : Int32) (a2 : Int32) (a3 : Int32) (a4 : Int32) (σ : MSto) : Prop := (¬ ((v_M_in a1 0 7 (sI σ 13 0 52 0)) = 0) → (¬ ((v_M_isStory a2 (sI σ 13 0 52 0)) = 0) → (¬ ((v_M_in a3 0 15 (sI σ 13 0 52 0)) = 0) → (¬ ((v_M_in a4 0 4095 (sI σ 13 0 52 0)) = 0) → ((vp_in a1 8) ∧ ((vp_in a1 8) ∧ (vp_in a1 8)))))))
noncomputable def e_M_wanted (a1 : Int32) (a2 : Int32) (a3 : Int32) (a4 : Int32) (σ : MSto) : MSto := (if (v_M_in a1 0 7 (sI σ 13 0 52 0)) = 0 then (sI σ 13 0 52 0) else (if (v_M_isStory a2 (sI σ 13 0 52 0)) = 0 then (sI σ 13 0 52 0) else (if (v_M_in a3 0 15 (sI σ 13 0 52 0)) = 0 then (sI σ 13 0 52 0) else (if (v_M_in a4 0 4095 (sI σ 13 0 52 0)) = 0 then (sI σ 13 0 52 0) else (sI (sI (sI (sI (sI σ 13 0 52 0) 67 0 (Int32.toNatClampNeg a1) a2) 68 0 (Int32.toNatClampNeg a1) a3) 69 0 (Int32.toNatClampNeg a1) a4) 13 0 36 ((gI (sI (sI (sI (sI σ 13 0 52 0) 67 0 (Int32.toNatClampNeg a1) a2) 68 0 (Int32.toNatClampNeg a1) a3) 69 0 (Int32.toNatClampNeg a1) a4) 13 0 36) ||| ((1 : Int32) <<< (a1 &&& 31))))))))
noncomputable def S_M_wanted : List MV → MSto → Option Prop × Option MV × MSto := fun as σ => match as with
  | [.inr (.inr (some (13, 0))), .inl a0, .inl a1, .inl a2, .inl a3] => (some (p_M_wanted a0 a1 a2 a3 σ), some (mI (v_M_wanted a0 a1 a2 a3 σ)), e_M_wanted a0 a1 a2 a3 σ)
  | _ => (some False, none, σ)
noncomputable def E_M_wanted : MEnt := ((1, 4, 13), (2, 43, 0, 0), S_M_wanted, ((⟨"ClothWithManModel", "wanted", "(IIII)Z"⟩ : MethodName), prog_14_method_99_code, 5, (some .boolean)))

def T_M_wanted : Nat → Option (Instr × Nat × List Nat) := fun k => bif Nat.blt k 83 then (bif Nat.blt k 47 then (bif Nat.blt k 23 then (bif Nat.blt k 9 then (bif Nat.blt k 5 then (bif Nat.blt k 1 then (bif Nat.beq k 0 then some (.aload_n 0, 1, []) else none) else (bif Nat.blt k 2 then (bif Nat.beq k 1 then some (.iconst 0, 2, []) else none) else (bif Nat.beq k 2 then some (.putfield 161, 5, []) else none))) else (bif Nat.blt k 6 then (bif Nat.beq k 5 then some (.iload_n 1, 6, []) else none) else (bif Nat.blt k 7 then (bif Nat.beq k 6 then some (.iconst 0, 7, []) else none) else (bif Nat.beq k 7 then some (.bipush 7, 9, []) else none)))) else (bif Nat.blt k 16 then (bif Nat.blt k 12 then (bif Nat.beq k 9 then some (.invokestatic 181, 12, []) else none) else (bif Nat.blt k 15 then (bif Nat.beq k 12 then some (.ifCond .eq 33, 15, [45]) else none) else (bif Nat.beq k 15 then some (.aload_n 0, 16, []) else none))) else (bif Nat.blt k 17 then (bif Nat.beq k 16 then some (.iload_n 2, 17, []) else none) else (bif Nat.blt k 20 then (bif Nat.beq k 17 then some (.invokevirtual 381, 20, []) else none) else (bif Nat.beq k 20 then some (.ifCond .eq 25, 23, [45]) else none))))) else (bif Nat.blt k 35 then (bif Nat.blt k 27 then (bif Nat.blt k 24 then (bif Nat.beq k 23 then some (.iload_n 3, 24, []) else none) else (bif Nat.blt k 25 then (bif Nat.beq k 24 then some (.iconst 0, 25, []) else none) else (bif Nat.beq k 25 then some (.bipush 15, 27, []) else none))) else (bif Nat.blt k 30 then (bif Nat.beq k 27 then some (.invokestatic 181, 30, []) else none) else (bif Nat.blt k 33 then (bif Nat.beq k 30 then some (.ifCond .eq 15, 33, [45]) else none) else (bif Nat.beq k 33 then some (.iload 4, 35, []) else none)))) else (bif Nat.blt k 42 then (bif Nat.blt k 36 then (bif Nat.beq k 35 then some (.iconst 0, 36, []) else none) else (bif Nat.blt k 39 then (bif Nat.beq k 36 then some (.sipush 4095, 39, []) else none) else (bif Nat.beq k 39 then some (.invokestatic 181, 42, []) else none))) else (bif Nat.blt k 45 then (bif Nat.beq k 42 then some (.ifCond .ne 5, 45, [47]) else none) else (bif Nat.blt k 46 then (bif Nat.beq k 45 then some (.iconst 0, 46, []) else none) else (bif Nat.beq k 46 then some (.ireturn, 47, []) else none)))))) else (bif Nat.blt k 65 then (bif Nat.blt k 55 then (bif Nat.blt k 52 then (bif Nat.blt k 48 then (bif Nat.beq k 47 then some (.aload_n 0, 48, []) else none) else (bif Nat.blt k 51 then (bif Nat.beq k 48 then some (.getfield 96, 51, []) else none) else (bif Nat.beq k 51 then some (.iload_n 1, 52, []) else none))) else (bif Nat.blt k 53 then (bif Nat.beq k 52 then some (.iload_n 2, 53, []) else none) else (bif Nat.blt k 54 then (bif Nat.beq k 53 then some (.iastore, 54, []) else none) else (bif Nat.beq k 54 then some (.aload_n 0, 55, []) else none)))) else (bif Nat.blt k 60 then (bif Nat.blt k 58 then (bif Nat.beq k 55 then some (.getfield 99, 58, []) else none) else (bif Nat.blt k 59 then (bif Nat.beq k 58 then some (.iload_n 1, 59, []) else none) else (bif Nat.beq k 59 then some (.iload_n 3, 60, []) else none))) else (bif Nat.blt k 61 then (bif Nat.beq k 60 then some (.iastore, 61, []) else none) else (bif Nat.blt k 62 then (bif Nat.beq k 61 then some (.aload_n 0, 62, []) else none) else (bif Nat.beq k 62 then some (.getfield 102, 65, []) else none))))) else (bif Nat.blt k 74 then (bif Nat.blt k 69 then (bif Nat.blt k 66 then (bif Nat.beq k 65 then some (.iload_n 1, 66, []) else none) else (bif Nat.blt k 68 then (bif Nat.beq k 66 then some (.iload 4, 68, []) else none) else (bif Nat.beq k 68 then some (.iastore, 69, []) else none))) else (bif Nat.blt k 70 then (bif Nat.beq k 69 then some (.aload_n 0, 70, []) else none) else (bif Nat.blt k 71 then (bif Nat.beq k 70 then some (.dup, 71, []) else none) else (bif Nat.beq k 71 then some (.getfield 440, 74, []) else none)))) else (bif Nat.blt k 77 then (bif Nat.blt k 75 then (bif Nat.beq k 74 then some (.iconst 1, 75, []) else none) else (bif Nat.blt k 76 then (bif Nat.beq k 75 then some (.iload_n 1, 76, []) else none) else (bif Nat.beq k 76 then some (.ishl, 77, []) else none))) else (bif Nat.blt k 81 then (bif Nat.blt k 78 then (bif Nat.beq k 77 then some (.ior, 78, []) else none) else (bif Nat.beq k 78 then some (.putfield 440, 81, []) else none)) else (bif Nat.blt k 82 then (bif Nat.beq k 81 then some (.iconst 1, 82, []) else none) else (bif Nat.beq k 82 then some (.ireturn, 83, []) else none))))))) else none
noncomputable def P_M_wanted : MP := (T_M_wanted, (fun k => mLook k [(96, (13, 37, (.array .int), true)), (99, (13, 38, (.array .int), true)), (102, (13, 39, (.array .int), true)), (161, (13, 52, .int, false)), (440, (13, 36, .int, false))]), (fun k => mLook k []), (fun k => mLook k [(181, E_M_in), (381, E_M_isStory)]), (fun k => mLook k []), (fun k => mLook k []), (fun k => mLook k []), (fun k => mLook k []), (fun k => [46, 82].any (Nat.beq k)), (2, 43, 0, 0), false, (fun _ => none))
set_option maxRecDepth 100000 in
set_option maxHeartbeats 4000000 in
theorem q_M_wanted_e (a1 : Int32) (a2 : Int32) (a3 : Int32) (a4 : Int32) (σ : MSto) (n : Nat) : mexe KT P_M_wanted (n + 1) (0, [some (mR 13 0), some (mI a1), some (mI a2), some (mI a3), some (mI a4)], [], σ, 0, 0) = mIf ((v_M_in a1 0 7 (sI σ 13 0 52 0)) = 0) (some (46, [], [(mI 0)], (sI σ 13 0 52 0), 0, 0)) (mIf ((v_M_isStory a2 (sI σ 13 0 52 0)) = 0) (some (46, [], [(mI 0)], (sI σ 13 0 52 0), 0, 0)) (mIf ((v_M_in a3 0 15 (sI σ 13 0 52 0)) = 0) (some (46, [], [(mI 0)], (sI σ 13 0 52 0), 0, 0)) (mIf ((v_M_in a4 0 4095 (sI σ 13 0 52 0)) = 0) (some (46, [], [(mI 0)], (sI σ 13 0 52 0), 0, 0)) (mG (vp_in a1 8) (mG (vp_in a1 8) (mG (vp_in a1 8) (some (82, [], [(mI 1)], (sI (sI (sI (sI (sI σ 13 0 52 0) 67 0 (Int32.toNatClampNeg a1) a2) 68 0 (Int32.toNatClampNeg a1) a3) 69 0 (Int32.toNatClampNeg a1) a4) 13 0 36 ((gI (sI (sI (sI (sI σ 13 0 52 0) 67 0 (Int32.toNatClampNeg a1) a2) 68 0 (Int32.toNatClampNeg a1) a3) 69 0 (Int32.toNatClampNeg a1) a4) 13 0 36) ||| ((1 : Int32) <<< (a1 &&& 31)))), 0, 0)))))))) := rfl
set_option maxRecDepth 100000 in
set_option maxHeartbeats 4000000 in
theorem d_M_wanted (a1 : Int32) (a2 : Int32) (a3 : Int32) (a4 : Int32) (σ : MSto) (hp : p_M_wanted a1 a2 a3 a4 σ) : mW1 P_M_wanted (0, [some (mR 13 0), some (mI a1), some (mI a2), some (mI a3), some (mI a4)], [], σ, 0, 0) (mF [46, 82] [mI (v_M_wanted a1 a2 a3 a4 σ)] (e_M_wanted a1 a2 a3 a4 σ) 0 0) := by
  refine mW1_eq (q_M_wanted_e _ _ _ _ _) ?_
  unfold p_M_wanted at hp
  unfold v_M_wanted
  refine mTr_if (fun h0 => ?_) (fun h0 => ?_)
  · skip
    exact mTr_e (by decide) (bI_F (if_pos h0)) (Eq.symm (if_pos h0)) (by decide) (by decide)
  · skip
    have hp := hp h0
    refine mTr_if (fun h1 => ?_) (fun h1 => ?_)
    · skip
      exact mTr_e (by decide) (bI_F ((if_neg h0).trans (if_pos h1))) (Eq.symm ((if_neg h0).trans (if_pos h1))) (by decide) (by decide)
    · skip
      have hp := hp h1
      refine mTr_if (fun h2 => ?_) (fun h2 => ?_)
      · skip
        exact mTr_e (by decide) (bI_F ((if_neg h0).trans ((if_neg h1).trans (if_pos h2)))) (Eq.symm ((if_neg h0).trans ((if_neg h1).trans (if_pos h2)))) (by decide) (by decide)
      · skip
        have hp := hp h2
        refine mTr_if (fun h3 => ?_) (fun h3 => ?_)
        · skip
          exact mTr_e (by decide) (bI_F ((if_neg h0).trans ((if_neg h1).trans ((if_neg h2).trans (if_pos h3))))) (Eq.symm ((if_neg h0).trans ((if_neg h1).trans ((if_neg h2).trans (if_pos h3))))) (by decide) (by decide)
        · skip
          have hp := hp h3
          refine mTr_g hp.1 ?_
          have hp := hp.2
          refine mTr_g hp.1 ?_
          have hp := hp.2
          refine mTr_g hp ?_
          exact mTr_e (by decide) (bI_T ((if_neg h0).trans ((if_neg h1).trans ((if_neg h2).trans (if_neg h3))))) (Eq.symm ((if_neg h0).trans ((if_neg h1).trans ((if_neg h2).trans (if_neg h3))))) (by decide) (by decide)


theorem tk_M_wanted : ∀ pc i nx tg, T_M_wanted pc = some (i, nx, tg) → mOkB prog_14_method_99_code pc i nx tg = true := code_ok (N := 83) (fun k h => by unfold T_M_wanted; rw [h]; rfl) (by decide +kernel)
theorem ok_M_wanted (l : Launch) : mPOK l "ClothWithManModel" prog_14_method_99_code P_M_wanted := by
  refine ⟨tk_M_wanted, ?_, ?_, ?_, (fun pc i nx tg kd _ h => by cases h), ?_, ?_, fun pc en h => by cases h⟩
  · intro x ci f ty fin h
    exact mLook_all (Q := fun x v => mFOK "ClothWithManModel" x v.1 v.2.1 v.2.2.1 v.2.2.2 ∧ (v.2.2.2 = true → pIni P_M_wanted = true → (Cond.fieldLink "ClothWithManModel" x (((mCl[v.1]?).getD ("", fun _ => ("", "", "", false), 0)).2.1 v.2.1).1 (((mCl[v.1]?).getD ("", fun _ => ("", "", "", false), 0)).2.1 v.2.1).2.1 (((mCl[v.1]?).getD ("", fun _ => ("", "", "", false), 0)).2.1 v.2.1).2.2.1 ∈ lw_tbl ∧ (((mCl[v.1]?).getD ("", fun _ => ("", "", "", false), 0)).2.1 v.2.1).1 = "ClothWithManModel"))) (fcC ⟨fo_M_96, fun h1 h2 => by cases h2⟩ (fcC ⟨fo_M_99, fun h1 h2 => by cases h2⟩ (fcC ⟨fo_M_102, fun h1 h2 => by cases h2⟩ (fcC ⟨fo_M_161, fun h1 h2 => by cases h1⟩ (fcC ⟨fo_M_440, fun h1 h2 => by cases h1⟩ fcN))))) x (ci, f, ty, fin) h
  · intro x
    have hh := mLook_all (l := ([] : List (Nat × (Int32 ⊕ Int64)))) (Q := fun x (v : Int32 ⊕ Int64) => (∀ w, v = .inl w → Cond.constant "ClothWithManModel" x w ∈ lw_tbl) ∧ (∀ w, v = .inr w → Cond.constantLong "ClothWithManModel" x w ∈ lw_tbl)) fcN x
    exact ⟨fun w h => (hh _ h).1 w rfl, fun w h => (hh _ h).2 w rfl⟩
  · exact fun x en h => mLook_all (Q := fun x en => mLink "ClothWithManModel" x en ∧ mCtr l en ∧ (en.1.1 = 2 → en.2.2.2.2.2.2 = none)) (fcC ⟨li_M_181, c_M_in l, (fun h => by cases h)⟩ (fcC ⟨li_M_381, c_M_isStory l, (fun h => by cases h)⟩ fcN)) x en h
  · exact fun x kd h => mLook_all (Q := fun x kd => (kd = 95 ∧ Cond.fieldLink "ClothWithManModel" x "ClothWithMan" "LIKENESSES" "[I" ∈ lw_tbl) ∨ (kd = 96 ∧ Cond.fieldLink "ClothWithManModel" x "ClothWithMan" "APART_BOUNDS" "[I" ∈ lw_tbl)) fcN x kd h
  · exact fun x ci h => mLook_all (Q := fun x ci => ci ≠ 0 ∧ ∃ (C : String) (T : u_T) (N : Nat), mCl[ci]? = some (C, T, N) ∧ Cond.classLink "ClothWithManModel" x C ∈ lw_tbl ∧ Cond.instantiable C N ∈ lw_tbl) fcN x ci h
set_option maxRecDepth 100000 in
theorem c_M_wanted (l : Launch) : mCtr l E_M_wanted := mCtr_of (P := P_M_wanted) (own := "ClothWithManModel") mLay_ok rfl (by decide +kernel) rfl (ok_M_wanted l) (fun h => by cases h) (fun as σ pr rv σ' hF hpr hlv => by
  unfold E_M_wanted S_M_wanted at hF
  simp only [] at hF
  split at hF
  · cases hF
    obtain ⟨n, pcF, c1, s1, g1, g2, g3, g4⟩ := mF_inv (d_M_wanted _ _ _ _ σ (hpr _ rfl))
    exact ⟨Nat.le_of_ble_eq_true rfl, (fun v h => by cases h; trivial), n, pcF, c1, s1, g1, ⟨mEnd_of (i := .ireturn) (P := P_M_wanted) (rets := [46, 82]) rfl g2, bI_narrow _⟩, g3, g4⟩
  · cases hF
    exact (hpr _ rfl).elim)
/-! ClothWithManModel.seed(I)I -/
noncomputable def v_M_seed (a1 : Int32) (σ : MSto) : Int32 := (gI (sI σ 13 0 52 0) 13 0 40)
noncomputable def e_M_seed (a1 : Int32) (σ : MSto) : MSto := (sI (sI σ 13 0 52 0) 13 0 40 a1)
noncomputable def S_M_seed : List MV → MSto → Option Prop × Option MV × MSto := fun as σ => match as with
  | [.inr (.inr (some (13, 0))), .inl a0] => (none, some (mI (v_M_seed a0 σ)), e_M_seed a0 σ)
  | _ => (some False, none, σ)
noncomputable def E_M_seed : MEnt := ((1, 1, 13), (0, 0, 0, 0), S_M_seed, ((⟨"ClothWithManModel", "seed", "(I)I"⟩ : MethodName), prog_14_method_101_code, 3, (some .int)))

def T_M_seed : Nat → Option (Instr × Nat × List Nat) := fun k => bif Nat.blt k 17 then (bif Nat.blt k 9 then (bif Nat.blt k 2 then (bif Nat.blt k 1 then (bif Nat.beq k 0 then some (.aload_n 0, 1, []) else none) else (bif Nat.beq k 1 then some (.iconst 0, 2, []) else none)) else (bif Nat.blt k 5 then (bif Nat.beq k 2 then some (.putfield 161, 5, []) else none) else (bif Nat.blt k 6 then (bif Nat.beq k 5 then some (.aload_n 0, 6, []) else none) else (bif Nat.beq k 6 then some (.getfield 105, 9, []) else none)))) else (bif Nat.blt k 12 then (bif Nat.blt k 10 then (bif Nat.beq k 9 then some (.istore_n 2, 10, []) else none) else (bif Nat.blt k 11 then (bif Nat.beq k 10 then some (.aload_n 0, 11, []) else none) else (bif Nat.beq k 11 then some (.iload_n 1, 12, []) else none))) else (bif Nat.blt k 15 then (bif Nat.beq k 12 then some (.putfield 105, 15, []) else none) else (bif Nat.blt k 16 then (bif Nat.beq k 15 then some (.iload_n 2, 16, []) else none) else (bif Nat.beq k 16 then some (.ireturn, 17, []) else none))))) else none
noncomputable def P_M_seed : MP := (T_M_seed, (fun k => mLook k [(105, (13, 40, .int, false)), (161, (13, 52, .int, false))]), (fun k => mLook k []), (fun k => mLook k []), (fun k => mLook k []), (fun k => mLook k []), (fun k => mLook k []), (fun k => mLook k []), (fun k => [16].any (Nat.beq k)), (0, 0, 0, 0), false, (fun _ => none))
set_option maxRecDepth 100000 in
set_option maxHeartbeats 4000000 in
theorem q_M_seed_e (a1 : Int32) (σ : MSto) (n : Nat) : mexe KT P_M_seed (n + 1) (0, [some (mR 13 0), some (mI a1), none], [], σ, 0, 0) = some (16, [], [(mI (gI (sI σ 13 0 52 0) 13 0 40))], (sI (sI σ 13 0 52 0) 13 0 40 a1), 0, 0) := rfl
set_option maxRecDepth 100000 in
set_option maxHeartbeats 4000000 in
theorem d_M_seed (a1 : Int32) (σ : MSto) : mW1 P_M_seed (0, [some (mR 13 0), some (mI a1), none], [], σ, 0, 0) (mF [16] [mI (v_M_seed a1 σ)] (e_M_seed a1 σ) 0 0) := by
  refine mW1_eq (q_M_seed_e _ _) ?_
  exact mTr_e (by decide) (congrArg (fun z => [mI z]) (Eq.symm (rfl))) (Eq.symm (rfl)) (by decide) (by decide)
theorem tk_M_seed : ∀ pc i nx tg, T_M_seed pc = some (i, nx, tg) → mOkB prog_14_method_101_code pc i nx tg = true := code_ok (N := 17) (fun k h => by unfold T_M_seed; rw [h]; rfl) (by decide +kernel)
theorem ok_M_seed (l : Launch) : mPOK l "ClothWithManModel" prog_14_method_101_code P_M_seed := by
  refine ⟨tk_M_seed, ?_, ?_, ?_, (fun pc i nx tg kd _ h => by cases h), ?_, ?_, fun pc en h => by cases h⟩
  · intro x ci f ty fin h
    exact mLook_all (Q := fun x v => mFOK "ClothWithManModel" x v.1 v.2.1 v.2.2.1 v.2.2.2 ∧ (v.2.2.2 = true → pIni P_M_seed = true → (Cond.fieldLink "ClothWithManModel" x (((mCl[v.1]?).getD ("", fun _ => ("", "", "", false), 0)).2.1 v.2.1).1 (((mCl[v.1]?).getD ("", fun _ => ("", "", "", false), 0)).2.1 v.2.1).2.1 (((mCl[v.1]?).getD ("", fun _ => ("", "", "", false), 0)).2.1 v.2.1).2.2.1 ∈ lw_tbl ∧ (((mCl[v.1]?).getD ("", fun _ => ("", "", "", false), 0)).2.1 v.2.1).1 = "ClothWithManModel"))) (fcC ⟨fo_M_105, fun h1 h2 => by cases h1⟩ (fcC ⟨fo_M_161, fun h1 h2 => by cases h1⟩ fcN)) x (ci, f, ty, fin) h
  · intro x
    have hh := mLook_all (l := ([] : List (Nat × (Int32 ⊕ Int64)))) (Q := fun x (v : Int32 ⊕ Int64) => (∀ w, v = .inl w → Cond.constant "ClothWithManModel" x w ∈ lw_tbl) ∧ (∀ w, v = .inr w → Cond.constantLong "ClothWithManModel" x w ∈ lw_tbl)) fcN x
    exact ⟨fun w h => (hh _ h).1 w rfl, fun w h => (hh _ h).2 w rfl⟩
  · exact fun x en h => mLook_all (Q := fun x en => mLink "ClothWithManModel" x en ∧ mCtr l en ∧ (en.1.1 = 2 → en.2.2.2.2.2.2 = none)) fcN x en h
  · exact fun x kd h => mLook_all (Q := fun x kd => (kd = 95 ∧ Cond.fieldLink "ClothWithManModel" x "ClothWithMan" "LIKENESSES" "[I" ∈ lw_tbl) ∨ (kd = 96 ∧ Cond.fieldLink "ClothWithManModel" x "ClothWithMan" "APART_BOUNDS" "[I" ∈ lw_tbl)) fcN x kd h
  · exact fun x ci h => mLook_all (Q := fun x ci => ci ≠ 0 ∧ ∃ (C : String) (T : u_T) (N : Nat), mCl[ci]? = some (C, T, N) ∧ Cond.classLink "ClothWithManModel" x C ∈ lw_tbl ∧ Cond.instantiable C N ∈ lw_tbl) fcN x ci h
set_option maxRecDepth 100000 in
theorem c_M_seed (l : Launch) : mCtr l E_M_seed := mCtr_of (P := P_M_seed) (own := "ClothWithManModel") mLay_ok rfl (by decide +kernel) rfl (ok_M_seed l) (fun h => by cases h) (fun as σ pr rv σ' hF hpr hlv => by
  unfold E_M_seed S_M_seed at hF
  simp only [] at hF
  split at hF
  · cases hF
    obtain ⟨n, pcF, c1, s1, g1, g2, g3, g4⟩ := mF_inv (d_M_seed _ σ)
    exact ⟨Nat.le_of_ble_eq_true rfl, (fun v h => by cases h; trivial), n, pcF, c1, s1, g1, ⟨mEnd_of (i := .ireturn) (P := P_M_seed) (rets := [16]) rfl g2, rfl⟩, g3, g4⟩
  · cases hF
    exact (hpr _ rfl).elim)
/-! ClothWithManModel.told(I)I -/
noncomputable def v_M_told (a1 : Int32) (σ : MSto) : Int32 := (if a1 = 0 then (gI (sI σ 13 0 52 0) 13 0 1) else (if a1 = 1 then (gI (sI σ 13 0 52 0) 13 0 3) else (if a1 = 2 then (gI (sI σ 13 0 52 0) 13 0 5) else (if a1 = 3 then (gI (sI σ 13 0 52 0) 13 0 10) else (if a1 = 4 then (gI (sI σ 13 0 52 0) 13 0 15) else (if a1 = 5 then (gI (sI σ 13 0 52 0) 13 0 17) else (if a1 = 6 then (gI (sI σ 13 0 52 0) 13 0 27) else (if a1 = 7 then (gI (sI σ 13 0 52 0) 13 0 31) else (if a1 = 8 then (gI (sI σ 13 0 52 0) 13 0 51) else (if a1 = 9 then (gI (sI σ 13 0 52 0) 13 0 49) else (if a1 = 10 then (gI (sI σ 13 0 52 0) 13 0 2) else (-1))))))))))))
noncomputable def e_M_told (a1 : Int32) (σ : MSto) : MSto := (sI σ 13 0 52 0)
noncomputable def S_M_told : List MV → MSto → Option Prop × Option MV × MSto := fun as σ => match as with
  | [.inr (.inr (some (13, 0))), .inl a0] => (none, some (mI (v_M_told a0 σ)), e_M_told a0 σ)
  | _ => (some False, none, σ)
noncomputable def E_M_told : MEnt := ((1, 1, 13), (0, 0, 0, 0), S_M_told, ((⟨"ClothWithManModel", "told", "(I)I"⟩ : MethodName), prog_14_method_104_code, 2, (some .int)))

def T_M_told : Nat → Option (Instr × Nat × List Nat) := fun k => bif Nat.blt k 121 then (bif Nat.blt k 89 then (bif Nat.blt k 73 then (bif Nat.blt k 64 then (bif Nat.blt k 2 then (bif Nat.blt k 1 then (bif Nat.beq k 0 then some (.aload_n 0, 1, []) else none) else (bif Nat.beq k 1 then some (.iconst 0, 2, []) else none)) else (bif Nat.blt k 5 then (bif Nat.beq k 2 then some (.putfield 161, 5, []) else none) else (bif Nat.blt k 6 then (bif Nat.beq k 5 then some (.iload_n 1, 6, []) else none) else (bif Nat.beq k 6 then some (.tableswitch 113 0 10 #[58, 63, 68, 73, 78, 83, 88, 93, 98, 103, 108], 64, [119, 64, 69, 74, 79, 84, 89, 94, 99, 104, 109, 114]) else none)))) else (bif Nat.blt k 68 then (bif Nat.blt k 65 then (bif Nat.beq k 64 then some (.aload_n 0, 65, []) else none) else (bif Nat.beq k 65 then some (.getfield 13, 68, []) else none)) else (bif Nat.blt k 69 then (bif Nat.beq k 68 then some (.ireturn, 69, []) else none) else (bif Nat.blt k 70 then (bif Nat.beq k 69 then some (.aload_n 0, 70, []) else none) else (bif Nat.beq k 70 then some (.getfield 240, 73, []) else none))))) else (bif Nat.blt k 80 then (bif Nat.blt k 75 then (bif Nat.blt k 74 then (bif Nat.beq k 73 then some (.ireturn, 74, []) else none) else (bif Nat.beq k 74 then some (.aload_n 0, 75, []) else none)) else (bif Nat.blt k 78 then (bif Nat.beq k 75 then some (.getfield 243, 78, []) else none) else (bif Nat.blt k 79 then (bif Nat.beq k 78 then some (.ireturn, 79, []) else none) else (bif Nat.beq k 79 then some (.aload_n 0, 80, []) else none)))) else (bif Nat.blt k 84 then (bif Nat.blt k 83 then (bif Nat.beq k 80 then some (.getfield 185, 83, []) else none) else (bif Nat.beq k 83 then some (.ireturn, 84, []) else none)) else (bif Nat.blt k 85 then (bif Nat.beq k 84 then some (.aload_n 0, 85, []) else none) else (bif Nat.blt k 88 then (bif Nat.beq k 85 then some (.getfield 277, 88, []) else none) else (bif Nat.beq k 88 then some (.ireturn, 89, []) else none)))))) else (bif Nat.blt k 105 then (bif Nat.blt k 98 then (bif Nat.blt k 93 then (bif Nat.blt k 90 then (bif Nat.beq k 89 then some (.aload_n 0, 90, []) else none) else (bif Nat.beq k 90 then some (.getfield 188, 93, []) else none)) else (bif Nat.blt k 94 then (bif Nat.beq k 93 then some (.ireturn, 94, []) else none) else (bif Nat.blt k 95 then (bif Nat.beq k 94 then some (.aload_n 0, 95, []) else none) else (bif Nat.beq k 95 then some (.getfield 394, 98, []) else none)))) else (bif Nat.blt k 100 then (bif Nat.blt k 99 then (bif Nat.beq k 98 then some (.ireturn, 99, []) else none) else (bif Nat.beq k 99 then some (.aload_n 0, 100, []) else none)) else (bif Nat.blt k 103 then (bif Nat.beq k 100 then some (.getfield 425, 103, []) else none) else (bif Nat.blt k 104 then (bif Nat.beq k 103 then some (.ireturn, 104, []) else none) else (bif Nat.beq k 104 then some (.aload_n 0, 105, []) else none))))) else (bif Nat.blt k 114 then (bif Nat.blt k 109 then (bif Nat.blt k 108 then (bif Nat.beq k 105 then some (.getfield 164, 108, []) else none) else (bif Nat.beq k 108 then some (.ireturn, 109, []) else none)) else (bif Nat.blt k 110 then (bif Nat.beq k 109 then some (.aload_n 0, 110, []) else none) else (bif Nat.blt k 113 then (bif Nat.beq k 110 then some (.getfield 191, 113, []) else none) else (bif Nat.beq k 113 then some (.ireturn, 114, []) else none)))) else (bif Nat.blt k 118 then (bif Nat.blt k 115 then (bif Nat.beq k 114 then some (.aload_n 0, 115, []) else none) else (bif Nat.beq k 115 then some (.getfield 17, 118, []) else none)) else (bif Nat.blt k 119 then (bif Nat.beq k 118 then some (.ireturn, 119, []) else none) else (bif Nat.blt k 120 then (bif Nat.beq k 119 then some (.iconst (-1), 120, []) else none) else (bif Nat.beq k 120 then some (.ireturn, 121, []) else none))))))) else none
noncomputable def P_M_told : MP := (T_M_told, (fun k => mLook k [(13, (13, 1, .int, false)), (17, (13, 2, .int, false)), (161, (13, 52, .int, false)), (164, (13, 51, .int, false)), (185, (13, 10, .int, false)), (188, (13, 17, .int, false)), (191, (13, 49, .int, false)), (240, (13, 3, .int, false)), (243, (13, 5, .int, false)), (277, (13, 15, .int, false)), (394, (13, 27, .int, false)), (425, (13, 31, .int, false))]), (fun k => mLook k []), (fun k => mLook k []), (fun k => mLook k []), (fun k => mLook k []), (fun k => mLook k []), (fun k => mLook k []), (fun k => [68, 73, 78, 83, 88, 93, 98, 103, 108, 113, 118, 120].any (Nat.beq k)), (0, 0, 0, 0), false, (fun _ => none))
set_option maxRecDepth 100000 in
set_option maxHeartbeats 4000000 in
theorem q_M_told_e (a1 : Int32) (σ : MSto) (n : Nat) : mexe KT P_M_told (n + 1) (0, [some (mR 13 0), some (mI a1)], [], σ, 0, 0) = mIf (a1 = 0) (some (68, [], [(mI (gI (sI σ 13 0 52 0) 13 0 1))], (sI σ 13 0 52 0), 0, 0)) (mIf (a1 = 1) (some (73, [], [(mI (gI (sI σ 13 0 52 0) 13 0 3))], (sI σ 13 0 52 0), 0, 0)) (mIf (a1 = 2) (some (78, [], [(mI (gI (sI σ 13 0 52 0) 13 0 5))], (sI σ 13 0 52 0), 0, 0)) (mIf (a1 = 3) (some (83, [], [(mI (gI (sI σ 13 0 52 0) 13 0 10))], (sI σ 13 0 52 0), 0, 0)) (mIf (a1 = 4) (some (88, [], [(mI (gI (sI σ 13 0 52 0) 13 0 15))], (sI σ 13 0 52 0), 0, 0)) (mIf (a1 = 5) (some (93, [], [(mI (gI (sI σ 13 0 52 0) 13 0 17))], (sI σ 13 0 52 0), 0, 0)) (mIf (a1 = 6) (some (98, [], [(mI (gI (sI σ 13 0 52 0) 13 0 27))], (sI σ 13 0 52 0), 0, 0)) (mIf (a1 = 7) (some (103, [], [(mI (gI (sI σ 13 0 52 0) 13 0 31))], (sI σ 13 0 52 0), 0, 0)) (mIf (a1 = 8) (some (108, [], [(mI (gI (sI σ 13 0 52 0) 13 0 51))], (sI σ 13 0 52 0), 0, 0)) (mIf (a1 = 9) (some (113, [], [(mI (gI (sI σ 13 0 52 0) 13 0 49))], (sI σ 13 0 52 0), 0, 0)) (mIf (a1 = 10) (some (118, [], [(mI (gI (sI σ 13 0 52 0) 13 0 2))], (sI σ 13 0 52 0), 0, 0)) (some (120, [], [(mI (-1))], (sI σ 13 0 52 0), 0, 0)))))))))))) := rfl
set_option maxRecDepth 100000 in
set_option maxHeartbeats 4000000 in
theorem d_M_told (a1 : Int32) (σ : MSto) : mW1 P_M_told (0, [some (mR 13 0), some (mI a1)], [], σ, 0, 0) (mF [68, 73, 78, 83, 88, 93, 98, 103, 108, 113, 118, 120] [mI (v_M_told a1 σ)] (e_M_told a1 σ) 0 0) := by
  refine mW1_eq (q_M_told_e _ _) ?_
  refine mTr_if (fun h0 => ?_) (fun h0 => ?_)
  · skip
    exact mTr_e (by decide) (congrArg (fun z => [mI z]) (Eq.symm (if_pos h0))) (Eq.symm (rfl)) (by decide) (by decide)
  · skip
    refine mTr_if (fun h1 => ?_) (fun h1 => ?_)
    · skip
      exact mTr_e (by decide) (congrArg (fun z => [mI z]) (Eq.symm ((if_neg h0).trans (if_pos h1)))) (Eq.symm (rfl)) (by decide) (by decide)
    · skip
      refine mTr_if (fun h2 => ?_) (fun h2 => ?_)
      · skip
        exact mTr_e (by decide) (congrArg (fun z => [mI z]) (Eq.symm ((if_neg h0).trans ((if_neg h1).trans (if_pos h2))))) (Eq.symm (rfl)) (by decide) (by decide)
      · skip
        refine mTr_if (fun h3 => ?_) (fun h3 => ?_)
        · skip
          exact mTr_e (by decide) (congrArg (fun z => [mI z]) (Eq.symm ((if_neg h0).trans ((if_neg h1).trans ((if_neg h2).trans (if_pos h3)))))) (Eq.symm (rfl)) (by decide) (by decide)
        · skip
          refine mTr_if (fun h4 => ?_) (fun h4 => ?_)
          · skip
            exact mTr_e (by decide) (congrArg (fun z => [mI z]) (Eq.symm ((if_neg h0).trans ((if_neg h1).trans ((if_neg h2).trans ((if_neg h3).trans (if_pos h4))))))) (Eq.symm (rfl)) (by decide) (by decide)
          · skip
            refine mTr_if (fun h5 => ?_) (fun h5 => ?_)
            · skip
              exact mTr_e (by decide) (congrArg (fun z => [mI z]) (Eq.symm ((if_neg h0).trans ((if_neg h1).trans ((if_neg h2).trans ((if_neg h3).trans ((if_neg h4).trans (if_pos h5)))))))) (Eq.symm (rfl)) (by decide) (by decide)
            · skip
              refine mTr_if (fun h6 => ?_) (fun h6 => ?_)
              · skip
                exact mTr_e (by decide) (congrArg (fun z => [mI z]) (Eq.symm ((if_neg h0).trans ((if_neg h1).trans ((if_neg h2).trans ((if_neg h3).trans ((if_neg h4).trans ((if_neg h5).trans (if_pos h6))))))))) (Eq.symm (rfl)) (by decide) (by decide)
              · skip
                refine mTr_if (fun h7 => ?_) (fun h7 => ?_)
                · skip
                  exact mTr_e (by decide) (congrArg (fun z => [mI z]) (Eq.symm ((if_neg h0).trans ((if_neg h1).trans ((if_neg h2).trans ((if_neg h3).trans ((if_neg h4).trans ((if_neg h5).trans ((if_neg h6).trans (if_pos h7)))))))))) (Eq.symm (rfl)) (by decide) (by decide)
                · skip
                  refine mTr_if (fun h8 => ?_) (fun h8 => ?_)
                  · skip
                    exact mTr_e (by decide) (congrArg (fun z => [mI z]) (Eq.symm ((if_neg h0).trans ((if_neg h1).trans ((if_neg h2).trans ((if_neg h3).trans ((if_neg h4).trans ((if_neg h5).trans ((if_neg h6).trans ((if_neg h7).trans (if_pos h8))))))))))) (Eq.symm (rfl)) (by decide) (by decide)
                  · skip
                    refine mTr_if (fun h9 => ?_) (fun h9 => ?_)
                    · skip
                      exact mTr_e (by decide) (congrArg (fun z => [mI z]) (Eq.symm ((if_neg h0).trans ((if_neg h1).trans ((if_neg h2).trans ((if_neg h3).trans ((if_neg h4).trans ((if_neg h5).trans ((if_neg h6).trans ((if_neg h7).trans ((if_neg h8).trans (if_pos h9)))))))))))) (Eq.symm (rfl)) (by decide) (by decide)
                    · skip
                      refine mTr_if (fun h10 => ?_) (fun h10 => ?_)
                      · skip
                        exact mTr_e (by decide) (congrArg (fun z => [mI z]) (Eq.symm ((if_neg h0).trans ((if_neg h1).trans ((if_neg h2).trans ((if_neg h3).trans ((if_neg h4).trans ((if_neg h5).trans ((if_neg h6).trans ((if_neg h7).trans ((if_neg h8).trans ((if_neg h9).trans (if_pos h10))))))))))))) (Eq.symm (rfl)) (by decide) (by decide)
                      · skip
                        exact mTr_e (by decide) (congrArg (fun z => [mI z]) (Eq.symm ((if_neg h0).trans ((if_neg h1).trans ((if_neg h2).trans ((if_neg h3).trans ((if_neg h4).trans ((if_neg h5).trans ((if_neg h6).trans ((if_neg h7).trans ((if_neg h8).trans ((if_neg h9).trans (if_neg h10))))))))))))) (Eq.symm (rfl)) (by decide) (by decide)
theorem tk_M_told : ∀ pc i nx tg, T_M_told pc = some (i, nx, tg) → mOkB prog_14_method_104_code pc i nx tg = true := code_ok (N := 121) (fun k h => by unfold T_M_told; rw [h]; rfl) (by decide +kernel)
theorem ok_M_told (l : Launch) : mPOK l "ClothWithManModel" prog_14_method_104_code P_M_told := by
  refine ⟨tk_M_told, ?_, ?_, ?_, (fun pc i nx tg kd _ h => by cases h), ?_, ?_, fun pc en h => by cases h⟩
  · intro x ci f ty fin h
    exact mLook_all (Q := fun x v => mFOK "ClothWithManModel" x v.1 v.2.1 v.2.2.1 v.2.2.2 ∧ (v.2.2.2 = true → pIni P_M_told = true → (Cond.fieldLink "ClothWithManModel" x (((mCl[v.1]?).getD ("", fun _ => ("", "", "", false), 0)).2.1 v.2.1).1 (((mCl[v.1]?).getD ("", fun _ => ("", "", "", false), 0)).2.1 v.2.1).2.1 (((mCl[v.1]?).getD ("", fun _ => ("", "", "", false), 0)).2.1 v.2.1).2.2.1 ∈ lw_tbl ∧ (((mCl[v.1]?).getD ("", fun _ => ("", "", "", false), 0)).2.1 v.2.1).1 = "ClothWithManModel"))) (fcC ⟨fo_M_13, fun h1 h2 => by cases h1⟩ (fcC ⟨fo_M_17, fun h1 h2 => by cases h1⟩ (fcC ⟨fo_M_161, fun h1 h2 => by cases h1⟩ (fcC ⟨fo_M_164, fun h1 h2 => by cases h1⟩ (fcC ⟨fo_M_185, fun h1 h2 => by cases h1⟩ (fcC ⟨fo_M_188, fun h1 h2 => by cases h1⟩ (fcC ⟨fo_M_191, fun h1 h2 => by cases h1⟩ (fcC ⟨fo_M_240, fun h1 h2 => by cases h1⟩ (fcC ⟨fo_M_243, fun h1 h2 => by cases h1⟩ (fcC ⟨fo_M_277, fun h1 h2 => by cases h1⟩ (fcC ⟨fo_M_394, fun h1 h2 => by cases h1⟩ (fcC ⟨fo_M_425, fun h1 h2 => by cases h1⟩ fcN)))))))))))) x (ci, f, ty, fin) h
  · intro x
    have hh := mLook_all (l := ([] : List (Nat × (Int32 ⊕ Int64)))) (Q := fun x (v : Int32 ⊕ Int64) => (∀ w, v = .inl w → Cond.constant "ClothWithManModel" x w ∈ lw_tbl) ∧ (∀ w, v = .inr w → Cond.constantLong "ClothWithManModel" x w ∈ lw_tbl)) fcN x
    exact ⟨fun w h => (hh _ h).1 w rfl, fun w h => (hh _ h).2 w rfl⟩
  · exact fun x en h => mLook_all (Q := fun x en => mLink "ClothWithManModel" x en ∧ mCtr l en ∧ (en.1.1 = 2 → en.2.2.2.2.2.2 = none)) fcN x en h
  · exact fun x kd h => mLook_all (Q := fun x kd => (kd = 95 ∧ Cond.fieldLink "ClothWithManModel" x "ClothWithMan" "LIKENESSES" "[I" ∈ lw_tbl) ∨ (kd = 96 ∧ Cond.fieldLink "ClothWithManModel" x "ClothWithMan" "APART_BOUNDS" "[I" ∈ lw_tbl)) fcN x kd h
  · exact fun x ci h => mLook_all (Q := fun x ci => ci ≠ 0 ∧ ∃ (C : String) (T : u_T) (N : Nat), mCl[ci]? = some (C, T, N) ∧ Cond.classLink "ClothWithManModel" x C ∈ lw_tbl ∧ Cond.instantiable C N ∈ lw_tbl) fcN x ci h
set_option maxRecDepth 100000 in
theorem c_M_told (l : Launch) : mCtr l E_M_told := mCtr_of (P := P_M_told) (own := "ClothWithManModel") mLay_ok rfl (by decide +kernel) rfl (ok_M_told l) (fun h => by cases h) (fun as σ pr rv σ' hF hpr hlv => by
  unfold E_M_told S_M_told at hF
  simp only [] at hF
  split at hF
  · cases hF
    obtain ⟨n, pcF, c1, s1, g1, g2, g3, g4⟩ := mF_inv (d_M_told _ σ)
    exact ⟨Nat.le_of_ble_eq_true rfl, (fun v h => by cases h; trivial), n, pcF, c1, s1, g1, ⟨mEnd_of (i := .ireturn) (P := P_M_told) (rets := [68, 73, 78, 83, 88, 93, 98, 103, 108, 113, 118, 120]) rfl g2, rfl⟩, g3, g4⟩
  · cases hF
    exact (hpr _ rfl).elim)
/-! ClothWithManModel.row(I)J -/
noncomputable def v_M_row (a1 : Int32) (σ : MSto) : Int64 := (if (v_M_in a1 0 ((gI (sI σ 13 0 52 0) 13 0 51) - 1) (sI σ 13 0 52 0)) = 0 then (Int32.toInt64 (v_M_lost (sI σ 13 0 52 0))) else (gJ (sI σ 13 0 52 0) 78 0 (Int32.toNatClampNeg a1)))
def p_M_row (a1 : Int32) (σ : MSto) : Prop := (¬ ((v_M_in a1 0 ((gI (sI σ 13 0 52 0) 13 0 51) - 1) (sI σ 13 0 52 0)) = 0) → (vp_in a1 24))
noncomputable def e_M_row (a1 : Int32) (σ : MSto) : MSto := (if (v_M_in a1 0 ((gI (sI σ 13 0 52 0) 13 0 51) - 1) (sI σ 13 0 52 0)) = 0 then (e_M_lost (sI σ 13 0 52 0)) else (sI σ 13 0 52 0))
noncomputable def S_M_row : List MV → MSto → Option Prop × Option MV × MSto := fun as σ => match as with
  | [.inr (.inr (some (13, 0))), .inl a0] => (some (p_M_row a0 σ), some (mJ (v_M_row a0 σ)), e_M_row a0 σ)
  | _ => (some False, none, σ)
noncomputable def E_M_row : MEnt := ((1, 1, 13), (1, 22, 0, 0), S_M_row, ((⟨"ClothWithManModel", "row", "(I)J"⟩ : MethodName), prog_14_method_105_code, 2, (some .long)))

def T_M_row : Nat → Option (Instr × Nat × List Nat) := fun k => bif Nat.blt k 34 then (bif Nat.blt k 16 then (bif Nat.blt k 7 then (bif Nat.blt k 2 then (bif Nat.blt k 1 then (bif Nat.beq k 0 then some (.aload_n 0, 1, []) else none) else (bif Nat.beq k 1 then some (.iconst 0, 2, []) else none)) else (bif Nat.blt k 5 then (bif Nat.beq k 2 then some (.putfield 161, 5, []) else none) else (bif Nat.blt k 6 then (bif Nat.beq k 5 then some (.iload_n 1, 6, []) else none) else (bif Nat.beq k 6 then some (.iconst 0, 7, []) else none)))) else (bif Nat.blt k 11 then (bif Nat.blt k 8 then (bif Nat.beq k 7 then some (.aload_n 0, 8, []) else none) else (bif Nat.beq k 8 then some (.getfield 164, 11, []) else none)) else (bif Nat.blt k 12 then (bif Nat.beq k 11 then some (.iconst 1, 12, []) else none) else (bif Nat.blt k 13 then (bif Nat.beq k 12 then some (.isub, 13, []) else none) else (bif Nat.beq k 13 then some (.invokestatic 181, 16, []) else none))))) else (bif Nat.blt k 25 then (bif Nat.blt k 20 then (bif Nat.blt k 19 then (bif Nat.beq k 16 then some (.ifCond .eq 12, 19, [28]) else none) else (bif Nat.beq k 19 then some (.aload_n 0, 20, []) else none)) else (bif Nat.blt k 23 then (bif Nat.beq k 20 then some (.getfield 133, 23, []) else none) else (bif Nat.blt k 24 then (bif Nat.beq k 23 then some (.iload_n 1, 24, []) else none) else (bif Nat.beq k 24 then some (.laload, 25, []) else none)))) else (bif Nat.blt k 29 then (bif Nat.blt k 28 then (bif Nat.beq k 25 then some (.goto 8, 28, [33]) else none) else (bif Nat.beq k 28 then some (.aload_n 0, 29, []) else none)) else (bif Nat.blt k 32 then (bif Nat.beq k 29 then some (.invokevirtual 274, 32, []) else none) else (bif Nat.blt k 33 then (bif Nat.beq k 32 then some (.i2l, 33, []) else none) else (bif Nat.beq k 33 then some (.lreturn, 34, []) else none)))))) else none
noncomputable def P_M_row : MP := (T_M_row, (fun k => mLook k [(133, (13, 50, (.array .long), true)), (161, (13, 52, .int, false)), (164, (13, 51, .int, false))]), (fun k => mLook k []), (fun k => mLook k [(181, E_M_in), (274, E_M_lost)]), (fun k => mLook k []), (fun k => mLook k []), (fun k => mLook k []), (fun k => mLook k []), (fun k => [33].any (Nat.beq k)), (1, 22, 0, 0), false, (fun _ => none))
set_option maxRecDepth 100000 in
set_option maxHeartbeats 4000000 in
theorem q_M_row_e (a1 : Int32) (σ : MSto) (n : Nat) : mexe KT P_M_row (n + 1) (0, [some (mR 13 0), some (mI a1)], [], σ, 0, 0) = mIf ((v_M_in a1 0 ((gI (sI σ 13 0 52 0) 13 0 51) - 1) (sI σ 13 0 52 0)) = 0) (some (33, [], [(mJ (Int32.toInt64 (v_M_lost (sI σ 13 0 52 0))))], (e_M_lost (sI σ 13 0 52 0)), 0, 0)) (mG (vp_in a1 24) (some (33, [], [(mJ (gJ (sI σ 13 0 52 0) 78 0 (Int32.toNatClampNeg a1)))], (sI σ 13 0 52 0), 0, 0))) := rfl
set_option maxRecDepth 100000 in
set_option maxHeartbeats 4000000 in
theorem d_M_row (a1 : Int32) (σ : MSto) (hp : p_M_row a1 σ) : mW1 P_M_row (0, [some (mR 13 0), some (mI a1)], [], σ, 0, 0) (mF [33] [mJ (v_M_row a1 σ)] (e_M_row a1 σ) 0 0) := by
  refine mW1_eq (q_M_row_e _ _) ?_
  unfold p_M_row at hp
  refine mTr_if (fun h0 => ?_) (fun h0 => ?_)
  · skip
    exact mTr_e (by decide) (congrArg (fun z => [mJ z]) (Eq.symm (if_pos h0))) (Eq.symm (if_pos h0)) (by decide) (by decide)
  · skip
    have hp := hp h0
    refine mTr_g hp ?_
    exact mTr_e (by decide) (congrArg (fun z => [mJ z]) (Eq.symm (if_neg h0))) (Eq.symm (if_neg h0)) (by decide) (by decide)


theorem tk_M_row : ∀ pc i nx tg, T_M_row pc = some (i, nx, tg) → mOkB prog_14_method_105_code pc i nx tg = true := code_ok (N := 34) (fun k h => by unfold T_M_row; rw [h]; rfl) (by decide +kernel)
theorem ok_M_row (l : Launch) : mPOK l "ClothWithManModel" prog_14_method_105_code P_M_row := by
  refine ⟨tk_M_row, ?_, ?_, ?_, (fun pc i nx tg kd _ h => by cases h), ?_, ?_, fun pc en h => by cases h⟩
  · intro x ci f ty fin h
    exact mLook_all (Q := fun x v => mFOK "ClothWithManModel" x v.1 v.2.1 v.2.2.1 v.2.2.2 ∧ (v.2.2.2 = true → pIni P_M_row = true → (Cond.fieldLink "ClothWithManModel" x (((mCl[v.1]?).getD ("", fun _ => ("", "", "", false), 0)).2.1 v.2.1).1 (((mCl[v.1]?).getD ("", fun _ => ("", "", "", false), 0)).2.1 v.2.1).2.1 (((mCl[v.1]?).getD ("", fun _ => ("", "", "", false), 0)).2.1 v.2.1).2.2.1 ∈ lw_tbl ∧ (((mCl[v.1]?).getD ("", fun _ => ("", "", "", false), 0)).2.1 v.2.1).1 = "ClothWithManModel"))) (fcC ⟨fo_M_133, fun h1 h2 => by cases h2⟩ (fcC ⟨fo_M_161, fun h1 h2 => by cases h1⟩ (fcC ⟨fo_M_164, fun h1 h2 => by cases h1⟩ fcN))) x (ci, f, ty, fin) h
  · intro x
    have hh := mLook_all (l := ([] : List (Nat × (Int32 ⊕ Int64)))) (Q := fun x (v : Int32 ⊕ Int64) => (∀ w, v = .inl w → Cond.constant "ClothWithManModel" x w ∈ lw_tbl) ∧ (∀ w, v = .inr w → Cond.constantLong "ClothWithManModel" x w ∈ lw_tbl)) fcN x
    exact ⟨fun w h => (hh _ h).1 w rfl, fun w h => (hh _ h).2 w rfl⟩
  · exact fun x en h => mLook_all (Q := fun x en => mLink "ClothWithManModel" x en ∧ mCtr l en ∧ (en.1.1 = 2 → en.2.2.2.2.2.2 = none)) (fcC ⟨li_M_181, c_M_in l, (fun h => by cases h)⟩ (fcC ⟨li_M_274, c_M_lost l, (fun h => by cases h)⟩ fcN)) x en h
  · exact fun x kd h => mLook_all (Q := fun x kd => (kd = 95 ∧ Cond.fieldLink "ClothWithManModel" x "ClothWithMan" "LIKENESSES" "[I" ∈ lw_tbl) ∨ (kd = 96 ∧ Cond.fieldLink "ClothWithManModel" x "ClothWithMan" "APART_BOUNDS" "[I" ∈ lw_tbl)) fcN x kd h
  · exact fun x ci h => mLook_all (Q := fun x ci => ci ≠ 0 ∧ ∃ (C : String) (T : u_T) (N : Nat), mCl[ci]? = some (C, T, N) ∧ Cond.classLink "ClothWithManModel" x C ∈ lw_tbl ∧ Cond.instantiable C N ∈ lw_tbl) fcN x ci h
set_option maxRecDepth 100000 in
theorem c_M_row (l : Launch) : mCtr l E_M_row := mCtr_of (P := P_M_row) (own := "ClothWithManModel") mLay_ok rfl (by decide +kernel) rfl (ok_M_row l) (fun h => by cases h) (fun as σ pr rv σ' hF hpr hlv => by
  unfold E_M_row S_M_row at hF
  simp only [] at hF
  split at hF
  · cases hF
    obtain ⟨n, pcF, c1, s1, g1, g2, g3, g4⟩ := mF_inv (d_M_row _ σ (hpr _ rfl))
    exact ⟨Nat.le_of_ble_eq_true rfl, (fun v h => by cases h; trivial), n, pcF, c1, s1, g1, mEnd_of (i := .lreturn) (P := P_M_row) (rets := [33]) rfl g2, g3, g4⟩
  · cases hF
    exact (hpr _ rfl).elim)
/-! ClothWithManModel.apart(I)I -/
noncomputable def v_M_apart (a1 : Int32) (σ : MSto) : Int32 := (if (v_M_areCounted a1 2 4 (sI σ 13 0 52 0)) = 0 then (-1) else (if (v_In_bitCount a1 (e_M_tellPart (gJ (sI (e_M_findApart a1 (sI σ 13 0 52 0)) 13 0 51 0) 13 0 62) (gJ (sI (e_M_findApart a1 (sI σ 13 0 52 0)) 13 0 51 0) 13 0 63) (sI (e_M_findApart a1 (sI σ 13 0 52 0)) 13 0 51 0))) = 2 then (if (lg_cmp (100 * (gJ (e_M_tellPart (gJ (sI (e_M_findApart a1 (sI σ 13 0 52 0)) 13 0 51 0) 13 0 62) (gJ (sI (e_M_findApart a1 (sI σ 13 0 52 0)) 13 0 51 0) 13 0 63) (sI (e_M_findApart a1 (sI σ 13 0 52 0)) 13 0 51 0)) 13 0 62)) (384 * (gJ (e_M_tellPart (gJ (sI (e_M_findApart a1 (sI σ 13 0 52 0)) 13 0 51 0) 13 0 62) (gJ (sI (e_M_findApart a1 (sI σ 13 0 52 0)) 13 0 51 0) 13 0 63) (sI (e_M_findApart a1 (sI σ 13 0 52 0)) 13 0 51 0)) 13 0 63))) ≤ 0 then 0 else 1) else (if (v_In_bitCount a1 (e_M_tellPart (gJ (sI (e_M_findApart a1 (sI σ 13 0 52 0)) 13 0 51 0) 13 0 62) (gJ (sI (e_M_findApart a1 (sI σ 13 0 52 0)) 13 0 51 0) 13 0 63) (sI (e_M_findApart a1 (sI σ 13 0 52 0)) 13 0 51 0))) = 3 then (if (lg_cmp (100 * (gJ (e_M_tellPart (gJ (sI (e_M_findApart a1 (sI σ 13 0 52 0)) 13 0 51 0) 13 0 62) (gJ (sI (e_M_findApart a1 (sI σ 13 0 52 0)) 13 0 51 0) 13 0 63) (sI (e_M_findApart a1 (sI σ 13 0 52 0)) 13 0 51 0)) 13 0 62)) (599 * (gJ (e_M_tellPart (gJ (sI (e_M_findApart a1 (sI σ 13 0 52 0)) 13 0 51 0) 13 0 62) (gJ (sI (e_M_findApart a1 (sI σ 13 0 52 0)) 13 0 51 0) 13 0 63) (sI (e_M_findApart a1 (sI σ 13 0 52 0)) 13 0 51 0)) 13 0 63))) ≤ 0 then 0 else 1) else (if (lg_cmp (100 * (gJ (e_M_tellPart (gJ (sI (e_M_findApart a1 (sI σ 13 0 52 0)) 13 0 51 0) 13 0 62) (gJ (sI (e_M_findApart a1 (sI σ 13 0 52 0)) 13 0 51 0) 13 0 63) (sI (e_M_findApart a1 (sI σ 13 0 52 0)) 13 0 51 0)) 13 0 62)) (781 * (gJ (e_M_tellPart (gJ (sI (e_M_findApart a1 (sI σ 13 0 52 0)) 13 0 51 0) 13 0 62) (gJ (sI (e_M_findApart a1 (sI σ 13 0 52 0)) 13 0 51 0) 13 0 63) (sI (e_M_findApart a1 (sI σ 13 0 52 0)) 13 0 51 0)) 13 0 63))) ≤ 0 then 0 else 1))))
def p_M_apart (a1 : Int32) (σ : MSto) : Prop := (¬ ((v_M_areCounted a1 2 4 (sI σ 13 0 52 0)) = 0) → ((p_M_findApart a1 (sI σ 13 0 52 0)) ∧ (p_M_tellPart (gJ (sI (e_M_findApart a1 (sI σ 13 0 52 0)) 13 0 51 0) 13 0 62) (gJ (sI (e_M_findApart a1 (sI σ 13 0 52 0)) 13 0 51 0) 13 0 63) (sI (e_M_findApart a1 (sI σ 13 0 52 0)) 13 0 51 0))))
noncomputable def e_M_apart (a1 : Int32) (σ : MSto) : MSto := (if (v_M_areCounted a1 2 4 (sI σ 13 0 52 0)) = 0 then (sI σ 13 0 52 0) else (e_M_tellPart (gJ (sI (e_M_findApart a1 (sI σ 13 0 52 0)) 13 0 51 0) 13 0 62) (gJ (sI (e_M_findApart a1 (sI σ 13 0 52 0)) 13 0 51 0) 13 0 63) (sI (e_M_findApart a1 (sI σ 13 0 52 0)) 13 0 51 0)))
noncomputable def S_M_apart : List MV → MSto → Option Prop × Option MV × MSto := fun as σ => match as with
  | [.inr (.inr (some (13, 0))), .inl a0] => (some (p_M_apart a0 σ), some (mI (v_M_apart a0 σ)), e_M_apart a0 σ)
  | _ => (some False, none, σ)
noncomputable def E_M_apart : MEnt := ((1, 1, 13), (3, 76, 0, 0), S_M_apart, ((⟨"ClothWithManModel", "apart", "(I)I"⟩ : MethodName), prog_14_method_56_code, 3, (some .int)))

def T_M_apart : Nat → Option (Instr × Nat × List Nat) := fun k => bif Nat.blt k 92 then (bif Nat.blt k 43 then (bif Nat.blt k 18 then (bif Nat.blt k 8 then (bif Nat.blt k 5 then (bif Nat.blt k 1 then (bif Nat.beq k 0 then some (.aload_n 0, 1, []) else none) else (bif Nat.blt k 2 then (bif Nat.beq k 1 then some (.iconst 0, 2, []) else none) else (bif Nat.beq k 2 then some (.putfield 161, 5, []) else none))) else (bif Nat.blt k 6 then (bif Nat.beq k 5 then some (.aload_n 0, 6, []) else none) else (bif Nat.blt k 7 then (bif Nat.beq k 6 then some (.iload_n 1, 7, []) else none) else (bif Nat.beq k 7 then some (.iconst 2, 8, []) else none)))) else (bif Nat.blt k 15 then (bif Nat.blt k 9 then (bif Nat.beq k 8 then some (.iconst 4, 9, []) else none) else (bif Nat.blt k 12 then (bif Nat.beq k 9 then some (.invokevirtual 315, 12, []) else none) else (bif Nat.beq k 12 then some (.ifCond .ne 5, 15, [17]) else none))) else (bif Nat.blt k 16 then (bif Nat.beq k 15 then some (.iconst (-1), 16, []) else none) else (bif Nat.blt k 17 then (bif Nat.beq k 16 then some (.ireturn, 17, []) else none) else (bif Nat.beq k 17 then some (.aload_n 0, 18, []) else none))))) else (bif Nat.blt k 28 then (bif Nat.blt k 23 then (bif Nat.blt k 19 then (bif Nat.beq k 18 then some (.iload_n 1, 19, []) else none) else (bif Nat.blt k 22 then (bif Nat.beq k 19 then some (.invokevirtual 337, 22, []) else none) else (bif Nat.beq k 22 then some (.aload_n 0, 23, []) else none))) else (bif Nat.blt k 24 then (bif Nat.beq k 23 then some (.iconst 0, 24, []) else none) else (bif Nat.blt k 27 then (bif Nat.beq k 24 then some (.putfield 164, 27, []) else none) else (bif Nat.beq k 27 then some (.aload_n 0, 28, []) else none)))) else (bif Nat.blt k 33 then (bif Nat.blt k 29 then (bif Nat.beq k 28 then some (.aload_n 0, 29, []) else none) else (bif Nat.blt k 32 then (bif Nat.beq k 29 then some (.getfield 327, 32, []) else none) else (bif Nat.beq k 32 then some (.aload_n 0, 33, []) else none))) else (bif Nat.blt k 39 then (bif Nat.blt k 36 then (bif Nat.beq k 33 then some (.getfield 330, 36, []) else none) else (bif Nat.beq k 36 then some (.invokevirtual 321, 39, []) else none)) else (bif Nat.blt k 40 then (bif Nat.beq k 39 then some (.iload_n 1, 40, []) else none) else (bif Nat.beq k 40 then some (.invokestatic 296, 43, []) else none)))))) else (bif Nat.blt k 65 then (bif Nat.blt k 53 then (bif Nat.blt k 48 then (bif Nat.blt k 44 then (bif Nat.beq k 43 then some (.istore_n 2, 44, []) else none) else (bif Nat.blt k 47 then (bif Nat.beq k 44 then some (.ldc2_w 325, 47, []) else none) else (bif Nat.beq k 47 then some (.aload_n 0, 48, []) else none))) else (bif Nat.blt k 51 then (bif Nat.beq k 48 then some (.getfield 327, 51, []) else none) else (bif Nat.blt k 52 then (bif Nat.beq k 51 then some (.lmul, 52, []) else none) else (bif Nat.beq k 52 then some (.iload_n 2, 53, []) else none)))) else (bif Nat.blt k 60 then (bif Nat.blt k 54 then (bif Nat.beq k 53 then some (.iconst 2, 54, []) else none) else (bif Nat.blt k 57 then (bif Nat.beq k 54 then some (.if_icmp .ne 9, 57, [63]) else none) else (bif Nat.beq k 57 then some (.ldc2_w 340, 60, []) else none))) else (bif Nat.blt k 63 then (bif Nat.beq k 60 then some (.goto 17, 63, [77]) else none) else (bif Nat.blt k 64 then (bif Nat.beq k 63 then some (.iload_n 2, 64, []) else none) else (bif Nat.beq k 64 then some (.iconst 3, 65, []) else none))))) else (bif Nat.blt k 81 then (bif Nat.blt k 74 then (bif Nat.blt k 68 then (bif Nat.beq k 65 then some (.if_icmp .ne 9, 68, [74]) else none) else (bif Nat.blt k 71 then (bif Nat.beq k 68 then some (.ldc2_w 342, 71, []) else none) else (bif Nat.beq k 71 then some (.goto 6, 74, [77]) else none))) else (bif Nat.blt k 77 then (bif Nat.beq k 74 then some (.ldc2_w 344, 77, []) else none) else (bif Nat.blt k 78 then (bif Nat.beq k 77 then some (.aload_n 0, 78, []) else none) else (bif Nat.beq k 78 then some (.getfield 330, 81, []) else none)))) else (bif Nat.blt k 86 then (bif Nat.blt k 82 then (bif Nat.beq k 81 then some (.lmul, 82, []) else none) else (bif Nat.blt k 83 then (bif Nat.beq k 82 then some (.lcmp, 83, []) else none) else (bif Nat.beq k 83 then some (.ifCond .le 7, 86, [90]) else none))) else (bif Nat.blt k 90 then (bif Nat.blt k 87 then (bif Nat.beq k 86 then some (.iconst 1, 87, []) else none) else (bif Nat.beq k 87 then some (.goto 4, 90, [91]) else none)) else (bif Nat.blt k 91 then (bif Nat.beq k 90 then some (.iconst 0, 91, []) else none) else (bif Nat.beq k 91 then some (.ireturn, 92, []) else none))))))) else none
noncomputable def P_M_apart : MP := (T_M_apart, (fun k => mLook k [(161, (13, 52, .int, false)), (164, (13, 51, .int, false)), (327, (13, 62, .long, false)), (330, (13, 63, .long, false))]), (fun k => mLook k [(325, .inr 100), (340, .inr 384), (342, .inr 599), (344, .inr 781)]), (fun k => mLook k [(296, E_In_bitCount), (315, E_M_areCounted), (321, E_M_tellPart), (337, E_M_findApart)]), (fun k => mLook k []), (fun k => mLook k []), (fun k => mLook k []), (fun k => mLook k []), (fun k => [16, 91].any (Nat.beq k)), (3, 76, 0, 0), false, (fun _ => none))
set_option maxRecDepth 100000 in
set_option maxHeartbeats 4000000 in
theorem q_M_apart_e (a1 : Int32) (σ : MSto) (n : Nat) : mexe KT P_M_apart (n + 1) (0, [some (mR 13 0), some (mI a1), none], [], σ, 0, 0) = mIf ((v_M_areCounted a1 2 4 (sI σ 13 0 52 0)) = 0) (some (16, [], [(mI (-1))], (sI σ 13 0 52 0), 0, 0)) (mG (p_M_findApart a1 (sI σ 13 0 52 0)) (mG (p_M_tellPart (gJ (sI (e_M_findApart a1 (sI σ 13 0 52 0)) 13 0 51 0) 13 0 62) (gJ (sI (e_M_findApart a1 (sI σ 13 0 52 0)) 13 0 51 0) 13 0 63) (sI (e_M_findApart a1 (sI σ 13 0 52 0)) 13 0 51 0)) (mIf ((v_In_bitCount a1 (e_M_tellPart (gJ (sI (e_M_findApart a1 (sI σ 13 0 52 0)) 13 0 51 0) 13 0 62) (gJ (sI (e_M_findApart a1 (sI σ 13 0 52 0)) 13 0 51 0) 13 0 63) (sI (e_M_findApart a1 (sI σ 13 0 52 0)) 13 0 51 0))) = 2) (mIf ((lg_cmp (100 * (gJ (e_M_tellPart (gJ (sI (e_M_findApart a1 (sI σ 13 0 52 0)) 13 0 51 0) 13 0 62) (gJ (sI (e_M_findApart a1 (sI σ 13 0 52 0)) 13 0 51 0) 13 0 63) (sI (e_M_findApart a1 (sI σ 13 0 52 0)) 13 0 51 0)) 13 0 62)) (384 * (gJ (e_M_tellPart (gJ (sI (e_M_findApart a1 (sI σ 13 0 52 0)) 13 0 51 0) 13 0 62) (gJ (sI (e_M_findApart a1 (sI σ 13 0 52 0)) 13 0 51 0) 13 0 63) (sI (e_M_findApart a1 (sI σ 13 0 52 0)) 13 0 51 0)) 13 0 63))) ≤ 0) (some (91, [], [(mI 0)], (e_M_tellPart (gJ (sI (e_M_findApart a1 (sI σ 13 0 52 0)) 13 0 51 0) 13 0 62) (gJ (sI (e_M_findApart a1 (sI σ 13 0 52 0)) 13 0 51 0) 13 0 63) (sI (e_M_findApart a1 (sI σ 13 0 52 0)) 13 0 51 0)), 0, 0)) (some (91, [], [(mI 1)], (e_M_tellPart (gJ (sI (e_M_findApart a1 (sI σ 13 0 52 0)) 13 0 51 0) 13 0 62) (gJ (sI (e_M_findApart a1 (sI σ 13 0 52 0)) 13 0 51 0) 13 0 63) (sI (e_M_findApart a1 (sI σ 13 0 52 0)) 13 0 51 0)), 0, 0))) (mIf ((v_In_bitCount a1 (e_M_tellPart (gJ (sI (e_M_findApart a1 (sI σ 13 0 52 0)) 13 0 51 0) 13 0 62) (gJ (sI (e_M_findApart a1 (sI σ 13 0 52 0)) 13 0 51 0) 13 0 63) (sI (e_M_findApart a1 (sI σ 13 0 52 0)) 13 0 51 0))) = 3) (mIf ((lg_cmp (100 * (gJ (e_M_tellPart (gJ (sI (e_M_findApart a1 (sI σ 13 0 52 0)) 13 0 51 0) 13 0 62) (gJ (sI (e_M_findApart a1 (sI σ 13 0 52 0)) 13 0 51 0) 13 0 63) (sI (e_M_findApart a1 (sI σ 13 0 52 0)) 13 0 51 0)) 13 0 62)) (599 * (gJ (e_M_tellPart (gJ (sI (e_M_findApart a1 (sI σ 13 0 52 0)) 13 0 51 0) 13 0 62) (gJ (sI (e_M_findApart a1 (sI σ 13 0 52 0)) 13 0 51 0) 13 0 63) (sI (e_M_findApart a1 (sI σ 13 0 52 0)) 13 0 51 0)) 13 0 63))) ≤ 0) (some (91, [], [(mI 0)], (e_M_tellPart (gJ (sI (e_M_findApart a1 (sI σ 13 0 52 0)) 13 0 51 0) 13 0 62) (gJ (sI (e_M_findApart a1 (sI σ 13 0 52 0)) 13 0 51 0) 13 0 63) (sI (e_M_findApart a1 (sI σ 13 0 52 0)) 13 0 51 0)), 0, 0)) (some (91, [], [(mI 1)], (e_M_tellPart (gJ (sI (e_M_findApart a1 (sI σ 13 0 52 0)) 13 0 51 0) 13 0 62) (gJ (sI (e_M_findApart a1 (sI σ 13 0 52 0)) 13 0 51 0) 13 0 63) (sI (e_M_findApart a1 (sI σ 13 0 52 0)) 13 0 51 0)), 0, 0))) (mIf ((lg_cmp (100 * (gJ (e_M_tellPart (gJ (sI (e_M_findApart a1 (sI σ 13 0 52 0)) 13 0 51 0) 13 0 62) (gJ (sI (e_M_findApart a1 (sI σ 13 0 52 0)) 13 0 51 0) 13 0 63) (sI (e_M_findApart a1 (sI σ 13 0 52 0)) 13 0 51 0)) 13 0 62)) (781 * (gJ (e_M_tellPart (gJ (sI (e_M_findApart a1 (sI σ 13 0 52 0)) 13 0 51 0) 13 0 62) (gJ (sI (e_M_findApart a1 (sI σ 13 0 52 0)) 13 0 51 0) 13 0 63) (sI (e_M_findApart a1 (sI σ 13 0 52 0)) 13 0 51 0)) 13 0 63))) ≤ 0) (some (91, [], [(mI 0)], (e_M_tellPart (gJ (sI (e_M_findApart a1 (sI σ 13 0 52 0)) 13 0 51 0) 13 0 62) (gJ (sI (e_M_findApart a1 (sI σ 13 0 52 0)) 13 0 51 0) 13 0 63) (sI (e_M_findApart a1 (sI σ 13 0 52 0)) 13 0 51 0)), 0, 0)) (some (91, [], [(mI 1)], (e_M_tellPart (gJ (sI (e_M_findApart a1 (sI σ 13 0 52 0)) 13 0 51 0) 13 0 62) (gJ (sI (e_M_findApart a1 (sI σ 13 0 52 0)) 13 0 51 0) 13 0 63) (sI (e_M_findApart a1 (sI σ 13 0 52 0)) 13 0 51 0)), 0, 0))))))) := rfl
set_option maxRecDepth 100000 in
set_option maxHeartbeats 4000000 in
theorem d_M_apart (a1 : Int32) (σ : MSto) (hp : p_M_apart a1 σ) : mW1 P_M_apart (0, [some (mR 13 0), some (mI a1), none], [], σ, 0, 0) (mF [16, 91] [mI (v_M_apart a1 σ)] (e_M_apart a1 σ) 0 0) := by
  refine mW1_eq (q_M_apart_e _ _) ?_
  unfold p_M_apart at hp
  refine mTr_if (fun h0 => ?_) (fun h0 => ?_)
  · skip
    exact mTr_e (by decide) (congrArg (fun z => [mI z]) (Eq.symm (if_pos h0))) (Eq.symm (if_pos h0)) (by decide) (by decide)
  · skip
    have hp := hp h0
    refine mTr_g hp.1 ?_
    have hp := hp.2
    refine mTr_g hp ?_
    refine mTr_if (fun h1 => ?_) (fun h1 => ?_)
    · skip
      refine mTr_if (fun h2 => ?_) (fun h2 => ?_)
      · skip
        exact mTr_e (by decide) (congrArg (fun z => [mI z]) (Eq.symm ((if_neg h0).trans ((if_pos h1).trans (if_pos h2))))) (Eq.symm (if_neg h0)) (by decide) (by decide)
      · skip
        exact mTr_e (by decide) (congrArg (fun z => [mI z]) (Eq.symm ((if_neg h0).trans ((if_pos h1).trans (if_neg h2))))) (Eq.symm (if_neg h0)) (by decide) (by decide)
    · skip
      refine mTr_if (fun h2 => ?_) (fun h2 => ?_)
      · skip
        refine mTr_if (fun h3 => ?_) (fun h3 => ?_)
        · skip
          exact mTr_e (by decide) (congrArg (fun z => [mI z]) (Eq.symm ((if_neg h0).trans ((if_neg h1).trans ((if_pos h2).trans (if_pos h3)))))) (Eq.symm (if_neg h0)) (by decide) (by decide)
        · skip
          exact mTr_e (by decide) (congrArg (fun z => [mI z]) (Eq.symm ((if_neg h0).trans ((if_neg h1).trans ((if_pos h2).trans (if_neg h3)))))) (Eq.symm (if_neg h0)) (by decide) (by decide)
      · skip
        refine mTr_if (fun h3 => ?_) (fun h3 => ?_)
        · skip
          exact mTr_e (by decide) (congrArg (fun z => [mI z]) (Eq.symm ((if_neg h0).trans ((if_neg h1).trans ((if_neg h2).trans (if_pos h3)))))) (Eq.symm (if_neg h0)) (by decide) (by decide)
        · skip
          exact mTr_e (by decide) (congrArg (fun z => [mI z]) (Eq.symm ((if_neg h0).trans ((if_neg h1).trans ((if_neg h2).trans (if_neg h3)))))) (Eq.symm (if_neg h0)) (by decide) (by decide)
theorem li_M_337 : mLink "ClothWithManModel" 337 E_M_findApart := ⟨tw_7_135, tw_1_9, ⟨by decide, by decide⟩, by decide +kernel, Or.inl tw_7_132, (fun h => by cases h), (fun _ => ⟨tw_7_134, tw_0_66, TX12, 71, rfl⟩), (fun h => by cases h)⟩




theorem tk_M_apart : ∀ pc i nx tg, T_M_apart pc = some (i, nx, tg) → mOkB prog_14_method_56_code pc i nx tg = true := code_ok (N := 92) (fun k h => by unfold T_M_apart; rw [h]; rfl) (by decide +kernel)
theorem ok_M_apart (l : Launch) : mPOK l "ClothWithManModel" prog_14_method_56_code P_M_apart := by
  refine ⟨tk_M_apart, ?_, ?_, ?_, (fun pc i nx tg kd _ h => by cases h), ?_, ?_, fun pc en h => by cases h⟩
  · intro x ci f ty fin h
    exact mLook_all (Q := fun x v => mFOK "ClothWithManModel" x v.1 v.2.1 v.2.2.1 v.2.2.2 ∧ (v.2.2.2 = true → pIni P_M_apart = true → (Cond.fieldLink "ClothWithManModel" x (((mCl[v.1]?).getD ("", fun _ => ("", "", "", false), 0)).2.1 v.2.1).1 (((mCl[v.1]?).getD ("", fun _ => ("", "", "", false), 0)).2.1 v.2.1).2.1 (((mCl[v.1]?).getD ("", fun _ => ("", "", "", false), 0)).2.1 v.2.1).2.2.1 ∈ lw_tbl ∧ (((mCl[v.1]?).getD ("", fun _ => ("", "", "", false), 0)).2.1 v.2.1).1 = "ClothWithManModel"))) (fcC ⟨fo_M_161, fun h1 h2 => by cases h1⟩ (fcC ⟨fo_M_164, fun h1 h2 => by cases h1⟩ (fcC ⟨fo_M_327, fun h1 h2 => by cases h1⟩ (fcC ⟨fo_M_330, fun h1 h2 => by cases h1⟩ fcN)))) x (ci, f, ty, fin) h
  · intro x
    have hh := mLook_all (l := ([(325, .inr 100), (340, .inr 384), (342, .inr 599), (344, .inr 781)] : List (Nat × (Int32 ⊕ Int64)))) (Q := fun x (v : Int32 ⊕ Int64) => (∀ w, v = .inl w → Cond.constant "ClothWithManModel" x w ∈ lw_tbl) ∧ (∀ w, v = .inr w → Cond.constantLong "ClothWithManModel" x w ∈ lw_tbl)) (fcC ⟨(fun v h => by cases h), fun v h => by cases h; exact tw_7_123⟩ (fcC ⟨(fun v h => by cases h), fun v h => by cases h; exact tw_7_140⟩ (fcC ⟨(fun v h => by cases h), fun v h => by cases h; exact tw_7_141⟩ (fcC ⟨(fun v h => by cases h), fun v h => by cases h; exact tw_7_142⟩ fcN)))) x
    exact ⟨fun w h => (hh _ h).1 w rfl, fun w h => (hh _ h).2 w rfl⟩
  · exact fun x en h => mLook_all (Q := fun x en => mLink "ClothWithManModel" x en ∧ mCtr l en ∧ (en.1.1 = 2 → en.2.2.2.2.2.2 = none)) (fcC ⟨li_M_296, c_In_bitCount l, (fun h => by cases h)⟩ (fcC ⟨li_M_315, c_M_areCounted l, (fun h => by cases h)⟩ (fcC ⟨li_M_321, c_M_tellPart l, (fun h => by cases h)⟩ (fcC ⟨li_M_337, c_M_findApart l, (fun h => by cases h)⟩ fcN)))) x en h
  · exact fun x kd h => mLook_all (Q := fun x kd => (kd = 95 ∧ Cond.fieldLink "ClothWithManModel" x "ClothWithMan" "LIKENESSES" "[I" ∈ lw_tbl) ∨ (kd = 96 ∧ Cond.fieldLink "ClothWithManModel" x "ClothWithMan" "APART_BOUNDS" "[I" ∈ lw_tbl)) fcN x kd h
  · exact fun x ci h => mLook_all (Q := fun x ci => ci ≠ 0 ∧ ∃ (C : String) (T : u_T) (N : Nat), mCl[ci]? = some (C, T, N) ∧ Cond.classLink "ClothWithManModel" x C ∈ lw_tbl ∧ Cond.instantiable C N ∈ lw_tbl) fcN x ci h
set_option maxRecDepth 100000 in
theorem c_M_apart (l : Launch) : mCtr l E_M_apart := mCtr_of (P := P_M_apart) (own := "ClothWithManModel") mLay_ok rfl (by decide +kernel) rfl (ok_M_apart l) (fun h => by cases h) (fun as σ pr rv σ' hF hpr hlv => by
  unfold E_M_apart S_M_apart at hF
  simp only [] at hF
  split at hF
  · cases hF
    obtain ⟨n, pcF, c1, s1, g1, g2, g3, g4⟩ := mF_inv (d_M_apart _ σ (hpr _ rfl))
    exact ⟨Nat.le_of_ble_eq_true rfl, (fun v h => by cases h; trivial), n, pcF, c1, s1, g1, ⟨mEnd_of (i := .ireturn) (P := P_M_apart) (rets := [16, 91]) rfl g2, rfl⟩, g3, g4⟩
  · cases hF
    exact (hpr _ rfl).elim)
/-! ClothWithManModel.slope(I)I -/
noncomputable def v_M_slope (a1 : Int32) (σ : MSto) : Int32 := (if (v_M_areCounted a1 2 6 (sI σ 13 0 52 0)) = 0 then (-1) else (if (lg_cmp (v_M_slopeLow (e_M_gather a1 (sI σ 13 0 52 0))) 0) = 0 then (-2) else (if (lg_cmp (v_M_slopeUp (e_M_tellPart (v_M_slopeUp (sI (e_M_gather a1 (sI σ 13 0 52 0)) 13 0 51 0)) (v_M_slopeLow (sI (e_M_gather a1 (sI σ 13 0 52 0)) 13 0 51 0)) (sI (e_M_gather a1 (sI σ 13 0 52 0)) 13 0 51 0))) 0) ≤ 0 then (if 0 ≤ (lg_cmp (v_M_slopeUp (e_M_tellPart (v_M_slopeUp (sI (e_M_gather a1 (sI σ 13 0 52 0)) 13 0 51 0)) (v_M_slopeLow (sI (e_M_gather a1 (sI σ 13 0 52 0)) 13 0 51 0)) (sI (e_M_gather a1 (sI σ 13 0 52 0)) 13 0 51 0))) 0) then 0 else 2) else 1)))
def p_M_slope (a1 : Int32) (σ : MSto) : Prop := (¬ ((v_M_areCounted a1 2 6 (sI σ 13 0 52 0)) = 0) → ((p_M_gather a1 (sI σ 13 0 52 0)) ∧ ((p_M_slopeLow (e_M_gather a1 (sI σ 13 0 52 0))) ∧ (¬ ((lg_cmp (v_M_slopeLow (e_M_gather a1 (sI σ 13 0 52 0))) 0) = 0) → ((p_M_slopeUp (sI (e_M_gather a1 (sI σ 13 0 52 0)) 13 0 51 0)) ∧ ((p_M_slopeLow (sI (e_M_gather a1 (sI σ 13 0 52 0)) 13 0 51 0)) ∧ ((p_M_tellPart (v_M_slopeUp (sI (e_M_gather a1 (sI σ 13 0 52 0)) 13 0 51 0)) (v_M_slopeLow (sI (e_M_gather a1 (sI σ 13 0 52 0)) 13 0 51 0)) (sI (e_M_gather a1 (sI σ 13 0 52 0)) 13 0 51 0)) ∧ ((p_M_slopeUp (e_M_tellPart (v_M_slopeUp (sI (e_M_gather a1 (sI σ 13 0 52 0)) 13 0 51 0)) (v_M_slopeLow (sI (e_M_gather a1 (sI σ 13 0 52 0)) 13 0 51 0)) (sI (e_M_gather a1 (sI σ 13 0 52 0)) 13 0 51 0))) ∧ (((lg_cmp (v_M_slopeUp (e_M_tellPart (v_M_slopeUp (sI (e_M_gather a1 (sI σ 13 0 52 0)) 13 0 51 0)) (v_M_slopeLow (sI (e_M_gather a1 (sI σ 13 0 52 0)) 13 0 51 0)) (sI (e_M_gather a1 (sI σ 13 0 52 0)) 13 0 51 0))) 0) ≤ 0) → (p_M_slopeUp (e_M_tellPart (v_M_slopeUp (sI (e_M_gather a1 (sI σ 13 0 52 0)) 13 0 51 0)) (v_M_slopeLow (sI (e_M_gather a1 (sI σ 13 0 52 0)) 13 0 51 0)) (sI (e_M_gather a1 (sI σ 13 0 52 0)) 13 0 51 0))))))))))))
noncomputable def e_M_slope (a1 : Int32) (σ : MSto) : MSto := (if (v_M_areCounted a1 2 6 (sI σ 13 0 52 0)) = 0 then (sI σ 13 0 52 0) else (if (lg_cmp (v_M_slopeLow (e_M_gather a1 (sI σ 13 0 52 0))) 0) = 0 then (e_M_gather a1 (sI σ 13 0 52 0)) else (e_M_tellPart (v_M_slopeUp (sI (e_M_gather a1 (sI σ 13 0 52 0)) 13 0 51 0)) (v_M_slopeLow (sI (e_M_gather a1 (sI σ 13 0 52 0)) 13 0 51 0)) (sI (e_M_gather a1 (sI σ 13 0 52 0)) 13 0 51 0))))
noncomputable def S_M_slope : List MV → MSto → Option Prop × Option MV × MSto := fun as σ => match as with
  | [.inr (.inr (some (13, 0))), .inl a0] => (some (p_M_slope a0 σ), some (mI (v_M_slope a0 σ)), e_M_slope a0 σ)
  | _ => (some False, none, σ)
noncomputable def E_M_slope : MEnt := ((1, 1, 13), (3, 76, 0, 0), S_M_slope, ((⟨"ClothWithManModel", "slope", "(I)I"⟩ : MethodName), prog_14_method_60_code, 2, (some .int)))

def T_M_slope : Nat → Option (Instr × Nat × List Nat) := fun k => bif Nat.blt k 80 then (bif Nat.blt k 37 then (bif Nat.blt k 18 then (bif Nat.blt k 7 then (bif Nat.blt k 2 then (bif Nat.blt k 1 then (bif Nat.beq k 0 then some (.aload_n 0, 1, []) else none) else (bif Nat.beq k 1 then some (.iconst 0, 2, []) else none)) else (bif Nat.blt k 5 then (bif Nat.beq k 2 then some (.putfield 161, 5, []) else none) else (bif Nat.blt k 6 then (bif Nat.beq k 5 then some (.aload_n 0, 6, []) else none) else (bif Nat.beq k 6 then some (.iload_n 1, 7, []) else none)))) else (bif Nat.blt k 13 then (bif Nat.blt k 8 then (bif Nat.beq k 7 then some (.iconst 2, 8, []) else none) else (bif Nat.blt k 10 then (bif Nat.beq k 8 then some (.bipush 6, 10, []) else none) else (bif Nat.beq k 10 then some (.invokevirtual 315, 13, []) else none))) else (bif Nat.blt k 16 then (bif Nat.beq k 13 then some (.ifCond .ne 5, 16, [18]) else none) else (bif Nat.blt k 17 then (bif Nat.beq k 16 then some (.iconst (-1), 17, []) else none) else (bif Nat.beq k 17 then some (.ireturn, 18, []) else none))))) else (bif Nat.blt k 28 then (bif Nat.blt k 23 then (bif Nat.blt k 19 then (bif Nat.beq k 18 then some (.aload_n 0, 19, []) else none) else (bif Nat.blt k 20 then (bif Nat.beq k 19 then some (.iload_n 1, 20, []) else none) else (bif Nat.beq k 20 then some (.invokevirtual 349, 23, []) else none))) else (bif Nat.blt k 24 then (bif Nat.beq k 23 then some (.aload_n 0, 24, []) else none) else (bif Nat.blt k 27 then (bif Nat.beq k 24 then some (.invokevirtual 352, 27, []) else none) else (bif Nat.beq k 27 then some (.lconst 0, 28, []) else none)))) else (bif Nat.blt k 34 then (bif Nat.blt k 29 then (bif Nat.beq k 28 then some (.lcmp, 29, []) else none) else (bif Nat.blt k 32 then (bif Nat.beq k 29 then some (.ifCond .ne 6, 32, [35]) else none) else (bif Nat.beq k 32 then some (.bipush (-2), 34, []) else none))) else (bif Nat.blt k 35 then (bif Nat.beq k 34 then some (.ireturn, 35, []) else none) else (bif Nat.blt k 36 then (bif Nat.beq k 35 then some (.aload_n 0, 36, []) else none) else (bif Nat.beq k 36 then some (.iconst 0, 37, []) else none)))))) else (bif Nat.blt k 58 then (bif Nat.blt k 46 then (bif Nat.blt k 41 then (bif Nat.blt k 40 then (bif Nat.beq k 37 then some (.putfield 164, 40, []) else none) else (bif Nat.beq k 40 then some (.aload_n 0, 41, []) else none)) else (bif Nat.blt k 42 then (bif Nat.beq k 41 then some (.aload_n 0, 42, []) else none) else (bif Nat.blt k 45 then (bif Nat.beq k 42 then some (.invokevirtual 356, 45, []) else none) else (bif Nat.beq k 45 then some (.aload_n 0, 46, []) else none)))) else (bif Nat.blt k 53 then (bif Nat.blt k 49 then (bif Nat.beq k 46 then some (.invokevirtual 352, 49, []) else none) else (bif Nat.blt k 52 then (bif Nat.beq k 49 then some (.invokevirtual 321, 52, []) else none) else (bif Nat.beq k 52 then some (.aload_n 0, 53, []) else none))) else (bif Nat.blt k 56 then (bif Nat.beq k 53 then some (.invokevirtual 356, 56, []) else none) else (bif Nat.blt k 57 then (bif Nat.beq k 56 then some (.lconst 0, 57, []) else none) else (bif Nat.beq k 57 then some (.lcmp, 58, []) else none))))) else (bif Nat.blt k 70 then (bif Nat.blt k 65 then (bif Nat.blt k 61 then (bif Nat.beq k 58 then some (.ifCond .le 7, 61, [65]) else none) else (bif Nat.blt k 62 then (bif Nat.beq k 61 then some (.iconst 1, 62, []) else none) else (bif Nat.beq k 62 then some (.goto 17, 65, [79]) else none))) else (bif Nat.blt k 66 then (bif Nat.beq k 65 then some (.aload_n 0, 66, []) else none) else (bif Nat.blt k 69 then (bif Nat.beq k 66 then some (.invokevirtual 356, 69, []) else none) else (bif Nat.beq k 69 then some (.lconst 0, 70, []) else none)))) else (bif Nat.blt k 75 then (bif Nat.blt k 71 then (bif Nat.beq k 70 then some (.lcmp, 71, []) else none) else (bif Nat.blt k 74 then (bif Nat.beq k 71 then some (.ifCond .ge 7, 74, [78]) else none) else (bif Nat.beq k 74 then some (.iconst 2, 75, []) else none))) else (bif Nat.blt k 78 then (bif Nat.beq k 75 then some (.goto 4, 78, [79]) else none) else (bif Nat.blt k 79 then (bif Nat.beq k 78 then some (.iconst 0, 79, []) else none) else (bif Nat.beq k 79 then some (.ireturn, 80, []) else none))))))) else none
noncomputable def P_M_slope : MP := (T_M_slope, (fun k => mLook k [(161, (13, 52, .int, false)), (164, (13, 51, .int, false))]), (fun k => mLook k []), (fun k => mLook k [(315, E_M_areCounted), (321, E_M_tellPart), (349, E_M_gather), (352, E_M_slopeLow), (356, E_M_slopeUp)]), (fun k => mLook k []), (fun k => mLook k []), (fun k => mLook k []), (fun k => mLook k []), (fun k => [17, 34, 79].any (Nat.beq k)), (3, 76, 0, 0), false, (fun _ => none))
set_option maxRecDepth 100000 in
set_option maxHeartbeats 4000000 in
theorem q_M_slope_e (a1 : Int32) (σ : MSto) (n : Nat) : mexe KT P_M_slope (n + 1) (0, [some (mR 13 0), some (mI a1)], [], σ, 0, 0) = mIf ((v_M_areCounted a1 2 6 (sI σ 13 0 52 0)) = 0) (some (17, [], [(mI (-1))], (sI σ 13 0 52 0), 0, 0)) (mG (p_M_gather a1 (sI σ 13 0 52 0)) (mG (p_M_slopeLow (e_M_gather a1 (sI σ 13 0 52 0))) (mIf ((lg_cmp (v_M_slopeLow (e_M_gather a1 (sI σ 13 0 52 0))) 0) = 0) (some (34, [], [(mI (-2))], (e_M_gather a1 (sI σ 13 0 52 0)), 0, 0)) (mG (p_M_slopeUp (sI (e_M_gather a1 (sI σ 13 0 52 0)) 13 0 51 0)) (mG (p_M_slopeLow (sI (e_M_gather a1 (sI σ 13 0 52 0)) 13 0 51 0)) (mG (p_M_tellPart (v_M_slopeUp (sI (e_M_gather a1 (sI σ 13 0 52 0)) 13 0 51 0)) (v_M_slopeLow (sI (e_M_gather a1 (sI σ 13 0 52 0)) 13 0 51 0)) (sI (e_M_gather a1 (sI σ 13 0 52 0)) 13 0 51 0)) (mG (p_M_slopeUp (e_M_tellPart (v_M_slopeUp (sI (e_M_gather a1 (sI σ 13 0 52 0)) 13 0 51 0)) (v_M_slopeLow (sI (e_M_gather a1 (sI σ 13 0 52 0)) 13 0 51 0)) (sI (e_M_gather a1 (sI σ 13 0 52 0)) 13 0 51 0))) (mIf ((lg_cmp (v_M_slopeUp (e_M_tellPart (v_M_slopeUp (sI (e_M_gather a1 (sI σ 13 0 52 0)) 13 0 51 0)) (v_M_slopeLow (sI (e_M_gather a1 (sI σ 13 0 52 0)) 13 0 51 0)) (sI (e_M_gather a1 (sI σ 13 0 52 0)) 13 0 51 0))) 0) ≤ 0) (mG (p_M_slopeUp (e_M_tellPart (v_M_slopeUp (sI (e_M_gather a1 (sI σ 13 0 52 0)) 13 0 51 0)) (v_M_slopeLow (sI (e_M_gather a1 (sI σ 13 0 52 0)) 13 0 51 0)) (sI (e_M_gather a1 (sI σ 13 0 52 0)) 13 0 51 0))) (mIf (0 ≤ (lg_cmp (v_M_slopeUp (e_M_tellPart (v_M_slopeUp (sI (e_M_gather a1 (sI σ 13 0 52 0)) 13 0 51 0)) (v_M_slopeLow (sI (e_M_gather a1 (sI σ 13 0 52 0)) 13 0 51 0)) (sI (e_M_gather a1 (sI σ 13 0 52 0)) 13 0 51 0))) 0)) (some (79, [], [(mI 0)], (e_M_tellPart (v_M_slopeUp (sI (e_M_gather a1 (sI σ 13 0 52 0)) 13 0 51 0)) (v_M_slopeLow (sI (e_M_gather a1 (sI σ 13 0 52 0)) 13 0 51 0)) (sI (e_M_gather a1 (sI σ 13 0 52 0)) 13 0 51 0)), 0, 0)) (some (79, [], [(mI 2)], (e_M_tellPart (v_M_slopeUp (sI (e_M_gather a1 (sI σ 13 0 52 0)) 13 0 51 0)) (v_M_slopeLow (sI (e_M_gather a1 (sI σ 13 0 52 0)) 13 0 51 0)) (sI (e_M_gather a1 (sI σ 13 0 52 0)) 13 0 51 0)), 0, 0)))) (some (79, [], [(mI 1)], (e_M_tellPart (v_M_slopeUp (sI (e_M_gather a1 (sI σ 13 0 52 0)) 13 0 51 0)) (v_M_slopeLow (sI (e_M_gather a1 (sI σ 13 0 52 0)) 13 0 51 0)) (sI (e_M_gather a1 (sI σ 13 0 52 0)) 13 0 51 0)), 0, 0)))))))))) := rfl
set_option maxRecDepth 100000 in
set_option maxHeartbeats 4000000 in
theorem d_M_slope (a1 : Int32) (σ : MSto) (hp : p_M_slope a1 σ) : mW1 P_M_slope (0, [some (mR 13 0), some (mI a1)], [], σ, 0, 0) (mF [17, 34, 79] [mI (v_M_slope a1 σ)] (e_M_slope a1 σ) 0 0) := by
  refine mW1_eq (q_M_slope_e _ _) ?_
  unfold p_M_slope at hp
  refine mTr_if (fun h0 => ?_) (fun h0 => ?_)
  · skip
    exact mTr_e (by decide) (congrArg (fun z => [mI z]) (Eq.symm (if_pos h0))) (Eq.symm (if_pos h0)) (by decide) (by decide)
  · skip
    have hp := hp h0
    refine mTr_g hp.1 ?_
    have hp := hp.2
    refine mTr_g hp.1 ?_
    have hp := hp.2
    refine mTr_if (fun h1 => ?_) (fun h1 => ?_)
    · skip
      exact mTr_e (by decide) (congrArg (fun z => [mI z]) (Eq.symm ((if_neg h0).trans (if_pos h1)))) (Eq.symm ((if_neg h0).trans (if_pos h1))) (by decide) (by decide)
    · skip
      have hp := hp h1
      refine mTr_g hp.1 ?_
      have hp := hp.2
      refine mTr_g hp.1 ?_
      have hp := hp.2
      refine mTr_g hp.1 ?_
      have hp := hp.2
      refine mTr_g hp.1 ?_
      have hp := hp.2
      refine mTr_if (fun h2 => ?_) (fun h2 => ?_)
      · skip
        have hp := hp h2
        refine mTr_g hp ?_
        refine mTr_if (fun h3 => ?_) (fun h3 => ?_)
        · skip
          exact mTr_e (by decide) (congrArg (fun z => [mI z]) (Eq.symm ((if_neg h0).trans ((if_neg h1).trans ((if_pos h2).trans (if_pos h3)))))) (Eq.symm ((if_neg h0).trans (if_neg h1))) (by decide) (by decide)
        · skip
          exact mTr_e (by decide) (congrArg (fun z => [mI z]) (Eq.symm ((if_neg h0).trans ((if_neg h1).trans ((if_pos h2).trans (if_neg h3)))))) (Eq.symm ((if_neg h0).trans (if_neg h1))) (by decide) (by decide)
      · skip
        exact mTr_e (by decide) (congrArg (fun z => [mI z]) (Eq.symm ((if_neg h0).trans ((if_neg h1).trans (if_neg h2))))) (Eq.symm ((if_neg h0).trans (if_neg h1))) (by decide) (by decide)
theorem li_M_356 : mLink "ClothWithManModel" 356 E_M_slopeUp := ⟨tw_7_158, tw_1_9, ⟨by decide, by decide⟩, by decide +kernel, Or.inl tw_7_155, (fun h => by cases h), (fun _ => ⟨tw_7_157, tw_0_70, TX12, 71, rfl⟩), (fun h => by cases h)⟩

theorem li_M_352 : mLink "ClothWithManModel" 352 E_M_slopeLow := ⟨tw_7_154, tw_1_9, ⟨by decide, by decide⟩, by decide +kernel, Or.inl tw_7_151, (fun h => by cases h), (fun _ => ⟨tw_7_153, tw_0_69, TX12, 71, rfl⟩), (fun h => by cases h)⟩

theorem li_M_349 : mLink "ClothWithManModel" 349 E_M_gather := ⟨tw_7_150, tw_1_9, ⟨by decide, by decide⟩, by decide +kernel, Or.inl tw_7_147, (fun h => by cases h), (fun _ => ⟨tw_7_149, tw_0_68, TX12, 71, rfl⟩), (fun h => by cases h)⟩



theorem tk_M_slope : ∀ pc i nx tg, T_M_slope pc = some (i, nx, tg) → mOkB prog_14_method_60_code pc i nx tg = true := code_ok (N := 80) (fun k h => by unfold T_M_slope; rw [h]; rfl) (by decide +kernel)
theorem ok_M_slope (l : Launch) : mPOK l "ClothWithManModel" prog_14_method_60_code P_M_slope := by
  refine ⟨tk_M_slope, ?_, ?_, ?_, (fun pc i nx tg kd _ h => by cases h), ?_, ?_, fun pc en h => by cases h⟩
  · intro x ci f ty fin h
    exact mLook_all (Q := fun x v => mFOK "ClothWithManModel" x v.1 v.2.1 v.2.2.1 v.2.2.2 ∧ (v.2.2.2 = true → pIni P_M_slope = true → (Cond.fieldLink "ClothWithManModel" x (((mCl[v.1]?).getD ("", fun _ => ("", "", "", false), 0)).2.1 v.2.1).1 (((mCl[v.1]?).getD ("", fun _ => ("", "", "", false), 0)).2.1 v.2.1).2.1 (((mCl[v.1]?).getD ("", fun _ => ("", "", "", false), 0)).2.1 v.2.1).2.2.1 ∈ lw_tbl ∧ (((mCl[v.1]?).getD ("", fun _ => ("", "", "", false), 0)).2.1 v.2.1).1 = "ClothWithManModel"))) (fcC ⟨fo_M_161, fun h1 h2 => by cases h1⟩ (fcC ⟨fo_M_164, fun h1 h2 => by cases h1⟩ fcN)) x (ci, f, ty, fin) h
  · intro x
    have hh := mLook_all (l := ([] : List (Nat × (Int32 ⊕ Int64)))) (Q := fun x (v : Int32 ⊕ Int64) => (∀ w, v = .inl w → Cond.constant "ClothWithManModel" x w ∈ lw_tbl) ∧ (∀ w, v = .inr w → Cond.constantLong "ClothWithManModel" x w ∈ lw_tbl)) fcN x
    exact ⟨fun w h => (hh _ h).1 w rfl, fun w h => (hh _ h).2 w rfl⟩
  · exact fun x en h => mLook_all (Q := fun x en => mLink "ClothWithManModel" x en ∧ mCtr l en ∧ (en.1.1 = 2 → en.2.2.2.2.2.2 = none)) (fcC ⟨li_M_315, c_M_areCounted l, (fun h => by cases h)⟩ (fcC ⟨li_M_321, c_M_tellPart l, (fun h => by cases h)⟩ (fcC ⟨li_M_349, c_M_gather l, (fun h => by cases h)⟩ (fcC ⟨li_M_352, c_M_slopeLow l, (fun h => by cases h)⟩ (fcC ⟨li_M_356, c_M_slopeUp l, (fun h => by cases h)⟩ fcN))))) x en h
  · exact fun x kd h => mLook_all (Q := fun x kd => (kd = 95 ∧ Cond.fieldLink "ClothWithManModel" x "ClothWithMan" "LIKENESSES" "[I" ∈ lw_tbl) ∨ (kd = 96 ∧ Cond.fieldLink "ClothWithManModel" x "ClothWithMan" "APART_BOUNDS" "[I" ∈ lw_tbl)) fcN x kd h
  · exact fun x ci h => mLook_all (Q := fun x ci => ci ≠ 0 ∧ ∃ (C : String) (T : u_T) (N : Nat), mCl[ci]? = some (C, T, N) ∧ Cond.classLink "ClothWithManModel" x C ∈ lw_tbl ∧ Cond.instantiable C N ∈ lw_tbl) fcN x ci h
set_option maxRecDepth 100000 in
theorem c_M_slope (l : Launch) : mCtr l E_M_slope := mCtr_of (P := P_M_slope) (own := "ClothWithManModel") mLay_ok rfl (by decide +kernel) rfl (ok_M_slope l) (fun h => by cases h) (fun as σ pr rv σ' hF hpr hlv => by
  unfold E_M_slope S_M_slope at hF
  simp only [] at hF
  split at hF
  · cases hF
    obtain ⟨n, pcF, c1, s1, g1, g2, g3, g4⟩ := mF_inv (d_M_slope _ σ (hpr _ rfl))
    exact ⟨Nat.le_of_ble_eq_true rfl, (fun v h => by cases h; trivial), n, pcF, c1, s1, g1, ⟨mEnd_of (i := .ireturn) (P := P_M_slope) (rets := [17, 34, 79]) rfl g2, rfl⟩, g3, g4⟩
  · cases hF
    exact (hpr _ rfl).elim)

