def p_M_permuteX (a0 : Int32) (σ : MSto) : Prop := False
def e_M_permuteX (a0 : Int32) (σ : MSto) : MSto := σ
noncomputable def S_M_permuteX : List MV → MSto → Option Prop × Option MV × MSto := fun as σ => match as with
  | [.inr (.inr (some (13, 0))), .inl a0] => (some (p_M_permuteX a0 σ), none, e_M_permuteX a0 σ)
  | _ => (some False, none, σ)
noncomputable def E_M_permuteX : MEnt := ((1, 1, 13), (0, 0, 0, 0), S_M_permuteX, ((⟨"ClothWithManModel", "permute", "(I)V"⟩ : MethodName), prog_14_method_61_code, 3, none))

theorem c_M_permuteX (l : Launch) : mCtr l E_M_permuteX := fun D eb tL tB ad sz as σ pr rv σ' h hp hl => by
  unfold E_M_permuteX S_M_permuteX at h
  simp only [] at h
  split at h
  · cases h; exact (hp _ rfl).elim
  · cases h; exact (hp _ rfl).elim
/-! ClothWithManModel.permute(I)V -/
noncomputable def t_M_permute0_40 (x1 : Int32) (c : Int32) (s : MSto) : MSto := (if (gI s 13 0 66) ≤ c then s else (e_M_swap x1 c (e_M_permuteX (x1 + 1) (e_M_swap x1 c s))))
noncomputable def q_M_permute0_40s (x1 : Int32) (c : Int32) (s : MSto) : Nat := (if (gI s 13 0 66) ≤ c then 1 else 0)
def g_M_permute0_40 (x1 : Int32) (c : Int32) (s : MSto) : Prop := (¬ ((gI s 13 0 66) ≤ c) → ((p_M_swap x1 c s) ∧ ((p_M_permuteX (x1 + 1) (e_M_swap x1 c s)) ∧ (p_M_swap x1 c (e_M_permuteX (x1 + 1) (e_M_swap x1 c s))))))
noncomputable def f_M_permute0_40 (x1 : Int32) (c0 : Int32) (s0 : MSto) (n : Nat) : MSto := nfold (fun i s => t_M_permute0_40 x1 (c0 + nI i) s) s0 n
noncomputable def n_M_permute0_40 (x1 : Int32) (c0 : Int32) (s0 : MSto) : Nat := (nM s0 66 - x1.toNatClampNeg)
def p_M_permute0 (a1 : Int32) (σ : MSto) : Prop := (((a1 = (gI σ 13 0 66)) → (p_M_slopeUp σ)) ∧ (¬ (a1 = (gI σ 13 0 66)) → ((∀ i, i < (n_M_permute0_40 a1 a1 σ) → g_M_permute0_40 a1 (a1 + nI i) (f_M_permute0_40 a1 a1 σ i) ∧ ¬ q_M_permute0_40s a1 (a1 + nI i) (f_M_permute0_40 a1 a1 σ i) = 1) ∧ (¬ ((gI (f_M_permute0_40 a1 a1 σ (n_M_permute0_40 a1 a1 σ)) 13 0 66) ≤ (a1 + nI (n_M_permute0_40 a1 a1 σ))) → False))))
noncomputable def e_M_permute0 (a1 : Int32) (σ : MSto) : MSto := (if a1 = (gI σ 13 0 66) then (if (lg_cmp (v_Ma_absJ (v_M_slopeUp σ) σ) (gJ σ 13 0 67)) < 0 then (sI σ 13 0 68 ((gI σ 13 0 68) + 0)) else (sI σ 13 0 68 ((gI σ 13 0 68) + 1))) else (f_M_permute0_40 a1 a1 σ (n_M_permute0_40 a1 a1 σ)))
noncomputable def S_M_permute0 : List MV → MSto → Option Prop × Option MV × MSto := fun as σ => match as with
  | [.inr (.inr (some (13, 0))), .inl a0] => (some (p_M_permute0 a0 σ), none, e_M_permute0 a0 σ)
  | _ => (some False, none, σ)
noncomputable def E_M_permute0 : MEnt := ((1, 1, 13), (1, 27, 0, 0), S_M_permute0, ((⟨"ClothWithManModel", "permute", "(I)V"⟩ : MethodName), prog_14_method_61_code, 3, none))

def T_M_permute0 : Nat → Option (Instr × Nat × List Nat) := fun k => bif Nat.blt k 74 then (bif Nat.blt k 39 then (bif Nat.blt k 20 then (bif Nat.blt k 9 then (bif Nat.blt k 2 then (bif Nat.blt k 1 then (bif Nat.beq k 0 then some (.iload_n 1, 1, []) else none) else (bif Nat.beq k 1 then some (.aload_n 0, 2, []) else none)) else (bif Nat.blt k 5 then (bif Nat.beq k 2 then some (.getfield 346, 5, []) else none) else (bif Nat.blt k 8 then (bif Nat.beq k 5 then some (.if_icmp .ne 33, 8, [38]) else none) else (bif Nat.beq k 8 then some (.aload_n 0, 9, []) else none)))) else (bif Nat.blt k 13 then (bif Nat.blt k 10 then (bif Nat.beq k 9 then some (.dup, 10, []) else none) else (bif Nat.beq k 10 then some (.getfield 359, 13, []) else none)) else (bif Nat.blt k 14 then (bif Nat.beq k 13 then some (.aload_n 0, 14, []) else none) else (bif Nat.blt k 17 then (bif Nat.beq k 14 then some (.invokevirtual 356, 17, []) else none) else (bif Nat.beq k 17 then some (.invokestatic 167, 20, []) else none))))) else (bif Nat.blt k 29 then (bif Nat.blt k 24 then (bif Nat.blt k 21 then (bif Nat.beq k 20 then some (.aload_n 0, 21, []) else none) else (bif Nat.beq k 21 then some (.getfield 362, 24, []) else none)) else (bif Nat.blt k 25 then (bif Nat.beq k 24 then some (.lcmp, 25, []) else none) else (bif Nat.blt k 28 then (bif Nat.beq k 25 then some (.ifCond .lt 7, 28, [32]) else none) else (bif Nat.beq k 28 then some (.iconst 1, 29, []) else none)))) else (bif Nat.blt k 34 then (bif Nat.blt k 32 then (bif Nat.beq k 29 then some (.goto 4, 32, [33]) else none) else (bif Nat.blt k 33 then (bif Nat.beq k 32 then some (.iconst 0, 33, []) else none) else (bif Nat.beq k 33 then some (.iadd, 34, []) else none))) else (bif Nat.blt k 37 then (bif Nat.beq k 34 then some (.putfield 359, 37, []) else none) else (bif Nat.blt k 38 then (bif Nat.beq k 37 then some (.return_, 38, []) else none) else (bif Nat.beq k 38 then some (.iload_n 1, 39, []) else none)))))) else (bif Nat.blt k 55 then (bif Nat.blt k 48 then (bif Nat.blt k 41 then (bif Nat.blt k 40 then (bif Nat.beq k 39 then some (.istore_n 2, 40, []) else none) else (bif Nat.beq k 40 then some (.iload_n 2, 41, []) else none)) else (bif Nat.blt k 42 then (bif Nat.beq k 41 then some (.aload_n 0, 42, []) else none) else (bif Nat.blt k 45 then (bif Nat.beq k 42 then some (.getfield 346, 45, []) else none) else (bif Nat.beq k 45 then some (.if_icmp .ge 28, 48, [73]) else none)))) else (bif Nat.blt k 50 then (bif Nat.blt k 49 then (bif Nat.beq k 48 then some (.aload_n 0, 49, []) else none) else (bif Nat.beq k 49 then some (.iload_n 1, 50, []) else none)) else (bif Nat.blt k 51 then (bif Nat.beq k 50 then some (.iload_n 2, 51, []) else none) else (bif Nat.blt k 54 then (bif Nat.beq k 51 then some (.invokevirtual 365, 54, []) else none) else (bif Nat.beq k 54 then some (.aload_n 0, 55, []) else none))))) else (bif Nat.blt k 62 then (bif Nat.blt k 57 then (bif Nat.blt k 56 then (bif Nat.beq k 55 then some (.iload_n 1, 56, []) else none) else (bif Nat.beq k 56 then some (.iconst 1, 57, []) else none)) else (bif Nat.blt k 58 then (bif Nat.beq k 57 then some (.iadd, 58, []) else none) else (bif Nat.blt k 61 then (bif Nat.beq k 58 then some (.invokevirtual 368, 61, []) else none) else (bif Nat.beq k 61 then some (.aload_n 0, 62, []) else none)))) else (bif Nat.blt k 67 then (bif Nat.blt k 63 then (bif Nat.beq k 62 then some (.iload_n 1, 63, []) else none) else (bif Nat.blt k 64 then (bif Nat.beq k 63 then some (.iload_n 2, 64, []) else none) else (bif Nat.beq k 64 then some (.invokevirtual 365, 67, []) else none))) else (bif Nat.blt k 70 then (bif Nat.beq k 67 then some (.iinc 2 1, 70, []) else none) else (bif Nat.blt k 73 then (bif Nat.beq k 70 then some (.goto (-30), 73, [40]) else none) else (bif Nat.beq k 73 then some (.return_, 74, []) else none))))))) else none
noncomputable def P_M_permute0 : MP := (T_M_permute0, (fun k => mLook k [(346, (13, 66, .int, false)), (359, (13, 68, .int, false)), (362, (13, 67, .long, false))]), (fun k => mLook k []), (fun k => mLook k [(167, E_Ma_absJ), (356, E_M_slopeUp), (365, E_M_swap), (368, E_M_permuteX)]), (fun k => mLook k []), (fun k => mLook k []), (fun k => mLook k []), (fun k => mLook k [(40, [true, true, true])]), (fun k => [37, 73].any (Nat.beq k)), (1, 27, 0, 0), false, (fun _ => none))
set_option maxRecDepth 100000 in
set_option maxHeartbeats 4000000 in
theorem q_M_permute0_e (a1 : Int32) (σ : MSto) (n : Nat) : mexe KT P_M_permute0 (n + 1) (0, [some (mR 13 0), some (mI a1), none], [], σ, 0, 0) = mIf (a1 = (gI σ 13 0 66)) (mG (p_M_slopeUp σ) (mIf ((lg_cmp (v_Ma_absJ (v_M_slopeUp σ) σ) (gJ σ 13 0 67)) < 0) (some (37, [], [], (sI σ 13 0 68 ((gI σ 13 0 68) + 0)), 0, 0)) (some (37, [], [], (sI σ 13 0 68 ((gI σ 13 0 68) + 1)), 0, 0)))) (mexe KT P_M_permute0 n (40, [some (mR 13 0), some (mI a1), some (mI a1)], [], σ, 0, 0)) := rfl
set_option maxRecDepth 100000 in
set_option maxHeartbeats 4000000 in
theorem q_M_permute0_40 (x1 : Int32) (x2 : Int32) (σ : MSto) (n : Nat) : mexe KT P_M_permute0 (n + 1) (40, [some (mR 13 0), some (mI x1), some (mI x2)], [], σ, 0, 0) = mIf ((gI σ 13 0 66) ≤ x2) (some (73, [], [], σ, 0, 0)) (mG (p_M_swap x1 x2 σ) (mG (p_M_permuteX (x1 + 1) (e_M_swap x1 x2 σ)) (mG (p_M_swap x1 x2 (e_M_permuteX (x1 + 1) (e_M_swap x1 x2 σ))) (mexe KT P_M_permute0 n (40, [some (mR 13 0), some (mI x1), some (mI (x2 + 1))], [], (e_M_swap x1 x2 (e_M_permuteX (x1 + 1) (e_M_swap x1 x2 σ))), 0, 0))))) := rfl
set_option maxRecDepth 100000 in
theorem lt_M_permute0_40 {Post : MST → Prop} (x1 : Int32) (c : Int32) (s : MSto) (hp : g_M_permute0_40 x1 c s) (hq : ¬ q_M_permute0_40s x1 c s = 1) (hn : ∀ r, t_M_permute0_40 x1 c s = r → mW1 P_M_permute0 (40, [some (mR 13 0), some (mI x1), some (mI (c + 1))], [], r, 0, 0) Post) : mW1 P_M_permute0 (40, [some (mR 13 0), some (mI x1), some (mI c)], [], s, 0, 0) Post := by
  unfold g_M_permute0_40 at hp
  refine mW1_eq (q_M_permute0_40 _ _ _) ?_
  refine mTr_if (fun h0 => ?_) (fun h0 => ?_)
  · skip
    exact absurd (if_pos h0) hq
  · skip
    have hp := hp h0
    refine mTr_g hp.1 ?_
    have hp := hp.2
    refine mTr_g hp.1 ?_
    have hp := hp.2
    refine mTr_g hp ?_
    exact mTr_k (hn (e_M_swap x1 c (e_M_permuteX (x1 + 1) (e_M_swap x1 c s))) (if_neg h0))
theorem lp_M_permute0_40 {Post : MST → Prop} (x1 : Int32) (c0 : Int32) (s0 : MSto) (N : Nat) (hb : ∀ i, i < N → g_M_permute0_40 x1 (c0 + nI i) (f_M_permute0_40 x1 c0 s0 i) ∧ ¬ q_M_permute0_40s x1 (c0 + nI i) (f_M_permute0_40 x1 c0 s0 i) = 1) (h : mW1 P_M_permute0 (40, [some (mR 13 0), some (mI x1), some (mI (c0 + nI N))], [], (f_M_permute0_40 x1 c0 s0 N), 0, 0) Post) : mW1 P_M_permute0 (40, [some (mR 13 0), some (mI x1), some (mI c0)], [], s0, 0, 0) Post := by
  refine mW1_st (mW1_loop (fun i => (40, [some (mR 13 0), some (mI x1), some (mI (c0 + nI i))], [], (f_M_permute0_40 x1 c0 s0 i), 0, 0)) N (fun i hlt hn => ?_) h) (by rw [show nI 0 = 0 from rfl, Int32.add_zero] <;> rfl)
  refine lt_M_permute0_40 x1 _ _ (hb i hlt).1 (hb i hlt).2 (fun r hr => ?_)
  rw [Int32.add_assoc, nI_s]
  subst hr
  exact hn
set_option maxRecDepth 100000 in
set_option maxHeartbeats 4000000 in
theorem d_M_permute0 (a1 : Int32) (σ : MSto) (hp : p_M_permute0 a1 σ) : mW1 P_M_permute0 (0, [some (mR 13 0), some (mI a1), none], [], σ, 0, 0) (mF [37, 73] [] (e_M_permute0 a1 σ) 0 0) := by
  refine mW1_eq (q_M_permute0_e _ _) ?_
  unfold p_M_permute0 at hp
  refine mTr_if (fun h0 => ?_) (fun h0 => ?_)
  · skip
    have hp := hp.1 h0
    refine mTr_g hp ?_
    refine mTr_if (fun h1 => ?_) (fun h1 => ?_)
    · skip
      exact mTr_e (by decide) rfl (Eq.symm ((if_pos h0).trans (if_pos h1))) (by decide) (by decide)
    · skip
      exact mTr_e (by decide) rfl (Eq.symm ((if_pos h0).trans (if_neg h1))) (by decide) (by decide)
  · skip
    have hp := hp.2 h0
    refine mTr_k (lp_M_permute0_40 a1 a1 σ (n_M_permute0_40 a1 a1 σ) hp.1 ?_)
    have hp := hp.2
    refine mW1_eq (q_M_permute0_40 _ _ _) ?_
    refine mTr_if (fun h1 => ?_) (fun h1 => ?_)
    · skip
      exact mTr_e (by decide) rfl (Eq.symm (if_neg h0)) (by decide) (by decide)
    · skip
      have hp := hp h1
      exact hp.elim
theorem li_M_368_M_permuteX : mLink "ClothWithManModel" 368 E_M_permuteX := ⟨tw_7_166, tw_1_9, ⟨by decide, by decide⟩, by decide +kernel, Or.inl tw_7_163, (fun h => by cases h), (fun _ => ⟨tw_7_165, tw_0_71, TX12, 71, rfl⟩), (fun h => by cases h)⟩

theorem li_M_365 : mLink "ClothWithManModel" 365 E_M_swap := ⟨tw_7_170, tw_1_9, ⟨by decide, by decide⟩, by decide +kernel, Or.inl tw_7_167, (fun h => by cases h), (fun _ => ⟨tw_7_169, tw_0_72, TX12, 71, rfl⟩), (fun h => by cases h)⟩



theorem tk_M_permute0 : ∀ pc i nx tg, T_M_permute0 pc = some (i, nx, tg) → mOkB prog_14_method_61_code pc i nx tg = true := code_ok (N := 74) (fun k h => by unfold T_M_permute0; rw [h]; rfl) (by decide +kernel)
theorem ok_M_permute0 (l : Launch) : mPOK l "ClothWithManModel" prog_14_method_61_code P_M_permute0 := by
  refine ⟨tk_M_permute0, ?_, ?_, ?_, (fun pc i nx tg kd _ h => by cases h), ?_, ?_, fun pc en h => by cases h⟩
  · intro x ci f ty fin h
    exact mLook_all (Q := fun x v => mFOK "ClothWithManModel" x v.1 v.2.1 v.2.2.1 v.2.2.2 ∧ (v.2.2.2 = true → pIni P_M_permute0 = true → (Cond.fieldLink "ClothWithManModel" x (((mCl[v.1]?).getD ("", fun _ => ("", "", "", false), 0)).2.1 v.2.1).1 (((mCl[v.1]?).getD ("", fun _ => ("", "", "", false), 0)).2.1 v.2.1).2.1 (((mCl[v.1]?).getD ("", fun _ => ("", "", "", false), 0)).2.1 v.2.1).2.2.1 ∈ lw_tbl ∧ (((mCl[v.1]?).getD ("", fun _ => ("", "", "", false), 0)).2.1 v.2.1).1 = "ClothWithManModel"))) (fcC ⟨fo_M_346, fun h1 h2 => by cases h1⟩ (fcC ⟨fo_M_359, fun h1 h2 => by cases h1⟩ (fcC ⟨fo_M_362, fun h1 h2 => by cases h1⟩ fcN))) x (ci, f, ty, fin) h
  · intro x
    have hh := mLook_all (l := ([] : List (Nat × (Int32 ⊕ Int64)))) (Q := fun x (v : Int32 ⊕ Int64) => (∀ w, v = .inl w → Cond.constant "ClothWithManModel" x w ∈ lw_tbl) ∧ (∀ w, v = .inr w → Cond.constantLong "ClothWithManModel" x w ∈ lw_tbl)) fcN x
    exact ⟨fun w h => (hh _ h).1 w rfl, fun w h => (hh _ h).2 w rfl⟩
  · exact fun x en h => mLook_all (Q := fun x en => mLink "ClothWithManModel" x en ∧ mCtr l en ∧ (en.1.1 = 2 → en.2.2.2.2.2.2 = none)) (fcC ⟨li_M_167, c_Ma_absJ l, (fun h => by cases h)⟩ (fcC ⟨li_M_356, c_M_slopeUp l, (fun h => by cases h)⟩ (fcC ⟨li_M_365, c_M_swap l, (fun h => by cases h)⟩ (fcC ⟨li_M_368_M_permuteX, c_M_permuteX l, (fun h => by cases h)⟩ fcN)))) x en h
  · exact fun x kd h => mLook_all (Q := fun x kd => (kd = 95 ∧ Cond.fieldLink "ClothWithManModel" x "ClothWithMan" "LIKENESSES" "[I" ∈ lw_tbl) ∨ (kd = 96 ∧ Cond.fieldLink "ClothWithManModel" x "ClothWithMan" "APART_BOUNDS" "[I" ∈ lw_tbl)) fcN x kd h
  · exact fun x ci h => mLook_all (Q := fun x ci => ci ≠ 0 ∧ ∃ (C : String) (T : u_T) (N : Nat), mCl[ci]? = some (C, T, N) ∧ Cond.classLink "ClothWithManModel" x C ∈ lw_tbl ∧ Cond.instantiable C N ∈ lw_tbl) fcN x ci h
set_option maxRecDepth 100000 in
theorem c_M_permute0 (l : Launch) : mCtr l E_M_permute0 := mCtr_of (P := P_M_permute0) (own := "ClothWithManModel") mLay_ok rfl (by decide +kernel) rfl (ok_M_permute0 l) (fun h => by cases h) (fun as σ pr rv σ' hF hpr hlv => by
  unfold E_M_permute0 S_M_permute0 at hF
  simp only [] at hF
  split at hF
  · cases hF
    obtain ⟨n, pcF, c1, s1, g1, g2, g3, g4⟩ := mF_inv (d_M_permute0 _ σ (hpr _ rfl))
    exact ⟨Nat.le_of_ble_eq_true rfl, (fun v h => by cases h), n, pcF, c1, s1, g1, mEnd_of (i := .return_) (P := P_M_permute0) (rets := [37, 73]) rfl g2, g3, g4⟩
  · cases hF
    exact (hpr _ rfl).elim)
/-! ClothWithManModel.permute(I)V -/
noncomputable def t_M_permute1_40 (x1 : Int32) (c : Int32) (s : MSto) : MSto := (if (gI s 13 0 66) ≤ c then s else (e_M_swap x1 c (e_M_permute0 (x1 + 1) (e_M_swap x1 c s))))
noncomputable def q_M_permute1_40s (x1 : Int32) (c : Int32) (s : MSto) : Nat := (if (gI s 13 0 66) ≤ c then 1 else 0)
def g_M_permute1_40 (x1 : Int32) (c : Int32) (s : MSto) : Prop := (¬ ((gI s 13 0 66) ≤ c) → ((p_M_swap x1 c s) ∧ ((p_M_permute0 (x1 + 1) (e_M_swap x1 c s)) ∧ (p_M_swap x1 c (e_M_permute0 (x1 + 1) (e_M_swap x1 c s))))))
noncomputable def f_M_permute1_40 (x1 : Int32) (c0 : Int32) (s0 : MSto) (n : Nat) : MSto := nfold (fun i s => t_M_permute1_40 x1 (c0 + nI i) s) s0 n
noncomputable def n_M_permute1_40 (x1 : Int32) (c0 : Int32) (s0 : MSto) : Nat := (nM s0 66 - x1.toNatClampNeg)
def p_M_permute1 (a1 : Int32) (σ : MSto) : Prop := (((a1 = (gI σ 13 0 66)) → (p_M_slopeUp σ)) ∧ (¬ (a1 = (gI σ 13 0 66)) → ((∀ i, i < (n_M_permute1_40 a1 a1 σ) → g_M_permute1_40 a1 (a1 + nI i) (f_M_permute1_40 a1 a1 σ i) ∧ ¬ q_M_permute1_40s a1 (a1 + nI i) (f_M_permute1_40 a1 a1 σ i) = 1) ∧ (¬ ((gI (f_M_permute1_40 a1 a1 σ (n_M_permute1_40 a1 a1 σ)) 13 0 66) ≤ (a1 + nI (n_M_permute1_40 a1 a1 σ))) → False))))
noncomputable def e_M_permute1 (a1 : Int32) (σ : MSto) : MSto := (if a1 = (gI σ 13 0 66) then (if (lg_cmp (v_Ma_absJ (v_M_slopeUp σ) σ) (gJ σ 13 0 67)) < 0 then (sI σ 13 0 68 ((gI σ 13 0 68) + 0)) else (sI σ 13 0 68 ((gI σ 13 0 68) + 1))) else (f_M_permute1_40 a1 a1 σ (n_M_permute1_40 a1 a1 σ)))
noncomputable def S_M_permute1 : List MV → MSto → Option Prop × Option MV × MSto := fun as σ => match as with
  | [.inr (.inr (some (13, 0))), .inl a0] => (some (p_M_permute1 a0 σ), none, e_M_permute1 a0 σ)
  | _ => (some False, none, σ)
noncomputable def E_M_permute1 : MEnt := ((1, 1, 13), (2, 49, 0, 0), S_M_permute1, ((⟨"ClothWithManModel", "permute", "(I)V"⟩ : MethodName), prog_14_method_61_code, 3, none))

def T_M_permute1 : Nat → Option (Instr × Nat × List Nat) := fun k => bif Nat.blt k 74 then (bif Nat.blt k 39 then (bif Nat.blt k 20 then (bif Nat.blt k 9 then (bif Nat.blt k 2 then (bif Nat.blt k 1 then (bif Nat.beq k 0 then some (.iload_n 1, 1, []) else none) else (bif Nat.beq k 1 then some (.aload_n 0, 2, []) else none)) else (bif Nat.blt k 5 then (bif Nat.beq k 2 then some (.getfield 346, 5, []) else none) else (bif Nat.blt k 8 then (bif Nat.beq k 5 then some (.if_icmp .ne 33, 8, [38]) else none) else (bif Nat.beq k 8 then some (.aload_n 0, 9, []) else none)))) else (bif Nat.blt k 13 then (bif Nat.blt k 10 then (bif Nat.beq k 9 then some (.dup, 10, []) else none) else (bif Nat.beq k 10 then some (.getfield 359, 13, []) else none)) else (bif Nat.blt k 14 then (bif Nat.beq k 13 then some (.aload_n 0, 14, []) else none) else (bif Nat.blt k 17 then (bif Nat.beq k 14 then some (.invokevirtual 356, 17, []) else none) else (bif Nat.beq k 17 then some (.invokestatic 167, 20, []) else none))))) else (bif Nat.blt k 29 then (bif Nat.blt k 24 then (bif Nat.blt k 21 then (bif Nat.beq k 20 then some (.aload_n 0, 21, []) else none) else (bif Nat.beq k 21 then some (.getfield 362, 24, []) else none)) else (bif Nat.blt k 25 then (bif Nat.beq k 24 then some (.lcmp, 25, []) else none) else (bif Nat.blt k 28 then (bif Nat.beq k 25 then some (.ifCond .lt 7, 28, [32]) else none) else (bif Nat.beq k 28 then some (.iconst 1, 29, []) else none)))) else (bif Nat.blt k 34 then (bif Nat.blt k 32 then (bif Nat.beq k 29 then some (.goto 4, 32, [33]) else none) else (bif Nat.blt k 33 then (bif Nat.beq k 32 then some (.iconst 0, 33, []) else none) else (bif Nat.beq k 33 then some (.iadd, 34, []) else none))) else (bif Nat.blt k 37 then (bif Nat.beq k 34 then some (.putfield 359, 37, []) else none) else (bif Nat.blt k 38 then (bif Nat.beq k 37 then some (.return_, 38, []) else none) else (bif Nat.beq k 38 then some (.iload_n 1, 39, []) else none)))))) else (bif Nat.blt k 55 then (bif Nat.blt k 48 then (bif Nat.blt k 41 then (bif Nat.blt k 40 then (bif Nat.beq k 39 then some (.istore_n 2, 40, []) else none) else (bif Nat.beq k 40 then some (.iload_n 2, 41, []) else none)) else (bif Nat.blt k 42 then (bif Nat.beq k 41 then some (.aload_n 0, 42, []) else none) else (bif Nat.blt k 45 then (bif Nat.beq k 42 then some (.getfield 346, 45, []) else none) else (bif Nat.beq k 45 then some (.if_icmp .ge 28, 48, [73]) else none)))) else (bif Nat.blt k 50 then (bif Nat.blt k 49 then (bif Nat.beq k 48 then some (.aload_n 0, 49, []) else none) else (bif Nat.beq k 49 then some (.iload_n 1, 50, []) else none)) else (bif Nat.blt k 51 then (bif Nat.beq k 50 then some (.iload_n 2, 51, []) else none) else (bif Nat.blt k 54 then (bif Nat.beq k 51 then some (.invokevirtual 365, 54, []) else none) else (bif Nat.beq k 54 then some (.aload_n 0, 55, []) else none))))) else (bif Nat.blt k 62 then (bif Nat.blt k 57 then (bif Nat.blt k 56 then (bif Nat.beq k 55 then some (.iload_n 1, 56, []) else none) else (bif Nat.beq k 56 then some (.iconst 1, 57, []) else none)) else (bif Nat.blt k 58 then (bif Nat.beq k 57 then some (.iadd, 58, []) else none) else (bif Nat.blt k 61 then (bif Nat.beq k 58 then some (.invokevirtual 368, 61, []) else none) else (bif Nat.beq k 61 then some (.aload_n 0, 62, []) else none)))) else (bif Nat.blt k 67 then (bif Nat.blt k 63 then (bif Nat.beq k 62 then some (.iload_n 1, 63, []) else none) else (bif Nat.blt k 64 then (bif Nat.beq k 63 then some (.iload_n 2, 64, []) else none) else (bif Nat.beq k 64 then some (.invokevirtual 365, 67, []) else none))) else (bif Nat.blt k 70 then (bif Nat.beq k 67 then some (.iinc 2 1, 70, []) else none) else (bif Nat.blt k 73 then (bif Nat.beq k 70 then some (.goto (-30), 73, [40]) else none) else (bif Nat.beq k 73 then some (.return_, 74, []) else none))))))) else none
noncomputable def P_M_permute1 : MP := (T_M_permute1, (fun k => mLook k [(346, (13, 66, .int, false)), (359, (13, 68, .int, false)), (362, (13, 67, .long, false))]), (fun k => mLook k []), (fun k => mLook k [(167, E_Ma_absJ), (356, E_M_slopeUp), (365, E_M_swap), (368, E_M_permute0)]), (fun k => mLook k []), (fun k => mLook k []), (fun k => mLook k []), (fun k => mLook k [(40, [true, true, true])]), (fun k => [37, 73].any (Nat.beq k)), (2, 49, 0, 0), false, (fun _ => none))
set_option maxRecDepth 100000 in
set_option maxHeartbeats 4000000 in
theorem q_M_permute1_e (a1 : Int32) (σ : MSto) (n : Nat) : mexe KT P_M_permute1 (n + 1) (0, [some (mR 13 0), some (mI a1), none], [], σ, 0, 0) = mIf (a1 = (gI σ 13 0 66)) (mG (p_M_slopeUp σ) (mIf ((lg_cmp (v_Ma_absJ (v_M_slopeUp σ) σ) (gJ σ 13 0 67)) < 0) (some (37, [], [], (sI σ 13 0 68 ((gI σ 13 0 68) + 0)), 0, 0)) (some (37, [], [], (sI σ 13 0 68 ((gI σ 13 0 68) + 1)), 0, 0)))) (mexe KT P_M_permute1 n (40, [some (mR 13 0), some (mI a1), some (mI a1)], [], σ, 0, 0)) := rfl
set_option maxRecDepth 100000 in
set_option maxHeartbeats 4000000 in
theorem q_M_permute1_40 (x1 : Int32) (x2 : Int32) (σ : MSto) (n : Nat) : mexe KT P_M_permute1 (n + 1) (40, [some (mR 13 0), some (mI x1), some (mI x2)], [], σ, 0, 0) = mIf ((gI σ 13 0 66) ≤ x2) (some (73, [], [], σ, 0, 0)) (mG (p_M_swap x1 x2 σ) (mG (p_M_permute0 (x1 + 1) (e_M_swap x1 x2 σ)) (mG (p_M_swap x1 x2 (e_M_permute0 (x1 + 1) (e_M_swap x1 x2 σ))) (mexe KT P_M_permute1 n (40, [some (mR 13 0), some (mI x1), some (mI (x2 + 1))], [], (e_M_swap x1 x2 (e_M_permute0 (x1 + 1) (e_M_swap x1 x2 σ))), 0, 0))))) := rfl
set_option maxRecDepth 100000 in
theorem lt_M_permute1_40 {Post : MST → Prop} (x1 : Int32) (c : Int32) (s : MSto) (hp : g_M_permute1_40 x1 c s) (hq : ¬ q_M_permute1_40s x1 c s = 1) (hn : ∀ r, t_M_permute1_40 x1 c s = r → mW1 P_M_permute1 (40, [some (mR 13 0), some (mI x1), some (mI (c + 1))], [], r, 0, 0) Post) : mW1 P_M_permute1 (40, [some (mR 13 0), some (mI x1), some (mI c)], [], s, 0, 0) Post := by
  unfold g_M_permute1_40 at hp
  refine mW1_eq (q_M_permute1_40 _ _ _) ?_
  refine mTr_if (fun h0 => ?_) (fun h0 => ?_)
  · skip
    exact absurd (if_pos h0) hq
  · skip
    have hp := hp h0
    refine mTr_g hp.1 ?_
    have hp := hp.2
    refine mTr_g hp.1 ?_
    have hp := hp.2
    refine mTr_g hp ?_
    exact mTr_k (hn (e_M_swap x1 c (e_M_permute0 (x1 + 1) (e_M_swap x1 c s))) (if_neg h0))
theorem lp_M_permute1_40 {Post : MST → Prop} (x1 : Int32) (c0 : Int32) (s0 : MSto) (N : Nat) (hb : ∀ i, i < N → g_M_permute1_40 x1 (c0 + nI i) (f_M_permute1_40 x1 c0 s0 i) ∧ ¬ q_M_permute1_40s x1 (c0 + nI i) (f_M_permute1_40 x1 c0 s0 i) = 1) (h : mW1 P_M_permute1 (40, [some (mR 13 0), some (mI x1), some (mI (c0 + nI N))], [], (f_M_permute1_40 x1 c0 s0 N), 0, 0) Post) : mW1 P_M_permute1 (40, [some (mR 13 0), some (mI x1), some (mI c0)], [], s0, 0, 0) Post := by
  refine mW1_st (mW1_loop (fun i => (40, [some (mR 13 0), some (mI x1), some (mI (c0 + nI i))], [], (f_M_permute1_40 x1 c0 s0 i), 0, 0)) N (fun i hlt hn => ?_) h) (by rw [show nI 0 = 0 from rfl, Int32.add_zero] <;> rfl)
  refine lt_M_permute1_40 x1 _ _ (hb i hlt).1 (hb i hlt).2 (fun r hr => ?_)
  rw [Int32.add_assoc, nI_s]
  subst hr
  exact hn
set_option maxRecDepth 100000 in
set_option maxHeartbeats 4000000 in
theorem d_M_permute1 (a1 : Int32) (σ : MSto) (hp : p_M_permute1 a1 σ) : mW1 P_M_permute1 (0, [some (mR 13 0), some (mI a1), none], [], σ, 0, 0) (mF [37, 73] [] (e_M_permute1 a1 σ) 0 0) := by
  refine mW1_eq (q_M_permute1_e _ _) ?_
  unfold p_M_permute1 at hp
  refine mTr_if (fun h0 => ?_) (fun h0 => ?_)
  · skip
    have hp := hp.1 h0
    refine mTr_g hp ?_
    refine mTr_if (fun h1 => ?_) (fun h1 => ?_)
    · skip
      exact mTr_e (by decide) rfl (Eq.symm ((if_pos h0).trans (if_pos h1))) (by decide) (by decide)
    · skip
      exact mTr_e (by decide) rfl (Eq.symm ((if_pos h0).trans (if_neg h1))) (by decide) (by decide)
  · skip
    have hp := hp.2 h0
    refine mTr_k (lp_M_permute1_40 a1 a1 σ (n_M_permute1_40 a1 a1 σ) hp.1 ?_)
    have hp := hp.2
    refine mW1_eq (q_M_permute1_40 _ _ _) ?_
    refine mTr_if (fun h1 => ?_) (fun h1 => ?_)
    · skip
      exact mTr_e (by decide) rfl (Eq.symm (if_neg h0)) (by decide) (by decide)
    · skip
      have hp := hp h1
      exact hp.elim
theorem li_M_368_M_permute0 : mLink "ClothWithManModel" 368 E_M_permute0 := ⟨tw_7_166, tw_1_9, ⟨by decide, by decide⟩, by decide +kernel, Or.inl tw_7_163, (fun h => by cases h), (fun _ => ⟨tw_7_165, tw_0_71, TX12, 71, rfl⟩), (fun h => by cases h)⟩




theorem tk_M_permute1 : ∀ pc i nx tg, T_M_permute1 pc = some (i, nx, tg) → mOkB prog_14_method_61_code pc i nx tg = true := code_ok (N := 74) (fun k h => by unfold T_M_permute1; rw [h]; rfl) (by decide +kernel)
theorem ok_M_permute1 (l : Launch) : mPOK l "ClothWithManModel" prog_14_method_61_code P_M_permute1 := by
  refine ⟨tk_M_permute1, ?_, ?_, ?_, (fun pc i nx tg kd _ h => by cases h), ?_, ?_, fun pc en h => by cases h⟩
  · intro x ci f ty fin h
    exact mLook_all (Q := fun x v => mFOK "ClothWithManModel" x v.1 v.2.1 v.2.2.1 v.2.2.2 ∧ (v.2.2.2 = true → pIni P_M_permute1 = true → (Cond.fieldLink "ClothWithManModel" x (((mCl[v.1]?).getD ("", fun _ => ("", "", "", false), 0)).2.1 v.2.1).1 (((mCl[v.1]?).getD ("", fun _ => ("", "", "", false), 0)).2.1 v.2.1).2.1 (((mCl[v.1]?).getD ("", fun _ => ("", "", "", false), 0)).2.1 v.2.1).2.2.1 ∈ lw_tbl ∧ (((mCl[v.1]?).getD ("", fun _ => ("", "", "", false), 0)).2.1 v.2.1).1 = "ClothWithManModel"))) (fcC ⟨fo_M_346, fun h1 h2 => by cases h1⟩ (fcC ⟨fo_M_359, fun h1 h2 => by cases h1⟩ (fcC ⟨fo_M_362, fun h1 h2 => by cases h1⟩ fcN))) x (ci, f, ty, fin) h
  · intro x
    have hh := mLook_all (l := ([] : List (Nat × (Int32 ⊕ Int64)))) (Q := fun x (v : Int32 ⊕ Int64) => (∀ w, v = .inl w → Cond.constant "ClothWithManModel" x w ∈ lw_tbl) ∧ (∀ w, v = .inr w → Cond.constantLong "ClothWithManModel" x w ∈ lw_tbl)) fcN x
    exact ⟨fun w h => (hh _ h).1 w rfl, fun w h => (hh _ h).2 w rfl⟩
  · exact fun x en h => mLook_all (Q := fun x en => mLink "ClothWithManModel" x en ∧ mCtr l en ∧ (en.1.1 = 2 → en.2.2.2.2.2.2 = none)) (fcC ⟨li_M_167, c_Ma_absJ l, (fun h => by cases h)⟩ (fcC ⟨li_M_356, c_M_slopeUp l, (fun h => by cases h)⟩ (fcC ⟨li_M_365, c_M_swap l, (fun h => by cases h)⟩ (fcC ⟨li_M_368_M_permute0, c_M_permute0 l, (fun h => by cases h)⟩ fcN)))) x en h
  · exact fun x kd h => mLook_all (Q := fun x kd => (kd = 95 ∧ Cond.fieldLink "ClothWithManModel" x "ClothWithMan" "LIKENESSES" "[I" ∈ lw_tbl) ∨ (kd = 96 ∧ Cond.fieldLink "ClothWithManModel" x "ClothWithMan" "APART_BOUNDS" "[I" ∈ lw_tbl)) fcN x kd h
  · exact fun x ci h => mLook_all (Q := fun x ci => ci ≠ 0 ∧ ∃ (C : String) (T : u_T) (N : Nat), mCl[ci]? = some (C, T, N) ∧ Cond.classLink "ClothWithManModel" x C ∈ lw_tbl ∧ Cond.instantiable C N ∈ lw_tbl) fcN x ci h
set_option maxRecDepth 100000 in
theorem c_M_permute1 (l : Launch) : mCtr l E_M_permute1 := mCtr_of (P := P_M_permute1) (own := "ClothWithManModel") mLay_ok rfl (by decide +kernel) rfl (ok_M_permute1 l) (fun h => by cases h) (fun as σ pr rv σ' hF hpr hlv => by
  unfold E_M_permute1 S_M_permute1 at hF
  simp only [] at hF
  split at hF
  · cases hF
    obtain ⟨n, pcF, c1, s1, g1, g2, g3, g4⟩ := mF_inv (d_M_permute1 _ σ (hpr _ rfl))
    exact ⟨Nat.le_of_ble_eq_true rfl, (fun v h => by cases h), n, pcF, c1, s1, g1, mEnd_of (i := .return_) (P := P_M_permute1) (rets := [37, 73]) rfl g2, g3, g4⟩
  · cases hF
    exact (hpr _ rfl).elim)
/-! ClothWithManModel.permute(I)V -/
noncomputable def t_M_permute2_40 (x1 : Int32) (c : Int32) (s : MSto) : MSto := (if (gI s 13 0 66) ≤ c then s else (e_M_swap x1 c (e_M_permute1 (x1 + 1) (e_M_swap x1 c s))))
noncomputable def q_M_permute2_40s (x1 : Int32) (c : Int32) (s : MSto) : Nat := (if (gI s 13 0 66) ≤ c then 1 else 0)
def g_M_permute2_40 (x1 : Int32) (c : Int32) (s : MSto) : Prop := (¬ ((gI s 13 0 66) ≤ c) → ((p_M_swap x1 c s) ∧ ((p_M_permute1 (x1 + 1) (e_M_swap x1 c s)) ∧ (p_M_swap x1 c (e_M_permute1 (x1 + 1) (e_M_swap x1 c s))))))
noncomputable def f_M_permute2_40 (x1 : Int32) (c0 : Int32) (s0 : MSto) (n : Nat) : MSto := nfold (fun i s => t_M_permute2_40 x1 (c0 + nI i) s) s0 n
noncomputable def n_M_permute2_40 (x1 : Int32) (c0 : Int32) (s0 : MSto) : Nat := (nM s0 66 - x1.toNatClampNeg)
def p_M_permute2 (a1 : Int32) (σ : MSto) : Prop := (((a1 = (gI σ 13 0 66)) → (p_M_slopeUp σ)) ∧ (¬ (a1 = (gI σ 13 0 66)) → ((∀ i, i < (n_M_permute2_40 a1 a1 σ) → g_M_permute2_40 a1 (a1 + nI i) (f_M_permute2_40 a1 a1 σ i) ∧ ¬ q_M_permute2_40s a1 (a1 + nI i) (f_M_permute2_40 a1 a1 σ i) = 1) ∧ (¬ ((gI (f_M_permute2_40 a1 a1 σ (n_M_permute2_40 a1 a1 σ)) 13 0 66) ≤ (a1 + nI (n_M_permute2_40 a1 a1 σ))) → False))))
noncomputable def e_M_permute2 (a1 : Int32) (σ : MSto) : MSto := (if a1 = (gI σ 13 0 66) then (if (lg_cmp (v_Ma_absJ (v_M_slopeUp σ) σ) (gJ σ 13 0 67)) < 0 then (sI σ 13 0 68 ((gI σ 13 0 68) + 0)) else (sI σ 13 0 68 ((gI σ 13 0 68) + 1))) else (f_M_permute2_40 a1 a1 σ (n_M_permute2_40 a1 a1 σ)))
noncomputable def S_M_permute2 : List MV → MSto → Option Prop × Option MV × MSto := fun as σ => match as with
  | [.inr (.inr (some (13, 0))), .inl a0] => (some (p_M_permute2 a0 σ), none, e_M_permute2 a0 σ)
  | _ => (some False, none, σ)
noncomputable def E_M_permute2 : MEnt := ((1, 1, 13), (3, 71, 0, 0), S_M_permute2, ((⟨"ClothWithManModel", "permute", "(I)V"⟩ : MethodName), prog_14_method_61_code, 3, none))

def T_M_permute2 : Nat → Option (Instr × Nat × List Nat) := fun k => bif Nat.blt k 74 then (bif Nat.blt k 39 then (bif Nat.blt k 20 then (bif Nat.blt k 9 then (bif Nat.blt k 2 then (bif Nat.blt k 1 then (bif Nat.beq k 0 then some (.iload_n 1, 1, []) else none) else (bif Nat.beq k 1 then some (.aload_n 0, 2, []) else none)) else (bif Nat.blt k 5 then (bif Nat.beq k 2 then some (.getfield 346, 5, []) else none) else (bif Nat.blt k 8 then (bif Nat.beq k 5 then some (.if_icmp .ne 33, 8, [38]) else none) else (bif Nat.beq k 8 then some (.aload_n 0, 9, []) else none)))) else (bif Nat.blt k 13 then (bif Nat.blt k 10 then (bif Nat.beq k 9 then some (.dup, 10, []) else none) else (bif Nat.beq k 10 then some (.getfield 359, 13, []) else none)) else (bif Nat.blt k 14 then (bif Nat.beq k 13 then some (.aload_n 0, 14, []) else none) else (bif Nat.blt k 17 then (bif Nat.beq k 14 then some (.invokevirtual 356, 17, []) else none) else (bif Nat.beq k 17 then some (.invokestatic 167, 20, []) else none))))) else (bif Nat.blt k 29 then (bif Nat.blt k 24 then (bif Nat.blt k 21 then (bif Nat.beq k 20 then some (.aload_n 0, 21, []) else none) else (bif Nat.beq k 21 then some (.getfield 362, 24, []) else none)) else (bif Nat.blt k 25 then (bif Nat.beq k 24 then some (.lcmp, 25, []) else none) else (bif Nat.blt k 28 then (bif Nat.beq k 25 then some (.ifCond .lt 7, 28, [32]) else none) else (bif Nat.beq k 28 then some (.iconst 1, 29, []) else none)))) else (bif Nat.blt k 34 then (bif Nat.blt k 32 then (bif Nat.beq k 29 then some (.goto 4, 32, [33]) else none) else (bif Nat.blt k 33 then (bif Nat.beq k 32 then some (.iconst 0, 33, []) else none) else (bif Nat.beq k 33 then some (.iadd, 34, []) else none))) else (bif Nat.blt k 37 then (bif Nat.beq k 34 then some (.putfield 359, 37, []) else none) else (bif Nat.blt k 38 then (bif Nat.beq k 37 then some (.return_, 38, []) else none) else (bif Nat.beq k 38 then some (.iload_n 1, 39, []) else none)))))) else (bif Nat.blt k 55 then (bif Nat.blt k 48 then (bif Nat.blt k 41 then (bif Nat.blt k 40 then (bif Nat.beq k 39 then some (.istore_n 2, 40, []) else none) else (bif Nat.beq k 40 then some (.iload_n 2, 41, []) else none)) else (bif Nat.blt k 42 then (bif Nat.beq k 41 then some (.aload_n 0, 42, []) else none) else (bif Nat.blt k 45 then (bif Nat.beq k 42 then some (.getfield 346, 45, []) else none) else (bif Nat.beq k 45 then some (.if_icmp .ge 28, 48, [73]) else none)))) else (bif Nat.blt k 50 then (bif Nat.blt k 49 then (bif Nat.beq k 48 then some (.aload_n 0, 49, []) else none) else (bif Nat.beq k 49 then some (.iload_n 1, 50, []) else none)) else (bif Nat.blt k 51 then (bif Nat.beq k 50 then some (.iload_n 2, 51, []) else none) else (bif Nat.blt k 54 then (bif Nat.beq k 51 then some (.invokevirtual 365, 54, []) else none) else (bif Nat.beq k 54 then some (.aload_n 0, 55, []) else none))))) else (bif Nat.blt k 62 then (bif Nat.blt k 57 then (bif Nat.blt k 56 then (bif Nat.beq k 55 then some (.iload_n 1, 56, []) else none) else (bif Nat.beq k 56 then some (.iconst 1, 57, []) else none)) else (bif Nat.blt k 58 then (bif Nat.beq k 57 then some (.iadd, 58, []) else none) else (bif Nat.blt k 61 then (bif Nat.beq k 58 then some (.invokevirtual 368, 61, []) else none) else (bif Nat.beq k 61 then some (.aload_n 0, 62, []) else none)))) else (bif Nat.blt k 67 then (bif Nat.blt k 63 then (bif Nat.beq k 62 then some (.iload_n 1, 63, []) else none) else (bif Nat.blt k 64 then (bif Nat.beq k 63 then some (.iload_n 2, 64, []) else none) else (bif Nat.beq k 64 then some (.invokevirtual 365, 67, []) else none))) else (bif Nat.blt k 70 then (bif Nat.beq k 67 then some (.iinc 2 1, 70, []) else none) else (bif Nat.blt k 73 then (bif Nat.beq k 70 then some (.goto (-30), 73, [40]) else none) else (bif Nat.beq k 73 then some (.return_, 74, []) else none))))))) else none
noncomputable def P_M_permute2 : MP := (T_M_permute2, (fun k => mLook k [(346, (13, 66, .int, false)), (359, (13, 68, .int, false)), (362, (13, 67, .long, false))]), (fun k => mLook k []), (fun k => mLook k [(167, E_Ma_absJ), (356, E_M_slopeUp), (365, E_M_swap), (368, E_M_permute1)]), (fun k => mLook k []), (fun k => mLook k []), (fun k => mLook k []), (fun k => mLook k [(40, [true, true, true])]), (fun k => [37, 73].any (Nat.beq k)), (3, 71, 0, 0), false, (fun _ => none))
set_option maxRecDepth 100000 in
set_option maxHeartbeats 4000000 in
theorem q_M_permute2_e (a1 : Int32) (σ : MSto) (n : Nat) : mexe KT P_M_permute2 (n + 1) (0, [some (mR 13 0), some (mI a1), none], [], σ, 0, 0) = mIf (a1 = (gI σ 13 0 66)) (mG (p_M_slopeUp σ) (mIf ((lg_cmp (v_Ma_absJ (v_M_slopeUp σ) σ) (gJ σ 13 0 67)) < 0) (some (37, [], [], (sI σ 13 0 68 ((gI σ 13 0 68) + 0)), 0, 0)) (some (37, [], [], (sI σ 13 0 68 ((gI σ 13 0 68) + 1)), 0, 0)))) (mexe KT P_M_permute2 n (40, [some (mR 13 0), some (mI a1), some (mI a1)], [], σ, 0, 0)) := rfl
set_option maxRecDepth 100000 in
set_option maxHeartbeats 4000000 in
theorem q_M_permute2_40 (x1 : Int32) (x2 : Int32) (σ : MSto) (n : Nat) : mexe KT P_M_permute2 (n + 1) (40, [some (mR 13 0), some (mI x1), some (mI x2)], [], σ, 0, 0) = mIf ((gI σ 13 0 66) ≤ x2) (some (73, [], [], σ, 0, 0)) (mG (p_M_swap x1 x2 σ) (mG (p_M_permute1 (x1 + 1) (e_M_swap x1 x2 σ)) (mG (p_M_swap x1 x2 (e_M_permute1 (x1 + 1) (e_M_swap x1 x2 σ))) (mexe KT P_M_permute2 n (40, [some (mR 13 0), some (mI x1), some (mI (x2 + 1))], [], (e_M_swap x1 x2 (e_M_permute1 (x1 + 1) (e_M_swap x1 x2 σ))), 0, 0))))) := rfl
set_option maxRecDepth 100000 in
theorem lt_M_permute2_40 {Post : MST → Prop} (x1 : Int32) (c : Int32) (s : MSto) (hp : g_M_permute2_40 x1 c s) (hq : ¬ q_M_permute2_40s x1 c s = 1) (hn : ∀ r, t_M_permute2_40 x1 c s = r → mW1 P_M_permute2 (40, [some (mR 13 0), some (mI x1), some (mI (c + 1))], [], r, 0, 0) Post) : mW1 P_M_permute2 (40, [some (mR 13 0), some (mI x1), some (mI c)], [], s, 0, 0) Post := by
  unfold g_M_permute2_40 at hp
  refine mW1_eq (q_M_permute2_40 _ _ _) ?_
  refine mTr_if (fun h0 => ?_) (fun h0 => ?_)
  · skip
    exact absurd (if_pos h0) hq
  · skip
    have hp := hp h0
    refine mTr_g hp.1 ?_
    have hp := hp.2
    refine mTr_g hp.1 ?_
    have hp := hp.2
    refine mTr_g hp ?_
    exact mTr_k (hn (e_M_swap x1 c (e_M_permute1 (x1 + 1) (e_M_swap x1 c s))) (if_neg h0))
theorem lp_M_permute2_40 {Post : MST → Prop} (x1 : Int32) (c0 : Int32) (s0 : MSto) (N : Nat) (hb : ∀ i, i < N → g_M_permute2_40 x1 (c0 + nI i) (f_M_permute2_40 x1 c0 s0 i) ∧ ¬ q_M_permute2_40s x1 (c0 + nI i) (f_M_permute2_40 x1 c0 s0 i) = 1) (h : mW1 P_M_permute2 (40, [some (mR 13 0), some (mI x1), some (mI (c0 + nI N))], [], (f_M_permute2_40 x1 c0 s0 N), 0, 0) Post) : mW1 P_M_permute2 (40, [some (mR 13 0), some (mI x1), some (mI c0)], [], s0, 0, 0) Post := by
  refine mW1_st (mW1_loop (fun i => (40, [some (mR 13 0), some (mI x1), some (mI (c0 + nI i))], [], (f_M_permute2_40 x1 c0 s0 i), 0, 0)) N (fun i hlt hn => ?_) h) (by rw [show nI 0 = 0 from rfl, Int32.add_zero] <;> rfl)
  refine lt_M_permute2_40 x1 _ _ (hb i hlt).1 (hb i hlt).2 (fun r hr => ?_)
  rw [Int32.add_assoc, nI_s]
  subst hr
  exact hn
set_option maxRecDepth 100000 in
set_option maxHeartbeats 4000000 in
theorem d_M_permute2 (a1 : Int32) (σ : MSto) (hp : p_M_permute2 a1 σ) : mW1 P_M_permute2 (0, [some (mR 13 0), some (mI a1), none], [], σ, 0, 0) (mF [37, 73] [] (e_M_permute2 a1 σ) 0 0) := by
  refine mW1_eq (q_M_permute2_e _ _) ?_
  unfold p_M_permute2 at hp
  refine mTr_if (fun h0 => ?_) (fun h0 => ?_)
  · skip
    have hp := hp.1 h0
    refine mTr_g hp ?_
    refine mTr_if (fun h1 => ?_) (fun h1 => ?_)
    · skip
      exact mTr_e (by decide) rfl (Eq.symm ((if_pos h0).trans (if_pos h1))) (by decide) (by decide)
    · skip
      exact mTr_e (by decide) rfl (Eq.symm ((if_pos h0).trans (if_neg h1))) (by decide) (by decide)
  · skip
    have hp := hp.2 h0
    refine mTr_k (lp_M_permute2_40 a1 a1 σ (n_M_permute2_40 a1 a1 σ) hp.1 ?_)
    have hp := hp.2
    refine mW1_eq (q_M_permute2_40 _ _ _) ?_
    refine mTr_if (fun h1 => ?_) (fun h1 => ?_)
    · skip
      exact mTr_e (by decide) rfl (Eq.symm (if_neg h0)) (by decide) (by decide)
    · skip
      have hp := hp h1
      exact hp.elim
theorem li_M_368_M_permute1 : mLink "ClothWithManModel" 368 E_M_permute1 := ⟨tw_7_166, tw_1_9, ⟨by decide, by decide⟩, by decide +kernel, Or.inl tw_7_163, (fun h => by cases h), (fun _ => ⟨tw_7_165, tw_0_71, TX12, 71, rfl⟩), (fun h => by cases h)⟩




theorem tk_M_permute2 : ∀ pc i nx tg, T_M_permute2 pc = some (i, nx, tg) → mOkB prog_14_method_61_code pc i nx tg = true := code_ok (N := 74) (fun k h => by unfold T_M_permute2; rw [h]; rfl) (by decide +kernel)
theorem ok_M_permute2 (l : Launch) : mPOK l "ClothWithManModel" prog_14_method_61_code P_M_permute2 := by
  refine ⟨tk_M_permute2, ?_, ?_, ?_, (fun pc i nx tg kd _ h => by cases h), ?_, ?_, fun pc en h => by cases h⟩
  · intro x ci f ty fin h
    exact mLook_all (Q := fun x v => mFOK "ClothWithManModel" x v.1 v.2.1 v.2.2.1 v.2.2.2 ∧ (v.2.2.2 = true → pIni P_M_permute2 = true → (Cond.fieldLink "ClothWithManModel" x (((mCl[v.1]?).getD ("", fun _ => ("", "", "", false), 0)).2.1 v.2.1).1 (((mCl[v.1]?).getD ("", fun _ => ("", "", "", false), 0)).2.1 v.2.1).2.1 (((mCl[v.1]?).getD ("", fun _ => ("", "", "", false), 0)).2.1 v.2.1).2.2.1 ∈ lw_tbl ∧ (((mCl[v.1]?).getD ("", fun _ => ("", "", "", false), 0)).2.1 v.2.1).1 = "ClothWithManModel"))) (fcC ⟨fo_M_346, fun h1 h2 => by cases h1⟩ (fcC ⟨fo_M_359, fun h1 h2 => by cases h1⟩ (fcC ⟨fo_M_362, fun h1 h2 => by cases h1⟩ fcN))) x (ci, f, ty, fin) h
  · intro x
    have hh := mLook_all (l := ([] : List (Nat × (Int32 ⊕ Int64)))) (Q := fun x (v : Int32 ⊕ Int64) => (∀ w, v = .inl w → Cond.constant "ClothWithManModel" x w ∈ lw_tbl) ∧ (∀ w, v = .inr w → Cond.constantLong "ClothWithManModel" x w ∈ lw_tbl)) fcN x
    exact ⟨fun w h => (hh _ h).1 w rfl, fun w h => (hh _ h).2 w rfl⟩
  · exact fun x en h => mLook_all (Q := fun x en => mLink "ClothWithManModel" x en ∧ mCtr l en ∧ (en.1.1 = 2 → en.2.2.2.2.2.2 = none)) (fcC ⟨li_M_167, c_Ma_absJ l, (fun h => by cases h)⟩ (fcC ⟨li_M_356, c_M_slopeUp l, (fun h => by cases h)⟩ (fcC ⟨li_M_365, c_M_swap l, (fun h => by cases h)⟩ (fcC ⟨li_M_368_M_permute1, c_M_permute1 l, (fun h => by cases h)⟩ fcN)))) x en h
  · exact fun x kd h => mLook_all (Q := fun x kd => (kd = 95 ∧ Cond.fieldLink "ClothWithManModel" x "ClothWithMan" "LIKENESSES" "[I" ∈ lw_tbl) ∨ (kd = 96 ∧ Cond.fieldLink "ClothWithManModel" x "ClothWithMan" "APART_BOUNDS" "[I" ∈ lw_tbl)) fcN x kd h
  · exact fun x ci h => mLook_all (Q := fun x ci => ci ≠ 0 ∧ ∃ (C : String) (T : u_T) (N : Nat), mCl[ci]? = some (C, T, N) ∧ Cond.classLink "ClothWithManModel" x C ∈ lw_tbl ∧ Cond.instantiable C N ∈ lw_tbl) fcN x ci h
set_option maxRecDepth 100000 in
theorem c_M_permute2 (l : Launch) : mCtr l E_M_permute2 := mCtr_of (P := P_M_permute2) (own := "ClothWithManModel") mLay_ok rfl (by decide +kernel) rfl (ok_M_permute2 l) (fun h => by cases h) (fun as σ pr rv σ' hF hpr hlv => by
  unfold E_M_permute2 S_M_permute2 at hF
  simp only [] at hF
  split at hF
  · cases hF
    obtain ⟨n, pcF, c1, s1, g1, g2, g3, g4⟩ := mF_inv (d_M_permute2 _ σ (hpr _ rfl))
    exact ⟨Nat.le_of_ble_eq_true rfl, (fun v h => by cases h), n, pcF, c1, s1, g1, mEnd_of (i := .return_) (P := P_M_permute2) (rets := [37, 73]) rfl g2, g3, g4⟩
  · cases hF
    exact (hpr _ rfl).elim)
/-! ClothWithManModel.permute(I)V -/
noncomputable def t_M_permute3_40 (x1 : Int32) (c : Int32) (s : MSto) : MSto := (if (gI s 13 0 66) ≤ c then s else (e_M_swap x1 c (e_M_permute2 (x1 + 1) (e_M_swap x1 c s))))
noncomputable def q_M_permute3_40s (x1 : Int32) (c : Int32) (s : MSto) : Nat := (if (gI s 13 0 66) ≤ c then 1 else 0)
def g_M_permute3_40 (x1 : Int32) (c : Int32) (s : MSto) : Prop := (¬ ((gI s 13 0 66) ≤ c) → ((p_M_swap x1 c s) ∧ ((p_M_permute2 (x1 + 1) (e_M_swap x1 c s)) ∧ (p_M_swap x1 c (e_M_permute2 (x1 + 1) (e_M_swap x1 c s))))))
noncomputable def f_M_permute3_40 (x1 : Int32) (c0 : Int32) (s0 : MSto) (n : Nat) : MSto := nfold (fun i s => t_M_permute3_40 x1 (c0 + nI i) s) s0 n
noncomputable def n_M_permute3_40 (x1 : Int32) (c0 : Int32) (s0 : MSto) : Nat := (nM s0 66 - x1.toNatClampNeg)
def p_M_permute3 (a1 : Int32) (σ : MSto) : Prop := (((a1 = (gI σ 13 0 66)) → (p_M_slopeUp σ)) ∧ (¬ (a1 = (gI σ 13 0 66)) → ((∀ i, i < (n_M_permute3_40 a1 a1 σ) → g_M_permute3_40 a1 (a1 + nI i) (f_M_permute3_40 a1 a1 σ i) ∧ ¬ q_M_permute3_40s a1 (a1 + nI i) (f_M_permute3_40 a1 a1 σ i) = 1) ∧ (¬ ((gI (f_M_permute3_40 a1 a1 σ (n_M_permute3_40 a1 a1 σ)) 13 0 66) ≤ (a1 + nI (n_M_permute3_40 a1 a1 σ))) → False))))
noncomputable def e_M_permute3 (a1 : Int32) (σ : MSto) : MSto := (if a1 = (gI σ 13 0 66) then (if (lg_cmp (v_Ma_absJ (v_M_slopeUp σ) σ) (gJ σ 13 0 67)) < 0 then (sI σ 13 0 68 ((gI σ 13 0 68) + 0)) else (sI σ 13 0 68 ((gI σ 13 0 68) + 1))) else (f_M_permute3_40 a1 a1 σ (n_M_permute3_40 a1 a1 σ)))
noncomputable def S_M_permute3 : List MV → MSto → Option Prop × Option MV × MSto := fun as σ => match as with
  | [.inr (.inr (some (13, 0))), .inl a0] => (some (p_M_permute3 a0 σ), none, e_M_permute3 a0 σ)
  | _ => (some False, none, σ)
noncomputable def E_M_permute3 : MEnt := ((1, 1, 13), (4, 93, 0, 0), S_M_permute3, ((⟨"ClothWithManModel", "permute", "(I)V"⟩ : MethodName), prog_14_method_61_code, 3, none))

def T_M_permute3 : Nat → Option (Instr × Nat × List Nat) := fun k => bif Nat.blt k 74 then (bif Nat.blt k 39 then (bif Nat.blt k 20 then (bif Nat.blt k 9 then (bif Nat.blt k 2 then (bif Nat.blt k 1 then (bif Nat.beq k 0 then some (.iload_n 1, 1, []) else none) else (bif Nat.beq k 1 then some (.aload_n 0, 2, []) else none)) else (bif Nat.blt k 5 then (bif Nat.beq k 2 then some (.getfield 346, 5, []) else none) else (bif Nat.blt k 8 then (bif Nat.beq k 5 then some (.if_icmp .ne 33, 8, [38]) else none) else (bif Nat.beq k 8 then some (.aload_n 0, 9, []) else none)))) else (bif Nat.blt k 13 then (bif Nat.blt k 10 then (bif Nat.beq k 9 then some (.dup, 10, []) else none) else (bif Nat.beq k 10 then some (.getfield 359, 13, []) else none)) else (bif Nat.blt k 14 then (bif Nat.beq k 13 then some (.aload_n 0, 14, []) else none) else (bif Nat.blt k 17 then (bif Nat.beq k 14 then some (.invokevirtual 356, 17, []) else none) else (bif Nat.beq k 17 then some (.invokestatic 167, 20, []) else none))))) else (bif Nat.blt k 29 then (bif Nat.blt k 24 then (bif Nat.blt k 21 then (bif Nat.beq k 20 then some (.aload_n 0, 21, []) else none) else (bif Nat.beq k 21 then some (.getfield 362, 24, []) else none)) else (bif Nat.blt k 25 then (bif Nat.beq k 24 then some (.lcmp, 25, []) else none) else (bif Nat.blt k 28 then (bif Nat.beq k 25 then some (.ifCond .lt 7, 28, [32]) else none) else (bif Nat.beq k 28 then some (.iconst 1, 29, []) else none)))) else (bif Nat.blt k 34 then (bif Nat.blt k 32 then (bif Nat.beq k 29 then some (.goto 4, 32, [33]) else none) else (bif Nat.blt k 33 then (bif Nat.beq k 32 then some (.iconst 0, 33, []) else none) else (bif Nat.beq k 33 then some (.iadd, 34, []) else none))) else (bif Nat.blt k 37 then (bif Nat.beq k 34 then some (.putfield 359, 37, []) else none) else (bif Nat.blt k 38 then (bif Nat.beq k 37 then some (.return_, 38, []) else none) else (bif Nat.beq k 38 then some (.iload_n 1, 39, []) else none)))))) else (bif Nat.blt k 55 then (bif Nat.blt k 48 then (bif Nat.blt k 41 then (bif Nat.blt k 40 then (bif Nat.beq k 39 then some (.istore_n 2, 40, []) else none) else (bif Nat.beq k 40 then some (.iload_n 2, 41, []) else none)) else (bif Nat.blt k 42 then (bif Nat.beq k 41 then some (.aload_n 0, 42, []) else none) else (bif Nat.blt k 45 then (bif Nat.beq k 42 then some (.getfield 346, 45, []) else none) else (bif Nat.beq k 45 then some (.if_icmp .ge 28, 48, [73]) else none)))) else (bif Nat.blt k 50 then (bif Nat.blt k 49 then (bif Nat.beq k 48 then some (.aload_n 0, 49, []) else none) else (bif Nat.beq k 49 then some (.iload_n 1, 50, []) else none)) else (bif Nat.blt k 51 then (bif Nat.beq k 50 then some (.iload_n 2, 51, []) else none) else (bif Nat.blt k 54 then (bif Nat.beq k 51 then some (.invokevirtual 365, 54, []) else none) else (bif Nat.beq k 54 then some (.aload_n 0, 55, []) else none))))) else (bif Nat.blt k 62 then (bif Nat.blt k 57 then (bif Nat.blt k 56 then (bif Nat.beq k 55 then some (.iload_n 1, 56, []) else none) else (bif Nat.beq k 56 then some (.iconst 1, 57, []) else none)) else (bif Nat.blt k 58 then (bif Nat.beq k 57 then some (.iadd, 58, []) else none) else (bif Nat.blt k 61 then (bif Nat.beq k 58 then some (.invokevirtual 368, 61, []) else none) else (bif Nat.beq k 61 then some (.aload_n 0, 62, []) else none)))) else (bif Nat.blt k 67 then (bif Nat.blt k 63 then (bif Nat.beq k 62 then some (.iload_n 1, 63, []) else none) else (bif Nat.blt k 64 then (bif Nat.beq k 63 then some (.iload_n 2, 64, []) else none) else (bif Nat.beq k 64 then some (.invokevirtual 365, 67, []) else none))) else (bif Nat.blt k 70 then (bif Nat.beq k 67 then some (.iinc 2 1, 70, []) else none) else (bif Nat.blt k 73 then (bif Nat.beq k 70 then some (.goto (-30), 73, [40]) else none) else (bif Nat.beq k 73 then some (.return_, 74, []) else none))))))) else none
noncomputable def P_M_permute3 : MP := (T_M_permute3, (fun k => mLook k [(346, (13, 66, .int, false)), (359, (13, 68, .int, false)), (362, (13, 67, .long, false))]), (fun k => mLook k []), (fun k => mLook k [(167, E_Ma_absJ), (356, E_M_slopeUp), (365, E_M_swap), (368, E_M_permute2)]), (fun k => mLook k []), (fun k => mLook k []), (fun k => mLook k []), (fun k => mLook k [(40, [true, true, true])]), (fun k => [37, 73].any (Nat.beq k)), (4, 93, 0, 0), false, (fun _ => none))
set_option maxRecDepth 100000 in
set_option maxHeartbeats 4000000 in
theorem q_M_permute3_e (a1 : Int32) (σ : MSto) (n : Nat) : mexe KT P_M_permute3 (n + 1) (0, [some (mR 13 0), some (mI a1), none], [], σ, 0, 0) = mIf (a1 = (gI σ 13 0 66)) (mG (p_M_slopeUp σ) (mIf ((lg_cmp (v_Ma_absJ (v_M_slopeUp σ) σ) (gJ σ 13 0 67)) < 0) (some (37, [], [], (sI σ 13 0 68 ((gI σ 13 0 68) + 0)), 0, 0)) (some (37, [], [], (sI σ 13 0 68 ((gI σ 13 0 68) + 1)), 0, 0)))) (mexe KT P_M_permute3 n (40, [some (mR 13 0), some (mI a1), some (mI a1)], [], σ, 0, 0)) := rfl
set_option maxRecDepth 100000 in
set_option maxHeartbeats 4000000 in
theorem q_M_permute3_40 (x1 : Int32) (x2 : Int32) (σ : MSto) (n : Nat) : mexe KT P_M_permute3 (n + 1) (40, [some (mR 13 0), some (mI x1), some (mI x2)], [], σ, 0, 0) = mIf ((gI σ 13 0 66) ≤ x2) (some (73, [], [], σ, 0, 0)) (mG (p_M_swap x1 x2 σ) (mG (p_M_permute2 (x1 + 1) (e_M_swap x1 x2 σ)) (mG (p_M_swap x1 x2 (e_M_permute2 (x1 + 1) (e_M_swap x1 x2 σ))) (mexe KT P_M_permute3 n (40, [some (mR 13 0), some (mI x1), some (mI (x2 + 1))], [], (e_M_swap x1 x2 (e_M_permute2 (x1 + 1) (e_M_swap x1 x2 σ))), 0, 0))))) := rfl
set_option maxRecDepth 100000 in
theorem lt_M_permute3_40 {Post : MST → Prop} (x1 : Int32) (c : Int32) (s : MSto) (hp : g_M_permute3_40 x1 c s) (hq : ¬ q_M_permute3_40s x1 c s = 1) (hn : ∀ r, t_M_permute3_40 x1 c s = r → mW1 P_M_permute3 (40, [some (mR 13 0), some (mI x1), some (mI (c + 1))], [], r, 0, 0) Post) : mW1 P_M_permute3 (40, [some (mR 13 0), some (mI x1), some (mI c)], [], s, 0, 0) Post := by
  unfold g_M_permute3_40 at hp
  refine mW1_eq (q_M_permute3_40 _ _ _) ?_
  refine mTr_if (fun h0 => ?_) (fun h0 => ?_)
  · skip
    exact absurd (if_pos h0) hq
  · skip
    have hp := hp h0
    refine mTr_g hp.1 ?_
    have hp := hp.2
    refine mTr_g hp.1 ?_
    have hp := hp.2
    refine mTr_g hp ?_
    exact mTr_k (hn (e_M_swap x1 c (e_M_permute2 (x1 + 1) (e_M_swap x1 c s))) (if_neg h0))
theorem lp_M_permute3_40 {Post : MST → Prop} (x1 : Int32) (c0 : Int32) (s0 : MSto) (N : Nat) (hb : ∀ i, i < N → g_M_permute3_40 x1 (c0 + nI i) (f_M_permute3_40 x1 c0 s0 i) ∧ ¬ q_M_permute3_40s x1 (c0 + nI i) (f_M_permute3_40 x1 c0 s0 i) = 1) (h : mW1 P_M_permute3 (40, [some (mR 13 0), some (mI x1), some (mI (c0 + nI N))], [], (f_M_permute3_40 x1 c0 s0 N), 0, 0) Post) : mW1 P_M_permute3 (40, [some (mR 13 0), some (mI x1), some (mI c0)], [], s0, 0, 0) Post := by
  refine mW1_st (mW1_loop (fun i => (40, [some (mR 13 0), some (mI x1), some (mI (c0 + nI i))], [], (f_M_permute3_40 x1 c0 s0 i), 0, 0)) N (fun i hlt hn => ?_) h) (by rw [show nI 0 = 0 from rfl, Int32.add_zero] <;> rfl)
  refine lt_M_permute3_40 x1 _ _ (hb i hlt).1 (hb i hlt).2 (fun r hr => ?_)
  rw [Int32.add_assoc, nI_s]
  subst hr
  exact hn
set_option maxRecDepth 100000 in
set_option maxHeartbeats 4000000 in
theorem d_M_permute3 (a1 : Int32) (σ : MSto) (hp : p_M_permute3 a1 σ) : mW1 P_M_permute3 (0, [some (mR 13 0), some (mI a1), none], [], σ, 0, 0) (mF [37, 73] [] (e_M_permute3 a1 σ) 0 0) := by
  refine mW1_eq (q_M_permute3_e _ _) ?_
  unfold p_M_permute3 at hp
  refine mTr_if (fun h0 => ?_) (fun h0 => ?_)
  · skip
    have hp := hp.1 h0
    refine mTr_g hp ?_
    refine mTr_if (fun h1 => ?_) (fun h1 => ?_)
    · skip
      exact mTr_e (by decide) rfl (Eq.symm ((if_pos h0).trans (if_pos h1))) (by decide) (by decide)
    · skip
      exact mTr_e (by decide) rfl (Eq.symm ((if_pos h0).trans (if_neg h1))) (by decide) (by decide)
  · skip
    have hp := hp.2 h0
    refine mTr_k (lp_M_permute3_40 a1 a1 σ (n_M_permute3_40 a1 a1 σ) hp.1 ?_)
    have hp := hp.2
    refine mW1_eq (q_M_permute3_40 _ _ _) ?_
    refine mTr_if (fun h1 => ?_) (fun h1 => ?_)
    · skip
      exact mTr_e (by decide) rfl (Eq.symm (if_neg h0)) (by decide) (by decide)
    · skip
      have hp := hp h1
      exact hp.elim
theorem li_M_368_M_permute2 : mLink "ClothWithManModel" 368 E_M_permute2 := ⟨tw_7_166, tw_1_9, ⟨by decide, by decide⟩, by decide +kernel, Or.inl tw_7_163, (fun h => by cases h), (fun _ => ⟨tw_7_165, tw_0_71, TX12, 71, rfl⟩), (fun h => by cases h)⟩




theorem tk_M_permute3 : ∀ pc i nx tg, T_M_permute3 pc = some (i, nx, tg) → mOkB prog_14_method_61_code pc i nx tg = true := code_ok (N := 74) (fun k h => by unfold T_M_permute3; rw [h]; rfl) (by decide +kernel)
theorem ok_M_permute3 (l : Launch) : mPOK l "ClothWithManModel" prog_14_method_61_code P_M_permute3 := by
  refine ⟨tk_M_permute3, ?_, ?_, ?_, (fun pc i nx tg kd _ h => by cases h), ?_, ?_, fun pc en h => by cases h⟩
  · intro x ci f ty fin h
    exact mLook_all (Q := fun x v => mFOK "ClothWithManModel" x v.1 v.2.1 v.2.2.1 v.2.2.2 ∧ (v.2.2.2 = true → pIni P_M_permute3 = true → (Cond.fieldLink "ClothWithManModel" x (((mCl[v.1]?).getD ("", fun _ => ("", "", "", false), 0)).2.1 v.2.1).1 (((mCl[v.1]?).getD ("", fun _ => ("", "", "", false), 0)).2.1 v.2.1).2.1 (((mCl[v.1]?).getD ("", fun _ => ("", "", "", false), 0)).2.1 v.2.1).2.2.1 ∈ lw_tbl ∧ (((mCl[v.1]?).getD ("", fun _ => ("", "", "", false), 0)).2.1 v.2.1).1 = "ClothWithManModel"))) (fcC ⟨fo_M_346, fun h1 h2 => by cases h1⟩ (fcC ⟨fo_M_359, fun h1 h2 => by cases h1⟩ (fcC ⟨fo_M_362, fun h1 h2 => by cases h1⟩ fcN))) x (ci, f, ty, fin) h
  · intro x
    have hh := mLook_all (l := ([] : List (Nat × (Int32 ⊕ Int64)))) (Q := fun x (v : Int32 ⊕ Int64) => (∀ w, v = .inl w → Cond.constant "ClothWithManModel" x w ∈ lw_tbl) ∧ (∀ w, v = .inr w → Cond.constantLong "ClothWithManModel" x w ∈ lw_tbl)) fcN x
    exact ⟨fun w h => (hh _ h).1 w rfl, fun w h => (hh _ h).2 w rfl⟩
  · exact fun x en h => mLook_all (Q := fun x en => mLink "ClothWithManModel" x en ∧ mCtr l en ∧ (en.1.1 = 2 → en.2.2.2.2.2.2 = none)) (fcC ⟨li_M_167, c_Ma_absJ l, (fun h => by cases h)⟩ (fcC ⟨li_M_356, c_M_slopeUp l, (fun h => by cases h)⟩ (fcC ⟨li_M_365, c_M_swap l, (fun h => by cases h)⟩ (fcC ⟨li_M_368_M_permute2, c_M_permute2 l, (fun h => by cases h)⟩ fcN)))) x en h
  · exact fun x kd h => mLook_all (Q := fun x kd => (kd = 95 ∧ Cond.fieldLink "ClothWithManModel" x "ClothWithMan" "LIKENESSES" "[I" ∈ lw_tbl) ∨ (kd = 96 ∧ Cond.fieldLink "ClothWithManModel" x "ClothWithMan" "APART_BOUNDS" "[I" ∈ lw_tbl)) fcN x kd h
  · exact fun x ci h => mLook_all (Q := fun x ci => ci ≠ 0 ∧ ∃ (C : String) (T : u_T) (N : Nat), mCl[ci]? = some (C, T, N) ∧ Cond.classLink "ClothWithManModel" x C ∈ lw_tbl ∧ Cond.instantiable C N ∈ lw_tbl) fcN x ci h
set_option maxRecDepth 100000 in
theorem c_M_permute3 (l : Launch) : mCtr l E_M_permute3 := mCtr_of (P := P_M_permute3) (own := "ClothWithManModel") mLay_ok rfl (by decide +kernel) rfl (ok_M_permute3 l) (fun h => by cases h) (fun as σ pr rv σ' hF hpr hlv => by
  unfold E_M_permute3 S_M_permute3 at hF
  simp only [] at hF
  split at hF
  · cases hF
    obtain ⟨n, pcF, c1, s1, g1, g2, g3, g4⟩ := mF_inv (d_M_permute3 _ σ (hpr _ rfl))
    exact ⟨Nat.le_of_ble_eq_true rfl, (fun v h => by cases h), n, pcF, c1, s1, g1, mEnd_of (i := .return_) (P := P_M_permute3) (rets := [37, 73]) rfl g2, g3, g4⟩
  · cases hF
    exact (hpr _ rfl).elim)
/-! ClothWithManModel.permute(I)V -/
noncomputable def t_M_permute4_40 (x1 : Int32) (c : Int32) (s : MSto) : MSto := (if (gI s 13 0 66) ≤ c then s else (e_M_swap x1 c (e_M_permute3 (x1 + 1) (e_M_swap x1 c s))))
noncomputable def q_M_permute4_40s (x1 : Int32) (c : Int32) (s : MSto) : Nat := (if (gI s 13 0 66) ≤ c then 1 else 0)
def g_M_permute4_40 (x1 : Int32) (c : Int32) (s : MSto) : Prop := (¬ ((gI s 13 0 66) ≤ c) → ((p_M_swap x1 c s) ∧ ((p_M_permute3 (x1 + 1) (e_M_swap x1 c s)) ∧ (p_M_swap x1 c (e_M_permute3 (x1 + 1) (e_M_swap x1 c s))))))
noncomputable def f_M_permute4_40 (x1 : Int32) (c0 : Int32) (s0 : MSto) (n : Nat) : MSto := nfold (fun i s => t_M_permute4_40 x1 (c0 + nI i) s) s0 n
noncomputable def n_M_permute4_40 (x1 : Int32) (c0 : Int32) (s0 : MSto) : Nat := (nM s0 66 - x1.toNatClampNeg)
def p_M_permute4 (a1 : Int32) (σ : MSto) : Prop := (((a1 = (gI σ 13 0 66)) → (p_M_slopeUp σ)) ∧ (¬ (a1 = (gI σ 13 0 66)) → ((∀ i, i < (n_M_permute4_40 a1 a1 σ) → g_M_permute4_40 a1 (a1 + nI i) (f_M_permute4_40 a1 a1 σ i) ∧ ¬ q_M_permute4_40s a1 (a1 + nI i) (f_M_permute4_40 a1 a1 σ i) = 1) ∧ (¬ ((gI (f_M_permute4_40 a1 a1 σ (n_M_permute4_40 a1 a1 σ)) 13 0 66) ≤ (a1 + nI (n_M_permute4_40 a1 a1 σ))) → False))))
noncomputable def e_M_permute4 (a1 : Int32) (σ : MSto) : MSto := (if a1 = (gI σ 13 0 66) then (if (lg_cmp (v_Ma_absJ (v_M_slopeUp σ) σ) (gJ σ 13 0 67)) < 0 then (sI σ 13 0 68 ((gI σ 13 0 68) + 0)) else (sI σ 13 0 68 ((gI σ 13 0 68) + 1))) else (f_M_permute4_40 a1 a1 σ (n_M_permute4_40 a1 a1 σ)))
noncomputable def S_M_permute4 : List MV → MSto → Option Prop × Option MV × MSto := fun as σ => match as with
  | [.inr (.inr (some (13, 0))), .inl a0] => (some (p_M_permute4 a0 σ), none, e_M_permute4 a0 σ)
  | _ => (some False, none, σ)
noncomputable def E_M_permute4 : MEnt := ((1, 1, 13), (5, 115, 0, 0), S_M_permute4, ((⟨"ClothWithManModel", "permute", "(I)V"⟩ : MethodName), prog_14_method_61_code, 3, none))

def T_M_permute4 : Nat → Option (Instr × Nat × List Nat) := fun k => bif Nat.blt k 74 then (bif Nat.blt k 39 then (bif Nat.blt k 20 then (bif Nat.blt k 9 then (bif Nat.blt k 2 then (bif Nat.blt k 1 then (bif Nat.beq k 0 then some (.iload_n 1, 1, []) else none) else (bif Nat.beq k 1 then some (.aload_n 0, 2, []) else none)) else (bif Nat.blt k 5 then (bif Nat.beq k 2 then some (.getfield 346, 5, []) else none) else (bif Nat.blt k 8 then (bif Nat.beq k 5 then some (.if_icmp .ne 33, 8, [38]) else none) else (bif Nat.beq k 8 then some (.aload_n 0, 9, []) else none)))) else (bif Nat.blt k 13 then (bif Nat.blt k 10 then (bif Nat.beq k 9 then some (.dup, 10, []) else none) else (bif Nat.beq k 10 then some (.getfield 359, 13, []) else none)) else (bif Nat.blt k 14 then (bif Nat.beq k 13 then some (.aload_n 0, 14, []) else none) else (bif Nat.blt k 17 then (bif Nat.beq k 14 then some (.invokevirtual 356, 17, []) else none) else (bif Nat.beq k 17 then some (.invokestatic 167, 20, []) else none))))) else (bif Nat.blt k 29 then (bif Nat.blt k 24 then (bif Nat.blt k 21 then (bif Nat.beq k 20 then some (.aload_n 0, 21, []) else none) else (bif Nat.beq k 21 then some (.getfield 362, 24, []) else none)) else (bif Nat.blt k 25 then (bif Nat.beq k 24 then some (.lcmp, 25, []) else none) else (bif Nat.blt k 28 then (bif Nat.beq k 25 then some (.ifCond .lt 7, 28, [32]) else none) else (bif Nat.beq k 28 then some (.iconst 1, 29, []) else none)))) else (bif Nat.blt k 34 then (bif Nat.blt k 32 then (bif Nat.beq k 29 then some (.goto 4, 32, [33]) else none) else (bif Nat.blt k 33 then (bif Nat.beq k 32 then some (.iconst 0, 33, []) else none) else (bif Nat.beq k 33 then some (.iadd, 34, []) else none))) else (bif Nat.blt k 37 then (bif Nat.beq k 34 then some (.putfield 359, 37, []) else none) else (bif Nat.blt k 38 then (bif Nat.beq k 37 then some (.return_, 38, []) else none) else (bif Nat.beq k 38 then some (.iload_n 1, 39, []) else none)))))) else (bif Nat.blt k 55 then (bif Nat.blt k 48 then (bif Nat.blt k 41 then (bif Nat.blt k 40 then (bif Nat.beq k 39 then some (.istore_n 2, 40, []) else none) else (bif Nat.beq k 40 then some (.iload_n 2, 41, []) else none)) else (bif Nat.blt k 42 then (bif Nat.beq k 41 then some (.aload_n 0, 42, []) else none) else (bif Nat.blt k 45 then (bif Nat.beq k 42 then some (.getfield 346, 45, []) else none) else (bif Nat.beq k 45 then some (.if_icmp .ge 28, 48, [73]) else none)))) else (bif Nat.blt k 50 then (bif Nat.blt k 49 then (bif Nat.beq k 48 then some (.aload_n 0, 49, []) else none) else (bif Nat.beq k 49 then some (.iload_n 1, 50, []) else none)) else (bif Nat.blt k 51 then (bif Nat.beq k 50 then some (.iload_n 2, 51, []) else none) else (bif Nat.blt k 54 then (bif Nat.beq k 51 then some (.invokevirtual 365, 54, []) else none) else (bif Nat.beq k 54 then some (.aload_n 0, 55, []) else none))))) else (bif Nat.blt k 62 then (bif Nat.blt k 57 then (bif Nat.blt k 56 then (bif Nat.beq k 55 then some (.iload_n 1, 56, []) else none) else (bif Nat.beq k 56 then some (.iconst 1, 57, []) else none)) else (bif Nat.blt k 58 then (bif Nat.beq k 57 then some (.iadd, 58, []) else none) else (bif Nat.blt k 61 then (bif Nat.beq k 58 then some (.invokevirtual 368, 61, []) else none) else (bif Nat.beq k 61 then some (.aload_n 0, 62, []) else none)))) else (bif Nat.blt k 67 then (bif Nat.blt k 63 then (bif Nat.beq k 62 then some (.iload_n 1, 63, []) else none) else (bif Nat.blt k 64 then (bif Nat.beq k 63 then some (.iload_n 2, 64, []) else none) else (bif Nat.beq k 64 then some (.invokevirtual 365, 67, []) else none))) else (bif Nat.blt k 70 then (bif Nat.beq k 67 then some (.iinc 2 1, 70, []) else none) else (bif Nat.blt k 73 then (bif Nat.beq k 70 then some (.goto (-30), 73, [40]) else none) else (bif Nat.beq k 73 then some (.return_, 74, []) else none))))))) else none
noncomputable def P_M_permute4 : MP := (T_M_permute4, (fun k => mLook k [(346, (13, 66, .int, false)), (359, (13, 68, .int, false)), (362, (13, 67, .long, false))]), (fun k => mLook k []), (fun k => mLook k [(167, E_Ma_absJ), (356, E_M_slopeUp), (365, E_M_swap), (368, E_M_permute3)]), (fun k => mLook k []), (fun k => mLook k []), (fun k => mLook k []), (fun k => mLook k [(40, [true, true, true])]), (fun k => [37, 73].any (Nat.beq k)), (5, 115, 0, 0), false, (fun _ => none))
set_option maxRecDepth 100000 in
set_option maxHeartbeats 4000000 in
theorem q_M_permute4_e (a1 : Int32) (σ : MSto) (n : Nat) : mexe KT P_M_permute4 (n + 1) (0, [some (mR 13 0), some (mI a1), none], [], σ, 0, 0) = mIf (a1 = (gI σ 13 0 66)) (mG (p_M_slopeUp σ) (mIf ((lg_cmp (v_Ma_absJ (v_M_slopeUp σ) σ) (gJ σ 13 0 67)) < 0) (some (37, [], [], (sI σ 13 0 68 ((gI σ 13 0 68) + 0)), 0, 0)) (some (37, [], [], (sI σ 13 0 68 ((gI σ 13 0 68) + 1)), 0, 0)))) (mexe KT P_M_permute4 n (40, [some (mR 13 0), some (mI a1), some (mI a1)], [], σ, 0, 0)) := rfl
set_option maxRecDepth 100000 in
set_option maxHeartbeats 4000000 in
theorem q_M_permute4_40 (x1 : Int32) (x2 : Int32) (σ : MSto) (n : Nat) : mexe KT P_M_permute4 (n + 1) (40, [some (mR 13 0), some (mI x1), some (mI x2)], [], σ, 0, 0) = mIf ((gI σ 13 0 66) ≤ x2) (some (73, [], [], σ, 0, 0)) (mG (p_M_swap x1 x2 σ) (mG (p_M_permute3 (x1 + 1) (e_M_swap x1 x2 σ)) (mG (p_M_swap x1 x2 (e_M_permute3 (x1 + 1) (e_M_swap x1 x2 σ))) (mexe KT P_M_permute4 n (40, [some (mR 13 0), some (mI x1), some (mI (x2 + 1))], [], (e_M_swap x1 x2 (e_M_permute3 (x1 + 1) (e_M_swap x1 x2 σ))), 0, 0))))) := rfl
set_option maxRecDepth 100000 in
theorem lt_M_permute4_40 {Post : MST → Prop} (x1 : Int32) (c : Int32) (s : MSto) (hp : g_M_permute4_40 x1 c s) (hq : ¬ q_M_permute4_40s x1 c s = 1) (hn : ∀ r, t_M_permute4_40 x1 c s = r → mW1 P_M_permute4 (40, [some (mR 13 0), some (mI x1), some (mI (c + 1))], [], r, 0, 0) Post) : mW1 P_M_permute4 (40, [some (mR 13 0), some (mI x1), some (mI c)], [], s, 0, 0) Post := by
  unfold g_M_permute4_40 at hp
  refine mW1_eq (q_M_permute4_40 _ _ _) ?_
  refine mTr_if (fun h0 => ?_) (fun h0 => ?_)
  · skip
    exact absurd (if_pos h0) hq
  · skip
    have hp := hp h0
    refine mTr_g hp.1 ?_
    have hp := hp.2
    refine mTr_g hp.1 ?_
    have hp := hp.2
    refine mTr_g hp ?_
    exact mTr_k (hn (e_M_swap x1 c (e_M_permute3 (x1 + 1) (e_M_swap x1 c s))) (if_neg h0))
theorem lp_M_permute4_40 {Post : MST → Prop} (x1 : Int32) (c0 : Int32) (s0 : MSto) (N : Nat) (hb : ∀ i, i < N → g_M_permute4_40 x1 (c0 + nI i) (f_M_permute4_40 x1 c0 s0 i) ∧ ¬ q_M_permute4_40s x1 (c0 + nI i) (f_M_permute4_40 x1 c0 s0 i) = 1) (h : mW1 P_M_permute4 (40, [some (mR 13 0), some (mI x1), some (mI (c0 + nI N))], [], (f_M_permute4_40 x1 c0 s0 N), 0, 0) Post) : mW1 P_M_permute4 (40, [some (mR 13 0), some (mI x1), some (mI c0)], [], s0, 0, 0) Post := by
  refine mW1_st (mW1_loop (fun i => (40, [some (mR 13 0), some (mI x1), some (mI (c0 + nI i))], [], (f_M_permute4_40 x1 c0 s0 i), 0, 0)) N (fun i hlt hn => ?_) h) (by rw [show nI 0 = 0 from rfl, Int32.add_zero] <;> rfl)
  refine lt_M_permute4_40 x1 _ _ (hb i hlt).1 (hb i hlt).2 (fun r hr => ?_)
  rw [Int32.add_assoc, nI_s]
  subst hr
  exact hn
set_option maxRecDepth 100000 in
set_option maxHeartbeats 4000000 in
theorem d_M_permute4 (a1 : Int32) (σ : MSto) (hp : p_M_permute4 a1 σ) : mW1 P_M_permute4 (0, [some (mR 13 0), some (mI a1), none], [], σ, 0, 0) (mF [37, 73] [] (e_M_permute4 a1 σ) 0 0) := by
  refine mW1_eq (q_M_permute4_e _ _) ?_
  unfold p_M_permute4 at hp
  refine mTr_if (fun h0 => ?_) (fun h0 => ?_)
  · skip
    have hp := hp.1 h0
    refine mTr_g hp ?_
    refine mTr_if (fun h1 => ?_) (fun h1 => ?_)
    · skip
      exact mTr_e (by decide) rfl (Eq.symm ((if_pos h0).trans (if_pos h1))) (by decide) (by decide)
    · skip
      exact mTr_e (by decide) rfl (Eq.symm ((if_pos h0).trans (if_neg h1))) (by decide) (by decide)
  · skip
    have hp := hp.2 h0
    refine mTr_k (lp_M_permute4_40 a1 a1 σ (n_M_permute4_40 a1 a1 σ) hp.1 ?_)
    have hp := hp.2
    refine mW1_eq (q_M_permute4_40 _ _ _) ?_
    refine mTr_if (fun h1 => ?_) (fun h1 => ?_)
    · skip
      exact mTr_e (by decide) rfl (Eq.symm (if_neg h0)) (by decide) (by decide)
    · skip
      have hp := hp h1
      exact hp.elim
theorem li_M_368_M_permute3 : mLink "ClothWithManModel" 368 E_M_permute3 := ⟨tw_7_166, tw_1_9, ⟨by decide, by decide⟩, by decide +kernel, Or.inl tw_7_163, (fun h => by cases h), (fun _ => ⟨tw_7_165, tw_0_71, TX12, 71, rfl⟩), (fun h => by cases h)⟩




theorem tk_M_permute4 : ∀ pc i nx tg, T_M_permute4 pc = some (i, nx, tg) → mOkB prog_14_method_61_code pc i nx tg = true := code_ok (N := 74) (fun k h => by unfold T_M_permute4; rw [h]; rfl) (by decide +kernel)
theorem ok_M_permute4 (l : Launch) : mPOK l "ClothWithManModel" prog_14_method_61_code P_M_permute4 := by
  refine ⟨tk_M_permute4, ?_, ?_, ?_, (fun pc i nx tg kd _ h => by cases h), ?_, ?_, fun pc en h => by cases h⟩
  · intro x ci f ty fin h
    exact mLook_all (Q := fun x v => mFOK "ClothWithManModel" x v.1 v.2.1 v.2.2.1 v.2.2.2 ∧ (v.2.2.2 = true → pIni P_M_permute4 = true → (Cond.fieldLink "ClothWithManModel" x (((mCl[v.1]?).getD ("", fun _ => ("", "", "", false), 0)).2.1 v.2.1).1 (((mCl[v.1]?).getD ("", fun _ => ("", "", "", false), 0)).2.1 v.2.1).2.1 (((mCl[v.1]?).getD ("", fun _ => ("", "", "", false), 0)).2.1 v.2.1).2.2.1 ∈ lw_tbl ∧ (((mCl[v.1]?).getD ("", fun _ => ("", "", "", false), 0)).2.1 v.2.1).1 = "ClothWithManModel"))) (fcC ⟨fo_M_346, fun h1 h2 => by cases h1⟩ (fcC ⟨fo_M_359, fun h1 h2 => by cases h1⟩ (fcC ⟨fo_M_362, fun h1 h2 => by cases h1⟩ fcN))) x (ci, f, ty, fin) h
  · intro x
    have hh := mLook_all (l := ([] : List (Nat × (Int32 ⊕ Int64)))) (Q := fun x (v : Int32 ⊕ Int64) => (∀ w, v = .inl w → Cond.constant "ClothWithManModel" x w ∈ lw_tbl) ∧ (∀ w, v = .inr w → Cond.constantLong "ClothWithManModel" x w ∈ lw_tbl)) fcN x
    exact ⟨fun w h => (hh _ h).1 w rfl, fun w h => (hh _ h).2 w rfl⟩
  · exact fun x en h => mLook_all (Q := fun x en => mLink "ClothWithManModel" x en ∧ mCtr l en ∧ (en.1.1 = 2 → en.2.2.2.2.2.2 = none)) (fcC ⟨li_M_167, c_Ma_absJ l, (fun h => by cases h)⟩ (fcC ⟨li_M_356, c_M_slopeUp l, (fun h => by cases h)⟩ (fcC ⟨li_M_365, c_M_swap l, (fun h => by cases h)⟩ (fcC ⟨li_M_368_M_permute3, c_M_permute3 l, (fun h => by cases h)⟩ fcN)))) x en h
  · exact fun x kd h => mLook_all (Q := fun x kd => (kd = 95 ∧ Cond.fieldLink "ClothWithManModel" x "ClothWithMan" "LIKENESSES" "[I" ∈ lw_tbl) ∨ (kd = 96 ∧ Cond.fieldLink "ClothWithManModel" x "ClothWithMan" "APART_BOUNDS" "[I" ∈ lw_tbl)) fcN x kd h
  · exact fun x ci h => mLook_all (Q := fun x ci => ci ≠ 0 ∧ ∃ (C : String) (T : u_T) (N : Nat), mCl[ci]? = some (C, T, N) ∧ Cond.classLink "ClothWithManModel" x C ∈ lw_tbl ∧ Cond.instantiable C N ∈ lw_tbl) fcN x ci h
set_option maxRecDepth 100000 in
theorem c_M_permute4 (l : Launch) : mCtr l E_M_permute4 := mCtr_of (P := P_M_permute4) (own := "ClothWithManModel") mLay_ok rfl (by decide +kernel) rfl (ok_M_permute4 l) (fun h => by cases h) (fun as σ pr rv σ' hF hpr hlv => by
  unfold E_M_permute4 S_M_permute4 at hF
  simp only [] at hF
  split at hF
  · cases hF
    obtain ⟨n, pcF, c1, s1, g1, g2, g3, g4⟩ := mF_inv (d_M_permute4 _ σ (hpr _ rfl))
    exact ⟨Nat.le_of_ble_eq_true rfl, (fun v h => by cases h), n, pcF, c1, s1, g1, mEnd_of (i := .return_) (P := P_M_permute4) (rets := [37, 73]) rfl g2, g3, g4⟩
  · cases hF
    exact (hpr _ rfl).elim)
/-! ClothWithManModel.permute(I)V -/
noncomputable def t_M_permute5_40 (x1 : Int32) (c : Int32) (s : MSto) : MSto := (if (gI s 13 0 66) ≤ c then s else (e_M_swap x1 c (e_M_permute4 (x1 + 1) (e_M_swap x1 c s))))
noncomputable def q_M_permute5_40s (x1 : Int32) (c : Int32) (s : MSto) : Nat := (if (gI s 13 0 66) ≤ c then 1 else 0)
def g_M_permute5_40 (x1 : Int32) (c : Int32) (s : MSto) : Prop := (¬ ((gI s 13 0 66) ≤ c) → ((p_M_swap x1 c s) ∧ ((p_M_permute4 (x1 + 1) (e_M_swap x1 c s)) ∧ (p_M_swap x1 c (e_M_permute4 (x1 + 1) (e_M_swap x1 c s))))))
noncomputable def f_M_permute5_40 (x1 : Int32) (c0 : Int32) (s0 : MSto) (n : Nat) : MSto := nfold (fun i s => t_M_permute5_40 x1 (c0 + nI i) s) s0 n
noncomputable def n_M_permute5_40 (x1 : Int32) (c0 : Int32) (s0 : MSto) : Nat := (nM s0 66 - x1.toNatClampNeg)
def p_M_permute5 (a1 : Int32) (σ : MSto) : Prop := (((a1 = (gI σ 13 0 66)) → (p_M_slopeUp σ)) ∧ (¬ (a1 = (gI σ 13 0 66)) → ((∀ i, i < (n_M_permute5_40 a1 a1 σ) → g_M_permute5_40 a1 (a1 + nI i) (f_M_permute5_40 a1 a1 σ i) ∧ ¬ q_M_permute5_40s a1 (a1 + nI i) (f_M_permute5_40 a1 a1 σ i) = 1) ∧ (¬ ((gI (f_M_permute5_40 a1 a1 σ (n_M_permute5_40 a1 a1 σ)) 13 0 66) ≤ (a1 + nI (n_M_permute5_40 a1 a1 σ))) → False))))
noncomputable def e_M_permute5 (a1 : Int32) (σ : MSto) : MSto := (if a1 = (gI σ 13 0 66) then (if (lg_cmp (v_Ma_absJ (v_M_slopeUp σ) σ) (gJ σ 13 0 67)) < 0 then (sI σ 13 0 68 ((gI σ 13 0 68) + 0)) else (sI σ 13 0 68 ((gI σ 13 0 68) + 1))) else (f_M_permute5_40 a1 a1 σ (n_M_permute5_40 a1 a1 σ)))
noncomputable def S_M_permute5 : List MV → MSto → Option Prop × Option MV × MSto := fun as σ => match as with
  | [.inr (.inr (some (13, 0))), .inl a0] => (some (p_M_permute5 a0 σ), none, e_M_permute5 a0 σ)
  | _ => (some False, none, σ)
noncomputable def E_M_permute5 : MEnt := ((1, 1, 13), (6, 137, 0, 0), S_M_permute5, ((⟨"ClothWithManModel", "permute", "(I)V"⟩ : MethodName), prog_14_method_61_code, 3, none))

def T_M_permute5 : Nat → Option (Instr × Nat × List Nat) := fun k => bif Nat.blt k 74 then (bif Nat.blt k 39 then (bif Nat.blt k 20 then (bif Nat.blt k 9 then (bif Nat.blt k 2 then (bif Nat.blt k 1 then (bif Nat.beq k 0 then some (.iload_n 1, 1, []) else none) else (bif Nat.beq k 1 then some (.aload_n 0, 2, []) else none)) else (bif Nat.blt k 5 then (bif Nat.beq k 2 then some (.getfield 346, 5, []) else none) else (bif Nat.blt k 8 then (bif Nat.beq k 5 then some (.if_icmp .ne 33, 8, [38]) else none) else (bif Nat.beq k 8 then some (.aload_n 0, 9, []) else none)))) else (bif Nat.blt k 13 then (bif Nat.blt k 10 then (bif Nat.beq k 9 then some (.dup, 10, []) else none) else (bif Nat.beq k 10 then some (.getfield 359, 13, []) else none)) else (bif Nat.blt k 14 then (bif Nat.beq k 13 then some (.aload_n 0, 14, []) else none) else (bif Nat.blt k 17 then (bif Nat.beq k 14 then some (.invokevirtual 356, 17, []) else none) else (bif Nat.beq k 17 then some (.invokestatic 167, 20, []) else none))))) else (bif Nat.blt k 29 then (bif Nat.blt k 24 then (bif Nat.blt k 21 then (bif Nat.beq k 20 then some (.aload_n 0, 21, []) else none) else (bif Nat.beq k 21 then some (.getfield 362, 24, []) else none)) else (bif Nat.blt k 25 then (bif Nat.beq k 24 then some (.lcmp, 25, []) else none) else (bif Nat.blt k 28 then (bif Nat.beq k 25 then some (.ifCond .lt 7, 28, [32]) else none) else (bif Nat.beq k 28 then some (.iconst 1, 29, []) else none)))) else (bif Nat.blt k 34 then (bif Nat.blt k 32 then (bif Nat.beq k 29 then some (.goto 4, 32, [33]) else none) else (bif Nat.blt k 33 then (bif Nat.beq k 32 then some (.iconst 0, 33, []) else none) else (bif Nat.beq k 33 then some (.iadd, 34, []) else none))) else (bif Nat.blt k 37 then (bif Nat.beq k 34 then some (.putfield 359, 37, []) else none) else (bif Nat.blt k 38 then (bif Nat.beq k 37 then some (.return_, 38, []) else none) else (bif Nat.beq k 38 then some (.iload_n 1, 39, []) else none)))))) else (bif Nat.blt k 55 then (bif Nat.blt k 48 then (bif Nat.blt k 41 then (bif Nat.blt k 40 then (bif Nat.beq k 39 then some (.istore_n 2, 40, []) else none) else (bif Nat.beq k 40 then some (.iload_n 2, 41, []) else none)) else (bif Nat.blt k 42 then (bif Nat.beq k 41 then some (.aload_n 0, 42, []) else none) else (bif Nat.blt k 45 then (bif Nat.beq k 42 then some (.getfield 346, 45, []) else none) else (bif Nat.beq k 45 then some (.if_icmp .ge 28, 48, [73]) else none)))) else (bif Nat.blt k 50 then (bif Nat.blt k 49 then (bif Nat.beq k 48 then some (.aload_n 0, 49, []) else none) else (bif Nat.beq k 49 then some (.iload_n 1, 50, []) else none)) else (bif Nat.blt k 51 then (bif Nat.beq k 50 then some (.iload_n 2, 51, []) else none) else (bif Nat.blt k 54 then (bif Nat.beq k 51 then some (.invokevirtual 365, 54, []) else none) else (bif Nat.beq k 54 then some (.aload_n 0, 55, []) else none))))) else (bif Nat.blt k 62 then (bif Nat.blt k 57 then (bif Nat.blt k 56 then (bif Nat.beq k 55 then some (.iload_n 1, 56, []) else none) else (bif Nat.beq k 56 then some (.iconst 1, 57, []) else none)) else (bif Nat.blt k 58 then (bif Nat.beq k 57 then some (.iadd, 58, []) else none) else (bif Nat.blt k 61 then (bif Nat.beq k 58 then some (.invokevirtual 368, 61, []) else none) else (bif Nat.beq k 61 then some (.aload_n 0, 62, []) else none)))) else (bif Nat.blt k 67 then (bif Nat.blt k 63 then (bif Nat.beq k 62 then some (.iload_n 1, 63, []) else none) else (bif Nat.blt k 64 then (bif Nat.beq k 63 then some (.iload_n 2, 64, []) else none) else (bif Nat.beq k 64 then some (.invokevirtual 365, 67, []) else none))) else (bif Nat.blt k 70 then (bif Nat.beq k 67 then some (.iinc 2 1, 70, []) else none) else (bif Nat.blt k 73 then (bif Nat.beq k 70 then some (.goto (-30), 73, [40]) else none) else (bif Nat.beq k 73 then some (.return_, 74, []) else none))))))) else none
noncomputable def P_M_permute5 : MP := (T_M_permute5, (fun k => mLook k [(346, (13, 66, .int, false)), (359, (13, 68, .int, false)), (362, (13, 67, .long, false))]), (fun k => mLook k []), (fun k => mLook k [(167, E_Ma_absJ), (356, E_M_slopeUp), (365, E_M_swap), (368, E_M_permute4)]), (fun k => mLook k []), (fun k => mLook k []), (fun k => mLook k []), (fun k => mLook k [(40, [true, true, true])]), (fun k => [37, 73].any (Nat.beq k)), (6, 137, 0, 0), false, (fun _ => none))
set_option maxRecDepth 100000 in
set_option maxHeartbeats 4000000 in
theorem q_M_permute5_e (a1 : Int32) (σ : MSto) (n : Nat) : mexe KT P_M_permute5 (n + 1) (0, [some (mR 13 0), some (mI a1), none], [], σ, 0, 0) = mIf (a1 = (gI σ 13 0 66)) (mG (p_M_slopeUp σ) (mIf ((lg_cmp (v_Ma_absJ (v_M_slopeUp σ) σ) (gJ σ 13 0 67)) < 0) (some (37, [], [], (sI σ 13 0 68 ((gI σ 13 0 68) + 0)), 0, 0)) (some (37, [], [], (sI σ 13 0 68 ((gI σ 13 0 68) + 1)), 0, 0)))) (mexe KT P_M_permute5 n (40, [some (mR 13 0), some (mI a1), some (mI a1)], [], σ, 0, 0)) := rfl
set_option maxRecDepth 100000 in
set_option maxHeartbeats 4000000 in
theorem q_M_permute5_40 (x1 : Int32) (x2 : Int32) (σ : MSto) (n : Nat) : mexe KT P_M_permute5 (n + 1) (40, [some (mR 13 0), some (mI x1), some (mI x2)], [], σ, 0, 0) = mIf ((gI σ 13 0 66) ≤ x2) (some (73, [], [], σ, 0, 0)) (mG (p_M_swap x1 x2 σ) (mG (p_M_permute4 (x1 + 1) (e_M_swap x1 x2 σ)) (mG (p_M_swap x1 x2 (e_M_permute4 (x1 + 1) (e_M_swap x1 x2 σ))) (mexe KT P_M_permute5 n (40, [some (mR 13 0), some (mI x1), some (mI (x2 + 1))], [], (e_M_swap x1 x2 (e_M_permute4 (x1 + 1) (e_M_swap x1 x2 σ))), 0, 0))))) := rfl
set_option maxRecDepth 100000 in
theorem lt_M_permute5_40 {Post : MST → Prop} (x1 : Int32) (c : Int32) (s : MSto) (hp : g_M_permute5_40 x1 c s) (hq : ¬ q_M_permute5_40s x1 c s = 1) (hn : ∀ r, t_M_permute5_40 x1 c s = r → mW1 P_M_permute5 (40, [some (mR 13 0), some (mI x1), some (mI (c + 1))], [], r, 0, 0) Post) : mW1 P_M_permute5 (40, [some (mR 13 0), some (mI x1), some (mI c)], [], s, 0, 0) Post := by
  unfold g_M_permute5_40 at hp
  refine mW1_eq (q_M_permute5_40 _ _ _) ?_
  refine mTr_if (fun h0 => ?_) (fun h0 => ?_)
  · skip
    exact absurd (if_pos h0) hq
  · skip
    have hp := hp h0
    refine mTr_g hp.1 ?_
    have hp := hp.2
    refine mTr_g hp.1 ?_
    have hp := hp.2
    refine mTr_g hp ?_
    exact mTr_k (hn (e_M_swap x1 c (e_M_permute4 (x1 + 1) (e_M_swap x1 c s))) (if_neg h0))
theorem lp_M_permute5_40 {Post : MST → Prop} (x1 : Int32) (c0 : Int32) (s0 : MSto) (N : Nat) (hb : ∀ i, i < N → g_M_permute5_40 x1 (c0 + nI i) (f_M_permute5_40 x1 c0 s0 i) ∧ ¬ q_M_permute5_40s x1 (c0 + nI i) (f_M_permute5_40 x1 c0 s0 i) = 1) (h : mW1 P_M_permute5 (40, [some (mR 13 0), some (mI x1), some (mI (c0 + nI N))], [], (f_M_permute5_40 x1 c0 s0 N), 0, 0) Post) : mW1 P_M_permute5 (40, [some (mR 13 0), some (mI x1), some (mI c0)], [], s0, 0, 0) Post := by
  refine mW1_st (mW1_loop (fun i => (40, [some (mR 13 0), some (mI x1), some (mI (c0 + nI i))], [], (f_M_permute5_40 x1 c0 s0 i), 0, 0)) N (fun i hlt hn => ?_) h) (by rw [show nI 0 = 0 from rfl, Int32.add_zero] <;> rfl)
  refine lt_M_permute5_40 x1 _ _ (hb i hlt).1 (hb i hlt).2 (fun r hr => ?_)
  rw [Int32.add_assoc, nI_s]
  subst hr
  exact hn
set_option maxRecDepth 100000 in
set_option maxHeartbeats 4000000 in
theorem d_M_permute5 (a1 : Int32) (σ : MSto) (hp : p_M_permute5 a1 σ) : mW1 P_M_permute5 (0, [some (mR 13 0), some (mI a1), none], [], σ, 0, 0) (mF [37, 73] [] (e_M_permute5 a1 σ) 0 0) := by
  refine mW1_eq (q_M_permute5_e _ _) ?_
  unfold p_M_permute5 at hp
  refine mTr_if (fun h0 => ?_) (fun h0 => ?_)
  · skip
    have hp := hp.1 h0
    refine mTr_g hp ?_
    refine mTr_if (fun h1 => ?_) (fun h1 => ?_)
    · skip
      exact mTr_e (by decide) rfl (Eq.symm ((if_pos h0).trans (if_pos h1))) (by decide) (by decide)
    · skip
      exact mTr_e (by decide) rfl (Eq.symm ((if_pos h0).trans (if_neg h1))) (by decide) (by decide)
  · skip
    have hp := hp.2 h0
    refine mTr_k (lp_M_permute5_40 a1 a1 σ (n_M_permute5_40 a1 a1 σ) hp.1 ?_)
    have hp := hp.2
    refine mW1_eq (q_M_permute5_40 _ _ _) ?_
    refine mTr_if (fun h1 => ?_) (fun h1 => ?_)
    · skip
      exact mTr_e (by decide) rfl (Eq.symm (if_neg h0)) (by decide) (by decide)
    · skip
      have hp := hp h1
      exact hp.elim
theorem li_M_368_M_permute4 : mLink "ClothWithManModel" 368 E_M_permute4 := ⟨tw_7_166, tw_1_9, ⟨by decide, by decide⟩, by decide +kernel, Or.inl tw_7_163, (fun h => by cases h), (fun _ => ⟨tw_7_165, tw_0_71, TX12, 71, rfl⟩), (fun h => by cases h)⟩




theorem tk_M_permute5 : ∀ pc i nx tg, T_M_permute5 pc = some (i, nx, tg) → mOkB prog_14_method_61_code pc i nx tg = true := code_ok (N := 74) (fun k h => by unfold T_M_permute5; rw [h]; rfl) (by decide +kernel)
theorem ok_M_permute5 (l : Launch) : mPOK l "ClothWithManModel" prog_14_method_61_code P_M_permute5 := by
  refine ⟨tk_M_permute5, ?_, ?_, ?_, (fun pc i nx tg kd _ h => by cases h), ?_, ?_, fun pc en h => by cases h⟩
  · intro x ci f ty fin h
    exact mLook_all (Q := fun x v => mFOK "ClothWithManModel" x v.1 v.2.1 v.2.2.1 v.2.2.2 ∧ (v.2.2.2 = true → pIni P_M_permute5 = true → (Cond.fieldLink "ClothWithManModel" x (((mCl[v.1]?).getD ("", fun _ => ("", "", "", false), 0)).2.1 v.2.1).1 (((mCl[v.1]?).getD ("", fun _ => ("", "", "", false), 0)).2.1 v.2.1).2.1 (((mCl[v.1]?).getD ("", fun _ => ("", "", "", false), 0)).2.1 v.2.1).2.2.1 ∈ lw_tbl ∧ (((mCl[v.1]?).getD ("", fun _ => ("", "", "", false), 0)).2.1 v.2.1).1 = "ClothWithManModel"))) (fcC ⟨fo_M_346, fun h1 h2 => by cases h1⟩ (fcC ⟨fo_M_359, fun h1 h2 => by cases h1⟩ (fcC ⟨fo_M_362, fun h1 h2 => by cases h1⟩ fcN))) x (ci, f, ty, fin) h
  · intro x
    have hh := mLook_all (l := ([] : List (Nat × (Int32 ⊕ Int64)))) (Q := fun x (v : Int32 ⊕ Int64) => (∀ w, v = .inl w → Cond.constant "ClothWithManModel" x w ∈ lw_tbl) ∧ (∀ w, v = .inr w → Cond.constantLong "ClothWithManModel" x w ∈ lw_tbl)) fcN x
    exact ⟨fun w h => (hh _ h).1 w rfl, fun w h => (hh _ h).2 w rfl⟩
  · exact fun x en h => mLook_all (Q := fun x en => mLink "ClothWithManModel" x en ∧ mCtr l en ∧ (en.1.1 = 2 → en.2.2.2.2.2.2 = none)) (fcC ⟨li_M_167, c_Ma_absJ l, (fun h => by cases h)⟩ (fcC ⟨li_M_356, c_M_slopeUp l, (fun h => by cases h)⟩ (fcC ⟨li_M_365, c_M_swap l, (fun h => by cases h)⟩ (fcC ⟨li_M_368_M_permute4, c_M_permute4 l, (fun h => by cases h)⟩ fcN)))) x en h
  · exact fun x kd h => mLook_all (Q := fun x kd => (kd = 95 ∧ Cond.fieldLink "ClothWithManModel" x "ClothWithMan" "LIKENESSES" "[I" ∈ lw_tbl) ∨ (kd = 96 ∧ Cond.fieldLink "ClothWithManModel" x "ClothWithMan" "APART_BOUNDS" "[I" ∈ lw_tbl)) fcN x kd h
  · exact fun x ci h => mLook_all (Q := fun x ci => ci ≠ 0 ∧ ∃ (C : String) (T : u_T) (N : Nat), mCl[ci]? = some (C, T, N) ∧ Cond.classLink "ClothWithManModel" x C ∈ lw_tbl ∧ Cond.instantiable C N ∈ lw_tbl) fcN x ci h
set_option maxRecDepth 100000 in
theorem c_M_permute5 (l : Launch) : mCtr l E_M_permute5 := mCtr_of (P := P_M_permute5) (own := "ClothWithManModel") mLay_ok rfl (by decide +kernel) rfl (ok_M_permute5 l) (fun h => by cases h) (fun as σ pr rv σ' hF hpr hlv => by
  unfold E_M_permute5 S_M_permute5 at hF
  simp only [] at hF
  split at hF
  · cases hF
    obtain ⟨n, pcF, c1, s1, g1, g2, g3, g4⟩ := mF_inv (d_M_permute5 _ σ (hpr _ rfl))
    exact ⟨Nat.le_of_ble_eq_true rfl, (fun v h => by cases h), n, pcF, c1, s1, g1, mEnd_of (i := .return_) (P := P_M_permute5) (rets := [37, 73]) rfl g2, g3, g4⟩
  · cases hF
    exact (hpr _ rfl).elim)
/-! ClothWithManModel.permute(I)V -/
noncomputable def t_M_permute6_40 (x1 : Int32) (c : Int32) (s : MSto) : MSto := (if (gI s 13 0 66) ≤ c then s else (e_M_swap x1 c (e_M_permute5 (x1 + 1) (e_M_swap x1 c s))))
noncomputable def q_M_permute6_40s (x1 : Int32) (c : Int32) (s : MSto) : Nat := (if (gI s 13 0 66) ≤ c then 1 else 0)
def g_M_permute6_40 (x1 : Int32) (c : Int32) (s : MSto) : Prop := (¬ ((gI s 13 0 66) ≤ c) → ((p_M_swap x1 c s) ∧ ((p_M_permute5 (x1 + 1) (e_M_swap x1 c s)) ∧ (p_M_swap x1 c (e_M_permute5 (x1 + 1) (e_M_swap x1 c s))))))
noncomputable def f_M_permute6_40 (x1 : Int32) (c0 : Int32) (s0 : MSto) (n : Nat) : MSto := nfold (fun i s => t_M_permute6_40 x1 (c0 + nI i) s) s0 n
noncomputable def n_M_permute6_40 (x1 : Int32) (c0 : Int32) (s0 : MSto) : Nat := (nM s0 66 - x1.toNatClampNeg)
def p_M_permute6 (a1 : Int32) (σ : MSto) : Prop := (((a1 = (gI σ 13 0 66)) → (p_M_slopeUp σ)) ∧ (¬ (a1 = (gI σ 13 0 66)) → ((∀ i, i < (n_M_permute6_40 a1 a1 σ) → g_M_permute6_40 a1 (a1 + nI i) (f_M_permute6_40 a1 a1 σ i) ∧ ¬ q_M_permute6_40s a1 (a1 + nI i) (f_M_permute6_40 a1 a1 σ i) = 1) ∧ (¬ ((gI (f_M_permute6_40 a1 a1 σ (n_M_permute6_40 a1 a1 σ)) 13 0 66) ≤ (a1 + nI (n_M_permute6_40 a1 a1 σ))) → False))))
noncomputable def e_M_permute6 (a1 : Int32) (σ : MSto) : MSto := (if a1 = (gI σ 13 0 66) then (if (lg_cmp (v_Ma_absJ (v_M_slopeUp σ) σ) (gJ σ 13 0 67)) < 0 then (sI σ 13 0 68 ((gI σ 13 0 68) + 0)) else (sI σ 13 0 68 ((gI σ 13 0 68) + 1))) else (f_M_permute6_40 a1 a1 σ (n_M_permute6_40 a1 a1 σ)))
noncomputable def S_M_permute6 : List MV → MSto → Option Prop × Option MV × MSto := fun as σ => match as with
  | [.inr (.inr (some (13, 0))), .inl a0] => (some (p_M_permute6 a0 σ), none, e_M_permute6 a0 σ)
  | _ => (some False, none, σ)
noncomputable def E_M_permute6 : MEnt := ((1, 1, 13), (7, 159, 0, 0), S_M_permute6, ((⟨"ClothWithManModel", "permute", "(I)V"⟩ : MethodName), prog_14_method_61_code, 3, none))

def T_M_permute6 : Nat → Option (Instr × Nat × List Nat) := fun k => bif Nat.blt k 74 then (bif Nat.blt k 39 then (bif Nat.blt k 20 then (bif Nat.blt k 9 then (bif Nat.blt k 2 then (bif Nat.blt k 1 then (bif Nat.beq k 0 then some (.iload_n 1, 1, []) else none) else (bif Nat.beq k 1 then some (.aload_n 0, 2, []) else none)) else (bif Nat.blt k 5 then (bif Nat.beq k 2 then some (.getfield 346, 5, []) else none) else (bif Nat.blt k 8 then (bif Nat.beq k 5 then some (.if_icmp .ne 33, 8, [38]) else none) else (bif Nat.beq k 8 then some (.aload_n 0, 9, []) else none)))) else (bif Nat.blt k 13 then (bif Nat.blt k 10 then (bif Nat.beq k 9 then some (.dup, 10, []) else none) else (bif Nat.beq k 10 then some (.getfield 359, 13, []) else none)) else (bif Nat.blt k 14 then (bif Nat.beq k 13 then some (.aload_n 0, 14, []) else none) else (bif Nat.blt k 17 then (bif Nat.beq k 14 then some (.invokevirtual 356, 17, []) else none) else (bif Nat.beq k 17 then some (.invokestatic 167, 20, []) else none))))) else (bif Nat.blt k 29 then (bif Nat.blt k 24 then (bif Nat.blt k 21 then (bif Nat.beq k 20 then some (.aload_n 0, 21, []) else none) else (bif Nat.beq k 21 then some (.getfield 362, 24, []) else none)) else (bif Nat.blt k 25 then (bif Nat.beq k 24 then some (.lcmp, 25, []) else none) else (bif Nat.blt k 28 then (bif Nat.beq k 25 then some (.ifCond .lt 7, 28, [32]) else none) else (bif Nat.beq k 28 then some (.iconst 1, 29, []) else none)))) else (bif Nat.blt k 34 then (bif Nat.blt k 32 then (bif Nat.beq k 29 then some (.goto 4, 32, [33]) else none) else (bif Nat.blt k 33 then (bif Nat.beq k 32 then some (.iconst 0, 33, []) else none) else (bif Nat.beq k 33 then some (.iadd, 34, []) else none))) else (bif Nat.blt k 37 then (bif Nat.beq k 34 then some (.putfield 359, 37, []) else none) else (bif Nat.blt k 38 then (bif Nat.beq k 37 then some (.return_, 38, []) else none) else (bif Nat.beq k 38 then some (.iload_n 1, 39, []) else none)))))) else (bif Nat.blt k 55 then (bif Nat.blt k 48 then (bif Nat.blt k 41 then (bif Nat.blt k 40 then (bif Nat.beq k 39 then some (.istore_n 2, 40, []) else none) else (bif Nat.beq k 40 then some (.iload_n 2, 41, []) else none)) else (bif Nat.blt k 42 then (bif Nat.beq k 41 then some (.aload_n 0, 42, []) else none) else (bif Nat.blt k 45 then (bif Nat.beq k 42 then some (.getfield 346, 45, []) else none) else (bif Nat.beq k 45 then some (.if_icmp .ge 28, 48, [73]) else none)))) else (bif Nat.blt k 50 then (bif Nat.blt k 49 then (bif Nat.beq k 48 then some (.aload_n 0, 49, []) else none) else (bif Nat.beq k 49 then some (.iload_n 1, 50, []) else none)) else (bif Nat.blt k 51 then (bif Nat.beq k 50 then some (.iload_n 2, 51, []) else none) else (bif Nat.blt k 54 then (bif Nat.beq k 51 then some (.invokevirtual 365, 54, []) else none) else (bif Nat.beq k 54 then some (.aload_n 0, 55, []) else none))))) else (bif Nat.blt k 62 then (bif Nat.blt k 57 then (bif Nat.blt k 56 then (bif Nat.beq k 55 then some (.iload_n 1, 56, []) else none) else (bif Nat.beq k 56 then some (.iconst 1, 57, []) else none)) else (bif Nat.blt k 58 then (bif Nat.beq k 57 then some (.iadd, 58, []) else none) else (bif Nat.blt k 61 then (bif Nat.beq k 58 then some (.invokevirtual 368, 61, []) else none) else (bif Nat.beq k 61 then some (.aload_n 0, 62, []) else none)))) else (bif Nat.blt k 67 then (bif Nat.blt k 63 then (bif Nat.beq k 62 then some (.iload_n 1, 63, []) else none) else (bif Nat.blt k 64 then (bif Nat.beq k 63 then some (.iload_n 2, 64, []) else none) else (bif Nat.beq k 64 then some (.invokevirtual 365, 67, []) else none))) else (bif Nat.blt k 70 then (bif Nat.beq k 67 then some (.iinc 2 1, 70, []) else none) else (bif Nat.blt k 73 then (bif Nat.beq k 70 then some (.goto (-30), 73, [40]) else none) else (bif Nat.beq k 73 then some (.return_, 74, []) else none))))))) else none
noncomputable def P_M_permute6 : MP := (T_M_permute6, (fun k => mLook k [(346, (13, 66, .int, false)), (359, (13, 68, .int, false)), (362, (13, 67, .long, false))]), (fun k => mLook k []), (fun k => mLook k [(167, E_Ma_absJ), (356, E_M_slopeUp), (365, E_M_swap), (368, E_M_permute5)]), (fun k => mLook k []), (fun k => mLook k []), (fun k => mLook k []), (fun k => mLook k [(40, [true, true, true])]), (fun k => [37, 73].any (Nat.beq k)), (7, 159, 0, 0), false, (fun _ => none))
set_option maxRecDepth 100000 in
set_option maxHeartbeats 4000000 in
theorem q_M_permute6_e (a1 : Int32) (σ : MSto) (n : Nat) : mexe KT P_M_permute6 (n + 1) (0, [some (mR 13 0), some (mI a1), none], [], σ, 0, 0) = mIf (a1 = (gI σ 13 0 66)) (mG (p_M_slopeUp σ) (mIf ((lg_cmp (v_Ma_absJ (v_M_slopeUp σ) σ) (gJ σ 13 0 67)) < 0) (some (37, [], [], (sI σ 13 0 68 ((gI σ 13 0 68) + 0)), 0, 0)) (some (37, [], [], (sI σ 13 0 68 ((gI σ 13 0 68) + 1)), 0, 0)))) (mexe KT P_M_permute6 n (40, [some (mR 13 0), some (mI a1), some (mI a1)], [], σ, 0, 0)) := rfl
set_option maxRecDepth 100000 in
set_option maxHeartbeats 4000000 in
theorem q_M_permute6_40 (x1 : Int32) (x2 : Int32) (σ : MSto) (n : Nat) : mexe KT P_M_permute6 (n + 1) (40, [some (mR 13 0), some (mI x1), some (mI x2)], [], σ, 0, 0) = mIf ((gI σ 13 0 66) ≤ x2) (some (73, [], [], σ, 0, 0)) (mG (p_M_swap x1 x2 σ) (mG (p_M_permute5 (x1 + 1) (e_M_swap x1 x2 σ)) (mG (p_M_swap x1 x2 (e_M_permute5 (x1 + 1) (e_M_swap x1 x2 σ))) (mexe KT P_M_permute6 n (40, [some (mR 13 0), some (mI x1), some (mI (x2 + 1))], [], (e_M_swap x1 x2 (e_M_permute5 (x1 + 1) (e_M_swap x1 x2 σ))), 0, 0))))) := rfl
set_option maxRecDepth 100000 in
theorem lt_M_permute6_40 {Post : MST → Prop} (x1 : Int32) (c : Int32) (s : MSto) (hp : g_M_permute6_40 x1 c s) (hq : ¬ q_M_permute6_40s x1 c s = 1) (hn : ∀ r, t_M_permute6_40 x1 c s = r → mW1 P_M_permute6 (40, [some (mR 13 0), some (mI x1), some (mI (c + 1))], [], r, 0, 0) Post) : mW1 P_M_permute6 (40, [some (mR 13 0), some (mI x1), some (mI c)], [], s, 0, 0) Post := by
  unfold g_M_permute6_40 at hp
  refine mW1_eq (q_M_permute6_40 _ _ _) ?_
  refine mTr_if (fun h0 => ?_) (fun h0 => ?_)
  · skip
    exact absurd (if_pos h0) hq
  · skip
    have hp := hp h0
    refine mTr_g hp.1 ?_
    have hp := hp.2
    refine mTr_g hp.1 ?_
    have hp := hp.2
    refine mTr_g hp ?_
    exact mTr_k (hn (e_M_swap x1 c (e_M_permute5 (x1 + 1) (e_M_swap x1 c s))) (if_neg h0))
theorem lp_M_permute6_40 {Post : MST → Prop} (x1 : Int32) (c0 : Int32) (s0 : MSto) (N : Nat) (hb : ∀ i, i < N → g_M_permute6_40 x1 (c0 + nI i) (f_M_permute6_40 x1 c0 s0 i) ∧ ¬ q_M_permute6_40s x1 (c0 + nI i) (f_M_permute6_40 x1 c0 s0 i) = 1) (h : mW1 P_M_permute6 (40, [some (mR 13 0), some (mI x1), some (mI (c0 + nI N))], [], (f_M_permute6_40 x1 c0 s0 N), 0, 0) Post) : mW1 P_M_permute6 (40, [some (mR 13 0), some (mI x1), some (mI c0)], [], s0, 0, 0) Post := by
  refine mW1_st (mW1_loop (fun i => (40, [some (mR 13 0), some (mI x1), some (mI (c0 + nI i))], [], (f_M_permute6_40 x1 c0 s0 i), 0, 0)) N (fun i hlt hn => ?_) h) (by rw [show nI 0 = 0 from rfl, Int32.add_zero] <;> rfl)
  refine lt_M_permute6_40 x1 _ _ (hb i hlt).1 (hb i hlt).2 (fun r hr => ?_)
  rw [Int32.add_assoc, nI_s]
  subst hr
  exact hn
set_option maxRecDepth 100000 in
set_option maxHeartbeats 4000000 in
theorem d_M_permute6 (a1 : Int32) (σ : MSto) (hp : p_M_permute6 a1 σ) : mW1 P_M_permute6 (0, [some (mR 13 0), some (mI a1), none], [], σ, 0, 0) (mF [37, 73] [] (e_M_permute6 a1 σ) 0 0) := by
  refine mW1_eq (q_M_permute6_e _ _) ?_
  unfold p_M_permute6 at hp
  refine mTr_if (fun h0 => ?_) (fun h0 => ?_)
  · skip
    have hp := hp.1 h0
    refine mTr_g hp ?_
    refine mTr_if (fun h1 => ?_) (fun h1 => ?_)
    · skip
      exact mTr_e (by decide) rfl (Eq.symm ((if_pos h0).trans (if_pos h1))) (by decide) (by decide)
    · skip
      exact mTr_e (by decide) rfl (Eq.symm ((if_pos h0).trans (if_neg h1))) (by decide) (by decide)
  · skip
    have hp := hp.2 h0
    refine mTr_k (lp_M_permute6_40 a1 a1 σ (n_M_permute6_40 a1 a1 σ) hp.1 ?_)
    have hp := hp.2
    refine mW1_eq (q_M_permute6_40 _ _ _) ?_
    refine mTr_if (fun h1 => ?_) (fun h1 => ?_)
    · skip
      exact mTr_e (by decide) rfl (Eq.symm (if_neg h0)) (by decide) (by decide)
    · skip
      have hp := hp h1
      exact hp.elim
theorem li_M_368_M_permute5 : mLink "ClothWithManModel" 368 E_M_permute5 := ⟨tw_7_166, tw_1_9, ⟨by decide, by decide⟩, by decide +kernel, Or.inl tw_7_163, (fun h => by cases h), (fun _ => ⟨tw_7_165, tw_0_71, TX12, 71, rfl⟩), (fun h => by cases h)⟩




theorem tk_M_permute6 : ∀ pc i nx tg, T_M_permute6 pc = some (i, nx, tg) → mOkB prog_14_method_61_code pc i nx tg = true := code_ok (N := 74) (fun k h => by unfold T_M_permute6; rw [h]; rfl) (by decide +kernel)
theorem ok_M_permute6 (l : Launch) : mPOK l "ClothWithManModel" prog_14_method_61_code P_M_permute6 := by
  refine ⟨tk_M_permute6, ?_, ?_, ?_, (fun pc i nx tg kd _ h => by cases h), ?_, ?_, fun pc en h => by cases h⟩
  · intro x ci f ty fin h
    exact mLook_all (Q := fun x v => mFOK "ClothWithManModel" x v.1 v.2.1 v.2.2.1 v.2.2.2 ∧ (v.2.2.2 = true → pIni P_M_permute6 = true → (Cond.fieldLink "ClothWithManModel" x (((mCl[v.1]?).getD ("", fun _ => ("", "", "", false), 0)).2.1 v.2.1).1 (((mCl[v.1]?).getD ("", fun _ => ("", "", "", false), 0)).2.1 v.2.1).2.1 (((mCl[v.1]?).getD ("", fun _ => ("", "", "", false), 0)).2.1 v.2.1).2.2.1 ∈ lw_tbl ∧ (((mCl[v.1]?).getD ("", fun _ => ("", "", "", false), 0)).2.1 v.2.1).1 = "ClothWithManModel"))) (fcC ⟨fo_M_346, fun h1 h2 => by cases h1⟩ (fcC ⟨fo_M_359, fun h1 h2 => by cases h1⟩ (fcC ⟨fo_M_362, fun h1 h2 => by cases h1⟩ fcN))) x (ci, f, ty, fin) h
  · intro x
    have hh := mLook_all (l := ([] : List (Nat × (Int32 ⊕ Int64)))) (Q := fun x (v : Int32 ⊕ Int64) => (∀ w, v = .inl w → Cond.constant "ClothWithManModel" x w ∈ lw_tbl) ∧ (∀ w, v = .inr w → Cond.constantLong "ClothWithManModel" x w ∈ lw_tbl)) fcN x
    exact ⟨fun w h => (hh _ h).1 w rfl, fun w h => (hh _ h).2 w rfl⟩
  · exact fun x en h => mLook_all (Q := fun x en => mLink "ClothWithManModel" x en ∧ mCtr l en ∧ (en.1.1 = 2 → en.2.2.2.2.2.2 = none)) (fcC ⟨li_M_167, c_Ma_absJ l, (fun h => by cases h)⟩ (fcC ⟨li_M_356, c_M_slopeUp l, (fun h => by cases h)⟩ (fcC ⟨li_M_365, c_M_swap l, (fun h => by cases h)⟩ (fcC ⟨li_M_368_M_permute5, c_M_permute5 l, (fun h => by cases h)⟩ fcN)))) x en h
  · exact fun x kd h => mLook_all (Q := fun x kd => (kd = 95 ∧ Cond.fieldLink "ClothWithManModel" x "ClothWithMan" "LIKENESSES" "[I" ∈ lw_tbl) ∨ (kd = 96 ∧ Cond.fieldLink "ClothWithManModel" x "ClothWithMan" "APART_BOUNDS" "[I" ∈ lw_tbl)) fcN x kd h
  · exact fun x ci h => mLook_all (Q := fun x ci => ci ≠ 0 ∧ ∃ (C : String) (T : u_T) (N : Nat), mCl[ci]? = some (C, T, N) ∧ Cond.classLink "ClothWithManModel" x C ∈ lw_tbl ∧ Cond.instantiable C N ∈ lw_tbl) fcN x ci h
set_option maxRecDepth 100000 in
theorem c_M_permute6 (l : Launch) : mCtr l E_M_permute6 := mCtr_of (P := P_M_permute6) (own := "ClothWithManModel") mLay_ok rfl (by decide +kernel) rfl (ok_M_permute6 l) (fun h => by cases h) (fun as σ pr rv σ' hF hpr hlv => by
  unfold E_M_permute6 S_M_permute6 at hF
  simp only [] at hF
  split at hF
  · cases hF
    obtain ⟨n, pcF, c1, s1, g1, g2, g3, g4⟩ := mF_inv (d_M_permute6 _ σ (hpr _ rfl))
    exact ⟨Nat.le_of_ble_eq_true rfl, (fun v h => by cases h), n, pcF, c1, s1, g1, mEnd_of (i := .return_) (P := P_M_permute6) (rets := [37, 73]) rfl g2, g3, g4⟩
  · cases hF
    exact (hpr _ rfl).elim)
/-! ClothWithManModel.lot(I)I -/
noncomputable def t_M_lot_60  (c : Int32) (σ : MSto) (s : Int32) : Int32 := (if (gI σ 13 0 66) < c then s else (s * c))
noncomputable def q_M_lot_60s  (c : Int32) (σ : MSto) (s : Int32) : Nat := (if (gI σ 13 0 66) < c then 1 else 0)
def g_M_lot_60  (c : Int32) (σ : MSto) (s : Int32) : Prop := True
noncomputable def f_M_lot_60  (c0 : Int32) (σ : MSto) (s0 : Int32) (n : Nat) : Int32 := nfold (fun i s => t_M_lot_60 (c0 + nI i) σ s) s0 n
noncomputable def n_M_lot_60  (c0 : Int32) (σ : MSto) (s0 : Int32) : Nat := (nM σ 66 - 1)
noncomputable def vj_M_lot_j46  (σ : MSto) : Int32 := 0
noncomputable def ej_M_lot_j46  (σ : MSto) : MSto := (e_M_tellPart (Int32.toInt64 (gI (sI (e_M_permute6 0 (sI σ 13 0 68 0)) 13 0 51 0) 13 0 68)) (Int32.toInt64 (f_M_lot_60 2 (e_M_permute6 0 (sI σ 13 0 68 0)) 1 (n_M_lot_60 2 (e_M_permute6 0 (sI σ 13 0 68 0)) 1))) (sI (e_M_permute6 0 (sI σ 13 0 68 0)) 13 0 51 0))
def gj_M_lot_j46  (σ : MSto) : Prop := ((p_M_permute6 0 (sI σ 13 0 68 0)) ∧ ((∀ i, i < (n_M_lot_60 2 (e_M_permute6 0 (sI σ 13 0 68 0)) 1) → g_M_lot_60 (2 + nI i) (e_M_permute6 0 (sI σ 13 0 68 0)) (f_M_lot_60 2 (e_M_permute6 0 (sI σ 13 0 68 0)) 1 i) ∧ ¬ q_M_lot_60s (2 + nI i) (e_M_permute6 0 (sI σ 13 0 68 0)) (f_M_lot_60 2 (e_M_permute6 0 (sI σ 13 0 68 0)) 1 i) = 1) ∧ ((((gI (e_M_permute6 0 (sI σ 13 0 68 0)) 13 0 66) < (2 + nI (n_M_lot_60 2 (e_M_permute6 0 (sI σ 13 0 68 0)) 1))) → (p_M_tellPart (Int32.toInt64 (gI (sI (e_M_permute6 0 (sI σ 13 0 68 0)) 13 0 51 0) 13 0 68)) (Int32.toInt64 (f_M_lot_60 2 (e_M_permute6 0 (sI σ 13 0 68 0)) 1 (n_M_lot_60 2 (e_M_permute6 0 (sI σ 13 0 68 0)) 1))) (sI (e_M_permute6 0 (sI σ 13 0 68 0)) 13 0 51 0))) ∧ (¬ ((gI (e_M_permute6 0 (sI σ 13 0 68 0)) 13 0 66) < (2 + nI (n_M_lot_60 2 (e_M_permute6 0 (sI σ 13 0 68 0)) 1))) → False))))
noncomputable def v_M_lot (a1 : Int32) (σ : MSto) : Int32 := (if (v_M_areCounted a1 2 6 (sI σ 13 0 52 0)) = 0 then (-1) else (if (lg_cmp (v_M_slopeLow (e_M_gather a1 (sI σ 13 0 52 0))) 0) = 0 then (-2) else (vj_M_lot_j46 (sJ (e_M_gather a1 (sI σ 13 0 52 0)) 13 0 67 (v_Ma_absJ (v_M_slopeUp (e_M_gather a1 (sI σ 13 0 52 0))) (e_M_gather a1 (sI σ 13 0 52 0)))))))
def p_M_lot (a1 : Int32) (σ : MSto) : Prop := (¬ ((v_M_areCounted a1 2 6 (sI σ 13 0 52 0)) = 0) → ((p_M_gather a1 (sI σ 13 0 52 0)) ∧ ((p_M_slopeLow (e_M_gather a1 (sI σ 13 0 52 0))) ∧ (¬ ((lg_cmp (v_M_slopeLow (e_M_gather a1 (sI σ 13 0 52 0))) 0) = 0) → ((p_M_slopeUp (e_M_gather a1 (sI σ 13 0 52 0))) ∧ (gj_M_lot_j46 (sJ (e_M_gather a1 (sI σ 13 0 52 0)) 13 0 67 (v_Ma_absJ (v_M_slopeUp (e_M_gather a1 (sI σ 13 0 52 0))) (e_M_gather a1 (sI σ 13 0 52 0))))))))))
noncomputable def e_M_lot (a1 : Int32) (σ : MSto) : MSto := (if (v_M_areCounted a1 2 6 (sI σ 13 0 52 0)) = 0 then (sI σ 13 0 52 0) else (if (lg_cmp (v_M_slopeLow (e_M_gather a1 (sI σ 13 0 52 0))) 0) = 0 then (e_M_gather a1 (sI σ 13 0 52 0)) else (ej_M_lot_j46 (sJ (e_M_gather a1 (sI σ 13 0 52 0)) 13 0 67 (v_Ma_absJ (v_M_slopeUp (e_M_gather a1 (sI σ 13 0 52 0))) (e_M_gather a1 (sI σ 13 0 52 0)))))))
noncomputable def S_M_lot : List MV → MSto → Option Prop × Option MV × MSto := fun as σ => match as with
  | [.inr (.inr (some (13, 0))), .inl a0] => (some (p_M_lot a0 σ), some (mI (v_M_lot a0 σ)), e_M_lot a0 σ)
  | _ => (some False, none, σ)
noncomputable def E_M_lot : MEnt := ((1, 1, 13), (8, 181, 0, 0), S_M_lot, ((⟨"ClothWithManModel", "lot", "(I)I"⟩ : MethodName), prog_14_method_63_code, 4, (some .int)))

def T_M_lot : Nat → Option (Instr × Nat × List Nat) := fun k => bif Nat.blt k 96 then (bif Nat.blt k 51 then (bif Nat.blt k 23 then (bif Nat.blt k 10 then (bif Nat.blt k 5 then (bif Nat.blt k 1 then (bif Nat.beq k 0 then some (.aload_n 0, 1, []) else none) else (bif Nat.blt k 2 then (bif Nat.beq k 1 then some (.iconst 0, 2, []) else none) else (bif Nat.beq k 2 then some (.putfield 161, 5, []) else none))) else (bif Nat.blt k 7 then (bif Nat.blt k 6 then (bif Nat.beq k 5 then some (.aload_n 0, 6, []) else none) else (bif Nat.beq k 6 then some (.iload_n 1, 7, []) else none)) else (bif Nat.blt k 8 then (bif Nat.beq k 7 then some (.iconst 2, 8, []) else none) else (bif Nat.beq k 8 then some (.bipush 6, 10, []) else none)))) else (bif Nat.blt k 17 then (bif Nat.blt k 13 then (bif Nat.beq k 10 then some (.invokevirtual 315, 13, []) else none) else (bif Nat.blt k 16 then (bif Nat.beq k 13 then some (.ifCond .ne 5, 16, [18]) else none) else (bif Nat.beq k 16 then some (.iconst (-1), 17, []) else none))) else (bif Nat.blt k 19 then (bif Nat.blt k 18 then (bif Nat.beq k 17 then some (.ireturn, 18, []) else none) else (bif Nat.beq k 18 then some (.aload_n 0, 19, []) else none)) else (bif Nat.blt k 20 then (bif Nat.beq k 19 then some (.iload_n 1, 20, []) else none) else (bif Nat.beq k 20 then some (.invokevirtual 349, 23, []) else none))))) else (bif Nat.blt k 35 then (bif Nat.blt k 28 then (bif Nat.blt k 24 then (bif Nat.beq k 23 then some (.aload_n 0, 24, []) else none) else (bif Nat.blt k 27 then (bif Nat.beq k 24 then some (.invokevirtual 352, 27, []) else none) else (bif Nat.beq k 27 then some (.lconst 0, 28, []) else none))) else (bif Nat.blt k 32 then (bif Nat.blt k 29 then (bif Nat.beq k 28 then some (.lcmp, 29, []) else none) else (bif Nat.beq k 29 then some (.ifCond .ne 6, 32, [35]) else none)) else (bif Nat.blt k 34 then (bif Nat.beq k 32 then some (.bipush (-2), 34, []) else none) else (bif Nat.beq k 34 then some (.ireturn, 35, []) else none)))) else (bif Nat.blt k 43 then (bif Nat.blt k 37 then (bif Nat.blt k 36 then (bif Nat.beq k 35 then some (.aload_n 0, 36, []) else none) else (bif Nat.beq k 36 then some (.aload_n 0, 37, []) else none)) else (bif Nat.blt k 40 then (bif Nat.beq k 37 then some (.invokevirtual 356, 40, []) else none) else (bif Nat.beq k 40 then some (.invokestatic 167, 43, []) else none))) else (bif Nat.blt k 47 then (bif Nat.blt k 46 then (bif Nat.beq k 43 then some (.putfield 362, 46, []) else none) else (bif Nat.beq k 46 then some (.aload_n 0, 47, []) else none)) else (bif Nat.blt k 48 then (bif Nat.beq k 47 then some (.iconst 0, 48, []) else none) else (bif Nat.beq k 48 then some (.putfield 359, 51, []) else none)))))) else (bif Nat.blt k 71 then (bif Nat.blt k 60 then (bif Nat.blt k 56 then (bif Nat.blt k 52 then (bif Nat.beq k 51 then some (.aload_n 0, 52, []) else none) else (bif Nat.blt k 53 then (bif Nat.beq k 52 then some (.iconst 0, 53, []) else none) else (bif Nat.beq k 53 then some (.invokevirtual 368, 56, []) else none))) else (bif Nat.blt k 58 then (bif Nat.blt k 57 then (bif Nat.beq k 56 then some (.iconst 1, 57, []) else none) else (bif Nat.beq k 57 then some (.istore_n 2, 58, []) else none)) else (bif Nat.blt k 59 then (bif Nat.beq k 58 then some (.iconst 2, 59, []) else none) else (bif Nat.beq k 59 then some (.istore_n 3, 60, []) else none)))) else (bif Nat.blt k 65 then (bif Nat.blt k 61 then (bif Nat.beq k 60 then some (.iload_n 3, 61, []) else none) else (bif Nat.blt k 62 then (bif Nat.beq k 61 then some (.aload_n 0, 62, []) else none) else (bif Nat.beq k 62 then some (.getfield 346, 65, []) else none))) else (bif Nat.blt k 69 then (bif Nat.blt k 68 then (bif Nat.beq k 65 then some (.if_icmp .gt 13, 68, [78]) else none) else (bif Nat.beq k 68 then some (.iload_n 2, 69, []) else none)) else (bif Nat.blt k 70 then (bif Nat.beq k 69 then some (.iload_n 3, 70, []) else none) else (bif Nat.beq k 70 then some (.imul, 71, []) else none))))) else (bif Nat.blt k 84 then (bif Nat.blt k 78 then (bif Nat.blt k 72 then (bif Nat.beq k 71 then some (.istore_n 2, 72, []) else none) else (bif Nat.blt k 75 then (bif Nat.beq k 72 then some (.iinc 3 1, 75, []) else none) else (bif Nat.beq k 75 then some (.goto (-15), 78, [60]) else none))) else (bif Nat.blt k 80 then (bif Nat.blt k 79 then (bif Nat.beq k 78 then some (.aload_n 0, 79, []) else none) else (bif Nat.beq k 79 then some (.iconst 0, 80, []) else none)) else (bif Nat.blt k 83 then (bif Nat.beq k 80 then some (.putfield 164, 83, []) else none) else (bif Nat.beq k 83 then some (.aload_n 0, 84, []) else none)))) else (bif Nat.blt k 90 then (bif Nat.blt k 88 then (bif Nat.blt k 85 then (bif Nat.beq k 84 then some (.aload_n 0, 85, []) else none) else (bif Nat.beq k 85 then some (.getfield 359, 88, []) else none)) else (bif Nat.blt k 89 then (bif Nat.beq k 88 then some (.i2l, 89, []) else none) else (bif Nat.beq k 89 then some (.iload_n 2, 90, []) else none))) else (bif Nat.blt k 94 then (bif Nat.blt k 91 then (bif Nat.beq k 90 then some (.i2l, 91, []) else none) else (bif Nat.beq k 91 then some (.invokevirtual 321, 94, []) else none)) else (bif Nat.blt k 95 then (bif Nat.beq k 94 then some (.iconst 0, 95, []) else none) else (bif Nat.beq k 95 then some (.ireturn, 96, []) else none))))))) else none
noncomputable def P_M_lot : MP := (T_M_lot, (fun k => mLook k [(161, (13, 52, .int, false)), (164, (13, 51, .int, false)), (346, (13, 66, .int, false)), (359, (13, 68, .int, false)), (362, (13, 67, .long, false))]), (fun k => mLook k []), (fun k => mLook k [(167, E_Ma_absJ), (315, E_M_areCounted), (321, E_M_tellPart), (349, E_M_gather), (352, E_M_slopeLow), (356, E_M_slopeUp), (368, E_M_permute6)]), (fun k => mLook k []), (fun k => mLook k []), (fun k => mLook k []), (fun k => mLook k [(46, [true, false, false, false]), (60, [true, false, true, true])]), (fun k => [17, 34, 95].any (Nat.beq k)), (8, 181, 0, 0), false, (fun _ => none))
set_option maxRecDepth 100000 in
set_option maxHeartbeats 4000000 in
theorem q_M_lot_e (a1 : Int32) (σ : MSto) (n : Nat) : mexe KT P_M_lot (n + 1) (0, [some (mR 13 0), some (mI a1), none, none], [], σ, 0, 0) = mIf ((v_M_areCounted a1 2 6 (sI σ 13 0 52 0)) = 0) (some (17, [], [(mI (-1))], (sI σ 13 0 52 0), 0, 0)) (mG (p_M_gather a1 (sI σ 13 0 52 0)) (mG (p_M_slopeLow (e_M_gather a1 (sI σ 13 0 52 0))) (mIf ((lg_cmp (v_M_slopeLow (e_M_gather a1 (sI σ 13 0 52 0))) 0) = 0) (some (34, [], [(mI (-2))], (e_M_gather a1 (sI σ 13 0 52 0)), 0, 0)) (mG (p_M_slopeUp (e_M_gather a1 (sI σ 13 0 52 0))) (mexe KT P_M_lot n (46, [some (mR 13 0), none, none, none], [], (sJ (e_M_gather a1 (sI σ 13 0 52 0)) 13 0 67 (v_Ma_absJ (v_M_slopeUp (e_M_gather a1 (sI σ 13 0 52 0))) (e_M_gather a1 (sI σ 13 0 52 0)))), 0, 0)))))) := rfl
set_option maxRecDepth 100000 in
set_option maxHeartbeats 4000000 in
theorem q_M_lot_46  (σ : MSto) (n : Nat) : mexe KT P_M_lot (n + 1) (46, [some (mR 13 0), none, none, none], [], σ, 0, 0) = mG (p_M_permute6 0 (sI σ 13 0 68 0)) (mexe KT P_M_lot n (60, [some (mR 13 0), none, some (mI 1), some (mI 2)], [], (e_M_permute6 0 (sI σ 13 0 68 0)), 0, 0)) := rfl
set_option maxRecDepth 100000 in
set_option maxHeartbeats 4000000 in
theorem q_M_lot_60 (x2 : Int32) (x3 : Int32) (σ : MSto) (n : Nat) : mexe KT P_M_lot (n + 1) (60, [some (mR 13 0), none, some (mI x2), some (mI x3)], [], σ, 0, 0) = mIf ((gI σ 13 0 66) < x3) (mG (p_M_tellPart (Int32.toInt64 (gI (sI σ 13 0 51 0) 13 0 68)) (Int32.toInt64 x2) (sI σ 13 0 51 0)) (some (95, [], [(mI 0)], (e_M_tellPart (Int32.toInt64 (gI (sI σ 13 0 51 0) 13 0 68)) (Int32.toInt64 x2) (sI σ 13 0 51 0)), 0, 0))) (mexe KT P_M_lot n (60, [some (mR 13 0), none, some (mI (x2 * x3)), some (mI (x3 + 1))], [], σ, 0, 0)) := rfl
set_option maxRecDepth 100000 in
theorem lt_M_lot_60 {Post : MST → Prop}  (c : Int32) (σ : MSto) (s : Int32) (hp : g_M_lot_60 c σ s) (hq : ¬ q_M_lot_60s c σ s = 1) (hn : ∀ r, t_M_lot_60 c σ s = r → mW1 P_M_lot (60, [some (mR 13 0), none, some (mI r), some (mI (c + 1))], [], σ, 0, 0) Post) : mW1 P_M_lot (60, [some (mR 13 0), none, some (mI s), some (mI c)], [], σ, 0, 0) Post := by
  unfold g_M_lot_60 at hp
  refine mW1_eq (q_M_lot_60 _ _ _) ?_
  refine mTr_if (fun h0 => ?_) (fun h0 => ?_)
  · skip
    exact absurd (if_pos h0) hq
  · skip
    exact mTr_k (hn (s * c) (if_neg h0))
theorem lp_M_lot_60 {Post : MST → Prop}  (c0 : Int32) (σ : MSto) (s0 : Int32) (N : Nat) (hb : ∀ i, i < N → g_M_lot_60 (c0 + nI i) σ (f_M_lot_60 c0 σ s0 i) ∧ ¬ q_M_lot_60s (c0 + nI i) σ (f_M_lot_60 c0 σ s0 i) = 1) (h : mW1 P_M_lot (60, [some (mR 13 0), none, some (mI (f_M_lot_60 c0 σ s0 N)), some (mI (c0 + nI N))], [], σ, 0, 0) Post) : mW1 P_M_lot (60, [some (mR 13 0), none, some (mI s0), some (mI c0)], [], σ, 0, 0) Post := by
  refine mW1_st (mW1_loop (fun i => (60, [some (mR 13 0), none, some (mI (f_M_lot_60 c0 σ s0 i)), some (mI (c0 + nI i))], [], σ, 0, 0)) N (fun i hlt hn => ?_) h) (by rw [show nI 0 = 0 from rfl, Int32.add_zero] <;> rfl)
  refine lt_M_lot_60 _ σ _ (hb i hlt).1 (hb i hlt).2 (fun r hr => ?_)
  rw [Int32.add_assoc, nI_s]
  subst hr
  exact hn
set_option maxRecDepth 100000 in
theorem lj_M_lot_j46  (σ : MSto) (hp : gj_M_lot_j46 σ) : mW1 P_M_lot (46, [some (mR 13 0), none, none, none], [], σ, 0, 0) (mF [17, 34, 95] [mI (vj_M_lot_j46 σ)] (ej_M_lot_j46 σ) 0 0) := by
  unfold gj_M_lot_j46 at hp
  refine mW1_eq (q_M_lot_46 _) ?_
  refine mTr_g hp.1 ?_
  have hp := hp.2
  refine mTr_k (lp_M_lot_60 2 (e_M_permute6 0 (sI σ 13 0 68 0)) 1 (n_M_lot_60 2 (e_M_permute6 0 (sI σ 13 0 68 0)) 1) hp.1 ?_)
  have hp := hp.2
  refine mW1_eq (q_M_lot_60 _ _ _) ?_
  refine mTr_if (fun h0 => ?_) (fun h0 => ?_)
  · skip
    have hp := hp.1 h0
    refine mTr_g hp ?_
    exact mTr_e (by decide) (congrArg (fun z => [mI z]) (Eq.symm (rfl))) (Eq.symm (rfl)) (by decide) (by decide)
  · skip
    have hp := hp.2 h0
    exact hp.elim
set_option maxRecDepth 100000 in
set_option maxHeartbeats 4000000 in
theorem d_M_lot (a1 : Int32) (σ : MSto) (hp : p_M_lot a1 σ) : mW1 P_M_lot (0, [some (mR 13 0), some (mI a1), none, none], [], σ, 0, 0) (mF [17, 34, 95] [mI (v_M_lot a1 σ)] (e_M_lot a1 σ) 0 0) := by
  refine mW1_eq (q_M_lot_e _ _) ?_
  unfold p_M_lot at hp
  refine mTr_if (fun h0 => ?_) (fun h0 => ?_)
  · skip
    exact mTr_e (by decide) (congrArg (fun z => [mI z]) (Eq.symm (if_pos h0))) (Eq.symm (if_pos h0)) (by decide) (by decide)
  · skip
    have hp := hp h0
    refine mTr_g hp.1 ?_
    have hp := hp.2
    refine mTr_g hp.1 ?_
    have hp := hp.2
    refine mTr_if (fun h1 => ?_) (fun h1 => ?_)
    · skip
      exact mTr_e (by decide) (congrArg (fun z => [mI z]) (Eq.symm ((if_neg h0).trans (if_pos h1)))) (Eq.symm ((if_neg h0).trans (if_pos h1))) (by decide) (by decide)
    · skip
      have hp := hp h1
      refine mTr_g hp.1 ?_
      have hp := hp.2
      exact mTr_k (mF_cI ((if_neg h0).trans (if_neg h1)) ((if_neg h0).trans (if_neg h1)) (lj_M_lot_j46 (sJ (e_M_gather a1 (sI σ 13 0 52 0)) 13 0 67 (v_Ma_absJ (v_M_slopeUp (e_M_gather a1 (sI σ 13 0 52 0))) (e_M_gather a1 (sI σ 13 0 52 0)))) hp))
theorem li_M_368_M_permute6 : mLink "ClothWithManModel" 368 E_M_permute6 := ⟨tw_7_166, tw_1_9, ⟨by decide, by decide⟩, by decide +kernel, Or.inl tw_7_163, (fun h => by cases h), (fun _ => ⟨tw_7_165, tw_0_71, TX12, 71, rfl⟩), (fun h => by cases h)⟩







theorem tk_M_lot : ∀ pc i nx tg, T_M_lot pc = some (i, nx, tg) → mOkB prog_14_method_63_code pc i nx tg = true := code_ok (N := 96) (fun k h => by unfold T_M_lot; rw [h]; rfl) (by decide +kernel)
theorem ok_M_lot (l : Launch) : mPOK l "ClothWithManModel" prog_14_method_63_code P_M_lot := by
  refine ⟨tk_M_lot, ?_, ?_, ?_, (fun pc i nx tg kd _ h => by cases h), ?_, ?_, fun pc en h => by cases h⟩
  · intro x ci f ty fin h
    exact mLook_all (Q := fun x v => mFOK "ClothWithManModel" x v.1 v.2.1 v.2.2.1 v.2.2.2 ∧ (v.2.2.2 = true → pIni P_M_lot = true → (Cond.fieldLink "ClothWithManModel" x (((mCl[v.1]?).getD ("", fun _ => ("", "", "", false), 0)).2.1 v.2.1).1 (((mCl[v.1]?).getD ("", fun _ => ("", "", "", false), 0)).2.1 v.2.1).2.1 (((mCl[v.1]?).getD ("", fun _ => ("", "", "", false), 0)).2.1 v.2.1).2.2.1 ∈ lw_tbl ∧ (((mCl[v.1]?).getD ("", fun _ => ("", "", "", false), 0)).2.1 v.2.1).1 = "ClothWithManModel"))) (fcC ⟨fo_M_161, fun h1 h2 => by cases h1⟩ (fcC ⟨fo_M_164, fun h1 h2 => by cases h1⟩ (fcC ⟨fo_M_346, fun h1 h2 => by cases h1⟩ (fcC ⟨fo_M_359, fun h1 h2 => by cases h1⟩ (fcC ⟨fo_M_362, fun h1 h2 => by cases h1⟩ fcN))))) x (ci, f, ty, fin) h
  · intro x
    have hh := mLook_all (l := ([] : List (Nat × (Int32 ⊕ Int64)))) (Q := fun x (v : Int32 ⊕ Int64) => (∀ w, v = .inl w → Cond.constant "ClothWithManModel" x w ∈ lw_tbl) ∧ (∀ w, v = .inr w → Cond.constantLong "ClothWithManModel" x w ∈ lw_tbl)) fcN x
    exact ⟨fun w h => (hh _ h).1 w rfl, fun w h => (hh _ h).2 w rfl⟩
  · exact fun x en h => mLook_all (Q := fun x en => mLink "ClothWithManModel" x en ∧ mCtr l en ∧ (en.1.1 = 2 → en.2.2.2.2.2.2 = none)) (fcC ⟨li_M_167, c_Ma_absJ l, (fun h => by cases h)⟩ (fcC ⟨li_M_315, c_M_areCounted l, (fun h => by cases h)⟩ (fcC ⟨li_M_321, c_M_tellPart l, (fun h => by cases h)⟩ (fcC ⟨li_M_349, c_M_gather l, (fun h => by cases h)⟩ (fcC ⟨li_M_352, c_M_slopeLow l, (fun h => by cases h)⟩ (fcC ⟨li_M_356, c_M_slopeUp l, (fun h => by cases h)⟩ (fcC ⟨li_M_368_M_permute6, c_M_permute6 l, (fun h => by cases h)⟩ fcN))))))) x en h
  · exact fun x kd h => mLook_all (Q := fun x kd => (kd = 95 ∧ Cond.fieldLink "ClothWithManModel" x "ClothWithMan" "LIKENESSES" "[I" ∈ lw_tbl) ∨ (kd = 96 ∧ Cond.fieldLink "ClothWithManModel" x "ClothWithMan" "APART_BOUNDS" "[I" ∈ lw_tbl)) fcN x kd h
  · exact fun x ci h => mLook_all (Q := fun x ci => ci ≠ 0 ∧ ∃ (C : String) (T : u_T) (N : Nat), mCl[ci]? = some (C, T, N) ∧ Cond.classLink "ClothWithManModel" x C ∈ lw_tbl ∧ Cond.instantiable C N ∈ lw_tbl) fcN x ci h
set_option maxRecDepth 100000 in
theorem c_M_lot (l : Launch) : mCtr l E_M_lot := mCtr_of (P := P_M_lot) (own := "ClothWithManModel") mLay_ok rfl (by decide +kernel) rfl (ok_M_lot l) (fun h => by cases h) (fun as σ pr rv σ' hF hpr hlv => by
  unfold E_M_lot S_M_lot at hF
  simp only [] at hF
  split at hF
  · cases hF
    obtain ⟨n, pcF, c1, s1, g1, g2, g3, g4⟩ := mF_inv (d_M_lot _ σ (hpr _ rfl))
    exact ⟨Nat.le_of_ble_eq_true rfl, (fun v h => by cases h; trivial), n, pcF, c1, s1, g1, ⟨mEnd_of (i := .ireturn) (P := P_M_lot) (rets := [17, 34, 95]) rfl g2, rfl⟩, g3, g4⟩
  · cases hF
    exact (hpr _ rfl).elim)
/-! ClothWithManModel.curve()I -/
noncomputable def t_M_curve_126 (x1 : Int32) (x2 : Int32) (c : Int32) (σ : MSto) (s : Unit) : Unit := (if x1 ≤ c then s else (if x2 < (gI σ 79 0 (Int32.toNatClampNeg c)) then s else ()))
noncomputable def q_M_curve_126s (x1 : Int32) (x2 : Int32) (c : Int32) (σ : MSto) (s : Unit) : Nat := (if x1 ≤ c then 1 else (if x2 < (gI σ 79 0 (Int32.toNatClampNeg c)) then 1 else 0))
def g_M_curve_126 (x1 : Int32) (x2 : Int32) (c : Int32) (σ : MSto) (s : Unit) : Prop := (¬ (x1 ≤ c) → (vp_in c 60))
noncomputable def f_M_curve_126 (x1 : Int32) (x2 : Int32) (c0 : Int32) (σ : MSto) (s0 : Unit) (n : Nat) : Unit := nfold (fun i s => t_M_curve_126 x1 x2 (c0 + nI i) σ s) s0 n
noncomputable def n_M_curve_126 (x1 : Int32) (x2 : Int32) (c0 : Int32) (σ : MSto) (s0 : Unit) : Nat := leastN (fun i => q_M_curve_126s x1 x2 (c0 + nI i) σ (f_M_curve_126 x1 x2 c0 σ s0 i) = 1) 61
noncomputable def tj_M_curve_117j245 (x1 : Int32) (x2 : Int32) (σ : MSto) (s : MSto) : MSto := σ
noncomputable def qj_M_curve_117j245 (x1 : Int32) (x2 : Int32) (σ : MSto) : Nat := 0
noncomputable def tj_M_curve_117j147 (x1 : Int32) (x2 : Int32) (x3 : Int32) (σ : MSto) (s : MSto) : MSto := (if x3 = 0 then (tj_M_curve_117j245 x1 x2 (sI σ 41 0 (Int32.toNatClampNeg x2) (gI σ 80 0 (Int32.toNatClampNeg 0))) s) else (if x3 = x1 then (tj_M_curve_117j245 x1 x2 (sI σ 41 0 (Int32.toNatClampNeg x2) (gI σ 80 0 (Int32.toNatClampNeg (x1 - 1)))) s) else (tj_M_curve_117j245 x1 x2 (sI σ 41 0 (Int32.toNatClampNeg x2) ((gI σ 80 0 (Int32.toNatClampNeg (x3 - 1))) + ((((gI σ 80 0 (Int32.toNatClampNeg x3)) - (gI σ 80 0 (Int32.toNatClampNeg (x3 - 1)))) * (x2 - (gI σ 79 0 (Int32.toNatClampNeg (x3 - 1))))) / ((gI σ 79 0 (Int32.toNatClampNeg x3)) - (gI σ 79 0 (Int32.toNatClampNeg (x3 - 1))))))) s)))
noncomputable def qj_M_curve_117j147 (x1 : Int32) (x2 : Int32) (x3 : Int32) (σ : MSto) : Nat := 0
def gj_M_curve_117j147 (x1 : Int32) (x2 : Int32) (x3 : Int32) (σ : MSto) : Prop := (((x3 = 0) → ((vp_in 0 60) ∧ (vp_in x2 200))) ∧ (¬ (x3 = 0) → (((x3 = x1) → ((vp_in (x1 - 1) 60) ∧ (vp_in x2 200))) ∧ (¬ (x3 = x1) → ((vp_in (x3 - 1) 60) ∧ ((vp_in x3 60) ∧ ((vp_in (x3 - 1) 60) ∧ ((vp_in (x3 - 1) 60) ∧ ((vp_in x3 60) ∧ ((vp_in (x3 - 1) 60) ∧ ((¬ (((gI σ 79 0 (Int32.toNatClampNeg x3)) - (gI σ 79 0 (Int32.toNatClampNeg (x3 - 1)))) : Int32) = 0) ∧ (vp_in x2 200))))))))))))
noncomputable def t_M_curve_117 (x1 : Int32) (c : Int32) (s : MSto) : MSto := (if 200 ≤ c then s else (tj_M_curve_117j147 x1 c (0 + nI (n_M_curve_126 x1 c 0 s ())) s s))
noncomputable def q_M_curve_117s (x1 : Int32) (c : Int32) (s : MSto) : Nat := (if 200 ≤ c then 1 else 0)
def g_M_curve_117 (x1 : Int32) (c : Int32) (s : MSto) : Prop := (¬ (200 ≤ c) → ((∀ i, i < (n_M_curve_126 x1 c 0 s ()) → g_M_curve_126 x1 c (0 + nI i) s (f_M_curve_126 x1 c 0 s () i) ∧ ¬ q_M_curve_126s x1 c (0 + nI i) s (f_M_curve_126 x1 c 0 s () i) = 1) ∧ (((x1 ≤ (0 + nI (n_M_curve_126 x1 c 0 s ()))) → (gj_M_curve_117j147 x1 c (0 + nI (n_M_curve_126 x1 c 0 s ())) s)) ∧ (¬ (x1 ≤ (0 + nI (n_M_curve_126 x1 c 0 s ()))) → ((vp_in (0 + nI (n_M_curve_126 x1 c 0 s ())) 60) ∧ (((c < (gI s 79 0 (Int32.toNatClampNeg (0 + nI (n_M_curve_126 x1 c 0 s ()))))) → (gj_M_curve_117j147 x1 c (0 + nI (n_M_curve_126 x1 c 0 s ())) s)) ∧ (¬ (c < (gI s 79 0 (Int32.toNatClampNeg (0 + nI (n_M_curve_126 x1 c 0 s ()))))) → False)))))))
noncomputable def f_M_curve_117 (x1 : Int32) (c0 : Int32) (s0 : MSto) (n : Nat) : MSto := nfold (fun i s => t_M_curve_117 x1 (c0 + nI i) s) s0 n
noncomputable def n_M_curve_117 (x1 : Int32) (c0 : Int32) (s0 : MSto) : Nat := 200
noncomputable def tj_M_curve_13j64 (x1 : Int32) (σ : MSto) (s : MSto) : MSto := (if (v_M_passes 59 σ) = 0 then s else (e_M_passes 59 σ))
noncomputable def qj_M_curve_13j64 (x1 : Int32) (σ : MSto) : Nat := (if (v_M_passes 59 σ) = 0 then 1 else 0)
def gj_M_curve_13j64 (x1 : Int32) (σ : MSto) : Prop := (p_M_passes 59 σ)
noncomputable def tj_M_curve_13j37 (x1 : Int32) (y0 : Int32) (y2 : Int32) (σ : MSto) (s : MSto) : MSto := (tj_M_curve_13j64 x1 (sI (e_M_number 0 999 (e_M_need 58 (sI (e_M_number y0 199 σ) 79 0 (Int32.toNatClampNeg y2) (v_M_number y0 199 σ)))) 80 0 (Int32.toNatClampNeg x1) (v_M_number 0 999 (e_M_need 58 (sI (e_M_number y0 199 σ) 79 0 (Int32.toNatClampNeg y2) (v_M_number y0 199 σ))))) s)
noncomputable def qj_M_curve_13j37 (x1 : Int32) (y0 : Int32) (y2 : Int32) (σ : MSto) : Nat := (qj_M_curve_13j64 x1 (sI (e_M_number 0 999 (e_M_need 58 (sI (e_M_number y0 199 σ) 79 0 (Int32.toNatClampNeg y2) (v_M_number y0 199 σ)))) 80 0 (Int32.toNatClampNeg x1) (v_M_number 0 999 (e_M_need 58 (sI (e_M_number y0 199 σ) 79 0 (Int32.toNatClampNeg y2) (v_M_number y0 199 σ))))))
def gj_M_curve_13j37 (x1 : Int32) (y0 : Int32) (y2 : Int32) (σ : MSto) : Prop := ((p_M_number y0 199 σ) ∧ ((vp_in y2 60) ∧ ((p_M_need 58 (sI (e_M_number y0 199 σ) 79 0 (Int32.toNatClampNeg y2) (v_M_number y0 199 σ))) ∧ ((p_M_number 0 999 (e_M_need 58 (sI (e_M_number y0 199 σ) 79 0 (Int32.toNatClampNeg y2) (v_M_number y0 199 σ)))) ∧ ((vp_in x1 60) ∧ (gj_M_curve_13j64 x1 (sI (e_M_number 0 999 (e_M_need 58 (sI (e_M_number y0 199 σ) 79 0 (Int32.toNatClampNeg y2) (v_M_number y0 199 σ)))) 80 0 (Int32.toNatClampNeg x1) (v_M_number 0 999 (e_M_need 58 (sI (e_M_number y0 199 σ) 79 0 (Int32.toNatClampNeg y2) (v_M_number y0 199 σ)))))))))))
noncomputable def t_M_curve_13  (c : Int32) (s : MSto) : MSto := (if c = 0 then (tj_M_curve_13j37 c 0 c s s) else (tj_M_curve_13j37 c ((gI s 79 0 (Int32.toNatClampNeg (c - 1))) + 1) c s s))
noncomputable def q_M_curve_13s  (c : Int32) (s : MSto) : Nat := (if c = 0 then (qj_M_curve_13j37 c 0 c s) else (qj_M_curve_13j37 c ((gI s 79 0 (Int32.toNatClampNeg (c - 1))) + 1) c s))
def g_M_curve_13  (c : Int32) (s : MSto) : Prop := (((c = 0) → (gj_M_curve_13j37 c 0 c s)) ∧ (¬ (c = 0) → ((vp_in (c - 1) 60) ∧ (gj_M_curve_13j37 c ((gI s 79 0 (Int32.toNatClampNeg (c - 1))) + 1) c s))))
noncomputable def f_M_curve_13  (c0 : Int32) (s0 : MSto) (n : Nat) : MSto := nfold (fun i s => t_M_curve_13 (c0 + nI i) s) s0 n
noncomputable def n_M_curve_13  (c0 : Int32) (s0 : MSto) : Nat := leastN (fun i => q_M_curve_13s (c0 + nI i) (f_M_curve_13 c0 s0 i) = 1) 61
noncomputable def vj_M_curve_j64 (x1 : Int32) (σ : MSto) : Int32 := (if (gI (e_M_passes 59 σ) 13 0 53) ≤ (gI (e_M_passes 59 σ) 13 0 55) then (if (gI (e_M_passes 59 σ) 13 0 56) = (-1) then (x1 + 1) else ((-1) - (gI (e_M_passes 59 σ) 13 0 56))) else (if (gI (e_M_fault (gI (e_M_passes 59 σ) 13 0 55) (e_M_passes 59 σ)) 13 0 56) = (-1) then (x1 + 1) else ((-1) - (gI (e_M_fault (gI (e_M_passes 59 σ) 13 0 55) (e_M_passes 59 σ)) 13 0 56))))
noncomputable def ej_M_curve_j64 (x1 : Int32) (σ : MSto) : MSto := (if (gI (e_M_passes 59 σ) 13 0 53) ≤ (gI (e_M_passes 59 σ) 13 0 55) then (if (gI (e_M_passes 59 σ) 13 0 56) = (-1) then (f_M_curve_117 (x1 + 1) 0 (sI (e_M_passes 59 σ) 13 0 1 (x1 + 1)) (n_M_curve_117 (x1 + 1) 0 (sI (e_M_passes 59 σ) 13 0 1 (x1 + 1)))) else (e_M_passes 59 σ)) else (if (gI (e_M_fault (gI (e_M_passes 59 σ) 13 0 55) (e_M_passes 59 σ)) 13 0 56) = (-1) then (f_M_curve_117 (x1 + 1) 0 (sI (e_M_fault (gI (e_M_passes 59 σ) 13 0 55) (e_M_passes 59 σ)) 13 0 1 (x1 + 1)) (n_M_curve_117 (x1 + 1) 0 (sI (e_M_fault (gI (e_M_passes 59 σ) 13 0 55) (e_M_passes 59 σ)) 13 0 1 (x1 + 1)))) else (e_M_fault (gI (e_M_passes 59 σ) 13 0 55) (e_M_passes 59 σ))))
def gj_M_curve_j64 (x1 : Int32) (σ : MSto) : Prop := ((p_M_passes 59 σ) ∧ ((((v_M_passes 59 σ) = 0) → ((((gI (e_M_passes 59 σ) 13 0 53) ≤ (gI (e_M_passes 59 σ) 13 0 55)) → (((gI (e_M_passes 59 σ) 13 0 56) = (-1)) → ((∀ i, i < (n_M_curve_117 (x1 + 1) 0 (sI (e_M_passes 59 σ) 13 0 1 (x1 + 1))) → g_M_curve_117 (x1 + 1) (0 + nI i) (f_M_curve_117 (x1 + 1) 0 (sI (e_M_passes 59 σ) 13 0 1 (x1 + 1)) i) ∧ ¬ q_M_curve_117s (x1 + 1) (0 + nI i) (f_M_curve_117 (x1 + 1) 0 (sI (e_M_passes 59 σ) 13 0 1 (x1 + 1)) i) = 1) ∧ (¬ (200 ≤ (0 + nI (n_M_curve_117 (x1 + 1) 0 (sI (e_M_passes 59 σ) 13 0 1 (x1 + 1))))) → False)))) ∧ (¬ ((gI (e_M_passes 59 σ) 13 0 53) ≤ (gI (e_M_passes 59 σ) 13 0 55)) → (((gI (e_M_fault (gI (e_M_passes 59 σ) 13 0 55) (e_M_passes 59 σ)) 13 0 56) = (-1)) → ((∀ i, i < (n_M_curve_117 (x1 + 1) 0 (sI (e_M_fault (gI (e_M_passes 59 σ) 13 0 55) (e_M_passes 59 σ)) 13 0 1 (x1 + 1))) → g_M_curve_117 (x1 + 1) (0 + nI i) (f_M_curve_117 (x1 + 1) 0 (sI (e_M_fault (gI (e_M_passes 59 σ) 13 0 55) (e_M_passes 59 σ)) 13 0 1 (x1 + 1)) i) ∧ ¬ q_M_curve_117s (x1 + 1) (0 + nI i) (f_M_curve_117 (x1 + 1) 0 (sI (e_M_fault (gI (e_M_passes 59 σ) 13 0 55) (e_M_passes 59 σ)) 13 0 1 (x1 + 1)) i) = 1) ∧ (¬ (200 ≤ (0 + nI (n_M_curve_117 (x1 + 1) 0 (sI (e_M_fault (gI (e_M_passes 59 σ) 13 0 55) (e_M_passes 59 σ)) 13 0 1 (x1 + 1))))) → False)))))) ∧ (¬ ((v_M_passes 59 σ) = 0) → False)))
noncomputable def vj_M_curve_j37 (x1 : Int32) (y0 : Int32) (y2 : Int32) (σ : MSto) : Int32 := (vj_M_curve_j64 x1 (sI (e_M_number 0 999 (e_M_need 58 (sI (e_M_number y0 199 σ) 79 0 (Int32.toNatClampNeg y2) (v_M_number y0 199 σ)))) 80 0 (Int32.toNatClampNeg x1) (v_M_number 0 999 (e_M_need 58 (sI (e_M_number y0 199 σ) 79 0 (Int32.toNatClampNeg y2) (v_M_number y0 199 σ))))))
noncomputable def ej_M_curve_j37 (x1 : Int32) (y0 : Int32) (y2 : Int32) (σ : MSto) : MSto := (ej_M_curve_j64 x1 (sI (e_M_number 0 999 (e_M_need 58 (sI (e_M_number y0 199 σ) 79 0 (Int32.toNatClampNeg y2) (v_M_number y0 199 σ)))) 80 0 (Int32.toNatClampNeg x1) (v_M_number 0 999 (e_M_need 58 (sI (e_M_number y0 199 σ) 79 0 (Int32.toNatClampNeg y2) (v_M_number y0 199 σ))))))
def gj_M_curve_j37 (x1 : Int32) (y0 : Int32) (y2 : Int32) (σ : MSto) : Prop := ((p_M_number y0 199 σ) ∧ ((vp_in y2 60) ∧ ((p_M_need 58 (sI (e_M_number y0 199 σ) 79 0 (Int32.toNatClampNeg y2) (v_M_number y0 199 σ))) ∧ ((p_M_number 0 999 (e_M_need 58 (sI (e_M_number y0 199 σ) 79 0 (Int32.toNatClampNeg y2) (v_M_number y0 199 σ)))) ∧ ((vp_in x1 60) ∧ (gj_M_curve_j64 x1 (sI (e_M_number 0 999 (e_M_need 58 (sI (e_M_number y0 199 σ) 79 0 (Int32.toNatClampNeg y2) (v_M_number y0 199 σ)))) 80 0 (Int32.toNatClampNeg x1) (v_M_number 0 999 (e_M_need 58 (sI (e_M_number y0 199 σ) 79 0 (Int32.toNatClampNeg y2) (v_M_number y0 199 σ)))))))))))
noncomputable def v_M_curve  (σ : MSto) : Int32 := (if (0 + nI (n_M_curve_13 0 (e_M_begin 60 (sI σ 13 0 52 0)))) = 0 then (vj_M_curve_j37 (0 + nI (n_M_curve_13 0 (e_M_begin 60 (sI σ 13 0 52 0)))) 0 (0 + nI (n_M_curve_13 0 (e_M_begin 60 (sI σ 13 0 52 0)))) (f_M_curve_13 0 (e_M_begin 60 (sI σ 13 0 52 0)) (n_M_curve_13 0 (e_M_begin 60 (sI σ 13 0 52 0))))) else (vj_M_curve_j37 (0 + nI (n_M_curve_13 0 (e_M_begin 60 (sI σ 13 0 52 0)))) ((gI (f_M_curve_13 0 (e_M_begin 60 (sI σ 13 0 52 0)) (n_M_curve_13 0 (e_M_begin 60 (sI σ 13 0 52 0)))) 79 0 (Int32.toNatClampNeg ((0 + nI (n_M_curve_13 0 (e_M_begin 60 (sI σ 13 0 52 0)))) - 1))) + 1) (0 + nI (n_M_curve_13 0 (e_M_begin 60 (sI σ 13 0 52 0)))) (f_M_curve_13 0 (e_M_begin 60 (sI σ 13 0 52 0)) (n_M_curve_13 0 (e_M_begin 60 (sI σ 13 0 52 0))))))
def p_M_curve  (σ : MSto) : Prop := ((∀ i, i < (n_M_curve_13 0 (e_M_begin 60 (sI σ 13 0 52 0))) → g_M_curve_13 (0 + nI i) (f_M_curve_13 0 (e_M_begin 60 (sI σ 13 0 52 0)) i) ∧ ¬ q_M_curve_13s (0 + nI i) (f_M_curve_13 0 (e_M_begin 60 (sI σ 13 0 52 0)) i) = 1) ∧ ((((0 + nI (n_M_curve_13 0 (e_M_begin 60 (sI σ 13 0 52 0)))) = 0) → (gj_M_curve_j37 (0 + nI (n_M_curve_13 0 (e_M_begin 60 (sI σ 13 0 52 0)))) 0 (0 + nI (n_M_curve_13 0 (e_M_begin 60 (sI σ 13 0 52 0)))) (f_M_curve_13 0 (e_M_begin 60 (sI σ 13 0 52 0)) (n_M_curve_13 0 (e_M_begin 60 (sI σ 13 0 52 0)))))) ∧ (¬ ((0 + nI (n_M_curve_13 0 (e_M_begin 60 (sI σ 13 0 52 0)))) = 0) → ((vp_in ((0 + nI (n_M_curve_13 0 (e_M_begin 60 (sI σ 13 0 52 0)))) - 1) 60) ∧ (gj_M_curve_j37 (0 + nI (n_M_curve_13 0 (e_M_begin 60 (sI σ 13 0 52 0)))) ((gI (f_M_curve_13 0 (e_M_begin 60 (sI σ 13 0 52 0)) (n_M_curve_13 0 (e_M_begin 60 (sI σ 13 0 52 0)))) 79 0 (Int32.toNatClampNeg ((0 + nI (n_M_curve_13 0 (e_M_begin 60 (sI σ 13 0 52 0)))) - 1))) + 1) (0 + nI (n_M_curve_13 0 (e_M_begin 60 (sI σ 13 0 52 0)))) (f_M_curve_13 0 (e_M_begin 60 (sI σ 13 0 52 0)) (n_M_curve_13 0 (e_M_begin 60 (sI σ 13 0 52 0)))))))))
noncomputable def e_M_curve  (σ : MSto) : MSto := (if (0 + nI (n_M_curve_13 0 (e_M_begin 60 (sI σ 13 0 52 0)))) = 0 then (ej_M_curve_j37 (0 + nI (n_M_curve_13 0 (e_M_begin 60 (sI σ 13 0 52 0)))) 0 (0 + nI (n_M_curve_13 0 (e_M_begin 60 (sI σ 13 0 52 0)))) (f_M_curve_13 0 (e_M_begin 60 (sI σ 13 0 52 0)) (n_M_curve_13 0 (e_M_begin 60 (sI σ 13 0 52 0))))) else (ej_M_curve_j37 (0 + nI (n_M_curve_13 0 (e_M_begin 60 (sI σ 13 0 52 0)))) ((gI (f_M_curve_13 0 (e_M_begin 60 (sI σ 13 0 52 0)) (n_M_curve_13 0 (e_M_begin 60 (sI σ 13 0 52 0)))) 79 0 (Int32.toNatClampNeg ((0 + nI (n_M_curve_13 0 (e_M_begin 60 (sI σ 13 0 52 0)))) - 1))) + 1) (0 + nI (n_M_curve_13 0 (e_M_begin 60 (sI σ 13 0 52 0)))) (f_M_curve_13 0 (e_M_begin 60 (sI σ 13 0 52 0)) (n_M_curve_13 0 (e_M_begin 60 (sI σ 13 0 52 0))))))
noncomputable def S_M_curve : List MV → MSto → Option Prop × Option MV × MSto := fun as σ => match as with
  | [.inr (.inr (some (13, 0)))] => (some (p_M_curve σ), some (mI (v_M_curve σ)), e_M_curve σ)
  | _ => (some False, none, σ)
noncomputable def E_M_curve : MEnt := ((1, 0, 13), (3, 62, 0, 0), S_M_curve, ((⟨"ClothWithManModel", "curve", "()I"⟩ : MethodName), prog_14_method_21_code, 4, (some .int)))

def T_M_curve : Nat → Option (Instr × Nat × List Nat) := fun k => bif Nat.blt k 253 then (bif Nat.blt k 136 then (bif Nat.blt k 64 then (bif Nat.blt k 32 then (bif Nat.blt k 14 then (bif Nat.blt k 6 then (bif Nat.blt k 2 then (bif Nat.blt k 1 then (bif Nat.beq k 0 then some (.aload_n 0, 1, []) else none) else (bif Nat.beq k 1 then some (.iconst 0, 2, []) else none)) else (bif Nat.blt k 5 then (bif Nat.beq k 2 then some (.putfield 161, 5, []) else none) else (bif Nat.beq k 5 then some (.aload_n 0, 6, []) else none))) else (bif Nat.blt k 11 then (bif Nat.blt k 8 then (bif Nat.beq k 6 then some (.bipush 60, 8, []) else none) else (bif Nat.beq k 8 then some (.invokevirtual 221, 11, []) else none)) else (bif Nat.blt k 12 then (bif Nat.beq k 11 then some (.iconst 0, 12, []) else none) else (bif Nat.blt k 13 then (bif Nat.beq k 12 then some (.istore_n 1, 13, []) else none) else (bif Nat.beq k 13 then some (.aload_n 0, 14, []) else none))))) else (bif Nat.blt k 23 then (bif Nat.blt k 18 then (bif Nat.blt k 17 then (bif Nat.beq k 14 then some (.getfield 137, 17, []) else none) else (bif Nat.beq k 17 then some (.iload_n 1, 18, []) else none)) else (bif Nat.blt k 19 then (bif Nat.beq k 18 then some (.aload_n 0, 19, []) else none) else (bif Nat.blt k 20 then (bif Nat.beq k 19 then some (.iload_n 1, 20, []) else none) else (bif Nat.beq k 20 then some (.ifCond .ne 7, 23, [27]) else none)))) else (bif Nat.blt k 27 then (bif Nat.blt k 24 then (bif Nat.beq k 23 then some (.iconst 0, 24, []) else none) else (bif Nat.beq k 24 then some (.goto 13, 27, [37]) else none)) else (bif Nat.blt k 28 then (bif Nat.beq k 27 then some (.aload_n 0, 28, []) else none) else (bif Nat.blt k 31 then (bif Nat.beq k 28 then some (.getfield 137, 31, []) else none) else (bif Nat.beq k 31 then some (.iload_n 1, 32, []) else none)))))) else (bif Nat.blt k 45 then (bif Nat.blt k 36 then (bif Nat.blt k 34 then (bif Nat.blt k 33 then (bif Nat.beq k 32 then some (.iconst 1, 33, []) else none) else (bif Nat.beq k 33 then some (.isub, 34, []) else none)) else (bif Nat.blt k 35 then (bif Nat.beq k 34 then some (.iaload, 35, []) else none) else (bif Nat.beq k 35 then some (.iconst 1, 36, []) else none))) else (bif Nat.blt k 40 then (bif Nat.blt k 37 then (bif Nat.beq k 36 then some (.iadd, 37, []) else none) else (bif Nat.beq k 37 then some (.sipush 199, 40, []) else none)) else (bif Nat.blt k 43 then (bif Nat.beq k 40 then some (.invokevirtual 218, 43, []) else none) else (bif Nat.blt k 44 then (bif Nat.beq k 43 then some (.iastore, 44, []) else none) else (bif Nat.beq k 44 then some (.aload_n 0, 45, []) else none))))) else (bif Nat.blt k 55 then (bif Nat.blt k 50 then (bif Nat.blt k 47 then (bif Nat.beq k 45 then some (.bipush 58, 47, []) else none) else (bif Nat.beq k 47 then some (.invokevirtual 224, 50, []) else none)) else (bif Nat.blt k 51 then (bif Nat.beq k 50 then some (.aload_n 0, 51, []) else none) else (bif Nat.blt k 54 then (bif Nat.beq k 51 then some (.getfield 140, 54, []) else none) else (bif Nat.beq k 54 then some (.iload_n 1, 55, []) else none)))) else (bif Nat.blt k 57 then (bif Nat.blt k 56 then (bif Nat.beq k 55 then some (.aload_n 0, 56, []) else none) else (bif Nat.beq k 56 then some (.iconst 0, 57, []) else none)) else (bif Nat.blt k 60 then (bif Nat.beq k 57 then some (.sipush 999, 60, []) else none) else (bif Nat.blt k 63 then (bif Nat.beq k 60 then some (.invokevirtual 218, 63, []) else none) else (bif Nat.beq k 63 then some (.iastore, 64, []) else none))))))) else (bif Nat.blt k 104 then (bif Nat.blt k 84 then (bif Nat.blt k 73 then (bif Nat.blt k 68 then (bif Nat.blt k 67 then (bif Nat.beq k 64 then some (.iinc 1 1, 67, []) else none) else (bif Nat.beq k 67 then some (.aload_n 0, 68, []) else none)) else (bif Nat.blt k 70 then (bif Nat.beq k 68 then some (.bipush 59, 70, []) else none) else (bif Nat.beq k 70 then some (.invokevirtual 210, 73, []) else none))) else (bif Nat.blt k 77 then (bif Nat.blt k 76 then (bif Nat.beq k 73 then some (.ifCond .ne (-60), 76, [13]) else none) else (bif Nat.beq k 76 then some (.aload_n 0, 77, []) else none)) else (bif Nat.blt k 80 then (bif Nat.beq k 77 then some (.getfield 200, 80, []) else none) else (bif Nat.blt k 81 then (bif Nat.beq k 80 then some (.aload_n 0, 81, []) else none) else (bif Nat.beq k 81 then some (.getfield 194, 84, []) else none))))) else (bif Nat.blt k 95 then (bif Nat.blt k 88 then (bif Nat.blt k 87 then (bif Nat.beq k 84 then some (.if_icmp .ge 11, 87, [95]) else none) else (bif Nat.beq k 87 then some (.aload_n 0, 88, []) else none)) else (bif Nat.blt k 89 then (bif Nat.beq k 88 then some (.aload_n 0, 89, []) else none) else (bif Nat.blt k 92 then (bif Nat.beq k 89 then some (.getfield 200, 92, []) else none) else (bif Nat.beq k 92 then some (.invokevirtual 214, 95, []) else none)))) else (bif Nat.blt k 99 then (bif Nat.blt k 96 then (bif Nat.beq k 95 then some (.aload_n 0, 96, []) else none) else (bif Nat.beq k 96 then some (.getfield 203, 99, []) else none)) else (bif Nat.blt k 100 then (bif Nat.beq k 99 then some (.iconst (-1), 100, []) else none) else (bif Nat.blt k 103 then (bif Nat.beq k 100 then some (.if_icmp .eq 10, 103, [110]) else none) else (bif Nat.beq k 103 then some (.iconst (-1), 104, []) else none)))))) else (bif Nat.blt k 118 then (bif Nat.blt k 111 then (bif Nat.blt k 108 then (bif Nat.blt k 105 then (bif Nat.beq k 104 then some (.aload_n 0, 105, []) else none) else (bif Nat.beq k 105 then some (.getfield 203, 108, []) else none)) else (bif Nat.blt k 109 then (bif Nat.beq k 108 then some (.isub, 109, []) else none) else (bif Nat.blt k 110 then (bif Nat.beq k 109 then some (.ireturn, 110, []) else none) else (bif Nat.beq k 110 then some (.aload_n 0, 111, []) else none)))) else (bif Nat.blt k 115 then (bif Nat.blt k 112 then (bif Nat.beq k 111 then some (.iload_n 1, 112, []) else none) else (bif Nat.beq k 112 then some (.putfield 13, 115, []) else none)) else (bif Nat.blt k 116 then (bif Nat.beq k 115 then some (.iconst 0, 116, []) else none) else (bif Nat.blt k 117 then (bif Nat.beq k 116 then some (.istore_n 2, 117, []) else none) else (bif Nat.beq k 117 then some (.iload_n 2, 118, []) else none))))) else (bif Nat.blt k 127 then (bif Nat.blt k 124 then (bif Nat.blt k 121 then (bif Nat.beq k 118 then some (.sipush 200, 121, []) else none) else (bif Nat.beq k 121 then some (.if_icmp .ge 130, 124, [251]) else none)) else (bif Nat.blt k 125 then (bif Nat.beq k 124 then some (.iconst 0, 125, []) else none) else (bif Nat.blt k 126 then (bif Nat.beq k 125 then some (.istore_n 3, 126, []) else none) else (bif Nat.beq k 126 then some (.iload_n 3, 127, []) else none)))) else (bif Nat.blt k 131 then (bif Nat.blt k 128 then (bif Nat.beq k 127 then some (.iload_n 1, 128, []) else none) else (bif Nat.beq k 128 then some (.if_icmp .ge 19, 131, [147]) else none)) else (bif Nat.blt k 132 then (bif Nat.beq k 131 then some (.aload_n 0, 132, []) else none) else (bif Nat.blt k 135 then (bif Nat.beq k 132 then some (.getfield 137, 135, []) else none) else (bif Nat.beq k 135 then some (.iload_n 3, 136, []) else none)))))))) else (bif Nat.blt k 200 then (bif Nat.blt k 171 then (bif Nat.blt k 155 then (bif Nat.blt k 144 then (bif Nat.blt k 138 then (bif Nat.blt k 137 then (bif Nat.beq k 136 then some (.iaload, 137, []) else none) else (bif Nat.beq k 137 then some (.iload_n 2, 138, []) else none)) else (bif Nat.blt k 141 then (bif Nat.beq k 138 then some (.if_icmp .gt 9, 141, [147]) else none) else (bif Nat.beq k 141 then some (.iinc 3 1, 144, []) else none))) else (bif Nat.blt k 148 then (bif Nat.blt k 147 then (bif Nat.beq k 144 then some (.goto (-18), 147, [126]) else none) else (bif Nat.beq k 147 then some (.iload_n 3, 148, []) else none)) else (bif Nat.blt k 151 then (bif Nat.beq k 148 then some (.ifCond .ne 18, 151, [166]) else none) else (bif Nat.blt k 152 then (bif Nat.beq k 151 then some (.aload_n 0, 152, []) else none) else (bif Nat.beq k 152 then some (.getfield 9, 155, []) else none))))) else (bif Nat.blt k 162 then (bif Nat.blt k 157 then (bif Nat.blt k 156 then (bif Nat.beq k 155 then some (.iload_n 2, 156, []) else none) else (bif Nat.beq k 156 then some (.aload_n 0, 157, []) else none)) else (bif Nat.blt k 160 then (bif Nat.beq k 157 then some (.getfield 140, 160, []) else none) else (bif Nat.blt k 161 then (bif Nat.beq k 160 then some (.iconst 0, 161, []) else none) else (bif Nat.beq k 161 then some (.iaload, 162, []) else none)))) else (bif Nat.blt k 166 then (bif Nat.blt k 163 then (bif Nat.beq k 162 then some (.iastore, 163, []) else none) else (bif Nat.beq k 163 then some (.goto 82, 166, [245]) else none)) else (bif Nat.blt k 167 then (bif Nat.beq k 166 then some (.iload_n 3, 167, []) else none) else (bif Nat.blt k 168 then (bif Nat.beq k 167 then some (.iload_n 1, 168, []) else none) else (bif Nat.beq k 168 then some (.if_icmp .ne 20, 171, [188]) else none)))))) else (bif Nat.blt k 184 then (bif Nat.blt k 177 then (bif Nat.blt k 175 then (bif Nat.blt k 172 then (bif Nat.beq k 171 then some (.aload_n 0, 172, []) else none) else (bif Nat.beq k 172 then some (.getfield 9, 175, []) else none)) else (bif Nat.blt k 176 then (bif Nat.beq k 175 then some (.iload_n 2, 176, []) else none) else (bif Nat.beq k 176 then some (.aload_n 0, 177, []) else none))) else (bif Nat.blt k 181 then (bif Nat.blt k 180 then (bif Nat.beq k 177 then some (.getfield 140, 180, []) else none) else (bif Nat.beq k 180 then some (.iload_n 1, 181, []) else none)) else (bif Nat.blt k 182 then (bif Nat.beq k 181 then some (.iconst 1, 182, []) else none) else (bif Nat.blt k 183 then (bif Nat.beq k 182 then some (.isub, 183, []) else none) else (bif Nat.beq k 183 then some (.iaload, 184, []) else none))))) else (bif Nat.blt k 193 then (bif Nat.blt k 188 then (bif Nat.blt k 185 then (bif Nat.beq k 184 then some (.iastore, 185, []) else none) else (bif Nat.beq k 185 then some (.goto 60, 188, [245]) else none)) else (bif Nat.blt k 189 then (bif Nat.beq k 188 then some (.aload_n 0, 189, []) else none) else (bif Nat.blt k 192 then (bif Nat.beq k 189 then some (.getfield 9, 192, []) else none) else (bif Nat.beq k 192 then some (.iload_n 2, 193, []) else none)))) else (bif Nat.blt k 197 then (bif Nat.blt k 194 then (bif Nat.beq k 193 then some (.aload_n 0, 194, []) else none) else (bif Nat.beq k 194 then some (.getfield 140, 197, []) else none)) else (bif Nat.blt k 198 then (bif Nat.beq k 197 then some (.iload_n 3, 198, []) else none) else (bif Nat.blt k 199 then (bif Nat.beq k 198 then some (.iconst 1, 199, []) else none) else (bif Nat.beq k 199 then some (.isub, 200, []) else none))))))) else (bif Nat.blt k 225 then (bif Nat.blt k 213 then (bif Nat.blt k 206 then (bif Nat.blt k 202 then (bif Nat.blt k 201 then (bif Nat.beq k 200 then some (.iaload, 201, []) else none) else (bif Nat.beq k 201 then some (.aload_n 0, 202, []) else none)) else (bif Nat.blt k 205 then (bif Nat.beq k 202 then some (.getfield 140, 205, []) else none) else (bif Nat.beq k 205 then some (.iload_n 3, 206, []) else none))) else (bif Nat.blt k 208 then (bif Nat.blt k 207 then (bif Nat.beq k 206 then some (.iaload, 207, []) else none) else (bif Nat.beq k 207 then some (.aload_n 0, 208, []) else none)) else (bif Nat.blt k 211 then (bif Nat.beq k 208 then some (.getfield 140, 211, []) else none) else (bif Nat.blt k 212 then (bif Nat.beq k 211 then some (.iload_n 3, 212, []) else none) else (bif Nat.beq k 212 then some (.iconst 1, 213, []) else none))))) else (bif Nat.blt k 218 then (bif Nat.blt k 215 then (bif Nat.blt k 214 then (bif Nat.beq k 213 then some (.isub, 214, []) else none) else (bif Nat.beq k 214 then some (.iaload, 215, []) else none)) else (bif Nat.blt k 216 then (bif Nat.beq k 215 then some (.isub, 216, []) else none) else (bif Nat.blt k 217 then (bif Nat.beq k 216 then some (.iload_n 2, 217, []) else none) else (bif Nat.beq k 217 then some (.aload_n 0, 218, []) else none)))) else (bif Nat.blt k 222 then (bif Nat.blt k 221 then (bif Nat.beq k 218 then some (.getfield 137, 221, []) else none) else (bif Nat.beq k 221 then some (.iload_n 3, 222, []) else none)) else (bif Nat.blt k 223 then (bif Nat.beq k 222 then some (.iconst 1, 223, []) else none) else (bif Nat.blt k 224 then (bif Nat.beq k 223 then some (.isub, 224, []) else none) else (bif Nat.beq k 224 then some (.iaload, 225, []) else none)))))) else (bif Nat.blt k 239 then (bif Nat.blt k 232 then (bif Nat.blt k 227 then (bif Nat.blt k 226 then (bif Nat.beq k 225 then some (.isub, 226, []) else none) else (bif Nat.beq k 226 then some (.imul, 227, []) else none)) else (bif Nat.blt k 228 then (bif Nat.beq k 227 then some (.aload_n 0, 228, []) else none) else (bif Nat.blt k 231 then (bif Nat.beq k 228 then some (.getfield 137, 231, []) else none) else (bif Nat.beq k 231 then some (.iload_n 3, 232, []) else none)))) else (bif Nat.blt k 234 then (bif Nat.blt k 233 then (bif Nat.beq k 232 then some (.iaload, 233, []) else none) else (bif Nat.beq k 233 then some (.aload_n 0, 234, []) else none)) else (bif Nat.blt k 237 then (bif Nat.beq k 234 then some (.getfield 137, 237, []) else none) else (bif Nat.blt k 238 then (bif Nat.beq k 237 then some (.iload_n 3, 238, []) else none) else (bif Nat.beq k 238 then some (.iconst 1, 239, []) else none))))) else (bif Nat.blt k 244 then (bif Nat.blt k 241 then (bif Nat.blt k 240 then (bif Nat.beq k 239 then some (.isub, 240, []) else none) else (bif Nat.beq k 240 then some (.iaload, 241, []) else none)) else (bif Nat.blt k 242 then (bif Nat.beq k 241 then some (.isub, 242, []) else none) else (bif Nat.blt k 243 then (bif Nat.beq k 242 then some (.idiv, 243, []) else none) else (bif Nat.beq k 243 then some (.iadd, 244, []) else none)))) else (bif Nat.blt k 248 then (bif Nat.blt k 245 then (bif Nat.beq k 244 then some (.iastore, 245, []) else none) else (bif Nat.beq k 245 then some (.iinc 2 1, 248, []) else none)) else (bif Nat.blt k 251 then (bif Nat.beq k 248 then some (.goto (-131), 251, [117]) else none) else (bif Nat.blt k 252 then (bif Nat.beq k 251 then some (.iload_n 1, 252, []) else none) else (bif Nat.beq k 252 then some (.ireturn, 253, []) else none))))))))) else none
noncomputable def P_M_curve : MP := (T_M_curve, (fun k => mLook k [(9, (13, 0, (.array .int), true)), (13, (13, 1, .int, false)), (137, (13, 57, (.array .int), true)), (140, (13, 58, (.array .int), true)), (161, (13, 52, .int, false)), (194, (13, 53, .int, false)), (200, (13, 55, .int, false)), (203, (13, 56, .int, false))]), (fun k => mLook k []), (fun k => mLook k [(210, E_M_passes), (214, E_M_fault), (218, E_M_number), (221, E_M_begin), (224, E_M_need)]), (fun k => mLook k []), (fun k => mLook k []), (fun k => mLook k []), (fun k => mLook k [(13, [true, true, false, false]), (37, [true, true, false, false]), (64, [true, true, false, false]), (117, [true, true, true, false]), (126, [true, true, true, true]), (147, [true, true, true, true]), (245, [true, true, true, false])]), (fun k => [109, 252].any (Nat.beq k)), (3, 62, 0, 0), false, (fun _ => none))
set_option maxRecDepth 100000 in
set_option maxHeartbeats 4000000 in
theorem q_M_curve_e  (σ : MSto) (n : Nat) : mexe KT P_M_curve (n + 1) (0, [some (mR 13 0), none, none, none], [], σ, 0, 0) = mexe KT P_M_curve n (13, [some (mR 13 0), some (mI 0), none, none], [], (e_M_begin 60 (sI σ 13 0 52 0)), 0, 0) := rfl
set_option maxRecDepth 100000 in
set_option maxHeartbeats 4000000 in
theorem q_M_curve_13 (x1 : Int32) (σ : MSto) (n : Nat) : mexe KT P_M_curve (n + 1) (13, [some (mR 13 0), some (mI x1), none, none], [], σ, 0, 0) = mIf (x1 = 0) (mexe KT P_M_curve n (37, [some (mR 13 0), some (mI x1), none, none], [(mI 0), (mR 13 0), (mI x1), (mR 79 0)], σ, 0, 0)) (mG (vp_in (x1 - 1) 60) (mexe KT P_M_curve n (37, [some (mR 13 0), some (mI x1), none, none], [(mI ((gI σ 79 0 (Int32.toNatClampNeg (x1 - 1))) + 1)), (mR 13 0), (mI x1), (mR 79 0)], σ, 0, 0))) := rfl
set_option maxRecDepth 100000 in
set_option maxHeartbeats 4000000 in
theorem q_M_curve_37 (x1 : Int32) (y0 : Int32) (y2 : Int32) (σ : MSto) (n : Nat) : mexe KT P_M_curve (n + 1) (37, [some (mR 13 0), some (mI x1), none, none], [(mI y0), (mR 13 0), (mI y2), (mR 79 0)], σ, 0, 0) = mG (p_M_number y0 199 σ) (mG (vp_in y2 60) (mG (p_M_need 58 (sI (e_M_number y0 199 σ) 79 0 (Int32.toNatClampNeg y2) (v_M_number y0 199 σ))) (mG (p_M_number 0 999 (e_M_need 58 (sI (e_M_number y0 199 σ) 79 0 (Int32.toNatClampNeg y2) (v_M_number y0 199 σ)))) (mG (vp_in x1 60) (mexe KT P_M_curve n (64, [some (mR 13 0), some (mI x1), none, none], [], (sI (e_M_number 0 999 (e_M_need 58 (sI (e_M_number y0 199 σ) 79 0 (Int32.toNatClampNeg y2) (v_M_number y0 199 σ)))) 80 0 (Int32.toNatClampNeg x1) (v_M_number 0 999 (e_M_need 58 (sI (e_M_number y0 199 σ) 79 0 (Int32.toNatClampNeg y2) (v_M_number y0 199 σ))))), 0, 0)))))) := rfl
set_option maxRecDepth 100000 in
set_option maxHeartbeats 4000000 in
theorem q_M_curve_64 (x1 : Int32) (σ : MSto) (n : Nat) : mexe KT P_M_curve (n + 1) (64, [some (mR 13 0), some (mI x1), none, none], [], σ, 0, 0) = mG (p_M_passes 59 σ) (mIf ((v_M_passes 59 σ) = 0) (mIf ((gI (e_M_passes 59 σ) 13 0 53) ≤ (gI (e_M_passes 59 σ) 13 0 55)) (mIf ((gI (e_M_passes 59 σ) 13 0 56) = (-1)) (mexe KT P_M_curve n (117, [some (mR 13 0), some (mI (x1 + 1)), some (mI 0), none], [], (sI (e_M_passes 59 σ) 13 0 1 (x1 + 1)), 0, 0)) (some (109, [], [(mI ((-1) - (gI (e_M_passes 59 σ) 13 0 56)))], (e_M_passes 59 σ), 0, 0))) (mIf ((gI (e_M_fault (gI (e_M_passes 59 σ) 13 0 55) (e_M_passes 59 σ)) 13 0 56) = (-1)) (mexe KT P_M_curve n (117, [some (mR 13 0), some (mI (x1 + 1)), some (mI 0), none], [], (sI (e_M_fault (gI (e_M_passes 59 σ) 13 0 55) (e_M_passes 59 σ)) 13 0 1 (x1 + 1)), 0, 0)) (some (109, [], [(mI ((-1) - (gI (e_M_fault (gI (e_M_passes 59 σ) 13 0 55) (e_M_passes 59 σ)) 13 0 56)))], (e_M_fault (gI (e_M_passes 59 σ) 13 0 55) (e_M_passes 59 σ)), 0, 0)))) (mexe KT P_M_curve n (13, [some (mR 13 0), some (mI (x1 + 1)), none, none], [], (e_M_passes 59 σ), 0, 0))) := rfl
set_option maxRecDepth 100000 in
set_option maxHeartbeats 4000000 in
theorem q_M_curve_117 (x1 : Int32) (x2 : Int32) (σ : MSto) (n : Nat) : mexe KT P_M_curve (n + 1) (117, [some (mR 13 0), some (mI x1), some (mI x2), none], [], σ, 0, 0) = mIf (200 ≤ x2) (some (252, [], [(mI x1)], σ, 0, 0)) (mexe KT P_M_curve n (126, [some (mR 13 0), some (mI x1), some (mI x2), some (mI 0)], [], σ, 0, 0)) := rfl
set_option maxRecDepth 100000 in
set_option maxHeartbeats 4000000 in
theorem q_M_curve_126 (x1 : Int32) (x2 : Int32) (x3 : Int32) (σ : MSto) (n : Nat) : mexe KT P_M_curve (n + 1) (126, [some (mR 13 0), some (mI x1), some (mI x2), some (mI x3)], [], σ, 0, 0) = mIf (x1 ≤ x3) (mexe KT P_M_curve n (147, [some (mR 13 0), some (mI x1), some (mI x2), some (mI x3)], [], σ, 0, 0)) (mG (vp_in x3 60) (mIf (x2 < (gI σ 79 0 (Int32.toNatClampNeg x3))) (mexe KT P_M_curve n (147, [some (mR 13 0), some (mI x1), some (mI x2), some (mI x3)], [], σ, 0, 0)) (mexe KT P_M_curve n (126, [some (mR 13 0), some (mI x1), some (mI x2), some (mI (x3 + 1))], [], σ, 0, 0)))) := rfl
set_option maxRecDepth 100000 in
set_option maxHeartbeats 4000000 in
theorem q_M_curve_147 (x1 : Int32) (x2 : Int32) (x3 : Int32) (σ : MSto) (n : Nat) : mexe KT P_M_curve (n + 1) (147, [some (mR 13 0), some (mI x1), some (mI x2), some (mI x3)], [], σ, 0, 0) = mIf (x3 = 0) (mG (vp_in 0 60) (mG (vp_in x2 200) (mexe KT P_M_curve n (245, [some (mR 13 0), some (mI x1), some (mI x2), none], [], (sI σ 41 0 (Int32.toNatClampNeg x2) (gI σ 80 0 (Int32.toNatClampNeg 0))), 0, 0)))) (mIf (x3 = x1) (mG (vp_in (x1 - 1) 60) (mG (vp_in x2 200) (mexe KT P_M_curve n (245, [some (mR 13 0), some (mI x1), some (mI x2), none], [], (sI σ 41 0 (Int32.toNatClampNeg x2) (gI σ 80 0 (Int32.toNatClampNeg (x1 - 1)))), 0, 0)))) (mG (vp_in (x3 - 1) 60) (mG (vp_in x3 60) (mG (vp_in (x3 - 1) 60) (mG (vp_in (x3 - 1) 60) (mG (vp_in x3 60) (mG (vp_in (x3 - 1) 60) (mG (¬ (((gI σ 79 0 (Int32.toNatClampNeg x3)) - (gI σ 79 0 (Int32.toNatClampNeg (x3 - 1)))) : Int32) = 0) (mG (vp_in x2 200) (mexe KT P_M_curve n (245, [some (mR 13 0), some (mI x1), some (mI x2), none], [], (sI σ 41 0 (Int32.toNatClampNeg x2) ((gI σ 80 0 (Int32.toNatClampNeg (x3 - 1))) + ((((gI σ 80 0 (Int32.toNatClampNeg x3)) - (gI σ 80 0 (Int32.toNatClampNeg (x3 - 1)))) * (x2 - (gI σ 79 0 (Int32.toNatClampNeg (x3 - 1))))) / ((gI σ 79 0 (Int32.toNatClampNeg x3)) - (gI σ 79 0 (Int32.toNatClampNeg (x3 - 1))))))), 0, 0))))))))))) := rfl
set_option maxRecDepth 100000 in
set_option maxHeartbeats 4000000 in
theorem q_M_curve_245 (x1 : Int32) (x2 : Int32) (σ : MSto) (n : Nat) : mexe KT P_M_curve (n + 1) (245, [some (mR 13 0), some (mI x1), some (mI x2), none], [], σ, 0, 0) = mexe KT P_M_curve n (117, [some (mR 13 0), some (mI x1), some (mI (x2 + 1)), none], [], σ, 0, 0) := rfl
set_option maxRecDepth 100000 in
theorem lt_M_curve_126 {Post : MST → Prop} (x1 : Int32) (x2 : Int32) (c : Int32) (σ : MSto) (s : Unit) (hp : g_M_curve_126 x1 x2 c σ s) (hq : ¬ q_M_curve_126s x1 x2 c σ s = 1) (hn : ∀ r, t_M_curve_126 x1 x2 c σ s = r → mW1 P_M_curve (126, [some (mR 13 0), some (mI x1), some (mI x2), some (mI (c + 1))], [], σ, 0, 0) Post) : mW1 P_M_curve (126, [some (mR 13 0), some (mI x1), some (mI x2), some (mI c)], [], σ, 0, 0) Post := by
  unfold g_M_curve_126 at hp
  refine mW1_eq (q_M_curve_126 _ _ _ _) ?_
  refine mTr_if (fun h0 => ?_) (fun h0 => ?_)
  · skip
    exact absurd (if_pos h0) hq
  · skip
    have hp := hp h0
    refine mTr_g hp ?_
    refine mTr_if (fun h1 => ?_) (fun h1 => ?_)
    · skip
      exact absurd ((if_neg h0).trans (if_pos h1)) hq
    · skip
      exact mTr_k (hn () ((if_neg h0).trans (if_neg h1)))
theorem lp_M_curve_126 {Post : MST → Prop} (x1 : Int32) (x2 : Int32) (c0 : Int32) (σ : MSto) (s0 : Unit) (N : Nat) (hb : ∀ i, i < N → g_M_curve_126 x1 x2 (c0 + nI i) σ (f_M_curve_126 x1 x2 c0 σ s0 i) ∧ ¬ q_M_curve_126s x1 x2 (c0 + nI i) σ (f_M_curve_126 x1 x2 c0 σ s0 i) = 1) (h : mW1 P_M_curve (126, [some (mR 13 0), some (mI x1), some (mI x2), some (mI (c0 + nI N))], [], σ, 0, 0) Post) : mW1 P_M_curve (126, [some (mR 13 0), some (mI x1), some (mI x2), some (mI c0)], [], σ, 0, 0) Post := by
  refine mW1_st (mW1_loop (fun i => (126, [some (mR 13 0), some (mI x1), some (mI x2), some (mI (c0 + nI i))], [], σ, 0, 0)) N (fun i hlt hn => ?_) h) (by rw [show nI 0 = 0 from rfl, Int32.add_zero] <;> rfl)
  refine lt_M_curve_126 x1 x2 _ σ _ (hb i hlt).1 (hb i hlt).2 (fun r hr => ?_)
  rw [Int32.add_assoc, nI_s]
  subst hr
  exact hn
set_option maxRecDepth 100000 in
theorem lj_M_curve_117j245 {Post : MST → Prop} (x1 : Int32) (x2 : Int32) (σ : MSto) (s : MSto) (hq : ¬ 0 = 1) (hn : ∀ r, tj_M_curve_117j245 x1 x2 σ s = r → mW1 P_M_curve (117, [some (mR 13 0), some (mI x1), some (mI (x2 + 1)), none], [], r, 0, 0) Post) : mW1 P_M_curve (245, [some (mR 13 0), some (mI x1), some (mI x2), none], [], σ, 0, 0) Post := by
  refine mW1_eq (q_M_curve_245 _ _ _) ?_
  exact mTr_k (hn σ (rfl))
set_option maxRecDepth 100000 in
theorem lj_M_curve_117j147 {Post : MST → Prop} (x1 : Int32) (x2 : Int32) (x3 : Int32) (σ : MSto) (s : MSto) (hp : gj_M_curve_117j147 x1 x2 x3 σ) (hq : ¬ 0 = 1) (hn : ∀ r, tj_M_curve_117j147 x1 x2 x3 σ s = r → mW1 P_M_curve (117, [some (mR 13 0), some (mI x1), some (mI (x2 + 1)), none], [], r, 0, 0) Post) : mW1 P_M_curve (147, [some (mR 13 0), some (mI x1), some (mI x2), some (mI x3)], [], σ, 0, 0) Post := by
  unfold gj_M_curve_117j147 at hp
  refine mW1_eq (q_M_curve_147 _ _ _ _) ?_
  refine mTr_if (fun h0 => ?_) (fun h0 => ?_)
  · skip
    have hp := hp.1 h0
    refine mTr_g hp.1 ?_
    have hp := hp.2
    refine mTr_g hp ?_
    exact mTr_k (lj_M_curve_117j245 x1 x2 (sI σ 41 0 (Int32.toNatClampNeg x2) (gI σ 80 0 (Int32.toNatClampNeg 0))) s hq (fun r zr => hn r ((if_pos h0).trans zr)))
  · skip
    have hp := hp.2 h0
    refine mTr_if (fun h1 => ?_) (fun h1 => ?_)
    · skip
      have hp := hp.1 h1
      refine mTr_g hp.1 ?_
      have hp := hp.2
      refine mTr_g hp ?_
      exact mTr_k (lj_M_curve_117j245 x1 x2 (sI σ 41 0 (Int32.toNatClampNeg x2) (gI σ 80 0 (Int32.toNatClampNeg (x1 - 1)))) s hq (fun r zr => hn r (((if_neg h0).trans (if_pos h1)).trans zr)))
    · skip
      have hp := hp.2 h1
      refine mTr_g hp.1 ?_
      have hp := hp.2
      refine mTr_g hp.1 ?_
      have hp := hp.2
      refine mTr_g hp.1 ?_
      have hp := hp.2
      refine mTr_g hp.1 ?_
      have hp := hp.2
      refine mTr_g hp.1 ?_
      have hp := hp.2
      refine mTr_g hp.1 ?_
      have hp := hp.2
      refine mTr_g hp.1 ?_
      have hp := hp.2
      refine mTr_g hp ?_
      exact mTr_k (lj_M_curve_117j245 x1 x2 (sI σ 41 0 (Int32.toNatClampNeg x2) ((gI σ 80 0 (Int32.toNatClampNeg (x3 - 1))) + ((((gI σ 80 0 (Int32.toNatClampNeg x3)) - (gI σ 80 0 (Int32.toNatClampNeg (x3 - 1)))) * (x2 - (gI σ 79 0 (Int32.toNatClampNeg (x3 - 1))))) / ((gI σ 79 0 (Int32.toNatClampNeg x3)) - (gI σ 79 0 (Int32.toNatClampNeg (x3 - 1))))))) s hq (fun r zr => hn r (((if_neg h0).trans (if_neg h1)).trans zr)))
set_option maxRecDepth 100000 in
theorem lt_M_curve_117 {Post : MST → Prop} (x1 : Int32) (c : Int32) (s : MSto) (hp : g_M_curve_117 x1 c s) (hq : ¬ q_M_curve_117s x1 c s = 1) (hn : ∀ r, t_M_curve_117 x1 c s = r → mW1 P_M_curve (117, [some (mR 13 0), some (mI x1), some (mI (c + 1)), none], [], r, 0, 0) Post) : mW1 P_M_curve (117, [some (mR 13 0), some (mI x1), some (mI c), none], [], s, 0, 0) Post := by
  unfold g_M_curve_117 at hp
  refine mW1_eq (q_M_curve_117 _ _ _) ?_
  refine mTr_if (fun h0 => ?_) (fun h0 => ?_)
  · skip
    exact absurd (if_pos h0) hq
  · skip
    have hp := hp h0
    refine mTr_k (lp_M_curve_126 x1 c 0 s () (n_M_curve_126 x1 c 0 s ()) hp.1 ?_)
    have hp := hp.2
    refine mW1_eq (q_M_curve_126 _ _ _ _) ?_
    refine mTr_if (fun h1 => ?_) (fun h1 => ?_)
    · skip
      have hp := hp.1 h1
      exact mTr_k (lj_M_curve_117j147 x1 c (0 + nI (n_M_curve_126 x1 c 0 s ())) s s hp (fun z => hq ((if_neg h0).trans z)) (fun r zr => hn r ((if_neg h0).trans zr)))
    · skip
      have hp := hp.2 h1
      refine mTr_g hp.1 ?_
      have hp := hp.2
      refine mTr_if (fun h2 => ?_) (fun h2 => ?_)
      · skip
        have hp := hp.1 h2
        exact mTr_k (lj_M_curve_117j147 x1 c (0 + nI (n_M_curve_126 x1 c 0 s ())) s s hp (fun z => hq ((if_neg h0).trans z)) (fun r zr => hn r ((if_neg h0).trans zr)))
      · skip
        have hp := hp.2 h2
        exact hp.elim
theorem lp_M_curve_117 {Post : MST → Prop} (x1 : Int32) (c0 : Int32) (s0 : MSto) (N : Nat) (hb : ∀ i, i < N → g_M_curve_117 x1 (c0 + nI i) (f_M_curve_117 x1 c0 s0 i) ∧ ¬ q_M_curve_117s x1 (c0 + nI i) (f_M_curve_117 x1 c0 s0 i) = 1) (h : mW1 P_M_curve (117, [some (mR 13 0), some (mI x1), some (mI (c0 + nI N)), none], [], (f_M_curve_117 x1 c0 s0 N), 0, 0) Post) : mW1 P_M_curve (117, [some (mR 13 0), some (mI x1), some (mI c0), none], [], s0, 0, 0) Post := by
  refine mW1_st (mW1_loop (fun i => (117, [some (mR 13 0), some (mI x1), some (mI (c0 + nI i)), none], [], (f_M_curve_117 x1 c0 s0 i), 0, 0)) N (fun i hlt hn => ?_) h) (by rw [show nI 0 = 0 from rfl, Int32.add_zero] <;> rfl)
  refine lt_M_curve_117 x1 _ _ (hb i hlt).1 (hb i hlt).2 (fun r hr => ?_)
  rw [Int32.add_assoc, nI_s]
  subst hr
  exact hn
set_option maxRecDepth 100000 in
theorem lj_M_curve_13j64 {Post : MST → Prop} (x1 : Int32) (σ : MSto) (s : MSto) (hp : gj_M_curve_13j64 x1 σ) (hq : ¬ qj_M_curve_13j64 x1 σ = 1) (hn : ∀ r, tj_M_curve_13j64 x1 σ s = r → mW1 P_M_curve (13, [some (mR 13 0), some (mI (x1 + 1)), none, none], [], r, 0, 0) Post) : mW1 P_M_curve (64, [some (mR 13 0), some (mI x1), none, none], [], σ, 0, 0) Post := by
  unfold gj_M_curve_13j64 at hp
  refine mW1_eq (q_M_curve_64 _ _) ?_
  refine mTr_g hp ?_
  refine mTr_if (fun h0 => ?_) (fun h0 => ?_)
  · skip
    exact absurd (if_pos h0) hq
  · skip
    exact mTr_k (hn (e_M_passes 59 σ) (if_neg h0))
set_option maxRecDepth 100000 in
theorem lj_M_curve_13j37 {Post : MST → Prop} (x1 : Int32) (y0 : Int32) (y2 : Int32) (σ : MSto) (s : MSto) (hp : gj_M_curve_13j37 x1 y0 y2 σ) (hq : ¬ qj_M_curve_13j37 x1 y0 y2 σ = 1) (hn : ∀ r, tj_M_curve_13j37 x1 y0 y2 σ s = r → mW1 P_M_curve (13, [some (mR 13 0), some (mI (x1 + 1)), none, none], [], r, 0, 0) Post) : mW1 P_M_curve (37, [some (mR 13 0), some (mI x1), none, none], [(mI y0), (mR 13 0), (mI y2), (mR 79 0)], σ, 0, 0) Post := by
  unfold gj_M_curve_13j37 at hp
  refine mW1_eq (q_M_curve_37 _ _ _ _) ?_
  refine mTr_g hp.1 ?_
  have hp := hp.2
  refine mTr_g hp.1 ?_
  have hp := hp.2
  refine mTr_g hp.1 ?_
  have hp := hp.2
  refine mTr_g hp.1 ?_
  have hp := hp.2
  refine mTr_g hp.1 ?_
  have hp := hp.2
  exact mTr_k (lj_M_curve_13j64 x1 (sI (e_M_number 0 999 (e_M_need 58 (sI (e_M_number y0 199 σ) 79 0 (Int32.toNatClampNeg y2) (v_M_number y0 199 σ)))) 80 0 (Int32.toNatClampNeg x1) (v_M_number 0 999 (e_M_need 58 (sI (e_M_number y0 199 σ) 79 0 (Int32.toNatClampNeg y2) (v_M_number y0 199 σ))))) s hp hq hn)
set_option maxRecDepth 100000 in
theorem lt_M_curve_13 {Post : MST → Prop}  (c : Int32) (s : MSto) (hp : g_M_curve_13 c s) (hq : ¬ q_M_curve_13s c s = 1) (hn : ∀ r, t_M_curve_13 c s = r → mW1 P_M_curve (13, [some (mR 13 0), some (mI (c + 1)), none, none], [], r, 0, 0) Post) : mW1 P_M_curve (13, [some (mR 13 0), some (mI c), none, none], [], s, 0, 0) Post := by
  unfold g_M_curve_13 at hp
  refine mW1_eq (q_M_curve_13 _ _) ?_
  refine mTr_if (fun h0 => ?_) (fun h0 => ?_)
  · skip
    have hp := hp.1 h0
    exact mTr_k (lj_M_curve_13j37 c 0 c s s hp (fun z => hq ((if_pos h0).trans z)) (fun r zr => hn r ((if_pos h0).trans zr)))
  · skip
    have hp := hp.2 h0
    refine mTr_g hp.1 ?_
    have hp := hp.2
    exact mTr_k (lj_M_curve_13j37 c ((gI s 79 0 (Int32.toNatClampNeg (c - 1))) + 1) c s s hp (fun z => hq ((if_neg h0).trans z)) (fun r zr => hn r ((if_neg h0).trans zr)))
theorem lp_M_curve_13 {Post : MST → Prop}  (c0 : Int32) (s0 : MSto) (N : Nat) (hb : ∀ i, i < N → g_M_curve_13 (c0 + nI i) (f_M_curve_13 c0 s0 i) ∧ ¬ q_M_curve_13s (c0 + nI i) (f_M_curve_13 c0 s0 i) = 1) (h : mW1 P_M_curve (13, [some (mR 13 0), some (mI (c0 + nI N)), none, none], [], (f_M_curve_13 c0 s0 N), 0, 0) Post) : mW1 P_M_curve (13, [some (mR 13 0), some (mI c0), none, none], [], s0, 0, 0) Post := by
  refine mW1_st (mW1_loop (fun i => (13, [some (mR 13 0), some (mI (c0 + nI i)), none, none], [], (f_M_curve_13 c0 s0 i), 0, 0)) N (fun i hlt hn => ?_) h) (by rw [show nI 0 = 0 from rfl, Int32.add_zero] <;> rfl)
  refine lt_M_curve_13 _ _ (hb i hlt).1 (hb i hlt).2 (fun r hr => ?_)
  rw [Int32.add_assoc, nI_s]
  subst hr
  exact hn
set_option maxRecDepth 100000 in
theorem lj_M_curve_j64 (x1 : Int32) (σ : MSto) (hp : gj_M_curve_j64 x1 σ) : mW1 P_M_curve (64, [some (mR 13 0), some (mI x1), none, none], [], σ, 0, 0) (mF [109, 252] [mI (vj_M_curve_j64 x1 σ)] (ej_M_curve_j64 x1 σ) 0 0) := by
  unfold gj_M_curve_j64 at hp
  refine mW1_eq (q_M_curve_64 _ _) ?_
  refine mTr_g hp.1 ?_
  have hp := hp.2
  refine mTr_if (fun h0 => ?_) (fun h0 => ?_)
  · skip
    have hp := hp.1 h0
    refine mTr_if (fun h1 => ?_) (fun h1 => ?_)
    · skip
      have hp := hp.1 h1
      refine mTr_if (fun h2 => ?_) (fun h2 => ?_)
      · skip
        have hp := hp h2
        refine mTr_k (lp_M_curve_117 (x1 + 1) 0 (sI (e_M_passes 59 σ) 13 0 1 (x1 + 1)) (n_M_curve_117 (x1 + 1) 0 (sI (e_M_passes 59 σ) 13 0 1 (x1 + 1))) hp.1 ?_)
        have hp := hp.2
        refine mW1_eq (q_M_curve_117 _ _ _) ?_
        refine mTr_if (fun h3 => ?_) (fun h3 => ?_)
        · skip
          exact mTr_e (by decide) (congrArg (fun z => [mI z]) (Eq.symm ((if_pos h1).trans (if_pos h2)))) (Eq.symm ((if_pos h1).trans (if_pos h2))) (by decide) (by decide)
        · skip
          have hp := hp h3
          exact hp.elim
      · skip
        exact mTr_e (by decide) (congrArg (fun z => [mI z]) (Eq.symm ((if_pos h1).trans (if_neg h2)))) (Eq.symm ((if_pos h1).trans (if_neg h2))) (by decide) (by decide)
    · skip
      have hp := hp.2 h1
      refine mTr_if (fun h2 => ?_) (fun h2 => ?_)
      · skip
        have hp := hp h2
        refine mTr_k (lp_M_curve_117 (x1 + 1) 0 (sI (e_M_fault (gI (e_M_passes 59 σ) 13 0 55) (e_M_passes 59 σ)) 13 0 1 (x1 + 1)) (n_M_curve_117 (x1 + 1) 0 (sI (e_M_fault (gI (e_M_passes 59 σ) 13 0 55) (e_M_passes 59 σ)) 13 0 1 (x1 + 1))) hp.1 ?_)
        have hp := hp.2
        refine mW1_eq (q_M_curve_117 _ _ _) ?_
        refine mTr_if (fun h3 => ?_) (fun h3 => ?_)
        · skip
          exact mTr_e (by decide) (congrArg (fun z => [mI z]) (Eq.symm ((if_neg h1).trans (if_pos h2)))) (Eq.symm ((if_neg h1).trans (if_pos h2))) (by decide) (by decide)
        · skip
          have hp := hp h3
          exact hp.elim
      · skip
        exact mTr_e (by decide) (congrArg (fun z => [mI z]) (Eq.symm ((if_neg h1).trans (if_neg h2)))) (Eq.symm ((if_neg h1).trans (if_neg h2))) (by decide) (by decide)
  · skip
    have hp := hp.2 h0
    exact hp.elim
set_option maxRecDepth 100000 in
theorem lj_M_curve_j37 (x1 : Int32) (y0 : Int32) (y2 : Int32) (σ : MSto) (hp : gj_M_curve_j37 x1 y0 y2 σ) : mW1 P_M_curve (37, [some (mR 13 0), some (mI x1), none, none], [(mI y0), (mR 13 0), (mI y2), (mR 79 0)], σ, 0, 0) (mF [109, 252] [mI (vj_M_curve_j37 x1 y0 y2 σ)] (ej_M_curve_j37 x1 y0 y2 σ) 0 0) := by
  unfold gj_M_curve_j37 at hp
  refine mW1_eq (q_M_curve_37 _ _ _ _) ?_
  refine mTr_g hp.1 ?_
  have hp := hp.2
  refine mTr_g hp.1 ?_
  have hp := hp.2
  refine mTr_g hp.1 ?_
  have hp := hp.2
  refine mTr_g hp.1 ?_
  have hp := hp.2
  refine mTr_g hp.1 ?_
  have hp := hp.2
  exact mTr_k (mF_cI (rfl) (rfl) (lj_M_curve_j64 x1 (sI (e_M_number 0 999 (e_M_need 58 (sI (e_M_number y0 199 σ) 79 0 (Int32.toNatClampNeg y2) (v_M_number y0 199 σ)))) 80 0 (Int32.toNatClampNeg x1) (v_M_number 0 999 (e_M_need 58 (sI (e_M_number y0 199 σ) 79 0 (Int32.toNatClampNeg y2) (v_M_number y0 199 σ))))) hp))
set_option maxRecDepth 100000 in
set_option maxHeartbeats 4000000 in
theorem d_M_curve  (σ : MSto) (hp : p_M_curve σ) : mW1 P_M_curve (0, [some (mR 13 0), none, none, none], [], σ, 0, 0) (mF [109, 252] [mI (v_M_curve σ)] (e_M_curve σ) 0 0) := by
  refine mW1_eq (q_M_curve_e  _) ?_
  unfold p_M_curve at hp
  refine mTr_k (lp_M_curve_13 0 (e_M_begin 60 (sI σ 13 0 52 0)) (n_M_curve_13 0 (e_M_begin 60 (sI σ 13 0 52 0))) hp.1 ?_)
  have hp := hp.2
  refine mW1_eq (q_M_curve_13 _ _) ?_
  refine mTr_if (fun h0 => ?_) (fun h0 => ?_)
  · skip
    have hp := hp.1 h0
    exact mTr_k (mF_cI (if_pos h0) (if_pos h0) (lj_M_curve_j37 (0 + nI (n_M_curve_13 0 (e_M_begin 60 (sI σ 13 0 52 0)))) 0 (0 + nI (n_M_curve_13 0 (e_M_begin 60 (sI σ 13 0 52 0)))) (f_M_curve_13 0 (e_M_begin 60 (sI σ 13 0 52 0)) (n_M_curve_13 0 (e_M_begin 60 (sI σ 13 0 52 0)))) hp))
  · skip
    have hp := hp.2 h0
    refine mTr_g hp.1 ?_
    have hp := hp.2
    exact mTr_k (mF_cI (if_neg h0) (if_neg h0) (lj_M_curve_j37 (0 + nI (n_M_curve_13 0 (e_M_begin 60 (sI σ 13 0 52 0)))) ((gI (f_M_curve_13 0 (e_M_begin 60 (sI σ 13 0 52 0)) (n_M_curve_13 0 (e_M_begin 60 (sI σ 13 0 52 0)))) 79 0 (Int32.toNatClampNeg ((0 + nI (n_M_curve_13 0 (e_M_begin 60 (sI σ 13 0 52 0)))) - 1))) + 1) (0 + nI (n_M_curve_13 0 (e_M_begin 60 (sI σ 13 0 52 0)))) (f_M_curve_13 0 (e_M_begin 60 (sI σ 13 0 52 0)) (n_M_curve_13 0 (e_M_begin 60 (sI σ 13 0 52 0)))) hp))
theorem li_M_224 : mLink "ClothWithManModel" 224 E_M_need := ⟨tw_6_206, tw_1_9, ⟨by decide, by decide⟩, by decide +kernel, Or.inl tw_6_203, (fun h => by cases h), (fun _ => ⟨tw_6_205, tw_0_50, TX12, 71, rfl⟩), (fun h => by cases h)⟩

theorem li_M_221 : mLink "ClothWithManModel" 221 E_M_begin := ⟨tw_6_190, tw_1_9, ⟨by decide, by decide⟩, by decide +kernel, Or.inl tw_6_187, (fun h => by cases h), (fun _ => ⟨tw_6_189, tw_0_46, TX12, 71, rfl⟩), (fun h => by cases h)⟩




theorem tk_M_curve : ∀ pc i nx tg, T_M_curve pc = some (i, nx, tg) → mOkB prog_14_method_21_code pc i nx tg = true := code_ok (N := 253) (fun k h => by unfold T_M_curve; rw [h]; rfl) (by decide +kernel)
theorem ok_M_curve (l : Launch) : mPOK l "ClothWithManModel" prog_14_method_21_code P_M_curve := by
  refine ⟨tk_M_curve, ?_, ?_, ?_, (fun pc i nx tg kd _ h => by cases h), ?_, ?_, fun pc en h => by cases h⟩
  · intro x ci f ty fin h
    exact mLook_all (Q := fun x v => mFOK "ClothWithManModel" x v.1 v.2.1 v.2.2.1 v.2.2.2 ∧ (v.2.2.2 = true → pIni P_M_curve = true → (Cond.fieldLink "ClothWithManModel" x (((mCl[v.1]?).getD ("", fun _ => ("", "", "", false), 0)).2.1 v.2.1).1 (((mCl[v.1]?).getD ("", fun _ => ("", "", "", false), 0)).2.1 v.2.1).2.1 (((mCl[v.1]?).getD ("", fun _ => ("", "", "", false), 0)).2.1 v.2.1).2.2.1 ∈ lw_tbl ∧ (((mCl[v.1]?).getD ("", fun _ => ("", "", "", false), 0)).2.1 v.2.1).1 = "ClothWithManModel"))) (fcC ⟨fo_M_9, fun h1 h2 => by cases h2⟩ (fcC ⟨fo_M_13, fun h1 h2 => by cases h1⟩ (fcC ⟨fo_M_137, fun h1 h2 => by cases h2⟩ (fcC ⟨fo_M_140, fun h1 h2 => by cases h2⟩ (fcC ⟨fo_M_161, fun h1 h2 => by cases h1⟩ (fcC ⟨fo_M_194, fun h1 h2 => by cases h1⟩ (fcC ⟨fo_M_200, fun h1 h2 => by cases h1⟩ (fcC ⟨fo_M_203, fun h1 h2 => by cases h1⟩ fcN)))))))) x (ci, f, ty, fin) h
  · intro x
    have hh := mLook_all (l := ([] : List (Nat × (Int32 ⊕ Int64)))) (Q := fun x (v : Int32 ⊕ Int64) => (∀ w, v = .inl w → Cond.constant "ClothWithManModel" x w ∈ lw_tbl) ∧ (∀ w, v = .inr w → Cond.constantLong "ClothWithManModel" x w ∈ lw_tbl)) fcN x
    exact ⟨fun w h => (hh _ h).1 w rfl, fun w h => (hh _ h).2 w rfl⟩
  · exact fun x en h => mLook_all (Q := fun x en => mLink "ClothWithManModel" x en ∧ mCtr l en ∧ (en.1.1 = 2 → en.2.2.2.2.2.2 = none)) (fcC ⟨li_M_210, c_M_passes l, (fun h => by cases h)⟩ (fcC ⟨li_M_214, c_M_fault l, (fun h => by cases h)⟩ (fcC ⟨li_M_218, c_M_number l, (fun h => by cases h)⟩ (fcC ⟨li_M_221, c_M_begin l, (fun h => by cases h)⟩ (fcC ⟨li_M_224, c_M_need l, (fun h => by cases h)⟩ fcN))))) x en h
  · exact fun x kd h => mLook_all (Q := fun x kd => (kd = 95 ∧ Cond.fieldLink "ClothWithManModel" x "ClothWithMan" "LIKENESSES" "[I" ∈ lw_tbl) ∨ (kd = 96 ∧ Cond.fieldLink "ClothWithManModel" x "ClothWithMan" "APART_BOUNDS" "[I" ∈ lw_tbl)) fcN x kd h
  · exact fun x ci h => mLook_all (Q := fun x ci => ci ≠ 0 ∧ ∃ (C : String) (T : u_T) (N : Nat), mCl[ci]? = some (C, T, N) ∧ Cond.classLink "ClothWithManModel" x C ∈ lw_tbl ∧ Cond.instantiable C N ∈ lw_tbl) fcN x ci h
set_option maxRecDepth 100000 in
theorem c_M_curve (l : Launch) : mCtr l E_M_curve := mCtr_of (P := P_M_curve) (own := "ClothWithManModel") mLay_ok rfl (by decide +kernel) rfl (ok_M_curve l) (fun h => by cases h) (fun as σ pr rv σ' hF hpr hlv => by
  unfold E_M_curve S_M_curve at hF
  simp only [] at hF
  split at hF
  · cases hF
    obtain ⟨n, pcF, c1, s1, g1, g2, g3, g4⟩ := mF_inv (d_M_curve σ (hpr _ rfl))
    exact ⟨Nat.le_of_ble_eq_true rfl, (fun v h => by cases h; trivial), n, pcF, c1, s1, g1, ⟨mEnd_of (i := .ireturn) (P := P_M_curve) (rets := [109, 252]) rfl g2, rfl⟩, g3, g4⟩
  · cases hF
    exact (hpr _ rfl).elim)
/-! ClothWithManModel.term(II)V -/
noncomputable def ej_M_term_j98  (σ : MSto) : MSto := σ
noncomputable def ej_M_term_j195 (x1 : Int32) (σ : MSto) : MSto := (sI (e_M_signed 99 (e_M_need 44 σ)) 58 0 (Int32.toNatClampNeg x1) (v_M_signed 99 (e_M_need 44 σ)))
def gj_M_term_j195 (x1 : Int32) (σ : MSto) : Prop := ((p_M_need 44 σ) ∧ ((p_M_signed 99 (e_M_need 44 σ)) ∧ (vp_in x1 6)))
noncomputable def ej_M_term_j163 (x1 : Int32) (σ : MSto) : MSto := (if (gI σ 13 0 56) = (-1) then (ej_M_term_j195 x1 (sI (sI σ 57 0 (Int32.toNatClampNeg x1) ((v_M_here σ) - 48)) 13 0 55 ((gI (sI σ 57 0 (Int32.toNatClampNeg x1) ((v_M_here σ) - 48)) 13 0 55) + 1))) else σ)
def gj_M_term_j163 (x1 : Int32) (σ : MSto) : Prop := (((gI σ 13 0 56) = (-1)) → ((p_M_here σ) ∧ ((vp_in x1 6) ∧ (gj_M_term_j195 x1 (sI (sI σ 57 0 (Int32.toNatClampNeg x1) ((v_M_here σ) - 48)) 13 0 55 ((gI (sI σ 57 0 (Int32.toNatClampNeg x1) ((v_M_here σ) - 48)) 13 0 55) + 1))))))
def p_M_term (a1 : Int32) (a2 : Int32) (σ : MSto) : Prop := (((a2 = 1) → ((p_M_number 0 199 σ) ∧ (vp_in a1 6))) ∧ (¬ (a2 = 1) → (((a2 = 2) → ((p_M_number 0 199 σ) ∧ ((vp_in a1 6) ∧ ((p_M_need 44 (sI (e_M_number 0 199 σ) 53 0 (Int32.toNatClampNeg a1) (v_M_number 0 199 σ))) ∧ ((p_M_number 0 90 (e_M_need 44 (sI (e_M_number 0 199 σ) 53 0 (Int32.toNatClampNeg a1) (v_M_number 0 199 σ)))) ∧ (vp_in a1 6)))))) ∧ (¬ (a2 = 2) → (((a2 = 3) → ((((gI σ 13 0 56) = (-1)) → ((p_M_here σ) ∧ ((((v_M_in (v_M_here σ) 48 53 σ) = 0) → (gj_M_term_j163 a1 (e_M_fault (gI σ 13 0 55) σ))) ∧ (¬ ((v_M_in (v_M_here σ) 48 53 σ) = 0) → (gj_M_term_j163 a1 σ))))) ∧ (¬ ((gI σ 13 0 56) = (-1)) → (gj_M_term_j163 a1 σ)))) ∧ (¬ (a2 = 3) → (((a2 = 4) → ((p_M_number 0 199 σ) ∧ (vp_in a1 6))) ∧ (¬ (a2 = 4) → (((a2 = 5) → ((((gI σ 13 0 56) = (-1)) → ((p_M_here σ) ∧ ((((v_M_in (v_M_here σ) 48 53 σ) = 0) → (gj_M_term_j163 a1 (e_M_fault (gI σ 13 0 55) σ))) ∧ (¬ ((v_M_in (v_M_here σ) 48 53 σ) = 0) → (gj_M_term_j163 a1 σ))))) ∧ (¬ ((gI σ 13 0 56) = (-1)) → (gj_M_term_j163 a1 σ)))) ∧ (¬ (a2 = 5) → (((a2 = 6) → ((((gI σ 13 0 56) = (-1)) → ((p_M_here σ) ∧ ((((v_M_in (v_M_here σ) 48 53 σ) = 0) → (gj_M_term_j163 a1 (e_M_fault (gI σ 13 0 55) σ))) ∧ (¬ ((v_M_in (v_M_here σ) 48 53 σ) = 0) → (gj_M_term_j163 a1 σ))))) ∧ (¬ ((gI σ 13 0 56) = (-1)) → (gj_M_term_j163 a1 σ)))) ∧ (¬ (a2 = 6) → (((a2 = 7) → ((((gI σ 13 0 56) = (-1)) → ((p_M_here σ) ∧ ((((v_M_in (v_M_here σ) 48 53 σ) = 0) → (gj_M_term_j163 a1 (e_M_fault (gI σ 13 0 55) σ))) ∧ (¬ ((v_M_in (v_M_here σ) 48 53 σ) = 0) → (gj_M_term_j163 a1 σ))))) ∧ (¬ ((gI σ 13 0 56) = (-1)) → (gj_M_term_j163 a1 σ)))) ∧ (¬ (a2 = 7) → (((a2 = 8) → ((p_M_signed 99 σ) ∧ (vp_in a1 6))) ∧ (¬ (a2 = 8) → ((((gI σ 13 0 56) = (-1)) → ((p_M_here σ) ∧ ((((v_M_in (v_M_here σ) 48 53 σ) = 0) → (gj_M_term_j163 a1 (e_M_fault (gI σ 13 0 55) σ))) ∧ (¬ ((v_M_in (v_M_here σ) 48 53 σ) = 0) → (gj_M_term_j163 a1 σ))))) ∧ (¬ ((gI σ 13 0 56) = (-1)) → (gj_M_term_j163 a1 σ)))))))))))))))))))
noncomputable def e_M_term (a1 : Int32) (a2 : Int32) (σ : MSto) : MSto := (if a2 = 1 then (sI (e_M_number 0 199 σ) 52 0 (Int32.toNatClampNeg a1) (v_M_number 0 199 σ)) else (if a2 = 2 then (ej_M_term_j98 (sI (e_M_number 0 90 (e_M_need 44 (sI (e_M_number 0 199 σ) 53 0 (Int32.toNatClampNeg a1) (v_M_number 0 199 σ)))) 54 0 (Int32.toNatClampNeg a1) (v_M_number 0 90 (e_M_need 44 (sI (e_M_number 0 199 σ) 53 0 (Int32.toNatClampNeg a1) (v_M_number 0 199 σ)))))) else (if a2 = 3 then (if (gI σ 13 0 56) = (-1) then (if (v_M_in (v_M_here σ) 48 53 σ) = 0 then (ej_M_term_j163 a1 (e_M_fault (gI σ 13 0 55) σ)) else (ej_M_term_j163 a1 σ)) else (ej_M_term_j163 a1 σ)) else (if a2 = 4 then (sI (e_M_number 0 199 σ) 55 0 (Int32.toNatClampNeg a1) (v_M_number 0 199 σ)) else (if a2 = 5 then (if (gI σ 13 0 56) = (-1) then (if (v_M_in (v_M_here σ) 48 53 σ) = 0 then (ej_M_term_j163 a1 (e_M_fault (gI σ 13 0 55) σ)) else (ej_M_term_j163 a1 σ)) else (ej_M_term_j163 a1 σ)) else (if a2 = 6 then (if (gI σ 13 0 56) = (-1) then (if (v_M_in (v_M_here σ) 48 53 σ) = 0 then (ej_M_term_j163 a1 (e_M_fault (gI σ 13 0 55) σ)) else (ej_M_term_j163 a1 σ)) else (ej_M_term_j163 a1 σ)) else (if a2 = 7 then (if (gI σ 13 0 56) = (-1) then (if (v_M_in (v_M_here σ) 48 53 σ) = 0 then (ej_M_term_j163 a1 (e_M_fault (gI σ 13 0 55) σ)) else (ej_M_term_j163 a1 σ)) else (ej_M_term_j163 a1 σ)) else (if a2 = 8 then (sI (e_M_signed 99 σ) 56 0 (Int32.toNatClampNeg a1) (v_M_signed 99 σ)) else (if (gI σ 13 0 56) = (-1) then (if (v_M_in (v_M_here σ) 48 53 σ) = 0 then (ej_M_term_j163 a1 (e_M_fault (gI σ 13 0 55) σ)) else (ej_M_term_j163 a1 σ)) else (ej_M_term_j163 a1 σ))))))))))
noncomputable def S_M_term : List MV → MSto → Option Prop × Option MV × MSto := fun as σ => match as with
  | [.inr (.inr (some (13, 0))), .inl a0, .inl a1] => (some (p_M_term a0 a1 σ), none, e_M_term a0 a1 σ)
  | _ => (some False, none, σ)
noncomputable def E_M_term : MEnt := ((1, 2, 13), (3, 69, 0, 0), S_M_term, ((⟨"ClothWithManModel", "term", "(II)V"⟩ : MethodName), prog_14_method_69_code, 3, none))

def T_M_term : Nat → Option (Instr × Nat × List Nat) := fun k => bif Nat.blt k 214 then (bif Nat.blt k 129 then (bif Nat.blt k 86 then (bif Nat.blt k 65 then (bif Nat.blt k 53 then (bif Nat.blt k 48 then (bif Nat.blt k 1 then (bif Nat.beq k 0 then some (.iload_n 2, 1, []) else none) else (bif Nat.beq k 1 then some (.tableswitch 132 1 8 #[47, 64, 132, 100, 132, 132, 132, 117], 48, [133, 48, 65, 133, 101, 133, 133, 133, 118]) else none)) else (bif Nat.blt k 49 then (bif Nat.beq k 48 then some (.aload_n 0, 49, []) else none) else (bif Nat.blt k 52 then (bif Nat.beq k 49 then some (.getfield 50, 52, []) else none) else (bif Nat.beq k 52 then some (.iload_n 1, 53, []) else none)))) else (bif Nat.blt k 58 then (bif Nat.blt k 54 then (bif Nat.beq k 53 then some (.aload_n 0, 54, []) else none) else (bif Nat.blt k 55 then (bif Nat.beq k 54 then some (.iconst 0, 55, []) else none) else (bif Nat.beq k 55 then some (.sipush 199, 58, []) else none))) else (bif Nat.blt k 61 then (bif Nat.beq k 58 then some (.invokevirtual 218, 61, []) else none) else (bif Nat.blt k 62 then (bif Nat.beq k 61 then some (.iastore, 62, []) else none) else (bif Nat.beq k 62 then some (.goto 151, 65, [213]) else none))))) else (bif Nat.blt k 75 then (bif Nat.blt k 70 then (bif Nat.blt k 66 then (bif Nat.beq k 65 then some (.aload_n 0, 66, []) else none) else (bif Nat.blt k 69 then (bif Nat.beq k 66 then some (.getfield 53, 69, []) else none) else (bif Nat.beq k 69 then some (.iload_n 1, 70, []) else none))) else (bif Nat.blt k 71 then (bif Nat.beq k 70 then some (.aload_n 0, 71, []) else none) else (bif Nat.blt k 72 then (bif Nat.beq k 71 then some (.iconst 0, 72, []) else none) else (bif Nat.beq k 72 then some (.sipush 199, 75, []) else none)))) else (bif Nat.blt k 80 then (bif Nat.blt k 78 then (bif Nat.beq k 75 then some (.invokevirtual 218, 78, []) else none) else (bif Nat.blt k 79 then (bif Nat.beq k 78 then some (.iastore, 79, []) else none) else (bif Nat.beq k 79 then some (.aload_n 0, 80, []) else none))) else (bif Nat.blt k 82 then (bif Nat.beq k 80 then some (.bipush 44, 82, []) else none) else (bif Nat.blt k 85 then (bif Nat.beq k 82 then some (.invokevirtual 224, 85, []) else none) else (bif Nat.beq k 85 then some (.aload_n 0, 86, []) else none)))))) else (bif Nat.blt k 106 then (bif Nat.blt k 94 then (bif Nat.blt k 90 then (bif Nat.blt k 89 then (bif Nat.beq k 86 then some (.getfield 56, 89, []) else none) else (bif Nat.beq k 89 then some (.iload_n 1, 90, []) else none)) else (bif Nat.blt k 91 then (bif Nat.beq k 90 then some (.aload_n 0, 91, []) else none) else (bif Nat.blt k 92 then (bif Nat.beq k 91 then some (.iconst 0, 92, []) else none) else (bif Nat.beq k 92 then some (.bipush 90, 94, []) else none)))) else (bif Nat.blt k 101 then (bif Nat.blt k 97 then (bif Nat.beq k 94 then some (.invokevirtual 218, 97, []) else none) else (bif Nat.blt k 98 then (bif Nat.beq k 97 then some (.iastore, 98, []) else none) else (bif Nat.beq k 98 then some (.goto 115, 101, [213]) else none))) else (bif Nat.blt k 102 then (bif Nat.beq k 101 then some (.aload_n 0, 102, []) else none) else (bif Nat.blt k 105 then (bif Nat.beq k 102 then some (.getfield 59, 105, []) else none) else (bif Nat.beq k 105 then some (.iload_n 1, 106, []) else none))))) else (bif Nat.blt k 118 then (bif Nat.blt k 111 then (bif Nat.blt k 107 then (bif Nat.beq k 106 then some (.aload_n 0, 107, []) else none) else (bif Nat.blt k 108 then (bif Nat.beq k 107 then some (.iconst 0, 108, []) else none) else (bif Nat.beq k 108 then some (.sipush 199, 111, []) else none))) else (bif Nat.blt k 114 then (bif Nat.beq k 111 then some (.invokevirtual 218, 114, []) else none) else (bif Nat.blt k 115 then (bif Nat.beq k 114 then some (.iastore, 115, []) else none) else (bif Nat.beq k 115 then some (.goto 98, 118, [213]) else none)))) else (bif Nat.blt k 123 then (bif Nat.blt k 119 then (bif Nat.beq k 118 then some (.aload_n 0, 119, []) else none) else (bif Nat.blt k 122 then (bif Nat.beq k 119 then some (.getfield 62, 122, []) else none) else (bif Nat.beq k 122 then some (.iload_n 1, 123, []) else none))) else (bif Nat.blt k 124 then (bif Nat.beq k 123 then some (.aload_n 0, 124, []) else none) else (bif Nat.blt k 126 then (bif Nat.beq k 124 then some (.bipush 99, 126, []) else none) else (bif Nat.beq k 126 then some (.invokevirtual 378, 129, []) else none))))))) else (bif Nat.blt k 176 then (bif Nat.blt k 152 then (bif Nat.blt k 138 then (bif Nat.blt k 133 then (bif Nat.blt k 130 then (bif Nat.beq k 129 then some (.iastore, 130, []) else none) else (bif Nat.beq k 130 then some (.goto 83, 133, [213]) else none)) else (bif Nat.blt k 134 then (bif Nat.beq k 133 then some (.aload_n 0, 134, []) else none) else (bif Nat.blt k 137 then (bif Nat.beq k 134 then some (.getfield 203, 137, []) else none) else (bif Nat.beq k 137 then some (.iconst (-1), 138, []) else none)))) else (bif Nat.blt k 145 then (bif Nat.blt k 141 then (bif Nat.beq k 138 then some (.if_icmp .ne 25, 141, [163]) else none) else (bif Nat.blt k 142 then (bif Nat.beq k 141 then some (.aload_n 0, 142, []) else none) else (bif Nat.beq k 142 then some (.invokevirtual 206, 145, []) else none))) else (bif Nat.blt k 147 then (bif Nat.beq k 145 then some (.bipush 48, 147, []) else none) else (bif Nat.blt k 149 then (bif Nat.beq k 147 then some (.bipush 53, 149, []) else none) else (bif Nat.beq k 149 then some (.invokestatic 181, 152, []) else none))))) else (bif Nat.blt k 164 then (bif Nat.blt k 157 then (bif Nat.blt k 155 then (bif Nat.beq k 152 then some (.ifCond .ne 11, 155, [163]) else none) else (bif Nat.blt k 156 then (bif Nat.beq k 155 then some (.aload_n 0, 156, []) else none) else (bif Nat.beq k 156 then some (.aload_n 0, 157, []) else none))) else (bif Nat.blt k 160 then (bif Nat.beq k 157 then some (.getfield 200, 160, []) else none) else (bif Nat.blt k 163 then (bif Nat.beq k 160 then some (.invokevirtual 214, 163, []) else none) else (bif Nat.beq k 163 then some (.aload_n 0, 164, []) else none)))) else (bif Nat.blt k 171 then (bif Nat.blt k 167 then (bif Nat.beq k 164 then some (.getfield 203, 167, []) else none) else (bif Nat.blt k 168 then (bif Nat.beq k 167 then some (.iconst (-1), 168, []) else none) else (bif Nat.beq k 168 then some (.if_icmp .eq 4, 171, [172]) else none))) else (bif Nat.blt k 172 then (bif Nat.beq k 171 then some (.return_, 172, []) else none) else (bif Nat.blt k 173 then (bif Nat.beq k 172 then some (.aload_n 0, 173, []) else none) else (bif Nat.beq k 173 then some (.getfield 65, 176, []) else none)))))) else (bif Nat.blt k 192 then (bif Nat.blt k 184 then (bif Nat.blt k 178 then (bif Nat.blt k 177 then (bif Nat.beq k 176 then some (.iload_n 1, 177, []) else none) else (bif Nat.beq k 177 then some (.aload_n 0, 178, []) else none)) else (bif Nat.blt k 181 then (bif Nat.beq k 178 then some (.invokevirtual 206, 181, []) else none) else (bif Nat.blt k 183 then (bif Nat.beq k 181 then some (.bipush 48, 183, []) else none) else (bif Nat.beq k 183 then some (.isub, 184, []) else none)))) else (bif Nat.blt k 187 then (bif Nat.blt k 185 then (bif Nat.beq k 184 then some (.iastore, 185, []) else none) else (bif Nat.blt k 186 then (bif Nat.beq k 185 then some (.aload_n 0, 186, []) else none) else (bif Nat.beq k 186 then some (.dup, 187, []) else none))) else (bif Nat.blt k 190 then (bif Nat.beq k 187 then some (.getfield 200, 190, []) else none) else (bif Nat.blt k 191 then (bif Nat.beq k 190 then some (.iconst 1, 191, []) else none) else (bif Nat.beq k 191 then some (.iadd, 192, []) else none))))) else (bif Nat.blt k 205 then (bif Nat.blt k 198 then (bif Nat.blt k 195 then (bif Nat.beq k 192 then some (.putfield 200, 195, []) else none) else (bif Nat.blt k 196 then (bif Nat.beq k 195 then some (.aload_n 0, 196, []) else none) else (bif Nat.beq k 196 then some (.bipush 44, 198, []) else none))) else (bif Nat.blt k 201 then (bif Nat.beq k 198 then some (.invokevirtual 224, 201, []) else none) else (bif Nat.blt k 202 then (bif Nat.beq k 201 then some (.aload_n 0, 202, []) else none) else (bif Nat.beq k 202 then some (.getfield 68, 205, []) else none)))) else (bif Nat.blt k 209 then (bif Nat.blt k 206 then (bif Nat.beq k 205 then some (.iload_n 1, 206, []) else none) else (bif Nat.blt k 207 then (bif Nat.beq k 206 then some (.aload_n 0, 207, []) else none) else (bif Nat.beq k 207 then some (.bipush 99, 209, []) else none))) else (bif Nat.blt k 212 then (bif Nat.beq k 209 then some (.invokevirtual 378, 212, []) else none) else (bif Nat.blt k 213 then (bif Nat.beq k 212 then some (.iastore, 213, []) else none) else (bif Nat.beq k 213 then some (.return_, 214, []) else none)))))))) else none
noncomputable def P_M_term : MP := (T_M_term, (fun k => mLook k [(50, (13, 18, (.array .int), true)), (53, (13, 19, (.array .int), true)), (56, (13, 20, (.array .int), true)), (59, (13, 21, (.array .int), true)), (62, (13, 22, (.array .int), true)), (65, (13, 23, (.array .int), true)), (68, (13, 24, (.array .int), true)), (200, (13, 55, .int, false)), (203, (13, 56, .int, false))]), (fun k => mLook k []), (fun k => mLook k [(181, E_M_in), (206, E_M_here), (214, E_M_fault), (218, E_M_number), (224, E_M_need), (378, E_M_signed)]), (fun k => mLook k []), (fun k => mLook k []), (fun k => mLook k []), (fun k => mLook k [(98, [false, false, false]), (163, [true, true, false]), (195, [true, true, false])]), (fun k => [171, 213].any (Nat.beq k)), (3, 69, 0, 0), false, (fun _ => none))
set_option maxRecDepth 100000 in
set_option maxHeartbeats 4000000 in
theorem q_M_term_e (a1 : Int32) (a2 : Int32) (σ : MSto) (n : Nat) : mexe KT P_M_term (n + 1) (0, [some (mR 13 0), some (mI a1), some (mI a2)], [], σ, 0, 0) = mIf (a2 = 1) (mG (p_M_number 0 199 σ) (mG (vp_in a1 6) (some (213, [], [], (sI (e_M_number 0 199 σ) 52 0 (Int32.toNatClampNeg a1) (v_M_number 0 199 σ)), 0, 0)))) (mIf (a2 = 2) (mG (p_M_number 0 199 σ) (mG (vp_in a1 6) (mG (p_M_need 44 (sI (e_M_number 0 199 σ) 53 0 (Int32.toNatClampNeg a1) (v_M_number 0 199 σ))) (mG (p_M_number 0 90 (e_M_need 44 (sI (e_M_number 0 199 σ) 53 0 (Int32.toNatClampNeg a1) (v_M_number 0 199 σ)))) (mG (vp_in a1 6) (mexe KT P_M_term n (98, [none, none, none], [], (sI (e_M_number 0 90 (e_M_need 44 (sI (e_M_number 0 199 σ) 53 0 (Int32.toNatClampNeg a1) (v_M_number 0 199 σ)))) 54 0 (Int32.toNatClampNeg a1) (v_M_number 0 90 (e_M_need 44 (sI (e_M_number 0 199 σ) 53 0 (Int32.toNatClampNeg a1) (v_M_number 0 199 σ))))), 0, 0))))))) (mIf (a2 = 3) (mIf ((gI σ 13 0 56) = (-1)) (mG (p_M_here σ) (mIf ((v_M_in (v_M_here σ) 48 53 σ) = 0) (mexe KT P_M_term n (163, [some (mR 13 0), some (mI a1), none], [], (e_M_fault (gI σ 13 0 55) σ), 0, 0)) (mexe KT P_M_term n (163, [some (mR 13 0), some (mI a1), none], [], σ, 0, 0)))) (mexe KT P_M_term n (163, [some (mR 13 0), some (mI a1), none], [], σ, 0, 0))) (mIf (a2 = 4) (mG (p_M_number 0 199 σ) (mG (vp_in a1 6) (some (213, [], [], (sI (e_M_number 0 199 σ) 55 0 (Int32.toNatClampNeg a1) (v_M_number 0 199 σ)), 0, 0)))) (mIf (a2 = 5) (mIf ((gI σ 13 0 56) = (-1)) (mG (p_M_here σ) (mIf ((v_M_in (v_M_here σ) 48 53 σ) = 0) (mexe KT P_M_term n (163, [some (mR 13 0), some (mI a1), none], [], (e_M_fault (gI σ 13 0 55) σ), 0, 0)) (mexe KT P_M_term n (163, [some (mR 13 0), some (mI a1), none], [], σ, 0, 0)))) (mexe KT P_M_term n (163, [some (mR 13 0), some (mI a1), none], [], σ, 0, 0))) (mIf (a2 = 6) (mIf ((gI σ 13 0 56) = (-1)) (mG (p_M_here σ) (mIf ((v_M_in (v_M_here σ) 48 53 σ) = 0) (mexe KT P_M_term n (163, [some (mR 13 0), some (mI a1), none], [], (e_M_fault (gI σ 13 0 55) σ), 0, 0)) (mexe KT P_M_term n (163, [some (mR 13 0), some (mI a1), none], [], σ, 0, 0)))) (mexe KT P_M_term n (163, [some (mR 13 0), some (mI a1), none], [], σ, 0, 0))) (mIf (a2 = 7) (mIf ((gI σ 13 0 56) = (-1)) (mG (p_M_here σ) (mIf ((v_M_in (v_M_here σ) 48 53 σ) = 0) (mexe KT P_M_term n (163, [some (mR 13 0), some (mI a1), none], [], (e_M_fault (gI σ 13 0 55) σ), 0, 0)) (mexe KT P_M_term n (163, [some (mR 13 0), some (mI a1), none], [], σ, 0, 0)))) (mexe KT P_M_term n (163, [some (mR 13 0), some (mI a1), none], [], σ, 0, 0))) (mIf (a2 = 8) (mG (p_M_signed 99 σ) (mG (vp_in a1 6) (some (213, [], [], (sI (e_M_signed 99 σ) 56 0 (Int32.toNatClampNeg a1) (v_M_signed 99 σ)), 0, 0)))) (mIf ((gI σ 13 0 56) = (-1)) (mG (p_M_here σ) (mIf ((v_M_in (v_M_here σ) 48 53 σ) = 0) (mexe KT P_M_term n (163, [some (mR 13 0), some (mI a1), none], [], (e_M_fault (gI σ 13 0 55) σ), 0, 0)) (mexe KT P_M_term n (163, [some (mR 13 0), some (mI a1), none], [], σ, 0, 0)))) (mexe KT P_M_term n (163, [some (mR 13 0), some (mI a1), none], [], σ, 0, 0)))))))))) := rfl
set_option maxRecDepth 100000 in
set_option maxHeartbeats 4000000 in
theorem q_M_term_98  (σ : MSto) (n : Nat) : mexe KT P_M_term (n + 1) (98, [none, none, none], [], σ, 0, 0) = some (213, [], [], σ, 0, 0) := rfl
set_option maxRecDepth 100000 in
set_option maxHeartbeats 4000000 in
theorem q_M_term_163 (x1 : Int32) (σ : MSto) (n : Nat) : mexe KT P_M_term (n + 1) (163, [some (mR 13 0), some (mI x1), none], [], σ, 0, 0) = mIf ((gI σ 13 0 56) = (-1)) (mG (p_M_here σ) (mG (vp_in x1 6) (mexe KT P_M_term n (195, [some (mR 13 0), some (mI x1), none], [], (sI (sI σ 57 0 (Int32.toNatClampNeg x1) ((v_M_here σ) - 48)) 13 0 55 ((gI (sI σ 57 0 (Int32.toNatClampNeg x1) ((v_M_here σ) - 48)) 13 0 55) + 1)), 0, 0)))) (some (171, [], [], σ, 0, 0)) := rfl
set_option maxRecDepth 100000 in
set_option maxHeartbeats 4000000 in
theorem q_M_term_195 (x1 : Int32) (σ : MSto) (n : Nat) : mexe KT P_M_term (n + 1) (195, [some (mR 13 0), some (mI x1), none], [], σ, 0, 0) = mG (p_M_need 44 σ) (mG (p_M_signed 99 (e_M_need 44 σ)) (mG (vp_in x1 6) (some (213, [], [], (sI (e_M_signed 99 (e_M_need 44 σ)) 58 0 (Int32.toNatClampNeg x1) (v_M_signed 99 (e_M_need 44 σ))), 0, 0)))) := rfl
set_option maxRecDepth 100000 in
theorem lj_M_term_j98  (σ : MSto) : mW1 P_M_term (98, [none, none, none], [], σ, 0, 0) (mF [171, 213] [] (ej_M_term_j98 σ) 0 0) := by
  refine mW1_eq (q_M_term_98 _) ?_
  exact mTr_e (by decide) rfl (Eq.symm (rfl)) (by decide) (by decide)
set_option maxRecDepth 100000 in
theorem lj_M_term_j195 (x1 : Int32) (σ : MSto) (hp : gj_M_term_j195 x1 σ) : mW1 P_M_term (195, [some (mR 13 0), some (mI x1), none], [], σ, 0, 0) (mF [171, 213] [] (ej_M_term_j195 x1 σ) 0 0) := by
  unfold gj_M_term_j195 at hp
  refine mW1_eq (q_M_term_195 _ _) ?_
  refine mTr_g hp.1 ?_
  have hp := hp.2
  refine mTr_g hp.1 ?_
  have hp := hp.2
  refine mTr_g hp ?_
  exact mTr_e (by decide) rfl (Eq.symm (rfl)) (by decide) (by decide)
set_option maxRecDepth 100000 in
theorem lj_M_term_j163 (x1 : Int32) (σ : MSto) (hp : gj_M_term_j163 x1 σ) : mW1 P_M_term (163, [some (mR 13 0), some (mI x1), none], [], σ, 0, 0) (mF [171, 213] [] (ej_M_term_j163 x1 σ) 0 0) := by
  unfold gj_M_term_j163 at hp
  refine mW1_eq (q_M_term_163 _ _) ?_
  refine mTr_if (fun h0 => ?_) (fun h0 => ?_)
  · skip
    have hp := hp h0
    refine mTr_g hp.1 ?_
    have hp := hp.2
    refine mTr_g hp.1 ?_
    have hp := hp.2
    exact mTr_k (mF_c0 (if_pos h0) (lj_M_term_j195 x1 (sI (sI σ 57 0 (Int32.toNatClampNeg x1) ((v_M_here σ) - 48)) 13 0 55 ((gI (sI σ 57 0 (Int32.toNatClampNeg x1) ((v_M_here σ) - 48)) 13 0 55) + 1)) hp))
  · skip
    exact mTr_e (by decide) rfl (Eq.symm (if_neg h0)) (by decide) (by decide)
set_option maxRecDepth 100000 in
set_option maxHeartbeats 4000000 in
theorem d_M_term (a1 : Int32) (a2 : Int32) (σ : MSto) (hp : p_M_term a1 a2 σ) : mW1 P_M_term (0, [some (mR 13 0), some (mI a1), some (mI a2)], [], σ, 0, 0) (mF [171, 213] [] (e_M_term a1 a2 σ) 0 0) := by
  refine mW1_eq (q_M_term_e _ _ _) ?_
  unfold p_M_term at hp
  refine mTr_if (fun h0 => ?_) (fun h0 => ?_)
  · skip
    have hp := hp.1 h0
    refine mTr_g hp.1 ?_
    have hp := hp.2
    refine mTr_g hp ?_
    exact mTr_e (by decide) rfl (Eq.symm (if_pos h0)) (by decide) (by decide)
  · skip
    have hp := hp.2 h0
    refine mTr_if (fun h1 => ?_) (fun h1 => ?_)
    · skip
      have hp := hp.1 h1
      refine mTr_g hp.1 ?_
      have hp := hp.2
      refine mTr_g hp.1 ?_
      have hp := hp.2
      refine mTr_g hp.1 ?_
      have hp := hp.2
      refine mTr_g hp.1 ?_
      have hp := hp.2
      refine mTr_g hp ?_
      exact mTr_k (mF_c0 ((if_neg h0).trans (if_pos h1)) (lj_M_term_j98 (sI (e_M_number 0 90 (e_M_need 44 (sI (e_M_number 0 199 σ) 53 0 (Int32.toNatClampNeg a1) (v_M_number 0 199 σ)))) 54 0 (Int32.toNatClampNeg a1) (v_M_number 0 90 (e_M_need 44 (sI (e_M_number 0 199 σ) 53 0 (Int32.toNatClampNeg a1) (v_M_number 0 199 σ)))))))
    · skip
      have hp := hp.2 h1
      refine mTr_if (fun h2 => ?_) (fun h2 => ?_)
      · skip
        have hp := hp.1 h2
        refine mTr_if (fun h3 => ?_) (fun h3 => ?_)
        · skip
          have hp := hp.1 h3
          refine mTr_g hp.1 ?_
          have hp := hp.2
          refine mTr_if (fun h4 => ?_) (fun h4 => ?_)
          · skip
            have hp := hp.1 h4
            exact mTr_k (mF_c0 ((if_neg h0).trans ((if_neg h1).trans ((if_pos h2).trans ((if_pos h3).trans (if_pos h4))))) (lj_M_term_j163 a1 (e_M_fault (gI σ 13 0 55) σ) hp))
          · skip
            have hp := hp.2 h4
            exact mTr_k (mF_c0 ((if_neg h0).trans ((if_neg h1).trans ((if_pos h2).trans ((if_pos h3).trans (if_neg h4))))) (lj_M_term_j163 a1 σ hp))
        · skip
          have hp := hp.2 h3
          exact mTr_k (mF_c0 ((if_neg h0).trans ((if_neg h1).trans ((if_pos h2).trans (if_neg h3)))) (lj_M_term_j163 a1 σ hp))
      · skip
        have hp := hp.2 h2
        refine mTr_if (fun h3 => ?_) (fun h3 => ?_)
        · skip
          have hp := hp.1 h3
          refine mTr_g hp.1 ?_
          have hp := hp.2
          refine mTr_g hp ?_
          exact mTr_e (by decide) rfl (Eq.symm ((if_neg h0).trans ((if_neg h1).trans ((if_neg h2).trans (if_pos h3))))) (by decide) (by decide)
        · skip
          have hp := hp.2 h3
          refine mTr_if (fun h4 => ?_) (fun h4 => ?_)
          · skip
            have hp := hp.1 h4
            refine mTr_if (fun h5 => ?_) (fun h5 => ?_)
            · skip
              have hp := hp.1 h5
              refine mTr_g hp.1 ?_
              have hp := hp.2
              refine mTr_if (fun h6 => ?_) (fun h6 => ?_)
              · skip
                have hp := hp.1 h6
                exact mTr_k (mF_c0 ((if_neg h0).trans ((if_neg h1).trans ((if_neg h2).trans ((if_neg h3).trans ((if_pos h4).trans ((if_pos h5).trans (if_pos h6))))))) (lj_M_term_j163 a1 (e_M_fault (gI σ 13 0 55) σ) hp))
              · skip
                have hp := hp.2 h6
                exact mTr_k (mF_c0 ((if_neg h0).trans ((if_neg h1).trans ((if_neg h2).trans ((if_neg h3).trans ((if_pos h4).trans ((if_pos h5).trans (if_neg h6))))))) (lj_M_term_j163 a1 σ hp))
            · skip
              have hp := hp.2 h5
              exact mTr_k (mF_c0 ((if_neg h0).trans ((if_neg h1).trans ((if_neg h2).trans ((if_neg h3).trans ((if_pos h4).trans (if_neg h5)))))) (lj_M_term_j163 a1 σ hp))
          · skip
            have hp := hp.2 h4
            refine mTr_if (fun h5 => ?_) (fun h5 => ?_)
            · skip
              have hp := hp.1 h5
              refine mTr_if (fun h6 => ?_) (fun h6 => ?_)
              · skip
                have hp := hp.1 h6
                refine mTr_g hp.1 ?_
                have hp := hp.2
                refine mTr_if (fun h7 => ?_) (fun h7 => ?_)
                · skip
                  have hp := hp.1 h7
                  exact mTr_k (mF_c0 ((if_neg h0).trans ((if_neg h1).trans ((if_neg h2).trans ((if_neg h3).trans ((if_neg h4).trans ((if_pos h5).trans ((if_pos h6).trans (if_pos h7)))))))) (lj_M_term_j163 a1 (e_M_fault (gI σ 13 0 55) σ) hp))
                · skip
                  have hp := hp.2 h7
                  exact mTr_k (mF_c0 ((if_neg h0).trans ((if_neg h1).trans ((if_neg h2).trans ((if_neg h3).trans ((if_neg h4).trans ((if_pos h5).trans ((if_pos h6).trans (if_neg h7)))))))) (lj_M_term_j163 a1 σ hp))
              · skip
                have hp := hp.2 h6
                exact mTr_k (mF_c0 ((if_neg h0).trans ((if_neg h1).trans ((if_neg h2).trans ((if_neg h3).trans ((if_neg h4).trans ((if_pos h5).trans (if_neg h6))))))) (lj_M_term_j163 a1 σ hp))
            · skip
              have hp := hp.2 h5
              refine mTr_if (fun h6 => ?_) (fun h6 => ?_)
              · skip
                have hp := hp.1 h6
                refine mTr_if (fun h7 => ?_) (fun h7 => ?_)
                · skip
                  have hp := hp.1 h7
                  refine mTr_g hp.1 ?_
                  have hp := hp.2
                  refine mTr_if (fun h8 => ?_) (fun h8 => ?_)
                  · skip
                    have hp := hp.1 h8
                    exact mTr_k (mF_c0 ((if_neg h0).trans ((if_neg h1).trans ((if_neg h2).trans ((if_neg h3).trans ((if_neg h4).trans ((if_neg h5).trans ((if_pos h6).trans ((if_pos h7).trans (if_pos h8))))))))) (lj_M_term_j163 a1 (e_M_fault (gI σ 13 0 55) σ) hp))
                  · skip
                    have hp := hp.2 h8
                    exact mTr_k (mF_c0 ((if_neg h0).trans ((if_neg h1).trans ((if_neg h2).trans ((if_neg h3).trans ((if_neg h4).trans ((if_neg h5).trans ((if_pos h6).trans ((if_pos h7).trans (if_neg h8))))))))) (lj_M_term_j163 a1 σ hp))
                · skip
                  have hp := hp.2 h7
                  exact mTr_k (mF_c0 ((if_neg h0).trans ((if_neg h1).trans ((if_neg h2).trans ((if_neg h3).trans ((if_neg h4).trans ((if_neg h5).trans ((if_pos h6).trans (if_neg h7)))))))) (lj_M_term_j163 a1 σ hp))
              · skip
                have hp := hp.2 h6
                refine mTr_if (fun h7 => ?_) (fun h7 => ?_)
                · skip
                  have hp := hp.1 h7
                  refine mTr_g hp.1 ?_
                  have hp := hp.2
                  refine mTr_g hp ?_
                  exact mTr_e (by decide) rfl (Eq.symm ((if_neg h0).trans ((if_neg h1).trans ((if_neg h2).trans ((if_neg h3).trans ((if_neg h4).trans ((if_neg h5).trans ((if_neg h6).trans (if_pos h7))))))))) (by decide) (by decide)
                · skip
                  have hp := hp.2 h7
                  refine mTr_if (fun h8 => ?_) (fun h8 => ?_)
                  · skip
                    have hp := hp.1 h8
                    refine mTr_g hp.1 ?_
                    have hp := hp.2
                    refine mTr_if (fun h9 => ?_) (fun h9 => ?_)
                    · skip
                      have hp := hp.1 h9
                      exact mTr_k (mF_c0 ((if_neg h0).trans ((if_neg h1).trans ((if_neg h2).trans ((if_neg h3).trans ((if_neg h4).trans ((if_neg h5).trans ((if_neg h6).trans ((if_neg h7).trans ((if_pos h8).trans (if_pos h9)))))))))) (lj_M_term_j163 a1 (e_M_fault (gI σ 13 0 55) σ) hp))
                    · skip
                      have hp := hp.2 h9
                      exact mTr_k (mF_c0 ((if_neg h0).trans ((if_neg h1).trans ((if_neg h2).trans ((if_neg h3).trans ((if_neg h4).trans ((if_neg h5).trans ((if_neg h6).trans ((if_neg h7).trans ((if_pos h8).trans (if_neg h9)))))))))) (lj_M_term_j163 a1 σ hp))
                  · skip
                    have hp := hp.2 h8
                    exact mTr_k (mF_c0 ((if_neg h0).trans ((if_neg h1).trans ((if_neg h2).trans ((if_neg h3).trans ((if_neg h4).trans ((if_neg h5).trans ((if_neg h6).trans ((if_neg h7).trans (if_neg h8))))))))) (lj_M_term_j163 a1 σ hp))
theorem li_M_378 : mLink "ClothWithManModel" 378 E_M_signed := ⟨tw_7_197, tw_1_9, ⟨by decide, by decide⟩, by decide +kernel, Or.inl tw_7_194, (fun h => by cases h), (fun _ => ⟨tw_7_196, tw_0_74, TX12, 71, rfl⟩), (fun h => by cases h)⟩






theorem tk_M_term : ∀ pc i nx tg, T_M_term pc = some (i, nx, tg) → mOkB prog_14_method_69_code pc i nx tg = true := code_ok (N := 214) (fun k h => by unfold T_M_term; rw [h]; rfl) (by decide +kernel)
theorem ok_M_term (l : Launch) : mPOK l "ClothWithManModel" prog_14_method_69_code P_M_term := by
  refine ⟨tk_M_term, ?_, ?_, ?_, (fun pc i nx tg kd _ h => by cases h), ?_, ?_, fun pc en h => by cases h⟩
  · intro x ci f ty fin h
    exact mLook_all (Q := fun x v => mFOK "ClothWithManModel" x v.1 v.2.1 v.2.2.1 v.2.2.2 ∧ (v.2.2.2 = true → pIni P_M_term = true → (Cond.fieldLink "ClothWithManModel" x (((mCl[v.1]?).getD ("", fun _ => ("", "", "", false), 0)).2.1 v.2.1).1 (((mCl[v.1]?).getD ("", fun _ => ("", "", "", false), 0)).2.1 v.2.1).2.1 (((mCl[v.1]?).getD ("", fun _ => ("", "", "", false), 0)).2.1 v.2.1).2.2.1 ∈ lw_tbl ∧ (((mCl[v.1]?).getD ("", fun _ => ("", "", "", false), 0)).2.1 v.2.1).1 = "ClothWithManModel"))) (fcC ⟨fo_M_50, fun h1 h2 => by cases h2⟩ (fcC ⟨fo_M_53, fun h1 h2 => by cases h2⟩ (fcC ⟨fo_M_56, fun h1 h2 => by cases h2⟩ (fcC ⟨fo_M_59, fun h1 h2 => by cases h2⟩ (fcC ⟨fo_M_62, fun h1 h2 => by cases h2⟩ (fcC ⟨fo_M_65, fun h1 h2 => by cases h2⟩ (fcC ⟨fo_M_68, fun h1 h2 => by cases h2⟩ (fcC ⟨fo_M_200, fun h1 h2 => by cases h1⟩ (fcC ⟨fo_M_203, fun h1 h2 => by cases h1⟩ fcN))))))))) x (ci, f, ty, fin) h
  · intro x
    have hh := mLook_all (l := ([] : List (Nat × (Int32 ⊕ Int64)))) (Q := fun x (v : Int32 ⊕ Int64) => (∀ w, v = .inl w → Cond.constant "ClothWithManModel" x w ∈ lw_tbl) ∧ (∀ w, v = .inr w → Cond.constantLong "ClothWithManModel" x w ∈ lw_tbl)) fcN x
    exact ⟨fun w h => (hh _ h).1 w rfl, fun w h => (hh _ h).2 w rfl⟩
  · exact fun x en h => mLook_all (Q := fun x en => mLink "ClothWithManModel" x en ∧ mCtr l en ∧ (en.1.1 = 2 → en.2.2.2.2.2.2 = none)) (fcC ⟨li_M_181, c_M_in l, (fun h => by cases h)⟩ (fcC ⟨li_M_206, c_M_here l, (fun h => by cases h)⟩ (fcC ⟨li_M_214, c_M_fault l, (fun h => by cases h)⟩ (fcC ⟨li_M_218, c_M_number l, (fun h => by cases h)⟩ (fcC ⟨li_M_224, c_M_need l, (fun h => by cases h)⟩ (fcC ⟨li_M_378, c_M_signed l, (fun h => by cases h)⟩ fcN)))))) x en h
  · exact fun x kd h => mLook_all (Q := fun x kd => (kd = 95 ∧ Cond.fieldLink "ClothWithManModel" x "ClothWithMan" "LIKENESSES" "[I" ∈ lw_tbl) ∨ (kd = 96 ∧ Cond.fieldLink "ClothWithManModel" x "ClothWithMan" "APART_BOUNDS" "[I" ∈ lw_tbl)) fcN x kd h
  · exact fun x ci h => mLook_all (Q := fun x ci => ci ≠ 0 ∧ ∃ (C : String) (T : u_T) (N : Nat), mCl[ci]? = some (C, T, N) ∧ Cond.classLink "ClothWithManModel" x C ∈ lw_tbl ∧ Cond.instantiable C N ∈ lw_tbl) fcN x ci h
set_option maxRecDepth 100000 in
theorem c_M_term (l : Launch) : mCtr l E_M_term := mCtr_of (P := P_M_term) (own := "ClothWithManModel") mLay_ok rfl (by decide +kernel) rfl (ok_M_term l) (fun h => by cases h) (fun as σ pr rv σ' hF hpr hlv => by
  unfold E_M_term S_M_term at hF
  simp only [] at hF
  split at hF
  · cases hF
    obtain ⟨n, pcF, c1, s1, g1, g2, g3, g4⟩ := mF_inv (d_M_term _ _ σ (hpr _ rfl))
    exact ⟨Nat.le_of_ble_eq_true rfl, (fun v h => by cases h), n, pcF, c1, s1, g1, mEnd_of (i := .return_) (P := P_M_term) (rets := [171, 213]) rfl g2, g3, g4⟩
  · cases hF
    exact (hpr _ rfl).elim)
/-! ClothWithManModel.story()I -/
noncomputable def tj_M_story_82j214 (x2 : Int32) (x3 : Int32) (x4 : Int32) (σ : MSto) (s : Int32 × Int32 × MSto) : Int32 × Int32 × MSto := (x3, x4, σ)
noncomputable def qj_M_story_82j214 (x2 : Int32) (x3 : Int32) (x4 : Int32) (σ : MSto) : Nat := 0
noncomputable def tj_M_story_82j151 (x2 : Int32) (x3 : Int32) (y0 : Int32) (σ : MSto) (s : Int32 × Int32 × MSto) : Int32 × Int32 × MSto := (if y0 = 0 then (if (gI (e_M_fault (gI σ 13 0 55) σ) 13 0 56) = (-1) then (tj_M_story_82j214 x2 (x3 ||| y0) (v_M_passes 59 (e_M_term x2 y0 (sI (e_M_fault (gI σ 13 0 55) σ) 13 0 55 ((gI (e_M_fault (gI σ 13 0 55) σ) 13 0 55) + 1)))) (e_M_passes 59 (e_M_term x2 y0 (sI (e_M_fault (gI σ 13 0 55) σ) 13 0 55 ((gI (e_M_fault (gI σ 13 0 55) σ) 13 0 55) + 1)))) s) else s) else (if (x3 &&& y0) = 0 then (if (gI σ 13 0 56) = (-1) then (tj_M_story_82j214 x2 (x3 ||| y0) (v_M_passes 59 (e_M_term x2 y0 (sI σ 13 0 55 ((gI σ 13 0 55) + 1)))) (e_M_passes 59 (e_M_term x2 y0 (sI σ 13 0 55 ((gI σ 13 0 55) + 1)))) s) else s) else (if (gI (e_M_fault (gI σ 13 0 55) σ) 13 0 56) = (-1) then (tj_M_story_82j214 x2 (x3 ||| y0) (v_M_passes 59 (e_M_term x2 y0 (sI (e_M_fault (gI σ 13 0 55) σ) 13 0 55 ((gI (e_M_fault (gI σ 13 0 55) σ) 13 0 55) + 1)))) (e_M_passes 59 (e_M_term x2 y0 (sI (e_M_fault (gI σ 13 0 55) σ) 13 0 55 ((gI (e_M_fault (gI σ 13 0 55) σ) 13 0 55) + 1)))) s) else s)))
noncomputable def qj_M_story_82j151 (x2 : Int32) (x3 : Int32) (y0 : Int32) (σ : MSto) : Nat := (if y0 = 0 then (if (gI (e_M_fault (gI σ 13 0 55) σ) 13 0 56) = (-1) then 0 else 1) else (if (x3 &&& y0) = 0 then (if (gI σ 13 0 56) = (-1) then 0 else 1) else (if (gI (e_M_fault (gI σ 13 0 55) σ) 13 0 56) = (-1) then 0 else 1)))
def gj_M_story_82j151 (x2 : Int32) (x3 : Int32) (y0 : Int32) (σ : MSto) : Prop := (((y0 = 0) → (((gI (e_M_fault (gI σ 13 0 55) σ) 13 0 56) = (-1)) → ((p_M_term x2 y0 (sI (e_M_fault (gI σ 13 0 55) σ) 13 0 55 ((gI (e_M_fault (gI σ 13 0 55) σ) 13 0 55) + 1))) ∧ (p_M_passes 59 (e_M_term x2 y0 (sI (e_M_fault (gI σ 13 0 55) σ) 13 0 55 ((gI (e_M_fault (gI σ 13 0 55) σ) 13 0 55) + 1))))))) ∧ (¬ (y0 = 0) → ((((x3 &&& y0) = 0) → (((gI σ 13 0 56) = (-1)) → ((p_M_term x2 y0 (sI σ 13 0 55 ((gI σ 13 0 55) + 1))) ∧ (p_M_passes 59 (e_M_term x2 y0 (sI σ 13 0 55 ((gI σ 13 0 55) + 1))))))) ∧ (¬ ((x3 &&& y0) = 0) → (((gI (e_M_fault (gI σ 13 0 55) σ) 13 0 56) = (-1)) → ((p_M_term x2 y0 (sI (e_M_fault (gI σ 13 0 55) σ) 13 0 55 ((gI (e_M_fault (gI σ 13 0 55) σ) 13 0 55) + 1))) ∧ (p_M_passes 59 (e_M_term x2 y0 (sI (e_M_fault (gI σ 13 0 55) σ) 13 0 55 ((gI (e_M_fault (gI σ 13 0 55) σ) 13 0 55) + 1))))))))))
noncomputable def t_M_story_82 (x2 : Int32) (s : Int32 × Int32 × MSto) : Int32 × Int32 × MSto := (if (s.2.1) = 0 then s else (if (v_M_here (s.2.2)) = 119 then (tj_M_story_82j151 x2 (s.1) 1 (s.2.2) s) else (if (v_M_here (s.2.2)) = 115 then (tj_M_story_82j151 x2 (s.1) 2 (s.2.2) s) else (if (v_M_here (s.2.2)) = 109 then (tj_M_story_82j151 x2 (s.1) 4 (s.2.2) s) else (if (v_M_here (s.2.2)) = 100 then (tj_M_story_82j151 x2 (s.1) 8 (s.2.2) s) else (if (v_M_here (s.2.2)) = 104 then (tj_M_story_82j151 x2 (s.1) 16 (s.2.2) s) else (tj_M_story_82j151 x2 (s.1) 0 (s.2.2) s)))))))
noncomputable def q_M_story_82s (x2 : Int32) (s : Int32 × Int32 × MSto) : Nat := (if (s.2.1) = 0 then 1 else (if (v_M_here (s.2.2)) = 119 then (qj_M_story_82j151 x2 (s.1) 1 (s.2.2)) else (if (v_M_here (s.2.2)) = 115 then (qj_M_story_82j151 x2 (s.1) 2 (s.2.2)) else (if (v_M_here (s.2.2)) = 109 then (qj_M_story_82j151 x2 (s.1) 4 (s.2.2)) else (if (v_M_here (s.2.2)) = 100 then (qj_M_story_82j151 x2 (s.1) 8 (s.2.2)) else (if (v_M_here (s.2.2)) = 104 then (qj_M_story_82j151 x2 (s.1) 16 (s.2.2)) else (qj_M_story_82j151 x2 (s.1) 0 (s.2.2))))))))
def g_M_story_82 (x2 : Int32) (s : Int32 × Int32 × MSto) : Prop := (¬ ((s.2.1) = 0) → ((p_M_here (s.2.2)) ∧ ((((v_M_here (s.2.2)) = 119) → (gj_M_story_82j151 x2 (s.1) 1 (s.2.2))) ∧ (¬ ((v_M_here (s.2.2)) = 119) → ((((v_M_here (s.2.2)) = 115) → (gj_M_story_82j151 x2 (s.1) 2 (s.2.2))) ∧ (¬ ((v_M_here (s.2.2)) = 115) → ((((v_M_here (s.2.2)) = 109) → (gj_M_story_82j151 x2 (s.1) 4 (s.2.2))) ∧ (¬ ((v_M_here (s.2.2)) = 109) → ((((v_M_here (s.2.2)) = 100) → (gj_M_story_82j151 x2 (s.1) 8 (s.2.2))) ∧ (¬ ((v_M_here (s.2.2)) = 100) → ((((v_M_here (s.2.2)) = 104) → (gj_M_story_82j151 x2 (s.1) 16 (s.2.2))) ∧ (¬ ((v_M_here (s.2.2)) = 104) → (gj_M_story_82j151 x2 (s.1) 0 (s.2.2))))))))))))))
noncomputable def f_M_story_82 (x2 : Int32) (s0 : Int32 × Int32 × MSto) (n : Nat) : Int32 × Int32 × MSto := nfold (fun i s => t_M_story_82 x2 s) s0 n
noncomputable def n_M_story_82 (x2 : Int32) (s0 : Int32 × Int32 × MSto) : Nat := leastN (fun i => q_M_story_82s x2 (f_M_story_82 x2 s0 i) = 1) 7
noncomputable def vj_M_story_j275 (x2 : Int32) (σ : MSto) : Int32 := x2
noncomputable def ej_M_story_j275 (x2 : Int32) (σ : MSto) : MSto := σ
noncomputable def vj_M_story_j217 (x2 : Int32) (x3 : Int32) (σ : MSto) : Int32 := (if (gI σ 13 0 53) ≤ (gI σ 13 0 55) then (if (gI σ 13 0 56) = (-1) then (vj_M_story_j275 x2 (sI (sI (sI σ 59 0 (Int32.toNatClampNeg x2) x3) 60 0 (Int32.toNatClampNeg x2) 1) 13 0 17 ((gI (sI (sI σ 59 0 (Int32.toNatClampNeg x2) x3) 60 0 (Int32.toNatClampNeg x2) 1) 13 0 17) + 1))) else ((-1) - (gI σ 13 0 56))) else (if (gI (e_M_fault (gI σ 13 0 55) σ) 13 0 56) = (-1) then (vj_M_story_j275 x2 (sI (sI (sI (e_M_fault (gI σ 13 0 55) σ) 59 0 (Int32.toNatClampNeg x2) x3) 60 0 (Int32.toNatClampNeg x2) 1) 13 0 17 ((gI (sI (sI (e_M_fault (gI σ 13 0 55) σ) 59 0 (Int32.toNatClampNeg x2) x3) 60 0 (Int32.toNatClampNeg x2) 1) 13 0 17) + 1))) else ((-1) - (gI (e_M_fault (gI σ 13 0 55) σ) 13 0 56))))
noncomputable def ej_M_story_j217 (x2 : Int32) (x3 : Int32) (σ : MSto) : MSto := (if (gI σ 13 0 53) ≤ (gI σ 13 0 55) then (if (gI σ 13 0 56) = (-1) then (ej_M_story_j275 x2 (sI (sI (sI σ 59 0 (Int32.toNatClampNeg x2) x3) 60 0 (Int32.toNatClampNeg x2) 1) 13 0 17 ((gI (sI (sI σ 59 0 (Int32.toNatClampNeg x2) x3) 60 0 (Int32.toNatClampNeg x2) 1) 13 0 17) + 1))) else σ) else (if (gI (e_M_fault (gI σ 13 0 55) σ) 13 0 56) = (-1) then (ej_M_story_j275 x2 (sI (sI (sI (e_M_fault (gI σ 13 0 55) σ) 59 0 (Int32.toNatClampNeg x2) x3) 60 0 (Int32.toNatClampNeg x2) 1) 13 0 17 ((gI (sI (sI (e_M_fault (gI σ 13 0 55) σ) 59 0 (Int32.toNatClampNeg x2) x3) 60 0 (Int32.toNatClampNeg x2) 1) 13 0 17) + 1))) else (e_M_fault (gI σ 13 0 55) σ)))
def gj_M_story_j217 (x2 : Int32) (x3 : Int32) (σ : MSto) : Prop := ((((gI σ 13 0 53) ≤ (gI σ 13 0 55)) → (((gI σ 13 0 56) = (-1)) → ((vp_in x2 6) ∧ (vp_in x2 6)))) ∧ (¬ ((gI σ 13 0 53) ≤ (gI σ 13 0 55)) → (((gI (e_M_fault (gI σ 13 0 55) σ) 13 0 56) = (-1)) → ((vp_in x2 6) ∧ (vp_in x2 6)))))
noncomputable def vj_M_story_j151 (x2 : Int32) (x3 : Int32) (y0 : Int32) (σ : MSto) : Int32 := (if y0 = 0 then (vj_M_story_j217 x2 x3 (e_M_fault (gI σ 13 0 55) σ)) else (if (x3 &&& y0) = 0 then (vj_M_story_j217 x2 x3 σ) else (vj_M_story_j217 x2 x3 (e_M_fault (gI σ 13 0 55) σ))))
noncomputable def ej_M_story_j151 (x2 : Int32) (x3 : Int32) (y0 : Int32) (σ : MSto) : MSto := (if y0 = 0 then (ej_M_story_j217 x2 x3 (e_M_fault (gI σ 13 0 55) σ)) else (if (x3 &&& y0) = 0 then (ej_M_story_j217 x2 x3 σ) else (ej_M_story_j217 x2 x3 (e_M_fault (gI σ 13 0 55) σ))))
def gj_M_story_j151 (x2 : Int32) (x3 : Int32) (y0 : Int32) (σ : MSto) : Prop := (((y0 = 0) → ((((gI (e_M_fault (gI σ 13 0 55) σ) 13 0 56) = (-1)) → False) ∧ (¬ ((gI (e_M_fault (gI σ 13 0 55) σ) 13 0 56) = (-1)) → (gj_M_story_j217 x2 x3 (e_M_fault (gI σ 13 0 55) σ))))) ∧ (¬ (y0 = 0) → ((((x3 &&& y0) = 0) → ((((gI σ 13 0 56) = (-1)) → False) ∧ (¬ ((gI σ 13 0 56) = (-1)) → (gj_M_story_j217 x2 x3 σ)))) ∧ (¬ ((x3 &&& y0) = 0) → ((((gI (e_M_fault (gI σ 13 0 55) σ) 13 0 56) = (-1)) → False) ∧ (¬ ((gI (e_M_fault (gI σ 13 0 55) σ) 13 0 56) = (-1)) → (gj_M_story_j217 x2 x3 (e_M_fault (gI σ 13 0 55) σ))))))))
noncomputable def vj_M_story_j68 (x2 : Int32) (x3 : Int32) (σ : MSto) : Int32 := (if (gI σ 13 0 53) ≤ 0 then (if ((f_M_story_82 x2 (x3, 0, σ) (n_M_story_82 x2 (x3, 0, σ))).2.1) = 0 then (vj_M_story_j217 x2 ((f_M_story_82 x2 (x3, 0, σ) (n_M_story_82 x2 (x3, 0, σ))).1) ((f_M_story_82 x2 (x3, 0, σ) (n_M_story_82 x2 (x3, 0, σ))).2.2)) else (if (v_M_here ((f_M_story_82 x2 (x3, 0, σ) (n_M_story_82 x2 (x3, 0, σ))).2.2)) = 119 then (vj_M_story_j151 x2 ((f_M_story_82 x2 (x3, 0, σ) (n_M_story_82 x2 (x3, 0, σ))).1) 1 ((f_M_story_82 x2 (x3, 0, σ) (n_M_story_82 x2 (x3, 0, σ))).2.2)) else (if (v_M_here ((f_M_story_82 x2 (x3, 0, σ) (n_M_story_82 x2 (x3, 0, σ))).2.2)) = 115 then (vj_M_story_j151 x2 ((f_M_story_82 x2 (x3, 0, σ) (n_M_story_82 x2 (x3, 0, σ))).1) 2 ((f_M_story_82 x2 (x3, 0, σ) (n_M_story_82 x2 (x3, 0, σ))).2.2)) else (if (v_M_here ((f_M_story_82 x2 (x3, 0, σ) (n_M_story_82 x2 (x3, 0, σ))).2.2)) = 109 then (vj_M_story_j151 x2 ((f_M_story_82 x2 (x3, 0, σ) (n_M_story_82 x2 (x3, 0, σ))).1) 4 ((f_M_story_82 x2 (x3, 0, σ) (n_M_story_82 x2 (x3, 0, σ))).2.2)) else (if (v_M_here ((f_M_story_82 x2 (x3, 0, σ) (n_M_story_82 x2 (x3, 0, σ))).2.2)) = 100 then (vj_M_story_j151 x2 ((f_M_story_82 x2 (x3, 0, σ) (n_M_story_82 x2 (x3, 0, σ))).1) 8 ((f_M_story_82 x2 (x3, 0, σ) (n_M_story_82 x2 (x3, 0, σ))).2.2)) else (if (v_M_here ((f_M_story_82 x2 (x3, 0, σ) (n_M_story_82 x2 (x3, 0, σ))).2.2)) = 104 then (vj_M_story_j151 x2 ((f_M_story_82 x2 (x3, 0, σ) (n_M_story_82 x2 (x3, 0, σ))).1) 16 ((f_M_story_82 x2 (x3, 0, σ) (n_M_story_82 x2 (x3, 0, σ))).2.2)) else (vj_M_story_j151 x2 ((f_M_story_82 x2 (x3, 0, σ) (n_M_story_82 x2 (x3, 0, σ))).1) 0 ((f_M_story_82 x2 (x3, 0, σ) (n_M_story_82 x2 (x3, 0, σ))).2.2)))))))) else (if ((f_M_story_82 x2 (x3, 1, σ) (n_M_story_82 x2 (x3, 1, σ))).2.1) = 0 then (vj_M_story_j217 x2 ((f_M_story_82 x2 (x3, 1, σ) (n_M_story_82 x2 (x3, 1, σ))).1) ((f_M_story_82 x2 (x3, 1, σ) (n_M_story_82 x2 (x3, 1, σ))).2.2)) else (if (v_M_here ((f_M_story_82 x2 (x3, 1, σ) (n_M_story_82 x2 (x3, 1, σ))).2.2)) = 119 then (vj_M_story_j151 x2 ((f_M_story_82 x2 (x3, 1, σ) (n_M_story_82 x2 (x3, 1, σ))).1) 1 ((f_M_story_82 x2 (x3, 1, σ) (n_M_story_82 x2 (x3, 1, σ))).2.2)) else (if (v_M_here ((f_M_story_82 x2 (x3, 1, σ) (n_M_story_82 x2 (x3, 1, σ))).2.2)) = 115 then (vj_M_story_j151 x2 ((f_M_story_82 x2 (x3, 1, σ) (n_M_story_82 x2 (x3, 1, σ))).1) 2 ((f_M_story_82 x2 (x3, 1, σ) (n_M_story_82 x2 (x3, 1, σ))).2.2)) else (if (v_M_here ((f_M_story_82 x2 (x3, 1, σ) (n_M_story_82 x2 (x3, 1, σ))).2.2)) = 109 then (vj_M_story_j151 x2 ((f_M_story_82 x2 (x3, 1, σ) (n_M_story_82 x2 (x3, 1, σ))).1) 4 ((f_M_story_82 x2 (x3, 1, σ) (n_M_story_82 x2 (x3, 1, σ))).2.2)) else (if (v_M_here ((f_M_story_82 x2 (x3, 1, σ) (n_M_story_82 x2 (x3, 1, σ))).2.2)) = 100 then (vj_M_story_j151 x2 ((f_M_story_82 x2 (x3, 1, σ) (n_M_story_82 x2 (x3, 1, σ))).1) 8 ((f_M_story_82 x2 (x3, 1, σ) (n_M_story_82 x2 (x3, 1, σ))).2.2)) else (if (v_M_here ((f_M_story_82 x2 (x3, 1, σ) (n_M_story_82 x2 (x3, 1, σ))).2.2)) = 104 then (vj_M_story_j151 x2 ((f_M_story_82 x2 (x3, 1, σ) (n_M_story_82 x2 (x3, 1, σ))).1) 16 ((f_M_story_82 x2 (x3, 1, σ) (n_M_story_82 x2 (x3, 1, σ))).2.2)) else (vj_M_story_j151 x2 ((f_M_story_82 x2 (x3, 1, σ) (n_M_story_82 x2 (x3, 1, σ))).1) 0 ((f_M_story_82 x2 (x3, 1, σ) (n_M_story_82 x2 (x3, 1, σ))).2.2)))))))))
noncomputable def ej_M_story_j68 (x2 : Int32) (x3 : Int32) (σ : MSto) : MSto := (if (gI σ 13 0 53) ≤ 0 then (if ((f_M_story_82 x2 (x3, 0, σ) (n_M_story_82 x2 (x3, 0, σ))).2.1) = 0 then (ej_M_story_j217 x2 ((f_M_story_82 x2 (x3, 0, σ) (n_M_story_82 x2 (x3, 0, σ))).1) ((f_M_story_82 x2 (x3, 0, σ) (n_M_story_82 x2 (x3, 0, σ))).2.2)) else (if (v_M_here ((f_M_story_82 x2 (x3, 0, σ) (n_M_story_82 x2 (x3, 0, σ))).2.2)) = 119 then (ej_M_story_j151 x2 ((f_M_story_82 x2 (x3, 0, σ) (n_M_story_82 x2 (x3, 0, σ))).1) 1 ((f_M_story_82 x2 (x3, 0, σ) (n_M_story_82 x2 (x3, 0, σ))).2.2)) else (if (v_M_here ((f_M_story_82 x2 (x3, 0, σ) (n_M_story_82 x2 (x3, 0, σ))).2.2)) = 115 then (ej_M_story_j151 x2 ((f_M_story_82 x2 (x3, 0, σ) (n_M_story_82 x2 (x3, 0, σ))).1) 2 ((f_M_story_82 x2 (x3, 0, σ) (n_M_story_82 x2 (x3, 0, σ))).2.2)) else (if (v_M_here ((f_M_story_82 x2 (x3, 0, σ) (n_M_story_82 x2 (x3, 0, σ))).2.2)) = 109 then (ej_M_story_j151 x2 ((f_M_story_82 x2 (x3, 0, σ) (n_M_story_82 x2 (x3, 0, σ))).1) 4 ((f_M_story_82 x2 (x3, 0, σ) (n_M_story_82 x2 (x3, 0, σ))).2.2)) else (if (v_M_here ((f_M_story_82 x2 (x3, 0, σ) (n_M_story_82 x2 (x3, 0, σ))).2.2)) = 100 then (ej_M_story_j151 x2 ((f_M_story_82 x2 (x3, 0, σ) (n_M_story_82 x2 (x3, 0, σ))).1) 8 ((f_M_story_82 x2 (x3, 0, σ) (n_M_story_82 x2 (x3, 0, σ))).2.2)) else (if (v_M_here ((f_M_story_82 x2 (x3, 0, σ) (n_M_story_82 x2 (x3, 0, σ))).2.2)) = 104 then (ej_M_story_j151 x2 ((f_M_story_82 x2 (x3, 0, σ) (n_M_story_82 x2 (x3, 0, σ))).1) 16 ((f_M_story_82 x2 (x3, 0, σ) (n_M_story_82 x2 (x3, 0, σ))).2.2)) else (ej_M_story_j151 x2 ((f_M_story_82 x2 (x3, 0, σ) (n_M_story_82 x2 (x3, 0, σ))).1) 0 ((f_M_story_82 x2 (x3, 0, σ) (n_M_story_82 x2 (x3, 0, σ))).2.2)))))))) else (if ((f_M_story_82 x2 (x3, 1, σ) (n_M_story_82 x2 (x3, 1, σ))).2.1) = 0 then (ej_M_story_j217 x2 ((f_M_story_82 x2 (x3, 1, σ) (n_M_story_82 x2 (x3, 1, σ))).1) ((f_M_story_82 x2 (x3, 1, σ) (n_M_story_82 x2 (x3, 1, σ))).2.2)) else (if (v_M_here ((f_M_story_82 x2 (x3, 1, σ) (n_M_story_82 x2 (x3, 1, σ))).2.2)) = 119 then (ej_M_story_j151 x2 ((f_M_story_82 x2 (x3, 1, σ) (n_M_story_82 x2 (x3, 1, σ))).1) 1 ((f_M_story_82 x2 (x3, 1, σ) (n_M_story_82 x2 (x3, 1, σ))).2.2)) else (if (v_M_here ((f_M_story_82 x2 (x3, 1, σ) (n_M_story_82 x2 (x3, 1, σ))).2.2)) = 115 then (ej_M_story_j151 x2 ((f_M_story_82 x2 (x3, 1, σ) (n_M_story_82 x2 (x3, 1, σ))).1) 2 ((f_M_story_82 x2 (x3, 1, σ) (n_M_story_82 x2 (x3, 1, σ))).2.2)) else (if (v_M_here ((f_M_story_82 x2 (x3, 1, σ) (n_M_story_82 x2 (x3, 1, σ))).2.2)) = 109 then (ej_M_story_j151 x2 ((f_M_story_82 x2 (x3, 1, σ) (n_M_story_82 x2 (x3, 1, σ))).1) 4 ((f_M_story_82 x2 (x3, 1, σ) (n_M_story_82 x2 (x3, 1, σ))).2.2)) else (if (v_M_here ((f_M_story_82 x2 (x3, 1, σ) (n_M_story_82 x2 (x3, 1, σ))).2.2)) = 100 then (ej_M_story_j151 x2 ((f_M_story_82 x2 (x3, 1, σ) (n_M_story_82 x2 (x3, 1, σ))).1) 8 ((f_M_story_82 x2 (x3, 1, σ) (n_M_story_82 x2 (x3, 1, σ))).2.2)) else (if (v_M_here ((f_M_story_82 x2 (x3, 1, σ) (n_M_story_82 x2 (x3, 1, σ))).2.2)) = 104 then (ej_M_story_j151 x2 ((f_M_story_82 x2 (x3, 1, σ) (n_M_story_82 x2 (x3, 1, σ))).1) 16 ((f_M_story_82 x2 (x3, 1, σ) (n_M_story_82 x2 (x3, 1, σ))).2.2)) else (ej_M_story_j151 x2 ((f_M_story_82 x2 (x3, 1, σ) (n_M_story_82 x2 (x3, 1, σ))).1) 0 ((f_M_story_82 x2 (x3, 1, σ) (n_M_story_82 x2 (x3, 1, σ))).2.2)))))))))
def gj_M_story_j68 (x2 : Int32) (x3 : Int32) (σ : MSto) : Prop := ((((gI σ 13 0 53) ≤ 0) → ((∀ i, i < (n_M_story_82 x2 (x3, 0, σ)) → g_M_story_82 x2 (f_M_story_82 x2 (x3, 0, σ) i) ∧ ¬ q_M_story_82s x2 (f_M_story_82 x2 (x3, 0, σ) i) = 1) ∧ (((((f_M_story_82 x2 (x3, 0, σ) (n_M_story_82 x2 (x3, 0, σ))).2.1) = 0) → (gj_M_story_j217 x2 ((f_M_story_82 x2 (x3, 0, σ) (n_M_story_82 x2 (x3, 0, σ))).1) ((f_M_story_82 x2 (x3, 0, σ) (n_M_story_82 x2 (x3, 0, σ))).2.2))) ∧ (¬ (((f_M_story_82 x2 (x3, 0, σ) (n_M_story_82 x2 (x3, 0, σ))).2.1) = 0) → ((p_M_here ((f_M_story_82 x2 (x3, 0, σ) (n_M_story_82 x2 (x3, 0, σ))).2.2)) ∧ ((((v_M_here ((f_M_story_82 x2 (x3, 0, σ) (n_M_story_82 x2 (x3, 0, σ))).2.2)) = 119) → (gj_M_story_j151 x2 ((f_M_story_82 x2 (x3, 0, σ) (n_M_story_82 x2 (x3, 0, σ))).1) 1 ((f_M_story_82 x2 (x3, 0, σ) (n_M_story_82 x2 (x3, 0, σ))).2.2))) ∧ (¬ ((v_M_here ((f_M_story_82 x2 (x3, 0, σ) (n_M_story_82 x2 (x3, 0, σ))).2.2)) = 119) → ((((v_M_here ((f_M_story_82 x2 (x3, 0, σ) (n_M_story_82 x2 (x3, 0, σ))).2.2)) = 115) → (gj_M_story_j151 x2 ((f_M_story_82 x2 (x3, 0, σ) (n_M_story_82 x2 (x3, 0, σ))).1) 2 ((f_M_story_82 x2 (x3, 0, σ) (n_M_story_82 x2 (x3, 0, σ))).2.2))) ∧ (¬ ((v_M_here ((f_M_story_82 x2 (x3, 0, σ) (n_M_story_82 x2 (x3, 0, σ))).2.2)) = 115) → ((((v_M_here ((f_M_story_82 x2 (x3, 0, σ) (n_M_story_82 x2 (x3, 0, σ))).2.2)) = 109) → (gj_M_story_j151 x2 ((f_M_story_82 x2 (x3, 0, σ) (n_M_story_82 x2 (x3, 0, σ))).1) 4 ((f_M_story_82 x2 (x3, 0, σ) (n_M_story_82 x2 (x3, 0, σ))).2.2))) ∧ (¬ ((v_M_here ((f_M_story_82 x2 (x3, 0, σ) (n_M_story_82 x2 (x3, 0, σ))).2.2)) = 109) → ((((v_M_here ((f_M_story_82 x2 (x3, 0, σ) (n_M_story_82 x2 (x3, 0, σ))).2.2)) = 100) → (gj_M_story_j151 x2 ((f_M_story_82 x2 (x3, 0, σ) (n_M_story_82 x2 (x3, 0, σ))).1) 8 ((f_M_story_82 x2 (x3, 0, σ) (n_M_story_82 x2 (x3, 0, σ))).2.2))) ∧ (¬ ((v_M_here ((f_M_story_82 x2 (x3, 0, σ) (n_M_story_82 x2 (x3, 0, σ))).2.2)) = 100) → ((((v_M_here ((f_M_story_82 x2 (x3, 0, σ) (n_M_story_82 x2 (x3, 0, σ))).2.2)) = 104) → (gj_M_story_j151 x2 ((f_M_story_82 x2 (x3, 0, σ) (n_M_story_82 x2 (x3, 0, σ))).1) 16 ((f_M_story_82 x2 (x3, 0, σ) (n_M_story_82 x2 (x3, 0, σ))).2.2))) ∧ (¬ ((v_M_here ((f_M_story_82 x2 (x3, 0, σ) (n_M_story_82 x2 (x3, 0, σ))).2.2)) = 104) → (gj_M_story_j151 x2 ((f_M_story_82 x2 (x3, 0, σ) (n_M_story_82 x2 (x3, 0, σ))).1) 0 ((f_M_story_82 x2 (x3, 0, σ) (n_M_story_82 x2 (x3, 0, σ))).2.2))))))))))))))))) ∧ (¬ ((gI σ 13 0 53) ≤ 0) → ((∀ i, i < (n_M_story_82 x2 (x3, 1, σ)) → g_M_story_82 x2 (f_M_story_82 x2 (x3, 1, σ) i) ∧ ¬ q_M_story_82s x2 (f_M_story_82 x2 (x3, 1, σ) i) = 1) ∧ (((((f_M_story_82 x2 (x3, 1, σ) (n_M_story_82 x2 (x3, 1, σ))).2.1) = 0) → (gj_M_story_j217 x2 ((f_M_story_82 x2 (x3, 1, σ) (n_M_story_82 x2 (x3, 1, σ))).1) ((f_M_story_82 x2 (x3, 1, σ) (n_M_story_82 x2 (x3, 1, σ))).2.2))) ∧ (¬ (((f_M_story_82 x2 (x3, 1, σ) (n_M_story_82 x2 (x3, 1, σ))).2.1) = 0) → ((p_M_here ((f_M_story_82 x2 (x3, 1, σ) (n_M_story_82 x2 (x3, 1, σ))).2.2)) ∧ ((((v_M_here ((f_M_story_82 x2 (x3, 1, σ) (n_M_story_82 x2 (x3, 1, σ))).2.2)) = 119) → (gj_M_story_j151 x2 ((f_M_story_82 x2 (x3, 1, σ) (n_M_story_82 x2 (x3, 1, σ))).1) 1 ((f_M_story_82 x2 (x3, 1, σ) (n_M_story_82 x2 (x3, 1, σ))).2.2))) ∧ (¬ ((v_M_here ((f_M_story_82 x2 (x3, 1, σ) (n_M_story_82 x2 (x3, 1, σ))).2.2)) = 119) → ((((v_M_here ((f_M_story_82 x2 (x3, 1, σ) (n_M_story_82 x2 (x3, 1, σ))).2.2)) = 115) → (gj_M_story_j151 x2 ((f_M_story_82 x2 (x3, 1, σ) (n_M_story_82 x2 (x3, 1, σ))).1) 2 ((f_M_story_82 x2 (x3, 1, σ) (n_M_story_82 x2 (x3, 1, σ))).2.2))) ∧ (¬ ((v_M_here ((f_M_story_82 x2 (x3, 1, σ) (n_M_story_82 x2 (x3, 1, σ))).2.2)) = 115) → ((((v_M_here ((f_M_story_82 x2 (x3, 1, σ) (n_M_story_82 x2 (x3, 1, σ))).2.2)) = 109) → (gj_M_story_j151 x2 ((f_M_story_82 x2 (x3, 1, σ) (n_M_story_82 x2 (x3, 1, σ))).1) 4 ((f_M_story_82 x2 (x3, 1, σ) (n_M_story_82 x2 (x3, 1, σ))).2.2))) ∧ (¬ ((v_M_here ((f_M_story_82 x2 (x3, 1, σ) (n_M_story_82 x2 (x3, 1, σ))).2.2)) = 109) → ((((v_M_here ((f_M_story_82 x2 (x3, 1, σ) (n_M_story_82 x2 (x3, 1, σ))).2.2)) = 100) → (gj_M_story_j151 x2 ((f_M_story_82 x2 (x3, 1, σ) (n_M_story_82 x2 (x3, 1, σ))).1) 8 ((f_M_story_82 x2 (x3, 1, σ) (n_M_story_82 x2 (x3, 1, σ))).2.2))) ∧ (¬ ((v_M_here ((f_M_story_82 x2 (x3, 1, σ) (n_M_story_82 x2 (x3, 1, σ))).2.2)) = 100) → ((((v_M_here ((f_M_story_82 x2 (x3, 1, σ) (n_M_story_82 x2 (x3, 1, σ))).2.2)) = 104) → (gj_M_story_j151 x2 ((f_M_story_82 x2 (x3, 1, σ) (n_M_story_82 x2 (x3, 1, σ))).1) 16 ((f_M_story_82 x2 (x3, 1, σ) (n_M_story_82 x2 (x3, 1, σ))).2.2))) ∧ (¬ ((v_M_here ((f_M_story_82 x2 (x3, 1, σ) (n_M_story_82 x2 (x3, 1, σ))).2.2)) = 104) → (gj_M_story_j151 x2 ((f_M_story_82 x2 (x3, 1, σ) (n_M_story_82 x2 (x3, 1, σ))).1) 0 ((f_M_story_82 x2 (x3, 1, σ) (n_M_story_82 x2 (x3, 1, σ))).2.2))))))))))))))))))
noncomputable def vj_M_story_j47 (x2 : Int32) (x3 : Int32) (σ : MSto) : Int32 := (vj_M_story_j68 x2 x3 (sI (sI (sI σ 56 0 (Int32.toNatClampNeg x2) 0) 57 0 (Int32.toNatClampNeg x2) (-1)) 58 0 (Int32.toNatClampNeg x2) 0))
noncomputable def ej_M_story_j47 (x2 : Int32) (x3 : Int32) (σ : MSto) : MSto := (ej_M_story_j68 x2 x3 (sI (sI (sI σ 56 0 (Int32.toNatClampNeg x2) 0) 57 0 (Int32.toNatClampNeg x2) (-1)) 58 0 (Int32.toNatClampNeg x2) 0))
def gj_M_story_j47 (x2 : Int32) (x3 : Int32) (σ : MSto) : Prop := ((vp_in x2 6) ∧ ((vp_in x2 6) ∧ ((vp_in x2 6) ∧ (gj_M_story_j68 x2 x3 (sI (sI (sI σ 56 0 (Int32.toNatClampNeg x2) 0) 57 0 (Int32.toNatClampNeg x2) (-1)) 58 0 (Int32.toNatClampNeg x2) 0)))))
noncomputable def v_M_story  (σ : MSto) : Int32 := (if (gI (sI σ 13 0 52 0) 13 0 17) = 6 then (-100) else (vj_M_story_j47 (gI (e_M_begin 40 (sI σ 13 0 52 0)) 13 0 17) 0 (sI (e_M_begin 40 (sI σ 13 0 52 0)) 52 0 (Int32.toNatClampNeg (gI (e_M_begin 40 (sI σ 13 0 52 0)) 13 0 17)) (-1))))
def p_M_story  (σ : MSto) : Prop := (¬ ((gI (sI σ 13 0 52 0) 13 0 17) = 6) → ((vp_in (gI (e_M_begin 40 (sI σ 13 0 52 0)) 13 0 17) 6) ∧ (gj_M_story_j47 (gI (e_M_begin 40 (sI σ 13 0 52 0)) 13 0 17) 0 (sI (e_M_begin 40 (sI σ 13 0 52 0)) 52 0 (Int32.toNatClampNeg (gI (e_M_begin 40 (sI σ 13 0 52 0)) 13 0 17)) (-1)))))
noncomputable def e_M_story  (σ : MSto) : MSto := (if (gI (sI σ 13 0 52 0) 13 0 17) = 6 then (e_M_begin 40 (sI σ 13 0 52 0)) else (ej_M_story_j47 (gI (e_M_begin 40 (sI σ 13 0 52 0)) 13 0 17) 0 (sI (e_M_begin 40 (sI σ 13 0 52 0)) 52 0 (Int32.toNatClampNeg (gI (e_M_begin 40 (sI σ 13 0 52 0)) 13 0 17)) (-1))))
noncomputable def S_M_story : List MV → MSto → Option Prop × Option MV × MSto := fun as σ => match as with
  | [.inr (.inr (some (13, 0)))] => (some (p_M_story σ), some (mI (v_M_story σ)), e_M_story σ)
  | _ => (some False, none, σ)
noncomputable def E_M_story : MEnt := ((1, 0, 13), (4, 91, 0, 0), S_M_story, ((⟨"ClothWithManModel", "story", "()I"⟩ : MethodName), prog_14_method_68_code, 7, (some .int)))

def T_M_story : Nat → Option (Instr × Nat × List Nat) := fun k => bif Nat.blt k 277 then (bif Nat.blt k 140 then (bif Nat.blt k 61 then (bif Nat.blt k 34 then (bif Nat.blt k 18 then (bif Nat.blt k 6 then (bif Nat.blt k 2 then (bif Nat.blt k 1 then (bif Nat.beq k 0 then some (.aload_n 0, 1, []) else none) else (bif Nat.beq k 1 then some (.iconst 0, 2, []) else none)) else (bif Nat.blt k 5 then (bif Nat.beq k 2 then some (.putfield 161, 5, []) else none) else (bif Nat.beq k 5 then some (.aload_n 0, 6, []) else none))) else (bif Nat.blt k 11 then (bif Nat.blt k 9 then (bif Nat.beq k 6 then some (.getfield 188, 9, []) else none) else (bif Nat.beq k 9 then some (.bipush 6, 11, []) else none)) else (bif Nat.blt k 14 then (bif Nat.beq k 11 then some (.if_icmp .ne 7, 14, [18]) else none) else (bif Nat.blt k 15 then (bif Nat.beq k 14 then some (.iconst 1, 15, []) else none) else (bif Nat.beq k 15 then some (.goto 4, 18, [19]) else none))))) else (bif Nat.blt k 26 then (bif Nat.blt k 20 then (bif Nat.blt k 19 then (bif Nat.beq k 18 then some (.iconst 0, 19, []) else none) else (bif Nat.beq k 19 then some (.istore_n 1, 20, []) else none)) else (bif Nat.blt k 21 then (bif Nat.beq k 20 then some (.aload_n 0, 21, []) else none) else (bif Nat.blt k 23 then (bif Nat.beq k 21 then some (.bipush 40, 23, []) else none) else (bif Nat.beq k 23 then some (.invokevirtual 221, 26, []) else none)))) else (bif Nat.blt k 30 then (bif Nat.blt k 27 then (bif Nat.beq k 26 then some (.iload_n 1, 27, []) else none) else (bif Nat.beq k 27 then some (.ifCond .eq 6, 30, [33]) else none)) else (bif Nat.blt k 32 then (bif Nat.beq k 30 then some (.bipush (-100), 32, []) else none) else (bif Nat.blt k 33 then (bif Nat.beq k 32 then some (.ireturn, 33, []) else none) else (bif Nat.beq k 33 then some (.aload_n 0, 34, []) else none)))))) else (bif Nat.blt k 47 then (bif Nat.blt k 40 then (bif Nat.blt k 38 then (bif Nat.blt k 37 then (bif Nat.beq k 34 then some (.getfield 188, 37, []) else none) else (bif Nat.beq k 37 then some (.istore_n 2, 38, []) else none)) else (bif Nat.blt k 39 then (bif Nat.beq k 38 then some (.iconst 0, 39, []) else none) else (bif Nat.beq k 39 then some (.istore_n 3, 40, []) else none))) else (bif Nat.blt k 44 then (bif Nat.blt k 41 then (bif Nat.beq k 40 then some (.aload_n 0, 41, []) else none) else (bif Nat.beq k 41 then some (.getfield 50, 44, []) else none)) else (bif Nat.blt k 45 then (bif Nat.beq k 44 then some (.iload_n 2, 45, []) else none) else (bif Nat.blt k 46 then (bif Nat.beq k 45 then some (.iconst (-1), 46, []) else none) else (bif Nat.beq k 46 then some (.iastore, 47, []) else none))))) else (bif Nat.blt k 54 then (bif Nat.blt k 51 then (bif Nat.blt k 48 then (bif Nat.beq k 47 then some (.aload_n 0, 48, []) else none) else (bif Nat.beq k 48 then some (.getfield 62, 51, []) else none)) else (bif Nat.blt k 52 then (bif Nat.beq k 51 then some (.iload_n 2, 52, []) else none) else (bif Nat.blt k 53 then (bif Nat.beq k 52 then some (.iconst 0, 53, []) else none) else (bif Nat.beq k 53 then some (.iastore, 54, []) else none)))) else (bif Nat.blt k 58 then (bif Nat.blt k 55 then (bif Nat.beq k 54 then some (.aload_n 0, 55, []) else none) else (bif Nat.beq k 55 then some (.getfield 65, 58, []) else none)) else (bif Nat.blt k 59 then (bif Nat.beq k 58 then some (.iload_n 2, 59, []) else none) else (bif Nat.blt k 60 then (bif Nat.beq k 59 then some (.iconst (-1), 60, []) else none) else (bif Nat.beq k 60 then some (.iastore, 61, []) else none))))))) else (bif Nat.blt k 97 then (bif Nat.blt k 76 then (bif Nat.blt k 67 then (bif Nat.blt k 65 then (bif Nat.blt k 62 then (bif Nat.beq k 61 then some (.aload_n 0, 62, []) else none) else (bif Nat.beq k 62 then some (.getfield 68, 65, []) else none)) else (bif Nat.blt k 66 then (bif Nat.beq k 65 then some (.iload_n 2, 66, []) else none) else (bif Nat.beq k 66 then some (.iconst 0, 67, []) else none))) else (bif Nat.blt k 69 then (bif Nat.blt k 68 then (bif Nat.beq k 67 then some (.iastore, 68, []) else none) else (bif Nat.beq k 68 then some (.aload_n 0, 69, []) else none)) else (bif Nat.blt k 72 then (bif Nat.beq k 69 then some (.getfield 194, 72, []) else none) else (bif Nat.blt k 75 then (bif Nat.beq k 72 then some (.ifCond .le 7, 75, [79]) else none) else (bif Nat.beq k 75 then some (.iconst 1, 76, []) else none))))) else (bif Nat.blt k 87 then (bif Nat.blt k 80 then (bif Nat.blt k 79 then (bif Nat.beq k 76 then some (.goto 4, 79, [80]) else none) else (bif Nat.beq k 79 then some (.iconst 0, 80, []) else none)) else (bif Nat.blt k 82 then (bif Nat.beq k 80 then some (.istore 4, 82, []) else none) else (bif Nat.blt k 84 then (bif Nat.beq k 82 then some (.iload 4, 84, []) else none) else (bif Nat.beq k 84 then some (.ifCond .eq 133, 87, [217]) else none)))) else (bif Nat.blt k 91 then (bif Nat.blt k 88 then (bif Nat.beq k 87 then some (.aload_n 0, 88, []) else none) else (bif Nat.beq k 88 then some (.invokevirtual 206, 91, []) else none)) else (bif Nat.blt k 93 then (bif Nat.beq k 91 then some (.istore 5, 93, []) else none) else (bif Nat.blt k 95 then (bif Nat.beq k 93 then some (.iload 5, 95, []) else none) else (bif Nat.beq k 95 then some (.bipush 119, 97, []) else none)))))) else (bif Nat.blt k 117 then (bif Nat.blt k 106 then (bif Nat.blt k 101 then (bif Nat.blt k 100 then (bif Nat.beq k 97 then some (.if_icmp .ne 7, 100, [104]) else none) else (bif Nat.beq k 100 then some (.iconst 1, 101, []) else none)) else (bif Nat.blt k 104 then (bif Nat.beq k 101 then some (.goto 50, 104, [151]) else none) else (bif Nat.beq k 104 then some (.iload 5, 106, []) else none))) else (bif Nat.blt k 111 then (bif Nat.blt k 108 then (bif Nat.beq k 106 then some (.bipush 115, 108, []) else none) else (bif Nat.beq k 108 then some (.if_icmp .ne 7, 111, [115]) else none)) else (bif Nat.blt k 112 then (bif Nat.beq k 111 then some (.iconst 2, 112, []) else none) else (bif Nat.blt k 115 then (bif Nat.beq k 112 then some (.goto 39, 115, [151]) else none) else (bif Nat.beq k 115 then some (.iload 5, 117, []) else none))))) else (bif Nat.blt k 128 then (bif Nat.blt k 122 then (bif Nat.blt k 119 then (bif Nat.beq k 117 then some (.bipush 109, 119, []) else none) else (bif Nat.beq k 119 then some (.if_icmp .ne 7, 122, [126]) else none)) else (bif Nat.blt k 123 then (bif Nat.beq k 122 then some (.iconst 4, 123, []) else none) else (bif Nat.blt k 126 then (bif Nat.beq k 123 then some (.goto 28, 126, [151]) else none) else (bif Nat.beq k 126 then some (.iload 5, 128, []) else none)))) else (bif Nat.blt k 133 then (bif Nat.blt k 130 then (bif Nat.beq k 128 then some (.bipush 100, 130, []) else none) else (bif Nat.beq k 130 then some (.if_icmp .ne 8, 133, [138]) else none)) else (bif Nat.blt k 135 then (bif Nat.beq k 133 then some (.bipush 8, 135, []) else none) else (bif Nat.blt k 138 then (bif Nat.beq k 135 then some (.goto 16, 138, [151]) else none) else (bif Nat.beq k 138 then some (.iload 5, 140, []) else none)))))))) else (bif Nat.blt k 212 then (bif Nat.blt k 178 then (bif Nat.blt k 159 then (bif Nat.blt k 150 then (bif Nat.blt k 145 then (bif Nat.blt k 142 then (bif Nat.beq k 140 then some (.bipush 104, 142, []) else none) else (bif Nat.beq k 142 then some (.if_icmp .ne 8, 145, [150]) else none)) else (bif Nat.blt k 147 then (bif Nat.beq k 145 then some (.bipush 16, 147, []) else none) else (bif Nat.beq k 147 then some (.goto 4, 150, [151]) else none))) else (bif Nat.blt k 153 then (bif Nat.blt k 151 then (bif Nat.beq k 150 then some (.iconst 0, 151, []) else none) else (bif Nat.beq k 151 then some (.istore 6, 153, []) else none)) else (bif Nat.blt k 155 then (bif Nat.beq k 153 then some (.iload 6, 155, []) else none) else (bif Nat.blt k 158 then (bif Nat.beq k 155 then some (.ifCond .eq 10, 158, [165]) else none) else (bif Nat.beq k 158 then some (.iload_n 3, 159, []) else none))))) else (bif Nat.blt k 167 then (bif Nat.blt k 162 then (bif Nat.blt k 161 then (bif Nat.beq k 159 then some (.iload 6, 161, []) else none) else (bif Nat.beq k 161 then some (.iand, 162, []) else none)) else (bif Nat.blt k 165 then (bif Nat.beq k 162 then some (.ifCond .eq 11, 165, [173]) else none) else (bif Nat.blt k 166 then (bif Nat.beq k 165 then some (.aload_n 0, 166, []) else none) else (bif Nat.beq k 166 then some (.aload_n 0, 167, []) else none)))) else (bif Nat.blt k 173 then (bif Nat.blt k 170 then (bif Nat.beq k 167 then some (.getfield 200, 170, []) else none) else (bif Nat.beq k 170 then some (.invokevirtual 214, 173, []) else none)) else (bif Nat.blt k 174 then (bif Nat.beq k 173 then some (.aload_n 0, 174, []) else none) else (bif Nat.blt k 177 then (bif Nat.beq k 174 then some (.getfield 203, 177, []) else none) else (bif Nat.beq k 177 then some (.iconst (-1), 178, []) else none)))))) else (bif Nat.blt k 195 then (bif Nat.blt k 186 then (bif Nat.blt k 184 then (bif Nat.blt k 181 then (bif Nat.beq k 178 then some (.if_icmp .eq 6, 181, [184]) else none) else (bif Nat.beq k 181 then some (.goto 36, 184, [217]) else none)) else (bif Nat.blt k 185 then (bif Nat.beq k 184 then some (.aload_n 0, 185, []) else none) else (bif Nat.beq k 185 then some (.dup, 186, []) else none))) else (bif Nat.blt k 190 then (bif Nat.blt k 189 then (bif Nat.beq k 186 then some (.getfield 200, 189, []) else none) else (bif Nat.beq k 189 then some (.iconst 1, 190, []) else none)) else (bif Nat.blt k 191 then (bif Nat.beq k 190 then some (.iadd, 191, []) else none) else (bif Nat.blt k 194 then (bif Nat.beq k 191 then some (.putfield 200, 194, []) else none) else (bif Nat.beq k 194 then some (.iload_n 3, 195, []) else none))))) else (bif Nat.blt k 201 then (bif Nat.blt k 198 then (bif Nat.blt k 197 then (bif Nat.beq k 195 then some (.iload 6, 197, []) else none) else (bif Nat.beq k 197 then some (.ior, 198, []) else none)) else (bif Nat.blt k 199 then (bif Nat.beq k 198 then some (.istore_n 3, 199, []) else none) else (bif Nat.blt k 200 then (bif Nat.beq k 199 then some (.aload_n 0, 200, []) else none) else (bif Nat.beq k 200 then some (.iload_n 2, 201, []) else none)))) else (bif Nat.blt k 206 then (bif Nat.blt k 203 then (bif Nat.beq k 201 then some (.iload 6, 203, []) else none) else (bif Nat.beq k 203 then some (.invokevirtual 375, 206, []) else none)) else (bif Nat.blt k 207 then (bif Nat.beq k 206 then some (.aload_n 0, 207, []) else none) else (bif Nat.blt k 209 then (bif Nat.beq k 207 then some (.bipush 59, 209, []) else none) else (bif Nat.beq k 209 then some (.invokevirtual 210, 212, []) else none))))))) else (bif Nat.blt k 250 then (bif Nat.blt k 230 then (bif Nat.blt k 221 then (bif Nat.blt k 217 then (bif Nat.blt k 214 then (bif Nat.beq k 212 then some (.istore 4, 214, []) else none) else (bif Nat.beq k 214 then some (.goto (-132), 217, [82]) else none)) else (bif Nat.blt k 218 then (bif Nat.beq k 217 then some (.aload_n 0, 218, []) else none) else (bif Nat.beq k 218 then some (.getfield 200, 221, []) else none))) else (bif Nat.blt k 225 then (bif Nat.blt k 222 then (bif Nat.beq k 221 then some (.aload_n 0, 222, []) else none) else (bif Nat.beq k 222 then some (.getfield 194, 225, []) else none)) else (bif Nat.blt k 228 then (bif Nat.beq k 225 then some (.if_icmp .ge 11, 228, [236]) else none) else (bif Nat.blt k 229 then (bif Nat.beq k 228 then some (.aload_n 0, 229, []) else none) else (bif Nat.beq k 229 then some (.aload_n 0, 230, []) else none))))) else (bif Nat.blt k 241 then (bif Nat.blt k 236 then (bif Nat.blt k 233 then (bif Nat.beq k 230 then some (.getfield 200, 233, []) else none) else (bif Nat.beq k 233 then some (.invokevirtual 214, 236, []) else none)) else (bif Nat.blt k 237 then (bif Nat.beq k 236 then some (.aload_n 0, 237, []) else none) else (bif Nat.blt k 240 then (bif Nat.beq k 237 then some (.getfield 203, 240, []) else none) else (bif Nat.beq k 240 then some (.iconst (-1), 241, []) else none)))) else (bif Nat.blt k 245 then (bif Nat.blt k 244 then (bif Nat.beq k 241 then some (.if_icmp .eq 10, 244, [251]) else none) else (bif Nat.beq k 244 then some (.iconst (-1), 245, []) else none)) else (bif Nat.blt k 246 then (bif Nat.beq k 245 then some (.aload_n 0, 246, []) else none) else (bif Nat.blt k 249 then (bif Nat.beq k 246 then some (.getfield 203, 249, []) else none) else (bif Nat.beq k 249 then some (.isub, 250, []) else none)))))) else (bif Nat.blt k 263 then (bif Nat.blt k 256 then (bif Nat.blt k 252 then (bif Nat.blt k 251 then (bif Nat.beq k 250 then some (.ireturn, 251, []) else none) else (bif Nat.beq k 251 then some (.aload_n 0, 252, []) else none)) else (bif Nat.blt k 255 then (bif Nat.beq k 252 then some (.getfield 71, 255, []) else none) else (bif Nat.beq k 255 then some (.iload_n 2, 256, []) else none))) else (bif Nat.blt k 258 then (bif Nat.blt k 257 then (bif Nat.beq k 256 then some (.iload_n 3, 257, []) else none) else (bif Nat.beq k 257 then some (.iastore, 258, []) else none)) else (bif Nat.blt k 259 then (bif Nat.beq k 258 then some (.aload_n 0, 259, []) else none) else (bif Nat.blt k 262 then (bif Nat.beq k 259 then some (.getfield 74, 262, []) else none) else (bif Nat.beq k 262 then some (.iload_n 2, 263, []) else none))))) else (bif Nat.blt k 270 then (bif Nat.blt k 265 then (bif Nat.blt k 264 then (bif Nat.beq k 263 then some (.iconst 1, 264, []) else none) else (bif Nat.beq k 264 then some (.iastore, 265, []) else none)) else (bif Nat.blt k 266 then (bif Nat.beq k 265 then some (.aload_n 0, 266, []) else none) else (bif Nat.blt k 267 then (bif Nat.beq k 266 then some (.dup, 267, []) else none) else (bif Nat.beq k 267 then some (.getfield 188, 270, []) else none)))) else (bif Nat.blt k 272 then (bif Nat.blt k 271 then (bif Nat.beq k 270 then some (.iconst 1, 271, []) else none) else (bif Nat.beq k 271 then some (.iadd, 272, []) else none)) else (bif Nat.blt k 275 then (bif Nat.beq k 272 then some (.putfield 188, 275, []) else none) else (bif Nat.blt k 276 then (bif Nat.beq k 275 then some (.iload_n 2, 276, []) else none) else (bif Nat.beq k 276 then some (.ireturn, 277, []) else none))))))))) else none
noncomputable def P_M_story : MP := (T_M_story, (fun k => mLook k [(50, (13, 18, (.array .int), true)), (62, (13, 22, (.array .int), true)), (65, (13, 23, (.array .int), true)), (68, (13, 24, (.array .int), true)), (71, (13, 25, (.array .int), true)), (74, (13, 26, (.array .int), true)), (161, (13, 52, .int, false)), (188, (13, 17, .int, false)), (194, (13, 53, .int, false)), (200, (13, 55, .int, false)), (203, (13, 56, .int, false))]), (fun k => mLook k []), (fun k => mLook k [(206, E_M_here), (210, E_M_passes), (214, E_M_fault), (221, E_M_begin), (375, E_M_term)]), (fun k => mLook k []), (fun k => mLook k []), (fun k => mLook k []), (fun k => mLook k [(47, [true, false, true, true, false, false, false]), (68, [true, false, true, true, false, false, false]), (82, [true, false, true, true, true, false, false]), (151, [true, false, true, true, false, false, false]), (214, [true, false, true, true, true, false, false]), (217, [true, false, true, true, false, false, false]), (275, [false, false, true, false, false, false, false])]), (fun k => [32, 250, 276].any (Nat.beq k)), (4, 91, 0, 0), false, (fun _ => none))
set_option maxRecDepth 100000 in
set_option maxHeartbeats 4000000 in
theorem q_M_story_e  (σ : MSto) (n : Nat) : mexe KT P_M_story (n + 1) (0, [some (mR 13 0), none, none, none, none, none, none], [], σ, 0, 0) = mIf ((gI (sI σ 13 0 52 0) 13 0 17) = 6) (mIf ((1 : Int32) = 0) (mG (vp_in (gI (e_M_begin 40 (sI σ 13 0 52 0)) 13 0 17) 6) (mexe KT P_M_story n (47, [some (mR 13 0), none, some (mI (gI (e_M_begin 40 (sI σ 13 0 52 0)) 13 0 17)), some (mI 0), none, none, none], [], (sI (e_M_begin 40 (sI σ 13 0 52 0)) 52 0 (Int32.toNatClampNeg (gI (e_M_begin 40 (sI σ 13 0 52 0)) 13 0 17)) (-1)), 0, 0))) (some (32, [], [(mI (-100))], (e_M_begin 40 (sI σ 13 0 52 0)), 0, 0))) (mIf ((0 : Int32) = 0) (mG (vp_in (gI (e_M_begin 40 (sI σ 13 0 52 0)) 13 0 17) 6) (mexe KT P_M_story n (47, [some (mR 13 0), none, some (mI (gI (e_M_begin 40 (sI σ 13 0 52 0)) 13 0 17)), some (mI 0), none, none, none], [], (sI (e_M_begin 40 (sI σ 13 0 52 0)) 52 0 (Int32.toNatClampNeg (gI (e_M_begin 40 (sI σ 13 0 52 0)) 13 0 17)) (-1)), 0, 0))) (some (32, [], [(mI (-100))], (e_M_begin 40 (sI σ 13 0 52 0)), 0, 0))) := rfl
set_option maxRecDepth 100000 in
set_option maxHeartbeats 4000000 in
theorem q_M_story_47 (x2 : Int32) (x3 : Int32) (σ : MSto) (n : Nat) : mexe KT P_M_story (n + 1) (47, [some (mR 13 0), none, some (mI x2), some (mI x3), none, none, none], [], σ, 0, 0) = mG (vp_in x2 6) (mG (vp_in x2 6) (mG (vp_in x2 6) (mexe KT P_M_story n (68, [some (mR 13 0), none, some (mI x2), some (mI x3), none, none, none], [], (sI (sI (sI σ 56 0 (Int32.toNatClampNeg x2) 0) 57 0 (Int32.toNatClampNeg x2) (-1)) 58 0 (Int32.toNatClampNeg x2) 0), 0, 0)))) := rfl
set_option maxRecDepth 100000 in
set_option maxHeartbeats 4000000 in
theorem q_M_story_68 (x2 : Int32) (x3 : Int32) (σ : MSto) (n : Nat) : mexe KT P_M_story (n + 1) (68, [some (mR 13 0), none, some (mI x2), some (mI x3), none, none, none], [], σ, 0, 0) = mIf ((gI σ 13 0 53) ≤ 0) (mexe KT P_M_story n (82, [some (mR 13 0), none, some (mI x2), some (mI x3), some (mI 0), none, none], [], σ, 0, 0)) (mexe KT P_M_story n (82, [some (mR 13 0), none, some (mI x2), some (mI x3), some (mI 1), none, none], [], σ, 0, 0)) := rfl
set_option maxRecDepth 100000 in
set_option maxHeartbeats 4000000 in
theorem q_M_story_82 (x2 : Int32) (x3 : Int32) (x4 : Int32) (σ : MSto) (n : Nat) : mexe KT P_M_story (n + 1) (82, [some (mR 13 0), none, some (mI x2), some (mI x3), some (mI x4), none, none], [], σ, 0, 0) = mIf (x4 = 0) (mexe KT P_M_story n (217, [some (mR 13 0), none, some (mI x2), some (mI x3), none, none, none], [], σ, 0, 0)) (mG (p_M_here σ) (mIf ((v_M_here σ) = 119) (mexe KT P_M_story n (151, [some (mR 13 0), none, some (mI x2), some (mI x3), none, none, none], [(mI 1)], σ, 0, 0)) (mIf ((v_M_here σ) = 115) (mexe KT P_M_story n (151, [some (mR 13 0), none, some (mI x2), some (mI x3), none, none, none], [(mI 2)], σ, 0, 0)) (mIf ((v_M_here σ) = 109) (mexe KT P_M_story n (151, [some (mR 13 0), none, some (mI x2), some (mI x3), none, none, none], [(mI 4)], σ, 0, 0)) (mIf ((v_M_here σ) = 100) (mexe KT P_M_story n (151, [some (mR 13 0), none, some (mI x2), some (mI x3), none, none, none], [(mI 8)], σ, 0, 0)) (mIf ((v_M_here σ) = 104) (mexe KT P_M_story n (151, [some (mR 13 0), none, some (mI x2), some (mI x3), none, none, none], [(mI 16)], σ, 0, 0)) (mexe KT P_M_story n (151, [some (mR 13 0), none, some (mI x2), some (mI x3), none, none, none], [(mI 0)], σ, 0, 0)))))))) := rfl
set_option maxRecDepth 100000 in
set_option maxHeartbeats 4000000 in
theorem q_M_story_151 (x2 : Int32) (x3 : Int32) (y0 : Int32) (σ : MSto) (n : Nat) : mexe KT P_M_story (n + 1) (151, [some (mR 13 0), none, some (mI x2), some (mI x3), none, none, none], [(mI y0)], σ, 0, 0) = mIf (y0 = 0) (mIf ((gI (e_M_fault (gI σ 13 0 55) σ) 13 0 56) = (-1)) (mG (p_M_term x2 y0 (sI (e_M_fault (gI σ 13 0 55) σ) 13 0 55 ((gI (e_M_fault (gI σ 13 0 55) σ) 13 0 55) + 1))) (mG (p_M_passes 59 (e_M_term x2 y0 (sI (e_M_fault (gI σ 13 0 55) σ) 13 0 55 ((gI (e_M_fault (gI σ 13 0 55) σ) 13 0 55) + 1)))) (mexe KT P_M_story n (214, [some (mR 13 0), none, some (mI x2), some (mI (x3 ||| y0)), some (mI (v_M_passes 59 (e_M_term x2 y0 (sI (e_M_fault (gI σ 13 0 55) σ) 13 0 55 ((gI (e_M_fault (gI σ 13 0 55) σ) 13 0 55) + 1))))), none, none], [], (e_M_passes 59 (e_M_term x2 y0 (sI (e_M_fault (gI σ 13 0 55) σ) 13 0 55 ((gI (e_M_fault (gI σ 13 0 55) σ) 13 0 55) + 1)))), 0, 0)))) (mexe KT P_M_story n (217, [some (mR 13 0), none, some (mI x2), some (mI x3), none, none, none], [], (e_M_fault (gI σ 13 0 55) σ), 0, 0))) (mIf ((x3 &&& y0) = 0) (mIf ((gI σ 13 0 56) = (-1)) (mG (p_M_term x2 y0 (sI σ 13 0 55 ((gI σ 13 0 55) + 1))) (mG (p_M_passes 59 (e_M_term x2 y0 (sI σ 13 0 55 ((gI σ 13 0 55) + 1)))) (mexe KT P_M_story n (214, [some (mR 13 0), none, some (mI x2), some (mI (x3 ||| y0)), some (mI (v_M_passes 59 (e_M_term x2 y0 (sI σ 13 0 55 ((gI σ 13 0 55) + 1))))), none, none], [], (e_M_passes 59 (e_M_term x2 y0 (sI σ 13 0 55 ((gI σ 13 0 55) + 1)))), 0, 0)))) (mexe KT P_M_story n (217, [some (mR 13 0), none, some (mI x2), some (mI x3), none, none, none], [], σ, 0, 0))) (mIf ((gI (e_M_fault (gI σ 13 0 55) σ) 13 0 56) = (-1)) (mG (p_M_term x2 y0 (sI (e_M_fault (gI σ 13 0 55) σ) 13 0 55 ((gI (e_M_fault (gI σ 13 0 55) σ) 13 0 55) + 1))) (mG (p_M_passes 59 (e_M_term x2 y0 (sI (e_M_fault (gI σ 13 0 55) σ) 13 0 55 ((gI (e_M_fault (gI σ 13 0 55) σ) 13 0 55) + 1)))) (mexe KT P_M_story n (214, [some (mR 13 0), none, some (mI x2), some (mI (x3 ||| y0)), some (mI (v_M_passes 59 (e_M_term x2 y0 (sI (e_M_fault (gI σ 13 0 55) σ) 13 0 55 ((gI (e_M_fault (gI σ 13 0 55) σ) 13 0 55) + 1))))), none, none], [], (e_M_passes 59 (e_M_term x2 y0 (sI (e_M_fault (gI σ 13 0 55) σ) 13 0 55 ((gI (e_M_fault (gI σ 13 0 55) σ) 13 0 55) + 1)))), 0, 0)))) (mexe KT P_M_story n (217, [some (mR 13 0), none, some (mI x2), some (mI x3), none, none, none], [], (e_M_fault (gI σ 13 0 55) σ), 0, 0)))) := rfl
set_option maxRecDepth 100000 in
set_option maxHeartbeats 4000000 in
theorem q_M_story_214 (x2 : Int32) (x3 : Int32) (x4 : Int32) (σ : MSto) (n : Nat) : mexe KT P_M_story (n + 1) (214, [some (mR 13 0), none, some (mI x2), some (mI x3), some (mI x4), none, none], [], σ, 0, 0) = mexe KT P_M_story n (82, [some (mR 13 0), none, some (mI x2), some (mI x3), some (mI x4), none, none], [], σ, 0, 0) := rfl
set_option maxRecDepth 100000 in
set_option maxHeartbeats 4000000 in
theorem q_M_story_217 (x2 : Int32) (x3 : Int32) (σ : MSto) (n : Nat) : mexe KT P_M_story (n + 1) (217, [some (mR 13 0), none, some (mI x2), some (mI x3), none, none, none], [], σ, 0, 0) = mIf ((gI σ 13 0 53) ≤ (gI σ 13 0 55)) (mIf ((gI σ 13 0 56) = (-1)) (mG (vp_in x2 6) (mG (vp_in x2 6) (mexe KT P_M_story n (275, [none, none, some (mI x2), none, none, none, none], [], (sI (sI (sI σ 59 0 (Int32.toNatClampNeg x2) x3) 60 0 (Int32.toNatClampNeg x2) 1) 13 0 17 ((gI (sI (sI σ 59 0 (Int32.toNatClampNeg x2) x3) 60 0 (Int32.toNatClampNeg x2) 1) 13 0 17) + 1)), 0, 0)))) (some (250, [], [(mI ((-1) - (gI σ 13 0 56)))], σ, 0, 0))) (mIf ((gI (e_M_fault (gI σ 13 0 55) σ) 13 0 56) = (-1)) (mG (vp_in x2 6) (mG (vp_in x2 6) (mexe KT P_M_story n (275, [none, none, some (mI x2), none, none, none, none], [], (sI (sI (sI (e_M_fault (gI σ 13 0 55) σ) 59 0 (Int32.toNatClampNeg x2) x3) 60 0 (Int32.toNatClampNeg x2) 1) 13 0 17 ((gI (sI (sI (e_M_fault (gI σ 13 0 55) σ) 59 0 (Int32.toNatClampNeg x2) x3) 60 0 (Int32.toNatClampNeg x2) 1) 13 0 17) + 1)), 0, 0)))) (some (250, [], [(mI ((-1) - (gI (e_M_fault (gI σ 13 0 55) σ) 13 0 56)))], (e_M_fault (gI σ 13 0 55) σ), 0, 0))) := rfl
set_option maxRecDepth 100000 in
set_option maxHeartbeats 4000000 in
theorem q_M_story_275 (x2 : Int32) (σ : MSto) (n : Nat) : mexe KT P_M_story (n + 1) (275, [none, none, some (mI x2), none, none, none, none], [], σ, 0, 0) = some (276, [], [(mI x2)], σ, 0, 0) := rfl
set_option maxRecDepth 100000 in
theorem lj_M_story_82j214 {Post : MST → Prop} (x2 : Int32) (x3 : Int32) (x4 : Int32) (σ : MSto) (s : Int32 × Int32 × MSto) (hq : ¬ 0 = 1) (hn : ∀ (r1 : Int32) (r2 : Int32) (r3 : MSto), tj_M_story_82j214 x2 x3 x4 σ s = (r1, r2, r3) → mW1 P_M_story (82, [some (mR 13 0), none, some (mI x2), some (mI r1), some (mI r2), none, none], [], r3, 0, 0) Post) : mW1 P_M_story (214, [some (mR 13 0), none, some (mI x2), some (mI x3), some (mI x4), none, none], [], σ, 0, 0) Post := by
  refine mW1_eq (q_M_story_214 _ _ _ _) ?_
  exact mTr_k (hn x3 x4 σ (rfl))
set_option maxRecDepth 100000 in
theorem lj_M_story_82j151 {Post : MST → Prop} (x2 : Int32) (x3 : Int32) (y0 : Int32) (σ : MSto) (s : Int32 × Int32 × MSto) (hp : gj_M_story_82j151 x2 x3 y0 σ) (hq : ¬ qj_M_story_82j151 x2 x3 y0 σ = 1) (hn : ∀ (r1 : Int32) (r2 : Int32) (r3 : MSto), tj_M_story_82j151 x2 x3 y0 σ s = (r1, r2, r3) → mW1 P_M_story (82, [some (mR 13 0), none, some (mI x2), some (mI r1), some (mI r2), none, none], [], r3, 0, 0) Post) : mW1 P_M_story (151, [some (mR 13 0), none, some (mI x2), some (mI x3), none, none, none], [(mI y0)], σ, 0, 0) Post := by
  unfold gj_M_story_82j151 at hp
  refine mW1_eq (q_M_story_151 _ _ _ _) ?_
  refine mTr_if (fun h0 => ?_) (fun h0 => ?_)
  · skip
    have hp := hp.1 h0
    refine mTr_if (fun h1 => ?_) (fun h1 => ?_)
    · skip
      have hp := hp h1
      refine mTr_g hp.1 ?_
      have hp := hp.2
      refine mTr_g hp ?_
      exact mTr_k (lj_M_story_82j214 x2 (x3 ||| y0) (v_M_passes 59 (e_M_term x2 y0 (sI (e_M_fault (gI σ 13 0 55) σ) 13 0 55 ((gI (e_M_fault (gI σ 13 0 55) σ) 13 0 55) + 1)))) (e_M_passes 59 (e_M_term x2 y0 (sI (e_M_fault (gI σ 13 0 55) σ) 13 0 55 ((gI (e_M_fault (gI σ 13 0 55) σ) 13 0 55) + 1)))) s (fun z => hq (((if_pos h0).trans (if_pos h1)).trans z)) (fun r1 r2 r3 zr => hn r1 r2 r3 (((if_pos h0).trans (if_pos h1)).trans zr)))
    · skip
      exact absurd ((if_pos h0).trans (if_neg h1)) hq
  · skip
    have hp := hp.2 h0
    refine mTr_if (fun h1 => ?_) (fun h1 => ?_)
    · skip
      have hp := hp.1 h1
      refine mTr_if (fun h2 => ?_) (fun h2 => ?_)
      · skip
        have hp := hp h2
        refine mTr_g hp.1 ?_
        have hp := hp.2
        refine mTr_g hp ?_
        exact mTr_k (lj_M_story_82j214 x2 (x3 ||| y0) (v_M_passes 59 (e_M_term x2 y0 (sI σ 13 0 55 ((gI σ 13 0 55) + 1)))) (e_M_passes 59 (e_M_term x2 y0 (sI σ 13 0 55 ((gI σ 13 0 55) + 1)))) s (fun z => hq (((if_neg h0).trans ((if_pos h1).trans (if_pos h2))).trans z)) (fun r1 r2 r3 zr => hn r1 r2 r3 (((if_neg h0).trans ((if_pos h1).trans (if_pos h2))).trans zr)))
      · skip
        exact absurd ((if_neg h0).trans ((if_pos h1).trans (if_neg h2))) hq
    · skip
      have hp := hp.2 h1
      refine mTr_if (fun h2 => ?_) (fun h2 => ?_)
      · skip
        have hp := hp h2
        refine mTr_g hp.1 ?_
        have hp := hp.2
        refine mTr_g hp ?_
        exact mTr_k (lj_M_story_82j214 x2 (x3 ||| y0) (v_M_passes 59 (e_M_term x2 y0 (sI (e_M_fault (gI σ 13 0 55) σ) 13 0 55 ((gI (e_M_fault (gI σ 13 0 55) σ) 13 0 55) + 1)))) (e_M_passes 59 (e_M_term x2 y0 (sI (e_M_fault (gI σ 13 0 55) σ) 13 0 55 ((gI (e_M_fault (gI σ 13 0 55) σ) 13 0 55) + 1)))) s (fun z => hq (((if_neg h0).trans ((if_neg h1).trans (if_pos h2))).trans z)) (fun r1 r2 r3 zr => hn r1 r2 r3 (((if_neg h0).trans ((if_neg h1).trans (if_pos h2))).trans zr)))
      · skip
        exact absurd ((if_neg h0).trans ((if_neg h1).trans (if_neg h2))) hq
set_option maxRecDepth 100000 in
theorem lt_M_story_82 {Post : MST → Prop} (x2 : Int32) (s : Int32 × Int32 × MSto) (hp : g_M_story_82 x2 s) (hq : ¬ q_M_story_82s x2 s = 1) (hn : ∀ (r1 : Int32) (r2 : Int32) (r3 : MSto), t_M_story_82 x2 s = (r1, r2, r3) → mW1 P_M_story (82, [some (mR 13 0), none, some (mI x2), some (mI r1), some (mI r2), none, none], [], r3, 0, 0) Post) : mW1 P_M_story (82, [some (mR 13 0), none, some (mI x2), some (mI (s.1)), some (mI (s.2.1)), none, none], [], (s.2.2), 0, 0) Post := by
  unfold g_M_story_82 at hp
  refine mW1_eq (q_M_story_82 _ _ _ _) ?_
  refine mTr_if (fun h0 => ?_) (fun h0 => ?_)
  · skip
    exact absurd (if_pos h0) hq
  · skip
    have hp := hp h0
    refine mTr_g hp.1 ?_
    have hp := hp.2
    refine mTr_if (fun h1 => ?_) (fun h1 => ?_)
    · skip
      have hp := hp.1 h1
      exact mTr_k (lj_M_story_82j151 x2 (s.1) 1 (s.2.2) s hp (fun z => hq (((if_neg h0).trans (if_pos h1)).trans z)) (fun r1 r2 r3 zr => hn r1 r2 r3 (((if_neg h0).trans (if_pos h1)).trans zr)))
    · skip
      have hp := hp.2 h1
      refine mTr_if (fun h2 => ?_) (fun h2 => ?_)
      · skip
        have hp := hp.1 h2
        exact mTr_k (lj_M_story_82j151 x2 (s.1) 2 (s.2.2) s hp (fun z => hq (((if_neg h0).trans ((if_neg h1).trans (if_pos h2))).trans z)) (fun r1 r2 r3 zr => hn r1 r2 r3 (((if_neg h0).trans ((if_neg h1).trans (if_pos h2))).trans zr)))
      · skip
        have hp := hp.2 h2
        refine mTr_if (fun h3 => ?_) (fun h3 => ?_)
        · skip
          have hp := hp.1 h3
          exact mTr_k (lj_M_story_82j151 x2 (s.1) 4 (s.2.2) s hp (fun z => hq (((if_neg h0).trans ((if_neg h1).trans ((if_neg h2).trans (if_pos h3)))).trans z)) (fun r1 r2 r3 zr => hn r1 r2 r3 (((if_neg h0).trans ((if_neg h1).trans ((if_neg h2).trans (if_pos h3)))).trans zr)))
        · skip
          have hp := hp.2 h3
          refine mTr_if (fun h4 => ?_) (fun h4 => ?_)
          · skip
            have hp := hp.1 h4
            exact mTr_k (lj_M_story_82j151 x2 (s.1) 8 (s.2.2) s hp (fun z => hq (((if_neg h0).trans ((if_neg h1).trans ((if_neg h2).trans ((if_neg h3).trans (if_pos h4))))).trans z)) (fun r1 r2 r3 zr => hn r1 r2 r3 (((if_neg h0).trans ((if_neg h1).trans ((if_neg h2).trans ((if_neg h3).trans (if_pos h4))))).trans zr)))
          · skip
            have hp := hp.2 h4
            refine mTr_if (fun h5 => ?_) (fun h5 => ?_)
            · skip
              have hp := hp.1 h5
              exact mTr_k (lj_M_story_82j151 x2 (s.1) 16 (s.2.2) s hp (fun z => hq (((if_neg h0).trans ((if_neg h1).trans ((if_neg h2).trans ((if_neg h3).trans ((if_neg h4).trans (if_pos h5)))))).trans z)) (fun r1 r2 r3 zr => hn r1 r2 r3 (((if_neg h0).trans ((if_neg h1).trans ((if_neg h2).trans ((if_neg h3).trans ((if_neg h4).trans (if_pos h5)))))).trans zr)))
            · skip
              have hp := hp.2 h5
              exact mTr_k (lj_M_story_82j151 x2 (s.1) 0 (s.2.2) s hp (fun z => hq (((if_neg h0).trans ((if_neg h1).trans ((if_neg h2).trans ((if_neg h3).trans ((if_neg h4).trans (if_neg h5)))))).trans z)) (fun r1 r2 r3 zr => hn r1 r2 r3 (((if_neg h0).trans ((if_neg h1).trans ((if_neg h2).trans ((if_neg h3).trans ((if_neg h4).trans (if_neg h5)))))).trans zr)))
theorem lp_M_story_82 {Post : MST → Prop} (x2 : Int32) (s0 : Int32 × Int32 × MSto) (N : Nat) (hb : ∀ i, i < N → g_M_story_82 x2 (f_M_story_82 x2 s0 i) ∧ ¬ q_M_story_82s x2 (f_M_story_82 x2 s0 i) = 1) (h : mW1 P_M_story (82, [some (mR 13 0), none, some (mI x2), some (mI ((f_M_story_82 x2 s0 N).1)), some (mI ((f_M_story_82 x2 s0 N).2.1)), none, none], [], ((f_M_story_82 x2 s0 N).2.2), 0, 0) Post) : mW1 P_M_story (82, [some (mR 13 0), none, some (mI x2), some (mI (s0.1)), some (mI (s0.2.1)), none, none], [], (s0.2.2), 0, 0) Post := by
  refine mW1_st (mW1_loop (fun i => (82, [some (mR 13 0), none, some (mI x2), some (mI ((f_M_story_82 x2 s0 i).1)), some (mI ((f_M_story_82 x2 s0 i).2.1)), none, none], [], ((f_M_story_82 x2 s0 i).2.2), 0, 0)) N (fun i hlt hn => ?_) h) (rfl)
  refine lt_M_story_82 x2 _ (hb i hlt).1 (hb i hlt).2 (fun r1 r2 r3 hr => ?_)
  have e : f_M_story_82 x2 s0 (i + 1) = (r1, r2, r3) := hr
  try dsimp only at hn
  rw [e] at hn
  exact hn
set_option maxRecDepth 100000 in
theorem lj_M_story_j275 (x2 : Int32) (σ : MSto) : mW1 P_M_story (275, [none, none, some (mI x2), none, none, none, none], [], σ, 0, 0) (mF [32, 250, 276] [mI (vj_M_story_j275 x2 σ)] (ej_M_story_j275 x2 σ) 0 0) := by
  refine mW1_eq (q_M_story_275 _ _) ?_
  exact mTr_e (by decide) (congrArg (fun z => [mI z]) (Eq.symm (rfl))) (Eq.symm (rfl)) (by decide) (by decide)
set_option maxRecDepth 100000 in
theorem lj_M_story_j217 (x2 : Int32) (x3 : Int32) (σ : MSto) (hp : gj_M_story_j217 x2 x3 σ) : mW1 P_M_story (217, [some (mR 13 0), none, some (mI x2), some (mI x3), none, none, none], [], σ, 0, 0) (mF [32, 250, 276] [mI (vj_M_story_j217 x2 x3 σ)] (ej_M_story_j217 x2 x3 σ) 0 0) := by
  unfold gj_M_story_j217 at hp
  refine mW1_eq (q_M_story_217 _ _ _) ?_
  refine mTr_if (fun h0 => ?_) (fun h0 => ?_)
  · skip
    have hp := hp.1 h0
    refine mTr_if (fun h1 => ?_) (fun h1 => ?_)
    · skip
      have hp := hp h1
      refine mTr_g hp.1 ?_
      have hp := hp.2
      refine mTr_g hp ?_
      exact mTr_k (mF_cI ((if_pos h0).trans (if_pos h1)) ((if_pos h0).trans (if_pos h1)) (lj_M_story_j275 x2 (sI (sI (sI σ 59 0 (Int32.toNatClampNeg x2) x3) 60 0 (Int32.toNatClampNeg x2) 1) 13 0 17 ((gI (sI (sI σ 59 0 (Int32.toNatClampNeg x2) x3) 60 0 (Int32.toNatClampNeg x2) 1) 13 0 17) + 1))))
    · skip
      exact mTr_e (by decide) (congrArg (fun z => [mI z]) (Eq.symm ((if_pos h0).trans (if_neg h1)))) (Eq.symm ((if_pos h0).trans (if_neg h1))) (by decide) (by decide)
  · skip
    have hp := hp.2 h0
    refine mTr_if (fun h1 => ?_) (fun h1 => ?_)
    · skip
      have hp := hp h1
      refine mTr_g hp.1 ?_
      have hp := hp.2
      refine mTr_g hp ?_
      exact mTr_k (mF_cI ((if_neg h0).trans (if_pos h1)) ((if_neg h0).trans (if_pos h1)) (lj_M_story_j275 x2 (sI (sI (sI (e_M_fault (gI σ 13 0 55) σ) 59 0 (Int32.toNatClampNeg x2) x3) 60 0 (Int32.toNatClampNeg x2) 1) 13 0 17 ((gI (sI (sI (e_M_fault (gI σ 13 0 55) σ) 59 0 (Int32.toNatClampNeg x2) x3) 60 0 (Int32.toNatClampNeg x2) 1) 13 0 17) + 1))))
    · skip
      exact mTr_e (by decide) (congrArg (fun z => [mI z]) (Eq.symm ((if_neg h0).trans (if_neg h1)))) (Eq.symm ((if_neg h0).trans (if_neg h1))) (by decide) (by decide)
set_option maxRecDepth 100000 in
theorem lj_M_story_j151 (x2 : Int32) (x3 : Int32) (y0 : Int32) (σ : MSto) (hp : gj_M_story_j151 x2 x3 y0 σ) : mW1 P_M_story (151, [some (mR 13 0), none, some (mI x2), some (mI x3), none, none, none], [(mI y0)], σ, 0, 0) (mF [32, 250, 276] [mI (vj_M_story_j151 x2 x3 y0 σ)] (ej_M_story_j151 x2 x3 y0 σ) 0 0) := by
  unfold gj_M_story_j151 at hp
  refine mW1_eq (q_M_story_151 _ _ _ _) ?_
  refine mTr_if (fun h0 => ?_) (fun h0 => ?_)
  · skip
    have hp := hp.1 h0
    refine mTr_if (fun h1 => ?_) (fun h1 => ?_)
    · skip
      have hp := hp.1 h1
      exact hp.elim
    · skip
      have hp := hp.2 h1
      exact mTr_k (mF_cI (if_pos h0) (if_pos h0) (lj_M_story_j217 x2 x3 (e_M_fault (gI σ 13 0 55) σ) hp))
  · skip
    have hp := hp.2 h0
    refine mTr_if (fun h1 => ?_) (fun h1 => ?_)
    · skip
      have hp := hp.1 h1
      refine mTr_if (fun h2 => ?_) (fun h2 => ?_)
      · skip
        have hp := hp.1 h2
        exact hp.elim
      · skip
        have hp := hp.2 h2
        exact mTr_k (mF_cI ((if_neg h0).trans (if_pos h1)) ((if_neg h0).trans (if_pos h1)) (lj_M_story_j217 x2 x3 σ hp))
    · skip
      have hp := hp.2 h1
      refine mTr_if (fun h2 => ?_) (fun h2 => ?_)
      · skip
        have hp := hp.1 h2
        exact hp.elim
      · skip
        have hp := hp.2 h2
        exact mTr_k (mF_cI ((if_neg h0).trans (if_neg h1)) ((if_neg h0).trans (if_neg h1)) (lj_M_story_j217 x2 x3 (e_M_fault (gI σ 13 0 55) σ) hp))
set_option maxRecDepth 100000 in
theorem lj_M_story_j68 (x2 : Int32) (x3 : Int32) (σ : MSto) (hp : gj_M_story_j68 x2 x3 σ) : mW1 P_M_story (68, [some (mR 13 0), none, some (mI x2), some (mI x3), none, none, none], [], σ, 0, 0) (mF [32, 250, 276] [mI (vj_M_story_j68 x2 x3 σ)] (ej_M_story_j68 x2 x3 σ) 0 0) := by
  unfold gj_M_story_j68 at hp
  refine mW1_eq (q_M_story_68 _ _ _) ?_
  refine mTr_if (fun h0 => ?_) (fun h0 => ?_)
  · skip
    have hp := hp.1 h0
    refine mTr_k (lp_M_story_82 x2 (x3, 0, σ) (n_M_story_82 x2 (x3, 0, σ)) hp.1 ?_)
    have hp := hp.2
    refine mW1_eq (q_M_story_82 _ _ _ _) ?_
    refine mTr_if (fun h1 => ?_) (fun h1 => ?_)
    · skip
      have hp := hp.1 h1
      exact mTr_k (mF_cI ((if_pos h0).trans (if_pos h1)) ((if_pos h0).trans (if_pos h1)) (lj_M_story_j217 x2 ((f_M_story_82 x2 (x3, 0, σ) (n_M_story_82 x2 (x3, 0, σ))).1) ((f_M_story_82 x2 (x3, 0, σ) (n_M_story_82 x2 (x3, 0, σ))).2.2) hp))
    · skip
      have hp := hp.2 h1
      refine mTr_g hp.1 ?_
      have hp := hp.2
      refine mTr_if (fun h2 => ?_) (fun h2 => ?_)
      · skip
        have hp := hp.1 h2
        exact mTr_k (mF_cI ((if_pos h0).trans ((if_neg h1).trans (if_pos h2))) ((if_pos h0).trans ((if_neg h1).trans (if_pos h2))) (lj_M_story_j151 x2 ((f_M_story_82 x2 (x3, 0, σ) (n_M_story_82 x2 (x3, 0, σ))).1) 1 ((f_M_story_82 x2 (x3, 0, σ) (n_M_story_82 x2 (x3, 0, σ))).2.2) hp))
      · skip
        have hp := hp.2 h2
        refine mTr_if (fun h3 => ?_) (fun h3 => ?_)
        · skip
          have hp := hp.1 h3
          exact mTr_k (mF_cI ((if_pos h0).trans ((if_neg h1).trans ((if_neg h2).trans (if_pos h3)))) ((if_pos h0).trans ((if_neg h1).trans ((if_neg h2).trans (if_pos h3)))) (lj_M_story_j151 x2 ((f_M_story_82 x2 (x3, 0, σ) (n_M_story_82 x2 (x3, 0, σ))).1) 2 ((f_M_story_82 x2 (x3, 0, σ) (n_M_story_82 x2 (x3, 0, σ))).2.2) hp))
        · skip
          have hp := hp.2 h3
          refine mTr_if (fun h4 => ?_) (fun h4 => ?_)
          · skip
            have hp := hp.1 h4
            exact mTr_k (mF_cI ((if_pos h0).trans ((if_neg h1).trans ((if_neg h2).trans ((if_neg h3).trans (if_pos h4))))) ((if_pos h0).trans ((if_neg h1).trans ((if_neg h2).trans ((if_neg h3).trans (if_pos h4))))) (lj_M_story_j151 x2 ((f_M_story_82 x2 (x3, 0, σ) (n_M_story_82 x2 (x3, 0, σ))).1) 4 ((f_M_story_82 x2 (x3, 0, σ) (n_M_story_82 x2 (x3, 0, σ))).2.2) hp))
          · skip
            have hp := hp.2 h4
            refine mTr_if (fun h5 => ?_) (fun h5 => ?_)
            · skip
              have hp := hp.1 h5
              exact mTr_k (mF_cI ((if_pos h0).trans ((if_neg h1).trans ((if_neg h2).trans ((if_neg h3).trans ((if_neg h4).trans (if_pos h5)))))) ((if_pos h0).trans ((if_neg h1).trans ((if_neg h2).trans ((if_neg h3).trans ((if_neg h4).trans (if_pos h5)))))) (lj_M_story_j151 x2 ((f_M_story_82 x2 (x3, 0, σ) (n_M_story_82 x2 (x3, 0, σ))).1) 8 ((f_M_story_82 x2 (x3, 0, σ) (n_M_story_82 x2 (x3, 0, σ))).2.2) hp))
            · skip
              have hp := hp.2 h5
              refine mTr_if (fun h6 => ?_) (fun h6 => ?_)
              · skip
                have hp := hp.1 h6
                exact mTr_k (mF_cI ((if_pos h0).trans ((if_neg h1).trans ((if_neg h2).trans ((if_neg h3).trans ((if_neg h4).trans ((if_neg h5).trans (if_pos h6))))))) ((if_pos h0).trans ((if_neg h1).trans ((if_neg h2).trans ((if_neg h3).trans ((if_neg h4).trans ((if_neg h5).trans (if_pos h6))))))) (lj_M_story_j151 x2 ((f_M_story_82 x2 (x3, 0, σ) (n_M_story_82 x2 (x3, 0, σ))).1) 16 ((f_M_story_82 x2 (x3, 0, σ) (n_M_story_82 x2 (x3, 0, σ))).2.2) hp))
              · skip
                have hp := hp.2 h6
                exact mTr_k (mF_cI ((if_pos h0).trans ((if_neg h1).trans ((if_neg h2).trans ((if_neg h3).trans ((if_neg h4).trans ((if_neg h5).trans (if_neg h6))))))) ((if_pos h0).trans ((if_neg h1).trans ((if_neg h2).trans ((if_neg h3).trans ((if_neg h4).trans ((if_neg h5).trans (if_neg h6))))))) (lj_M_story_j151 x2 ((f_M_story_82 x2 (x3, 0, σ) (n_M_story_82 x2 (x3, 0, σ))).1) 0 ((f_M_story_82 x2 (x3, 0, σ) (n_M_story_82 x2 (x3, 0, σ))).2.2) hp))
  · skip
    have hp := hp.2 h0
    refine mTr_k (lp_M_story_82 x2 (x3, 1, σ) (n_M_story_82 x2 (x3, 1, σ)) hp.1 ?_)
    have hp := hp.2
    refine mW1_eq (q_M_story_82 _ _ _ _) ?_
    refine mTr_if (fun h1 => ?_) (fun h1 => ?_)
    · skip
      have hp := hp.1 h1
      exact mTr_k (mF_cI ((if_neg h0).trans (if_pos h1)) ((if_neg h0).trans (if_pos h1)) (lj_M_story_j217 x2 ((f_M_story_82 x2 (x3, 1, σ) (n_M_story_82 x2 (x3, 1, σ))).1) ((f_M_story_82 x2 (x3, 1, σ) (n_M_story_82 x2 (x3, 1, σ))).2.2) hp))
    · skip
      have hp := hp.2 h1
      refine mTr_g hp.1 ?_
      have hp := hp.2
      refine mTr_if (fun h2 => ?_) (fun h2 => ?_)
      · skip
        have hp := hp.1 h2
        exact mTr_k (mF_cI ((if_neg h0).trans ((if_neg h1).trans (if_pos h2))) ((if_neg h0).trans ((if_neg h1).trans (if_pos h2))) (lj_M_story_j151 x2 ((f_M_story_82 x2 (x3, 1, σ) (n_M_story_82 x2 (x3, 1, σ))).1) 1 ((f_M_story_82 x2 (x3, 1, σ) (n_M_story_82 x2 (x3, 1, σ))).2.2) hp))
      · skip
        have hp := hp.2 h2
        refine mTr_if (fun h3 => ?_) (fun h3 => ?_)
        · skip
          have hp := hp.1 h3
          exact mTr_k (mF_cI ((if_neg h0).trans ((if_neg h1).trans ((if_neg h2).trans (if_pos h3)))) ((if_neg h0).trans ((if_neg h1).trans ((if_neg h2).trans (if_pos h3)))) (lj_M_story_j151 x2 ((f_M_story_82 x2 (x3, 1, σ) (n_M_story_82 x2 (x3, 1, σ))).1) 2 ((f_M_story_82 x2 (x3, 1, σ) (n_M_story_82 x2 (x3, 1, σ))).2.2) hp))
        · skip
          have hp := hp.2 h3
          refine mTr_if (fun h4 => ?_) (fun h4 => ?_)
          · skip
            have hp := hp.1 h4
            exact mTr_k (mF_cI ((if_neg h0).trans ((if_neg h1).trans ((if_neg h2).trans ((if_neg h3).trans (if_pos h4))))) ((if_neg h0).trans ((if_neg h1).trans ((if_neg h2).trans ((if_neg h3).trans (if_pos h4))))) (lj_M_story_j151 x2 ((f_M_story_82 x2 (x3, 1, σ) (n_M_story_82 x2 (x3, 1, σ))).1) 4 ((f_M_story_82 x2 (x3, 1, σ) (n_M_story_82 x2 (x3, 1, σ))).2.2) hp))
          · skip
            have hp := hp.2 h4
            refine mTr_if (fun h5 => ?_) (fun h5 => ?_)
            · skip
              have hp := hp.1 h5
              exact mTr_k (mF_cI ((if_neg h0).trans ((if_neg h1).trans ((if_neg h2).trans ((if_neg h3).trans ((if_neg h4).trans (if_pos h5)))))) ((if_neg h0).trans ((if_neg h1).trans ((if_neg h2).trans ((if_neg h3).trans ((if_neg h4).trans (if_pos h5)))))) (lj_M_story_j151 x2 ((f_M_story_82 x2 (x3, 1, σ) (n_M_story_82 x2 (x3, 1, σ))).1) 8 ((f_M_story_82 x2 (x3, 1, σ) (n_M_story_82 x2 (x3, 1, σ))).2.2) hp))
            · skip
              have hp := hp.2 h5
              refine mTr_if (fun h6 => ?_) (fun h6 => ?_)
              · skip
                have hp := hp.1 h6
                exact mTr_k (mF_cI ((if_neg h0).trans ((if_neg h1).trans ((if_neg h2).trans ((if_neg h3).trans ((if_neg h4).trans ((if_neg h5).trans (if_pos h6))))))) ((if_neg h0).trans ((if_neg h1).trans ((if_neg h2).trans ((if_neg h3).trans ((if_neg h4).trans ((if_neg h5).trans (if_pos h6))))))) (lj_M_story_j151 x2 ((f_M_story_82 x2 (x3, 1, σ) (n_M_story_82 x2 (x3, 1, σ))).1) 16 ((f_M_story_82 x2 (x3, 1, σ) (n_M_story_82 x2 (x3, 1, σ))).2.2) hp))
              · skip
                have hp := hp.2 h6
                exact mTr_k (mF_cI ((if_neg h0).trans ((if_neg h1).trans ((if_neg h2).trans ((if_neg h3).trans ((if_neg h4).trans ((if_neg h5).trans (if_neg h6))))))) ((if_neg h0).trans ((if_neg h1).trans ((if_neg h2).trans ((if_neg h3).trans ((if_neg h4).trans ((if_neg h5).trans (if_neg h6))))))) (lj_M_story_j151 x2 ((f_M_story_82 x2 (x3, 1, σ) (n_M_story_82 x2 (x3, 1, σ))).1) 0 ((f_M_story_82 x2 (x3, 1, σ) (n_M_story_82 x2 (x3, 1, σ))).2.2) hp))
set_option maxRecDepth 100000 in
theorem lj_M_story_j47 (x2 : Int32) (x3 : Int32) (σ : MSto) (hp : gj_M_story_j47 x2 x3 σ) : mW1 P_M_story (47, [some (mR 13 0), none, some (mI x2), some (mI x3), none, none, none], [], σ, 0, 0) (mF [32, 250, 276] [mI (vj_M_story_j47 x2 x3 σ)] (ej_M_story_j47 x2 x3 σ) 0 0) := by
  unfold gj_M_story_j47 at hp
  refine mW1_eq (q_M_story_47 _ _ _) ?_
  refine mTr_g hp.1 ?_
  have hp := hp.2
  refine mTr_g hp.1 ?_
  have hp := hp.2
  refine mTr_g hp.1 ?_
  have hp := hp.2
  exact mTr_k (mF_cI (rfl) (rfl) (lj_M_story_j68 x2 x3 (sI (sI (sI σ 56 0 (Int32.toNatClampNeg x2) 0) 57 0 (Int32.toNatClampNeg x2) (-1)) 58 0 (Int32.toNatClampNeg x2) 0) hp))
set_option maxRecDepth 100000 in
set_option maxHeartbeats 4000000 in
theorem d_M_story  (σ : MSto) (hp : p_M_story σ) : mW1 P_M_story (0, [some (mR 13 0), none, none, none, none, none, none], [], σ, 0, 0) (mF [32, 250, 276] [mI (v_M_story σ)] (e_M_story σ) 0 0) := by
  refine mW1_eq (q_M_story_e  _) ?_
  unfold p_M_story at hp
  refine mTr_if (fun h0 => ?_) (fun h0 => ?_)
  · skip
    refine mTr_f (by decide) ?_
    exact mTr_e (by decide) (congrArg (fun z => [mI z]) (Eq.symm (if_pos h0))) (Eq.symm (if_pos h0)) (by decide) (by decide)
  · skip
    have hp := hp h0
    refine mTr_t (by decide) ?_
    refine mTr_g hp.1 ?_
    have hp := hp.2
    exact mTr_k (mF_cI (if_neg h0) (if_neg h0) (lj_M_story_j47 (gI (e_M_begin 40 (sI σ 13 0 52 0)) 13 0 17) 0 (sI (e_M_begin 40 (sI σ 13 0 52 0)) 52 0 (Int32.toNatClampNeg (gI (e_M_begin 40 (sI σ 13 0 52 0)) 13 0 17)) (-1)) hp))
theorem li_M_375 : mLink "ClothWithManModel" 375 E_M_term := ⟨tw_7_193, tw_1_9, ⟨by decide, by decide⟩, by decide +kernel, Or.inl tw_7_190, (fun h => by cases h), (fun _ => ⟨tw_7_192, tw_0_73, TX12, 71, rfl⟩), (fun h => by cases h)⟩





theorem tk_M_story : ∀ pc i nx tg, T_M_story pc = some (i, nx, tg) → mOkB prog_14_method_68_code pc i nx tg = true := code_ok (N := 277) (fun k h => by unfold T_M_story; rw [h]; rfl) (by decide +kernel)
theorem ok_M_story (l : Launch) : mPOK l "ClothWithManModel" prog_14_method_68_code P_M_story := by
  refine ⟨tk_M_story, ?_, ?_, ?_, (fun pc i nx tg kd _ h => by cases h), ?_, ?_, fun pc en h => by cases h⟩
  · intro x ci f ty fin h
    exact mLook_all (Q := fun x v => mFOK "ClothWithManModel" x v.1 v.2.1 v.2.2.1 v.2.2.2 ∧ (v.2.2.2 = true → pIni P_M_story = true → (Cond.fieldLink "ClothWithManModel" x (((mCl[v.1]?).getD ("", fun _ => ("", "", "", false), 0)).2.1 v.2.1).1 (((mCl[v.1]?).getD ("", fun _ => ("", "", "", false), 0)).2.1 v.2.1).2.1 (((mCl[v.1]?).getD ("", fun _ => ("", "", "", false), 0)).2.1 v.2.1).2.2.1 ∈ lw_tbl ∧ (((mCl[v.1]?).getD ("", fun _ => ("", "", "", false), 0)).2.1 v.2.1).1 = "ClothWithManModel"))) (fcC ⟨fo_M_50, fun h1 h2 => by cases h2⟩ (fcC ⟨fo_M_62, fun h1 h2 => by cases h2⟩ (fcC ⟨fo_M_65, fun h1 h2 => by cases h2⟩ (fcC ⟨fo_M_68, fun h1 h2 => by cases h2⟩ (fcC ⟨fo_M_71, fun h1 h2 => by cases h2⟩ (fcC ⟨fo_M_74, fun h1 h2 => by cases h2⟩ (fcC ⟨fo_M_161, fun h1 h2 => by cases h1⟩ (fcC ⟨fo_M_188, fun h1 h2 => by cases h1⟩ (fcC ⟨fo_M_194, fun h1 h2 => by cases h1⟩ (fcC ⟨fo_M_200, fun h1 h2 => by cases h1⟩ (fcC ⟨fo_M_203, fun h1 h2 => by cases h1⟩ fcN))))))))))) x (ci, f, ty, fin) h
  · intro x
    have hh := mLook_all (l := ([] : List (Nat × (Int32 ⊕ Int64)))) (Q := fun x (v : Int32 ⊕ Int64) => (∀ w, v = .inl w → Cond.constant "ClothWithManModel" x w ∈ lw_tbl) ∧ (∀ w, v = .inr w → Cond.constantLong "ClothWithManModel" x w ∈ lw_tbl)) fcN x
    exact ⟨fun w h => (hh _ h).1 w rfl, fun w h => (hh _ h).2 w rfl⟩
  · exact fun x en h => mLook_all (Q := fun x en => mLink "ClothWithManModel" x en ∧ mCtr l en ∧ (en.1.1 = 2 → en.2.2.2.2.2.2 = none)) (fcC ⟨li_M_206, c_M_here l, (fun h => by cases h)⟩ (fcC ⟨li_M_210, c_M_passes l, (fun h => by cases h)⟩ (fcC ⟨li_M_214, c_M_fault l, (fun h => by cases h)⟩ (fcC ⟨li_M_221, c_M_begin l, (fun h => by cases h)⟩ (fcC ⟨li_M_375, c_M_term l, (fun h => by cases h)⟩ fcN))))) x en h
  · exact fun x kd h => mLook_all (Q := fun x kd => (kd = 95 ∧ Cond.fieldLink "ClothWithManModel" x "ClothWithMan" "LIKENESSES" "[I" ∈ lw_tbl) ∨ (kd = 96 ∧ Cond.fieldLink "ClothWithManModel" x "ClothWithMan" "APART_BOUNDS" "[I" ∈ lw_tbl)) fcN x kd h
  · exact fun x ci h => mLook_all (Q := fun x ci => ci ≠ 0 ∧ ∃ (C : String) (T : u_T) (N : Nat), mCl[ci]? = some (C, T, N) ∧ Cond.classLink "ClothWithManModel" x C ∈ lw_tbl ∧ Cond.instantiable C N ∈ lw_tbl) fcN x ci h
set_option maxRecDepth 100000 in
theorem c_M_story (l : Launch) : mCtr l E_M_story := mCtr_of (P := P_M_story) (own := "ClothWithManModel") mLay_ok rfl (by decide +kernel) rfl (ok_M_story l) (fun h => by cases h) (fun as σ pr rv σ' hF hpr hlv => by
  unfold E_M_story S_M_story at hF
  simp only [] at hF
  split at hF
  · cases hF
    obtain ⟨n, pcF, c1, s1, g1, g2, g3, g4⟩ := mF_inv (d_M_story σ (hpr _ rfl))
    exact ⟨Nat.le_of_ble_eq_true rfl, (fun v h => by cases h; trivial), n, pcF, c1, s1, g1, ⟨mEnd_of (i := .ireturn) (P := P_M_story) (rets := [32, 250, 276]) rfl g2, rfl⟩, g3, g4⟩
  · cases hF
    exact (hpr _ rfl).elim)

