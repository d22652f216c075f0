/-! ClothWithManModel.choose(II)J -/
noncomputable def t_M_choose_16 (x0 : Int32) (x1 : Int32) (c : Int32) (σ : MSto) (s : Int64) : Int64 := (if x1 < c then s else ((s * (Int32.toInt64 ((x0 - x1) + c))) / (Int32.toInt64 c)))
noncomputable def q_M_choose_16s (x0 : Int32) (x1 : Int32) (c : Int32) (σ : MSto) (s : Int64) : Nat := (if x1 < c then 1 else 0)
def g_M_choose_16 (x0 : Int32) (x1 : Int32) (c : Int32) (σ : MSto) (s : Int64) : Prop := (¬ (x1 < c) → (¬ ((Int32.toInt64 c) : Int64) = 0))
noncomputable def f_M_choose_16 (x0 : Int32) (x1 : Int32) (c0 : Int32) (σ : MSto) (s0 : Int64) (n : Nat) : Int64 := nfold (fun i s => t_M_choose_16 x0 x1 (c0 + nI i) σ s) s0 n
noncomputable def n_M_choose_16 (x0 : Int32) (x1 : Int32) (c0 : Int32) (σ : MSto) (s0 : Int64) : Nat := x1.toNatClampNeg
noncomputable def v_M_choose (a0 : Int32) (a1 : Int32) (σ : MSto) : Int64 := (if (v_M_in a1 0 a0 σ) = 0 then 0 else (f_M_choose_16 a0 a1 1 σ 1 (n_M_choose_16 a0 a1 1 σ 1)))
def p_M_choose (a0 : Int32) (a1 : Int32) (σ : MSto) : Prop := (¬ ((v_M_in a1 0 a0 σ) = 0) → ((∀ i, i < (n_M_choose_16 a0 a1 1 σ 1) → g_M_choose_16 a0 a1 (1 + nI i) σ (f_M_choose_16 a0 a1 1 σ 1 i) ∧ ¬ q_M_choose_16s a0 a1 (1 + nI i) σ (f_M_choose_16 a0 a1 1 σ 1 i) = 1) ∧ (¬ (a1 < (1 + nI (n_M_choose_16 a0 a1 1 σ 1))) → False)))
noncomputable def S_M_choose : List MV → MSto → Option Prop × Option MV × MSto := fun as σ => match as with
  | [.inl a0, .inl a1] => (some (p_M_choose a0 a1 σ), some (mJ (v_M_choose a0 a1 σ)), σ)
  | _ => (some False, none, σ)
noncomputable def E_M_choose : MEnt := ((0, 2, 13), (1, 22, 0, 0), S_M_choose, ((⟨"ClothWithManModel", "choose", "(II)J"⟩ : MethodName), prog_14_method_92_code, 5, (some .long)))

def T_M_choose : Nat → Option (Instr × Nat × List Nat) := fun k => bif Nat.blt k 44 then (bif Nat.blt k 23 then (bif Nat.blt k 11 then (bif Nat.blt k 3 then (bif Nat.blt k 1 then (bif Nat.beq k 0 then some (.iload_n 1, 1, []) else none) else (bif Nat.blt k 2 then (bif Nat.beq k 1 then some (.iconst 0, 2, []) else none) else (bif Nat.beq k 2 then some (.iload_n 0, 3, []) else none))) else (bif Nat.blt k 9 then (bif Nat.blt k 6 then (bif Nat.beq k 3 then some (.invokestatic 181, 6, []) else none) else (bif Nat.beq k 6 then some (.ifCond .ne 5, 9, [11]) else none)) else (bif Nat.blt k 10 then (bif Nat.beq k 9 then some (.lconst 0, 10, []) else none) else (bif Nat.beq k 10 then some (.lreturn, 11, []) else none)))) else (bif Nat.blt k 16 then (bif Nat.blt k 13 then (bif Nat.blt k 12 then (bif Nat.beq k 11 then some (.lconst 1, 12, []) else none) else (bif Nat.beq k 12 then some (.lstore_n 2, 13, []) else none)) else (bif Nat.blt k 14 then (bif Nat.beq k 13 then some (.iconst 1, 14, []) else none) else (bif Nat.beq k 14 then some (.istore 4, 16, []) else none))) else (bif Nat.blt k 19 then (bif Nat.blt k 18 then (bif Nat.beq k 16 then some (.iload 4, 18, []) else none) else (bif Nat.beq k 18 then some (.iload_n 1, 19, []) else none)) else (bif Nat.blt k 22 then (bif Nat.beq k 19 then some (.if_icmp .gt 23, 22, [42]) else none) else (bif Nat.beq k 22 then some (.lload_n 2, 23, []) else none))))) else (bif Nat.blt k 31 then (bif Nat.blt k 26 then (bif Nat.blt k 24 then (bif Nat.beq k 23 then some (.iload_n 0, 24, []) else none) else (bif Nat.blt k 25 then (bif Nat.beq k 24 then some (.iload_n 1, 25, []) else none) else (bif Nat.beq k 25 then some (.isub, 26, []) else none))) else (bif Nat.blt k 29 then (bif Nat.blt k 28 then (bif Nat.beq k 26 then some (.iload 4, 28, []) else none) else (bif Nat.beq k 28 then some (.iadd, 29, []) else none)) else (bif Nat.blt k 30 then (bif Nat.beq k 29 then some (.i2l, 30, []) else none) else (bif Nat.beq k 30 then some (.lmul, 31, []) else none)))) else (bif Nat.blt k 36 then (bif Nat.blt k 34 then (bif Nat.blt k 33 then (bif Nat.beq k 31 then some (.iload 4, 33, []) else none) else (bif Nat.beq k 33 then some (.i2l, 34, []) else none)) else (bif Nat.blt k 35 then (bif Nat.beq k 34 then some (.ldiv, 35, []) else none) else (bif Nat.beq k 35 then some (.lstore_n 2, 36, []) else none))) else (bif Nat.blt k 42 then (bif Nat.blt k 39 then (bif Nat.beq k 36 then some (.iinc 4 1, 39, []) else none) else (bif Nat.beq k 39 then some (.goto (-23), 42, [16]) else none)) else (bif Nat.blt k 43 then (bif Nat.beq k 42 then some (.lload_n 2, 43, []) else none) else (bif Nat.beq k 43 then some (.lreturn, 44, []) else none)))))) else none
noncomputable def P_M_choose : MP := (T_M_choose, (fun k => mLook k []), (fun k => mLook k []), (fun k => mLook k [(181, E_M_in)]), (fun k => mLook k []), (fun k => mLook k []), (fun k => mLook k []), (fun k => mLook k [(16, [true, true, true, false, true])]), (fun k => [10, 43].any (Nat.beq k)), (1, 22, 0, 0), false, (fun _ => none))
set_option maxRecDepth 100000 in
set_option maxHeartbeats 4000000 in
theorem q_M_choose_e (a0 : Int32) (a1 : Int32) (σ : MSto) (n : Nat) : mexe KT P_M_choose (n + 1) (0, [some (mI a0), some (mI a1), none, none, none], [], σ, 0, 0) = mIf ((v_M_in a1 0 a0 σ) = 0) (some (10, [], [(mJ 0)], σ, 0, 0)) (mexe KT P_M_choose n (16, [some (mI a0), some (mI a1), some (mJ 1), none, some (mI 1)], [], σ, 0, 0)) := rfl
set_option maxRecDepth 100000 in
set_option maxHeartbeats 4000000 in
theorem q_M_choose_16 (x0 : Int32) (x1 : Int32) (x2 : Int64) (x4 : Int32) (σ : MSto) (n : Nat) : mexe KT P_M_choose (n + 1) (16, [some (mI x0), some (mI x1), some (mJ x2), none, some (mI x4)], [], σ, 0, 0) = mIf (x1 < x4) (some (43, [], [(mJ x2)], σ, 0, 0)) (mG (¬ ((Int32.toInt64 x4) : Int64) = 0) (mexe KT P_M_choose n (16, [some (mI x0), some (mI x1), some (mJ ((x2 * (Int32.toInt64 ((x0 - x1) + x4))) / (Int32.toInt64 x4))), none, some (mI (x4 + 1))], [], σ, 0, 0))) := rfl
set_option maxRecDepth 100000 in
theorem lt_M_choose_16 {Post : MST → Prop} (x0 : Int32) (x1 : Int32) (c : Int32) (σ : MSto) (s : Int64) (hp : g_M_choose_16 x0 x1 c σ s) (hq : ¬ q_M_choose_16s x0 x1 c σ s = 1) (hn : ∀ r, t_M_choose_16 x0 x1 c σ s = r → mW1 P_M_choose (16, [some (mI x0), some (mI x1), some (mJ r), none, some (mI (c + 1))], [], σ, 0, 0) Post) : mW1 P_M_choose (16, [some (mI x0), some (mI x1), some (mJ s), none, some (mI c)], [], σ, 0, 0) Post := by
  unfold g_M_choose_16 at hp
  refine mW1_eq (q_M_choose_16 _ _ _ _ _) ?_
  refine mTr_if (fun h0 => ?_) (fun h0 => ?_)
  · skip
    exact absurd (if_pos h0) hq
  · skip
    have hp := hp h0
    refine mTr_g hp ?_
    exact mTr_k (hn ((s * (Int32.toInt64 ((x0 - x1) + c))) / (Int32.toInt64 c)) (if_neg h0))
theorem lp_M_choose_16 {Post : MST → Prop} (x0 : Int32) (x1 : Int32) (c0 : Int32) (σ : MSto) (s0 : Int64) (N : Nat) (hb : ∀ i, i < N → g_M_choose_16 x0 x1 (c0 + nI i) σ (f_M_choose_16 x0 x1 c0 σ s0 i) ∧ ¬ q_M_choose_16s x0 x1 (c0 + nI i) σ (f_M_choose_16 x0 x1 c0 σ s0 i) = 1) (h : mW1 P_M_choose (16, [some (mI x0), some (mI x1), some (mJ (f_M_choose_16 x0 x1 c0 σ s0 N)), none, some (mI (c0 + nI N))], [], σ, 0, 0) Post) : mW1 P_M_choose (16, [some (mI x0), some (mI x1), some (mJ s0), none, some (mI c0)], [], σ, 0, 0) Post := by
  refine mW1_st (mW1_loop (fun i => (16, [some (mI x0), some (mI x1), some (mJ (f_M_choose_16 x0 x1 c0 σ s0 i)), none, some (mI (c0 + nI i))], [], σ, 0, 0)) N (fun i hlt hn => ?_) h) (by rw [show nI 0 = 0 from rfl, Int32.add_zero] <;> rfl)
  refine lt_M_choose_16 x0 x1 _ σ _ (hb i hlt).1 (hb i hlt).2 (fun r hr => ?_)
  rw [Int32.add_assoc, nI_s]
  subst hr
  exact hn
set_option maxRecDepth 100000 in
set_option maxHeartbeats 4000000 in
theorem d_M_choose (a0 : Int32) (a1 : Int32) (σ : MSto) (hp : p_M_choose a0 a1 σ) : mW1 P_M_choose (0, [some (mI a0), some (mI a1), none, none, none], [], σ, 0, 0) (mF [10, 43] [mJ (v_M_choose a0 a1 σ)] σ 0 0) := by
  refine mW1_eq (q_M_choose_e _ _ _) ?_
  unfold p_M_choose at hp
  refine mTr_if (fun h0 => ?_) (fun h0 => ?_)
  · skip
    exact mTr_e (by decide) (congrArg (fun z => [mJ z]) (Eq.symm (if_pos h0))) rfl (by decide) (by decide)
  · skip
    have hp := hp h0
    refine mTr_k (lp_M_choose_16 a0 a1 1 σ 1 (n_M_choose_16 a0 a1 1 σ 1) hp.1 ?_)
    have hp := hp.2
    refine mW1_eq (q_M_choose_16 _ _ _ _ _) ?_
    refine mTr_if (fun h1 => ?_) (fun h1 => ?_)
    · skip
      exact mTr_e (by decide) (congrArg (fun z => [mJ z]) (Eq.symm (if_neg h0))) rfl (by decide) (by decide)
    · skip
      have hp := hp h1
      exact hp.elim

theorem tk_M_choose : ∀ pc i nx tg, T_M_choose pc = some (i, nx, tg) → mOkB prog_14_method_92_code pc i nx tg = true := code_ok (N := 44) (fun k h => by unfold T_M_choose; rw [h]; rfl) (by decide +kernel)
theorem ok_M_choose (l : Launch) : mPOK l "ClothWithManModel" prog_14_method_92_code P_M_choose := by
  refine ⟨tk_M_choose, ?_, ?_, ?_, (fun pc i nx tg kd _ h => by cases h), ?_, ?_, fun pc en h => by cases h⟩
  · intro x ci f ty fin h
    exact mLook_all (Q := fun x v => mFOK "ClothWithManModel" x v.1 v.2.1 v.2.2.1 v.2.2.2 ∧ (v.2.2.2 = true → pIni P_M_choose = true → (Cond.fieldLink "ClothWithManModel" x (((mCl[v.1]?).getD ("", fun _ => ("", "", "", false), 0)).2.1 v.2.1).1 (((mCl[v.1]?).getD ("", fun _ => ("", "", "", false), 0)).2.1 v.2.1).2.1 (((mCl[v.1]?).getD ("", fun _ => ("", "", "", false), 0)).2.1 v.2.1).2.2.1 ∈ lw_tbl ∧ (((mCl[v.1]?).getD ("", fun _ => ("", "", "", false), 0)).2.1 v.2.1).1 = "ClothWithManModel"))) fcN x (ci, f, ty, fin) h
  · intro x
    have hh := mLook_all (l := ([] : List (Nat × (Int32 ⊕ Int64)))) (Q := fun x (v : Int32 ⊕ Int64) => (∀ w, v = .inl w → Cond.constant "ClothWithManModel" x w ∈ lw_tbl) ∧ (∀ w, v = .inr w → Cond.constantLong "ClothWithManModel" x w ∈ lw_tbl)) fcN x
    exact ⟨fun w h => (hh _ h).1 w rfl, fun w h => (hh _ h).2 w rfl⟩
  · exact fun x en h => mLook_all (Q := fun x en => mLink "ClothWithManModel" x en ∧ mCtr l en ∧ (en.1.1 = 2 → en.2.2.2.2.2.2 = none)) (fcC ⟨li_M_181, c_M_in l, (fun h => by cases h)⟩ fcN) x en h
  · exact fun x kd h => mLook_all (Q := fun x kd => (kd = 95 ∧ Cond.fieldLink "ClothWithManModel" x "ClothWithMan" "LIKENESSES" "[I" ∈ lw_tbl) ∨ (kd = 96 ∧ Cond.fieldLink "ClothWithManModel" x "ClothWithMan" "APART_BOUNDS" "[I" ∈ lw_tbl)) fcN x kd h
  · exact fun x ci h => mLook_all (Q := fun x ci => ci ≠ 0 ∧ ∃ (C : String) (T : u_T) (N : Nat), mCl[ci]? = some (C, T, N) ∧ Cond.classLink "ClothWithManModel" x C ∈ lw_tbl ∧ Cond.instantiable C N ∈ lw_tbl) fcN x ci h
set_option maxRecDepth 100000 in
theorem c_M_choose (l : Launch) : mCtr l E_M_choose := mCtr_of (P := P_M_choose) (own := "ClothWithManModel") mLay_ok rfl (by decide +kernel) rfl (ok_M_choose l) (fun h => by cases h) (fun as σ pr rv σ' hF hpr hlv => by
  unfold E_M_choose S_M_choose at hF
  simp only [] at hF
  split at hF
  · cases hF
    obtain ⟨n, pcF, c1, s1, g1, g2, g3, g4⟩ := mF_inv (d_M_choose _ _ σ (hpr _ rfl))
    exact ⟨Nat.le_of_ble_eq_true rfl, (fun v h => by cases h; trivial), n, pcF, c1, s1, g1, mEnd_of (i := .lreturn) (P := P_M_choose) (rets := [10, 43]) rfl g2, g3, g4⟩
  · cases hF
    exact (hpr _ rfl).elim)
/-! ClothWithManModel.knew(II)I -/
noncomputable def t_M_knew_33 (x1 : Int32) (x2 : Int32) (c : Int32) (σ : MSto) (s : Int32) : Int32 := (if (gI σ 13 0 31) ≤ c then s else (if (gI σ 64 0 (Int32.toNatClampNeg c)) = x1 then (s + 0) else (s + 1)))
noncomputable def q_M_knew_33s (x1 : Int32) (x2 : Int32) (c : Int32) (σ : MSto) (s : Int32) : Nat := (if (gI σ 13 0 31) ≤ c then 1 else 0)
def g_M_knew_33 (x1 : Int32) (x2 : Int32) (c : Int32) (σ : MSto) (s : Int32) : Prop := (¬ ((gI σ 13 0 31) ≤ c) → (vp_in c 9))
noncomputable def f_M_knew_33 (x1 : Int32) (x2 : Int32) (c0 : Int32) (σ : MSto) (s0 : Int32) (n : Nat) : Int32 := nfold (fun i s => t_M_knew_33 x1 x2 (c0 + nI i) σ s) s0 n
noncomputable def n_M_knew_33 (x1 : Int32) (x2 : Int32) (c0 : Int32) (σ : MSto) (s0 : Int32) : Nat := nM σ 31
noncomputable def vj_M_knew_j89  (σ : MSto) : Int32 := 0
noncomputable def ej_M_knew_j89  (σ : MSto) : MSto := σ
noncomputable def v_M_knew (a1 : Int32) (a2 : Int32) (σ : MSto) : Int32 := (if (v_M_in a1 0 5 (sI σ 13 0 52 0)) = 0 then (-1) else (if (v_M_in a2 0 (gI (sI σ 13 0 52 0) 13 0 31) (sI σ 13 0 52 0)) = 0 then (-1) else (vj_M_knew_j89 (e_M_tellPart (v_M_choose (f_M_knew_33 a1 a2 0 (sI σ 13 0 52 0) 0 (n_M_knew_33 a1 a2 0 (sI σ 13 0 52 0) 0)) a2 (sI (sI σ 13 0 52 0) 13 0 51 0)) (v_M_choose (gI (sI (sI σ 13 0 52 0) 13 0 51 0) 13 0 31) a2 (sI (sI σ 13 0 52 0) 13 0 51 0)) (sI (sI σ 13 0 52 0) 13 0 51 0)))))
def p_M_knew (a1 : Int32) (a2 : Int32) (σ : MSto) : Prop := (¬ ((v_M_in a1 0 5 (sI σ 13 0 52 0)) = 0) → (¬ ((v_M_in a2 0 (gI (sI σ 13 0 52 0) 13 0 31) (sI σ 13 0 52 0)) = 0) → ((∀ i, i < (n_M_knew_33 a1 a2 0 (sI σ 13 0 52 0) 0) → g_M_knew_33 a1 a2 (0 + nI i) (sI σ 13 0 52 0) (f_M_knew_33 a1 a2 0 (sI σ 13 0 52 0) 0 i) ∧ ¬ q_M_knew_33s a1 a2 (0 + nI i) (sI σ 13 0 52 0) (f_M_knew_33 a1 a2 0 (sI σ 13 0 52 0) 0 i) = 1) ∧ ((((gI (sI σ 13 0 52 0) 13 0 31) ≤ (0 + nI (n_M_knew_33 a1 a2 0 (sI σ 13 0 52 0) 0))) → ((p_M_choose (f_M_knew_33 a1 a2 0 (sI σ 13 0 52 0) 0 (n_M_knew_33 a1 a2 0 (sI σ 13 0 52 0) 0)) a2 (sI (sI σ 13 0 52 0) 13 0 51 0)) ∧ ((p_M_choose (gI (sI (sI σ 13 0 52 0) 13 0 51 0) 13 0 31) a2 (sI (sI σ 13 0 52 0) 13 0 51 0)) ∧ (p_M_tellPart (v_M_choose (f_M_knew_33 a1 a2 0 (sI σ 13 0 52 0) 0 (n_M_knew_33 a1 a2 0 (sI σ 13 0 52 0) 0)) a2 (sI (sI σ 13 0 52 0) 13 0 51 0)) (v_M_choose (gI (sI (sI σ 13 0 52 0) 13 0 51 0) 13 0 31) a2 (sI (sI σ 13 0 52 0) 13 0 51 0)) (sI (sI σ 13 0 52 0) 13 0 51 0))))) ∧ (¬ ((gI (sI σ 13 0 52 0) 13 0 31) ≤ (0 + nI (n_M_knew_33 a1 a2 0 (sI σ 13 0 52 0) 0))) → False)))))
noncomputable def e_M_knew (a1 : Int32) (a2 : Int32) (σ : MSto) : MSto := (if (v_M_in a1 0 5 (sI σ 13 0 52 0)) = 0 then (sI σ 13 0 52 0) else (if (v_M_in a2 0 (gI (sI σ 13 0 52 0) 13 0 31) (sI σ 13 0 52 0)) = 0 then (sI σ 13 0 52 0) else (ej_M_knew_j89 (e_M_tellPart (v_M_choose (f_M_knew_33 a1 a2 0 (sI σ 13 0 52 0) 0 (n_M_knew_33 a1 a2 0 (sI σ 13 0 52 0) 0)) a2 (sI (sI σ 13 0 52 0) 13 0 51 0)) (v_M_choose (gI (sI (sI σ 13 0 52 0) 13 0 51 0) 13 0 31) a2 (sI (sI σ 13 0 52 0) 13 0 51 0)) (sI (sI σ 13 0 52 0) 13 0 51 0)))))
noncomputable def S_M_knew : List MV → MSto → Option Prop × Option MV × MSto := fun as σ => match as with
  | [.inr (.inr (some (13, 0))), .inl a0, .inl a1] => (some (p_M_knew a0 a1 σ), some (mI (v_M_knew a0 a1 σ)), e_M_knew a0 a1 σ)
  | _ => (some False, none, σ)
noncomputable def E_M_knew : MEnt := ((1, 2, 13), (3, 76, 0, 0), S_M_knew, ((⟨"ClothWithManModel", "knew", "(II)I"⟩ : MethodName), prog_14_method_93_code, 5, (some .int)))

def T_M_knew : Nat → Option (Instr × Nat × List Nat) := fun k => bif Nat.blt k 91 then (bif Nat.blt k 44 then (bif Nat.blt k 23 then (bif Nat.blt k 8 then (bif Nat.blt k 5 then (bif Nat.blt k 1 then (bif Nat.beq k 0 then some (.aload_n 0, 1, []) else none) else (bif Nat.blt k 2 then (bif Nat.beq k 1 then some (.iconst 0, 2, []) else none) else (bif Nat.beq k 2 then some (.putfield 161, 5, []) else none))) else (bif Nat.blt k 6 then (bif Nat.beq k 5 then some (.iload_n 1, 6, []) else none) else (bif Nat.blt k 7 then (bif Nat.beq k 6 then some (.iconst 0, 7, []) else none) else (bif Nat.beq k 7 then some (.iconst 5, 8, []) else none)))) else (bif Nat.blt k 15 then (bif Nat.blt k 11 then (bif Nat.beq k 8 then some (.invokestatic 181, 11, []) else none) else (bif Nat.blt k 14 then (bif Nat.beq k 11 then some (.ifCond .eq 15, 14, [26]) else none) else (bif Nat.beq k 14 then some (.iload_n 2, 15, []) else none))) else (bif Nat.blt k 17 then (bif Nat.blt k 16 then (bif Nat.beq k 15 then some (.iconst 0, 16, []) else none) else (bif Nat.beq k 16 then some (.aload_n 0, 17, []) else none)) else (bif Nat.blt k 20 then (bif Nat.beq k 17 then some (.getfield 425, 20, []) else none) else (bif Nat.beq k 20 then some (.invokestatic 181, 23, []) else none))))) else (bif Nat.blt k 31 then (bif Nat.blt k 28 then (bif Nat.blt k 26 then (bif Nat.beq k 23 then some (.ifCond .ne 5, 26, [28]) else none) else (bif Nat.blt k 27 then (bif Nat.beq k 26 then some (.iconst (-1), 27, []) else none) else (bif Nat.beq k 27 then some (.ireturn, 28, []) else none))) else (bif Nat.blt k 29 then (bif Nat.beq k 28 then some (.iconst 0, 29, []) else none) else (bif Nat.blt k 30 then (bif Nat.beq k 29 then some (.istore_n 3, 30, []) else none) else (bif Nat.beq k 30 then some (.iconst 0, 31, []) else none)))) else (bif Nat.blt k 36 then (bif Nat.blt k 33 then (bif Nat.beq k 31 then some (.istore 4, 33, []) else none) else (bif Nat.blt k 35 then (bif Nat.beq k 33 then some (.iload 4, 35, []) else none) else (bif Nat.beq k 35 then some (.aload_n 0, 36, []) else none))) else (bif Nat.blt k 42 then (bif Nat.blt k 39 then (bif Nat.beq k 36 then some (.getfield 425, 39, []) else none) else (bif Nat.beq k 39 then some (.if_icmp .ge 28, 42, [67]) else none)) else (bif Nat.blt k 43 then (bif Nat.beq k 42 then some (.iload_n 3, 43, []) else none) else (bif Nat.beq k 43 then some (.aload_n 0, 44, []) else none)))))) else (bif Nat.blt k 68 then (bif Nat.blt k 55 then (bif Nat.blt k 50 then (bif Nat.blt k 47 then (bif Nat.beq k 44 then some (.getfield 87, 47, []) else none) else (bif Nat.blt k 49 then (bif Nat.beq k 47 then some (.iload 4, 49, []) else none) else (bif Nat.beq k 49 then some (.iaload, 50, []) else none))) else (bif Nat.blt k 51 then (bif Nat.beq k 50 then some (.iload_n 1, 51, []) else none) else (bif Nat.blt k 54 then (bif Nat.beq k 51 then some (.if_icmp .ne 7, 54, [58]) else none) else (bif Nat.beq k 54 then some (.iconst 0, 55, []) else none)))) else (bif Nat.blt k 60 then (bif Nat.blt k 58 then (bif Nat.beq k 55 then some (.goto 4, 58, [59]) else none) else (bif Nat.blt k 59 then (bif Nat.beq k 58 then some (.iconst 1, 59, []) else none) else (bif Nat.beq k 59 then some (.iadd, 60, []) else none))) else (bif Nat.blt k 64 then (bif Nat.blt k 61 then (bif Nat.beq k 60 then some (.istore_n 3, 61, []) else none) else (bif Nat.beq k 61 then some (.iinc 4 1, 64, []) else none)) else (bif Nat.blt k 67 then (bif Nat.beq k 64 then some (.goto (-31), 67, [33]) else none) else (bif Nat.beq k 67 then some (.aload_n 0, 68, []) else none))))) else (bif Nat.blt k 78 then (bif Nat.blt k 73 then (bif Nat.blt k 69 then (bif Nat.beq k 68 then some (.iconst 0, 69, []) else none) else (bif Nat.blt k 72 then (bif Nat.beq k 69 then some (.putfield 164, 72, []) else none) else (bif Nat.beq k 72 then some (.aload_n 0, 73, []) else none))) else (bif Nat.blt k 74 then (bif Nat.beq k 73 then some (.iload_n 3, 74, []) else none) else (bif Nat.blt k 75 then (bif Nat.beq k 74 then some (.iload_n 2, 75, []) else none) else (bif Nat.beq k 75 then some (.invokestatic 428, 78, []) else none)))) else (bif Nat.blt k 83 then (bif Nat.blt k 79 then (bif Nat.beq k 78 then some (.aload_n 0, 79, []) else none) else (bif Nat.blt k 82 then (bif Nat.beq k 79 then some (.getfield 425, 82, []) else none) else (bif Nat.beq k 82 then some (.iload_n 2, 83, []) else none))) else (bif Nat.blt k 89 then (bif Nat.blt k 86 then (bif Nat.beq k 83 then some (.invokestatic 428, 86, []) else none) else (bif Nat.beq k 86 then some (.invokevirtual 321, 89, []) else none)) else (bif Nat.blt k 90 then (bif Nat.beq k 89 then some (.iconst 0, 90, []) else none) else (bif Nat.beq k 90 then some (.ireturn, 91, []) else none))))))) else none
noncomputable def P_M_knew : MP := (T_M_knew, (fun k => mLook k [(87, (13, 32, (.array .int), true)), (161, (13, 52, .int, false)), (164, (13, 51, .int, false)), (425, (13, 31, .int, false))]), (fun k => mLook k []), (fun k => mLook k [(181, E_M_in), (321, E_M_tellPart), (428, E_M_choose)]), (fun k => mLook k []), (fun k => mLook k []), (fun k => mLook k []), (fun k => mLook k [(33, [true, true, true, true, true]), (89, [false, false, false, false, false])]), (fun k => [27, 90].any (Nat.beq k)), (3, 76, 0, 0), false, (fun _ => none))
set_option maxRecDepth 100000 in
set_option maxHeartbeats 4000000 in
theorem q_M_knew_e (a1 : Int32) (a2 : Int32) (σ : MSto) (n : Nat) : mexe KT P_M_knew (n + 1) (0, [some (mR 13 0), some (mI a1), some (mI a2), none, none], [], σ, 0, 0) = mIf ((v_M_in a1 0 5 (sI σ 13 0 52 0)) = 0) (some (27, [], [(mI (-1))], (sI σ 13 0 52 0), 0, 0)) (mIf ((v_M_in a2 0 (gI (sI σ 13 0 52 0) 13 0 31) (sI σ 13 0 52 0)) = 0) (some (27, [], [(mI (-1))], (sI σ 13 0 52 0), 0, 0)) (mexe KT P_M_knew n (33, [some (mR 13 0), some (mI a1), some (mI a2), some (mI 0), some (mI 0)], [], (sI σ 13 0 52 0), 0, 0))) := rfl
set_option maxRecDepth 100000 in
set_option maxHeartbeats 4000000 in
theorem q_M_knew_33 (x1 : Int32) (x2 : Int32) (x3 : Int32) (x4 : Int32) (σ : MSto) (n : Nat) : mexe KT P_M_knew (n + 1) (33, [some (mR 13 0), some (mI x1), some (mI x2), some (mI x3), some (mI x4)], [], σ, 0, 0) = mIf ((gI σ 13 0 31) ≤ x4) (mG (p_M_choose x3 x2 (sI σ 13 0 51 0)) (mG (p_M_choose (gI (sI σ 13 0 51 0) 13 0 31) x2 (sI σ 13 0 51 0)) (mG (p_M_tellPart (v_M_choose x3 x2 (sI σ 13 0 51 0)) (v_M_choose (gI (sI σ 13 0 51 0) 13 0 31) x2 (sI σ 13 0 51 0)) (sI σ 13 0 51 0)) (mexe KT P_M_knew n (89, [none, none, none, none, none], [], (e_M_tellPart (v_M_choose x3 x2 (sI σ 13 0 51 0)) (v_M_choose (gI (sI σ 13 0 51 0) 13 0 31) x2 (sI σ 13 0 51 0)) (sI σ 13 0 51 0)), 0, 0))))) (mG (vp_in x4 9) (mIf ((gI σ 64 0 (Int32.toNatClampNeg x4)) = x1) (mexe KT P_M_knew n (33, [some (mR 13 0), some (mI x1), some (mI x2), some (mI (x3 + 0)), some (mI (x4 + 1))], [], σ, 0, 0)) (mexe KT P_M_knew n (33, [some (mR 13 0), some (mI x1), some (mI x2), some (mI (x3 + 1)), some (mI (x4 + 1))], [], σ, 0, 0)))) := rfl
set_option maxRecDepth 100000 in
set_option maxHeartbeats 4000000 in
theorem q_M_knew_89  (σ : MSto) (n : Nat) : mexe KT P_M_knew (n + 1) (89, [none, none, none, none, none], [], σ, 0, 0) = some (90, [], [(mI 0)], σ, 0, 0) := rfl
set_option maxRecDepth 100000 in
theorem lt_M_knew_33 {Post : MST → Prop} (x1 : Int32) (x2 : Int32) (c : Int32) (σ : MSto) (s : Int32) (hp : g_M_knew_33 x1 x2 c σ s) (hq : ¬ q_M_knew_33s x1 x2 c σ s = 1) (hn : ∀ r, t_M_knew_33 x1 x2 c σ s = r → mW1 P_M_knew (33, [some (mR 13 0), some (mI x1), some (mI x2), some (mI r), some (mI (c + 1))], [], σ, 0, 0) Post) : mW1 P_M_knew (33, [some (mR 13 0), some (mI x1), some (mI x2), some (mI s), some (mI c)], [], σ, 0, 0) Post := by
  unfold g_M_knew_33 at hp
  refine mW1_eq (q_M_knew_33 _ _ _ _ _) ?_
  refine mTr_if (fun h0 => ?_) (fun h0 => ?_)
  · skip
    exact absurd (if_pos h0) hq
  · skip
    have hp := hp h0
    refine mTr_g hp ?_
    refine mTr_if (fun h1 => ?_) (fun h1 => ?_)
    · skip
      exact mTr_k (hn (s + 0) ((if_neg h0).trans (if_pos h1)))
    · skip
      exact mTr_k (hn (s + 1) ((if_neg h0).trans (if_neg h1)))
theorem lp_M_knew_33 {Post : MST → Prop} (x1 : Int32) (x2 : Int32) (c0 : Int32) (σ : MSto) (s0 : Int32) (N : Nat) (hb : ∀ i, i < N → g_M_knew_33 x1 x2 (c0 + nI i) σ (f_M_knew_33 x1 x2 c0 σ s0 i) ∧ ¬ q_M_knew_33s x1 x2 (c0 + nI i) σ (f_M_knew_33 x1 x2 c0 σ s0 i) = 1) (h : mW1 P_M_knew (33, [some (mR 13 0), some (mI x1), some (mI x2), some (mI (f_M_knew_33 x1 x2 c0 σ s0 N)), some (mI (c0 + nI N))], [], σ, 0, 0) Post) : mW1 P_M_knew (33, [some (mR 13 0), some (mI x1), some (mI x2), some (mI s0), some (mI c0)], [], σ, 0, 0) Post := by
  refine mW1_st (mW1_loop (fun i => (33, [some (mR 13 0), some (mI x1), some (mI x2), some (mI (f_M_knew_33 x1 x2 c0 σ s0 i)), some (mI (c0 + nI i))], [], σ, 0, 0)) N (fun i hlt hn => ?_) h) (by rw [show nI 0 = 0 from rfl, Int32.add_zero] <;> rfl)
  refine lt_M_knew_33 x1 x2 _ σ _ (hb i hlt).1 (hb i hlt).2 (fun r hr => ?_)
  rw [Int32.add_assoc, nI_s]
  subst hr
  exact hn
set_option maxRecDepth 100000 in
theorem lj_M_knew_j89  (σ : MSto) : mW1 P_M_knew (89, [none, none, none, none, none], [], σ, 0, 0) (mF [27, 90] [mI (vj_M_knew_j89 σ)] (ej_M_knew_j89 σ) 0 0) := by
  refine mW1_eq (q_M_knew_89 _) ?_
  exact mTr_e (by decide) (congrArg (fun z => [mI z]) (Eq.symm (rfl))) (Eq.symm (rfl)) (by decide) (by decide)
set_option maxRecDepth 100000 in
set_option maxHeartbeats 4000000 in
theorem d_M_knew (a1 : Int32) (a2 : Int32) (σ : MSto) (hp : p_M_knew a1 a2 σ) : mW1 P_M_knew (0, [some (mR 13 0), some (mI a1), some (mI a2), none, none], [], σ, 0, 0) (mF [27, 90] [mI (v_M_knew a1 a2 σ)] (e_M_knew a1 a2 σ) 0 0) := by
  refine mW1_eq (q_M_knew_e _ _ _) ?_
  unfold p_M_knew at hp
  refine mTr_if (fun h0 => ?_) (fun h0 => ?_)
  · skip
    exact mTr_e (by decide) (congrArg (fun z => [mI z]) (Eq.symm (if_pos h0))) (Eq.symm (if_pos h0)) (by decide) (by decide)
  · skip
    have hp := hp h0
    refine mTr_if (fun h1 => ?_) (fun h1 => ?_)
    · skip
      exact mTr_e (by decide) (congrArg (fun z => [mI z]) (Eq.symm ((if_neg h0).trans (if_pos h1)))) (Eq.symm ((if_neg h0).trans (if_pos h1))) (by decide) (by decide)
    · skip
      have hp := hp h1
      refine mTr_k (lp_M_knew_33 a1 a2 0 (sI σ 13 0 52 0) 0 (n_M_knew_33 a1 a2 0 (sI σ 13 0 52 0) 0) hp.1 ?_)
      have hp := hp.2
      refine mW1_eq (q_M_knew_33 _ _ _ _ _) ?_
      refine mTr_if (fun h2 => ?_) (fun h2 => ?_)
      · skip
        have hp := hp.1 h2
        refine mTr_g hp.1 ?_
        have hp := hp.2
        refine mTr_g hp.1 ?_
        have hp := hp.2
        refine mTr_g hp ?_
        exact mTr_k (mF_cI ((if_neg h0).trans (if_neg h1)) ((if_neg h0).trans (if_neg h1)) (lj_M_knew_j89 (e_M_tellPart (v_M_choose (f_M_knew_33 a1 a2 0 (sI σ 13 0 52 0) 0 (n_M_knew_33 a1 a2 0 (sI σ 13 0 52 0) 0)) a2 (sI (sI σ 13 0 52 0) 13 0 51 0)) (v_M_choose (gI (sI (sI σ 13 0 52 0) 13 0 51 0) 13 0 31) a2 (sI (sI σ 13 0 52 0) 13 0 51 0)) (sI (sI σ 13 0 52 0) 13 0 51 0))))
      · skip
        have hp := hp.2 h2
        exact hp.elim
theorem li_M_428 : mLink "ClothWithManModel" 428 E_M_choose := ⟨tw_8_60, tw_1_9, ⟨by decide, by decide⟩, by decide +kernel, Or.inl tw_8_58, (fun _ => tw_8_59), (fun h => by cases h), (fun h => by cases h)⟩



theorem tk_M_knew : ∀ pc i nx tg, T_M_knew pc = some (i, nx, tg) → mOkB prog_14_method_93_code pc i nx tg = true := code_ok (N := 91) (fun k h => by unfold T_M_knew; rw [h]; rfl) (by decide +kernel)
theorem ok_M_knew (l : Launch) : mPOK l "ClothWithManModel" prog_14_method_93_code P_M_knew := by
  refine ⟨tk_M_knew, ?_, ?_, ?_, (fun pc i nx tg kd _ h => by cases h), ?_, ?_, fun pc en h => by cases h⟩
  · intro x ci f ty fin h
    exact mLook_all (Q := fun x v => mFOK "ClothWithManModel" x v.1 v.2.1 v.2.2.1 v.2.2.2 ∧ (v.2.2.2 = true → pIni P_M_knew = true → (Cond.fieldLink "ClothWithManModel" x (((mCl[v.1]?).getD ("", fun _ => ("", "", "", false), 0)).2.1 v.2.1).1 (((mCl[v.1]?).getD ("", fun _ => ("", "", "", false), 0)).2.1 v.2.1).2.1 (((mCl[v.1]?).getD ("", fun _ => ("", "", "", false), 0)).2.1 v.2.1).2.2.1 ∈ lw_tbl ∧ (((mCl[v.1]?).getD ("", fun _ => ("", "", "", false), 0)).2.1 v.2.1).1 = "ClothWithManModel"))) (fcC ⟨fo_M_87, fun h1 h2 => by cases h2⟩ (fcC ⟨fo_M_161, fun h1 h2 => by cases h1⟩ (fcC ⟨fo_M_164, fun h1 h2 => by cases h1⟩ (fcC ⟨fo_M_425, fun h1 h2 => by cases h1⟩ fcN)))) x (ci, f, ty, fin) h
  · intro x
    have hh := mLook_all (l := ([] : List (Nat × (Int32 ⊕ Int64)))) (Q := fun x (v : Int32 ⊕ Int64) => (∀ w, v = .inl w → Cond.constant "ClothWithManModel" x w ∈ lw_tbl) ∧ (∀ w, v = .inr w → Cond.constantLong "ClothWithManModel" x w ∈ lw_tbl)) fcN x
    exact ⟨fun w h => (hh _ h).1 w rfl, fun w h => (hh _ h).2 w rfl⟩
  · exact fun x en h => mLook_all (Q := fun x en => mLink "ClothWithManModel" x en ∧ mCtr l en ∧ (en.1.1 = 2 → en.2.2.2.2.2.2 = none)) (fcC ⟨li_M_181, c_M_in l, (fun h => by cases h)⟩ (fcC ⟨li_M_321, c_M_tellPart l, (fun h => by cases h)⟩ (fcC ⟨li_M_428, c_M_choose l, (fun h => by cases h)⟩ fcN))) x en h
  · exact fun x kd h => mLook_all (Q := fun x kd => (kd = 95 ∧ Cond.fieldLink "ClothWithManModel" x "ClothWithMan" "LIKENESSES" "[I" ∈ lw_tbl) ∨ (kd = 96 ∧ Cond.fieldLink "ClothWithManModel" x "ClothWithMan" "APART_BOUNDS" "[I" ∈ lw_tbl)) fcN x kd h
  · exact fun x ci h => mLook_all (Q := fun x ci => ci ≠ 0 ∧ ∃ (C : String) (T : u_T) (N : Nat), mCl[ci]? = some (C, T, N) ∧ Cond.classLink "ClothWithManModel" x C ∈ lw_tbl ∧ Cond.instantiable C N ∈ lw_tbl) fcN x ci h
set_option maxRecDepth 100000 in
theorem c_M_knew (l : Launch) : mCtr l E_M_knew := mCtr_of (P := P_M_knew) (own := "ClothWithManModel") mLay_ok rfl (by decide +kernel) rfl (ok_M_knew l) (fun h => by cases h) (fun as σ pr rv σ' hF hpr hlv => by
  unfold E_M_knew S_M_knew at hF
  simp only [] at hF
  split at hF
  · cases hF
    obtain ⟨n, pcF, c1, s1, g1, g2, g3, g4⟩ := mF_inv (d_M_knew _ _ σ (hpr _ rfl))
    exact ⟨Nat.le_of_ble_eq_true rfl, (fun v h => by cases h; trivial), n, pcF, c1, s1, g1, ⟨mEnd_of (i := .ireturn) (P := P_M_knew) (rets := [27, 90]) rfl g2, rfl⟩, g3, g4⟩
  · cases hF
    exact (hpr _ rfl).elim)
/-! ClothWithManModel.open(II)I -/
noncomputable def t_M_open_20 (x1 : Int32) (x2 : Int32) (c : Int32) (σ : MSto) (s : Int32) : Int32 := (if 8 ≤ c then s else (if (v_M_has (gI σ 13 0 33) c σ) = 0 then s else (if ((gI σ 65 0 (Int32.toNatClampNeg c)) &&& (x1 ^^^ (-1))) = 0 then (if ((gI σ 66 0 (Int32.toNatClampNeg c)) &&& (x2 ^^^ (-1))) = 0 then (s ||| ((1 : Int32) <<< (c &&& 31))) else s) else s)))
noncomputable def q_M_open_20s (x1 : Int32) (x2 : Int32) (c : Int32) (σ : MSto) (s : Int32) : Nat := (if 8 ≤ c then 1 else 0)
def g_M_open_20 (x1 : Int32) (x2 : Int32) (c : Int32) (σ : MSto) (s : Int32) : Prop := (¬ (8 ≤ c) → (¬ ((v_M_has (gI σ 13 0 33) c σ) = 0) → ((vp_in c 8) ∧ ((((gI σ 65 0 (Int32.toNatClampNeg c)) &&& (x1 ^^^ (-1))) = 0) → (vp_in c 8)))))
noncomputable def f_M_open_20 (x1 : Int32) (x2 : Int32) (c0 : Int32) (σ : MSto) (s0 : Int32) (n : Nat) : Int32 := nfold (fun i s => t_M_open_20 x1 x2 (c0 + nI i) σ s) s0 n
noncomputable def n_M_open_20 (x1 : Int32) (x2 : Int32) (c0 : Int32) (σ : MSto) (s0 : Int32) : Nat := 8
noncomputable def v_M_open (a1 : Int32) (a2 : Int32) (σ : MSto) : Int32 := (if (v_M_areMarks a1 a2 (sI σ 13 0 52 0)) = 0 then (-1) else (v_M_openBy a1 a2 (e_M_tell (Int32.toInt64 (f_M_open_20 a1 a2 0 (sI σ 13 0 52 0) 0 (n_M_open_20 a1 a2 0 (sI σ 13 0 52 0) 0))) (sI (sI σ 13 0 52 0) 13 0 51 0))))
def p_M_open (a1 : Int32) (a2 : Int32) (σ : MSto) : Prop := (¬ ((v_M_areMarks a1 a2 (sI σ 13 0 52 0)) = 0) → ((∀ i, i < (n_M_open_20 a1 a2 0 (sI σ 13 0 52 0) 0) → g_M_open_20 a1 a2 (0 + nI i) (sI σ 13 0 52 0) (f_M_open_20 a1 a2 0 (sI σ 13 0 52 0) 0 i) ∧ ¬ q_M_open_20s a1 a2 (0 + nI i) (sI σ 13 0 52 0) (f_M_open_20 a1 a2 0 (sI σ 13 0 52 0) 0 i) = 1) ∧ (((8 ≤ (0 + nI (n_M_open_20 a1 a2 0 (sI σ 13 0 52 0) 0))) → ((p_M_tell (Int32.toInt64 (f_M_open_20 a1 a2 0 (sI σ 13 0 52 0) 0 (n_M_open_20 a1 a2 0 (sI σ 13 0 52 0) 0))) (sI (sI σ 13 0 52 0) 13 0 51 0)) ∧ (p_M_openBy a1 a2 (e_M_tell (Int32.toInt64 (f_M_open_20 a1 a2 0 (sI σ 13 0 52 0) 0 (n_M_open_20 a1 a2 0 (sI σ 13 0 52 0) 0))) (sI (sI σ 13 0 52 0) 13 0 51 0))))) ∧ (¬ (8 ≤ (0 + nI (n_M_open_20 a1 a2 0 (sI σ 13 0 52 0) 0))) → False))))
noncomputable def e_M_open (a1 : Int32) (a2 : Int32) (σ : MSto) : MSto := (if (v_M_areMarks a1 a2 (sI σ 13 0 52 0)) = 0 then (sI σ 13 0 52 0) else (e_M_tell (Int32.toInt64 (f_M_open_20 a1 a2 0 (sI σ 13 0 52 0) 0 (n_M_open_20 a1 a2 0 (sI σ 13 0 52 0) 0))) (sI (sI σ 13 0 52 0) 13 0 51 0)))
noncomputable def S_M_open : List MV → MSto → Option Prop × Option MV × MSto := fun as σ => match as with
  | [.inr (.inr (some (13, 0))), .inl a0, .inl a1] => (some (p_M_open a0 a1 σ), some (mI (v_M_open a0 a1 σ)), e_M_open a0 a1 σ)
  | _ => (some False, none, σ)
noncomputable def E_M_open : MEnt := ((1, 2, 13), (2, 45, 0, 0), S_M_open, ((⟨"ClothWithManModel", "open", "(II)I"⟩ : MethodName), prog_14_method_97_code, 5, (some .int)))

def T_M_open : Nat → Option (Instr × Nat × List Nat) := fun k => bif Nat.blt k 98 then (bif Nat.blt k 50 then (bif Nat.blt k 22 then (bif Nat.blt k 13 then (bif Nat.blt k 5 then (bif Nat.blt k 1 then (bif Nat.beq k 0 then some (.aload_n 0, 1, []) else none) else (bif Nat.blt k 2 then (bif Nat.beq k 1 then some (.iconst 0, 2, []) else none) else (bif Nat.beq k 2 then some (.putfield 161, 5, []) else none))) else (bif Nat.blt k 7 then (bif Nat.blt k 6 then (bif Nat.beq k 5 then some (.iload_n 1, 6, []) else none) else (bif Nat.beq k 6 then some (.iload_n 2, 7, []) else none)) else (bif Nat.blt k 10 then (bif Nat.beq k 7 then some (.invokestatic 434, 10, []) else none) else (bif Nat.beq k 10 then some (.ifCond .ne 5, 13, [15]) else none)))) else (bif Nat.blt k 16 then (bif Nat.blt k 14 then (bif Nat.beq k 13 then some (.iconst (-1), 14, []) else none) else (bif Nat.blt k 15 then (bif Nat.beq k 14 then some (.ireturn, 15, []) else none) else (bif Nat.beq k 15 then some (.iconst 0, 16, []) else none))) else (bif Nat.blt k 18 then (bif Nat.blt k 17 then (bif Nat.beq k 16 then some (.istore_n 3, 17, []) else none) else (bif Nat.beq k 17 then some (.iconst 0, 18, []) else none)) else (bif Nat.blt k 20 then (bif Nat.beq k 18 then some (.istore 4, 20, []) else none) else (bif Nat.beq k 20 then some (.iload 4, 22, []) else none))))) else (bif Nat.blt k 39 then (bif Nat.blt k 28 then (bif Nat.blt k 24 then (bif Nat.beq k 22 then some (.bipush 8, 24, []) else none) else (bif Nat.blt k 27 then (bif Nat.beq k 24 then some (.if_icmp .ge 56, 27, [80]) else none) else (bif Nat.beq k 27 then some (.aload_n 0, 28, []) else none))) else (bif Nat.blt k 33 then (bif Nat.blt k 31 then (bif Nat.beq k 28 then some (.getfield 431, 31, []) else none) else (bif Nat.beq k 31 then some (.iload 4, 33, []) else none)) else (bif Nat.blt k 36 then (bif Nat.beq k 33 then some (.invokestatic 301, 36, []) else none) else (bif Nat.beq k 36 then some (.ifCond .eq 38, 39, [74]) else none)))) else (bif Nat.blt k 46 then (bif Nat.blt k 43 then (bif Nat.blt k 40 then (bif Nat.beq k 39 then some (.aload_n 0, 40, []) else none) else (bif Nat.beq k 40 then some (.getfield 90, 43, []) else none)) else (bif Nat.blt k 45 then (bif Nat.beq k 43 then some (.iload 4, 45, []) else none) else (bif Nat.beq k 45 then some (.iaload, 46, []) else none))) else (bif Nat.blt k 48 then (bif Nat.blt k 47 then (bif Nat.beq k 46 then some (.iload_n 1, 47, []) else none) else (bif Nat.beq k 47 then some (.iconst (-1), 48, []) else none)) else (bif Nat.blt k 49 then (bif Nat.beq k 48 then some (.ixor, 49, []) else none) else (bif Nat.beq k 49 then some (.iand, 50, []) else none)))))) else (bif Nat.blt k 73 then (bif Nat.blt k 62 then (bif Nat.blt k 57 then (bif Nat.blt k 53 then (bif Nat.beq k 50 then some (.ifCond .ne 24, 53, [74]) else none) else (bif Nat.blt k 54 then (bif Nat.beq k 53 then some (.aload_n 0, 54, []) else none) else (bif Nat.beq k 54 then some (.getfield 93, 57, []) else none))) else (bif Nat.blt k 60 then (bif Nat.blt k 59 then (bif Nat.beq k 57 then some (.iload 4, 59, []) else none) else (bif Nat.beq k 59 then some (.iaload, 60, []) else none)) else (bif Nat.blt k 61 then (bif Nat.beq k 60 then some (.iload_n 2, 61, []) else none) else (bif Nat.beq k 61 then some (.iconst (-1), 62, []) else none)))) else (bif Nat.blt k 68 then (bif Nat.blt k 64 then (bif Nat.blt k 63 then (bif Nat.beq k 62 then some (.ixor, 63, []) else none) else (bif Nat.beq k 63 then some (.iand, 64, []) else none)) else (bif Nat.blt k 67 then (bif Nat.beq k 64 then some (.ifCond .ne 10, 67, [74]) else none) else (bif Nat.beq k 67 then some (.iload_n 3, 68, []) else none))) else (bif Nat.blt k 71 then (bif Nat.blt k 69 then (bif Nat.beq k 68 then some (.iconst 1, 69, []) else none) else (bif Nat.beq k 69 then some (.iload 4, 71, []) else none)) else (bif Nat.blt k 72 then (bif Nat.beq k 71 then some (.ishl, 72, []) else none) else (bif Nat.beq k 72 then some (.ior, 73, []) else none))))) else (bif Nat.blt k 86 then (bif Nat.blt k 80 then (bif Nat.blt k 74 then (bif Nat.beq k 73 then some (.istore_n 3, 74, []) else none) else (bif Nat.blt k 77 then (bif Nat.beq k 74 then some (.iinc 4 1, 77, []) else none) else (bif Nat.beq k 77 then some (.goto (-57), 80, [20]) else none))) else (bif Nat.blt k 82 then (bif Nat.blt k 81 then (bif Nat.beq k 80 then some (.aload_n 0, 81, []) else none) else (bif Nat.beq k 81 then some (.iconst 0, 82, []) else none)) else (bif Nat.blt k 85 then (bif Nat.beq k 82 then some (.putfield 164, 85, []) else none) else (bif Nat.beq k 85 then some (.aload_n 0, 86, []) else none)))) else (bif Nat.blt k 92 then (bif Nat.blt k 88 then (bif Nat.blt k 87 then (bif Nat.beq k 86 then some (.iload_n 3, 87, []) else none) else (bif Nat.beq k 87 then some (.i2l, 88, []) else none)) else (bif Nat.blt k 91 then (bif Nat.beq k 88 then some (.invokevirtual 177, 91, []) else none) else (bif Nat.beq k 91 then some (.aload_n 0, 92, []) else none))) else (bif Nat.blt k 94 then (bif Nat.blt k 93 then (bif Nat.beq k 92 then some (.iload_n 1, 93, []) else none) else (bif Nat.beq k 93 then some (.iload_n 2, 94, []) else none)) else (bif Nat.blt k 97 then (bif Nat.beq k 94 then some (.invokevirtual 437, 97, []) else none) else (bif Nat.beq k 97 then some (.ireturn, 98, []) else none))))))) else none
noncomputable def P_M_open : MP := (T_M_open, (fun k => mLook k [(90, (13, 34, (.array .int), true)), (93, (13, 35, (.array .int), true)), (161, (13, 52, .int, false)), (164, (13, 51, .int, false)), (431, (13, 33, .int, false))]), (fun k => mLook k []), (fun k => mLook k [(177, E_M_tell), (301, E_M_has), (434, E_M_areMarks), (437, E_M_openBy)]), (fun k => mLook k []), (fun k => mLook k []), (fun k => mLook k []), (fun k => mLook k [(20, [true, true, true, true, true])]), (fun k => [14, 97].any (Nat.beq k)), (2, 45, 0, 0), false, (fun _ => none))
set_option maxRecDepth 100000 in
set_option maxHeartbeats 4000000 in
theorem q_M_open_e (a1 : Int32) (a2 : Int32) (σ : MSto) (n : Nat) : mexe KT P_M_open (n + 1) (0, [some (mR 13 0), some (mI a1), some (mI a2), none, none], [], σ, 0, 0) = mIf ((v_M_areMarks a1 a2 (sI σ 13 0 52 0)) = 0) (some (14, [], [(mI (-1))], (sI σ 13 0 52 0), 0, 0)) (mexe KT P_M_open n (20, [some (mR 13 0), some (mI a1), some (mI a2), some (mI 0), some (mI 0)], [], (sI σ 13 0 52 0), 0, 0)) := rfl
set_option maxRecDepth 100000 in
set_option maxHeartbeats 4000000 in
theorem q_M_open_20 (x1 : Int32) (x2 : Int32) (x3 : Int32) (x4 : Int32) (σ : MSto) (n : Nat) : mexe KT P_M_open (n + 1) (20, [some (mR 13 0), some (mI x1), some (mI x2), some (mI x3), some (mI x4)], [], σ, 0, 0) = mIf (8 ≤ x4) (mG (p_M_tell (Int32.toInt64 x3) (sI σ 13 0 51 0)) (mG (p_M_openBy x1 x2 (e_M_tell (Int32.toInt64 x3) (sI σ 13 0 51 0))) (some (97, [], [(mI (v_M_openBy x1 x2 (e_M_tell (Int32.toInt64 x3) (sI σ 13 0 51 0))))], (e_M_tell (Int32.toInt64 x3) (sI σ 13 0 51 0)), 0, 0)))) (mIf ((v_M_has (gI σ 13 0 33) x4 σ) = 0) (mexe KT P_M_open n (20, [some (mR 13 0), some (mI x1), some (mI x2), some (mI x3), some (mI (x4 + 1))], [], σ, 0, 0)) (mG (vp_in x4 8) (mIf (((gI σ 65 0 (Int32.toNatClampNeg x4)) &&& (x1 ^^^ (-1))) = 0) (mG (vp_in x4 8) (mIf (((gI σ 66 0 (Int32.toNatClampNeg x4)) &&& (x2 ^^^ (-1))) = 0) (mexe KT P_M_open n (20, [some (mR 13 0), some (mI x1), some (mI x2), some (mI (x3 ||| ((1 : Int32) <<< (x4 &&& 31)))), some (mI (x4 + 1))], [], σ, 0, 0)) (mexe KT P_M_open n (20, [some (mR 13 0), some (mI x1), some (mI x2), some (mI x3), some (mI (x4 + 1))], [], σ, 0, 0)))) (mexe KT P_M_open n (20, [some (mR 13 0), some (mI x1), some (mI x2), some (mI x3), some (mI (x4 + 1))], [], σ, 0, 0))))) := rfl
set_option maxRecDepth 100000 in
theorem lt_M_open_20 {Post : MST → Prop} (x1 : Int32) (x2 : Int32) (c : Int32) (σ : MSto) (s : Int32) (hp : g_M_open_20 x1 x2 c σ s) (hq : ¬ q_M_open_20s x1 x2 c σ s = 1) (hn : ∀ r, t_M_open_20 x1 x2 c σ s = r → mW1 P_M_open (20, [some (mR 13 0), some (mI x1), some (mI x2), some (mI r), some (mI (c + 1))], [], σ, 0, 0) Post) : mW1 P_M_open (20, [some (mR 13 0), some (mI x1), some (mI x2), some (mI s), some (mI c)], [], σ, 0, 0) Post := by
  unfold g_M_open_20 at hp
  refine mW1_eq (q_M_open_20 _ _ _ _ _) ?_
  refine mTr_if (fun h0 => ?_) (fun h0 => ?_)
  · skip
    exact absurd (if_pos h0) hq
  · skip
    have hp := hp h0
    refine mTr_if (fun h1 => ?_) (fun h1 => ?_)
    · skip
      exact mTr_k (hn s ((if_neg h0).trans (if_pos h1)))
    · skip
      have hp := hp h1
      refine mTr_g hp.1 ?_
      have hp := hp.2
      refine mTr_if (fun h2 => ?_) (fun h2 => ?_)
      · skip
        have hp := hp h2
        refine mTr_g hp ?_
        refine mTr_if (fun h3 => ?_) (fun h3 => ?_)
        · skip
          exact mTr_k (hn (s ||| ((1 : Int32) <<< (c &&& 31))) ((if_neg h0).trans ((if_neg h1).trans ((if_pos h2).trans (if_pos h3)))))
        · skip
          exact mTr_k (hn s ((if_neg h0).trans ((if_neg h1).trans ((if_pos h2).trans (if_neg h3)))))
      · skip
        exact mTr_k (hn s ((if_neg h0).trans ((if_neg h1).trans (if_neg h2))))
theorem lp_M_open_20 {Post : MST → Prop} (x1 : Int32) (x2 : Int32) (c0 : Int32) (σ : MSto) (s0 : Int32) (N : Nat) (hb : ∀ i, i < N → g_M_open_20 x1 x2 (c0 + nI i) σ (f_M_open_20 x1 x2 c0 σ s0 i) ∧ ¬ q_M_open_20s x1 x2 (c0 + nI i) σ (f_M_open_20 x1 x2 c0 σ s0 i) = 1) (h : mW1 P_M_open (20, [some (mR 13 0), some (mI x1), some (mI x2), some (mI (f_M_open_20 x1 x2 c0 σ s0 N)), some (mI (c0 + nI N))], [], σ, 0, 0) Post) : mW1 P_M_open (20, [some (mR 13 0), some (mI x1), some (mI x2), some (mI s0), some (mI c0)], [], σ, 0, 0) Post := by
  refine mW1_st (mW1_loop (fun i => (20, [some (mR 13 0), some (mI x1), some (mI x2), some (mI (f_M_open_20 x1 x2 c0 σ s0 i)), some (mI (c0 + nI i))], [], σ, 0, 0)) N (fun i hlt hn => ?_) h) (by rw [show nI 0 = 0 from rfl, Int32.add_zero] <;> rfl)
  refine lt_M_open_20 x1 x2 _ σ _ (hb i hlt).1 (hb i hlt).2 (fun r hr => ?_)
  rw [Int32.add_assoc, nI_s]
  subst hr
  exact hn
set_option maxRecDepth 100000 in
set_option maxHeartbeats 4000000 in
theorem d_M_open (a1 : Int32) (a2 : Int32) (σ : MSto) (hp : p_M_open a1 a2 σ) : mW1 P_M_open (0, [some (mR 13 0), some (mI a1), some (mI a2), none, none], [], σ, 0, 0) (mF [14, 97] [mI (v_M_open a1 a2 σ)] (e_M_open a1 a2 σ) 0 0) := by
  refine mW1_eq (q_M_open_e _ _ _) ?_
  unfold p_M_open at hp
  refine mTr_if (fun h0 => ?_) (fun h0 => ?_)
  · skip
    exact mTr_e (by decide) (congrArg (fun z => [mI z]) (Eq.symm (if_pos h0))) (Eq.symm (if_pos h0)) (by decide) (by decide)
  · skip
    have hp := hp h0
    refine mTr_k (lp_M_open_20 a1 a2 0 (sI σ 13 0 52 0) 0 (n_M_open_20 a1 a2 0 (sI σ 13 0 52 0) 0) hp.1 ?_)
    have hp := hp.2
    refine mW1_eq (q_M_open_20 _ _ _ _ _) ?_
    refine mTr_if (fun h1 => ?_) (fun h1 => ?_)
    · skip
      have hp := hp.1 h1
      refine mTr_g hp.1 ?_
      have hp := hp.2
      refine mTr_g hp ?_
      exact mTr_e (by decide) (congrArg (fun z => [mI z]) (Eq.symm (if_neg h0))) (Eq.symm (if_neg h0)) (by decide) (by decide)
    · skip
      have hp := hp.2 h1
      exact hp.elim
theorem li_M_437 : mLink "ClothWithManModel" 437 E_M_openBy := ⟨tw_8_75, tw_1_9, ⟨by decide, by decide⟩, by decide +kernel, Or.inl tw_8_72, (fun h => by cases h), (fun _ => ⟨tw_8_74, tw_0_86, TX12, 71, rfl⟩), (fun h => by cases h)⟩

theorem li_M_434 : mLink "ClothWithManModel" 434 E_M_areMarks := ⟨tw_8_71, tw_1_9, ⟨by decide, by decide⟩, by decide +kernel, Or.inl tw_8_69, (fun _ => tw_8_70), (fun h => by cases h), (fun h => by cases h)⟩



theorem tk_M_open : ∀ pc i nx tg, T_M_open pc = some (i, nx, tg) → mOkB prog_14_method_97_code pc i nx tg = true := code_ok (N := 98) (fun k h => by unfold T_M_open; rw [h]; rfl) (by decide +kernel)
theorem ok_M_open (l : Launch) : mPOK l "ClothWithManModel" prog_14_method_97_code P_M_open := by
  refine ⟨tk_M_open, ?_, ?_, ?_, (fun pc i nx tg kd _ h => by cases h), ?_, ?_, fun pc en h => by cases h⟩
  · intro x ci f ty fin h
    exact mLook_all (Q := fun x v => mFOK "ClothWithManModel" x v.1 v.2.1 v.2.2.1 v.2.2.2 ∧ (v.2.2.2 = true → pIni P_M_open = true → (Cond.fieldLink "ClothWithManModel" x (((mCl[v.1]?).getD ("", fun _ => ("", "", "", false), 0)).2.1 v.2.1).1 (((mCl[v.1]?).getD ("", fun _ => ("", "", "", false), 0)).2.1 v.2.1).2.1 (((mCl[v.1]?).getD ("", fun _ => ("", "", "", false), 0)).2.1 v.2.1).2.2.1 ∈ lw_tbl ∧ (((mCl[v.1]?).getD ("", fun _ => ("", "", "", false), 0)).2.1 v.2.1).1 = "ClothWithManModel"))) (fcC ⟨fo_M_90, fun h1 h2 => by cases h2⟩ (fcC ⟨fo_M_93, fun h1 h2 => by cases h2⟩ (fcC ⟨fo_M_161, fun h1 h2 => by cases h1⟩ (fcC ⟨fo_M_164, fun h1 h2 => by cases h1⟩ (fcC ⟨fo_M_431, fun h1 h2 => by cases h1⟩ fcN))))) x (ci, f, ty, fin) h
  · intro x
    have hh := mLook_all (l := ([] : List (Nat × (Int32 ⊕ Int64)))) (Q := fun x (v : Int32 ⊕ Int64) => (∀ w, v = .inl w → Cond.constant "ClothWithManModel" x w ∈ lw_tbl) ∧ (∀ w, v = .inr w → Cond.constantLong "ClothWithManModel" x w ∈ lw_tbl)) fcN x
    exact ⟨fun w h => (hh _ h).1 w rfl, fun w h => (hh _ h).2 w rfl⟩
  · exact fun x en h => mLook_all (Q := fun x en => mLink "ClothWithManModel" x en ∧ mCtr l en ∧ (en.1.1 = 2 → en.2.2.2.2.2.2 = none)) (fcC ⟨li_M_177, c_M_tell l, (fun h => by cases h)⟩ (fcC ⟨li_M_301, c_M_has l, (fun h => by cases h)⟩ (fcC ⟨li_M_434, c_M_areMarks l, (fun h => by cases h)⟩ (fcC ⟨li_M_437, c_M_openBy l, (fun h => by cases h)⟩ fcN)))) x en h
  · exact fun x kd h => mLook_all (Q := fun x kd => (kd = 95 ∧ Cond.fieldLink "ClothWithManModel" x "ClothWithMan" "LIKENESSES" "[I" ∈ lw_tbl) ∨ (kd = 96 ∧ Cond.fieldLink "ClothWithManModel" x "ClothWithMan" "APART_BOUNDS" "[I" ∈ lw_tbl)) fcN x kd h
  · exact fun x ci h => mLook_all (Q := fun x ci => ci ≠ 0 ∧ ∃ (C : String) (T : u_T) (N : Nat), mCl[ci]? = some (C, T, N) ∧ Cond.classLink "ClothWithManModel" x C ∈ lw_tbl ∧ Cond.instantiable C N ∈ lw_tbl) fcN x ci h
set_option maxRecDepth 100000 in
theorem c_M_open (l : Launch) : mCtr l E_M_open := mCtr_of (P := P_M_open) (own := "ClothWithManModel") mLay_ok rfl (by decide +kernel) rfl (ok_M_open l) (fun h => by cases h) (fun as σ pr rv σ' hF hpr hlv => by
  unfold E_M_open S_M_open at hF
  simp only [] at hF
  split at hF
  · cases hF
    obtain ⟨n, pcF, c1, s1, g1, g2, g3, g4⟩ := mF_inv (d_M_open _ _ σ (hpr _ rfl))
    exact ⟨Nat.le_of_ble_eq_true rfl, (fun v h => by cases h; trivial), n, pcF, c1, s1, g1, ⟨mEnd_of (i := .ireturn) (P := P_M_open) (rets := [14, 97]) rfl g2, rfl⟩, g3, g4⟩
  · cases hF
    exact (hpr _ rfl).elim)
/-! ClothWithManModel.look(II)I -/
noncomputable def t_M_look_24 (x1 : Int32) (x2 : Int32) (c : Int32) (σ : MSto) (s : Int32 × Int32) : Int32 × Int32 := (if 8 ≤ c then s else (if (v_M_has (x1 ||| x2) c σ) = 0 then (if (s.1) < 0 then (c, (v_Ma_max (v_In_bitCount (v_M_openBy (x1 ||| ((1 : Int32) <<< (c &&& 31))) x2 σ) σ) (v_In_bitCount (v_M_openBy x1 (x2 ||| ((1 : Int32) <<< (c &&& 31))) σ) σ) σ)) else (if (v_Ma_max (v_In_bitCount (v_M_openBy (x1 ||| ((1 : Int32) <<< (c &&& 31))) x2 σ) σ) (v_In_bitCount (v_M_openBy x1 (x2 ||| ((1 : Int32) <<< (c &&& 31))) σ) σ) σ) < (s.2) then (c, (v_Ma_max (v_In_bitCount (v_M_openBy (x1 ||| ((1 : Int32) <<< (c &&& 31))) x2 σ) σ) (v_In_bitCount (v_M_openBy x1 (x2 ||| ((1 : Int32) <<< (c &&& 31))) σ) σ) σ)) else ((s.1), (s.2)))) else ((s.1), (s.2))))
noncomputable def q_M_look_24s (x1 : Int32) (x2 : Int32) (c : Int32) (σ : MSto) (s : Int32 × Int32) : Nat := (if 8 ≤ c then 1 else 0)
def g_M_look_24 (x1 : Int32) (x2 : Int32) (c : Int32) (σ : MSto) (s : Int32 × Int32) : Prop := (¬ (8 ≤ c) → (((v_M_has (x1 ||| x2) c σ) = 0) → ((p_M_openBy (x1 ||| ((1 : Int32) <<< (c &&& 31))) x2 σ) ∧ (p_M_openBy x1 (x2 ||| ((1 : Int32) <<< (c &&& 31))) σ))))
noncomputable def f_M_look_24 (x1 : Int32) (x2 : Int32) (c0 : Int32) (σ : MSto) (s0 : Int32 × Int32) (n : Nat) : Int32 × Int32 := nfold (fun i s => t_M_look_24 x1 x2 (c0 + nI i) σ s) s0 n
noncomputable def n_M_look_24 (x1 : Int32) (x2 : Int32) (c0 : Int32) (σ : MSto) (s0 : Int32 × Int32) : Nat := 8
noncomputable def v_M_look (a1 : Int32) (a2 : Int32) (σ : MSto) : Int32 := (if (v_M_areMarks a1 a2 (sI σ 13 0 52 0)) = 0 then (-1) else (if 0 ≤ ((f_M_look_24 a1 a2 0 (sI σ 13 0 52 0) ((-2), 0) (n_M_look_24 a1 a2 0 (sI σ 13 0 52 0) ((-2), 0))).1) then ((f_M_look_24 a1 a2 0 (sI σ 13 0 52 0) ((-2), 0) (n_M_look_24 a1 a2 0 (sI σ 13 0 52 0) ((-2), 0))).1) else (-2)))
def p_M_look (a1 : Int32) (a2 : Int32) (σ : MSto) : Prop := (¬ ((v_M_areMarks a1 a2 (sI σ 13 0 52 0)) = 0) → ((∀ i, i < (n_M_look_24 a1 a2 0 (sI σ 13 0 52 0) ((-2), 0)) → g_M_look_24 a1 a2 (0 + nI i) (sI σ 13 0 52 0) (f_M_look_24 a1 a2 0 (sI σ 13 0 52 0) ((-2), 0) i) ∧ ¬ q_M_look_24s a1 a2 (0 + nI i) (sI σ 13 0 52 0) (f_M_look_24 a1 a2 0 (sI σ 13 0 52 0) ((-2), 0) i) = 1) ∧ (((8 ≤ (0 + nI (n_M_look_24 a1 a2 0 (sI σ 13 0 52 0) ((-2), 0)))) → ((0 ≤ ((f_M_look_24 a1 a2 0 (sI σ 13 0 52 0) ((-2), 0) (n_M_look_24 a1 a2 0 (sI σ 13 0 52 0) ((-2), 0))).1)) → (p_M_tell (Int32.toInt64 ((f_M_look_24 a1 a2 0 (sI σ 13 0 52 0) ((-2), 0) (n_M_look_24 a1 a2 0 (sI σ 13 0 52 0) ((-2), 0))).2)) (sI (sI σ 13 0 52 0) 13 0 51 0)))) ∧ (¬ (8 ≤ (0 + nI (n_M_look_24 a1 a2 0 (sI σ 13 0 52 0) ((-2), 0)))) → False))))
noncomputable def e_M_look (a1 : Int32) (a2 : Int32) (σ : MSto) : MSto := (if (v_M_areMarks a1 a2 (sI σ 13 0 52 0)) = 0 then (sI σ 13 0 52 0) else (if 0 ≤ ((f_M_look_24 a1 a2 0 (sI σ 13 0 52 0) ((-2), 0) (n_M_look_24 a1 a2 0 (sI σ 13 0 52 0) ((-2), 0))).1) then (e_M_tell (Int32.toInt64 ((f_M_look_24 a1 a2 0 (sI σ 13 0 52 0) ((-2), 0) (n_M_look_24 a1 a2 0 (sI σ 13 0 52 0) ((-2), 0))).2)) (sI (sI σ 13 0 52 0) 13 0 51 0)) else (sI σ 13 0 52 0)))
noncomputable def S_M_look : List MV → MSto → Option Prop × Option MV × MSto := fun as σ => match as with
  | [.inr (.inr (some (13, 0))), .inl a0, .inl a1] => (some (p_M_look a0 a1 σ), some (mI (v_M_look a0 a1 σ)), e_M_look a0 a1 σ)
  | _ => (some False, none, σ)
noncomputable def E_M_look : MEnt := ((1, 2, 13), (2, 45, 0, 0), S_M_look, ((⟨"ClothWithManModel", "look", "(II)I"⟩ : MethodName), prog_14_method_98_code, 7, (some .int)))

def T_M_look : Nat → Option (Instr × Nat × List Nat) := fun k => bif Nat.blt k 126 then (bif Nat.blt k 60 then (bif Nat.blt k 28 then (bif Nat.blt k 14 then (bif Nat.blt k 6 then (bif Nat.blt k 2 then (bif Nat.blt k 1 then (bif Nat.beq k 0 then some (.aload_n 0, 1, []) else none) else (bif Nat.beq k 1 then some (.iconst 0, 2, []) else none)) else (bif Nat.blt k 5 then (bif Nat.beq k 2 then some (.putfield 161, 5, []) else none) else (bif Nat.beq k 5 then some (.iload_n 1, 6, []) else none))) else (bif Nat.blt k 10 then (bif Nat.blt k 7 then (bif Nat.beq k 6 then some (.iload_n 2, 7, []) else none) else (bif Nat.beq k 7 then some (.invokestatic 434, 10, []) else none)) else (bif Nat.blt k 13 then (bif Nat.beq k 10 then some (.ifCond .ne 5, 13, [15]) else none) else (bif Nat.beq k 13 then some (.iconst (-1), 14, []) else none)))) else (bif Nat.blt k 19 then (bif Nat.blt k 17 then (bif Nat.blt k 15 then (bif Nat.beq k 14 then some (.ireturn, 15, []) else none) else (bif Nat.beq k 15 then some (.bipush (-2), 17, []) else none)) else (bif Nat.blt k 18 then (bif Nat.beq k 17 then some (.istore_n 3, 18, []) else none) else (bif Nat.beq k 18 then some (.iconst 0, 19, []) else none))) else (bif Nat.blt k 22 then (bif Nat.blt k 21 then (bif Nat.beq k 19 then some (.istore 4, 21, []) else none) else (bif Nat.beq k 21 then some (.iconst 0, 22, []) else none)) else (bif Nat.blt k 24 then (bif Nat.beq k 22 then some (.istore 5, 24, []) else none) else (bif Nat.blt k 26 then (bif Nat.beq k 24 then some (.iload 5, 26, []) else none) else (bif Nat.beq k 26 then some (.bipush 8, 28, []) else none)))))) else (bif Nat.blt k 46 then (bif Nat.blt k 34 then (bif Nat.blt k 32 then (bif Nat.blt k 31 then (bif Nat.beq k 28 then some (.if_icmp .ge 77, 31, [105]) else none) else (bif Nat.beq k 31 then some (.iload_n 1, 32, []) else none)) else (bif Nat.blt k 33 then (bif Nat.beq k 32 then some (.iload_n 2, 33, []) else none) else (bif Nat.beq k 33 then some (.ior, 34, []) else none))) else (bif Nat.blt k 39 then (bif Nat.blt k 36 then (bif Nat.beq k 34 then some (.iload 5, 36, []) else none) else (bif Nat.beq k 36 then some (.invokestatic 301, 39, []) else none)) else (bif Nat.blt k 42 then (bif Nat.beq k 39 then some (.ifCond .eq 6, 42, [45]) else none) else (bif Nat.blt k 45 then (bif Nat.beq k 42 then some (.goto 57, 45, [99]) else none) else (bif Nat.beq k 45 then some (.aload_n 0, 46, []) else none))))) else (bif Nat.blt k 51 then (bif Nat.blt k 48 then (bif Nat.blt k 47 then (bif Nat.beq k 46 then some (.iload_n 1, 47, []) else none) else (bif Nat.beq k 47 then some (.iconst 1, 48, []) else none)) else (bif Nat.blt k 50 then (bif Nat.beq k 48 then some (.iload 5, 50, []) else none) else (bif Nat.beq k 50 then some (.ishl, 51, []) else none))) else (bif Nat.blt k 53 then (bif Nat.blt k 52 then (bif Nat.beq k 51 then some (.ior, 52, []) else none) else (bif Nat.beq k 52 then some (.iload_n 2, 53, []) else none)) else (bif Nat.blt k 56 then (bif Nat.beq k 53 then some (.invokevirtual 437, 56, []) else none) else (bif Nat.blt k 59 then (bif Nat.beq k 56 then some (.invokestatic 296, 59, []) else none) else (bif Nat.beq k 59 then some (.aload_n 0, 60, []) else none))))))) else (bif Nat.blt k 94 then (bif Nat.blt k 73 then (bif Nat.blt k 65 then (bif Nat.blt k 62 then (bif Nat.blt k 61 then (bif Nat.beq k 60 then some (.iload_n 1, 61, []) else none) else (bif Nat.beq k 61 then some (.iload_n 2, 62, []) else none)) else (bif Nat.blt k 63 then (bif Nat.beq k 62 then some (.iconst 1, 63, []) else none) else (bif Nat.beq k 63 then some (.iload 5, 65, []) else none))) else (bif Nat.blt k 67 then (bif Nat.blt k 66 then (bif Nat.beq k 65 then some (.ishl, 66, []) else none) else (bif Nat.beq k 66 then some (.ior, 67, []) else none)) else (bif Nat.blt k 70 then (bif Nat.beq k 67 then some (.invokevirtual 437, 70, []) else none) else (bif Nat.beq k 70 then some (.invokestatic 296, 73, []) else none)))) else (bif Nat.blt k 82 then (bif Nat.blt k 78 then (bif Nat.blt k 76 then (bif Nat.beq k 73 then some (.invokestatic 249, 76, []) else none) else (bif Nat.beq k 76 then some (.istore 6, 78, []) else none)) else (bif Nat.blt k 79 then (bif Nat.beq k 78 then some (.iload_n 3, 79, []) else none) else (bif Nat.beq k 79 then some (.ifCond .lt 13, 82, [92]) else none))) else (bif Nat.blt k 86 then (bif Nat.blt k 84 then (bif Nat.beq k 82 then some (.iload 6, 84, []) else none) else (bif Nat.beq k 84 then some (.iload 4, 86, []) else none)) else (bif Nat.blt k 89 then (bif Nat.beq k 86 then some (.if_icmp .lt 6, 89, [92]) else none) else (bif Nat.blt k 92 then (bif Nat.beq k 89 then some (.goto 10, 92, [99]) else none) else (bif Nat.beq k 92 then some (.iload 5, 94, []) else none)))))) else (bif Nat.blt k 112 then (bif Nat.blt k 102 then (bif Nat.blt k 97 then (bif Nat.blt k 95 then (bif Nat.beq k 94 then some (.istore_n 3, 95, []) else none) else (bif Nat.beq k 95 then some (.iload 6, 97, []) else none)) else (bif Nat.blt k 99 then (bif Nat.beq k 97 then some (.istore 4, 99, []) else none) else (bif Nat.beq k 99 then some (.iinc 5 1, 102, []) else none))) else (bif Nat.blt k 106 then (bif Nat.blt k 105 then (bif Nat.beq k 102 then some (.goto (-78), 105, [24]) else none) else (bif Nat.beq k 105 then some (.iload_n 3, 106, []) else none)) else (bif Nat.blt k 109 then (bif Nat.beq k 106 then some (.ifCond .ge 6, 109, [112]) else none) else (bif Nat.blt k 111 then (bif Nat.beq k 109 then some (.bipush (-2), 111, []) else none) else (bif Nat.beq k 111 then some (.ireturn, 112, []) else none))))) else (bif Nat.blt k 118 then (bif Nat.blt k 114 then (bif Nat.blt k 113 then (bif Nat.beq k 112 then some (.aload_n 0, 113, []) else none) else (bif Nat.beq k 113 then some (.iconst 0, 114, []) else none)) else (bif Nat.blt k 117 then (bif Nat.beq k 114 then some (.putfield 164, 117, []) else none) else (bif Nat.beq k 117 then some (.aload_n 0, 118, []) else none))) else (bif Nat.blt k 121 then (bif Nat.blt k 120 then (bif Nat.beq k 118 then some (.iload 4, 120, []) else none) else (bif Nat.beq k 120 then some (.i2l, 121, []) else none)) else (bif Nat.blt k 124 then (bif Nat.beq k 121 then some (.invokevirtual 177, 124, []) else none) else (bif Nat.blt k 125 then (bif Nat.beq k 124 then some (.iload_n 3, 125, []) else none) else (bif Nat.beq k 125 then some (.ireturn, 126, []) else none)))))))) else none
noncomputable def P_M_look : MP := (T_M_look, (fun k => mLook k [(161, (13, 52, .int, false)), (164, (13, 51, .int, false))]), (fun k => mLook k []), (fun k => mLook k [(177, E_M_tell), (249, E_Ma_max), (296, E_In_bitCount), (301, E_M_has), (434, E_M_areMarks), (437, E_M_openBy)]), (fun k => mLook k []), (fun k => mLook k []), (fun k => mLook k []), (fun k => mLook k [(24, [true, true, true, true, true, true, false])]), (fun k => [14, 111, 125].any (Nat.beq k)), (2, 45, 0, 0), false, (fun _ => none))
set_option maxRecDepth 100000 in
set_option maxHeartbeats 4000000 in
theorem q_M_look_e (a1 : Int32) (a2 : Int32) (σ : MSto) (n : Nat) : mexe KT P_M_look (n + 1) (0, [some (mR 13 0), some (mI a1), some (mI a2), none, none, none, none], [], σ, 0, 0) = mIf ((v_M_areMarks a1 a2 (sI σ 13 0 52 0)) = 0) (some (14, [], [(mI (-1))], (sI σ 13 0 52 0), 0, 0)) (mexe KT P_M_look n (24, [some (mR 13 0), some (mI a1), some (mI a2), some (mI (-2)), some (mI 0), some (mI 0), none], [], (sI σ 13 0 52 0), 0, 0)) := rfl
set_option maxRecDepth 100000 in
set_option maxHeartbeats 4000000 in
theorem q_M_look_24 (x1 : Int32) (x2 : Int32) (x3 : Int32) (x4 : Int32) (x5 : Int32) (σ : MSto) (n : Nat) : mexe KT P_M_look (n + 1) (24, [some (mR 13 0), some (mI x1), some (mI x2), some (mI x3), some (mI x4), some (mI x5), none], [], σ, 0, 0) = mIf (8 ≤ x5) (mIf (0 ≤ x3) (mG (p_M_tell (Int32.toInt64 x4) (sI σ 13 0 51 0)) (some (125, [], [(mI x3)], (e_M_tell (Int32.toInt64 x4) (sI σ 13 0 51 0)), 0, 0))) (some (111, [], [(mI (-2))], σ, 0, 0))) (mIf ((v_M_has (x1 ||| x2) x5 σ) = 0) (mG (p_M_openBy (x1 ||| ((1 : Int32) <<< (x5 &&& 31))) x2 σ) (mG (p_M_openBy x1 (x2 ||| ((1 : Int32) <<< (x5 &&& 31))) σ) (mIf (x3 < 0) (mexe KT P_M_look n (24, [some (mR 13 0), some (mI x1), some (mI x2), some (mI x5), some (mI (v_Ma_max (v_In_bitCount (v_M_openBy (x1 ||| ((1 : Int32) <<< (x5 &&& 31))) x2 σ) σ) (v_In_bitCount (v_M_openBy x1 (x2 ||| ((1 : Int32) <<< (x5 &&& 31))) σ) σ) σ)), some (mI (x5 + 1)), none], [], σ, 0, 0)) (mIf ((v_Ma_max (v_In_bitCount (v_M_openBy (x1 ||| ((1 : Int32) <<< (x5 &&& 31))) x2 σ) σ) (v_In_bitCount (v_M_openBy x1 (x2 ||| ((1 : Int32) <<< (x5 &&& 31))) σ) σ) σ) < x4) (mexe KT P_M_look n (24, [some (mR 13 0), some (mI x1), some (mI x2), some (mI x5), some (mI (v_Ma_max (v_In_bitCount (v_M_openBy (x1 ||| ((1 : Int32) <<< (x5 &&& 31))) x2 σ) σ) (v_In_bitCount (v_M_openBy x1 (x2 ||| ((1 : Int32) <<< (x5 &&& 31))) σ) σ) σ)), some (mI (x5 + 1)), none], [], σ, 0, 0)) (mexe KT P_M_look n (24, [some (mR 13 0), some (mI x1), some (mI x2), some (mI x3), some (mI x4), some (mI (x5 + 1)), none], [], σ, 0, 0)))))) (mexe KT P_M_look n (24, [some (mR 13 0), some (mI x1), some (mI x2), some (mI x3), some (mI x4), some (mI (x5 + 1)), none], [], σ, 0, 0))) := rfl
set_option maxRecDepth 100000 in
theorem lt_M_look_24 {Post : MST → Prop} (x1 : Int32) (x2 : Int32) (c : Int32) (σ : MSto) (s : Int32 × Int32) (hp : g_M_look_24 x1 x2 c σ s) (hq : ¬ q_M_look_24s x1 x2 c σ s = 1) (hn : ∀ (r1 : Int32) (r2 : Int32), t_M_look_24 x1 x2 c σ s = (r1, r2) → mW1 P_M_look (24, [some (mR 13 0), some (mI x1), some (mI x2), some (mI r1), some (mI r2), some (mI (c + 1)), none], [], σ, 0, 0) Post) : mW1 P_M_look (24, [some (mR 13 0), some (mI x1), some (mI x2), some (mI (s.1)), some (mI (s.2)), some (mI c), none], [], σ, 0, 0) Post := by
  unfold g_M_look_24 at hp
  refine mW1_eq (q_M_look_24 _ _ _ _ _ _) ?_
  refine mTr_if (fun h0 => ?_) (fun h0 => ?_)
  · skip
    exact absurd (if_pos h0) hq
  · skip
    have hp := hp h0
    refine mTr_if (fun h1 => ?_) (fun h1 => ?_)
    · skip
      have hp := hp h1
      refine mTr_g hp.1 ?_
      have hp := hp.2
      refine mTr_g hp ?_
      refine mTr_if (fun h2 => ?_) (fun h2 => ?_)
      · skip
        exact mTr_k (hn c (v_Ma_max (v_In_bitCount (v_M_openBy (x1 ||| ((1 : Int32) <<< (c &&& 31))) x2 σ) σ) (v_In_bitCount (v_M_openBy x1 (x2 ||| ((1 : Int32) <<< (c &&& 31))) σ) σ) σ) ((if_neg h0).trans ((if_pos h1).trans (if_pos h2))))
      · skip
        refine mTr_if (fun h3 => ?_) (fun h3 => ?_)
        · skip
          exact mTr_k (hn c (v_Ma_max (v_In_bitCount (v_M_openBy (x1 ||| ((1 : Int32) <<< (c &&& 31))) x2 σ) σ) (v_In_bitCount (v_M_openBy x1 (x2 ||| ((1 : Int32) <<< (c &&& 31))) σ) σ) σ) ((if_neg h0).trans ((if_pos h1).trans ((if_neg h2).trans (if_pos h3)))))
        · skip
          exact mTr_k (hn (s.1) (s.2) ((if_neg h0).trans ((if_pos h1).trans ((if_neg h2).trans (if_neg h3)))))
    · skip
      exact mTr_k (hn (s.1) (s.2) ((if_neg h0).trans (if_neg h1)))
theorem lp_M_look_24 {Post : MST → Prop} (x1 : Int32) (x2 : Int32) (c0 : Int32) (σ : MSto) (s0 : Int32 × Int32) (N : Nat) (hb : ∀ i, i < N → g_M_look_24 x1 x2 (c0 + nI i) σ (f_M_look_24 x1 x2 c0 σ s0 i) ∧ ¬ q_M_look_24s x1 x2 (c0 + nI i) σ (f_M_look_24 x1 x2 c0 σ s0 i) = 1) (h : mW1 P_M_look (24, [some (mR 13 0), some (mI x1), some (mI x2), some (mI ((f_M_look_24 x1 x2 c0 σ s0 N).1)), some (mI ((f_M_look_24 x1 x2 c0 σ s0 N).2)), some (mI (c0 + nI N)), none], [], σ, 0, 0) Post) : mW1 P_M_look (24, [some (mR 13 0), some (mI x1), some (mI x2), some (mI (s0.1)), some (mI (s0.2)), some (mI c0), none], [], σ, 0, 0) Post := by
  refine mW1_st (mW1_loop (fun i => (24, [some (mR 13 0), some (mI x1), some (mI x2), some (mI ((f_M_look_24 x1 x2 c0 σ s0 i).1)), some (mI ((f_M_look_24 x1 x2 c0 σ s0 i).2)), some (mI (c0 + nI i)), none], [], σ, 0, 0)) N (fun i hlt hn => ?_) h) (by rw [show nI 0 = 0 from rfl, Int32.add_zero] <;> rfl)
  refine lt_M_look_24 x1 x2 _ σ _ (hb i hlt).1 (hb i hlt).2 (fun r1 r2 hr => ?_)
  rw [Int32.add_assoc, nI_s]
  have e : f_M_look_24 x1 x2 c0 σ s0 (i + 1) = (r1, r2) := hr
  try dsimp only at hn
  rw [e] at hn
  exact hn
set_option maxRecDepth 100000 in
set_option maxHeartbeats 4000000 in
theorem d_M_look (a1 : Int32) (a2 : Int32) (σ : MSto) (hp : p_M_look a1 a2 σ) : mW1 P_M_look (0, [some (mR 13 0), some (mI a1), some (mI a2), none, none, none, none], [], σ, 0, 0) (mF [14, 111, 125] [mI (v_M_look a1 a2 σ)] (e_M_look a1 a2 σ) 0 0) := by
  refine mW1_eq (q_M_look_e _ _ _) ?_
  unfold p_M_look at hp
  refine mTr_if (fun h0 => ?_) (fun h0 => ?_)
  · skip
    exact mTr_e (by decide) (congrArg (fun z => [mI z]) (Eq.symm (if_pos h0))) (Eq.symm (if_pos h0)) (by decide) (by decide)
  · skip
    have hp := hp h0
    refine mTr_k (lp_M_look_24 a1 a2 0 (sI σ 13 0 52 0) ((-2), 0) (n_M_look_24 a1 a2 0 (sI σ 13 0 52 0) ((-2), 0)) hp.1 ?_)
    have hp := hp.2
    refine mW1_eq (q_M_look_24 _ _ _ _ _ _) ?_
    refine mTr_if (fun h1 => ?_) (fun h1 => ?_)
    · skip
      have hp := hp.1 h1
      refine mTr_if (fun h2 => ?_) (fun h2 => ?_)
      · skip
        have hp := hp h2
        refine mTr_g hp ?_
        exact mTr_e (by decide) (congrArg (fun z => [mI z]) (Eq.symm ((if_neg h0).trans (if_pos h2)))) (Eq.symm ((if_neg h0).trans (if_pos h2))) (by decide) (by decide)
      · skip
        exact mTr_e (by decide) (congrArg (fun z => [mI z]) (Eq.symm ((if_neg h0).trans (if_neg h2)))) (Eq.symm ((if_neg h0).trans (if_neg h2))) (by decide) (by decide)
    · skip
      have hp := hp.2 h1
      exact hp.elim






theorem tk_M_look : ∀ pc i nx tg, T_M_look pc = some (i, nx, tg) → mOkB prog_14_method_98_code pc i nx tg = true := code_ok (N := 126) (fun k h => by unfold T_M_look; rw [h]; rfl) (by decide +kernel)
theorem ok_M_look (l : Launch) : mPOK l "ClothWithManModel" prog_14_method_98_code P_M_look := by
  refine ⟨tk_M_look, ?_, ?_, ?_, (fun pc i nx tg kd _ h => by cases h), ?_, ?_, fun pc en h => by cases h⟩
  · intro x ci f ty fin h
    exact mLook_all (Q := fun x v => mFOK "ClothWithManModel" x v.1 v.2.1 v.2.2.1 v.2.2.2 ∧ (v.2.2.2 = true → pIni P_M_look = true → (Cond.fieldLink "ClothWithManModel" x (((mCl[v.1]?).getD ("", fun _ => ("", "", "", false), 0)).2.1 v.2.1).1 (((mCl[v.1]?).getD ("", fun _ => ("", "", "", false), 0)).2.1 v.2.1).2.1 (((mCl[v.1]?).getD ("", fun _ => ("", "", "", false), 0)).2.1 v.2.1).2.2.1 ∈ lw_tbl ∧ (((mCl[v.1]?).getD ("", fun _ => ("", "", "", false), 0)).2.1 v.2.1).1 = "ClothWithManModel"))) (fcC ⟨fo_M_161, fun h1 h2 => by cases h1⟩ (fcC ⟨fo_M_164, fun h1 h2 => by cases h1⟩ fcN)) x (ci, f, ty, fin) h
  · intro x
    have hh := mLook_all (l := ([] : List (Nat × (Int32 ⊕ Int64)))) (Q := fun x (v : Int32 ⊕ Int64) => (∀ w, v = .inl w → Cond.constant "ClothWithManModel" x w ∈ lw_tbl) ∧ (∀ w, v = .inr w → Cond.constantLong "ClothWithManModel" x w ∈ lw_tbl)) fcN x
    exact ⟨fun w h => (hh _ h).1 w rfl, fun w h => (hh _ h).2 w rfl⟩
  · exact fun x en h => mLook_all (Q := fun x en => mLink "ClothWithManModel" x en ∧ mCtr l en ∧ (en.1.1 = 2 → en.2.2.2.2.2.2 = none)) (fcC ⟨li_M_177, c_M_tell l, (fun h => by cases h)⟩ (fcC ⟨li_M_249, c_Ma_max l, (fun h => by cases h)⟩ (fcC ⟨li_M_296, c_In_bitCount l, (fun h => by cases h)⟩ (fcC ⟨li_M_301, c_M_has l, (fun h => by cases h)⟩ (fcC ⟨li_M_434, c_M_areMarks l, (fun h => by cases h)⟩ (fcC ⟨li_M_437, c_M_openBy l, (fun h => by cases h)⟩ fcN)))))) x en h
  · exact fun x kd h => mLook_all (Q := fun x kd => (kd = 95 ∧ Cond.fieldLink "ClothWithManModel" x "ClothWithMan" "LIKENESSES" "[I" ∈ lw_tbl) ∨ (kd = 96 ∧ Cond.fieldLink "ClothWithManModel" x "ClothWithMan" "APART_BOUNDS" "[I" ∈ lw_tbl)) fcN x kd h
  · exact fun x ci h => mLook_all (Q := fun x ci => ci ≠ 0 ∧ ∃ (C : String) (T : u_T) (N : Nat), mCl[ci]? = some (C, T, N) ∧ Cond.classLink "ClothWithManModel" x C ∈ lw_tbl ∧ Cond.instantiable C N ∈ lw_tbl) fcN x ci h
set_option maxRecDepth 100000 in
theorem c_M_look (l : Launch) : mCtr l E_M_look := mCtr_of (P := P_M_look) (own := "ClothWithManModel") mLay_ok rfl (by decide +kernel) rfl (ok_M_look l) (fun h => by cases h) (fun as σ pr rv σ' hF hpr hlv => by
  unfold E_M_look S_M_look at hF
  simp only [] at hF
  split at hF
  · cases hF
    obtain ⟨n, pcF, c1, s1, g1, g2, g3, g4⟩ := mF_inv (d_M_look _ _ σ (hpr _ rfl))
    exact ⟨Nat.le_of_ble_eq_true rfl, (fun v h => by cases h; trivial), n, pcF, c1, s1, g1, ⟨mEnd_of (i := .ireturn) (P := P_M_look) (rets := [14, 111, 125]) rfl g2, rfl⟩, g3, g4⟩
  · cases hF
    exact (hpr _ rfl).elim)
/-! ClothWithManModel.omits(I)I -/
noncomputable def t_M_omits_119 (x1 : Int32) (x2 : Int32) (x3 : Int32) (x4 : Int32) (c : Int32) (σ : MSto) (s : Int32) : Int32 := (if (gI σ 13 0 10) ≤ c then s else (if (v_M_has (gI σ 69 0 (Int32.toNatClampNeg x1)) c σ) = 0 then (if (v_M_has (gI σ 13 0 15) c σ) = 0 then s else (if 32 ≤ (v_M_likenessOf (Int32.toInt64 (gI σ 51 0 (Int32.toNatClampNeg c))) (Int32.toInt64 (v_M_wouldOf x2 c x3 σ)) (v_M_spanOf c σ) σ) then s else (s ||| ((1 : Int32) <<< (c &&& 31))))) else s))
noncomputable def q_M_omits_119s (x1 : Int32) (x2 : Int32) (x3 : Int32) (x4 : Int32) (c : Int32) (σ : MSto) (s : Int32) : Nat := (if (gI σ 13 0 10) ≤ c then 1 else 0)
def g_M_omits_119 (x1 : Int32) (x2 : Int32) (x3 : Int32) (x4 : Int32) (c : Int32) (σ : MSto) (s : Int32) : Prop := (¬ ((gI σ 13 0 10) ≤ c) → ((vp_in x1 8) ∧ (((v_M_has (gI σ 69 0 (Int32.toNatClampNeg x1)) c σ) = 0) → (¬ ((v_M_has (gI σ 13 0 15) c σ) = 0) → ((vp_in c 12) ∧ ((p_M_wouldOf x2 c x3 σ) ∧ ((p_M_spanOf c σ) ∧ (p_M_likenessOf (Int32.toInt64 (gI σ 51 0 (Int32.toNatClampNeg c))) (Int32.toInt64 (v_M_wouldOf x2 c x3 σ)) (v_M_spanOf c σ) σ))))))))
noncomputable def f_M_omits_119 (x1 : Int32) (x2 : Int32) (x3 : Int32) (x4 : Int32) (c0 : Int32) (σ : MSto) (s0 : Int32) (n : Nat) : Int32 := nfold (fun i s => t_M_omits_119 x1 x2 x3 x4 (c0 + nI i) σ s) s0 n
noncomputable def n_M_omits_119 (x1 : Int32) (x2 : Int32) (x3 : Int32) (x4 : Int32) (c0 : Int32) (σ : MSto) (s0 : Int32) : Nat := nM σ 10
noncomputable def t_M_omits_67 (x1 : Int32) (x2 : Int32) (x3 : Int32) (x5 : Int32) (c : Int32) (σ : MSto) (s : Int32) : Int32 := (if (gI σ 13 0 27) ≤ c then s else (if (v_M_has (gI σ 68 0 (Int32.toNatClampNeg x1)) c σ) = 0 then (if 5 ≤ (v_M_fitOf c x3 σ) then s else (s ||| ((1 : Int32) <<< (c &&& 31)))) else s))
noncomputable def q_M_omits_67s (x1 : Int32) (x2 : Int32) (x3 : Int32) (x5 : Int32) (c : Int32) (σ : MSto) (s : Int32) : Nat := (if (gI σ 13 0 27) ≤ c then 1 else 0)
def g_M_omits_67 (x1 : Int32) (x2 : Int32) (x3 : Int32) (x5 : Int32) (c : Int32) (σ : MSto) (s : Int32) : Prop := (¬ ((gI σ 13 0 27) ≤ c) → ((vp_in x1 8) ∧ (((v_M_has (gI σ 68 0 (Int32.toNatClampNeg x1)) c σ) = 0) → (p_M_fitOf c x3 σ))))
noncomputable def f_M_omits_67 (x1 : Int32) (x2 : Int32) (x3 : Int32) (x5 : Int32) (c0 : Int32) (σ : MSto) (s0 : Int32) (n : Nat) : Int32 := nfold (fun i s => t_M_omits_67 x1 x2 x3 x5 (c0 + nI i) σ s) s0 n
noncomputable def n_M_omits_67 (x1 : Int32) (x2 : Int32) (x3 : Int32) (x5 : Int32) (c0 : Int32) (σ : MSto) (s0 : Int32) : Nat := nM σ 27
noncomputable def v_M_omits (a1 : Int32) (σ : MSto) : Int32 := (if (v_M_in a1 0 7 (sI σ 13 0 52 0)) = 0 then (-1) else (if (v_M_has (gI (sI σ 13 0 52 0) 13 0 36) a1 (sI σ 13 0 52 0)) = 0 then (-1) else (if (v_M_hasTerm (gI (sI σ 13 0 52 0) 67 0 (Int32.toNatClampNeg a1)) 1 (sI σ 13 0 52 0)) = 0 then ((v_In_bitCount (f_M_omits_67 a1 (gI (sI σ 13 0 52 0) 67 0 (Int32.toNatClampNeg a1)) (gI (sI σ 13 0 52 0) 13 0 2) 0 0 (sI σ 13 0 52 0) 0 (n_M_omits_67 a1 (gI (sI σ 13 0 52 0) 67 0 (Int32.toNatClampNeg a1)) (gI (sI σ 13 0 52 0) 13 0 2) 0 0 (sI σ 13 0 52 0) 0)) (e_M_tell (Int32.toInt64 (f_M_omits_119 a1 (gI (sI σ 13 0 52 0) 67 0 (Int32.toNatClampNeg a1)) (gI (sI σ 13 0 52 0) 13 0 2) (f_M_omits_67 a1 (gI (sI σ 13 0 52 0) 67 0 (Int32.toNatClampNeg a1)) (gI (sI σ 13 0 52 0) 13 0 2) 0 0 (sI σ 13 0 52 0) 0 (n_M_omits_67 a1 (gI (sI σ 13 0 52 0) 67 0 (Int32.toNatClampNeg a1)) (gI (sI σ 13 0 52 0) 13 0 2) 0 0 (sI σ 13 0 52 0) 0)) 0 (sI σ 13 0 52 0) 0 (n_M_omits_119 a1 (gI (sI σ 13 0 52 0) 67 0 (Int32.toNatClampNeg a1)) (gI (sI σ 13 0 52 0) 13 0 2) (f_M_omits_67 a1 (gI (sI σ 13 0 52 0) 67 0 (Int32.toNatClampNeg a1)) (gI (sI σ 13 0 52 0) 13 0 2) 0 0 (sI σ 13 0 52 0) 0 (n_M_omits_67 a1 (gI (sI σ 13 0 52 0) 67 0 (Int32.toNatClampNeg a1)) (gI (sI σ 13 0 52 0) 13 0 2) 0 0 (sI σ 13 0 52 0) 0)) 0 (sI σ 13 0 52 0) 0))) (e_M_tell (Int32.toInt64 (f_M_omits_67 a1 (gI (sI σ 13 0 52 0) 67 0 (Int32.toNatClampNeg a1)) (gI (sI σ 13 0 52 0) 13 0 2) 0 0 (sI σ 13 0 52 0) 0 (n_M_omits_67 a1 (gI (sI σ 13 0 52 0) 67 0 (Int32.toNatClampNeg a1)) (gI (sI σ 13 0 52 0) 13 0 2) 0 0 (sI σ 13 0 52 0) 0))) (sI (sI σ 13 0 52 0) 13 0 51 0)))) + (v_In_bitCount (f_M_omits_119 a1 (gI (sI σ 13 0 52 0) 67 0 (Int32.toNatClampNeg a1)) (gI (sI σ 13 0 52 0) 13 0 2) (f_M_omits_67 a1 (gI (sI σ 13 0 52 0) 67 0 (Int32.toNatClampNeg a1)) (gI (sI σ 13 0 52 0) 13 0 2) 0 0 (sI σ 13 0 52 0) 0 (n_M_omits_67 a1 (gI (sI σ 13 0 52 0) 67 0 (Int32.toNatClampNeg a1)) (gI (sI σ 13 0 52 0) 13 0 2) 0 0 (sI σ 13 0 52 0) 0)) 0 (sI σ 13 0 52 0) 0 (n_M_omits_119 a1 (gI (sI σ 13 0 52 0) 67 0 (Int32.toNatClampNeg a1)) (gI (sI σ 13 0 52 0) 13 0 2) (f_M_omits_67 a1 (gI (sI σ 13 0 52 0) 67 0 (Int32.toNatClampNeg a1)) (gI (sI σ 13 0 52 0) 13 0 2) 0 0 (sI σ 13 0 52 0) 0 (n_M_omits_67 a1 (gI (sI σ 13 0 52 0) 67 0 (Int32.toNatClampNeg a1)) (gI (sI σ 13 0 52 0) 13 0 2) 0 0 (sI σ 13 0 52 0) 0)) 0 (sI σ 13 0 52 0) 0)) (e_M_tell (Int32.toInt64 (f_M_omits_119 a1 (gI (sI σ 13 0 52 0) 67 0 (Int32.toNatClampNeg a1)) (gI (sI σ 13 0 52 0) 13 0 2) (f_M_omits_67 a1 (gI (sI σ 13 0 52 0) 67 0 (Int32.toNatClampNeg a1)) (gI (sI σ 13 0 52 0) 13 0 2) 0 0 (sI σ 13 0 52 0) 0 (n_M_omits_67 a1 (gI (sI σ 13 0 52 0) 67 0 (Int32.toNatClampNeg a1)) (gI (sI σ 13 0 52 0) 13 0 2) 0 0 (sI σ 13 0 52 0) 0)) 0 (sI σ 13 0 52 0) 0 (n_M_omits_119 a1 (gI (sI σ 13 0 52 0) 67 0 (Int32.toNatClampNeg a1)) (gI (sI σ 13 0 52 0) 13 0 2) (f_M_omits_67 a1 (gI (sI σ 13 0 52 0) 67 0 (Int32.toNatClampNeg a1)) (gI (sI σ 13 0 52 0) 13 0 2) 0 0 (sI σ 13 0 52 0) 0 (n_M_omits_67 a1 (gI (sI σ 13 0 52 0) 67 0 (Int32.toNatClampNeg a1)) (gI (sI σ 13 0 52 0) 13 0 2) 0 0 (sI σ 13 0 52 0) 0)) 0 (sI σ 13 0 52 0) 0))) (e_M_tell (Int32.toInt64 (f_M_omits_67 a1 (gI (sI σ 13 0 52 0) 67 0 (Int32.toNatClampNeg a1)) (gI (sI σ 13 0 52 0) 13 0 2) 0 0 (sI σ 13 0 52 0) 0 (n_M_omits_67 a1 (gI (sI σ 13 0 52 0) 67 0 (Int32.toNatClampNeg a1)) (gI (sI σ 13 0 52 0) 13 0 2) 0 0 (sI σ 13 0 52 0) 0))) (sI (sI σ 13 0 52 0) 13 0 51 0))))) else ((v_In_bitCount (f_M_omits_67 a1 (gI (sI σ 13 0 52 0) 67 0 (Int32.toNatClampNeg a1)) (gI (sI σ 13 0 52 0) 52 0 (Int32.toNatClampNeg (gI (sI σ 13 0 52 0) 67 0 (Int32.toNatClampNeg a1)))) 0 0 (sI σ 13 0 52 0) 0 (n_M_omits_67 a1 (gI (sI σ 13 0 52 0) 67 0 (Int32.toNatClampNeg a1)) (gI (sI σ 13 0 52 0) 52 0 (Int32.toNatClampNeg (gI (sI σ 13 0 52 0) 67 0 (Int32.toNatClampNeg a1)))) 0 0 (sI σ 13 0 52 0) 0)) (e_M_tell (Int32.toInt64 (f_M_omits_119 a1 (gI (sI σ 13 0 52 0) 67 0 (Int32.toNatClampNeg a1)) (gI (sI σ 13 0 52 0) 52 0 (Int32.toNatClampNeg (gI (sI σ 13 0 52 0) 67 0 (Int32.toNatClampNeg a1)))) (f_M_omits_67 a1 (gI (sI σ 13 0 52 0) 67 0 (Int32.toNatClampNeg a1)) (gI (sI σ 13 0 52 0) 52 0 (Int32.toNatClampNeg (gI (sI σ 13 0 52 0) 67 0 (Int32.toNatClampNeg a1)))) 0 0 (sI σ 13 0 52 0) 0 (n_M_omits_67 a1 (gI (sI σ 13 0 52 0) 67 0 (Int32.toNatClampNeg a1)) (gI (sI σ 13 0 52 0) 52 0 (Int32.toNatClampNeg (gI (sI σ 13 0 52 0) 67 0 (Int32.toNatClampNeg a1)))) 0 0 (sI σ 13 0 52 0) 0)) 0 (sI σ 13 0 52 0) 0 (n_M_omits_119 a1 (gI (sI σ 13 0 52 0) 67 0 (Int32.toNatClampNeg a1)) (gI (sI σ 13 0 52 0) 52 0 (Int32.toNatClampNeg (gI (sI σ 13 0 52 0) 67 0 (Int32.toNatClampNeg a1)))) (f_M_omits_67 a1 (gI (sI σ 13 0 52 0) 67 0 (Int32.toNatClampNeg a1)) (gI (sI σ 13 0 52 0) 52 0 (Int32.toNatClampNeg (gI (sI σ 13 0 52 0) 67 0 (Int32.toNatClampNeg a1)))) 0 0 (sI σ 13 0 52 0) 0 (n_M_omits_67 a1 (gI (sI σ 13 0 52 0) 67 0 (Int32.toNatClampNeg a1)) (gI (sI σ 13 0 52 0) 52 0 (Int32.toNatClampNeg (gI (sI σ 13 0 52 0) 67 0 (Int32.toNatClampNeg a1)))) 0 0 (sI σ 13 0 52 0) 0)) 0 (sI σ 13 0 52 0) 0))) (e_M_tell (Int32.toInt64 (f_M_omits_67 a1 (gI (sI σ 13 0 52 0) 67 0 (Int32.toNatClampNeg a1)) (gI (sI σ 13 0 52 0) 52 0 (Int32.toNatClampNeg (gI (sI σ 13 0 52 0) 67 0 (Int32.toNatClampNeg a1)))) 0 0 (sI σ 13 0 52 0) 0 (n_M_omits_67 a1 (gI (sI σ 13 0 52 0) 67 0 (Int32.toNatClampNeg a1)) (gI (sI σ 13 0 52 0) 52 0 (Int32.toNatClampNeg (gI (sI σ 13 0 52 0) 67 0 (Int32.toNatClampNeg a1)))) 0 0 (sI σ 13 0 52 0) 0))) (sI (sI σ 13 0 52 0) 13 0 51 0)))) + (v_In_bitCount (f_M_omits_119 a1 (gI (sI σ 13 0 52 0) 67 0 (Int32.toNatClampNeg a1)) (gI (sI σ 13 0 52 0) 52 0 (Int32.toNatClampNeg (gI (sI σ 13 0 52 0) 67 0 (Int32.toNatClampNeg a1)))) (f_M_omits_67 a1 (gI (sI σ 13 0 52 0) 67 0 (Int32.toNatClampNeg a1)) (gI (sI σ 13 0 52 0) 52 0 (Int32.toNatClampNeg (gI (sI σ 13 0 52 0) 67 0 (Int32.toNatClampNeg a1)))) 0 0 (sI σ 13 0 52 0) 0 (n_M_omits_67 a1 (gI (sI σ 13 0 52 0) 67 0 (Int32.toNatClampNeg a1)) (gI (sI σ 13 0 52 0) 52 0 (Int32.toNatClampNeg (gI (sI σ 13 0 52 0) 67 0 (Int32.toNatClampNeg a1)))) 0 0 (sI σ 13 0 52 0) 0)) 0 (sI σ 13 0 52 0) 0 (n_M_omits_119 a1 (gI (sI σ 13 0 52 0) 67 0 (Int32.toNatClampNeg a1)) (gI (sI σ 13 0 52 0) 52 0 (Int32.toNatClampNeg (gI (sI σ 13 0 52 0) 67 0 (Int32.toNatClampNeg a1)))) (f_M_omits_67 a1 (gI (sI σ 13 0 52 0) 67 0 (Int32.toNatClampNeg a1)) (gI (sI σ 13 0 52 0) 52 0 (Int32.toNatClampNeg (gI (sI σ 13 0 52 0) 67 0 (Int32.toNatClampNeg a1)))) 0 0 (sI σ 13 0 52 0) 0 (n_M_omits_67 a1 (gI (sI σ 13 0 52 0) 67 0 (Int32.toNatClampNeg a1)) (gI (sI σ 13 0 52 0) 52 0 (Int32.toNatClampNeg (gI (sI σ 13 0 52 0) 67 0 (Int32.toNatClampNeg a1)))) 0 0 (sI σ 13 0 52 0) 0)) 0 (sI σ 13 0 52 0) 0)) (e_M_tell (Int32.toInt64 (f_M_omits_119 a1 (gI (sI σ 13 0 52 0) 67 0 (Int32.toNatClampNeg a1)) (gI (sI σ 13 0 52 0) 52 0 (Int32.toNatClampNeg (gI (sI σ 13 0 52 0) 67 0 (Int32.toNatClampNeg a1)))) (f_M_omits_67 a1 (gI (sI σ 13 0 52 0) 67 0 (Int32.toNatClampNeg a1)) (gI (sI σ 13 0 52 0) 52 0 (Int32.toNatClampNeg (gI (sI σ 13 0 52 0) 67 0 (Int32.toNatClampNeg a1)))) 0 0 (sI σ 13 0 52 0) 0 (n_M_omits_67 a1 (gI (sI σ 13 0 52 0) 67 0 (Int32.toNatClampNeg a1)) (gI (sI σ 13 0 52 0) 52 0 (Int32.toNatClampNeg (gI (sI σ 13 0 52 0) 67 0 (Int32.toNatClampNeg a1)))) 0 0 (sI σ 13 0 52 0) 0)) 0 (sI σ 13 0 52 0) 0 (n_M_omits_119 a1 (gI (sI σ 13 0 52 0) 67 0 (Int32.toNatClampNeg a1)) (gI (sI σ 13 0 52 0) 52 0 (Int32.toNatClampNeg (gI (sI σ 13 0 52 0) 67 0 (Int32.toNatClampNeg a1)))) (f_M_omits_67 a1 (gI (sI σ 13 0 52 0) 67 0 (Int32.toNatClampNeg a1)) (gI (sI σ 13 0 52 0) 52 0 (Int32.toNatClampNeg (gI (sI σ 13 0 52 0) 67 0 (Int32.toNatClampNeg a1)))) 0 0 (sI σ 13 0 52 0) 0 (n_M_omits_67 a1 (gI (sI σ 13 0 52 0) 67 0 (Int32.toNatClampNeg a1)) (gI (sI σ 13 0 52 0) 52 0 (Int32.toNatClampNeg (gI (sI σ 13 0 52 0) 67 0 (Int32.toNatClampNeg a1)))) 0 0 (sI σ 13 0 52 0) 0)) 0 (sI σ 13 0 52 0) 0))) (e_M_tell (Int32.toInt64 (f_M_omits_67 a1 (gI (sI σ 13 0 52 0) 67 0 (Int32.toNatClampNeg a1)) (gI (sI σ 13 0 52 0) 52 0 (Int32.toNatClampNeg (gI (sI σ 13 0 52 0) 67 0 (Int32.toNatClampNeg a1)))) 0 0 (sI σ 13 0 52 0) 0 (n_M_omits_67 a1 (gI (sI σ 13 0 52 0) 67 0 (Int32.toNatClampNeg a1)) (gI (sI σ 13 0 52 0) 52 0 (Int32.toNatClampNeg (gI (sI σ 13 0 52 0) 67 0 (Int32.toNatClampNeg a1)))) 0 0 (sI σ 13 0 52 0) 0))) (sI (sI σ 13 0 52 0) 13 0 51 0))))))))
def p_M_omits (a1 : Int32) (σ : MSto) : Prop := (¬ ((v_M_in a1 0 7 (sI σ 13 0 52 0)) = 0) → (¬ ((v_M_has (gI (sI σ 13 0 52 0) 13 0 36) a1 (sI σ 13 0 52 0)) = 0) → ((vp_in a1 8) ∧ ((p_M_hasTerm (gI (sI σ 13 0 52 0) 67 0 (Int32.toNatClampNeg a1)) 1 (sI σ 13 0 52 0)) ∧ ((((v_M_hasTerm (gI (sI σ 13 0 52 0) 67 0 (Int32.toNatClampNeg a1)) 1 (sI σ 13 0 52 0)) = 0) → ((∀ i, i < (n_M_omits_67 a1 (gI (sI σ 13 0 52 0) 67 0 (Int32.toNatClampNeg a1)) (gI (sI σ 13 0 52 0) 13 0 2) 0 0 (sI σ 13 0 52 0) 0) → g_M_omits_67 a1 (gI (sI σ 13 0 52 0) 67 0 (Int32.toNatClampNeg a1)) (gI (sI σ 13 0 52 0) 13 0 2) 0 (0 + nI i) (sI σ 13 0 52 0) (f_M_omits_67 a1 (gI (sI σ 13 0 52 0) 67 0 (Int32.toNatClampNeg a1)) (gI (sI σ 13 0 52 0) 13 0 2) 0 0 (sI σ 13 0 52 0) 0 i) ∧ ¬ q_M_omits_67s a1 (gI (sI σ 13 0 52 0) 67 0 (Int32.toNatClampNeg a1)) (gI (sI σ 13 0 52 0) 13 0 2) 0 (0 + nI i) (sI σ 13 0 52 0) (f_M_omits_67 a1 (gI (sI σ 13 0 52 0) 67 0 (Int32.toNatClampNeg a1)) (gI (sI σ 13 0 52 0) 13 0 2) 0 0 (sI σ 13 0 52 0) 0 i) = 1) ∧ ((((gI (sI σ 13 0 52 0) 13 0 27) ≤ (0 + nI (n_M_omits_67 a1 (gI (sI σ 13 0 52 0) 67 0 (Int32.toNatClampNeg a1)) (gI (sI σ 13 0 52 0) 13 0 2) 0 0 (sI σ 13 0 52 0) 0))) → ((∀ i, i < (n_M_omits_119 a1 (gI (sI σ 13 0 52 0) 67 0 (Int32.toNatClampNeg a1)) (gI (sI σ 13 0 52 0) 13 0 2) (f_M_omits_67 a1 (gI (sI σ 13 0 52 0) 67 0 (Int32.toNatClampNeg a1)) (gI (sI σ 13 0 52 0) 13 0 2) 0 0 (sI σ 13 0 52 0) 0 (n_M_omits_67 a1 (gI (sI σ 13 0 52 0) 67 0 (Int32.toNatClampNeg a1)) (gI (sI σ 13 0 52 0) 13 0 2) 0 0 (sI σ 13 0 52 0) 0)) 0 (sI σ 13 0 52 0) 0) → g_M_omits_119 a1 (gI (sI σ 13 0 52 0) 67 0 (Int32.toNatClampNeg a1)) (gI (sI σ 13 0 52 0) 13 0 2) (f_M_omits_67 a1 (gI (sI σ 13 0 52 0) 67 0 (Int32.toNatClampNeg a1)) (gI (sI σ 13 0 52 0) 13 0 2) 0 0 (sI σ 13 0 52 0) 0 (n_M_omits_67 a1 (gI (sI σ 13 0 52 0) 67 0 (Int32.toNatClampNeg a1)) (gI (sI σ 13 0 52 0) 13 0 2) 0 0 (sI σ 13 0 52 0) 0)) (0 + nI i) (sI σ 13 0 52 0) (f_M_omits_119 a1 (gI (sI σ 13 0 52 0) 67 0 (Int32.toNatClampNeg a1)) (gI (sI σ 13 0 52 0) 13 0 2) (f_M_omits_67 a1 (gI (sI σ 13 0 52 0) 67 0 (Int32.toNatClampNeg a1)) (gI (sI σ 13 0 52 0) 13 0 2) 0 0 (sI σ 13 0 52 0) 0 (n_M_omits_67 a1 (gI (sI σ 13 0 52 0) 67 0 (Int32.toNatClampNeg a1)) (gI (sI σ 13 0 52 0) 13 0 2) 0 0 (sI σ 13 0 52 0) 0)) 0 (sI σ 13 0 52 0) 0 i) ∧ ¬ q_M_omits_119s a1 (gI (sI σ 13 0 52 0) 67 0 (Int32.toNatClampNeg a1)) (gI (sI σ 13 0 52 0) 13 0 2) (f_M_omits_67 a1 (gI (sI σ 13 0 52 0) 67 0 (Int32.toNatClampNeg a1)) (gI (sI σ 13 0 52 0) 13 0 2) 0 0 (sI σ 13 0 52 0) 0 (n_M_omits_67 a1 (gI (sI σ 13 0 52 0) 67 0 (Int32.toNatClampNeg a1)) (gI (sI σ 13 0 52 0) 13 0 2) 0 0 (sI σ 13 0 52 0) 0)) (0 + nI i) (sI σ 13 0 52 0) (f_M_omits_119 a1 (gI (sI σ 13 0 52 0) 67 0 (Int32.toNatClampNeg a1)) (gI (sI σ 13 0 52 0) 13 0 2) (f_M_omits_67 a1 (gI (sI σ 13 0 52 0) 67 0 (Int32.toNatClampNeg a1)) (gI (sI σ 13 0 52 0) 13 0 2) 0 0 (sI σ 13 0 52 0) 0 (n_M_omits_67 a1 (gI (sI σ 13 0 52 0) 67 0 (Int32.toNatClampNeg a1)) (gI (sI σ 13 0 52 0) 13 0 2) 0 0 (sI σ 13 0 52 0) 0)) 0 (sI σ 13 0 52 0) 0 i) = 1) ∧ ((((gI (sI σ 13 0 52 0) 13 0 10) ≤ (0 + nI (n_M_omits_119 a1 (gI (sI σ 13 0 52 0) 67 0 (Int32.toNatClampNeg a1)) (gI (sI σ 13 0 52 0) 13 0 2) (f_M_omits_67 a1 (gI (sI σ 13 0 52 0) 67 0 (Int32.toNatClampNeg a1)) (gI (sI σ 13 0 52 0) 13 0 2) 0 0 (sI σ 13 0 52 0) 0 (n_M_omits_67 a1 (gI (sI σ 13 0 52 0) 67 0 (Int32.toNatClampNeg a1)) (gI (sI σ 13 0 52 0) 13 0 2) 0 0 (sI σ 13 0 52 0) 0)) 0 (sI σ 13 0 52 0) 0))) → ((p_M_tell (Int32.toInt64 (f_M_omits_67 a1 (gI (sI σ 13 0 52 0) 67 0 (Int32.toNatClampNeg a1)) (gI (sI σ 13 0 52 0) 13 0 2) 0 0 (sI σ 13 0 52 0) 0 (n_M_omits_67 a1 (gI (sI σ 13 0 52 0) 67 0 (Int32.toNatClampNeg a1)) (gI (sI σ 13 0 52 0) 13 0 2) 0 0 (sI σ 13 0 52 0) 0))) (sI (sI σ 13 0 52 0) 13 0 51 0)) ∧ (p_M_tell (Int32.toInt64 (f_M_omits_119 a1 (gI (sI σ 13 0 52 0) 67 0 (Int32.toNatClampNeg a1)) (gI (sI σ 13 0 52 0) 13 0 2) (f_M_omits_67 a1 (gI (sI σ 13 0 52 0) 67 0 (Int32.toNatClampNeg a1)) (gI (sI σ 13 0 52 0) 13 0 2) 0 0 (sI σ 13 0 52 0) 0 (n_M_omits_67 a1 (gI (sI σ 13 0 52 0) 67 0 (Int32.toNatClampNeg a1)) (gI (sI σ 13 0 52 0) 13 0 2) 0 0 (sI σ 13 0 52 0) 0)) 0 (sI σ 13 0 52 0) 0 (n_M_omits_119 a1 (gI (sI σ 13 0 52 0) 67 0 (Int32.toNatClampNeg a1)) (gI (sI σ 13 0 52 0) 13 0 2) (f_M_omits_67 a1 (gI (sI σ 13 0 52 0) 67 0 (Int32.toNatClampNeg a1)) (gI (sI σ 13 0 52 0) 13 0 2) 0 0 (sI σ 13 0 52 0) 0 (n_M_omits_67 a1 (gI (sI σ 13 0 52 0) 67 0 (Int32.toNatClampNeg a1)) (gI (sI σ 13 0 52 0) 13 0 2) 0 0 (sI σ 13 0 52 0) 0)) 0 (sI σ 13 0 52 0) 0))) (e_M_tell (Int32.toInt64 (f_M_omits_67 a1 (gI (sI σ 13 0 52 0) 67 0 (Int32.toNatClampNeg a1)) (gI (sI σ 13 0 52 0) 13 0 2) 0 0 (sI σ 13 0 52 0) 0 (n_M_omits_67 a1 (gI (sI σ 13 0 52 0) 67 0 (Int32.toNatClampNeg a1)) (gI (sI σ 13 0 52 0) 13 0 2) 0 0 (sI σ 13 0 52 0) 0))) (sI (sI σ 13 0 52 0) 13 0 51 0))))) ∧ (¬ ((gI (sI σ 13 0 52 0) 13 0 10) ≤ (0 + nI (n_M_omits_119 a1 (gI (sI σ 13 0 52 0) 67 0 (Int32.toNatClampNeg a1)) (gI (sI σ 13 0 52 0) 13 0 2) (f_M_omits_67 a1 (gI (sI σ 13 0 52 0) 67 0 (Int32.toNatClampNeg a1)) (gI (sI σ 13 0 52 0) 13 0 2) 0 0 (sI σ 13 0 52 0) 0 (n_M_omits_67 a1 (gI (sI σ 13 0 52 0) 67 0 (Int32.toNatClampNeg a1)) (gI (sI σ 13 0 52 0) 13 0 2) 0 0 (sI σ 13 0 52 0) 0)) 0 (sI σ 13 0 52 0) 0))) → False)))) ∧ (¬ ((gI (sI σ 13 0 52 0) 13 0 27) ≤ (0 + nI (n_M_omits_67 a1 (gI (sI σ 13 0 52 0) 67 0 (Int32.toNatClampNeg a1)) (gI (sI σ 13 0 52 0) 13 0 2) 0 0 (sI σ 13 0 52 0) 0))) → False)))) ∧ (¬ ((v_M_hasTerm (gI (sI σ 13 0 52 0) 67 0 (Int32.toNatClampNeg a1)) 1 (sI σ 13 0 52 0)) = 0) → ((vp_in (gI (sI σ 13 0 52 0) 67 0 (Int32.toNatClampNeg a1)) 6) ∧ ((∀ i, i < (n_M_omits_67 a1 (gI (sI σ 13 0 52 0) 67 0 (Int32.toNatClampNeg a1)) (gI (sI σ 13 0 52 0) 52 0 (Int32.toNatClampNeg (gI (sI σ 13 0 52 0) 67 0 (Int32.toNatClampNeg a1)))) 0 0 (sI σ 13 0 52 0) 0) → g_M_omits_67 a1 (gI (sI σ 13 0 52 0) 67 0 (Int32.toNatClampNeg a1)) (gI (sI σ 13 0 52 0) 52 0 (Int32.toNatClampNeg (gI (sI σ 13 0 52 0) 67 0 (Int32.toNatClampNeg a1)))) 0 (0 + nI i) (sI σ 13 0 52 0) (f_M_omits_67 a1 (gI (sI σ 13 0 52 0) 67 0 (Int32.toNatClampNeg a1)) (gI (sI σ 13 0 52 0) 52 0 (Int32.toNatClampNeg (gI (sI σ 13 0 52 0) 67 0 (Int32.toNatClampNeg a1)))) 0 0 (sI σ 13 0 52 0) 0 i) ∧ ¬ q_M_omits_67s a1 (gI (sI σ 13 0 52 0) 67 0 (Int32.toNatClampNeg a1)) (gI (sI σ 13 0 52 0) 52 0 (Int32.toNatClampNeg (gI (sI σ 13 0 52 0) 67 0 (Int32.toNatClampNeg a1)))) 0 (0 + nI i) (sI σ 13 0 52 0) (f_M_omits_67 a1 (gI (sI σ 13 0 52 0) 67 0 (Int32.toNatClampNeg a1)) (gI (sI σ 13 0 52 0) 52 0 (Int32.toNatClampNeg (gI (sI σ 13 0 52 0) 67 0 (Int32.toNatClampNeg a1)))) 0 0 (sI σ 13 0 52 0) 0 i) = 1) ∧ ((((gI (sI σ 13 0 52 0) 13 0 27) ≤ (0 + nI (n_M_omits_67 a1 (gI (sI σ 13 0 52 0) 67 0 (Int32.toNatClampNeg a1)) (gI (sI σ 13 0 52 0) 52 0 (Int32.toNatClampNeg (gI (sI σ 13 0 52 0) 67 0 (Int32.toNatClampNeg a1)))) 0 0 (sI σ 13 0 52 0) 0))) → ((∀ i, i < (n_M_omits_119 a1 (gI (sI σ 13 0 52 0) 67 0 (Int32.toNatClampNeg a1)) (gI (sI σ 13 0 52 0) 52 0 (Int32.toNatClampNeg (gI (sI σ 13 0 52 0) 67 0 (Int32.toNatClampNeg a1)))) (f_M_omits_67 a1 (gI (sI σ 13 0 52 0) 67 0 (Int32.toNatClampNeg a1)) (gI (sI σ 13 0 52 0) 52 0 (Int32.toNatClampNeg (gI (sI σ 13 0 52 0) 67 0 (Int32.toNatClampNeg a1)))) 0 0 (sI σ 13 0 52 0) 0 (n_M_omits_67 a1 (gI (sI σ 13 0 52 0) 67 0 (Int32.toNatClampNeg a1)) (gI (sI σ 13 0 52 0) 52 0 (Int32.toNatClampNeg (gI (sI σ 13 0 52 0) 67 0 (Int32.toNatClampNeg a1)))) 0 0 (sI σ 13 0 52 0) 0)) 0 (sI σ 13 0 52 0) 0) → g_M_omits_119 a1 (gI (sI σ 13 0 52 0) 67 0 (Int32.toNatClampNeg a1)) (gI (sI σ 13 0 52 0) 52 0 (Int32.toNatClampNeg (gI (sI σ 13 0 52 0) 67 0 (Int32.toNatClampNeg a1)))) (f_M_omits_67 a1 (gI (sI σ 13 0 52 0) 67 0 (Int32.toNatClampNeg a1)) (gI (sI σ 13 0 52 0) 52 0 (Int32.toNatClampNeg (gI (sI σ 13 0 52 0) 67 0 (Int32.toNatClampNeg a1)))) 0 0 (sI σ 13 0 52 0) 0 (n_M_omits_67 a1 (gI (sI σ 13 0 52 0) 67 0 (Int32.toNatClampNeg a1)) (gI (sI σ 13 0 52 0) 52 0 (Int32.toNatClampNeg (gI (sI σ 13 0 52 0) 67 0 (Int32.toNatClampNeg a1)))) 0 0 (sI σ 13 0 52 0) 0)) (0 + nI i) (sI σ 13 0 52 0) (f_M_omits_119 a1 (gI (sI σ 13 0 52 0) 67 0 (Int32.toNatClampNeg a1)) (gI (sI σ 13 0 52 0) 52 0 (Int32.toNatClampNeg (gI (sI σ 13 0 52 0) 67 0 (Int32.toNatClampNeg a1)))) (f_M_omits_67 a1 (gI (sI σ 13 0 52 0) 67 0 (Int32.toNatClampNeg a1)) (gI (sI σ 13 0 52 0) 52 0 (Int32.toNatClampNeg (gI (sI σ 13 0 52 0) 67 0 (Int32.toNatClampNeg a1)))) 0 0 (sI σ 13 0 52 0) 0 (n_M_omits_67 a1 (gI (sI σ 13 0 52 0) 67 0 (Int32.toNatClampNeg a1)) (gI (sI σ 13 0 52 0) 52 0 (Int32.toNatClampNeg (gI (sI σ 13 0 52 0) 67 0 (Int32.toNatClampNeg a1)))) 0 0 (sI σ 13 0 52 0) 0)) 0 (sI σ 13 0 52 0) 0 i) ∧ ¬ q_M_omits_119s a1 (gI (sI σ 13 0 52 0) 67 0 (Int32.toNatClampNeg a1)) (gI (sI σ 13 0 52 0) 52 0 (Int32.toNatClampNeg (gI (sI σ 13 0 52 0) 67 0 (Int32.toNatClampNeg a1)))) (f_M_omits_67 a1 (gI (sI σ 13 0 52 0) 67 0 (Int32.toNatClampNeg a1)) (gI (sI σ 13 0 52 0) 52 0 (Int32.toNatClampNeg (gI (sI σ 13 0 52 0) 67 0 (Int32.toNatClampNeg a1)))) 0 0 (sI σ 13 0 52 0) 0 (n_M_omits_67 a1 (gI (sI σ 13 0 52 0) 67 0 (Int32.toNatClampNeg a1)) (gI (sI σ 13 0 52 0) 52 0 (Int32.toNatClampNeg (gI (sI σ 13 0 52 0) 67 0 (Int32.toNatClampNeg a1)))) 0 0 (sI σ 13 0 52 0) 0)) (0 + nI i) (sI σ 13 0 52 0) (f_M_omits_119 a1 (gI (sI σ 13 0 52 0) 67 0 (Int32.toNatClampNeg a1)) (gI (sI σ 13 0 52 0) 52 0 (Int32.toNatClampNeg (gI (sI σ 13 0 52 0) 67 0 (Int32.toNatClampNeg a1)))) (f_M_omits_67 a1 (gI (sI σ 13 0 52 0) 67 0 (Int32.toNatClampNeg a1)) (gI (sI σ 13 0 52 0) 52 0 (Int32.toNatClampNeg (gI (sI σ 13 0 52 0) 67 0 (Int32.toNatClampNeg a1)))) 0 0 (sI σ 13 0 52 0) 0 (n_M_omits_67 a1 (gI (sI σ 13 0 52 0) 67 0 (Int32.toNatClampNeg a1)) (gI (sI σ 13 0 52 0) 52 0 (Int32.toNatClampNeg (gI (sI σ 13 0 52 0) 67 0 (Int32.toNatClampNeg a1)))) 0 0 (sI σ 13 0 52 0) 0)) 0 (sI σ 13 0 52 0) 0 i) = 1) ∧ ((((gI (sI σ 13 0 52 0) 13 0 10) ≤ (0 + nI (n_M_omits_119 a1 (gI (sI σ 13 0 52 0) 67 0 (Int32.toNatClampNeg a1)) (gI (sI σ 13 0 52 0) 52 0 (Int32.toNatClampNeg (gI (sI σ 13 0 52 0) 67 0 (Int32.toNatClampNeg a1)))) (f_M_omits_67 a1 (gI (sI σ 13 0 52 0) 67 0 (Int32.toNatClampNeg a1)) (gI (sI σ 13 0 52 0) 52 0 (Int32.toNatClampNeg (gI (sI σ 13 0 52 0) 67 0 (Int32.toNatClampNeg a1)))) 0 0 (sI σ 13 0 52 0) 0 (n_M_omits_67 a1 (gI (sI σ 13 0 52 0) 67 0 (Int32.toNatClampNeg a1)) (gI (sI σ 13 0 52 0) 52 0 (Int32.toNatClampNeg (gI (sI σ 13 0 52 0) 67 0 (Int32.toNatClampNeg a1)))) 0 0 (sI σ 13 0 52 0) 0)) 0 (sI σ 13 0 52 0) 0))) → ((p_M_tell (Int32.toInt64 (f_M_omits_67 a1 (gI (sI σ 13 0 52 0) 67 0 (Int32.toNatClampNeg a1)) (gI (sI σ 13 0 52 0) 52 0 (Int32.toNatClampNeg (gI (sI σ 13 0 52 0) 67 0 (Int32.toNatClampNeg a1)))) 0 0 (sI σ 13 0 52 0) 0 (n_M_omits_67 a1 (gI (sI σ 13 0 52 0) 67 0 (Int32.toNatClampNeg a1)) (gI (sI σ 13 0 52 0) 52 0 (Int32.toNatClampNeg (gI (sI σ 13 0 52 0) 67 0 (Int32.toNatClampNeg a1)))) 0 0 (sI σ 13 0 52 0) 0))) (sI (sI σ 13 0 52 0) 13 0 51 0)) ∧ (p_M_tell (Int32.toInt64 (f_M_omits_119 a1 (gI (sI σ 13 0 52 0) 67 0 (Int32.toNatClampNeg a1)) (gI (sI σ 13 0 52 0) 52 0 (Int32.toNatClampNeg (gI (sI σ 13 0 52 0) 67 0 (Int32.toNatClampNeg a1)))) (f_M_omits_67 a1 (gI (sI σ 13 0 52 0) 67 0 (Int32.toNatClampNeg a1)) (gI (sI σ 13 0 52 0) 52 0 (Int32.toNatClampNeg (gI (sI σ 13 0 52 0) 67 0 (Int32.toNatClampNeg a1)))) 0 0 (sI σ 13 0 52 0) 0 (n_M_omits_67 a1 (gI (sI σ 13 0 52 0) 67 0 (Int32.toNatClampNeg a1)) (gI (sI σ 13 0 52 0) 52 0 (Int32.toNatClampNeg (gI (sI σ 13 0 52 0) 67 0 (Int32.toNatClampNeg a1)))) 0 0 (sI σ 13 0 52 0) 0)) 0 (sI σ 13 0 52 0) 0 (n_M_omits_119 a1 (gI (sI σ 13 0 52 0) 67 0 (Int32.toNatClampNeg a1)) (gI (sI σ 13 0 52 0) 52 0 (Int32.toNatClampNeg (gI (sI σ 13 0 52 0) 67 0 (Int32.toNatClampNeg a1)))) (f_M_omits_67 a1 (gI (sI σ 13 0 52 0) 67 0 (Int32.toNatClampNeg a1)) (gI (sI σ 13 0 52 0) 52 0 (Int32.toNatClampNeg (gI (sI σ 13 0 52 0) 67 0 (Int32.toNatClampNeg a1)))) 0 0 (sI σ 13 0 52 0) 0 (n_M_omits_67 a1 (gI (sI σ 13 0 52 0) 67 0 (Int32.toNatClampNeg a1)) (gI (sI σ 13 0 52 0) 52 0 (Int32.toNatClampNeg (gI (sI σ 13 0 52 0) 67 0 (Int32.toNatClampNeg a1)))) 0 0 (sI σ 13 0 52 0) 0)) 0 (sI σ 13 0 52 0) 0))) (e_M_tell (Int32.toInt64 (f_M_omits_67 a1 (gI (sI σ 13 0 52 0) 67 0 (Int32.toNatClampNeg a1)) (gI (sI σ 13 0 52 0) 52 0 (Int32.toNatClampNeg (gI (sI σ 13 0 52 0) 67 0 (Int32.toNatClampNeg a1)))) 0 0 (sI σ 13 0 52 0) 0 (n_M_omits_67 a1 (gI (sI σ 13 0 52 0) 67 0 (Int32.toNatClampNeg a1)) (gI (sI σ 13 0 52 0) 52 0 (Int32.toNatClampNeg (gI (sI σ 13 0 52 0) 67 0 (Int32.toNatClampNeg a1)))) 0 0 (sI σ 13 0 52 0) 0))) (sI (sI σ 13 0 52 0) 13 0 51 0))))) ∧ (¬ ((gI (sI σ 13 0 52 0) 13 0 10) ≤ (0 + nI (n_M_omits_119 a1 (gI (sI σ 13 0 52 0) 67 0 (Int32.toNatClampNeg a1)) (gI (sI σ 13 0 52 0) 52 0 (Int32.toNatClampNeg (gI (sI σ 13 0 52 0) 67 0 (Int32.toNatClampNeg a1)))) (f_M_omits_67 a1 (gI (sI σ 13 0 52 0) 67 0 (Int32.toNatClampNeg a1)) (gI (sI σ 13 0 52 0) 52 0 (Int32.toNatClampNeg (gI (sI σ 13 0 52 0) 67 0 (Int32.toNatClampNeg a1)))) 0 0 (sI σ 13 0 52 0) 0 (n_M_omits_67 a1 (gI (sI σ 13 0 52 0) 67 0 (Int32.toNatClampNeg a1)) (gI (sI σ 13 0 52 0) 52 0 (Int32.toNatClampNeg (gI (sI σ 13 0 52 0) 67 0 (Int32.toNatClampNeg a1)))) 0 0 (sI σ 13 0 52 0) 0)) 0 (sI σ 13 0 52 0) 0))) → False)))) ∧ (¬ ((gI (sI σ 13 0 52 0) 13 0 27) ≤ (0 + nI (n_M_omits_67 a1 (gI (sI σ 13 0 52 0) 67 0 (Int32.toNatClampNeg a1)) (gI (sI σ 13 0 52 0) 52 0 (Int32.toNatClampNeg (gI (sI σ 13 0 52 0) 67 0 (Int32.toNatClampNeg a1)))) 0 0 (sI σ 13 0 52 0) 0))) → False))))))))))
noncomputable def e_M_omits (a1 : Int32) (σ : MSto) : MSto := (if (v_M_in a1 0 7 (sI σ 13 0 52 0)) = 0 then (sI σ 13 0 52 0) else (if (v_M_has (gI (sI σ 13 0 52 0) 13 0 36) a1 (sI σ 13 0 52 0)) = 0 then (sI σ 13 0 52 0) else (if (v_M_hasTerm (gI (sI σ 13 0 52 0) 67 0 (Int32.toNatClampNeg a1)) 1 (sI σ 13 0 52 0)) = 0 then (e_M_tell (Int32.toInt64 (f_M_omits_119 a1 (gI (sI σ 13 0 52 0) 67 0 (Int32.toNatClampNeg a1)) (gI (sI σ 13 0 52 0) 13 0 2) (f_M_omits_67 a1 (gI (sI σ 13 0 52 0) 67 0 (Int32.toNatClampNeg a1)) (gI (sI σ 13 0 52 0) 13 0 2) 0 0 (sI σ 13 0 52 0) 0 (n_M_omits_67 a1 (gI (sI σ 13 0 52 0) 67 0 (Int32.toNatClampNeg a1)) (gI (sI σ 13 0 52 0) 13 0 2) 0 0 (sI σ 13 0 52 0) 0)) 0 (sI σ 13 0 52 0) 0 (n_M_omits_119 a1 (gI (sI σ 13 0 52 0) 67 0 (Int32.toNatClampNeg a1)) (gI (sI σ 13 0 52 0) 13 0 2) (f_M_omits_67 a1 (gI (sI σ 13 0 52 0) 67 0 (Int32.toNatClampNeg a1)) (gI (sI σ 13 0 52 0) 13 0 2) 0 0 (sI σ 13 0 52 0) 0 (n_M_omits_67 a1 (gI (sI σ 13 0 52 0) 67 0 (Int32.toNatClampNeg a1)) (gI (sI σ 13 0 52 0) 13 0 2) 0 0 (sI σ 13 0 52 0) 0)) 0 (sI σ 13 0 52 0) 0))) (e_M_tell (Int32.toInt64 (f_M_omits_67 a1 (gI (sI σ 13 0 52 0) 67 0 (Int32.toNatClampNeg a1)) (gI (sI σ 13 0 52 0) 13 0 2) 0 0 (sI σ 13 0 52 0) 0 (n_M_omits_67 a1 (gI (sI σ 13 0 52 0) 67 0 (Int32.toNatClampNeg a1)) (gI (sI σ 13 0 52 0) 13 0 2) 0 0 (sI σ 13 0 52 0) 0))) (sI (sI σ 13 0 52 0) 13 0 51 0))) else (e_M_tell (Int32.toInt64 (f_M_omits_119 a1 (gI (sI σ 13 0 52 0) 67 0 (Int32.toNatClampNeg a1)) (gI (sI σ 13 0 52 0) 52 0 (Int32.toNatClampNeg (gI (sI σ 13 0 52 0) 67 0 (Int32.toNatClampNeg a1)))) (f_M_omits_67 a1 (gI (sI σ 13 0 52 0) 67 0 (Int32.toNatClampNeg a1)) (gI (sI σ 13 0 52 0) 52 0 (Int32.toNatClampNeg (gI (sI σ 13 0 52 0) 67 0 (Int32.toNatClampNeg a1)))) 0 0 (sI σ 13 0 52 0) 0 (n_M_omits_67 a1 (gI (sI σ 13 0 52 0) 67 0 (Int32.toNatClampNeg a1)) (gI (sI σ 13 0 52 0) 52 0 (Int32.toNatClampNeg (gI (sI σ 13 0 52 0) 67 0 (Int32.toNatClampNeg a1)))) 0 0 (sI σ 13 0 52 0) 0)) 0 (sI σ 13 0 52 0) 0 (n_M_omits_119 a1 (gI (sI σ 13 0 52 0) 67 0 (Int32.toNatClampNeg a1)) (gI (sI σ 13 0 52 0) 52 0 (Int32.toNatClampNeg (gI (sI σ 13 0 52 0) 67 0 (Int32.toNatClampNeg a1)))) (f_M_omits_67 a1 (gI (sI σ 13 0 52 0) 67 0 (Int32.toNatClampNeg a1)) (gI (sI σ 13 0 52 0) 52 0 (Int32.toNatClampNeg (gI (sI σ 13 0 52 0) 67 0 (Int32.toNatClampNeg a1)))) 0 0 (sI σ 13 0 52 0) 0 (n_M_omits_67 a1 (gI (sI σ 13 0 52 0) 67 0 (Int32.toNatClampNeg a1)) (gI (sI σ 13 0 52 0) 52 0 (Int32.toNatClampNeg (gI (sI σ 13 0 52 0) 67 0 (Int32.toNatClampNeg a1)))) 0 0 (sI σ 13 0 52 0) 0)) 0 (sI σ 13 0 52 0) 0))) (e_M_tell (Int32.toInt64 (f_M_omits_67 a1 (gI (sI σ 13 0 52 0) 67 0 (Int32.toNatClampNeg a1)) (gI (sI σ 13 0 52 0) 52 0 (Int32.toNatClampNeg (gI (sI σ 13 0 52 0) 67 0 (Int32.toNatClampNeg a1)))) 0 0 (sI σ 13 0 52 0) 0 (n_M_omits_67 a1 (gI (sI σ 13 0 52 0) 67 0 (Int32.toNatClampNeg a1)) (gI (sI σ 13 0 52 0) 52 0 (Int32.toNatClampNeg (gI (sI σ 13 0 52 0) 67 0 (Int32.toNatClampNeg a1)))) 0 0 (sI σ 13 0 52 0) 0))) (sI (sI σ 13 0 52 0) 13 0 51 0))))))
noncomputable def S_M_omits : List MV → MSto → Option Prop × Option MV × MSto := fun as σ => match as with
  | [.inr (.inr (some (13, 0))), .inl a0] => (some (p_M_omits a0 σ), some (mI (v_M_omits a0 σ)), e_M_omits a0 σ)
  | _ => (some False, none, σ)
noncomputable def E_M_omits : MEnt := ((1, 1, 13), (4, 100, 0, 0), S_M_omits, ((⟨"ClothWithManModel", "omits", "(I)I"⟩ : MethodName), prog_14_method_100_code, 7, (some .int)))

def T_M_omits : Nat → Option (Instr × Nat × List Nat) := fun k => bif Nat.blt k 234 then (bif Nat.blt k 110 then (bif Nat.blt k 54 then (bif Nat.blt k 28 then (bif Nat.blt k 12 then (bif Nat.blt k 5 then (bif Nat.blt k 1 then (bif Nat.beq k 0 then some (.aload_n 0, 1, []) else none) else (bif Nat.blt k 2 then (bif Nat.beq k 1 then some (.iconst 0, 2, []) else none) else (bif Nat.beq k 2 then some (.putfield 161, 5, []) else none))) else (bif Nat.blt k 7 then (bif Nat.blt k 6 then (bif Nat.beq k 5 then some (.iload_n 1, 6, []) else none) else (bif Nat.beq k 6 then some (.iconst 0, 7, []) else none)) else (bif Nat.blt k 9 then (bif Nat.beq k 7 then some (.bipush 7, 9, []) else none) else (bif Nat.beq k 9 then some (.invokestatic 181, 12, []) else none)))) else (bif Nat.blt k 20 then (bif Nat.blt k 16 then (bif Nat.blt k 15 then (bif Nat.beq k 12 then some (.ifCond .eq 14, 15, [26]) else none) else (bif Nat.beq k 15 then some (.aload_n 0, 16, []) else none)) else (bif Nat.blt k 19 then (bif Nat.beq k 16 then some (.getfield 440, 19, []) else none) else (bif Nat.beq k 19 then some (.iload_n 1, 20, []) else none))) else (bif Nat.blt k 26 then (bif Nat.blt k 23 then (bif Nat.beq k 20 then some (.invokestatic 301, 23, []) else none) else (bif Nat.beq k 23 then some (.ifCond .ne 5, 26, [28]) else none)) else (bif Nat.blt k 27 then (bif Nat.beq k 26 then some (.iconst (-1), 27, []) else none) else (bif Nat.beq k 27 then some (.ireturn, 28, []) else none))))) else (bif Nat.blt k 38 then (bif Nat.blt k 34 then (bif Nat.blt k 32 then (bif Nat.blt k 29 then (bif Nat.beq k 28 then some (.aload_n 0, 29, []) else none) else (bif Nat.beq k 29 then some (.getfield 96, 32, []) else none)) else (bif Nat.blt k 33 then (bif Nat.beq k 32 then some (.iload_n 1, 33, []) else none) else (bif Nat.beq k 33 then some (.iaload, 34, []) else none))) else (bif Nat.blt k 36 then (bif Nat.blt k 35 then (bif Nat.beq k 34 then some (.istore_n 2, 35, []) else none) else (bif Nat.beq k 35 then some (.aload_n 0, 36, []) else none)) else (bif Nat.blt k 37 then (bif Nat.beq k 36 then some (.iload_n 2, 37, []) else none) else (bif Nat.beq k 37 then some (.iconst 1, 38, []) else none)))) else (bif Nat.blt k 48 then (bif Nat.blt k 44 then (bif Nat.blt k 41 then (bif Nat.beq k 38 then some (.invokevirtual 384, 41, []) else none) else (bif Nat.beq k 41 then some (.ifCond .eq 12, 44, [53]) else none)) else (bif Nat.blt k 45 then (bif Nat.beq k 44 then some (.aload_n 0, 45, []) else none) else (bif Nat.beq k 45 then some (.getfield 50, 48, []) else none))) else (bif Nat.blt k 50 then (bif Nat.blt k 49 then (bif Nat.beq k 48 then some (.iload_n 2, 49, []) else none) else (bif Nat.beq k 49 then some (.iaload, 50, []) else none)) else (bif Nat.blt k 53 then (bif Nat.beq k 50 then some (.goto 7, 53, [57]) else none) else (bif Nat.beq k 53 then some (.aload_n 0, 54, []) else none)))))) else (bif Nat.blt k 81 then (bif Nat.blt k 65 then (bif Nat.blt k 59 then (bif Nat.blt k 57 then (bif Nat.beq k 54 then some (.getfield 17, 57, []) else none) else (bif Nat.blt k 58 then (bif Nat.beq k 57 then some (.istore_n 3, 58, []) else none) else (bif Nat.beq k 58 then some (.iconst 0, 59, []) else none))) else (bif Nat.blt k 62 then (bif Nat.blt k 61 then (bif Nat.beq k 59 then some (.istore 4, 61, []) else none) else (bif Nat.beq k 61 then some (.iconst 0, 62, []) else none)) else (bif Nat.blt k 64 then (bif Nat.beq k 62 then some (.istore 5, 64, []) else none) else (bif Nat.beq k 64 then some (.iconst 0, 65, []) else none)))) else (bif Nat.blt k 73 then (bif Nat.blt k 69 then (bif Nat.blt k 67 then (bif Nat.beq k 65 then some (.istore 6, 67, []) else none) else (bif Nat.beq k 67 then some (.iload 6, 69, []) else none)) else (bif Nat.blt k 70 then (bif Nat.beq k 69 then some (.aload_n 0, 70, []) else none) else (bif Nat.beq k 70 then some (.getfield 394, 73, []) else none))) else (bif Nat.blt k 77 then (bif Nat.blt k 76 then (bif Nat.beq k 73 then some (.if_icmp .ge 43, 76, [116]) else none) else (bif Nat.beq k 76 then some (.aload_n 0, 77, []) else none)) else (bif Nat.blt k 80 then (bif Nat.beq k 77 then some (.getfield 99, 80, []) else none) else (bif Nat.beq k 80 then some (.iload_n 1, 81, []) else none))))) else (bif Nat.blt k 97 then (bif Nat.blt k 90 then (bif Nat.blt k 84 then (bif Nat.blt k 82 then (bif Nat.beq k 81 then some (.iaload, 82, []) else none) else (bif Nat.beq k 82 then some (.iload 6, 84, []) else none)) else (bif Nat.blt k 87 then (bif Nat.beq k 84 then some (.invokestatic 301, 87, []) else none) else (bif Nat.beq k 87 then some (.ifCond .ne 23, 90, [110]) else none))) else (bif Nat.blt k 93 then (bif Nat.blt k 91 then (bif Nat.beq k 90 then some (.aload_n 0, 91, []) else none) else (bif Nat.beq k 91 then some (.iload 6, 93, []) else none)) else (bif Nat.blt k 94 then (bif Nat.beq k 93 then some (.iload_n 3, 94, []) else none) else (bif Nat.beq k 94 then some (.invokevirtual 397, 97, []) else none)))) else (bif Nat.blt k 104 then (bif Nat.blt k 101 then (bif Nat.blt k 98 then (bif Nat.beq k 97 then some (.iconst 5, 98, []) else none) else (bif Nat.beq k 98 then some (.if_icmp .ge 12, 101, [110]) else none)) else (bif Nat.blt k 103 then (bif Nat.beq k 101 then some (.iload 4, 103, []) else none) else (bif Nat.beq k 103 then some (.iconst 1, 104, []) else none))) else (bif Nat.blt k 107 then (bif Nat.blt k 106 then (bif Nat.beq k 104 then some (.iload 6, 106, []) else none) else (bif Nat.beq k 106 then some (.ishl, 107, []) else none)) else (bif Nat.blt k 108 then (bif Nat.beq k 107 then some (.ior, 108, []) else none) else (bif Nat.beq k 108 then some (.istore 4, 110, []) else none))))))) else (bif Nat.blt k 173 then (bif Nat.blt k 142 then (bif Nat.blt k 125 then (bif Nat.blt k 117 then (bif Nat.blt k 113 then (bif Nat.beq k 110 then some (.iinc 6 1, 113, []) else none) else (bif Nat.blt k 116 then (bif Nat.beq k 113 then some (.goto (-46), 116, [67]) else none) else (bif Nat.beq k 116 then some (.iconst 0, 117, []) else none))) else (bif Nat.blt k 121 then (bif Nat.blt k 119 then (bif Nat.beq k 117 then some (.istore 6, 119, []) else none) else (bif Nat.beq k 119 then some (.iload 6, 121, []) else none)) else (bif Nat.blt k 122 then (bif Nat.beq k 121 then some (.aload_n 0, 122, []) else none) else (bif Nat.beq k 122 then some (.getfield 185, 125, []) else none)))) else (bif Nat.blt k 133 then (bif Nat.blt k 129 then (bif Nat.blt k 128 then (bif Nat.beq k 125 then some (.if_icmp .ge 78, 128, [203]) else none) else (bif Nat.beq k 128 then some (.aload_n 0, 129, []) else none)) else (bif Nat.blt k 132 then (bif Nat.beq k 129 then some (.getfield 102, 132, []) else none) else (bif Nat.beq k 132 then some (.iload_n 1, 133, []) else none))) else (bif Nat.blt k 136 then (bif Nat.blt k 134 then (bif Nat.beq k 133 then some (.iaload, 134, []) else none) else (bif Nat.beq k 134 then some (.iload 6, 136, []) else none)) else (bif Nat.blt k 139 then (bif Nat.beq k 136 then some (.invokestatic 301, 139, []) else none) else (bif Nat.beq k 139 then some (.ifCond .ne 58, 142, [197]) else none))))) else (bif Nat.blt k 161 then (bif Nat.blt k 151 then (bif Nat.blt k 146 then (bif Nat.blt k 143 then (bif Nat.beq k 142 then some (.aload_n 0, 143, []) else none) else (bif Nat.beq k 143 then some (.getfield 277, 146, []) else none)) else (bif Nat.blt k 148 then (bif Nat.beq k 146 then some (.iload 6, 148, []) else none) else (bif Nat.beq k 148 then some (.invokestatic 301, 151, []) else none))) else (bif Nat.blt k 157 then (bif Nat.blt k 154 then (bif Nat.beq k 151 then some (.ifCond .ne 6, 154, [157]) else none) else (bif Nat.beq k 154 then some (.goto 43, 157, [197]) else none)) else (bif Nat.blt k 158 then (bif Nat.beq k 157 then some (.aload_n 0, 158, []) else none) else (bif Nat.beq k 158 then some (.getfield 47, 161, []) else none)))) else (bif Nat.blt k 166 then (bif Nat.blt k 164 then (bif Nat.blt k 163 then (bif Nat.beq k 161 then some (.iload 6, 163, []) else none) else (bif Nat.beq k 163 then some (.iaload, 164, []) else none)) else (bif Nat.blt k 165 then (bif Nat.beq k 164 then some (.i2l, 165, []) else none) else (bif Nat.beq k 165 then some (.aload_n 0, 166, []) else none))) else (bif Nat.blt k 169 then (bif Nat.blt k 167 then (bif Nat.beq k 166 then some (.iload_n 2, 167, []) else none) else (bif Nat.beq k 167 then some (.iload 6, 169, []) else none)) else (bif Nat.blt k 170 then (bif Nat.beq k 169 then some (.iload_n 3, 170, []) else none) else (bif Nat.beq k 170 then some (.invokevirtual 391, 173, []) else none)))))) else (bif Nat.blt k 204 then (bif Nat.blt k 190 then (bif Nat.blt k 180 then (bif Nat.blt k 175 then (bif Nat.blt k 174 then (bif Nat.beq k 173 then some (.i2l, 174, []) else none) else (bif Nat.beq k 174 then some (.aload_n 0, 175, []) else none)) else (bif Nat.blt k 177 then (bif Nat.beq k 175 then some (.iload 6, 177, []) else none) else (bif Nat.beq k 177 then some (.invokevirtual 285, 180, []) else none))) else (bif Nat.blt k 185 then (bif Nat.blt k 183 then (bif Nat.beq k 180 then some (.invokestatic 292, 183, []) else none) else (bif Nat.beq k 183 then some (.bipush 32, 185, []) else none)) else (bif Nat.blt k 188 then (bif Nat.beq k 185 then some (.if_icmp .ge 12, 188, [197]) else none) else (bif Nat.beq k 188 then some (.iload 5, 190, []) else none)))) else (bif Nat.blt k 195 then (bif Nat.blt k 193 then (bif Nat.blt k 191 then (bif Nat.beq k 190 then some (.iconst 1, 191, []) else none) else (bif Nat.beq k 191 then some (.iload 6, 193, []) else none)) else (bif Nat.blt k 194 then (bif Nat.beq k 193 then some (.ishl, 194, []) else none) else (bif Nat.beq k 194 then some (.ior, 195, []) else none))) else (bif Nat.blt k 200 then (bif Nat.blt k 197 then (bif Nat.beq k 195 then some (.istore 5, 197, []) else none) else (bif Nat.beq k 197 then some (.iinc 6 1, 200, []) else none)) else (bif Nat.blt k 203 then (bif Nat.beq k 200 then some (.goto (-81), 203, [119]) else none) else (bif Nat.beq k 203 then some (.aload_n 0, 204, []) else none))))) else (bif Nat.blt k 218 then (bif Nat.blt k 211 then (bif Nat.blt k 208 then (bif Nat.blt k 205 then (bif Nat.beq k 204 then some (.iconst 0, 205, []) else none) else (bif Nat.beq k 205 then some (.putfield 164, 208, []) else none)) else (bif Nat.blt k 209 then (bif Nat.beq k 208 then some (.aload_n 0, 209, []) else none) else (bif Nat.beq k 209 then some (.iload 4, 211, []) else none))) else (bif Nat.blt k 215 then (bif Nat.blt k 212 then (bif Nat.beq k 211 then some (.i2l, 212, []) else none) else (bif Nat.beq k 212 then some (.invokevirtual 177, 215, []) else none)) else (bif Nat.blt k 216 then (bif Nat.beq k 215 then some (.aload_n 0, 216, []) else none) else (bif Nat.beq k 216 then some (.iload 5, 218, []) else none)))) else (bif Nat.blt k 227 then (bif Nat.blt k 222 then (bif Nat.blt k 219 then (bif Nat.beq k 218 then some (.i2l, 219, []) else none) else (bif Nat.beq k 219 then some (.invokevirtual 177, 222, []) else none)) else (bif Nat.blt k 224 then (bif Nat.beq k 222 then some (.iload 4, 224, []) else none) else (bif Nat.beq k 224 then some (.invokestatic 296, 227, []) else none))) else (bif Nat.blt k 232 then (bif Nat.blt k 229 then (bif Nat.beq k 227 then some (.iload 5, 229, []) else none) else (bif Nat.beq k 229 then some (.invokestatic 296, 232, []) else none)) else (bif Nat.blt k 233 then (bif Nat.beq k 232 then some (.iadd, 233, []) else none) else (bif Nat.beq k 233 then some (.ireturn, 234, []) else none)))))))) else none
noncomputable def P_M_omits : MP := (T_M_omits, (fun k => mLook k [(17, (13, 2, .int, false)), (47, (13, 16, (.array .int), true)), (50, (13, 18, (.array .int), true)), (96, (13, 37, (.array .int), true)), (99, (13, 38, (.array .int), true)), (102, (13, 39, (.array .int), true)), (161, (13, 52, .int, false)), (164, (13, 51, .int, false)), (185, (13, 10, .int, false)), (277, (13, 15, .int, false)), (394, (13, 27, .int, false)), (440, (13, 36, .int, false))]), (fun k => mLook k []), (fun k => mLook k [(177, E_M_tell), (181, E_M_in), (285, E_M_spanOf), (292, E_M_likenessOf), (296, E_In_bitCount), (301, E_M_has), (384, E_M_hasTerm), (391, E_M_wouldOf), (397, E_M_fitOf)]), (fun k => mLook k []), (fun k => mLook k []), (fun k => mLook k []), (fun k => mLook k [(67, [true, true, true, true, true, true, true]), (119, [true, true, true, true, true, true, true])]), (fun k => [27, 233].any (Nat.beq k)), (4, 100, 0, 0), false, (fun _ => none))
set_option maxRecDepth 100000 in
set_option maxHeartbeats 4000000 in
theorem q_M_omits_e (a1 : Int32) (σ : MSto) (n : Nat) : mexe KT P_M_omits (n + 1) (0, [some (mR 13 0), some (mI a1), none, none, none, none, none], [], σ, 0, 0) = mIf ((v_M_in a1 0 7 (sI σ 13 0 52 0)) = 0) (some (27, [], [(mI (-1))], (sI σ 13 0 52 0), 0, 0)) (mIf ((v_M_has (gI (sI σ 13 0 52 0) 13 0 36) a1 (sI σ 13 0 52 0)) = 0) (some (27, [], [(mI (-1))], (sI σ 13 0 52 0), 0, 0)) (mG (vp_in a1 8) (mG (p_M_hasTerm (gI (sI σ 13 0 52 0) 67 0 (Int32.toNatClampNeg a1)) 1 (sI σ 13 0 52 0)) (mIf ((v_M_hasTerm (gI (sI σ 13 0 52 0) 67 0 (Int32.toNatClampNeg a1)) 1 (sI σ 13 0 52 0)) = 0) (mexe KT P_M_omits n (67, [some (mR 13 0), some (mI a1), some (mI (gI (sI σ 13 0 52 0) 67 0 (Int32.toNatClampNeg a1))), some (mI (gI (sI σ 13 0 52 0) 13 0 2)), some (mI 0), some (mI 0), some (mI 0)], [], (sI σ 13 0 52 0), 0, 0)) (mG (vp_in (gI (sI σ 13 0 52 0) 67 0 (Int32.toNatClampNeg a1)) 6) (mexe KT P_M_omits n (67, [some (mR 13 0), some (mI a1), some (mI (gI (sI σ 13 0 52 0) 67 0 (Int32.toNatClampNeg a1))), some (mI (gI (sI σ 13 0 52 0) 52 0 (Int32.toNatClampNeg (gI (sI σ 13 0 52 0) 67 0 (Int32.toNatClampNeg a1))))), some (mI 0), some (mI 0), some (mI 0)], [], (sI σ 13 0 52 0), 0, 0))))))) := rfl
set_option maxRecDepth 100000 in
set_option maxHeartbeats 4000000 in
theorem q_M_omits_67 (x1 : Int32) (x2 : Int32) (x3 : Int32) (x4 : Int32) (x5 : Int32) (x6 : Int32) (σ : MSto) (n : Nat) : mexe KT P_M_omits (n + 1) (67, [some (mR 13 0), some (mI x1), some (mI x2), some (mI x3), some (mI x4), some (mI x5), some (mI x6)], [], σ, 0, 0) = mIf ((gI σ 13 0 27) ≤ x6) (mexe KT P_M_omits n (119, [some (mR 13 0), some (mI x1), some (mI x2), some (mI x3), some (mI x4), some (mI x5), some (mI 0)], [], σ, 0, 0)) (mG (vp_in x1 8) (mIf ((v_M_has (gI σ 68 0 (Int32.toNatClampNeg x1)) x6 σ) = 0) (mG (p_M_fitOf x6 x3 σ) (mIf (5 ≤ (v_M_fitOf x6 x3 σ)) (mexe KT P_M_omits n (67, [some (mR 13 0), some (mI x1), some (mI x2), some (mI x3), some (mI x4), some (mI x5), some (mI (x6 + 1))], [], σ, 0, 0)) (mexe KT P_M_omits n (67, [some (mR 13 0), some (mI x1), some (mI x2), some (mI x3), some (mI (x4 ||| ((1 : Int32) <<< (x6 &&& 31)))), some (mI x5), some (mI (x6 + 1))], [], σ, 0, 0)))) (mexe KT P_M_omits n (67, [some (mR 13 0), some (mI x1), some (mI x2), some (mI x3), some (mI x4), some (mI x5), some (mI (x6 + 1))], [], σ, 0, 0)))) := rfl
set_option maxRecDepth 100000 in
set_option maxHeartbeats 4000000 in
theorem q_M_omits_119 (x1 : Int32) (x2 : Int32) (x3 : Int32) (x4 : Int32) (x5 : Int32) (x6 : Int32) (σ : MSto) (n : Nat) : mexe KT P_M_omits (n + 1) (119, [some (mR 13 0), some (mI x1), some (mI x2), some (mI x3), some (mI x4), some (mI x5), some (mI x6)], [], σ, 0, 0) = mIf ((gI σ 13 0 10) ≤ x6) (mG (p_M_tell (Int32.toInt64 x4) (sI σ 13 0 51 0)) (mG (p_M_tell (Int32.toInt64 x5) (e_M_tell (Int32.toInt64 x4) (sI σ 13 0 51 0))) (some (233, [], [(mI ((v_In_bitCount x4 (e_M_tell (Int32.toInt64 x5) (e_M_tell (Int32.toInt64 x4) (sI σ 13 0 51 0)))) + (v_In_bitCount x5 (e_M_tell (Int32.toInt64 x5) (e_M_tell (Int32.toInt64 x4) (sI σ 13 0 51 0))))))], (e_M_tell (Int32.toInt64 x5) (e_M_tell (Int32.toInt64 x4) (sI σ 13 0 51 0))), 0, 0)))) (mG (vp_in x1 8) (mIf ((v_M_has (gI σ 69 0 (Int32.toNatClampNeg x1)) x6 σ) = 0) (mIf ((v_M_has (gI σ 13 0 15) x6 σ) = 0) (mexe KT P_M_omits n (119, [some (mR 13 0), some (mI x1), some (mI x2), some (mI x3), some (mI x4), some (mI x5), some (mI (x6 + 1))], [], σ, 0, 0)) (mG (vp_in x6 12) (mG (p_M_wouldOf x2 x6 x3 σ) (mG (p_M_spanOf x6 σ) (mG (p_M_likenessOf (Int32.toInt64 (gI σ 51 0 (Int32.toNatClampNeg x6))) (Int32.toInt64 (v_M_wouldOf x2 x6 x3 σ)) (v_M_spanOf x6 σ) σ) (mIf (32 ≤ (v_M_likenessOf (Int32.toInt64 (gI σ 51 0 (Int32.toNatClampNeg x6))) (Int32.toInt64 (v_M_wouldOf x2 x6 x3 σ)) (v_M_spanOf x6 σ) σ)) (mexe KT P_M_omits n (119, [some (mR 13 0), some (mI x1), some (mI x2), some (mI x3), some (mI x4), some (mI x5), some (mI (x6 + 1))], [], σ, 0, 0)) (mexe KT P_M_omits n (119, [some (mR 13 0), some (mI x1), some (mI x2), some (mI x3), some (mI x4), some (mI (x5 ||| ((1 : Int32) <<< (x6 &&& 31)))), some (mI (x6 + 1))], [], σ, 0, 0)))))))) (mexe KT P_M_omits n (119, [some (mR 13 0), some (mI x1), some (mI x2), some (mI x3), some (mI x4), some (mI x5), some (mI (x6 + 1))], [], σ, 0, 0)))) := rfl
set_option maxRecDepth 100000 in
theorem lt_M_omits_119 {Post : MST → Prop} (x1 : Int32) (x2 : Int32) (x3 : Int32) (x4 : Int32) (c : Int32) (σ : MSto) (s : Int32) (hp : g_M_omits_119 x1 x2 x3 x4 c σ s) (hq : ¬ q_M_omits_119s x1 x2 x3 x4 c σ s = 1) (hn : ∀ r, t_M_omits_119 x1 x2 x3 x4 c σ s = r → mW1 P_M_omits (119, [some (mR 13 0), some (mI x1), some (mI x2), some (mI x3), some (mI x4), some (mI r), some (mI (c + 1))], [], σ, 0, 0) Post) : mW1 P_M_omits (119, [some (mR 13 0), some (mI x1), some (mI x2), some (mI x3), some (mI x4), some (mI s), some (mI c)], [], σ, 0, 0) Post := by
  unfold g_M_omits_119 at hp
  refine mW1_eq (q_M_omits_119 _ _ _ _ _ _ _) ?_
  refine mTr_if (fun h0 => ?_) (fun h0 => ?_)
  · skip
    exact absurd (if_pos h0) hq
  · skip
    have hp := hp h0
    refine mTr_g hp.1 ?_
    have hp := hp.2
    refine mTr_if (fun h1 => ?_) (fun h1 => ?_)
    · skip
      have hp := hp h1
      refine mTr_if (fun h2 => ?_) (fun h2 => ?_)
      · skip
        exact mTr_k (hn s ((if_neg h0).trans ((if_pos h1).trans (if_pos h2))))
      · skip
        have hp := hp h2
        refine mTr_g hp.1 ?_
        have hp := hp.2
        refine mTr_g hp.1 ?_
        have hp := hp.2
        refine mTr_g hp.1 ?_
        have hp := hp.2
        refine mTr_g hp ?_
        refine mTr_if (fun h3 => ?_) (fun h3 => ?_)
        · skip
          exact mTr_k (hn s ((if_neg h0).trans ((if_pos h1).trans ((if_neg h2).trans (if_pos h3)))))
        · skip
          exact mTr_k (hn (s ||| ((1 : Int32) <<< (c &&& 31))) ((if_neg h0).trans ((if_pos h1).trans ((if_neg h2).trans (if_neg h3)))))
    · skip
      exact mTr_k (hn s ((if_neg h0).trans (if_neg h1)))
theorem lp_M_omits_119 {Post : MST → Prop} (x1 : Int32) (x2 : Int32) (x3 : Int32) (x4 : Int32) (c0 : Int32) (σ : MSto) (s0 : Int32) (N : Nat) (hb : ∀ i, i < N → g_M_omits_119 x1 x2 x3 x4 (c0 + nI i) σ (f_M_omits_119 x1 x2 x3 x4 c0 σ s0 i) ∧ ¬ q_M_omits_119s x1 x2 x3 x4 (c0 + nI i) σ (f_M_omits_119 x1 x2 x3 x4 c0 σ s0 i) = 1) (h : mW1 P_M_omits (119, [some (mR 13 0), some (mI x1), some (mI x2), some (mI x3), some (mI x4), some (mI (f_M_omits_119 x1 x2 x3 x4 c0 σ s0 N)), some (mI (c0 + nI N))], [], σ, 0, 0) Post) : mW1 P_M_omits (119, [some (mR 13 0), some (mI x1), some (mI x2), some (mI x3), some (mI x4), some (mI s0), some (mI c0)], [], σ, 0, 0) Post := by
  refine mW1_st (mW1_loop (fun i => (119, [some (mR 13 0), some (mI x1), some (mI x2), some (mI x3), some (mI x4), some (mI (f_M_omits_119 x1 x2 x3 x4 c0 σ s0 i)), some (mI (c0 + nI i))], [], σ, 0, 0)) N (fun i hlt hn => ?_) h) (by rw [show nI 0 = 0 from rfl, Int32.add_zero] <;> rfl)
  refine lt_M_omits_119 x1 x2 x3 x4 _ σ _ (hb i hlt).1 (hb i hlt).2 (fun r hr => ?_)
  rw [Int32.add_assoc, nI_s]
  subst hr
  exact hn
set_option maxRecDepth 100000 in
theorem lt_M_omits_67 {Post : MST → Prop} (x1 : Int32) (x2 : Int32) (x3 : Int32) (x5 : Int32) (c : Int32) (σ : MSto) (s : Int32) (hp : g_M_omits_67 x1 x2 x3 x5 c σ s) (hq : ¬ q_M_omits_67s x1 x2 x3 x5 c σ s = 1) (hn : ∀ r, t_M_omits_67 x1 x2 x3 x5 c σ s = r → mW1 P_M_omits (67, [some (mR 13 0), some (mI x1), some (mI x2), some (mI x3), some (mI r), some (mI x5), some (mI (c + 1))], [], σ, 0, 0) Post) : mW1 P_M_omits (67, [some (mR 13 0), some (mI x1), some (mI x2), some (mI x3), some (mI s), some (mI x5), some (mI c)], [], σ, 0, 0) Post := by
  unfold g_M_omits_67 at hp
  refine mW1_eq (q_M_omits_67 _ _ _ _ _ _ _) ?_
  refine mTr_if (fun h0 => ?_) (fun h0 => ?_)
  · skip
    exact absurd (if_pos h0) hq
  · skip
    have hp := hp h0
    refine mTr_g hp.1 ?_
    have hp := hp.2
    refine mTr_if (fun h1 => ?_) (fun h1 => ?_)
    · skip
      have hp := hp h1
      refine mTr_g hp ?_
      refine mTr_if (fun h2 => ?_) (fun h2 => ?_)
      · skip
        exact mTr_k (hn s ((if_neg h0).trans ((if_pos h1).trans (if_pos h2))))
      · skip
        exact mTr_k (hn (s ||| ((1 : Int32) <<< (c &&& 31))) ((if_neg h0).trans ((if_pos h1).trans (if_neg h2))))
    · skip
      exact mTr_k (hn s ((if_neg h0).trans (if_neg h1)))
theorem lp_M_omits_67 {Post : MST → Prop} (x1 : Int32) (x2 : Int32) (x3 : Int32) (x5 : Int32) (c0 : Int32) (σ : MSto) (s0 : Int32) (N : Nat) (hb : ∀ i, i < N → g_M_omits_67 x1 x2 x3 x5 (c0 + nI i) σ (f_M_omits_67 x1 x2 x3 x5 c0 σ s0 i) ∧ ¬ q_M_omits_67s x1 x2 x3 x5 (c0 + nI i) σ (f_M_omits_67 x1 x2 x3 x5 c0 σ s0 i) = 1) (h : mW1 P_M_omits (67, [some (mR 13 0), some (mI x1), some (mI x2), some (mI x3), some (mI (f_M_omits_67 x1 x2 x3 x5 c0 σ s0 N)), some (mI x5), some (mI (c0 + nI N))], [], σ, 0, 0) Post) : mW1 P_M_omits (67, [some (mR 13 0), some (mI x1), some (mI x2), some (mI x3), some (mI s0), some (mI x5), some (mI c0)], [], σ, 0, 0) Post := by
  refine mW1_st (mW1_loop (fun i => (67, [some (mR 13 0), some (mI x1), some (mI x2), some (mI x3), some (mI (f_M_omits_67 x1 x2 x3 x5 c0 σ s0 i)), some (mI x5), some (mI (c0 + nI i))], [], σ, 0, 0)) N (fun i hlt hn => ?_) h) (by rw [show nI 0 = 0 from rfl, Int32.add_zero] <;> rfl)
  refine lt_M_omits_67 x1 x2 x3 x5 _ σ _ (hb i hlt).1 (hb i hlt).2 (fun r hr => ?_)
  rw [Int32.add_assoc, nI_s]
  subst hr
  exact hn
set_option maxRecDepth 100000 in
set_option maxHeartbeats 4000000 in
theorem d_M_omits (a1 : Int32) (σ : MSto) (hp : p_M_omits a1 σ) : mW1 P_M_omits (0, [some (mR 13 0), some (mI a1), none, none, none, none, none], [], σ, 0, 0) (mF [27, 233] [mI (v_M_omits a1 σ)] (e_M_omits a1 σ) 0 0) := by
  refine mW1_eq (q_M_omits_e _ _) ?_
  unfold p_M_omits at hp
  refine mTr_if (fun h0 => ?_) (fun h0 => ?_)
  · skip
    exact mTr_e (by decide) (congrArg (fun z => [mI z]) (Eq.symm (if_pos h0))) (Eq.symm (if_pos h0)) (by decide) (by decide)
  · skip
    have hp := hp h0
    refine mTr_if (fun h1 => ?_) (fun h1 => ?_)
    · skip
      exact mTr_e (by decide) (congrArg (fun z => [mI z]) (Eq.symm ((if_neg h0).trans (if_pos h1)))) (Eq.symm ((if_neg h0).trans (if_pos h1))) (by decide) (by decide)
    · skip
      have hp := hp h1
      refine mTr_g hp.1 ?_
      have hp := hp.2
      refine mTr_g hp.1 ?_
      have hp := hp.2
      refine mTr_if (fun h2 => ?_) (fun h2 => ?_)
      · skip
        have hp := hp.1 h2
        refine mTr_k (lp_M_omits_67 a1 (gI (sI σ 13 0 52 0) 67 0 (Int32.toNatClampNeg a1)) (gI (sI σ 13 0 52 0) 13 0 2) 0 0 (sI σ 13 0 52 0) 0 (n_M_omits_67 a1 (gI (sI σ 13 0 52 0) 67 0 (Int32.toNatClampNeg a1)) (gI (sI σ 13 0 52 0) 13 0 2) 0 0 (sI σ 13 0 52 0) 0) hp.1 ?_)
        have hp := hp.2
        refine mW1_eq (q_M_omits_67 _ _ _ _ _ _ _) ?_
        refine mTr_if (fun h3 => ?_) (fun h3 => ?_)
        · skip
          have hp := hp.1 h3
          refine mTr_k (lp_M_omits_119 a1 (gI (sI σ 13 0 52 0) 67 0 (Int32.toNatClampNeg a1)) (gI (sI σ 13 0 52 0) 13 0 2) (f_M_omits_67 a1 (gI (sI σ 13 0 52 0) 67 0 (Int32.toNatClampNeg a1)) (gI (sI σ 13 0 52 0) 13 0 2) 0 0 (sI σ 13 0 52 0) 0 (n_M_omits_67 a1 (gI (sI σ 13 0 52 0) 67 0 (Int32.toNatClampNeg a1)) (gI (sI σ 13 0 52 0) 13 0 2) 0 0 (sI σ 13 0 52 0) 0)) 0 (sI σ 13 0 52 0) 0 (n_M_omits_119 a1 (gI (sI σ 13 0 52 0) 67 0 (Int32.toNatClampNeg a1)) (gI (sI σ 13 0 52 0) 13 0 2) (f_M_omits_67 a1 (gI (sI σ 13 0 52 0) 67 0 (Int32.toNatClampNeg a1)) (gI (sI σ 13 0 52 0) 13 0 2) 0 0 (sI σ 13 0 52 0) 0 (n_M_omits_67 a1 (gI (sI σ 13 0 52 0) 67 0 (Int32.toNatClampNeg a1)) (gI (sI σ 13 0 52 0) 13 0 2) 0 0 (sI σ 13 0 52 0) 0)) 0 (sI σ 13 0 52 0) 0) hp.1 ?_)
          have hp := hp.2
          refine mW1_eq (q_M_omits_119 _ _ _ _ _ _ _) ?_
          refine mTr_if (fun h4 => ?_) (fun h4 => ?_)
          · skip
            have hp := hp.1 h4
            refine mTr_g hp.1 ?_
            have hp := hp.2
            refine mTr_g hp ?_
            exact mTr_e (by decide) (congrArg (fun z => [mI z]) (Eq.symm ((if_neg h0).trans ((if_neg h1).trans (if_pos h2))))) (Eq.symm ((if_neg h0).trans ((if_neg h1).trans (if_pos h2)))) (by decide) (by decide)
          · skip
            have hp := hp.2 h4
            exact hp.elim
        · skip
          have hp := hp.2 h3
          exact hp.elim
      · skip
        have hp := hp.2 h2
        refine mTr_g hp.1 ?_
        have hp := hp.2
        refine mTr_k (lp_M_omits_67 a1 (gI (sI σ 13 0 52 0) 67 0 (Int32.toNatClampNeg a1)) (gI (sI σ 13 0 52 0) 52 0 (Int32.toNatClampNeg (gI (sI σ 13 0 52 0) 67 0 (Int32.toNatClampNeg a1)))) 0 0 (sI σ 13 0 52 0) 0 (n_M_omits_67 a1 (gI (sI σ 13 0 52 0) 67 0 (Int32.toNatClampNeg a1)) (gI (sI σ 13 0 52 0) 52 0 (Int32.toNatClampNeg (gI (sI σ 13 0 52 0) 67 0 (Int32.toNatClampNeg a1)))) 0 0 (sI σ 13 0 52 0) 0) hp.1 ?_)
        have hp := hp.2
        refine mW1_eq (q_M_omits_67 _ _ _ _ _ _ _) ?_
        refine mTr_if (fun h3 => ?_) (fun h3 => ?_)
        · skip
          have hp := hp.1 h3
          refine mTr_k (lp_M_omits_119 a1 (gI (sI σ 13 0 52 0) 67 0 (Int32.toNatClampNeg a1)) (gI (sI σ 13 0 52 0) 52 0 (Int32.toNatClampNeg (gI (sI σ 13 0 52 0) 67 0 (Int32.toNatClampNeg a1)))) (f_M_omits_67 a1 (gI (sI σ 13 0 52 0) 67 0 (Int32.toNatClampNeg a1)) (gI (sI σ 13 0 52 0) 52 0 (Int32.toNatClampNeg (gI (sI σ 13 0 52 0) 67 0 (Int32.toNatClampNeg a1)))) 0 0 (sI σ 13 0 52 0) 0 (n_M_omits_67 a1 (gI (sI σ 13 0 52 0) 67 0 (Int32.toNatClampNeg a1)) (gI (sI σ 13 0 52 0) 52 0 (Int32.toNatClampNeg (gI (sI σ 13 0 52 0) 67 0 (Int32.toNatClampNeg a1)))) 0 0 (sI σ 13 0 52 0) 0)) 0 (sI σ 13 0 52 0) 0 (n_M_omits_119 a1 (gI (sI σ 13 0 52 0) 67 0 (Int32.toNatClampNeg a1)) (gI (sI σ 13 0 52 0) 52 0 (Int32.toNatClampNeg (gI (sI σ 13 0 52 0) 67 0 (Int32.toNatClampNeg a1)))) (f_M_omits_67 a1 (gI (sI σ 13 0 52 0) 67 0 (Int32.toNatClampNeg a1)) (gI (sI σ 13 0 52 0) 52 0 (Int32.toNatClampNeg (gI (sI σ 13 0 52 0) 67 0 (Int32.toNatClampNeg a1)))) 0 0 (sI σ 13 0 52 0) 0 (n_M_omits_67 a1 (gI (sI σ 13 0 52 0) 67 0 (Int32.toNatClampNeg a1)) (gI (sI σ 13 0 52 0) 52 0 (Int32.toNatClampNeg (gI (sI σ 13 0 52 0) 67 0 (Int32.toNatClampNeg a1)))) 0 0 (sI σ 13 0 52 0) 0)) 0 (sI σ 13 0 52 0) 0) hp.1 ?_)
          have hp := hp.2
          refine mW1_eq (q_M_omits_119 _ _ _ _ _ _ _) ?_
          refine mTr_if (fun h4 => ?_) (fun h4 => ?_)
          · skip
            have hp := hp.1 h4
            refine mTr_g hp.1 ?_
            have hp := hp.2
            refine mTr_g hp ?_
            exact mTr_e (by decide) (congrArg (fun z => [mI z]) (Eq.symm ((if_neg h0).trans ((if_neg h1).trans (if_neg h2))))) (Eq.symm ((if_neg h0).trans ((if_neg h1).trans (if_neg h2)))) (by decide) (by decide)
          · skip
            have hp := hp.2 h4
            exact hp.elim
        · skip
          have hp := hp.2 h3
          exact hp.elim









theorem tk_M_omits : ∀ pc i nx tg, T_M_omits pc = some (i, nx, tg) → mOkB prog_14_method_100_code pc i nx tg = true := code_ok (N := 234) (fun k h => by unfold T_M_omits; rw [h]; rfl) (by decide +kernel)
theorem ok_M_omits (l : Launch) : mPOK l "ClothWithManModel" prog_14_method_100_code P_M_omits := by
  refine ⟨tk_M_omits, ?_, ?_, ?_, (fun pc i nx tg kd _ h => by cases h), ?_, ?_, fun pc en h => by cases h⟩
  · intro x ci f ty fin h
    exact mLook_all (Q := fun x v => mFOK "ClothWithManModel" x v.1 v.2.1 v.2.2.1 v.2.2.2 ∧ (v.2.2.2 = true → pIni P_M_omits = true → (Cond.fieldLink "ClothWithManModel" x (((mCl[v.1]?).getD ("", fun _ => ("", "", "", false), 0)).2.1 v.2.1).1 (((mCl[v.1]?).getD ("", fun _ => ("", "", "", false), 0)).2.1 v.2.1).2.1 (((mCl[v.1]?).getD ("", fun _ => ("", "", "", false), 0)).2.1 v.2.1).2.2.1 ∈ lw_tbl ∧ (((mCl[v.1]?).getD ("", fun _ => ("", "", "", false), 0)).2.1 v.2.1).1 = "ClothWithManModel"))) (fcC ⟨fo_M_17, fun h1 h2 => by cases h1⟩ (fcC ⟨fo_M_47, fun h1 h2 => by cases h2⟩ (fcC ⟨fo_M_50, fun h1 h2 => by cases h2⟩ (fcC ⟨fo_M_96, fun h1 h2 => by cases h2⟩ (fcC ⟨fo_M_99, fun h1 h2 => by cases h2⟩ (fcC ⟨fo_M_102, fun h1 h2 => by cases h2⟩ (fcC ⟨fo_M_161, fun h1 h2 => by cases h1⟩ (fcC ⟨fo_M_164, fun h1 h2 => by cases h1⟩ (fcC ⟨fo_M_185, fun h1 h2 => by cases h1⟩ (fcC ⟨fo_M_277, fun h1 h2 => by cases h1⟩ (fcC ⟨fo_M_394, fun h1 h2 => by cases h1⟩ (fcC ⟨fo_M_440, fun h1 h2 => by cases h1⟩ fcN)))))))))))) x (ci, f, ty, fin) h
  · intro x
    have hh := mLook_all (l := ([] : List (Nat × (Int32 ⊕ Int64)))) (Q := fun x (v : Int32 ⊕ Int64) => (∀ w, v = .inl w → Cond.constant "ClothWithManModel" x w ∈ lw_tbl) ∧ (∀ w, v = .inr w → Cond.constantLong "ClothWithManModel" x w ∈ lw_tbl)) fcN x
    exact ⟨fun w h => (hh _ h).1 w rfl, fun w h => (hh _ h).2 w rfl⟩
  · exact fun x en h => mLook_all (Q := fun x en => mLink "ClothWithManModel" x en ∧ mCtr l en ∧ (en.1.1 = 2 → en.2.2.2.2.2.2 = none)) (fcC ⟨li_M_177, c_M_tell l, (fun h => by cases h)⟩ (fcC ⟨li_M_181, c_M_in l, (fun h => by cases h)⟩ (fcC ⟨li_M_285, c_M_spanOf l, (fun h => by cases h)⟩ (fcC ⟨li_M_292, c_M_likenessOf l, (fun h => by cases h)⟩ (fcC ⟨li_M_296, c_In_bitCount l, (fun h => by cases h)⟩ (fcC ⟨li_M_301, c_M_has l, (fun h => by cases h)⟩ (fcC ⟨li_M_384, c_M_hasTerm l, (fun h => by cases h)⟩ (fcC ⟨li_M_391, c_M_wouldOf l, (fun h => by cases h)⟩ (fcC ⟨li_M_397, c_M_fitOf l, (fun h => by cases h)⟩ fcN))))))))) x en h
  · exact fun x kd h => mLook_all (Q := fun x kd => (kd = 95 ∧ Cond.fieldLink "ClothWithManModel" x "ClothWithMan" "LIKENESSES" "[I" ∈ lw_tbl) ∨ (kd = 96 ∧ Cond.fieldLink "ClothWithManModel" x "ClothWithMan" "APART_BOUNDS" "[I" ∈ lw_tbl)) fcN x kd h
  · exact fun x ci h => mLook_all (Q := fun x ci => ci ≠ 0 ∧ ∃ (C : String) (T : u_T) (N : Nat), mCl[ci]? = some (C, T, N) ∧ Cond.classLink "ClothWithManModel" x C ∈ lw_tbl ∧ Cond.instantiable C N ∈ lw_tbl) fcN x ci h
set_option maxRecDepth 100000 in
theorem c_M_omits (l : Launch) : mCtr l E_M_omits := mCtr_of (P := P_M_omits) (own := "ClothWithManModel") mLay_ok rfl (by decide +kernel) rfl (ok_M_omits l) (fun h => by cases h) (fun as σ pr rv σ' hF hpr hlv => by
  unfold E_M_omits S_M_omits at hF
  simp only [] at hF
  split at hF
  · cases hF
    obtain ⟨n, pcF, c1, s1, g1, g2, g3, g4⟩ := mF_inv (d_M_omits _ σ (hpr _ rfl))
    exact ⟨Nat.le_of_ble_eq_true rfl, (fun v h => by cases h; trivial), n, pcF, c1, s1, g1, ⟨mEnd_of (i := .ireturn) (P := P_M_omits) (rets := [27, 233]) rfl g2, rfl⟩, g3, g4⟩
  · cases hF
    exact (hpr _ rfl).elim)
/-! ClothWithManModel.keep(I)Z -/
noncomputable def t_M_keep_96 (x1 : Int32) (c : Int32) (s : MSto) : MSto := (if 6 ≤ c then s else (sI s 74 0 (Int32.toNatClampNeg ((6 * x1) + c)) (gI s 60 0 (Int32.toNatClampNeg c))))
noncomputable def q_M_keep_96s (x1 : Int32) (c : Int32) (s : MSto) : Nat := (if 6 ≤ c then 1 else 0)
def g_M_keep_96 (x1 : Int32) (c : Int32) (s : MSto) : Prop := (¬ (6 ≤ c) → ((vp_in c 6) ∧ (vp_in ((6 * x1) + c) 18)))
noncomputable def f_M_keep_96 (x1 : Int32) (c0 : Int32) (s0 : MSto) (n : Nat) : MSto := nfold (fun i s => t_M_keep_96 x1 (c0 + nI i) s) s0 n
noncomputable def n_M_keep_96 (x1 : Int32) (c0 : Int32) (s0 : MSto) : Nat := 6
noncomputable def t_M_keep_65 (x1 : Int32) (c : Int32) (s : MSto) : MSto := (if 12 ≤ c then s else (sI s 72 0 (Int32.toNatClampNeg ((12 * x1) + c)) (gI s 51 0 (Int32.toNatClampNeg c))))
noncomputable def q_M_keep_65s (x1 : Int32) (c : Int32) (s : MSto) : Nat := (if 12 ≤ c then 1 else 0)
def g_M_keep_65 (x1 : Int32) (c : Int32) (s : MSto) : Prop := (¬ (12 ≤ c) → ((vp_in c 12) ∧ (vp_in ((12 * x1) + c) 36)))
noncomputable def f_M_keep_65 (x1 : Int32) (c0 : Int32) (s0 : MSto) (n : Nat) : MSto := nfold (fun i s => t_M_keep_65 x1 (c0 + nI i) s) s0 n
noncomputable def n_M_keep_65 (x1 : Int32) (c0 : Int32) (s0 : MSto) : Nat := 12
def bj_M_keep_j53 (x1 : Int32) (σ : MSto) : Prop := True
noncomputable def ej_M_keep_j53 (x1 : Int32) (σ : MSto) : MSto := (f_M_keep_96 x1 0 (f_M_keep_65 x1 0 (sI σ 75 0 (Int32.toNatClampNeg x1) (gI σ 13 0 17)) (n_M_keep_65 x1 0 (sI σ 75 0 (Int32.toNatClampNeg x1) (gI σ 13 0 17)))) (n_M_keep_96 x1 0 (f_M_keep_65 x1 0 (sI σ 75 0 (Int32.toNatClampNeg x1) (gI σ 13 0 17)) (n_M_keep_65 x1 0 (sI σ 75 0 (Int32.toNatClampNeg x1) (gI σ 13 0 17))))))
def gj_M_keep_j53 (x1 : Int32) (σ : MSto) : Prop := ((vp_in x1 3) ∧ ((∀ i, i < (n_M_keep_65 x1 0 (sI σ 75 0 (Int32.toNatClampNeg x1) (gI σ 13 0 17))) → g_M_keep_65 x1 (0 + nI i) (f_M_keep_65 x1 0 (sI σ 75 0 (Int32.toNatClampNeg x1) (gI σ 13 0 17)) i) ∧ ¬ q_M_keep_65s x1 (0 + nI i) (f_M_keep_65 x1 0 (sI σ 75 0 (Int32.toNatClampNeg x1) (gI σ 13 0 17)) i) = 1) ∧ (((12 ≤ (0 + nI (n_M_keep_65 x1 0 (sI σ 75 0 (Int32.toNatClampNeg x1) (gI σ 13 0 17))))) → ((∀ i, i < (n_M_keep_96 x1 0 (f_M_keep_65 x1 0 (sI σ 75 0 (Int32.toNatClampNeg x1) (gI σ 13 0 17)) (n_M_keep_65 x1 0 (sI σ 75 0 (Int32.toNatClampNeg x1) (gI σ 13 0 17))))) → g_M_keep_96 x1 (0 + nI i) (f_M_keep_96 x1 0 (f_M_keep_65 x1 0 (sI σ 75 0 (Int32.toNatClampNeg x1) (gI σ 13 0 17)) (n_M_keep_65 x1 0 (sI σ 75 0 (Int32.toNatClampNeg x1) (gI σ 13 0 17)))) i) ∧ ¬ q_M_keep_96s x1 (0 + nI i) (f_M_keep_96 x1 0 (f_M_keep_65 x1 0 (sI σ 75 0 (Int32.toNatClampNeg x1) (gI σ 13 0 17)) (n_M_keep_65 x1 0 (sI σ 75 0 (Int32.toNatClampNeg x1) (gI σ 13 0 17)))) i) = 1) ∧ (¬ (6 ≤ (0 + nI (n_M_keep_96 x1 0 (f_M_keep_65 x1 0 (sI σ 75 0 (Int32.toNatClampNeg x1) (gI σ 13 0 17)) (n_M_keep_65 x1 0 (sI σ 75 0 (Int32.toNatClampNeg x1) (gI σ 13 0 17))))))) → False))) ∧ (¬ (12 ≤ (0 + nI (n_M_keep_65 x1 0 (sI σ 75 0 (Int32.toNatClampNeg x1) (gI σ 13 0 17))))) → False))))
def bj_M_keep_j33 (x1 : Int32) (σ : MSto) : Prop := (bj_M_keep_j53 x1 (sI (sI σ 73 0 (Int32.toNatClampNeg x1) (gI σ 13 0 2)) 76 0 (Int32.toNatClampNeg x1) (gI (sI σ 73 0 (Int32.toNatClampNeg x1) (gI σ 13 0 2)) 13 0 40)))
noncomputable def ej_M_keep_j33 (x1 : Int32) (σ : MSto) : MSto := (ej_M_keep_j53 x1 (sI (sI σ 73 0 (Int32.toNatClampNeg x1) (gI σ 13 0 2)) 76 0 (Int32.toNatClampNeg x1) (gI (sI σ 73 0 (Int32.toNatClampNeg x1) (gI σ 13 0 2)) 13 0 40)))
def gj_M_keep_j33 (x1 : Int32) (σ : MSto) : Prop := ((vp_in x1 3) ∧ ((vp_in x1 3) ∧ (gj_M_keep_j53 x1 (sI (sI σ 73 0 (Int32.toNatClampNeg x1) (gI σ 13 0 2)) 76 0 (Int32.toNatClampNeg x1) (gI (sI σ 73 0 (Int32.toNatClampNeg x1) (gI σ 13 0 2)) 13 0 40)))))
def b_M_keep (a1 : Int32) (σ : MSto) : Prop := (if (v_M_in a1 0 2 (sI σ 13 0 52 0)) = 0 then False else (bj_M_keep_j33 a1 (sI (sI (sI σ 13 0 52 0) 70 0 (Int32.toNatClampNeg a1) (vp_nar .boolean 1)) 71 0 (Int32.toNatClampNeg a1) (gI (sI (sI σ 13 0 52 0) 70 0 (Int32.toNatClampNeg a1) (vp_nar .boolean 1)) 13 0 15))))
noncomputable def v_M_keep (a1 : Int32) (σ : MSto) : Int32 := bI (b_M_keep a1 σ)
def p_M_keep (a1 : Int32) (σ : MSto) : Prop := (¬ ((v_M_in a1 0 2 (sI σ 13 0 52 0)) = 0) → ((vp_in a1 3) ∧ ((vp_in a1 3) ∧ (gj_M_keep_j33 a1 (sI (sI (sI σ 13 0 52 0) 70 0 (Int32.toNatClampNeg a1) (vp_nar .boolean 1)) 71 0 (Int32.toNatClampNeg a1) (gI (sI (sI σ 13 0 52 0) 70 0 (Int32.toNatClampNeg a1) (vp_nar .boolean 1)) 13 0 15))))))
noncomputable def e_M_keep (a1 : Int32) (σ : MSto) : MSto := (if (v_M_in a1 0 2 (sI σ 13 0 52 0)) = 0 then (sI σ 13 0 52 0) else (ej_M_keep_j33 a1 (sI (sI (sI σ 13 0 52 0) 70 0 (Int32.toNatClampNeg a1) (vp_nar .boolean 1)) 71 0 (Int32.toNatClampNeg a1) (gI (sI (sI σ 13 0 52 0) 70 0 (Int32.toNatClampNeg a1) (vp_nar .boolean 1)) 13 0 15))))
noncomputable def S_M_keep : List MV → MSto → Option Prop × Option MV × MSto := fun as σ => match as with
  | [.inr (.inr (some (13, 0))), .inl a0] => (some (p_M_keep a0 σ), some (mI (v_M_keep a0 σ)), e_M_keep a0 σ)
  | _ => (some False, none, σ)
noncomputable def E_M_keep : MEnt := ((1, 1, 13), (1, 22, 0, 0), S_M_keep, ((⟨"ClothWithManModel", "keep", "(I)Z"⟩ : MethodName), prog_14_method_102_code, 3, (some .boolean)))

def T_M_keep : Nat → Option (Instr × Nat × List Nat) := fun k => bif Nat.blt k 127 then (bif Nat.blt k 63 then (bif Nat.blt k 29 then (bif Nat.blt k 15 then (bif Nat.blt k 6 then (bif Nat.blt k 2 then (bif Nat.blt k 1 then (bif Nat.beq k 0 then some (.aload_n 0, 1, []) else none) else (bif Nat.beq k 1 then some (.iconst 0, 2, []) else none)) else (bif Nat.blt k 5 then (bif Nat.beq k 2 then some (.putfield 161, 5, []) else none) else (bif Nat.beq k 5 then some (.iload_n 1, 6, []) else none))) else (bif Nat.blt k 8 then (bif Nat.blt k 7 then (bif Nat.beq k 6 then some (.iconst 0, 7, []) else none) else (bif Nat.beq k 7 then some (.iconst 2, 8, []) else none)) else (bif Nat.blt k 11 then (bif Nat.beq k 8 then some (.invokestatic 181, 11, []) else none) else (bif Nat.blt k 14 then (bif Nat.beq k 11 then some (.ifCond .ne 5, 14, [16]) else none) else (bif Nat.beq k 14 then some (.iconst 0, 15, []) else none))))) else (bif Nat.blt k 22 then (bif Nat.blt k 17 then (bif Nat.blt k 16 then (bif Nat.beq k 15 then some (.ireturn, 16, []) else none) else (bif Nat.beq k 16 then some (.aload_n 0, 17, []) else none)) else (bif Nat.blt k 20 then (bif Nat.beq k 17 then some (.getfield 108, 20, []) else none) else (bif Nat.blt k 21 then (bif Nat.beq k 20 then some (.iload_n 1, 21, []) else none) else (bif Nat.beq k 21 then some (.iconst 1, 22, []) else none)))) else (bif Nat.blt k 24 then (bif Nat.blt k 23 then (bif Nat.beq k 22 then some (.bastore, 23, []) else none) else (bif Nat.beq k 23 then some (.aload_n 0, 24, []) else none)) else (bif Nat.blt k 27 then (bif Nat.beq k 24 then some (.getfield 111, 27, []) else none) else (bif Nat.blt k 28 then (bif Nat.beq k 27 then some (.iload_n 1, 28, []) else none) else (bif Nat.beq k 28 then some (.aload_n 0, 29, []) else none)))))) else (bif Nat.blt k 47 then (bif Nat.blt k 38 then (bif Nat.blt k 33 then (bif Nat.blt k 32 then (bif Nat.beq k 29 then some (.getfield 277, 32, []) else none) else (bif Nat.beq k 32 then some (.iastore, 33, []) else none)) else (bif Nat.blt k 34 then (bif Nat.beq k 33 then some (.aload_n 0, 34, []) else none) else (bif Nat.blt k 37 then (bif Nat.beq k 34 then some (.getfield 117, 37, []) else none) else (bif Nat.beq k 37 then some (.iload_n 1, 38, []) else none)))) else (bif Nat.blt k 42 then (bif Nat.blt k 39 then (bif Nat.beq k 38 then some (.aload_n 0, 39, []) else none) else (bif Nat.beq k 39 then some (.getfield 17, 42, []) else none)) else (bif Nat.blt k 43 then (bif Nat.beq k 42 then some (.iastore, 43, []) else none) else (bif Nat.blt k 44 then (bif Nat.beq k 43 then some (.aload_n 0, 44, []) else none) else (bif Nat.beq k 44 then some (.getfield 126, 47, []) else none))))) else (bif Nat.blt k 54 then (bif Nat.blt k 49 then (bif Nat.blt k 48 then (bif Nat.beq k 47 then some (.iload_n 1, 48, []) else none) else (bif Nat.beq k 48 then some (.aload_n 0, 49, []) else none)) else (bif Nat.blt k 52 then (bif Nat.beq k 49 then some (.getfield 105, 52, []) else none) else (bif Nat.blt k 53 then (bif Nat.beq k 52 then some (.iastore, 53, []) else none) else (bif Nat.beq k 53 then some (.aload_n 0, 54, []) else none)))) else (bif Nat.blt k 58 then (bif Nat.blt k 57 then (bif Nat.beq k 54 then some (.getfield 123, 57, []) else none) else (bif Nat.beq k 57 then some (.iload_n 1, 58, []) else none)) else (bif Nat.blt k 59 then (bif Nat.beq k 58 then some (.aload_n 0, 59, []) else none) else (bif Nat.blt k 62 then (bif Nat.beq k 59 then some (.getfield 188, 62, []) else none) else (bif Nat.beq k 62 then some (.iastore, 63, []) else none))))))) else (bif Nat.blt k 95 then (bif Nat.blt k 79 then (bif Nat.blt k 71 then (bif Nat.blt k 65 then (bif Nat.blt k 64 then (bif Nat.beq k 63 then some (.iconst 0, 64, []) else none) else (bif Nat.beq k 64 then some (.istore_n 2, 65, []) else none)) else (bif Nat.blt k 66 then (bif Nat.beq k 65 then some (.iload_n 2, 66, []) else none) else (bif Nat.blt k 68 then (bif Nat.beq k 66 then some (.bipush 12, 68, []) else none) else (bif Nat.beq k 68 then some (.if_icmp .ge 26, 71, [94]) else none)))) else (bif Nat.blt k 75 then (bif Nat.blt k 72 then (bif Nat.beq k 71 then some (.aload_n 0, 72, []) else none) else (bif Nat.beq k 72 then some (.getfield 114, 75, []) else none)) else (bif Nat.blt k 77 then (bif Nat.beq k 75 then some (.bipush 12, 77, []) else none) else (bif Nat.blt k 78 then (bif Nat.beq k 77 then some (.iload_n 1, 78, []) else none) else (bif Nat.beq k 78 then some (.imul, 79, []) else none))))) else (bif Nat.blt k 86 then (bif Nat.blt k 81 then (bif Nat.blt k 80 then (bif Nat.beq k 79 then some (.iload_n 2, 80, []) else none) else (bif Nat.beq k 80 then some (.iadd, 81, []) else none)) else (bif Nat.blt k 82 then (bif Nat.beq k 81 then some (.aload_n 0, 82, []) else none) else (bif Nat.blt k 85 then (bif Nat.beq k 82 then some (.getfield 47, 85, []) else none) else (bif Nat.beq k 85 then some (.iload_n 2, 86, []) else none)))) else (bif Nat.blt k 88 then (bif Nat.blt k 87 then (bif Nat.beq k 86 then some (.iaload, 87, []) else none) else (bif Nat.beq k 87 then some (.iastore, 88, []) else none)) else (bif Nat.blt k 91 then (bif Nat.beq k 88 then some (.iinc 2 1, 91, []) else none) else (bif Nat.blt k 94 then (bif Nat.beq k 91 then some (.goto (-26), 94, [65]) else none) else (bif Nat.beq k 94 then some (.iconst 0, 95, []) else none)))))) else (bif Nat.blt k 111 then (bif Nat.blt k 103 then (bif Nat.blt k 97 then (bif Nat.blt k 96 then (bif Nat.beq k 95 then some (.istore_n 2, 96, []) else none) else (bif Nat.beq k 96 then some (.iload_n 2, 97, []) else none)) else (bif Nat.blt k 99 then (bif Nat.beq k 97 then some (.bipush 6, 99, []) else none) else (bif Nat.blt k 102 then (bif Nat.beq k 99 then some (.if_icmp .ge 26, 102, [125]) else none) else (bif Nat.beq k 102 then some (.aload_n 0, 103, []) else none)))) else (bif Nat.blt k 108 then (bif Nat.blt k 106 then (bif Nat.beq k 103 then some (.getfield 120, 106, []) else none) else (bif Nat.beq k 106 then some (.bipush 6, 108, []) else none)) else (bif Nat.blt k 109 then (bif Nat.beq k 108 then some (.iload_n 1, 109, []) else none) else (bif Nat.blt k 110 then (bif Nat.beq k 109 then some (.imul, 110, []) else none) else (bif Nat.beq k 110 then some (.iload_n 2, 111, []) else none))))) else (bif Nat.blt k 118 then (bif Nat.blt k 113 then (bif Nat.blt k 112 then (bif Nat.beq k 111 then some (.iadd, 112, []) else none) else (bif Nat.beq k 112 then some (.aload_n 0, 113, []) else none)) else (bif Nat.blt k 116 then (bif Nat.beq k 113 then some (.getfield 74, 116, []) else none) else (bif Nat.blt k 117 then (bif Nat.beq k 116 then some (.iload_n 2, 117, []) else none) else (bif Nat.beq k 117 then some (.iaload, 118, []) else none)))) else (bif Nat.blt k 122 then (bif Nat.blt k 119 then (bif Nat.beq k 118 then some (.iastore, 119, []) else none) else (bif Nat.beq k 119 then some (.iinc 2 1, 122, []) else none)) else (bif Nat.blt k 125 then (bif Nat.beq k 122 then some (.goto (-26), 125, [96]) else none) else (bif Nat.blt k 126 then (bif Nat.beq k 125 then some (.iconst 1, 126, []) else none) else (bif Nat.beq k 126 then some (.ireturn, 127, []) else none)))))))) else none
noncomputable def P_M_keep : MP := (T_M_keep, (fun k => mLook k [(17, (13, 2, .int, false)), (47, (13, 16, (.array .int), true)), (74, (13, 26, (.array .int), true)), (105, (13, 40, .int, false)), (108, (13, 41, (.array .boolean), true)), (111, (13, 42, (.array .int), true)), (114, (13, 43, (.array .int), true)), (117, (13, 44, (.array .int), true)), (120, (13, 45, (.array .int), true)), (123, (13, 46, (.array .int), true)), (126, (13, 47, (.array .int), true)), (161, (13, 52, .int, false)), (188, (13, 17, .int, false)), (277, (13, 15, .int, false))]), (fun k => mLook k []), (fun k => mLook k [(181, E_M_in)]), (fun k => mLook k []), (fun k => mLook k []), (fun k => mLook k []), (fun k => mLook k [(33, [true, true, false]), (53, [true, true, false]), (65, [true, true, true]), (96, [true, true, true])]), (fun k => [15, 126].any (Nat.beq k)), (1, 22, 0, 0), false, (fun _ => none))
set_option maxRecDepth 100000 in
set_option maxHeartbeats 4000000 in
theorem q_M_keep_e (a1 : Int32) (σ : MSto) (n : Nat) : mexe KT P_M_keep (n + 1) (0, [some (mR 13 0), some (mI a1), none], [], σ, 0, 0) = mIf ((v_M_in a1 0 2 (sI σ 13 0 52 0)) = 0) (some (15, [], [(mI 0)], (sI σ 13 0 52 0), 0, 0)) (mG (vp_in a1 3) (mG (vp_in a1 3) (mexe KT P_M_keep n (33, [some (mR 13 0), some (mI a1), none], [], (sI (sI (sI σ 13 0 52 0) 70 0 (Int32.toNatClampNeg a1) (vp_nar .boolean 1)) 71 0 (Int32.toNatClampNeg a1) (gI (sI (sI σ 13 0 52 0) 70 0 (Int32.toNatClampNeg a1) (vp_nar .boolean 1)) 13 0 15)), 0, 0)))) := rfl
set_option maxRecDepth 100000 in
set_option maxHeartbeats 4000000 in
theorem q_M_keep_33 (x1 : Int32) (σ : MSto) (n : Nat) : mexe KT P_M_keep (n + 1) (33, [some (mR 13 0), some (mI x1), none], [], σ, 0, 0) = mG (vp_in x1 3) (mG (vp_in x1 3) (mexe KT P_M_keep n (53, [some (mR 13 0), some (mI x1), none], [], (sI (sI σ 73 0 (Int32.toNatClampNeg x1) (gI σ 13 0 2)) 76 0 (Int32.toNatClampNeg x1) (gI (sI σ 73 0 (Int32.toNatClampNeg x1) (gI σ 13 0 2)) 13 0 40)), 0, 0))) := rfl
set_option maxRecDepth 100000 in
set_option maxHeartbeats 4000000 in
theorem q_M_keep_53 (x1 : Int32) (σ : MSto) (n : Nat) : mexe KT P_M_keep (n + 1) (53, [some (mR 13 0), some (mI x1), none], [], σ, 0, 0) = mG (vp_in x1 3) (mexe KT P_M_keep n (65, [some (mR 13 0), some (mI x1), some (mI 0)], [], (sI σ 75 0 (Int32.toNatClampNeg x1) (gI σ 13 0 17)), 0, 0)) := rfl
set_option maxRecDepth 100000 in
set_option maxHeartbeats 4000000 in
theorem q_M_keep_65 (x1 : Int32) (x2 : Int32) (σ : MSto) (n : Nat) : mexe KT P_M_keep (n + 1) (65, [some (mR 13 0), some (mI x1), some (mI x2)], [], σ, 0, 0) = mIf (12 ≤ x2) (mexe KT P_M_keep n (96, [some (mR 13 0), some (mI x1), some (mI 0)], [], σ, 0, 0)) (mG (vp_in x2 12) (mG (vp_in ((12 * x1) + x2) 36) (mexe KT P_M_keep n (65, [some (mR 13 0), some (mI x1), some (mI (x2 + 1))], [], (sI σ 72 0 (Int32.toNatClampNeg ((12 * x1) + x2)) (gI σ 51 0 (Int32.toNatClampNeg x2))), 0, 0)))) := rfl
set_option maxRecDepth 100000 in
set_option maxHeartbeats 4000000 in
theorem q_M_keep_96 (x1 : Int32) (x2 : Int32) (σ : MSto) (n : Nat) : mexe KT P_M_keep (n + 1) (96, [some (mR 13 0), some (mI x1), some (mI x2)], [], σ, 0, 0) = mIf (6 ≤ x2) (some (126, [], [(mI 1)], σ, 0, 0)) (mG (vp_in x2 6) (mG (vp_in ((6 * x1) + x2) 18) (mexe KT P_M_keep n (96, [some (mR 13 0), some (mI x1), some (mI (x2 + 1))], [], (sI σ 74 0 (Int32.toNatClampNeg ((6 * x1) + x2)) (gI σ 60 0 (Int32.toNatClampNeg x2))), 0, 0)))) := rfl
set_option maxRecDepth 100000 in
theorem lt_M_keep_96 {Post : MST → Prop} (x1 : Int32) (c : Int32) (s : MSto) (hp : g_M_keep_96 x1 c s) (hq : ¬ q_M_keep_96s x1 c s = 1) (hn : ∀ r, t_M_keep_96 x1 c s = r → mW1 P_M_keep (96, [some (mR 13 0), some (mI x1), some (mI (c + 1))], [], r, 0, 0) Post) : mW1 P_M_keep (96, [some (mR 13 0), some (mI x1), some (mI c)], [], s, 0, 0) Post := by
  unfold g_M_keep_96 at hp
  refine mW1_eq (q_M_keep_96 _ _ _) ?_
  refine mTr_if (fun h0 => ?_) (fun h0 => ?_)
  · skip
    exact absurd (if_pos h0) hq
  · skip
    have hp := hp h0
    refine mTr_g hp.1 ?_
    have hp := hp.2
    refine mTr_g hp ?_
    exact mTr_k (hn (sI s 74 0 (Int32.toNatClampNeg ((6 * x1) + c)) (gI s 60 0 (Int32.toNatClampNeg c))) (if_neg h0))
theorem lp_M_keep_96 {Post : MST → Prop} (x1 : Int32) (c0 : Int32) (s0 : MSto) (N : Nat) (hb : ∀ i, i < N → g_M_keep_96 x1 (c0 + nI i) (f_M_keep_96 x1 c0 s0 i) ∧ ¬ q_M_keep_96s x1 (c0 + nI i) (f_M_keep_96 x1 c0 s0 i) = 1) (h : mW1 P_M_keep (96, [some (mR 13 0), some (mI x1), some (mI (c0 + nI N))], [], (f_M_keep_96 x1 c0 s0 N), 0, 0) Post) : mW1 P_M_keep (96, [some (mR 13 0), some (mI x1), some (mI c0)], [], s0, 0, 0) Post := by
  refine mW1_st (mW1_loop (fun i => (96, [some (mR 13 0), some (mI x1), some (mI (c0 + nI i))], [], (f_M_keep_96 x1 c0 s0 i), 0, 0)) N (fun i hlt hn => ?_) h) (by rw [show nI 0 = 0 from rfl, Int32.add_zero] <;> rfl)
  refine lt_M_keep_96 x1 _ _ (hb i hlt).1 (hb i hlt).2 (fun r hr => ?_)
  rw [Int32.add_assoc, nI_s]
  subst hr
  exact hn
set_option maxRecDepth 100000 in
theorem lt_M_keep_65 {Post : MST → Prop} (x1 : Int32) (c : Int32) (s : MSto) (hp : g_M_keep_65 x1 c s) (hq : ¬ q_M_keep_65s x1 c s = 1) (hn : ∀ r, t_M_keep_65 x1 c s = r → mW1 P_M_keep (65, [some (mR 13 0), some (mI x1), some (mI (c + 1))], [], r, 0, 0) Post) : mW1 P_M_keep (65, [some (mR 13 0), some (mI x1), some (mI c)], [], s, 0, 0) Post := by
  unfold g_M_keep_65 at hp
  refine mW1_eq (q_M_keep_65 _ _ _) ?_
  refine mTr_if (fun h0 => ?_) (fun h0 => ?_)
  · skip
    exact absurd (if_pos h0) hq
  · skip
    have hp := hp h0
    refine mTr_g hp.1 ?_
    have hp := hp.2
    refine mTr_g hp ?_
    exact mTr_k (hn (sI s 72 0 (Int32.toNatClampNeg ((12 * x1) + c)) (gI s 51 0 (Int32.toNatClampNeg c))) (if_neg h0))
theorem lp_M_keep_65 {Post : MST → Prop} (x1 : Int32) (c0 : Int32) (s0 : MSto) (N : Nat) (hb : ∀ i, i < N → g_M_keep_65 x1 (c0 + nI i) (f_M_keep_65 x1 c0 s0 i) ∧ ¬ q_M_keep_65s x1 (c0 + nI i) (f_M_keep_65 x1 c0 s0 i) = 1) (h : mW1 P_M_keep (65, [some (mR 13 0), some (mI x1), some (mI (c0 + nI N))], [], (f_M_keep_65 x1 c0 s0 N), 0, 0) Post) : mW1 P_M_keep (65, [some (mR 13 0), some (mI x1), some (mI c0)], [], s0, 0, 0) Post := by
  refine mW1_st (mW1_loop (fun i => (65, [some (mR 13 0), some (mI x1), some (mI (c0 + nI i))], [], (f_M_keep_65 x1 c0 s0 i), 0, 0)) N (fun i hlt hn => ?_) h) (by rw [show nI 0 = 0 from rfl, Int32.add_zero] <;> rfl)
  refine lt_M_keep_65 x1 _ _ (hb i hlt).1 (hb i hlt).2 (fun r hr => ?_)
  rw [Int32.add_assoc, nI_s]
  subst hr
  exact hn
set_option maxRecDepth 100000 in
theorem lj_M_keep_j53 (x1 : Int32) (σ : MSto) (hp : gj_M_keep_j53 x1 σ) : mW1 P_M_keep (53, [some (mR 13 0), some (mI x1), none], [], σ, 0, 0) (mF [15, 126] [mI (bI (bj_M_keep_j53 x1 σ))] (ej_M_keep_j53 x1 σ) 0 0) := by
  unfold gj_M_keep_j53 at hp
  refine mW1_eq (q_M_keep_53 _ _) ?_
  refine mTr_g hp.1 ?_
  have hp := hp.2
  refine mTr_k (lp_M_keep_65 x1 0 (sI σ 75 0 (Int32.toNatClampNeg x1) (gI σ 13 0 17)) (n_M_keep_65 x1 0 (sI σ 75 0 (Int32.toNatClampNeg x1) (gI σ 13 0 17))) hp.1 ?_)
  have hp := hp.2
  refine mW1_eq (q_M_keep_65 _ _ _) ?_
  refine mTr_if (fun h0 => ?_) (fun h0 => ?_)
  · skip
    have hp := hp.1 h0
    refine mTr_k (lp_M_keep_96 x1 0 (f_M_keep_65 x1 0 (sI σ 75 0 (Int32.toNatClampNeg x1) (gI σ 13 0 17)) (n_M_keep_65 x1 0 (sI σ 75 0 (Int32.toNatClampNeg x1) (gI σ 13 0 17)))) (n_M_keep_96 x1 0 (f_M_keep_65 x1 0 (sI σ 75 0 (Int32.toNatClampNeg x1) (gI σ 13 0 17)) (n_M_keep_65 x1 0 (sI σ 75 0 (Int32.toNatClampNeg x1) (gI σ 13 0 17))))) hp.1 ?_)
    have hp := hp.2
    refine mW1_eq (q_M_keep_96 _ _ _) ?_
    refine mTr_if (fun h1 => ?_) (fun h1 => ?_)
    · skip
      exact mTr_e (by decide) (bI_T (rfl)) (Eq.symm (rfl)) (by decide) (by decide)
    · skip
      have hp := hp h1
      exact hp.elim
  · skip
    have hp := hp.2 h0
    exact hp.elim
set_option maxRecDepth 100000 in
theorem lj_M_keep_j33 (x1 : Int32) (σ : MSto) (hp : gj_M_keep_j33 x1 σ) : mW1 P_M_keep (33, [some (mR 13 0), some (mI x1), none], [], σ, 0, 0) (mF [15, 126] [mI (bI (bj_M_keep_j33 x1 σ))] (ej_M_keep_j33 x1 σ) 0 0) := by
  unfold gj_M_keep_j33 at hp
  refine mW1_eq (q_M_keep_33 _ _) ?_
  refine mTr_g hp.1 ?_
  have hp := hp.2
  refine mTr_g hp.1 ?_
  have hp := hp.2
  exact mTr_k (mF_cB (rfl) (rfl) (lj_M_keep_j53 x1 (sI (sI σ 73 0 (Int32.toNatClampNeg x1) (gI σ 13 0 2)) 76 0 (Int32.toNatClampNeg x1) (gI (sI σ 73 0 (Int32.toNatClampNeg x1) (gI σ 13 0 2)) 13 0 40)) hp))
set_option maxRecDepth 100000 in
set_option maxHeartbeats 4000000 in
theorem d_M_keep (a1 : Int32) (σ : MSto) (hp : p_M_keep a1 σ) : mW1 P_M_keep (0, [some (mR 13 0), some (mI a1), none], [], σ, 0, 0) (mF [15, 126] [mI (v_M_keep a1 σ)] (e_M_keep a1 σ) 0 0) := by
  refine mW1_eq (q_M_keep_e _ _) ?_
  unfold p_M_keep at hp
  unfold v_M_keep
  refine mTr_if (fun h0 => ?_) (fun h0 => ?_)
  · skip
    exact mTr_e (by decide) (bI_F (if_pos h0)) (Eq.symm (if_pos h0)) (by decide) (by decide)
  · skip
    have hp := hp h0
    refine mTr_g hp.1 ?_
    have hp := hp.2
    refine mTr_g hp.1 ?_
    have hp := hp.2
    exact mTr_k (mF_cB (if_neg h0) (if_neg h0) (lj_M_keep_j33 a1 (sI (sI (sI σ 13 0 52 0) 70 0 (Int32.toNatClampNeg a1) (vp_nar .boolean 1)) 71 0 (Int32.toNatClampNeg a1) (gI (sI (sI σ 13 0 52 0) 70 0 (Int32.toNatClampNeg a1) (vp_nar .boolean 1)) 13 0 15)) hp))

theorem tk_M_keep : ∀ pc i nx tg, T_M_keep pc = some (i, nx, tg) → mOkB prog_14_method_102_code pc i nx tg = true := code_ok (N := 127) (fun k h => by unfold T_M_keep; rw [h]; rfl) (by decide +kernel)
theorem ok_M_keep (l : Launch) : mPOK l "ClothWithManModel" prog_14_method_102_code P_M_keep := by
  refine ⟨tk_M_keep, ?_, ?_, ?_, (fun pc i nx tg kd _ h => by cases h), ?_, ?_, fun pc en h => by cases h⟩
  · intro x ci f ty fin h
    exact mLook_all (Q := fun x v => mFOK "ClothWithManModel" x v.1 v.2.1 v.2.2.1 v.2.2.2 ∧ (v.2.2.2 = true → pIni P_M_keep = true → (Cond.fieldLink "ClothWithManModel" x (((mCl[v.1]?).getD ("", fun _ => ("", "", "", false), 0)).2.1 v.2.1).1 (((mCl[v.1]?).getD ("", fun _ => ("", "", "", false), 0)).2.1 v.2.1).2.1 (((mCl[v.1]?).getD ("", fun _ => ("", "", "", false), 0)).2.1 v.2.1).2.2.1 ∈ lw_tbl ∧ (((mCl[v.1]?).getD ("", fun _ => ("", "", "", false), 0)).2.1 v.2.1).1 = "ClothWithManModel"))) (fcC ⟨fo_M_17, fun h1 h2 => by cases h1⟩ (fcC ⟨fo_M_47, fun h1 h2 => by cases h2⟩ (fcC ⟨fo_M_74, fun h1 h2 => by cases h2⟩ (fcC ⟨fo_M_105, fun h1 h2 => by cases h1⟩ (fcC ⟨fo_M_108, fun h1 h2 => by cases h2⟩ (fcC ⟨fo_M_111, fun h1 h2 => by cases h2⟩ (fcC ⟨fo_M_114, fun h1 h2 => by cases h2⟩ (fcC ⟨fo_M_117, fun h1 h2 => by cases h2⟩ (fcC ⟨fo_M_120, fun h1 h2 => by cases h2⟩ (fcC ⟨fo_M_123, fun h1 h2 => by cases h2⟩ (fcC ⟨fo_M_126, fun h1 h2 => by cases h2⟩ (fcC ⟨fo_M_161, fun h1 h2 => by cases h1⟩ (fcC ⟨fo_M_188, fun h1 h2 => by cases h1⟩ (fcC ⟨fo_M_277, fun h1 h2 => by cases h1⟩ fcN)))))))))))))) x (ci, f, ty, fin) h
  · intro x
    have hh := mLook_all (l := ([] : List (Nat × (Int32 ⊕ Int64)))) (Q := fun x (v : Int32 ⊕ Int64) => (∀ w, v = .inl w → Cond.constant "ClothWithManModel" x w ∈ lw_tbl) ∧ (∀ w, v = .inr w → Cond.constantLong "ClothWithManModel" x w ∈ lw_tbl)) fcN x
    exact ⟨fun w h => (hh _ h).1 w rfl, fun w h => (hh _ h).2 w rfl⟩
  · exact fun x en h => mLook_all (Q := fun x en => mLink "ClothWithManModel" x en ∧ mCtr l en ∧ (en.1.1 = 2 → en.2.2.2.2.2.2 = none)) (fcC ⟨li_M_181, c_M_in l, (fun h => by cases h)⟩ fcN) x en h
  · exact fun x kd h => mLook_all (Q := fun x kd => (kd = 95 ∧ Cond.fieldLink "ClothWithManModel" x "ClothWithMan" "LIKENESSES" "[I" ∈ lw_tbl) ∨ (kd = 96 ∧ Cond.fieldLink "ClothWithManModel" x "ClothWithMan" "APART_BOUNDS" "[I" ∈ lw_tbl)) fcN x kd h
  · exact fun x ci h => mLook_all (Q := fun x ci => ci ≠ 0 ∧ ∃ (C : String) (T : u_T) (N : Nat), mCl[ci]? = some (C, T, N) ∧ Cond.classLink "ClothWithManModel" x C ∈ lw_tbl ∧ Cond.instantiable C N ∈ lw_tbl) fcN x ci h
set_option maxRecDepth 100000 in
theorem c_M_keep (l : Launch) : mCtr l E_M_keep := mCtr_of (P := P_M_keep) (own := "ClothWithManModel") mLay_ok rfl (by decide +kernel) rfl (ok_M_keep l) (fun h => by cases h) (fun as σ pr rv σ' hF hpr hlv => by
  unfold E_M_keep S_M_keep at hF
  simp only [] at hF
  split at hF
  · cases hF
    obtain ⟨n, pcF, c1, s1, g1, g2, g3, g4⟩ := mF_inv (d_M_keep _ σ (hpr _ rfl))
    exact ⟨Nat.le_of_ble_eq_true rfl, (fun v h => by cases h; trivial), n, pcF, c1, s1, g1, ⟨mEnd_of (i := .ireturn) (P := P_M_keep) (rets := [15, 126]) rfl g2, bI_narrow _⟩, g3, g4⟩
  · cases hF
    exact (hpr _ rfl).elim)
/-! ClothWithManModel.again(I)Z -/
noncomputable def t_M_again_88 (x1 : Int32) (c : Int32) (s : MSto) : MSto := (if 6 ≤ c then s else (if (gI s 75 0 (Int32.toNatClampNeg x1)) ≤ c then (sI s 60 0 (Int32.toNatClampNeg c) 1) else (sI s 60 0 (Int32.toNatClampNeg c) (gI s 74 0 (Int32.toNatClampNeg ((6 * x1) + c))))))
noncomputable def q_M_again_88s (x1 : Int32) (c : Int32) (s : MSto) : Nat := (if 6 ≤ c then 1 else 0)
def g_M_again_88 (x1 : Int32) (c : Int32) (s : MSto) : Prop := (¬ (6 ≤ c) → ((vp_in x1 3) ∧ ((((gI s 75 0 (Int32.toNatClampNeg x1)) ≤ c) → (vp_in c 6)) ∧ (¬ ((gI s 75 0 (Int32.toNatClampNeg x1)) ≤ c) → ((vp_in ((6 * x1) + c) 18) ∧ (vp_in c 6))))))
noncomputable def f_M_again_88 (x1 : Int32) (c0 : Int32) (s0 : MSto) (n : Nat) : MSto := nfold (fun i s => t_M_again_88 x1 (c0 + nI i) s) s0 n
noncomputable def n_M_again_88 (x1 : Int32) (c0 : Int32) (s0 : MSto) : Nat := 6
noncomputable def t_M_again_57 (x1 : Int32) (c : Int32) (s : MSto) : MSto := (if 12 ≤ c then s else (sI s 51 0 (Int32.toNatClampNeg c) (gI s 72 0 (Int32.toNatClampNeg ((12 * x1) + c)))))
noncomputable def q_M_again_57s (x1 : Int32) (c : Int32) (s : MSto) : Nat := (if 12 ≤ c then 1 else 0)
def g_M_again_57 (x1 : Int32) (c : Int32) (s : MSto) : Prop := (¬ (12 ≤ c) → ((vp_in ((12 * x1) + c) 36) ∧ (vp_in c 12)))
noncomputable def f_M_again_57 (x1 : Int32) (c0 : Int32) (s0 : MSto) (n : Nat) : MSto := nfold (fun i s => t_M_again_57 x1 (c0 + nI i) s) s0 n
noncomputable def n_M_again_57 (x1 : Int32) (c0 : Int32) (s0 : MSto) : Nat := 12
def bj_M_again_j45 (x1 : Int32) (σ : MSto) : Prop := True
noncomputable def ej_M_again_j45 (x1 : Int32) (σ : MSto) : MSto := (f_M_again_88 x1 0 (f_M_again_57 x1 0 (sI σ 13 0 40 (gI σ 76 0 (Int32.toNatClampNeg x1))) (n_M_again_57 x1 0 (sI σ 13 0 40 (gI σ 76 0 (Int32.toNatClampNeg x1))))) (n_M_again_88 x1 0 (f_M_again_57 x1 0 (sI σ 13 0 40 (gI σ 76 0 (Int32.toNatClampNeg x1))) (n_M_again_57 x1 0 (sI σ 13 0 40 (gI σ 76 0 (Int32.toNatClampNeg x1)))))))
def gj_M_again_j45 (x1 : Int32) (σ : MSto) : Prop := ((vp_in x1 3) ∧ ((∀ i, i < (n_M_again_57 x1 0 (sI σ 13 0 40 (gI σ 76 0 (Int32.toNatClampNeg x1)))) → g_M_again_57 x1 (0 + nI i) (f_M_again_57 x1 0 (sI σ 13 0 40 (gI σ 76 0 (Int32.toNatClampNeg x1))) i) ∧ ¬ q_M_again_57s x1 (0 + nI i) (f_M_again_57 x1 0 (sI σ 13 0 40 (gI σ 76 0 (Int32.toNatClampNeg x1))) i) = 1) ∧ (((12 ≤ (0 + nI (n_M_again_57 x1 0 (sI σ 13 0 40 (gI σ 76 0 (Int32.toNatClampNeg x1)))))) → ((∀ i, i < (n_M_again_88 x1 0 (f_M_again_57 x1 0 (sI σ 13 0 40 (gI σ 76 0 (Int32.toNatClampNeg x1))) (n_M_again_57 x1 0 (sI σ 13 0 40 (gI σ 76 0 (Int32.toNatClampNeg x1)))))) → g_M_again_88 x1 (0 + nI i) (f_M_again_88 x1 0 (f_M_again_57 x1 0 (sI σ 13 0 40 (gI σ 76 0 (Int32.toNatClampNeg x1))) (n_M_again_57 x1 0 (sI σ 13 0 40 (gI σ 76 0 (Int32.toNatClampNeg x1))))) i) ∧ ¬ q_M_again_88s x1 (0 + nI i) (f_M_again_88 x1 0 (f_M_again_57 x1 0 (sI σ 13 0 40 (gI σ 76 0 (Int32.toNatClampNeg x1))) (n_M_again_57 x1 0 (sI σ 13 0 40 (gI σ 76 0 (Int32.toNatClampNeg x1))))) i) = 1) ∧ (¬ (6 ≤ (0 + nI (n_M_again_88 x1 0 (f_M_again_57 x1 0 (sI σ 13 0 40 (gI σ 76 0 (Int32.toNatClampNeg x1))) (n_M_again_57 x1 0 (sI σ 13 0 40 (gI σ 76 0 (Int32.toNatClampNeg x1)))))))) → False))) ∧ (¬ (12 ≤ (0 + nI (n_M_again_57 x1 0 (sI σ 13 0 40 (gI σ 76 0 (Int32.toNatClampNeg x1)))))) → False))))
def b_M_again (a1 : Int32) (σ : MSto) : Prop := (if (v_M_in a1 0 2 (sI σ 13 0 52 0)) = 0 then False else (if (gI (sI σ 13 0 52 0) 70 0 (Int32.toNatClampNeg a1)) = 0 then False else (bj_M_again_j45 a1 (sI (sI (sI σ 13 0 52 0) 13 0 15 (gI (sI σ 13 0 52 0) 71 0 (Int32.toNatClampNeg a1))) 13 0 2 (gI (sI (sI σ 13 0 52 0) 13 0 15 (gI (sI σ 13 0 52 0) 71 0 (Int32.toNatClampNeg a1))) 73 0 (Int32.toNatClampNeg a1))))))
noncomputable def v_M_again (a1 : Int32) (σ : MSto) : Int32 := bI (b_M_again a1 σ)
def p_M_again (a1 : Int32) (σ : MSto) : Prop := (¬ ((v_M_in a1 0 2 (sI σ 13 0 52 0)) = 0) → ((vp_in a1 3) ∧ (¬ ((gI (sI σ 13 0 52 0) 70 0 (Int32.toNatClampNeg a1)) = 0) → ((vp_in a1 3) ∧ ((vp_in a1 3) ∧ (gj_M_again_j45 a1 (sI (sI (sI σ 13 0 52 0) 13 0 15 (gI (sI σ 13 0 52 0) 71 0 (Int32.toNatClampNeg a1))) 13 0 2 (gI (sI (sI σ 13 0 52 0) 13 0 15 (gI (sI σ 13 0 52 0) 71 0 (Int32.toNatClampNeg a1))) 73 0 (Int32.toNatClampNeg a1)))))))))
noncomputable def e_M_again (a1 : Int32) (σ : MSto) : MSto := (if (v_M_in a1 0 2 (sI σ 13 0 52 0)) = 0 then (sI σ 13 0 52 0) else (if (gI (sI σ 13 0 52 0) 70 0 (Int32.toNatClampNeg a1)) = 0 then (sI σ 13 0 52 0) else (ej_M_again_j45 a1 (sI (sI (sI σ 13 0 52 0) 13 0 15 (gI (sI σ 13 0 52 0) 71 0 (Int32.toNatClampNeg a1))) 13 0 2 (gI (sI (sI σ 13 0 52 0) 13 0 15 (gI (sI σ 13 0 52 0) 71 0 (Int32.toNatClampNeg a1))) 73 0 (Int32.toNatClampNeg a1))))))
noncomputable def S_M_again : List MV → MSto → Option Prop × Option MV × MSto := fun as σ => match as with
  | [.inr (.inr (some (13, 0))), .inl a0] => (some (p_M_again a0 σ), some (mI (v_M_again a0 σ)), e_M_again a0 σ)
  | _ => (some False, none, σ)
noncomputable def E_M_again : MEnt := ((1, 1, 13), (1, 22, 0, 0), S_M_again, ((⟨"ClothWithManModel", "again", "(I)Z"⟩ : MethodName), prog_14_method_103_code, 3, (some .boolean)))

def T_M_again : Nat → Option (Instr × Nat × List Nat) := fun k => bif Nat.blt k 133 then (bif Nat.blt k 67 then (bif Nat.blt k 32 then (bif Nat.blt k 18 then (bif Nat.blt k 7 then (bif Nat.blt k 2 then (bif Nat.blt k 1 then (bif Nat.beq k 0 then some (.aload_n 0, 1, []) else none) else (bif Nat.beq k 1 then some (.iconst 0, 2, []) else none)) else (bif Nat.blt k 5 then (bif Nat.beq k 2 then some (.putfield 161, 5, []) else none) else (bif Nat.blt k 6 then (bif Nat.beq k 5 then some (.iload_n 1, 6, []) else none) else (bif Nat.beq k 6 then some (.iconst 0, 7, []) else none)))) else (bif Nat.blt k 11 then (bif Nat.blt k 8 then (bif Nat.beq k 7 then some (.iconst 2, 8, []) else none) else (bif Nat.beq k 8 then some (.invokestatic 181, 11, []) else none)) else (bif Nat.blt k 14 then (bif Nat.beq k 11 then some (.ifCond .eq 12, 14, [23]) else none) else (bif Nat.blt k 15 then (bif Nat.beq k 14 then some (.aload_n 0, 15, []) else none) else (bif Nat.beq k 15 then some (.getfield 108, 18, []) else none))))) else (bif Nat.blt k 25 then (bif Nat.blt k 20 then (bif Nat.blt k 19 then (bif Nat.beq k 18 then some (.iload_n 1, 19, []) else none) else (bif Nat.beq k 19 then some (.baload, 20, []) else none)) else (bif Nat.blt k 23 then (bif Nat.beq k 20 then some (.ifCond .ne 5, 23, [25]) else none) else (bif Nat.blt k 24 then (bif Nat.beq k 23 then some (.iconst 0, 24, []) else none) else (bif Nat.beq k 24 then some (.ireturn, 25, []) else none)))) else (bif Nat.blt k 27 then (bif Nat.blt k 26 then (bif Nat.beq k 25 then some (.aload_n 0, 26, []) else none) else (bif Nat.beq k 26 then some (.aload_n 0, 27, []) else none)) else (bif Nat.blt k 30 then (bif Nat.beq k 27 then some (.getfield 111, 30, []) else none) else (bif Nat.blt k 31 then (bif Nat.beq k 30 then some (.iload_n 1, 31, []) else none) else (bif Nat.beq k 31 then some (.iaload, 32, []) else none)))))) else (bif Nat.blt k 50 then (bif Nat.blt k 41 then (bif Nat.blt k 36 then (bif Nat.blt k 35 then (bif Nat.beq k 32 then some (.putfield 277, 35, []) else none) else (bif Nat.beq k 35 then some (.aload_n 0, 36, []) else none)) else (bif Nat.blt k 37 then (bif Nat.beq k 36 then some (.aload_n 0, 37, []) else none) else (bif Nat.blt k 40 then (bif Nat.beq k 37 then some (.getfield 117, 40, []) else none) else (bif Nat.beq k 40 then some (.iload_n 1, 41, []) else none)))) else (bif Nat.blt k 45 then (bif Nat.blt k 42 then (bif Nat.beq k 41 then some (.iaload, 42, []) else none) else (bif Nat.beq k 42 then some (.putfield 17, 45, []) else none)) else (bif Nat.blt k 46 then (bif Nat.beq k 45 then some (.aload_n 0, 46, []) else none) else (bif Nat.blt k 47 then (bif Nat.beq k 46 then some (.aload_n 0, 47, []) else none) else (bif Nat.beq k 47 then some (.getfield 126, 50, []) else none))))) else (bif Nat.blt k 57 then (bif Nat.blt k 52 then (bif Nat.blt k 51 then (bif Nat.beq k 50 then some (.iload_n 1, 51, []) else none) else (bif Nat.beq k 51 then some (.iaload, 52, []) else none)) else (bif Nat.blt k 55 then (bif Nat.beq k 52 then some (.putfield 105, 55, []) else none) else (bif Nat.blt k 56 then (bif Nat.beq k 55 then some (.iconst 0, 56, []) else none) else (bif Nat.beq k 56 then some (.istore_n 2, 57, []) else none)))) else (bif Nat.blt k 60 then (bif Nat.blt k 58 then (bif Nat.beq k 57 then some (.iload_n 2, 58, []) else none) else (bif Nat.beq k 58 then some (.bipush 12, 60, []) else none)) else (bif Nat.blt k 63 then (bif Nat.beq k 60 then some (.if_icmp .ge 26, 63, [86]) else none) else (bif Nat.blt k 64 then (bif Nat.beq k 63 then some (.aload_n 0, 64, []) else none) else (bif Nat.beq k 64 then some (.getfield 47, 67, []) else none))))))) else (bif Nat.blt k 99 then (bif Nat.blt k 80 then (bif Nat.blt k 75 then (bif Nat.blt k 69 then (bif Nat.blt k 68 then (bif Nat.beq k 67 then some (.iload_n 2, 68, []) else none) else (bif Nat.beq k 68 then some (.aload_n 0, 69, []) else none)) else (bif Nat.blt k 72 then (bif Nat.beq k 69 then some (.getfield 114, 72, []) else none) else (bif Nat.blt k 74 then (bif Nat.beq k 72 then some (.bipush 12, 74, []) else none) else (bif Nat.beq k 74 then some (.iload_n 1, 75, []) else none)))) else (bif Nat.blt k 77 then (bif Nat.blt k 76 then (bif Nat.beq k 75 then some (.imul, 76, []) else none) else (bif Nat.beq k 76 then some (.iload_n 2, 77, []) else none)) else (bif Nat.blt k 78 then (bif Nat.beq k 77 then some (.iadd, 78, []) else none) else (bif Nat.blt k 79 then (bif Nat.beq k 78 then some (.iaload, 79, []) else none) else (bif Nat.beq k 79 then some (.iastore, 80, []) else none))))) else (bif Nat.blt k 89 then (bif Nat.blt k 86 then (bif Nat.blt k 83 then (bif Nat.beq k 80 then some (.iinc 2 1, 83, []) else none) else (bif Nat.beq k 83 then some (.goto (-26), 86, [57]) else none)) else (bif Nat.blt k 87 then (bif Nat.beq k 86 then some (.iconst 0, 87, []) else none) else (bif Nat.blt k 88 then (bif Nat.beq k 87 then some (.istore_n 2, 88, []) else none) else (bif Nat.beq k 88 then some (.iload_n 2, 89, []) else none)))) else (bif Nat.blt k 94 then (bif Nat.blt k 91 then (bif Nat.beq k 89 then some (.bipush 6, 91, []) else none) else (bif Nat.beq k 91 then some (.if_icmp .ge 40, 94, [131]) else none)) else (bif Nat.blt k 95 then (bif Nat.beq k 94 then some (.aload_n 0, 95, []) else none) else (bif Nat.blt k 98 then (bif Nat.beq k 95 then some (.getfield 74, 98, []) else none) else (bif Nat.beq k 98 then some (.iload_n 2, 99, []) else none)))))) else (bif Nat.blt k 116 then (bif Nat.blt k 106 then (bif Nat.blt k 101 then (bif Nat.blt k 100 then (bif Nat.beq k 99 then some (.iload_n 2, 100, []) else none) else (bif Nat.beq k 100 then some (.aload_n 0, 101, []) else none)) else (bif Nat.blt k 104 then (bif Nat.beq k 101 then some (.getfield 123, 104, []) else none) else (bif Nat.blt k 105 then (bif Nat.beq k 104 then some (.iload_n 1, 105, []) else none) else (bif Nat.beq k 105 then some (.iaload, 106, []) else none)))) else (bif Nat.blt k 110 then (bif Nat.blt k 109 then (bif Nat.beq k 106 then some (.if_icmp .ge 17, 109, [123]) else none) else (bif Nat.beq k 109 then some (.aload_n 0, 110, []) else none)) else (bif Nat.blt k 113 then (bif Nat.beq k 110 then some (.getfield 120, 113, []) else none) else (bif Nat.blt k 115 then (bif Nat.beq k 113 then some (.bipush 6, 115, []) else none) else (bif Nat.beq k 115 then some (.iload_n 1, 116, []) else none))))) else (bif Nat.blt k 123 then (bif Nat.blt k 118 then (bif Nat.blt k 117 then (bif Nat.beq k 116 then some (.imul, 117, []) else none) else (bif Nat.beq k 117 then some (.iload_n 2, 118, []) else none)) else (bif Nat.blt k 119 then (bif Nat.beq k 118 then some (.iadd, 119, []) else none) else (bif Nat.blt k 120 then (bif Nat.beq k 119 then some (.iaload, 120, []) else none) else (bif Nat.beq k 120 then some (.goto 4, 123, [124]) else none)))) else (bif Nat.blt k 128 then (bif Nat.blt k 124 then (bif Nat.beq k 123 then some (.iconst 1, 124, []) else none) else (bif Nat.blt k 125 then (bif Nat.beq k 124 then some (.iastore, 125, []) else none) else (bif Nat.beq k 125 then some (.iinc 2 1, 128, []) else none))) else (bif Nat.blt k 131 then (bif Nat.beq k 128 then some (.goto (-40), 131, [88]) else none) else (bif Nat.blt k 132 then (bif Nat.beq k 131 then some (.iconst 1, 132, []) else none) else (bif Nat.beq k 132 then some (.ireturn, 133, []) else none)))))))) else none
noncomputable def P_M_again : MP := (T_M_again, (fun k => mLook k [(17, (13, 2, .int, false)), (47, (13, 16, (.array .int), true)), (74, (13, 26, (.array .int), true)), (105, (13, 40, .int, false)), (108, (13, 41, (.array .boolean), true)), (111, (13, 42, (.array .int), true)), (114, (13, 43, (.array .int), true)), (117, (13, 44, (.array .int), true)), (120, (13, 45, (.array .int), true)), (123, (13, 46, (.array .int), true)), (126, (13, 47, (.array .int), true)), (161, (13, 52, .int, false)), (277, (13, 15, .int, false))]), (fun k => mLook k []), (fun k => mLook k [(181, E_M_in)]), (fun k => mLook k []), (fun k => mLook k []), (fun k => mLook k []), (fun k => mLook k [(45, [true, true, false]), (57, [true, true, true]), (88, [true, true, true])]), (fun k => [24, 132].any (Nat.beq k)), (1, 22, 0, 0), false, (fun _ => none))
set_option maxRecDepth 100000 in
set_option maxHeartbeats 4000000 in
theorem q_M_again_e (a1 : Int32) (σ : MSto) (n : Nat) : mexe KT P_M_again (n + 1) (0, [some (mR 13 0), some (mI a1), none], [], σ, 0, 0) = mIf ((v_M_in a1 0 2 (sI σ 13 0 52 0)) = 0) (some (24, [], [(mI 0)], (sI σ 13 0 52 0), 0, 0)) (mG (vp_in a1 3) (mIf ((gI (sI σ 13 0 52 0) 70 0 (Int32.toNatClampNeg a1)) = 0) (some (24, [], [(mI 0)], (sI σ 13 0 52 0), 0, 0)) (mG (vp_in a1 3) (mG (vp_in a1 3) (mexe KT P_M_again n (45, [some (mR 13 0), some (mI a1), none], [], (sI (sI (sI σ 13 0 52 0) 13 0 15 (gI (sI σ 13 0 52 0) 71 0 (Int32.toNatClampNeg a1))) 13 0 2 (gI (sI (sI σ 13 0 52 0) 13 0 15 (gI (sI σ 13 0 52 0) 71 0 (Int32.toNatClampNeg a1))) 73 0 (Int32.toNatClampNeg a1))), 0, 0)))))) := rfl
set_option maxRecDepth 100000 in
set_option maxHeartbeats 4000000 in
theorem q_M_again_45 (x1 : Int32) (σ : MSto) (n : Nat) : mexe KT P_M_again (n + 1) (45, [some (mR 13 0), some (mI x1), none], [], σ, 0, 0) = mG (vp_in x1 3) (mexe KT P_M_again n (57, [some (mR 13 0), some (mI x1), some (mI 0)], [], (sI σ 13 0 40 (gI σ 76 0 (Int32.toNatClampNeg x1))), 0, 0)) := rfl
set_option maxRecDepth 100000 in
set_option maxHeartbeats 4000000 in
theorem q_M_again_57 (x1 : Int32) (x2 : Int32) (σ : MSto) (n : Nat) : mexe KT P_M_again (n + 1) (57, [some (mR 13 0), some (mI x1), some (mI x2)], [], σ, 0, 0) = mIf (12 ≤ x2) (mexe KT P_M_again n (88, [some (mR 13 0), some (mI x1), some (mI 0)], [], σ, 0, 0)) (mG (vp_in ((12 * x1) + x2) 36) (mG (vp_in x2 12) (mexe KT P_M_again n (57, [some (mR 13 0), some (mI x1), some (mI (x2 + 1))], [], (sI σ 51 0 (Int32.toNatClampNeg x2) (gI σ 72 0 (Int32.toNatClampNeg ((12 * x1) + x2)))), 0, 0)))) := rfl
set_option maxRecDepth 100000 in
set_option maxHeartbeats 4000000 in
theorem q_M_again_88 (x1 : Int32) (x2 : Int32) (σ : MSto) (n : Nat) : mexe KT P_M_again (n + 1) (88, [some (mR 13 0), some (mI x1), some (mI x2)], [], σ, 0, 0) = mIf (6 ≤ x2) (some (132, [], [(mI 1)], σ, 0, 0)) (mG (vp_in x1 3) (mIf ((gI σ 75 0 (Int32.toNatClampNeg x1)) ≤ x2) (mG (vp_in x2 6) (mexe KT P_M_again n (88, [some (mR 13 0), some (mI x1), some (mI (x2 + 1))], [], (sI σ 60 0 (Int32.toNatClampNeg x2) 1), 0, 0))) (mG (vp_in ((6 * x1) + x2) 18) (mG (vp_in x2 6) (mexe KT P_M_again n (88, [some (mR 13 0), some (mI x1), some (mI (x2 + 1))], [], (sI σ 60 0 (Int32.toNatClampNeg x2) (gI σ 74 0 (Int32.toNatClampNeg ((6 * x1) + x2)))), 0, 0)))))) := rfl
set_option maxRecDepth 100000 in
theorem lt_M_again_88 {Post : MST → Prop} (x1 : Int32) (c : Int32) (s : MSto) (hp : g_M_again_88 x1 c s) (hq : ¬ q_M_again_88s x1 c s = 1) (hn : ∀ r, t_M_again_88 x1 c s = r → mW1 P_M_again (88, [some (mR 13 0), some (mI x1), some (mI (c + 1))], [], r, 0, 0) Post) : mW1 P_M_again (88, [some (mR 13 0), some (mI x1), some (mI c)], [], s, 0, 0) Post := by
  unfold g_M_again_88 at hp
  refine mW1_eq (q_M_again_88 _ _ _) ?_
  refine mTr_if (fun h0 => ?_) (fun h0 => ?_)
  · skip
    exact absurd (if_pos h0) hq
  · skip
    have hp := hp h0
    refine mTr_g hp.1 ?_
    have hp := hp.2
    refine mTr_if (fun h1 => ?_) (fun h1 => ?_)
    · skip
      have hp := hp.1 h1
      refine mTr_g hp ?_
      exact mTr_k (hn (sI s 60 0 (Int32.toNatClampNeg c) 1) ((if_neg h0).trans (if_pos h1)))
    · skip
      have hp := hp.2 h1
      refine mTr_g hp.1 ?_
      have hp := hp.2
      refine mTr_g hp ?_
      exact mTr_k (hn (sI s 60 0 (Int32.toNatClampNeg c) (gI s 74 0 (Int32.toNatClampNeg ((6 * x1) + c)))) ((if_neg h0).trans (if_neg h1)))
theorem lp_M_again_88 {Post : MST → Prop} (x1 : Int32) (c0 : Int32) (s0 : MSto) (N : Nat) (hb : ∀ i, i < N → g_M_again_88 x1 (c0 + nI i) (f_M_again_88 x1 c0 s0 i) ∧ ¬ q_M_again_88s x1 (c0 + nI i) (f_M_again_88 x1 c0 s0 i) = 1) (h : mW1 P_M_again (88, [some (mR 13 0), some (mI x1), some (mI (c0 + nI N))], [], (f_M_again_88 x1 c0 s0 N), 0, 0) Post) : mW1 P_M_again (88, [some (mR 13 0), some (mI x1), some (mI c0)], [], s0, 0, 0) Post := by
  refine mW1_st (mW1_loop (fun i => (88, [some (mR 13 0), some (mI x1), some (mI (c0 + nI i))], [], (f_M_again_88 x1 c0 s0 i), 0, 0)) N (fun i hlt hn => ?_) h) (by rw [show nI 0 = 0 from rfl, Int32.add_zero] <;> rfl)
  refine lt_M_again_88 x1 _ _ (hb i hlt).1 (hb i hlt).2 (fun r hr => ?_)
  rw [Int32.add_assoc, nI_s]
  subst hr
  exact hn
set_option maxRecDepth 100000 in
theorem lt_M_again_57 {Post : MST → Prop} (x1 : Int32) (c : Int32) (s : MSto) (hp : g_M_again_57 x1 c s) (hq : ¬ q_M_again_57s x1 c s = 1) (hn : ∀ r, t_M_again_57 x1 c s = r → mW1 P_M_again (57, [some (mR 13 0), some (mI x1), some (mI (c + 1))], [], r, 0, 0) Post) : mW1 P_M_again (57, [some (mR 13 0), some (mI x1), some (mI c)], [], s, 0, 0) Post := by
  unfold g_M_again_57 at hp
  refine mW1_eq (q_M_again_57 _ _ _) ?_
  refine mTr_if (fun h0 => ?_) (fun h0 => ?_)
  · skip
    exact absurd (if_pos h0) hq
  · skip
    have hp := hp h0
    refine mTr_g hp.1 ?_
    have hp := hp.2
    refine mTr_g hp ?_
    exact mTr_k (hn (sI s 51 0 (Int32.toNatClampNeg c) (gI s 72 0 (Int32.toNatClampNeg ((12 * x1) + c)))) (if_neg h0))
theorem lp_M_again_57 {Post : MST → Prop} (x1 : Int32) (c0 : Int32) (s0 : MSto) (N : Nat) (hb : ∀ i, i < N → g_M_again_57 x1 (c0 + nI i) (f_M_again_57 x1 c0 s0 i) ∧ ¬ q_M_again_57s x1 (c0 + nI i) (f_M_again_57 x1 c0 s0 i) = 1) (h : mW1 P_M_again (57, [some (mR 13 0), some (mI x1), some (mI (c0 + nI N))], [], (f_M_again_57 x1 c0 s0 N), 0, 0) Post) : mW1 P_M_again (57, [some (mR 13 0), some (mI x1), some (mI c0)], [], s0, 0, 0) Post := by
  refine mW1_st (mW1_loop (fun i => (57, [some (mR 13 0), some (mI x1), some (mI (c0 + nI i))], [], (f_M_again_57 x1 c0 s0 i), 0, 0)) N (fun i hlt hn => ?_) h) (by rw [show nI 0 = 0 from rfl, Int32.add_zero] <;> rfl)
  refine lt_M_again_57 x1 _ _ (hb i hlt).1 (hb i hlt).2 (fun r hr => ?_)
  rw [Int32.add_assoc, nI_s]
  subst hr
  exact hn
set_option maxRecDepth 100000 in
theorem lj_M_again_j45 (x1 : Int32) (σ : MSto) (hp : gj_M_again_j45 x1 σ) : mW1 P_M_again (45, [some (mR 13 0), some (mI x1), none], [], σ, 0, 0) (mF [24, 132] [mI (bI (bj_M_again_j45 x1 σ))] (ej_M_again_j45 x1 σ) 0 0) := by
  unfold gj_M_again_j45 at hp
  refine mW1_eq (q_M_again_45 _ _) ?_
  refine mTr_g hp.1 ?_
  have hp := hp.2
  refine mTr_k (lp_M_again_57 x1 0 (sI σ 13 0 40 (gI σ 76 0 (Int32.toNatClampNeg x1))) (n_M_again_57 x1 0 (sI σ 13 0 40 (gI σ 76 0 (Int32.toNatClampNeg x1)))) hp.1 ?_)
  have hp := hp.2
  refine mW1_eq (q_M_again_57 _ _ _) ?_
  refine mTr_if (fun h0 => ?_) (fun h0 => ?_)
  · skip
    have hp := hp.1 h0
    refine mTr_k (lp_M_again_88 x1 0 (f_M_again_57 x1 0 (sI σ 13 0 40 (gI σ 76 0 (Int32.toNatClampNeg x1))) (n_M_again_57 x1 0 (sI σ 13 0 40 (gI σ 76 0 (Int32.toNatClampNeg x1))))) (n_M_again_88 x1 0 (f_M_again_57 x1 0 (sI σ 13 0 40 (gI σ 76 0 (Int32.toNatClampNeg x1))) (n_M_again_57 x1 0 (sI σ 13 0 40 (gI σ 76 0 (Int32.toNatClampNeg x1)))))) hp.1 ?_)
    have hp := hp.2
    refine mW1_eq (q_M_again_88 _ _ _) ?_
    refine mTr_if (fun h1 => ?_) (fun h1 => ?_)
    · skip
      exact mTr_e (by decide) (bI_T (rfl)) (Eq.symm (rfl)) (by decide) (by decide)
    · skip
      have hp := hp h1
      exact hp.elim
  · skip
    have hp := hp.2 h0
    exact hp.elim
set_option maxRecDepth 100000 in
set_option maxHeartbeats 4000000 in
theorem d_M_again (a1 : Int32) (σ : MSto) (hp : p_M_again a1 σ) : mW1 P_M_again (0, [some (mR 13 0), some (mI a1), none], [], σ, 0, 0) (mF [24, 132] [mI (v_M_again a1 σ)] (e_M_again a1 σ) 0 0) := by
  refine mW1_eq (q_M_again_e _ _) ?_
  unfold p_M_again at hp
  unfold v_M_again
  refine mTr_if (fun h0 => ?_) (fun h0 => ?_)
  · skip
    exact mTr_e (by decide) (bI_F (if_pos h0)) (Eq.symm (if_pos h0)) (by decide) (by decide)
  · skip
    have hp := hp h0
    refine mTr_g hp.1 ?_
    have hp := hp.2
    refine mTr_if (fun h1 => ?_) (fun h1 => ?_)
    · skip
      exact mTr_e (by decide) (bI_F ((if_neg h0).trans (if_pos h1))) (Eq.symm ((if_neg h0).trans (if_pos h1))) (by decide) (by decide)
    · skip
      have hp := hp h1
      refine mTr_g hp.1 ?_
      have hp := hp.2
      refine mTr_g hp.1 ?_
      have hp := hp.2
      exact mTr_k (mF_cB ((if_neg h0).trans (if_neg h1)) ((if_neg h0).trans (if_neg h1)) (lj_M_again_j45 a1 (sI (sI (sI σ 13 0 52 0) 13 0 15 (gI (sI σ 13 0 52 0) 71 0 (Int32.toNatClampNeg a1))) 13 0 2 (gI (sI (sI σ 13 0 52 0) 13 0 15 (gI (sI σ 13 0 52 0) 71 0 (Int32.toNatClampNeg a1))) 73 0 (Int32.toNatClampNeg a1))) hp))

theorem tk_M_again : ∀ pc i nx tg, T_M_again pc = some (i, nx, tg) → mOkB prog_14_method_103_code pc i nx tg = true := code_ok (N := 133) (fun k h => by unfold T_M_again; rw [h]; rfl) (by decide +kernel)
theorem ok_M_again (l : Launch) : mPOK l "ClothWithManModel" prog_14_method_103_code P_M_again := by
  refine ⟨tk_M_again, ?_, ?_, ?_, (fun pc i nx tg kd _ h => by cases h), ?_, ?_, fun pc en h => by cases h⟩
  · intro x ci f ty fin h
    exact mLook_all (Q := fun x v => mFOK "ClothWithManModel" x v.1 v.2.1 v.2.2.1 v.2.2.2 ∧ (v.2.2.2 = true → pIni P_M_again = true → (Cond.fieldLink "ClothWithManModel" x (((mCl[v.1]?).getD ("", fun _ => ("", "", "", false), 0)).2.1 v.2.1).1 (((mCl[v.1]?).getD ("", fun _ => ("", "", "", false), 0)).2.1 v.2.1).2.1 (((mCl[v.1]?).getD ("", fun _ => ("", "", "", false), 0)).2.1 v.2.1).2.2.1 ∈ lw_tbl ∧ (((mCl[v.1]?).getD ("", fun _ => ("", "", "", false), 0)).2.1 v.2.1).1 = "ClothWithManModel"))) (fcC ⟨fo_M_17, fun h1 h2 => by cases h1⟩ (fcC ⟨fo_M_47, fun h1 h2 => by cases h2⟩ (fcC ⟨fo_M_74, fun h1 h2 => by cases h2⟩ (fcC ⟨fo_M_105, fun h1 h2 => by cases h1⟩ (fcC ⟨fo_M_108, fun h1 h2 => by cases h2⟩ (fcC ⟨fo_M_111, fun h1 h2 => by cases h2⟩ (fcC ⟨fo_M_114, fun h1 h2 => by cases h2⟩ (fcC ⟨fo_M_117, fun h1 h2 => by cases h2⟩ (fcC ⟨fo_M_120, fun h1 h2 => by cases h2⟩ (fcC ⟨fo_M_123, fun h1 h2 => by cases h2⟩ (fcC ⟨fo_M_126, fun h1 h2 => by cases h2⟩ (fcC ⟨fo_M_161, fun h1 h2 => by cases h1⟩ (fcC ⟨fo_M_277, fun h1 h2 => by cases h1⟩ fcN))))))))))))) x (ci, f, ty, fin) h
  · intro x
    have hh := mLook_all (l := ([] : List (Nat × (Int32 ⊕ Int64)))) (Q := fun x (v : Int32 ⊕ Int64) => (∀ w, v = .inl w → Cond.constant "ClothWithManModel" x w ∈ lw_tbl) ∧ (∀ w, v = .inr w → Cond.constantLong "ClothWithManModel" x w ∈ lw_tbl)) fcN x
    exact ⟨fun w h => (hh _ h).1 w rfl, fun w h => (hh _ h).2 w rfl⟩
  · exact fun x en h => mLook_all (Q := fun x en => mLink "ClothWithManModel" x en ∧ mCtr l en ∧ (en.1.1 = 2 → en.2.2.2.2.2.2 = none)) (fcC ⟨li_M_181, c_M_in l, (fun h => by cases h)⟩ fcN) x en h
  · exact fun x kd h => mLook_all (Q := fun x kd => (kd = 95 ∧ Cond.fieldLink "ClothWithManModel" x "ClothWithMan" "LIKENESSES" "[I" ∈ lw_tbl) ∨ (kd = 96 ∧ Cond.fieldLink "ClothWithManModel" x "ClothWithMan" "APART_BOUNDS" "[I" ∈ lw_tbl)) fcN x kd h
  · exact fun x ci h => mLook_all (Q := fun x ci => ci ≠ 0 ∧ ∃ (C : String) (T : u_T) (N : Nat), mCl[ci]? = some (C, T, N) ∧ Cond.classLink "ClothWithManModel" x C ∈ lw_tbl ∧ Cond.instantiable C N ∈ lw_tbl) fcN x ci h
set_option maxRecDepth 100000 in
theorem c_M_again (l : Launch) : mCtr l E_M_again := mCtr_of (P := P_M_again) (own := "ClothWithManModel") mLay_ok rfl (by decide +kernel) rfl (ok_M_again l) (fun h => by cases h) (fun as σ pr rv σ' hF hpr hlv => by
  unfold E_M_again S_M_again at hF
  simp only [] at hF
  split at hF
  · cases hF
    obtain ⟨n, pcF, c1, s1, g1, g2, g3, g4⟩ := mF_inv (d_M_again _ σ (hpr _ rfl))
    exact ⟨Nat.le_of_ble_eq_true rfl, (fun v h => by cases h; trivial), n, pcF, c1, s1, g1, ⟨mEnd_of (i := .ireturn) (P := P_M_again) (rets := [24, 132]) rfl g2, bI_narrow _⟩, g3, g4⟩
  · cases hF
    exact (hpr _ rfl).elim)

