/-! pieces picked by bits -/
noncomputable def selM (bits : Int32) (σ : MSto) (n : Nat) : List Nat := nfold (fun p L => if v_M_has bits (nI p) σ = 0 then L else L ++ [p]) [] n
theorem selM_0 {bits : Int32} {σ : MSto} {i : Nat} (h : v_M_has bits (nI i) σ = 0) : selM bits σ (i + 1) = selM bits σ i := if_pos h
theorem selM_1 {bits : Int32} {σ : MSto} {i : Nat} (h : ¬ v_M_has bits (nI i) σ = 0) : selM bits σ (i + 1) = selM bits σ i ++ [i] := if_neg h
theorem selM_mono {bits : Int32} {σ : MSto} {i : Nat} : ∀ {j : Nat}, i ≤ j → (selM bits σ i).length ≤ (selM bits σ j).length
  | 0, h => by have : i = 0 := by omega
               subst this; exact Nat.le_refl _
  | j + 1, h => by
    by_cases e : i = j + 1
    · subst e; exact Nat.le_refl _
    · have ih := selM_mono (bits := bits) (σ := σ) (i := i) (j := j) (by omega)
      by_cases g : v_M_has bits (nI j) σ = 0
      · rw [selM_0 g]; exact ih
      · rw [selM_1 g, List.length_append]; exact Nat.le_trans ih (Nat.le_add_right _ _)
theorem getD_app (L : List Nat) (x j : Nat) : (L ++ [x]).getD j 0 = if j < L.length then L.getD j 0 else if j = L.length then x else 0 := by
  simp only [List.getD_eq_getElem?_getD, List.getElem?_append]
  by_cases h : j < L.length
  · rw [if_pos h, if_pos h]
  · rw [if_neg h, if_neg h]
    by_cases h2 : j = L.length
    · subst h2; simp
    · rw [if_neg h2]
      have : j - L.length ≠ 0 := by omega
      cases hh : j - L.length with
      | zero => omega
      | succ k => simp
/-! ClothWithManModel.gather(I)V -/
noncomputable def w_M_px (L : List Nat) (σ : MSto) (j : Nat) : Int32 := gI σ 47 0 (L.getD j 0)
noncomputable def w_M_pn (L : List Nat) (σ : MSto) (j : Nat) : Int32 := v_M_cleared (nI (L.getD j 0)) σ
noncomputable def g_M_gather (L : List Nat) (σ : MSto) : MSto := sI (fI (fI σ 83 0 (w_M_px L σ) L.length) 84 0 (w_M_pn L σ) L.length) 13 0 66 (nI L.length)
noncomputable def e_M_gather (bits : Int32) (σ : MSto) : MSto := g_M_gather (selM bits σ (nM σ 10)) σ
def p_M_gather (bits : Int32) (σ : MSto) : Prop := iM σ ∧ (selM bits σ (nM σ 10)).length ≤ 6
noncomputable def S_M_gather : List MV → MSto → Option Prop × Option MV × MSto := fun as σ => match as with
  | [.inr (.inr (some (13, 0))), .inl a0] => (some (p_M_gather a0 σ), none, e_M_gather a0 σ)
  | _ => (some False, none, σ)
noncomputable def E_M_gather : MEnt := ((1, 1, 13), (1, 21, 0, 0), S_M_gather, ((⟨"ClothWithManModel", "gather", "(I)V"⟩ : MethodName), prog_14_method_57_code, 3, none))

def T_M_gather : Nat → Option (Instr × Nat × List Nat) := fun k => bif Nat.blt k 72 then (bif Nat.blt k 38 then (bif Nat.blt k 16 then (bif Nat.blt k 7 then (bif Nat.blt k 2 then (bif Nat.blt k 1 then (bif Nat.beq k 0 then some (.aload_n 0, 1, []) else none) else (bif Nat.beq k 1 then some (.iconst 0, 2, []) else none)) else (bif Nat.blt k 5 then (bif Nat.beq k 2 then some (.putfield 346, 5, []) else none) else (bif Nat.blt k 6 then (bif Nat.beq k 5 then some (.iconst 0, 6, []) else none) else (bif Nat.beq k 6 then some (.istore_n 2, 7, []) else none)))) else (bif Nat.blt k 9 then (bif Nat.blt k 8 then (bif Nat.beq k 7 then some (.iload_n 2, 8, []) else none) else (bif Nat.beq k 8 then some (.aload_n 0, 9, []) else none)) else (bif Nat.blt k 12 then (bif Nat.beq k 9 then some (.getfield 185, 12, []) else none) else (bif Nat.blt k 15 then (bif Nat.beq k 12 then some (.if_icmp .ge 59, 15, [71]) else none) else (bif Nat.beq k 15 then some (.iload_n 1, 16, []) else none))))) else (bif Nat.blt k 27 then (bif Nat.blt k 20 then (bif Nat.blt k 17 then (bif Nat.beq k 16 then some (.iload_n 2, 17, []) else none) else (bif Nat.beq k 17 then some (.invokestatic 301, 20, []) else none)) else (bif Nat.blt k 23 then (bif Nat.beq k 20 then some (.ifCond .ne 6, 23, [26]) else none) else (bif Nat.blt k 26 then (bif Nat.beq k 23 then some (.goto 42, 26, [65]) else none) else (bif Nat.beq k 26 then some (.aload_n 0, 27, []) else none)))) else (bif Nat.blt k 31 then (bif Nat.blt k 30 then (bif Nat.beq k 27 then some (.getfield 149, 30, []) else none) else (bif Nat.beq k 30 then some (.aload_n 0, 31, []) else none)) else (bif Nat.blt k 34 then (bif Nat.beq k 31 then some (.getfield 346, 34, []) else none) else (bif Nat.blt k 35 then (bif Nat.beq k 34 then some (.aload_n 0, 35, []) else none) else (bif Nat.beq k 35 then some (.getfield 35, 38, []) else none)))))) else (bif Nat.blt k 54 then (bif Nat.blt k 45 then (bif Nat.blt k 40 then (bif Nat.blt k 39 then (bif Nat.beq k 38 then some (.iload_n 2, 39, []) else none) else (bif Nat.beq k 39 then some (.iaload, 40, []) else none)) else (bif Nat.blt k 41 then (bif Nat.beq k 40 then some (.iastore, 41, []) else none) else (bif Nat.blt k 42 then (bif Nat.beq k 41 then some (.aload_n 0, 42, []) else none) else (bif Nat.beq k 42 then some (.getfield 152, 45, []) else none)))) else (bif Nat.blt k 49 then (bif Nat.blt k 46 then (bif Nat.beq k 45 then some (.aload_n 0, 46, []) else none) else (bif Nat.beq k 46 then some (.getfield 346, 49, []) else none)) else (bif Nat.blt k 50 then (bif Nat.beq k 49 then some (.aload_n 0, 50, []) else none) else (bif Nat.blt k 51 then (bif Nat.beq k 50 then some (.iload_n 2, 51, []) else none) else (bif Nat.beq k 51 then some (.invokevirtual 304, 54, []) else none))))) else (bif Nat.blt k 61 then (bif Nat.blt k 56 then (bif Nat.blt k 55 then (bif Nat.beq k 54 then some (.iastore, 55, []) else none) else (bif Nat.beq k 55 then some (.aload_n 0, 56, []) else none)) else (bif Nat.blt k 57 then (bif Nat.beq k 56 then some (.dup, 57, []) else none) else (bif Nat.blt k 60 then (bif Nat.beq k 57 then some (.getfield 346, 60, []) else none) else (bif Nat.beq k 60 then some (.iconst 1, 61, []) else none)))) else (bif Nat.blt k 65 then (bif Nat.blt k 62 then (bif Nat.beq k 61 then some (.iadd, 62, []) else none) else (bif Nat.beq k 62 then some (.putfield 346, 65, []) else none)) else (bif Nat.blt k 68 then (bif Nat.beq k 65 then some (.iinc 2 1, 68, []) else none) else (bif Nat.blt k 71 then (bif Nat.beq k 68 then some (.goto (-61), 71, [7]) else none) else (bif Nat.beq k 71 then some (.return_, 72, []) else none))))))) else none
noncomputable def P_M_gather : MP := (T_M_gather, (fun k => mLook k [(35, (13, 11, (.array .int), true)), (149, (13, 64, (.array .int), true)), (152, (13, 65, (.array .int), true)), (185, (13, 10, .int, false)), (346, (13, 66, .int, false))]), (fun k => mLook k []), (fun k => mLook k [(301, E_M_has), (304, E_M_cleared)]), (fun k => mLook k []), (fun k => mLook k []), (fun k => mLook k []), (fun k => mLook k [(7, [true, true, true])]), (fun k => [71].any (Nat.beq k)), (1, 21, 0, 0), false, (fun _ => none))
set_option maxRecDepth 100000 in
set_option maxHeartbeats 4000000 in
theorem q_M_gather_e (a1 : Int32) (σ : MSto) (n : Nat) : mexe KT P_M_gather (n + 1) (0, [some (mR 13 0), some (mI a1), none], [], σ, 0, 0) = mexe KT P_M_gather n (7, [some (mR 13 0), some (mI a1), some (mI 0)], [], (sI σ 13 0 66 0), 0, 0) := rfl
set_option maxRecDepth 100000 in
set_option maxHeartbeats 4000000 in
theorem q_M_gather_7 (x1 : Int32) (x2 : Int32) (σ : MSto) (n : Nat) : mexe KT P_M_gather (n + 1) (7, [some (mR 13 0), some (mI x1), some (mI x2)], [], σ, 0, 0) = mIf ((gI σ 13 0 10) ≤ x2) (some (71, [], [], σ, 0, 0)) (mIf ((v_M_has x1 x2 σ) = 0) (mexe KT P_M_gather n (7, [some (mR 13 0), some (mI x1), some (mI (x2 + 1))], [], σ, 0, 0)) (mG (vp_in x2 12) (mG (vp_in (gI σ 13 0 66) 6) (mG (p_M_cleared x2 (sI σ 83 0 (Int32.toNatClampNeg (gI σ 13 0 66)) (gI σ 47 0 (Int32.toNatClampNeg x2)))) (mG (vp_in (gI (sI σ 83 0 (Int32.toNatClampNeg (gI σ 13 0 66)) (gI σ 47 0 (Int32.toNatClampNeg x2))) 13 0 66) 6) (mexe KT P_M_gather n (7, [some (mR 13 0), some (mI x1), some (mI (x2 + 1))], [], (sI (sI (sI σ 83 0 (Int32.toNatClampNeg (gI σ 13 0 66)) (gI σ 47 0 (Int32.toNatClampNeg x2))) 84 0 (Int32.toNatClampNeg (gI (sI σ 83 0 (Int32.toNatClampNeg (gI σ 13 0 66)) (gI σ 47 0 (Int32.toNatClampNeg x2))) 13 0 66)) (v_M_cleared x2 (sI σ 83 0 (Int32.toNatClampNeg (gI σ 13 0 66)) (gI σ 47 0 (Int32.toNatClampNeg x2))))) 13 0 66 ((gI (sI (sI σ 83 0 (Int32.toNatClampNeg (gI σ 13 0 66)) (gI σ 47 0 (Int32.toNatClampNeg x2))) 84 0 (Int32.toNatClampNeg (gI (sI σ 83 0 (Int32.toNatClampNeg (gI σ 13 0 66)) (gI σ 47 0 (Int32.toNatClampNeg x2))) 13 0 66)) (v_M_cleared x2 (sI σ 83 0 (Int32.toNatClampNeg (gI σ 13 0 66)) (gI σ 47 0 (Int32.toNatClampNeg x2))))) 13 0 66) + 1)), 0, 0))))))) := rfl
set_option maxRecDepth 100000 in
set_option maxHeartbeats 4000000 in
theorem d_M_gather (a1 : Int32) (σ : MSto) (hp : p_M_gather a1 σ) : mW1 P_M_gather (0, [some (mR 13 0), some (mI a1), none], [], σ, 0, 0) (mF [71] [] (e_M_gather a1 σ) 0 0) := by
  obtain ⟨hi, h6⟩ := hp
  have hc := hi.c.2.2.1
  refine mW1_eq (q_M_gather_e _ _) ?_
  try simp only [bI_0]
  refine mTr_l (mW1_loop (fun i => (7, [some (mR 13 0), some (mI a1), some (mI (nI i))], [], g_M_gather (selM a1 σ i) σ, 0, 0)) (nM σ 10) (fun i hlt hn => ?_) ?_) ?_
  · refine mW1_eq (q_M_gather_7 _ _ _) ?_
    refine mTr_f (cnt_ge hc (by omega) hlt) ?_
    obtain ⟨h1, h2, h3⟩ := pI hi hlt
    refine mTr_if (fun g => ?_) (fun g => ?_)
    · exact mTr_l hn (by rw [nI_s, selM_0 (σ := σ) g])
    · have hL : selM a1 σ (i + 1) = selM a1 σ i ++ [i] := selM_1 g
      have hm := selM_mono (bits := a1) (σ := σ) (i := i + 1) (j := nM σ 10) (by omega)
      rw [hL, List.length_append, List.length_singleton] at hm
      have e1 : gI (g_M_gather (selM a1 σ i) σ) 13 0 66 = nI (selM a1 σ i).length := rfl
      have v6 : vp_in (nI (selM a1 σ i).length) 6 := nI_inb (by omega) (by decide)
      refine mTr_g h3 (mTr_g v6 (mTr_g (pc_cleared hi hlt) (mTr_g v6 ?_)))
      refine mTr_l hn ?_
      rw [nI_s, hL]
      have e2 : ∀ (x y : Int32) (k : Nat), gI (sI (sI (g_M_gather (selM a1 σ i) σ) 83 0 k x) 84 0 k y) 13 0 66 = nI (selM a1 σ i).length := fun _ _ _ => rfl
      have e3 : ∀ (x : Int32) (k : Nat), gI (sI (g_M_gather (selM a1 σ i) σ) 83 0 k x) 13 0 66 = nI (selM a1 σ i).length := fun _ _ => rfl
      have e4 : ∀ (x : Int32) (k : Nat), v_M_cleared (nI i) (sI (g_M_gather (selM a1 σ i) σ) 83 0 k x) = v_M_cleared (nI i) σ := fun _ _ => rfl
      have e5 : gI (g_M_gather (selM a1 σ i) σ) 47 0 i = gI σ 47 0 i := rfl
      rw [e1, h2, nI_cl (i := (selM a1 σ i).length) (by omega), e3, nI_cl (i := (selM a1 σ i).length) (by omega), e2, e4, e5, nI_s]
      unfold g_M_gather
      clear hn g hL hm e1 e2 e3 e4 e5 v6 hc h1 h2 h3 hi h6 hlt
      generalize selM a1 σ i = L
      congr 4
      refine sto_ext (fun k i j => ?_) (fun k i j => ?_) (fun k i j => ?_) (fun k => ?_)
      all_goals try rfl
      simp only [gI_sI, gI_fI, w_M_px, w_M_pn, List.length_append, List.length_singleton, getD_app]
      generalize L.length = n
      by_cases q1 : k = 84
      · subst q1; rcases Nat.lt_trichotomy j n with q | q | q <;> grind
      · by_cases q2 : k = 83
        · subst q2; rcases Nat.lt_trichotomy j n with q | q | q <;> grind
        · grind
  · refine mW1_eq (q_M_gather_7 _ _ _) ?_
    refine mTr_t (cnt_le hc) ?_
    exact mTr_e (by decide) rfl rfl (by decide) (by decide)
  · show (7, _, _, sI σ 13 0 66 0, 0, 0) = _
    unfold g_M_gather
    show _ = (7, _, _, sI (fI (fI σ 83 0 _ 0) 84 0 _ 0) 13 0 66 (nI 0), 0, 0)
    rw [fI_0, fI_0]
    rfl


theorem tk_M_gather : ∀ pc i nx tg, T_M_gather pc = some (i, nx, tg) → mOkB prog_14_method_57_code pc i nx tg = true := code_ok (N := 72) (fun k h => by unfold T_M_gather; rw [h]; rfl) (by decide +kernel)
theorem ok_M_gather (l : Launch) : mPOK l "ClothWithManModel" prog_14_method_57_code P_M_gather := by
  refine ⟨tk_M_gather, ?_, ?_, ?_, (fun pc i nx tg kd _ h => by cases h), ?_, ?_, fun pc en h => by cases h⟩
  · intro x ci f ty fin h
    exact mLook_all (Q := fun x v => mFOK "ClothWithManModel" x v.1 v.2.1 v.2.2.1 v.2.2.2 ∧ (v.2.2.2 = true → pIni P_M_gather = true → (Cond.fieldLink "ClothWithManModel" x (((mCl[v.1]?).getD ("", fun _ => ("", "", "", false), 0)).2.1 v.2.1).1 (((mCl[v.1]?).getD ("", fun _ => ("", "", "", false), 0)).2.1 v.2.1).2.1 (((mCl[v.1]?).getD ("", fun _ => ("", "", "", false), 0)).2.1 v.2.1).2.2.1 ∈ lw_tbl ∧ (((mCl[v.1]?).getD ("", fun _ => ("", "", "", false), 0)).2.1 v.2.1).1 = "ClothWithManModel"))) (fcC ⟨fo_M_35, fun h1 h2 => by cases h2⟩ (fcC ⟨fo_M_149, fun h1 h2 => by cases h2⟩ (fcC ⟨fo_M_152, fun h1 h2 => by cases h2⟩ (fcC ⟨fo_M_185, fun h1 h2 => by cases h1⟩ (fcC ⟨fo_M_346, fun h1 h2 => by cases h1⟩ fcN))))) x (ci, f, ty, fin) h
  · intro x
    have hh := mLook_all (l := ([] : List (Nat × (Int32 ⊕ Int64)))) (Q := fun x (v : Int32 ⊕ Int64) => (∀ w, v = .inl w → Cond.constant "ClothWithManModel" x w ∈ lw_tbl) ∧ (∀ w, v = .inr w → Cond.constantLong "ClothWithManModel" x w ∈ lw_tbl)) fcN x
    exact ⟨fun w h => (hh _ h).1 w rfl, fun w h => (hh _ h).2 w rfl⟩
  · exact fun x en h => mLook_all (Q := fun x en => mLink "ClothWithManModel" x en ∧ mCtr l en ∧ (en.1.1 = 2 → en.2.2.2.2.2.2 = none)) (fcC ⟨li_M_301, c_M_has l, (fun h => by cases h)⟩ (fcC ⟨li_M_304, c_M_cleared l, (fun h => by cases h)⟩ fcN)) x en h
  · exact fun x kd h => mLook_all (Q := fun x kd => (kd = 95 ∧ Cond.fieldLink "ClothWithManModel" x "ClothWithMan" "LIKENESSES" "[I" ∈ lw_tbl) ∨ (kd = 96 ∧ Cond.fieldLink "ClothWithManModel" x "ClothWithMan" "APART_BOUNDS" "[I" ∈ lw_tbl)) fcN x kd h
  · exact fun x ci h => mLook_all (Q := fun x ci => ci ≠ 0 ∧ ∃ (C : String) (T : u_T) (N : Nat), mCl[ci]? = some (C, T, N) ∧ Cond.classLink "ClothWithManModel" x C ∈ lw_tbl ∧ Cond.instantiable C N ∈ lw_tbl) fcN x ci h
set_option maxRecDepth 100000 in
theorem c_M_gather (l : Launch) : mCtr l E_M_gather := mCtr_of (P := P_M_gather) (own := "ClothWithManModel") mLay_ok rfl (by decide +kernel) rfl (ok_M_gather l) (fun h => by cases h) (fun as σ pr rv σ' hF hpr hlv => by
  unfold E_M_gather S_M_gather at hF
  simp only [] at hF
  split at hF
  · cases hF
    obtain ⟨n, pcF, c1, s1, g1, g2, g3, g4⟩ := mF_inv (d_M_gather _ σ (hpr _ rfl))
    exact ⟨Nat.le_of_ble_eq_true rfl, (fun v h => by cases h), n, pcF, c1, s1, g1, mEnd_of (i := .return_) (P := P_M_gather) (rets := [71]) rfl g2, g3, g4⟩
  · cases hF
    exact (hpr _ rfl).elim)
/-! ClothWithManModel.slopeUp()J -/
noncomputable def w_M_sxy (σ : MSto) (k : Nat) : Int64 := Int32.toInt64 (gI σ 83 0 k) * Int32.toInt64 (gI σ 84 0 k)
noncomputable def w_M_sx (σ : MSto) (k : Nat) : Int64 := Int32.toInt64 (gI σ 83 0 k)
noncomputable def w_M_sy (σ : MSto) (k : Nat) : Int64 := Int32.toInt64 (gI σ 84 0 k)
noncomputable def v_M_slopeUp (σ : MSto) : Int64 := Int32.toInt64 (gI σ 13 0 66) * sumJ (w_M_sxy σ) (nM σ 66) - sumJ (w_M_sx σ) (nM σ 66) * sumJ (w_M_sy σ) (nM σ 66)
def p_M_slopeUp (σ : MSto) : Prop := cM σ 66 6
noncomputable def S_M_slopeUp : List MV → MSto → Option Prop × Option MV × MSto := fun as σ => match as with
  | [.inr (.inr (some (13, 0)))] => (some (p_M_slopeUp σ), some (mJ (v_M_slopeUp σ)), σ)
  | _ => (some False, none, σ)
noncomputable def E_M_slopeUp : MEnt := ((1, 0, 13), (0, 0, 0, 0), S_M_slopeUp, ((⟨"ClothWithManModel", "slopeUp", "()J"⟩ : MethodName), prog_14_method_58_code, 8, (some .long)))

def T_M_slopeUp : Nat → Option (Instr × Nat × List Nat) := fun k => bif Nat.blt k 82 then (bif Nat.blt k 40 then (bif Nat.blt k 20 then (bif Nat.blt k 7 then (bif Nat.blt k 3 then (bif Nat.blt k 1 then (bif Nat.beq k 0 then some (.lconst 0, 1, []) else none) else (bif Nat.blt k 2 then (bif Nat.beq k 1 then some (.lstore_n 1, 2, []) else none) else (bif Nat.beq k 2 then some (.lconst 0, 3, []) else none))) else (bif Nat.blt k 4 then (bif Nat.beq k 3 then some (.lstore_n 3, 4, []) else none) else (bif Nat.blt k 5 then (bif Nat.beq k 4 then some (.lconst 0, 5, []) else none) else (bif Nat.beq k 5 then some (.lstore 5, 7, []) else none)))) else (bif Nat.blt k 12 then (bif Nat.blt k 8 then (bif Nat.beq k 7 then some (.iconst 0, 8, []) else none) else (bif Nat.blt k 10 then (bif Nat.beq k 8 then some (.istore 7, 10, []) else none) else (bif Nat.beq k 10 then some (.iload 7, 12, []) else none))) else (bif Nat.blt k 16 then (bif Nat.blt k 13 then (bif Nat.beq k 12 then some (.aload_n 0, 13, []) else none) else (bif Nat.beq k 13 then some (.getfield 346, 16, []) else none)) else (bif Nat.blt k 19 then (bif Nat.beq k 16 then some (.if_icmp .ge 53, 19, [69]) else none) else (bif Nat.beq k 19 then some (.lload_n 1, 20, []) else none))))) else (bif Nat.blt k 32 then (bif Nat.blt k 26 then (bif Nat.blt k 21 then (bif Nat.beq k 20 then some (.aload_n 0, 21, []) else none) else (bif Nat.blt k 24 then (bif Nat.beq k 21 then some (.getfield 149, 24, []) else none) else (bif Nat.beq k 24 then some (.iload 7, 26, []) else none))) else (bif Nat.blt k 28 then (bif Nat.blt k 27 then (bif Nat.beq k 26 then some (.iaload, 27, []) else none) else (bif Nat.beq k 27 then some (.i2l, 28, []) else none)) else (bif Nat.blt k 29 then (bif Nat.beq k 28 then some (.aload_n 0, 29, []) else none) else (bif Nat.beq k 29 then some (.getfield 152, 32, []) else none)))) else (bif Nat.blt k 36 then (bif Nat.blt k 34 then (bif Nat.beq k 32 then some (.iload 7, 34, []) else none) else (bif Nat.blt k 35 then (bif Nat.beq k 34 then some (.iaload, 35, []) else none) else (bif Nat.beq k 35 then some (.i2l, 36, []) else none))) else (bif Nat.blt k 38 then (bif Nat.blt k 37 then (bif Nat.beq k 36 then some (.lmul, 37, []) else none) else (bif Nat.beq k 37 then some (.ladd, 38, []) else none)) else (bif Nat.blt k 39 then (bif Nat.beq k 38 then some (.lstore_n 1, 39, []) else none) else (bif Nat.beq k 39 then some (.lload_n 3, 40, []) else none)))))) else (bif Nat.blt k 60 then (bif Nat.blt k 49 then (bif Nat.blt k 46 then (bif Nat.blt k 41 then (bif Nat.beq k 40 then some (.aload_n 0, 41, []) else none) else (bif Nat.blt k 44 then (bif Nat.beq k 41 then some (.getfield 149, 44, []) else none) else (bif Nat.beq k 44 then some (.iload 7, 46, []) else none))) else (bif Nat.blt k 47 then (bif Nat.beq k 46 then some (.iaload, 47, []) else none) else (bif Nat.blt k 48 then (bif Nat.beq k 47 then some (.i2l, 48, []) else none) else (bif Nat.beq k 48 then some (.ladd, 49, []) else none)))) else (bif Nat.blt k 53 then (bif Nat.blt k 50 then (bif Nat.beq k 49 then some (.lstore_n 3, 50, []) else none) else (bif Nat.blt k 52 then (bif Nat.beq k 50 then some (.lload 5, 52, []) else none) else (bif Nat.beq k 52 then some (.aload_n 0, 53, []) else none))) else (bif Nat.blt k 58 then (bif Nat.blt k 56 then (bif Nat.beq k 53 then some (.getfield 152, 56, []) else none) else (bif Nat.beq k 56 then some (.iload 7, 58, []) else none)) else (bif Nat.blt k 59 then (bif Nat.beq k 58 then some (.iaload, 59, []) else none) else (bif Nat.beq k 59 then some (.i2l, 60, []) else none))))) else (bif Nat.blt k 74 then (bif Nat.blt k 66 then (bif Nat.blt k 61 then (bif Nat.beq k 60 then some (.ladd, 61, []) else none) else (bif Nat.blt k 63 then (bif Nat.beq k 61 then some (.lstore 5, 63, []) else none) else (bif Nat.beq k 63 then some (.iinc 7 1, 66, []) else none))) else (bif Nat.blt k 70 then (bif Nat.blt k 69 then (bif Nat.beq k 66 then some (.goto (-56), 69, [10]) else none) else (bif Nat.beq k 69 then some (.aload_n 0, 70, []) else none)) else (bif Nat.blt k 73 then (bif Nat.beq k 70 then some (.getfield 346, 73, []) else none) else (bif Nat.beq k 73 then some (.i2l, 74, []) else none)))) else (bif Nat.blt k 77 then (bif Nat.blt k 75 then (bif Nat.beq k 74 then some (.lload_n 1, 75, []) else none) else (bif Nat.blt k 76 then (bif Nat.beq k 75 then some (.lmul, 76, []) else none) else (bif Nat.beq k 76 then some (.lload_n 3, 77, []) else none))) else (bif Nat.blt k 80 then (bif Nat.blt k 79 then (bif Nat.beq k 77 then some (.lload 5, 79, []) else none) else (bif Nat.beq k 79 then some (.lmul, 80, []) else none)) else (bif Nat.blt k 81 then (bif Nat.beq k 80 then some (.lsub, 81, []) else none) else (bif Nat.beq k 81 then some (.lreturn, 82, []) else none))))))) else none
noncomputable def P_M_slopeUp : MP := (T_M_slopeUp, (fun k => mLook k [(149, (13, 64, (.array .int), true)), (152, (13, 65, (.array .int), true)), (346, (13, 66, .int, false))]), (fun k => mLook k []), (fun k => mLook k []), (fun k => mLook k []), (fun k => mLook k []), (fun k => mLook k []), (fun k => mLook k [(10, [true, true, false, true, false, true, false, true])]), (fun k => [81].any (Nat.beq k)), (0, 0, 0, 0), false, (fun _ => none))
set_option maxRecDepth 100000 in
set_option maxHeartbeats 4000000 in
theorem q_M_slopeUp_e  (σ : MSto) (n : Nat) : mexe KT P_M_slopeUp (n + 1) (0, [some (mR 13 0), none, none, none, none, none, none, none], [], σ, 0, 0) = mexe KT P_M_slopeUp n (10, [some (mR 13 0), some (mJ 0), none, some (mJ 0), none, some (mJ 0), none, some (mI 0)], [], σ, 0, 0) := rfl
set_option maxRecDepth 100000 in
set_option maxHeartbeats 4000000 in
theorem q_M_slopeUp_10 (x1 : Int64) (x3 : Int64) (x5 : Int64) (x7 : Int32) (σ : MSto) (n : Nat) : mexe KT P_M_slopeUp (n + 1) (10, [some (mR 13 0), some (mJ x1), none, some (mJ x3), none, some (mJ x5), none, some (mI x7)], [], σ, 0, 0) = mIf ((gI σ 13 0 66) ≤ x7) (some (81, [], [(mJ (((Int32.toInt64 (gI σ 13 0 66)) * x1) - (x3 * x5)))], σ, 0, 0)) (mG (vp_in x7 6) (mG (vp_in x7 6) (mG (vp_in x7 6) (mG (vp_in x7 6) (mexe KT P_M_slopeUp n (10, [some (mR 13 0), some (mJ (x1 + ((Int32.toInt64 (gI σ 83 0 (Int32.toNatClampNeg x7))) * (Int32.toInt64 (gI σ 84 0 (Int32.toNatClampNeg x7)))))), none, some (mJ (x3 + (Int32.toInt64 (gI σ 83 0 (Int32.toNatClampNeg x7))))), none, some (mJ (x5 + (Int32.toInt64 (gI σ 84 0 (Int32.toNatClampNeg x7))))), none, some (mI (x7 + 1))], [], σ, 0, 0)))))) := rfl
set_option maxRecDepth 100000 in
set_option maxHeartbeats 4000000 in
theorem d_M_slopeUp  (σ : MSto) (hp : p_M_slopeUp σ) : mW1 P_M_slopeUp (0, [some (mR 13 0), none, none, none, none, none, none, none], [], σ, 0, 0) (mF [81] [mJ (v_M_slopeUp σ)] σ 0 0) := by
  have hc : cM σ 66 6 := hp
  refine mW1_eq (q_M_slopeUp_e _) ?_
  try simp only [bI_0]
  refine mTr_k (mW1_loop (fun i => (10, [some (mR 13 0), some (mJ (sumJ (w_M_sxy σ) i)), none, some (mJ (sumJ (w_M_sx σ) i)), none, some (mJ (sumJ (w_M_sy σ) i)), none, some (mI (nI i))], [], σ, 0, 0)) (nM σ 66) (fun i hlt hn => ?_) ?_)
  · refine mW1_eq (q_M_slopeUp_10 _ _ _ _ _) ?_
    refine mTr_f (cnt_ge hc (by omega) hlt) ?_
    have h6 : i < 6 := by have := hc.2; omega
    have h3 : vp_in (nI i) 6 := nI_inb h6 (by decide)
    refine mTr_g h3 (mTr_g h3 (mTr_g h3 (mTr_g h3 ?_)))
    exact mTr_l hn (by rw [nI_s, nI_cl (by omega)]; rfl)
  · refine mW1_eq (q_M_slopeUp_10 _ _ _ _ _) ?_
    refine mTr_t (cnt_le hc) ?_
    exact mTr_e (by decide) rfl rfl (by decide) (by decide)
theorem tk_M_slopeUp : ∀ pc i nx tg, T_M_slopeUp pc = some (i, nx, tg) → mOkB prog_14_method_58_code pc i nx tg = true := code_ok (N := 82) (fun k h => by unfold T_M_slopeUp; rw [h]; rfl) (by decide +kernel)
theorem ok_M_slopeUp (l : Launch) : mPOK l "ClothWithManModel" prog_14_method_58_code P_M_slopeUp := by
  refine ⟨tk_M_slopeUp, ?_, ?_, ?_, (fun pc i nx tg kd _ h => by cases h), ?_, ?_, fun pc en h => by cases h⟩
  · intro x ci f ty fin h
    exact mLook_all (Q := fun x v => mFOK "ClothWithManModel" x v.1 v.2.1 v.2.2.1 v.2.2.2 ∧ (v.2.2.2 = true → pIni P_M_slopeUp = true → (Cond.fieldLink "ClothWithManModel" x (((mCl[v.1]?).getD ("", fun _ => ("", "", "", false), 0)).2.1 v.2.1).1 (((mCl[v.1]?).getD ("", fun _ => ("", "", "", false), 0)).2.1 v.2.1).2.1 (((mCl[v.1]?).getD ("", fun _ => ("", "", "", false), 0)).2.1 v.2.1).2.2.1 ∈ lw_tbl ∧ (((mCl[v.1]?).getD ("", fun _ => ("", "", "", false), 0)).2.1 v.2.1).1 = "ClothWithManModel"))) (fcC ⟨fo_M_149, fun h1 h2 => by cases h2⟩ (fcC ⟨fo_M_152, fun h1 h2 => by cases h2⟩ (fcC ⟨fo_M_346, fun h1 h2 => by cases h1⟩ fcN))) x (ci, f, ty, fin) h
  · intro x
    have hh := mLook_all (l := ([] : List (Nat × (Int32 ⊕ Int64)))) (Q := fun x (v : Int32 ⊕ Int64) => (∀ w, v = .inl w → Cond.constant "ClothWithManModel" x w ∈ lw_tbl) ∧ (∀ w, v = .inr w → Cond.constantLong "ClothWithManModel" x w ∈ lw_tbl)) fcN x
    exact ⟨fun w h => (hh _ h).1 w rfl, fun w h => (hh _ h).2 w rfl⟩
  · exact fun x en h => mLook_all (Q := fun x en => mLink "ClothWithManModel" x en ∧ mCtr l en ∧ (en.1.1 = 2 → en.2.2.2.2.2.2 = none)) fcN x en h
  · exact fun x kd h => mLook_all (Q := fun x kd => (kd = 95 ∧ Cond.fieldLink "ClothWithManModel" x "ClothWithMan" "LIKENESSES" "[I" ∈ lw_tbl) ∨ (kd = 96 ∧ Cond.fieldLink "ClothWithManModel" x "ClothWithMan" "APART_BOUNDS" "[I" ∈ lw_tbl)) fcN x kd h
  · exact fun x ci h => mLook_all (Q := fun x ci => ci ≠ 0 ∧ ∃ (C : String) (T : u_T) (N : Nat), mCl[ci]? = some (C, T, N) ∧ Cond.classLink "ClothWithManModel" x C ∈ lw_tbl ∧ Cond.instantiable C N ∈ lw_tbl) fcN x ci h
set_option maxRecDepth 100000 in
theorem c_M_slopeUp (l : Launch) : mCtr l E_M_slopeUp := mCtr_of (P := P_M_slopeUp) (own := "ClothWithManModel") mLay_ok rfl (by decide +kernel) rfl (ok_M_slopeUp l) (fun h => by cases h) (fun as σ pr rv σ' hF hpr hlv => by
  unfold E_M_slopeUp S_M_slopeUp at hF
  simp only [] at hF
  split at hF
  · cases hF
    obtain ⟨n, pcF, c1, s1, g1, g2, g3, g4⟩ := mF_inv (d_M_slopeUp σ (hpr _ rfl))
    exact ⟨Nat.le_of_ble_eq_true rfl, (fun v h => by cases h; trivial), n, pcF, c1, s1, g1, mEnd_of (i := .lreturn) (P := P_M_slopeUp) (rets := [81]) rfl g2, g3, g4⟩
  · cases hF
    exact (hpr _ rfl).elim)
/-! ClothWithManModel.slopeLow()J -/
noncomputable def w_M_sxx (σ : MSto) (k : Nat) : Int64 := Int32.toInt64 (gI σ 83 0 k) * Int32.toInt64 (gI σ 83 0 k)
noncomputable def v_M_slopeLow (σ : MSto) : Int64 := Int32.toInt64 (gI σ 13 0 66) * sumJ (w_M_sxx σ) (nM σ 66) - sumJ (w_M_sx σ) (nM σ 66) * sumJ (w_M_sx σ) (nM σ 66)
def p_M_slopeLow (σ : MSto) : Prop := cM σ 66 6
noncomputable def S_M_slopeLow : List MV → MSto → Option Prop × Option MV × MSto := fun as σ => match as with
  | [.inr (.inr (some (13, 0)))] => (some (p_M_slopeLow σ), some (mJ (v_M_slopeLow σ)), σ)
  | _ => (some False, none, σ)
noncomputable def E_M_slopeLow : MEnt := ((1, 0, 13), (0, 0, 0, 0), S_M_slopeLow, ((⟨"ClothWithManModel", "slopeLow", "()J"⟩ : MethodName), prog_14_method_59_code, 6, (some .long)))

def T_M_slopeLow : Nat → Option (Instr × Nat × List Nat) := fun k => bif Nat.blt k 65 then (bif Nat.blt k 34 then (bif Nat.blt k 17 then (bif Nat.blt k 5 then (bif Nat.blt k 2 then (bif Nat.blt k 1 then (bif Nat.beq k 0 then some (.lconst 0, 1, []) else none) else (bif Nat.beq k 1 then some (.lstore_n 1, 2, []) else none)) else (bif Nat.blt k 3 then (bif Nat.beq k 2 then some (.lconst 0, 3, []) else none) else (bif Nat.blt k 4 then (bif Nat.beq k 3 then some (.lstore_n 3, 4, []) else none) else (bif Nat.beq k 4 then some (.iconst 0, 5, []) else none)))) else (bif Nat.blt k 10 then (bif Nat.blt k 7 then (bif Nat.beq k 5 then some (.istore 5, 7, []) else none) else (bif Nat.blt k 9 then (bif Nat.beq k 7 then some (.iload 5, 9, []) else none) else (bif Nat.beq k 9 then some (.aload_n 0, 10, []) else none))) else (bif Nat.blt k 13 then (bif Nat.beq k 10 then some (.getfield 346, 13, []) else none) else (bif Nat.blt k 16 then (bif Nat.beq k 13 then some (.if_icmp .ge 40, 16, [53]) else none) else (bif Nat.beq k 16 then some (.lload_n 1, 17, []) else none))))) else (bif Nat.blt k 25 then (bif Nat.blt k 21 then (bif Nat.blt k 18 then (bif Nat.beq k 17 then some (.aload_n 0, 18, []) else none) else (bif Nat.beq k 18 then some (.getfield 149, 21, []) else none)) else (bif Nat.blt k 23 then (bif Nat.beq k 21 then some (.iload 5, 23, []) else none) else (bif Nat.blt k 24 then (bif Nat.beq k 23 then some (.iaload, 24, []) else none) else (bif Nat.beq k 24 then some (.i2l, 25, []) else none)))) else (bif Nat.blt k 31 then (bif Nat.blt k 26 then (bif Nat.beq k 25 then some (.aload_n 0, 26, []) else none) else (bif Nat.blt k 29 then (bif Nat.beq k 26 then some (.getfield 149, 29, []) else none) else (bif Nat.beq k 29 then some (.iload 5, 31, []) else none))) else (bif Nat.blt k 32 then (bif Nat.beq k 31 then some (.iaload, 32, []) else none) else (bif Nat.blt k 33 then (bif Nat.beq k 32 then some (.i2l, 33, []) else none) else (bif Nat.beq k 33 then some (.lmul, 34, []) else none)))))) else (bif Nat.blt k 50 then (bif Nat.blt k 41 then (bif Nat.blt k 36 then (bif Nat.blt k 35 then (bif Nat.beq k 34 then some (.ladd, 35, []) else none) else (bif Nat.beq k 35 then some (.lstore_n 1, 36, []) else none)) else (bif Nat.blt k 37 then (bif Nat.beq k 36 then some (.lload_n 3, 37, []) else none) else (bif Nat.blt k 38 then (bif Nat.beq k 37 then some (.aload_n 0, 38, []) else none) else (bif Nat.beq k 38 then some (.getfield 149, 41, []) else none)))) else (bif Nat.blt k 45 then (bif Nat.blt k 43 then (bif Nat.beq k 41 then some (.iload 5, 43, []) else none) else (bif Nat.blt k 44 then (bif Nat.beq k 43 then some (.iaload, 44, []) else none) else (bif Nat.beq k 44 then some (.i2l, 45, []) else none))) else (bif Nat.blt k 46 then (bif Nat.beq k 45 then some (.ladd, 46, []) else none) else (bif Nat.blt k 47 then (bif Nat.beq k 46 then some (.lstore_n 3, 47, []) else none) else (bif Nat.beq k 47 then some (.iinc 5 1, 50, []) else none))))) else (bif Nat.blt k 59 then (bif Nat.blt k 54 then (bif Nat.blt k 53 then (bif Nat.beq k 50 then some (.goto (-43), 53, [7]) else none) else (bif Nat.beq k 53 then some (.aload_n 0, 54, []) else none)) else (bif Nat.blt k 57 then (bif Nat.beq k 54 then some (.getfield 346, 57, []) else none) else (bif Nat.blt k 58 then (bif Nat.beq k 57 then some (.i2l, 58, []) else none) else (bif Nat.beq k 58 then some (.lload_n 1, 59, []) else none)))) else (bif Nat.blt k 62 then (bif Nat.blt k 60 then (bif Nat.beq k 59 then some (.lmul, 60, []) else none) else (bif Nat.blt k 61 then (bif Nat.beq k 60 then some (.lload_n 3, 61, []) else none) else (bif Nat.beq k 61 then some (.lload_n 3, 62, []) else none))) else (bif Nat.blt k 63 then (bif Nat.beq k 62 then some (.lmul, 63, []) else none) else (bif Nat.blt k 64 then (bif Nat.beq k 63 then some (.lsub, 64, []) else none) else (bif Nat.beq k 64 then some (.lreturn, 65, []) else none))))))) else none
noncomputable def P_M_slopeLow : MP := (T_M_slopeLow, (fun k => mLook k [(149, (13, 64, (.array .int), true)), (346, (13, 66, .int, false))]), (fun k => mLook k []), (fun k => mLook k []), (fun k => mLook k []), (fun k => mLook k []), (fun k => mLook k []), (fun k => mLook k [(7, [true, true, false, true, false, true])]), (fun k => [64].any (Nat.beq k)), (0, 0, 0, 0), false, (fun _ => none))
set_option maxRecDepth 100000 in
set_option maxHeartbeats 4000000 in
theorem q_M_slopeLow_e  (σ : MSto) (n : Nat) : mexe KT P_M_slopeLow (n + 1) (0, [some (mR 13 0), none, none, none, none, none], [], σ, 0, 0) = mexe KT P_M_slopeLow n (7, [some (mR 13 0), some (mJ 0), none, some (mJ 0), none, some (mI 0)], [], σ, 0, 0) := rfl
set_option maxRecDepth 100000 in
set_option maxHeartbeats 4000000 in
theorem q_M_slopeLow_7 (x1 : Int64) (x3 : Int64) (x5 : Int32) (σ : MSto) (n : Nat) : mexe KT P_M_slopeLow (n + 1) (7, [some (mR 13 0), some (mJ x1), none, some (mJ x3), none, some (mI x5)], [], σ, 0, 0) = mIf ((gI σ 13 0 66) ≤ x5) (some (64, [], [(mJ (((Int32.toInt64 (gI σ 13 0 66)) * x1) - (x3 * x3)))], σ, 0, 0)) (mG (vp_in x5 6) (mG (vp_in x5 6) (mG (vp_in x5 6) (mexe KT P_M_slopeLow n (7, [some (mR 13 0), some (mJ (x1 + ((Int32.toInt64 (gI σ 83 0 (Int32.toNatClampNeg x5))) * (Int32.toInt64 (gI σ 83 0 (Int32.toNatClampNeg x5)))))), none, some (mJ (x3 + (Int32.toInt64 (gI σ 83 0 (Int32.toNatClampNeg x5))))), none, some (mI (x5 + 1))], [], σ, 0, 0))))) := rfl
set_option maxRecDepth 100000 in
set_option maxHeartbeats 4000000 in
theorem d_M_slopeLow  (σ : MSto) (hp : p_M_slopeLow σ) : mW1 P_M_slopeLow (0, [some (mR 13 0), none, none, none, none, none], [], σ, 0, 0) (mF [64] [mJ (v_M_slopeLow σ)] σ 0 0) := by
  have hc : cM σ 66 6 := hp
  refine mW1_eq (q_M_slopeLow_e _) ?_
  try simp only [bI_0]
  refine mTr_k (mW1_loop (fun i => (7, [some (mR 13 0), some (mJ (sumJ (w_M_sxx σ) i)), none, some (mJ (sumJ (w_M_sx σ) i)), none, some (mI (nI i))], [], σ, 0, 0)) (nM σ 66) (fun i hlt hn => ?_) ?_)
  · refine mW1_eq (q_M_slopeLow_7 _ _ _ _) ?_
    refine mTr_f (cnt_ge hc (by omega) hlt) ?_
    have h6 : i < 6 := by have := hc.2; omega
    have h3 : vp_in (nI i) 6 := nI_inb h6 (by decide)
    refine mTr_g h3 (mTr_g h3 (mTr_g h3 ?_))
    exact mTr_l hn (by rw [nI_s, nI_cl (by omega)]; rfl)
  · refine mW1_eq (q_M_slopeLow_7 _ _ _ _) ?_
    refine mTr_t (cnt_le hc) ?_
    exact mTr_e (by decide) rfl rfl (by decide) (by decide)
theorem tk_M_slopeLow : ∀ pc i nx tg, T_M_slopeLow pc = some (i, nx, tg) → mOkB prog_14_method_59_code pc i nx tg = true := code_ok (N := 65) (fun k h => by unfold T_M_slopeLow; rw [h]; rfl) (by decide +kernel)
theorem ok_M_slopeLow (l : Launch) : mPOK l "ClothWithManModel" prog_14_method_59_code P_M_slopeLow := by
  refine ⟨tk_M_slopeLow, ?_, ?_, ?_, (fun pc i nx tg kd _ h => by cases h), ?_, ?_, fun pc en h => by cases h⟩
  · intro x ci f ty fin h
    exact mLook_all (Q := fun x v => mFOK "ClothWithManModel" x v.1 v.2.1 v.2.2.1 v.2.2.2 ∧ (v.2.2.2 = true → pIni P_M_slopeLow = true → (Cond.fieldLink "ClothWithManModel" x (((mCl[v.1]?).getD ("", fun _ => ("", "", "", false), 0)).2.1 v.2.1).1 (((mCl[v.1]?).getD ("", fun _ => ("", "", "", false), 0)).2.1 v.2.1).2.1 (((mCl[v.1]?).getD ("", fun _ => ("", "", "", false), 0)).2.1 v.2.1).2.2.1 ∈ lw_tbl ∧ (((mCl[v.1]?).getD ("", fun _ => ("", "", "", false), 0)).2.1 v.2.1).1 = "ClothWithManModel"))) (fcC ⟨fo_M_149, fun h1 h2 => by cases h2⟩ (fcC ⟨fo_M_346, fun h1 h2 => by cases h1⟩ fcN)) x (ci, f, ty, fin) h
  · intro x
    have hh := mLook_all (l := ([] : List (Nat × (Int32 ⊕ Int64)))) (Q := fun x (v : Int32 ⊕ Int64) => (∀ w, v = .inl w → Cond.constant "ClothWithManModel" x w ∈ lw_tbl) ∧ (∀ w, v = .inr w → Cond.constantLong "ClothWithManModel" x w ∈ lw_tbl)) fcN x
    exact ⟨fun w h => (hh _ h).1 w rfl, fun w h => (hh _ h).2 w rfl⟩
  · exact fun x en h => mLook_all (Q := fun x en => mLink "ClothWithManModel" x en ∧ mCtr l en ∧ (en.1.1 = 2 → en.2.2.2.2.2.2 = none)) fcN x en h
  · exact fun x kd h => mLook_all (Q := fun x kd => (kd = 95 ∧ Cond.fieldLink "ClothWithManModel" x "ClothWithMan" "LIKENESSES" "[I" ∈ lw_tbl) ∨ (kd = 96 ∧ Cond.fieldLink "ClothWithManModel" x "ClothWithMan" "APART_BOUNDS" "[I" ∈ lw_tbl)) fcN x kd h
  · exact fun x ci h => mLook_all (Q := fun x ci => ci ≠ 0 ∧ ∃ (C : String) (T : u_T) (N : Nat), mCl[ci]? = some (C, T, N) ∧ Cond.classLink "ClothWithManModel" x C ∈ lw_tbl ∧ Cond.instantiable C N ∈ lw_tbl) fcN x ci h
set_option maxRecDepth 100000 in
theorem c_M_slopeLow (l : Launch) : mCtr l E_M_slopeLow := mCtr_of (P := P_M_slopeLow) (own := "ClothWithManModel") mLay_ok rfl (by decide +kernel) rfl (ok_M_slopeLow l) (fun h => by cases h) (fun as σ pr rv σ' hF hpr hlv => by
  unfold E_M_slopeLow S_M_slopeLow at hF
  simp only [] at hF
  split at hF
  · cases hF
    obtain ⟨n, pcF, c1, s1, g1, g2, g3, g4⟩ := mF_inv (d_M_slopeLow σ (hpr _ rfl))
    exact ⟨Nat.le_of_ble_eq_true rfl, (fun v h => by cases h; trivial), n, pcF, c1, s1, g1, mEnd_of (i := .lreturn) (P := P_M_slopeLow) (rets := [64]) rfl g2, g3, g4⟩
  · cases hF
    exact (hpr _ rfl).elim)
/-! ClothWithManModel.sign(I)I -/
noncomputable def u_M_sign (a1 k : Int32) (τ : MSto) : MSto := sI (sI τ 13 0 49 (gI τ 13 0 49 + 1)) 77 0 (gI τ 13 0 49).toNatClampNeg (vp_nar .byte (Int8.toInt32 (Int32.toInt8 (a1 >>> ((8 * k) &&& 31)))))
noncomputable def v_M_sign (a1 : Int32) (σ : MSto) : Int32 := if gI σ 13 0 49 + 4 ≤ 80 then gI σ 13 0 49 + 4 else -1
noncomputable def e_M_sign (a1 : Int32) (σ : MSto) : MSto := if gI σ 13 0 49 + 4 ≤ 80 then u_M_sign a1 0 (u_M_sign a1 1 (u_M_sign a1 2 (u_M_sign a1 3 (e0 σ)))) else e0 σ
def p_M_sign (a1 : Int32) (σ : MSto) : Prop := cM σ 49 80
noncomputable def S_M_sign : List MV → MSto → Option Prop × Option MV × MSto := fun as σ => match as with
  | [.inr (.inr (some (13, 0))), .inl a0] => (some (p_M_sign a0 σ), some (mI (v_M_sign a0 σ)), e_M_sign a0 σ)
  | _ => (some False, none, σ)
noncomputable def E_M_sign : MEnt := ((1, 1, 13), (0, 0, 0, 0), S_M_sign, ((⟨"ClothWithManModel", "sign", "(I)I"⟩ : MethodName), prog_14_method_12_code, 3, (some .int)))

def T_M_sign : Nat → Option (Instr × Nat × List Nat) := fun k => bif Nat.blt k 58 then (bif Nat.blt k 29 then (bif Nat.blt k 16 then (bif Nat.blt k 6 then (bif Nat.blt k 2 then (bif Nat.blt k 1 then (bif Nat.beq k 0 then some (.aload_n 0, 1, []) else none) else (bif Nat.beq k 1 then some (.iconst 0, 2, []) else none)) else (bif Nat.blt k 5 then (bif Nat.beq k 2 then some (.putfield 161, 5, []) else none) else (bif Nat.beq k 5 then some (.aload_n 0, 6, []) else none))) else (bif Nat.blt k 10 then (bif Nat.blt k 9 then (bif Nat.beq k 6 then some (.getfield 191, 9, []) else none) else (bif Nat.beq k 9 then some (.iconst 4, 10, []) else none)) else (bif Nat.blt k 11 then (bif Nat.beq k 10 then some (.iadd, 11, []) else none) else (bif Nat.blt k 13 then (bif Nat.beq k 11 then some (.bipush 80, 13, []) else none) else (bif Nat.beq k 13 then some (.if_icmp .le 5, 16, [18]) else none))))) else (bif Nat.blt k 20 then (bif Nat.blt k 18 then (bif Nat.blt k 17 then (bif Nat.beq k 16 then some (.iconst (-1), 17, []) else none) else (bif Nat.beq k 17 then some (.ireturn, 18, []) else none)) else (bif Nat.blt k 19 then (bif Nat.beq k 18 then some (.iconst 3, 19, []) else none) else (bif Nat.beq k 19 then some (.istore_n 2, 20, []) else none))) else (bif Nat.blt k 24 then (bif Nat.blt k 21 then (bif Nat.beq k 20 then some (.iload_n 2, 21, []) else none) else (bif Nat.beq k 21 then some (.ifCond .lt 32, 24, [53]) else none)) else (bif Nat.blt k 25 then (bif Nat.beq k 24 then some (.aload_n 0, 25, []) else none) else (bif Nat.blt k 28 then (bif Nat.beq k 25 then some (.getfield 129, 28, []) else none) else (bif Nat.beq k 28 then some (.aload_n 0, 29, []) else none)))))) else (bif Nat.blt k 43 then (bif Nat.blt k 35 then (bif Nat.blt k 33 then (bif Nat.blt k 30 then (bif Nat.beq k 29 then some (.dup, 30, []) else none) else (bif Nat.beq k 30 then some (.getfield 191, 33, []) else none)) else (bif Nat.blt k 34 then (bif Nat.beq k 33 then some (.dup_x1, 34, []) else none) else (bif Nat.beq k 34 then some (.iconst 1, 35, []) else none))) else (bif Nat.blt k 39 then (bif Nat.blt k 36 then (bif Nat.beq k 35 then some (.iadd, 36, []) else none) else (bif Nat.beq k 36 then some (.putfield 191, 39, []) else none)) else (bif Nat.blt k 40 then (bif Nat.beq k 39 then some (.iload_n 1, 40, []) else none) else (bif Nat.blt k 42 then (bif Nat.beq k 40 then some (.bipush 8, 42, []) else none) else (bif Nat.beq k 42 then some (.iload_n 2, 43, []) else none))))) else (bif Nat.blt k 47 then (bif Nat.blt k 45 then (bif Nat.blt k 44 then (bif Nat.beq k 43 then some (.imul, 44, []) else none) else (bif Nat.beq k 44 then some (.ishr, 45, []) else none)) else (bif Nat.blt k 46 then (bif Nat.beq k 45 then some (.i2b, 46, []) else none) else (bif Nat.beq k 46 then some (.bastore, 47, []) else none))) else (bif Nat.blt k 53 then (bif Nat.blt k 50 then (bif Nat.beq k 47 then some (.iinc 2 (-1), 50, []) else none) else (bif Nat.beq k 50 then some (.goto (-30), 53, [20]) else none)) else (bif Nat.blt k 54 then (bif Nat.beq k 53 then some (.aload_n 0, 54, []) else none) else (bif Nat.blt k 57 then (bif Nat.beq k 54 then some (.getfield 191, 57, []) else none) else (bif Nat.beq k 57 then some (.ireturn, 58, []) else none))))))) else none
noncomputable def P_M_sign : MP := (T_M_sign, (fun k => mLook k [(129, (13, 48, (.array .byte), true)), (161, (13, 52, .int, false)), (191, (13, 49, .int, false))]), (fun k => mLook k []), (fun k => mLook k []), (fun k => mLook k []), (fun k => mLook k []), (fun k => mLook k []), (fun k => mLook k [(20, [true, true, true])]), (fun k => [17, 57].any (Nat.beq k)), (0, 0, 0, 0), false, (fun _ => none))
set_option maxRecDepth 100000 in
set_option maxHeartbeats 4000000 in
theorem q_M_sign_e (a1 : Int32) (σ : MSto) (n : Nat) : mexe KT P_M_sign (n + 1) (0, [some (mR 13 0), some (mI a1), none], [], σ, 0, 0) = mIf (((gI (sI σ 13 0 52 0) 13 0 49) + 4) ≤ 80) (mexe KT P_M_sign n (20, [some (mR 13 0), some (mI a1), some (mI 3)], [], (sI σ 13 0 52 0), 0, 0)) (some (17, [], [(mI (-1))], (sI σ 13 0 52 0), 0, 0)) := rfl
set_option maxRecDepth 100000 in
set_option maxHeartbeats 4000000 in
theorem q_M_sign_20 (x1 : Int32) (x2 : Int32) (σ : MSto) (n : Nat) : mexe KT P_M_sign (n + 1) (20, [some (mR 13 0), some (mI x1), some (mI x2)], [], σ, 0, 0) = mIf (x2 < 0) (some (57, [], [(mI (gI σ 13 0 49))], σ, 0, 0)) (mG (vp_in (gI σ 13 0 49) 80) (mexe KT P_M_sign n (20, [some (mR 13 0), some (mI x1), some (mI (x2 + (-1)))], [], (sI (sI σ 13 0 49 ((gI σ 13 0 49) + 1)) 77 0 (Int32.toNatClampNeg (gI σ 13 0 49)) (vp_nar .byte (Int8.toInt32 (Int32.toInt8 (x1 >>> ((8 * x2) &&& 31)))))), 0, 0))) := rfl
set_option maxRecDepth 100000 in
set_option maxHeartbeats 4000000 in
theorem d_M_sign (a1 : Int32) (σ : MSto) (hp : p_M_sign a1 σ) : mW1 P_M_sign (0, [some (mR 13 0), some (mI a1), none], [], σ, 0, 0) (mF [17, 57] [mI (v_M_sign a1 σ)] (e_M_sign a1 σ) 0 0) := by
  obtain ⟨h1, h2⟩ : cM σ 49 80 := hp
  refine mW1_eq (q_M_sign_e _ _) ?_
  try simp only [bI_0]
  refine mTr_if (fun g => ?_) (fun g => ?_)
  · have g' : gI σ 13 0 49 + 4 ≤ 80 := g
    have h4 : nM σ 49 + 4 ≤ 80 := by
      rw [h1, nA] at g'
      exact (leN (by omega) (by decide)).mp g'
    have E : ∀ k τ, gI (u_M_sign a1 k τ) 13 0 49 = gI τ 13 0 49 + 1 := fun _ _ => rfl
    have b0 : gI (e0 σ) 13 0 49 = nI (nM σ 49) := h1
    have b1 : gI (u_M_sign a1 3 (e0 σ)) 13 0 49 = nI (nM σ 49 + 1) := by rw [E, b0, nI_s]
    have b2 : gI (u_M_sign a1 2 (u_M_sign a1 3 (e0 σ))) 13 0 49 = nI (nM σ 49 + 1 + 1) := by rw [E, b1, nI_s]
    have b3 : gI (u_M_sign a1 1 (u_M_sign a1 2 (u_M_sign a1 3 (e0 σ)))) 13 0 49 = nI (nM σ 49 + 1 + 1 + 1) := by rw [E, b2, nI_s]
    have b4 : gI (u_M_sign a1 0 (u_M_sign a1 1 (u_M_sign a1 2 (u_M_sign a1 3 (e0 σ))))) 13 0 49 = nI (nM σ 49 + 1 + 1 + 1 + 1) := by rw [E, b3, nI_s]
    refine mW1_eq (q_M_sign_20 _ _ _) ?_
    refine mTr_f (by decide) ?_
    refine mTr_g (by rw [b0]; exact nI_inb (by omega) (by decide)) ?_
    refine mW1_eq (q_M_sign_20 _ _ _) ?_
    refine mTr_f (by decide) ?_
    refine mTr_g (show vp_in (gI (u_M_sign a1 3 (e0 σ)) 13 0 49) 80 by rw [b1]; exact nI_inb (by omega) (by decide)) ?_
    refine mW1_eq (q_M_sign_20 _ _ _) ?_
    refine mTr_f (by decide) ?_
    refine mTr_g (show vp_in (gI (u_M_sign a1 2 (u_M_sign a1 3 (e0 σ))) 13 0 49) 80 by rw [b2]; exact nI_inb (by omega) (by decide)) ?_
    refine mW1_eq (q_M_sign_20 _ _ _) ?_
    refine mTr_f (by decide) ?_
    refine mTr_g (show vp_in (gI (u_M_sign a1 1 (u_M_sign a1 2 (u_M_sign a1 3 (e0 σ)))) 13 0 49) 80 by rw [b3]; exact nI_inb (by omega) (by decide)) ?_
    refine mW1_eq (q_M_sign_20 _ _ _) ?_
    refine mTr_t (by decide) ?_
    refine mTr_e (by decide) ?_ ?_ (by decide) (by decide)
    · refine congrArg (fun x => [mI x]) ?_
      refine b4.trans ?_
      rw [v_M_sign, if_pos g', h1, nA]
    · rw [e_M_sign, if_pos g']; rfl
  · have g' : ¬ gI σ 13 0 49 + 4 ≤ 80 := g
    exact mTr_e (by decide) (by rw [v_M_sign, if_neg g']) (by rw [e_M_sign, if_neg g']) (by decide) (by decide)
theorem tk_M_sign : ∀ pc i nx tg, T_M_sign pc = some (i, nx, tg) → mOkB prog_14_method_12_code pc i nx tg = true := code_ok (N := 58) (fun k h => by unfold T_M_sign; rw [h]; rfl) (by decide +kernel)
theorem ok_M_sign (l : Launch) : mPOK l "ClothWithManModel" prog_14_method_12_code P_M_sign := by
  refine ⟨tk_M_sign, ?_, ?_, ?_, (fun pc i nx tg kd _ h => by cases h), ?_, ?_, fun pc en h => by cases h⟩
  · intro x ci f ty fin h
    exact mLook_all (Q := fun x v => mFOK "ClothWithManModel" x v.1 v.2.1 v.2.2.1 v.2.2.2 ∧ (v.2.2.2 = true → pIni P_M_sign = true → (Cond.fieldLink "ClothWithManModel" x (((mCl[v.1]?).getD ("", fun _ => ("", "", "", false), 0)).2.1 v.2.1).1 (((mCl[v.1]?).getD ("", fun _ => ("", "", "", false), 0)).2.1 v.2.1).2.1 (((mCl[v.1]?).getD ("", fun _ => ("", "", "", false), 0)).2.1 v.2.1).2.2.1 ∈ lw_tbl ∧ (((mCl[v.1]?).getD ("", fun _ => ("", "", "", false), 0)).2.1 v.2.1).1 = "ClothWithManModel"))) (fcC ⟨fo_M_129, fun h1 h2 => by cases h2⟩ (fcC ⟨fo_M_161, fun h1 h2 => by cases h1⟩ (fcC ⟨fo_M_191, fun h1 h2 => by cases h1⟩ fcN))) x (ci, f, ty, fin) h
  · intro x
    have hh := mLook_all (l := ([] : List (Nat × (Int32 ⊕ Int64)))) (Q := fun x (v : Int32 ⊕ Int64) => (∀ w, v = .inl w → Cond.constant "ClothWithManModel" x w ∈ lw_tbl) ∧ (∀ w, v = .inr w → Cond.constantLong "ClothWithManModel" x w ∈ lw_tbl)) fcN x
    exact ⟨fun w h => (hh _ h).1 w rfl, fun w h => (hh _ h).2 w rfl⟩
  · exact fun x en h => mLook_all (Q := fun x en => mLink "ClothWithManModel" x en ∧ mCtr l en ∧ (en.1.1 = 2 → en.2.2.2.2.2.2 = none)) fcN x en h
  · exact fun x kd h => mLook_all (Q := fun x kd => (kd = 95 ∧ Cond.fieldLink "ClothWithManModel" x "ClothWithMan" "LIKENESSES" "[I" ∈ lw_tbl) ∨ (kd = 96 ∧ Cond.fieldLink "ClothWithManModel" x "ClothWithMan" "APART_BOUNDS" "[I" ∈ lw_tbl)) fcN x kd h
  · exact fun x ci h => mLook_all (Q := fun x ci => ci ≠ 0 ∧ ∃ (C : String) (T : u_T) (N : Nat), mCl[ci]? = some (C, T, N) ∧ Cond.classLink "ClothWithManModel" x C ∈ lw_tbl ∧ Cond.instantiable C N ∈ lw_tbl) fcN x ci h
set_option maxRecDepth 100000 in
theorem c_M_sign (l : Launch) : mCtr l E_M_sign := mCtr_of (P := P_M_sign) (own := "ClothWithManModel") mLay_ok rfl (by decide +kernel) rfl (ok_M_sign l) (fun h => by cases h) (fun as σ pr rv σ' hF hpr hlv => by
  unfold E_M_sign S_M_sign at hF
  simp only [] at hF
  split at hF
  · cases hF
    obtain ⟨n, pcF, c1, s1, g1, g2, g3, g4⟩ := mF_inv (d_M_sign _ σ (hpr _ rfl))
    exact ⟨Nat.le_of_ble_eq_true rfl, (fun v h => by cases h; trivial), n, pcF, c1, s1, g1, ⟨mEnd_of (i := .ireturn) (P := P_M_sign) (rets := [17, 57]) rfl g2, rfl⟩, g3, g4⟩
  · cases hF
    exact (hpr _ rfl).elim)

