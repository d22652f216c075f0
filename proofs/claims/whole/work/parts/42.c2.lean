/-! ClothWithMan$Text.append(I)I -/
noncomputable def tj_Te_append_14j35 (x1 : Int32) (x2 : Int32) (σ : MSto) (s : Int32 × MSto) : Int32 × MSto := ((x2 + (-8)), (sI σ 10 0 1 ((gI σ 10 0 1) + 1)))
noncomputable def qj_Te_append_14j35 (x1 : Int32) (x2 : Int32) (σ : MSto) : Nat := 0
noncomputable def t_Te_append_14 (x1 : Int32) (s : Int32 × MSto) : Int32 × MSto := (if (s.1) < 0 then s else (tj_Te_append_14j35 x1 (s.1) (sI (s.2) 33 0 (Int32.toNatClampNeg (gI (s.2) 10 0 1)) (vp_nar .char (UInt32.toInt32 (Int32.toUInt32 ((Int32.toUInt32 x1 >>> (Int32.toUInt32 (s.1) &&& Int32.toUInt32 31)).toInt32 &&& 255) % 65536)))) s))
noncomputable def q_Te_append_14s (x1 : Int32) (s : Int32 × MSto) : Nat := (if (s.1) < 0 then 1 else 0)
def g_Te_append_14 (x1 : Int32) (s : Int32 × MSto) : Prop := (¬ ((s.1) < 0) → (vp_in (gI (s.2) 10 0 1) 80))
noncomputable def f_Te_append_14 (x1 : Int32) (s0 : Int32 × MSto) (n : Nat) : Int32 × MSto := nfold (fun i s => t_Te_append_14 x1 s) s0 n
noncomputable def n_Te_append_14 (x1 : Int32) (s0 : Int32 × MSto) : Nat := 4
noncomputable def v_Te_append (a1 : Int32) (σ : MSto) : Int32 := (if (gI σ 10 0 1) ≤ 76 then (gI ((f_Te_append_14 a1 (24, σ) (n_Te_append_14 a1 (24, σ))).2) 10 0 1) else (-1))
def p_Te_append (a1 : Int32) (σ : MSto) : Prop := (((gI σ 10 0 1) ≤ 76) → ((∀ i, i < (n_Te_append_14 a1 (24, σ)) → g_Te_append_14 a1 (f_Te_append_14 a1 (24, σ) i) ∧ ¬ q_Te_append_14s a1 (f_Te_append_14 a1 (24, σ) i) = 1) ∧ (¬ (((f_Te_append_14 a1 (24, σ) (n_Te_append_14 a1 (24, σ))).1) < 0) → False)))
noncomputable def e_Te_append (a1 : Int32) (σ : MSto) : MSto := (if (gI σ 10 0 1) ≤ 76 then ((f_Te_append_14 a1 (24, σ) (n_Te_append_14 a1 (24, σ))).2) else σ)
noncomputable def S_Te_append : List MV → MSto → Option Prop × Option MV × MSto := fun as σ => match as with
  | [.inr (.inr (some (10, 0))), .inl a0] => (some (p_Te_append a0 σ), some (mI (v_Te_append a0 σ)), e_Te_append a0 σ)
  | _ => (some False, none, σ)
noncomputable def E_Te_append : MEnt := ((1, 1, 10), (0, 0, 0, 0), S_Te_append, ((⟨"ClothWithMan$Text", "append", "(I)I"⟩ : MethodName), prog_11_method_2_code, 3, (some .int)))

def T_Te_append : Nat → Option (Instr × Nat × List Nat) := fun k => bif Nat.blt k 56 then (bif Nat.blt k 28 then (bif Nat.blt k 14 then (bif Nat.blt k 9 then (bif Nat.blt k 4 then (bif Nat.blt k 1 then (bif Nat.beq k 0 then some (.aload_n 0, 1, []) else none) else (bif Nat.beq k 1 then some (.getfield 19, 4, []) else none)) else (bif Nat.blt k 6 then (bif Nat.beq k 4 then some (.bipush 76, 6, []) else none) else (bif Nat.beq k 6 then some (.if_icmp .le 5, 9, [11]) else none))) else (bif Nat.blt k 11 then (bif Nat.blt k 10 then (bif Nat.beq k 9 then some (.iconst (-1), 10, []) else none) else (bif Nat.beq k 10 then some (.ireturn, 11, []) else none)) else (bif Nat.blt k 13 then (bif Nat.beq k 11 then some (.bipush 24, 13, []) else none) else (bif Nat.beq k 13 then some (.istore_n 2, 14, []) else none)))) else (bif Nat.blt k 22 then (bif Nat.blt k 18 then (bif Nat.blt k 15 then (bif Nat.beq k 14 then some (.iload_n 2, 15, []) else none) else (bif Nat.beq k 15 then some (.ifCond .lt 36, 18, [51]) else none)) else (bif Nat.blt k 19 then (bif Nat.beq k 18 then some (.aload_n 0, 19, []) else none) else (bif Nat.beq k 19 then some (.getfield 11, 22, []) else none))) else (bif Nat.blt k 26 then (bif Nat.blt k 23 then (bif Nat.beq k 22 then some (.aload_n 0, 23, []) else none) else (bif Nat.beq k 23 then some (.getfield 19, 26, []) else none)) else (bif Nat.blt k 27 then (bif Nat.beq k 26 then some (.iload_n 1, 27, []) else none) else (bif Nat.beq k 27 then some (.iload_n 2, 28, []) else none))))) else (bif Nat.blt k 40 then (bif Nat.blt k 34 then (bif Nat.blt k 32 then (bif Nat.blt k 29 then (bif Nat.beq k 28 then some (.iushr, 29, []) else none) else (bif Nat.beq k 29 then some (.sipush 255, 32, []) else none)) else (bif Nat.blt k 33 then (bif Nat.beq k 32 then some (.iand, 33, []) else none) else (bif Nat.beq k 33 then some (.i2c, 34, []) else none))) else (bif Nat.blt k 36 then (bif Nat.blt k 35 then (bif Nat.beq k 34 then some (.castore, 35, []) else none) else (bif Nat.beq k 35 then some (.aload_n 0, 36, []) else none)) else (bif Nat.blt k 37 then (bif Nat.beq k 36 then some (.dup, 37, []) else none) else (bif Nat.beq k 37 then some (.getfield 19, 40, []) else none)))) else (bif Nat.blt k 48 then (bif Nat.blt k 42 then (bif Nat.blt k 41 then (bif Nat.beq k 40 then some (.iconst 1, 41, []) else none) else (bif Nat.beq k 41 then some (.iadd, 42, []) else none)) else (bif Nat.blt k 45 then (bif Nat.beq k 42 then some (.putfield 19, 45, []) else none) else (bif Nat.beq k 45 then some (.iinc 2 (-8), 48, []) else none))) else (bif Nat.blt k 52 then (bif Nat.blt k 51 then (bif Nat.beq k 48 then some (.goto (-34), 51, [14]) else none) else (bif Nat.beq k 51 then some (.aload_n 0, 52, []) else none)) else (bif Nat.blt k 55 then (bif Nat.beq k 52 then some (.getfield 19, 55, []) else none) else (bif Nat.beq k 55 then some (.ireturn, 56, []) else none)))))) else none
noncomputable def P_Te_append : MP := (T_Te_append, (fun k => mLook k [(11, (10, 0, (.array .char), true)), (19, (10, 1, .int, false))]), (fun k => mLook k []), (fun k => mLook k []), (fun k => mLook k []), (fun k => mLook k []), (fun k => mLook k []), (fun k => mLook k [(14, [true, true, true]), (35, [true, true, true])]), (fun k => [10, 55].any (Nat.beq k)), (0, 0, 0, 0), false, (fun _ => none))
set_option maxRecDepth 100000 in
set_option maxHeartbeats 4000000 in
theorem q_Te_append_e (a1 : Int32) (σ : MSto) (n : Nat) : mexe KT P_Te_append (n + 1) (0, [some (mR 10 0), some (mI a1), none], [], σ, 0, 0) = mIf ((gI σ 10 0 1) ≤ 76) (mexe KT P_Te_append n (14, [some (mR 10 0), some (mI a1), some (mI 24)], [], σ, 0, 0)) (some (10, [], [(mI (-1))], σ, 0, 0)) := rfl
set_option maxRecDepth 100000 in
set_option maxHeartbeats 4000000 in
theorem q_Te_append_14 (x1 : Int32) (x2 : Int32) (σ : MSto) (n : Nat) : mexe KT P_Te_append (n + 1) (14, [some (mR 10 0), some (mI x1), some (mI x2)], [], σ, 0, 0) = mIf (x2 < 0) (some (55, [], [(mI (gI σ 10 0 1))], σ, 0, 0)) (mG (vp_in (gI σ 10 0 1) 80) (mexe KT P_Te_append n (35, [some (mR 10 0), some (mI x1), some (mI x2)], [], (sI σ 33 0 (Int32.toNatClampNeg (gI σ 10 0 1)) (vp_nar .char (UInt32.toInt32 (Int32.toUInt32 ((Int32.toUInt32 x1 >>> (Int32.toUInt32 x2 &&& Int32.toUInt32 31)).toInt32 &&& 255) % 65536)))), 0, 0))) := rfl
set_option maxRecDepth 100000 in
set_option maxHeartbeats 4000000 in
theorem q_Te_append_35 (x1 : Int32) (x2 : Int32) (σ : MSto) (n : Nat) : mexe KT P_Te_append (n + 1) (35, [some (mR 10 0), some (mI x1), some (mI x2)], [], σ, 0, 0) = mexe KT P_Te_append n (14, [some (mR 10 0), some (mI x1), some (mI (x2 + (-8)))], [], (sI σ 10 0 1 ((gI σ 10 0 1) + 1)), 0, 0) := rfl
set_option maxRecDepth 100000 in
theorem lj_Te_append_14j35 {Post : MST → Prop} (x1 : Int32) (x2 : Int32) (σ : MSto) (s : Int32 × MSto) (hq : ¬ 0 = 1) (hn : ∀ (r1 : Int32) (r2 : MSto), tj_Te_append_14j35 x1 x2 σ s = (r1, r2) → mW1 P_Te_append (14, [some (mR 10 0), some (mI x1), some (mI r1)], [], r2, 0, 0) Post) : mW1 P_Te_append (35, [some (mR 10 0), some (mI x1), some (mI x2)], [], σ, 0, 0) Post := by
  refine mW1_eq (q_Te_append_35 _ _ _) ?_
  exact mTr_k (hn (x2 + (-8)) (sI σ 10 0 1 ((gI σ 10 0 1) + 1)) (rfl))
set_option maxRecDepth 100000 in
theorem lt_Te_append_14 {Post : MST → Prop} (x1 : Int32) (s : Int32 × MSto) (hp : g_Te_append_14 x1 s) (hq : ¬ q_Te_append_14s x1 s = 1) (hn : ∀ (r1 : Int32) (r2 : MSto), t_Te_append_14 x1 s = (r1, r2) → mW1 P_Te_append (14, [some (mR 10 0), some (mI x1), some (mI r1)], [], r2, 0, 0) Post) : mW1 P_Te_append (14, [some (mR 10 0), some (mI x1), some (mI (s.1))], [], (s.2), 0, 0) Post := by
  unfold g_Te_append_14 at hp
  refine mW1_eq (q_Te_append_14 _ _ _) ?_
  refine mTr_if (fun h0 => ?_) (fun h0 => ?_)
  · skip
    exact absurd (if_pos h0) hq
  · skip
    have hp := hp h0
    refine mTr_g hp ?_
    exact mTr_k (lj_Te_append_14j35 x1 (s.1) (sI (s.2) 33 0 (Int32.toNatClampNeg (gI (s.2) 10 0 1)) (vp_nar .char (UInt32.toInt32 (Int32.toUInt32 ((Int32.toUInt32 x1 >>> (Int32.toUInt32 (s.1) &&& Int32.toUInt32 31)).toInt32 &&& 255) % 65536)))) s (fun z => hq ((if_neg h0).trans z)) (fun r1 r2 zr => hn r1 r2 ((if_neg h0).trans zr)))
theorem lp_Te_append_14 {Post : MST → Prop} (x1 : Int32) (s0 : Int32 × MSto) (N : Nat) (hb : ∀ i, i < N → g_Te_append_14 x1 (f_Te_append_14 x1 s0 i) ∧ ¬ q_Te_append_14s x1 (f_Te_append_14 x1 s0 i) = 1) (h : mW1 P_Te_append (14, [some (mR 10 0), some (mI x1), some (mI ((f_Te_append_14 x1 s0 N).1))], [], ((f_Te_append_14 x1 s0 N).2), 0, 0) Post) : mW1 P_Te_append (14, [some (mR 10 0), some (mI x1), some (mI (s0.1))], [], (s0.2), 0, 0) Post := by
  refine mW1_st (mW1_loop (fun i => (14, [some (mR 10 0), some (mI x1), some (mI ((f_Te_append_14 x1 s0 i).1))], [], ((f_Te_append_14 x1 s0 i).2), 0, 0)) N (fun i hlt hn => ?_) h) (rfl)
  refine lt_Te_append_14 x1 _ (hb i hlt).1 (hb i hlt).2 (fun r1 r2 hr => ?_)
  have e : f_Te_append_14 x1 s0 (i + 1) = (r1, r2) := hr
  try dsimp only at hn
  rw [e] at hn
  exact hn
set_option maxRecDepth 100000 in
set_option maxHeartbeats 4000000 in
theorem d_Te_append (a1 : Int32) (σ : MSto) (hp : p_Te_append a1 σ) : mW1 P_Te_append (0, [some (mR 10 0), some (mI a1), none], [], σ, 0, 0) (mF [10, 55] [mI (v_Te_append a1 σ)] (e_Te_append a1 σ) 0 0) := by
  refine mW1_eq (q_Te_append_e _ _) ?_
  unfold p_Te_append at hp
  refine mTr_if (fun h0 => ?_) (fun h0 => ?_)
  · skip
    have hp := hp h0
    refine mTr_k (lp_Te_append_14 a1 (24, σ) (n_Te_append_14 a1 (24, σ)) hp.1 ?_)
    have hp := hp.2
    refine mW1_eq (q_Te_append_14 _ _ _) ?_
    refine mTr_if (fun h1 => ?_) (fun h1 => ?_)
    · skip
      exact mTr_e (by decide) (congrArg (fun z => [mI z]) (Eq.symm (if_pos h0))) (Eq.symm (if_pos h0)) (by decide) (by decide)
    · skip
      have hp := hp h1
      exact hp.elim
  · skip
    exact mTr_e (by decide) (congrArg (fun z => [mI z]) (Eq.symm (if_neg h0))) (Eq.symm (if_neg h0)) (by decide) (by decide)
theorem tk_Te_append : ∀ pc i nx tg, T_Te_append pc = some (i, nx, tg) → mOkB prog_11_method_2_code pc i nx tg = true := code_ok (N := 56) (fun k h => by unfold T_Te_append; rw [h]; rfl) (by decide +kernel)
theorem ok_Te_append (l : Launch) : mPOK l "ClothWithMan$Text" prog_11_method_2_code P_Te_append := by
  refine ⟨tk_Te_append, ?_, ?_, ?_, (fun pc i nx tg kd _ h => by cases h), ?_, ?_, fun pc en h => by cases h⟩
  · intro x ci f ty fin h
    exact mLook_all (Q := fun x v => mFOK "ClothWithMan$Text" x v.1 v.2.1 v.2.2.1 v.2.2.2 ∧ (v.2.2.2 = true → pIni P_Te_append = true → (Cond.fieldLink "ClothWithMan$Text" x (((mCl[v.1]?).getD ("", fun _ => ("", "", "", false), 0)).2.1 v.2.1).1 (((mCl[v.1]?).getD ("", fun _ => ("", "", "", false), 0)).2.1 v.2.1).2.1 (((mCl[v.1]?).getD ("", fun _ => ("", "", "", false), 0)).2.1 v.2.1).2.2.1 ∈ lw_tbl ∧ (((mCl[v.1]?).getD ("", fun _ => ("", "", "", false), 0)).2.1 v.2.1).1 = "ClothWithMan$Text"))) (fcC ⟨fo_Te_11, fun h1 h2 => by cases h2⟩ (fcC ⟨fo_Te_19, fun h1 h2 => by cases h1⟩ fcN)) x (ci, f, ty, fin) h
  · intro x
    have hh := mLook_all (l := ([] : List (Nat × (Int32 ⊕ Int64)))) (Q := fun x (v : Int32 ⊕ Int64) => (∀ w, v = .inl w → Cond.constant "ClothWithMan$Text" x w ∈ lw_tbl) ∧ (∀ w, v = .inr w → Cond.constantLong "ClothWithMan$Text" x w ∈ lw_tbl)) fcN x
    exact ⟨fun w h => (hh _ h).1 w rfl, fun w h => (hh _ h).2 w rfl⟩
  · exact fun x en h => mLook_all (Q := fun x en => mLink "ClothWithMan$Text" x en ∧ mCtr l en ∧ (en.1.1 = 2 → en.2.2.2.2.2.2 = none)) fcN x en h
  · exact fun x kd h => mLook_all (Q := fun x kd => (kd = 95 ∧ Cond.fieldLink "ClothWithMan$Text" x "ClothWithMan" "LIKENESSES" "[I" ∈ lw_tbl) ∨ (kd = 96 ∧ Cond.fieldLink "ClothWithMan$Text" x "ClothWithMan" "APART_BOUNDS" "[I" ∈ lw_tbl)) fcN x kd h
  · exact fun x ci h => mLook_all (Q := fun x ci => ci ≠ 0 ∧ ∃ (C : String) (T : u_T) (N : Nat), mCl[ci]? = some (C, T, N) ∧ Cond.classLink "ClothWithMan$Text" x C ∈ lw_tbl ∧ Cond.instantiable C N ∈ lw_tbl) fcN x ci h
set_option maxRecDepth 100000 in
theorem c_Te_append (l : Launch) : mCtr l E_Te_append := mCtr_of (P := P_Te_append) (own := "ClothWithMan$Text") mLay_ok rfl (by decide +kernel) rfl (ok_Te_append l) (fun h => by cases h) (fun as σ pr rv σ' hF hpr hlv => by
  unfold E_Te_append S_Te_append at hF
  simp only [] at hF
  split at hF
  · cases hF
    obtain ⟨n, pcF, c1, s1, g1, g2, g3, g4⟩ := mF_inv (d_Te_append _ σ (hpr _ rfl))
    exact ⟨Nat.le_of_ble_eq_true rfl, (fun v h => by cases h; trivial), n, pcF, c1, s1, g1, ⟨mEnd_of (i := .ireturn) (P := P_Te_append) (rets := [10, 55]) rfl g2, rfl⟩, g3, g4⟩
  · cases hF
    exact (hpr _ rfl).elim)
/-! ClothWithMan$Text.cut(I)Z -/
def b_Te_cut (a1 : Int32) (σ : MSto) : Prop := (if a1 < 0 then False else (if a1 ≤ (gI σ 10 0 1) then True else False))
noncomputable def v_Te_cut (a1 : Int32) (σ : MSto) : Int32 := bI (b_Te_cut a1 σ)
noncomputable def e_Te_cut (a1 : Int32) (σ : MSto) : MSto := (if a1 < 0 then σ else (if a1 ≤ (gI σ 10 0 1) then (sI σ 10 0 1 a1) else σ))
noncomputable def S_Te_cut : List MV → MSto → Option Prop × Option MV × MSto := fun as σ => match as with
  | [.inr (.inr (some (10, 0))), .inl a0] => (none, some (mI (v_Te_cut a0 σ)), e_Te_cut a0 σ)
  | _ => (some False, none, σ)
noncomputable def E_Te_cut : MEnt := ((1, 1, 10), (0, 0, 0, 0), S_Te_cut, ((⟨"ClothWithMan$Text", "cut", "(I)Z"⟩ : MethodName), prog_11_method_3_code, 2, (some .boolean)))

def T_Te_cut : Nat → Option (Instr × Nat × List Nat) := fun k => bif Nat.blt k 21 then (bif Nat.blt k 12 then (bif Nat.blt k 5 then (bif Nat.blt k 1 then (bif Nat.beq k 0 then some (.iload_n 1, 1, []) else none) else (bif Nat.blt k 4 then (bif Nat.beq k 1 then some (.ifCond .lt 11, 4, [12]) else none) else (bif Nat.beq k 4 then some (.iload_n 1, 5, []) else none))) else (bif Nat.blt k 6 then (bif Nat.beq k 5 then some (.aload_n 0, 6, []) else none) else (bif Nat.blt k 9 then (bif Nat.beq k 6 then some (.getfield 19, 9, []) else none) else (bif Nat.beq k 9 then some (.if_icmp .le 5, 12, [14]) else none)))) else (bif Nat.blt k 15 then (bif Nat.blt k 13 then (bif Nat.beq k 12 then some (.iconst 0, 13, []) else none) else (bif Nat.blt k 14 then (bif Nat.beq k 13 then some (.ireturn, 14, []) else none) else (bif Nat.beq k 14 then some (.aload_n 0, 15, []) else none))) else (bif Nat.blt k 19 then (bif Nat.blt k 16 then (bif Nat.beq k 15 then some (.iload_n 1, 16, []) else none) else (bif Nat.beq k 16 then some (.putfield 19, 19, []) else none)) else (bif Nat.blt k 20 then (bif Nat.beq k 19 then some (.iconst 1, 20, []) else none) else (bif Nat.beq k 20 then some (.ireturn, 21, []) else none))))) else none
noncomputable def P_Te_cut : MP := (T_Te_cut, (fun k => mLook k [(19, (10, 1, .int, false))]), (fun k => mLook k []), (fun k => mLook k []), (fun k => mLook k []), (fun k => mLook k []), (fun k => mLook k []), (fun k => mLook k []), (fun k => [13, 20].any (Nat.beq k)), (0, 0, 0, 0), false, (fun _ => none))
set_option maxRecDepth 100000 in
set_option maxHeartbeats 4000000 in
theorem q_Te_cut_e (a1 : Int32) (σ : MSto) (n : Nat) : mexe KT P_Te_cut (n + 1) (0, [some (mR 10 0), some (mI a1)], [], σ, 0, 0) = mIf (a1 < 0) (some (13, [], [(mI 0)], σ, 0, 0)) (mIf (a1 ≤ (gI σ 10 0 1)) (some (20, [], [(mI 1)], (sI σ 10 0 1 a1), 0, 0)) (some (13, [], [(mI 0)], σ, 0, 0))) := rfl
set_option maxRecDepth 100000 in
set_option maxHeartbeats 4000000 in
theorem d_Te_cut (a1 : Int32) (σ : MSto) : mW1 P_Te_cut (0, [some (mR 10 0), some (mI a1)], [], σ, 0, 0) (mF [13, 20] [mI (v_Te_cut a1 σ)] (e_Te_cut a1 σ) 0 0) := by
  refine mW1_eq (q_Te_cut_e _ _) ?_
  unfold v_Te_cut
  refine mTr_if (fun h0 => ?_) (fun h0 => ?_)
  · skip
    exact mTr_e (by decide) (bI_F (if_pos h0)) (Eq.symm (if_pos h0)) (by decide) (by decide)
  · skip
    refine mTr_if (fun h1 => ?_) (fun h1 => ?_)
    · skip
      exact mTr_e (by decide) (bI_T ((if_neg h0).trans (if_pos h1))) (Eq.symm ((if_neg h0).trans (if_pos h1))) (by decide) (by decide)
    · skip
      exact mTr_e (by decide) (bI_F ((if_neg h0).trans (if_neg h1))) (Eq.symm ((if_neg h0).trans (if_neg h1))) (by decide) (by decide)
theorem tk_Te_cut : ∀ pc i nx tg, T_Te_cut pc = some (i, nx, tg) → mOkB prog_11_method_3_code pc i nx tg = true := code_ok (N := 21) (fun k h => by unfold T_Te_cut; rw [h]; rfl) (by decide +kernel)
theorem ok_Te_cut (l : Launch) : mPOK l "ClothWithMan$Text" prog_11_method_3_code P_Te_cut := by
  refine ⟨tk_Te_cut, ?_, ?_, ?_, (fun pc i nx tg kd _ h => by cases h), ?_, ?_, fun pc en h => by cases h⟩
  · intro x ci f ty fin h
    exact mLook_all (Q := fun x v => mFOK "ClothWithMan$Text" x v.1 v.2.1 v.2.2.1 v.2.2.2 ∧ (v.2.2.2 = true → pIni P_Te_cut = true → (Cond.fieldLink "ClothWithMan$Text" x (((mCl[v.1]?).getD ("", fun _ => ("", "", "", false), 0)).2.1 v.2.1).1 (((mCl[v.1]?).getD ("", fun _ => ("", "", "", false), 0)).2.1 v.2.1).2.1 (((mCl[v.1]?).getD ("", fun _ => ("", "", "", false), 0)).2.1 v.2.1).2.2.1 ∈ lw_tbl ∧ (((mCl[v.1]?).getD ("", fun _ => ("", "", "", false), 0)).2.1 v.2.1).1 = "ClothWithMan$Text"))) (fcC ⟨fo_Te_19, fun h1 h2 => by cases h1⟩ fcN) x (ci, f, ty, fin) h
  · intro x
    have hh := mLook_all (l := ([] : List (Nat × (Int32 ⊕ Int64)))) (Q := fun x (v : Int32 ⊕ Int64) => (∀ w, v = .inl w → Cond.constant "ClothWithMan$Text" x w ∈ lw_tbl) ∧ (∀ w, v = .inr w → Cond.constantLong "ClothWithMan$Text" x w ∈ lw_tbl)) fcN x
    exact ⟨fun w h => (hh _ h).1 w rfl, fun w h => (hh _ h).2 w rfl⟩
  · exact fun x en h => mLook_all (Q := fun x en => mLink "ClothWithMan$Text" x en ∧ mCtr l en ∧ (en.1.1 = 2 → en.2.2.2.2.2.2 = none)) fcN x en h
  · exact fun x kd h => mLook_all (Q := fun x kd => (kd = 95 ∧ Cond.fieldLink "ClothWithMan$Text" x "ClothWithMan" "LIKENESSES" "[I" ∈ lw_tbl) ∨ (kd = 96 ∧ Cond.fieldLink "ClothWithMan$Text" x "ClothWithMan" "APART_BOUNDS" "[I" ∈ lw_tbl)) fcN x kd h
  · exact fun x ci h => mLook_all (Q := fun x ci => ci ≠ 0 ∧ ∃ (C : String) (T : u_T) (N : Nat), mCl[ci]? = some (C, T, N) ∧ Cond.classLink "ClothWithMan$Text" x C ∈ lw_tbl ∧ Cond.instantiable C N ∈ lw_tbl) fcN x ci h
set_option maxRecDepth 100000 in
theorem c_Te_cut (l : Launch) : mCtr l E_Te_cut := mCtr_of (P := P_Te_cut) (own := "ClothWithMan$Text") mLay_ok rfl (by decide +kernel) rfl (ok_Te_cut l) (fun h => by cases h) (fun as σ pr rv σ' hF hpr hlv => by
  unfold E_Te_cut S_Te_cut at hF
  simp only [] at hF
  split at hF
  · cases hF
    obtain ⟨n, pcF, c1, s1, g1, g2, g3, g4⟩ := mF_inv (d_Te_cut _ σ)
    exact ⟨Nat.le_of_ble_eq_true rfl, (fun v h => by cases h; trivial), n, pcF, c1, s1, g1, ⟨mEnd_of (i := .ireturn) (P := P_Te_cut) (rets := [13, 20]) rfl g2, bI_narrow _⟩, g3, g4⟩
  · cases hF
    exact (hpr _ rfl).elim)
/-! ClothWithMan$Text.begin(I)V -/
noncomputable def e_Te_begin (a1 : Int32) (σ : MSto) : MSto := (sI (sI (sI σ 10 0 2 0) 10 0 3 (v_Ma_min (gI (sI σ 10 0 2 0) 10 0 1) a1 (sI σ 10 0 2 0))) 10 0 4 (-1))
noncomputable def S_Te_begin : List MV → MSto → Option Prop × Option MV × MSto := fun as σ => match as with
  | [.inr (.inr (some (10, 0))), .inl a0] => (none, none, e_Te_begin a0 σ)
  | _ => (some False, none, σ)
noncomputable def E_Te_begin : MEnt := ((1, 1, 10), (1, 21, 0, 0), S_Te_begin, ((⟨"ClothWithMan$Text", "begin", "(I)V"⟩ : MethodName), prog_11_method_4_code, 2, none))

def T_Te_begin : Nat → Option (Instr × Nat × List Nat) := fun k => bif Nat.blt k 23 then (bif Nat.blt k 10 then (bif Nat.blt k 5 then (bif Nat.blt k 1 then (bif Nat.beq k 0 then some (.aload_n 0, 1, []) else none) else (bif Nat.blt k 2 then (bif Nat.beq k 1 then some (.iconst 0, 2, []) else none) else (bif Nat.beq k 2 then some (.putfield 22, 5, []) else none))) else (bif Nat.blt k 6 then (bif Nat.beq k 5 then some (.aload_n 0, 6, []) else none) else (bif Nat.blt k 7 then (bif Nat.beq k 6 then some (.aload_n 0, 7, []) else none) else (bif Nat.beq k 7 then some (.getfield 19, 10, []) else none)))) else (bif Nat.blt k 17 then (bif Nat.blt k 11 then (bif Nat.beq k 10 then some (.iload_n 1, 11, []) else none) else (bif Nat.blt k 14 then (bif Nat.beq k 11 then some (.invokestatic 25, 14, []) else none) else (bif Nat.beq k 14 then some (.putfield 31, 17, []) else none))) else (bif Nat.blt k 19 then (bif Nat.blt k 18 then (bif Nat.beq k 17 then some (.aload_n 0, 18, []) else none) else (bif Nat.beq k 18 then some (.iconst (-1), 19, []) else none)) else (bif Nat.blt k 22 then (bif Nat.beq k 19 then some (.putfield 15, 22, []) else none) else (bif Nat.beq k 22 then some (.return_, 23, []) else none))))) else none
noncomputable def P_Te_begin : MP := (T_Te_begin, (fun k => mLook k [(15, (10, 4, .int, false)), (19, (10, 1, .int, false)), (22, (10, 2, .int, false)), (31, (10, 3, .int, false))]), (fun k => mLook k []), (fun k => mLook k [(25, E_Ma_min)]), (fun k => mLook k []), (fun k => mLook k []), (fun k => mLook k []), (fun k => mLook k []), (fun k => [22].any (Nat.beq k)), (1, 21, 0, 0), false, (fun _ => none))
set_option maxRecDepth 100000 in
set_option maxHeartbeats 4000000 in
theorem q_Te_begin_e (a1 : Int32) (σ : MSto) (n : Nat) : mexe KT P_Te_begin (n + 1) (0, [some (mR 10 0), some (mI a1)], [], σ, 0, 0) = some (22, [], [], (sI (sI (sI σ 10 0 2 0) 10 0 3 (v_Ma_min (gI (sI σ 10 0 2 0) 10 0 1) a1 (sI σ 10 0 2 0))) 10 0 4 (-1)), 0, 0) := rfl
set_option maxRecDepth 100000 in
set_option maxHeartbeats 4000000 in
theorem d_Te_begin (a1 : Int32) (σ : MSto) : mW1 P_Te_begin (0, [some (mR 10 0), some (mI a1)], [], σ, 0, 0) (mF [22] [] (e_Te_begin a1 σ) 0 0) := by
  refine mW1_eq (q_Te_begin_e _ _) ?_
  exact mTr_e (by decide) rfl (Eq.symm (rfl)) (by decide) (by decide)
theorem li_Te_25 : mLink "ClothWithMan$Text" 25 E_Ma_min := ⟨tw_2_14, tw_1_10, ⟨by decide, by decide⟩, by decide +kernel, Or.inl tw_2_12, (fun _ => tw_2_13), (fun h => by cases h), (fun h => by cases h)⟩

theorem tk_Te_begin : ∀ pc i nx tg, T_Te_begin pc = some (i, nx, tg) → mOkB prog_11_method_4_code pc i nx tg = true := code_ok (N := 23) (fun k h => by unfold T_Te_begin; rw [h]; rfl) (by decide +kernel)
theorem ok_Te_begin (l : Launch) : mPOK l "ClothWithMan$Text" prog_11_method_4_code P_Te_begin := by
  refine ⟨tk_Te_begin, ?_, ?_, ?_, (fun pc i nx tg kd _ h => by cases h), ?_, ?_, fun pc en h => by cases h⟩
  · intro x ci f ty fin h
    exact mLook_all (Q := fun x v => mFOK "ClothWithMan$Text" x v.1 v.2.1 v.2.2.1 v.2.2.2 ∧ (v.2.2.2 = true → pIni P_Te_begin = true → (Cond.fieldLink "ClothWithMan$Text" x (((mCl[v.1]?).getD ("", fun _ => ("", "", "", false), 0)).2.1 v.2.1).1 (((mCl[v.1]?).getD ("", fun _ => ("", "", "", false), 0)).2.1 v.2.1).2.1 (((mCl[v.1]?).getD ("", fun _ => ("", "", "", false), 0)).2.1 v.2.1).2.2.1 ∈ lw_tbl ∧ (((mCl[v.1]?).getD ("", fun _ => ("", "", "", false), 0)).2.1 v.2.1).1 = "ClothWithMan$Text"))) (fcC ⟨fo_Te_15, fun h1 h2 => by cases h1⟩ (fcC ⟨fo_Te_19, fun h1 h2 => by cases h1⟩ (fcC ⟨fo_Te_22, fun h1 h2 => by cases h1⟩ (fcC ⟨fo_Te_31, fun h1 h2 => by cases h1⟩ fcN)))) x (ci, f, ty, fin) h
  · intro x
    have hh := mLook_all (l := ([] : List (Nat × (Int32 ⊕ Int64)))) (Q := fun x (v : Int32 ⊕ Int64) => (∀ w, v = .inl w → Cond.constant "ClothWithMan$Text" x w ∈ lw_tbl) ∧ (∀ w, v = .inr w → Cond.constantLong "ClothWithMan$Text" x w ∈ lw_tbl)) fcN x
    exact ⟨fun w h => (hh _ h).1 w rfl, fun w h => (hh _ h).2 w rfl⟩
  · exact fun x en h => mLook_all (Q := fun x en => mLink "ClothWithMan$Text" x en ∧ mCtr l en ∧ (en.1.1 = 2 → en.2.2.2.2.2.2 = none)) (fcC ⟨li_Te_25, c_Ma_min l, (fun h => by cases h)⟩ fcN) x en h
  · exact fun x kd h => mLook_all (Q := fun x kd => (kd = 95 ∧ Cond.fieldLink "ClothWithMan$Text" x "ClothWithMan" "LIKENESSES" "[I" ∈ lw_tbl) ∨ (kd = 96 ∧ Cond.fieldLink "ClothWithMan$Text" x "ClothWithMan" "APART_BOUNDS" "[I" ∈ lw_tbl)) fcN x kd h
  · exact fun x ci h => mLook_all (Q := fun x ci => ci ≠ 0 ∧ ∃ (C : String) (T : u_T) (N : Nat), mCl[ci]? = some (C, T, N) ∧ Cond.classLink "ClothWithMan$Text" x C ∈ lw_tbl ∧ Cond.instantiable C N ∈ lw_tbl) fcN x ci h
set_option maxRecDepth 100000 in
theorem c_Te_begin (l : Launch) : mCtr l E_Te_begin := mCtr_of (P := P_Te_begin) (own := "ClothWithMan$Text") mLay_ok rfl (by decide +kernel) rfl (ok_Te_begin l) (fun h => by cases h) (fun as σ pr rv σ' hF hpr hlv => by
  unfold E_Te_begin S_Te_begin at hF
  simp only [] at hF
  split at hF
  · cases hF
    obtain ⟨n, pcF, c1, s1, g1, g2, g3, g4⟩ := mF_inv (d_Te_begin _ σ)
    exact ⟨Nat.le_of_ble_eq_true rfl, (fun v h => by cases h), n, pcF, c1, s1, g1, mEnd_of (i := .return_) (P := P_Te_begin) (rets := [22]) rfl g2, g3, g4⟩
  · cases hF
    exact (hpr _ rfl).elim)
/-! ClothWithMan$Text.isRight()Z -/
def b_Te_isRight  (σ : MSto) : Prop := (if (gI σ 10 0 4) = (-1) then True else False)
noncomputable def v_Te_isRight  (σ : MSto) : Int32 := bI (b_Te_isRight  σ)
noncomputable def S_Te_isRight : List MV → MSto → Option Prop × Option MV × MSto := fun as σ => match as with
  | [.inr (.inr (some (10, 0)))] => (none, some (mI (v_Te_isRight σ)), σ)
  | _ => (some False, none, σ)
noncomputable def E_Te_isRight : MEnt := ((1, 0, 10), (0, 0, 0, 0), S_Te_isRight, ((⟨"ClothWithMan$Text", "isRight", "()Z"⟩ : MethodName), prog_11_method_5_code, 1, (some .boolean)))

def T_Te_isRight : Nat → Option (Instr × Nat × List Nat) := fun k => bif Nat.blt k 14 then (bif Nat.blt k 8 then (bif Nat.blt k 4 then (bif Nat.blt k 1 then (bif Nat.beq k 0 then some (.aload_n 0, 1, []) else none) else (bif Nat.beq k 1 then some (.getfield 15, 4, []) else none)) else (bif Nat.blt k 5 then (bif Nat.beq k 4 then some (.iconst (-1), 5, []) else none) else (bif Nat.beq k 5 then some (.if_icmp .ne 7, 8, [12]) else none))) else (bif Nat.blt k 12 then (bif Nat.blt k 9 then (bif Nat.beq k 8 then some (.iconst 1, 9, []) else none) else (bif Nat.beq k 9 then some (.goto 4, 12, [13]) else none)) else (bif Nat.blt k 13 then (bif Nat.beq k 12 then some (.iconst 0, 13, []) else none) else (bif Nat.beq k 13 then some (.ireturn, 14, []) else none)))) else none
noncomputable def P_Te_isRight : MP := (T_Te_isRight, (fun k => mLook k [(15, (10, 4, .int, false))]), (fun k => mLook k []), (fun k => mLook k []), (fun k => mLook k []), (fun k => mLook k []), (fun k => mLook k []), (fun k => mLook k []), (fun k => [13].any (Nat.beq k)), (0, 0, 0, 0), false, (fun _ => none))
set_option maxRecDepth 100000 in
set_option maxHeartbeats 4000000 in
theorem q_Te_isRight_e  (σ : MSto) (n : Nat) : mexe KT P_Te_isRight (n + 1) (0, [some (mR 10 0)], [], σ, 0, 0) = mIf ((gI σ 10 0 4) = (-1)) (some (13, [], [(mI 1)], σ, 0, 0)) (some (13, [], [(mI 0)], σ, 0, 0)) := rfl
set_option maxRecDepth 100000 in
set_option maxHeartbeats 4000000 in
theorem d_Te_isRight  (σ : MSto) : mW1 P_Te_isRight (0, [some (mR 10 0)], [], σ, 0, 0) (mF [13] [mI (v_Te_isRight σ)] σ 0 0) := by
  refine mW1_eq (q_Te_isRight_e  _) ?_
  unfold v_Te_isRight
  refine mTr_if (fun h0 => ?_) (fun h0 => ?_)
  · skip
    exact mTr_e (by decide) (bI_T (if_pos h0)) rfl (by decide) (by decide)
  · skip
    exact mTr_e (by decide) (bI_F (if_neg h0)) rfl (by decide) (by decide)
theorem tk_Te_isRight : ∀ pc i nx tg, T_Te_isRight pc = some (i, nx, tg) → mOkB prog_11_method_5_code pc i nx tg = true := code_ok (N := 14) (fun k h => by unfold T_Te_isRight; rw [h]; rfl) (by decide +kernel)
theorem ok_Te_isRight (l : Launch) : mPOK l "ClothWithMan$Text" prog_11_method_5_code P_Te_isRight := by
  refine ⟨tk_Te_isRight, ?_, ?_, ?_, (fun pc i nx tg kd _ h => by cases h), ?_, ?_, fun pc en h => by cases h⟩
  · intro x ci f ty fin h
    exact mLook_all (Q := fun x v => mFOK "ClothWithMan$Text" x v.1 v.2.1 v.2.2.1 v.2.2.2 ∧ (v.2.2.2 = true → pIni P_Te_isRight = true → (Cond.fieldLink "ClothWithMan$Text" x (((mCl[v.1]?).getD ("", fun _ => ("", "", "", false), 0)).2.1 v.2.1).1 (((mCl[v.1]?).getD ("", fun _ => ("", "", "", false), 0)).2.1 v.2.1).2.1 (((mCl[v.1]?).getD ("", fun _ => ("", "", "", false), 0)).2.1 v.2.1).2.2.1 ∈ lw_tbl ∧ (((mCl[v.1]?).getD ("", fun _ => ("", "", "", false), 0)).2.1 v.2.1).1 = "ClothWithMan$Text"))) (fcC ⟨fo_Te_15, fun h1 h2 => by cases h1⟩ fcN) x (ci, f, ty, fin) h
  · intro x
    have hh := mLook_all (l := ([] : List (Nat × (Int32 ⊕ Int64)))) (Q := fun x (v : Int32 ⊕ Int64) => (∀ w, v = .inl w → Cond.constant "ClothWithMan$Text" x w ∈ lw_tbl) ∧ (∀ w, v = .inr w → Cond.constantLong "ClothWithMan$Text" x w ∈ lw_tbl)) fcN x
    exact ⟨fun w h => (hh _ h).1 w rfl, fun w h => (hh _ h).2 w rfl⟩
  · exact fun x en h => mLook_all (Q := fun x en => mLink "ClothWithMan$Text" x en ∧ mCtr l en ∧ (en.1.1 = 2 → en.2.2.2.2.2.2 = none)) fcN x en h
  · exact fun x kd h => mLook_all (Q := fun x kd => (kd = 95 ∧ Cond.fieldLink "ClothWithMan$Text" x "ClothWithMan" "LIKENESSES" "[I" ∈ lw_tbl) ∨ (kd = 96 ∧ Cond.fieldLink "ClothWithMan$Text" x "ClothWithMan" "APART_BOUNDS" "[I" ∈ lw_tbl)) fcN x kd h
  · exact fun x ci h => mLook_all (Q := fun x ci => ci ≠ 0 ∧ ∃ (C : String) (T : u_T) (N : Nat), mCl[ci]? = some (C, T, N) ∧ Cond.classLink "ClothWithMan$Text" x C ∈ lw_tbl ∧ Cond.instantiable C N ∈ lw_tbl) fcN x ci h
set_option maxRecDepth 100000 in
theorem c_Te_isRight (l : Launch) : mCtr l E_Te_isRight := mCtr_of (P := P_Te_isRight) (own := "ClothWithMan$Text") mLay_ok rfl (by decide +kernel) rfl (ok_Te_isRight l) (fun h => by cases h) (fun as σ pr rv σ' hF hpr hlv => by
  unfold E_Te_isRight S_Te_isRight at hF
  simp only [] at hF
  split at hF
  · cases hF
    obtain ⟨n, pcF, c1, s1, g1, g2, g3, g4⟩ := mF_inv (d_Te_isRight σ)
    exact ⟨Nat.le_of_ble_eq_true rfl, (fun v h => by cases h; trivial), n, pcF, c1, s1, g1, ⟨mEnd_of (i := .ireturn) (P := P_Te_isRight) (rets := [13]) rfl g2, bI_narrow _⟩, g3, g4⟩
  · cases hF
    exact (hpr _ rfl).elim)
/-! ClothWithMan$Text.failAt(I)V -/
noncomputable def e_Te_failAt (a1 : Int32) (σ : MSto) : MSto := (if (gI σ 10 0 4) = (-1) then (sI σ 10 0 4 a1) else σ)
noncomputable def S_Te_failAt : List MV → MSto → Option Prop × Option MV × MSto := fun as σ => match as with
  | [.inr (.inr (some (10, 0))), .inl a0] => (none, none, e_Te_failAt a0 σ)
  | _ => (some False, none, σ)
noncomputable def E_Te_failAt : MEnt := ((1, 1, 10), (0, 0, 0, 0), S_Te_failAt, ((⟨"ClothWithMan$Text", "failAt", "(I)V"⟩ : MethodName), prog_11_method_6_code, 2, none))

def T_Te_failAt : Nat → Option (Instr × Nat × List Nat) := fun k => bif Nat.blt k 14 then (bif Nat.blt k 8 then (bif Nat.blt k 4 then (bif Nat.blt k 1 then (bif Nat.beq k 0 then some (.aload_n 0, 1, []) else none) else (bif Nat.beq k 1 then some (.getfield 15, 4, []) else none)) else (bif Nat.blt k 5 then (bif Nat.beq k 4 then some (.iconst (-1), 5, []) else none) else (bif Nat.beq k 5 then some (.if_icmp .ne 8, 8, [13]) else none))) else (bif Nat.blt k 10 then (bif Nat.blt k 9 then (bif Nat.beq k 8 then some (.aload_n 0, 9, []) else none) else (bif Nat.beq k 9 then some (.iload_n 1, 10, []) else none)) else (bif Nat.blt k 13 then (bif Nat.beq k 10 then some (.putfield 15, 13, []) else none) else (bif Nat.beq k 13 then some (.return_, 14, []) else none)))) else none
noncomputable def P_Te_failAt : MP := (T_Te_failAt, (fun k => mLook k [(15, (10, 4, .int, false))]), (fun k => mLook k []), (fun k => mLook k []), (fun k => mLook k []), (fun k => mLook k []), (fun k => mLook k []), (fun k => mLook k []), (fun k => [13].any (Nat.beq k)), (0, 0, 0, 0), false, (fun _ => none))
set_option maxRecDepth 100000 in
set_option maxHeartbeats 4000000 in
theorem q_Te_failAt_e (a1 : Int32) (σ : MSto) (n : Nat) : mexe KT P_Te_failAt (n + 1) (0, [some (mR 10 0), some (mI a1)], [], σ, 0, 0) = mIf ((gI σ 10 0 4) = (-1)) (some (13, [], [], (sI σ 10 0 4 a1), 0, 0)) (some (13, [], [], σ, 0, 0)) := rfl
set_option maxRecDepth 100000 in
set_option maxHeartbeats 4000000 in
theorem d_Te_failAt (a1 : Int32) (σ : MSto) : mW1 P_Te_failAt (0, [some (mR 10 0), some (mI a1)], [], σ, 0, 0) (mF [13] [] (e_Te_failAt a1 σ) 0 0) := by
  refine mW1_eq (q_Te_failAt_e _ _) ?_
  refine mTr_if (fun h0 => ?_) (fun h0 => ?_)
  · skip
    exact mTr_e (by decide) rfl (Eq.symm (if_pos h0)) (by decide) (by decide)
  · skip
    exact mTr_e (by decide) rfl (Eq.symm (if_neg h0)) (by decide) (by decide)
theorem tk_Te_failAt : ∀ pc i nx tg, T_Te_failAt pc = some (i, nx, tg) → mOkB prog_11_method_6_code pc i nx tg = true := code_ok (N := 14) (fun k h => by unfold T_Te_failAt; rw [h]; rfl) (by decide +kernel)
theorem ok_Te_failAt (l : Launch) : mPOK l "ClothWithMan$Text" prog_11_method_6_code P_Te_failAt := by
  refine ⟨tk_Te_failAt, ?_, ?_, ?_, (fun pc i nx tg kd _ h => by cases h), ?_, ?_, fun pc en h => by cases h⟩
  · intro x ci f ty fin h
    exact mLook_all (Q := fun x v => mFOK "ClothWithMan$Text" x v.1 v.2.1 v.2.2.1 v.2.2.2 ∧ (v.2.2.2 = true → pIni P_Te_failAt = true → (Cond.fieldLink "ClothWithMan$Text" x (((mCl[v.1]?).getD ("", fun _ => ("", "", "", false), 0)).2.1 v.2.1).1 (((mCl[v.1]?).getD ("", fun _ => ("", "", "", false), 0)).2.1 v.2.1).2.1 (((mCl[v.1]?).getD ("", fun _ => ("", "", "", false), 0)).2.1 v.2.1).2.2.1 ∈ lw_tbl ∧ (((mCl[v.1]?).getD ("", fun _ => ("", "", "", false), 0)).2.1 v.2.1).1 = "ClothWithMan$Text"))) (fcC ⟨fo_Te_15, fun h1 h2 => by cases h1⟩ fcN) x (ci, f, ty, fin) h
  · intro x
    have hh := mLook_all (l := ([] : List (Nat × (Int32 ⊕ Int64)))) (Q := fun x (v : Int32 ⊕ Int64) => (∀ w, v = .inl w → Cond.constant "ClothWithMan$Text" x w ∈ lw_tbl) ∧ (∀ w, v = .inr w → Cond.constantLong "ClothWithMan$Text" x w ∈ lw_tbl)) fcN x
    exact ⟨fun w h => (hh _ h).1 w rfl, fun w h => (hh _ h).2 w rfl⟩
  · exact fun x en h => mLook_all (Q := fun x en => mLink "ClothWithMan$Text" x en ∧ mCtr l en ∧ (en.1.1 = 2 → en.2.2.2.2.2.2 = none)) fcN x en h
  · exact fun x kd h => mLook_all (Q := fun x kd => (kd = 95 ∧ Cond.fieldLink "ClothWithMan$Text" x "ClothWithMan" "LIKENESSES" "[I" ∈ lw_tbl) ∨ (kd = 96 ∧ Cond.fieldLink "ClothWithMan$Text" x "ClothWithMan" "APART_BOUNDS" "[I" ∈ lw_tbl)) fcN x kd h
  · exact fun x ci h => mLook_all (Q := fun x ci => ci ≠ 0 ∧ ∃ (C : String) (T : u_T) (N : Nat), mCl[ci]? = some (C, T, N) ∧ Cond.classLink "ClothWithMan$Text" x C ∈ lw_tbl ∧ Cond.instantiable C N ∈ lw_tbl) fcN x ci h
set_option maxRecDepth 100000 in
theorem c_Te_failAt (l : Launch) : mCtr l E_Te_failAt := mCtr_of (P := P_Te_failAt) (own := "ClothWithMan$Text") mLay_ok rfl (by decide +kernel) rfl (ok_Te_failAt l) (fun h => by cases h) (fun as σ pr rv σ' hF hpr hlv => by
  unfold E_Te_failAt S_Te_failAt at hF
  simp only [] at hF
  split at hF
  · cases hF
    obtain ⟨n, pcF, c1, s1, g1, g2, g3, g4⟩ := mF_inv (d_Te_failAt _ σ)
    exact ⟨Nat.le_of_ble_eq_true rfl, (fun v h => by cases h), n, pcF, c1, s1, g1, mEnd_of (i := .return_) (P := P_Te_failAt) (rets := [13]) rfl g2, g3, g4⟩
  · cases hF
    exact (hpr _ rfl).elim)
/-! ClothWithMan$Text.here()I -/
noncomputable def v_Te_here  (σ : MSto) : Int32 := (if (gI σ 10 0 3) ≤ (gI σ 10 0 2) then (-1) else (gI σ 33 0 (Int32.toNatClampNeg (gI σ 10 0 2))))
def p_Te_here  (σ : MSto) : Prop := (¬ ((gI σ 10 0 3) ≤ (gI σ 10 0 2)) → (vp_in (gI σ 10 0 2) 80))
noncomputable def S_Te_here : List MV → MSto → Option Prop × Option MV × MSto := fun as σ => match as with
  | [.inr (.inr (some (10, 0)))] => (some (p_Te_here σ), some (mI (v_Te_here σ)), σ)
  | _ => (some False, none, σ)
noncomputable def E_Te_here : MEnt := ((1, 0, 10), (0, 0, 0, 0), S_Te_here, ((⟨"ClothWithMan$Text", "here", "()I"⟩ : MethodName), prog_11_method_7_code, 1, (some .int)))

def T_Te_here : Nat → Option (Instr × Nat × List Nat) := fun k => bif Nat.blt k 25 then (bif Nat.blt k 12 then (bif Nat.blt k 5 then (bif Nat.blt k 1 then (bif Nat.beq k 0 then some (.aload_n 0, 1, []) else none) else (bif Nat.blt k 4 then (bif Nat.beq k 1 then some (.getfield 22, 4, []) else none) else (bif Nat.beq k 4 then some (.aload_n 0, 5, []) else none))) else (bif Nat.blt k 8 then (bif Nat.beq k 5 then some (.getfield 31, 8, []) else none) else (bif Nat.blt k 11 then (bif Nat.beq k 8 then some (.if_icmp .ge 15, 11, [23]) else none) else (bif Nat.beq k 11 then some (.aload_n 0, 12, []) else none)))) else (bif Nat.blt k 19 then (bif Nat.blt k 15 then (bif Nat.beq k 12 then some (.getfield 11, 15, []) else none) else (bif Nat.blt k 16 then (bif Nat.beq k 15 then some (.aload_n 0, 16, []) else none) else (bif Nat.beq k 16 then some (.getfield 22, 19, []) else none))) else (bif Nat.blt k 23 then (bif Nat.blt k 20 then (bif Nat.beq k 19 then some (.caload, 20, []) else none) else (bif Nat.beq k 20 then some (.goto 4, 23, [24]) else none)) else (bif Nat.blt k 24 then (bif Nat.beq k 23 then some (.iconst (-1), 24, []) else none) else (bif Nat.beq k 24 then some (.ireturn, 25, []) else none))))) else none
noncomputable def P_Te_here : MP := (T_Te_here, (fun k => mLook k [(11, (10, 0, (.array .char), true)), (22, (10, 2, .int, false)), (31, (10, 3, .int, false))]), (fun k => mLook k []), (fun k => mLook k []), (fun k => mLook k []), (fun k => mLook k []), (fun k => mLook k []), (fun k => mLook k []), (fun k => [24].any (Nat.beq k)), (0, 0, 0, 0), false, (fun _ => none))
set_option maxRecDepth 100000 in
set_option maxHeartbeats 4000000 in
theorem q_Te_here_e  (σ : MSto) (n : Nat) : mexe KT P_Te_here (n + 1) (0, [some (mR 10 0)], [], σ, 0, 0) = mIf ((gI σ 10 0 3) ≤ (gI σ 10 0 2)) (some (24, [], [(mI (-1))], σ, 0, 0)) (mG (vp_in (gI σ 10 0 2) 80) (some (24, [], [(mI (gI σ 33 0 (Int32.toNatClampNeg (gI σ 10 0 2))))], σ, 0, 0))) := rfl
set_option maxRecDepth 100000 in
set_option maxHeartbeats 4000000 in
theorem d_Te_here  (σ : MSto) (hp : p_Te_here σ) : mW1 P_Te_here (0, [some (mR 10 0)], [], σ, 0, 0) (mF [24] [mI (v_Te_here σ)] σ 0 0) := by
  refine mW1_eq (q_Te_here_e  _) ?_
  unfold p_Te_here at hp
  refine mTr_if (fun h0 => ?_) (fun h0 => ?_)
  · skip
    exact mTr_e (by decide) (congrArg (fun z => [mI z]) (Eq.symm (if_pos h0))) rfl (by decide) (by decide)
  · skip
    have hp := hp h0
    refine mTr_g hp ?_
    exact mTr_e (by decide) (congrArg (fun z => [mI z]) (Eq.symm (if_neg h0))) rfl (by decide) (by decide)
theorem tk_Te_here : ∀ pc i nx tg, T_Te_here pc = some (i, nx, tg) → mOkB prog_11_method_7_code pc i nx tg = true := code_ok (N := 25) (fun k h => by unfold T_Te_here; rw [h]; rfl) (by decide +kernel)
theorem ok_Te_here (l : Launch) : mPOK l "ClothWithMan$Text" prog_11_method_7_code P_Te_here := by
  refine ⟨tk_Te_here, ?_, ?_, ?_, (fun pc i nx tg kd _ h => by cases h), ?_, ?_, fun pc en h => by cases h⟩
  · intro x ci f ty fin h
    exact mLook_all (Q := fun x v => mFOK "ClothWithMan$Text" x v.1 v.2.1 v.2.2.1 v.2.2.2 ∧ (v.2.2.2 = true → pIni P_Te_here = true → (Cond.fieldLink "ClothWithMan$Text" x (((mCl[v.1]?).getD ("", fun _ => ("", "", "", false), 0)).2.1 v.2.1).1 (((mCl[v.1]?).getD ("", fun _ => ("", "", "", false), 0)).2.1 v.2.1).2.1 (((mCl[v.1]?).getD ("", fun _ => ("", "", "", false), 0)).2.1 v.2.1).2.2.1 ∈ lw_tbl ∧ (((mCl[v.1]?).getD ("", fun _ => ("", "", "", false), 0)).2.1 v.2.1).1 = "ClothWithMan$Text"))) (fcC ⟨fo_Te_11, fun h1 h2 => by cases h2⟩ (fcC ⟨fo_Te_22, fun h1 h2 => by cases h1⟩ (fcC ⟨fo_Te_31, fun h1 h2 => by cases h1⟩ fcN))) x (ci, f, ty, fin) h
  · intro x
    have hh := mLook_all (l := ([] : List (Nat × (Int32 ⊕ Int64)))) (Q := fun x (v : Int32 ⊕ Int64) => (∀ w, v = .inl w → Cond.constant "ClothWithMan$Text" x w ∈ lw_tbl) ∧ (∀ w, v = .inr w → Cond.constantLong "ClothWithMan$Text" x w ∈ lw_tbl)) fcN x
    exact ⟨fun w h => (hh _ h).1 w rfl, fun w h => (hh _ h).2 w rfl⟩
  · exact fun x en h => mLook_all (Q := fun x en => mLink "ClothWithMan$Text" x en ∧ mCtr l en ∧ (en.1.1 = 2 → en.2.2.2.2.2.2 = none)) fcN x en h
  · exact fun x kd h => mLook_all (Q := fun x kd => (kd = 95 ∧ Cond.fieldLink "ClothWithMan$Text" x "ClothWithMan" "LIKENESSES" "[I" ∈ lw_tbl) ∨ (kd = 96 ∧ Cond.fieldLink "ClothWithMan$Text" x "ClothWithMan" "APART_BOUNDS" "[I" ∈ lw_tbl)) fcN x kd h
  · exact fun x ci h => mLook_all (Q := fun x ci => ci ≠ 0 ∧ ∃ (C : String) (T : u_T) (N : Nat), mCl[ci]? = some (C, T, N) ∧ Cond.classLink "ClothWithMan$Text" x C ∈ lw_tbl ∧ Cond.instantiable C N ∈ lw_tbl) fcN x ci h
set_option maxRecDepth 100000 in
theorem c_Te_here (l : Launch) : mCtr l E_Te_here := mCtr_of (P := P_Te_here) (own := "ClothWithMan$Text") mLay_ok rfl (by decide +kernel) rfl (ok_Te_here l) (fun h => by cases h) (fun as σ pr rv σ' hF hpr hlv => by
  unfold E_Te_here S_Te_here at hF
  simp only [] at hF
  split at hF
  · cases hF
    obtain ⟨n, pcF, c1, s1, g1, g2, g3, g4⟩ := mF_inv (d_Te_here σ (hpr _ rfl))
    exact ⟨Nat.le_of_ble_eq_true rfl, (fun v h => by cases h; trivial), n, pcF, c1, s1, g1, ⟨mEnd_of (i := .ireturn) (P := P_Te_here) (rets := [24]) rfl g2, rfl⟩, g3, g4⟩
  · cases hF
    exact (hpr _ rfl).elim)
/-! ClothWithMan$Text.skip(C)Z -/
def b_Te_skip (a1 : Int32) (σ : MSto) : Prop := (if (gI σ 10 0 4) = (-1) then (if (v_Te_here σ) = a1 then True else False) else False)
noncomputable def v_Te_skip (a1 : Int32) (σ : MSto) : Int32 := bI (b_Te_skip a1 σ)
def p_Te_skip (a1 : Int32) (σ : MSto) : Prop := (((gI σ 10 0 4) = (-1)) → (p_Te_here σ))
noncomputable def e_Te_skip (a1 : Int32) (σ : MSto) : MSto := (if (gI σ 10 0 4) = (-1) then (if (v_Te_here σ) = a1 then (sI σ 10 0 2 ((gI σ 10 0 2) + 1)) else σ) else σ)
noncomputable def S_Te_skip : List MV → MSto → Option Prop × Option MV × MSto := fun as σ => match as with
  | [.inr (.inr (some (10, 0))), .inl a0] => (some (p_Te_skip a0 σ), some (mI (v_Te_skip a0 σ)), e_Te_skip a0 σ)
  | _ => (some False, none, σ)
noncomputable def E_Te_skip : MEnt := ((1, 1, 10), (1, 20, 0, 0), S_Te_skip, ((⟨"ClothWithMan$Text", "skip", "(C)Z"⟩ : MethodName), prog_11_method_8_code, 2, (some .boolean)))

def T_Te_skip : Nat → Option (Instr × Nat × List Nat) := fun k => bif Nat.blt k 30 then (bif Nat.blt k 17 then (bif Nat.blt k 8 then (bif Nat.blt k 4 then (bif Nat.blt k 1 then (bif Nat.beq k 0 then some (.aload_n 0, 1, []) else none) else (bif Nat.beq k 1 then some (.getfield 15, 4, []) else none)) else (bif Nat.blt k 5 then (bif Nat.beq k 4 then some (.iconst (-1), 5, []) else none) else (bif Nat.beq k 5 then some (.if_icmp .ne 11, 8, [16]) else none))) else (bif Nat.blt k 12 then (bif Nat.blt k 9 then (bif Nat.beq k 8 then some (.aload_n 0, 9, []) else none) else (bif Nat.beq k 9 then some (.invokevirtual 34, 12, []) else none)) else (bif Nat.blt k 13 then (bif Nat.beq k 12 then some (.iload_n 1, 13, []) else none) else (bif Nat.blt k 16 then (bif Nat.beq k 13 then some (.if_icmp .eq 5, 16, [18]) else none) else (bif Nat.beq k 16 then some (.iconst 0, 17, []) else none))))) else (bif Nat.blt k 23 then (bif Nat.blt k 19 then (bif Nat.blt k 18 then (bif Nat.beq k 17 then some (.ireturn, 18, []) else none) else (bif Nat.beq k 18 then some (.aload_n 0, 19, []) else none)) else (bif Nat.blt k 20 then (bif Nat.beq k 19 then some (.dup, 20, []) else none) else (bif Nat.beq k 20 then some (.getfield 22, 23, []) else none))) else (bif Nat.blt k 25 then (bif Nat.blt k 24 then (bif Nat.beq k 23 then some (.iconst 1, 24, []) else none) else (bif Nat.beq k 24 then some (.iadd, 25, []) else none)) else (bif Nat.blt k 28 then (bif Nat.beq k 25 then some (.putfield 22, 28, []) else none) else (bif Nat.blt k 29 then (bif Nat.beq k 28 then some (.iconst 1, 29, []) else none) else (bif Nat.beq k 29 then some (.ireturn, 30, []) else none)))))) else none
noncomputable def P_Te_skip : MP := (T_Te_skip, (fun k => mLook k [(15, (10, 4, .int, false)), (22, (10, 2, .int, false))]), (fun k => mLook k []), (fun k => mLook k [(34, E_Te_here)]), (fun k => mLook k []), (fun k => mLook k []), (fun k => mLook k []), (fun k => mLook k []), (fun k => [17, 29].any (Nat.beq k)), (1, 20, 0, 0), false, (fun _ => none))
set_option maxRecDepth 100000 in
set_option maxHeartbeats 4000000 in
theorem q_Te_skip_e (a1 : Int32) (σ : MSto) (n : Nat) : mexe KT P_Te_skip (n + 1) (0, [some (mR 10 0), some (mI a1)], [], σ, 0, 0) = mIf ((gI σ 10 0 4) = (-1)) (mG (p_Te_here σ) (mIf ((v_Te_here σ) = a1) (some (29, [], [(mI 1)], (sI σ 10 0 2 ((gI σ 10 0 2) + 1)), 0, 0)) (some (17, [], [(mI 0)], σ, 0, 0)))) (some (17, [], [(mI 0)], σ, 0, 0)) := rfl
set_option maxRecDepth 100000 in
set_option maxHeartbeats 4000000 in
theorem d_Te_skip (a1 : Int32) (σ : MSto) (hp : p_Te_skip a1 σ) : mW1 P_Te_skip (0, [some (mR 10 0), some (mI a1)], [], σ, 0, 0) (mF [17, 29] [mI (v_Te_skip a1 σ)] (e_Te_skip a1 σ) 0 0) := by
  refine mW1_eq (q_Te_skip_e _ _) ?_
  unfold p_Te_skip at hp
  unfold v_Te_skip
  refine mTr_if (fun h0 => ?_) (fun h0 => ?_)
  · skip
    have hp := hp h0
    refine mTr_g hp ?_
    refine mTr_if (fun h1 => ?_) (fun h1 => ?_)
    · skip
      exact mTr_e (by decide) (bI_T ((if_pos h0).trans (if_pos h1))) (Eq.symm ((if_pos h0).trans (if_pos h1))) (by decide) (by decide)
    · skip
      exact mTr_e (by decide) (bI_F ((if_pos h0).trans (if_neg h1))) (Eq.symm ((if_pos h0).trans (if_neg h1))) (by decide) (by decide)
  · skip
    exact mTr_e (by decide) (bI_F (if_neg h0)) (Eq.symm (if_neg h0)) (by decide) (by decide)
theorem li_Te_34 : mLink "ClothWithMan$Text" 34 E_Te_here := ⟨tw_2_30, tw_1_2, ⟨by decide, by decide⟩, by decide +kernel, Or.inl tw_2_27, (fun h => by cases h), (fun _ => ⟨tw_2_28, tw_2_29, TX9, 5, rfl⟩), (fun h => by cases h)⟩

theorem tk_Te_skip : ∀ pc i nx tg, T_Te_skip pc = some (i, nx, tg) → mOkB prog_11_method_8_code pc i nx tg = true := code_ok (N := 30) (fun k h => by unfold T_Te_skip; rw [h]; rfl) (by decide +kernel)
theorem ok_Te_skip (l : Launch) : mPOK l "ClothWithMan$Text" prog_11_method_8_code P_Te_skip := by
  refine ⟨tk_Te_skip, ?_, ?_, ?_, (fun pc i nx tg kd _ h => by cases h), ?_, ?_, fun pc en h => by cases h⟩
  · intro x ci f ty fin h
    exact mLook_all (Q := fun x v => mFOK "ClothWithMan$Text" x v.1 v.2.1 v.2.2.1 v.2.2.2 ∧ (v.2.2.2 = true → pIni P_Te_skip = true → (Cond.fieldLink "ClothWithMan$Text" x (((mCl[v.1]?).getD ("", fun _ => ("", "", "", false), 0)).2.1 v.2.1).1 (((mCl[v.1]?).getD ("", fun _ => ("", "", "", false), 0)).2.1 v.2.1).2.1 (((mCl[v.1]?).getD ("", fun _ => ("", "", "", false), 0)).2.1 v.2.1).2.2.1 ∈ lw_tbl ∧ (((mCl[v.1]?).getD ("", fun _ => ("", "", "", false), 0)).2.1 v.2.1).1 = "ClothWithMan$Text"))) (fcC ⟨fo_Te_15, fun h1 h2 => by cases h1⟩ (fcC ⟨fo_Te_22, fun h1 h2 => by cases h1⟩ fcN)) x (ci, f, ty, fin) h
  · intro x
    have hh := mLook_all (l := ([] : List (Nat × (Int32 ⊕ Int64)))) (Q := fun x (v : Int32 ⊕ Int64) => (∀ w, v = .inl w → Cond.constant "ClothWithMan$Text" x w ∈ lw_tbl) ∧ (∀ w, v = .inr w → Cond.constantLong "ClothWithMan$Text" x w ∈ lw_tbl)) fcN x
    exact ⟨fun w h => (hh _ h).1 w rfl, fun w h => (hh _ h).2 w rfl⟩
  · exact fun x en h => mLook_all (Q := fun x en => mLink "ClothWithMan$Text" x en ∧ mCtr l en ∧ (en.1.1 = 2 → en.2.2.2.2.2.2 = none)) (fcC ⟨li_Te_34, c_Te_here l, (fun h => by cases h)⟩ fcN) x en h
  · exact fun x kd h => mLook_all (Q := fun x kd => (kd = 95 ∧ Cond.fieldLink "ClothWithMan$Text" x "ClothWithMan" "LIKENESSES" "[I" ∈ lw_tbl) ∨ (kd = 96 ∧ Cond.fieldLink "ClothWithMan$Text" x "ClothWithMan" "APART_BOUNDS" "[I" ∈ lw_tbl)) fcN x kd h
  · exact fun x ci h => mLook_all (Q := fun x ci => ci ≠ 0 ∧ ∃ (C : String) (T : u_T) (N : Nat), mCl[ci]? = some (C, T, N) ∧ Cond.classLink "ClothWithMan$Text" x C ∈ lw_tbl ∧ Cond.instantiable C N ∈ lw_tbl) fcN x ci h
set_option maxRecDepth 100000 in
theorem c_Te_skip (l : Launch) : mCtr l E_Te_skip := mCtr_of (P := P_Te_skip) (own := "ClothWithMan$Text") mLay_ok rfl (by decide +kernel) rfl (ok_Te_skip l) (fun h => by cases h) (fun as σ pr rv σ' hF hpr hlv => by
  unfold E_Te_skip S_Te_skip at hF
  simp only [] at hF
  split at hF
  · cases hF
    obtain ⟨n, pcF, c1, s1, g1, g2, g3, g4⟩ := mF_inv (d_Te_skip _ σ (hpr _ rfl))
    exact ⟨Nat.le_of_ble_eq_true rfl, (fun v h => by cases h; trivial), n, pcF, c1, s1, g1, ⟨mEnd_of (i := .ireturn) (P := P_Te_skip) (rets := [17, 29]) rfl g2, bI_narrow _⟩, g3, g4⟩
  · cases hF
    exact (hpr _ rfl).elim)
/-! ClothWithMan$Text.pass(C)V -/
def p_Te_pass (a1 : Int32) (σ : MSto) : Prop := (p_Te_skip a1 σ)
noncomputable def e_Te_pass (a1 : Int32) (σ : MSto) : MSto := (if (v_Te_skip a1 σ) = 0 then (e_Te_failAt (gI (e_Te_skip a1 σ) 10 0 2) (e_Te_skip a1 σ)) else (e_Te_skip a1 σ))
noncomputable def S_Te_pass : List MV → MSto → Option Prop × Option MV × MSto := fun as σ => match as with
  | [.inr (.inr (some (10, 0))), .inl a0] => (some (p_Te_pass a0 σ), none, e_Te_pass a0 σ)
  | _ => (some False, none, σ)
noncomputable def E_Te_pass : MEnt := ((1, 1, 10), (2, 41, 0, 0), S_Te_pass, ((⟨"ClothWithMan$Text", "pass", "(C)V"⟩ : MethodName), prog_11_method_9_code, 2, none))

def T_Te_pass : Nat → Option (Instr × Nat × List Nat) := fun k => bif Nat.blt k 17 then (bif Nat.blt k 8 then (bif Nat.blt k 2 then (bif Nat.blt k 1 then (bif Nat.beq k 0 then some (.aload_n 0, 1, []) else none) else (bif Nat.beq k 1 then some (.iload_n 1, 2, []) else none)) else (bif Nat.blt k 5 then (bif Nat.beq k 2 then some (.invokevirtual 38, 5, []) else none) else (bif Nat.beq k 5 then some (.ifCond .ne 11, 8, [16]) else none))) else (bif Nat.blt k 10 then (bif Nat.blt k 9 then (bif Nat.beq k 8 then some (.aload_n 0, 9, []) else none) else (bif Nat.beq k 9 then some (.aload_n 0, 10, []) else none)) else (bif Nat.blt k 13 then (bif Nat.beq k 10 then some (.getfield 22, 13, []) else none) else (bif Nat.blt k 16 then (bif Nat.beq k 13 then some (.invokevirtual 42, 16, []) else none) else (bif Nat.beq k 16 then some (.return_, 17, []) else none))))) else none
noncomputable def P_Te_pass : MP := (T_Te_pass, (fun k => mLook k [(22, (10, 2, .int, false))]), (fun k => mLook k []), (fun k => mLook k [(38, E_Te_skip), (42, E_Te_failAt)]), (fun k => mLook k []), (fun k => mLook k []), (fun k => mLook k []), (fun k => mLook k []), (fun k => [16].any (Nat.beq k)), (2, 41, 0, 0), false, (fun _ => none))
set_option maxRecDepth 100000 in
set_option maxHeartbeats 4000000 in
theorem q_Te_pass_e (a1 : Int32) (σ : MSto) (n : Nat) : mexe KT P_Te_pass (n + 1) (0, [some (mR 10 0), some (mI a1)], [], σ, 0, 0) = mG (p_Te_skip a1 σ) (mIf ((v_Te_skip a1 σ) = 0) (some (16, [], [], (e_Te_failAt (gI (e_Te_skip a1 σ) 10 0 2) (e_Te_skip a1 σ)), 0, 0)) (some (16, [], [], (e_Te_skip a1 σ), 0, 0))) := rfl
set_option maxRecDepth 100000 in
set_option maxHeartbeats 4000000 in
theorem d_Te_pass (a1 : Int32) (σ : MSto) (hp : p_Te_pass a1 σ) : mW1 P_Te_pass (0, [some (mR 10 0), some (mI a1)], [], σ, 0, 0) (mF [16] [] (e_Te_pass a1 σ) 0 0) := by
  refine mW1_eq (q_Te_pass_e _ _) ?_
  unfold p_Te_pass at hp
  refine mTr_g hp ?_
  refine mTr_if (fun h0 => ?_) (fun h0 => ?_)
  · skip
    exact mTr_e (by decide) rfl (Eq.symm (if_pos h0)) (by decide) (by decide)
  · skip
    exact mTr_e (by decide) rfl (Eq.symm (if_neg h0)) (by decide) (by decide)
theorem li_Te_42 : mLink "ClothWithMan$Text" 42 E_Te_failAt := ⟨tw_2_37, tw_1_2, ⟨by decide, by decide⟩, by decide +kernel, Or.inl tw_2_34, (fun h => by cases h), (fun _ => ⟨tw_2_35, tw_2_36, TX9, 5, rfl⟩), (fun h => by cases h)⟩

theorem li_Te_38 : mLink "ClothWithMan$Text" 38 E_Te_skip := ⟨tw_2_50, tw_1_2, ⟨by decide, by decide⟩, by decide +kernel, Or.inl tw_2_47, (fun h => by cases h), (fun _ => ⟨tw_2_48, tw_2_49, TX9, 5, rfl⟩), (fun h => by cases h)⟩

theorem tk_Te_pass : ∀ pc i nx tg, T_Te_pass pc = some (i, nx, tg) → mOkB prog_11_method_9_code pc i nx tg = true := code_ok (N := 17) (fun k h => by unfold T_Te_pass; rw [h]; rfl) (by decide +kernel)
theorem ok_Te_pass (l : Launch) : mPOK l "ClothWithMan$Text" prog_11_method_9_code P_Te_pass := by
  refine ⟨tk_Te_pass, ?_, ?_, ?_, (fun pc i nx tg kd _ h => by cases h), ?_, ?_, fun pc en h => by cases h⟩
  · intro x ci f ty fin h
    exact mLook_all (Q := fun x v => mFOK "ClothWithMan$Text" x v.1 v.2.1 v.2.2.1 v.2.2.2 ∧ (v.2.2.2 = true → pIni P_Te_pass = true → (Cond.fieldLink "ClothWithMan$Text" x (((mCl[v.1]?).getD ("", fun _ => ("", "", "", false), 0)).2.1 v.2.1).1 (((mCl[v.1]?).getD ("", fun _ => ("", "", "", false), 0)).2.1 v.2.1).2.1 (((mCl[v.1]?).getD ("", fun _ => ("", "", "", false), 0)).2.1 v.2.1).2.2.1 ∈ lw_tbl ∧ (((mCl[v.1]?).getD ("", fun _ => ("", "", "", false), 0)).2.1 v.2.1).1 = "ClothWithMan$Text"))) (fcC ⟨fo_Te_22, fun h1 h2 => by cases h1⟩ fcN) x (ci, f, ty, fin) h
  · intro x
    have hh := mLook_all (l := ([] : List (Nat × (Int32 ⊕ Int64)))) (Q := fun x (v : Int32 ⊕ Int64) => (∀ w, v = .inl w → Cond.constant "ClothWithMan$Text" x w ∈ lw_tbl) ∧ (∀ w, v = .inr w → Cond.constantLong "ClothWithMan$Text" x w ∈ lw_tbl)) fcN x
    exact ⟨fun w h => (hh _ h).1 w rfl, fun w h => (hh _ h).2 w rfl⟩
  · exact fun x en h => mLook_all (Q := fun x en => mLink "ClothWithMan$Text" x en ∧ mCtr l en ∧ (en.1.1 = 2 → en.2.2.2.2.2.2 = none)) (fcC ⟨li_Te_38, c_Te_skip l, (fun h => by cases h)⟩ (fcC ⟨li_Te_42, c_Te_failAt l, (fun h => by cases h)⟩ fcN)) x en h
  · exact fun x kd h => mLook_all (Q := fun x kd => (kd = 95 ∧ Cond.fieldLink "ClothWithMan$Text" x "ClothWithMan" "LIKENESSES" "[I" ∈ lw_tbl) ∨ (kd = 96 ∧ Cond.fieldLink "ClothWithMan$Text" x "ClothWithMan" "APART_BOUNDS" "[I" ∈ lw_tbl)) fcN x kd h
  · exact fun x ci h => mLook_all (Q := fun x ci => ci ≠ 0 ∧ ∃ (C : String) (T : u_T) (N : Nat), mCl[ci]? = some (C, T, N) ∧ Cond.classLink "ClothWithMan$Text" x C ∈ lw_tbl ∧ Cond.instantiable C N ∈ lw_tbl) fcN x ci h
set_option maxRecDepth 100000 in
theorem c_Te_pass (l : Launch) : mCtr l E_Te_pass := mCtr_of (P := P_Te_pass) (own := "ClothWithMan$Text") mLay_ok rfl (by decide +kernel) rfl (ok_Te_pass l) (fun h => by cases h) (fun as σ pr rv σ' hF hpr hlv => by
  unfold E_Te_pass S_Te_pass at hF
  simp only [] at hF
  split at hF
  · cases hF
    obtain ⟨n, pcF, c1, s1, g1, g2, g3, g4⟩ := mF_inv (d_Te_pass _ σ (hpr _ rfl))
    exact ⟨Nat.le_of_ble_eq_true rfl, (fun v h => by cases h), n, pcF, c1, s1, g1, mEnd_of (i := .return_) (P := P_Te_pass) (rets := [16]) rfl g2, g3, g4⟩
  · cases hF
    exact (hpr _ rfl).elim)
/-! ClothWithMan$Text.digit(I)I -/
noncomputable def v_Te_digit (a1 : Int32) (σ : MSto) : Int32 := (if (v_C_isIn ((v_Te_here σ) - 48) 0 a1 σ) = 0 then 0 else ((v_Te_here σ) - 48))
def p_Te_digit (a1 : Int32) (σ : MSto) : Prop := (p_Te_here σ)
noncomputable def e_Te_digit (a1 : Int32) (σ : MSto) : MSto := (if (v_C_isIn ((v_Te_here σ) - 48) 0 a1 σ) = 0 then (e_Te_failAt (gI σ 10 0 2) σ) else (sI σ 10 0 2 ((gI σ 10 0 2) + 1)))
noncomputable def S_Te_digit : List MV → MSto → Option Prop × Option MV × MSto := fun as σ => match as with
  | [.inr (.inr (some (10, 0))), .inl a0] => (some (p_Te_digit a0 σ), some (mI (v_Te_digit a0 σ)), e_Te_digit a0 σ)
  | _ => (some False, none, σ)
noncomputable def E_Te_digit : MEnt := ((1, 1, 10), (1, 22, 0, 0), S_Te_digit, ((⟨"ClothWithMan$Text", "digit", "(I)I"⟩ : MethodName), prog_11_method_10_code, 3, (some .int)))

def T_Te_digit : Nat → Option (Instr × Nat × List Nat) := fun k => bif Nat.blt k 39 then (bif Nat.blt k 19 then (bif Nat.blt k 9 then (bif Nat.blt k 6 then (bif Nat.blt k 1 then (bif Nat.beq k 0 then some (.aload_n 0, 1, []) else none) else (bif Nat.blt k 4 then (bif Nat.beq k 1 then some (.invokevirtual 34, 4, []) else none) else (bif Nat.beq k 4 then some (.bipush 48, 6, []) else none))) else (bif Nat.blt k 7 then (bif Nat.beq k 6 then some (.isub, 7, []) else none) else (bif Nat.blt k 8 then (bif Nat.beq k 7 then some (.istore_n 2, 8, []) else none) else (bif Nat.beq k 8 then some (.iload_n 2, 9, []) else none)))) else (bif Nat.blt k 14 then (bif Nat.blt k 10 then (bif Nat.beq k 9 then some (.iconst 0, 10, []) else none) else (bif Nat.blt k 11 then (bif Nat.beq k 10 then some (.iload_n 1, 11, []) else none) else (bif Nat.beq k 11 then some (.invokestatic 46, 14, []) else none))) else (bif Nat.blt k 17 then (bif Nat.beq k 14 then some (.ifCond .ne 13, 17, [27]) else none) else (bif Nat.blt k 18 then (bif Nat.beq k 17 then some (.aload_n 0, 18, []) else none) else (bif Nat.beq k 18 then some (.aload_n 0, 19, []) else none))))) else (bif Nat.blt k 29 then (bif Nat.blt k 26 then (bif Nat.blt k 22 then (bif Nat.beq k 19 then some (.getfield 22, 22, []) else none) else (bif Nat.blt k 25 then (bif Nat.beq k 22 then some (.invokevirtual 42, 25, []) else none) else (bif Nat.beq k 25 then some (.iconst 0, 26, []) else none))) else (bif Nat.blt k 27 then (bif Nat.beq k 26 then some (.ireturn, 27, []) else none) else (bif Nat.blt k 28 then (bif Nat.beq k 27 then some (.aload_n 0, 28, []) else none) else (bif Nat.beq k 28 then some (.dup, 29, []) else none)))) else (bif Nat.blt k 34 then (bif Nat.blt k 32 then (bif Nat.beq k 29 then some (.getfield 22, 32, []) else none) else (bif Nat.blt k 33 then (bif Nat.beq k 32 then some (.iconst 1, 33, []) else none) else (bif Nat.beq k 33 then some (.iadd, 34, []) else none))) else (bif Nat.blt k 37 then (bif Nat.beq k 34 then some (.putfield 22, 37, []) else none) else (bif Nat.blt k 38 then (bif Nat.beq k 37 then some (.iload_n 2, 38, []) else none) else (bif Nat.beq k 38 then some (.ireturn, 39, []) else none)))))) else none
noncomputable def P_Te_digit : MP := (T_Te_digit, (fun k => mLook k [(22, (10, 2, .int, false))]), (fun k => mLook k []), (fun k => mLook k [(34, E_Te_here), (42, E_Te_failAt), (46, E_C_isIn)]), (fun k => mLook k []), (fun k => mLook k []), (fun k => mLook k []), (fun k => mLook k []), (fun k => [26, 38].any (Nat.beq k)), (1, 22, 0, 0), false, (fun _ => none))
set_option maxRecDepth 100000 in
set_option maxHeartbeats 4000000 in
theorem q_Te_digit_e (a1 : Int32) (σ : MSto) (n : Nat) : mexe KT P_Te_digit (n + 1) (0, [some (mR 10 0), some (mI a1), none], [], σ, 0, 0) = mG (p_Te_here σ) (mIf ((v_C_isIn ((v_Te_here σ) - 48) 0 a1 σ) = 0) (some (26, [], [(mI 0)], (e_Te_failAt (gI σ 10 0 2) σ), 0, 0)) (some (38, [], [(mI ((v_Te_here σ) - 48))], (sI σ 10 0 2 ((gI σ 10 0 2) + 1)), 0, 0))) := rfl
set_option maxRecDepth 100000 in
set_option maxHeartbeats 4000000 in
theorem d_Te_digit (a1 : Int32) (σ : MSto) (hp : p_Te_digit a1 σ) : mW1 P_Te_digit (0, [some (mR 10 0), some (mI a1), none], [], σ, 0, 0) (mF [26, 38] [mI (v_Te_digit a1 σ)] (e_Te_digit a1 σ) 0 0) := by
  refine mW1_eq (q_Te_digit_e _ _) ?_
  unfold p_Te_digit at hp
  refine mTr_g hp ?_
  refine mTr_if (fun h0 => ?_) (fun h0 => ?_)
  · skip
    exact mTr_e (by decide) (congrArg (fun z => [mI z]) (Eq.symm (if_pos h0))) (Eq.symm (if_pos h0)) (by decide) (by decide)
  · skip
    exact mTr_e (by decide) (congrArg (fun z => [mI z]) (Eq.symm (if_neg h0))) (Eq.symm (if_neg h0)) (by decide) (by decide)
theorem li_Te_46 : mLink "ClothWithMan$Text" 46 E_C_isIn := ⟨tw_2_33, tw_1_1, ⟨by decide, by decide⟩, by decide +kernel, Or.inr ⟨_, tw_2_31⟩, (fun _ => tw_2_32), (fun h => by cases h), (fun h => by cases h)⟩



theorem tk_Te_digit : ∀ pc i nx tg, T_Te_digit pc = some (i, nx, tg) → mOkB prog_11_method_10_code pc i nx tg = true := code_ok (N := 39) (fun k h => by unfold T_Te_digit; rw [h]; rfl) (by decide +kernel)
theorem ok_Te_digit (l : Launch) : mPOK l "ClothWithMan$Text" prog_11_method_10_code P_Te_digit := by
  refine ⟨tk_Te_digit, ?_, ?_, ?_, (fun pc i nx tg kd _ h => by cases h), ?_, ?_, fun pc en h => by cases h⟩
  · intro x ci f ty fin h
    exact mLook_all (Q := fun x v => mFOK "ClothWithMan$Text" x v.1 v.2.1 v.2.2.1 v.2.2.2 ∧ (v.2.2.2 = true → pIni P_Te_digit = true → (Cond.fieldLink "ClothWithMan$Text" x (((mCl[v.1]?).getD ("", fun _ => ("", "", "", false), 0)).2.1 v.2.1).1 (((mCl[v.1]?).getD ("", fun _ => ("", "", "", false), 0)).2.1 v.2.1).2.1 (((mCl[v.1]?).getD ("", fun _ => ("", "", "", false), 0)).2.1 v.2.1).2.2.1 ∈ lw_tbl ∧ (((mCl[v.1]?).getD ("", fun _ => ("", "", "", false), 0)).2.1 v.2.1).1 = "ClothWithMan$Text"))) (fcC ⟨fo_Te_22, fun h1 h2 => by cases h1⟩ fcN) x (ci, f, ty, fin) h
  · intro x
    have hh := mLook_all (l := ([] : List (Nat × (Int32 ⊕ Int64)))) (Q := fun x (v : Int32 ⊕ Int64) => (∀ w, v = .inl w → Cond.constant "ClothWithMan$Text" x w ∈ lw_tbl) ∧ (∀ w, v = .inr w → Cond.constantLong "ClothWithMan$Text" x w ∈ lw_tbl)) fcN x
    exact ⟨fun w h => (hh _ h).1 w rfl, fun w h => (hh _ h).2 w rfl⟩
  · exact fun x en h => mLook_all (Q := fun x en => mLink "ClothWithMan$Text" x en ∧ mCtr l en ∧ (en.1.1 = 2 → en.2.2.2.2.2.2 = none)) (fcC ⟨li_Te_34, c_Te_here l, (fun h => by cases h)⟩ (fcC ⟨li_Te_42, c_Te_failAt l, (fun h => by cases h)⟩ (fcC ⟨li_Te_46, c_C_isIn l, (fun h => by cases h)⟩ fcN))) x en h
  · exact fun x kd h => mLook_all (Q := fun x kd => (kd = 95 ∧ Cond.fieldLink "ClothWithMan$Text" x "ClothWithMan" "LIKENESSES" "[I" ∈ lw_tbl) ∨ (kd = 96 ∧ Cond.fieldLink "ClothWithMan$Text" x "ClothWithMan" "APART_BOUNDS" "[I" ∈ lw_tbl)) fcN x kd h
  · exact fun x ci h => mLook_all (Q := fun x ci => ci ≠ 0 ∧ ∃ (C : String) (T : u_T) (N : Nat), mCl[ci]? = some (C, T, N) ∧ Cond.classLink "ClothWithMan$Text" x C ∈ lw_tbl ∧ Cond.instantiable C N ∈ lw_tbl) fcN x ci h
set_option maxRecDepth 100000 in
theorem c_Te_digit (l : Launch) : mCtr l E_Te_digit := mCtr_of (P := P_Te_digit) (own := "ClothWithMan$Text") mLay_ok rfl (by decide +kernel) rfl (ok_Te_digit l) (fun h => by cases h) (fun as σ pr rv σ' hF hpr hlv => by
  unfold E_Te_digit S_Te_digit at hF
  simp only [] at hF
  split at hF
  · cases hF
    obtain ⟨n, pcF, c1, s1, g1, g2, g3, g4⟩ := mF_inv (d_Te_digit _ σ (hpr _ rfl))
    exact ⟨Nat.le_of_ble_eq_true rfl, (fun v h => by cases h; trivial), n, pcF, c1, s1, g1, ⟨mEnd_of (i := .ireturn) (P := P_Te_digit) (rets := [26, 38]) rfl g2, rfl⟩, g3, g4⟩
  · cases hF
    exact (hpr _ rfl).elim)
/-! ClothWithMan$Text.failAtLastDigit()V -/
noncomputable def e_Te_failAtLastDigit  (σ : MSto) : MSto := (e_Te_failAt ((gI σ 10 0 2) - 1) σ)
noncomputable def S_Te_failAtLastDigit : List MV → MSto → Option Prop × Option MV × MSto := fun as σ => match as with
  | [.inr (.inr (some (10, 0)))] => (none, none, e_Te_failAtLastDigit σ)
  | _ => (some False, none, σ)
noncomputable def E_Te_failAtLastDigit : MEnt := ((1, 0, 10), (1, 21, 0, 0), S_Te_failAtLastDigit, ((⟨"ClothWithMan$Text", "failAtLastDigit", "()V"⟩ : MethodName), prog_11_method_13_code, 1, none))

def T_Te_failAtLastDigit : Nat → Option (Instr × Nat × List Nat) := fun k => bif Nat.blt k 11 then (bif Nat.blt k 5 then (bif Nat.blt k 1 then (bif Nat.beq k 0 then some (.aload_n 0, 1, []) else none) else (bif Nat.blt k 2 then (bif Nat.beq k 1 then some (.aload_n 0, 2, []) else none) else (bif Nat.beq k 2 then some (.getfield 22, 5, []) else none))) else (bif Nat.blt k 7 then (bif Nat.blt k 6 then (bif Nat.beq k 5 then some (.iconst 1, 6, []) else none) else (bif Nat.beq k 6 then some (.isub, 7, []) else none)) else (bif Nat.blt k 10 then (bif Nat.beq k 7 then some (.invokevirtual 42, 10, []) else none) else (bif Nat.beq k 10 then some (.return_, 11, []) else none)))) else none
noncomputable def P_Te_failAtLastDigit : MP := (T_Te_failAtLastDigit, (fun k => mLook k [(22, (10, 2, .int, false))]), (fun k => mLook k []), (fun k => mLook k [(42, E_Te_failAt)]), (fun k => mLook k []), (fun k => mLook k []), (fun k => mLook k []), (fun k => mLook k []), (fun k => [10].any (Nat.beq k)), (1, 21, 0, 0), false, (fun _ => none))
set_option maxRecDepth 100000 in
set_option maxHeartbeats 4000000 in
theorem q_Te_failAtLastDigit_e  (σ : MSto) (n : Nat) : mexe KT P_Te_failAtLastDigit (n + 1) (0, [some (mR 10 0)], [], σ, 0, 0) = some (10, [], [], (e_Te_failAt ((gI σ 10 0 2) - 1) σ), 0, 0) := rfl
set_option maxRecDepth 100000 in
set_option maxHeartbeats 4000000 in
theorem d_Te_failAtLastDigit  (σ : MSto) : mW1 P_Te_failAtLastDigit (0, [some (mR 10 0)], [], σ, 0, 0) (mF [10] [] (e_Te_failAtLastDigit σ) 0 0) := by
  refine mW1_eq (q_Te_failAtLastDigit_e  _) ?_
  exact mTr_e (by decide) rfl (Eq.symm (rfl)) (by decide) (by decide)

theorem tk_Te_failAtLastDigit : ∀ pc i nx tg, T_Te_failAtLastDigit pc = some (i, nx, tg) → mOkB prog_11_method_13_code pc i nx tg = true := code_ok (N := 11) (fun k h => by unfold T_Te_failAtLastDigit; rw [h]; rfl) (by decide +kernel)
theorem ok_Te_failAtLastDigit (l : Launch) : mPOK l "ClothWithMan$Text" prog_11_method_13_code P_Te_failAtLastDigit := by
  refine ⟨tk_Te_failAtLastDigit, ?_, ?_, ?_, (fun pc i nx tg kd _ h => by cases h), ?_, ?_, fun pc en h => by cases h⟩
  · intro x ci f ty fin h
    exact mLook_all (Q := fun x v => mFOK "ClothWithMan$Text" x v.1 v.2.1 v.2.2.1 v.2.2.2 ∧ (v.2.2.2 = true → pIni P_Te_failAtLastDigit = true → (Cond.fieldLink "ClothWithMan$Text" x (((mCl[v.1]?).getD ("", fun _ => ("", "", "", false), 0)).2.1 v.2.1).1 (((mCl[v.1]?).getD ("", fun _ => ("", "", "", false), 0)).2.1 v.2.1).2.1 (((mCl[v.1]?).getD ("", fun _ => ("", "", "", false), 0)).2.1 v.2.1).2.2.1 ∈ lw_tbl ∧ (((mCl[v.1]?).getD ("", fun _ => ("", "", "", false), 0)).2.1 v.2.1).1 = "ClothWithMan$Text"))) (fcC ⟨fo_Te_22, fun h1 h2 => by cases h1⟩ fcN) x (ci, f, ty, fin) h
  · intro x
    have hh := mLook_all (l := ([] : List (Nat × (Int32 ⊕ Int64)))) (Q := fun x (v : Int32 ⊕ Int64) => (∀ w, v = .inl w → Cond.constant "ClothWithMan$Text" x w ∈ lw_tbl) ∧ (∀ w, v = .inr w → Cond.constantLong "ClothWithMan$Text" x w ∈ lw_tbl)) fcN x
    exact ⟨fun w h => (hh _ h).1 w rfl, fun w h => (hh _ h).2 w rfl⟩
  · exact fun x en h => mLook_all (Q := fun x en => mLink "ClothWithMan$Text" x en ∧ mCtr l en ∧ (en.1.1 = 2 → en.2.2.2.2.2.2 = none)) (fcC ⟨li_Te_42, c_Te_failAt l, (fun h => by cases h)⟩ fcN) x en h
  · exact fun x kd h => mLook_all (Q := fun x kd => (kd = 95 ∧ Cond.fieldLink "ClothWithMan$Text" x "ClothWithMan" "LIKENESSES" "[I" ∈ lw_tbl) ∨ (kd = 96 ∧ Cond.fieldLink "ClothWithMan$Text" x "ClothWithMan" "APART_BOUNDS" "[I" ∈ lw_tbl)) fcN x kd h
  · exact fun x ci h => mLook_all (Q := fun x ci => ci ≠ 0 ∧ ∃ (C : String) (T : u_T) (N : Nat), mCl[ci]? = some (C, T, N) ∧ Cond.classLink "ClothWithMan$Text" x C ∈ lw_tbl ∧ Cond.instantiable C N ∈ lw_tbl) fcN x ci h
set_option maxRecDepth 100000 in
theorem c_Te_failAtLastDigit (l : Launch) : mCtr l E_Te_failAtLastDigit := mCtr_of (P := P_Te_failAtLastDigit) (own := "ClothWithMan$Text") mLay_ok rfl (by decide +kernel) rfl (ok_Te_failAtLastDigit l) (fun h => by cases h) (fun as σ pr rv σ' hF hpr hlv => by
  unfold E_Te_failAtLastDigit S_Te_failAtLastDigit at hF
  simp only [] at hF
  split at hF
  · cases hF
    obtain ⟨n, pcF, c1, s1, g1, g2, g3, g4⟩ := mF_inv (d_Te_failAtLastDigit σ)
    exact ⟨Nat.le_of_ble_eq_true rfl, (fun v h => by cases h), n, pcF, c1, s1, g1, mEnd_of (i := .return_) (P := P_Te_failAtLastDigit) (rets := [10]) rfl g2, g3, g4⟩
  · cases hF
    exact (hpr _ rfl).elim)
/-! ClothWithMan$Text.number(I)I -/
noncomputable def t_Te_number_9 (x1 : Int32) (c : Int32) (s : Int32 × MSto) : Int32 × MSto := (if 3 ≤ c then s else (if (v_C_isIn (v_Te_here (s.2)) 48 57 (s.2)) = 0 then s else ((((s.1) * 10) + (v_Te_digit 9 (s.2))), (e_Te_digit 9 (s.2)))))
noncomputable def q_Te_number_9s (x1 : Int32) (c : Int32) (s : Int32 × MSto) : Nat := (if 3 ≤ c then 1 else (if (v_C_isIn (v_Te_here (s.2)) 48 57 (s.2)) = 0 then 1 else 0))
def g_Te_number_9 (x1 : Int32) (c : Int32) (s : Int32 × MSto) : Prop := (¬ (3 ≤ c) → ((p_Te_here (s.2)) ∧ (¬ ((v_C_isIn (v_Te_here (s.2)) 48 57 (s.2)) = 0) → (p_Te_digit 9 (s.2)))))
noncomputable def f_Te_number_9 (x1 : Int32) (c0 : Int32) (s0 : Int32 × MSto) (n : Nat) : Int32 × MSto := nfold (fun i s => t_Te_number_9 x1 (c0 + nI i) s) s0 n
noncomputable def n_Te_number_9 (x1 : Int32) (c0 : Int32) (s0 : Int32 × MSto) : Nat := leastN (fun i => q_Te_number_9s x1 (c0 + nI i) (f_Te_number_9 x1 c0 s0 i) = 1) 4
noncomputable def v_Te_number (a1 : Int32) (σ : MSto) : Int32 := ((f_Te_number_9 a1 1 ((v_Te_digit 9 σ), (e_Te_digit 9 σ)) (n_Te_number_9 a1 1 ((v_Te_digit 9 σ), (e_Te_digit 9 σ)))).1)
def p_Te_number (a1 : Int32) (σ : MSto) : Prop := ((p_Te_digit 9 σ) ∧ ((∀ i, i < (n_Te_number_9 a1 1 ((v_Te_digit 9 σ), (e_Te_digit 9 σ))) → g_Te_number_9 a1 (1 + nI i) (f_Te_number_9 a1 1 ((v_Te_digit 9 σ), (e_Te_digit 9 σ)) i) ∧ ¬ q_Te_number_9s a1 (1 + nI i) (f_Te_number_9 a1 1 ((v_Te_digit 9 σ), (e_Te_digit 9 σ)) i) = 1) ∧ (¬ (3 ≤ (1 + nI (n_Te_number_9 a1 1 ((v_Te_digit 9 σ), (e_Te_digit 9 σ))))) → ((p_Te_here ((f_Te_number_9 a1 1 ((v_Te_digit 9 σ), (e_Te_digit 9 σ)) (n_Te_number_9 a1 1 ((v_Te_digit 9 σ), (e_Te_digit 9 σ)))).2)) ∧ (¬ ((v_C_isIn (v_Te_here ((f_Te_number_9 a1 1 ((v_Te_digit 9 σ), (e_Te_digit 9 σ)) (n_Te_number_9 a1 1 ((v_Te_digit 9 σ), (e_Te_digit 9 σ)))).2)) 48 57 ((f_Te_number_9 a1 1 ((v_Te_digit 9 σ), (e_Te_digit 9 σ)) (n_Te_number_9 a1 1 ((v_Te_digit 9 σ), (e_Te_digit 9 σ)))).2)) = 0) → False)))))
noncomputable def e_Te_number (a1 : Int32) (σ : MSto) : MSto := (if ((f_Te_number_9 a1 1 ((v_Te_digit 9 σ), (e_Te_digit 9 σ)) (n_Te_number_9 a1 1 ((v_Te_digit 9 σ), (e_Te_digit 9 σ)))).1) ≤ a1 then ((f_Te_number_9 a1 1 ((v_Te_digit 9 σ), (e_Te_digit 9 σ)) (n_Te_number_9 a1 1 ((v_Te_digit 9 σ), (e_Te_digit 9 σ)))).2) else (e_Te_failAtLastDigit ((f_Te_number_9 a1 1 ((v_Te_digit 9 σ), (e_Te_digit 9 σ)) (n_Te_number_9 a1 1 ((v_Te_digit 9 σ), (e_Te_digit 9 σ)))).2)))
noncomputable def S_Te_number : List MV → MSto → Option Prop × Option MV × MSto := fun as σ => match as with
  | [.inr (.inr (some (10, 0))), .inl a0] => (some (p_Te_number a0 σ), some (mI (v_Te_number a0 σ)), e_Te_number a0 σ)
  | _ => (some False, none, σ)
noncomputable def E_Te_number : MEnt := ((1, 1, 10), (2, 44, 0, 0), S_Te_number, ((⟨"ClothWithMan$Text", "number", "(I)I"⟩ : MethodName), prog_11_method_11_code, 4, (some .int)))

def T_Te_number : Nat → Option (Instr × Nat × List Nat) := fun k => bif Nat.blt k 57 then (bif Nat.blt k 29 then (bif Nat.blt k 11 then (bif Nat.blt k 7 then (bif Nat.blt k 3 then (bif Nat.blt k 1 then (bif Nat.beq k 0 then some (.aload_n 0, 1, []) else none) else (bif Nat.beq k 1 then some (.bipush 9, 3, []) else none)) else (bif Nat.blt k 6 then (bif Nat.beq k 3 then some (.invokevirtual 50, 6, []) else none) else (bif Nat.beq k 6 then some (.istore_n 2, 7, []) else none))) else (bif Nat.blt k 9 then (bif Nat.blt k 8 then (bif Nat.beq k 7 then some (.iconst 1, 8, []) else none) else (bif Nat.beq k 8 then some (.istore_n 3, 9, []) else none)) else (bif Nat.blt k 10 then (bif Nat.beq k 9 then some (.iload_n 3, 10, []) else none) else (bif Nat.beq k 10 then some (.iconst 3, 11, []) else none)))) else (bif Nat.blt k 20 then (bif Nat.blt k 15 then (bif Nat.blt k 14 then (bif Nat.beq k 11 then some (.if_icmp .ge 35, 14, [46]) else none) else (bif Nat.beq k 14 then some (.aload_n 0, 15, []) else none)) else (bif Nat.blt k 18 then (bif Nat.beq k 15 then some (.invokevirtual 34, 18, []) else none) else (bif Nat.beq k 18 then some (.bipush 48, 20, []) else none))) else (bif Nat.blt k 25 then (bif Nat.blt k 22 then (bif Nat.beq k 20 then some (.bipush 57, 22, []) else none) else (bif Nat.beq k 22 then some (.invokestatic 46, 25, []) else none)) else (bif Nat.blt k 28 then (bif Nat.beq k 25 then some (.ifCond .eq 21, 28, [46]) else none) else (bif Nat.beq k 28 then some (.iload_n 2, 29, []) else none))))) else (bif Nat.blt k 43 then (bif Nat.blt k 35 then (bif Nat.blt k 32 then (bif Nat.blt k 31 then (bif Nat.beq k 29 then some (.bipush 10, 31, []) else none) else (bif Nat.beq k 31 then some (.imul, 32, []) else none)) else (bif Nat.blt k 33 then (bif Nat.beq k 32 then some (.aload_n 0, 33, []) else none) else (bif Nat.beq k 33 then some (.bipush 9, 35, []) else none))) else (bif Nat.blt k 39 then (bif Nat.blt k 38 then (bif Nat.beq k 35 then some (.invokevirtual 50, 38, []) else none) else (bif Nat.beq k 38 then some (.iadd, 39, []) else none)) else (bif Nat.blt k 40 then (bif Nat.beq k 39 then some (.istore_n 2, 40, []) else none) else (bif Nat.beq k 40 then some (.iinc 3 1, 43, []) else none)))) else (bif Nat.blt k 51 then (bif Nat.blt k 47 then (bif Nat.blt k 46 then (bif Nat.beq k 43 then some (.goto (-34), 46, [9]) else none) else (bif Nat.beq k 46 then some (.iload_n 2, 47, []) else none)) else (bif Nat.blt k 48 then (bif Nat.beq k 47 then some (.iload_n 1, 48, []) else none) else (bif Nat.beq k 48 then some (.if_icmp .le 7, 51, [55]) else none))) else (bif Nat.blt k 55 then (bif Nat.blt k 52 then (bif Nat.beq k 51 then some (.aload_n 0, 52, []) else none) else (bif Nat.beq k 52 then some (.invokevirtual 54, 55, []) else none)) else (bif Nat.blt k 56 then (bif Nat.beq k 55 then some (.iload_n 2, 56, []) else none) else (bif Nat.beq k 56 then some (.ireturn, 57, []) else none)))))) else none
noncomputable def P_Te_number : MP := (T_Te_number, (fun k => mLook k []), (fun k => mLook k []), (fun k => mLook k [(34, E_Te_here), (46, E_C_isIn), (50, E_Te_digit), (54, E_Te_failAtLastDigit)]), (fun k => mLook k []), (fun k => mLook k []), (fun k => mLook k []), (fun k => mLook k [(9, [true, true, true, true])]), (fun k => [56].any (Nat.beq k)), (2, 44, 0, 0), false, (fun _ => none))
set_option maxRecDepth 100000 in
set_option maxHeartbeats 4000000 in
theorem q_Te_number_e (a1 : Int32) (σ : MSto) (n : Nat) : mexe KT P_Te_number (n + 1) (0, [some (mR 10 0), some (mI a1), none, none], [], σ, 0, 0) = mG (p_Te_digit 9 σ) (mexe KT P_Te_number n (9, [some (mR 10 0), some (mI a1), some (mI (v_Te_digit 9 σ)), some (mI 1)], [], (e_Te_digit 9 σ), 0, 0)) := rfl
set_option maxRecDepth 100000 in
set_option maxHeartbeats 4000000 in
theorem q_Te_number_9 (x1 : Int32) (x2 : Int32) (x3 : Int32) (σ : MSto) (n : Nat) : mexe KT P_Te_number (n + 1) (9, [some (mR 10 0), some (mI x1), some (mI x2), some (mI x3)], [], σ, 0, 0) = mIf (3 ≤ x3) (mIf (x2 ≤ x1) (some (56, [], [(mI x2)], σ, 0, 0)) (some (56, [], [(mI x2)], (e_Te_failAtLastDigit σ), 0, 0))) (mG (p_Te_here σ) (mIf ((v_C_isIn (v_Te_here σ) 48 57 σ) = 0) (mIf (x2 ≤ x1) (some (56, [], [(mI x2)], σ, 0, 0)) (some (56, [], [(mI x2)], (e_Te_failAtLastDigit σ), 0, 0))) (mG (p_Te_digit 9 σ) (mexe KT P_Te_number n (9, [some (mR 10 0), some (mI x1), some (mI ((x2 * 10) + (v_Te_digit 9 σ))), some (mI (x3 + 1))], [], (e_Te_digit 9 σ), 0, 0))))) := rfl
set_option maxRecDepth 100000 in
theorem lt_Te_number_9 {Post : MST → Prop} (x1 : Int32) (c : Int32) (s : Int32 × MSto) (hp : g_Te_number_9 x1 c s) (hq : ¬ q_Te_number_9s x1 c s = 1) (hn : ∀ (r1 : Int32) (r2 : MSto), t_Te_number_9 x1 c s = (r1, r2) → mW1 P_Te_number (9, [some (mR 10 0), some (mI x1), some (mI r1), some (mI (c + 1))], [], r2, 0, 0) Post) : mW1 P_Te_number (9, [some (mR 10 0), some (mI x1), some (mI (s.1)), some (mI c)], [], (s.2), 0, 0) Post := by
  unfold g_Te_number_9 at hp
  refine mW1_eq (q_Te_number_9 _ _ _ _) ?_
  refine mTr_if (fun h0 => ?_) (fun h0 => ?_)
  · skip
    exact absurd (if_pos h0) hq
  · skip
    have hp := hp h0
    refine mTr_g hp.1 ?_
    have hp := hp.2
    refine mTr_if (fun h1 => ?_) (fun h1 => ?_)
    · skip
      exact absurd ((if_neg h0).trans (if_pos h1)) hq
    · skip
      have hp := hp h1
      refine mTr_g hp ?_
      exact mTr_k (hn (((s.1) * 10) + (v_Te_digit 9 (s.2))) (e_Te_digit 9 (s.2)) ((if_neg h0).trans (if_neg h1)))
theorem lp_Te_number_9 {Post : MST → Prop} (x1 : Int32) (c0 : Int32) (s0 : Int32 × MSto) (N : Nat) (hb : ∀ i, i < N → g_Te_number_9 x1 (c0 + nI i) (f_Te_number_9 x1 c0 s0 i) ∧ ¬ q_Te_number_9s x1 (c0 + nI i) (f_Te_number_9 x1 c0 s0 i) = 1) (h : mW1 P_Te_number (9, [some (mR 10 0), some (mI x1), some (mI ((f_Te_number_9 x1 c0 s0 N).1)), some (mI (c0 + nI N))], [], ((f_Te_number_9 x1 c0 s0 N).2), 0, 0) Post) : mW1 P_Te_number (9, [some (mR 10 0), some (mI x1), some (mI (s0.1)), some (mI c0)], [], (s0.2), 0, 0) Post := by
  refine mW1_st (mW1_loop (fun i => (9, [some (mR 10 0), some (mI x1), some (mI ((f_Te_number_9 x1 c0 s0 i).1)), some (mI (c0 + nI i))], [], ((f_Te_number_9 x1 c0 s0 i).2), 0, 0)) N (fun i hlt hn => ?_) h) (by rw [show nI 0 = 0 from rfl, Int32.add_zero] <;> rfl)
  refine lt_Te_number_9 x1 _ _ (hb i hlt).1 (hb i hlt).2 (fun r1 r2 hr => ?_)
  rw [Int32.add_assoc, nI_s]
  have e : f_Te_number_9 x1 c0 s0 (i + 1) = (r1, r2) := hr
  try dsimp only at hn
  rw [e] at hn
  exact hn
set_option maxRecDepth 100000 in
set_option maxHeartbeats 4000000 in
theorem d_Te_number (a1 : Int32) (σ : MSto) (hp : p_Te_number a1 σ) : mW1 P_Te_number (0, [some (mR 10 0), some (mI a1), none, none], [], σ, 0, 0) (mF [56] [mI (v_Te_number a1 σ)] (e_Te_number a1 σ) 0 0) := by
  refine mW1_eq (q_Te_number_e _ _) ?_
  unfold p_Te_number at hp
  refine mTr_g hp.1 ?_
  have hp := hp.2
  refine mTr_k (lp_Te_number_9 a1 1 ((v_Te_digit 9 σ), (e_Te_digit 9 σ)) (n_Te_number_9 a1 1 ((v_Te_digit 9 σ), (e_Te_digit 9 σ))) hp.1 ?_)
  have hp := hp.2
  refine mW1_eq (q_Te_number_9 _ _ _ _) ?_
  refine mTr_if (fun h0 => ?_) (fun h0 => ?_)
  · skip
    refine mTr_if (fun h1 => ?_) (fun h1 => ?_)
    · skip
      exact mTr_e (by decide) (congrArg (fun z => [mI z]) (Eq.symm (rfl))) (Eq.symm (if_pos h1)) (by decide) (by decide)
    · skip
      exact mTr_e (by decide) (congrArg (fun z => [mI z]) (Eq.symm (rfl))) (Eq.symm (if_neg h1)) (by decide) (by decide)
  · skip
    have hp := hp h0
    refine mTr_g hp.1 ?_
    have hp := hp.2
    refine mTr_if (fun h1 => ?_) (fun h1 => ?_)
    · skip
      refine mTr_if (fun h2 => ?_) (fun h2 => ?_)
      · skip
        exact mTr_e (by decide) (congrArg (fun z => [mI z]) (Eq.symm (rfl))) (Eq.symm (if_pos h2)) (by decide) (by decide)
      · skip
        exact mTr_e (by decide) (congrArg (fun z => [mI z]) (Eq.symm (rfl))) (Eq.symm (if_neg h2)) (by decide) (by decide)
    · skip
      have hp := hp h1
      exact hp.elim
theorem li_Te_54 : mLink "ClothWithMan$Text" 54 E_Te_failAtLastDigit := ⟨tw_2_41, tw_1_2, ⟨by decide, by decide⟩, by decide +kernel, Or.inl tw_2_38, (fun h => by cases h), (fun _ => ⟨tw_2_39, tw_2_40, TX9, 5, rfl⟩), (fun h => by cases h)⟩

theorem li_Te_50 : mLink "ClothWithMan$Text" 50 E_Te_digit := ⟨tw_2_26, tw_1_2, ⟨by decide, by decide⟩, by decide +kernel, Or.inl tw_2_23, (fun h => by cases h), (fun _ => ⟨tw_2_24, tw_2_25, TX9, 5, rfl⟩), (fun h => by cases h)⟩



theorem tk_Te_number : ∀ pc i nx tg, T_Te_number pc = some (i, nx, tg) → mOkB prog_11_method_11_code pc i nx tg = true := code_ok (N := 57) (fun k h => by unfold T_Te_number; rw [h]; rfl) (by decide +kernel)
theorem ok_Te_number (l : Launch) : mPOK l "ClothWithMan$Text" prog_11_method_11_code P_Te_number := by
  refine ⟨tk_Te_number, ?_, ?_, ?_, (fun pc i nx tg kd _ h => by cases h), ?_, ?_, fun pc en h => by cases h⟩
  · intro x ci f ty fin h
    exact mLook_all (Q := fun x v => mFOK "ClothWithMan$Text" x v.1 v.2.1 v.2.2.1 v.2.2.2 ∧ (v.2.2.2 = true → pIni P_Te_number = true → (Cond.fieldLink "ClothWithMan$Text" x (((mCl[v.1]?).getD ("", fun _ => ("", "", "", false), 0)).2.1 v.2.1).1 (((mCl[v.1]?).getD ("", fun _ => ("", "", "", false), 0)).2.1 v.2.1).2.1 (((mCl[v.1]?).getD ("", fun _ => ("", "", "", false), 0)).2.1 v.2.1).2.2.1 ∈ lw_tbl ∧ (((mCl[v.1]?).getD ("", fun _ => ("", "", "", false), 0)).2.1 v.2.1).1 = "ClothWithMan$Text"))) fcN x (ci, f, ty, fin) h
  · intro x
    have hh := mLook_all (l := ([] : List (Nat × (Int32 ⊕ Int64)))) (Q := fun x (v : Int32 ⊕ Int64) => (∀ w, v = .inl w → Cond.constant "ClothWithMan$Text" x w ∈ lw_tbl) ∧ (∀ w, v = .inr w → Cond.constantLong "ClothWithMan$Text" x w ∈ lw_tbl)) fcN x
    exact ⟨fun w h => (hh _ h).1 w rfl, fun w h => (hh _ h).2 w rfl⟩
  · exact fun x en h => mLook_all (Q := fun x en => mLink "ClothWithMan$Text" x en ∧ mCtr l en ∧ (en.1.1 = 2 → en.2.2.2.2.2.2 = none)) (fcC ⟨li_Te_34, c_Te_here l, (fun h => by cases h)⟩ (fcC ⟨li_Te_46, c_C_isIn l, (fun h => by cases h)⟩ (fcC ⟨li_Te_50, c_Te_digit l, (fun h => by cases h)⟩ (fcC ⟨li_Te_54, c_Te_failAtLastDigit l, (fun h => by cases h)⟩ fcN)))) x en h
  · exact fun x kd h => mLook_all (Q := fun x kd => (kd = 95 ∧ Cond.fieldLink "ClothWithMan$Text" x "ClothWithMan" "LIKENESSES" "[I" ∈ lw_tbl) ∨ (kd = 96 ∧ Cond.fieldLink "ClothWithMan$Text" x "ClothWithMan" "APART_BOUNDS" "[I" ∈ lw_tbl)) fcN x kd h
  · exact fun x ci h => mLook_all (Q := fun x ci => ci ≠ 0 ∧ ∃ (C : String) (T : u_T) (N : Nat), mCl[ci]? = some (C, T, N) ∧ Cond.classLink "ClothWithMan$Text" x C ∈ lw_tbl ∧ Cond.instantiable C N ∈ lw_tbl) fcN x ci h
set_option maxRecDepth 100000 in
theorem c_Te_number (l : Launch) : mCtr l E_Te_number := mCtr_of (P := P_Te_number) (own := "ClothWithMan$Text") mLay_ok rfl (by decide +kernel) rfl (ok_Te_number l) (fun h => by cases h) (fun as σ pr rv σ' hF hpr hlv => by
  unfold E_Te_number S_Te_number at hF
  simp only [] at hF
  split at hF
  · cases hF
    obtain ⟨n, pcF, c1, s1, g1, g2, g3, g4⟩ := mF_inv (d_Te_number _ σ (hpr _ rfl))
    exact ⟨Nat.le_of_ble_eq_true rfl, (fun v h => by cases h; trivial), n, pcF, c1, s1, g1, ⟨mEnd_of (i := .ireturn) (P := P_Te_number) (rets := [56]) rfl g2, rfl⟩, g3, g4⟩
  · cases hF
    exact (hpr _ rfl).elim)
/-! ClothWithMan$Text.signedNumber(I)I -/
noncomputable def v_Te_signedNumber (a1 : Int32) (σ : MSto) : Int32 := (if (v_Te_skip 45 σ) = 0 then (1 * (v_Te_number a1 (e_Te_skip 45 σ))) else ((-1) * (v_Te_number a1 (e_Te_skip 45 σ))))
def p_Te_signedNumber (a1 : Int32) (σ : MSto) : Prop := ((p_Te_skip 45 σ) ∧ ((((v_Te_skip 45 σ) = 0) → (p_Te_number a1 (e_Te_skip 45 σ))) ∧ (¬ ((v_Te_skip 45 σ) = 0) → (p_Te_number a1 (e_Te_skip 45 σ)))))
noncomputable def e_Te_signedNumber (a1 : Int32) (σ : MSto) : MSto := (e_Te_number a1 (e_Te_skip 45 σ))
noncomputable def S_Te_signedNumber : List MV → MSto → Option Prop × Option MV × MSto := fun as σ => match as with
  | [.inr (.inr (some (10, 0))), .inl a0] => (some (p_Te_signedNumber a0 σ), some (mI (v_Te_signedNumber a0 σ)), e_Te_signedNumber a0 σ)
  | _ => (some False, none, σ)
noncomputable def E_Te_signedNumber : MEnt := ((1, 1, 10), (3, 67, 0, 0), S_Te_signedNumber, ((⟨"ClothWithMan$Text", "signedNumber", "(I)I"⟩ : MethodName), prog_11_method_12_code, 3, (some .int)))

def T_Te_signedNumber : Nat → Option (Instr × Nat × List Nat) := fun k => bif Nat.blt k 23 then (bif Nat.blt k 14 then (bif Nat.blt k 6 then (bif Nat.blt k 1 then (bif Nat.beq k 0 then some (.aload_n 0, 1, []) else none) else (bif Nat.blt k 3 then (bif Nat.beq k 1 then some (.bipush 45, 3, []) else none) else (bif Nat.beq k 3 then some (.invokevirtual 38, 6, []) else none))) else (bif Nat.blt k 10 then (bif Nat.blt k 9 then (bif Nat.beq k 6 then some (.ifCond .eq 7, 9, [13]) else none) else (bif Nat.beq k 9 then some (.iconst (-1), 10, []) else none)) else (bif Nat.blt k 13 then (bif Nat.beq k 10 then some (.goto 4, 13, [14]) else none) else (bif Nat.beq k 13 then some (.iconst 1, 14, []) else none)))) else (bif Nat.blt k 17 then (bif Nat.blt k 15 then (bif Nat.beq k 14 then some (.istore_n 2, 15, []) else none) else (bif Nat.blt k 16 then (bif Nat.beq k 15 then some (.iload_n 2, 16, []) else none) else (bif Nat.beq k 16 then some (.aload_n 0, 17, []) else none))) else (bif Nat.blt k 21 then (bif Nat.blt k 18 then (bif Nat.beq k 17 then some (.iload_n 1, 18, []) else none) else (bif Nat.beq k 18 then some (.invokevirtual 57, 21, []) else none)) else (bif Nat.blt k 22 then (bif Nat.beq k 21 then some (.imul, 22, []) else none) else (bif Nat.beq k 22 then some (.ireturn, 23, []) else none))))) else none
noncomputable def P_Te_signedNumber : MP := (T_Te_signedNumber, (fun k => mLook k []), (fun k => mLook k []), (fun k => mLook k [(38, E_Te_skip), (57, E_Te_number)]), (fun k => mLook k []), (fun k => mLook k []), (fun k => mLook k []), (fun k => mLook k []), (fun k => [22].any (Nat.beq k)), (3, 67, 0, 0), false, (fun _ => none))
set_option maxRecDepth 100000 in
set_option maxHeartbeats 4000000 in
theorem q_Te_signedNumber_e (a1 : Int32) (σ : MSto) (n : Nat) : mexe KT P_Te_signedNumber (n + 1) (0, [some (mR 10 0), some (mI a1), none], [], σ, 0, 0) = mG (p_Te_skip 45 σ) (mIf ((v_Te_skip 45 σ) = 0) (mG (p_Te_number a1 (e_Te_skip 45 σ)) (some (22, [], [(mI (1 * (v_Te_number a1 (e_Te_skip 45 σ))))], (e_Te_number a1 (e_Te_skip 45 σ)), 0, 0))) (mG (p_Te_number a1 (e_Te_skip 45 σ)) (some (22, [], [(mI ((-1) * (v_Te_number a1 (e_Te_skip 45 σ))))], (e_Te_number a1 (e_Te_skip 45 σ)), 0, 0)))) := rfl
set_option maxRecDepth 100000 in
set_option maxHeartbeats 4000000 in
theorem d_Te_signedNumber (a1 : Int32) (σ : MSto) (hp : p_Te_signedNumber a1 σ) : mW1 P_Te_signedNumber (0, [some (mR 10 0), some (mI a1), none], [], σ, 0, 0) (mF [22] [mI (v_Te_signedNumber a1 σ)] (e_Te_signedNumber a1 σ) 0 0) := by
  refine mW1_eq (q_Te_signedNumber_e _ _) ?_
  unfold p_Te_signedNumber at hp
  refine mTr_g hp.1 ?_
  have hp := hp.2
  refine mTr_if (fun h0 => ?_) (fun h0 => ?_)
  · skip
    have hp := hp.1 h0
    refine mTr_g hp ?_
    exact mTr_e (by decide) (congrArg (fun z => [mI z]) (Eq.symm (if_pos h0))) (Eq.symm (rfl)) (by decide) (by decide)
  · skip
    have hp := hp.2 h0
    refine mTr_g hp ?_
    exact mTr_e (by decide) (congrArg (fun z => [mI z]) (Eq.symm (if_neg h0))) (Eq.symm (rfl)) (by decide) (by decide)
theorem li_Te_57 : mLink "ClothWithMan$Text" 57 E_Te_number := ⟨tw_2_22, tw_1_2, ⟨by decide, by decide⟩, by decide +kernel, Or.inl tw_4_38, (fun h => by cases h), (fun _ => ⟨tw_2_20, tw_2_21, TX9, 5, rfl⟩), (fun h => by cases h)⟩


theorem tk_Te_signedNumber : ∀ pc i nx tg, T_Te_signedNumber pc = some (i, nx, tg) → mOkB prog_11_method_12_code pc i nx tg = true := code_ok (N := 23) (fun k h => by unfold T_Te_signedNumber; rw [h]; rfl) (by decide +kernel)
theorem ok_Te_signedNumber (l : Launch) : mPOK l "ClothWithMan$Text" prog_11_method_12_code P_Te_signedNumber := by
  refine ⟨tk_Te_signedNumber, ?_, ?_, ?_, (fun pc i nx tg kd _ h => by cases h), ?_, ?_, fun pc en h => by cases h⟩
  · intro x ci f ty fin h
    exact mLook_all (Q := fun x v => mFOK "ClothWithMan$Text" x v.1 v.2.1 v.2.2.1 v.2.2.2 ∧ (v.2.2.2 = true → pIni P_Te_signedNumber = true → (Cond.fieldLink "ClothWithMan$Text" x (((mCl[v.1]?).getD ("", fun _ => ("", "", "", false), 0)).2.1 v.2.1).1 (((mCl[v.1]?).getD ("", fun _ => ("", "", "", false), 0)).2.1 v.2.1).2.1 (((mCl[v.1]?).getD ("", fun _ => ("", "", "", false), 0)).2.1 v.2.1).2.2.1 ∈ lw_tbl ∧ (((mCl[v.1]?).getD ("", fun _ => ("", "", "", false), 0)).2.1 v.2.1).1 = "ClothWithMan$Text"))) fcN x (ci, f, ty, fin) h
  · intro x
    have hh := mLook_all (l := ([] : List (Nat × (Int32 ⊕ Int64)))) (Q := fun x (v : Int32 ⊕ Int64) => (∀ w, v = .inl w → Cond.constant "ClothWithMan$Text" x w ∈ lw_tbl) ∧ (∀ w, v = .inr w → Cond.constantLong "ClothWithMan$Text" x w ∈ lw_tbl)) fcN x
    exact ⟨fun w h => (hh _ h).1 w rfl, fun w h => (hh _ h).2 w rfl⟩
  · exact fun x en h => mLook_all (Q := fun x en => mLink "ClothWithMan$Text" x en ∧ mCtr l en ∧ (en.1.1 = 2 → en.2.2.2.2.2.2 = none)) (fcC ⟨li_Te_38, c_Te_skip l, (fun h => by cases h)⟩ (fcC ⟨li_Te_57, c_Te_number l, (fun h => by cases h)⟩ fcN)) x en h
  · exact fun x kd h => mLook_all (Q := fun x kd => (kd = 95 ∧ Cond.fieldLink "ClothWithMan$Text" x "ClothWithMan" "LIKENESSES" "[I" ∈ lw_tbl) ∨ (kd = 96 ∧ Cond.fieldLink "ClothWithMan$Text" x "ClothWithMan" "APART_BOUNDS" "[I" ∈ lw_tbl)) fcN x kd h
  · exact fun x ci h => mLook_all (Q := fun x ci => ci ≠ 0 ∧ ∃ (C : String) (T : u_T) (N : Nat), mCl[ci]? = some (C, T, N) ∧ Cond.classLink "ClothWithMan$Text" x C ∈ lw_tbl ∧ Cond.instantiable C N ∈ lw_tbl) fcN x ci h
set_option maxRecDepth 100000 in
theorem c_Te_signedNumber (l : Launch) : mCtr l E_Te_signedNumber := mCtr_of (P := P_Te_signedNumber) (own := "ClothWithMan$Text") mLay_ok rfl (by decide +kernel) rfl (ok_Te_signedNumber l) (fun h => by cases h) (fun as σ pr rv σ' hF hpr hlv => by
  unfold E_Te_signedNumber S_Te_signedNumber at hF
  simp only [] at hF
  split at hF
  · cases hF
    obtain ⟨n, pcF, c1, s1, g1, g2, g3, g4⟩ := mF_inv (d_Te_signedNumber _ σ (hpr _ rfl))
    exact ⟨Nat.le_of_ble_eq_true rfl, (fun v h => by cases h; trivial), n, pcF, c1, s1, g1, ⟨mEnd_of (i := .ireturn) (P := P_Te_signedNumber) (rets := [22]) rfl g2, rfl⟩, g3, g4⟩
  · cases hF
    exact (hpr _ rfl).elim)
/-! ClothWithMan$Text.finish(I)V -/
noncomputable def e_Te_finish (a1 : Int32) (σ : MSto) : MSto := (if (gI σ 10 0 3) ≤ (gI σ 10 0 2) then (if (gI σ 10 0 1) ≤ a1 then σ else (e_Te_failAt a1 σ)) else (if (gI (e_Te_failAt (gI σ 10 0 2) σ) 10 0 1) ≤ a1 then (e_Te_failAt (gI σ 10 0 2) σ) else (e_Te_failAt a1 (e_Te_failAt (gI σ 10 0 2) σ))))
noncomputable def S_Te_finish : List MV → MSto → Option Prop × Option MV × MSto := fun as σ => match as with
  | [.inr (.inr (some (10, 0))), .inl a0] => (none, none, e_Te_finish a0 σ)
  | _ => (some False, none, σ)
noncomputable def E_Te_finish : MEnt := ((1, 1, 10), (1, 21, 0, 0), S_Te_finish, ((⟨"ClothWithMan$Text", "finish", "(I)V"⟩ : MethodName), prog_11_method_14_code, 2, none))

def T_Te_finish : Nat → Option (Instr × Nat × List Nat) := fun k => bif Nat.blt k 33 then (bif Nat.blt k 16 then (bif Nat.blt k 8 then (bif Nat.blt k 4 then (bif Nat.blt k 1 then (bif Nat.beq k 0 then some (.aload_n 0, 1, []) else none) else (bif Nat.beq k 1 then some (.getfield 22, 4, []) else none)) else (bif Nat.blt k 5 then (bif Nat.beq k 4 then some (.aload_n 0, 5, []) else none) else (bif Nat.beq k 5 then some (.getfield 31, 8, []) else none))) else (bif Nat.blt k 12 then (bif Nat.blt k 11 then (bif Nat.beq k 8 then some (.if_icmp .ge 11, 11, [19]) else none) else (bif Nat.beq k 11 then some (.aload_n 0, 12, []) else none)) else (bif Nat.blt k 13 then (bif Nat.beq k 12 then some (.aload_n 0, 13, []) else none) else (bif Nat.beq k 13 then some (.getfield 22, 16, []) else none)))) else (bif Nat.blt k 24 then (bif Nat.blt k 20 then (bif Nat.blt k 19 then (bif Nat.beq k 16 then some (.invokevirtual 42, 19, []) else none) else (bif Nat.beq k 19 then some (.aload_n 0, 20, []) else none)) else (bif Nat.blt k 23 then (bif Nat.beq k 20 then some (.getfield 19, 23, []) else none) else (bif Nat.beq k 23 then some (.iload_n 1, 24, []) else none))) else (bif Nat.blt k 28 then (bif Nat.blt k 27 then (bif Nat.beq k 24 then some (.if_icmp .le 8, 27, [32]) else none) else (bif Nat.beq k 27 then some (.aload_n 0, 28, []) else none)) else (bif Nat.blt k 29 then (bif Nat.beq k 28 then some (.iload_n 1, 29, []) else none) else (bif Nat.blt k 32 then (bif Nat.beq k 29 then some (.invokevirtual 42, 32, []) else none) else (bif Nat.beq k 32 then some (.return_, 33, []) else none)))))) else none
noncomputable def P_Te_finish : MP := (T_Te_finish, (fun k => mLook k [(19, (10, 1, .int, false)), (22, (10, 2, .int, false)), (31, (10, 3, .int, false))]), (fun k => mLook k []), (fun k => mLook k [(42, E_Te_failAt)]), (fun k => mLook k []), (fun k => mLook k []), (fun k => mLook k []), (fun k => mLook k []), (fun k => [32].any (Nat.beq k)), (1, 21, 0, 0), false, (fun _ => none))
set_option maxRecDepth 100000 in
set_option maxHeartbeats 4000000 in
theorem q_Te_finish_e (a1 : Int32) (σ : MSto) (n : Nat) : mexe KT P_Te_finish (n + 1) (0, [some (mR 10 0), some (mI a1)], [], σ, 0, 0) = mIf ((gI σ 10 0 3) ≤ (gI σ 10 0 2)) (mIf ((gI σ 10 0 1) ≤ a1) (some (32, [], [], σ, 0, 0)) (some (32, [], [], (e_Te_failAt a1 σ), 0, 0))) (mIf ((gI (e_Te_failAt (gI σ 10 0 2) σ) 10 0 1) ≤ a1) (some (32, [], [], (e_Te_failAt (gI σ 10 0 2) σ), 0, 0)) (some (32, [], [], (e_Te_failAt a1 (e_Te_failAt (gI σ 10 0 2) σ)), 0, 0))) := rfl
set_option maxRecDepth 100000 in
set_option maxHeartbeats 4000000 in
theorem d_Te_finish (a1 : Int32) (σ : MSto) : mW1 P_Te_finish (0, [some (mR 10 0), some (mI a1)], [], σ, 0, 0) (mF [32] [] (e_Te_finish a1 σ) 0 0) := by
  refine mW1_eq (q_Te_finish_e _ _) ?_
  refine mTr_if (fun h0 => ?_) (fun h0 => ?_)
  · skip
    refine mTr_if (fun h1 => ?_) (fun h1 => ?_)
    · skip
      exact mTr_e (by decide) rfl (Eq.symm ((if_pos h0).trans (if_pos h1))) (by decide) (by decide)
    · skip
      exact mTr_e (by decide) rfl (Eq.symm ((if_pos h0).trans (if_neg h1))) (by decide) (by decide)
  · skip
    refine mTr_if (fun h1 => ?_) (fun h1 => ?_)
    · skip
      exact mTr_e (by decide) rfl (Eq.symm ((if_neg h0).trans (if_pos h1))) (by decide) (by decide)
    · skip
      exact mTr_e (by decide) rfl (Eq.symm ((if_neg h0).trans (if_neg h1))) (by decide) (by decide)

theorem tk_Te_finish : ∀ pc i nx tg, T_Te_finish pc = some (i, nx, tg) → mOkB prog_11_method_14_code pc i nx tg = true := code_ok (N := 33) (fun k h => by unfold T_Te_finish; rw [h]; rfl) (by decide +kernel)
theorem ok_Te_finish (l : Launch) : mPOK l "ClothWithMan$Text" prog_11_method_14_code P_Te_finish := by
  refine ⟨tk_Te_finish, ?_, ?_, ?_, (fun pc i nx tg kd _ h => by cases h), ?_, ?_, fun pc en h => by cases h⟩
  · intro x ci f ty fin h
    exact mLook_all (Q := fun x v => mFOK "ClothWithMan$Text" x v.1 v.2.1 v.2.2.1 v.2.2.2 ∧ (v.2.2.2 = true → pIni P_Te_finish = true → (Cond.fieldLink "ClothWithMan$Text" x (((mCl[v.1]?).getD ("", fun _ => ("", "", "", false), 0)).2.1 v.2.1).1 (((mCl[v.1]?).getD ("", fun _ => ("", "", "", false), 0)).2.1 v.2.1).2.1 (((mCl[v.1]?).getD ("", fun _ => ("", "", "", false), 0)).2.1 v.2.1).2.2.1 ∈ lw_tbl ∧ (((mCl[v.1]?).getD ("", fun _ => ("", "", "", false), 0)).2.1 v.2.1).1 = "ClothWithMan$Text"))) (fcC ⟨fo_Te_19, fun h1 h2 => by cases h1⟩ (fcC ⟨fo_Te_22, fun h1 h2 => by cases h1⟩ (fcC ⟨fo_Te_31, fun h1 h2 => by cases h1⟩ fcN))) x (ci, f, ty, fin) h
  · intro x
    have hh := mLook_all (l := ([] : List (Nat × (Int32 ⊕ Int64)))) (Q := fun x (v : Int32 ⊕ Int64) => (∀ w, v = .inl w → Cond.constant "ClothWithMan$Text" x w ∈ lw_tbl) ∧ (∀ w, v = .inr w → Cond.constantLong "ClothWithMan$Text" x w ∈ lw_tbl)) fcN x
    exact ⟨fun w h => (hh _ h).1 w rfl, fun w h => (hh _ h).2 w rfl⟩
  · exact fun x en h => mLook_all (Q := fun x en => mLink "ClothWithMan$Text" x en ∧ mCtr l en ∧ (en.1.1 = 2 → en.2.2.2.2.2.2 = none)) (fcC ⟨li_Te_42, c_Te_failAt l, (fun h => by cases h)⟩ fcN) x en h
  · exact fun x kd h => mLook_all (Q := fun x kd => (kd = 95 ∧ Cond.fieldLink "ClothWithMan$Text" x "ClothWithMan" "LIKENESSES" "[I" ∈ lw_tbl) ∨ (kd = 96 ∧ Cond.fieldLink "ClothWithMan$Text" x "ClothWithMan" "APART_BOUNDS" "[I" ∈ lw_tbl)) fcN x kd h
  · exact fun x ci h => mLook_all (Q := fun x ci => ci ≠ 0 ∧ ∃ (C : String) (T : u_T) (N : Nat), mCl[ci]? = some (C, T, N) ∧ Cond.classLink "ClothWithMan$Text" x C ∈ lw_tbl ∧ Cond.instantiable C N ∈ lw_tbl) fcN x ci h
set_option maxRecDepth 100000 in
theorem c_Te_finish (l : Launch) : mCtr l E_Te_finish := mCtr_of (P := P_Te_finish) (own := "ClothWithMan$Text") mLay_ok rfl (by decide +kernel) rfl (ok_Te_finish l) (fun h => by cases h) (fun as σ pr rv σ' hF hpr hlv => by
  unfold E_Te_finish S_Te_finish at hF
  simp only [] at hF
  split at hF
  · cases hF
    obtain ⟨n, pcF, c1, s1, g1, g2, g3, g4⟩ := mF_inv (d_Te_finish _ σ)
    exact ⟨Nat.le_of_ble_eq_true rfl, (fun v h => by cases h), n, pcF, c1, s1, g1, mEnd_of (i := .return_) (P := P_Te_finish) (rets := [32]) rfl g2, g3, g4⟩
  · cases hF
    exact (hpr _ rfl).elim)
/-! ClothWithMan$Story.<init>()V -/
noncomputable def e_St_init (t0 : Nat) (σ : MSto) : MSto := (sI σ 9 t0 1 1)
noncomputable def S_St_init : List MV → MSto → Option Prop × Option MV × MSto := fun as σ => match as with
  | [.inr (.inr (some (9, i0)))] => (none, none, e_St_init i0 σ)
  | _ => (some False, none, σ)
noncomputable def E_St_init : MEnt := ((2, 0, 9), (1, 20, 0, 0), S_St_init, ((⟨"ClothWithMan$Story", "<init>", "()V"⟩ : MethodName), prog_10_method_1_code, 1, none))

def T_St_init : Nat → Option (Instr × Nat × List Nat) := fun k => bif Nat.blt k 10 then (bif Nat.blt k 5 then (bif Nat.blt k 1 then (bif Nat.beq k 0 then some (.aload_n 0, 1, []) else none) else (bif Nat.blt k 4 then (bif Nat.beq k 1 then some (.invokespecial 3, 4, []) else none) else (bif Nat.beq k 4 then some (.aload_n 0, 5, []) else none))) else (bif Nat.blt k 6 then (bif Nat.beq k 5 then some (.iconst 1, 6, []) else none) else (bif Nat.blt k 9 then (bif Nat.beq k 6 then some (.putfield 9, 9, []) else none) else (bif Nat.beq k 9 then some (.return_, 10, []) else none)))) else none
noncomputable def P_St_init : MP := (T_St_init, (fun k => mLook k [(9, (9, 1, .int, false))]), (fun k => mLook k []), (fun k => mLook k []), (fun k => mLook k [(1, 0)]), (fun k => mLook k []), (fun k => mLook k []), (fun k => mLook k []), (fun k => [9].any (Nat.beq k)), (1, 20, 0, 0), true, (fun _ => none))
set_option maxRecDepth 100000 in
set_option maxHeartbeats 4000000 in
theorem q_St_init_e (t0 : Nat) (σ : MSto) (n : Nat) : mexe KT P_St_init (n + 1) (0, [some (mR 9 t0)], [], σ, 0, 0) = some (9, [], [], (sI σ 9 t0 1 1), 0, 0) := rfl
set_option maxRecDepth 100000 in
set_option maxHeartbeats 4000000 in
theorem d_St_init (t0 : Nat) (σ : MSto) : mW1 P_St_init (0, [some (mR 9 t0)], [], σ, 0, 0) (mF [9] [] (e_St_init t0 σ) 0 0) := by
  refine mW1_eq (q_St_init_e _ _) ?_
  exact mTr_e (by decide) rfl (Eq.symm (rfl)) (by decide) (by decide)
theorem tk_St_init : ∀ pc i nx tg, T_St_init pc = some (i, nx, tg) → mOkB prog_10_method_1_code pc i nx tg = true := code_ok (N := 10) (fun k h => by unfold T_St_init; rw [h]; rfl) (by decide +kernel)
theorem al_St_init : ∀ pc i nx tg kd, pCode P_St_init pc = some (i, nx, tg) → pAlc P_St_init pc = some kd → match i with
    | .new x => mAOK "ClothWithMan$Story" x kd
    | .newarray t => mNAOK t kd
    | .anewarray x => mAAOK "ClothWithMan$Story" x kd
    | .invokespecial x => Cond.methodLink "ClothWithMan$Story" x Lib.objectInit ∈ lw_tbl
    | _ => True := by
  intro pc i nx tg kd h1 h2
  have h3 := mLook_mem h2
  simp only [List.mem_cons, Prod.mk.injEq, List.not_mem_nil, or_false] at h3
  rcases h3 with ⟨rfl, rfl⟩
  · have e : T_St_init 1 = some (i, nx, tg) := h1
    cases e
    exact tw_3_220

theorem ok_St_init (l : Launch) : mPOK l "ClothWithMan$Story" prog_10_method_1_code P_St_init := by
  refine ⟨tk_St_init, ?_, ?_, ?_, al_St_init, ?_, ?_, fun pc en h => by cases h⟩
  · intro x ci f ty fin h
    exact mLook_all (Q := fun x v => mFOK "ClothWithMan$Story" x v.1 v.2.1 v.2.2.1 v.2.2.2 ∧ (v.2.2.2 = true → pIni P_St_init = true → (Cond.fieldLink "ClothWithMan$Story" x (((mCl[v.1]?).getD ("", fun _ => ("", "", "", false), 0)).2.1 v.2.1).1 (((mCl[v.1]?).getD ("", fun _ => ("", "", "", false), 0)).2.1 v.2.1).2.1 (((mCl[v.1]?).getD ("", fun _ => ("", "", "", false), 0)).2.1 v.2.1).2.2.1 ∈ lw_tbl ∧ (((mCl[v.1]?).getD ("", fun _ => ("", "", "", false), 0)).2.1 v.2.1).1 = "ClothWithMan$Story"))) (fcC ⟨fo_St_9, fun h1 h2 => by cases h1⟩ fcN) x (ci, f, ty, fin) h
  · intro x
    have hh := mLook_all (l := ([] : List (Nat × (Int32 ⊕ Int64)))) (Q := fun x (v : Int32 ⊕ Int64) => (∀ w, v = .inl w → Cond.constant "ClothWithMan$Story" x w ∈ lw_tbl) ∧ (∀ w, v = .inr w → Cond.constantLong "ClothWithMan$Story" x w ∈ lw_tbl)) fcN x
    exact ⟨fun w h => (hh _ h).1 w rfl, fun w h => (hh _ h).2 w rfl⟩
  · exact fun x en h => mLook_all (Q := fun x en => mLink "ClothWithMan$Story" x en ∧ mCtr l en ∧ (en.1.1 = 2 → en.2.2.2.2.2.2 = none)) fcN x en h
  · exact fun x kd h => mLook_all (Q := fun x kd => (kd = 95 ∧ Cond.fieldLink "ClothWithMan$Story" x "ClothWithMan" "LIKENESSES" "[I" ∈ lw_tbl) ∨ (kd = 96 ∧ Cond.fieldLink "ClothWithMan$Story" x "ClothWithMan" "APART_BOUNDS" "[I" ∈ lw_tbl)) fcN x kd h
  · exact fun x ci h => mLook_all (Q := fun x ci => ci ≠ 0 ∧ ∃ (C : String) (T : u_T) (N : Nat), mCl[ci]? = some (C, T, N) ∧ Cond.classLink "ClothWithMan$Story" x C ∈ lw_tbl ∧ Cond.instantiable C N ∈ lw_tbl) fcN x ci h
set_option maxRecDepth 100000 in
theorem c_St_init (l : Launch) : mCtr l E_St_init := mCtr_of (P := P_St_init) (own := "ClothWithMan$Story") mLay_ok rfl (by decide +kernel) rfl (ok_St_init l) (fun _ => rfl) (fun as σ pr rv σ' hF hpr hlv => by
  unfold E_St_init S_St_init at hF
  simp only [] at hF
  split at hF
  · cases hF
    obtain ⟨n, pcF, c1, s1, g1, g2, g3, g4⟩ := mF_inv (d_St_init _ σ)
    exact ⟨Nat.le_of_ble_eq_true rfl, (fun v h => by cases h), n, pcF, c1, s1, g1, mEnd_of (i := .return_) (P := P_St_init) (rets := [9]) rfl g2, g3, g4⟩
  · cases hF
    exact (hpr _ rfl).elim)
/-! ClothWithMan$Story.hasTerm(I)Z -/
def b_St_hasTerm (t0 : Nat) (a1 : Int32) (σ : MSto) : Prop := (if ((gI σ 9 t0 0) &&& a1) = 0 then False else True)
noncomputable def v_St_hasTerm (t0 : Nat) (a1 : Int32) (σ : MSto) : Int32 := bI (b_St_hasTerm t0 a1 σ)
noncomputable def S_St_hasTerm : List MV → MSto → Option Prop × Option MV × MSto := fun as σ => match as with
  | [.inr (.inr (some (9, i0))), .inl a0] => (none, some (mI (v_St_hasTerm i0 a0 σ)), σ)
  | _ => (some False, none, σ)
noncomputable def E_St_hasTerm : MEnt := ((1, 1, 9), (0, 0, 0, 0), S_St_hasTerm, ((⟨"ClothWithMan$Story", "hasTerm", "(I)Z"⟩ : MethodName), prog_10_method_2_code, 2, (some .boolean)))

def T_St_hasTerm : Nat → Option (Instr × Nat × List Nat) := fun k => bif Nat.blt k 15 then (bif Nat.blt k 6 then (bif Nat.blt k 4 then (bif Nat.blt k 1 then (bif Nat.beq k 0 then some (.aload_n 0, 1, []) else none) else (bif Nat.beq k 1 then some (.getfield 15, 4, []) else none)) else (bif Nat.blt k 5 then (bif Nat.beq k 4 then some (.iload_n 1, 5, []) else none) else (bif Nat.beq k 5 then some (.iand, 6, []) else none))) else (bif Nat.blt k 10 then (bif Nat.blt k 9 then (bif Nat.beq k 6 then some (.ifCond .eq 7, 9, [13]) else none) else (bif Nat.beq k 9 then some (.iconst 1, 10, []) else none)) else (bif Nat.blt k 13 then (bif Nat.beq k 10 then some (.goto 4, 13, [14]) else none) else (bif Nat.blt k 14 then (bif Nat.beq k 13 then some (.iconst 0, 14, []) else none) else (bif Nat.beq k 14 then some (.ireturn, 15, []) else none))))) else none
noncomputable def P_St_hasTerm : MP := (T_St_hasTerm, (fun k => mLook k [(15, (9, 0, .int, false))]), (fun k => mLook k []), (fun k => mLook k []), (fun k => mLook k []), (fun k => mLook k []), (fun k => mLook k []), (fun k => mLook k []), (fun k => [14].any (Nat.beq k)), (0, 0, 0, 0), false, (fun _ => none))
set_option maxRecDepth 100000 in
set_option maxHeartbeats 4000000 in
theorem q_St_hasTerm_e (t0 : Nat) (a1 : Int32) (σ : MSto) (n : Nat) : mexe KT P_St_hasTerm (n + 1) (0, [some (mR 9 t0), some (mI a1)], [], σ, 0, 0) = mIf (((gI σ 9 t0 0) &&& a1) = 0) (some (14, [], [(mI 0)], σ, 0, 0)) (some (14, [], [(mI 1)], σ, 0, 0)) := rfl
set_option maxRecDepth 100000 in
set_option maxHeartbeats 4000000 in
theorem d_St_hasTerm (t0 : Nat) (a1 : Int32) (σ : MSto) : mW1 P_St_hasTerm (0, [some (mR 9 t0), some (mI a1)], [], σ, 0, 0) (mF [14] [mI (v_St_hasTerm t0 a1 σ)] σ 0 0) := by
  refine mW1_eq (q_St_hasTerm_e _ _ _) ?_
  unfold v_St_hasTerm
  refine mTr_if (fun h0 => ?_) (fun h0 => ?_)
  · skip
    exact mTr_e (by decide) (bI_F (if_pos h0)) rfl (by decide) (by decide)
  · skip
    exact mTr_e (by decide) (bI_T (if_neg h0)) rfl (by decide) (by decide)
theorem tk_St_hasTerm : ∀ pc i nx tg, T_St_hasTerm pc = some (i, nx, tg) → mOkB prog_10_method_2_code pc i nx tg = true := code_ok (N := 15) (fun k h => by unfold T_St_hasTerm; rw [h]; rfl) (by decide +kernel)
theorem ok_St_hasTerm (l : Launch) : mPOK l "ClothWithMan$Story" prog_10_method_2_code P_St_hasTerm := by
  refine ⟨tk_St_hasTerm, ?_, ?_, ?_, (fun pc i nx tg kd _ h => by cases h), ?_, ?_, fun pc en h => by cases h⟩
  · intro x ci f ty fin h
    exact mLook_all (Q := fun x v => mFOK "ClothWithMan$Story" x v.1 v.2.1 v.2.2.1 v.2.2.2 ∧ (v.2.2.2 = true → pIni P_St_hasTerm = true → (Cond.fieldLink "ClothWithMan$Story" x (((mCl[v.1]?).getD ("", fun _ => ("", "", "", false), 0)).2.1 v.2.1).1 (((mCl[v.1]?).getD ("", fun _ => ("", "", "", false), 0)).2.1 v.2.1).2.1 (((mCl[v.1]?).getD ("", fun _ => ("", "", "", false), 0)).2.1 v.2.1).2.2.1 ∈ lw_tbl ∧ (((mCl[v.1]?).getD ("", fun _ => ("", "", "", false), 0)).2.1 v.2.1).1 = "ClothWithMan$Story"))) (fcC ⟨fo_St_15, fun h1 h2 => by cases h1⟩ fcN) x (ci, f, ty, fin) h
  · intro x
    have hh := mLook_all (l := ([] : List (Nat × (Int32 ⊕ Int64)))) (Q := fun x (v : Int32 ⊕ Int64) => (∀ w, v = .inl w → Cond.constant "ClothWithMan$Story" x w ∈ lw_tbl) ∧ (∀ w, v = .inr w → Cond.constantLong "ClothWithMan$Story" x w ∈ lw_tbl)) fcN x
    exact ⟨fun w h => (hh _ h).1 w rfl, fun w h => (hh _ h).2 w rfl⟩
  · exact fun x en h => mLook_all (Q := fun x en => mLink "ClothWithMan$Story" x en ∧ mCtr l en ∧ (en.1.1 = 2 → en.2.2.2.2.2.2 = none)) fcN x en h
  · exact fun x kd h => mLook_all (Q := fun x kd => (kd = 95 ∧ Cond.fieldLink "ClothWithMan$Story" x "ClothWithMan" "LIKENESSES" "[I" ∈ lw_tbl) ∨ (kd = 96 ∧ Cond.fieldLink "ClothWithMan$Story" x "ClothWithMan" "APART_BOUNDS" "[I" ∈ lw_tbl)) fcN x kd h
  · exact fun x ci h => mLook_all (Q := fun x ci => ci ≠ 0 ∧ ∃ (C : String) (T : u_T) (N : Nat), mCl[ci]? = some (C, T, N) ∧ Cond.classLink "ClothWithMan$Story" x C ∈ lw_tbl ∧ Cond.instantiable C N ∈ lw_tbl) fcN x ci h
set_option maxRecDepth 100000 in
theorem c_St_hasTerm (l : Launch) : mCtr l E_St_hasTerm := mCtr_of (P := P_St_hasTerm) (own := "ClothWithMan$Story") mLay_ok rfl (by decide +kernel) rfl (ok_St_hasTerm l) (fun h => by cases h) (fun as σ pr rv σ' hF hpr hlv => by
  unfold E_St_hasTerm S_St_hasTerm at hF
  simp only [] at hF
  split at hF
  · cases hF
    obtain ⟨n, pcF, c1, s1, g1, g2, g3, g4⟩ := mF_inv (d_St_hasTerm _ _ σ)
    exact ⟨Nat.le_of_ble_eq_true rfl, (fun v h => by cases h; trivial), n, pcF, c1, s1, g1, ⟨mEnd_of (i := .ireturn) (P := P_St_hasTerm) (rets := [14]) rfl g2, bI_narrow _⟩, g3, g4⟩
  · cases hF
    exact (hpr _ rfl).elim)
/-! ClothWithMan$Story.firstYear()I -/
noncomputable def v_St_firstYear (t0 : Nat) (σ : MSto) : Int32 := (if (v_St_hasTerm t0 1 σ) = 0 then 0 else (gI σ 9 t0 2))
noncomputable def S_St_firstYear : List MV → MSto → Option Prop × Option MV × MSto := fun as σ => match as with
  | [.inr (.inr (some (9, i0)))] => (none, some (mI (v_St_firstYear i0 σ)), σ)
  | _ => (some False, none, σ)
noncomputable def E_St_firstYear : MEnt := ((1, 0, 9), (1, 21, 0, 0), S_St_firstYear, ((⟨"ClothWithMan$Story", "firstYear", "()I"⟩ : MethodName), prog_10_method_3_code, 1, (some .int)))

def T_St_firstYear : Nat → Option (Instr × Nat × List Nat) := fun k => bif Nat.blt k 17 then (bif Nat.blt k 8 then (bif Nat.blt k 2 then (bif Nat.blt k 1 then (bif Nat.beq k 0 then some (.aload_n 0, 1, []) else none) else (bif Nat.beq k 1 then some (.iconst 1, 2, []) else none)) else (bif Nat.blt k 5 then (bif Nat.beq k 2 then some (.invokevirtual 18, 5, []) else none) else (bif Nat.beq k 5 then some (.ifCond .eq 10, 8, [15]) else none))) else (bif Nat.blt k 12 then (bif Nat.blt k 9 then (bif Nat.beq k 8 then some (.aload_n 0, 9, []) else none) else (bif Nat.beq k 9 then some (.getfield 22, 12, []) else none)) else (bif Nat.blt k 15 then (bif Nat.beq k 12 then some (.goto 4, 15, [16]) else none) else (bif Nat.blt k 16 then (bif Nat.beq k 15 then some (.iconst 0, 16, []) else none) else (bif Nat.beq k 16 then some (.ireturn, 17, []) else none))))) else none
noncomputable def P_St_firstYear : MP := (T_St_firstYear, (fun k => mLook k [(22, (9, 2, .int, false))]), (fun k => mLook k []), (fun k => mLook k [(18, E_St_hasTerm)]), (fun k => mLook k []), (fun k => mLook k []), (fun k => mLook k []), (fun k => mLook k []), (fun k => [16].any (Nat.beq k)), (1, 21, 0, 0), false, (fun _ => none))
set_option maxRecDepth 100000 in
set_option maxHeartbeats 4000000 in
theorem q_St_firstYear_e (t0 : Nat) (σ : MSto) (n : Nat) : mexe KT P_St_firstYear (n + 1) (0, [some (mR 9 t0)], [], σ, 0, 0) = mIf ((v_St_hasTerm t0 1 σ) = 0) (some (16, [], [(mI 0)], σ, 0, 0)) (some (16, [], [(mI (gI σ 9 t0 2))], σ, 0, 0)) := rfl
set_option maxRecDepth 100000 in
set_option maxHeartbeats 4000000 in
theorem d_St_firstYear (t0 : Nat) (σ : MSto) : mW1 P_St_firstYear (0, [some (mR 9 t0)], [], σ, 0, 0) (mF [16] [mI (v_St_firstYear t0 σ)] σ 0 0) := by
  refine mW1_eq (q_St_firstYear_e _ _) ?_
  refine mTr_if (fun h0 => ?_) (fun h0 => ?_)
  · skip
    exact mTr_e (by decide) (congrArg (fun z => [mI z]) (Eq.symm (if_pos h0))) rfl (by decide) (by decide)
  · skip
    exact mTr_e (by decide) (congrArg (fun z => [mI z]) (Eq.symm (if_neg h0))) rfl (by decide) (by decide)
theorem li_St_18 : mLink "ClothWithMan$Story" 18 E_St_hasTerm := ⟨tw_4_31, tw_1_23, ⟨by decide, by decide⟩, by decide +kernel, Or.inl tw_4_28, (fun h => by cases h), (fun _ => ⟨tw_4_29, tw_4_30, TX8, 9, rfl⟩), (fun h => by cases h)⟩

theorem tk_St_firstYear : ∀ pc i nx tg, T_St_firstYear pc = some (i, nx, tg) → mOkB prog_10_method_3_code pc i nx tg = true := code_ok (N := 17) (fun k h => by unfold T_St_firstYear; rw [h]; rfl) (by decide +kernel)
theorem ok_St_firstYear (l : Launch) : mPOK l "ClothWithMan$Story" prog_10_method_3_code P_St_firstYear := by
  refine ⟨tk_St_firstYear, ?_, ?_, ?_, (fun pc i nx tg kd _ h => by cases h), ?_, ?_, fun pc en h => by cases h⟩
  · intro x ci f ty fin h
    exact mLook_all (Q := fun x v => mFOK "ClothWithMan$Story" x v.1 v.2.1 v.2.2.1 v.2.2.2 ∧ (v.2.2.2 = true → pIni P_St_firstYear = true → (Cond.fieldLink "ClothWithMan$Story" x (((mCl[v.1]?).getD ("", fun _ => ("", "", "", false), 0)).2.1 v.2.1).1 (((mCl[v.1]?).getD ("", fun _ => ("", "", "", false), 0)).2.1 v.2.1).2.1 (((mCl[v.1]?).getD ("", fun _ => ("", "", "", false), 0)).2.1 v.2.1).2.2.1 ∈ lw_tbl ∧ (((mCl[v.1]?).getD ("", fun _ => ("", "", "", false), 0)).2.1 v.2.1).1 = "ClothWithMan$Story"))) (fcC ⟨fo_St_22, fun h1 h2 => by cases h1⟩ fcN) x (ci, f, ty, fin) h
  · intro x
    have hh := mLook_all (l := ([] : List (Nat × (Int32 ⊕ Int64)))) (Q := fun x (v : Int32 ⊕ Int64) => (∀ w, v = .inl w → Cond.constant "ClothWithMan$Story" x w ∈ lw_tbl) ∧ (∀ w, v = .inr w → Cond.constantLong "ClothWithMan$Story" x w ∈ lw_tbl)) fcN x
    exact ⟨fun w h => (hh _ h).1 w rfl, fun w h => (hh _ h).2 w rfl⟩
  · exact fun x en h => mLook_all (Q := fun x en => mLink "ClothWithMan$Story" x en ∧ mCtr l en ∧ (en.1.1 = 2 → en.2.2.2.2.2.2 = none)) (fcC ⟨li_St_18, c_St_hasTerm l, (fun h => by cases h)⟩ fcN) x en h
  · exact fun x kd h => mLook_all (Q := fun x kd => (kd = 95 ∧ Cond.fieldLink "ClothWithMan$Story" x "ClothWithMan" "LIKENESSES" "[I" ∈ lw_tbl) ∨ (kd = 96 ∧ Cond.fieldLink "ClothWithMan$Story" x "ClothWithMan" "APART_BOUNDS" "[I" ∈ lw_tbl)) fcN x kd h
  · exact fun x ci h => mLook_all (Q := fun x ci => ci ≠ 0 ∧ ∃ (C : String) (T : u_T) (N : Nat), mCl[ci]? = some (C, T, N) ∧ Cond.classLink "ClothWithMan$Story" x C ∈ lw_tbl ∧ Cond.instantiable C N ∈ lw_tbl) fcN x ci h
set_option maxRecDepth 100000 in
theorem c_St_firstYear (l : Launch) : mCtr l E_St_firstYear := mCtr_of (P := P_St_firstYear) (own := "ClothWithMan$Story") mLay_ok rfl (by decide +kernel) rfl (ok_St_firstYear l) (fun h => by cases h) (fun as σ pr rv σ' hF hpr hlv => by
  unfold E_St_firstYear S_St_firstYear at hF
  simp only [] at hF
  split at hF
  · cases hF
    obtain ⟨n, pcF, c1, s1, g1, g2, g3, g4⟩ := mF_inv (d_St_firstYear _ σ)
    exact ⟨Nat.le_of_ble_eq_true rfl, (fun v h => by cases h; trivial), n, pcF, c1, s1, g1, ⟨mEnd_of (i := .ireturn) (P := P_St_firstYear) (rets := [16]) rfl g2, rfl⟩, g3, g4⟩
  · cases hF
    exact (hpr _ rfl).elim)
/-! ClothWithMan$Story.lastYear()I -/
noncomputable def v_St_lastYear (t0 : Nat) (σ : MSto) : Int32 := (if (v_St_hasTerm t0 1 σ) = 0 then 199 else (gI σ 9 t0 2))
noncomputable def S_St_lastYear : List MV → MSto → Option Prop × Option MV × MSto := fun as σ => match as with
  | [.inr (.inr (some (9, i0)))] => (none, some (mI (v_St_lastYear i0 σ)), σ)
  | _ => (some False, none, σ)
noncomputable def E_St_lastYear : MEnt := ((1, 0, 9), (1, 21, 0, 0), S_St_lastYear, ((⟨"ClothWithMan$Story", "lastYear", "()I"⟩ : MethodName), prog_10_method_4_code, 1, (some .int)))

def T_St_lastYear : Nat → Option (Instr × Nat × List Nat) := fun k => bif Nat.blt k 19 then (bif Nat.blt k 8 then (bif Nat.blt k 2 then (bif Nat.blt k 1 then (bif Nat.beq k 0 then some (.aload_n 0, 1, []) else none) else (bif Nat.beq k 1 then some (.iconst 1, 2, []) else none)) else (bif Nat.blt k 5 then (bif Nat.beq k 2 then some (.invokevirtual 18, 5, []) else none) else (bif Nat.beq k 5 then some (.ifCond .eq 10, 8, [15]) else none))) else (bif Nat.blt k 12 then (bif Nat.blt k 9 then (bif Nat.beq k 8 then some (.aload_n 0, 9, []) else none) else (bif Nat.beq k 9 then some (.getfield 22, 12, []) else none)) else (bif Nat.blt k 15 then (bif Nat.beq k 12 then some (.goto 6, 15, [18]) else none) else (bif Nat.blt k 18 then (bif Nat.beq k 15 then some (.sipush 199, 18, []) else none) else (bif Nat.beq k 18 then some (.ireturn, 19, []) else none))))) else none
noncomputable def P_St_lastYear : MP := (T_St_lastYear, (fun k => mLook k [(22, (9, 2, .int, false))]), (fun k => mLook k []), (fun k => mLook k [(18, E_St_hasTerm)]), (fun k => mLook k []), (fun k => mLook k []), (fun k => mLook k []), (fun k => mLook k []), (fun k => [18].any (Nat.beq k)), (1, 21, 0, 0), false, (fun _ => none))
set_option maxRecDepth 100000 in
set_option maxHeartbeats 4000000 in
theorem q_St_lastYear_e (t0 : Nat) (σ : MSto) (n : Nat) : mexe KT P_St_lastYear (n + 1) (0, [some (mR 9 t0)], [], σ, 0, 0) = mIf ((v_St_hasTerm t0 1 σ) = 0) (some (18, [], [(mI 199)], σ, 0, 0)) (some (18, [], [(mI (gI σ 9 t0 2))], σ, 0, 0)) := rfl
set_option maxRecDepth 100000 in
set_option maxHeartbeats 4000000 in
theorem d_St_lastYear (t0 : Nat) (σ : MSto) : mW1 P_St_lastYear (0, [some (mR 9 t0)], [], σ, 0, 0) (mF [18] [mI (v_St_lastYear t0 σ)] σ 0 0) := by
  refine mW1_eq (q_St_lastYear_e _ _) ?_
  refine mTr_if (fun h0 => ?_) (fun h0 => ?_)
  · skip
    exact mTr_e (by decide) (congrArg (fun z => [mI z]) (Eq.symm (if_pos h0))) rfl (by decide) (by decide)
  · skip
    exact mTr_e (by decide) (congrArg (fun z => [mI z]) (Eq.symm (if_neg h0))) rfl (by decide) (by decide)

theorem tk_St_lastYear : ∀ pc i nx tg, T_St_lastYear pc = some (i, nx, tg) → mOkB prog_10_method_4_code pc i nx tg = true := code_ok (N := 19) (fun k h => by unfold T_St_lastYear; rw [h]; rfl) (by decide +kernel)
theorem ok_St_lastYear (l : Launch) : mPOK l "ClothWithMan$Story" prog_10_method_4_code P_St_lastYear := by
  refine ⟨tk_St_lastYear, ?_, ?_, ?_, (fun pc i nx tg kd _ h => by cases h), ?_, ?_, fun pc en h => by cases h⟩
  · intro x ci f ty fin h
    exact mLook_all (Q := fun x v => mFOK "ClothWithMan$Story" x v.1 v.2.1 v.2.2.1 v.2.2.2 ∧ (v.2.2.2 = true → pIni P_St_lastYear = true → (Cond.fieldLink "ClothWithMan$Story" x (((mCl[v.1]?).getD ("", fun _ => ("", "", "", false), 0)).2.1 v.2.1).1 (((mCl[v.1]?).getD ("", fun _ => ("", "", "", false), 0)).2.1 v.2.1).2.1 (((mCl[v.1]?).getD ("", fun _ => ("", "", "", false), 0)).2.1 v.2.1).2.2.1 ∈ lw_tbl ∧ (((mCl[v.1]?).getD ("", fun _ => ("", "", "", false), 0)).2.1 v.2.1).1 = "ClothWithMan$Story"))) (fcC ⟨fo_St_22, fun h1 h2 => by cases h1⟩ fcN) x (ci, f, ty, fin) h
  · intro x
    have hh := mLook_all (l := ([] : List (Nat × (Int32 ⊕ Int64)))) (Q := fun x (v : Int32 ⊕ Int64) => (∀ w, v = .inl w → Cond.constant "ClothWithMan$Story" x w ∈ lw_tbl) ∧ (∀ w, v = .inr w → Cond.constantLong "ClothWithMan$Story" x w ∈ lw_tbl)) fcN x
    exact ⟨fun w h => (hh _ h).1 w rfl, fun w h => (hh _ h).2 w rfl⟩
  · exact fun x en h => mLook_all (Q := fun x en => mLink "ClothWithMan$Story" x en ∧ mCtr l en ∧ (en.1.1 = 2 → en.2.2.2.2.2.2 = none)) (fcC ⟨li_St_18, c_St_hasTerm l, (fun h => by cases h)⟩ fcN) x en h
  · exact fun x kd h => mLook_all (Q := fun x kd => (kd = 95 ∧ Cond.fieldLink "ClothWithMan$Story" x "ClothWithMan" "LIKENESSES" "[I" ∈ lw_tbl) ∨ (kd = 96 ∧ Cond.fieldLink "ClothWithMan$Story" x "ClothWithMan" "APART_BOUNDS" "[I" ∈ lw_tbl)) fcN x kd h
  · exact fun x ci h => mLook_all (Q := fun x ci => ci ≠ 0 ∧ ∃ (C : String) (T : u_T) (N : Nat), mCl[ci]? = some (C, T, N) ∧ Cond.classLink "ClothWithMan$Story" x C ∈ lw_tbl ∧ Cond.instantiable C N ∈ lw_tbl) fcN x ci h
set_option maxRecDepth 100000 in
theorem c_St_lastYear (l : Launch) : mCtr l E_St_lastYear := mCtr_of (P := P_St_lastYear) (own := "ClothWithMan$Story") mLay_ok rfl (by decide +kernel) rfl (ok_St_lastYear l) (fun h => by cases h) (fun as σ pr rv σ' hF hpr hlv => by
  unfold E_St_lastYear S_St_lastYear at hF
  simp only [] at hF
  split at hF
  · cases hF
    obtain ⟨n, pcF, c1, s1, g1, g2, g3, g4⟩ := mF_inv (d_St_lastYear _ σ)
    exact ⟨Nat.le_of_ble_eq_true rfl, (fun v h => by cases h; trivial), n, pcF, c1, s1, g1, ⟨mEnd_of (i := .ireturn) (P := P_St_lastYear) (rets := [18]) rfl g2, rfl⟩, g3, g4⟩
  · cases hF
    exact (hpr _ rfl).elim)
/-! ClothWithMan$Story.wovenIn(I)I -/
noncomputable def v_St_wovenIn (t0 : Nat) (a1 : Int32) (σ : MSto) : Int32 := (if (v_St_hasTerm t0 1 σ) = 0 then a1 else (gI σ 9 t0 2))
noncomputable def S_St_wovenIn : List MV → MSto → Option Prop × Option MV × MSto := fun as σ => match as with
  | [.inr (.inr (some (9, i0))), .inl a0] => (none, some (mI (v_St_wovenIn i0 a0 σ)), σ)
  | _ => (some False, none, σ)
noncomputable def E_St_wovenIn : MEnt := ((1, 1, 9), (1, 21, 0, 0), S_St_wovenIn, ((⟨"ClothWithMan$Story", "wovenIn", "(I)I"⟩ : MethodName), prog_10_method_5_code, 2, (some .int)))

def T_St_wovenIn : Nat → Option (Instr × Nat × List Nat) := fun k => bif Nat.blt k 17 then (bif Nat.blt k 8 then (bif Nat.blt k 2 then (bif Nat.blt k 1 then (bif Nat.beq k 0 then some (.aload_n 0, 1, []) else none) else (bif Nat.beq k 1 then some (.iconst 1, 2, []) else none)) else (bif Nat.blt k 5 then (bif Nat.beq k 2 then some (.invokevirtual 18, 5, []) else none) else (bif Nat.beq k 5 then some (.ifCond .eq 10, 8, [15]) else none))) else (bif Nat.blt k 12 then (bif Nat.blt k 9 then (bif Nat.beq k 8 then some (.aload_n 0, 9, []) else none) else (bif Nat.beq k 9 then some (.getfield 22, 12, []) else none)) else (bif Nat.blt k 15 then (bif Nat.beq k 12 then some (.goto 4, 15, [16]) else none) else (bif Nat.blt k 16 then (bif Nat.beq k 15 then some (.iload_n 1, 16, []) else none) else (bif Nat.beq k 16 then some (.ireturn, 17, []) else none))))) else none
noncomputable def P_St_wovenIn : MP := (T_St_wovenIn, (fun k => mLook k [(22, (9, 2, .int, false))]), (fun k => mLook k []), (fun k => mLook k [(18, E_St_hasTerm)]), (fun k => mLook k []), (fun k => mLook k []), (fun k => mLook k []), (fun k => mLook k []), (fun k => [16].any (Nat.beq k)), (1, 21, 0, 0), false, (fun _ => none))
set_option maxRecDepth 100000 in
set_option maxHeartbeats 4000000 in
theorem q_St_wovenIn_e (t0 : Nat) (a1 : Int32) (σ : MSto) (n : Nat) : mexe KT P_St_wovenIn (n + 1) (0, [some (mR 9 t0), some (mI a1)], [], σ, 0, 0) = mIf ((v_St_hasTerm t0 1 σ) = 0) (some (16, [], [(mI a1)], σ, 0, 0)) (some (16, [], [(mI (gI σ 9 t0 2))], σ, 0, 0)) := rfl
set_option maxRecDepth 100000 in
set_option maxHeartbeats 4000000 in
theorem d_St_wovenIn (t0 : Nat) (a1 : Int32) (σ : MSto) : mW1 P_St_wovenIn (0, [some (mR 9 t0), some (mI a1)], [], σ, 0, 0) (mF [16] [mI (v_St_wovenIn t0 a1 σ)] σ 0 0) := by
  refine mW1_eq (q_St_wovenIn_e _ _ _) ?_
  refine mTr_if (fun h0 => ?_) (fun h0 => ?_)
  · skip
    exact mTr_e (by decide) (congrArg (fun z => [mI z]) (Eq.symm (if_pos h0))) rfl (by decide) (by decide)
  · skip
    exact mTr_e (by decide) (congrArg (fun z => [mI z]) (Eq.symm (if_neg h0))) rfl (by decide) (by decide)

theorem tk_St_wovenIn : ∀ pc i nx tg, T_St_wovenIn pc = some (i, nx, tg) → mOkB prog_10_method_5_code pc i nx tg = true := code_ok (N := 17) (fun k h => by unfold T_St_wovenIn; rw [h]; rfl) (by decide +kernel)
theorem ok_St_wovenIn (l : Launch) : mPOK l "ClothWithMan$Story" prog_10_method_5_code P_St_wovenIn := by
  refine ⟨tk_St_wovenIn, ?_, ?_, ?_, (fun pc i nx tg kd _ h => by cases h), ?_, ?_, fun pc en h => by cases h⟩
  · intro x ci f ty fin h
    exact mLook_all (Q := fun x v => mFOK "ClothWithMan$Story" x v.1 v.2.1 v.2.2.1 v.2.2.2 ∧ (v.2.2.2 = true → pIni P_St_wovenIn = true → (Cond.fieldLink "ClothWithMan$Story" x (((mCl[v.1]?).getD ("", fun _ => ("", "", "", false), 0)).2.1 v.2.1).1 (((mCl[v.1]?).getD ("", fun _ => ("", "", "", false), 0)).2.1 v.2.1).2.1 (((mCl[v.1]?).getD ("", fun _ => ("", "", "", false), 0)).2.1 v.2.1).2.2.1 ∈ lw_tbl ∧ (((mCl[v.1]?).getD ("", fun _ => ("", "", "", false), 0)).2.1 v.2.1).1 = "ClothWithMan$Story"))) (fcC ⟨fo_St_22, fun h1 h2 => by cases h1⟩ fcN) x (ci, f, ty, fin) h
  · intro x
    have hh := mLook_all (l := ([] : List (Nat × (Int32 ⊕ Int64)))) (Q := fun x (v : Int32 ⊕ Int64) => (∀ w, v = .inl w → Cond.constant "ClothWithMan$Story" x w ∈ lw_tbl) ∧ (∀ w, v = .inr w → Cond.constantLong "ClothWithMan$Story" x w ∈ lw_tbl)) fcN x
    exact ⟨fun w h => (hh _ h).1 w rfl, fun w h => (hh _ h).2 w rfl⟩
  · exact fun x en h => mLook_all (Q := fun x en => mLink "ClothWithMan$Story" x en ∧ mCtr l en ∧ (en.1.1 = 2 → en.2.2.2.2.2.2 = none)) (fcC ⟨li_St_18, c_St_hasTerm l, (fun h => by cases h)⟩ fcN) x en h
  · exact fun x kd h => mLook_all (Q := fun x kd => (kd = 95 ∧ Cond.fieldLink "ClothWithMan$Story" x "ClothWithMan" "LIKENESSES" "[I" ∈ lw_tbl) ∨ (kd = 96 ∧ Cond.fieldLink "ClothWithMan$Story" x "ClothWithMan" "APART_BOUNDS" "[I" ∈ lw_tbl)) fcN x kd h
  · exact fun x ci h => mLook_all (Q := fun x ci => ci ≠ 0 ∧ ∃ (C : String) (T : u_T) (N : Nat), mCl[ci]? = some (C, T, N) ∧ Cond.classLink "ClothWithMan$Story" x C ∈ lw_tbl ∧ Cond.instantiable C N ∈ lw_tbl) fcN x ci h
set_option maxRecDepth 100000 in
theorem c_St_wovenIn (l : Launch) : mCtr l E_St_wovenIn := mCtr_of (P := P_St_wovenIn) (own := "ClothWithMan$Story") mLay_ok rfl (by decide +kernel) rfl (ok_St_wovenIn l) (fun h => by cases h) (fun as σ pr rv σ' hF hpr hlv => by
  unfold E_St_wovenIn S_St_wovenIn at hF
  simp only [] at hF
  split at hF
  · cases hF
    obtain ⟨n, pcF, c1, s1, g1, g2, g3, g4⟩ := mF_inv (d_St_wovenIn _ _ σ)
    exact ⟨Nat.le_of_ble_eq_true rfl, (fun v h => by cases h; trivial), n, pcF, c1, s1, g1, ⟨mEnd_of (i := .ireturn) (P := P_St_wovenIn) (rets := [16]) rfl g2, rfl⟩, g3, g4⟩
  · cases hF
    exact (hpr _ rfl).elim)
/-! ClothWithMan$Story.mends(II)Z -/
def b_St_mends (t0 : Nat) (a1 : Int32) (a2 : Int32) (σ : MSto) : Prop := (if (v_St_hasTerm t0 4 σ) = 0 then False else (if 4 ≤ a1 then False else (if 2 ≤ a2 then False else True)))
noncomputable def v_St_mends (t0 : Nat) (a1 : Int32) (a2 : Int32) (σ : MSto) : Int32 := bI (b_St_mends t0 a1 a2 σ)
noncomputable def S_St_mends : List MV → MSto → Option Prop × Option MV × MSto := fun as σ => match as with
  | [.inr (.inr (some (9, i0))), .inl a0, .inl a1] => (none, some (mI (v_St_mends i0 a0 a1 σ)), σ)
  | _ => (some False, none, σ)
noncomputable def E_St_mends : MEnt := ((1, 2, 9), (1, 21, 0, 0), S_St_mends, ((⟨"ClothWithMan$Story", "mends", "(II)Z"⟩ : MethodName), prog_10_method_6_code, 3, (some .boolean)))

def T_St_mends : Nat → Option (Instr × Nat × List Nat) := fun k => bif Nat.blt k 24 then (bif Nat.blt k 13 then (bif Nat.blt k 5 then (bif Nat.blt k 1 then (bif Nat.beq k 0 then some (.aload_n 0, 1, []) else none) else (bif Nat.blt k 2 then (bif Nat.beq k 1 then some (.iconst 4, 2, []) else none) else (bif Nat.beq k 2 then some (.invokevirtual 18, 5, []) else none))) else (bif Nat.blt k 9 then (bif Nat.blt k 8 then (bif Nat.beq k 5 then some (.ifCond .eq 17, 8, [22]) else none) else (bif Nat.beq k 8 then some (.iload_n 1, 9, []) else none)) else (bif Nat.blt k 10 then (bif Nat.beq k 9 then some (.iconst 4, 10, []) else none) else (bif Nat.beq k 10 then some (.if_icmp .ge 12, 13, [22]) else none)))) else (bif Nat.blt k 18 then (bif Nat.blt k 14 then (bif Nat.beq k 13 then some (.iload_n 2, 14, []) else none) else (bif Nat.blt k 15 then (bif Nat.beq k 14 then some (.iconst 2, 15, []) else none) else (bif Nat.beq k 15 then some (.if_icmp .ge 7, 18, [22]) else none))) else (bif Nat.blt k 22 then (bif Nat.blt k 19 then (bif Nat.beq k 18 then some (.iconst 1, 19, []) else none) else (bif Nat.beq k 19 then some (.goto 4, 22, [23]) else none)) else (bif Nat.blt k 23 then (bif Nat.beq k 22 then some (.iconst 0, 23, []) else none) else (bif Nat.beq k 23 then some (.ireturn, 24, []) else none))))) else none
noncomputable def P_St_mends : MP := (T_St_mends, (fun k => mLook k []), (fun k => mLook k []), (fun k => mLook k [(18, E_St_hasTerm)]), (fun k => mLook k []), (fun k => mLook k []), (fun k => mLook k []), (fun k => mLook k []), (fun k => [23].any (Nat.beq k)), (1, 21, 0, 0), false, (fun _ => none))
set_option maxRecDepth 100000 in
set_option maxHeartbeats 4000000 in
theorem q_St_mends_e (t0 : Nat) (a1 : Int32) (a2 : Int32) (σ : MSto) (n : Nat) : mexe KT P_St_mends (n + 1) (0, [some (mR 9 t0), some (mI a1), some (mI a2)], [], σ, 0, 0) = mIf ((v_St_hasTerm t0 4 σ) = 0) (some (23, [], [(mI 0)], σ, 0, 0)) (mIf (4 ≤ a1) (some (23, [], [(mI 0)], σ, 0, 0)) (mIf (2 ≤ a2) (some (23, [], [(mI 0)], σ, 0, 0)) (some (23, [], [(mI 1)], σ, 0, 0)))) := rfl
set_option maxRecDepth 100000 in
set_option maxHeartbeats 4000000 in
theorem d_St_mends (t0 : Nat) (a1 : Int32) (a2 : Int32) (σ : MSto) : mW1 P_St_mends (0, [some (mR 9 t0), some (mI a1), some (mI a2)], [], σ, 0, 0) (mF [23] [mI (v_St_mends t0 a1 a2 σ)] σ 0 0) := by
  refine mW1_eq (q_St_mends_e _ _ _ _) ?_
  unfold v_St_mends
  refine mTr_if (fun h0 => ?_) (fun h0 => ?_)
  · skip
    exact mTr_e (by decide) (bI_F (if_pos h0)) rfl (by decide) (by decide)
  · skip
    refine mTr_if (fun h1 => ?_) (fun h1 => ?_)
    · skip
      exact mTr_e (by decide) (bI_F ((if_neg h0).trans (if_pos h1))) rfl (by decide) (by decide)
    · skip
      refine mTr_if (fun h2 => ?_) (fun h2 => ?_)
      · skip
        exact mTr_e (by decide) (bI_F ((if_neg h0).trans ((if_neg h1).trans (if_pos h2)))) rfl (by decide) (by decide)
      · skip
        exact mTr_e (by decide) (bI_T ((if_neg h0).trans ((if_neg h1).trans (if_neg h2)))) rfl (by decide) (by decide)

theorem tk_St_mends : ∀ pc i nx tg, T_St_mends pc = some (i, nx, tg) → mOkB prog_10_method_6_code pc i nx tg = true := code_ok (N := 24) (fun k h => by unfold T_St_mends; rw [h]; rfl) (by decide +kernel)
theorem ok_St_mends (l : Launch) : mPOK l "ClothWithMan$Story" prog_10_method_6_code P_St_mends := by
  refine ⟨tk_St_mends, ?_, ?_, ?_, (fun pc i nx tg kd _ h => by cases h), ?_, ?_, fun pc en h => by cases h⟩
  · intro x ci f ty fin h
    exact mLook_all (Q := fun x v => mFOK "ClothWithMan$Story" x v.1 v.2.1 v.2.2.1 v.2.2.2 ∧ (v.2.2.2 = true → pIni P_St_mends = true → (Cond.fieldLink "ClothWithMan$Story" x (((mCl[v.1]?).getD ("", fun _ => ("", "", "", false), 0)).2.1 v.2.1).1 (((mCl[v.1]?).getD ("", fun _ => ("", "", "", false), 0)).2.1 v.2.1).2.1 (((mCl[v.1]?).getD ("", fun _ => ("", "", "", false), 0)).2.1 v.2.1).2.2.1 ∈ lw_tbl ∧ (((mCl[v.1]?).getD ("", fun _ => ("", "", "", false), 0)).2.1 v.2.1).1 = "ClothWithMan$Story"))) fcN x (ci, f, ty, fin) h
  · intro x
    have hh := mLook_all (l := ([] : List (Nat × (Int32 ⊕ Int64)))) (Q := fun x (v : Int32 ⊕ Int64) => (∀ w, v = .inl w → Cond.constant "ClothWithMan$Story" x w ∈ lw_tbl) ∧ (∀ w, v = .inr w → Cond.constantLong "ClothWithMan$Story" x w ∈ lw_tbl)) fcN x
    exact ⟨fun w h => (hh _ h).1 w rfl, fun w h => (hh _ h).2 w rfl⟩
  · exact fun x en h => mLook_all (Q := fun x en => mLink "ClothWithMan$Story" x en ∧ mCtr l en ∧ (en.1.1 = 2 → en.2.2.2.2.2.2 = none)) (fcC ⟨li_St_18, c_St_hasTerm l, (fun h => by cases h)⟩ fcN) x en h
  · exact fun x kd h => mLook_all (Q := fun x kd => (kd = 95 ∧ Cond.fieldLink "ClothWithMan$Story" x "ClothWithMan" "LIKENESSES" "[I" ∈ lw_tbl) ∨ (kd = 96 ∧ Cond.fieldLink "ClothWithMan$Story" x "ClothWithMan" "APART_BOUNDS" "[I" ∈ lw_tbl)) fcN x kd h
  · exact fun x ci h => mLook_all (Q := fun x ci => ci ≠ 0 ∧ ∃ (C : String) (T : u_T) (N : Nat), mCl[ci]? = some (C, T, N) ∧ Cond.classLink "ClothWithMan$Story" x C ∈ lw_tbl ∧ Cond.instantiable C N ∈ lw_tbl) fcN x ci h
set_option maxRecDepth 100000 in
theorem c_St_mends (l : Launch) : mCtr l E_St_mends := mCtr_of (P := P_St_mends) (own := "ClothWithMan$Story") mLay_ok rfl (by decide +kernel) rfl (ok_St_mends l) (fun h => by cases h) (fun as σ pr rv σ' hF hpr hlv => by
  unfold E_St_mends S_St_mends at hF
  simp only [] at hF
  split at hF
  · cases hF
    obtain ⟨n, pcF, c1, s1, g1, g2, g3, g4⟩ := mF_inv (d_St_mends _ _ _ σ)
    exact ⟨Nat.le_of_ble_eq_true rfl, (fun v h => by cases h; trivial), n, pcF, c1, s1, g1, ⟨mEnd_of (i := .ireturn) (P := P_St_mends) (rets := [23]) rfl g2, bI_narrow _⟩, g3, g4⟩
  · cases hF
    exact (hpr _ rfl).elim)
/-! ClothWithMan$Story.moreOf(I)I -/
noncomputable def v_St_moreOf (t0 : Nat) (a1 : Int32) (σ : MSto) : Int32 := (if (v_St_hasTerm t0 16 σ) = 0 then 0 else (if a1 = (gI σ 9 t0 7) then (gI σ 9 t0 8) else 0))
noncomputable def S_St_moreOf : List MV → MSto → Option Prop × Option MV × MSto := fun as σ => match as with
  | [.inr (.inr (some (9, i0))), .inl a0] => (none, some (mI (v_St_moreOf i0 a0 σ)), σ)
  | _ => (some False, none, σ)
noncomputable def E_St_moreOf : MEnt := ((1, 1, 9), (1, 21, 0, 0), S_St_moreOf, ((⟨"ClothWithMan$Story", "moreOf", "(I)I"⟩ : MethodName), prog_10_method_7_code, 2, (some .int)))

def T_St_moreOf : Nat → Option (Instr × Nat × List Nat) := fun k => bif Nat.blt k 26 then (bif Nat.blt k 11 then (bif Nat.blt k 6 then (bif Nat.blt k 1 then (bif Nat.beq k 0 then some (.aload_n 0, 1, []) else none) else (bif Nat.blt k 3 then (bif Nat.beq k 1 then some (.bipush 16, 3, []) else none) else (bif Nat.beq k 3 then some (.invokevirtual 18, 6, []) else none))) else (bif Nat.blt k 9 then (bif Nat.beq k 6 then some (.ifCond .eq 18, 9, [24]) else none) else (bif Nat.blt k 10 then (bif Nat.beq k 9 then some (.iload_n 1, 10, []) else none) else (bif Nat.beq k 10 then some (.aload_n 0, 11, []) else none)))) else (bif Nat.blt k 18 then (bif Nat.blt k 14 then (bif Nat.beq k 11 then some (.getfield 25, 14, []) else none) else (bif Nat.blt k 17 then (bif Nat.beq k 14 then some (.if_icmp .ne 10, 17, [24]) else none) else (bif Nat.beq k 17 then some (.aload_n 0, 18, []) else none))) else (bif Nat.blt k 24 then (bif Nat.blt k 21 then (bif Nat.beq k 18 then some (.getfield 28, 21, []) else none) else (bif Nat.beq k 21 then some (.goto 4, 24, [25]) else none)) else (bif Nat.blt k 25 then (bif Nat.beq k 24 then some (.iconst 0, 25, []) else none) else (bif Nat.beq k 25 then some (.ireturn, 26, []) else none))))) else none
noncomputable def P_St_moreOf : MP := (T_St_moreOf, (fun k => mLook k [(25, (9, 7, .int, false)), (28, (9, 8, .int, false))]), (fun k => mLook k []), (fun k => mLook k [(18, E_St_hasTerm)]), (fun k => mLook k []), (fun k => mLook k []), (fun k => mLook k []), (fun k => mLook k []), (fun k => [25].any (Nat.beq k)), (1, 21, 0, 0), false, (fun _ => none))
set_option maxRecDepth 100000 in
set_option maxHeartbeats 4000000 in
theorem q_St_moreOf_e (t0 : Nat) (a1 : Int32) (σ : MSto) (n : Nat) : mexe KT P_St_moreOf (n + 1) (0, [some (mR 9 t0), some (mI a1)], [], σ, 0, 0) = mIf ((v_St_hasTerm t0 16 σ) = 0) (some (25, [], [(mI 0)], σ, 0, 0)) (mIf (a1 = (gI σ 9 t0 7)) (some (25, [], [(mI (gI σ 9 t0 8))], σ, 0, 0)) (some (25, [], [(mI 0)], σ, 0, 0))) := rfl
set_option maxRecDepth 100000 in
set_option maxHeartbeats 4000000 in
theorem d_St_moreOf (t0 : Nat) (a1 : Int32) (σ : MSto) : mW1 P_St_moreOf (0, [some (mR 9 t0), some (mI a1)], [], σ, 0, 0) (mF [25] [mI (v_St_moreOf t0 a1 σ)] σ 0 0) := by
  refine mW1_eq (q_St_moreOf_e _ _ _) ?_
  refine mTr_if (fun h0 => ?_) (fun h0 => ?_)
  · skip
    exact mTr_e (by decide) (congrArg (fun z => [mI z]) (Eq.symm (if_pos h0))) rfl (by decide) (by decide)
  · skip
    refine mTr_if (fun h1 => ?_) (fun h1 => ?_)
    · skip
      exact mTr_e (by decide) (congrArg (fun z => [mI z]) (Eq.symm ((if_neg h0).trans (if_pos h1)))) rfl (by decide) (by decide)
    · skip
      exact mTr_e (by decide) (congrArg (fun z => [mI z]) (Eq.symm ((if_neg h0).trans (if_neg h1)))) rfl (by decide) (by decide)

theorem tk_St_moreOf : ∀ pc i nx tg, T_St_moreOf pc = some (i, nx, tg) → mOkB prog_10_method_7_code pc i nx tg = true := code_ok (N := 26) (fun k h => by unfold T_St_moreOf; rw [h]; rfl) (by decide +kernel)
theorem ok_St_moreOf (l : Launch) : mPOK l "ClothWithMan$Story" prog_10_method_7_code P_St_moreOf := by
  refine ⟨tk_St_moreOf, ?_, ?_, ?_, (fun pc i nx tg kd _ h => by cases h), ?_, ?_, fun pc en h => by cases h⟩
  · intro x ci f ty fin h
    exact mLook_all (Q := fun x v => mFOK "ClothWithMan$Story" x v.1 v.2.1 v.2.2.1 v.2.2.2 ∧ (v.2.2.2 = true → pIni P_St_moreOf = true → (Cond.fieldLink "ClothWithMan$Story" x (((mCl[v.1]?).getD ("", fun _ => ("", "", "", false), 0)).2.1 v.2.1).1 (((mCl[v.1]?).getD ("", fun _ => ("", "", "", false), 0)).2.1 v.2.1).2.1 (((mCl[v.1]?).getD ("", fun _ => ("", "", "", false), 0)).2.1 v.2.1).2.2.1 ∈ lw_tbl ∧ (((mCl[v.1]?).getD ("", fun _ => ("", "", "", false), 0)).2.1 v.2.1).1 = "ClothWithMan$Story"))) (fcC ⟨fo_St_25, fun h1 h2 => by cases h1⟩ (fcC ⟨fo_St_28, fun h1 h2 => by cases h1⟩ fcN)) x (ci, f, ty, fin) h
  · intro x
    have hh := mLook_all (l := ([] : List (Nat × (Int32 ⊕ Int64)))) (Q := fun x (v : Int32 ⊕ Int64) => (∀ w, v = .inl w → Cond.constant "ClothWithMan$Story" x w ∈ lw_tbl) ∧ (∀ w, v = .inr w → Cond.constantLong "ClothWithMan$Story" x w ∈ lw_tbl)) fcN x
    exact ⟨fun w h => (hh _ h).1 w rfl, fun w h => (hh _ h).2 w rfl⟩
  · exact fun x en h => mLook_all (Q := fun x en => mLink "ClothWithMan$Story" x en ∧ mCtr l en ∧ (en.1.1 = 2 → en.2.2.2.2.2.2 = none)) (fcC ⟨li_St_18, c_St_hasTerm l, (fun h => by cases h)⟩ fcN) x en h
  · exact fun x kd h => mLook_all (Q := fun x kd => (kd = 95 ∧ Cond.fieldLink "ClothWithMan$Story" x "ClothWithMan" "LIKENESSES" "[I" ∈ lw_tbl) ∨ (kd = 96 ∧ Cond.fieldLink "ClothWithMan$Story" x "ClothWithMan" "APART_BOUNDS" "[I" ∈ lw_tbl)) fcN x kd h
  · exact fun x ci h => mLook_all (Q := fun x ci => ci ≠ 0 ∧ ∃ (C : String) (T : u_T) (N : Nat), mCl[ci]? = some (C, T, N) ∧ Cond.classLink "ClothWithMan$Story" x C ∈ lw_tbl ∧ Cond.instantiable C N ∈ lw_tbl) fcN x ci h
set_option maxRecDepth 100000 in
theorem c_St_moreOf (l : Launch) : mCtr l E_St_moreOf := mCtr_of (P := P_St_moreOf) (own := "ClothWithMan$Story") mLay_ok rfl (by decide +kernel) rfl (ok_St_moreOf l) (fun h => by cases h) (fun as σ pr rv σ' hF hpr hlv => by
  unfold E_St_moreOf S_St_moreOf at hF
  simp only [] at hF
  split at hF
  · cases hF
    obtain ⟨n, pcF, c1, s1, g1, g2, g3, g4⟩ := mF_inv (d_St_moreOf _ _ σ)
    exact ⟨Nat.le_of_ble_eq_true rfl, (fun v h => by cases h; trivial), n, pcF, c1, s1, g1, ⟨mEnd_of (i := .ireturn) (P := P_St_moreOf) (rets := [25]) rfl g2, rfl⟩, g3, g4⟩
  · cases hF
    exact (hpr _ rfl).elim)
/-! ClothWithMan$Story.termOf(I)I -/
noncomputable def v_St_termOf (a0 : Int32) (σ : MSto) : Int32 := (if a0 = 100 then 8 else (if a0 = 104 then 16 else (if a0 = 109 then 4 else (if a0 = 115 then 2 else (if a0 = 119 then 1 else 0)))))
noncomputable def S_St_termOf : List MV → MSto → Option Prop × Option MV × MSto := fun as σ => match as with
  | [.inl a0] => (none, some (mI (v_St_termOf a0 σ)), σ)
  | _ => (some False, none, σ)
noncomputable def E_St_termOf : MEnt := ((0, 1, 9), (0, 0, 0, 0), S_St_termOf, ((⟨"ClothWithMan$Story", "termOf", "(I)I"⟩ : MethodName), prog_10_method_10_code, 1, (some .int)))

def T_St_termOf : Nat → Option (Instr × Nat × List Nat) := fun k => bif Nat.blt k 66 then (bif Nat.blt k 57 then (bif Nat.blt k 53 then (bif Nat.blt k 1 then (bif Nat.beq k 0 then some (.iload_n 0, 1, []) else none) else (bif Nat.blt k 52 then (bif Nat.beq k 1 then some (.lookupswitch 63 #[(100, 57), (104, 60), (109, 55), (115, 53), (119, 51)], 52, [64, 58, 61, 56, 54, 52]) else none) else (bif Nat.beq k 52 then some (.iconst 1, 53, []) else none))) else (bif Nat.blt k 55 then (bif Nat.blt k 54 then (bif Nat.beq k 53 then some (.ireturn, 54, []) else none) else (bif Nat.beq k 54 then some (.iconst 2, 55, []) else none)) else (bif Nat.blt k 56 then (bif Nat.beq k 55 then some (.ireturn, 56, []) else none) else (bif Nat.beq k 56 then some (.iconst 4, 57, []) else none)))) else (bif Nat.blt k 61 then (bif Nat.blt k 58 then (bif Nat.beq k 57 then some (.ireturn, 58, []) else none) else (bif Nat.blt k 60 then (bif Nat.beq k 58 then some (.bipush 8, 60, []) else none) else (bif Nat.beq k 60 then some (.ireturn, 61, []) else none))) else (bif Nat.blt k 64 then (bif Nat.blt k 63 then (bif Nat.beq k 61 then some (.bipush 16, 63, []) else none) else (bif Nat.beq k 63 then some (.ireturn, 64, []) else none)) else (bif Nat.blt k 65 then (bif Nat.beq k 64 then some (.iconst 0, 65, []) else none) else (bif Nat.beq k 65 then some (.ireturn, 66, []) else none))))) else none
noncomputable def P_St_termOf : MP := (T_St_termOf, (fun k => mLook k []), (fun k => mLook k []), (fun k => mLook k []), (fun k => mLook k []), (fun k => mLook k []), (fun k => mLook k []), (fun k => mLook k []), (fun k => [53, 55, 57, 60, 63, 65].any (Nat.beq k)), (0, 0, 0, 0), false, (fun _ => none))
set_option maxRecDepth 100000 in
set_option maxHeartbeats 4000000 in
theorem q_St_termOf_e (a0 : Int32) (σ : MSto) (n : Nat) : mexe KT P_St_termOf (n + 1) (0, [some (mI a0)], [], σ, 0, 0) = mIf (a0 = 100) (some (60, [], [(mI 8)], σ, 0, 0)) (mIf (a0 = 104) (some (63, [], [(mI 16)], σ, 0, 0)) (mIf (a0 = 109) (some (57, [], [(mI 4)], σ, 0, 0)) (mIf (a0 = 115) (some (55, [], [(mI 2)], σ, 0, 0)) (mIf (a0 = 119) (some (53, [], [(mI 1)], σ, 0, 0)) (some (65, [], [(mI 0)], σ, 0, 0)))))) := rfl
set_option maxRecDepth 100000 in
set_option maxHeartbeats 4000000 in
theorem d_St_termOf (a0 : Int32) (σ : MSto) : mW1 P_St_termOf (0, [some (mI a0)], [], σ, 0, 0) (mF [53, 55, 57, 60, 63, 65] [mI (v_St_termOf a0 σ)] σ 0 0) := by
  refine mW1_eq (q_St_termOf_e _ _) ?_
  refine mTr_if (fun h0 => ?_) (fun h0 => ?_)
  · skip
    exact mTr_e (by decide) (congrArg (fun z => [mI z]) (Eq.symm (if_pos h0))) rfl (by decide) (by decide)
  · skip
    refine mTr_if (fun h1 => ?_) (fun h1 => ?_)
    · skip
      exact mTr_e (by decide) (congrArg (fun z => [mI z]) (Eq.symm ((if_neg h0).trans (if_pos h1)))) rfl (by decide) (by decide)
    · skip
      refine mTr_if (fun h2 => ?_) (fun h2 => ?_)
      · skip
        exact mTr_e (by decide) (congrArg (fun z => [mI z]) (Eq.symm ((if_neg h0).trans ((if_neg h1).trans (if_pos h2))))) rfl (by decide) (by decide)
      · skip
        refine mTr_if (fun h3 => ?_) (fun h3 => ?_)
        · skip
          exact mTr_e (by decide) (congrArg (fun z => [mI z]) (Eq.symm ((if_neg h0).trans ((if_neg h1).trans ((if_neg h2).trans (if_pos h3)))))) rfl (by decide) (by decide)
        · skip
          refine mTr_if (fun h4 => ?_) (fun h4 => ?_)
          · skip
            exact mTr_e (by decide) (congrArg (fun z => [mI z]) (Eq.symm ((if_neg h0).trans ((if_neg h1).trans ((if_neg h2).trans ((if_neg h3).trans (if_pos h4))))))) rfl (by decide) (by decide)
          · skip
            exact mTr_e (by decide) (congrArg (fun z => [mI z]) (Eq.symm ((if_neg h0).trans ((if_neg h1).trans ((if_neg h2).trans ((if_neg h3).trans (if_neg h4))))))) rfl (by decide) (by decide)
theorem tk_St_termOf : ∀ pc i nx tg, T_St_termOf pc = some (i, nx, tg) → mOkB prog_10_method_10_code pc i nx tg = true := code_ok (N := 66) (fun k h => by unfold T_St_termOf; rw [h]; rfl) (by decide +kernel)
theorem ok_St_termOf (l : Launch) : mPOK l "ClothWithMan$Story" prog_10_method_10_code P_St_termOf := by
  refine ⟨tk_St_termOf, ?_, ?_, ?_, (fun pc i nx tg kd _ h => by cases h), ?_, ?_, fun pc en h => by cases h⟩
  · intro x ci f ty fin h
    exact mLook_all (Q := fun x v => mFOK "ClothWithMan$Story" x v.1 v.2.1 v.2.2.1 v.2.2.2 ∧ (v.2.2.2 = true → pIni P_St_termOf = true → (Cond.fieldLink "ClothWithMan$Story" x (((mCl[v.1]?).getD ("", fun _ => ("", "", "", false), 0)).2.1 v.2.1).1 (((mCl[v.1]?).getD ("", fun _ => ("", "", "", false), 0)).2.1 v.2.1).2.1 (((mCl[v.1]?).getD ("", fun _ => ("", "", "", false), 0)).2.1 v.2.1).2.2.1 ∈ lw_tbl ∧ (((mCl[v.1]?).getD ("", fun _ => ("", "", "", false), 0)).2.1 v.2.1).1 = "ClothWithMan$Story"))) fcN x (ci, f, ty, fin) h
  · intro x
    have hh := mLook_all (l := ([] : List (Nat × (Int32 ⊕ Int64)))) (Q := fun x (v : Int32 ⊕ Int64) => (∀ w, v = .inl w → Cond.constant "ClothWithMan$Story" x w ∈ lw_tbl) ∧ (∀ w, v = .inr w → Cond.constantLong "ClothWithMan$Story" x w ∈ lw_tbl)) fcN x
    exact ⟨fun w h => (hh _ h).1 w rfl, fun w h => (hh _ h).2 w rfl⟩
  · exact fun x en h => mLook_all (Q := fun x en => mLink "ClothWithMan$Story" x en ∧ mCtr l en ∧ (en.1.1 = 2 → en.2.2.2.2.2.2 = none)) fcN x en h
  · exact fun x kd h => mLook_all (Q := fun x kd => (kd = 95 ∧ Cond.fieldLink "ClothWithMan$Story" x "ClothWithMan" "LIKENESSES" "[I" ∈ lw_tbl) ∨ (kd = 96 ∧ Cond.fieldLink "ClothWithMan$Story" x "ClothWithMan" "APART_BOUNDS" "[I" ∈ lw_tbl)) fcN x kd h
  · exact fun x ci h => mLook_all (Q := fun x ci => ci ≠ 0 ∧ ∃ (C : String) (T : u_T) (N : Nat), mCl[ci]? = some (C, T, N) ∧ Cond.classLink "ClothWithMan$Story" x C ∈ lw_tbl ∧ Cond.instantiable C N ∈ lw_tbl) fcN x ci h
set_option maxRecDepth 100000 in
theorem c_St_termOf (l : Launch) : mCtr l E_St_termOf := mCtr_of (P := P_St_termOf) (own := "ClothWithMan$Story") mLay_ok rfl (by decide +kernel) rfl (ok_St_termOf l) (fun h => by cases h) (fun as σ pr rv σ' hF hpr hlv => by
  unfold E_St_termOf S_St_termOf at hF
  simp only [] at hF
  split at hF
  · cases hF
    obtain ⟨n, pcF, c1, s1, g1, g2, g3, g4⟩ := mF_inv (d_St_termOf _ σ)
    exact ⟨Nat.le_of_ble_eq_true rfl, (fun v h => by cases h; trivial), n, pcF, c1, s1, g1, ⟨mEnd_of (i := .ireturn) (P := P_St_termOf) (rets := [53, 55, 57, 60, 63, 65]) rfl g2, rfl⟩, g3, g4⟩
  · cases hF
    exact (hpr _ rfl).elim)
/-! ClothWithMan$Story.readTerm(LClothWithMan$Text;)V -/
noncomputable def ej_St_readTerm_j138  (σ : MSto) : MSto := σ
noncomputable def ej_St_readTerm_j49 (r0 : Nat) (x2 : Int32) (σ : MSto) : MSto := (if x2 = 1 then (sI (e_Te_number 199 σ) 9 r0 2 (v_Te_number 199 σ)) else (if x2 = 4 then (sI (e_Te_number 199 σ) 9 r0 5 (v_Te_number 199 σ)) else (if x2 = 8 then (sI (e_Te_signedNumber 99 σ) 9 r0 6 (v_Te_signedNumber 99 σ)) else (if x2 = 2 then (ej_St_readTerm_j138 (sI (e_Te_number 90 (e_Te_pass 44 (sI (e_Te_number 199 σ) 9 r0 3 (v_Te_number 199 σ)))) 9 r0 4 (v_Te_number 90 (e_Te_pass 44 (sI (e_Te_number 199 σ) 9 r0 3 (v_Te_number 199 σ)))))) else (sI (e_Te_signedNumber 99 (e_Te_pass 44 (sI (e_Te_digit 5 σ) 9 r0 7 (v_Te_digit 5 σ)))) 9 r0 8 (v_Te_signedNumber 99 (e_Te_pass 44 (sI (e_Te_digit 5 σ) 9 r0 7 (v_Te_digit 5 σ)))))))))
def gj_St_readTerm_j49 (r0 : Nat) (x2 : Int32) (σ : MSto) : Prop := (((x2 = 1) → (p_Te_number 199 σ)) ∧ (¬ (x2 = 1) → (((x2 = 4) → (p_Te_number 199 σ)) ∧ (¬ (x2 = 4) → (((x2 = 8) → (p_Te_signedNumber 99 σ)) ∧ (¬ (x2 = 8) → (((x2 = 2) → ((p_Te_number 199 σ) ∧ ((p_Te_pass 44 (sI (e_Te_number 199 σ) 9 r0 3 (v_Te_number 199 σ))) ∧ (p_Te_number 90 (e_Te_pass 44 (sI (e_Te_number 199 σ) 9 r0 3 (v_Te_number 199 σ))))))) ∧ (¬ (x2 = 2) → ((p_Te_digit 5 σ) ∧ ((p_Te_pass 44 (sI (e_Te_digit 5 σ) 9 r0 7 (v_Te_digit 5 σ))) ∧ (p_Te_signedNumber 99 (e_Te_pass 44 (sI (e_Te_digit 5 σ) 9 r0 7 (v_Te_digit 5 σ))))))))))))))
def p_St_readTerm (t0 : Nat) (σ : MSto) : Prop := ((p_Te_here σ) ∧ (¬ ((v_St_termOf (v_Te_here σ) σ) = 0) → (((v_St_hasTerm t0 (v_St_termOf (v_Te_here σ) σ) σ) = 0) → (gj_St_readTerm_j49 t0 (v_St_termOf (v_Te_here σ) σ) (sI (sI σ 10 0 2 ((gI σ 10 0 2) + 1)) 9 t0 0 ((gI (sI σ 10 0 2 ((gI σ 10 0 2) + 1)) 9 t0 0) ||| (v_St_termOf (v_Te_here σ) σ)))))))
noncomputable def e_St_readTerm (t0 : Nat) (σ : MSto) : MSto := (if (v_St_termOf (v_Te_here σ) σ) = 0 then (e_Te_failAt (gI σ 10 0 2) σ) else (if (v_St_hasTerm t0 (v_St_termOf (v_Te_here σ) σ) σ) = 0 then (ej_St_readTerm_j49 t0 (v_St_termOf (v_Te_here σ) σ) (sI (sI σ 10 0 2 ((gI σ 10 0 2) + 1)) 9 t0 0 ((gI (sI σ 10 0 2 ((gI σ 10 0 2) + 1)) 9 t0 0) ||| (v_St_termOf (v_Te_here σ) σ)))) else (e_Te_failAt (gI σ 10 0 2) σ)))
noncomputable def S_St_readTerm : List MV → MSto → Option Prop × Option MV × MSto := fun as σ => match as with
  | [.inr (.inr (some (9, i0))), .inr (.inr (some (10, 0)))] => (some (p_St_readTerm i0 σ), none, e_St_readTerm i0 σ)
  | _ => (some False, none, σ)
noncomputable def E_St_readTerm : MEnt := ((1, 1, 9), (4, 89, 0, 0), S_St_readTerm, ((⟨"ClothWithMan$Story", "readTerm", "(LClothWithMan$Text;)V"⟩ : MethodName), prog_10_method_9_code, 3, none))

def T_St_readTerm : Nat → Option (Instr × Nat × List Nat) := fun k => bif Nat.blt k 167 then (bif Nat.blt k 78 then (bif Nat.blt k 39 then (bif Nat.blt k 20 then (bif Nat.blt k 9 then (bif Nat.blt k 4 then (bif Nat.blt k 1 then (bif Nat.beq k 0 then some (.aload_n 1, 1, []) else none) else (bif Nat.beq k 1 then some (.invokevirtual 51, 4, []) else none)) else (bif Nat.blt k 7 then (bif Nat.beq k 4 then some (.invokestatic 55, 7, []) else none) else (bif Nat.blt k 8 then (bif Nat.beq k 7 then some (.istore_n 2, 8, []) else none) else (bif Nat.beq k 8 then some (.iload_n 2, 9, []) else none)))) else (bif Nat.blt k 13 then (bif Nat.blt k 12 then (bif Nat.beq k 9 then some (.ifCond .eq 11, 12, [20]) else none) else (bif Nat.beq k 12 then some (.aload_n 0, 13, []) else none)) else (bif Nat.blt k 14 then (bif Nat.beq k 13 then some (.iload_n 2, 14, []) else none) else (bif Nat.blt k 17 then (bif Nat.beq k 14 then some (.invokevirtual 18, 17, []) else none) else (bif Nat.beq k 17 then some (.ifCond .eq 12, 20, [29]) else none))))) else (bif Nat.blt k 29 then (bif Nat.blt k 22 then (bif Nat.blt k 21 then (bif Nat.beq k 20 then some (.aload_n 1, 21, []) else none) else (bif Nat.beq k 21 then some (.aload_n 1, 22, []) else none)) else (bif Nat.blt k 25 then (bif Nat.beq k 22 then some (.getfield 59, 25, []) else none) else (bif Nat.blt k 28 then (bif Nat.beq k 25 then some (.invokevirtual 62, 28, []) else none) else (bif Nat.beq k 28 then some (.return_, 29, []) else none)))) else (bif Nat.blt k 34 then (bif Nat.blt k 30 then (bif Nat.beq k 29 then some (.aload_n 1, 30, []) else none) else (bif Nat.blt k 31 then (bif Nat.beq k 30 then some (.dup, 31, []) else none) else (bif Nat.beq k 31 then some (.getfield 59, 34, []) else none))) else (bif Nat.blt k 35 then (bif Nat.beq k 34 then some (.iconst 1, 35, []) else none) else (bif Nat.blt k 36 then (bif Nat.beq k 35 then some (.iadd, 36, []) else none) else (bif Nat.beq k 36 then some (.putfield 59, 39, []) else none)))))) else (bif Nat.blt k 55 then (bif Nat.blt k 46 then (bif Nat.blt k 41 then (bif Nat.blt k 40 then (bif Nat.beq k 39 then some (.aload_n 0, 40, []) else none) else (bif Nat.beq k 40 then some (.dup, 41, []) else none)) else (bif Nat.blt k 44 then (bif Nat.beq k 41 then some (.getfield 15, 44, []) else none) else (bif Nat.blt k 45 then (bif Nat.beq k 44 then some (.iload_n 2, 45, []) else none) else (bif Nat.beq k 45 then some (.ior, 46, []) else none)))) else (bif Nat.blt k 50 then (bif Nat.blt k 49 then (bif Nat.beq k 46 then some (.putfield 15, 49, []) else none) else (bif Nat.beq k 49 then some (.iload_n 2, 50, []) else none)) else (bif Nat.blt k 51 then (bif Nat.beq k 50 then some (.iconst 1, 51, []) else none) else (bif Nat.blt k 54 then (bif Nat.beq k 51 then some (.if_icmp .ne 17, 54, [68]) else none) else (bif Nat.beq k 54 then some (.aload_n 0, 55, []) else none))))) else (bif Nat.blt k 68 then (bif Nat.blt k 59 then (bif Nat.blt k 56 then (bif Nat.beq k 55 then some (.aload_n 1, 56, []) else none) else (bif Nat.beq k 56 then some (.sipush 199, 59, []) else none)) else (bif Nat.blt k 62 then (bif Nat.beq k 59 then some (.invokevirtual 65, 62, []) else none) else (bif Nat.blt k 65 then (bif Nat.beq k 62 then some (.putfield 22, 65, []) else none) else (bif Nat.beq k 65 then some (.goto 101, 68, [166]) else none)))) else (bif Nat.blt k 73 then (bif Nat.blt k 69 then (bif Nat.beq k 68 then some (.iload_n 2, 69, []) else none) else (bif Nat.blt k 70 then (bif Nat.beq k 69 then some (.iconst 4, 70, []) else none) else (bif Nat.beq k 70 then some (.if_icmp .ne 17, 73, [87]) else none))) else (bif Nat.blt k 74 then (bif Nat.beq k 73 then some (.aload_n 0, 74, []) else none) else (bif Nat.blt k 75 then (bif Nat.beq k 74 then some (.aload_n 1, 75, []) else none) else (bif Nat.beq k 75 then some (.sipush 199, 78, []) else none))))))) else (bif Nat.blt k 123 then (bif Nat.blt k 100 then (bif Nat.blt k 90 then (bif Nat.blt k 84 then (bif Nat.blt k 81 then (bif Nat.beq k 78 then some (.invokevirtual 65, 81, []) else none) else (bif Nat.beq k 81 then some (.putfield 68, 84, []) else none)) else (bif Nat.blt k 87 then (bif Nat.beq k 84 then some (.goto 82, 87, [166]) else none) else (bif Nat.blt k 88 then (bif Nat.beq k 87 then some (.iload_n 2, 88, []) else none) else (bif Nat.beq k 88 then some (.bipush 8, 90, []) else none)))) else (bif Nat.blt k 94 then (bif Nat.blt k 93 then (bif Nat.beq k 90 then some (.if_icmp .ne 16, 93, [106]) else none) else (bif Nat.beq k 93 then some (.aload_n 0, 94, []) else none)) else (bif Nat.blt k 95 then (bif Nat.beq k 94 then some (.aload_n 1, 95, []) else none) else (bif Nat.blt k 97 then (bif Nat.beq k 95 then some (.bipush 99, 97, []) else none) else (bif Nat.beq k 97 then some (.invokevirtual 71, 100, []) else none))))) else (bif Nat.blt k 111 then (bif Nat.blt k 106 then (bif Nat.blt k 103 then (bif Nat.beq k 100 then some (.putfield 74, 103, []) else none) else (bif Nat.beq k 103 then some (.goto 63, 106, [166]) else none)) else (bif Nat.blt k 107 then (bif Nat.beq k 106 then some (.iload_n 2, 107, []) else none) else (bif Nat.blt k 108 then (bif Nat.beq k 107 then some (.iconst 2, 108, []) else none) else (bif Nat.beq k 108 then some (.if_icmp .ne 33, 111, [141]) else none)))) else (bif Nat.blt k 116 then (bif Nat.blt k 112 then (bif Nat.beq k 111 then some (.aload_n 0, 112, []) else none) else (bif Nat.blt k 113 then (bif Nat.beq k 112 then some (.aload_n 1, 113, []) else none) else (bif Nat.beq k 113 then some (.sipush 199, 116, []) else none))) else (bif Nat.blt k 119 then (bif Nat.beq k 116 then some (.invokevirtual 65, 119, []) else none) else (bif Nat.blt k 122 then (bif Nat.beq k 119 then some (.putfield 77, 122, []) else none) else (bif Nat.beq k 122 then some (.aload_n 1, 123, []) else none)))))) else (bif Nat.blt k 144 then (bif Nat.blt k 132 then (bif Nat.blt k 128 then (bif Nat.blt k 125 then (bif Nat.beq k 123 then some (.bipush 44, 125, []) else none) else (bif Nat.beq k 125 then some (.invokevirtual 80, 128, []) else none)) else (bif Nat.blt k 129 then (bif Nat.beq k 128 then some (.aload_n 0, 129, []) else none) else (bif Nat.blt k 130 then (bif Nat.beq k 129 then some (.aload_n 1, 130, []) else none) else (bif Nat.beq k 130 then some (.bipush 90, 132, []) else none)))) else (bif Nat.blt k 141 then (bif Nat.blt k 135 then (bif Nat.beq k 132 then some (.invokevirtual 65, 135, []) else none) else (bif Nat.blt k 138 then (bif Nat.beq k 135 then some (.putfield 84, 138, []) else none) else (bif Nat.beq k 138 then some (.goto 28, 141, [166]) else none))) else (bif Nat.blt k 142 then (bif Nat.beq k 141 then some (.aload_n 0, 142, []) else none) else (bif Nat.blt k 143 then (bif Nat.beq k 142 then some (.aload_n 1, 143, []) else none) else (bif Nat.beq k 143 then some (.iconst 5, 144, []) else none))))) else (bif Nat.blt k 156 then (bif Nat.blt k 150 then (bif Nat.blt k 147 then (bif Nat.beq k 144 then some (.invokevirtual 87, 147, []) else none) else (bif Nat.beq k 147 then some (.putfield 25, 150, []) else none)) else (bif Nat.blt k 151 then (bif Nat.beq k 150 then some (.aload_n 1, 151, []) else none) else (bif Nat.blt k 153 then (bif Nat.beq k 151 then some (.bipush 44, 153, []) else none) else (bif Nat.beq k 153 then some (.invokevirtual 80, 156, []) else none)))) else (bif Nat.blt k 160 then (bif Nat.blt k 157 then (bif Nat.beq k 156 then some (.aload_n 0, 157, []) else none) else (bif Nat.blt k 158 then (bif Nat.beq k 157 then some (.aload_n 1, 158, []) else none) else (bif Nat.beq k 158 then some (.bipush 99, 160, []) else none))) else (bif Nat.blt k 163 then (bif Nat.beq k 160 then some (.invokevirtual 71, 163, []) else none) else (bif Nat.blt k 166 then (bif Nat.beq k 163 then some (.putfield 28, 166, []) else none) else (bif Nat.beq k 166 then some (.return_, 167, []) else none)))))))) else none
noncomputable def P_St_readTerm : MP := (T_St_readTerm, (fun k => mLook k [(15, (9, 0, .int, false)), (22, (9, 2, .int, false)), (25, (9, 7, .int, false)), (28, (9, 8, .int, false)), (59, (10, 2, .int, false)), (68, (9, 5, .int, false)), (74, (9, 6, .int, false)), (77, (9, 3, .int, false)), (84, (9, 4, .int, false))]), (fun k => mLook k []), (fun k => mLook k [(18, E_St_hasTerm), (51, E_Te_here), (55, E_St_termOf), (62, E_Te_failAt), (65, E_Te_number), (71, E_Te_signedNumber), (80, E_Te_pass), (87, E_Te_digit)]), (fun k => mLook k []), (fun k => mLook k []), (fun k => mLook k []), (fun k => mLook k [(49, [true, true, true]), (138, [false, false, false])]), (fun k => [28, 166].any (Nat.beq k)), (4, 89, 0, 0), false, (fun _ => none))
set_option maxRecDepth 100000 in
set_option maxHeartbeats 4000000 in
theorem q_St_readTerm_e (t0 : Nat) (σ : MSto) (n : Nat) : mexe KT P_St_readTerm (n + 1) (0, [some (mR 9 t0), some (mR 10 0), none], [], σ, 0, 0) = mG (p_Te_here σ) (mIf ((v_St_termOf (v_Te_here σ) σ) = 0) (some (28, [], [], (e_Te_failAt (gI σ 10 0 2) σ), 0, 0)) (mIf ((v_St_hasTerm t0 (v_St_termOf (v_Te_here σ) σ) σ) = 0) (mexe KT P_St_readTerm n (49, [some (mR 9 t0), some (mR 10 0), some (mI (v_St_termOf (v_Te_here σ) σ))], [], (sI (sI σ 10 0 2 ((gI σ 10 0 2) + 1)) 9 t0 0 ((gI (sI σ 10 0 2 ((gI σ 10 0 2) + 1)) 9 t0 0) ||| (v_St_termOf (v_Te_here σ) σ))), 0, 0)) (some (28, [], [], (e_Te_failAt (gI σ 10 0 2) σ), 0, 0)))) := rfl
set_option maxRecDepth 100000 in
set_option maxHeartbeats 4000000 in
theorem q_St_readTerm_49 (r0 : Nat) (x2 : Int32) (σ : MSto) (n : Nat) : mexe KT P_St_readTerm (n + 1) (49, [some (mR 9 r0), some (mR 10 0), some (mI x2)], [], σ, 0, 0) = mIf (x2 = 1) (mG (p_Te_number 199 σ) (some (166, [], [], (sI (e_Te_number 199 σ) 9 r0 2 (v_Te_number 199 σ)), 0, 0))) (mIf (x2 = 4) (mG (p_Te_number 199 σ) (some (166, [], [], (sI (e_Te_number 199 σ) 9 r0 5 (v_Te_number 199 σ)), 0, 0))) (mIf (x2 = 8) (mG (p_Te_signedNumber 99 σ) (some (166, [], [], (sI (e_Te_signedNumber 99 σ) 9 r0 6 (v_Te_signedNumber 99 σ)), 0, 0))) (mIf (x2 = 2) (mG (p_Te_number 199 σ) (mG (p_Te_pass 44 (sI (e_Te_number 199 σ) 9 r0 3 (v_Te_number 199 σ))) (mG (p_Te_number 90 (e_Te_pass 44 (sI (e_Te_number 199 σ) 9 r0 3 (v_Te_number 199 σ)))) (mexe KT P_St_readTerm n (138, [none, none, none], [], (sI (e_Te_number 90 (e_Te_pass 44 (sI (e_Te_number 199 σ) 9 r0 3 (v_Te_number 199 σ)))) 9 r0 4 (v_Te_number 90 (e_Te_pass 44 (sI (e_Te_number 199 σ) 9 r0 3 (v_Te_number 199 σ))))), 0, 0))))) (mG (p_Te_digit 5 σ) (mG (p_Te_pass 44 (sI (e_Te_digit 5 σ) 9 r0 7 (v_Te_digit 5 σ))) (mG (p_Te_signedNumber 99 (e_Te_pass 44 (sI (e_Te_digit 5 σ) 9 r0 7 (v_Te_digit 5 σ)))) (some (166, [], [], (sI (e_Te_signedNumber 99 (e_Te_pass 44 (sI (e_Te_digit 5 σ) 9 r0 7 (v_Te_digit 5 σ)))) 9 r0 8 (v_Te_signedNumber 99 (e_Te_pass 44 (sI (e_Te_digit 5 σ) 9 r0 7 (v_Te_digit 5 σ))))), 0, 0)))))))) := rfl
set_option maxRecDepth 100000 in
set_option maxHeartbeats 4000000 in
theorem q_St_readTerm_138  (σ : MSto) (n : Nat) : mexe KT P_St_readTerm (n + 1) (138, [none, none, none], [], σ, 0, 0) = some (166, [], [], σ, 0, 0) := rfl
set_option maxRecDepth 100000 in
theorem lj_St_readTerm_j138  (σ : MSto) : mW1 P_St_readTerm (138, [none, none, none], [], σ, 0, 0) (mF [28, 166] [] (ej_St_readTerm_j138 σ) 0 0) := by
  refine mW1_eq (q_St_readTerm_138 _) ?_
  exact mTr_e (by decide) rfl (Eq.symm (rfl)) (by decide) (by decide)
set_option maxRecDepth 100000 in
theorem lj_St_readTerm_j49 (r0 : Nat) (x2 : Int32) (σ : MSto) (hp : gj_St_readTerm_j49 r0 x2 σ) : mW1 P_St_readTerm (49, [some (mR 9 r0), some (mR 10 0), some (mI x2)], [], σ, 0, 0) (mF [28, 166] [] (ej_St_readTerm_j49 r0 x2 σ) 0 0) := by
  unfold gj_St_readTerm_j49 at hp
  refine mW1_eq (q_St_readTerm_49 _ _ _) ?_
  refine mTr_if (fun h0 => ?_) (fun h0 => ?_)
  · skip
    have hp := hp.1 h0
    refine mTr_g hp ?_
    exact mTr_e (by decide) rfl (Eq.symm (if_pos h0)) (by decide) (by decide)
  · skip
    have hp := hp.2 h0
    refine mTr_if (fun h1 => ?_) (fun h1 => ?_)
    · skip
      have hp := hp.1 h1
      refine mTr_g hp ?_
      exact mTr_e (by decide) rfl (Eq.symm ((if_neg h0).trans (if_pos h1))) (by decide) (by decide)
    · skip
      have hp := hp.2 h1
      refine mTr_if (fun h2 => ?_) (fun h2 => ?_)
      · skip
        have hp := hp.1 h2
        refine mTr_g hp ?_
        exact mTr_e (by decide) rfl (Eq.symm ((if_neg h0).trans ((if_neg h1).trans (if_pos h2)))) (by decide) (by decide)
      · skip
        have hp := hp.2 h2
        refine mTr_if (fun h3 => ?_) (fun h3 => ?_)
        · skip
          have hp := hp.1 h3
          refine mTr_g hp.1 ?_
          have hp := hp.2
          refine mTr_g hp.1 ?_
          have hp := hp.2
          refine mTr_g hp ?_
          exact mTr_k (mF_c0 ((if_neg h0).trans ((if_neg h1).trans ((if_neg h2).trans (if_pos h3)))) (lj_St_readTerm_j138 (sI (e_Te_number 90 (e_Te_pass 44 (sI (e_Te_number 199 σ) 9 r0 3 (v_Te_number 199 σ)))) 9 r0 4 (v_Te_number 90 (e_Te_pass 44 (sI (e_Te_number 199 σ) 9 r0 3 (v_Te_number 199 σ)))))))
        · skip
          have hp := hp.2 h3
          refine mTr_g hp.1 ?_
          have hp := hp.2
          refine mTr_g hp.1 ?_
          have hp := hp.2
          refine mTr_g hp ?_
          exact mTr_e (by decide) rfl (Eq.symm ((if_neg h0).trans ((if_neg h1).trans ((if_neg h2).trans (if_neg h3))))) (by decide) (by decide)
set_option maxRecDepth 100000 in
set_option maxHeartbeats 4000000 in
theorem d_St_readTerm (t0 : Nat) (σ : MSto) (hp : p_St_readTerm t0 σ) : mW1 P_St_readTerm (0, [some (mR 9 t0), some (mR 10 0), none], [], σ, 0, 0) (mF [28, 166] [] (e_St_readTerm t0 σ) 0 0) := by
  refine mW1_eq (q_St_readTerm_e _ _) ?_
  unfold p_St_readTerm at hp
  refine mTr_g hp.1 ?_
  have hp := hp.2
  refine mTr_if (fun h0 => ?_) (fun h0 => ?_)
  · skip
    exact mTr_e (by decide) rfl (Eq.symm (if_pos h0)) (by decide) (by decide)
  · skip
    have hp := hp h0
    refine mTr_if (fun h1 => ?_) (fun h1 => ?_)
    · skip
      have hp := hp h1
      exact mTr_k (mF_c0 ((if_neg h0).trans (if_pos h1)) (lj_St_readTerm_j49 t0 (v_St_termOf (v_Te_here σ) σ) (sI (sI σ 10 0 2 ((gI σ 10 0 2) + 1)) 9 t0 0 ((gI (sI σ 10 0 2 ((gI σ 10 0 2) + 1)) 9 t0 0) ||| (v_St_termOf (v_Te_here σ) σ))) hp))
    · skip
      exact mTr_e (by decide) rfl (Eq.symm ((if_neg h0).trans (if_neg h1))) (by decide) (by decide)
theorem li_St_87 : mLink "ClothWithMan$Story" 87 E_Te_digit := ⟨tw_2_26, tw_1_2, ⟨by decide, by decide⟩, by decide +kernel, Or.inl tw_4_40, (fun h => by cases h), (fun _ => ⟨tw_2_24, tw_2_25, TX9, 5, rfl⟩), (fun h => by cases h)⟩

theorem li_St_80 : mLink "ClothWithMan$Story" 80 E_Te_pass := ⟨tw_2_46, tw_1_2, ⟨by decide, by decide⟩, by decide +kernel, Or.inl tw_4_39, (fun h => by cases h), (fun _ => ⟨tw_2_44, tw_2_45, TX9, 5, rfl⟩), (fun h => by cases h)⟩

theorem li_St_71 : mLink "ClothWithMan$Story" 71 E_Te_signedNumber := ⟨tw_4_37, tw_1_2, ⟨by decide, by decide⟩, by decide +kernel, Or.inl tw_4_34, (fun h => by cases h), (fun _ => ⟨tw_4_35, tw_4_36, TX9, 5, rfl⟩), (fun h => by cases h)⟩

theorem li_St_65 : mLink "ClothWithMan$Story" 65 E_Te_number := ⟨tw_2_22, tw_1_2, ⟨by decide, by decide⟩, by decide +kernel, Or.inl tw_4_33, (fun h => by cases h), (fun _ => ⟨tw_2_20, tw_2_21, TX9, 5, rfl⟩), (fun h => by cases h)⟩

theorem li_St_62 : mLink "ClothWithMan$Story" 62 E_Te_failAt := ⟨tw_2_37, tw_1_2, ⟨by decide, by decide⟩, by decide +kernel, Or.inl tw_4_32, (fun h => by cases h), (fun _ => ⟨tw_2_35, tw_2_36, TX9, 5, rfl⟩), (fun h => by cases h)⟩

theorem li_St_55 : mLink "ClothWithMan$Story" 55 E_St_termOf := ⟨tw_4_27, tw_1_23, ⟨by decide, by decide⟩, by decide +kernel, Or.inl tw_4_25, (fun _ => tw_4_26), (fun h => by cases h), (fun h => by cases h)⟩

theorem li_St_51 : mLink "ClothWithMan$Story" 51 E_Te_here := ⟨tw_2_30, tw_1_2, ⟨by decide, by decide⟩, by decide +kernel, Or.inl tw_4_24, (fun h => by cases h), (fun _ => ⟨tw_2_28, tw_2_29, TX9, 5, rfl⟩), (fun h => by cases h)⟩


theorem tk_St_readTerm : ∀ pc i nx tg, T_St_readTerm pc = some (i, nx, tg) → mOkB prog_10_method_9_code pc i nx tg = true := code_ok (N := 167) (fun k h => by unfold T_St_readTerm; rw [h]; rfl) (by decide +kernel)
theorem ok_St_readTerm (l : Launch) : mPOK l "ClothWithMan$Story" prog_10_method_9_code P_St_readTerm := by
  refine ⟨tk_St_readTerm, ?_, ?_, ?_, (fun pc i nx tg kd _ h => by cases h), ?_, ?_, fun pc en h => by cases h⟩
  · intro x ci f ty fin h
    exact mLook_all (Q := fun x v => mFOK "ClothWithMan$Story" x v.1 v.2.1 v.2.2.1 v.2.2.2 ∧ (v.2.2.2 = true → pIni P_St_readTerm = true → (Cond.fieldLink "ClothWithMan$Story" x (((mCl[v.1]?).getD ("", fun _ => ("", "", "", false), 0)).2.1 v.2.1).1 (((mCl[v.1]?).getD ("", fun _ => ("", "", "", false), 0)).2.1 v.2.1).2.1 (((mCl[v.1]?).getD ("", fun _ => ("", "", "", false), 0)).2.1 v.2.1).2.2.1 ∈ lw_tbl ∧ (((mCl[v.1]?).getD ("", fun _ => ("", "", "", false), 0)).2.1 v.2.1).1 = "ClothWithMan$Story"))) (fcC ⟨fo_St_15, fun h1 h2 => by cases h1⟩ (fcC ⟨fo_St_22, fun h1 h2 => by cases h1⟩ (fcC ⟨fo_St_25, fun h1 h2 => by cases h1⟩ (fcC ⟨fo_St_28, fun h1 h2 => by cases h1⟩ (fcC ⟨fo_St_59, fun h1 h2 => by cases h1⟩ (fcC ⟨fo_St_68, fun h1 h2 => by cases h1⟩ (fcC ⟨fo_St_74, fun h1 h2 => by cases h1⟩ (fcC ⟨fo_St_77, fun h1 h2 => by cases h1⟩ (fcC ⟨fo_St_84, fun h1 h2 => by cases h1⟩ fcN))))))))) x (ci, f, ty, fin) h
  · intro x
    have hh := mLook_all (l := ([] : List (Nat × (Int32 ⊕ Int64)))) (Q := fun x (v : Int32 ⊕ Int64) => (∀ w, v = .inl w → Cond.constant "ClothWithMan$Story" x w ∈ lw_tbl) ∧ (∀ w, v = .inr w → Cond.constantLong "ClothWithMan$Story" x w ∈ lw_tbl)) fcN x
    exact ⟨fun w h => (hh _ h).1 w rfl, fun w h => (hh _ h).2 w rfl⟩
  · exact fun x en h => mLook_all (Q := fun x en => mLink "ClothWithMan$Story" x en ∧ mCtr l en ∧ (en.1.1 = 2 → en.2.2.2.2.2.2 = none)) (fcC ⟨li_St_18, c_St_hasTerm l, (fun h => by cases h)⟩ (fcC ⟨li_St_51, c_Te_here l, (fun h => by cases h)⟩ (fcC ⟨li_St_55, c_St_termOf l, (fun h => by cases h)⟩ (fcC ⟨li_St_62, c_Te_failAt l, (fun h => by cases h)⟩ (fcC ⟨li_St_65, c_Te_number l, (fun h => by cases h)⟩ (fcC ⟨li_St_71, c_Te_signedNumber l, (fun h => by cases h)⟩ (fcC ⟨li_St_80, c_Te_pass l, (fun h => by cases h)⟩ (fcC ⟨li_St_87, c_Te_digit l, (fun h => by cases h)⟩ fcN)))))))) x en h
  · exact fun x kd h => mLook_all (Q := fun x kd => (kd = 95 ∧ Cond.fieldLink "ClothWithMan$Story" x "ClothWithMan" "LIKENESSES" "[I" ∈ lw_tbl) ∨ (kd = 96 ∧ Cond.fieldLink "ClothWithMan$Story" x "ClothWithMan" "APART_BOUNDS" "[I" ∈ lw_tbl)) fcN x kd h
  · exact fun x ci h => mLook_all (Q := fun x ci => ci ≠ 0 ∧ ∃ (C : String) (T : u_T) (N : Nat), mCl[ci]? = some (C, T, N) ∧ Cond.classLink "ClothWithMan$Story" x C ∈ lw_tbl ∧ Cond.instantiable C N ∈ lw_tbl) fcN x ci h
set_option maxRecDepth 100000 in
theorem c_St_readTerm (l : Launch) : mCtr l E_St_readTerm := mCtr_of (P := P_St_readTerm) (own := "ClothWithMan$Story") mLay_ok rfl (by decide +kernel) rfl (ok_St_readTerm l) (fun h => by cases h) (fun as σ pr rv σ' hF hpr hlv => by
  unfold E_St_readTerm S_St_readTerm at hF
  simp only [] at hF
  split at hF
  · cases hF
    obtain ⟨n, pcF, c1, s1, g1, g2, g3, g4⟩ := mF_inv (d_St_readTerm _ σ (hpr _ rfl))
    exact ⟨Nat.le_of_ble_eq_true rfl, (fun v h => by cases h), n, pcF, c1, s1, g1, mEnd_of (i := .return_) (P := P_St_readTerm) (rets := [28, 166]) rfl g2, g3, g4⟩
  · cases hF
    exact (hpr _ rfl).elim)
/-! ClothWithMan$Story.read(LClothWithMan$Text;)V -/
noncomputable def t_St_read_21 (r0 : Nat) (c : Int32) (s : Int32 × MSto) : Int32 × MSto := (if 5 < c then s else (if (s.1) = 0 then s else ((v_Te_skip 59 (e_St_readTerm r0 (s.2))), (e_Te_skip 59 (e_St_readTerm r0 (s.2))))))
noncomputable def q_St_read_21s (r0 : Nat) (c : Int32) (s : Int32 × MSto) : Nat := (if 5 < c then 1 else (if (s.1) = 0 then 1 else 0))
def g_St_read_21 (r0 : Nat) (c : Int32) (s : Int32 × MSto) : Prop := (¬ (5 < c) → (¬ ((s.1) = 0) → ((p_St_readTerm r0 (s.2)) ∧ (p_Te_skip 59 (e_St_readTerm r0 (s.2))))))
noncomputable def f_St_read_21 (r0 : Nat) (c0 : Int32) (s0 : Int32 × MSto) (n : Nat) : Int32 × MSto := nfold (fun i s => t_St_read_21 r0 (c0 + nI i) s) s0 n
noncomputable def n_St_read_21 (r0 : Nat) (c0 : Int32) (s0 : Int32 × MSto) : Nat := leastN (fun i => q_St_read_21s r0 (c0 + nI i) (f_St_read_21 r0 c0 s0 i) = 1) 7
def p_St_read (t0 : Nat) (σ : MSto) : Prop := ((((gI (e_Te_begin 40 σ) 10 0 1) ≤ 0) → ((∀ i, i < (n_St_read_21 t0 0 (0, (e_Te_begin 40 σ))) → g_St_read_21 t0 (0 + nI i) (f_St_read_21 t0 0 (0, (e_Te_begin 40 σ)) i) ∧ ¬ q_St_read_21s t0 (0 + nI i) (f_St_read_21 t0 0 (0, (e_Te_begin 40 σ)) i) = 1) ∧ (¬ (5 < (0 + nI (n_St_read_21 t0 0 (0, (e_Te_begin 40 σ))))) → (¬ (((f_St_read_21 t0 0 (0, (e_Te_begin 40 σ)) (n_St_read_21 t0 0 (0, (e_Te_begin 40 σ)))).1) = 0) → False)))) ∧ (¬ ((gI (e_Te_begin 40 σ) 10 0 1) ≤ 0) → ((∀ i, i < (n_St_read_21 t0 0 (1, (e_Te_begin 40 σ))) → g_St_read_21 t0 (0 + nI i) (f_St_read_21 t0 0 (1, (e_Te_begin 40 σ)) i) ∧ ¬ q_St_read_21s t0 (0 + nI i) (f_St_read_21 t0 0 (1, (e_Te_begin 40 σ)) i) = 1) ∧ (¬ (5 < (0 + nI (n_St_read_21 t0 0 (1, (e_Te_begin 40 σ))))) → (¬ (((f_St_read_21 t0 0 (1, (e_Te_begin 40 σ)) (n_St_read_21 t0 0 (1, (e_Te_begin 40 σ)))).1) = 0) → False)))))
noncomputable def e_St_read (t0 : Nat) (σ : MSto) : MSto := (if (gI (e_Te_begin 40 σ) 10 0 1) ≤ 0 then (e_Te_finish 40 ((f_St_read_21 t0 0 (0, (e_Te_begin 40 σ)) (n_St_read_21 t0 0 (0, (e_Te_begin 40 σ)))).2)) else (e_Te_finish 40 ((f_St_read_21 t0 0 (1, (e_Te_begin 40 σ)) (n_St_read_21 t0 0 (1, (e_Te_begin 40 σ)))).2)))
noncomputable def S_St_read : List MV → MSto → Option Prop × Option MV × MSto := fun as σ => match as with
  | [.inr (.inr (some (9, i0))), .inr (.inr (some (10, 0)))] => (some (p_St_read i0 σ), none, e_St_read i0 σ)
  | _ => (some False, none, σ)
noncomputable def E_St_read : MEnt := ((1, 1, 9), (5, 111, 0, 0), S_St_read, ((⟨"ClothWithMan$Story", "read", "(LClothWithMan$Text;)V"⟩ : MethodName), prog_10_method_8_code, 4, none))

def T_St_read : Nat → Option (Instr × Nat × List Nat) := fun k => bif Nat.blt k 55 then (bif Nat.blt k 26 then (bif Nat.blt k 14 then (bif Nat.blt k 6 then (bif Nat.blt k 1 then (bif Nat.beq k 0 then some (.aload_n 1, 1, []) else none) else (bif Nat.blt k 3 then (bif Nat.beq k 1 then some (.bipush 40, 3, []) else none) else (bif Nat.beq k 3 then some (.invokevirtual 31, 6, []) else none))) else (bif Nat.blt k 10 then (bif Nat.blt k 7 then (bif Nat.beq k 6 then some (.aload_n 1, 7, []) else none) else (bif Nat.beq k 7 then some (.getfield 37, 10, []) else none)) else (bif Nat.blt k 13 then (bif Nat.beq k 10 then some (.ifCond .le 7, 13, [17]) else none) else (bif Nat.beq k 13 then some (.iconst 1, 14, []) else none)))) else (bif Nat.blt k 20 then (bif Nat.blt k 18 then (bif Nat.blt k 17 then (bif Nat.beq k 14 then some (.goto 4, 17, [18]) else none) else (bif Nat.beq k 17 then some (.iconst 0, 18, []) else none)) else (bif Nat.blt k 19 then (bif Nat.beq k 18 then some (.istore_n 2, 19, []) else none) else (bif Nat.beq k 19 then some (.iconst 0, 20, []) else none))) else (bif Nat.blt k 22 then (bif Nat.blt k 21 then (bif Nat.beq k 20 then some (.istore_n 3, 21, []) else none) else (bif Nat.beq k 21 then some (.iload_n 3, 22, []) else none)) else (bif Nat.blt k 23 then (bif Nat.beq k 22 then some (.iconst 5, 23, []) else none) else (bif Nat.beq k 23 then some (.if_icmp .gt 25, 26, [48]) else none))))) else (bif Nat.blt k 38 then (bif Nat.blt k 31 then (bif Nat.blt k 27 then (bif Nat.beq k 26 then some (.iload_n 2, 27, []) else none) else (bif Nat.blt k 30 then (bif Nat.beq k 27 then some (.ifCond .eq 21, 30, [48]) else none) else (bif Nat.beq k 30 then some (.aload_n 0, 31, []) else none))) else (bif Nat.blt k 35 then (bif Nat.blt k 32 then (bif Nat.beq k 31 then some (.aload_n 1, 32, []) else none) else (bif Nat.beq k 32 then some (.invokevirtual 40, 35, []) else none)) else (bif Nat.blt k 36 then (bif Nat.beq k 35 then some (.aload_n 1, 36, []) else none) else (bif Nat.beq k 36 then some (.bipush 59, 38, []) else none)))) else (bif Nat.blt k 48 then (bif Nat.blt k 42 then (bif Nat.blt k 41 then (bif Nat.beq k 38 then some (.invokevirtual 44, 41, []) else none) else (bif Nat.beq k 41 then some (.istore_n 2, 42, []) else none)) else (bif Nat.blt k 45 then (bif Nat.beq k 42 then some (.iinc 3 1, 45, []) else none) else (bif Nat.beq k 45 then some (.goto (-24), 48, [21]) else none))) else (bif Nat.blt k 51 then (bif Nat.blt k 49 then (bif Nat.beq k 48 then some (.aload_n 1, 49, []) else none) else (bif Nat.beq k 49 then some (.bipush 40, 51, []) else none)) else (bif Nat.blt k 54 then (bif Nat.beq k 51 then some (.invokevirtual 48, 54, []) else none) else (bif Nat.beq k 54 then some (.return_, 55, []) else none)))))) else none
noncomputable def P_St_read : MP := (T_St_read, (fun k => mLook k [(37, (10, 1, .int, false))]), (fun k => mLook k []), (fun k => mLook k [(31, E_Te_begin), (40, E_St_readTerm), (44, E_Te_skip), (48, E_Te_finish)]), (fun k => mLook k []), (fun k => mLook k []), (fun k => mLook k []), (fun k => mLook k [(21, [true, true, true, true])]), (fun k => [54].any (Nat.beq k)), (5, 111, 0, 0), false, (fun _ => none))
set_option maxRecDepth 100000 in
set_option maxHeartbeats 4000000 in
theorem q_St_read_e (t0 : Nat) (σ : MSto) (n : Nat) : mexe KT P_St_read (n + 1) (0, [some (mR 9 t0), some (mR 10 0), none, none], [], σ, 0, 0) = mIf ((gI (e_Te_begin 40 σ) 10 0 1) ≤ 0) (mexe KT P_St_read n (21, [some (mR 9 t0), some (mR 10 0), some (mI 0), some (mI 0)], [], (e_Te_begin 40 σ), 0, 0)) (mexe KT P_St_read n (21, [some (mR 9 t0), some (mR 10 0), some (mI 1), some (mI 0)], [], (e_Te_begin 40 σ), 0, 0)) := rfl
set_option maxRecDepth 100000 in
set_option maxHeartbeats 4000000 in
theorem q_St_read_21 (r0 : Nat) (x2 : Int32) (x3 : Int32) (σ : MSto) (n : Nat) : mexe KT P_St_read (n + 1) (21, [some (mR 9 r0), some (mR 10 0), some (mI x2), some (mI x3)], [], σ, 0, 0) = mIf (5 < x3) (some (54, [], [], (e_Te_finish 40 σ), 0, 0)) (mIf (x2 = 0) (some (54, [], [], (e_Te_finish 40 σ), 0, 0)) (mG (p_St_readTerm r0 σ) (mG (p_Te_skip 59 (e_St_readTerm r0 σ)) (mexe KT P_St_read n (21, [some (mR 9 r0), some (mR 10 0), some (mI (v_Te_skip 59 (e_St_readTerm r0 σ))), some (mI (x3 + 1))], [], (e_Te_skip 59 (e_St_readTerm r0 σ)), 0, 0))))) := rfl
set_option maxRecDepth 100000 in
theorem lt_St_read_21 {Post : MST → Prop} (r0 : Nat) (c : Int32) (s : Int32 × MSto) (hp : g_St_read_21 r0 c s) (hq : ¬ q_St_read_21s r0 c s = 1) (hn : ∀ (r1 : Int32) (r2 : MSto), t_St_read_21 r0 c s = (r1, r2) → mW1 P_St_read (21, [some (mR 9 r0), some (mR 10 0), some (mI r1), some (mI (c + 1))], [], r2, 0, 0) Post) : mW1 P_St_read (21, [some (mR 9 r0), some (mR 10 0), some (mI (s.1)), some (mI c)], [], (s.2), 0, 0) Post := by
  unfold g_St_read_21 at hp
  refine mW1_eq (q_St_read_21 _ _ _ _) ?_
  refine mTr_if (fun h0 => ?_) (fun h0 => ?_)
  · skip
    exact absurd (if_pos h0) hq
  · skip
    have hp := hp h0
    refine mTr_if (fun h1 => ?_) (fun h1 => ?_)
    · skip
      exact absurd ((if_neg h0).trans (if_pos h1)) hq
    · skip
      have hp := hp h1
      refine mTr_g hp.1 ?_
      have hp := hp.2
      refine mTr_g hp ?_
      exact mTr_k (hn (v_Te_skip 59 (e_St_readTerm r0 (s.2))) (e_Te_skip 59 (e_St_readTerm r0 (s.2))) ((if_neg h0).trans (if_neg h1)))
theorem lp_St_read_21 {Post : MST → Prop} (r0 : Nat) (c0 : Int32) (s0 : Int32 × MSto) (N : Nat) (hb : ∀ i, i < N → g_St_read_21 r0 (c0 + nI i) (f_St_read_21 r0 c0 s0 i) ∧ ¬ q_St_read_21s r0 (c0 + nI i) (f_St_read_21 r0 c0 s0 i) = 1) (h : mW1 P_St_read (21, [some (mR 9 r0), some (mR 10 0), some (mI ((f_St_read_21 r0 c0 s0 N).1)), some (mI (c0 + nI N))], [], ((f_St_read_21 r0 c0 s0 N).2), 0, 0) Post) : mW1 P_St_read (21, [some (mR 9 r0), some (mR 10 0), some (mI (s0.1)), some (mI c0)], [], (s0.2), 0, 0) Post := by
  refine mW1_st (mW1_loop (fun i => (21, [some (mR 9 r0), some (mR 10 0), some (mI ((f_St_read_21 r0 c0 s0 i).1)), some (mI (c0 + nI i))], [], ((f_St_read_21 r0 c0 s0 i).2), 0, 0)) N (fun i hlt hn => ?_) h) (by rw [show nI 0 = 0 from rfl, Int32.add_zero] <;> rfl)
  refine lt_St_read_21 r0 _ _ (hb i hlt).1 (hb i hlt).2 (fun r1 r2 hr => ?_)
  rw [Int32.add_assoc, nI_s]
  have e : f_St_read_21 r0 c0 s0 (i + 1) = (r1, r2) := hr
  try dsimp only at hn
  rw [e] at hn
  exact hn
set_option maxRecDepth 100000 in
set_option maxHeartbeats 4000000 in
theorem d_St_read (t0 : Nat) (σ : MSto) (hp : p_St_read t0 σ) : mW1 P_St_read (0, [some (mR 9 t0), some (mR 10 0), none, none], [], σ, 0, 0) (mF [54] [] (e_St_read t0 σ) 0 0) := by
  refine mW1_eq (q_St_read_e _ _) ?_
  unfold p_St_read at hp
  refine mTr_if (fun h0 => ?_) (fun h0 => ?_)
  · skip
    have hp := hp.1 h0
    refine mTr_k (lp_St_read_21 t0 0 (0, (e_Te_begin 40 σ)) (n_St_read_21 t0 0 (0, (e_Te_begin 40 σ))) hp.1 ?_)
    have hp := hp.2
    refine mW1_eq (q_St_read_21 _ _ _ _) ?_
    refine mTr_if (fun h1 => ?_) (fun h1 => ?_)
    · skip
      exact mTr_e (by decide) rfl (Eq.symm (if_pos h0)) (by decide) (by decide)
    · skip
      have hp := hp h1
      refine mTr_if (fun h2 => ?_) (fun h2 => ?_)
      · skip
        exact mTr_e (by decide) rfl (Eq.symm (if_pos h0)) (by decide) (by decide)
      · skip
        have hp := hp h2
        exact hp.elim
  · skip
    have hp := hp.2 h0
    refine mTr_k (lp_St_read_21 t0 0 (1, (e_Te_begin 40 σ)) (n_St_read_21 t0 0 (1, (e_Te_begin 40 σ))) hp.1 ?_)
    have hp := hp.2
    refine mW1_eq (q_St_read_21 _ _ _ _) ?_
    refine mTr_if (fun h1 => ?_) (fun h1 => ?_)
    · skip
      exact mTr_e (by decide) rfl (Eq.symm (if_neg h0)) (by decide) (by decide)
    · skip
      have hp := hp h1
      refine mTr_if (fun h2 => ?_) (fun h2 => ?_)
      · skip
        exact mTr_e (by decide) rfl (Eq.symm (if_neg h0)) (by decide) (by decide)
      · skip
        have hp := hp h2
        exact hp.elim
theorem li_St_48 : mLink "ClothWithMan$Story" 48 E_Te_finish := ⟨tw_2_55, tw_1_2, ⟨by decide, by decide⟩, by decide +kernel, Or.inl tw_4_42, (fun h => by cases h), (fun _ => ⟨tw_2_53, tw_2_54, TX9, 5, rfl⟩), (fun h => by cases h)⟩

theorem li_St_44 : mLink "ClothWithMan$Story" 44 E_Te_skip := ⟨tw_2_50, tw_1_2, ⟨by decide, by decide⟩, by decide +kernel, Or.inl tw_4_41, (fun h => by cases h), (fun _ => ⟨tw_2_48, tw_2_49, TX9, 5, rfl⟩), (fun h => by cases h)⟩

theorem li_St_40 : mLink "ClothWithMan$Story" 40 E_St_readTerm := ⟨tw_4_23, tw_1_23, ⟨by decide, by decide⟩, by decide +kernel, Or.inl tw_4_20, (fun h => by cases h), (fun _ => ⟨tw_4_22, tw_0_23, TX8, 9, rfl⟩), (fun h => by cases h)⟩

theorem li_St_31 : mLink "ClothWithMan$Story" 31 E_Te_begin := ⟨tw_2_11, tw_1_2, ⟨by decide, by decide⟩, by decide +kernel, Or.inl tw_4_19, (fun h => by cases h), (fun _ => ⟨tw_2_9, tw_2_10, TX9, 5, rfl⟩), (fun h => by cases h)⟩

theorem tk_St_read : ∀ pc i nx tg, T_St_read pc = some (i, nx, tg) → mOkB prog_10_method_8_code pc i nx tg = true := code_ok (N := 55) (fun k h => by unfold T_St_read; rw [h]; rfl) (by decide +kernel)
theorem ok_St_read (l : Launch) : mPOK l "ClothWithMan$Story" prog_10_method_8_code P_St_read := by
  refine ⟨tk_St_read, ?_, ?_, ?_, (fun pc i nx tg kd _ h => by cases h), ?_, ?_, fun pc en h => by cases h⟩
  · intro x ci f ty fin h
    exact mLook_all (Q := fun x v => mFOK "ClothWithMan$Story" x v.1 v.2.1 v.2.2.1 v.2.2.2 ∧ (v.2.2.2 = true → pIni P_St_read = true → (Cond.fieldLink "ClothWithMan$Story" x (((mCl[v.1]?).getD ("", fun _ => ("", "", "", false), 0)).2.1 v.2.1).1 (((mCl[v.1]?).getD ("", fun _ => ("", "", "", false), 0)).2.1 v.2.1).2.1 (((mCl[v.1]?).getD ("", fun _ => ("", "", "", false), 0)).2.1 v.2.1).2.2.1 ∈ lw_tbl ∧ (((mCl[v.1]?).getD ("", fun _ => ("", "", "", false), 0)).2.1 v.2.1).1 = "ClothWithMan$Story"))) (fcC ⟨fo_St_37, fun h1 h2 => by cases h1⟩ fcN) x (ci, f, ty, fin) h
  · intro x
    have hh := mLook_all (l := ([] : List (Nat × (Int32 ⊕ Int64)))) (Q := fun x (v : Int32 ⊕ Int64) => (∀ w, v = .inl w → Cond.constant "ClothWithMan$Story" x w ∈ lw_tbl) ∧ (∀ w, v = .inr w → Cond.constantLong "ClothWithMan$Story" x w ∈ lw_tbl)) fcN x
    exact ⟨fun w h => (hh _ h).1 w rfl, fun w h => (hh _ h).2 w rfl⟩
  · exact fun x en h => mLook_all (Q := fun x en => mLink "ClothWithMan$Story" x en ∧ mCtr l en ∧ (en.1.1 = 2 → en.2.2.2.2.2.2 = none)) (fcC ⟨li_St_31, c_Te_begin l, (fun h => by cases h)⟩ (fcC ⟨li_St_40, c_St_readTerm l, (fun h => by cases h)⟩ (fcC ⟨li_St_44, c_Te_skip l, (fun h => by cases h)⟩ (fcC ⟨li_St_48, c_Te_finish l, (fun h => by cases h)⟩ fcN)))) x en h
  · exact fun x kd h => mLook_all (Q := fun x kd => (kd = 95 ∧ Cond.fieldLink "ClothWithMan$Story" x "ClothWithMan" "LIKENESSES" "[I" ∈ lw_tbl) ∨ (kd = 96 ∧ Cond.fieldLink "ClothWithMan$Story" x "ClothWithMan" "APART_BOUNDS" "[I" ∈ lw_tbl)) fcN x kd h
  · exact fun x ci h => mLook_all (Q := fun x ci => ci ≠ 0 ∧ ∃ (C : String) (T : u_T) (N : Nat), mCl[ci]? = some (C, T, N) ∧ Cond.classLink "ClothWithMan$Story" x C ∈ lw_tbl ∧ Cond.instantiable C N ∈ lw_tbl) fcN x ci h
set_option maxRecDepth 100000 in
theorem c_St_read (l : Launch) : mCtr l E_St_read := mCtr_of (P := P_St_read) (own := "ClothWithMan$Story") mLay_ok rfl (by decide +kernel) rfl (ok_St_read l) (fun h => by cases h) (fun as σ pr rv σ' hF hpr hlv => by
  unfold E_St_read S_St_read at hF
  simp only [] at hF
  split at hF
  · cases hF
    obtain ⟨n, pcF, c1, s1, g1, g2, g3, g4⟩ := mF_inv (d_St_read _ σ (hpr _ rfl))
    exact ⟨Nat.le_of_ble_eq_true rfl, (fun v h => by cases h), n, pcF, c1, s1, g1, mEnd_of (i := .return_) (P := P_St_read) (rets := [54]) rfl g2, g3, g4⟩
  · cases hF
    exact (hpr _ rfl).elim)
/-! ClothWithMan$Curve.at(I)I -/
noncomputable def v_Cu_at (a1 : Int32) (σ : MSto) : Int32 := (if a1 < 0 then 0 else (if 200 ≤ a1 then 0 else (gI σ 35 0 (Int32.toNatClampNeg a1))))
def p_Cu_at (a1 : Int32) (σ : MSto) : Prop := (¬ (a1 < 0) → (¬ (200 ≤ a1) → (vp_in a1 200)))
noncomputable def S_Cu_at : List MV → MSto → Option Prop × Option MV × MSto := fun as σ => match as with
  | [.inr (.inr (some (2, 0))), .inl a0] => (some (p_Cu_at a0 σ), some (mI (v_Cu_at a0 σ)), σ)
  | _ => (some False, none, σ)
noncomputable def E_Cu_at : MEnt := ((1, 1, 2), (0, 0, 0, 0), S_Cu_at, ((⟨"ClothWithMan$Curve", "at", "(I)I"⟩ : MethodName), prog_3_method_2_code, 2, (some .int)))

def T_Cu_at : Nat → Option (Instr × Nat × List Nat) := fun k => bif Nat.blt k 22 then (bif Nat.blt k 12 then (bif Nat.blt k 5 then (bif Nat.blt k 1 then (bif Nat.beq k 0 then some (.iload_n 1, 1, []) else none) else (bif Nat.blt k 4 then (bif Nat.beq k 1 then some (.ifCond .lt 19, 4, [20]) else none) else (bif Nat.beq k 4 then some (.iload_n 1, 5, []) else none))) else (bif Nat.blt k 8 then (bif Nat.beq k 5 then some (.sipush 200, 8, []) else none) else (bif Nat.blt k 11 then (bif Nat.beq k 8 then some (.if_icmp .ge 12, 11, [20]) else none) else (bif Nat.beq k 11 then some (.aload_n 0, 12, []) else none)))) else (bif Nat.blt k 17 then (bif Nat.blt k 15 then (bif Nat.beq k 12 then some (.getfield 9, 15, []) else none) else (bif Nat.blt k 16 then (bif Nat.beq k 15 then some (.iload_n 1, 16, []) else none) else (bif Nat.beq k 16 then some (.iaload, 17, []) else none))) else (bif Nat.blt k 20 then (bif Nat.beq k 17 then some (.goto 4, 20, [21]) else none) else (bif Nat.blt k 21 then (bif Nat.beq k 20 then some (.iconst 0, 21, []) else none) else (bif Nat.beq k 21 then some (.ireturn, 22, []) else none))))) else none
noncomputable def P_Cu_at : MP := (T_Cu_at, (fun k => mLook k [(9, (2, 0, (.array .int), true))]), (fun k => mLook k []), (fun k => mLook k []), (fun k => mLook k []), (fun k => mLook k []), (fun k => mLook k []), (fun k => mLook k []), (fun k => [21].any (Nat.beq k)), (0, 0, 0, 0), false, (fun _ => none))
set_option maxRecDepth 100000 in
set_option maxHeartbeats 4000000 in
theorem q_Cu_at_e (a1 : Int32) (σ : MSto) (n : Nat) : mexe KT P_Cu_at (n + 1) (0, [some (mR 2 0), some (mI a1)], [], σ, 0, 0) = mIf (a1 < 0) (some (21, [], [(mI 0)], σ, 0, 0)) (mIf (200 ≤ a1) (some (21, [], [(mI 0)], σ, 0, 0)) (mG (vp_in a1 200) (some (21, [], [(mI (gI σ 35 0 (Int32.toNatClampNeg a1)))], σ, 0, 0)))) := rfl
set_option maxRecDepth 100000 in
set_option maxHeartbeats 4000000 in
theorem d_Cu_at (a1 : Int32) (σ : MSto) (hp : p_Cu_at a1 σ) : mW1 P_Cu_at (0, [some (mR 2 0), some (mI a1)], [], σ, 0, 0) (mF [21] [mI (v_Cu_at a1 σ)] σ 0 0) := by
  refine mW1_eq (q_Cu_at_e _ _) ?_
  unfold p_Cu_at at hp
  refine mTr_if (fun h0 => ?_) (fun h0 => ?_)
  · skip
    exact mTr_e (by decide) (congrArg (fun z => [mI z]) (Eq.symm (if_pos h0))) rfl (by decide) (by decide)
  · skip
    have hp := hp h0
    refine mTr_if (fun h1 => ?_) (fun h1 => ?_)
    · skip
      exact mTr_e (by decide) (congrArg (fun z => [mI z]) (Eq.symm ((if_neg h0).trans (if_pos h1)))) rfl (by decide) (by decide)
    · skip
      have hp := hp h1
      refine mTr_g hp ?_
      exact mTr_e (by decide) (congrArg (fun z => [mI z]) (Eq.symm ((if_neg h0).trans (if_neg h1)))) rfl (by decide) (by decide)
theorem tk_Cu_at : ∀ pc i nx tg, T_Cu_at pc = some (i, nx, tg) → mOkB prog_3_method_2_code pc i nx tg = true := code_ok (N := 22) (fun k h => by unfold T_Cu_at; rw [h]; rfl) (by decide +kernel)
theorem ok_Cu_at (l : Launch) : mPOK l "ClothWithMan$Curve" prog_3_method_2_code P_Cu_at := by
  refine ⟨tk_Cu_at, ?_, ?_, ?_, (fun pc i nx tg kd _ h => by cases h), ?_, ?_, fun pc en h => by cases h⟩
  · intro x ci f ty fin h
    exact mLook_all (Q := fun x v => mFOK "ClothWithMan$Curve" x v.1 v.2.1 v.2.2.1 v.2.2.2 ∧ (v.2.2.2 = true → pIni P_Cu_at = true → (Cond.fieldLink "ClothWithMan$Curve" x (((mCl[v.1]?).getD ("", fun _ => ("", "", "", false), 0)).2.1 v.2.1).1 (((mCl[v.1]?).getD ("", fun _ => ("", "", "", false), 0)).2.1 v.2.1).2.1 (((mCl[v.1]?).getD ("", fun _ => ("", "", "", false), 0)).2.1 v.2.1).2.2.1 ∈ lw_tbl ∧ (((mCl[v.1]?).getD ("", fun _ => ("", "", "", false), 0)).2.1 v.2.1).1 = "ClothWithMan$Curve"))) (fcC ⟨fo_Cu_9, fun h1 h2 => by cases h2⟩ fcN) x (ci, f, ty, fin) h
  · intro x
    have hh := mLook_all (l := ([] : List (Nat × (Int32 ⊕ Int64)))) (Q := fun x (v : Int32 ⊕ Int64) => (∀ w, v = .inl w → Cond.constant "ClothWithMan$Curve" x w ∈ lw_tbl) ∧ (∀ w, v = .inr w → Cond.constantLong "ClothWithMan$Curve" x w ∈ lw_tbl)) fcN x
    exact ⟨fun w h => (hh _ h).1 w rfl, fun w h => (hh _ h).2 w rfl⟩
  · exact fun x en h => mLook_all (Q := fun x en => mLink "ClothWithMan$Curve" x en ∧ mCtr l en ∧ (en.1.1 = 2 → en.2.2.2.2.2.2 = none)) fcN x en h
  · exact fun x kd h => mLook_all (Q := fun x kd => (kd = 95 ∧ Cond.fieldLink "ClothWithMan$Curve" x "ClothWithMan" "LIKENESSES" "[I" ∈ lw_tbl) ∨ (kd = 96 ∧ Cond.fieldLink "ClothWithMan$Curve" x "ClothWithMan" "APART_BOUNDS" "[I" ∈ lw_tbl)) fcN x kd h
  · exact fun x ci h => mLook_all (Q := fun x ci => ci ≠ 0 ∧ ∃ (C : String) (T : u_T) (N : Nat), mCl[ci]? = some (C, T, N) ∧ Cond.classLink "ClothWithMan$Curve" x C ∈ lw_tbl ∧ Cond.instantiable C N ∈ lw_tbl) fcN x ci h
set_option maxRecDepth 100000 in
theorem c_Cu_at (l : Launch) : mCtr l E_Cu_at := mCtr_of (P := P_Cu_at) (own := "ClothWithMan$Curve") mLay_ok rfl (by decide +kernel) rfl (ok_Cu_at l) (fun h => by cases h) (fun as σ pr rv σ' hF hpr hlv => by
  unfold E_Cu_at S_Cu_at at hF
  simp only [] at hF
  split at hF
  · cases hF
    obtain ⟨n, pcF, c1, s1, g1, g2, g3, g4⟩ := mF_inv (d_Cu_at _ σ (hpr _ rfl))
    exact ⟨Nat.le_of_ble_eq_true rfl, (fun v h => by cases h; trivial), n, pcF, c1, s1, g1, ⟨mEnd_of (i := .ireturn) (P := P_Cu_at) (rets := [21]) rfl g2, rfl⟩, g3, g4⟩
  · cases hF
    exact (hpr _ rfl).elim)
/-! ClothWithMan$Curve.valueBy(II)I -/
noncomputable def t_Cu_valueBy_2 (x1 : Int32) (x2 : Int32) (c : Int32) (σ : MSto) (s : Unit) : Unit := (if x2 ≤ c then s else (if x1 ≤ (gI σ 36 0 (Int32.toNatClampNeg c)) then s else ()))
noncomputable def q_Cu_valueBy_2s (x1 : Int32) (x2 : Int32) (c : Int32) (σ : MSto) (s : Unit) : Nat := (if x2 ≤ c then 1 else (if x1 ≤ (gI σ 36 0 (Int32.toNatClampNeg c)) then 1 else 0))
def g_Cu_valueBy_2 (x1 : Int32) (x2 : Int32) (c : Int32) (σ : MSto) (s : Unit) : Prop := (¬ (x2 ≤ c) → (vp_in c 20))
noncomputable def f_Cu_valueBy_2 (x1 : Int32) (x2 : Int32) (c0 : Int32) (σ : MSto) (s0 : Unit) (n : Nat) : Unit := nfold (fun i s => t_Cu_valueBy_2 x1 x2 (c0 + nI i) σ s) s0 n
noncomputable def n_Cu_valueBy_2 (x1 : Int32) (x2 : Int32) (c0 : Int32) (σ : MSto) (s0 : Unit) : Nat := leastN (fun i => q_Cu_valueBy_2s x1 x2 (c0 + nI i) σ (f_Cu_valueBy_2 x1 x2 c0 σ s0 i) = 1) 21
noncomputable def vj_Cu_valueBy_j23 (x1 : Int32) (x2 : Int32) (x3 : Int32) (σ : MSto) : Int32 := (if x3 = 0 then (gI σ 37 0 (Int32.toNatClampNeg 0)) else (if x2 ≤ x3 then (gI σ 37 0 (Int32.toNatClampNeg (x3 - 1))) else (if 0 < ((gI σ 36 0 (Int32.toNatClampNeg x3)) - (gI σ 36 0 (Int32.toNatClampNeg (x3 - 1)))) then ((gI σ 37 0 (Int32.toNatClampNeg (x3 - 1))) + ((((gI σ 37 0 (Int32.toNatClampNeg x3)) - (gI σ 37 0 (Int32.toNatClampNeg (x3 - 1)))) * (x1 - (gI σ 36 0 (Int32.toNatClampNeg (x3 - 1))))) / ((gI σ 36 0 (Int32.toNatClampNeg x3)) - (gI σ 36 0 (Int32.toNatClampNeg (x3 - 1)))))) else (gI σ 37 0 (Int32.toNatClampNeg (x3 - 1))))))
def gj_Cu_valueBy_j23 (x1 : Int32) (x2 : Int32) (x3 : Int32) (σ : MSto) : Prop := (((x3 = 0) → (vp_in 0 20)) ∧ (¬ (x3 = 0) → ((vp_in (x3 - 1) 20) ∧ (¬ (x2 ≤ x3) → ((vp_in x3 20) ∧ ((vp_in (x3 - 1) 20) ∧ ((0 < ((gI σ 36 0 (Int32.toNatClampNeg x3)) - (gI σ 36 0 (Int32.toNatClampNeg (x3 - 1))))) → ((vp_in x3 20) ∧ ((vp_in (x3 - 1) 20) ∧ (¬ (((gI σ 36 0 (Int32.toNatClampNeg x3)) - (gI σ 36 0 (Int32.toNatClampNeg (x3 - 1)))) : Int32) = 0))))))))))
noncomputable def v_Cu_valueBy (a1 : Int32) (a2 : Int32) (σ : MSto) : Int32 := (vj_Cu_valueBy_j23 a1 a2 (0 + nI (n_Cu_valueBy_2 a1 a2 0 σ ())) σ)
def p_Cu_valueBy (a1 : Int32) (a2 : Int32) (σ : MSto) : Prop := ((∀ i, i < (n_Cu_valueBy_2 a1 a2 0 σ ()) → g_Cu_valueBy_2 a1 a2 (0 + nI i) σ (f_Cu_valueBy_2 a1 a2 0 σ () i) ∧ ¬ q_Cu_valueBy_2s a1 a2 (0 + nI i) σ (f_Cu_valueBy_2 a1 a2 0 σ () i) = 1) ∧ (((a2 ≤ (0 + nI (n_Cu_valueBy_2 a1 a2 0 σ ()))) → (gj_Cu_valueBy_j23 a1 a2 (0 + nI (n_Cu_valueBy_2 a1 a2 0 σ ())) σ)) ∧ (¬ (a2 ≤ (0 + nI (n_Cu_valueBy_2 a1 a2 0 σ ()))) → ((vp_in (0 + nI (n_Cu_valueBy_2 a1 a2 0 σ ())) 20) ∧ (((a1 ≤ (gI σ 36 0 (Int32.toNatClampNeg (0 + nI (n_Cu_valueBy_2 a1 a2 0 σ ()))))) → (gj_Cu_valueBy_j23 a1 a2 (0 + nI (n_Cu_valueBy_2 a1 a2 0 σ ())) σ)) ∧ (¬ (a1 ≤ (gI σ 36 0 (Int32.toNatClampNeg (0 + nI (n_Cu_valueBy_2 a1 a2 0 σ ()))))) → False))))))
noncomputable def S_Cu_valueBy : List MV → MSto → Option Prop × Option MV × MSto := fun as σ => match as with
  | [.inr (.inr (some (2, 0))), .inl a0, .inl a1] => (some (p_Cu_valueBy a0 a1 σ), some (mI (v_Cu_valueBy a0 a1 σ)), σ)
  | _ => (some False, none, σ)
noncomputable def E_Cu_valueBy : MEnt := ((1, 2, 2), (0, 0, 0, 0), S_Cu_valueBy, ((⟨"ClothWithMan$Curve", "valueBy", "(II)I"⟩ : MethodName), prog_3_method_5_code, 6, (some .int)))

def T_Cu_valueBy : Nat → Option (Instr × Nat × List Nat) := fun k => bif Nat.blt k 105 then (bif Nat.blt k 55 then (bif Nat.blt k 31 then (bif Nat.blt k 12 then (bif Nat.blt k 4 then (bif Nat.blt k 2 then (bif Nat.blt k 1 then (bif Nat.beq k 0 then some (.iconst 0, 1, []) else none) else (bif Nat.beq k 1 then some (.istore_n 3, 2, []) else none)) else (bif Nat.blt k 3 then (bif Nat.beq k 2 then some (.iload_n 3, 3, []) else none) else (bif Nat.beq k 3 then some (.iload_n 2, 4, []) else none))) else (bif Nat.blt k 8 then (bif Nat.blt k 7 then (bif Nat.beq k 4 then some (.if_icmp .ge 19, 7, [23]) else none) else (bif Nat.beq k 7 then some (.aload_n 0, 8, []) else none)) else (bif Nat.blt k 11 then (bif Nat.beq k 8 then some (.getfield 19, 11, []) else none) else (bif Nat.beq k 11 then some (.iload_n 3, 12, []) else none)))) else (bif Nat.blt k 20 then (bif Nat.blt k 14 then (bif Nat.blt k 13 then (bif Nat.beq k 12 then some (.iaload, 13, []) else none) else (bif Nat.beq k 13 then some (.iload_n 1, 14, []) else none)) else (bif Nat.blt k 17 then (bif Nat.beq k 14 then some (.if_icmp .ge 9, 17, [23]) else none) else (bif Nat.beq k 17 then some (.iinc 3 1, 20, []) else none))) else (bif Nat.blt k 24 then (bif Nat.blt k 23 then (bif Nat.beq k 20 then some (.goto (-18), 23, [2]) else none) else (bif Nat.beq k 23 then some (.iload_n 3, 24, []) else none)) else (bif Nat.blt k 27 then (bif Nat.beq k 24 then some (.ifCond .ne 10, 27, [34]) else none) else (bif Nat.blt k 28 then (bif Nat.beq k 27 then some (.aload_n 0, 28, []) else none) else (bif Nat.beq k 28 then some (.getfield 22, 31, []) else none)))))) else (bif Nat.blt k 41 then (bif Nat.blt k 35 then (bif Nat.blt k 33 then (bif Nat.blt k 32 then (bif Nat.beq k 31 then some (.iconst 0, 32, []) else none) else (bif Nat.beq k 32 then some (.iaload, 33, []) else none)) else (bif Nat.blt k 34 then (bif Nat.beq k 33 then some (.ireturn, 34, []) else none) else (bif Nat.beq k 34 then some (.aload_n 0, 35, []) else none))) else (bif Nat.blt k 39 then (bif Nat.blt k 38 then (bif Nat.beq k 35 then some (.getfield 22, 38, []) else none) else (bif Nat.beq k 38 then some (.iload_n 3, 39, []) else none)) else (bif Nat.blt k 40 then (bif Nat.beq k 39 then some (.iconst 1, 40, []) else none) else (bif Nat.beq k 40 then some (.isub, 41, []) else none)))) else (bif Nat.blt k 46 then (bif Nat.blt k 44 then (bif Nat.blt k 42 then (bif Nat.beq k 41 then some (.iaload, 42, []) else none) else (bif Nat.beq k 42 then some (.istore 4, 44, []) else none)) else (bif Nat.blt k 45 then (bif Nat.beq k 44 then some (.iload_n 3, 45, []) else none) else (bif Nat.beq k 45 then some (.iload_n 2, 46, []) else none))) else (bif Nat.blt k 50 then (bif Nat.blt k 49 then (bif Nat.beq k 46 then some (.if_icmp .ge 21, 49, [67]) else none) else (bif Nat.beq k 49 then some (.aload_n 0, 50, []) else none)) else (bif Nat.blt k 53 then (bif Nat.beq k 50 then some (.getfield 19, 53, []) else none) else (bif Nat.blt k 54 then (bif Nat.beq k 53 then some (.iload_n 3, 54, []) else none) else (bif Nat.beq k 54 then some (.iaload, 55, []) else none))))))) else (bif Nat.blt k 84 then (bif Nat.blt k 67 then (bif Nat.blt k 61 then (bif Nat.blt k 59 then (bif Nat.blt k 56 then (bif Nat.beq k 55 then some (.aload_n 0, 56, []) else none) else (bif Nat.beq k 56 then some (.getfield 19, 59, []) else none)) else (bif Nat.blt k 60 then (bif Nat.beq k 59 then some (.iload_n 3, 60, []) else none) else (bif Nat.beq k 60 then some (.iconst 1, 61, []) else none))) else (bif Nat.blt k 63 then (bif Nat.blt k 62 then (bif Nat.beq k 61 then some (.isub, 62, []) else none) else (bif Nat.beq k 62 then some (.iaload, 63, []) else none)) else (bif Nat.blt k 64 then (bif Nat.beq k 63 then some (.isub, 64, []) else none) else (bif Nat.beq k 64 then some (.goto 4, 67, [68]) else none)))) else (bif Nat.blt k 75 then (bif Nat.blt k 70 then (bif Nat.blt k 68 then (bif Nat.beq k 67 then some (.iconst 0, 68, []) else none) else (bif Nat.beq k 68 then some (.istore 5, 70, []) else none)) else (bif Nat.blt k 72 then (bif Nat.beq k 70 then some (.iload 5, 72, []) else none) else (bif Nat.beq k 72 then some (.ifCond .gt 6, 75, [78]) else none))) else (bif Nat.blt k 78 then (bif Nat.blt k 77 then (bif Nat.beq k 75 then some (.iload 4, 77, []) else none) else (bif Nat.beq k 77 then some (.ireturn, 78, []) else none)) else (bif Nat.blt k 80 then (bif Nat.beq k 78 then some (.iload 4, 80, []) else none) else (bif Nat.blt k 81 then (bif Nat.beq k 80 then some (.aload_n 0, 81, []) else none) else (bif Nat.beq k 81 then some (.getfield 22, 84, []) else none)))))) else (bif Nat.blt k 95 then (bif Nat.blt k 89 then (bif Nat.blt k 86 then (bif Nat.blt k 85 then (bif Nat.beq k 84 then some (.iload_n 3, 85, []) else none) else (bif Nat.beq k 85 then some (.iaload, 86, []) else none)) else (bif Nat.blt k 88 then (bif Nat.beq k 86 then some (.iload 4, 88, []) else none) else (bif Nat.beq k 88 then some (.isub, 89, []) else none))) else (bif Nat.blt k 91 then (bif Nat.blt k 90 then (bif Nat.beq k 89 then some (.iload_n 1, 90, []) else none) else (bif Nat.beq k 90 then some (.aload_n 0, 91, []) else none)) else (bif Nat.blt k 94 then (bif Nat.beq k 91 then some (.getfield 19, 94, []) else none) else (bif Nat.beq k 94 then some (.iload_n 3, 95, []) else none)))) else (bif Nat.blt k 99 then (bif Nat.blt k 97 then (bif Nat.blt k 96 then (bif Nat.beq k 95 then some (.iconst 1, 96, []) else none) else (bif Nat.beq k 96 then some (.isub, 97, []) else none)) else (bif Nat.blt k 98 then (bif Nat.beq k 97 then some (.iaload, 98, []) else none) else (bif Nat.beq k 98 then some (.isub, 99, []) else none))) else (bif Nat.blt k 102 then (bif Nat.blt k 100 then (bif Nat.beq k 99 then some (.imul, 100, []) else none) else (bif Nat.beq k 100 then some (.iload 5, 102, []) else none)) else (bif Nat.blt k 103 then (bif Nat.beq k 102 then some (.idiv, 103, []) else none) else (bif Nat.blt k 104 then (bif Nat.beq k 103 then some (.iadd, 104, []) else none) else (bif Nat.beq k 104 then some (.ireturn, 105, []) else none)))))))) else none
noncomputable def P_Cu_valueBy : MP := (T_Cu_valueBy, (fun k => mLook k [(19, (2, 2, (.array .int), true)), (22, (2, 3, (.array .int), true))]), (fun k => mLook k []), (fun k => mLook k []), (fun k => mLook k []), (fun k => mLook k []), (fun k => mLook k []), (fun k => mLook k [(2, [true, true, true, true, false, false]), (23, [true, true, true, true, false, false])]), (fun k => [33, 77, 104].any (Nat.beq k)), (0, 0, 0, 0), false, (fun _ => none))
set_option maxRecDepth 100000 in
set_option maxHeartbeats 4000000 in
theorem q_Cu_valueBy_e (a1 : Int32) (a2 : Int32) (σ : MSto) (n : Nat) : mexe KT P_Cu_valueBy (n + 1) (0, [some (mR 2 0), some (mI a1), some (mI a2), none, none, none], [], σ, 0, 0) = mexe KT P_Cu_valueBy n (2, [some (mR 2 0), some (mI a1), some (mI a2), some (mI 0), none, none], [], σ, 0, 0) := rfl
set_option maxRecDepth 100000 in
set_option maxHeartbeats 4000000 in
theorem q_Cu_valueBy_2 (x1 : Int32) (x2 : Int32) (x3 : Int32) (σ : MSto) (n : Nat) : mexe KT P_Cu_valueBy (n + 1) (2, [some (mR 2 0), some (mI x1), some (mI x2), some (mI x3), none, none], [], σ, 0, 0) = mIf (x2 ≤ x3) (mexe KT P_Cu_valueBy n (23, [some (mR 2 0), some (mI x1), some (mI x2), some (mI x3), none, none], [], σ, 0, 0)) (mG (vp_in x3 20) (mIf (x1 ≤ (gI σ 36 0 (Int32.toNatClampNeg x3))) (mexe KT P_Cu_valueBy n (23, [some (mR 2 0), some (mI x1), some (mI x2), some (mI x3), none, none], [], σ, 0, 0)) (mexe KT P_Cu_valueBy n (2, [some (mR 2 0), some (mI x1), some (mI x2), some (mI (x3 + 1)), none, none], [], σ, 0, 0)))) := rfl
set_option maxRecDepth 100000 in
set_option maxHeartbeats 4000000 in
theorem q_Cu_valueBy_23 (x1 : Int32) (x2 : Int32) (x3 : Int32) (σ : MSto) (n : Nat) : mexe KT P_Cu_valueBy (n + 1) (23, [some (mR 2 0), some (mI x1), some (mI x2), some (mI x3), none, none], [], σ, 0, 0) = mIf (x3 = 0) (mG (vp_in 0 20) (some (33, [], [(mI (gI σ 37 0 (Int32.toNatClampNeg 0)))], σ, 0, 0))) (mG (vp_in (x3 - 1) 20) (mIf (x2 ≤ x3) (mIf ((0 : Int32) < 0) (mG (vp_in x3 20) (mG (vp_in (x3 - 1) 20) (mG (¬ (0 : Int32) = 0) (some (104, [], [(mI ((gI σ 37 0 (Int32.toNatClampNeg (x3 - 1))) + ((((gI σ 37 0 (Int32.toNatClampNeg x3)) - (gI σ 37 0 (Int32.toNatClampNeg (x3 - 1)))) * (x1 - (gI σ 36 0 (Int32.toNatClampNeg (x3 - 1))))) / 0)))], σ, 0, 0))))) (some (77, [], [(mI (gI σ 37 0 (Int32.toNatClampNeg (x3 - 1))))], σ, 0, 0))) (mG (vp_in x3 20) (mG (vp_in (x3 - 1) 20) (mIf (0 < ((gI σ 36 0 (Int32.toNatClampNeg x3)) - (gI σ 36 0 (Int32.toNatClampNeg (x3 - 1))))) (mG (vp_in x3 20) (mG (vp_in (x3 - 1) 20) (mG (¬ (((gI σ 36 0 (Int32.toNatClampNeg x3)) - (gI σ 36 0 (Int32.toNatClampNeg (x3 - 1)))) : Int32) = 0) (some (104, [], [(mI ((gI σ 37 0 (Int32.toNatClampNeg (x3 - 1))) + ((((gI σ 37 0 (Int32.toNatClampNeg x3)) - (gI σ 37 0 (Int32.toNatClampNeg (x3 - 1)))) * (x1 - (gI σ 36 0 (Int32.toNatClampNeg (x3 - 1))))) / ((gI σ 36 0 (Int32.toNatClampNeg x3)) - (gI σ 36 0 (Int32.toNatClampNeg (x3 - 1)))))))], σ, 0, 0))))) (some (77, [], [(mI (gI σ 37 0 (Int32.toNatClampNeg (x3 - 1))))], σ, 0, 0))))))) := rfl
set_option maxRecDepth 100000 in
theorem lt_Cu_valueBy_2 {Post : MST → Prop} (x1 : Int32) (x2 : Int32) (c : Int32) (σ : MSto) (s : Unit) (hp : g_Cu_valueBy_2 x1 x2 c σ s) (hq : ¬ q_Cu_valueBy_2s x1 x2 c σ s = 1) (hn : ∀ r, t_Cu_valueBy_2 x1 x2 c σ s = r → mW1 P_Cu_valueBy (2, [some (mR 2 0), some (mI x1), some (mI x2), some (mI (c + 1)), none, none], [], σ, 0, 0) Post) : mW1 P_Cu_valueBy (2, [some (mR 2 0), some (mI x1), some (mI x2), some (mI c), none, none], [], σ, 0, 0) Post := by
  unfold g_Cu_valueBy_2 at hp
  refine mW1_eq (q_Cu_valueBy_2 _ _ _ _) ?_
  refine mTr_if (fun h0 => ?_) (fun h0 => ?_)
  · skip
    exact absurd (if_pos h0) hq
  · skip
    have hp := hp h0
    refine mTr_g hp ?_
    refine mTr_if (fun h1 => ?_) (fun h1 => ?_)
    · skip
      exact absurd ((if_neg h0).trans (if_pos h1)) hq
    · skip
      exact mTr_k (hn () ((if_neg h0).trans (if_neg h1)))
theorem lp_Cu_valueBy_2 {Post : MST → Prop} (x1 : Int32) (x2 : Int32) (c0 : Int32) (σ : MSto) (s0 : Unit) (N : Nat) (hb : ∀ i, i < N → g_Cu_valueBy_2 x1 x2 (c0 + nI i) σ (f_Cu_valueBy_2 x1 x2 c0 σ s0 i) ∧ ¬ q_Cu_valueBy_2s x1 x2 (c0 + nI i) σ (f_Cu_valueBy_2 x1 x2 c0 σ s0 i) = 1) (h : mW1 P_Cu_valueBy (2, [some (mR 2 0), some (mI x1), some (mI x2), some (mI (c0 + nI N)), none, none], [], σ, 0, 0) Post) : mW1 P_Cu_valueBy (2, [some (mR 2 0), some (mI x1), some (mI x2), some (mI c0), none, none], [], σ, 0, 0) Post := by
  refine mW1_st (mW1_loop (fun i => (2, [some (mR 2 0), some (mI x1), some (mI x2), some (mI (c0 + nI i)), none, none], [], σ, 0, 0)) N (fun i hlt hn => ?_) h) (by rw [show nI 0 = 0 from rfl, Int32.add_zero] <;> rfl)
  refine lt_Cu_valueBy_2 x1 x2 _ σ _ (hb i hlt).1 (hb i hlt).2 (fun r hr => ?_)
  rw [Int32.add_assoc, nI_s]
  subst hr
  exact hn
set_option maxRecDepth 100000 in
theorem lj_Cu_valueBy_j23 (x1 : Int32) (x2 : Int32) (x3 : Int32) (σ : MSto) (hp : gj_Cu_valueBy_j23 x1 x2 x3 σ) : mW1 P_Cu_valueBy (23, [some (mR 2 0), some (mI x1), some (mI x2), some (mI x3), none, none], [], σ, 0, 0) (mF [33, 77, 104] [mI (vj_Cu_valueBy_j23 x1 x2 x3 σ)] σ 0 0) := by
  unfold gj_Cu_valueBy_j23 at hp
  refine mW1_eq (q_Cu_valueBy_23 _ _ _ _) ?_
  refine mTr_if (fun h0 => ?_) (fun h0 => ?_)
  · skip
    have hp := hp.1 h0
    refine mTr_g hp ?_
    exact mTr_e (by decide) (congrArg (fun z => [mI z]) (Eq.symm (if_pos h0))) rfl (by decide) (by decide)
  · skip
    have hp := hp.2 h0
    refine mTr_g hp.1 ?_
    have hp := hp.2
    refine mTr_if (fun h1 => ?_) (fun h1 => ?_)
    · skip
      refine mTr_f (by decide) ?_
      exact mTr_e (by decide) (congrArg (fun z => [mI z]) (Eq.symm ((if_neg h0).trans (if_pos h1)))) rfl (by decide) (by decide)
    · skip
      have hp := hp h1
      refine mTr_g hp.1 ?_
      have hp := hp.2
      refine mTr_g hp.1 ?_
      have hp := hp.2
      refine mTr_if (fun h2 => ?_) (fun h2 => ?_)
      · skip
        have hp := hp h2
        refine mTr_g hp.1 ?_
        have hp := hp.2
        refine mTr_g hp.1 ?_
        have hp := hp.2
        refine mTr_g hp ?_
        exact mTr_e (by decide) (congrArg (fun z => [mI z]) (Eq.symm ((if_neg h0).trans ((if_neg h1).trans (if_pos h2))))) rfl (by decide) (by decide)
      · skip
        exact mTr_e (by decide) (congrArg (fun z => [mI z]) (Eq.symm ((if_neg h0).trans ((if_neg h1).trans (if_neg h2))))) rfl (by decide) (by decide)
set_option maxRecDepth 100000 in
set_option maxHeartbeats 4000000 in
theorem d_Cu_valueBy (a1 : Int32) (a2 : Int32) (σ : MSto) (hp : p_Cu_valueBy a1 a2 σ) : mW1 P_Cu_valueBy (0, [some (mR 2 0), some (mI a1), some (mI a2), none, none, none], [], σ, 0, 0) (mF [33, 77, 104] [mI (v_Cu_valueBy a1 a2 σ)] σ 0 0) := by
  refine mW1_eq (q_Cu_valueBy_e _ _ _) ?_
  unfold p_Cu_valueBy at hp
  refine mTr_k (lp_Cu_valueBy_2 a1 a2 0 σ () (n_Cu_valueBy_2 a1 a2 0 σ ()) hp.1 ?_)
  have hp := hp.2
  refine mW1_eq (q_Cu_valueBy_2 _ _ _ _) ?_
  refine mTr_if (fun h0 => ?_) (fun h0 => ?_)
  · skip
    have hp := hp.1 h0
    exact mTr_k (mF_cI (rfl) rfl (lj_Cu_valueBy_j23 a1 a2 (0 + nI (n_Cu_valueBy_2 a1 a2 0 σ ())) σ hp))
  · skip
    have hp := hp.2 h0
    refine mTr_g hp.1 ?_
    have hp := hp.2
    refine mTr_if (fun h1 => ?_) (fun h1 => ?_)
    · skip
      have hp := hp.1 h1
      exact mTr_k (mF_cI (rfl) rfl (lj_Cu_valueBy_j23 a1 a2 (0 + nI (n_Cu_valueBy_2 a1 a2 0 σ ())) σ hp))
    · skip
      have hp := hp.2 h1
      exact hp.elim
theorem tk_Cu_valueBy : ∀ pc i nx tg, T_Cu_valueBy pc = some (i, nx, tg) → mOkB prog_3_method_5_code pc i nx tg = true := code_ok (N := 105) (fun k h => by unfold T_Cu_valueBy; rw [h]; rfl) (by decide +kernel)
theorem ok_Cu_valueBy (l : Launch) : mPOK l "ClothWithMan$Curve" prog_3_method_5_code P_Cu_valueBy := by
  refine ⟨tk_Cu_valueBy, ?_, ?_, ?_, (fun pc i nx tg kd _ h => by cases h), ?_, ?_, fun pc en h => by cases h⟩
  · intro x ci f ty fin h
    exact mLook_all (Q := fun x v => mFOK "ClothWithMan$Curve" x v.1 v.2.1 v.2.2.1 v.2.2.2 ∧ (v.2.2.2 = true → pIni P_Cu_valueBy = true → (Cond.fieldLink "ClothWithMan$Curve" x (((mCl[v.1]?).getD ("", fun _ => ("", "", "", false), 0)).2.1 v.2.1).1 (((mCl[v.1]?).getD ("", fun _ => ("", "", "", false), 0)).2.1 v.2.1).2.1 (((mCl[v.1]?).getD ("", fun _ => ("", "", "", false), 0)).2.1 v.2.1).2.2.1 ∈ lw_tbl ∧ (((mCl[v.1]?).getD ("", fun _ => ("", "", "", false), 0)).2.1 v.2.1).1 = "ClothWithMan$Curve"))) (fcC ⟨fo_Cu_19, fun h1 h2 => by cases h2⟩ (fcC ⟨fo_Cu_22, fun h1 h2 => by cases h2⟩ fcN)) x (ci, f, ty, fin) h
  · intro x
    have hh := mLook_all (l := ([] : List (Nat × (Int32 ⊕ Int64)))) (Q := fun x (v : Int32 ⊕ Int64) => (∀ w, v = .inl w → Cond.constant "ClothWithMan$Curve" x w ∈ lw_tbl) ∧ (∀ w, v = .inr w → Cond.constantLong "ClothWithMan$Curve" x w ∈ lw_tbl)) fcN x
    exact ⟨fun w h => (hh _ h).1 w rfl, fun w h => (hh _ h).2 w rfl⟩
  · exact fun x en h => mLook_all (Q := fun x en => mLink "ClothWithMan$Curve" x en ∧ mCtr l en ∧ (en.1.1 = 2 → en.2.2.2.2.2.2 = none)) fcN x en h
  · exact fun x kd h => mLook_all (Q := fun x kd => (kd = 95 ∧ Cond.fieldLink "ClothWithMan$Curve" x "ClothWithMan" "LIKENESSES" "[I" ∈ lw_tbl) ∨ (kd = 96 ∧ Cond.fieldLink "ClothWithMan$Curve" x "ClothWithMan" "APART_BOUNDS" "[I" ∈ lw_tbl)) fcN x kd h
  · exact fun x ci h => mLook_all (Q := fun x ci => ci ≠ 0 ∧ ∃ (C : String) (T : u_T) (N : Nat), mCl[ci]? = some (C, T, N) ∧ Cond.classLink "ClothWithMan$Curve" x C ∈ lw_tbl ∧ Cond.instantiable C N ∈ lw_tbl) fcN x ci h
set_option maxRecDepth 100000 in
theorem c_Cu_valueBy (l : Launch) : mCtr l E_Cu_valueBy := mCtr_of (P := P_Cu_valueBy) (own := "ClothWithMan$Curve") mLay_ok rfl (by decide +kernel) rfl (ok_Cu_valueBy l) (fun h => by cases h) (fun as σ pr rv σ' hF hpr hlv => by
  unfold E_Cu_valueBy S_Cu_valueBy at hF
  simp only [] at hF
  split at hF
  · cases hF
    obtain ⟨n, pcF, c1, s1, g1, g2, g3, g4⟩ := mF_inv (d_Cu_valueBy _ _ σ (hpr _ rfl))
    exact ⟨Nat.le_of_ble_eq_true rfl, (fun v h => by cases h; trivial), n, pcF, c1, s1, g1, ⟨mEnd_of (i := .ireturn) (P := P_Cu_valueBy) (rets := [33, 77, 104]) rfl g2, rfl⟩, g3, g4⟩
  · cases hF
    exact (hpr _ rfl).elim)
/-! ClothWithMan$Curve.readPoints(LClothWithMan$Text;)I -/
noncomputable def tj_Cu_readPoints_4j71 (x2 : Int32) (σ : MSto) (s : Int32 × Int32 × MSto) : Int32 × Int32 × MSto := ((x2 + 1), (v_Te_skip 59 σ), (e_Te_skip 59 σ))
noncomputable def qj_Cu_readPoints_4j71 (x2 : Int32) (σ : MSto) : Nat := 0
def gj_Cu_readPoints_4j71 (x2 : Int32) (σ : MSto) : Prop := (p_Te_skip 59 σ)
noncomputable def tj_Cu_readPoints_4j44 (x2 : Int32) (x4 : Int32) (σ : MSto) (s : Int32 × Int32 × MSto) : Int32 × Int32 × MSto := (tj_Cu_readPoints_4j71 x2 (sI (e_Te_number 999 (sI (e_Te_pass 58 σ) 36 0 (Int32.toNatClampNeg x2) x4)) 37 0 (Int32.toNatClampNeg x2) (v_Te_number 999 (sI (e_Te_pass 58 σ) 36 0 (Int32.toNatClampNeg x2) x4))) s)
noncomputable def qj_Cu_readPoints_4j44 (x2 : Int32) (x4 : Int32) (σ : MSto) : Nat := 0
def gj_Cu_readPoints_4j44 (x2 : Int32) (x4 : Int32) (σ : MSto) : Prop := ((p_Te_pass 58 σ) ∧ ((vp_in x2 20) ∧ ((p_Te_number 999 (sI (e_Te_pass 58 σ) 36 0 (Int32.toNatClampNeg x2) x4)) ∧ ((vp_in x2 20) ∧ (gj_Cu_readPoints_4j71 x2 (sI (e_Te_number 999 (sI (e_Te_pass 58 σ) 36 0 (Int32.toNatClampNeg x2) x4)) 37 0 (Int32.toNatClampNeg x2) (v_Te_number 999 (sI (e_Te_pass 58 σ) 36 0 (Int32.toNatClampNeg x2) x4))))))))
noncomputable def t_Cu_readPoints_4  (s : Int32 × Int32 × MSto) : Int32 × Int32 × MSto := (if (s.2.1) = 0 then s else (if 20 ≤ (s.1) then s else (if (s.1) ≤ 0 then (tj_Cu_readPoints_4j44 (s.1) (v_Te_number 199 (s.2.2)) (e_Te_number 199 (s.2.2)) s) else (if (gI (e_Te_number 199 (s.2.2)) 36 0 (Int32.toNatClampNeg ((s.1) - 1))) < (v_Te_number 199 (s.2.2)) then (tj_Cu_readPoints_4j44 (s.1) (v_Te_number 199 (s.2.2)) (e_Te_number 199 (s.2.2)) s) else (tj_Cu_readPoints_4j44 (s.1) (v_Te_number 199 (s.2.2)) (e_Te_failAtLastDigit (e_Te_number 199 (s.2.2))) s)))))
noncomputable def q_Cu_readPoints_4s  (s : Int32 × Int32 × MSto) : Nat := (if (s.2.1) = 0 then 1 else (if 20 ≤ (s.1) then 1 else 0))
def g_Cu_readPoints_4  (s : Int32 × Int32 × MSto) : Prop := (¬ ((s.2.1) = 0) → (¬ (20 ≤ (s.1)) → ((p_Te_number 199 (s.2.2)) ∧ ((((s.1) ≤ 0) → (gj_Cu_readPoints_4j44 (s.1) (v_Te_number 199 (s.2.2)) (e_Te_number 199 (s.2.2)))) ∧ (¬ ((s.1) ≤ 0) → ((vp_in ((s.1) - 1) 20) ∧ ((((gI (e_Te_number 199 (s.2.2)) 36 0 (Int32.toNatClampNeg ((s.1) - 1))) < (v_Te_number 199 (s.2.2))) → (gj_Cu_readPoints_4j44 (s.1) (v_Te_number 199 (s.2.2)) (e_Te_number 199 (s.2.2)))) ∧ (¬ ((gI (e_Te_number 199 (s.2.2)) 36 0 (Int32.toNatClampNeg ((s.1) - 1))) < (v_Te_number 199 (s.2.2))) → (gj_Cu_readPoints_4j44 (s.1) (v_Te_number 199 (s.2.2)) (e_Te_failAtLastDigit (e_Te_number 199 (s.2.2))))))))))))
noncomputable def f_Cu_readPoints_4  (s0 : Int32 × Int32 × MSto) (n : Nat) : Int32 × Int32 × MSto := nfold (fun i s => t_Cu_readPoints_4 s) s0 n
noncomputable def n_Cu_readPoints_4  (s0 : Int32 × Int32 × MSto) : Nat := leastN (fun i => q_Cu_readPoints_4s (f_Cu_readPoints_4 s0 i) = 1) 21
noncomputable def v_Cu_readPoints  (σ : MSto) : Int32 := ((f_Cu_readPoints_4 (0, 1, σ) (n_Cu_readPoints_4 (0, 1, σ))).1)
def p_Cu_readPoints  (σ : MSto) : Prop := ((∀ i, i < (n_Cu_readPoints_4 (0, 1, σ)) → g_Cu_readPoints_4 (f_Cu_readPoints_4 (0, 1, σ) i) ∧ ¬ q_Cu_readPoints_4s (f_Cu_readPoints_4 (0, 1, σ) i) = 1) ∧ (¬ (((f_Cu_readPoints_4 (0, 1, σ) (n_Cu_readPoints_4 (0, 1, σ))).2.1) = 0) → (¬ (20 ≤ ((f_Cu_readPoints_4 (0, 1, σ) (n_Cu_readPoints_4 (0, 1, σ))).1)) → False)))
noncomputable def e_Cu_readPoints  (σ : MSto) : MSto := ((f_Cu_readPoints_4 (0, 1, σ) (n_Cu_readPoints_4 (0, 1, σ))).2.2)
noncomputable def S_Cu_readPoints : List MV → MSto → Option Prop × Option MV × MSto := fun as σ => match as with
  | [.inr (.inr (some (2, 0))), .inr (.inr (some (10, 0)))] => (some (p_Cu_readPoints σ), some (mI (v_Cu_readPoints σ)), e_Cu_readPoints σ)
  | _ => (some False, none, σ)
noncomputable def E_Cu_readPoints : MEnt := ((1, 1, 2), (3, 67, 0, 0), S_Cu_readPoints, ((⟨"ClothWithMan$Curve", "readPoints", "(LClothWithMan$Text;)I"⟩ : MethodName), prog_3_method_4_code, 5, (some .int)))

def T_Cu_readPoints : Nat → Option (Instr × Nat × List Nat) := fun k => bif Nat.blt k 86 then (bif Nat.blt k 41 then (bif Nat.blt k 21 then (bif Nat.blt k 8 then (bif Nat.blt k 3 then (bif Nat.blt k 1 then (bif Nat.beq k 0 then some (.iconst 0, 1, []) else none) else (bif Nat.blt k 2 then (bif Nat.beq k 1 then some (.istore_n 2, 2, []) else none) else (bif Nat.beq k 2 then some (.iconst 1, 3, []) else none))) else (bif Nat.blt k 4 then (bif Nat.beq k 3 then some (.istore_n 3, 4, []) else none) else (bif Nat.blt k 5 then (bif Nat.beq k 4 then some (.iload_n 3, 5, []) else none) else (bif Nat.beq k 5 then some (.ifCond .eq 79, 8, [84]) else none)))) else (bif Nat.blt k 14 then (bif Nat.blt k 9 then (bif Nat.beq k 8 then some (.iload_n 2, 9, []) else none) else (bif Nat.blt k 11 then (bif Nat.beq k 9 then some (.bipush 20, 11, []) else none) else (bif Nat.beq k 11 then some (.if_icmp .ge 73, 14, [84]) else none))) else (bif Nat.blt k 15 then (bif Nat.beq k 14 then some (.aload_n 1, 15, []) else none) else (bif Nat.blt k 18 then (bif Nat.beq k 15 then some (.sipush 199, 18, []) else none) else (bif Nat.beq k 18 then some (.invokevirtual 49, 21, []) else none))))) else (bif Nat.blt k 33 then (bif Nat.blt k 27 then (bif Nat.blt k 23 then (bif Nat.beq k 21 then some (.istore 4, 23, []) else none) else (bif Nat.blt k 24 then (bif Nat.beq k 23 then some (.iload_n 2, 24, []) else none) else (bif Nat.beq k 24 then some (.ifCond .le 20, 27, [44]) else none))) else (bif Nat.blt k 29 then (bif Nat.beq k 27 then some (.iload 4, 29, []) else none) else (bif Nat.blt k 30 then (bif Nat.beq k 29 then some (.aload_n 0, 30, []) else none) else (bif Nat.beq k 30 then some (.getfield 19, 33, []) else none)))) else (bif Nat.blt k 36 then (bif Nat.blt k 34 then (bif Nat.beq k 33 then some (.iload_n 2, 34, []) else none) else (bif Nat.blt k 35 then (bif Nat.beq k 34 then some (.iconst 1, 35, []) else none) else (bif Nat.beq k 35 then some (.isub, 36, []) else none))) else (bif Nat.blt k 37 then (bif Nat.beq k 36 then some (.iaload, 37, []) else none) else (bif Nat.blt k 40 then (bif Nat.beq k 37 then some (.if_icmp .gt 7, 40, [44]) else none) else (bif Nat.beq k 40 then some (.aload_n 1, 41, []) else none)))))) else (bif Nat.blt k 63 then (bif Nat.blt k 54 then (bif Nat.blt k 47 then (bif Nat.blt k 44 then (bif Nat.beq k 41 then some (.invokevirtual 53, 44, []) else none) else (bif Nat.blt k 45 then (bif Nat.beq k 44 then some (.aload_n 1, 45, []) else none) else (bif Nat.beq k 45 then some (.bipush 58, 47, []) else none))) else (bif Nat.blt k 50 then (bif Nat.beq k 47 then some (.invokevirtual 56, 50, []) else none) else (bif Nat.blt k 51 then (bif Nat.beq k 50 then some (.aload_n 0, 51, []) else none) else (bif Nat.beq k 51 then some (.getfield 19, 54, []) else none)))) else (bif Nat.blt k 58 then (bif Nat.blt k 55 then (bif Nat.beq k 54 then some (.iload_n 2, 55, []) else none) else (bif Nat.blt k 57 then (bif Nat.beq k 55 then some (.iload 4, 57, []) else none) else (bif Nat.beq k 57 then some (.iastore, 58, []) else none))) else (bif Nat.blt k 59 then (bif Nat.beq k 58 then some (.aload_n 0, 59, []) else none) else (bif Nat.blt k 62 then (bif Nat.beq k 59 then some (.getfield 22, 62, []) else none) else (bif Nat.beq k 62 then some (.iload_n 2, 63, []) else none))))) else (bif Nat.blt k 75 then (bif Nat.blt k 70 then (bif Nat.blt k 64 then (bif Nat.beq k 63 then some (.aload_n 1, 64, []) else none) else (bif Nat.blt k 67 then (bif Nat.beq k 64 then some (.sipush 999, 67, []) else none) else (bif Nat.beq k 67 then some (.invokevirtual 49, 70, []) else none))) else (bif Nat.blt k 71 then (bif Nat.beq k 70 then some (.iastore, 71, []) else none) else (bif Nat.blt k 74 then (bif Nat.beq k 71 then some (.iinc 2 1, 74, []) else none) else (bif Nat.beq k 74 then some (.aload_n 1, 75, []) else none)))) else (bif Nat.blt k 81 then (bif Nat.blt k 77 then (bif Nat.beq k 75 then some (.bipush 59, 77, []) else none) else (bif Nat.blt k 80 then (bif Nat.beq k 77 then some (.invokevirtual 60, 80, []) else none) else (bif Nat.beq k 80 then some (.istore_n 3, 81, []) else none))) else (bif Nat.blt k 84 then (bif Nat.beq k 81 then some (.goto (-77), 84, [4]) else none) else (bif Nat.blt k 85 then (bif Nat.beq k 84 then some (.iload_n 2, 85, []) else none) else (bif Nat.beq k 85 then some (.ireturn, 86, []) else none))))))) else none
noncomputable def P_Cu_readPoints : MP := (T_Cu_readPoints, (fun k => mLook k [(19, (2, 2, (.array .int), true)), (22, (2, 3, (.array .int), true))]), (fun k => mLook k []), (fun k => mLook k [(49, E_Te_number), (53, E_Te_failAtLastDigit), (56, E_Te_pass), (60, E_Te_skip)]), (fun k => mLook k []), (fun k => mLook k []), (fun k => mLook k []), (fun k => mLook k [(4, [true, true, true, true, false]), (44, [true, true, true, false, true]), (71, [true, true, true, false, false])]), (fun k => [85].any (Nat.beq k)), (3, 67, 0, 0), false, (fun _ => none))
set_option maxRecDepth 100000 in
set_option maxHeartbeats 4000000 in
theorem q_Cu_readPoints_e  (σ : MSto) (n : Nat) : mexe KT P_Cu_readPoints (n + 1) (0, [some (mR 2 0), some (mR 10 0), none, none, none], [], σ, 0, 0) = mexe KT P_Cu_readPoints n (4, [some (mR 2 0), some (mR 10 0), some (mI 0), some (mI 1), none], [], σ, 0, 0) := rfl
set_option maxRecDepth 100000 in
set_option maxHeartbeats 4000000 in
theorem q_Cu_readPoints_4 (x2 : Int32) (x3 : Int32) (σ : MSto) (n : Nat) : mexe KT P_Cu_readPoints (n + 1) (4, [some (mR 2 0), some (mR 10 0), some (mI x2), some (mI x3), none], [], σ, 0, 0) = mIf (x3 = 0) (some (85, [], [(mI x2)], σ, 0, 0)) (mIf (20 ≤ x2) (some (85, [], [(mI x2)], σ, 0, 0)) (mG (p_Te_number 199 σ) (mIf (x2 ≤ 0) (mexe KT P_Cu_readPoints n (44, [some (mR 2 0), some (mR 10 0), some (mI x2), none, some (mI (v_Te_number 199 σ))], [], (e_Te_number 199 σ), 0, 0)) (mG (vp_in (x2 - 1) 20) (mIf ((gI (e_Te_number 199 σ) 36 0 (Int32.toNatClampNeg (x2 - 1))) < (v_Te_number 199 σ)) (mexe KT P_Cu_readPoints n (44, [some (mR 2 0), some (mR 10 0), some (mI x2), none, some (mI (v_Te_number 199 σ))], [], (e_Te_number 199 σ), 0, 0)) (mexe KT P_Cu_readPoints n (44, [some (mR 2 0), some (mR 10 0), some (mI x2), none, some (mI (v_Te_number 199 σ))], [], (e_Te_failAtLastDigit (e_Te_number 199 σ)), 0, 0))))))) := rfl
set_option maxRecDepth 100000 in
set_option maxHeartbeats 4000000 in
theorem q_Cu_readPoints_44 (x2 : Int32) (x4 : Int32) (σ : MSto) (n : Nat) : mexe KT P_Cu_readPoints (n + 1) (44, [some (mR 2 0), some (mR 10 0), some (mI x2), none, some (mI x4)], [], σ, 0, 0) = mG (p_Te_pass 58 σ) (mG (vp_in x2 20) (mG (p_Te_number 999 (sI (e_Te_pass 58 σ) 36 0 (Int32.toNatClampNeg x2) x4)) (mG (vp_in x2 20) (mexe KT P_Cu_readPoints n (71, [some (mR 2 0), some (mR 10 0), some (mI x2), none, none], [], (sI (e_Te_number 999 (sI (e_Te_pass 58 σ) 36 0 (Int32.toNatClampNeg x2) x4)) 37 0 (Int32.toNatClampNeg x2) (v_Te_number 999 (sI (e_Te_pass 58 σ) 36 0 (Int32.toNatClampNeg x2) x4))), 0, 0))))) := rfl
set_option maxRecDepth 100000 in
set_option maxHeartbeats 4000000 in
theorem q_Cu_readPoints_71 (x2 : Int32) (σ : MSto) (n : Nat) : mexe KT P_Cu_readPoints (n + 1) (71, [some (mR 2 0), some (mR 10 0), some (mI x2), none, none], [], σ, 0, 0) = mG (p_Te_skip 59 σ) (mexe KT P_Cu_readPoints n (4, [some (mR 2 0), some (mR 10 0), some (mI (x2 + 1)), some (mI (v_Te_skip 59 σ)), none], [], (e_Te_skip 59 σ), 0, 0)) := rfl
set_option maxRecDepth 100000 in
theorem lj_Cu_readPoints_4j71 {Post : MST → Prop} (x2 : Int32) (σ : MSto) (s : Int32 × Int32 × MSto) (hp : gj_Cu_readPoints_4j71 x2 σ) (hq : ¬ 0 = 1) (hn : ∀ (r1 : Int32) (r2 : Int32) (r3 : MSto), tj_Cu_readPoints_4j71 x2 σ s = (r1, r2, r3) → mW1 P_Cu_readPoints (4, [some (mR 2 0), some (mR 10 0), some (mI r1), some (mI r2), none], [], r3, 0, 0) Post) : mW1 P_Cu_readPoints (71, [some (mR 2 0), some (mR 10 0), some (mI x2), none, none], [], σ, 0, 0) Post := by
  unfold gj_Cu_readPoints_4j71 at hp
  refine mW1_eq (q_Cu_readPoints_71 _ _) ?_
  refine mTr_g hp ?_
  exact mTr_k (hn (x2 + 1) (v_Te_skip 59 σ) (e_Te_skip 59 σ) (rfl))
set_option maxRecDepth 100000 in
theorem lj_Cu_readPoints_4j44 {Post : MST → Prop} (x2 : Int32) (x4 : Int32) (σ : MSto) (s : Int32 × Int32 × MSto) (hp : gj_Cu_readPoints_4j44 x2 x4 σ) (hq : ¬ 0 = 1) (hn : ∀ (r1 : Int32) (r2 : Int32) (r3 : MSto), tj_Cu_readPoints_4j44 x2 x4 σ s = (r1, r2, r3) → mW1 P_Cu_readPoints (4, [some (mR 2 0), some (mR 10 0), some (mI r1), some (mI r2), none], [], r3, 0, 0) Post) : mW1 P_Cu_readPoints (44, [some (mR 2 0), some (mR 10 0), some (mI x2), none, some (mI x4)], [], σ, 0, 0) Post := by
  unfold gj_Cu_readPoints_4j44 at hp
  refine mW1_eq (q_Cu_readPoints_44 _ _ _) ?_
  refine mTr_g hp.1 ?_
  have hp := hp.2
  refine mTr_g hp.1 ?_
  have hp := hp.2
  refine mTr_g hp.1 ?_
  have hp := hp.2
  refine mTr_g hp.1 ?_
  have hp := hp.2
  exact mTr_k (lj_Cu_readPoints_4j71 x2 (sI (e_Te_number 999 (sI (e_Te_pass 58 σ) 36 0 (Int32.toNatClampNeg x2) x4)) 37 0 (Int32.toNatClampNeg x2) (v_Te_number 999 (sI (e_Te_pass 58 σ) 36 0 (Int32.toNatClampNeg x2) x4))) s hp hq hn)
set_option maxRecDepth 100000 in
theorem lt_Cu_readPoints_4 {Post : MST → Prop}  (s : Int32 × Int32 × MSto) (hp : g_Cu_readPoints_4 s) (hq : ¬ q_Cu_readPoints_4s s = 1) (hn : ∀ (r1 : Int32) (r2 : Int32) (r3 : MSto), t_Cu_readPoints_4 s = (r1, r2, r3) → mW1 P_Cu_readPoints (4, [some (mR 2 0), some (mR 10 0), some (mI r1), some (mI r2), none], [], r3, 0, 0) Post) : mW1 P_Cu_readPoints (4, [some (mR 2 0), some (mR 10 0), some (mI (s.1)), some (mI (s.2.1)), none], [], (s.2.2), 0, 0) Post := by
  unfold g_Cu_readPoints_4 at hp
  refine mW1_eq (q_Cu_readPoints_4 _ _ _) ?_
  refine mTr_if (fun h0 => ?_) (fun h0 => ?_)
  · skip
    exact absurd (if_pos h0) hq
  · skip
    have hp := hp h0
    refine mTr_if (fun h1 => ?_) (fun h1 => ?_)
    · skip
      exact absurd ((if_neg h0).trans (if_pos h1)) hq
    · skip
      have hp := hp h1
      refine mTr_g hp.1 ?_
      have hp := hp.2
      refine mTr_if (fun h2 => ?_) (fun h2 => ?_)
      · skip
        have hp := hp.1 h2
        exact mTr_k (lj_Cu_readPoints_4j44 (s.1) (v_Te_number 199 (s.2.2)) (e_Te_number 199 (s.2.2)) s hp (fun z => hq (((if_neg h0).trans (if_neg h1)).trans z)) (fun r1 r2 r3 zr => hn r1 r2 r3 (((if_neg h0).trans ((if_neg h1).trans (if_pos h2))).trans zr)))
      · skip
        have hp := hp.2 h2
        refine mTr_g hp.1 ?_
        have hp := hp.2
        refine mTr_if (fun h3 => ?_) (fun h3 => ?_)
        · skip
          have hp := hp.1 h3
          exact mTr_k (lj_Cu_readPoints_4j44 (s.1) (v_Te_number 199 (s.2.2)) (e_Te_number 199 (s.2.2)) s hp (fun z => hq (((if_neg h0).trans (if_neg h1)).trans z)) (fun r1 r2 r3 zr => hn r1 r2 r3 (((if_neg h0).trans ((if_neg h1).trans ((if_neg h2).trans (if_pos h3)))).trans zr)))
        · skip
          have hp := hp.2 h3
          exact mTr_k (lj_Cu_readPoints_4j44 (s.1) (v_Te_number 199 (s.2.2)) (e_Te_failAtLastDigit (e_Te_number 199 (s.2.2))) s hp (fun z => hq (((if_neg h0).trans (if_neg h1)).trans z)) (fun r1 r2 r3 zr => hn r1 r2 r3 (((if_neg h0).trans ((if_neg h1).trans ((if_neg h2).trans (if_neg h3)))).trans zr)))
theorem lp_Cu_readPoints_4 {Post : MST → Prop}  (s0 : Int32 × Int32 × MSto) (N : Nat) (hb : ∀ i, i < N → g_Cu_readPoints_4 (f_Cu_readPoints_4 s0 i) ∧ ¬ q_Cu_readPoints_4s (f_Cu_readPoints_4 s0 i) = 1) (h : mW1 P_Cu_readPoints (4, [some (mR 2 0), some (mR 10 0), some (mI ((f_Cu_readPoints_4 s0 N).1)), some (mI ((f_Cu_readPoints_4 s0 N).2.1)), none], [], ((f_Cu_readPoints_4 s0 N).2.2), 0, 0) Post) : mW1 P_Cu_readPoints (4, [some (mR 2 0), some (mR 10 0), some (mI (s0.1)), some (mI (s0.2.1)), none], [], (s0.2.2), 0, 0) Post := by
  refine mW1_st (mW1_loop (fun i => (4, [some (mR 2 0), some (mR 10 0), some (mI ((f_Cu_readPoints_4 s0 i).1)), some (mI ((f_Cu_readPoints_4 s0 i).2.1)), none], [], ((f_Cu_readPoints_4 s0 i).2.2), 0, 0)) N (fun i hlt hn => ?_) h) (rfl)
  refine lt_Cu_readPoints_4 _ (hb i hlt).1 (hb i hlt).2 (fun r1 r2 r3 hr => ?_)
  have e : f_Cu_readPoints_4 s0 (i + 1) = (r1, r2, r3) := hr
  try dsimp only at hn
  rw [e] at hn
  exact hn
set_option maxRecDepth 100000 in
set_option maxHeartbeats 4000000 in
theorem d_Cu_readPoints  (σ : MSto) (hp : p_Cu_readPoints σ) : mW1 P_Cu_readPoints (0, [some (mR 2 0), some (mR 10 0), none, none, none], [], σ, 0, 0) (mF [85] [mI (v_Cu_readPoints σ)] (e_Cu_readPoints σ) 0 0) := by
  refine mW1_eq (q_Cu_readPoints_e  _) ?_
  unfold p_Cu_readPoints at hp
  refine mTr_k (lp_Cu_readPoints_4 (0, 1, σ) (n_Cu_readPoints_4 (0, 1, σ)) hp.1 ?_)
  have hp := hp.2
  refine mW1_eq (q_Cu_readPoints_4 _ _ _) ?_
  refine mTr_if (fun h0 => ?_) (fun h0 => ?_)
  · skip
    exact mTr_e (by decide) (congrArg (fun z => [mI z]) (Eq.symm (rfl))) (Eq.symm (rfl)) (by decide) (by decide)
  · skip
    have hp := hp h0
    refine mTr_if (fun h1 => ?_) (fun h1 => ?_)
    · skip
      exact mTr_e (by decide) (congrArg (fun z => [mI z]) (Eq.symm (rfl))) (Eq.symm (rfl)) (by decide) (by decide)
    · skip
      have hp := hp h1
      exact hp.elim
theorem li_Cu_60 : mLink "ClothWithMan$Curve" 60 E_Te_skip := ⟨tw_2_50, tw_1_2, ⟨by decide, by decide⟩, by decide +kernel, Or.inl tw_2_51, (fun h => by cases h), (fun _ => ⟨tw_2_48, tw_2_49, TX9, 5, rfl⟩), (fun h => by cases h)⟩

theorem li_Cu_56 : mLink "ClothWithMan$Curve" 56 E_Te_pass := ⟨tw_2_46, tw_1_2, ⟨by decide, by decide⟩, by decide +kernel, Or.inl tw_2_43, (fun h => by cases h), (fun _ => ⟨tw_2_44, tw_2_45, TX9, 5, rfl⟩), (fun h => by cases h)⟩

theorem li_Cu_53 : mLink "ClothWithMan$Curve" 53 E_Te_failAtLastDigit := ⟨tw_2_41, tw_1_2, ⟨by decide, by decide⟩, by decide +kernel, Or.inl tw_2_42, (fun h => by cases h), (fun _ => ⟨tw_2_39, tw_2_40, TX9, 5, rfl⟩), (fun h => by cases h)⟩

theorem li_Cu_49 : mLink "ClothWithMan$Curve" 49 E_Te_number := ⟨tw_2_22, tw_1_2, ⟨by decide, by decide⟩, by decide +kernel, Or.inl tw_2_19, (fun h => by cases h), (fun _ => ⟨tw_2_20, tw_2_21, TX9, 5, rfl⟩), (fun h => by cases h)⟩

theorem tk_Cu_readPoints : ∀ pc i nx tg, T_Cu_readPoints pc = some (i, nx, tg) → mOkB prog_3_method_4_code pc i nx tg = true := code_ok (N := 86) (fun k h => by unfold T_Cu_readPoints; rw [h]; rfl) (by decide +kernel)
theorem ok_Cu_readPoints (l : Launch) : mPOK l "ClothWithMan$Curve" prog_3_method_4_code P_Cu_readPoints := by
  refine ⟨tk_Cu_readPoints, ?_, ?_, ?_, (fun pc i nx tg kd _ h => by cases h), ?_, ?_, fun pc en h => by cases h⟩
  · intro x ci f ty fin h
    exact mLook_all (Q := fun x v => mFOK "ClothWithMan$Curve" x v.1 v.2.1 v.2.2.1 v.2.2.2 ∧ (v.2.2.2 = true → pIni P_Cu_readPoints = true → (Cond.fieldLink "ClothWithMan$Curve" x (((mCl[v.1]?).getD ("", fun _ => ("", "", "", false), 0)).2.1 v.2.1).1 (((mCl[v.1]?).getD ("", fun _ => ("", "", "", false), 0)).2.1 v.2.1).2.1 (((mCl[v.1]?).getD ("", fun _ => ("", "", "", false), 0)).2.1 v.2.1).2.2.1 ∈ lw_tbl ∧ (((mCl[v.1]?).getD ("", fun _ => ("", "", "", false), 0)).2.1 v.2.1).1 = "ClothWithMan$Curve"))) (fcC ⟨fo_Cu_19, fun h1 h2 => by cases h2⟩ (fcC ⟨fo_Cu_22, fun h1 h2 => by cases h2⟩ fcN)) x (ci, f, ty, fin) h
  · intro x
    have hh := mLook_all (l := ([] : List (Nat × (Int32 ⊕ Int64)))) (Q := fun x (v : Int32 ⊕ Int64) => (∀ w, v = .inl w → Cond.constant "ClothWithMan$Curve" x w ∈ lw_tbl) ∧ (∀ w, v = .inr w → Cond.constantLong "ClothWithMan$Curve" x w ∈ lw_tbl)) fcN x
    exact ⟨fun w h => (hh _ h).1 w rfl, fun w h => (hh _ h).2 w rfl⟩
  · exact fun x en h => mLook_all (Q := fun x en => mLink "ClothWithMan$Curve" x en ∧ mCtr l en ∧ (en.1.1 = 2 → en.2.2.2.2.2.2 = none)) (fcC ⟨li_Cu_49, c_Te_number l, (fun h => by cases h)⟩ (fcC ⟨li_Cu_53, c_Te_failAtLastDigit l, (fun h => by cases h)⟩ (fcC ⟨li_Cu_56, c_Te_pass l, (fun h => by cases h)⟩ (fcC ⟨li_Cu_60, c_Te_skip l, (fun h => by cases h)⟩ fcN)))) x en h
  · exact fun x kd h => mLook_all (Q := fun x kd => (kd = 95 ∧ Cond.fieldLink "ClothWithMan$Curve" x "ClothWithMan" "LIKENESSES" "[I" ∈ lw_tbl) ∨ (kd = 96 ∧ Cond.fieldLink "ClothWithMan$Curve" x "ClothWithMan" "APART_BOUNDS" "[I" ∈ lw_tbl)) fcN x kd h
  · exact fun x ci h => mLook_all (Q := fun x ci => ci ≠ 0 ∧ ∃ (C : String) (T : u_T) (N : Nat), mCl[ci]? = some (C, T, N) ∧ Cond.classLink "ClothWithMan$Curve" x C ∈ lw_tbl ∧ Cond.instantiable C N ∈ lw_tbl) fcN x ci h
set_option maxRecDepth 100000 in
theorem c_Cu_readPoints (l : Launch) : mCtr l E_Cu_readPoints := mCtr_of (P := P_Cu_readPoints) (own := "ClothWithMan$Curve") mLay_ok rfl (by decide +kernel) rfl (ok_Cu_readPoints l) (fun h => by cases h) (fun as σ pr rv σ' hF hpr hlv => by
  unfold E_Cu_readPoints S_Cu_readPoints at hF
  simp only [] at hF
  split at hF
  · cases hF
    obtain ⟨n, pcF, c1, s1, g1, g2, g3, g4⟩ := mF_inv (d_Cu_readPoints σ (hpr _ rfl))
    exact ⟨Nat.le_of_ble_eq_true rfl, (fun v h => by cases h; trivial), n, pcF, c1, s1, g1, ⟨mEnd_of (i := .ireturn) (P := P_Cu_readPoints) (rets := [85]) rfl g2, rfl⟩, g3, g4⟩
  · cases hF
    exact (hpr _ rfl).elim)
/-! ClothWithMan$Curve.read(LClothWithMan$Text;)I -/
noncomputable def t_Cu_read_39 (x2 : Int32) (c : Int32) (s : MSto) : MSto := (if 200 ≤ c then s else (sI s 35 0 (Int32.toNatClampNeg c) (v_Cu_valueBy c x2 s)))
noncomputable def q_Cu_read_39s (x2 : Int32) (c : Int32) (s : MSto) : Nat := (if 200 ≤ c then 1 else 0)
def g_Cu_read_39 (x2 : Int32) (c : Int32) (s : MSto) : Prop := (¬ (200 ≤ c) → ((p_Cu_valueBy c x2 s) ∧ (vp_in c 200)))
noncomputable def f_Cu_read_39 (x2 : Int32) (c0 : Int32) (s0 : MSto) (n : Nat) : MSto := nfold (fun i s => t_Cu_read_39 x2 (c0 + nI i) s) s0 n
noncomputable def n_Cu_read_39 (x2 : Int32) (c0 : Int32) (s0 : MSto) : Nat := 200
noncomputable def v_Cu_read  (σ : MSto) : Int32 := (if (v_Te_isRight (e_Te_finish 60 (e_Cu_readPoints (e_Te_begin 60 σ)))) = 0 then ((-1) - (gI (e_Te_finish 60 (e_Cu_readPoints (e_Te_begin 60 σ))) 10 0 4)) else (v_Cu_readPoints (e_Te_begin 60 σ)))
def p_Cu_read  (σ : MSto) : Prop := ((p_Cu_readPoints (e_Te_begin 60 σ)) ∧ (¬ ((v_Te_isRight (e_Te_finish 60 (e_Cu_readPoints (e_Te_begin 60 σ)))) = 0) → ((∀ i, i < (n_Cu_read_39 (v_Cu_readPoints (e_Te_begin 60 σ)) 0 (sI (e_Te_finish 60 (e_Cu_readPoints (e_Te_begin 60 σ))) 2 0 1 (v_Cu_readPoints (e_Te_begin 60 σ)))) → g_Cu_read_39 (v_Cu_readPoints (e_Te_begin 60 σ)) (0 + nI i) (f_Cu_read_39 (v_Cu_readPoints (e_Te_begin 60 σ)) 0 (sI (e_Te_finish 60 (e_Cu_readPoints (e_Te_begin 60 σ))) 2 0 1 (v_Cu_readPoints (e_Te_begin 60 σ))) i) ∧ ¬ q_Cu_read_39s (v_Cu_readPoints (e_Te_begin 60 σ)) (0 + nI i) (f_Cu_read_39 (v_Cu_readPoints (e_Te_begin 60 σ)) 0 (sI (e_Te_finish 60 (e_Cu_readPoints (e_Te_begin 60 σ))) 2 0 1 (v_Cu_readPoints (e_Te_begin 60 σ))) i) = 1) ∧ (¬ (200 ≤ (0 + nI (n_Cu_read_39 (v_Cu_readPoints (e_Te_begin 60 σ)) 0 (sI (e_Te_finish 60 (e_Cu_readPoints (e_Te_begin 60 σ))) 2 0 1 (v_Cu_readPoints (e_Te_begin 60 σ)))))) → False))))
noncomputable def e_Cu_read  (σ : MSto) : MSto := (if (v_Te_isRight (e_Te_finish 60 (e_Cu_readPoints (e_Te_begin 60 σ)))) = 0 then (e_Te_finish 60 (e_Cu_readPoints (e_Te_begin 60 σ))) else (f_Cu_read_39 (v_Cu_readPoints (e_Te_begin 60 σ)) 0 (sI (e_Te_finish 60 (e_Cu_readPoints (e_Te_begin 60 σ))) 2 0 1 (v_Cu_readPoints (e_Te_begin 60 σ))) (n_Cu_read_39 (v_Cu_readPoints (e_Te_begin 60 σ)) 0 (sI (e_Te_finish 60 (e_Cu_readPoints (e_Te_begin 60 σ))) 2 0 1 (v_Cu_readPoints (e_Te_begin 60 σ))))))
noncomputable def S_Cu_read : List MV → MSto → Option Prop × Option MV × MSto := fun as σ => match as with
  | [.inr (.inr (some (2, 0))), .inr (.inr (some (10, 0)))] => (some (p_Cu_read σ), some (mI (v_Cu_read σ)), e_Cu_read σ)
  | _ => (some False, none, σ)
noncomputable def E_Cu_read : MEnt := ((1, 1, 2), (4, 91, 0, 0), S_Cu_read, ((⟨"ClothWithMan$Curve", "read", "(LClothWithMan$Text;)I"⟩ : MethodName), prog_3_method_3_code, 4, (some .int)))

def T_Cu_read : Nat → Option (Instr × Nat × List Nat) := fun k => bif Nat.blt k 66 then (bif Nat.blt k 33 then (bif Nat.blt k 15 then (bif Nat.blt k 7 then (bif Nat.blt k 3 then (bif Nat.blt k 1 then (bif Nat.beq k 0 then some (.aload_n 1, 1, []) else none) else (bif Nat.beq k 1 then some (.bipush 60, 3, []) else none)) else (bif Nat.blt k 6 then (bif Nat.beq k 3 then some (.invokevirtual 25, 6, []) else none) else (bif Nat.beq k 6 then some (.aload_n 0, 7, []) else none))) else (bif Nat.blt k 11 then (bif Nat.blt k 8 then (bif Nat.beq k 7 then some (.aload_n 1, 8, []) else none) else (bif Nat.beq k 8 then some (.invokevirtual 31, 11, []) else none)) else (bif Nat.blt k 12 then (bif Nat.beq k 11 then some (.istore_n 2, 12, []) else none) else (bif Nat.blt k 13 then (bif Nat.beq k 12 then some (.aload_n 1, 13, []) else none) else (bif Nat.beq k 13 then some (.bipush 60, 15, []) else none))))) else (bif Nat.blt k 26 then (bif Nat.blt k 19 then (bif Nat.blt k 18 then (bif Nat.beq k 15 then some (.invokevirtual 35, 18, []) else none) else (bif Nat.beq k 18 then some (.aload_n 1, 19, []) else none)) else (bif Nat.blt k 22 then (bif Nat.beq k 19 then some (.invokevirtual 38, 22, []) else none) else (bif Nat.blt k 25 then (bif Nat.beq k 22 then some (.ifCond .ne 10, 25, [32]) else none) else (bif Nat.beq k 25 then some (.iconst (-1), 26, []) else none)))) else (bif Nat.blt k 30 then (bif Nat.blt k 27 then (bif Nat.beq k 26 then some (.aload_n 1, 27, []) else none) else (bif Nat.beq k 27 then some (.getfield 42, 30, []) else none)) else (bif Nat.blt k 31 then (bif Nat.beq k 30 then some (.isub, 31, []) else none) else (bif Nat.blt k 32 then (bif Nat.beq k 31 then some (.ireturn, 32, []) else none) else (bif Nat.beq k 32 then some (.aload_n 0, 33, []) else none)))))) else (bif Nat.blt k 50 then (bif Nat.blt k 39 then (bif Nat.blt k 37 then (bif Nat.blt k 34 then (bif Nat.beq k 33 then some (.iload_n 2, 34, []) else none) else (bif Nat.beq k 34 then some (.putfield 15, 37, []) else none)) else (bif Nat.blt k 38 then (bif Nat.beq k 37 then some (.iconst 0, 38, []) else none) else (bif Nat.beq k 38 then some (.istore_n 3, 39, []) else none))) else (bif Nat.blt k 43 then (bif Nat.blt k 40 then (bif Nat.beq k 39 then some (.iload_n 3, 40, []) else none) else (bif Nat.beq k 40 then some (.sipush 200, 43, []) else none)) else (bif Nat.blt k 46 then (bif Nat.beq k 43 then some (.if_icmp .ge 21, 46, [64]) else none) else (bif Nat.blt k 47 then (bif Nat.beq k 46 then some (.aload_n 0, 47, []) else none) else (bif Nat.beq k 47 then some (.getfield 9, 50, []) else none))))) else (bif Nat.blt k 57 then (bif Nat.blt k 52 then (bif Nat.blt k 51 then (bif Nat.beq k 50 then some (.iload_n 3, 51, []) else none) else (bif Nat.beq k 51 then some (.aload_n 0, 52, []) else none)) else (bif Nat.blt k 53 then (bif Nat.beq k 52 then some (.iload_n 3, 53, []) else none) else (bif Nat.blt k 54 then (bif Nat.beq k 53 then some (.iload_n 2, 54, []) else none) else (bif Nat.beq k 54 then some (.invokevirtual 45, 57, []) else none)))) else (bif Nat.blt k 61 then (bif Nat.blt k 58 then (bif Nat.beq k 57 then some (.iastore, 58, []) else none) else (bif Nat.beq k 58 then some (.iinc 3 1, 61, []) else none)) else (bif Nat.blt k 64 then (bif Nat.beq k 61 then some (.goto (-22), 64, [39]) else none) else (bif Nat.blt k 65 then (bif Nat.beq k 64 then some (.iload_n 2, 65, []) else none) else (bif Nat.beq k 65 then some (.ireturn, 66, []) else none))))))) else none
noncomputable def P_Cu_read : MP := (T_Cu_read, (fun k => mLook k [(9, (2, 0, (.array .int), true)), (15, (2, 1, .int, false)), (42, (10, 4, .int, false))]), (fun k => mLook k []), (fun k => mLook k [(25, E_Te_begin), (31, E_Cu_readPoints), (35, E_Te_finish), (38, E_Te_isRight), (45, E_Cu_valueBy)]), (fun k => mLook k []), (fun k => mLook k []), (fun k => mLook k []), (fun k => mLook k [(39, [true, false, true, true])]), (fun k => [31, 65].any (Nat.beq k)), (4, 91, 0, 0), false, (fun _ => none))
set_option maxRecDepth 100000 in
set_option maxHeartbeats 4000000 in
theorem q_Cu_read_e  (σ : MSto) (n : Nat) : mexe KT P_Cu_read (n + 1) (0, [some (mR 2 0), some (mR 10 0), none, none], [], σ, 0, 0) = mG (p_Cu_readPoints (e_Te_begin 60 σ)) (mIf ((v_Te_isRight (e_Te_finish 60 (e_Cu_readPoints (e_Te_begin 60 σ)))) = 0) (some (31, [], [(mI ((-1) - (gI (e_Te_finish 60 (e_Cu_readPoints (e_Te_begin 60 σ))) 10 0 4)))], (e_Te_finish 60 (e_Cu_readPoints (e_Te_begin 60 σ))), 0, 0)) (mexe KT P_Cu_read n (39, [some (mR 2 0), none, some (mI (v_Cu_readPoints (e_Te_begin 60 σ))), some (mI 0)], [], (sI (e_Te_finish 60 (e_Cu_readPoints (e_Te_begin 60 σ))) 2 0 1 (v_Cu_readPoints (e_Te_begin 60 σ))), 0, 0))) := rfl
set_option maxRecDepth 100000 in
set_option maxHeartbeats 4000000 in
theorem q_Cu_read_39 (x2 : Int32) (x3 : Int32) (σ : MSto) (n : Nat) : mexe KT P_Cu_read (n + 1) (39, [some (mR 2 0), none, some (mI x2), some (mI x3)], [], σ, 0, 0) = mIf (200 ≤ x3) (some (65, [], [(mI x2)], σ, 0, 0)) (mG (p_Cu_valueBy x3 x2 σ) (mG (vp_in x3 200) (mexe KT P_Cu_read n (39, [some (mR 2 0), none, some (mI x2), some (mI (x3 + 1))], [], (sI σ 35 0 (Int32.toNatClampNeg x3) (v_Cu_valueBy x3 x2 σ)), 0, 0)))) := rfl
set_option maxRecDepth 100000 in
theorem lt_Cu_read_39 {Post : MST → Prop} (x2 : Int32) (c : Int32) (s : MSto) (hp : g_Cu_read_39 x2 c s) (hq : ¬ q_Cu_read_39s x2 c s = 1) (hn : ∀ r, t_Cu_read_39 x2 c s = r → mW1 P_Cu_read (39, [some (mR 2 0), none, some (mI x2), some (mI (c + 1))], [], r, 0, 0) Post) : mW1 P_Cu_read (39, [some (mR 2 0), none, some (mI x2), some (mI c)], [], s, 0, 0) Post := by
  unfold g_Cu_read_39 at hp
  refine mW1_eq (q_Cu_read_39 _ _ _) ?_
  refine mTr_if (fun h0 => ?_) (fun h0 => ?_)
  · skip
    exact absurd (if_pos h0) hq
  · skip
    have hp := hp h0
    refine mTr_g hp.1 ?_
    have hp := hp.2
    refine mTr_g hp ?_
    exact mTr_k (hn (sI s 35 0 (Int32.toNatClampNeg c) (v_Cu_valueBy c x2 s)) (if_neg h0))
theorem lp_Cu_read_39 {Post : MST → Prop} (x2 : Int32) (c0 : Int32) (s0 : MSto) (N : Nat) (hb : ∀ i, i < N → g_Cu_read_39 x2 (c0 + nI i) (f_Cu_read_39 x2 c0 s0 i) ∧ ¬ q_Cu_read_39s x2 (c0 + nI i) (f_Cu_read_39 x2 c0 s0 i) = 1) (h : mW1 P_Cu_read (39, [some (mR 2 0), none, some (mI x2), some (mI (c0 + nI N))], [], (f_Cu_read_39 x2 c0 s0 N), 0, 0) Post) : mW1 P_Cu_read (39, [some (mR 2 0), none, some (mI x2), some (mI c0)], [], s0, 0, 0) Post := by
  refine mW1_st (mW1_loop (fun i => (39, [some (mR 2 0), none, some (mI x2), some (mI (c0 + nI i))], [], (f_Cu_read_39 x2 c0 s0 i), 0, 0)) N (fun i hlt hn => ?_) h) (by rw [show nI 0 = 0 from rfl, Int32.add_zero] <;> rfl)
  refine lt_Cu_read_39 x2 _ _ (hb i hlt).1 (hb i hlt).2 (fun r hr => ?_)
  rw [Int32.add_assoc, nI_s]
  subst hr
  exact hn
set_option maxRecDepth 100000 in
set_option maxHeartbeats 4000000 in
theorem d_Cu_read  (σ : MSto) (hp : p_Cu_read σ) : mW1 P_Cu_read (0, [some (mR 2 0), some (mR 10 0), none, none], [], σ, 0, 0) (mF [31, 65] [mI (v_Cu_read σ)] (e_Cu_read σ) 0 0) := by
  refine mW1_eq (q_Cu_read_e  _) ?_
  unfold p_Cu_read at hp
  refine mTr_g hp.1 ?_
  have hp := hp.2
  refine mTr_if (fun h0 => ?_) (fun h0 => ?_)
  · skip
    exact mTr_e (by decide) (congrArg (fun z => [mI z]) (Eq.symm (if_pos h0))) (Eq.symm (if_pos h0)) (by decide) (by decide)
  · skip
    have hp := hp h0
    refine mTr_k (lp_Cu_read_39 (v_Cu_readPoints (e_Te_begin 60 σ)) 0 (sI (e_Te_finish 60 (e_Cu_readPoints (e_Te_begin 60 σ))) 2 0 1 (v_Cu_readPoints (e_Te_begin 60 σ))) (n_Cu_read_39 (v_Cu_readPoints (e_Te_begin 60 σ)) 0 (sI (e_Te_finish 60 (e_Cu_readPoints (e_Te_begin 60 σ))) 2 0 1 (v_Cu_readPoints (e_Te_begin 60 σ)))) hp.1 ?_)
    have hp := hp.2
    refine mW1_eq (q_Cu_read_39 _ _ _) ?_
    refine mTr_if (fun h1 => ?_) (fun h1 => ?_)
    · skip
      exact mTr_e (by decide) (congrArg (fun z => [mI z]) (Eq.symm (if_neg h0))) (Eq.symm (if_neg h0)) (by decide) (by decide)
    · skip
      have hp := hp h1
      exact hp.elim
theorem li_Cu_45 : mLink "ClothWithMan$Curve" 45 E_Cu_valueBy := ⟨tw_2_63, tw_1_4, ⟨by decide, by decide⟩, by decide +kernel, Or.inl tw_2_60, (fun h => by cases h), (fun _ => ⟨tw_2_62, tw_0_1, TX1, 4, rfl⟩), (fun h => by cases h)⟩

theorem li_Cu_38 : mLink "ClothWithMan$Curve" 38 E_Te_isRight := ⟨tw_2_59, tw_1_2, ⟨by decide, by decide⟩, by decide +kernel, Or.inl tw_2_56, (fun h => by cases h), (fun _ => ⟨tw_2_57, tw_2_58, TX9, 5, rfl⟩), (fun h => by cases h)⟩

theorem li_Cu_35 : mLink "ClothWithMan$Curve" 35 E_Te_finish := ⟨tw_2_55, tw_1_2, ⟨by decide, by decide⟩, by decide +kernel, Or.inl tw_2_52, (fun h => by cases h), (fun _ => ⟨tw_2_53, tw_2_54, TX9, 5, rfl⟩), (fun h => by cases h)⟩

theorem li_Cu_31 : mLink "ClothWithMan$Curve" 31 E_Cu_readPoints := ⟨tw_2_18, tw_1_4, ⟨by decide, by decide⟩, by decide +kernel, Or.inl tw_2_15, (fun h => by cases h), (fun _ => ⟨tw_2_17, tw_0_0, TX1, 4, rfl⟩), (fun h => by cases h)⟩

theorem li_Cu_25 : mLink "ClothWithMan$Curve" 25 E_Te_begin := ⟨tw_2_11, tw_1_2, ⟨by decide, by decide⟩, by decide +kernel, Or.inl tw_2_8, (fun h => by cases h), (fun _ => ⟨tw_2_9, tw_2_10, TX9, 5, rfl⟩), (fun h => by cases h)⟩

theorem tk_Cu_read : ∀ pc i nx tg, T_Cu_read pc = some (i, nx, tg) → mOkB prog_3_method_3_code pc i nx tg = true := code_ok (N := 66) (fun k h => by unfold T_Cu_read; rw [h]; rfl) (by decide +kernel)
theorem ok_Cu_read (l : Launch) : mPOK l "ClothWithMan$Curve" prog_3_method_3_code P_Cu_read := by
  refine ⟨tk_Cu_read, ?_, ?_, ?_, (fun pc i nx tg kd _ h => by cases h), ?_, ?_, fun pc en h => by cases h⟩
  · intro x ci f ty fin h
    exact mLook_all (Q := fun x v => mFOK "ClothWithMan$Curve" x v.1 v.2.1 v.2.2.1 v.2.2.2 ∧ (v.2.2.2 = true → pIni P_Cu_read = true → (Cond.fieldLink "ClothWithMan$Curve" x (((mCl[v.1]?).getD ("", fun _ => ("", "", "", false), 0)).2.1 v.2.1).1 (((mCl[v.1]?).getD ("", fun _ => ("", "", "", false), 0)).2.1 v.2.1).2.1 (((mCl[v.1]?).getD ("", fun _ => ("", "", "", false), 0)).2.1 v.2.1).2.2.1 ∈ lw_tbl ∧ (((mCl[v.1]?).getD ("", fun _ => ("", "", "", false), 0)).2.1 v.2.1).1 = "ClothWithMan$Curve"))) (fcC ⟨fo_Cu_9, fun h1 h2 => by cases h2⟩ (fcC ⟨fo_Cu_15, fun h1 h2 => by cases h1⟩ (fcC ⟨fo_Cu_42, fun h1 h2 => by cases h1⟩ fcN))) x (ci, f, ty, fin) h
  · intro x
    have hh := mLook_all (l := ([] : List (Nat × (Int32 ⊕ Int64)))) (Q := fun x (v : Int32 ⊕ Int64) => (∀ w, v = .inl w → Cond.constant "ClothWithMan$Curve" x w ∈ lw_tbl) ∧ (∀ w, v = .inr w → Cond.constantLong "ClothWithMan$Curve" x w ∈ lw_tbl)) fcN x
    exact ⟨fun w h => (hh _ h).1 w rfl, fun w h => (hh _ h).2 w rfl⟩
  · exact fun x en h => mLook_all (Q := fun x en => mLink "ClothWithMan$Curve" x en ∧ mCtr l en ∧ (en.1.1 = 2 → en.2.2.2.2.2.2 = none)) (fcC ⟨li_Cu_25, c_Te_begin l, (fun h => by cases h)⟩ (fcC ⟨li_Cu_31, c_Cu_readPoints l, (fun h => by cases h)⟩ (fcC ⟨li_Cu_35, c_Te_finish l, (fun h => by cases h)⟩ (fcC ⟨li_Cu_38, c_Te_isRight l, (fun h => by cases h)⟩ (fcC ⟨li_Cu_45, c_Cu_valueBy l, (fun h => by cases h)⟩ fcN))))) x en h
  · exact fun x kd h => mLook_all (Q := fun x kd => (kd = 95 ∧ Cond.fieldLink "ClothWithMan$Curve" x "ClothWithMan" "LIKENESSES" "[I" ∈ lw_tbl) ∨ (kd = 96 ∧ Cond.fieldLink "ClothWithMan$Curve" x "ClothWithMan" "APART_BOUNDS" "[I" ∈ lw_tbl)) fcN x kd h
  · exact fun x ci h => mLook_all (Q := fun x ci => ci ≠ 0 ∧ ∃ (C : String) (T : u_T) (N : Nat), mCl[ci]? = some (C, T, N) ∧ Cond.classLink "ClothWithMan$Curve" x C ∈ lw_tbl ∧ Cond.instantiable C N ∈ lw_tbl) fcN x ci h
set_option maxRecDepth 100000 in
theorem c_Cu_read (l : Launch) : mCtr l E_Cu_read := mCtr_of (P := P_Cu_read) (own := "ClothWithMan$Curve") mLay_ok rfl (by decide +kernel) rfl (ok_Cu_read l) (fun h => by cases h) (fun as σ pr rv σ' hF hpr hlv => by
  unfold E_Cu_read S_Cu_read at hF
  simp only [] at hF
  split at hF
  · cases hF
    obtain ⟨n, pcF, c1, s1, g1, g2, g3, g4⟩ := mF_inv (d_Cu_read σ (hpr _ rfl))
    exact ⟨Nat.le_of_ble_eq_true rfl, (fun v h => by cases h; trivial), n, pcF, c1, s1, g1, ⟨mEnd_of (i := .ireturn) (P := P_Cu_read) (rets := [31, 65]) rfl g2, rfl⟩, g3, g4⟩
  · cases hF
    exact (hpr _ rfl).elim)
/-! ClothWithMan$Cloth.withStuffs(IIII)I -/
noncomputable def t_Cl_withStuffs_29 (x2 : Int32) (x3 : Int32) (x5 : Int32) (c : Int32) (σ : MSto) (s : Int32) : Int32 := (if (v_AL_size 18 0 σ) ≤ c then s else (if (v_Pt_covers (v_AL_get 18 0 c σ) x2 x3 σ) = 0 then s else (v_C_mixOf s (v_Cu_at (gI σ 6 (v_AL_get 18 0 c σ) 4) σ) (((gI σ 6 (v_AL_get 18 0 c σ) 5) * (100 - x5)) / 100) σ)))
noncomputable def q_Cl_withStuffs_29s (x2 : Int32) (x3 : Int32) (x5 : Int32) (c : Int32) (σ : MSto) (s : Int32) : Nat := (if (v_AL_size 18 0 σ) ≤ c then 1 else 0)
def g_Cl_withStuffs_29 (x2 : Int32) (x3 : Int32) (x5 : Int32) (c : Int32) (σ : MSto) (s : Int32) : Prop := (¬ ((v_AL_size 18 0 σ) ≤ c) → ((p_AL_get 18 0 c σ) ∧ (¬ ((v_Pt_covers (v_AL_get 18 0 c σ) x2 x3 σ) = 0) → (p_Cu_at (gI σ 6 (v_AL_get 18 0 c σ) 4) σ))))
noncomputable def f_Cl_withStuffs_29 (x2 : Int32) (x3 : Int32) (x5 : Int32) (c0 : Int32) (σ : MSto) (s0 : Int32) (n : Nat) : Int32 := nfold (fun i s => t_Cl_withStuffs_29 x2 x3 x5 (c0 + nI i) σ s) s0 n
noncomputable def n_Cl_withStuffs_29 (x2 : Int32) (x3 : Int32) (x5 : Int32) (c0 : Int32) (σ : MSto) (s0 : Int32) : Nat := (gI σ 18 0 2).toNatClampNeg
noncomputable def v_Cl_withStuffs (a1 : Int32) (a2 : Int32) (a3 : Int32) (a4 : Int32) (σ : MSto) : Int32 := (if (v_C_isIn a4 0 3 σ) = 0 then (f_Cl_withStuffs_29 a2 a3 0 0 σ a1 (n_Cl_withStuffs_29 a2 a3 0 0 σ a1)) else (f_Cl_withStuffs_29 a2 a3 (gI σ 34 0 (Int32.toNatClampNeg a4)) 0 σ a1 (n_Cl_withStuffs_29 a2 a3 (gI σ 34 0 (Int32.toNatClampNeg a4)) 0 σ a1)))
def p_Cl_withStuffs (a1 : Int32) (a2 : Int32) (a3 : Int32) (a4 : Int32) (σ : MSto) : Prop := ((((v_C_isIn a4 0 3 σ) = 0) → ((∀ i, i < (n_Cl_withStuffs_29 a2 a3 0 0 σ a1) → g_Cl_withStuffs_29 a2 a3 0 (0 + nI i) σ (f_Cl_withStuffs_29 a2 a3 0 0 σ a1 i) ∧ ¬ q_Cl_withStuffs_29s a2 a3 0 (0 + nI i) σ (f_Cl_withStuffs_29 a2 a3 0 0 σ a1 i) = 1) ∧ (¬ ((v_AL_size 18 0 σ) ≤ (0 + nI (n_Cl_withStuffs_29 a2 a3 0 0 σ a1))) → False))) ∧ (¬ ((v_C_isIn a4 0 3 σ) = 0) → ((vp_in a4 4) ∧ ((∀ i, i < (n_Cl_withStuffs_29 a2 a3 (gI σ 34 0 (Int32.toNatClampNeg a4)) 0 σ a1) → g_Cl_withStuffs_29 a2 a3 (gI σ 34 0 (Int32.toNatClampNeg a4)) (0 + nI i) σ (f_Cl_withStuffs_29 a2 a3 (gI σ 34 0 (Int32.toNatClampNeg a4)) 0 σ a1 i) ∧ ¬ q_Cl_withStuffs_29s a2 a3 (gI σ 34 0 (Int32.toNatClampNeg a4)) (0 + nI i) σ (f_Cl_withStuffs_29 a2 a3 (gI σ 34 0 (Int32.toNatClampNeg a4)) 0 σ a1 i) = 1) ∧ (¬ ((v_AL_size 18 0 σ) ≤ (0 + nI (n_Cl_withStuffs_29 a2 a3 (gI σ 34 0 (Int32.toNatClampNeg a4)) 0 σ a1))) → False)))))
noncomputable def S_Cl_withStuffs : List MV → MSto → Option Prop × Option MV × MSto := fun as σ => match as with
  | [.inr (.inr (some (1, 0))), .inl a0, .inl a1, .inl a2, .inl a3] => (some (p_Cl_withStuffs a0 a1 a2 a3 σ), some (mI (v_Cl_withStuffs a0 a1 a2 a3 σ)), σ)
  | _ => (some False, none, σ)
noncomputable def E_Cl_withStuffs : MEnt := ((1, 4, 1), (6, 121, 0, 0), S_Cl_withStuffs, ((⟨"ClothWithMan$Cloth", "withStuffs", "(IIII)I"⟩ : MethodName), prog_2_method_3_code, 9, (some .int)))

def T_Cl_withStuffs : Nat → Option (Instr × Nat × List Nat) := fun k => bif Nat.blt k 107 then (bif Nat.blt k 53 then (bif Nat.blt k 24 then (bif Nat.blt k 11 then (bif Nat.blt k 4 then (bif Nat.blt k 2 then (bif Nat.beq k 0 then some (.iload 4, 2, []) else none) else (bif Nat.blt k 3 then (bif Nat.beq k 2 then some (.iconst 0, 3, []) else none) else (bif Nat.beq k 3 then some (.iconst 3, 4, []) else none))) else (bif Nat.blt k 7 then (bif Nat.beq k 4 then some (.invokestatic 61, 7, []) else none) else (bif Nat.blt k 10 then (bif Nat.beq k 7 then some (.ifCond .eq 13, 10, [20]) else none) else (bif Nat.beq k 10 then some (.aload_n 0, 11, []) else none)))) else (bif Nat.blt k 17 then (bif Nat.blt k 14 then (bif Nat.beq k 11 then some (.getfield 32, 14, []) else none) else (bif Nat.blt k 16 then (bif Nat.beq k 14 then some (.iload 4, 16, []) else none) else (bif Nat.beq k 16 then some (.iaload, 17, []) else none))) else (bif Nat.blt k 21 then (bif Nat.blt k 20 then (bif Nat.beq k 17 then some (.goto 4, 20, [21]) else none) else (bif Nat.beq k 20 then some (.iconst 0, 21, []) else none)) else (bif Nat.blt k 23 then (bif Nat.beq k 21 then some (.istore 5, 23, []) else none) else (bif Nat.beq k 23 then some (.iload_n 1, 24, []) else none))))) else (bif Nat.blt k 35 then (bif Nat.blt k 29 then (bif Nat.blt k 26 then (bif Nat.beq k 24 then some (.istore 6, 26, []) else none) else (bif Nat.blt k 27 then (bif Nat.beq k 26 then some (.iconst 0, 27, []) else none) else (bif Nat.beq k 27 then some (.istore 7, 29, []) else none))) else (bif Nat.blt k 31 then (bif Nat.beq k 29 then some (.iload 7, 31, []) else none) else (bif Nat.blt k 32 then (bif Nat.beq k 31 then some (.aload_n 0, 32, []) else none) else (bif Nat.beq k 32 then some (.getfield 29, 35, []) else none)))) else (bif Nat.blt k 42 then (bif Nat.blt k 38 then (bif Nat.beq k 35 then some (.invokevirtual 36, 38, []) else none) else (bif Nat.blt k 41 then (bif Nat.beq k 38 then some (.if_icmp .ge 66, 41, [104]) else none) else (bif Nat.beq k 41 then some (.aload_n 0, 42, []) else none))) else (bif Nat.blt k 47 then (bif Nat.blt k 45 then (bif Nat.beq k 42 then some (.getfield 29, 45, []) else none) else (bif Nat.beq k 45 then some (.iload 7, 47, []) else none)) else (bif Nat.blt k 50 then (bif Nat.beq k 47 then some (.invokevirtual 40, 50, []) else none) else (bif Nat.beq k 50 then some (.checkcast 44, 53, []) else none)))))) else (bif Nat.blt k 81 then (bif Nat.blt k 65 then (bif Nat.blt k 58 then (bif Nat.blt k 55 then (bif Nat.beq k 53 then some (.astore 8, 55, []) else none) else (bif Nat.blt k 57 then (bif Nat.beq k 55 then some (.aload 8, 57, []) else none) else (bif Nat.beq k 57 then some (.iload_n 2, 58, []) else none))) else (bif Nat.blt k 59 then (bif Nat.beq k 58 then some (.iload_n 3, 59, []) else none) else (bif Nat.blt k 62 then (bif Nat.beq k 59 then some (.invokevirtual 46, 62, []) else none) else (bif Nat.beq k 62 then some (.ifCond .eq 36, 65, [98]) else none)))) else (bif Nat.blt k 71 then (bif Nat.blt k 67 then (bif Nat.beq k 65 then some (.iload 6, 67, []) else none) else (bif Nat.blt k 68 then (bif Nat.beq k 67 then some (.aload_n 0, 68, []) else none) else (bif Nat.beq k 68 then some (.getfield 12, 71, []) else none))) else (bif Nat.blt k 76 then (bif Nat.blt k 73 then (bif Nat.beq k 71 then some (.aload 8, 73, []) else none) else (bif Nat.beq k 73 then some (.getfield 50, 76, []) else none)) else (bif Nat.blt k 79 then (bif Nat.beq k 76 then some (.invokevirtual 53, 79, []) else none) else (bif Nat.beq k 79 then some (.aload 8, 81, []) else none))))) else (bif Nat.blt k 92 then (bif Nat.blt k 88 then (bif Nat.blt k 84 then (bif Nat.beq k 81 then some (.getfield 65, 84, []) else none) else (bif Nat.blt k 86 then (bif Nat.beq k 84 then some (.bipush 100, 86, []) else none) else (bif Nat.beq k 86 then some (.iload 5, 88, []) else none))) else (bif Nat.blt k 89 then (bif Nat.beq k 88 then some (.isub, 89, []) else none) else (bif Nat.blt k 90 then (bif Nat.beq k 89 then some (.imul, 90, []) else none) else (bif Nat.beq k 90 then some (.bipush 100, 92, []) else none)))) else (bif Nat.blt k 98 then (bif Nat.blt k 93 then (bif Nat.beq k 92 then some (.idiv, 93, []) else none) else (bif Nat.blt k 96 then (bif Nat.beq k 93 then some (.invokestatic 68, 96, []) else none) else (bif Nat.beq k 96 then some (.istore 6, 98, []) else none))) else (bif Nat.blt k 104 then (bif Nat.blt k 101 then (bif Nat.beq k 98 then some (.iinc 7 1, 101, []) else none) else (bif Nat.beq k 101 then some (.goto (-72), 104, [29]) else none)) else (bif Nat.blt k 106 then (bif Nat.beq k 104 then some (.iload 6, 106, []) else none) else (bif Nat.beq k 106 then some (.ireturn, 107, []) else none))))))) else none
noncomputable def P_Cl_withStuffs : MP := (T_Cl_withStuffs, (fun k => mLook k [(12, (1, 0, (.object "ClothWithMan$Curve"), true)), (29, (1, 3, (.object "java/util/ArrayList"), true)), (32, (1, 4, (.array .int), true)), (50, (6, 4, .int, true)), (65, (6, 5, .int, true))]), (fun k => mLook k []), (fun k => mLook k [(36, E_AL_size), (40, E_AL_get), (46, E_Pt_covers), (53, E_Cu_at), (61, E_C_isIn), (68, E_C_mixOf)]), (fun k => mLook k []), (fun k => mLook k []), (fun k => mLook k [(44, 6)]), (fun k => mLook k [(29, [true, false, true, true, false, true, true, true, false])]), (fun k => [106].any (Nat.beq k)), (6, 121, 0, 0), false, (fun _ => none))
set_option maxRecDepth 100000 in
set_option maxHeartbeats 4000000 in
theorem q_Cl_withStuffs_e (a1 : Int32) (a2 : Int32) (a3 : Int32) (a4 : Int32) (σ : MSto) (n : Nat) : mexe KT P_Cl_withStuffs (n + 1) (0, [some (mR 1 0), some (mI a1), some (mI a2), some (mI a3), some (mI a4), none, none, none, none], [], σ, 0, 0) = mIf ((v_C_isIn a4 0 3 σ) = 0) (mexe KT P_Cl_withStuffs n (29, [some (mR 1 0), none, some (mI a2), some (mI a3), none, some (mI 0), some (mI a1), some (mI 0), none], [], σ, 0, 0)) (mG (vp_in a4 4) (mexe KT P_Cl_withStuffs n (29, [some (mR 1 0), none, some (mI a2), some (mI a3), none, some (mI (gI σ 34 0 (Int32.toNatClampNeg a4))), some (mI a1), some (mI 0), none], [], σ, 0, 0))) := rfl
set_option maxRecDepth 100000 in
set_option maxHeartbeats 4000000 in
theorem q_Cl_withStuffs_29 (x2 : Int32) (x3 : Int32) (x5 : Int32) (x6 : Int32) (x7 : Int32) (σ : MSto) (n : Nat) : mexe KT P_Cl_withStuffs (n + 1) (29, [some (mR 1 0), none, some (mI x2), some (mI x3), none, some (mI x5), some (mI x6), some (mI x7), none], [], σ, 0, 0) = mIf ((v_AL_size 18 0 σ) ≤ x7) (some (106, [], [(mI x6)], σ, 0, 0)) (mG (p_AL_get 18 0 x7 σ) (mIf ((v_Pt_covers (v_AL_get 18 0 x7 σ) x2 x3 σ) = 0) (mexe KT P_Cl_withStuffs n (29, [some (mR 1 0), none, some (mI x2), some (mI x3), none, some (mI x5), some (mI x6), some (mI (x7 + 1)), none], [], σ, 0, 0)) (mG (p_Cu_at (gI σ 6 (v_AL_get 18 0 x7 σ) 4) σ) (mG (¬ (100 : Int32) = 0) (mexe KT P_Cl_withStuffs n (29, [some (mR 1 0), none, some (mI x2), some (mI x3), none, some (mI x5), some (mI (v_C_mixOf x6 (v_Cu_at (gI σ 6 (v_AL_get 18 0 x7 σ) 4) σ) (((gI σ 6 (v_AL_get 18 0 x7 σ) 5) * (100 - x5)) / 100) σ)), some (mI (x7 + 1)), none], [], σ, 0, 0)))))) := rfl
set_option maxRecDepth 100000 in
theorem lt_Cl_withStuffs_29 {Post : MST → Prop} (x2 : Int32) (x3 : Int32) (x5 : Int32) (c : Int32) (σ : MSto) (s : Int32) (hp : g_Cl_withStuffs_29 x2 x3 x5 c σ s) (hq : ¬ q_Cl_withStuffs_29s x2 x3 x5 c σ s = 1) (hn : ∀ r, t_Cl_withStuffs_29 x2 x3 x5 c σ s = r → mW1 P_Cl_withStuffs (29, [some (mR 1 0), none, some (mI x2), some (mI x3), none, some (mI x5), some (mI r), some (mI (c + 1)), none], [], σ, 0, 0) Post) : mW1 P_Cl_withStuffs (29, [some (mR 1 0), none, some (mI x2), some (mI x3), none, some (mI x5), some (mI s), some (mI c), none], [], σ, 0, 0) Post := by
  unfold g_Cl_withStuffs_29 at hp
  refine mW1_eq (q_Cl_withStuffs_29 _ _ _ _ _ _) ?_
  refine mTr_if (fun h0 => ?_) (fun h0 => ?_)
  · skip
    exact absurd (if_pos h0) hq
  · skip
    have hp := hp h0
    refine mTr_g hp.1 ?_
    have hp := hp.2
    refine mTr_if (fun h1 => ?_) (fun h1 => ?_)
    · skip
      exact mTr_k (hn s ((if_neg h0).trans (if_pos h1)))
    · skip
      have hp := hp h1
      refine mTr_g hp ?_
      refine mTr_g (by decide) ?_
      exact mTr_k (hn (v_C_mixOf s (v_Cu_at (gI σ 6 (v_AL_get 18 0 c σ) 4) σ) (((gI σ 6 (v_AL_get 18 0 c σ) 5) * (100 - x5)) / 100) σ) ((if_neg h0).trans (if_neg h1)))
theorem lp_Cl_withStuffs_29 {Post : MST → Prop} (x2 : Int32) (x3 : Int32) (x5 : Int32) (c0 : Int32) (σ : MSto) (s0 : Int32) (N : Nat) (hb : ∀ i, i < N → g_Cl_withStuffs_29 x2 x3 x5 (c0 + nI i) σ (f_Cl_withStuffs_29 x2 x3 x5 c0 σ s0 i) ∧ ¬ q_Cl_withStuffs_29s x2 x3 x5 (c0 + nI i) σ (f_Cl_withStuffs_29 x2 x3 x5 c0 σ s0 i) = 1) (h : mW1 P_Cl_withStuffs (29, [some (mR 1 0), none, some (mI x2), some (mI x3), none, some (mI x5), some (mI (f_Cl_withStuffs_29 x2 x3 x5 c0 σ s0 N)), some (mI (c0 + nI N)), none], [], σ, 0, 0) Post) : mW1 P_Cl_withStuffs (29, [some (mR 1 0), none, some (mI x2), some (mI x3), none, some (mI x5), some (mI s0), some (mI c0), none], [], σ, 0, 0) Post := by
  refine mW1_st (mW1_loop (fun i => (29, [some (mR 1 0), none, some (mI x2), some (mI x3), none, some (mI x5), some (mI (f_Cl_withStuffs_29 x2 x3 x5 c0 σ s0 i)), some (mI (c0 + nI i)), none], [], σ, 0, 0)) N (fun i hlt hn => ?_) h) (by rw [show nI 0 = 0 from rfl, Int32.add_zero] <;> rfl)
  refine lt_Cl_withStuffs_29 x2 x3 x5 _ σ _ (hb i hlt).1 (hb i hlt).2 (fun r hr => ?_)
  rw [Int32.add_assoc, nI_s]
  subst hr
  exact hn
set_option maxRecDepth 100000 in
set_option maxHeartbeats 4000000 in
theorem d_Cl_withStuffs (a1 : Int32) (a2 : Int32) (a3 : Int32) (a4 : Int32) (σ : MSto) (hp : p_Cl_withStuffs a1 a2 a3 a4 σ) : mW1 P_Cl_withStuffs (0, [some (mR 1 0), some (mI a1), some (mI a2), some (mI a3), some (mI a4), none, none, none, none], [], σ, 0, 0) (mF [106] [mI (v_Cl_withStuffs a1 a2 a3 a4 σ)] σ 0 0) := by
  refine mW1_eq (q_Cl_withStuffs_e _ _ _ _ _) ?_
  unfold p_Cl_withStuffs at hp
  refine mTr_if (fun h0 => ?_) (fun h0 => ?_)
  · skip
    have hp := hp.1 h0
    refine mTr_k (lp_Cl_withStuffs_29 a2 a3 0 0 σ a1 (n_Cl_withStuffs_29 a2 a3 0 0 σ a1) hp.1 ?_)
    have hp := hp.2
    refine mW1_eq (q_Cl_withStuffs_29 _ _ _ _ _ _) ?_
    refine mTr_if (fun h1 => ?_) (fun h1 => ?_)
    · skip
      exact mTr_e (by decide) (congrArg (fun z => [mI z]) (Eq.symm (if_pos h0))) rfl (by decide) (by decide)
    · skip
      have hp := hp h1
      exact hp.elim
  · skip
    have hp := hp.2 h0
    refine mTr_g hp.1 ?_
    have hp := hp.2
    refine mTr_k (lp_Cl_withStuffs_29 a2 a3 (gI σ 34 0 (Int32.toNatClampNeg a4)) 0 σ a1 (n_Cl_withStuffs_29 a2 a3 (gI σ 34 0 (Int32.toNatClampNeg a4)) 0 σ a1) hp.1 ?_)
    have hp := hp.2
    refine mW1_eq (q_Cl_withStuffs_29 _ _ _ _ _ _) ?_
    refine mTr_if (fun h1 => ?_) (fun h1 => ?_)
    · skip
      exact mTr_e (by decide) (congrArg (fun z => [mI z]) (Eq.symm (if_neg h0))) rfl (by decide) (by decide)
    · skip
      have hp := hp h1
      exact hp.elim
theorem li_Cl_68 : mLink "ClothWithMan$Cloth" 68 E_C_mixOf := ⟨tw_3_1, tw_1_1, ⟨by decide, by decide⟩, by decide +kernel, Or.inr ⟨_, tw_2_239⟩, (fun _ => tw_3_0), (fun h => by cases h), (fun h => by cases h)⟩

theorem li_Cl_61 : mLink "ClothWithMan$Cloth" 61 E_C_isIn := ⟨tw_2_33, tw_1_1, ⟨by decide, by decide⟩, by decide +kernel, Or.inr ⟨_, tw_2_238⟩, (fun _ => tw_2_32), (fun h => by cases h), (fun h => by cases h)⟩

theorem li_Cl_53 : mLink "ClothWithMan$Cloth" 53 E_Cu_at := ⟨tw_2_75, tw_1_4, ⟨by decide, by decide⟩, by decide +kernel, Or.inl tw_2_233, (fun h => by cases h), (fun _ => ⟨tw_2_73, tw_2_74, TX1, 4, rfl⟩), (fun h => by cases h)⟩

theorem li_Cl_46 : mLink "ClothWithMan$Cloth" 46 E_Pt_covers := ⟨tw_2_232, tw_1_11, ⟨by decide, by decide⟩, by decide +kernel, Or.inl tw_2_229, (fun h => by cases h), (fun _ => ⟨tw_2_230, tw_2_231, TX5, 6, rfl⟩), (fun h => by cases h)⟩

theorem li_Cl_40 : mLink "ClothWithMan$Cloth" 40 E_AL_get := ⟨tw_2_217, tw_1_7, ⟨by decide, by decide⟩, by decide +kernel, Or.inl tw_2_214, (fun h => by cases h), (fun _ => ⟨tw_2_215, tw_2_216, TJx4a65c, 3, rfl⟩), (fun h => by cases h)⟩

theorem li_Cl_36 : mLink "ClothWithMan$Cloth" 36 E_AL_size := ⟨tw_2_90, tw_1_7, ⟨by decide, by decide⟩, by decide +kernel, Or.inl tw_2_213, (fun h => by cases h), (fun _ => ⟨tw_2_88, tw_2_89, TJx4a65c, 3, rfl⟩), (fun h => by cases h)⟩

theorem tk_Cl_withStuffs : ∀ pc i nx tg, T_Cl_withStuffs pc = some (i, nx, tg) → mOkB prog_2_method_3_code pc i nx tg = true := code_ok (N := 107) (fun k h => by unfold T_Cl_withStuffs; rw [h]; rfl) (by decide +kernel)
theorem ok_Cl_withStuffs (l : Launch) : mPOK l "ClothWithMan$Cloth" prog_2_method_3_code P_Cl_withStuffs := by
  refine ⟨tk_Cl_withStuffs, ?_, ?_, ?_, (fun pc i nx tg kd _ h => by cases h), ?_, ?_, fun pc en h => by cases h⟩
  · intro x ci f ty fin h
    exact mLook_all (Q := fun x v => mFOK "ClothWithMan$Cloth" x v.1 v.2.1 v.2.2.1 v.2.2.2 ∧ (v.2.2.2 = true → pIni P_Cl_withStuffs = true → (Cond.fieldLink "ClothWithMan$Cloth" x (((mCl[v.1]?).getD ("", fun _ => ("", "", "", false), 0)).2.1 v.2.1).1 (((mCl[v.1]?).getD ("", fun _ => ("", "", "", false), 0)).2.1 v.2.1).2.1 (((mCl[v.1]?).getD ("", fun _ => ("", "", "", false), 0)).2.1 v.2.1).2.2.1 ∈ lw_tbl ∧ (((mCl[v.1]?).getD ("", fun _ => ("", "", "", false), 0)).2.1 v.2.1).1 = "ClothWithMan$Cloth"))) (fcC ⟨fo_Cl_12, fun h1 h2 => by cases h2⟩ (fcC ⟨fo_Cl_29, fun h1 h2 => by cases h2⟩ (fcC ⟨fo_Cl_32, fun h1 h2 => by cases h2⟩ (fcC ⟨fo_Cl_50, fun h1 h2 => by cases h2⟩ (fcC ⟨fo_Cl_65, fun h1 h2 => by cases h2⟩ fcN))))) x (ci, f, ty, fin) h
  · intro x
    have hh := mLook_all (l := ([] : List (Nat × (Int32 ⊕ Int64)))) (Q := fun x (v : Int32 ⊕ Int64) => (∀ w, v = .inl w → Cond.constant "ClothWithMan$Cloth" x w ∈ lw_tbl) ∧ (∀ w, v = .inr w → Cond.constantLong "ClothWithMan$Cloth" x w ∈ lw_tbl)) fcN x
    exact ⟨fun w h => (hh _ h).1 w rfl, fun w h => (hh _ h).2 w rfl⟩
  · exact fun x en h => mLook_all (Q := fun x en => mLink "ClothWithMan$Cloth" x en ∧ mCtr l en ∧ (en.1.1 = 2 → en.2.2.2.2.2.2 = none)) (fcC ⟨li_Cl_36, c_AL_size l, (fun h => by cases h)⟩ (fcC ⟨li_Cl_40, c_AL_get l, (fun h => by cases h)⟩ (fcC ⟨li_Cl_46, c_Pt_covers l, (fun h => by cases h)⟩ (fcC ⟨li_Cl_53, c_Cu_at l, (fun h => by cases h)⟩ (fcC ⟨li_Cl_61, c_C_isIn l, (fun h => by cases h)⟩ (fcC ⟨li_Cl_68, c_C_mixOf l, (fun h => by cases h)⟩ fcN)))))) x en h
  · exact fun x kd h => mLook_all (Q := fun x kd => (kd = 95 ∧ Cond.fieldLink "ClothWithMan$Cloth" x "ClothWithMan" "LIKENESSES" "[I" ∈ lw_tbl) ∨ (kd = 96 ∧ Cond.fieldLink "ClothWithMan$Cloth" x "ClothWithMan" "APART_BOUNDS" "[I" ∈ lw_tbl)) fcN x kd h
  · exact fun x ci h => mLook_all (Q := fun x ci => ci ≠ 0 ∧ ∃ (C : String) (T : u_T) (N : Nat), mCl[ci]? = some (C, T, N) ∧ Cond.classLink "ClothWithMan$Cloth" x C ∈ lw_tbl ∧ Cond.instantiable C N ∈ lw_tbl) (fcC ⟨by decide, "ClothWithMan$Patch", TX5, 6, rfl, tw_2_228, tw_2_92⟩ fcN) x ci h
set_option maxRecDepth 100000 in
theorem c_Cl_withStuffs (l : Launch) : mCtr l E_Cl_withStuffs := mCtr_of (P := P_Cl_withStuffs) (own := "ClothWithMan$Cloth") mLay_ok rfl (by decide +kernel) rfl (ok_Cl_withStuffs l) (fun h => by cases h) (fun as σ pr rv σ' hF hpr hlv => by
  unfold E_Cl_withStuffs S_Cl_withStuffs at hF
  simp only [] at hF
  split at hF
  · cases hF
    obtain ⟨n, pcF, c1, s1, g1, g2, g3, g4⟩ := mF_inv (d_Cl_withStuffs _ _ _ _ σ (hpr _ rfl))
    exact ⟨Nat.le_of_ble_eq_true rfl, (fun v h => by cases h; trivial), n, pcF, c1, s1, g1, ⟨mEnd_of (i := .ireturn) (P := P_Cl_withStuffs) (rets := [106]) rfl g2, rfl⟩, g3, g4⟩
  · cases hF
    exact (hpr _ rfl).elim)
/-! ClothWithMan$Cloth.threadAt(III)I -/
noncomputable def t_Cl_threadAt_9 (x1 : Int32) (x2 : Int32) (x3 : Int32) (c : Int32) (σ : MSto) (s : Int32) : Int32 := (if (v_AL_size 17 0 σ) ≤ c then s else (if (v_Pt_covers (v_AL_get 17 0 c σ) x1 x2 σ) = 0 then s else (gI σ 6 (v_AL_get 17 0 c σ) 4)))
noncomputable def q_Cl_threadAt_9s (x1 : Int32) (x2 : Int32) (x3 : Int32) (c : Int32) (σ : MSto) (s : Int32) : Nat := (if (v_AL_size 17 0 σ) ≤ c then 1 else 0)
def g_Cl_threadAt_9 (x1 : Int32) (x2 : Int32) (x3 : Int32) (c : Int32) (σ : MSto) (s : Int32) : Prop := (¬ ((v_AL_size 17 0 σ) ≤ c) → ((p_AL_get 17 0 c σ) ∧ (¬ ((v_Pt_covers (v_AL_get 17 0 c σ) x1 x2 σ) = 0) → (p_AL_get 17 0 c σ))))
noncomputable def f_Cl_threadAt_9 (x1 : Int32) (x2 : Int32) (x3 : Int32) (c0 : Int32) (σ : MSto) (s0 : Int32) (n : Nat) : Int32 := nfold (fun i s => t_Cl_threadAt_9 x1 x2 x3 (c0 + nI i) σ s) s0 n
noncomputable def n_Cl_threadAt_9 (x1 : Int32) (x2 : Int32) (x3 : Int32) (c0 : Int32) (σ : MSto) (s0 : Int32) : Nat := (gI σ 17 0 2).toNatClampNeg
noncomputable def v_Cl_threadAt (a1 : Int32) (a2 : Int32) (a3 : Int32) (σ : MSto) : Int32 := (v_Cl_withStuffs (v_Cu_at (f_Cl_threadAt_9 a1 a2 a3 0 σ (gI σ 1 0 1) (n_Cl_threadAt_9 a1 a2 a3 0 σ (gI σ 1 0 1))) σ) a1 a2 a3 σ)
def p_Cl_threadAt (a1 : Int32) (a2 : Int32) (a3 : Int32) (σ : MSto) : Prop := ((∀ i, i < (n_Cl_threadAt_9 a1 a2 a3 0 σ (gI σ 1 0 1)) → g_Cl_threadAt_9 a1 a2 a3 (0 + nI i) σ (f_Cl_threadAt_9 a1 a2 a3 0 σ (gI σ 1 0 1) i) ∧ ¬ q_Cl_threadAt_9s a1 a2 a3 (0 + nI i) σ (f_Cl_threadAt_9 a1 a2 a3 0 σ (gI σ 1 0 1) i) = 1) ∧ ((((v_AL_size 17 0 σ) ≤ (0 + nI (n_Cl_threadAt_9 a1 a2 a3 0 σ (gI σ 1 0 1)))) → ((p_Cu_at (f_Cl_threadAt_9 a1 a2 a3 0 σ (gI σ 1 0 1) (n_Cl_threadAt_9 a1 a2 a3 0 σ (gI σ 1 0 1))) σ) ∧ (p_Cl_withStuffs (v_Cu_at (f_Cl_threadAt_9 a1 a2 a3 0 σ (gI σ 1 0 1) (n_Cl_threadAt_9 a1 a2 a3 0 σ (gI σ 1 0 1))) σ) a1 a2 a3 σ))) ∧ (¬ ((v_AL_size 17 0 σ) ≤ (0 + nI (n_Cl_threadAt_9 a1 a2 a3 0 σ (gI σ 1 0 1)))) → False)))
noncomputable def S_Cl_threadAt : List MV → MSto → Option Prop × Option MV × MSto := fun as σ => match as with
  | [.inr (.inr (some (1, 0))), .inl a0, .inl a1, .inl a2] => (some (p_Cl_threadAt a0 a1 a2 σ), some (mI (v_Cl_threadAt a0 a1 a2 σ)), σ)
  | _ => (some False, none, σ)
noncomputable def E_Cl_threadAt : MEnt := ((1, 3, 1), (7, 149, 0, 0), S_Cl_threadAt, ((⟨"ClothWithMan$Cloth", "threadAt", "(III)I"⟩ : MethodName), prog_2_method_2_code, 6, (some .int)))

def T_Cl_threadAt : Nat → Option (Instr × Nat × List Nat) := fun k => bif Nat.blt k 81 then (bif Nat.blt k 41 then (bif Nat.blt k 18 then (bif Nat.blt k 7 then (bif Nat.blt k 4 then (bif Nat.blt k 1 then (bif Nat.beq k 0 then some (.aload_n 0, 1, []) else none) else (bif Nat.beq k 1 then some (.getfield 18, 4, []) else none)) else (bif Nat.blt k 6 then (bif Nat.beq k 4 then some (.istore 4, 6, []) else none) else (bif Nat.beq k 6 then some (.iconst 0, 7, []) else none))) else (bif Nat.blt k 11 then (bif Nat.blt k 9 then (bif Nat.beq k 7 then some (.istore 5, 9, []) else none) else (bif Nat.beq k 9 then some (.iload 5, 11, []) else none)) else (bif Nat.blt k 12 then (bif Nat.beq k 11 then some (.aload_n 0, 12, []) else none) else (bif Nat.blt k 15 then (bif Nat.beq k 12 then some (.getfield 25, 15, []) else none) else (bif Nat.beq k 15 then some (.invokevirtual 36, 18, []) else none))))) else (bif Nat.blt k 30 then (bif Nat.blt k 22 then (bif Nat.blt k 21 then (bif Nat.beq k 18 then some (.if_icmp .ge 46, 21, [64]) else none) else (bif Nat.beq k 21 then some (.aload_n 0, 22, []) else none)) else (bif Nat.blt k 25 then (bif Nat.beq k 22 then some (.getfield 25, 25, []) else none) else (bif Nat.blt k 27 then (bif Nat.beq k 25 then some (.iload 5, 27, []) else none) else (bif Nat.beq k 27 then some (.invokevirtual 40, 30, []) else none)))) else (bif Nat.blt k 34 then (bif Nat.blt k 33 then (bif Nat.beq k 30 then some (.checkcast 44, 33, []) else none) else (bif Nat.beq k 33 then some (.iload_n 1, 34, []) else none)) else (bif Nat.blt k 35 then (bif Nat.beq k 34 then some (.iload_n 2, 35, []) else none) else (bif Nat.blt k 38 then (bif Nat.beq k 35 then some (.invokevirtual 46, 38, []) else none) else (bif Nat.beq k 38 then some (.ifCond .eq 20, 41, [58]) else none)))))) else (bif Nat.blt k 64 then (bif Nat.blt k 50 then (bif Nat.blt k 45 then (bif Nat.blt k 42 then (bif Nat.beq k 41 then some (.aload_n 0, 42, []) else none) else (bif Nat.beq k 42 then some (.getfield 25, 45, []) else none)) else (bif Nat.blt k 47 then (bif Nat.beq k 45 then some (.iload 5, 47, []) else none) else (bif Nat.beq k 47 then some (.invokevirtual 40, 50, []) else none))) else (bif Nat.blt k 56 then (bif Nat.blt k 53 then (bif Nat.beq k 50 then some (.checkcast 44, 53, []) else none) else (bif Nat.beq k 53 then some (.getfield 50, 56, []) else none)) else (bif Nat.blt k 58 then (bif Nat.beq k 56 then some (.istore 4, 58, []) else none) else (bif Nat.blt k 61 then (bif Nat.beq k 58 then some (.iinc 5 1, 61, []) else none) else (bif Nat.beq k 61 then some (.goto (-52), 64, [9]) else none))))) else (bif Nat.blt k 74 then (bif Nat.blt k 66 then (bif Nat.blt k 65 then (bif Nat.beq k 64 then some (.aload_n 0, 65, []) else none) else (bif Nat.beq k 65 then some (.aload_n 0, 66, []) else none)) else (bif Nat.blt k 69 then (bif Nat.beq k 66 then some (.getfield 12, 69, []) else none) else (bif Nat.blt k 71 then (bif Nat.beq k 69 then some (.iload 4, 71, []) else none) else (bif Nat.beq k 71 then some (.invokevirtual 53, 74, []) else none)))) else (bif Nat.blt k 76 then (bif Nat.blt k 75 then (bif Nat.beq k 74 then some (.iload_n 1, 75, []) else none) else (bif Nat.beq k 75 then some (.iload_n 2, 76, []) else none)) else (bif Nat.blt k 77 then (bif Nat.beq k 76 then some (.iload_n 3, 77, []) else none) else (bif Nat.blt k 80 then (bif Nat.beq k 77 then some (.invokevirtual 57, 80, []) else none) else (bif Nat.beq k 80 then some (.ireturn, 81, []) else none))))))) else none
noncomputable def P_Cl_threadAt : MP := (T_Cl_threadAt, (fun k => mLook k [(12, (1, 0, (.object "ClothWithMan$Curve"), true)), (18, (1, 1, .int, false)), (25, (1, 2, (.object "java/util/ArrayList"), true)), (50, (6, 4, .int, true))]), (fun k => mLook k []), (fun k => mLook k [(36, E_AL_size), (40, E_AL_get), (46, E_Pt_covers), (53, E_Cu_at), (57, E_Cl_withStuffs)]), (fun k => mLook k []), (fun k => mLook k []), (fun k => mLook k [(44, 6)]), (fun k => mLook k [(9, [true, true, true, true, true, true])]), (fun k => [80].any (Nat.beq k)), (7, 149, 0, 0), false, (fun _ => none))
set_option maxRecDepth 100000 in
set_option maxHeartbeats 4000000 in
theorem q_Cl_threadAt_e (a1 : Int32) (a2 : Int32) (a3 : Int32) (σ : MSto) (n : Nat) : mexe KT P_Cl_threadAt (n + 1) (0, [some (mR 1 0), some (mI a1), some (mI a2), some (mI a3), none, none], [], σ, 0, 0) = mexe KT P_Cl_threadAt n (9, [some (mR 1 0), some (mI a1), some (mI a2), some (mI a3), some (mI (gI σ 1 0 1)), some (mI 0)], [], σ, 0, 0) := rfl
set_option maxRecDepth 100000 in
set_option maxHeartbeats 4000000 in
theorem q_Cl_threadAt_9 (x1 : Int32) (x2 : Int32) (x3 : Int32) (x4 : Int32) (x5 : Int32) (σ : MSto) (n : Nat) : mexe KT P_Cl_threadAt (n + 1) (9, [some (mR 1 0), some (mI x1), some (mI x2), some (mI x3), some (mI x4), some (mI x5)], [], σ, 0, 0) = mIf ((v_AL_size 17 0 σ) ≤ x5) (mG (p_Cu_at x4 σ) (mG (p_Cl_withStuffs (v_Cu_at x4 σ) x1 x2 x3 σ) (some (80, [], [(mI (v_Cl_withStuffs (v_Cu_at x4 σ) x1 x2 x3 σ))], σ, 0, 0)))) (mG (p_AL_get 17 0 x5 σ) (mIf ((v_Pt_covers (v_AL_get 17 0 x5 σ) x1 x2 σ) = 0) (mexe KT P_Cl_threadAt n (9, [some (mR 1 0), some (mI x1), some (mI x2), some (mI x3), some (mI x4), some (mI (x5 + 1))], [], σ, 0, 0)) (mG (p_AL_get 17 0 x5 σ) (mexe KT P_Cl_threadAt n (9, [some (mR 1 0), some (mI x1), some (mI x2), some (mI x3), some (mI (gI σ 6 (v_AL_get 17 0 x5 σ) 4)), some (mI (x5 + 1))], [], σ, 0, 0))))) := rfl
set_option maxRecDepth 100000 in
theorem lt_Cl_threadAt_9 {Post : MST → Prop} (x1 : Int32) (x2 : Int32) (x3 : Int32) (c : Int32) (σ : MSto) (s : Int32) (hp : g_Cl_threadAt_9 x1 x2 x3 c σ s) (hq : ¬ q_Cl_threadAt_9s x1 x2 x3 c σ s = 1) (hn : ∀ r, t_Cl_threadAt_9 x1 x2 x3 c σ s = r → mW1 P_Cl_threadAt (9, [some (mR 1 0), some (mI x1), some (mI x2), some (mI x3), some (mI r), some (mI (c + 1))], [], σ, 0, 0) Post) : mW1 P_Cl_threadAt (9, [some (mR 1 0), some (mI x1), some (mI x2), some (mI x3), some (mI s), some (mI c)], [], σ, 0, 0) Post := by
  unfold g_Cl_threadAt_9 at hp
  refine mW1_eq (q_Cl_threadAt_9 _ _ _ _ _ _) ?_
  refine mTr_if (fun h0 => ?_) (fun h0 => ?_)
  · skip
    exact absurd (if_pos h0) hq
  · skip
    have hp := hp h0
    refine mTr_g hp.1 ?_
    have hp := hp.2
    refine mTr_if (fun h1 => ?_) (fun h1 => ?_)
    · skip
      exact mTr_k (hn s ((if_neg h0).trans (if_pos h1)))
    · skip
      have hp := hp h1
      refine mTr_g hp ?_
      exact mTr_k (hn (gI σ 6 (v_AL_get 17 0 c σ) 4) ((if_neg h0).trans (if_neg h1)))
theorem lp_Cl_threadAt_9 {Post : MST → Prop} (x1 : Int32) (x2 : Int32) (x3 : Int32) (c0 : Int32) (σ : MSto) (s0 : Int32) (N : Nat) (hb : ∀ i, i < N → g_Cl_threadAt_9 x1 x2 x3 (c0 + nI i) σ (f_Cl_threadAt_9 x1 x2 x3 c0 σ s0 i) ∧ ¬ q_Cl_threadAt_9s x1 x2 x3 (c0 + nI i) σ (f_Cl_threadAt_9 x1 x2 x3 c0 σ s0 i) = 1) (h : mW1 P_Cl_threadAt (9, [some (mR 1 0), some (mI x1), some (mI x2), some (mI x3), some (mI (f_Cl_threadAt_9 x1 x2 x3 c0 σ s0 N)), some (mI (c0 + nI N))], [], σ, 0, 0) Post) : mW1 P_Cl_threadAt (9, [some (mR 1 0), some (mI x1), some (mI x2), some (mI x3), some (mI s0), some (mI c0)], [], σ, 0, 0) Post := by
  refine mW1_st (mW1_loop (fun i => (9, [some (mR 1 0), some (mI x1), some (mI x2), some (mI x3), some (mI (f_Cl_threadAt_9 x1 x2 x3 c0 σ s0 i)), some (mI (c0 + nI i))], [], σ, 0, 0)) N (fun i hlt hn => ?_) h) (by rw [show nI 0 = 0 from rfl, Int32.add_zero] <;> rfl)
  refine lt_Cl_threadAt_9 x1 x2 x3 _ σ _ (hb i hlt).1 (hb i hlt).2 (fun r hr => ?_)
  rw [Int32.add_assoc, nI_s]
  subst hr
  exact hn
set_option maxRecDepth 100000 in
set_option maxHeartbeats 4000000 in
theorem d_Cl_threadAt (a1 : Int32) (a2 : Int32) (a3 : Int32) (σ : MSto) (hp : p_Cl_threadAt a1 a2 a3 σ) : mW1 P_Cl_threadAt (0, [some (mR 1 0), some (mI a1), some (mI a2), some (mI a3), none, none], [], σ, 0, 0) (mF [80] [mI (v_Cl_threadAt a1 a2 a3 σ)] σ 0 0) := by
  refine mW1_eq (q_Cl_threadAt_e _ _ _ _) ?_
  unfold p_Cl_threadAt at hp
  refine mTr_k (lp_Cl_threadAt_9 a1 a2 a3 0 σ (gI σ 1 0 1) (n_Cl_threadAt_9 a1 a2 a3 0 σ (gI σ 1 0 1)) hp.1 ?_)
  have hp := hp.2
  refine mW1_eq (q_Cl_threadAt_9 _ _ _ _ _ _) ?_
  refine mTr_if (fun h0 => ?_) (fun h0 => ?_)
  · skip
    have hp := hp.1 h0
    refine mTr_g hp.1 ?_
    have hp := hp.2
    refine mTr_g hp ?_
    exact mTr_e (by decide) (congrArg (fun z => [mI z]) (Eq.symm (rfl))) rfl (by decide) (by decide)
  · skip
    have hp := hp.2 h0
    exact hp.elim
theorem li_Cl_57 : mLink "ClothWithMan$Cloth" 57 E_Cl_withStuffs := ⟨tw_2_237, tw_1_3, ⟨by decide, by decide⟩, by decide +kernel, Or.inl tw_2_234, (fun h => by cases h), (fun _ => ⟨tw_2_235, tw_2_236, TX0, 5, rfl⟩), (fun h => by cases h)⟩





theorem tk_Cl_threadAt : ∀ pc i nx tg, T_Cl_threadAt pc = some (i, nx, tg) → mOkB prog_2_method_2_code pc i nx tg = true := code_ok (N := 81) (fun k h => by unfold T_Cl_threadAt; rw [h]; rfl) (by decide +kernel)
theorem ok_Cl_threadAt (l : Launch) : mPOK l "ClothWithMan$Cloth" prog_2_method_2_code P_Cl_threadAt := by
  refine ⟨tk_Cl_threadAt, ?_, ?_, ?_, (fun pc i nx tg kd _ h => by cases h), ?_, ?_, fun pc en h => by cases h⟩
  · intro x ci f ty fin h
    exact mLook_all (Q := fun x v => mFOK "ClothWithMan$Cloth" x v.1 v.2.1 v.2.2.1 v.2.2.2 ∧ (v.2.2.2 = true → pIni P_Cl_threadAt = true → (Cond.fieldLink "ClothWithMan$Cloth" x (((mCl[v.1]?).getD ("", fun _ => ("", "", "", false), 0)).2.1 v.2.1).1 (((mCl[v.1]?).getD ("", fun _ => ("", "", "", false), 0)).2.1 v.2.1).2.1 (((mCl[v.1]?).getD ("", fun _ => ("", "", "", false), 0)).2.1 v.2.1).2.2.1 ∈ lw_tbl ∧ (((mCl[v.1]?).getD ("", fun _ => ("", "", "", false), 0)).2.1 v.2.1).1 = "ClothWithMan$Cloth"))) (fcC ⟨fo_Cl_12, fun h1 h2 => by cases h2⟩ (fcC ⟨fo_Cl_18, fun h1 h2 => by cases h1⟩ (fcC ⟨fo_Cl_25, fun h1 h2 => by cases h2⟩ (fcC ⟨fo_Cl_50, fun h1 h2 => by cases h2⟩ fcN)))) x (ci, f, ty, fin) h
  · intro x
    have hh := mLook_all (l := ([] : List (Nat × (Int32 ⊕ Int64)))) (Q := fun x (v : Int32 ⊕ Int64) => (∀ w, v = .inl w → Cond.constant "ClothWithMan$Cloth" x w ∈ lw_tbl) ∧ (∀ w, v = .inr w → Cond.constantLong "ClothWithMan$Cloth" x w ∈ lw_tbl)) fcN x
    exact ⟨fun w h => (hh _ h).1 w rfl, fun w h => (hh _ h).2 w rfl⟩
  · exact fun x en h => mLook_all (Q := fun x en => mLink "ClothWithMan$Cloth" x en ∧ mCtr l en ∧ (en.1.1 = 2 → en.2.2.2.2.2.2 = none)) (fcC ⟨li_Cl_36, c_AL_size l, (fun h => by cases h)⟩ (fcC ⟨li_Cl_40, c_AL_get l, (fun h => by cases h)⟩ (fcC ⟨li_Cl_46, c_Pt_covers l, (fun h => by cases h)⟩ (fcC ⟨li_Cl_53, c_Cu_at l, (fun h => by cases h)⟩ (fcC ⟨li_Cl_57, c_Cl_withStuffs l, (fun h => by cases h)⟩ fcN))))) x en h
  · exact fun x kd h => mLook_all (Q := fun x kd => (kd = 95 ∧ Cond.fieldLink "ClothWithMan$Cloth" x "ClothWithMan" "LIKENESSES" "[I" ∈ lw_tbl) ∨ (kd = 96 ∧ Cond.fieldLink "ClothWithMan$Cloth" x "ClothWithMan" "APART_BOUNDS" "[I" ∈ lw_tbl)) fcN x kd h
  · exact fun x ci h => mLook_all (Q := fun x ci => ci ≠ 0 ∧ ∃ (C : String) (T : u_T) (N : Nat), mCl[ci]? = some (C, T, N) ∧ Cond.classLink "ClothWithMan$Cloth" x C ∈ lw_tbl ∧ Cond.instantiable C N ∈ lw_tbl) (fcC ⟨by decide, "ClothWithMan$Patch", TX5, 6, rfl, tw_2_228, tw_2_92⟩ fcN) x ci h
set_option maxRecDepth 100000 in
theorem c_Cl_threadAt (l : Launch) : mCtr l E_Cl_threadAt := mCtr_of (P := P_Cl_threadAt) (own := "ClothWithMan$Cloth") mLay_ok rfl (by decide +kernel) rfl (ok_Cl_threadAt l) (fun h => by cases h) (fun as σ pr rv σ' hF hpr hlv => by
  unfold E_Cl_threadAt S_Cl_threadAt at hF
  simp only [] at hF
  split at hF
  · cases hF
    obtain ⟨n, pcF, c1, s1, g1, g2, g3, g4⟩ := mF_inv (d_Cl_threadAt _ _ _ σ (hpr _ rfl))
    exact ⟨Nat.le_of_ble_eq_true rfl, (fun v h => by cases h; trivial), n, pcF, c1, s1, g1, ⟨mEnd_of (i := .ireturn) (P := P_Cl_threadAt) (rets := [80]) rfl g2, rfl⟩, g3, g4⟩
  · cases hF
    exact (hpr _ rfl).elim)

