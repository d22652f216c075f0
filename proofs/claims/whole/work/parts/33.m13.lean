/-! ClothWithManModel.partedAt(IIIII)I -/
noncomputable def t_M_partedAt_21 (x1 : Int32) (x2 : Int32) (x3 : Int32) (x4 : Int32) (x5 : Int32) (x7 : Int32) (c : Int32) (σ : MSto) (s : Int32) : Int32 := (if (gI σ 13 0 17) ≤ c then s else (if (v_M_areParted x7 c x1 x2 x3 x4 x5 σ) = 0 then (s + 0) else (s + 1)))
noncomputable def q_M_partedAt_21s (x1 : Int32) (x2 : Int32) (x3 : Int32) (x4 : Int32) (x5 : Int32) (x7 : Int32) (c : Int32) (σ : MSto) (s : Int32) : Nat := (if (gI σ 13 0 17) ≤ c then 1 else 0)
def g_M_partedAt_21 (x1 : Int32) (x2 : Int32) (x3 : Int32) (x4 : Int32) (x5 : Int32) (x7 : Int32) (c : Int32) (σ : MSto) (s : Int32) : Prop := (¬ ((gI σ 13 0 17) ≤ c) → (p_M_areParted x7 c x1 x2 x3 x4 x5 σ))
noncomputable def f_M_partedAt_21 (x1 : Int32) (x2 : Int32) (x3 : Int32) (x4 : Int32) (x5 : Int32) (x7 : Int32) (c0 : Int32) (σ : MSto) (s0 : Int32) (n : Nat) : Int32 := nfold (fun i s => t_M_partedAt_21 x1 x2 x3 x4 x5 x7 (c0 + nI i) σ s) s0 n
noncomputable def n_M_partedAt_21 (x1 : Int32) (x2 : Int32) (x3 : Int32) (x4 : Int32) (x5 : Int32) (x7 : Int32) (c0 : Int32) (σ : MSto) (s0 : Int32) : Nat := (nM σ 17 - c0.toNatClampNeg)
noncomputable def t_M_partedAt_6 (x1 : Int32) (x2 : Int32) (x3 : Int32) (x4 : Int32) (x5 : Int32) (c : Int32) (σ : MSto) (s : Int32) : Int32 := (if (gI σ 13 0 17) ≤ c then s else (f_M_partedAt_21 x1 x2 x3 x4 x5 c (c + 1) σ s (n_M_partedAt_21 x1 x2 x3 x4 x5 c (c + 1) σ s)))
noncomputable def q_M_partedAt_6s (x1 : Int32) (x2 : Int32) (x3 : Int32) (x4 : Int32) (x5 : Int32) (c : Int32) (σ : MSto) (s : Int32) : Nat := (if (gI σ 13 0 17) ≤ c then 1 else 0)
def g_M_partedAt_6 (x1 : Int32) (x2 : Int32) (x3 : Int32) (x4 : Int32) (x5 : Int32) (c : Int32) (σ : MSto) (s : Int32) : Prop := (¬ ((gI σ 13 0 17) ≤ c) → ((∀ i, i < (n_M_partedAt_21 x1 x2 x3 x4 x5 c (c + 1) σ s) → g_M_partedAt_21 x1 x2 x3 x4 x5 c ((c + 1) + nI i) σ (f_M_partedAt_21 x1 x2 x3 x4 x5 c (c + 1) σ s i) ∧ ¬ q_M_partedAt_21s x1 x2 x3 x4 x5 c ((c + 1) + nI i) σ (f_M_partedAt_21 x1 x2 x3 x4 x5 c (c + 1) σ s i) = 1) ∧ (¬ ((gI σ 13 0 17) ≤ ((c + 1) + nI (n_M_partedAt_21 x1 x2 x3 x4 x5 c (c + 1) σ s))) → False)))
noncomputable def f_M_partedAt_6 (x1 : Int32) (x2 : Int32) (x3 : Int32) (x4 : Int32) (x5 : Int32) (c0 : Int32) (σ : MSto) (s0 : Int32) (n : Nat) : Int32 := nfold (fun i s => t_M_partedAt_6 x1 x2 x3 x4 x5 (c0 + nI i) σ s) s0 n
noncomputable def n_M_partedAt_6 (x1 : Int32) (x2 : Int32) (x3 : Int32) (x4 : Int32) (x5 : Int32) (c0 : Int32) (σ : MSto) (s0 : Int32) : Nat := nM σ 17
noncomputable def v_M_partedAt (a1 : Int32) (a2 : Int32) (a3 : Int32) (a4 : Int32) (a5 : Int32) (σ : MSto) : Int32 := (f_M_partedAt_6 a1 a2 a3 a4 a5 0 σ 0 (n_M_partedAt_6 a1 a2 a3 a4 a5 0 σ 0))
def p_M_partedAt (a1 : Int32) (a2 : Int32) (a3 : Int32) (a4 : Int32) (a5 : Int32) (σ : MSto) : Prop := ((∀ i, i < (n_M_partedAt_6 a1 a2 a3 a4 a5 0 σ 0) → g_M_partedAt_6 a1 a2 a3 a4 a5 (0 + nI i) σ (f_M_partedAt_6 a1 a2 a3 a4 a5 0 σ 0 i) ∧ ¬ q_M_partedAt_6s a1 a2 a3 a4 a5 (0 + nI i) σ (f_M_partedAt_6 a1 a2 a3 a4 a5 0 σ 0 i) = 1) ∧ (¬ ((gI σ 13 0 17) ≤ (0 + nI (n_M_partedAt_6 a1 a2 a3 a4 a5 0 σ 0))) → False))
noncomputable def S_M_partedAt : List MV → MSto → Option Prop × Option MV × MSto := fun as σ => match as with
  | [.inr (.inr (some (13, 0))), .inl a0, .inl a1, .inl a2, .inl a3, .inl a4] => (some (p_M_partedAt a0 a1 a2 a3 a4 σ), some (mI (v_M_partedAt a0 a1 a2 a3 a4 σ)), σ)
  | _ => (some False, none, σ)
noncomputable def E_M_partedAt : MEnt := ((1, 5, 13), (4, 104, 0, 0), S_M_partedAt, ((⟨"ClothWithManModel", "partedAt", "(IIIII)I"⟩ : MethodName), prog_14_method_85_code, 9, (some .int)))

def T_M_partedAt : Nat → Option (Instr × Nat × List Nat) := fun k => bif Nat.blt k 73 then (bif Nat.blt k 35 then (bif Nat.blt k 17 then (bif Nat.blt k 6 then (bif Nat.blt k 3 then (bif Nat.blt k 1 then (bif Nat.beq k 0 then some (.iconst 0, 1, []) else none) else (bif Nat.beq k 1 then some (.istore 6, 3, []) else none)) else (bif Nat.blt k 4 then (bif Nat.beq k 3 then some (.iconst 0, 4, []) else none) else (bif Nat.beq k 4 then some (.istore 7, 6, []) else none))) else (bif Nat.blt k 9 then (bif Nat.blt k 8 then (bif Nat.beq k 6 then some (.iload 7, 8, []) else none) else (bif Nat.beq k 8 then some (.aload_n 0, 9, []) else none)) else (bif Nat.blt k 12 then (bif Nat.beq k 9 then some (.getfield 188, 12, []) else none) else (bif Nat.blt k 15 then (bif Nat.beq k 12 then some (.if_icmp .ge 58, 15, [70]) else none) else (bif Nat.beq k 15 then some (.iload 7, 17, []) else none))))) else (bif Nat.blt k 24 then (bif Nat.blt k 19 then (bif Nat.blt k 18 then (bif Nat.beq k 17 then some (.iconst 1, 18, []) else none) else (bif Nat.beq k 18 then some (.iadd, 19, []) else none)) else (bif Nat.blt k 21 then (bif Nat.beq k 19 then some (.istore 8, 21, []) else none) else (bif Nat.blt k 23 then (bif Nat.beq k 21 then some (.iload 8, 23, []) else none) else (bif Nat.beq k 23 then some (.aload_n 0, 24, []) else none)))) else (bif Nat.blt k 30 then (bif Nat.blt k 27 then (bif Nat.beq k 24 then some (.getfield 188, 27, []) else none) else (bif Nat.beq k 27 then some (.if_icmp .ge 37, 30, [64]) else none)) else (bif Nat.blt k 32 then (bif Nat.beq k 30 then some (.iload 6, 32, []) else none) else (bif Nat.blt k 33 then (bif Nat.beq k 32 then some (.aload_n 0, 33, []) else none) else (bif Nat.beq k 33 then some (.iload 7, 35, []) else none)))))) else (bif Nat.blt k 51 then (bif Nat.blt k 40 then (bif Nat.blt k 38 then (bif Nat.blt k 37 then (bif Nat.beq k 35 then some (.iload 8, 37, []) else none) else (bif Nat.beq k 37 then some (.iload_n 1, 38, []) else none)) else (bif Nat.blt k 39 then (bif Nat.beq k 38 then some (.iload_n 2, 39, []) else none) else (bif Nat.beq k 39 then some (.iload_n 3, 40, []) else none))) else (bif Nat.blt k 44 then (bif Nat.blt k 42 then (bif Nat.beq k 40 then some (.iload 4, 42, []) else none) else (bif Nat.beq k 42 then some (.iload 5, 44, []) else none)) else (bif Nat.blt k 47 then (bif Nat.beq k 44 then some (.invokevirtual 414, 47, []) else none) else (bif Nat.blt k 50 then (bif Nat.beq k 47 then some (.ifCond .eq 7, 50, [54]) else none) else (bif Nat.beq k 50 then some (.iconst 1, 51, []) else none))))) else (bif Nat.blt k 61 then (bif Nat.blt k 55 then (bif Nat.blt k 54 then (bif Nat.beq k 51 then some (.goto 4, 54, [55]) else none) else (bif Nat.beq k 54 then some (.iconst 0, 55, []) else none)) else (bif Nat.blt k 56 then (bif Nat.beq k 55 then some (.iadd, 56, []) else none) else (bif Nat.blt k 58 then (bif Nat.beq k 56 then some (.istore 6, 58, []) else none) else (bif Nat.beq k 58 then some (.iinc 8 1, 61, []) else none)))) else (bif Nat.blt k 67 then (bif Nat.blt k 64 then (bif Nat.beq k 61 then some (.goto (-40), 64, [21]) else none) else (bif Nat.beq k 64 then some (.iinc 7 1, 67, []) else none)) else (bif Nat.blt k 70 then (bif Nat.beq k 67 then some (.goto (-61), 70, [6]) else none) else (bif Nat.blt k 72 then (bif Nat.beq k 70 then some (.iload 6, 72, []) else none) else (bif Nat.beq k 72 then some (.ireturn, 73, []) else none))))))) else none
noncomputable def P_M_partedAt : MP := (T_M_partedAt, (fun k => mLook k [(188, (13, 17, .int, false))]), (fun k => mLook k []), (fun k => mLook k [(414, E_M_areParted)]), (fun k => mLook k []), (fun k => mLook k []), (fun k => mLook k []), (fun k => mLook k [(6, [true, true, true, true, true, true, true, true, false]), (21, [true, true, true, true, true, true, true, true, true])]), (fun k => [72].any (Nat.beq k)), (4, 104, 0, 0), false, (fun _ => none))
set_option maxRecDepth 100000 in
set_option maxHeartbeats 4000000 in
theorem q_M_partedAt_e (a1 : Int32) (a2 : Int32) (a3 : Int32) (a4 : Int32) (a5 : Int32) (σ : MSto) (n : Nat) : mexe KT P_M_partedAt (n + 1) (0, [some (mR 13 0), some (mI a1), some (mI a2), some (mI a3), some (mI a4), some (mI a5), none, none, none], [], σ, 0, 0) = mexe KT P_M_partedAt n (6, [some (mR 13 0), some (mI a1), some (mI a2), some (mI a3), some (mI a4), some (mI a5), some (mI 0), some (mI 0), none], [], σ, 0, 0) := rfl
set_option maxRecDepth 100000 in
set_option maxHeartbeats 4000000 in
theorem q_M_partedAt_6 (x1 : Int32) (x2 : Int32) (x3 : Int32) (x4 : Int32) (x5 : Int32) (x6 : Int32) (x7 : Int32) (σ : MSto) (n : Nat) : mexe KT P_M_partedAt (n + 1) (6, [some (mR 13 0), some (mI x1), some (mI x2), some (mI x3), some (mI x4), some (mI x5), some (mI x6), some (mI x7), none], [], σ, 0, 0) = mIf ((gI σ 13 0 17) ≤ x7) (some (72, [], [(mI x6)], σ, 0, 0)) (mexe KT P_M_partedAt n (21, [some (mR 13 0), some (mI x1), some (mI x2), some (mI x3), some (mI x4), some (mI x5), some (mI x6), some (mI x7), some (mI (x7 + 1))], [], σ, 0, 0)) := rfl
set_option maxRecDepth 100000 in
set_option maxHeartbeats 4000000 in
theorem q_M_partedAt_21 (x1 : Int32) (x2 : Int32) (x3 : Int32) (x4 : Int32) (x5 : Int32) (x6 : Int32) (x7 : Int32) (x8 : Int32) (σ : MSto) (n : Nat) : mexe KT P_M_partedAt (n + 1) (21, [some (mR 13 0), some (mI x1), some (mI x2), some (mI x3), some (mI x4), some (mI x5), some (mI x6), some (mI x7), some (mI x8)], [], σ, 0, 0) = mIf ((gI σ 13 0 17) ≤ x8) (mexe KT P_M_partedAt n (6, [some (mR 13 0), some (mI x1), some (mI x2), some (mI x3), some (mI x4), some (mI x5), some (mI x6), some (mI (x7 + 1)), none], [], σ, 0, 0)) (mG (p_M_areParted x7 x8 x1 x2 x3 x4 x5 σ) (mIf ((v_M_areParted x7 x8 x1 x2 x3 x4 x5 σ) = 0) (mexe KT P_M_partedAt n (21, [some (mR 13 0), some (mI x1), some (mI x2), some (mI x3), some (mI x4), some (mI x5), some (mI (x6 + 0)), some (mI x7), some (mI (x8 + 1))], [], σ, 0, 0)) (mexe KT P_M_partedAt n (21, [some (mR 13 0), some (mI x1), some (mI x2), some (mI x3), some (mI x4), some (mI x5), some (mI (x6 + 1)), some (mI x7), some (mI (x8 + 1))], [], σ, 0, 0)))) := rfl
set_option maxRecDepth 100000 in
theorem lt_M_partedAt_21 {Post : MST → Prop} (x1 : Int32) (x2 : Int32) (x3 : Int32) (x4 : Int32) (x5 : Int32) (x7 : Int32) (c : Int32) (σ : MSto) (s : Int32) (hp : g_M_partedAt_21 x1 x2 x3 x4 x5 x7 c σ s) (hq : ¬ q_M_partedAt_21s x1 x2 x3 x4 x5 x7 c σ s = 1) (hn : ∀ r, t_M_partedAt_21 x1 x2 x3 x4 x5 x7 c σ s = r → mW1 P_M_partedAt (21, [some (mR 13 0), some (mI x1), some (mI x2), some (mI x3), some (mI x4), some (mI x5), some (mI r), some (mI x7), some (mI (c + 1))], [], σ, 0, 0) Post) : mW1 P_M_partedAt (21, [some (mR 13 0), some (mI x1), some (mI x2), some (mI x3), some (mI x4), some (mI x5), some (mI s), some (mI x7), some (mI c)], [], σ, 0, 0) Post := by
  unfold g_M_partedAt_21 at hp
  refine mW1_eq (q_M_partedAt_21 _ _ _ _ _ _ _ _ _) ?_
  refine mTr_if (fun h0 => ?_) (fun h0 => ?_)
  · skip
    exact absurd (if_pos h0) hq
  · skip
    have hp := hp h0
    refine mTr_g hp ?_
    refine mTr_if (fun h1 => ?_) (fun h1 => ?_)
    · skip
      exact mTr_k (hn (s + 0) ((if_neg h0).trans (if_pos h1)))
    · skip
      exact mTr_k (hn (s + 1) ((if_neg h0).trans (if_neg h1)))
theorem lp_M_partedAt_21 {Post : MST → Prop} (x1 : Int32) (x2 : Int32) (x3 : Int32) (x4 : Int32) (x5 : Int32) (x7 : Int32) (c0 : Int32) (σ : MSto) (s0 : Int32) (N : Nat) (hb : ∀ i, i < N → g_M_partedAt_21 x1 x2 x3 x4 x5 x7 (c0 + nI i) σ (f_M_partedAt_21 x1 x2 x3 x4 x5 x7 c0 σ s0 i) ∧ ¬ q_M_partedAt_21s x1 x2 x3 x4 x5 x7 (c0 + nI i) σ (f_M_partedAt_21 x1 x2 x3 x4 x5 x7 c0 σ s0 i) = 1) (h : mW1 P_M_partedAt (21, [some (mR 13 0), some (mI x1), some (mI x2), some (mI x3), some (mI x4), some (mI x5), some (mI (f_M_partedAt_21 x1 x2 x3 x4 x5 x7 c0 σ s0 N)), some (mI x7), some (mI (c0 + nI N))], [], σ, 0, 0) Post) : mW1 P_M_partedAt (21, [some (mR 13 0), some (mI x1), some (mI x2), some (mI x3), some (mI x4), some (mI x5), some (mI s0), some (mI x7), some (mI c0)], [], σ, 0, 0) Post := by
  refine mW1_st (mW1_loop (fun i => (21, [some (mR 13 0), some (mI x1), some (mI x2), some (mI x3), some (mI x4), some (mI x5), some (mI (f_M_partedAt_21 x1 x2 x3 x4 x5 x7 c0 σ s0 i)), some (mI x7), some (mI (c0 + nI i))], [], σ, 0, 0)) N (fun i hlt hn => ?_) h) (by rw [show nI 0 = 0 from rfl, Int32.add_zero] <;> rfl)
  refine lt_M_partedAt_21 x1 x2 x3 x4 x5 x7 _ σ _ (hb i hlt).1 (hb i hlt).2 (fun r hr => ?_)
  rw [Int32.add_assoc, nI_s]
  subst hr
  exact hn
set_option maxRecDepth 100000 in
theorem lt_M_partedAt_6 {Post : MST → Prop} (x1 : Int32) (x2 : Int32) (x3 : Int32) (x4 : Int32) (x5 : Int32) (c : Int32) (σ : MSto) (s : Int32) (hp : g_M_partedAt_6 x1 x2 x3 x4 x5 c σ s) (hq : ¬ q_M_partedAt_6s x1 x2 x3 x4 x5 c σ s = 1) (hn : ∀ r, t_M_partedAt_6 x1 x2 x3 x4 x5 c σ s = r → mW1 P_M_partedAt (6, [some (mR 13 0), some (mI x1), some (mI x2), some (mI x3), some (mI x4), some (mI x5), some (mI r), some (mI (c + 1)), none], [], σ, 0, 0) Post) : mW1 P_M_partedAt (6, [some (mR 13 0), some (mI x1), some (mI x2), some (mI x3), some (mI x4), some (mI x5), some (mI s), some (mI c), none], [], σ, 0, 0) Post := by
  unfold g_M_partedAt_6 at hp
  refine mW1_eq (q_M_partedAt_6 _ _ _ _ _ _ _ _) ?_
  refine mTr_if (fun h0 => ?_) (fun h0 => ?_)
  · skip
    exact absurd (if_pos h0) hq
  · skip
    have hp := hp h0
    refine mTr_k (lp_M_partedAt_21 x1 x2 x3 x4 x5 c (c + 1) σ s (n_M_partedAt_21 x1 x2 x3 x4 x5 c (c + 1) σ s) hp.1 ?_)
    have hp := hp.2
    refine mW1_eq (q_M_partedAt_21 _ _ _ _ _ _ _ _ _) ?_
    refine mTr_if (fun h1 => ?_) (fun h1 => ?_)
    · skip
      exact mTr_k (hn (f_M_partedAt_21 x1 x2 x3 x4 x5 c (c + 1) σ s (n_M_partedAt_21 x1 x2 x3 x4 x5 c (c + 1) σ s)) (if_neg h0))
    · skip
      have hp := hp h1
      exact hp.elim
theorem lp_M_partedAt_6 {Post : MST → Prop} (x1 : Int32) (x2 : Int32) (x3 : Int32) (x4 : Int32) (x5 : Int32) (c0 : Int32) (σ : MSto) (s0 : Int32) (N : Nat) (hb : ∀ i, i < N → g_M_partedAt_6 x1 x2 x3 x4 x5 (c0 + nI i) σ (f_M_partedAt_6 x1 x2 x3 x4 x5 c0 σ s0 i) ∧ ¬ q_M_partedAt_6s x1 x2 x3 x4 x5 (c0 + nI i) σ (f_M_partedAt_6 x1 x2 x3 x4 x5 c0 σ s0 i) = 1) (h : mW1 P_M_partedAt (6, [some (mR 13 0), some (mI x1), some (mI x2), some (mI x3), some (mI x4), some (mI x5), some (mI (f_M_partedAt_6 x1 x2 x3 x4 x5 c0 σ s0 N)), some (mI (c0 + nI N)), none], [], σ, 0, 0) Post) : mW1 P_M_partedAt (6, [some (mR 13 0), some (mI x1), some (mI x2), some (mI x3), some (mI x4), some (mI x5), some (mI s0), some (mI c0), none], [], σ, 0, 0) Post := by
  refine mW1_st (mW1_loop (fun i => (6, [some (mR 13 0), some (mI x1), some (mI x2), some (mI x3), some (mI x4), some (mI x5), some (mI (f_M_partedAt_6 x1 x2 x3 x4 x5 c0 σ s0 i)), some (mI (c0 + nI i)), none], [], σ, 0, 0)) N (fun i hlt hn => ?_) h) (by rw [show nI 0 = 0 from rfl, Int32.add_zero] <;> rfl)
  refine lt_M_partedAt_6 x1 x2 x3 x4 x5 _ σ _ (hb i hlt).1 (hb i hlt).2 (fun r hr => ?_)
  rw [Int32.add_assoc, nI_s]
  subst hr
  exact hn
set_option maxRecDepth 100000 in
set_option maxHeartbeats 4000000 in
theorem d_M_partedAt (a1 : Int32) (a2 : Int32) (a3 : Int32) (a4 : Int32) (a5 : Int32) (σ : MSto) (hp : p_M_partedAt a1 a2 a3 a4 a5 σ) : mW1 P_M_partedAt (0, [some (mR 13 0), some (mI a1), some (mI a2), some (mI a3), some (mI a4), some (mI a5), none, none, none], [], σ, 0, 0) (mF [72] [mI (v_M_partedAt a1 a2 a3 a4 a5 σ)] σ 0 0) := by
  refine mW1_eq (q_M_partedAt_e _ _ _ _ _ _) ?_
  unfold p_M_partedAt at hp
  refine mTr_k (lp_M_partedAt_6 a1 a2 a3 a4 a5 0 σ 0 (n_M_partedAt_6 a1 a2 a3 a4 a5 0 σ 0) hp.1 ?_)
  have hp := hp.2
  refine mW1_eq (q_M_partedAt_6 _ _ _ _ _ _ _ _) ?_
  refine mTr_if (fun h0 => ?_) (fun h0 => ?_)
  · skip
    exact mTr_e (by decide) (congrArg (fun z => [mI z]) (Eq.symm (rfl))) rfl (by decide) (by decide)
  · skip
    have hp := hp h0
    exact hp.elim
theorem li_M_414 : mLink "ClothWithManModel" 414 E_M_areParted := ⟨tw_8_26, tw_1_9, ⟨by decide, by decide⟩, by decide +kernel, Or.inl tw_8_23, (fun h => by cases h), (fun _ => ⟨tw_8_25, tw_0_83, TX12, 71, rfl⟩), (fun h => by cases h)⟩

theorem tk_M_partedAt : ∀ pc i nx tg, T_M_partedAt pc = some (i, nx, tg) → mOkB prog_14_method_85_code pc i nx tg = true := code_ok (N := 73) (fun k h => by unfold T_M_partedAt; rw [h]; rfl) (by decide +kernel)
theorem ok_M_partedAt (l : Launch) : mPOK l "ClothWithManModel" prog_14_method_85_code P_M_partedAt := by
  refine ⟨tk_M_partedAt, ?_, ?_, ?_, (fun pc i nx tg kd _ h => by cases h), ?_, ?_, fun pc en h => by cases h⟩
  · intro x ci f ty fin h
    exact mLook_all (Q := fun x v => mFOK "ClothWithManModel" x v.1 v.2.1 v.2.2.1 v.2.2.2 ∧ (v.2.2.2 = true → pIni P_M_partedAt = true → (Cond.fieldLink "ClothWithManModel" x (((mCl[v.1]?).getD ("", fun _ => ("", "", "", false), 0)).2.1 v.2.1).1 (((mCl[v.1]?).getD ("", fun _ => ("", "", "", false), 0)).2.1 v.2.1).2.1 (((mCl[v.1]?).getD ("", fun _ => ("", "", "", false), 0)).2.1 v.2.1).2.2.1 ∈ lw_tbl ∧ (((mCl[v.1]?).getD ("", fun _ => ("", "", "", false), 0)).2.1 v.2.1).1 = "ClothWithManModel"))) (fcC ⟨fo_M_188, fun h1 h2 => by cases h1⟩ fcN) x (ci, f, ty, fin) h
  · intro x
    have hh := mLook_all (l := ([] : List (Nat × (Int32 ⊕ Int64)))) (Q := fun x (v : Int32 ⊕ Int64) => (∀ w, v = .inl w → Cond.constant "ClothWithManModel" x w ∈ lw_tbl) ∧ (∀ w, v = .inr w → Cond.constantLong "ClothWithManModel" x w ∈ lw_tbl)) fcN x
    exact ⟨fun w h => (hh _ h).1 w rfl, fun w h => (hh _ h).2 w rfl⟩
  · exact fun x en h => mLook_all (Q := fun x en => mLink "ClothWithManModel" x en ∧ mCtr l en ∧ (en.1.1 = 2 → en.2.2.2.2.2.2 = none)) (fcC ⟨li_M_414, c_M_areParted l, (fun h => by cases h)⟩ fcN) x en h
  · exact fun x kd h => mLook_all (Q := fun x kd => (kd = 95 ∧ Cond.fieldLink "ClothWithManModel" x "ClothWithMan" "LIKENESSES" "[I" ∈ lw_tbl) ∨ (kd = 96 ∧ Cond.fieldLink "ClothWithManModel" x "ClothWithMan" "APART_BOUNDS" "[I" ∈ lw_tbl)) fcN x kd h
  · exact fun x ci h => mLook_all (Q := fun x ci => ci ≠ 0 ∧ ∃ (C : String) (T : u_T) (N : Nat), mCl[ci]? = some (C, T, N) ∧ Cond.classLink "ClothWithManModel" x C ∈ lw_tbl ∧ Cond.instantiable C N ∈ lw_tbl) fcN x ci h
set_option maxRecDepth 100000 in
theorem c_M_partedAt (l : Launch) : mCtr l E_M_partedAt := mCtr_of (P := P_M_partedAt) (own := "ClothWithManModel") mLay_ok rfl (by decide +kernel) rfl (ok_M_partedAt l) (fun h => by cases h) (fun as σ pr rv σ' hF hpr hlv => by
  unfold E_M_partedAt S_M_partedAt at hF
  simp only [] at hF
  split at hF
  · cases hF
    obtain ⟨n, pcF, c1, s1, g1, g2, g3, g4⟩ := mF_inv (d_M_partedAt _ _ _ _ _ σ (hpr _ rfl))
    exact ⟨Nat.le_of_ble_eq_true rfl, (fun v h => by cases h; trivial), n, pcF, c1, s1, g1, ⟨mEnd_of (i := .ireturn) (P := P_M_partedAt) (rets := [72]) rfl g2, rfl⟩, g3, g4⟩
  · cases hF
    exact (hpr _ rfl).elim)
/-! ClothWithManModel.partedBy(II)I -/
noncomputable def v_M_partedBy (a1 : Int32) (a2 : Int32) (σ : MSto) : Int32 := (v_M_partedAt (gI σ 47 0 (Int32.toNatClampNeg a1)) (gI σ 48 0 (Int32.toNatClampNeg a1)) (gI σ 49 0 (Int32.toNatClampNeg a1)) (gI σ 50 0 (Int32.toNatClampNeg a1)) a2 σ)
def p_M_partedBy (a1 : Int32) (a2 : Int32) (σ : MSto) : Prop := ((vp_in a1 12) ∧ ((vp_in a1 12) ∧ ((vp_in a1 12) ∧ ((vp_in a1 12) ∧ (p_M_partedAt (gI σ 47 0 (Int32.toNatClampNeg a1)) (gI σ 48 0 (Int32.toNatClampNeg a1)) (gI σ 49 0 (Int32.toNatClampNeg a1)) (gI σ 50 0 (Int32.toNatClampNeg a1)) a2 σ)))))
noncomputable def S_M_partedBy : List MV → MSto → Option Prop × Option MV × MSto := fun as σ => match as with
  | [.inr (.inr (some (13, 0))), .inl a0, .inl a1] => (some (p_M_partedBy a0 a1 σ), some (mI (v_M_partedBy a0 a1 σ)), σ)
  | _ => (some False, none, σ)
noncomputable def E_M_partedBy : MEnt := ((1, 2, 13), (5, 132, 0, 0), S_M_partedBy, ((⟨"ClothWithManModel", "partedBy", "(II)I"⟩ : MethodName), prog_14_method_86_code, 3, (some .int)))

def T_M_partedBy : Nat → Option (Instr × Nat × List Nat) := fun k => bif Nat.blt k 30 then (bif Nat.blt k 14 then (bif Nat.blt k 7 then (bif Nat.blt k 2 then (bif Nat.blt k 1 then (bif Nat.beq k 0 then some (.aload_n 0, 1, []) else none) else (bif Nat.beq k 1 then some (.aload_n 0, 2, []) else none)) else (bif Nat.blt k 5 then (bif Nat.beq k 2 then some (.getfield 35, 5, []) else none) else (bif Nat.blt k 6 then (bif Nat.beq k 5 then some (.iload_n 1, 6, []) else none) else (bif Nat.beq k 6 then some (.iaload, 7, []) else none)))) else (bif Nat.blt k 11 then (bif Nat.blt k 8 then (bif Nat.beq k 7 then some (.aload_n 0, 8, []) else none) else (bif Nat.beq k 8 then some (.getfield 38, 11, []) else none)) else (bif Nat.blt k 12 then (bif Nat.beq k 11 then some (.iload_n 1, 12, []) else none) else (bif Nat.blt k 13 then (bif Nat.beq k 12 then some (.iaload, 13, []) else none) else (bif Nat.beq k 13 then some (.aload_n 0, 14, []) else none))))) else (bif Nat.blt k 23 then (bif Nat.blt k 18 then (bif Nat.blt k 17 then (bif Nat.beq k 14 then some (.getfield 41, 17, []) else none) else (bif Nat.beq k 17 then some (.iload_n 1, 18, []) else none)) else (bif Nat.blt k 19 then (bif Nat.beq k 18 then some (.iaload, 19, []) else none) else (bif Nat.blt k 20 then (bif Nat.beq k 19 then some (.aload_n 0, 20, []) else none) else (bif Nat.beq k 20 then some (.getfield 44, 23, []) else none)))) else (bif Nat.blt k 25 then (bif Nat.blt k 24 then (bif Nat.beq k 23 then some (.iload_n 1, 24, []) else none) else (bif Nat.beq k 24 then some (.iaload, 25, []) else none)) else (bif Nat.blt k 26 then (bif Nat.beq k 25 then some (.iload_n 2, 26, []) else none) else (bif Nat.blt k 29 then (bif Nat.beq k 26 then some (.invokevirtual 418, 29, []) else none) else (bif Nat.beq k 29 then some (.ireturn, 30, []) else none)))))) else none
noncomputable def P_M_partedBy : MP := (T_M_partedBy, (fun k => mLook k [(35, (13, 11, (.array .int), true)), (38, (13, 12, (.array .int), true)), (41, (13, 13, (.array .int), true)), (44, (13, 14, (.array .int), true))]), (fun k => mLook k []), (fun k => mLook k [(418, E_M_partedAt)]), (fun k => mLook k []), (fun k => mLook k []), (fun k => mLook k []), (fun k => mLook k []), (fun k => [29].any (Nat.beq k)), (5, 132, 0, 0), false, (fun _ => none))
set_option maxRecDepth 100000 in
set_option maxHeartbeats 4000000 in
theorem q_M_partedBy_e (a1 : Int32) (a2 : Int32) (σ : MSto) (n : Nat) : mexe KT P_M_partedBy (n + 1) (0, [some (mR 13 0), some (mI a1), some (mI a2)], [], σ, 0, 0) = mG (vp_in a1 12) (mG (vp_in a1 12) (mG (vp_in a1 12) (mG (vp_in a1 12) (mG (p_M_partedAt (gI σ 47 0 (Int32.toNatClampNeg a1)) (gI σ 48 0 (Int32.toNatClampNeg a1)) (gI σ 49 0 (Int32.toNatClampNeg a1)) (gI σ 50 0 (Int32.toNatClampNeg a1)) a2 σ) (some (29, [], [(mI (v_M_partedAt (gI σ 47 0 (Int32.toNatClampNeg a1)) (gI σ 48 0 (Int32.toNatClampNeg a1)) (gI σ 49 0 (Int32.toNatClampNeg a1)) (gI σ 50 0 (Int32.toNatClampNeg a1)) a2 σ))], σ, 0, 0)))))) := rfl
set_option maxRecDepth 100000 in
set_option maxHeartbeats 4000000 in
theorem d_M_partedBy (a1 : Int32) (a2 : Int32) (σ : MSto) (hp : p_M_partedBy a1 a2 σ) : mW1 P_M_partedBy (0, [some (mR 13 0), some (mI a1), some (mI a2)], [], σ, 0, 0) (mF [29] [mI (v_M_partedBy a1 a2 σ)] σ 0 0) := by
  refine mW1_eq (q_M_partedBy_e _ _ _) ?_
  unfold p_M_partedBy at hp
  refine mTr_g hp.1 ?_
  have hp := hp.2
  refine mTr_g hp.1 ?_
  have hp := hp.2
  refine mTr_g hp.1 ?_
  have hp := hp.2
  refine mTr_g hp.1 ?_
  have hp := hp.2
  refine mTr_g hp ?_
  exact mTr_e (by decide) (congrArg (fun z => [mI z]) (Eq.symm (rfl))) rfl (by decide) (by decide)
theorem li_M_418 : mLink "ClothWithManModel" 418 E_M_partedAt := ⟨tw_8_37, tw_1_9, ⟨by decide, by decide⟩, by decide +kernel, Or.inl tw_8_34, (fun h => by cases h), (fun _ => ⟨tw_8_36, tw_0_85, TX12, 71, rfl⟩), (fun h => by cases h)⟩

theorem tk_M_partedBy : ∀ pc i nx tg, T_M_partedBy pc = some (i, nx, tg) → mOkB prog_14_method_86_code pc i nx tg = true := code_ok (N := 30) (fun k h => by unfold T_M_partedBy; rw [h]; rfl) (by decide +kernel)
theorem ok_M_partedBy (l : Launch) : mPOK l "ClothWithManModel" prog_14_method_86_code P_M_partedBy := by
  refine ⟨tk_M_partedBy, ?_, ?_, ?_, (fun pc i nx tg kd _ h => by cases h), ?_, ?_, fun pc en h => by cases h⟩
  · intro x ci f ty fin h
    exact mLook_all (Q := fun x v => mFOK "ClothWithManModel" x v.1 v.2.1 v.2.2.1 v.2.2.2 ∧ (v.2.2.2 = true → pIni P_M_partedBy = true → (Cond.fieldLink "ClothWithManModel" x (((mCl[v.1]?).getD ("", fun _ => ("", "", "", false), 0)).2.1 v.2.1).1 (((mCl[v.1]?).getD ("", fun _ => ("", "", "", false), 0)).2.1 v.2.1).2.1 (((mCl[v.1]?).getD ("", fun _ => ("", "", "", false), 0)).2.1 v.2.1).2.2.1 ∈ lw_tbl ∧ (((mCl[v.1]?).getD ("", fun _ => ("", "", "", false), 0)).2.1 v.2.1).1 = "ClothWithManModel"))) (fcC ⟨fo_M_35, fun h1 h2 => by cases h2⟩ (fcC ⟨fo_M_38, fun h1 h2 => by cases h2⟩ (fcC ⟨fo_M_41, fun h1 h2 => by cases h2⟩ (fcC ⟨fo_M_44, fun h1 h2 => by cases h2⟩ fcN)))) x (ci, f, ty, fin) h
  · intro x
    have hh := mLook_all (l := ([] : List (Nat × (Int32 ⊕ Int64)))) (Q := fun x (v : Int32 ⊕ Int64) => (∀ w, v = .inl w → Cond.constant "ClothWithManModel" x w ∈ lw_tbl) ∧ (∀ w, v = .inr w → Cond.constantLong "ClothWithManModel" x w ∈ lw_tbl)) fcN x
    exact ⟨fun w h => (hh _ h).1 w rfl, fun w h => (hh _ h).2 w rfl⟩
  · exact fun x en h => mLook_all (Q := fun x en => mLink "ClothWithManModel" x en ∧ mCtr l en ∧ (en.1.1 = 2 → en.2.2.2.2.2.2 = none)) (fcC ⟨li_M_418, c_M_partedAt l, (fun h => by cases h)⟩ fcN) x en h
  · exact fun x kd h => mLook_all (Q := fun x kd => (kd = 95 ∧ Cond.fieldLink "ClothWithManModel" x "ClothWithMan" "LIKENESSES" "[I" ∈ lw_tbl) ∨ (kd = 96 ∧ Cond.fieldLink "ClothWithManModel" x "ClothWithMan" "APART_BOUNDS" "[I" ∈ lw_tbl)) fcN x kd h
  · exact fun x ci h => mLook_all (Q := fun x ci => ci ≠ 0 ∧ ∃ (C : String) (T : u_T) (N : Nat), mCl[ci]? = some (C, T, N) ∧ Cond.classLink "ClothWithManModel" x C ∈ lw_tbl ∧ Cond.instantiable C N ∈ lw_tbl) fcN x ci h
set_option maxRecDepth 100000 in
theorem c_M_partedBy (l : Launch) : mCtr l E_M_partedBy := mCtr_of (P := P_M_partedBy) (own := "ClothWithManModel") mLay_ok rfl (by decide +kernel) rfl (ok_M_partedBy l) (fun h => by cases h) (fun as σ pr rv σ' hF hpr hlv => by
  unfold E_M_partedBy S_M_partedBy at hF
  simp only [] at hF
  split at hF
  · cases hF
    obtain ⟨n, pcF, c1, s1, g1, g2, g3, g4⟩ := mF_inv (d_M_partedBy _ _ σ (hpr _ rfl))
    exact ⟨Nat.le_of_ble_eq_true rfl, (fun v h => by cases h; trivial), n, pcF, c1, s1, g1, ⟨mEnd_of (i := .ireturn) (P := P_M_partedBy) (rets := [29]) rfl g2, rfl⟩, g3, g4⟩
  · cases hF
    exact (hpr _ rfl).elim)
/-! ClothWithManModel.parts(II)I -/
noncomputable def t_M_parts_42 (x1 : Int32) (x2 : Int32) (x3 : Int32) (c : Int32) (s : MSto) : MSto := (if (gI s 13 0 17) ≤ c then s else (if 0 < (gI s 13 0 51) then s else (if (v_M_areParted x3 c (gI s 47 0 (Int32.toNatClampNeg x1)) (gI s 48 0 (Int32.toNatClampNeg x1)) (gI s 49 0 (Int32.toNatClampNeg x1)) (gI s 50 0 (Int32.toNatClampNeg x1)) x2 s) = 0 then (e_M_tell (Int32.toInt64 c) (e_M_tell (Int32.toInt64 x3) s)) else s)))
noncomputable def q_M_parts_42s (x1 : Int32) (x2 : Int32) (x3 : Int32) (c : Int32) (s : MSto) : Nat := (if (gI s 13 0 17) ≤ c then 1 else 0)
def g_M_parts_42 (x1 : Int32) (x2 : Int32) (x3 : Int32) (c : Int32) (s : MSto) : Prop := (¬ ((gI s 13 0 17) ≤ c) → (¬ (0 < (gI s 13 0 51)) → ((vp_in x1 12) ∧ ((vp_in x1 12) ∧ ((vp_in x1 12) ∧ ((vp_in x1 12) ∧ ((p_M_areParted x3 c (gI s 47 0 (Int32.toNatClampNeg x1)) (gI s 48 0 (Int32.toNatClampNeg x1)) (gI s 49 0 (Int32.toNatClampNeg x1)) (gI s 50 0 (Int32.toNatClampNeg x1)) x2 s) ∧ (((v_M_areParted x3 c (gI s 47 0 (Int32.toNatClampNeg x1)) (gI s 48 0 (Int32.toNatClampNeg x1)) (gI s 49 0 (Int32.toNatClampNeg x1)) (gI s 50 0 (Int32.toNatClampNeg x1)) x2 s) = 0) → ((p_M_tell (Int32.toInt64 x3) s) ∧ (p_M_tell (Int32.toInt64 c) (e_M_tell (Int32.toInt64 x3) s)))))))))))
noncomputable def f_M_parts_42 (x1 : Int32) (x2 : Int32) (x3 : Int32) (c0 : Int32) (s0 : MSto) (n : Nat) : MSto := nfold (fun i s => t_M_parts_42 x1 x2 x3 (c0 + nI i) s) s0 n
noncomputable def n_M_parts_42 (x1 : Int32) (x2 : Int32) (x3 : Int32) (c0 : Int32) (s0 : MSto) : Nat := (nM s0 17 - c0.toNatClampNeg)
noncomputable def t_M_parts_29 (x1 : Int32) (x2 : Int32) (c : Int32) (s : MSto) : MSto := (if (gI s 13 0 17) ≤ c then s else (f_M_parts_42 x1 x2 c (c + 1) s (n_M_parts_42 x1 x2 c (c + 1) s)))
noncomputable def q_M_parts_29s (x1 : Int32) (x2 : Int32) (c : Int32) (s : MSto) : Nat := (if (gI s 13 0 17) ≤ c then 1 else 0)
def g_M_parts_29 (x1 : Int32) (x2 : Int32) (c : Int32) (s : MSto) : Prop := (¬ ((gI s 13 0 17) ≤ c) → ((∀ i, i < (n_M_parts_42 x1 x2 c (c + 1) s) → g_M_parts_42 x1 x2 c ((c + 1) + nI i) (f_M_parts_42 x1 x2 c (c + 1) s i) ∧ ¬ q_M_parts_42s x1 x2 c ((c + 1) + nI i) (f_M_parts_42 x1 x2 c (c + 1) s i) = 1) ∧ (¬ ((gI (f_M_parts_42 x1 x2 c (c + 1) s (n_M_parts_42 x1 x2 c (c + 1) s)) 13 0 17) ≤ ((c + 1) + nI (n_M_parts_42 x1 x2 c (c + 1) s))) → False)))
noncomputable def f_M_parts_29 (x1 : Int32) (x2 : Int32) (c0 : Int32) (s0 : MSto) (n : Nat) : MSto := nfold (fun i s => t_M_parts_29 x1 x2 (c0 + nI i) s) s0 n
noncomputable def n_M_parts_29 (x1 : Int32) (x2 : Int32) (c0 : Int32) (s0 : MSto) : Nat := nM s0 17
noncomputable def v_M_parts (a1 : Int32) (a2 : Int32) (σ : MSto) : Int32 := (if (v_M_isPiece a1 (sI σ 13 0 52 0)) = 0 then (-1) else (if (v_M_isYear a2 (sI σ 13 0 52 0)) = 0 then (-1) else (v_M_partedBy a1 a2 (f_M_parts_29 a1 a2 0 (sI (sI σ 13 0 52 0) 13 0 51 0) (n_M_parts_29 a1 a2 0 (sI (sI σ 13 0 52 0) 13 0 51 0))))))
def p_M_parts (a1 : Int32) (a2 : Int32) (σ : MSto) : Prop := (¬ ((v_M_isPiece a1 (sI σ 13 0 52 0)) = 0) → (¬ ((v_M_isYear a2 (sI σ 13 0 52 0)) = 0) → ((∀ i, i < (n_M_parts_29 a1 a2 0 (sI (sI σ 13 0 52 0) 13 0 51 0)) → g_M_parts_29 a1 a2 (0 + nI i) (f_M_parts_29 a1 a2 0 (sI (sI σ 13 0 52 0) 13 0 51 0) i) ∧ ¬ q_M_parts_29s a1 a2 (0 + nI i) (f_M_parts_29 a1 a2 0 (sI (sI σ 13 0 52 0) 13 0 51 0) i) = 1) ∧ ((((gI (f_M_parts_29 a1 a2 0 (sI (sI σ 13 0 52 0) 13 0 51 0) (n_M_parts_29 a1 a2 0 (sI (sI σ 13 0 52 0) 13 0 51 0))) 13 0 17) ≤ (0 + nI (n_M_parts_29 a1 a2 0 (sI (sI σ 13 0 52 0) 13 0 51 0)))) → (p_M_partedBy a1 a2 (f_M_parts_29 a1 a2 0 (sI (sI σ 13 0 52 0) 13 0 51 0) (n_M_parts_29 a1 a2 0 (sI (sI σ 13 0 52 0) 13 0 51 0))))) ∧ (¬ ((gI (f_M_parts_29 a1 a2 0 (sI (sI σ 13 0 52 0) 13 0 51 0) (n_M_parts_29 a1 a2 0 (sI (sI σ 13 0 52 0) 13 0 51 0))) 13 0 17) ≤ (0 + nI (n_M_parts_29 a1 a2 0 (sI (sI σ 13 0 52 0) 13 0 51 0)))) → False)))))
noncomputable def e_M_parts (a1 : Int32) (a2 : Int32) (σ : MSto) : MSto := (if (v_M_isPiece a1 (sI σ 13 0 52 0)) = 0 then (sI σ 13 0 52 0) else (if (v_M_isYear a2 (sI σ 13 0 52 0)) = 0 then (sI σ 13 0 52 0) else (f_M_parts_29 a1 a2 0 (sI (sI σ 13 0 52 0) 13 0 51 0) (n_M_parts_29 a1 a2 0 (sI (sI σ 13 0 52 0) 13 0 51 0)))))
noncomputable def S_M_parts : List MV → MSto → Option Prop × Option MV × MSto := fun as σ => match as with
  | [.inr (.inr (some (13, 0))), .inl a0, .inl a1] => (some (p_M_parts a0 a1 σ), some (mI (v_M_parts a0 a1 σ)), e_M_parts a0 a1 σ)
  | _ => (some False, none, σ)
noncomputable def E_M_parts : MEnt := ((1, 2, 13), (6, 154, 0, 0), S_M_parts, ((⟨"ClothWithManModel", "parts", "(II)I"⟩ : MethodName), prog_14_method_87_code, 5, (some .int)))

def T_M_parts : Nat → Option (Instr × Nat × List Nat) := fun k => bif Nat.blt k 128 then (bif Nat.blt k 63 then (bif Nat.blt k 30 then (bif Nat.blt k 17 then (bif Nat.blt k 6 then (bif Nat.blt k 2 then (bif Nat.blt k 1 then (bif Nat.beq k 0 then some (.aload_n 0, 1, []) else none) else (bif Nat.beq k 1 then some (.iconst 0, 2, []) else none)) else (bif Nat.blt k 5 then (bif Nat.beq k 2 then some (.putfield 161, 5, []) else none) else (bif Nat.beq k 5 then some (.aload_n 0, 6, []) else none))) else (bif Nat.blt k 10 then (bif Nat.blt k 7 then (bif Nat.beq k 6 then some (.iload_n 1, 7, []) else none) else (bif Nat.beq k 7 then some (.invokevirtual 267, 10, []) else none)) else (bif Nat.blt k 13 then (bif Nat.beq k 10 then some (.ifCond .eq 10, 13, [20]) else none) else (bif Nat.blt k 14 then (bif Nat.beq k 13 then some (.iload_n 2, 14, []) else none) else (bif Nat.beq k 14 then some (.invokestatic 228, 17, []) else none))))) else (bif Nat.blt k 23 then (bif Nat.blt k 21 then (bif Nat.blt k 20 then (bif Nat.beq k 17 then some (.ifCond .ne 5, 20, [22]) else none) else (bif Nat.beq k 20 then some (.iconst (-1), 21, []) else none)) else (bif Nat.blt k 22 then (bif Nat.beq k 21 then some (.ireturn, 22, []) else none) else (bif Nat.beq k 22 then some (.aload_n 0, 23, []) else none))) else (bif Nat.blt k 27 then (bif Nat.blt k 24 then (bif Nat.beq k 23 then some (.iconst 0, 24, []) else none) else (bif Nat.beq k 24 then some (.putfield 164, 27, []) else none)) else (bif Nat.blt k 28 then (bif Nat.beq k 27 then some (.iconst 0, 28, []) else none) else (bif Nat.blt k 29 then (bif Nat.beq k 28 then some (.istore_n 3, 29, []) else none) else (bif Nat.beq k 29 then some (.iload_n 3, 30, []) else none)))))) else (bif Nat.blt k 45 then (bif Nat.blt k 38 then (bif Nat.blt k 34 then (bif Nat.blt k 31 then (bif Nat.beq k 30 then some (.aload_n 0, 31, []) else none) else (bif Nat.beq k 31 then some (.getfield 188, 34, []) else none)) else (bif Nat.blt k 37 then (bif Nat.beq k 34 then some (.if_icmp .ge 87, 37, [121]) else none) else (bif Nat.beq k 37 then some (.iload_n 3, 38, []) else none))) else (bif Nat.blt k 40 then (bif Nat.blt k 39 then (bif Nat.beq k 38 then some (.iconst 1, 39, []) else none) else (bif Nat.beq k 39 then some (.iadd, 40, []) else none)) else (bif Nat.blt k 42 then (bif Nat.beq k 40 then some (.istore 4, 42, []) else none) else (bif Nat.blt k 44 then (bif Nat.beq k 42 then some (.iload 4, 44, []) else none) else (bif Nat.beq k 44 then some (.aload_n 0, 45, []) else none))))) else (bif Nat.blt k 55 then (bif Nat.blt k 51 then (bif Nat.blt k 48 then (bif Nat.beq k 45 then some (.getfield 188, 48, []) else none) else (bif Nat.beq k 48 then some (.if_icmp .ge 67, 51, [115]) else none)) else (bif Nat.blt k 52 then (bif Nat.beq k 51 then some (.aload_n 0, 52, []) else none) else (bif Nat.beq k 52 then some (.getfield 164, 55, []) else none))) else (bif Nat.blt k 59 then (bif Nat.blt k 58 then (bif Nat.beq k 55 then some (.ifCond .gt 54, 58, [109]) else none) else (bif Nat.beq k 58 then some (.aload_n 0, 59, []) else none)) else (bif Nat.blt k 60 then (bif Nat.beq k 59 then some (.iload_n 3, 60, []) else none) else (bif Nat.blt k 62 then (bif Nat.beq k 60 then some (.iload 4, 62, []) else none) else (bif Nat.beq k 62 then some (.aload_n 0, 63, []) else none))))))) else (bif Nat.blt k 93 then (bif Nat.blt k 78 then (bif Nat.blt k 69 then (bif Nat.blt k 67 then (bif Nat.blt k 66 then (bif Nat.beq k 63 then some (.getfield 35, 66, []) else none) else (bif Nat.beq k 66 then some (.iload_n 1, 67, []) else none)) else (bif Nat.blt k 68 then (bif Nat.beq k 67 then some (.iaload, 68, []) else none) else (bif Nat.beq k 68 then some (.aload_n 0, 69, []) else none))) else (bif Nat.blt k 73 then (bif Nat.blt k 72 then (bif Nat.beq k 69 then some (.getfield 38, 72, []) else none) else (bif Nat.beq k 72 then some (.iload_n 1, 73, []) else none)) else (bif Nat.blt k 74 then (bif Nat.beq k 73 then some (.iaload, 74, []) else none) else (bif Nat.blt k 75 then (bif Nat.beq k 74 then some (.aload_n 0, 75, []) else none) else (bif Nat.beq k 75 then some (.getfield 41, 78, []) else none))))) else (bif Nat.blt k 84 then (bif Nat.blt k 80 then (bif Nat.blt k 79 then (bif Nat.beq k 78 then some (.iload_n 1, 79, []) else none) else (bif Nat.beq k 79 then some (.iaload, 80, []) else none)) else (bif Nat.blt k 81 then (bif Nat.beq k 80 then some (.aload_n 0, 81, []) else none) else (bif Nat.beq k 81 then some (.getfield 44, 84, []) else none))) else (bif Nat.blt k 86 then (bif Nat.blt k 85 then (bif Nat.beq k 84 then some (.iload_n 1, 85, []) else none) else (bif Nat.beq k 85 then some (.iaload, 86, []) else none)) else (bif Nat.blt k 87 then (bif Nat.beq k 86 then some (.iload_n 2, 87, []) else none) else (bif Nat.blt k 90 then (bif Nat.beq k 87 then some (.invokevirtual 414, 90, []) else none) else (bif Nat.beq k 90 then some (.ifCond .eq 6, 93, [96]) else none)))))) else (bif Nat.blt k 109 then (bif Nat.blt k 99 then (bif Nat.blt k 97 then (bif Nat.blt k 96 then (bif Nat.beq k 93 then some (.goto 16, 96, [109]) else none) else (bif Nat.beq k 96 then some (.aload_n 0, 97, []) else none)) else (bif Nat.blt k 98 then (bif Nat.beq k 97 then some (.iload_n 3, 98, []) else none) else (bif Nat.beq k 98 then some (.i2l, 99, []) else none))) else (bif Nat.blt k 103 then (bif Nat.blt k 102 then (bif Nat.beq k 99 then some (.invokevirtual 177, 102, []) else none) else (bif Nat.beq k 102 then some (.aload_n 0, 103, []) else none)) else (bif Nat.blt k 105 then (bif Nat.beq k 103 then some (.iload 4, 105, []) else none) else (bif Nat.blt k 106 then (bif Nat.beq k 105 then some (.i2l, 106, []) else none) else (bif Nat.beq k 106 then some (.invokevirtual 177, 109, []) else none))))) else (bif Nat.blt k 121 then (bif Nat.blt k 115 then (bif Nat.blt k 112 then (bif Nat.beq k 109 then some (.iinc 4 1, 112, []) else none) else (bif Nat.beq k 112 then some (.goto (-70), 115, [42]) else none)) else (bif Nat.blt k 118 then (bif Nat.beq k 115 then some (.iinc 3 1, 118, []) else none) else (bif Nat.beq k 118 then some (.goto (-89), 121, [29]) else none))) else (bif Nat.blt k 123 then (bif Nat.blt k 122 then (bif Nat.beq k 121 then some (.aload_n 0, 122, []) else none) else (bif Nat.beq k 122 then some (.iload_n 1, 123, []) else none)) else (bif Nat.blt k 124 then (bif Nat.beq k 123 then some (.iload_n 2, 124, []) else none) else (bif Nat.blt k 127 then (bif Nat.beq k 124 then some (.invokevirtual 422, 127, []) else none) else (bif Nat.beq k 127 then some (.ireturn, 128, []) else none)))))))) else none
noncomputable def P_M_parts : MP := (T_M_parts, (fun k => mLook k [(35, (13, 11, (.array .int), true)), (38, (13, 12, (.array .int), true)), (41, (13, 13, (.array .int), true)), (44, (13, 14, (.array .int), true)), (161, (13, 52, .int, false)), (164, (13, 51, .int, false)), (188, (13, 17, .int, false))]), (fun k => mLook k []), (fun k => mLook k [(177, E_M_tell), (228, E_M_isYear), (267, E_M_isPiece), (414, E_M_areParted), (422, E_M_partedBy)]), (fun k => mLook k []), (fun k => mLook k []), (fun k => mLook k []), (fun k => mLook k [(29, [true, true, true, true, false]), (42, [true, true, true, true, true])]), (fun k => [21, 127].any (Nat.beq k)), (6, 154, 0, 0), false, (fun _ => none))
set_option maxRecDepth 100000 in
set_option maxHeartbeats 4000000 in
theorem q_M_parts_e (a1 : Int32) (a2 : Int32) (σ : MSto) (n : Nat) : mexe KT P_M_parts (n + 1) (0, [some (mR 13 0), some (mI a1), some (mI a2), none, none], [], σ, 0, 0) = mIf ((v_M_isPiece a1 (sI σ 13 0 52 0)) = 0) (some (21, [], [(mI (-1))], (sI σ 13 0 52 0), 0, 0)) (mIf ((v_M_isYear a2 (sI σ 13 0 52 0)) = 0) (some (21, [], [(mI (-1))], (sI σ 13 0 52 0), 0, 0)) (mexe KT P_M_parts n (29, [some (mR 13 0), some (mI a1), some (mI a2), some (mI 0), none], [], (sI (sI σ 13 0 52 0) 13 0 51 0), 0, 0))) := rfl
set_option maxRecDepth 100000 in
set_option maxHeartbeats 4000000 in
theorem q_M_parts_29 (x1 : Int32) (x2 : Int32) (x3 : Int32) (σ : MSto) (n : Nat) : mexe KT P_M_parts (n + 1) (29, [some (mR 13 0), some (mI x1), some (mI x2), some (mI x3), none], [], σ, 0, 0) = mIf ((gI σ 13 0 17) ≤ x3) (mG (p_M_partedBy x1 x2 σ) (some (127, [], [(mI (v_M_partedBy x1 x2 σ))], σ, 0, 0))) (mexe KT P_M_parts n (42, [some (mR 13 0), some (mI x1), some (mI x2), some (mI x3), some (mI (x3 + 1))], [], σ, 0, 0)) := rfl
set_option maxRecDepth 100000 in
set_option maxHeartbeats 4000000 in
theorem q_M_parts_42 (x1 : Int32) (x2 : Int32) (x3 : Int32) (x4 : Int32) (σ : MSto) (n : Nat) : mexe KT P_M_parts (n + 1) (42, [some (mR 13 0), some (mI x1), some (mI x2), some (mI x3), some (mI x4)], [], σ, 0, 0) = mIf ((gI σ 13 0 17) ≤ x4) (mexe KT P_M_parts n (29, [some (mR 13 0), some (mI x1), some (mI x2), some (mI (x3 + 1)), none], [], σ, 0, 0)) (mIf (0 < (gI σ 13 0 51)) (mexe KT P_M_parts n (42, [some (mR 13 0), some (mI x1), some (mI x2), some (mI x3), some (mI (x4 + 1))], [], σ, 0, 0)) (mG (vp_in x1 12) (mG (vp_in x1 12) (mG (vp_in x1 12) (mG (vp_in x1 12) (mG (p_M_areParted x3 x4 (gI σ 47 0 (Int32.toNatClampNeg x1)) (gI σ 48 0 (Int32.toNatClampNeg x1)) (gI σ 49 0 (Int32.toNatClampNeg x1)) (gI σ 50 0 (Int32.toNatClampNeg x1)) x2 σ) (mIf ((v_M_areParted x3 x4 (gI σ 47 0 (Int32.toNatClampNeg x1)) (gI σ 48 0 (Int32.toNatClampNeg x1)) (gI σ 49 0 (Int32.toNatClampNeg x1)) (gI σ 50 0 (Int32.toNatClampNeg x1)) x2 σ) = 0) (mG (p_M_tell (Int32.toInt64 x3) σ) (mG (p_M_tell (Int32.toInt64 x4) (e_M_tell (Int32.toInt64 x3) σ)) (mexe KT P_M_parts n (42, [some (mR 13 0), some (mI x1), some (mI x2), some (mI x3), some (mI (x4 + 1))], [], (e_M_tell (Int32.toInt64 x4) (e_M_tell (Int32.toInt64 x3) σ)), 0, 0)))) (mexe KT P_M_parts n (42, [some (mR 13 0), some (mI x1), some (mI x2), some (mI x3), some (mI (x4 + 1))], [], σ, 0, 0))))))))) := rfl
set_option maxRecDepth 100000 in
theorem lt_M_parts_42 {Post : MST → Prop} (x1 : Int32) (x2 : Int32) (x3 : Int32) (c : Int32) (s : MSto) (hp : g_M_parts_42 x1 x2 x3 c s) (hq : ¬ q_M_parts_42s x1 x2 x3 c s = 1) (hn : ∀ r, t_M_parts_42 x1 x2 x3 c s = r → mW1 P_M_parts (42, [some (mR 13 0), some (mI x1), some (mI x2), some (mI x3), some (mI (c + 1))], [], r, 0, 0) Post) : mW1 P_M_parts (42, [some (mR 13 0), some (mI x1), some (mI x2), some (mI x3), some (mI c)], [], s, 0, 0) Post := by
  unfold g_M_parts_42 at hp
  refine mW1_eq (q_M_parts_42 _ _ _ _ _) ?_
  refine mTr_if (fun h0 => ?_) (fun h0 => ?_)
  · skip
    exact absurd (if_pos h0) hq
  · skip
    have hp := hp h0
    refine mTr_if (fun h1 => ?_) (fun h1 => ?_)
    · skip
      exact mTr_k (hn s ((if_neg h0).trans (if_pos h1)))
    · skip
      have hp := hp h1
      refine mTr_g hp.1 ?_
      have hp := hp.2
      refine mTr_g hp.1 ?_
      have hp := hp.2
      refine mTr_g hp.1 ?_
      have hp := hp.2
      refine mTr_g hp.1 ?_
      have hp := hp.2
      refine mTr_g hp.1 ?_
      have hp := hp.2
      refine mTr_if (fun h2 => ?_) (fun h2 => ?_)
      · skip
        have hp := hp h2
        refine mTr_g hp.1 ?_
        have hp := hp.2
        refine mTr_g hp ?_
        exact mTr_k (hn (e_M_tell (Int32.toInt64 c) (e_M_tell (Int32.toInt64 x3) s)) ((if_neg h0).trans ((if_neg h1).trans (if_pos h2))))
      · skip
        exact mTr_k (hn s ((if_neg h0).trans ((if_neg h1).trans (if_neg h2))))
theorem lp_M_parts_42 {Post : MST → Prop} (x1 : Int32) (x2 : Int32) (x3 : Int32) (c0 : Int32) (s0 : MSto) (N : Nat) (hb : ∀ i, i < N → g_M_parts_42 x1 x2 x3 (c0 + nI i) (f_M_parts_42 x1 x2 x3 c0 s0 i) ∧ ¬ q_M_parts_42s x1 x2 x3 (c0 + nI i) (f_M_parts_42 x1 x2 x3 c0 s0 i) = 1) (h : mW1 P_M_parts (42, [some (mR 13 0), some (mI x1), some (mI x2), some (mI x3), some (mI (c0 + nI N))], [], (f_M_parts_42 x1 x2 x3 c0 s0 N), 0, 0) Post) : mW1 P_M_parts (42, [some (mR 13 0), some (mI x1), some (mI x2), some (mI x3), some (mI c0)], [], s0, 0, 0) Post := by
  refine mW1_st (mW1_loop (fun i => (42, [some (mR 13 0), some (mI x1), some (mI x2), some (mI x3), some (mI (c0 + nI i))], [], (f_M_parts_42 x1 x2 x3 c0 s0 i), 0, 0)) N (fun i hlt hn => ?_) h) (by rw [show nI 0 = 0 from rfl, Int32.add_zero] <;> rfl)
  refine lt_M_parts_42 x1 x2 x3 _ _ (hb i hlt).1 (hb i hlt).2 (fun r hr => ?_)
  rw [Int32.add_assoc, nI_s]
  subst hr
  exact hn
set_option maxRecDepth 100000 in
theorem lt_M_parts_29 {Post : MST → Prop} (x1 : Int32) (x2 : Int32) (c : Int32) (s : MSto) (hp : g_M_parts_29 x1 x2 c s) (hq : ¬ q_M_parts_29s x1 x2 c s = 1) (hn : ∀ r, t_M_parts_29 x1 x2 c s = r → mW1 P_M_parts (29, [some (mR 13 0), some (mI x1), some (mI x2), some (mI (c + 1)), none], [], r, 0, 0) Post) : mW1 P_M_parts (29, [some (mR 13 0), some (mI x1), some (mI x2), some (mI c), none], [], s, 0, 0) Post := by
  unfold g_M_parts_29 at hp
  refine mW1_eq (q_M_parts_29 _ _ _ _) ?_
  refine mTr_if (fun h0 => ?_) (fun h0 => ?_)
  · skip
    exact absurd (if_pos h0) hq
  · skip
    have hp := hp h0
    refine mTr_k (lp_M_parts_42 x1 x2 c (c + 1) s (n_M_parts_42 x1 x2 c (c + 1) s) hp.1 ?_)
    have hp := hp.2
    refine mW1_eq (q_M_parts_42 _ _ _ _ _) ?_
    refine mTr_if (fun h1 => ?_) (fun h1 => ?_)
    · skip
      exact mTr_k (hn (f_M_parts_42 x1 x2 c (c + 1) s (n_M_parts_42 x1 x2 c (c + 1) s)) (if_neg h0))
    · skip
      have hp := hp h1
      exact hp.elim
theorem lp_M_parts_29 {Post : MST → Prop} (x1 : Int32) (x2 : Int32) (c0 : Int32) (s0 : MSto) (N : Nat) (hb : ∀ i, i < N → g_M_parts_29 x1 x2 (c0 + nI i) (f_M_parts_29 x1 x2 c0 s0 i) ∧ ¬ q_M_parts_29s x1 x2 (c0 + nI i) (f_M_parts_29 x1 x2 c0 s0 i) = 1) (h : mW1 P_M_parts (29, [some (mR 13 0), some (mI x1), some (mI x2), some (mI (c0 + nI N)), none], [], (f_M_parts_29 x1 x2 c0 s0 N), 0, 0) Post) : mW1 P_M_parts (29, [some (mR 13 0), some (mI x1), some (mI x2), some (mI c0), none], [], s0, 0, 0) Post := by
  refine mW1_st (mW1_loop (fun i => (29, [some (mR 13 0), some (mI x1), some (mI x2), some (mI (c0 + nI i)), none], [], (f_M_parts_29 x1 x2 c0 s0 i), 0, 0)) N (fun i hlt hn => ?_) h) (by rw [show nI 0 = 0 from rfl, Int32.add_zero] <;> rfl)
  refine lt_M_parts_29 x1 x2 _ _ (hb i hlt).1 (hb i hlt).2 (fun r hr => ?_)
  rw [Int32.add_assoc, nI_s]
  subst hr
  exact hn
set_option maxRecDepth 100000 in
set_option maxHeartbeats 4000000 in
theorem d_M_parts (a1 : Int32) (a2 : Int32) (σ : MSto) (hp : p_M_parts a1 a2 σ) : mW1 P_M_parts (0, [some (mR 13 0), some (mI a1), some (mI a2), none, none], [], σ, 0, 0) (mF [21, 127] [mI (v_M_parts a1 a2 σ)] (e_M_parts a1 a2 σ) 0 0) := by
  refine mW1_eq (q_M_parts_e _ _ _) ?_
  unfold p_M_parts at hp
  refine mTr_if (fun h0 => ?_) (fun h0 => ?_)
  · skip
    exact mTr_e (by decide) (congrArg (fun z => [mI z]) (Eq.symm (if_pos h0))) (Eq.symm (if_pos h0)) (by decide) (by decide)
  · skip
    have hp := hp h0
    refine mTr_if (fun h1 => ?_) (fun h1 => ?_)
    · skip
      exact mTr_e (by decide) (congrArg (fun z => [mI z]) (Eq.symm ((if_neg h0).trans (if_pos h1)))) (Eq.symm ((if_neg h0).trans (if_pos h1))) (by decide) (by decide)
    · skip
      have hp := hp h1
      refine mTr_k (lp_M_parts_29 a1 a2 0 (sI (sI σ 13 0 52 0) 13 0 51 0) (n_M_parts_29 a1 a2 0 (sI (sI σ 13 0 52 0) 13 0 51 0)) hp.1 ?_)
      have hp := hp.2
      refine mW1_eq (q_M_parts_29 _ _ _ _) ?_
      refine mTr_if (fun h2 => ?_) (fun h2 => ?_)
      · skip
        have hp := hp.1 h2
        refine mTr_g hp ?_
        exact mTr_e (by decide) (congrArg (fun z => [mI z]) (Eq.symm ((if_neg h0).trans (if_neg h1)))) (Eq.symm ((if_neg h0).trans (if_neg h1))) (by decide) (by decide)
      · skip
        have hp := hp.2 h2
        exact hp.elim
theorem li_M_422 : mLink "ClothWithManModel" 422 E_M_partedBy := ⟨tw_8_33, tw_1_9, ⟨by decide, by decide⟩, by decide +kernel, Or.inl tw_8_30, (fun h => by cases h), (fun _ => ⟨tw_8_32, tw_0_84, TX12, 71, rfl⟩), (fun h => by cases h)⟩





theorem tk_M_parts : ∀ pc i nx tg, T_M_parts pc = some (i, nx, tg) → mOkB prog_14_method_87_code pc i nx tg = true := code_ok (N := 128) (fun k h => by unfold T_M_parts; rw [h]; rfl) (by decide +kernel)
theorem ok_M_parts (l : Launch) : mPOK l "ClothWithManModel" prog_14_method_87_code P_M_parts := by
  refine ⟨tk_M_parts, ?_, ?_, ?_, (fun pc i nx tg kd _ h => by cases h), ?_, ?_, fun pc en h => by cases h⟩
  · intro x ci f ty fin h
    exact mLook_all (Q := fun x v => mFOK "ClothWithManModel" x v.1 v.2.1 v.2.2.1 v.2.2.2 ∧ (v.2.2.2 = true → pIni P_M_parts = true → (Cond.fieldLink "ClothWithManModel" x (((mCl[v.1]?).getD ("", fun _ => ("", "", "", false), 0)).2.1 v.2.1).1 (((mCl[v.1]?).getD ("", fun _ => ("", "", "", false), 0)).2.1 v.2.1).2.1 (((mCl[v.1]?).getD ("", fun _ => ("", "", "", false), 0)).2.1 v.2.1).2.2.1 ∈ lw_tbl ∧ (((mCl[v.1]?).getD ("", fun _ => ("", "", "", false), 0)).2.1 v.2.1).1 = "ClothWithManModel"))) (fcC ⟨fo_M_35, fun h1 h2 => by cases h2⟩ (fcC ⟨fo_M_38, fun h1 h2 => by cases h2⟩ (fcC ⟨fo_M_41, fun h1 h2 => by cases h2⟩ (fcC ⟨fo_M_44, fun h1 h2 => by cases h2⟩ (fcC ⟨fo_M_161, fun h1 h2 => by cases h1⟩ (fcC ⟨fo_M_164, fun h1 h2 => by cases h1⟩ (fcC ⟨fo_M_188, fun h1 h2 => by cases h1⟩ fcN))))))) x (ci, f, ty, fin) h
  · intro x
    have hh := mLook_all (l := ([] : List (Nat × (Int32 ⊕ Int64)))) (Q := fun x (v : Int32 ⊕ Int64) => (∀ w, v = .inl w → Cond.constant "ClothWithManModel" x w ∈ lw_tbl) ∧ (∀ w, v = .inr w → Cond.constantLong "ClothWithManModel" x w ∈ lw_tbl)) fcN x
    exact ⟨fun w h => (hh _ h).1 w rfl, fun w h => (hh _ h).2 w rfl⟩
  · exact fun x en h => mLook_all (Q := fun x en => mLink "ClothWithManModel" x en ∧ mCtr l en ∧ (en.1.1 = 2 → en.2.2.2.2.2.2 = none)) (fcC ⟨li_M_177, c_M_tell l, (fun h => by cases h)⟩ (fcC ⟨li_M_228, c_M_isYear l, (fun h => by cases h)⟩ (fcC ⟨li_M_267, c_M_isPiece l, (fun h => by cases h)⟩ (fcC ⟨li_M_414, c_M_areParted l, (fun h => by cases h)⟩ (fcC ⟨li_M_422, c_M_partedBy l, (fun h => by cases h)⟩ fcN))))) x en h
  · exact fun x kd h => mLook_all (Q := fun x kd => (kd = 95 ∧ Cond.fieldLink "ClothWithManModel" x "ClothWithMan" "LIKENESSES" "[I" ∈ lw_tbl) ∨ (kd = 96 ∧ Cond.fieldLink "ClothWithManModel" x "ClothWithMan" "APART_BOUNDS" "[I" ∈ lw_tbl)) fcN x kd h
  · exact fun x ci h => mLook_all (Q := fun x ci => ci ≠ 0 ∧ ∃ (C : String) (T : u_T) (N : Nat), mCl[ci]? = some (C, T, N) ∧ Cond.classLink "ClothWithManModel" x C ∈ lw_tbl ∧ Cond.instantiable C N ∈ lw_tbl) fcN x ci h
set_option maxRecDepth 100000 in
theorem c_M_parts (l : Launch) : mCtr l E_M_parts := mCtr_of (P := P_M_parts) (own := "ClothWithManModel") mLay_ok rfl (by decide +kernel) rfl (ok_M_parts l) (fun h => by cases h) (fun as σ pr rv σ' hF hpr hlv => by
  unfold E_M_parts S_M_parts at hF
  simp only [] at hF
  split at hF
  · cases hF
    obtain ⟨n, pcF, c1, s1, g1, g2, g3, g4⟩ := mF_inv (d_M_parts _ _ σ (hpr _ rfl))
    exact ⟨Nat.le_of_ble_eq_true rfl, (fun v h => by cases h; trivial), n, pcF, c1, s1, g1, ⟨mEnd_of (i := .ireturn) (P := P_M_parts) (rets := [21, 127]) rfl g2, rfl⟩, g3, g4⟩
  · cases hF
    exact (hpr _ rfl).elim)
/-! ClothWithManModel.next(I)I -/
noncomputable def t_M_next_29 (x1 : Int32) (c : Int32) (σ : MSto) (s : Int32 × Int32) : Int32 × Int32 := (if (gI σ 13 0 10) ≤ c then s else (if (v_M_has (gI σ 13 0 15) c σ) = 0 then (if (s.1) < 0 then (c, (v_M_partedBy c x1 σ)) else (if (s.2) < (v_M_partedBy c x1 σ) then (c, (v_M_partedBy c x1 σ)) else ((s.1), (s.2)))) else ((s.1), (s.2))))
noncomputable def q_M_next_29s (x1 : Int32) (c : Int32) (σ : MSto) (s : Int32 × Int32) : Nat := (if (gI σ 13 0 10) ≤ c then 1 else 0)
def g_M_next_29 (x1 : Int32) (c : Int32) (σ : MSto) (s : Int32 × Int32) : Prop := (¬ ((gI σ 13 0 10) ≤ c) → (((v_M_has (gI σ 13 0 15) c σ) = 0) → ((((s.1) < 0) → (p_M_partedBy c x1 σ)) ∧ (¬ ((s.1) < 0) → ((p_M_partedBy c x1 σ) ∧ (((s.2) < (v_M_partedBy c x1 σ)) → (p_M_partedBy c x1 σ)))))))
noncomputable def f_M_next_29 (x1 : Int32) (c0 : Int32) (σ : MSto) (s0 : Int32 × Int32) (n : Nat) : Int32 × Int32 := nfold (fun i s => t_M_next_29 x1 (c0 + nI i) σ s) s0 n
noncomputable def n_M_next_29 (x1 : Int32) (c0 : Int32) (σ : MSto) (s0 : Int32 × Int32) : Nat := nM σ 10
noncomputable def v_M_next (a1 : Int32) (σ : MSto) : Int32 := (if (v_M_isYear a1 (sI σ 13 0 52 0)) = 0 then (-1) else (if (gI (sI σ 13 0 52 0) 13 0 17) = 0 then (-1) else (if 0 ≤ ((f_M_next_29 a1 0 (sI σ 13 0 52 0) ((-2), 0) (n_M_next_29 a1 0 (sI σ 13 0 52 0) ((-2), 0))).1) then ((f_M_next_29 a1 0 (sI σ 13 0 52 0) ((-2), 0) (n_M_next_29 a1 0 (sI σ 13 0 52 0) ((-2), 0))).1) else (-2))))
def p_M_next (a1 : Int32) (σ : MSto) : Prop := (¬ ((v_M_isYear a1 (sI σ 13 0 52 0)) = 0) → (¬ ((gI (sI σ 13 0 52 0) 13 0 17) = 0) → ((∀ i, i < (n_M_next_29 a1 0 (sI σ 13 0 52 0) ((-2), 0)) → g_M_next_29 a1 (0 + nI i) (sI σ 13 0 52 0) (f_M_next_29 a1 0 (sI σ 13 0 52 0) ((-2), 0) i) ∧ ¬ q_M_next_29s a1 (0 + nI i) (sI σ 13 0 52 0) (f_M_next_29 a1 0 (sI σ 13 0 52 0) ((-2), 0) i) = 1) ∧ ((((gI (sI σ 13 0 52 0) 13 0 10) ≤ (0 + nI (n_M_next_29 a1 0 (sI σ 13 0 52 0) ((-2), 0)))) → ((0 ≤ ((f_M_next_29 a1 0 (sI σ 13 0 52 0) ((-2), 0) (n_M_next_29 a1 0 (sI σ 13 0 52 0) ((-2), 0))).1)) → (p_M_tell (Int32.toInt64 ((f_M_next_29 a1 0 (sI σ 13 0 52 0) ((-2), 0) (n_M_next_29 a1 0 (sI σ 13 0 52 0) ((-2), 0))).2)) (sI (sI σ 13 0 52 0) 13 0 51 0)))) ∧ (¬ ((gI (sI σ 13 0 52 0) 13 0 10) ≤ (0 + nI (n_M_next_29 a1 0 (sI σ 13 0 52 0) ((-2), 0)))) → False)))))
noncomputable def e_M_next (a1 : Int32) (σ : MSto) : MSto := (if (v_M_isYear a1 (sI σ 13 0 52 0)) = 0 then (sI σ 13 0 52 0) else (if (gI (sI σ 13 0 52 0) 13 0 17) = 0 then (sI σ 13 0 52 0) else (if 0 ≤ ((f_M_next_29 a1 0 (sI σ 13 0 52 0) ((-2), 0) (n_M_next_29 a1 0 (sI σ 13 0 52 0) ((-2), 0))).1) then (e_M_tell (Int32.toInt64 ((f_M_next_29 a1 0 (sI σ 13 0 52 0) ((-2), 0) (n_M_next_29 a1 0 (sI σ 13 0 52 0) ((-2), 0))).2)) (sI (sI σ 13 0 52 0) 13 0 51 0)) else (sI σ 13 0 52 0))))
noncomputable def S_M_next : List MV → MSto → Option Prop × Option MV × MSto := fun as σ => match as with
  | [.inr (.inr (some (13, 0))), .inl a0] => (some (p_M_next a0 σ), some (mI (v_M_next a0 σ)), e_M_next a0 σ)
  | _ => (some False, none, σ)
noncomputable def E_M_next : MEnt := ((1, 1, 13), (6, 154, 0, 0), S_M_next, ((⟨"ClothWithManModel", "next", "(I)I"⟩ : MethodName), prog_14_method_88_code, 5, (some .int)))

def T_M_next : Nat → Option (Instr × Nat × List Nat) := fun k => bif Nat.blt k 105 then (bif Nat.blt k 54 then (bif Nat.blt k 25 then (bif Nat.blt k 13 then (bif Nat.blt k 5 then (bif Nat.blt k 1 then (bif Nat.beq k 0 then some (.aload_n 0, 1, []) else none) else (bif Nat.blt k 2 then (bif Nat.beq k 1 then some (.iconst 0, 2, []) else none) else (bif Nat.beq k 2 then some (.putfield 161, 5, []) else none))) else (bif Nat.blt k 9 then (bif Nat.blt k 6 then (bif Nat.beq k 5 then some (.iload_n 1, 6, []) else none) else (bif Nat.beq k 6 then some (.invokestatic 228, 9, []) else none)) else (bif Nat.blt k 12 then (bif Nat.beq k 9 then some (.ifCond .eq 10, 12, [19]) else none) else (bif Nat.beq k 12 then some (.aload_n 0, 13, []) else none)))) else (bif Nat.blt k 20 then (bif Nat.blt k 16 then (bif Nat.beq k 13 then some (.getfield 188, 16, []) else none) else (bif Nat.blt k 19 then (bif Nat.beq k 16 then some (.ifCond .ne 5, 19, [21]) else none) else (bif Nat.beq k 19 then some (.iconst (-1), 20, []) else none))) else (bif Nat.blt k 23 then (bif Nat.blt k 21 then (bif Nat.beq k 20 then some (.ireturn, 21, []) else none) else (bif Nat.beq k 21 then some (.bipush (-2), 23, []) else none)) else (bif Nat.blt k 24 then (bif Nat.beq k 23 then some (.istore_n 2, 24, []) else none) else (bif Nat.beq k 24 then some (.iconst 0, 25, []) else none))))) else (bif Nat.blt k 38 then (bif Nat.blt k 29 then (bif Nat.blt k 26 then (bif Nat.beq k 25 then some (.istore_n 3, 26, []) else none) else (bif Nat.blt k 27 then (bif Nat.beq k 26 then some (.iconst 0, 27, []) else none) else (bif Nat.beq k 27 then some (.istore 4, 29, []) else none))) else (bif Nat.blt k 32 then (bif Nat.blt k 31 then (bif Nat.beq k 29 then some (.iload 4, 31, []) else none) else (bif Nat.beq k 31 then some (.aload_n 0, 32, []) else none)) else (bif Nat.blt k 35 then (bif Nat.beq k 32 then some (.getfield 185, 35, []) else none) else (bif Nat.beq k 35 then some (.if_icmp .ge 50, 38, [85]) else none)))) else (bif Nat.blt k 44 then (bif Nat.blt k 39 then (bif Nat.beq k 38 then some (.aload_n 0, 39, []) else none) else (bif Nat.blt k 42 then (bif Nat.beq k 39 then some (.getfield 277, 42, []) else none) else (bif Nat.beq k 42 then some (.iload 4, 44, []) else none))) else (bif Nat.blt k 50 then (bif Nat.blt k 47 then (bif Nat.beq k 44 then some (.invokestatic 301, 47, []) else none) else (bif Nat.beq k 47 then some (.ifCond .ne 32, 50, [79]) else none)) else (bif Nat.blt k 51 then (bif Nat.beq k 50 then some (.iload_n 2, 51, []) else none) else (bif Nat.beq k 51 then some (.ifCond .lt 17, 54, [68]) else none)))))) else (bif Nat.blt k 79 then (bif Nat.blt k 68 then (bif Nat.blt k 58 then (bif Nat.blt k 55 then (bif Nat.beq k 54 then some (.aload_n 0, 55, []) else none) else (bif Nat.blt k 57 then (bif Nat.beq k 55 then some (.iload 4, 57, []) else none) else (bif Nat.beq k 57 then some (.iload_n 1, 58, []) else none))) else (bif Nat.blt k 62 then (bif Nat.blt k 61 then (bif Nat.beq k 58 then some (.invokevirtual 422, 61, []) else none) else (bif Nat.beq k 61 then some (.iload_n 3, 62, []) else none)) else (bif Nat.blt k 65 then (bif Nat.beq k 62 then some (.if_icmp .gt 6, 65, [68]) else none) else (bif Nat.beq k 65 then some (.goto 14, 68, [79]) else none)))) else (bif Nat.blt k 72 then (bif Nat.blt k 70 then (bif Nat.beq k 68 then some (.iload 4, 70, []) else none) else (bif Nat.blt k 71 then (bif Nat.beq k 70 then some (.istore_n 2, 71, []) else none) else (bif Nat.beq k 71 then some (.aload_n 0, 72, []) else none))) else (bif Nat.blt k 75 then (bif Nat.blt k 74 then (bif Nat.beq k 72 then some (.iload 4, 74, []) else none) else (bif Nat.beq k 74 then some (.iload_n 1, 75, []) else none)) else (bif Nat.blt k 78 then (bif Nat.beq k 75 then some (.invokevirtual 422, 78, []) else none) else (bif Nat.beq k 78 then some (.istore_n 3, 79, []) else none))))) else (bif Nat.blt k 93 then (bif Nat.blt k 86 then (bif Nat.blt k 82 then (bif Nat.beq k 79 then some (.iinc 4 1, 82, []) else none) else (bif Nat.blt k 85 then (bif Nat.beq k 82 then some (.goto (-53), 85, [29]) else none) else (bif Nat.beq k 85 then some (.iload_n 2, 86, []) else none))) else (bif Nat.blt k 91 then (bif Nat.blt k 89 then (bif Nat.beq k 86 then some (.ifCond .ge 6, 89, [92]) else none) else (bif Nat.beq k 89 then some (.bipush (-2), 91, []) else none)) else (bif Nat.blt k 92 then (bif Nat.beq k 91 then some (.ireturn, 92, []) else none) else (bif Nat.beq k 92 then some (.aload_n 0, 93, []) else none)))) else (bif Nat.blt k 99 then (bif Nat.blt k 97 then (bif Nat.blt k 94 then (bif Nat.beq k 93 then some (.iconst 0, 94, []) else none) else (bif Nat.beq k 94 then some (.putfield 164, 97, []) else none)) else (bif Nat.blt k 98 then (bif Nat.beq k 97 then some (.aload_n 0, 98, []) else none) else (bif Nat.beq k 98 then some (.iload_n 3, 99, []) else none))) else (bif Nat.blt k 103 then (bif Nat.blt k 100 then (bif Nat.beq k 99 then some (.i2l, 100, []) else none) else (bif Nat.beq k 100 then some (.invokevirtual 177, 103, []) else none)) else (bif Nat.blt k 104 then (bif Nat.beq k 103 then some (.iload_n 2, 104, []) else none) else (bif Nat.beq k 104 then some (.ireturn, 105, []) else none))))))) else none
noncomputable def P_M_next : MP := (T_M_next, (fun k => mLook k [(161, (13, 52, .int, false)), (164, (13, 51, .int, false)), (185, (13, 10, .int, false)), (188, (13, 17, .int, false)), (277, (13, 15, .int, false))]), (fun k => mLook k []), (fun k => mLook k [(177, E_M_tell), (228, E_M_isYear), (301, E_M_has), (422, E_M_partedBy)]), (fun k => mLook k []), (fun k => mLook k []), (fun k => mLook k []), (fun k => mLook k [(29, [true, true, true, true, true])]), (fun k => [20, 91, 104].any (Nat.beq k)), (6, 154, 0, 0), false, (fun _ => none))
set_option maxRecDepth 100000 in
set_option maxHeartbeats 4000000 in
theorem q_M_next_e (a1 : Int32) (σ : MSto) (n : Nat) : mexe KT P_M_next (n + 1) (0, [some (mR 13 0), some (mI a1), none, none, none], [], σ, 0, 0) = mIf ((v_M_isYear a1 (sI σ 13 0 52 0)) = 0) (some (20, [], [(mI (-1))], (sI σ 13 0 52 0), 0, 0)) (mIf ((gI (sI σ 13 0 52 0) 13 0 17) = 0) (some (20, [], [(mI (-1))], (sI σ 13 0 52 0), 0, 0)) (mexe KT P_M_next n (29, [some (mR 13 0), some (mI a1), some (mI (-2)), some (mI 0), some (mI 0)], [], (sI σ 13 0 52 0), 0, 0))) := rfl
set_option maxRecDepth 100000 in
set_option maxHeartbeats 4000000 in
theorem q_M_next_29 (x1 : Int32) (x2 : Int32) (x3 : Int32) (x4 : Int32) (σ : MSto) (n : Nat) : mexe KT P_M_next (n + 1) (29, [some (mR 13 0), some (mI x1), some (mI x2), some (mI x3), some (mI x4)], [], σ, 0, 0) = mIf ((gI σ 13 0 10) ≤ x4) (mIf (0 ≤ x2) (mG (p_M_tell (Int32.toInt64 x3) (sI σ 13 0 51 0)) (some (104, [], [(mI x2)], (e_M_tell (Int32.toInt64 x3) (sI σ 13 0 51 0)), 0, 0))) (some (91, [], [(mI (-2))], σ, 0, 0))) (mIf ((v_M_has (gI σ 13 0 15) x4 σ) = 0) (mIf (x2 < 0) (mG (p_M_partedBy x4 x1 σ) (mexe KT P_M_next n (29, [some (mR 13 0), some (mI x1), some (mI x4), some (mI (v_M_partedBy x4 x1 σ)), some (mI (x4 + 1))], [], σ, 0, 0))) (mG (p_M_partedBy x4 x1 σ) (mIf (x3 < (v_M_partedBy x4 x1 σ)) (mG (p_M_partedBy x4 x1 σ) (mexe KT P_M_next n (29, [some (mR 13 0), some (mI x1), some (mI x4), some (mI (v_M_partedBy x4 x1 σ)), some (mI (x4 + 1))], [], σ, 0, 0))) (mexe KT P_M_next n (29, [some (mR 13 0), some (mI x1), some (mI x2), some (mI x3), some (mI (x4 + 1))], [], σ, 0, 0))))) (mexe KT P_M_next n (29, [some (mR 13 0), some (mI x1), some (mI x2), some (mI x3), some (mI (x4 + 1))], [], σ, 0, 0))) := rfl
set_option maxRecDepth 100000 in
theorem lt_M_next_29 {Post : MST → Prop} (x1 : Int32) (c : Int32) (σ : MSto) (s : Int32 × Int32) (hp : g_M_next_29 x1 c σ s) (hq : ¬ q_M_next_29s x1 c σ s = 1) (hn : ∀ (r1 : Int32) (r2 : Int32), t_M_next_29 x1 c σ s = (r1, r2) → mW1 P_M_next (29, [some (mR 13 0), some (mI x1), some (mI r1), some (mI r2), some (mI (c + 1))], [], σ, 0, 0) Post) : mW1 P_M_next (29, [some (mR 13 0), some (mI x1), some (mI (s.1)), some (mI (s.2)), some (mI c)], [], σ, 0, 0) Post := by
  unfold g_M_next_29 at hp
  refine mW1_eq (q_M_next_29 _ _ _ _ _) ?_
  refine mTr_if (fun h0 => ?_) (fun h0 => ?_)
  · skip
    exact absurd (if_pos h0) hq
  · skip
    have hp := hp h0
    refine mTr_if (fun h1 => ?_) (fun h1 => ?_)
    · skip
      have hp := hp h1
      refine mTr_if (fun h2 => ?_) (fun h2 => ?_)
      · skip
        have hp := hp.1 h2
        refine mTr_g hp ?_
        exact mTr_k (hn c (v_M_partedBy c x1 σ) ((if_neg h0).trans ((if_pos h1).trans (if_pos h2))))
      · skip
        have hp := hp.2 h2
        refine mTr_g hp.1 ?_
        have hp := hp.2
        refine mTr_if (fun h3 => ?_) (fun h3 => ?_)
        · skip
          have hp := hp h3
          refine mTr_g hp ?_
          exact mTr_k (hn c (v_M_partedBy c x1 σ) ((if_neg h0).trans ((if_pos h1).trans ((if_neg h2).trans (if_pos h3)))))
        · skip
          exact mTr_k (hn (s.1) (s.2) ((if_neg h0).trans ((if_pos h1).trans ((if_neg h2).trans (if_neg h3)))))
    · skip
      exact mTr_k (hn (s.1) (s.2) ((if_neg h0).trans (if_neg h1)))
theorem lp_M_next_29 {Post : MST → Prop} (x1 : Int32) (c0 : Int32) (σ : MSto) (s0 : Int32 × Int32) (N : Nat) (hb : ∀ i, i < N → g_M_next_29 x1 (c0 + nI i) σ (f_M_next_29 x1 c0 σ s0 i) ∧ ¬ q_M_next_29s x1 (c0 + nI i) σ (f_M_next_29 x1 c0 σ s0 i) = 1) (h : mW1 P_M_next (29, [some (mR 13 0), some (mI x1), some (mI ((f_M_next_29 x1 c0 σ s0 N).1)), some (mI ((f_M_next_29 x1 c0 σ s0 N).2)), some (mI (c0 + nI N))], [], σ, 0, 0) Post) : mW1 P_M_next (29, [some (mR 13 0), some (mI x1), some (mI (s0.1)), some (mI (s0.2)), some (mI c0)], [], σ, 0, 0) Post := by
  refine mW1_st (mW1_loop (fun i => (29, [some (mR 13 0), some (mI x1), some (mI ((f_M_next_29 x1 c0 σ s0 i).1)), some (mI ((f_M_next_29 x1 c0 σ s0 i).2)), some (mI (c0 + nI i))], [], σ, 0, 0)) N (fun i hlt hn => ?_) h) (by rw [show nI 0 = 0 from rfl, Int32.add_zero] <;> rfl)
  refine lt_M_next_29 x1 _ σ _ (hb i hlt).1 (hb i hlt).2 (fun r1 r2 hr => ?_)
  rw [Int32.add_assoc, nI_s]
  have e : f_M_next_29 x1 c0 σ s0 (i + 1) = (r1, r2) := hr
  try dsimp only at hn
  rw [e] at hn
  exact hn
set_option maxRecDepth 100000 in
set_option maxHeartbeats 4000000 in
theorem d_M_next (a1 : Int32) (σ : MSto) (hp : p_M_next a1 σ) : mW1 P_M_next (0, [some (mR 13 0), some (mI a1), none, none, none], [], σ, 0, 0) (mF [20, 91, 104] [mI (v_M_next a1 σ)] (e_M_next a1 σ) 0 0) := by
  refine mW1_eq (q_M_next_e _ _) ?_
  unfold p_M_next at hp
  refine mTr_if (fun h0 => ?_) (fun h0 => ?_)
  · skip
    exact mTr_e (by decide) (congrArg (fun z => [mI z]) (Eq.symm (if_pos h0))) (Eq.symm (if_pos h0)) (by decide) (by decide)
  · skip
    have hp := hp h0
    refine mTr_if (fun h1 => ?_) (fun h1 => ?_)
    · skip
      exact mTr_e (by decide) (congrArg (fun z => [mI z]) (Eq.symm ((if_neg h0).trans (if_pos h1)))) (Eq.symm ((if_neg h0).trans (if_pos h1))) (by decide) (by decide)
    · skip
      have hp := hp h1
      refine mTr_k (lp_M_next_29 a1 0 (sI σ 13 0 52 0) ((-2), 0) (n_M_next_29 a1 0 (sI σ 13 0 52 0) ((-2), 0)) hp.1 ?_)
      have hp := hp.2
      refine mW1_eq (q_M_next_29 _ _ _ _ _) ?_
      refine mTr_if (fun h2 => ?_) (fun h2 => ?_)
      · skip
        have hp := hp.1 h2
        refine mTr_if (fun h3 => ?_) (fun h3 => ?_)
        · skip
          have hp := hp h3
          refine mTr_g hp ?_
          exact mTr_e (by decide) (congrArg (fun z => [mI z]) (Eq.symm ((if_neg h0).trans ((if_neg h1).trans (if_pos h3))))) (Eq.symm ((if_neg h0).trans ((if_neg h1).trans (if_pos h3)))) (by decide) (by decide)
        · skip
          exact mTr_e (by decide) (congrArg (fun z => [mI z]) (Eq.symm ((if_neg h0).trans ((if_neg h1).trans (if_neg h3))))) (Eq.symm ((if_neg h0).trans ((if_neg h1).trans (if_neg h3)))) (by decide) (by decide)
      · skip
        have hp := hp.2 h2
        exact hp.elim




theorem tk_M_next : ∀ pc i nx tg, T_M_next pc = some (i, nx, tg) → mOkB prog_14_method_88_code pc i nx tg = true := code_ok (N := 105) (fun k h => by unfold T_M_next; rw [h]; rfl) (by decide +kernel)
theorem ok_M_next (l : Launch) : mPOK l "ClothWithManModel" prog_14_method_88_code P_M_next := by
  refine ⟨tk_M_next, ?_, ?_, ?_, (fun pc i nx tg kd _ h => by cases h), ?_, ?_, fun pc en h => by cases h⟩
  · intro x ci f ty fin h
    exact mLook_all (Q := fun x v => mFOK "ClothWithManModel" x v.1 v.2.1 v.2.2.1 v.2.2.2 ∧ (v.2.2.2 = true → pIni P_M_next = true → (Cond.fieldLink "ClothWithManModel" x (((mCl[v.1]?).getD ("", fun _ => ("", "", "", false), 0)).2.1 v.2.1).1 (((mCl[v.1]?).getD ("", fun _ => ("", "", "", false), 0)).2.1 v.2.1).2.1 (((mCl[v.1]?).getD ("", fun _ => ("", "", "", false), 0)).2.1 v.2.1).2.2.1 ∈ lw_tbl ∧ (((mCl[v.1]?).getD ("", fun _ => ("", "", "", false), 0)).2.1 v.2.1).1 = "ClothWithManModel"))) (fcC ⟨fo_M_161, fun h1 h2 => by cases h1⟩ (fcC ⟨fo_M_164, fun h1 h2 => by cases h1⟩ (fcC ⟨fo_M_185, fun h1 h2 => by cases h1⟩ (fcC ⟨fo_M_188, fun h1 h2 => by cases h1⟩ (fcC ⟨fo_M_277, fun h1 h2 => by cases h1⟩ fcN))))) x (ci, f, ty, fin) h
  · intro x
    have hh := mLook_all (l := ([] : List (Nat × (Int32 ⊕ Int64)))) (Q := fun x (v : Int32 ⊕ Int64) => (∀ w, v = .inl w → Cond.constant "ClothWithManModel" x w ∈ lw_tbl) ∧ (∀ w, v = .inr w → Cond.constantLong "ClothWithManModel" x w ∈ lw_tbl)) fcN x
    exact ⟨fun w h => (hh _ h).1 w rfl, fun w h => (hh _ h).2 w rfl⟩
  · exact fun x en h => mLook_all (Q := fun x en => mLink "ClothWithManModel" x en ∧ mCtr l en ∧ (en.1.1 = 2 → en.2.2.2.2.2.2 = none)) (fcC ⟨li_M_177, c_M_tell l, (fun h => by cases h)⟩ (fcC ⟨li_M_228, c_M_isYear l, (fun h => by cases h)⟩ (fcC ⟨li_M_301, c_M_has l, (fun h => by cases h)⟩ (fcC ⟨li_M_422, c_M_partedBy l, (fun h => by cases h)⟩ fcN)))) x en h
  · exact fun x kd h => mLook_all (Q := fun x kd => (kd = 95 ∧ Cond.fieldLink "ClothWithManModel" x "ClothWithMan" "LIKENESSES" "[I" ∈ lw_tbl) ∨ (kd = 96 ∧ Cond.fieldLink "ClothWithManModel" x "ClothWithMan" "APART_BOUNDS" "[I" ∈ lw_tbl)) fcN x kd h
  · exact fun x ci h => mLook_all (Q := fun x ci => ci ≠ 0 ∧ ∃ (C : String) (T : u_T) (N : Nat), mCl[ci]? = some (C, T, N) ∧ Cond.classLink "ClothWithManModel" x C ∈ lw_tbl ∧ Cond.instantiable C N ∈ lw_tbl) fcN x ci h
set_option maxRecDepth 100000 in
theorem c_M_next (l : Launch) : mCtr l E_M_next := mCtr_of (P := P_M_next) (own := "ClothWithManModel") mLay_ok rfl (by decide +kernel) rfl (ok_M_next l) (fun h => by cases h) (fun as σ pr rv σ' hF hpr hlv => by
  unfold E_M_next S_M_next at hF
  simp only [] at hF
  split at hF
  · cases hF
    obtain ⟨n, pcF, c1, s1, g1, g2, g3, g4⟩ := mF_inv (d_M_next _ σ (hpr _ rfl))
    exact ⟨Nat.le_of_ble_eq_true rfl, (fun v h => by cases h; trivial), n, pcF, c1, s1, g1, ⟨mEnd_of (i := .ireturn) (P := P_M_next) (rets := [20, 91, 104]) rfl g2, rfl⟩, g3, g4⟩
  · cases hF
    exact (hpr _ rfl).elim)
/-! ClothWithManModel.fewest(I)I -/
noncomputable def t_M_fewest_202 (x2 : Int32) (x4 : Int32) (x5 : Int32) (c : Int32) (σ : MSto) (s : Int32) : Int32 := (if (gI σ 13 0 10) ≤ c then s else (if (v_M_has x5 c σ) = 0 then (s ||| 0) else (s ||| (gI σ 86 0 (Int32.toNatClampNeg c)))))
noncomputable def q_M_fewest_202s (x2 : Int32) (x4 : Int32) (x5 : Int32) (c : Int32) (σ : MSto) (s : Int32) : Nat := (if (gI σ 13 0 10) ≤ c then 1 else 0)
def g_M_fewest_202 (x2 : Int32) (x4 : Int32) (x5 : Int32) (c : Int32) (σ : MSto) (s : Int32) : Prop := (¬ ((gI σ 13 0 10) ≤ c) → (¬ ((v_M_has x5 c σ) = 0) → (vp_in c 12)))
noncomputable def f_M_fewest_202 (x2 : Int32) (x4 : Int32) (x5 : Int32) (c0 : Int32) (σ : MSto) (s0 : Int32) (n : Nat) : Int32 := nfold (fun i s => t_M_fewest_202 x2 x4 x5 (c0 + nI i) σ s) s0 n
noncomputable def n_M_fewest_202 (x2 : Int32) (x4 : Int32) (x5 : Int32) (c0 : Int32) (σ : MSto) (s0 : Int32) : Nat := nM σ 10
noncomputable def t_M_fewest_163 (x2 : Int32) (c : Int32) (σ : MSto) (s : Int32) : Int32 := (if ((1 : Int32) <<< ((gI σ 13 0 10) &&& 31)) ≤ c then s else (if s = (-1) then (if (f_M_fewest_202 x2 s c 0 σ 0 (n_M_fewest_202 x2 s c 0 σ 0)) = x2 then c else s) else (if (v_In_bitCount c σ) < (v_In_bitCount s σ) then (if (f_M_fewest_202 x2 s c 0 σ 0 (n_M_fewest_202 x2 s c 0 σ 0)) = x2 then c else s) else s)))
noncomputable def q_M_fewest_163s (x2 : Int32) (c : Int32) (σ : MSto) (s : Int32) : Nat := (if ((1 : Int32) <<< ((gI σ 13 0 10) &&& 31)) ≤ c then 1 else 0)
def g_M_fewest_163 (x2 : Int32) (c : Int32) (σ : MSto) (s : Int32) : Prop := (¬ (((1 : Int32) <<< ((gI σ 13 0 10) &&& 31)) ≤ c) → (((s = (-1)) → ((∀ i, i < (n_M_fewest_202 x2 s c 0 σ 0) → g_M_fewest_202 x2 s c (0 + nI i) σ (f_M_fewest_202 x2 s c 0 σ 0 i) ∧ ¬ q_M_fewest_202s x2 s c (0 + nI i) σ (f_M_fewest_202 x2 s c 0 σ 0 i) = 1) ∧ (¬ ((gI σ 13 0 10) ≤ (0 + nI (n_M_fewest_202 x2 s c 0 σ 0))) → False))) ∧ (¬ (s = (-1)) → (((v_In_bitCount c σ) < (v_In_bitCount s σ)) → ((∀ i, i < (n_M_fewest_202 x2 s c 0 σ 0) → g_M_fewest_202 x2 s c (0 + nI i) σ (f_M_fewest_202 x2 s c 0 σ 0 i) ∧ ¬ q_M_fewest_202s x2 s c (0 + nI i) σ (f_M_fewest_202 x2 s c 0 σ 0 i) = 1) ∧ (¬ ((gI σ 13 0 10) ≤ (0 + nI (n_M_fewest_202 x2 s c 0 σ 0))) → False))))))
noncomputable def f_M_fewest_163 (x2 : Int32) (c0 : Int32) (σ : MSto) (s0 : Int32) (n : Nat) : Int32 := nfold (fun i s => t_M_fewest_163 x2 (c0 + nI i) σ s) s0 n
noncomputable def n_M_fewest_163 (x2 : Int32) (c0 : Int32) (σ : MSto) (s0 : Int32) : Nat := 2^(nM σ 10)
noncomputable def t_M_fewest_75 (x1 : Int32) (x2 : Int32) (x3 : Int32) (x4 : Int32) (x5 : Int32) (c : Int32) (s : MSto) : MSto := (if (gI s 13 0 10) ≤ c then s else (if (v_M_areParted x4 x5 (gI s 47 0 (Int32.toNatClampNeg c)) (gI s 48 0 (Int32.toNatClampNeg c)) (gI s 49 0 (Int32.toNatClampNeg c)) (gI s 50 0 (Int32.toNatClampNeg c)) x1 s) = 0 then s else (sI s 86 0 (Int32.toNatClampNeg c) ((gI s 86 0 (Int32.toNatClampNeg c)) ||| x3))))
noncomputable def q_M_fewest_75s (x1 : Int32) (x2 : Int32) (x3 : Int32) (x4 : Int32) (x5 : Int32) (c : Int32) (s : MSto) : Nat := (if (gI s 13 0 10) ≤ c then 1 else 0)
def g_M_fewest_75 (x1 : Int32) (x2 : Int32) (x3 : Int32) (x4 : Int32) (x5 : Int32) (c : Int32) (s : MSto) : Prop := (¬ ((gI s 13 0 10) ≤ c) → ((vp_in c 12) ∧ ((vp_in c 12) ∧ ((vp_in c 12) ∧ ((vp_in c 12) ∧ ((p_M_areParted x4 x5 (gI s 47 0 (Int32.toNatClampNeg c)) (gI s 48 0 (Int32.toNatClampNeg c)) (gI s 49 0 (Int32.toNatClampNeg c)) (gI s 50 0 (Int32.toNatClampNeg c)) x1 s) ∧ (¬ ((v_M_areParted x4 x5 (gI s 47 0 (Int32.toNatClampNeg c)) (gI s 48 0 (Int32.toNatClampNeg c)) (gI s 49 0 (Int32.toNatClampNeg c)) (gI s 50 0 (Int32.toNatClampNeg c)) x1 s) = 0) → ((vp_in c 12) ∧ (vp_in c 12)))))))))
noncomputable def f_M_fewest_75 (x1 : Int32) (x2 : Int32) (x3 : Int32) (x4 : Int32) (x5 : Int32) (c0 : Int32) (s0 : MSto) (n : Nat) : MSto := nfold (fun i s => t_M_fewest_75 x1 x2 x3 x4 x5 (c0 + nI i) s) s0 n
noncomputable def n_M_fewest_75 (x1 : Int32) (x2 : Int32) (x3 : Int32) (x4 : Int32) (x5 : Int32) (c0 : Int32) (s0 : MSto) : Nat := nM s0 10
noncomputable def t_M_fewest_59 (x1 : Int32) (x4 : Int32) (c : Int32) (s : Int32 × Int32 × MSto) : Int32 × Int32 × MSto := (if (gI (s.2.2) 13 0 17) ≤ c then s else (((s.1) ||| (s.2.1)), ((s.2.1) <<< (1 &&& 31)), (f_M_fewest_75 x1 ((s.1) ||| (s.2.1)) (s.2.1) x4 c 0 (s.2.2) (n_M_fewest_75 x1 ((s.1) ||| (s.2.1)) (s.2.1) x4 c 0 (s.2.2)))))
noncomputable def q_M_fewest_59s (x1 : Int32) (x4 : Int32) (c : Int32) (s : Int32 × Int32 × MSto) : Nat := (if (gI (s.2.2) 13 0 17) ≤ c then 1 else 0)
def g_M_fewest_59 (x1 : Int32) (x4 : Int32) (c : Int32) (s : Int32 × Int32 × MSto) : Prop := (¬ ((gI (s.2.2) 13 0 17) ≤ c) → ((∀ i, i < (n_M_fewest_75 x1 ((s.1) ||| (s.2.1)) (s.2.1) x4 c 0 (s.2.2)) → g_M_fewest_75 x1 ((s.1) ||| (s.2.1)) (s.2.1) x4 c (0 + nI i) (f_M_fewest_75 x1 ((s.1) ||| (s.2.1)) (s.2.1) x4 c 0 (s.2.2) i) ∧ ¬ q_M_fewest_75s x1 ((s.1) ||| (s.2.1)) (s.2.1) x4 c (0 + nI i) (f_M_fewest_75 x1 ((s.1) ||| (s.2.1)) (s.2.1) x4 c 0 (s.2.2) i) = 1) ∧ (¬ ((gI (f_M_fewest_75 x1 ((s.1) ||| (s.2.1)) (s.2.1) x4 c 0 (s.2.2) (n_M_fewest_75 x1 ((s.1) ||| (s.2.1)) (s.2.1) x4 c 0 (s.2.2))) 13 0 10) ≤ (0 + nI (n_M_fewest_75 x1 ((s.1) ||| (s.2.1)) (s.2.1) x4 c 0 (s.2.2)))) → False)))
noncomputable def f_M_fewest_59 (x1 : Int32) (x4 : Int32) (c0 : Int32) (s0 : Int32 × Int32 × MSto) (n : Nat) : Int32 × Int32 × MSto := nfold (fun i s => t_M_fewest_59 x1 x4 (c0 + nI i) s) s0 n
noncomputable def n_M_fewest_59 (x1 : Int32) (x4 : Int32) (c0 : Int32) (s0 : Int32 × Int32 × MSto) : Nat := (nM (s0.2.2) 17 - c0.toNatClampNeg)
noncomputable def t_M_fewest_44 (x1 : Int32) (c : Int32) (s : Int32 × Int32 × MSto) : Int32 × Int32 × MSto := (if (gI (s.2.2) 13 0 17) ≤ c then s else (((f_M_fewest_59 x1 c (c + 1) ((s.1), (s.2.1), (s.2.2)) (n_M_fewest_59 x1 c (c + 1) ((s.1), (s.2.1), (s.2.2)))).1), ((f_M_fewest_59 x1 c (c + 1) ((s.1), (s.2.1), (s.2.2)) (n_M_fewest_59 x1 c (c + 1) ((s.1), (s.2.1), (s.2.2)))).2.1), ((f_M_fewest_59 x1 c (c + 1) ((s.1), (s.2.1), (s.2.2)) (n_M_fewest_59 x1 c (c + 1) ((s.1), (s.2.1), (s.2.2)))).2.2)))
noncomputable def q_M_fewest_44s (x1 : Int32) (c : Int32) (s : Int32 × Int32 × MSto) : Nat := (if (gI (s.2.2) 13 0 17) ≤ c then 1 else 0)
def g_M_fewest_44 (x1 : Int32) (c : Int32) (s : Int32 × Int32 × MSto) : Prop := (¬ ((gI (s.2.2) 13 0 17) ≤ c) → ((∀ i, i < (n_M_fewest_59 x1 c (c + 1) ((s.1), (s.2.1), (s.2.2))) → g_M_fewest_59 x1 c ((c + 1) + nI i) (f_M_fewest_59 x1 c (c + 1) ((s.1), (s.2.1), (s.2.2)) i) ∧ ¬ q_M_fewest_59s x1 c ((c + 1) + nI i) (f_M_fewest_59 x1 c (c + 1) ((s.1), (s.2.1), (s.2.2)) i) = 1) ∧ (¬ ((gI ((f_M_fewest_59 x1 c (c + 1) ((s.1), (s.2.1), (s.2.2)) (n_M_fewest_59 x1 c (c + 1) ((s.1), (s.2.1), (s.2.2)))).2.2) 13 0 17) ≤ ((c + 1) + nI (n_M_fewest_59 x1 c (c + 1) ((s.1), (s.2.1), (s.2.2))))) → False)))
noncomputable def f_M_fewest_44 (x1 : Int32) (c0 : Int32) (s0 : Int32 × Int32 × MSto) (n : Nat) : Int32 × Int32 × MSto := nfold (fun i s => t_M_fewest_44 x1 (c0 + nI i) s) s0 n
noncomputable def n_M_fewest_44 (x1 : Int32) (c0 : Int32) (s0 : Int32 × Int32 × MSto) : Nat := nM (s0.2.2) 17
noncomputable def t_M_fewest_18 (x1 : Int32) (x2 : Int32) (c : Int32) (s : MSto) : MSto := (if (gI s 13 0 10) ≤ c then s else (sI s 86 0 (Int32.toNatClampNeg c) 0))
noncomputable def q_M_fewest_18s (x1 : Int32) (x2 : Int32) (c : Int32) (s : MSto) : Nat := (if (gI s 13 0 10) ≤ c then 1 else 0)
def g_M_fewest_18 (x1 : Int32) (x2 : Int32) (c : Int32) (s : MSto) : Prop := (¬ ((gI s 13 0 10) ≤ c) → (vp_in c 12))
noncomputable def f_M_fewest_18 (x1 : Int32) (x2 : Int32) (c0 : Int32) (s0 : MSto) (n : Nat) : MSto := nfold (fun i s => t_M_fewest_18 x1 x2 (c0 + nI i) s) s0 n
noncomputable def n_M_fewest_18 (x1 : Int32) (x2 : Int32) (c0 : Int32) (s0 : MSto) : Nat := nM s0 10
noncomputable def v_M_fewest (a1 : Int32) (σ : MSto) : Int32 := (if (v_M_isYear a1 (sI σ 13 0 52 0)) = 0 then (-1) else (if (f_M_fewest_163 ((f_M_fewest_44 a1 0 (0, 1, (f_M_fewest_18 a1 0 0 (sI σ 13 0 52 0) (n_M_fewest_18 a1 0 0 (sI σ 13 0 52 0)))) (n_M_fewest_44 a1 0 (0, 1, (f_M_fewest_18 a1 0 0 (sI σ 13 0 52 0) (n_M_fewest_18 a1 0 0 (sI σ 13 0 52 0)))))).1) 0 ((f_M_fewest_44 a1 0 (0, 1, (f_M_fewest_18 a1 0 0 (sI σ 13 0 52 0) (n_M_fewest_18 a1 0 0 (sI σ 13 0 52 0)))) (n_M_fewest_44 a1 0 (0, 1, (f_M_fewest_18 a1 0 0 (sI σ 13 0 52 0) (n_M_fewest_18 a1 0 0 (sI σ 13 0 52 0)))))).2.2) (-1) (n_M_fewest_163 ((f_M_fewest_44 a1 0 (0, 1, (f_M_fewest_18 a1 0 0 (sI σ 13 0 52 0) (n_M_fewest_18 a1 0 0 (sI σ 13 0 52 0)))) (n_M_fewest_44 a1 0 (0, 1, (f_M_fewest_18 a1 0 0 (sI σ 13 0 52 0) (n_M_fewest_18 a1 0 0 (sI σ 13 0 52 0)))))).1) 0 ((f_M_fewest_44 a1 0 (0, 1, (f_M_fewest_18 a1 0 0 (sI σ 13 0 52 0) (n_M_fewest_18 a1 0 0 (sI σ 13 0 52 0)))) (n_M_fewest_44 a1 0 (0, 1, (f_M_fewest_18 a1 0 0 (sI σ 13 0 52 0) (n_M_fewest_18 a1 0 0 (sI σ 13 0 52 0)))))).2.2) (-1))) = (-1) then (-2) else (v_In_bitCount (f_M_fewest_163 ((f_M_fewest_44 a1 0 (0, 1, (f_M_fewest_18 a1 0 0 (sI σ 13 0 52 0) (n_M_fewest_18 a1 0 0 (sI σ 13 0 52 0)))) (n_M_fewest_44 a1 0 (0, 1, (f_M_fewest_18 a1 0 0 (sI σ 13 0 52 0) (n_M_fewest_18 a1 0 0 (sI σ 13 0 52 0)))))).1) 0 ((f_M_fewest_44 a1 0 (0, 1, (f_M_fewest_18 a1 0 0 (sI σ 13 0 52 0) (n_M_fewest_18 a1 0 0 (sI σ 13 0 52 0)))) (n_M_fewest_44 a1 0 (0, 1, (f_M_fewest_18 a1 0 0 (sI σ 13 0 52 0) (n_M_fewest_18 a1 0 0 (sI σ 13 0 52 0)))))).2.2) (-1) (n_M_fewest_163 ((f_M_fewest_44 a1 0 (0, 1, (f_M_fewest_18 a1 0 0 (sI σ 13 0 52 0) (n_M_fewest_18 a1 0 0 (sI σ 13 0 52 0)))) (n_M_fewest_44 a1 0 (0, 1, (f_M_fewest_18 a1 0 0 (sI σ 13 0 52 0) (n_M_fewest_18 a1 0 0 (sI σ 13 0 52 0)))))).1) 0 ((f_M_fewest_44 a1 0 (0, 1, (f_M_fewest_18 a1 0 0 (sI σ 13 0 52 0) (n_M_fewest_18 a1 0 0 (sI σ 13 0 52 0)))) (n_M_fewest_44 a1 0 (0, 1, (f_M_fewest_18 a1 0 0 (sI σ 13 0 52 0) (n_M_fewest_18 a1 0 0 (sI σ 13 0 52 0)))))).2.2) (-1))) (e_M_tell (Int32.toInt64 (f_M_fewest_163 ((f_M_fewest_44 a1 0 (0, 1, (f_M_fewest_18 a1 0 0 (sI σ 13 0 52 0) (n_M_fewest_18 a1 0 0 (sI σ 13 0 52 0)))) (n_M_fewest_44 a1 0 (0, 1, (f_M_fewest_18 a1 0 0 (sI σ 13 0 52 0) (n_M_fewest_18 a1 0 0 (sI σ 13 0 52 0)))))).1) 0 ((f_M_fewest_44 a1 0 (0, 1, (f_M_fewest_18 a1 0 0 (sI σ 13 0 52 0) (n_M_fewest_18 a1 0 0 (sI σ 13 0 52 0)))) (n_M_fewest_44 a1 0 (0, 1, (f_M_fewest_18 a1 0 0 (sI σ 13 0 52 0) (n_M_fewest_18 a1 0 0 (sI σ 13 0 52 0)))))).2.2) (-1) (n_M_fewest_163 ((f_M_fewest_44 a1 0 (0, 1, (f_M_fewest_18 a1 0 0 (sI σ 13 0 52 0) (n_M_fewest_18 a1 0 0 (sI σ 13 0 52 0)))) (n_M_fewest_44 a1 0 (0, 1, (f_M_fewest_18 a1 0 0 (sI σ 13 0 52 0) (n_M_fewest_18 a1 0 0 (sI σ 13 0 52 0)))))).1) 0 ((f_M_fewest_44 a1 0 (0, 1, (f_M_fewest_18 a1 0 0 (sI σ 13 0 52 0) (n_M_fewest_18 a1 0 0 (sI σ 13 0 52 0)))) (n_M_fewest_44 a1 0 (0, 1, (f_M_fewest_18 a1 0 0 (sI σ 13 0 52 0) (n_M_fewest_18 a1 0 0 (sI σ 13 0 52 0)))))).2.2) (-1)))) (sI ((f_M_fewest_44 a1 0 (0, 1, (f_M_fewest_18 a1 0 0 (sI σ 13 0 52 0) (n_M_fewest_18 a1 0 0 (sI σ 13 0 52 0)))) (n_M_fewest_44 a1 0 (0, 1, (f_M_fewest_18 a1 0 0 (sI σ 13 0 52 0) (n_M_fewest_18 a1 0 0 (sI σ 13 0 52 0)))))).2.2) 13 0 51 0)))))
def p_M_fewest (a1 : Int32) (σ : MSto) : Prop := (¬ ((v_M_isYear a1 (sI σ 13 0 52 0)) = 0) → ((∀ i, i < (n_M_fewest_18 a1 0 0 (sI σ 13 0 52 0)) → g_M_fewest_18 a1 0 (0 + nI i) (f_M_fewest_18 a1 0 0 (sI σ 13 0 52 0) i) ∧ ¬ q_M_fewest_18s a1 0 (0 + nI i) (f_M_fewest_18 a1 0 0 (sI σ 13 0 52 0) i) = 1) ∧ ((((gI (f_M_fewest_18 a1 0 0 (sI σ 13 0 52 0) (n_M_fewest_18 a1 0 0 (sI σ 13 0 52 0))) 13 0 10) ≤ (0 + nI (n_M_fewest_18 a1 0 0 (sI σ 13 0 52 0)))) → ((∀ i, i < (n_M_fewest_44 a1 0 (0, 1, (f_M_fewest_18 a1 0 0 (sI σ 13 0 52 0) (n_M_fewest_18 a1 0 0 (sI σ 13 0 52 0))))) → g_M_fewest_44 a1 (0 + nI i) (f_M_fewest_44 a1 0 (0, 1, (f_M_fewest_18 a1 0 0 (sI σ 13 0 52 0) (n_M_fewest_18 a1 0 0 (sI σ 13 0 52 0)))) i) ∧ ¬ q_M_fewest_44s a1 (0 + nI i) (f_M_fewest_44 a1 0 (0, 1, (f_M_fewest_18 a1 0 0 (sI σ 13 0 52 0) (n_M_fewest_18 a1 0 0 (sI σ 13 0 52 0)))) i) = 1) ∧ ((((gI ((f_M_fewest_44 a1 0 (0, 1, (f_M_fewest_18 a1 0 0 (sI σ 13 0 52 0) (n_M_fewest_18 a1 0 0 (sI σ 13 0 52 0)))) (n_M_fewest_44 a1 0 (0, 1, (f_M_fewest_18 a1 0 0 (sI σ 13 0 52 0) (n_M_fewest_18 a1 0 0 (sI σ 13 0 52 0)))))).2.2) 13 0 17) ≤ (0 + nI (n_M_fewest_44 a1 0 (0, 1, (f_M_fewest_18 a1 0 0 (sI σ 13 0 52 0) (n_M_fewest_18 a1 0 0 (sI σ 13 0 52 0))))))) → ((∀ i, i < (n_M_fewest_163 ((f_M_fewest_44 a1 0 (0, 1, (f_M_fewest_18 a1 0 0 (sI σ 13 0 52 0) (n_M_fewest_18 a1 0 0 (sI σ 13 0 52 0)))) (n_M_fewest_44 a1 0 (0, 1, (f_M_fewest_18 a1 0 0 (sI σ 13 0 52 0) (n_M_fewest_18 a1 0 0 (sI σ 13 0 52 0)))))).1) 0 ((f_M_fewest_44 a1 0 (0, 1, (f_M_fewest_18 a1 0 0 (sI σ 13 0 52 0) (n_M_fewest_18 a1 0 0 (sI σ 13 0 52 0)))) (n_M_fewest_44 a1 0 (0, 1, (f_M_fewest_18 a1 0 0 (sI σ 13 0 52 0) (n_M_fewest_18 a1 0 0 (sI σ 13 0 52 0)))))).2.2) (-1)) → g_M_fewest_163 ((f_M_fewest_44 a1 0 (0, 1, (f_M_fewest_18 a1 0 0 (sI σ 13 0 52 0) (n_M_fewest_18 a1 0 0 (sI σ 13 0 52 0)))) (n_M_fewest_44 a1 0 (0, 1, (f_M_fewest_18 a1 0 0 (sI σ 13 0 52 0) (n_M_fewest_18 a1 0 0 (sI σ 13 0 52 0)))))).1) (0 + nI i) ((f_M_fewest_44 a1 0 (0, 1, (f_M_fewest_18 a1 0 0 (sI σ 13 0 52 0) (n_M_fewest_18 a1 0 0 (sI σ 13 0 52 0)))) (n_M_fewest_44 a1 0 (0, 1, (f_M_fewest_18 a1 0 0 (sI σ 13 0 52 0) (n_M_fewest_18 a1 0 0 (sI σ 13 0 52 0)))))).2.2) (f_M_fewest_163 ((f_M_fewest_44 a1 0 (0, 1, (f_M_fewest_18 a1 0 0 (sI σ 13 0 52 0) (n_M_fewest_18 a1 0 0 (sI σ 13 0 52 0)))) (n_M_fewest_44 a1 0 (0, 1, (f_M_fewest_18 a1 0 0 (sI σ 13 0 52 0) (n_M_fewest_18 a1 0 0 (sI σ 13 0 52 0)))))).1) 0 ((f_M_fewest_44 a1 0 (0, 1, (f_M_fewest_18 a1 0 0 (sI σ 13 0 52 0) (n_M_fewest_18 a1 0 0 (sI σ 13 0 52 0)))) (n_M_fewest_44 a1 0 (0, 1, (f_M_fewest_18 a1 0 0 (sI σ 13 0 52 0) (n_M_fewest_18 a1 0 0 (sI σ 13 0 52 0)))))).2.2) (-1) i) ∧ ¬ q_M_fewest_163s ((f_M_fewest_44 a1 0 (0, 1, (f_M_fewest_18 a1 0 0 (sI σ 13 0 52 0) (n_M_fewest_18 a1 0 0 (sI σ 13 0 52 0)))) (n_M_fewest_44 a1 0 (0, 1, (f_M_fewest_18 a1 0 0 (sI σ 13 0 52 0) (n_M_fewest_18 a1 0 0 (sI σ 13 0 52 0)))))).1) (0 + nI i) ((f_M_fewest_44 a1 0 (0, 1, (f_M_fewest_18 a1 0 0 (sI σ 13 0 52 0) (n_M_fewest_18 a1 0 0 (sI σ 13 0 52 0)))) (n_M_fewest_44 a1 0 (0, 1, (f_M_fewest_18 a1 0 0 (sI σ 13 0 52 0) (n_M_fewest_18 a1 0 0 (sI σ 13 0 52 0)))))).2.2) (f_M_fewest_163 ((f_M_fewest_44 a1 0 (0, 1, (f_M_fewest_18 a1 0 0 (sI σ 13 0 52 0) (n_M_fewest_18 a1 0 0 (sI σ 13 0 52 0)))) (n_M_fewest_44 a1 0 (0, 1, (f_M_fewest_18 a1 0 0 (sI σ 13 0 52 0) (n_M_fewest_18 a1 0 0 (sI σ 13 0 52 0)))))).1) 0 ((f_M_fewest_44 a1 0 (0, 1, (f_M_fewest_18 a1 0 0 (sI σ 13 0 52 0) (n_M_fewest_18 a1 0 0 (sI σ 13 0 52 0)))) (n_M_fewest_44 a1 0 (0, 1, (f_M_fewest_18 a1 0 0 (sI σ 13 0 52 0) (n_M_fewest_18 a1 0 0 (sI σ 13 0 52 0)))))).2.2) (-1) i) = 1) ∧ (((((1 : Int32) <<< ((gI ((f_M_fewest_44 a1 0 (0, 1, (f_M_fewest_18 a1 0 0 (sI σ 13 0 52 0) (n_M_fewest_18 a1 0 0 (sI σ 13 0 52 0)))) (n_M_fewest_44 a1 0 (0, 1, (f_M_fewest_18 a1 0 0 (sI σ 13 0 52 0) (n_M_fewest_18 a1 0 0 (sI σ 13 0 52 0)))))).2.2) 13 0 10) &&& 31)) ≤ (0 + nI (n_M_fewest_163 ((f_M_fewest_44 a1 0 (0, 1, (f_M_fewest_18 a1 0 0 (sI σ 13 0 52 0) (n_M_fewest_18 a1 0 0 (sI σ 13 0 52 0)))) (n_M_fewest_44 a1 0 (0, 1, (f_M_fewest_18 a1 0 0 (sI σ 13 0 52 0) (n_M_fewest_18 a1 0 0 (sI σ 13 0 52 0)))))).1) 0 ((f_M_fewest_44 a1 0 (0, 1, (f_M_fewest_18 a1 0 0 (sI σ 13 0 52 0) (n_M_fewest_18 a1 0 0 (sI σ 13 0 52 0)))) (n_M_fewest_44 a1 0 (0, 1, (f_M_fewest_18 a1 0 0 (sI σ 13 0 52 0) (n_M_fewest_18 a1 0 0 (sI σ 13 0 52 0)))))).2.2) (-1)))) → (¬ ((f_M_fewest_163 ((f_M_fewest_44 a1 0 (0, 1, (f_M_fewest_18 a1 0 0 (sI σ 13 0 52 0) (n_M_fewest_18 a1 0 0 (sI σ 13 0 52 0)))) (n_M_fewest_44 a1 0 (0, 1, (f_M_fewest_18 a1 0 0 (sI σ 13 0 52 0) (n_M_fewest_18 a1 0 0 (sI σ 13 0 52 0)))))).1) 0 ((f_M_fewest_44 a1 0 (0, 1, (f_M_fewest_18 a1 0 0 (sI σ 13 0 52 0) (n_M_fewest_18 a1 0 0 (sI σ 13 0 52 0)))) (n_M_fewest_44 a1 0 (0, 1, (f_M_fewest_18 a1 0 0 (sI σ 13 0 52 0) (n_M_fewest_18 a1 0 0 (sI σ 13 0 52 0)))))).2.2) (-1) (n_M_fewest_163 ((f_M_fewest_44 a1 0 (0, 1, (f_M_fewest_18 a1 0 0 (sI σ 13 0 52 0) (n_M_fewest_18 a1 0 0 (sI σ 13 0 52 0)))) (n_M_fewest_44 a1 0 (0, 1, (f_M_fewest_18 a1 0 0 (sI σ 13 0 52 0) (n_M_fewest_18 a1 0 0 (sI σ 13 0 52 0)))))).1) 0 ((f_M_fewest_44 a1 0 (0, 1, (f_M_fewest_18 a1 0 0 (sI σ 13 0 52 0) (n_M_fewest_18 a1 0 0 (sI σ 13 0 52 0)))) (n_M_fewest_44 a1 0 (0, 1, (f_M_fewest_18 a1 0 0 (sI σ 13 0 52 0) (n_M_fewest_18 a1 0 0 (sI σ 13 0 52 0)))))).2.2) (-1))) = (-1)) → (p_M_tell (Int32.toInt64 (f_M_fewest_163 ((f_M_fewest_44 a1 0 (0, 1, (f_M_fewest_18 a1 0 0 (sI σ 13 0 52 0) (n_M_fewest_18 a1 0 0 (sI σ 13 0 52 0)))) (n_M_fewest_44 a1 0 (0, 1, (f_M_fewest_18 a1 0 0 (sI σ 13 0 52 0) (n_M_fewest_18 a1 0 0 (sI σ 13 0 52 0)))))).1) 0 ((f_M_fewest_44 a1 0 (0, 1, (f_M_fewest_18 a1 0 0 (sI σ 13 0 52 0) (n_M_fewest_18 a1 0 0 (sI σ 13 0 52 0)))) (n_M_fewest_44 a1 0 (0, 1, (f_M_fewest_18 a1 0 0 (sI σ 13 0 52 0) (n_M_fewest_18 a1 0 0 (sI σ 13 0 52 0)))))).2.2) (-1) (n_M_fewest_163 ((f_M_fewest_44 a1 0 (0, 1, (f_M_fewest_18 a1 0 0 (sI σ 13 0 52 0) (n_M_fewest_18 a1 0 0 (sI σ 13 0 52 0)))) (n_M_fewest_44 a1 0 (0, 1, (f_M_fewest_18 a1 0 0 (sI σ 13 0 52 0) (n_M_fewest_18 a1 0 0 (sI σ 13 0 52 0)))))).1) 0 ((f_M_fewest_44 a1 0 (0, 1, (f_M_fewest_18 a1 0 0 (sI σ 13 0 52 0) (n_M_fewest_18 a1 0 0 (sI σ 13 0 52 0)))) (n_M_fewest_44 a1 0 (0, 1, (f_M_fewest_18 a1 0 0 (sI σ 13 0 52 0) (n_M_fewest_18 a1 0 0 (sI σ 13 0 52 0)))))).2.2) (-1)))) (sI ((f_M_fewest_44 a1 0 (0, 1, (f_M_fewest_18 a1 0 0 (sI σ 13 0 52 0) (n_M_fewest_18 a1 0 0 (sI σ 13 0 52 0)))) (n_M_fewest_44 a1 0 (0, 1, (f_M_fewest_18 a1 0 0 (sI σ 13 0 52 0) (n_M_fewest_18 a1 0 0 (sI σ 13 0 52 0)))))).2.2) 13 0 51 0)))) ∧ (¬ (((1 : Int32) <<< ((gI ((f_M_fewest_44 a1 0 (0, 1, (f_M_fewest_18 a1 0 0 (sI σ 13 0 52 0) (n_M_fewest_18 a1 0 0 (sI σ 13 0 52 0)))) (n_M_fewest_44 a1 0 (0, 1, (f_M_fewest_18 a1 0 0 (sI σ 13 0 52 0) (n_M_fewest_18 a1 0 0 (sI σ 13 0 52 0)))))).2.2) 13 0 10) &&& 31)) ≤ (0 + nI (n_M_fewest_163 ((f_M_fewest_44 a1 0 (0, 1, (f_M_fewest_18 a1 0 0 (sI σ 13 0 52 0) (n_M_fewest_18 a1 0 0 (sI σ 13 0 52 0)))) (n_M_fewest_44 a1 0 (0, 1, (f_M_fewest_18 a1 0 0 (sI σ 13 0 52 0) (n_M_fewest_18 a1 0 0 (sI σ 13 0 52 0)))))).1) 0 ((f_M_fewest_44 a1 0 (0, 1, (f_M_fewest_18 a1 0 0 (sI σ 13 0 52 0) (n_M_fewest_18 a1 0 0 (sI σ 13 0 52 0)))) (n_M_fewest_44 a1 0 (0, 1, (f_M_fewest_18 a1 0 0 (sI σ 13 0 52 0) (n_M_fewest_18 a1 0 0 (sI σ 13 0 52 0)))))).2.2) (-1)))) → False)))) ∧ (¬ ((gI ((f_M_fewest_44 a1 0 (0, 1, (f_M_fewest_18 a1 0 0 (sI σ 13 0 52 0) (n_M_fewest_18 a1 0 0 (sI σ 13 0 52 0)))) (n_M_fewest_44 a1 0 (0, 1, (f_M_fewest_18 a1 0 0 (sI σ 13 0 52 0) (n_M_fewest_18 a1 0 0 (sI σ 13 0 52 0)))))).2.2) 13 0 17) ≤ (0 + nI (n_M_fewest_44 a1 0 (0, 1, (f_M_fewest_18 a1 0 0 (sI σ 13 0 52 0) (n_M_fewest_18 a1 0 0 (sI σ 13 0 52 0))))))) → False)))) ∧ (¬ ((gI (f_M_fewest_18 a1 0 0 (sI σ 13 0 52 0) (n_M_fewest_18 a1 0 0 (sI σ 13 0 52 0))) 13 0 10) ≤ (0 + nI (n_M_fewest_18 a1 0 0 (sI σ 13 0 52 0)))) → False))))
noncomputable def e_M_fewest (a1 : Int32) (σ : MSto) : MSto := (if (v_M_isYear a1 (sI σ 13 0 52 0)) = 0 then (sI σ 13 0 52 0) else (if (f_M_fewest_163 ((f_M_fewest_44 a1 0 (0, 1, (f_M_fewest_18 a1 0 0 (sI σ 13 0 52 0) (n_M_fewest_18 a1 0 0 (sI σ 13 0 52 0)))) (n_M_fewest_44 a1 0 (0, 1, (f_M_fewest_18 a1 0 0 (sI σ 13 0 52 0) (n_M_fewest_18 a1 0 0 (sI σ 13 0 52 0)))))).1) 0 ((f_M_fewest_44 a1 0 (0, 1, (f_M_fewest_18 a1 0 0 (sI σ 13 0 52 0) (n_M_fewest_18 a1 0 0 (sI σ 13 0 52 0)))) (n_M_fewest_44 a1 0 (0, 1, (f_M_fewest_18 a1 0 0 (sI σ 13 0 52 0) (n_M_fewest_18 a1 0 0 (sI σ 13 0 52 0)))))).2.2) (-1) (n_M_fewest_163 ((f_M_fewest_44 a1 0 (0, 1, (f_M_fewest_18 a1 0 0 (sI σ 13 0 52 0) (n_M_fewest_18 a1 0 0 (sI σ 13 0 52 0)))) (n_M_fewest_44 a1 0 (0, 1, (f_M_fewest_18 a1 0 0 (sI σ 13 0 52 0) (n_M_fewest_18 a1 0 0 (sI σ 13 0 52 0)))))).1) 0 ((f_M_fewest_44 a1 0 (0, 1, (f_M_fewest_18 a1 0 0 (sI σ 13 0 52 0) (n_M_fewest_18 a1 0 0 (sI σ 13 0 52 0)))) (n_M_fewest_44 a1 0 (0, 1, (f_M_fewest_18 a1 0 0 (sI σ 13 0 52 0) (n_M_fewest_18 a1 0 0 (sI σ 13 0 52 0)))))).2.2) (-1))) = (-1) then ((f_M_fewest_44 a1 0 (0, 1, (f_M_fewest_18 a1 0 0 (sI σ 13 0 52 0) (n_M_fewest_18 a1 0 0 (sI σ 13 0 52 0)))) (n_M_fewest_44 a1 0 (0, 1, (f_M_fewest_18 a1 0 0 (sI σ 13 0 52 0) (n_M_fewest_18 a1 0 0 (sI σ 13 0 52 0)))))).2.2) else (e_M_tell (Int32.toInt64 (f_M_fewest_163 ((f_M_fewest_44 a1 0 (0, 1, (f_M_fewest_18 a1 0 0 (sI σ 13 0 52 0) (n_M_fewest_18 a1 0 0 (sI σ 13 0 52 0)))) (n_M_fewest_44 a1 0 (0, 1, (f_M_fewest_18 a1 0 0 (sI σ 13 0 52 0) (n_M_fewest_18 a1 0 0 (sI σ 13 0 52 0)))))).1) 0 ((f_M_fewest_44 a1 0 (0, 1, (f_M_fewest_18 a1 0 0 (sI σ 13 0 52 0) (n_M_fewest_18 a1 0 0 (sI σ 13 0 52 0)))) (n_M_fewest_44 a1 0 (0, 1, (f_M_fewest_18 a1 0 0 (sI σ 13 0 52 0) (n_M_fewest_18 a1 0 0 (sI σ 13 0 52 0)))))).2.2) (-1) (n_M_fewest_163 ((f_M_fewest_44 a1 0 (0, 1, (f_M_fewest_18 a1 0 0 (sI σ 13 0 52 0) (n_M_fewest_18 a1 0 0 (sI σ 13 0 52 0)))) (n_M_fewest_44 a1 0 (0, 1, (f_M_fewest_18 a1 0 0 (sI σ 13 0 52 0) (n_M_fewest_18 a1 0 0 (sI σ 13 0 52 0)))))).1) 0 ((f_M_fewest_44 a1 0 (0, 1, (f_M_fewest_18 a1 0 0 (sI σ 13 0 52 0) (n_M_fewest_18 a1 0 0 (sI σ 13 0 52 0)))) (n_M_fewest_44 a1 0 (0, 1, (f_M_fewest_18 a1 0 0 (sI σ 13 0 52 0) (n_M_fewest_18 a1 0 0 (sI σ 13 0 52 0)))))).2.2) (-1)))) (sI ((f_M_fewest_44 a1 0 (0, 1, (f_M_fewest_18 a1 0 0 (sI σ 13 0 52 0) (n_M_fewest_18 a1 0 0 (sI σ 13 0 52 0)))) (n_M_fewest_44 a1 0 (0, 1, (f_M_fewest_18 a1 0 0 (sI σ 13 0 52 0) (n_M_fewest_18 a1 0 0 (sI σ 13 0 52 0)))))).2.2) 13 0 51 0))))
noncomputable def S_M_fewest : List MV → MSto → Option Prop × Option MV × MSto := fun as σ => match as with
  | [.inr (.inr (some (13, 0))), .inl a0] => (some (p_M_fewest a0 σ), some (mI (v_M_fewest a0 σ)), e_M_fewest a0 σ)
  | _ => (some False, none, σ)
noncomputable def E_M_fewest : MEnt := ((1, 1, 13), (4, 104, 0, 0), S_M_fewest, ((⟨"ClothWithManModel", "fewest", "(I)I"⟩ : MethodName), prog_14_method_89_code, 8, (some .int)))

def T_M_fewest : Nat → Option (Instr × Nat × List Nat) := fun k => bif Nat.blt k 286 then (bif Nat.blt k 132 then (bif Nat.blt k 65 then (bif Nat.blt k 31 then (bif Nat.blt k 15 then (bif Nat.blt k 6 then (bif Nat.blt k 2 then (bif Nat.blt k 1 then (bif Nat.beq k 0 then some (.aload_n 0, 1, []) else none) else (bif Nat.beq k 1 then some (.iconst 0, 2, []) else none)) else (bif Nat.blt k 5 then (bif Nat.beq k 2 then some (.putfield 161, 5, []) else none) else (bif Nat.beq k 5 then some (.iload_n 1, 6, []) else none))) else (bif Nat.blt k 12 then (bif Nat.blt k 9 then (bif Nat.beq k 6 then some (.invokestatic 228, 9, []) else none) else (bif Nat.beq k 9 then some (.ifCond .ne 5, 12, [14]) else none)) else (bif Nat.blt k 13 then (bif Nat.beq k 12 then some (.iconst (-1), 13, []) else none) else (bif Nat.blt k 14 then (bif Nat.beq k 13 then some (.ireturn, 14, []) else none) else (bif Nat.beq k 14 then some (.iconst 0, 15, []) else none))))) else (bif Nat.blt k 20 then (bif Nat.blt k 17 then (bif Nat.blt k 16 then (bif Nat.beq k 15 then some (.istore_n 2, 16, []) else none) else (bif Nat.beq k 16 then some (.iconst 0, 17, []) else none)) else (bif Nat.blt k 18 then (bif Nat.beq k 17 then some (.istore_n 3, 18, []) else none) else (bif Nat.blt k 19 then (bif Nat.beq k 18 then some (.iload_n 3, 19, []) else none) else (bif Nat.beq k 19 then some (.aload_n 0, 20, []) else none)))) else (bif Nat.blt k 26 then (bif Nat.blt k 23 then (bif Nat.beq k 20 then some (.getfield 185, 23, []) else none) else (bif Nat.beq k 23 then some (.if_icmp .ge 16, 26, [39]) else none)) else (bif Nat.blt k 27 then (bif Nat.beq k 26 then some (.aload_n 0, 27, []) else none) else (bif Nat.blt k 30 then (bif Nat.beq k 27 then some (.getfield 158, 30, []) else none) else (bif Nat.beq k 30 then some (.iload_n 3, 31, []) else none)))))) else (bif Nat.blt k 46 then (bif Nat.blt k 39 then (bif Nat.blt k 33 then (bif Nat.blt k 32 then (bif Nat.beq k 31 then some (.iconst 0, 32, []) else none) else (bif Nat.beq k 32 then some (.iastore, 33, []) else none)) else (bif Nat.blt k 36 then (bif Nat.beq k 33 then some (.iinc 3 1, 36, []) else none) else (bif Nat.beq k 36 then some (.goto (-18), 39, [18]) else none))) else (bif Nat.blt k 41 then (bif Nat.blt k 40 then (bif Nat.beq k 39 then some (.iconst 1, 40, []) else none) else (bif Nat.beq k 40 then some (.istore_n 3, 41, []) else none)) else (bif Nat.blt k 42 then (bif Nat.beq k 41 then some (.iconst 0, 42, []) else none) else (bif Nat.blt k 44 then (bif Nat.beq k 42 then some (.istore 4, 44, []) else none) else (bif Nat.beq k 44 then some (.iload 4, 46, []) else none))))) else (bif Nat.blt k 56 then (bif Nat.blt k 50 then (bif Nat.blt k 47 then (bif Nat.beq k 46 then some (.aload_n 0, 47, []) else none) else (bif Nat.beq k 47 then some (.getfield 188, 50, []) else none)) else (bif Nat.blt k 53 then (bif Nat.beq k 50 then some (.if_icmp .ge 107, 53, [157]) else none) else (bif Nat.blt k 55 then (bif Nat.beq k 53 then some (.iload 4, 55, []) else none) else (bif Nat.beq k 55 then some (.iconst 1, 56, []) else none)))) else (bif Nat.blt k 59 then (bif Nat.blt k 57 then (bif Nat.beq k 56 then some (.iadd, 57, []) else none) else (bif Nat.beq k 57 then some (.istore 5, 59, []) else none)) else (bif Nat.blt k 61 then (bif Nat.beq k 59 then some (.iload 5, 61, []) else none) else (bif Nat.blt k 62 then (bif Nat.beq k 61 then some (.aload_n 0, 62, []) else none) else (bif Nat.beq k 62 then some (.getfield 188, 65, []) else none))))))) else (bif Nat.blt k 97 then (bif Nat.blt k 78 then (bif Nat.blt k 71 then (bif Nat.blt k 69 then (bif Nat.blt k 68 then (bif Nat.beq k 65 then some (.if_icmp .ge 86, 68, [151]) else none) else (bif Nat.beq k 68 then some (.iload_n 2, 69, []) else none)) else (bif Nat.blt k 70 then (bif Nat.beq k 69 then some (.iload_n 3, 70, []) else none) else (bif Nat.beq k 70 then some (.ior, 71, []) else none))) else (bif Nat.blt k 73 then (bif Nat.blt k 72 then (bif Nat.beq k 71 then some (.istore_n 2, 72, []) else none) else (bif Nat.beq k 72 then some (.iconst 0, 73, []) else none)) else (bif Nat.blt k 75 then (bif Nat.beq k 73 then some (.istore 6, 75, []) else none) else (bif Nat.blt k 77 then (bif Nat.beq k 75 then some (.iload 6, 77, []) else none) else (bif Nat.beq k 77 then some (.aload_n 0, 78, []) else none))))) else (bif Nat.blt k 89 then (bif Nat.blt k 84 then (bif Nat.blt k 81 then (bif Nat.beq k 78 then some (.getfield 185, 81, []) else none) else (bif Nat.beq k 81 then some (.if_icmp .ge 60, 84, [141]) else none)) else (bif Nat.blt k 85 then (bif Nat.beq k 84 then some (.aload_n 0, 85, []) else none) else (bif Nat.blt k 87 then (bif Nat.beq k 85 then some (.iload 4, 87, []) else none) else (bif Nat.beq k 87 then some (.iload 5, 89, []) else none)))) else (bif Nat.blt k 93 then (bif Nat.blt k 90 then (bif Nat.beq k 89 then some (.aload_n 0, 90, []) else none) else (bif Nat.beq k 90 then some (.getfield 35, 93, []) else none)) else (bif Nat.blt k 95 then (bif Nat.beq k 93 then some (.iload 6, 95, []) else none) else (bif Nat.blt k 96 then (bif Nat.beq k 95 then some (.iaload, 96, []) else none) else (bif Nat.beq k 96 then some (.aload_n 0, 97, []) else none)))))) else (bif Nat.blt k 114 then (bif Nat.blt k 104 then (bif Nat.blt k 102 then (bif Nat.blt k 100 then (bif Nat.beq k 97 then some (.getfield 38, 100, []) else none) else (bif Nat.beq k 100 then some (.iload 6, 102, []) else none)) else (bif Nat.blt k 103 then (bif Nat.beq k 102 then some (.iaload, 103, []) else none) else (bif Nat.beq k 103 then some (.aload_n 0, 104, []) else none))) else (bif Nat.blt k 109 then (bif Nat.blt k 107 then (bif Nat.beq k 104 then some (.getfield 41, 107, []) else none) else (bif Nat.beq k 107 then some (.iload 6, 109, []) else none)) else (bif Nat.blt k 110 then (bif Nat.beq k 109 then some (.iaload, 110, []) else none) else (bif Nat.blt k 111 then (bif Nat.beq k 110 then some (.aload_n 0, 111, []) else none) else (bif Nat.beq k 111 then some (.getfield 44, 114, []) else none))))) else (bif Nat.blt k 124 then (bif Nat.blt k 117 then (bif Nat.blt k 116 then (bif Nat.beq k 114 then some (.iload 6, 116, []) else none) else (bif Nat.beq k 116 then some (.iaload, 117, []) else none)) else (bif Nat.blt k 118 then (bif Nat.beq k 117 then some (.iload_n 1, 118, []) else none) else (bif Nat.blt k 121 then (bif Nat.beq k 118 then some (.invokevirtual 414, 121, []) else none) else (bif Nat.beq k 121 then some (.ifCond .eq 14, 124, [135]) else none)))) else (bif Nat.blt k 128 then (bif Nat.blt k 125 then (bif Nat.beq k 124 then some (.aload_n 0, 125, []) else none) else (bif Nat.beq k 125 then some (.getfield 158, 128, []) else none)) else (bif Nat.blt k 130 then (bif Nat.beq k 128 then some (.iload 6, 130, []) else none) else (bif Nat.blt k 131 then (bif Nat.beq k 130 then some (.dup2, 131, []) else none) else (bif Nat.beq k 131 then some (.iaload, 132, []) else none)))))))) else (bif Nat.blt k 205 then (bif Nat.blt k 166 then (bif Nat.blt k 145 then (bif Nat.blt k 138 then (bif Nat.blt k 134 then (bif Nat.blt k 133 then (bif Nat.beq k 132 then some (.iload_n 3, 133, []) else none) else (bif Nat.beq k 133 then some (.ior, 134, []) else none)) else (bif Nat.blt k 135 then (bif Nat.beq k 134 then some (.iastore, 135, []) else none) else (bif Nat.beq k 135 then some (.iinc 6 1, 138, []) else none))) else (bif Nat.blt k 142 then (bif Nat.blt k 141 then (bif Nat.beq k 138 then some (.goto (-63), 141, [75]) else none) else (bif Nat.beq k 141 then some (.iload_n 3, 142, []) else none)) else (bif Nat.blt k 143 then (bif Nat.beq k 142 then some (.iconst 1, 143, []) else none) else (bif Nat.blt k 144 then (bif Nat.beq k 143 then some (.ishl, 144, []) else none) else (bif Nat.beq k 144 then some (.istore_n 3, 145, []) else none))))) else (bif Nat.blt k 158 then (bif Nat.blt k 151 then (bif Nat.blt k 148 then (bif Nat.beq k 145 then some (.iinc 5 1, 148, []) else none) else (bif Nat.beq k 148 then some (.goto (-89), 151, [59]) else none)) else (bif Nat.blt k 154 then (bif Nat.beq k 151 then some (.iinc 4 1, 154, []) else none) else (bif Nat.blt k 157 then (bif Nat.beq k 154 then some (.goto (-110), 157, [44]) else none) else (bif Nat.beq k 157 then some (.iconst (-1), 158, []) else none)))) else (bif Nat.blt k 161 then (bif Nat.blt k 160 then (bif Nat.beq k 158 then some (.istore 4, 160, []) else none) else (bif Nat.beq k 160 then some (.iconst 0, 161, []) else none)) else (bif Nat.blt k 163 then (bif Nat.beq k 161 then some (.istore 5, 163, []) else none) else (bif Nat.blt k 165 then (bif Nat.beq k 163 then some (.iload 5, 165, []) else none) else (bif Nat.beq k 165 then some (.iconst 1, 166, []) else none)))))) else (bif Nat.blt k 185 then (bif Nat.blt k 174 then (bif Nat.blt k 170 then (bif Nat.blt k 167 then (bif Nat.beq k 166 then some (.aload_n 0, 167, []) else none) else (bif Nat.beq k 167 then some (.getfield 185, 170, []) else none)) else (bif Nat.blt k 171 then (bif Nat.beq k 170 then some (.ishl, 171, []) else none) else (bif Nat.beq k 171 then some (.if_icmp .ge 88, 174, [259]) else none))) else (bif Nat.blt k 177 then (bif Nat.blt k 176 then (bif Nat.beq k 174 then some (.iload 4, 176, []) else none) else (bif Nat.beq k 176 then some (.iconst (-1), 177, []) else none)) else (bif Nat.blt k 180 then (bif Nat.beq k 177 then some (.if_icmp .eq 19, 180, [196]) else none) else (bif Nat.blt k 182 then (bif Nat.beq k 180 then some (.iload 5, 182, []) else none) else (bif Nat.beq k 182 then some (.invokestatic 296, 185, []) else none))))) else (bif Nat.blt k 197 then (bif Nat.blt k 190 then (bif Nat.blt k 187 then (bif Nat.beq k 185 then some (.iload 4, 187, []) else none) else (bif Nat.beq k 187 then some (.invokestatic 296, 190, []) else none)) else (bif Nat.blt k 193 then (bif Nat.beq k 190 then some (.if_icmp .lt 6, 193, [196]) else none) else (bif Nat.blt k 196 then (bif Nat.beq k 193 then some (.goto 60, 196, [253]) else none) else (bif Nat.beq k 196 then some (.iconst 0, 197, []) else none)))) else (bif Nat.blt k 200 then (bif Nat.blt k 199 then (bif Nat.beq k 197 then some (.istore 6, 199, []) else none) else (bif Nat.beq k 199 then some (.iconst 0, 200, []) else none)) else (bif Nat.blt k 202 then (bif Nat.beq k 200 then some (.istore 7, 202, []) else none) else (bif Nat.blt k 204 then (bif Nat.beq k 202 then some (.iload 7, 204, []) else none) else (bif Nat.beq k 204 then some (.aload_n 0, 205, []) else none))))))) else (bif Nat.blt k 246 then (bif Nat.blt k 227 then (bif Nat.blt k 215 then (bif Nat.blt k 211 then (bif Nat.blt k 208 then (bif Nat.beq k 205 then some (.getfield 185, 208, []) else none) else (bif Nat.beq k 208 then some (.if_icmp .ge 35, 211, [243]) else none)) else (bif Nat.blt k 213 then (bif Nat.beq k 211 then some (.iload 6, 213, []) else none) else (bif Nat.beq k 213 then some (.iload 5, 215, []) else none))) else (bif Nat.blt k 220 then (bif Nat.blt k 217 then (bif Nat.beq k 215 then some (.iload 7, 217, []) else none) else (bif Nat.beq k 217 then some (.invokestatic 301, 220, []) else none)) else (bif Nat.blt k 223 then (bif Nat.beq k 220 then some (.ifCond .eq 13, 223, [233]) else none) else (bif Nat.blt k 224 then (bif Nat.beq k 223 then some (.aload_n 0, 224, []) else none) else (bif Nat.beq k 224 then some (.getfield 158, 227, []) else none))))) else (bif Nat.blt k 235 then (bif Nat.blt k 230 then (bif Nat.blt k 229 then (bif Nat.beq k 227 then some (.iload 7, 229, []) else none) else (bif Nat.beq k 229 then some (.iaload, 230, []) else none)) else (bif Nat.blt k 233 then (bif Nat.beq k 230 then some (.goto 4, 233, [234]) else none) else (bif Nat.blt k 234 then (bif Nat.beq k 233 then some (.iconst 0, 234, []) else none) else (bif Nat.beq k 234 then some (.ior, 235, []) else none)))) else (bif Nat.blt k 240 then (bif Nat.blt k 237 then (bif Nat.beq k 235 then some (.istore 6, 237, []) else none) else (bif Nat.beq k 237 then some (.iinc 7 1, 240, []) else none)) else (bif Nat.blt k 243 then (bif Nat.beq k 240 then some (.goto (-38), 243, [202]) else none) else (bif Nat.blt k 245 then (bif Nat.beq k 243 then some (.iload 6, 245, []) else none) else (bif Nat.beq k 245 then some (.iload_n 2, 246, []) else none)))))) else (bif Nat.blt k 268 then (bif Nat.blt k 259 then (bif Nat.blt k 251 then (bif Nat.blt k 249 then (bif Nat.beq k 246 then some (.if_icmp .ne 7, 249, [253]) else none) else (bif Nat.beq k 249 then some (.iload 5, 251, []) else none)) else (bif Nat.blt k 253 then (bif Nat.beq k 251 then some (.istore 4, 253, []) else none) else (bif Nat.blt k 256 then (bif Nat.beq k 253 then some (.iinc 5 1, 256, []) else none) else (bif Nat.beq k 256 then some (.goto (-93), 259, [163]) else none)))) else (bif Nat.blt k 262 then (bif Nat.blt k 261 then (bif Nat.beq k 259 then some (.iload 4, 261, []) else none) else (bif Nat.beq k 261 then some (.iconst (-1), 262, []) else none)) else (bif Nat.blt k 265 then (bif Nat.beq k 262 then some (.if_icmp .ne 6, 265, [268]) else none) else (bif Nat.blt k 267 then (bif Nat.beq k 265 then some (.bipush (-2), 267, []) else none) else (bif Nat.beq k 267 then some (.ireturn, 268, []) else none))))) else (bif Nat.blt k 276 then (bif Nat.blt k 270 then (bif Nat.blt k 269 then (bif Nat.beq k 268 then some (.aload_n 0, 269, []) else none) else (bif Nat.beq k 269 then some (.iconst 0, 270, []) else none)) else (bif Nat.blt k 273 then (bif Nat.beq k 270 then some (.putfield 164, 273, []) else none) else (bif Nat.blt k 274 then (bif Nat.beq k 273 then some (.aload_n 0, 274, []) else none) else (bif Nat.beq k 274 then some (.iload 4, 276, []) else none)))) else (bif Nat.blt k 280 then (bif Nat.blt k 277 then (bif Nat.beq k 276 then some (.i2l, 277, []) else none) else (bif Nat.beq k 277 then some (.invokevirtual 177, 280, []) else none)) else (bif Nat.blt k 282 then (bif Nat.beq k 280 then some (.iload 4, 282, []) else none) else (bif Nat.blt k 285 then (bif Nat.beq k 282 then some (.invokestatic 296, 285, []) else none) else (bif Nat.beq k 285 then some (.ireturn, 286, []) else none))))))))) else none
noncomputable def P_M_fewest : MP := (T_M_fewest, (fun k => mLook k [(35, (13, 11, (.array .int), true)), (38, (13, 12, (.array .int), true)), (41, (13, 13, (.array .int), true)), (44, (13, 14, (.array .int), true)), (158, (13, 70, (.array .int), true)), (161, (13, 52, .int, false)), (164, (13, 51, .int, false)), (185, (13, 10, .int, false)), (188, (13, 17, .int, false))]), (fun k => mLook k []), (fun k => mLook k [(177, E_M_tell), (228, E_M_isYear), (296, E_In_bitCount), (301, E_M_has), (414, E_M_areParted)]), (fun k => mLook k []), (fun k => mLook k []), (fun k => mLook k []), (fun k => mLook k [(18, [true, true, true, true, false, false, false, false]), (44, [true, true, true, true, true, false, false, false]), (59, [true, true, true, true, true, true, false, false]), (75, [true, true, true, true, true, true, true, false]), (163, [true, false, true, false, true, true, false, false]), (202, [true, false, true, false, true, true, true, true])]), (fun k => [13, 267, 285].any (Nat.beq k)), (4, 104, 0, 0), false, (fun _ => none))
set_option maxRecDepth 100000 in
set_option maxHeartbeats 4000000 in
theorem q_M_fewest_e (a1 : Int32) (σ : MSto) (n : Nat) : mexe KT P_M_fewest (n + 1) (0, [some (mR 13 0), some (mI a1), none, none, none, none, none, none], [], σ, 0, 0) = mIf ((v_M_isYear a1 (sI σ 13 0 52 0)) = 0) (some (13, [], [(mI (-1))], (sI σ 13 0 52 0), 0, 0)) (mexe KT P_M_fewest n (18, [some (mR 13 0), some (mI a1), some (mI 0), some (mI 0), none, none, none, none], [], (sI σ 13 0 52 0), 0, 0)) := rfl
set_option maxRecDepth 100000 in
set_option maxHeartbeats 4000000 in
theorem q_M_fewest_18 (x1 : Int32) (x2 : Int32) (x3 : Int32) (σ : MSto) (n : Nat) : mexe KT P_M_fewest (n + 1) (18, [some (mR 13 0), some (mI x1), some (mI x2), some (mI x3), none, none, none, none], [], σ, 0, 0) = mIf ((gI σ 13 0 10) ≤ x3) (mexe KT P_M_fewest n (44, [some (mR 13 0), some (mI x1), some (mI x2), some (mI 1), some (mI 0), none, none, none], [], σ, 0, 0)) (mG (vp_in x3 12) (mexe KT P_M_fewest n (18, [some (mR 13 0), some (mI x1), some (mI x2), some (mI (x3 + 1)), none, none, none, none], [], (sI σ 86 0 (Int32.toNatClampNeg x3) 0), 0, 0))) := rfl
set_option maxRecDepth 100000 in
set_option maxHeartbeats 4000000 in
theorem q_M_fewest_44 (x1 : Int32) (x2 : Int32) (x3 : Int32) (x4 : Int32) (σ : MSto) (n : Nat) : mexe KT P_M_fewest (n + 1) (44, [some (mR 13 0), some (mI x1), some (mI x2), some (mI x3), some (mI x4), none, none, none], [], σ, 0, 0) = mIf ((gI σ 13 0 17) ≤ x4) (mexe KT P_M_fewest n (163, [some (mR 13 0), none, some (mI x2), none, some (mI (-1)), some (mI 0), none, none], [], σ, 0, 0)) (mexe KT P_M_fewest n (59, [some (mR 13 0), some (mI x1), some (mI x2), some (mI x3), some (mI x4), some (mI (x4 + 1)), none, none], [], σ, 0, 0)) := rfl
set_option maxRecDepth 100000 in
set_option maxHeartbeats 4000000 in
theorem q_M_fewest_59 (x1 : Int32) (x2 : Int32) (x3 : Int32) (x4 : Int32) (x5 : Int32) (σ : MSto) (n : Nat) : mexe KT P_M_fewest (n + 1) (59, [some (mR 13 0), some (mI x1), some (mI x2), some (mI x3), some (mI x4), some (mI x5), none, none], [], σ, 0, 0) = mIf ((gI σ 13 0 17) ≤ x5) (mexe KT P_M_fewest n (44, [some (mR 13 0), some (mI x1), some (mI x2), some (mI x3), some (mI (x4 + 1)), none, none, none], [], σ, 0, 0)) (mexe KT P_M_fewest n (75, [some (mR 13 0), some (mI x1), some (mI (x2 ||| x3)), some (mI x3), some (mI x4), some (mI x5), some (mI 0), none], [], σ, 0, 0)) := rfl
set_option maxRecDepth 100000 in
set_option maxHeartbeats 4000000 in
theorem q_M_fewest_75 (x1 : Int32) (x2 : Int32) (x3 : Int32) (x4 : Int32) (x5 : Int32) (x6 : Int32) (σ : MSto) (n : Nat) : mexe KT P_M_fewest (n + 1) (75, [some (mR 13 0), some (mI x1), some (mI x2), some (mI x3), some (mI x4), some (mI x5), some (mI x6), none], [], σ, 0, 0) = mIf ((gI σ 13 0 10) ≤ x6) (mexe KT P_M_fewest n (59, [some (mR 13 0), some (mI x1), some (mI x2), some (mI (x3 <<< (1 &&& 31))), some (mI x4), some (mI (x5 + 1)), none, none], [], σ, 0, 0)) (mG (vp_in x6 12) (mG (vp_in x6 12) (mG (vp_in x6 12) (mG (vp_in x6 12) (mG (p_M_areParted x4 x5 (gI σ 47 0 (Int32.toNatClampNeg x6)) (gI σ 48 0 (Int32.toNatClampNeg x6)) (gI σ 49 0 (Int32.toNatClampNeg x6)) (gI σ 50 0 (Int32.toNatClampNeg x6)) x1 σ) (mIf ((v_M_areParted x4 x5 (gI σ 47 0 (Int32.toNatClampNeg x6)) (gI σ 48 0 (Int32.toNatClampNeg x6)) (gI σ 49 0 (Int32.toNatClampNeg x6)) (gI σ 50 0 (Int32.toNatClampNeg x6)) x1 σ) = 0) (mexe KT P_M_fewest n (75, [some (mR 13 0), some (mI x1), some (mI x2), some (mI x3), some (mI x4), some (mI x5), some (mI (x6 + 1)), none], [], σ, 0, 0)) (mG (vp_in x6 12) (mG (vp_in x6 12) (mexe KT P_M_fewest n (75, [some (mR 13 0), some (mI x1), some (mI x2), some (mI x3), some (mI x4), some (mI x5), some (mI (x6 + 1)), none], [], (sI σ 86 0 (Int32.toNatClampNeg x6) ((gI σ 86 0 (Int32.toNatClampNeg x6)) ||| x3)), 0, 0)))))))))) := rfl
set_option maxRecDepth 100000 in
set_option maxHeartbeats 4000000 in
theorem q_M_fewest_163 (x2 : Int32) (x4 : Int32) (x5 : Int32) (σ : MSto) (n : Nat) : mexe KT P_M_fewest (n + 1) (163, [some (mR 13 0), none, some (mI x2), none, some (mI x4), some (mI x5), none, none], [], σ, 0, 0) = mIf (((1 : Int32) <<< ((gI σ 13 0 10) &&& 31)) ≤ x5) (mIf (x4 = (-1)) (some (267, [], [(mI (-2))], σ, 0, 0)) (mG (p_M_tell (Int32.toInt64 x4) (sI σ 13 0 51 0)) (some (285, [], [(mI (v_In_bitCount x4 (e_M_tell (Int32.toInt64 x4) (sI σ 13 0 51 0))))], (e_M_tell (Int32.toInt64 x4) (sI σ 13 0 51 0)), 0, 0)))) (mIf (x4 = (-1)) (mexe KT P_M_fewest n (202, [some (mR 13 0), none, some (mI x2), none, some (mI x4), some (mI x5), some (mI 0), some (mI 0)], [], σ, 0, 0)) (mIf ((v_In_bitCount x5 σ) < (v_In_bitCount x4 σ)) (mexe KT P_M_fewest n (202, [some (mR 13 0), none, some (mI x2), none, some (mI x4), some (mI x5), some (mI 0), some (mI 0)], [], σ, 0, 0)) (mexe KT P_M_fewest n (163, [some (mR 13 0), none, some (mI x2), none, some (mI x4), some (mI (x5 + 1)), none, none], [], σ, 0, 0)))) := rfl
set_option maxRecDepth 100000 in
set_option maxHeartbeats 4000000 in
theorem q_M_fewest_202 (x2 : Int32) (x4 : Int32) (x5 : Int32) (x6 : Int32) (x7 : Int32) (σ : MSto) (n : Nat) : mexe KT P_M_fewest (n + 1) (202, [some (mR 13 0), none, some (mI x2), none, some (mI x4), some (mI x5), some (mI x6), some (mI x7)], [], σ, 0, 0) = mIf ((gI σ 13 0 10) ≤ x7) (mIf (x6 = x2) (mexe KT P_M_fewest n (163, [some (mR 13 0), none, some (mI x2), none, some (mI x5), some (mI (x5 + 1)), none, none], [], σ, 0, 0)) (mexe KT P_M_fewest n (163, [some (mR 13 0), none, some (mI x2), none, some (mI x4), some (mI (x5 + 1)), none, none], [], σ, 0, 0))) (mIf ((v_M_has x5 x7 σ) = 0) (mexe KT P_M_fewest n (202, [some (mR 13 0), none, some (mI x2), none, some (mI x4), some (mI x5), some (mI (x6 ||| 0)), some (mI (x7 + 1))], [], σ, 0, 0)) (mG (vp_in x7 12) (mexe KT P_M_fewest n (202, [some (mR 13 0), none, some (mI x2), none, some (mI x4), some (mI x5), some (mI (x6 ||| (gI σ 86 0 (Int32.toNatClampNeg x7)))), some (mI (x7 + 1))], [], σ, 0, 0)))) := rfl
set_option maxRecDepth 100000 in
theorem lt_M_fewest_202 {Post : MST → Prop} (x2 : Int32) (x4 : Int32) (x5 : Int32) (c : Int32) (σ : MSto) (s : Int32) (hp : g_M_fewest_202 x2 x4 x5 c σ s) (hq : ¬ q_M_fewest_202s x2 x4 x5 c σ s = 1) (hn : ∀ r, t_M_fewest_202 x2 x4 x5 c σ s = r → mW1 P_M_fewest (202, [some (mR 13 0), none, some (mI x2), none, some (mI x4), some (mI x5), some (mI r), some (mI (c + 1))], [], σ, 0, 0) Post) : mW1 P_M_fewest (202, [some (mR 13 0), none, some (mI x2), none, some (mI x4), some (mI x5), some (mI s), some (mI c)], [], σ, 0, 0) Post := by
  unfold g_M_fewest_202 at hp
  refine mW1_eq (q_M_fewest_202 _ _ _ _ _ _) ?_
  refine mTr_if (fun h0 => ?_) (fun h0 => ?_)
  · skip
    exact absurd (if_pos h0) hq
  · skip
    have hp := hp h0
    refine mTr_if (fun h1 => ?_) (fun h1 => ?_)
    · skip
      exact mTr_k (hn (s ||| 0) ((if_neg h0).trans (if_pos h1)))
    · skip
      have hp := hp h1
      refine mTr_g hp ?_
      exact mTr_k (hn (s ||| (gI σ 86 0 (Int32.toNatClampNeg c))) ((if_neg h0).trans (if_neg h1)))
theorem lp_M_fewest_202 {Post : MST → Prop} (x2 : Int32) (x4 : Int32) (x5 : Int32) (c0 : Int32) (σ : MSto) (s0 : Int32) (N : Nat) (hb : ∀ i, i < N → g_M_fewest_202 x2 x4 x5 (c0 + nI i) σ (f_M_fewest_202 x2 x4 x5 c0 σ s0 i) ∧ ¬ q_M_fewest_202s x2 x4 x5 (c0 + nI i) σ (f_M_fewest_202 x2 x4 x5 c0 σ s0 i) = 1) (h : mW1 P_M_fewest (202, [some (mR 13 0), none, some (mI x2), none, some (mI x4), some (mI x5), some (mI (f_M_fewest_202 x2 x4 x5 c0 σ s0 N)), some (mI (c0 + nI N))], [], σ, 0, 0) Post) : mW1 P_M_fewest (202, [some (mR 13 0), none, some (mI x2), none, some (mI x4), some (mI x5), some (mI s0), some (mI c0)], [], σ, 0, 0) Post := by
  refine mW1_st (mW1_loop (fun i => (202, [some (mR 13 0), none, some (mI x2), none, some (mI x4), some (mI x5), some (mI (f_M_fewest_202 x2 x4 x5 c0 σ s0 i)), some (mI (c0 + nI i))], [], σ, 0, 0)) N (fun i hlt hn => ?_) h) (by rw [show nI 0 = 0 from rfl, Int32.add_zero] <;> rfl)
  refine lt_M_fewest_202 x2 x4 x5 _ σ _ (hb i hlt).1 (hb i hlt).2 (fun r hr => ?_)
  rw [Int32.add_assoc, nI_s]
  subst hr
  exact hn
set_option maxRecDepth 100000 in
theorem lt_M_fewest_163 {Post : MST → Prop} (x2 : Int32) (c : Int32) (σ : MSto) (s : Int32) (hp : g_M_fewest_163 x2 c σ s) (hq : ¬ q_M_fewest_163s x2 c σ s = 1) (hn : ∀ r, t_M_fewest_163 x2 c σ s = r → mW1 P_M_fewest (163, [some (mR 13 0), none, some (mI x2), none, some (mI r), some (mI (c + 1)), none, none], [], σ, 0, 0) Post) : mW1 P_M_fewest (163, [some (mR 13 0), none, some (mI x2), none, some (mI s), some (mI c), none, none], [], σ, 0, 0) Post := by
  unfold g_M_fewest_163 at hp
  refine mW1_eq (q_M_fewest_163 _ _ _ _) ?_
  refine mTr_if (fun h0 => ?_) (fun h0 => ?_)
  · skip
    exact absurd (if_pos h0) hq
  · skip
    have hp := hp h0
    refine mTr_if (fun h1 => ?_) (fun h1 => ?_)
    · skip
      have hp := hp.1 h1
      refine mTr_k (lp_M_fewest_202 x2 s c 0 σ 0 (n_M_fewest_202 x2 s c 0 σ 0) hp.1 ?_)
      have hp := hp.2
      refine mW1_eq (q_M_fewest_202 _ _ _ _ _ _) ?_
      refine mTr_if (fun h2 => ?_) (fun h2 => ?_)
      · skip
        refine mTr_if (fun h3 => ?_) (fun h3 => ?_)
        · skip
          exact mTr_k (hn c ((if_neg h0).trans ((if_pos h1).trans (if_pos h3))))
        · skip
          exact mTr_k (hn s ((if_neg h0).trans ((if_pos h1).trans (if_neg h3))))
      · skip
        have hp := hp h2
        exact hp.elim
    · skip
      have hp := hp.2 h1
      refine mTr_if (fun h2 => ?_) (fun h2 => ?_)
      · skip
        have hp := hp h2
        refine mTr_k (lp_M_fewest_202 x2 s c 0 σ 0 (n_M_fewest_202 x2 s c 0 σ 0) hp.1 ?_)
        have hp := hp.2
        refine mW1_eq (q_M_fewest_202 _ _ _ _ _ _) ?_
        refine mTr_if (fun h3 => ?_) (fun h3 => ?_)
        · skip
          refine mTr_if (fun h4 => ?_) (fun h4 => ?_)
          · skip
            exact mTr_k (hn c ((if_neg h0).trans ((if_neg h1).trans ((if_pos h2).trans (if_pos h4)))))
          · skip
            exact mTr_k (hn s ((if_neg h0).trans ((if_neg h1).trans ((if_pos h2).trans (if_neg h4)))))
        · skip
          have hp := hp h3
          exact hp.elim
      · skip
        exact mTr_k (hn s ((if_neg h0).trans ((if_neg h1).trans (if_neg h2))))
theorem lp_M_fewest_163 {Post : MST → Prop} (x2 : Int32) (c0 : Int32) (σ : MSto) (s0 : Int32) (N : Nat) (hb : ∀ i, i < N → g_M_fewest_163 x2 (c0 + nI i) σ (f_M_fewest_163 x2 c0 σ s0 i) ∧ ¬ q_M_fewest_163s x2 (c0 + nI i) σ (f_M_fewest_163 x2 c0 σ s0 i) = 1) (h : mW1 P_M_fewest (163, [some (mR 13 0), none, some (mI x2), none, some (mI (f_M_fewest_163 x2 c0 σ s0 N)), some (mI (c0 + nI N)), none, none], [], σ, 0, 0) Post) : mW1 P_M_fewest (163, [some (mR 13 0), none, some (mI x2), none, some (mI s0), some (mI c0), none, none], [], σ, 0, 0) Post := by
  refine mW1_st (mW1_loop (fun i => (163, [some (mR 13 0), none, some (mI x2), none, some (mI (f_M_fewest_163 x2 c0 σ s0 i)), some (mI (c0 + nI i)), none, none], [], σ, 0, 0)) N (fun i hlt hn => ?_) h) (by rw [show nI 0 = 0 from rfl, Int32.add_zero] <;> rfl)
  refine lt_M_fewest_163 x2 _ σ _ (hb i hlt).1 (hb i hlt).2 (fun r hr => ?_)
  rw [Int32.add_assoc, nI_s]
  subst hr
  exact hn
set_option maxRecDepth 100000 in
theorem lt_M_fewest_75 {Post : MST → Prop} (x1 : Int32) (x2 : Int32) (x3 : Int32) (x4 : Int32) (x5 : Int32) (c : Int32) (s : MSto) (hp : g_M_fewest_75 x1 x2 x3 x4 x5 c s) (hq : ¬ q_M_fewest_75s x1 x2 x3 x4 x5 c s = 1) (hn : ∀ r, t_M_fewest_75 x1 x2 x3 x4 x5 c s = r → mW1 P_M_fewest (75, [some (mR 13 0), some (mI x1), some (mI x2), some (mI x3), some (mI x4), some (mI x5), some (mI (c + 1)), none], [], r, 0, 0) Post) : mW1 P_M_fewest (75, [some (mR 13 0), some (mI x1), some (mI x2), some (mI x3), some (mI x4), some (mI x5), some (mI c), none], [], s, 0, 0) Post := by
  unfold g_M_fewest_75 at hp
  refine mW1_eq (q_M_fewest_75 _ _ _ _ _ _ _) ?_
  refine mTr_if (fun h0 => ?_) (fun h0 => ?_)
  · skip
    exact absurd (if_pos h0) hq
  · skip
    have hp := hp h0
    refine mTr_g hp.1 ?_
    have hp := hp.2
    refine mTr_g hp.1 ?_
    have hp := hp.2
    refine mTr_g hp.1 ?_
    have hp := hp.2
    refine mTr_g hp.1 ?_
    have hp := hp.2
    refine mTr_g hp.1 ?_
    have hp := hp.2
    refine mTr_if (fun h1 => ?_) (fun h1 => ?_)
    · skip
      exact mTr_k (hn s ((if_neg h0).trans (if_pos h1)))
    · skip
      have hp := hp h1
      refine mTr_g hp.1 ?_
      have hp := hp.2
      refine mTr_g hp ?_
      exact mTr_k (hn (sI s 86 0 (Int32.toNatClampNeg c) ((gI s 86 0 (Int32.toNatClampNeg c)) ||| x3)) ((if_neg h0).trans (if_neg h1)))
theorem lp_M_fewest_75 {Post : MST → Prop} (x1 : Int32) (x2 : Int32) (x3 : Int32) (x4 : Int32) (x5 : Int32) (c0 : Int32) (s0 : MSto) (N : Nat) (hb : ∀ i, i < N → g_M_fewest_75 x1 x2 x3 x4 x5 (c0 + nI i) (f_M_fewest_75 x1 x2 x3 x4 x5 c0 s0 i) ∧ ¬ q_M_fewest_75s x1 x2 x3 x4 x5 (c0 + nI i) (f_M_fewest_75 x1 x2 x3 x4 x5 c0 s0 i) = 1) (h : mW1 P_M_fewest (75, [some (mR 13 0), some (mI x1), some (mI x2), some (mI x3), some (mI x4), some (mI x5), some (mI (c0 + nI N)), none], [], (f_M_fewest_75 x1 x2 x3 x4 x5 c0 s0 N), 0, 0) Post) : mW1 P_M_fewest (75, [some (mR 13 0), some (mI x1), some (mI x2), some (mI x3), some (mI x4), some (mI x5), some (mI c0), none], [], s0, 0, 0) Post := by
  refine mW1_st (mW1_loop (fun i => (75, [some (mR 13 0), some (mI x1), some (mI x2), some (mI x3), some (mI x4), some (mI x5), some (mI (c0 + nI i)), none], [], (f_M_fewest_75 x1 x2 x3 x4 x5 c0 s0 i), 0, 0)) N (fun i hlt hn => ?_) h) (by rw [show nI 0 = 0 from rfl, Int32.add_zero] <;> rfl)
  refine lt_M_fewest_75 x1 x2 x3 x4 x5 _ _ (hb i hlt).1 (hb i hlt).2 (fun r hr => ?_)
  rw [Int32.add_assoc, nI_s]
  subst hr
  exact hn
set_option maxRecDepth 100000 in
theorem lt_M_fewest_59 {Post : MST → Prop} (x1 : Int32) (x4 : Int32) (c : Int32) (s : Int32 × Int32 × MSto) (hp : g_M_fewest_59 x1 x4 c s) (hq : ¬ q_M_fewest_59s x1 x4 c s = 1) (hn : ∀ (r1 : Int32) (r2 : Int32) (r3 : MSto), t_M_fewest_59 x1 x4 c s = (r1, r2, r3) → mW1 P_M_fewest (59, [some (mR 13 0), some (mI x1), some (mI r1), some (mI r2), some (mI x4), some (mI (c + 1)), none, none], [], r3, 0, 0) Post) : mW1 P_M_fewest (59, [some (mR 13 0), some (mI x1), some (mI (s.1)), some (mI (s.2.1)), some (mI x4), some (mI c), none, none], [], (s.2.2), 0, 0) Post := by
  unfold g_M_fewest_59 at hp
  refine mW1_eq (q_M_fewest_59 _ _ _ _ _ _) ?_
  refine mTr_if (fun h0 => ?_) (fun h0 => ?_)
  · skip
    exact absurd (if_pos h0) hq
  · skip
    have hp := hp h0
    refine mTr_k (lp_M_fewest_75 x1 ((s.1) ||| (s.2.1)) (s.2.1) x4 c 0 (s.2.2) (n_M_fewest_75 x1 ((s.1) ||| (s.2.1)) (s.2.1) x4 c 0 (s.2.2)) hp.1 ?_)
    have hp := hp.2
    refine mW1_eq (q_M_fewest_75 _ _ _ _ _ _ _) ?_
    refine mTr_if (fun h1 => ?_) (fun h1 => ?_)
    · skip
      exact mTr_k (hn ((s.1) ||| (s.2.1)) ((s.2.1) <<< (1 &&& 31)) (f_M_fewest_75 x1 ((s.1) ||| (s.2.1)) (s.2.1) x4 c 0 (s.2.2) (n_M_fewest_75 x1 ((s.1) ||| (s.2.1)) (s.2.1) x4 c 0 (s.2.2))) (if_neg h0))
    · skip
      have hp := hp h1
      exact hp.elim
theorem lp_M_fewest_59 {Post : MST → Prop} (x1 : Int32) (x4 : Int32) (c0 : Int32) (s0 : Int32 × Int32 × MSto) (N : Nat) (hb : ∀ i, i < N → g_M_fewest_59 x1 x4 (c0 + nI i) (f_M_fewest_59 x1 x4 c0 s0 i) ∧ ¬ q_M_fewest_59s x1 x4 (c0 + nI i) (f_M_fewest_59 x1 x4 c0 s0 i) = 1) (h : mW1 P_M_fewest (59, [some (mR 13 0), some (mI x1), some (mI ((f_M_fewest_59 x1 x4 c0 s0 N).1)), some (mI ((f_M_fewest_59 x1 x4 c0 s0 N).2.1)), some (mI x4), some (mI (c0 + nI N)), none, none], [], ((f_M_fewest_59 x1 x4 c0 s0 N).2.2), 0, 0) Post) : mW1 P_M_fewest (59, [some (mR 13 0), some (mI x1), some (mI (s0.1)), some (mI (s0.2.1)), some (mI x4), some (mI c0), none, none], [], (s0.2.2), 0, 0) Post := by
  refine mW1_st (mW1_loop (fun i => (59, [some (mR 13 0), some (mI x1), some (mI ((f_M_fewest_59 x1 x4 c0 s0 i).1)), some (mI ((f_M_fewest_59 x1 x4 c0 s0 i).2.1)), some (mI x4), some (mI (c0 + nI i)), none, none], [], ((f_M_fewest_59 x1 x4 c0 s0 i).2.2), 0, 0)) N (fun i hlt hn => ?_) h) (by rw [show nI 0 = 0 from rfl, Int32.add_zero] <;> rfl)
  refine lt_M_fewest_59 x1 x4 _ _ (hb i hlt).1 (hb i hlt).2 (fun r1 r2 r3 hr => ?_)
  rw [Int32.add_assoc, nI_s]
  have e : f_M_fewest_59 x1 x4 c0 s0 (i + 1) = (r1, r2, r3) := hr
  try dsimp only at hn
  rw [e] at hn
  exact hn
set_option maxRecDepth 100000 in
theorem lt_M_fewest_44 {Post : MST → Prop} (x1 : Int32) (c : Int32) (s : Int32 × Int32 × MSto) (hp : g_M_fewest_44 x1 c s) (hq : ¬ q_M_fewest_44s x1 c s = 1) (hn : ∀ (r1 : Int32) (r2 : Int32) (r3 : MSto), t_M_fewest_44 x1 c s = (r1, r2, r3) → mW1 P_M_fewest (44, [some (mR 13 0), some (mI x1), some (mI r1), some (mI r2), some (mI (c + 1)), none, none, none], [], r3, 0, 0) Post) : mW1 P_M_fewest (44, [some (mR 13 0), some (mI x1), some (mI (s.1)), some (mI (s.2.1)), some (mI c), none, none, none], [], (s.2.2), 0, 0) Post := by
  unfold g_M_fewest_44 at hp
  refine mW1_eq (q_M_fewest_44 _ _ _ _ _) ?_
  refine mTr_if (fun h0 => ?_) (fun h0 => ?_)
  · skip
    exact absurd (if_pos h0) hq
  · skip
    have hp := hp h0
    refine mTr_k (lp_M_fewest_59 x1 c (c + 1) ((s.1), (s.2.1), (s.2.2)) (n_M_fewest_59 x1 c (c + 1) ((s.1), (s.2.1), (s.2.2))) hp.1 ?_)
    have hp := hp.2
    refine mW1_eq (q_M_fewest_59 _ _ _ _ _ _) ?_
    refine mTr_if (fun h1 => ?_) (fun h1 => ?_)
    · skip
      exact mTr_k (hn ((f_M_fewest_59 x1 c (c + 1) ((s.1), (s.2.1), (s.2.2)) (n_M_fewest_59 x1 c (c + 1) ((s.1), (s.2.1), (s.2.2)))).1) ((f_M_fewest_59 x1 c (c + 1) ((s.1), (s.2.1), (s.2.2)) (n_M_fewest_59 x1 c (c + 1) ((s.1), (s.2.1), (s.2.2)))).2.1) ((f_M_fewest_59 x1 c (c + 1) ((s.1), (s.2.1), (s.2.2)) (n_M_fewest_59 x1 c (c + 1) ((s.1), (s.2.1), (s.2.2)))).2.2) (if_neg h0))
    · skip
      have hp := hp h1
      exact hp.elim
theorem lp_M_fewest_44 {Post : MST → Prop} (x1 : Int32) (c0 : Int32) (s0 : Int32 × Int32 × MSto) (N : Nat) (hb : ∀ i, i < N → g_M_fewest_44 x1 (c0 + nI i) (f_M_fewest_44 x1 c0 s0 i) ∧ ¬ q_M_fewest_44s x1 (c0 + nI i) (f_M_fewest_44 x1 c0 s0 i) = 1) (h : mW1 P_M_fewest (44, [some (mR 13 0), some (mI x1), some (mI ((f_M_fewest_44 x1 c0 s0 N).1)), some (mI ((f_M_fewest_44 x1 c0 s0 N).2.1)), some (mI (c0 + nI N)), none, none, none], [], ((f_M_fewest_44 x1 c0 s0 N).2.2), 0, 0) Post) : mW1 P_M_fewest (44, [some (mR 13 0), some (mI x1), some (mI (s0.1)), some (mI (s0.2.1)), some (mI c0), none, none, none], [], (s0.2.2), 0, 0) Post := by
  refine mW1_st (mW1_loop (fun i => (44, [some (mR 13 0), some (mI x1), some (mI ((f_M_fewest_44 x1 c0 s0 i).1)), some (mI ((f_M_fewest_44 x1 c0 s0 i).2.1)), some (mI (c0 + nI i)), none, none, none], [], ((f_M_fewest_44 x1 c0 s0 i).2.2), 0, 0)) N (fun i hlt hn => ?_) h) (by rw [show nI 0 = 0 from rfl, Int32.add_zero] <;> rfl)
  refine lt_M_fewest_44 x1 _ _ (hb i hlt).1 (hb i hlt).2 (fun r1 r2 r3 hr => ?_)
  rw [Int32.add_assoc, nI_s]
  have e : f_M_fewest_44 x1 c0 s0 (i + 1) = (r1, r2, r3) := hr
  try dsimp only at hn
  rw [e] at hn
  exact hn
set_option maxRecDepth 100000 in
theorem lt_M_fewest_18 {Post : MST → Prop} (x1 : Int32) (x2 : Int32) (c : Int32) (s : MSto) (hp : g_M_fewest_18 x1 x2 c s) (hq : ¬ q_M_fewest_18s x1 x2 c s = 1) (hn : ∀ r, t_M_fewest_18 x1 x2 c s = r → mW1 P_M_fewest (18, [some (mR 13 0), some (mI x1), some (mI x2), some (mI (c + 1)), none, none, none, none], [], r, 0, 0) Post) : mW1 P_M_fewest (18, [some (mR 13 0), some (mI x1), some (mI x2), some (mI c), none, none, none, none], [], s, 0, 0) Post := by
  unfold g_M_fewest_18 at hp
  refine mW1_eq (q_M_fewest_18 _ _ _ _) ?_
  refine mTr_if (fun h0 => ?_) (fun h0 => ?_)
  · skip
    exact absurd (if_pos h0) hq
  · skip
    have hp := hp h0
    refine mTr_g hp ?_
    exact mTr_k (hn (sI s 86 0 (Int32.toNatClampNeg c) 0) (if_neg h0))
theorem lp_M_fewest_18 {Post : MST → Prop} (x1 : Int32) (x2 : Int32) (c0 : Int32) (s0 : MSto) (N : Nat) (hb : ∀ i, i < N → g_M_fewest_18 x1 x2 (c0 + nI i) (f_M_fewest_18 x1 x2 c0 s0 i) ∧ ¬ q_M_fewest_18s x1 x2 (c0 + nI i) (f_M_fewest_18 x1 x2 c0 s0 i) = 1) (h : mW1 P_M_fewest (18, [some (mR 13 0), some (mI x1), some (mI x2), some (mI (c0 + nI N)), none, none, none, none], [], (f_M_fewest_18 x1 x2 c0 s0 N), 0, 0) Post) : mW1 P_M_fewest (18, [some (mR 13 0), some (mI x1), some (mI x2), some (mI c0), none, none, none, none], [], s0, 0, 0) Post := by
  refine mW1_st (mW1_loop (fun i => (18, [some (mR 13 0), some (mI x1), some (mI x2), some (mI (c0 + nI i)), none, none, none, none], [], (f_M_fewest_18 x1 x2 c0 s0 i), 0, 0)) N (fun i hlt hn => ?_) h) (by rw [show nI 0 = 0 from rfl, Int32.add_zero] <;> rfl)
  refine lt_M_fewest_18 x1 x2 _ _ (hb i hlt).1 (hb i hlt).2 (fun r hr => ?_)
  rw [Int32.add_assoc, nI_s]
  subst hr
  exact hn
set_option maxRecDepth 100000 in
set_option maxHeartbeats 4000000 in
theorem d_M_fewest (a1 : Int32) (σ : MSto) (hp : p_M_fewest a1 σ) : mW1 P_M_fewest (0, [some (mR 13 0), some (mI a1), none, none, none, none, none, none], [], σ, 0, 0) (mF [13, 267, 285] [mI (v_M_fewest a1 σ)] (e_M_fewest a1 σ) 0 0) := by
  refine mW1_eq (q_M_fewest_e _ _) ?_
  unfold p_M_fewest at hp
  refine mTr_if (fun h0 => ?_) (fun h0 => ?_)
  · skip
    exact mTr_e (by decide) (congrArg (fun z => [mI z]) (Eq.symm (if_pos h0))) (Eq.symm (if_pos h0)) (by decide) (by decide)
  · skip
    have hp := hp h0
    refine mTr_k (lp_M_fewest_18 a1 0 0 (sI σ 13 0 52 0) (n_M_fewest_18 a1 0 0 (sI σ 13 0 52 0)) hp.1 ?_)
    have hp := hp.2
    refine mW1_eq (q_M_fewest_18 _ _ _ _) ?_
    refine mTr_if (fun h1 => ?_) (fun h1 => ?_)
    · skip
      have hp := hp.1 h1
      refine mTr_k (lp_M_fewest_44 a1 0 (0, 1, (f_M_fewest_18 a1 0 0 (sI σ 13 0 52 0) (n_M_fewest_18 a1 0 0 (sI σ 13 0 52 0)))) (n_M_fewest_44 a1 0 (0, 1, (f_M_fewest_18 a1 0 0 (sI σ 13 0 52 0) (n_M_fewest_18 a1 0 0 (sI σ 13 0 52 0))))) hp.1 ?_)
      have hp := hp.2
      refine mW1_eq (q_M_fewest_44 _ _ _ _ _) ?_
      refine mTr_if (fun h2 => ?_) (fun h2 => ?_)
      · skip
        have hp := hp.1 h2
        refine mTr_k (lp_M_fewest_163 ((f_M_fewest_44 a1 0 (0, 1, (f_M_fewest_18 a1 0 0 (sI σ 13 0 52 0) (n_M_fewest_18 a1 0 0 (sI σ 13 0 52 0)))) (n_M_fewest_44 a1 0 (0, 1, (f_M_fewest_18 a1 0 0 (sI σ 13 0 52 0) (n_M_fewest_18 a1 0 0 (sI σ 13 0 52 0)))))).1) 0 ((f_M_fewest_44 a1 0 (0, 1, (f_M_fewest_18 a1 0 0 (sI σ 13 0 52 0) (n_M_fewest_18 a1 0 0 (sI σ 13 0 52 0)))) (n_M_fewest_44 a1 0 (0, 1, (f_M_fewest_18 a1 0 0 (sI σ 13 0 52 0) (n_M_fewest_18 a1 0 0 (sI σ 13 0 52 0)))))).2.2) (-1) (n_M_fewest_163 ((f_M_fewest_44 a1 0 (0, 1, (f_M_fewest_18 a1 0 0 (sI σ 13 0 52 0) (n_M_fewest_18 a1 0 0 (sI σ 13 0 52 0)))) (n_M_fewest_44 a1 0 (0, 1, (f_M_fewest_18 a1 0 0 (sI σ 13 0 52 0) (n_M_fewest_18 a1 0 0 (sI σ 13 0 52 0)))))).1) 0 ((f_M_fewest_44 a1 0 (0, 1, (f_M_fewest_18 a1 0 0 (sI σ 13 0 52 0) (n_M_fewest_18 a1 0 0 (sI σ 13 0 52 0)))) (n_M_fewest_44 a1 0 (0, 1, (f_M_fewest_18 a1 0 0 (sI σ 13 0 52 0) (n_M_fewest_18 a1 0 0 (sI σ 13 0 52 0)))))).2.2) (-1)) hp.1 ?_)
        have hp := hp.2
        refine mW1_eq (q_M_fewest_163 _ _ _ _) ?_
        refine mTr_if (fun h3 => ?_) (fun h3 => ?_)
        · skip
          have hp := hp.1 h3
          refine mTr_if (fun h4 => ?_) (fun h4 => ?_)
          · skip
            exact mTr_e (by decide) (congrArg (fun z => [mI z]) (Eq.symm ((if_neg h0).trans (if_pos h4)))) (Eq.symm ((if_neg h0).trans (if_pos h4))) (by decide) (by decide)
          · skip
            have hp := hp h4
            refine mTr_g hp ?_
            exact mTr_e (by decide) (congrArg (fun z => [mI z]) (Eq.symm ((if_neg h0).trans (if_neg h4)))) (Eq.symm ((if_neg h0).trans (if_neg h4))) (by decide) (by decide)
        · skip
          have hp := hp.2 h3
          exact hp.elim
      · skip
        have hp := hp.2 h2
        exact hp.elim
    · skip
      have hp := hp.2 h1
      exact hp.elim





theorem tk_M_fewest : ∀ pc i nx tg, T_M_fewest pc = some (i, nx, tg) → mOkB prog_14_method_89_code pc i nx tg = true := code_ok (N := 286) (fun k h => by unfold T_M_fewest; rw [h]; rfl) (by decide +kernel)
theorem ok_M_fewest (l : Launch) : mPOK l "ClothWithManModel" prog_14_method_89_code P_M_fewest := by
  refine ⟨tk_M_fewest, ?_, ?_, ?_, (fun pc i nx tg kd _ h => by cases h), ?_, ?_, fun pc en h => by cases h⟩
  · intro x ci f ty fin h
    exact mLook_all (Q := fun x v => mFOK "ClothWithManModel" x v.1 v.2.1 v.2.2.1 v.2.2.2 ∧ (v.2.2.2 = true → pIni P_M_fewest = true → (Cond.fieldLink "ClothWithManModel" x (((mCl[v.1]?).getD ("", fun _ => ("", "", "", false), 0)).2.1 v.2.1).1 (((mCl[v.1]?).getD ("", fun _ => ("", "", "", false), 0)).2.1 v.2.1).2.1 (((mCl[v.1]?).getD ("", fun _ => ("", "", "", false), 0)).2.1 v.2.1).2.2.1 ∈ lw_tbl ∧ (((mCl[v.1]?).getD ("", fun _ => ("", "", "", false), 0)).2.1 v.2.1).1 = "ClothWithManModel"))) (fcC ⟨fo_M_35, fun h1 h2 => by cases h2⟩ (fcC ⟨fo_M_38, fun h1 h2 => by cases h2⟩ (fcC ⟨fo_M_41, fun h1 h2 => by cases h2⟩ (fcC ⟨fo_M_44, fun h1 h2 => by cases h2⟩ (fcC ⟨fo_M_158, fun h1 h2 => by cases h2⟩ (fcC ⟨fo_M_161, fun h1 h2 => by cases h1⟩ (fcC ⟨fo_M_164, fun h1 h2 => by cases h1⟩ (fcC ⟨fo_M_185, fun h1 h2 => by cases h1⟩ (fcC ⟨fo_M_188, fun h1 h2 => by cases h1⟩ fcN))))))))) x (ci, f, ty, fin) h
  · intro x
    have hh := mLook_all (l := ([] : List (Nat × (Int32 ⊕ Int64)))) (Q := fun x (v : Int32 ⊕ Int64) => (∀ w, v = .inl w → Cond.constant "ClothWithManModel" x w ∈ lw_tbl) ∧ (∀ w, v = .inr w → Cond.constantLong "ClothWithManModel" x w ∈ lw_tbl)) fcN x
    exact ⟨fun w h => (hh _ h).1 w rfl, fun w h => (hh _ h).2 w rfl⟩
  · exact fun x en h => mLook_all (Q := fun x en => mLink "ClothWithManModel" x en ∧ mCtr l en ∧ (en.1.1 = 2 → en.2.2.2.2.2.2 = none)) (fcC ⟨li_M_177, c_M_tell l, (fun h => by cases h)⟩ (fcC ⟨li_M_228, c_M_isYear l, (fun h => by cases h)⟩ (fcC ⟨li_M_296, c_In_bitCount l, (fun h => by cases h)⟩ (fcC ⟨li_M_301, c_M_has l, (fun h => by cases h)⟩ (fcC ⟨li_M_414, c_M_areParted l, (fun h => by cases h)⟩ fcN))))) x en h
  · exact fun x kd h => mLook_all (Q := fun x kd => (kd = 95 ∧ Cond.fieldLink "ClothWithManModel" x "ClothWithMan" "LIKENESSES" "[I" ∈ lw_tbl) ∨ (kd = 96 ∧ Cond.fieldLink "ClothWithManModel" x "ClothWithMan" "APART_BOUNDS" "[I" ∈ lw_tbl)) fcN x kd h
  · exact fun x ci h => mLook_all (Q := fun x ci => ci ≠ 0 ∧ ∃ (C : String) (T : u_T) (N : Nat), mCl[ci]? = some (C, T, N) ∧ Cond.classLink "ClothWithManModel" x C ∈ lw_tbl ∧ Cond.instantiable C N ∈ lw_tbl) fcN x ci h
set_option maxRecDepth 100000 in
theorem c_M_fewest (l : Launch) : mCtr l E_M_fewest := mCtr_of (P := P_M_fewest) (own := "ClothWithManModel") mLay_ok rfl (by decide +kernel) rfl (ok_M_fewest l) (fun h => by cases h) (fun as σ pr rv σ' hF hpr hlv => by
  unfold E_M_fewest S_M_fewest at hF
  simp only [] at hF
  split at hF
  · cases hF
    obtain ⟨n, pcF, c1, s1, g1, g2, g3, g4⟩ := mF_inv (d_M_fewest _ σ (hpr _ rfl))
    exact ⟨Nat.le_of_ble_eq_true rfl, (fun v h => by cases h; trivial), n, pcF, c1, s1, g1, ⟨mEnd_of (i := .ireturn) (P := P_M_fewest) (rets := [13, 267, 285]) rfl g2, rfl⟩, g3, g4⟩
  · cases hF
    exact (hpr _ rfl).elim)
/-! ClothWithManModel.where(I)I -/
noncomputable def t_M_where_28 (x1 : Int32) (c : Int32) (σ : MSto) (s : Int32 × Int32) : Int32 × Int32 := (if 4608 ≤ c then s else (if (s.1) < (v_M_partedAt (c / 192) ((c / 24) - (c / 24) / 8 * 8) ((c / 6) - (c / 6) / 4 * 4) (c - c / 6 * 6) x1 σ) then ((v_M_partedAt (c / 192) ((c / 24) - (c / 24) / 8 * 8) ((c / 6) - (c / 6) / 4 * 4) (c - c / 6 * 6) x1 σ), c) else ((s.1), (s.2))))
noncomputable def q_M_where_28s (x1 : Int32) (c : Int32) (σ : MSto) (s : Int32 × Int32) : Nat := (if 4608 ≤ c then 1 else 0)
def g_M_where_28 (x1 : Int32) (c : Int32) (σ : MSto) (s : Int32 × Int32) : Prop := (¬ (4608 ≤ c) → (p_M_partedAt (c / 192) ((c / 24) - (c / 24) / 8 * 8) ((c / 6) - (c / 6) / 4 * 4) (c - c / 6 * 6) x1 σ))
noncomputable def f_M_where_28 (x1 : Int32) (c0 : Int32) (σ : MSto) (s0 : Int32 × Int32) (n : Nat) : Int32 × Int32 := nfold (fun i s => t_M_where_28 x1 (c0 + nI i) σ s) s0 n
noncomputable def n_M_where_28 (x1 : Int32) (c0 : Int32) (σ : MSto) (s0 : Int32 × Int32) : Nat := 4608
noncomputable def vj_M_where_j117 (x2 : Int32) (x3 : Int32) (σ : MSto) : Int32 := x2
noncomputable def ej_M_where_j117 (x2 : Int32) (x3 : Int32) (σ : MSto) : MSto := (e_M_tell (Int32.toInt64 (x3 - x3 / 6 * 6)) (e_M_tell (Int32.toInt64 ((x3 / 6) - (x3 / 6) / 4 * 4)) σ))
def gj_M_where_j117 (x2 : Int32) (x3 : Int32) (σ : MSto) : Prop := ((p_M_tell (Int32.toInt64 ((x3 / 6) - (x3 / 6) / 4 * 4)) σ) ∧ (p_M_tell (Int32.toInt64 (x3 - x3 / 6 * 6)) (e_M_tell (Int32.toInt64 ((x3 / 6) - (x3 / 6) / 4 * 4)) σ)))
noncomputable def v_M_where (a1 : Int32) (σ : MSto) : Int32 := (if (v_M_isYear a1 (sI σ 13 0 52 0)) = 0 then (-1) else (if (gI (sI σ 13 0 52 0) 13 0 17) = 0 then (-1) else (vj_M_where_j117 ((f_M_where_28 a1 0 (sI σ 13 0 52 0) ((-1), 0) (n_M_where_28 a1 0 (sI σ 13 0 52 0) ((-1), 0))).1) ((f_M_where_28 a1 0 (sI σ 13 0 52 0) ((-1), 0) (n_M_where_28 a1 0 (sI σ 13 0 52 0) ((-1), 0))).2) (e_M_tell (Int32.toInt64 ((((f_M_where_28 a1 0 (sI σ 13 0 52 0) ((-1), 0) (n_M_where_28 a1 0 (sI σ 13 0 52 0) ((-1), 0))).2) / 24) - (((f_M_where_28 a1 0 (sI σ 13 0 52 0) ((-1), 0) (n_M_where_28 a1 0 (sI σ 13 0 52 0) ((-1), 0))).2) / 24) / 8 * 8)) (e_M_tell (Int32.toInt64 (((f_M_where_28 a1 0 (sI σ 13 0 52 0) ((-1), 0) (n_M_where_28 a1 0 (sI σ 13 0 52 0) ((-1), 0))).2) / 192)) (sI (sI σ 13 0 52 0) 13 0 51 0))))))
def p_M_where (a1 : Int32) (σ : MSto) : Prop := (¬ ((v_M_isYear a1 (sI σ 13 0 52 0)) = 0) → (¬ ((gI (sI σ 13 0 52 0) 13 0 17) = 0) → ((∀ i, i < (n_M_where_28 a1 0 (sI σ 13 0 52 0) ((-1), 0)) → g_M_where_28 a1 (0 + nI i) (sI σ 13 0 52 0) (f_M_where_28 a1 0 (sI σ 13 0 52 0) ((-1), 0) i) ∧ ¬ q_M_where_28s a1 (0 + nI i) (sI σ 13 0 52 0) (f_M_where_28 a1 0 (sI σ 13 0 52 0) ((-1), 0) i) = 1) ∧ (((4608 ≤ (0 + nI (n_M_where_28 a1 0 (sI σ 13 0 52 0) ((-1), 0)))) → ((p_M_tell (Int32.toInt64 (((f_M_where_28 a1 0 (sI σ 13 0 52 0) ((-1), 0) (n_M_where_28 a1 0 (sI σ 13 0 52 0) ((-1), 0))).2) / 192)) (sI (sI σ 13 0 52 0) 13 0 51 0)) ∧ ((p_M_tell (Int32.toInt64 ((((f_M_where_28 a1 0 (sI σ 13 0 52 0) ((-1), 0) (n_M_where_28 a1 0 (sI σ 13 0 52 0) ((-1), 0))).2) / 24) - (((f_M_where_28 a1 0 (sI σ 13 0 52 0) ((-1), 0) (n_M_where_28 a1 0 (sI σ 13 0 52 0) ((-1), 0))).2) / 24) / 8 * 8)) (e_M_tell (Int32.toInt64 (((f_M_where_28 a1 0 (sI σ 13 0 52 0) ((-1), 0) (n_M_where_28 a1 0 (sI σ 13 0 52 0) ((-1), 0))).2) / 192)) (sI (sI σ 13 0 52 0) 13 0 51 0))) ∧ (gj_M_where_j117 ((f_M_where_28 a1 0 (sI σ 13 0 52 0) ((-1), 0) (n_M_where_28 a1 0 (sI σ 13 0 52 0) ((-1), 0))).1) ((f_M_where_28 a1 0 (sI σ 13 0 52 0) ((-1), 0) (n_M_where_28 a1 0 (sI σ 13 0 52 0) ((-1), 0))).2) (e_M_tell (Int32.toInt64 ((((f_M_where_28 a1 0 (sI σ 13 0 52 0) ((-1), 0) (n_M_where_28 a1 0 (sI σ 13 0 52 0) ((-1), 0))).2) / 24) - (((f_M_where_28 a1 0 (sI σ 13 0 52 0) ((-1), 0) (n_M_where_28 a1 0 (sI σ 13 0 52 0) ((-1), 0))).2) / 24) / 8 * 8)) (e_M_tell (Int32.toInt64 (((f_M_where_28 a1 0 (sI σ 13 0 52 0) ((-1), 0) (n_M_where_28 a1 0 (sI σ 13 0 52 0) ((-1), 0))).2) / 192)) (sI (sI σ 13 0 52 0) 13 0 51 0))))))) ∧ (¬ (4608 ≤ (0 + nI (n_M_where_28 a1 0 (sI σ 13 0 52 0) ((-1), 0)))) → False)))))
noncomputable def e_M_where (a1 : Int32) (σ : MSto) : MSto := (if (v_M_isYear a1 (sI σ 13 0 52 0)) = 0 then (sI σ 13 0 52 0) else (if (gI (sI σ 13 0 52 0) 13 0 17) = 0 then (sI σ 13 0 52 0) else (ej_M_where_j117 ((f_M_where_28 a1 0 (sI σ 13 0 52 0) ((-1), 0) (n_M_where_28 a1 0 (sI σ 13 0 52 0) ((-1), 0))).1) ((f_M_where_28 a1 0 (sI σ 13 0 52 0) ((-1), 0) (n_M_where_28 a1 0 (sI σ 13 0 52 0) ((-1), 0))).2) (e_M_tell (Int32.toInt64 ((((f_M_where_28 a1 0 (sI σ 13 0 52 0) ((-1), 0) (n_M_where_28 a1 0 (sI σ 13 0 52 0) ((-1), 0))).2) / 24) - (((f_M_where_28 a1 0 (sI σ 13 0 52 0) ((-1), 0) (n_M_where_28 a1 0 (sI σ 13 0 52 0) ((-1), 0))).2) / 24) / 8 * 8)) (e_M_tell (Int32.toInt64 (((f_M_where_28 a1 0 (sI σ 13 0 52 0) ((-1), 0) (n_M_where_28 a1 0 (sI σ 13 0 52 0) ((-1), 0))).2) / 192)) (sI (sI σ 13 0 52 0) 13 0 51 0))))))
noncomputable def S_M_where : List MV → MSto → Option Prop × Option MV × MSto := fun as σ => match as with
  | [.inr (.inr (some (13, 0))), .inl a0] => (some (p_M_where a0 σ), some (mI (v_M_where a0 σ)), e_M_where a0 σ)
  | _ => (some False, none, σ)
noncomputable def E_M_where : MEnt := ((1, 1, 13), (5, 132, 0, 0), S_M_where, ((⟨"ClothWithManModel", "where", "(I)I"⟩ : MethodName), prog_14_method_90_code, 6, (some .int)))

def T_M_where : Nat → Option (Instr × Nat × List Nat) := fun k => bif Nat.blt k 139 then (bif Nat.blt k 71 then (bif Nat.blt k 36 then (bif Nat.blt k 20 then (bif Nat.blt k 9 then (bif Nat.blt k 2 then (bif Nat.blt k 1 then (bif Nat.beq k 0 then some (.aload_n 0, 1, []) else none) else (bif Nat.beq k 1 then some (.iconst 0, 2, []) else none)) else (bif Nat.blt k 5 then (bif Nat.beq k 2 then some (.putfield 161, 5, []) else none) else (bif Nat.blt k 6 then (bif Nat.beq k 5 then some (.iload_n 1, 6, []) else none) else (bif Nat.beq k 6 then some (.invokestatic 228, 9, []) else none)))) else (bif Nat.blt k 13 then (bif Nat.blt k 12 then (bif Nat.beq k 9 then some (.ifCond .eq 10, 12, [19]) else none) else (bif Nat.beq k 12 then some (.aload_n 0, 13, []) else none)) else (bif Nat.blt k 16 then (bif Nat.beq k 13 then some (.getfield 188, 16, []) else none) else (bif Nat.blt k 19 then (bif Nat.beq k 16 then some (.ifCond .ne 5, 19, [21]) else none) else (bif Nat.beq k 19 then some (.iconst (-1), 20, []) else none))))) else (bif Nat.blt k 25 then (bif Nat.blt k 22 then (bif Nat.blt k 21 then (bif Nat.beq k 20 then some (.ireturn, 21, []) else none) else (bif Nat.beq k 21 then some (.iconst (-1), 22, []) else none)) else (bif Nat.blt k 23 then (bif Nat.beq k 22 then some (.istore_n 2, 23, []) else none) else (bif Nat.blt k 24 then (bif Nat.beq k 23 then some (.iconst 0, 24, []) else none) else (bif Nat.beq k 24 then some (.istore_n 3, 25, []) else none)))) else (bif Nat.blt k 28 then (bif Nat.blt k 26 then (bif Nat.beq k 25 then some (.iconst 0, 26, []) else none) else (bif Nat.beq k 26 then some (.istore 4, 28, []) else none)) else (bif Nat.blt k 30 then (bif Nat.beq k 28 then some (.iload 4, 30, []) else none) else (bif Nat.blt k 33 then (bif Nat.beq k 30 then some (.sipush 4608, 33, []) else none) else (bif Nat.beq k 33 then some (.if_icmp .ge 57, 36, [90]) else none)))))) else (bif Nat.blt k 53 then (bif Nat.blt k 45 then (bif Nat.blt k 39 then (bif Nat.blt k 37 then (bif Nat.beq k 36 then some (.aload_n 0, 37, []) else none) else (bif Nat.beq k 37 then some (.iload 4, 39, []) else none)) else (bif Nat.blt k 42 then (bif Nat.beq k 39 then some (.sipush 192, 42, []) else none) else (bif Nat.blt k 43 then (bif Nat.beq k 42 then some (.idiv, 43, []) else none) else (bif Nat.beq k 43 then some (.iload 4, 45, []) else none)))) else (bif Nat.blt k 48 then (bif Nat.blt k 47 then (bif Nat.beq k 45 then some (.bipush 24, 47, []) else none) else (bif Nat.beq k 47 then some (.idiv, 48, []) else none)) else (bif Nat.blt k 50 then (bif Nat.beq k 48 then some (.bipush 8, 50, []) else none) else (bif Nat.blt k 51 then (bif Nat.beq k 50 then some (.irem, 51, []) else none) else (bif Nat.beq k 51 then some (.iload 4, 53, []) else none))))) else (bif Nat.blt k 60 then (bif Nat.blt k 56 then (bif Nat.blt k 55 then (bif Nat.beq k 53 then some (.bipush 6, 55, []) else none) else (bif Nat.beq k 55 then some (.idiv, 56, []) else none)) else (bif Nat.blt k 57 then (bif Nat.beq k 56 then some (.iconst 4, 57, []) else none) else (bif Nat.blt k 58 then (bif Nat.beq k 57 then some (.irem, 58, []) else none) else (bif Nat.beq k 58 then some (.iload 4, 60, []) else none)))) else (bif Nat.blt k 64 then (bif Nat.blt k 62 then (bif Nat.beq k 60 then some (.bipush 6, 62, []) else none) else (bif Nat.blt k 63 then (bif Nat.beq k 62 then some (.irem, 63, []) else none) else (bif Nat.beq k 63 then some (.iload_n 1, 64, []) else none))) else (bif Nat.blt k 67 then (bif Nat.beq k 64 then some (.invokevirtual 418, 67, []) else none) else (bif Nat.blt k 69 then (bif Nat.beq k 67 then some (.istore 5, 69, []) else none) else (bif Nat.beq k 69 then some (.iload 5, 71, []) else none))))))) else (bif Nat.blt k 109 then (bif Nat.blt k 91 then (bif Nat.blt k 81 then (bif Nat.blt k 75 then (bif Nat.blt k 72 then (bif Nat.beq k 71 then some (.iload_n 2, 72, []) else none) else (bif Nat.beq k 72 then some (.if_icmp .gt 6, 75, [78]) else none)) else (bif Nat.blt k 78 then (bif Nat.beq k 75 then some (.goto 9, 78, [84]) else none) else (bif Nat.blt k 80 then (bif Nat.beq k 78 then some (.iload 5, 80, []) else none) else (bif Nat.beq k 80 then some (.istore_n 2, 81, []) else none)))) else (bif Nat.blt k 84 then (bif Nat.blt k 83 then (bif Nat.beq k 81 then some (.iload 4, 83, []) else none) else (bif Nat.beq k 83 then some (.istore_n 3, 84, []) else none)) else (bif Nat.blt k 87 then (bif Nat.beq k 84 then some (.iinc 4 1, 87, []) else none) else (bif Nat.blt k 90 then (bif Nat.beq k 87 then some (.goto (-59), 90, [28]) else none) else (bif Nat.beq k 90 then some (.aload_n 0, 91, []) else none))))) else (bif Nat.blt k 100 then (bif Nat.blt k 95 then (bif Nat.blt k 92 then (bif Nat.beq k 91 then some (.iconst 0, 92, []) else none) else (bif Nat.beq k 92 then some (.putfield 164, 95, []) else none)) else (bif Nat.blt k 96 then (bif Nat.beq k 95 then some (.aload_n 0, 96, []) else none) else (bif Nat.blt k 97 then (bif Nat.beq k 96 then some (.iload_n 3, 97, []) else none) else (bif Nat.beq k 97 then some (.sipush 192, 100, []) else none)))) else (bif Nat.blt k 105 then (bif Nat.blt k 101 then (bif Nat.beq k 100 then some (.idiv, 101, []) else none) else (bif Nat.blt k 102 then (bif Nat.beq k 101 then some (.i2l, 102, []) else none) else (bif Nat.beq k 102 then some (.invokevirtual 177, 105, []) else none))) else (bif Nat.blt k 106 then (bif Nat.beq k 105 then some (.aload_n 0, 106, []) else none) else (bif Nat.blt k 107 then (bif Nat.beq k 106 then some (.iload_n 3, 107, []) else none) else (bif Nat.beq k 107 then some (.bipush 24, 109, []) else none)))))) else (bif Nat.blt k 123 then (bif Nat.blt k 117 then (bif Nat.blt k 112 then (bif Nat.blt k 110 then (bif Nat.beq k 109 then some (.idiv, 110, []) else none) else (bif Nat.beq k 110 then some (.bipush 8, 112, []) else none)) else (bif Nat.blt k 113 then (bif Nat.beq k 112 then some (.irem, 113, []) else none) else (bif Nat.blt k 114 then (bif Nat.beq k 113 then some (.i2l, 114, []) else none) else (bif Nat.beq k 114 then some (.invokevirtual 177, 117, []) else none)))) else (bif Nat.blt k 119 then (bif Nat.blt k 118 then (bif Nat.beq k 117 then some (.aload_n 0, 118, []) else none) else (bif Nat.beq k 118 then some (.iload_n 3, 119, []) else none)) else (bif Nat.blt k 121 then (bif Nat.beq k 119 then some (.bipush 6, 121, []) else none) else (bif Nat.blt k 122 then (bif Nat.beq k 121 then some (.idiv, 122, []) else none) else (bif Nat.beq k 122 then some (.iconst 4, 123, []) else none))))) else (bif Nat.blt k 130 then (bif Nat.blt k 125 then (bif Nat.blt k 124 then (bif Nat.beq k 123 then some (.irem, 124, []) else none) else (bif Nat.beq k 124 then some (.i2l, 125, []) else none)) else (bif Nat.blt k 128 then (bif Nat.beq k 125 then some (.invokevirtual 177, 128, []) else none) else (bif Nat.blt k 129 then (bif Nat.beq k 128 then some (.aload_n 0, 129, []) else none) else (bif Nat.beq k 129 then some (.iload_n 3, 130, []) else none)))) else (bif Nat.blt k 134 then (bif Nat.blt k 132 then (bif Nat.beq k 130 then some (.bipush 6, 132, []) else none) else (bif Nat.blt k 133 then (bif Nat.beq k 132 then some (.irem, 133, []) else none) else (bif Nat.beq k 133 then some (.i2l, 134, []) else none))) else (bif Nat.blt k 137 then (bif Nat.beq k 134 then some (.invokevirtual 177, 137, []) else none) else (bif Nat.blt k 138 then (bif Nat.beq k 137 then some (.iload_n 2, 138, []) else none) else (bif Nat.beq k 138 then some (.ireturn, 139, []) else none)))))))) else none
noncomputable def P_M_where : MP := (T_M_where, (fun k => mLook k [(161, (13, 52, .int, false)), (164, (13, 51, .int, false)), (188, (13, 17, .int, false))]), (fun k => mLook k []), (fun k => mLook k [(177, E_M_tell), (228, E_M_isYear), (418, E_M_partedAt)]), (fun k => mLook k []), (fun k => mLook k []), (fun k => mLook k []), (fun k => mLook k [(28, [true, true, true, true, true, false]), (117, [true, false, true, true, false, false])]), (fun k => [20, 138].any (Nat.beq k)), (5, 132, 0, 0), false, (fun _ => none))
set_option maxRecDepth 100000 in
set_option maxHeartbeats 4000000 in
theorem q_M_where_e (a1 : Int32) (σ : MSto) (n : Nat) : mexe KT P_M_where (n + 1) (0, [some (mR 13 0), some (mI a1), none, none, none, none], [], σ, 0, 0) = mIf ((v_M_isYear a1 (sI σ 13 0 52 0)) = 0) (some (20, [], [(mI (-1))], (sI σ 13 0 52 0), 0, 0)) (mIf ((gI (sI σ 13 0 52 0) 13 0 17) = 0) (some (20, [], [(mI (-1))], (sI σ 13 0 52 0), 0, 0)) (mexe KT P_M_where n (28, [some (mR 13 0), some (mI a1), some (mI (-1)), some (mI 0), some (mI 0), none], [], (sI σ 13 0 52 0), 0, 0))) := rfl
set_option maxRecDepth 100000 in
set_option maxHeartbeats 4000000 in
theorem q_M_where_28 (x1 : Int32) (x2 : Int32) (x3 : Int32) (x4 : Int32) (σ : MSto) (n : Nat) : mexe KT P_M_where (n + 1) (28, [some (mR 13 0), some (mI x1), some (mI x2), some (mI x3), some (mI x4), none], [], σ, 0, 0) = mIf (4608 ≤ x4) (mG (¬ (192 : Int32) = 0) (mG (p_M_tell (Int32.toInt64 (x3 / 192)) (sI σ 13 0 51 0)) (mG (¬ (24 : Int32) = 0) (mG (¬ (8 : Int32) = 0) (mG (p_M_tell (Int32.toInt64 ((x3 / 24) - (x3 / 24) / 8 * 8)) (e_M_tell (Int32.toInt64 (x3 / 192)) (sI σ 13 0 51 0))) (mexe KT P_M_where n (117, [some (mR 13 0), none, some (mI x2), some (mI x3), none, none], [], (e_M_tell (Int32.toInt64 ((x3 / 24) - (x3 / 24) / 8 * 8)) (e_M_tell (Int32.toInt64 (x3 / 192)) (sI σ 13 0 51 0))), 0, 0))))))) (mG (¬ (192 : Int32) = 0) (mG (¬ (24 : Int32) = 0) (mG (¬ (8 : Int32) = 0) (mG (¬ (6 : Int32) = 0) (mG (¬ (4 : Int32) = 0) (mG (¬ (6 : Int32) = 0) (mG (p_M_partedAt (x4 / 192) ((x4 / 24) - (x4 / 24) / 8 * 8) ((x4 / 6) - (x4 / 6) / 4 * 4) (x4 - x4 / 6 * 6) x1 σ) (mIf (x2 < (v_M_partedAt (x4 / 192) ((x4 / 24) - (x4 / 24) / 8 * 8) ((x4 / 6) - (x4 / 6) / 4 * 4) (x4 - x4 / 6 * 6) x1 σ)) (mexe KT P_M_where n (28, [some (mR 13 0), some (mI x1), some (mI (v_M_partedAt (x4 / 192) ((x4 / 24) - (x4 / 24) / 8 * 8) ((x4 / 6) - (x4 / 6) / 4 * 4) (x4 - x4 / 6 * 6) x1 σ)), some (mI x4), some (mI (x4 + 1)), none], [], σ, 0, 0)) (mexe KT P_M_where n (28, [some (mR 13 0), some (mI x1), some (mI x2), some (mI x3), some (mI (x4 + 1)), none], [], σ, 0, 0)))))))))) := rfl
set_option maxRecDepth 100000 in
set_option maxHeartbeats 4000000 in
theorem q_M_where_117 (x2 : Int32) (x3 : Int32) (σ : MSto) (n : Nat) : mexe KT P_M_where (n + 1) (117, [some (mR 13 0), none, some (mI x2), some (mI x3), none, none], [], σ, 0, 0) = mG (¬ (6 : Int32) = 0) (mG (¬ (4 : Int32) = 0) (mG (p_M_tell (Int32.toInt64 ((x3 / 6) - (x3 / 6) / 4 * 4)) σ) (mG (¬ (6 : Int32) = 0) (mG (p_M_tell (Int32.toInt64 (x3 - x3 / 6 * 6)) (e_M_tell (Int32.toInt64 ((x3 / 6) - (x3 / 6) / 4 * 4)) σ)) (some (138, [], [(mI x2)], (e_M_tell (Int32.toInt64 (x3 - x3 / 6 * 6)) (e_M_tell (Int32.toInt64 ((x3 / 6) - (x3 / 6) / 4 * 4)) σ)), 0, 0)))))) := rfl
set_option maxRecDepth 100000 in
theorem lt_M_where_28 {Post : MST → Prop} (x1 : Int32) (c : Int32) (σ : MSto) (s : Int32 × Int32) (hp : g_M_where_28 x1 c σ s) (hq : ¬ q_M_where_28s x1 c σ s = 1) (hn : ∀ (r1 : Int32) (r2 : Int32), t_M_where_28 x1 c σ s = (r1, r2) → mW1 P_M_where (28, [some (mR 13 0), some (mI x1), some (mI r1), some (mI r2), some (mI (c + 1)), none], [], σ, 0, 0) Post) : mW1 P_M_where (28, [some (mR 13 0), some (mI x1), some (mI (s.1)), some (mI (s.2)), some (mI c), none], [], σ, 0, 0) Post := by
  unfold g_M_where_28 at hp
  refine mW1_eq (q_M_where_28 _ _ _ _ _) ?_
  refine mTr_if (fun h0 => ?_) (fun h0 => ?_)
  · skip
    exact absurd (if_pos h0) hq
  · skip
    have hp := hp h0
    refine mTr_g (by decide) ?_
    refine mTr_g (by decide) ?_
    refine mTr_g (by decide) ?_
    refine mTr_g (by decide) ?_
    refine mTr_g (by decide) ?_
    refine mTr_g (by decide) ?_
    refine mTr_g hp ?_
    refine mTr_if (fun h1 => ?_) (fun h1 => ?_)
    · skip
      exact mTr_k (hn (v_M_partedAt (c / 192) ((c / 24) - (c / 24) / 8 * 8) ((c / 6) - (c / 6) / 4 * 4) (c - c / 6 * 6) x1 σ) c ((if_neg h0).trans (if_pos h1)))
    · skip
      exact mTr_k (hn (s.1) (s.2) ((if_neg h0).trans (if_neg h1)))
theorem lp_M_where_28 {Post : MST → Prop} (x1 : Int32) (c0 : Int32) (σ : MSto) (s0 : Int32 × Int32) (N : Nat) (hb : ∀ i, i < N → g_M_where_28 x1 (c0 + nI i) σ (f_M_where_28 x1 c0 σ s0 i) ∧ ¬ q_M_where_28s x1 (c0 + nI i) σ (f_M_where_28 x1 c0 σ s0 i) = 1) (h : mW1 P_M_where (28, [some (mR 13 0), some (mI x1), some (mI ((f_M_where_28 x1 c0 σ s0 N).1)), some (mI ((f_M_where_28 x1 c0 σ s0 N).2)), some (mI (c0 + nI N)), none], [], σ, 0, 0) Post) : mW1 P_M_where (28, [some (mR 13 0), some (mI x1), some (mI (s0.1)), some (mI (s0.2)), some (mI c0), none], [], σ, 0, 0) Post := by
  refine mW1_st (mW1_loop (fun i => (28, [some (mR 13 0), some (mI x1), some (mI ((f_M_where_28 x1 c0 σ s0 i).1)), some (mI ((f_M_where_28 x1 c0 σ s0 i).2)), some (mI (c0 + nI i)), none], [], σ, 0, 0)) N (fun i hlt hn => ?_) h) (by rw [show nI 0 = 0 from rfl, Int32.add_zero] <;> rfl)
  refine lt_M_where_28 x1 _ σ _ (hb i hlt).1 (hb i hlt).2 (fun r1 r2 hr => ?_)
  rw [Int32.add_assoc, nI_s]
  have e : f_M_where_28 x1 c0 σ s0 (i + 1) = (r1, r2) := hr
  try dsimp only at hn
  rw [e] at hn
  exact hn
set_option maxRecDepth 100000 in
theorem lj_M_where_j117 (x2 : Int32) (x3 : Int32) (σ : MSto) (hp : gj_M_where_j117 x2 x3 σ) : mW1 P_M_where (117, [some (mR 13 0), none, some (mI x2), some (mI x3), none, none], [], σ, 0, 0) (mF [20, 138] [mI (vj_M_where_j117 x2 x3 σ)] (ej_M_where_j117 x2 x3 σ) 0 0) := by
  unfold gj_M_where_j117 at hp
  refine mW1_eq (q_M_where_117 _ _ _) ?_
  refine mTr_g (by decide) ?_
  refine mTr_g (by decide) ?_
  refine mTr_g hp.1 ?_
  have hp := hp.2
  refine mTr_g (by decide) ?_
  refine mTr_g hp ?_
  exact mTr_e (by decide) (congrArg (fun z => [mI z]) (Eq.symm (rfl))) (Eq.symm (rfl)) (by decide) (by decide)
set_option maxRecDepth 100000 in
set_option maxHeartbeats 4000000 in
theorem d_M_where (a1 : Int32) (σ : MSto) (hp : p_M_where a1 σ) : mW1 P_M_where (0, [some (mR 13 0), some (mI a1), none, none, none, none], [], σ, 0, 0) (mF [20, 138] [mI (v_M_where a1 σ)] (e_M_where a1 σ) 0 0) := by
  refine mW1_eq (q_M_where_e _ _) ?_
  unfold p_M_where at hp
  refine mTr_if (fun h0 => ?_) (fun h0 => ?_)
  · skip
    exact mTr_e (by decide) (congrArg (fun z => [mI z]) (Eq.symm (if_pos h0))) (Eq.symm (if_pos h0)) (by decide) (by decide)
  · skip
    have hp := hp h0
    refine mTr_if (fun h1 => ?_) (fun h1 => ?_)
    · skip
      exact mTr_e (by decide) (congrArg (fun z => [mI z]) (Eq.symm ((if_neg h0).trans (if_pos h1)))) (Eq.symm ((if_neg h0).trans (if_pos h1))) (by decide) (by decide)
    · skip
      have hp := hp h1
      refine mTr_k (lp_M_where_28 a1 0 (sI σ 13 0 52 0) ((-1), 0) (n_M_where_28 a1 0 (sI σ 13 0 52 0) ((-1), 0)) hp.1 ?_)
      have hp := hp.2
      refine mW1_eq (q_M_where_28 _ _ _ _ _) ?_
      refine mTr_if (fun h2 => ?_) (fun h2 => ?_)
      · skip
        have hp := hp.1 h2
        refine mTr_g (by decide) ?_
        refine mTr_g hp.1 ?_
        have hp := hp.2
        refine mTr_g (by decide) ?_
        refine mTr_g (by decide) ?_
        refine mTr_g hp.1 ?_
        have hp := hp.2
        exact mTr_k (mF_cI ((if_neg h0).trans (if_neg h1)) ((if_neg h0).trans (if_neg h1)) (lj_M_where_j117 ((f_M_where_28 a1 0 (sI σ 13 0 52 0) ((-1), 0) (n_M_where_28 a1 0 (sI σ 13 0 52 0) ((-1), 0))).1) ((f_M_where_28 a1 0 (sI σ 13 0 52 0) ((-1), 0) (n_M_where_28 a1 0 (sI σ 13 0 52 0) ((-1), 0))).2) (e_M_tell (Int32.toInt64 ((((f_M_where_28 a1 0 (sI σ 13 0 52 0) ((-1), 0) (n_M_where_28 a1 0 (sI σ 13 0 52 0) ((-1), 0))).2) / 24) - (((f_M_where_28 a1 0 (sI σ 13 0 52 0) ((-1), 0) (n_M_where_28 a1 0 (sI σ 13 0 52 0) ((-1), 0))).2) / 24) / 8 * 8)) (e_M_tell (Int32.toInt64 (((f_M_where_28 a1 0 (sI σ 13 0 52 0) ((-1), 0) (n_M_where_28 a1 0 (sI σ 13 0 52 0) ((-1), 0))).2) / 192)) (sI (sI σ 13 0 52 0) 13 0 51 0))) hp))
      · skip
        have hp := hp.2 h2
        exact hp.elim



theorem tk_M_where : ∀ pc i nx tg, T_M_where pc = some (i, nx, tg) → mOkB prog_14_method_90_code pc i nx tg = true := code_ok (N := 139) (fun k h => by unfold T_M_where; rw [h]; rfl) (by decide +kernel)
theorem ok_M_where (l : Launch) : mPOK l "ClothWithManModel" prog_14_method_90_code P_M_where := by
  refine ⟨tk_M_where, ?_, ?_, ?_, (fun pc i nx tg kd _ h => by cases h), ?_, ?_, fun pc en h => by cases h⟩
  · intro x ci f ty fin h
    exact mLook_all (Q := fun x v => mFOK "ClothWithManModel" x v.1 v.2.1 v.2.2.1 v.2.2.2 ∧ (v.2.2.2 = true → pIni P_M_where = true → (Cond.fieldLink "ClothWithManModel" x (((mCl[v.1]?).getD ("", fun _ => ("", "", "", false), 0)).2.1 v.2.1).1 (((mCl[v.1]?).getD ("", fun _ => ("", "", "", false), 0)).2.1 v.2.1).2.1 (((mCl[v.1]?).getD ("", fun _ => ("", "", "", false), 0)).2.1 v.2.1).2.2.1 ∈ lw_tbl ∧ (((mCl[v.1]?).getD ("", fun _ => ("", "", "", false), 0)).2.1 v.2.1).1 = "ClothWithManModel"))) (fcC ⟨fo_M_161, fun h1 h2 => by cases h1⟩ (fcC ⟨fo_M_164, fun h1 h2 => by cases h1⟩ (fcC ⟨fo_M_188, fun h1 h2 => by cases h1⟩ fcN))) x (ci, f, ty, fin) h
  · intro x
    have hh := mLook_all (l := ([] : List (Nat × (Int32 ⊕ Int64)))) (Q := fun x (v : Int32 ⊕ Int64) => (∀ w, v = .inl w → Cond.constant "ClothWithManModel" x w ∈ lw_tbl) ∧ (∀ w, v = .inr w → Cond.constantLong "ClothWithManModel" x w ∈ lw_tbl)) fcN x
    exact ⟨fun w h => (hh _ h).1 w rfl, fun w h => (hh _ h).2 w rfl⟩
  · exact fun x en h => mLook_all (Q := fun x en => mLink "ClothWithManModel" x en ∧ mCtr l en ∧ (en.1.1 = 2 → en.2.2.2.2.2.2 = none)) (fcC ⟨li_M_177, c_M_tell l, (fun h => by cases h)⟩ (fcC ⟨li_M_228, c_M_isYear l, (fun h => by cases h)⟩ (fcC ⟨li_M_418, c_M_partedAt l, (fun h => by cases h)⟩ fcN))) x en h
  · exact fun x kd h => mLook_all (Q := fun x kd => (kd = 95 ∧ Cond.fieldLink "ClothWithManModel" x "ClothWithMan" "LIKENESSES" "[I" ∈ lw_tbl) ∨ (kd = 96 ∧ Cond.fieldLink "ClothWithManModel" x "ClothWithMan" "APART_BOUNDS" "[I" ∈ lw_tbl)) fcN x kd h
  · exact fun x ci h => mLook_all (Q := fun x ci => ci ≠ 0 ∧ ∃ (C : String) (T : u_T) (N : Nat), mCl[ci]? = some (C, T, N) ∧ Cond.classLink "ClothWithManModel" x C ∈ lw_tbl ∧ Cond.instantiable C N ∈ lw_tbl) fcN x ci h
set_option maxRecDepth 100000 in
theorem c_M_where (l : Launch) : mCtr l E_M_where := mCtr_of (P := P_M_where) (own := "ClothWithManModel") mLay_ok rfl (by decide +kernel) rfl (ok_M_where l) (fun h => by cases h) (fun as σ pr rv σ' hF hpr hlv => by
  unfold E_M_where S_M_where at hF
  simp only [] at hF
  split at hF
  · cases hF
    obtain ⟨n, pcF, c1, s1, g1, g2, g3, g4⟩ := mF_inv (d_M_where _ σ (hpr _ rfl))
    exact ⟨Nat.le_of_ble_eq_true rfl, (fun v h => by cases h; trivial), n, pcF, c1, s1, g1, ⟨mEnd_of (i := .ireturn) (P := P_M_where) (rets := [20, 138]) rfl g2, rfl⟩, g3, g4⟩
  · cases hF
    exact (hpr _ rfl).elim)

