/-! ClothWithManModel.partedAt(IIIII)I -/
noncomputable def t_M_partedAt_21 (x1 : Int32) (x2 : Int32) (x3 : Int32) (x4 : Int32) (x5 : Int32) (x7 : Int32) (c : Int32) (σ : MSto) (s : Int32) : Int32 := (if (gI σ 13 0 17) ≤ c then s else (if (v_M_areParted x7 c x1 x2 x3 x4 x5 σ) = 0 then (s + 0) else (s + 1)))
noncomputable def q_M_partedAt_21s (x1 : Int32) (x2 : Int32) (x3 : Int32) (x4 : Int32) (x5 : Int32) (x7 : Int32) (c : Int32) (σ : MSto) (s : Int32) : Nat := (if (gI σ 13 0 17) ≤ c then 1 else (if (v_M_areParted x7 c x1 x2 x3 x4 x5 σ) = 0 then 0 else 0))
def g_M_partedAt_21 (x1 : Int32) (x2 : Int32) (x3 : Int32) (x4 : Int32) (x5 : Int32) (x7 : Int32) (c : Int32) (σ : MSto) (s : Int32) : Prop := (¬ ((gI σ 13 0 17) ≤ c) → (p_M_areParted x7 c x1 x2 x3 x4 x5 σ))
noncomputable def f_M_partedAt_21 (x1 : Int32) (x2 : Int32) (x3 : Int32) (x4 : Int32) (x5 : Int32) (x7 : Int32) (c0 : Int32) (σ : MSto) (s0 : Int32) (n : Nat) : Int32 := nfold (fun i s => t_M_partedAt_21 x1 x2 x3 x4 x5 x7 (c0 + nI i) σ s) s0 n
noncomputable def n_M_partedAt_21 (x1 : Int32) (x2 : Int32) (x3 : Int32) (x4 : Int32) (x5 : Int32) (x7 : Int32) (c0 : Int32) (σ : MSto) (s0 : Int32) : Nat := (nM σ 17 - c0.toNatClampNeg)
noncomputable def t_M_partedAt_6 (x1 : Int32) (x2 : Int32) (x3 : Int32) (x4 : Int32) (x5 : Int32) (c : Int32) (σ : MSto) (s : Int32) : Int32 := (if (gI σ 13 0 17) ≤ c then s else (f_M_partedAt_21 x1 x2 x3 x4 x5 c (c + 1) σ s (n_M_partedAt_21 x1 x2 x3 x4 x5 c (c + 1) σ s)))
noncomputable def q_M_partedAt_6s (x1 : Int32) (x2 : Int32) (x3 : Int32) (x4 : Int32) (x5 : Int32) (c : Int32) (σ : MSto) (s : Int32) : Nat := (if (gI σ 13 0 17) ≤ c then 1 else 0)
def g_M_partedAt_6 (x1 : Int32) (x2 : Int32) (x3 : Int32) (x4 : Int32) (x5 : Int32) (c : Int32) (σ : MSto) (s : Int32) : Prop := (¬ ((gI σ 13 0 17) ≤ c) → ((∀ i, i < (n_M_partedAt_21 x1 x2 x3 x4 x5 c (c + 1) σ s) → g_M_partedAt_21 x1 x2 x3 x4 x5 c ((c + 1) + nI i) σ (f_M_partedAt_21 x1 x2 x3 x4 x5 c (c + 1) σ s i) ∧ ¬ q_M_partedAt_21s x1 x2 x3 x4 x5 c ((c + 1) + nI i) σ (f_M_partedAt_21 x1 x2 x3 x4 x5 c (c + 1) σ s i) = 1) ∧ (¬ ((gI σ 13 0 17) ≤ ((c + 1) + nI (n_M_partedAt_21 x1 x2 x3 x4 x5 c (c + 1) σ s))) → False)))
noncomputable def f_M_partedAt_6 (x1 : Int32) (x2 : Int32) (x3 : Int32) (x4 : Int32) (x5 : Int32) (c0 : Int32) (σ : MSto) (s0 : Int32) (n : Nat) : Int32 := nfold (fun i s => t_M_partedAt_6 x1 x2 x3 x4 x5 (c0 + nI i) σ s) s0 n
noncomputable def n_M_partedAt_6 (x1 : Int32) (x2 : Int32) (x3 : Int32) (x4 : Int32) (x5 : Int32) (c0 : Int32) (σ : MSto) (s0 : Int32) : Nat := nM σ 17
noncomputable def v_M_partedAt (a1 : Int32) (a2 : Int32) (a3 : Int32) (a4 : Int32) (a5 : Int32) (σ : MSto) : Int32 := (f_M_partedAt_6 a1 a2 a3 a4 a5 0 σ 0 (n_M_partedAt_6 a1 a2 a3 a4 a5 0 σ 0))
def p_M_partedAt (a1 : Int32) (a2 : Int32) (a3 : Int32) (a4 : Int32) (a5 : Int32) (σ : MSto) : Prop := ((∀ i, i < (n_M_partedAt_6 a1 a2 a3 a4 a5 0 σ 0) → g_M_partedAt_6 a1 a2 a3 a4 a5 (0 + nI i) σ (f_M_partedAt_6 a1 a2 a3 a4 a5 0 σ 0 i) ∧ ¬ q_M_partedAt_6s a1 a2 a3 a4 a5 (0 + nI i) σ (f_M_partedAt_6 a1 a2 a3 a4 a5 0 σ 0 i) = 1) ∧ (¬ ((gI σ 13 0 17) ≤ (0 + nI (n_M_partedAt_6 a1 a2 a3 a4 a5 0 σ 0))) → False))
noncomputable def S_M_partedAt : List MV → MSto → Option Prop × Option MV × MSto := fun as σ => match as with
  | [.inr (.inr (some (13, 0))), .inl a0, .inl a1, .inl a2, .inl a3, .inl a4] => (some (p_M_partedAt a0 a1 a2 a3 a4 σ), some (mI (v_M_partedAt a0 a1 a2 a3 a4 σ)), σ)
  | _ => (some False, none, σ)
noncomputable def E_M_partedAt : MEnt := ((1, 5, 13), (4, 104, 0, 0), S_M_partedAt, ((⟨"ClothWithManModel", "partedAt", "(IIIII)I"⟩ : MethodName), prog_14_method_85_code, 9, (some .int)))

def T_M_partedAt : Nat → Option (Instr × Nat × List Nat) := fun k => bif Nat.blt k 73 then (bif Nat.blt k 35 then (bif Nat.blt k 17 then (bif Nat.blt k 6 then (bif Nat.blt k 3 then (bif Nat.blt k 1 then (bif Nat.beq k 0 then some (.iconst 0, 1, []) else none) else (bif Nat.beq k 1 then some (.istore 6, 3, []) else none)) else (bif Nat.blt k 4 then (bif Nat.beq k 3 then some (.iconst 0, 4, []) else none) else (bif Nat.beq k 4 then some (.istore 7, 6, []) else none))) else (bif Nat.blt k 9 then (bif Nat.blt k 8 then (bif Nat.beq k 6 then some (.iload 7, 8, []) else none) else (bif Nat.beq k 8 then some (.aload_n 0, 9, []) else none)) else (bif Nat.blt k 12 then (bif Nat.beq k 9 then some (.getfield 188, 12, []) else none) else (bif Nat.blt k 15 then (bif Nat.beq k 12 then some (.if_icmp .ge 58, 15, [70]) else none) else (bif Nat.beq k 15 then some (.iload 7, 17, []) else none))))) else (bif Nat.blt k 24 then (bif Nat.blt k 19 then (bif Nat.blt k 18 then (bif Nat.beq k 17 then some (.iconst 1, 18, []) else none) else (bif Nat.beq k 18 then some (.iadd, 19, []) else none)) else (bif Nat.blt k 21 then (bif Nat.beq k 19 then some (.istore 8, 21, []) else none) else (bif Nat.blt k 23 then (bif Nat.beq k 21 then some (.iload 8, 23, []) else none) else (bif Nat.beq k 23 then some (.aload_n 0, 24, []) else none)))) else (bif Nat.blt k 30 then (bif Nat.blt k 27 then (bif Nat.beq k 24 then some (.getfield 188, 27, []) else none) else (bif Nat.beq k 27 then some (.if_icmp .ge 37, 30, [64]) else none)) else (bif Nat.blt k 32 then (bif Nat.beq k 30 then some (.iload 6, 32, []) else none) else (bif Nat.blt k 33 then (bif Nat.beq k 32 then some (.aload_n 0, 33, []) else none) else (bif Nat.beq k 33 then some (.iload 7, 35, []) else none)))))) else (bif Nat.blt k 51 then (bif Nat.blt k 40 then (bif Nat.blt k 38 then (bif Nat.blt k 37 then (bif Nat.beq k 35 then some (.iload 8, 37, []) else none) else (bif Nat.beq k 37 then some (.iload_n 1, 38, []) else none)) else (bif Nat.blt k 39 then (bif Nat.beq k 38 then some (.iload_n 2, 39, []) else none) else (bif Nat.beq k 39 then some (.iload_n 3, 40, []) else none))) else (bif Nat.blt k 44 then (bif Nat.blt k 42 then (bif Nat.beq k 40 then some (.iload 4, 42, []) else none) else (bif Nat.beq k 42 then some (.iload 5, 44, []) else none)) else (bif Nat.blt k 47 then (bif Nat.beq k 44 then some (.invokevirtual 414, 47, []) else none) else (bif Nat.blt k 50 then (bif Nat.beq k 47 then some (.ifCond .eq 7, 50, [54]) else none) else (bif Nat.beq k 50 then some (.iconst 1, 51, []) else none))))) else (bif Nat.blt k 61 then (bif Nat.blt k 55 then (bif Nat.blt k 54 then (bif Nat.beq k 51 then some (.goto 4, 54, [55]) else none) else (bif Nat.beq k 54 then some (.iconst 0, 55, []) else none)) else (bif Nat.blt k 56 then (bif Nat.beq k 55 then some (.iadd, 56, []) else none) else (bif Nat.blt k 58 then (bif Nat.beq k 56 then some (.istore 6, 58, []) else none) else (bif Nat.beq k 58 then some (.iinc 8 1, 61, []) else none)))) else (bif Nat.blt k 67 then (bif Nat.blt k 64 then (bif Nat.beq k 61 then some (.goto (-40), 64, [21]) else none) else (bif Nat.beq k 64 then some (.iinc 7 1, 67, []) else none)) else (bif Nat.blt k 70 then (bif Nat.beq k 67 then some (.goto (-61), 70, [6]) else none) else (bif Nat.blt k 72 then (bif Nat.beq k 70 then some (.iload 6, 72, []) else none) else (bif Nat.beq k 72 then some (.ireturn, 73, []) else none))))))) else none
noncomputable def P_M_partedAt : MP := (T_M_partedAt, (fun k => mLook k [(188, (13, 17, .int, false))]), (fun k => mLook k []), (fun k => mLook k [(414, E_M_areParted)]), (fun k => mLook k []), (fun k => mLook k []), (fun k => mLook k []), (fun k => mLook k [(6, [true, true, true, true, true, true, true, true, false]), (21, [true, true, true, true, true, true, true, true, true])]), (fun k => [72].any (Nat.beq k)), (4, 104, 0, 0), false, (fun _ => none))
set_option maxRecDepth 100000 in
set_option maxHeartbeats 4000000 in
theorem q_M_partedAt_e (a1 : Int32) (a2 : Int32) (a3 : Int32) (a4 : Int32) (a5 : Int32) (σ : MSto) (n : Nat) : mexe KT P_M_partedAt (n + 1) (0, [some (mR 13 0), some (mI a1), some (mI a2), some (mI a3), some (mI a4), some (mI a5), none, none, none], [], σ, 0, 0) = mexe KT P_M_partedAt n (6, [some (mR 13 0), some (mI a1), some (mI a2), some (mI a3), some (mI a4), some (mI a5), some (mI 0), some (mI 0), none], [], σ, 0, 0) := rfl
set_option maxRecDepth 100000 in
set_option maxHeartbeats 4000000 in
theorem q_M_partedAt_6 (x1 : Int32) (x2 : Int32) (x3 : Int32) (x4 : Int32) (x5 : Int32) (x6 : Int32) (x7 : Int32) (σ : MSto) (n : Nat) : mexe KT P_M_partedAt (n + 1) (6, [some (mR 13 0), some (mI x1), some (mI x2), some (mI x3), some (mI x4), some (mI x5), some (mI x6), some (mI x7), none], [], σ, 0, 0) = (if (gI σ 13 0 17) ≤ x7 then some (72, [], [(mI x6)], σ, 0, 0) else mexe KT P_M_partedAt n (21, [some (mR 13 0), some (mI x1), some (mI x2), some (mI x3), some (mI x4), some (mI x5), some (mI x6), some (mI x7), some (mI (x7 + 1))], [], σ, 0, 0)) := rfl
set_option maxRecDepth 100000 in
set_option maxHeartbeats 4000000 in
theorem q_M_partedAt_21 (x1 : Int32) (x2 : Int32) (x3 : Int32) (x4 : Int32) (x5 : Int32) (x6 : Int32) (x7 : Int32) (x8 : Int32) (σ : MSto) (n : Nat) : mexe KT P_M_partedAt (n + 1) (21, [some (mR 13 0), some (mI x1), some (mI x2), some (mI x3), some (mI x4), some (mI x5), some (mI x6), some (mI x7), some (mI x8)], [], σ, 0, 0) = (if (gI σ 13 0 17) ≤ x8 then mexe KT P_M_partedAt n (6, [some (mR 13 0), some (mI x1), some (mI x2), some (mI x3), some (mI x4), some (mI x5), some (mI x6), some (mI (x7 + 1)), none], [], σ, 0, 0) else mG (p_M_areParted x7 x8 x1 x2 x3 x4 x5 σ) ((if (v_M_areParted x7 x8 x1 x2 x3 x4 x5 σ) = 0 then mexe KT P_M_partedAt n (21, [some (mR 13 0), some (mI x1), some (mI x2), some (mI x3), some (mI x4), some (mI x5), some (mI (x6 + 0)), some (mI x7), some (mI (x8 + 1))], [], σ, 0, 0) else mexe KT P_M_partedAt n (21, [some (mR 13 0), some (mI x1), some (mI x2), some (mI x3), some (mI x4), some (mI x5), some (mI (x6 + 1)), some (mI x7), some (mI (x8 + 1))], [], σ, 0, 0)))) := rfl
set_option maxRecDepth 100000 in
theorem lp_M_partedAt_21 {Post : MST → Prop} (x1 : Int32) (x2 : Int32) (x3 : Int32) (x4 : Int32) (x5 : Int32) (x7 : Int32) (c0 : Int32) (σ : MSto) (s0 : Int32) (N : Nat) (hb : ∀ i, i < N → g_M_partedAt_21 x1 x2 x3 x4 x5 x7 (c0 + nI i) σ (f_M_partedAt_21 x1 x2 x3 x4 x5 x7 c0 σ s0 i) ∧ ¬ q_M_partedAt_21s x1 x2 x3 x4 x5 x7 (c0 + nI i) σ (f_M_partedAt_21 x1 x2 x3 x4 x5 x7 c0 σ s0 i) = 1) (h : mW1 P_M_partedAt (21, [some (mR 13 0), some (mI x1), some (mI x2), some (mI x3), some (mI x4), some (mI x5), some (mI (f_M_partedAt_21 x1 x2 x3 x4 x5 x7 c0 σ s0 N)), some (mI x7), some (mI (c0 + nI N))], [], σ, 0, 0) Post) : mW1 P_M_partedAt (21, [some (mR 13 0), some (mI x1), some (mI x2), some (mI x3), some (mI x4), some (mI x5), some (mI s0), some (mI x7), some (mI c0)], [], σ, 0, 0) Post := by
  refine mW1_st (mW1_loop (fun i => (21, [some (mR 13 0), some (mI x1), some (mI x2), some (mI x3), some (mI x4), some (mI x5), some (mI (f_M_partedAt_21 x1 x2 x3 x4 x5 x7 c0 σ s0 i)), some (mI x7), some (mI (c0 + nI i))], [], σ, 0, 0)) N (fun i hlt hn => ?_) h) (by rw [show nI 0 = 0 from rfl, Int32.add_zero] <;> rfl)
  obtain ⟨hp, hq⟩ := hb i hlt
  have hn : mW1 P_M_partedAt (21, [some (mR 13 0), some (mI x1), some (mI x2), some (mI x3), some (mI x4), some (mI x5), some (mI (t_M_partedAt_21 x1 x2 x3 x4 x5 x7 (c0 + nI i) σ (f_M_partedAt_21 x1 x2 x3 x4 x5 x7 c0 σ s0 i))), some (mI x7), some (mI (c0 + nI i + 1))], [], σ, 0, 0) Post := by
    rw [Int32.add_assoc, nI_s]
    exact hn
  try dsimp only
  generalize (f_M_partedAt_21 x1 x2 x3 x4 x5 x7 c0 σ s0 i) = s at *
  generalize c0 + nI i = c at *
  clear hb h hlt
  unfold g_M_partedAt_21 at hp
  refine mW1_eq (q_M_partedAt_21 _ _ _ _ _ _ _ _ _) ?_
  refine mTr_if (fun h0 => ?_) (fun h0 => ?_)
  · skip
    exact absurd (by unfold q_M_partedAt_21s; first | (rw [if_pos h0]; done) | (rw [if_pos h0]; rfl)) hq
  · skip
    have hp := hp h0
    refine mTr_g hp ?_
    refine mTr_if (fun h1 => ?_) (fun h1 => ?_)
    · skip
      have e : t_M_partedAt_21 x1 x2 x3 x4 x5 x7 c σ s = (s + 0) := (by unfold t_M_partedAt_21; first | (rw [if_neg h0, if_pos h1]; done) | (rw [if_neg h0, if_pos h1]; rfl))
      rw [e] at hn
      exact mTr_k hn
    · skip
      have e : t_M_partedAt_21 x1 x2 x3 x4 x5 x7 c σ s = (s + 1) := (by unfold t_M_partedAt_21; first | (rw [if_neg h0, if_neg h1]; done) | (rw [if_neg h0, if_neg h1]; rfl))
      rw [e] at hn
      exact mTr_k hn
set_option maxRecDepth 100000 in
theorem lp_M_partedAt_6 {Post : MST → Prop} (x1 : Int32) (x2 : Int32) (x3 : Int32) (x4 : Int32) (x5 : Int32) (c0 : Int32) (σ : MSto) (s0 : Int32) (N : Nat) (hb : ∀ i, i < N → g_M_partedAt_6 x1 x2 x3 x4 x5 (c0 + nI i) σ (f_M_partedAt_6 x1 x2 x3 x4 x5 c0 σ s0 i) ∧ ¬ q_M_partedAt_6s x1 x2 x3 x4 x5 (c0 + nI i) σ (f_M_partedAt_6 x1 x2 x3 x4 x5 c0 σ s0 i) = 1) (h : mW1 P_M_partedAt (6, [some (mR 13 0), some (mI x1), some (mI x2), some (mI x3), some (mI x4), some (mI x5), some (mI (f_M_partedAt_6 x1 x2 x3 x4 x5 c0 σ s0 N)), some (mI (c0 + nI N)), none], [], σ, 0, 0) Post) : mW1 P_M_partedAt (6, [some (mR 13 0), some (mI x1), some (mI x2), some (mI x3), some (mI x4), some (mI x5), some (mI s0), some (mI c0), none], [], σ, 0, 0) Post := by
  refine mW1_st (mW1_loop (fun i => (6, [some (mR 13 0), some (mI x1), some (mI x2), some (mI x3), some (mI x4), some (mI x5), some (mI (f_M_partedAt_6 x1 x2 x3 x4 x5 c0 σ s0 i)), some (mI (c0 + nI i)), none], [], σ, 0, 0)) N (fun i hlt hn => ?_) h) (by rw [show nI 0 = 0 from rfl, Int32.add_zero] <;> rfl)
  obtain ⟨hp, hq⟩ := hb i hlt
  have hn : mW1 P_M_partedAt (6, [some (mR 13 0), some (mI x1), some (mI x2), some (mI x3), some (mI x4), some (mI x5), some (mI (t_M_partedAt_6 x1 x2 x3 x4 x5 (c0 + nI i) σ (f_M_partedAt_6 x1 x2 x3 x4 x5 c0 σ s0 i))), some (mI (c0 + nI i + 1)), none], [], σ, 0, 0) Post := by
    rw [Int32.add_assoc, nI_s]
    exact hn
  try dsimp only
  generalize (f_M_partedAt_6 x1 x2 x3 x4 x5 c0 σ s0 i) = s at *
  generalize c0 + nI i = c at *
  clear hb h hlt
  unfold g_M_partedAt_6 at hp
  refine mW1_eq (q_M_partedAt_6 _ _ _ _ _ _ _ _) ?_
  refine mTr_if (fun h0 => ?_) (fun h0 => ?_)
  · skip
    exact absurd (by unfold q_M_partedAt_6s; first | (rw [if_pos h0]; done) | (rw [if_pos h0]; rfl)) hq
  · skip
    have hp := hp h0
    refine mTr_k (lp_M_partedAt_21 x1 x2 x3 x4 x5 c (c + 1) σ s (n_M_partedAt_21 x1 x2 x3 x4 x5 c (c + 1) σ s) hp.1 ?_)
    have hp := hp.2
    refine mW1_eq (q_M_partedAt_21 _ _ _ _ _ _ _ _ _) ?_
    refine mTr_if (fun h1 => ?_) (fun h1 => ?_)
    · skip
      have e : t_M_partedAt_6 x1 x2 x3 x4 x5 c σ s = (f_M_partedAt_21 x1 x2 x3 x4 x5 c (c + 1) σ s (n_M_partedAt_21 x1 x2 x3 x4 x5 c (c + 1) σ s)) := (by unfold t_M_partedAt_6; first | (rw [if_neg h0]; done) | (rw [if_neg h0]; rfl))
      rw [e] at hn
      exact mTr_k hn
    · skip
      have hp := hp h1
      exact hp.elim
set_option maxRecDepth 100000 in
set_option maxHeartbeats 4000000 in
theorem d_M_partedAt (a1 : Int32) (a2 : Int32) (a3 : Int32) (a4 : Int32) (a5 : Int32) (σ : MSto) (hp : p_M_partedAt a1 a2 a3 a4 a5 σ) : mW1 P_M_partedAt (0, [some (mR 13 0), some (mI a1), some (mI a2), some (mI a3), some (mI a4), some (mI a5), none, none, none], [], σ, 0, 0) (mF [72] [mI (v_M_partedAt a1 a2 a3 a4 a5 σ)] σ 0 0) := by
  refine mW1_eq (q_M_partedAt_e _ _ _ _ _ _) ?_
  unfold p_M_partedAt at hp
  refine mTr_k (lp_M_partedAt_6 a1 a2 a3 a4 a5 0 σ 0 (n_M_partedAt_6 a1 a2 a3 a4 a5 0 σ 0) hp.1 ?_)
  have hp := hp.2
  refine mW1_eq (q_M_partedAt_6 _ _ _ _ _ _ _ _) ?_
  refine mTr_if (fun h0 => ?_) (fun h0 => ?_)
  · skip
    exact mTr_e (by decide) (by unfold v_M_partedAt; rfl) rfl (by decide) (by decide)
  · skip
    have hp := hp h0
    exact hp.elim
theorem li_M_414 : mLink "ClothWithManModel" 414 E_M_areParted := ⟨tw_8_26, tw_1_9, ⟨by decide, by decide⟩, by decide +kernel, Or.inl tw_8_23, (fun h => by cases h), (fun _ => ⟨tw_8_25, tw_0_83, TX12, 71, rfl⟩), (fun h => by cases h)⟩

theorem tk_M_partedAt : ∀ pc i nx tg, T_M_partedAt pc = some (i, nx, tg) → mOkB prog_14_method_85_code pc i nx tg = true := code_ok (N := 73) (fun k h => by unfold T_M_partedAt; rw [h]; rfl) (by decide +kernel)
theorem ok_M_partedAt (l : Launch) : mPOK l "ClothWithManModel" prog_14_method_85_code P_M_partedAt := by
  refine ⟨tk_M_partedAt, ?_, ?_, ?_, (fun pc i nx tg kd _ h => by cases h), ?_, ?_, fun pc en h => by cases h⟩
  · intro x ci f ty fin h
    exact mLook_all (Q := fun x v => mFOK "ClothWithManModel" x v.1 v.2.1 v.2.2.1 v.2.2.2 ∧ (v.2.2.2 = true → pIni P_M_partedAt = true → (Cond.fieldLink "ClothWithManModel" x (((mCl[v.1]?).getD ("", fun _ => ("", "", "", false), 0)).2.1 v.2.1).1 (((mCl[v.1]?).getD ("", fun _ => ("", "", "", false), 0)).2.1 v.2.1).2.1 (((mCl[v.1]?).getD ("", fun _ => ("", "", "", false), 0)).2.1 v.2.1).2.2.1 ∈ lw_tbl ∧ (((mCl[v.1]?).getD ("", fun _ => ("", "", "", false), 0)).2.1 v.2.1).1 = "ClothWithManModel"))) (fcC ⟨fo_M_188, fun h1 h2 => by cases h1⟩ fcN) x (ci, f, ty, fin) h
  · intro x
    have hh := mLook_all (l := ([] : List (Nat × (Int32 ⊕ Int64)))) (Q := fun x (v : Int32 ⊕ Int64) => (∀ w, v = .inl w → Cond.constant "ClothWithManModel" x w ∈ lw_tbl) ∧ (∀ w, v = .inr w → Cond.constantLong "ClothWithManModel" x w ∈ lw_tbl)) fcN x
    exact ⟨fun w h => (hh _ h).1 w rfl, fun w h => (hh _ h).2 w rfl⟩
  · exact fun x en h => mLook_all (Q := fun x en => mLink "ClothWithManModel" x en ∧ mCtr l en ∧ (en.1.1 = 2 → en.2.2.2.2.2.2 = none)) (fcC ⟨li_M_414, c_M_areParted l, (fun h => by cases h)⟩ fcN) x en h
  · exact fun x kd h => mLook_all (Q := fun x kd => (kd = 95 ∧ Cond.fieldLink "ClothWithManModel" x "ClothWithMan" "LIKENESSES" "[I" ∈ lw_tbl) ∨ (kd = 96 ∧ Cond.fieldLink "ClothWithManModel" x "ClothWithMan" "APART_BOUNDS" "[I" ∈ lw_tbl)) fcN x kd h
  · exact fun x ci h => mLook_all (Q := fun x ci => ci ≠ 0 ∧ ∃ (C : String) (T : u_T) (N : Nat), mCl[ci]? = some (C, T, N) ∧ Cond.classLink "ClothWithManModel" x C ∈ lw_tbl ∧ Cond.castable C C ∈ lw_tbl) fcN x ci h
set_option maxRecDepth 100000 in
theorem c_M_partedAt (l : Launch) : mCtr l E_M_partedAt := mCtr_of (P := P_M_partedAt) (own := "ClothWithManModel") mLay_ok rfl (by decide +kernel) rfl (ok_M_partedAt l) (fun h => by cases h) (fun as σ pr rv σ' hF hpr hlv => by
  unfold E_M_partedAt S_M_partedAt at hF
  simp only [] at hF
  split at hF
  · cases hF
    obtain ⟨n, pcF, c1, s1, g1, g2, g3, g4⟩ := mF_inv (d_M_partedAt _ _ _ _ _ σ (hpr _ rfl))
    exact ⟨Nat.le_of_ble_eq_true rfl, (fun v h => by cases h; trivial), n, pcF, c1, s1, g1, ⟨mEnd_of (i := .ireturn) (P := P_M_partedAt) (rets := [72]) rfl g2, rfl⟩, g3, g4⟩
  · cases hF
    exact (hpr _ rfl).elim)
/-! ClothWithManModel.partedBy(II)I -/
noncomputable def v_M_partedBy (a1 : Int32) (a2 : Int32) (σ : MSto) : Int32 := (v_M_partedAt (gI σ 47 0 (Int32.toNatClampNeg a1)) (gI σ 48 0 (Int32.toNatClampNeg a1)) (gI σ 49 0 (Int32.toNatClampNeg a1)) (gI σ 50 0 (Int32.toNatClampNeg a1)) a2 σ)
def p_M_partedBy (a1 : Int32) (a2 : Int32) (σ : MSto) : Prop := ((vp_in a1 12) ∧ ((vp_in a1 12) ∧ ((vp_in a1 12) ∧ ((vp_in a1 12) ∧ (p_M_partedAt (gI σ 47 0 (Int32.toNatClampNeg a1)) (gI σ 48 0 (Int32.toNatClampNeg a1)) (gI σ 49 0 (Int32.toNatClampNeg a1)) (gI σ 50 0 (Int32.toNatClampNeg a1)) a2 σ)))))
noncomputable def S_M_partedBy : List MV → MSto → Option Prop × Option MV × MSto := fun as σ => match as with
  | [.inr (.inr (some (13, 0))), .inl a0, .inl a1] => (some (p_M_partedBy a0 a1 σ), some (mI (v_M_partedBy a0 a1 σ)), σ)
  | _ => (some False, none, σ)
noncomputable def E_M_partedBy : MEnt := ((1, 2, 13), (5, 132, 0, 0), S_M_partedBy, ((⟨"ClothWithManModel", "partedBy", "(II)I"⟩ : MethodName), prog_14_method_86_code, 3, (some .int)))

def T_M_partedBy : Nat → Option (Instr × Nat × List Nat) := fun k => bif Nat.blt k 30 then (bif Nat.blt k 14 then (bif Nat.blt k 7 then (bif Nat.blt k 2 then (bif Nat.blt k 1 then (bif Nat.beq k 0 then some (.aload_n 0, 1, []) else none) else (bif Nat.beq k 1 then some (.aload_n 0, 2, []) else none)) else (bif Nat.blt k 5 then (bif Nat.beq k 2 then some (.getfield 35, 5, []) else none) else (bif Nat.blt k 6 then (bif Nat.beq k 5 then some (.iload_n 1, 6, []) else none) else (bif Nat.beq k 6 then some (.iaload, 7, []) else none)))) else (bif Nat.blt k 11 then (bif Nat.blt k 8 then (bif Nat.beq k 7 then some (.aload_n 0, 8, []) else none) else (bif Nat.beq k 8 then some (.getfield 38, 11, []) else none)) else (bif Nat.blt k 12 then (bif Nat.beq k 11 then some (.iload_n 1, 12, []) else none) else (bif Nat.blt k 13 then (bif Nat.beq k 12 then some (.iaload, 13, []) else none) else (bif Nat.beq k 13 then some (.aload_n 0, 14, []) else none))))) else (bif Nat.blt k 23 then (bif Nat.blt k 18 then (bif Nat.blt k 17 then (bif Nat.beq k 14 then some (.getfield 41, 17, []) else none) else (bif Nat.beq k 17 then some (.iload_n 1, 18, []) else none)) else (bif Nat.blt k 19 then (bif Nat.beq k 18 then some (.iaload, 19, []) else none) else (bif Nat.blt k 20 then (bif Nat.beq k 19 then some (.aload_n 0, 20, []) else none) else (bif Nat.beq k 20 then some (.getfield 44, 23, []) else none)))) else (bif Nat.blt k 25 then (bif Nat.blt k 24 then (bif Nat.beq k 23 then some (.iload_n 1, 24, []) else none) else (bif Nat.beq k 24 then some (.iaload, 25, []) else none)) else (bif Nat.blt k 26 then (bif Nat.beq k 25 then some (.iload_n 2, 26, []) else none) else (bif Nat.blt k 29 then (bif Nat.beq k 26 then some (.invokevirtual 418, 29, []) else none) else (bif Nat.beq k 29 then some (.ireturn, 30, []) else none)))))) else none
noncomputable def P_M_partedBy : MP := (T_M_partedBy, (fun k => mLook k [(35, (13, 11, (.array .int), true)), (38, (13, 12, (.array .int), true)), (41, (13, 13, (.array .int), true)), (44, (13, 14, (.array .int), true))]), (fun k => mLook k []), (fun k => mLook k [(418, E_M_partedAt)]), (fun k => mLook k []), (fun k => mLook k []), (fun k => mLook k []), (fun k => mLook k []), (fun k => [29].any (Nat.beq k)), (5, 132, 0, 0), false, (fun _ => none))
set_option maxRecDepth 100000 in
set_option maxHeartbeats 4000000 in
theorem q_M_partedBy_e (a1 : Int32) (a2 : Int32) (σ : MSto) (n : Nat) : mexe KT P_M_partedBy (n + 1) (0, [some (mR 13 0), some (mI a1), some (mI a2)], [], σ, 0, 0) = mG (vp_in a1 12) (mG (vp_in a1 12) (mG (vp_in a1 12) (mG (vp_in a1 12) (mG (p_M_partedAt (gI σ 47 0 (Int32.toNatClampNeg a1)) (gI σ 48 0 (Int32.toNatClampNeg a1)) (gI σ 49 0 (Int32.toNatClampNeg a1)) (gI σ 50 0 (Int32.toNatClampNeg a1)) a2 σ) (some (29, [], [(mI (v_M_partedAt (gI σ 47 0 (Int32.toNatClampNeg a1)) (gI σ 48 0 (Int32.toNatClampNeg a1)) (gI σ 49 0 (Int32.toNatClampNeg a1)) (gI σ 50 0 (Int32.toNatClampNeg a1)) a2 σ))], σ, 0, 0)))))) := rfl
set_option maxRecDepth 100000 in
set_option maxHeartbeats 4000000 in
theorem d_M_partedBy (a1 : Int32) (a2 : Int32) (σ : MSto) (hp : p_M_partedBy a1 a2 σ) : mW1 P_M_partedBy (0, [some (mR 13 0), some (mI a1), some (mI a2)], [], σ, 0, 0) (mF [29] [mI (v_M_partedBy a1 a2 σ)] σ 0 0) := by
  refine mW1_eq (q_M_partedBy_e _ _ _) ?_
  unfold p_M_partedBy at hp
  refine mTr_g hp.1 ?_
  have hp := hp.2
  refine mTr_g hp.1 ?_
  have hp := hp.2
  refine mTr_g hp.1 ?_
  have hp := hp.2
  refine mTr_g hp.1 ?_
  have hp := hp.2
  refine mTr_g hp ?_
  exact mTr_e (by decide) rfl rfl (by decide) (by decide)
theorem li_M_418 : mLink "ClothWithManModel" 418 E_M_partedAt := ⟨tw_8_37, tw_1_9, ⟨by decide, by decide⟩, by decide +kernel, Or.inl tw_8_34, (fun h => by cases h), (fun _ => ⟨tw_8_36, tw_0_85, TX12, 71, rfl⟩), (fun h => by cases h)⟩

theorem tk_M_partedBy : ∀ pc i nx tg, T_M_partedBy pc = some (i, nx, tg) → mOkB prog_14_method_86_code pc i nx tg = true := code_ok (N := 30) (fun k h => by unfold T_M_partedBy; rw [h]; rfl) (by decide +kernel)
theorem ok_M_partedBy (l : Launch) : mPOK l "ClothWithManModel" prog_14_method_86_code P_M_partedBy := by
  refine ⟨tk_M_partedBy, ?_, ?_, ?_, (fun pc i nx tg kd _ h => by cases h), ?_, ?_, fun pc en h => by cases h⟩
  · intro x ci f ty fin h
    exact mLook_all (Q := fun x v => mFOK "ClothWithManModel" x v.1 v.2.1 v.2.2.1 v.2.2.2 ∧ (v.2.2.2 = true → pIni P_M_partedBy = true → (Cond.fieldLink "ClothWithManModel" x (((mCl[v.1]?).getD ("", fun _ => ("", "", "", false), 0)).2.1 v.2.1).1 (((mCl[v.1]?).getD ("", fun _ => ("", "", "", false), 0)).2.1 v.2.1).2.1 (((mCl[v.1]?).getD ("", fun _ => ("", "", "", false), 0)).2.1 v.2.1).2.2.1 ∈ lw_tbl ∧ (((mCl[v.1]?).getD ("", fun _ => ("", "", "", false), 0)).2.1 v.2.1).1 = "ClothWithManModel"))) (fcC ⟨fo_M_35, fun h1 h2 => by cases h2⟩ (fcC ⟨fo_M_38, fun h1 h2 => by cases h2⟩ (fcC ⟨fo_M_41, fun h1 h2 => by cases h2⟩ (fcC ⟨fo_M_44, fun h1 h2 => by cases h2⟩ fcN)))) x (ci, f, ty, fin) h
  · intro x
    have hh := mLook_all (l := ([] : List (Nat × (Int32 ⊕ Int64)))) (Q := fun x (v : Int32 ⊕ Int64) => (∀ w, v = .inl w → Cond.constant "ClothWithManModel" x w ∈ lw_tbl) ∧ (∀ w, v = .inr w → Cond.constantLong "ClothWithManModel" x w ∈ lw_tbl)) fcN x
    exact ⟨fun w h => (hh _ h).1 w rfl, fun w h => (hh _ h).2 w rfl⟩
  · exact fun x en h => mLook_all (Q := fun x en => mLink "ClothWithManModel" x en ∧ mCtr l en ∧ (en.1.1 = 2 → en.2.2.2.2.2.2 = none)) (fcC ⟨li_M_418, c_M_partedAt l, (fun h => by cases h)⟩ fcN) x en h
  · exact fun x kd h => mLook_all (Q := fun x kd => (kd = 95 ∧ Cond.fieldLink "ClothWithManModel" x "ClothWithMan" "LIKENESSES" "[I" ∈ lw_tbl) ∨ (kd = 96 ∧ Cond.fieldLink "ClothWithManModel" x "ClothWithMan" "APART_BOUNDS" "[I" ∈ lw_tbl)) fcN x kd h
  · exact fun x ci h => mLook_all (Q := fun x ci => ci ≠ 0 ∧ ∃ (C : String) (T : u_T) (N : Nat), mCl[ci]? = some (C, T, N) ∧ Cond.classLink "ClothWithManModel" x C ∈ lw_tbl ∧ Cond.castable C C ∈ lw_tbl) fcN x ci h
set_option maxRecDepth 100000 in
theorem c_M_partedBy (l : Launch) : mCtr l E_M_partedBy := mCtr_of (P := P_M_partedBy) (own := "ClothWithManModel") mLay_ok rfl (by decide +kernel) rfl (ok_M_partedBy l) (fun h => by cases h) (fun as σ pr rv σ' hF hpr hlv => by
  unfold E_M_partedBy S_M_partedBy at hF
  simp only [] at hF
  split at hF
  · cases hF
    obtain ⟨n, pcF, c1, s1, g1, g2, g3, g4⟩ := mF_inv (d_M_partedBy _ _ σ (hpr _ rfl))
    exact ⟨Nat.le_of_ble_eq_true rfl, (fun v h => by cases h; trivial), n, pcF, c1, s1, g1, ⟨mEnd_of (i := .ireturn) (P := P_M_partedBy) (rets := [29]) rfl g2, rfl⟩, g3, g4⟩
  · cases hF
    exact (hpr _ rfl).elim)
/-! ClothWithManModel.parts(II)I -/
noncomputable def t_M_parts_42 (x1 : Int32) (x2 : Int32) (x3 : Int32) (c : Int32) (s : MSto) : MSto := (if (gI s 13 0 17) ≤ c then s else (if 0 < (gI s 13 0 51) then s else (if (v_M_areParted x3 c (gI s 47 0 (Int32.toNatClampNeg x1)) (gI s 48 0 (Int32.toNatClampNeg x1)) (gI s 49 0 (Int32.toNatClampNeg x1)) (gI s 50 0 (Int32.toNatClampNeg x1)) x2 s) = 0 then (e_M_tell (Int32.toInt64 c) (e_M_tell (Int32.toInt64 x3) s)) else s)))
noncomputable def q_M_parts_42s (x1 : Int32) (x2 : Int32) (x3 : Int32) (c : Int32) (s : MSto) : Nat := (if (gI s 13 0 17) ≤ c then 1 else (if 0 < (gI s 13 0 51) then 0 else (if (v_M_areParted x3 c (gI s 47 0 (Int32.toNatClampNeg x1)) (gI s 48 0 (Int32.toNatClampNeg x1)) (gI s 49 0 (Int32.toNatClampNeg x1)) (gI s 50 0 (Int32.toNatClampNeg x1)) x2 s) = 0 then 0 else 0)))
def g_M_parts_42 (x1 : Int32) (x2 : Int32) (x3 : Int32) (c : Int32) (s : MSto) : Prop := (¬ ((gI s 13 0 17) ≤ c) → (¬ (0 < (gI s 13 0 51)) → ((vp_in x1 12) ∧ ((vp_in x1 12) ∧ ((vp_in x1 12) ∧ ((vp_in x1 12) ∧ ((p_M_areParted x3 c (gI s 47 0 (Int32.toNatClampNeg x1)) (gI s 48 0 (Int32.toNatClampNeg x1)) (gI s 49 0 (Int32.toNatClampNeg x1)) (gI s 50 0 (Int32.toNatClampNeg x1)) x2 s) ∧ (((v_M_areParted x3 c (gI s 47 0 (Int32.toNatClampNeg x1)) (gI s 48 0 (Int32.toNatClampNeg x1)) (gI s 49 0 (Int32.toNatClampNeg x1)) (gI s 50 0 (Int32.toNatClampNeg x1)) x2 s) = 0) → ((p_M_tell (Int32.toInt64 x3) s) ∧ (p_M_tell (Int32.toInt64 c) (e_M_tell (Int32.toInt64 x3) s)))))))))))
noncomputable def f_M_parts_42 (x1 : Int32) (x2 : Int32) (x3 : Int32) (c0 : Int32) (s0 : MSto) (n : Nat) : MSto := nfold (fun i s => t_M_parts_42 x1 x2 x3 (c0 + nI i) s) s0 n
noncomputable def n_M_parts_42 (x1 : Int32) (x2 : Int32) (x3 : Int32) (c0 : Int32) (s0 : MSto) : Nat := (nM s0 17 - c0.toNatClampNeg)
noncomputable def t_M_parts_29 (x1 : Int32) (x2 : Int32) (c : Int32) (s : MSto) : MSto := (if (gI s 13 0 17) ≤ c then s else (f_M_parts_42 x1 x2 c (c + 1) s (n_M_parts_42 x1 x2 c (c + 1) s)))
noncomputable def q_M_parts_29s (x1 : Int32) (x2 : Int32) (c : Int32) (s : MSto) : Nat := (if (gI s 13 0 17) ≤ c then 1 else 0)
def g_M_parts_29 (x1 : Int32) (x2 : Int32) (c : Int32) (s : MSto) : Prop := (¬ ((gI s 13 0 17) ≤ c) → ((∀ i, i < (n_M_parts_42 x1 x2 c (c + 1) s) → g_M_parts_42 x1 x2 c ((c + 1) + nI i) (f_M_parts_42 x1 x2 c (c + 1) s i) ∧ ¬ q_M_parts_42s x1 x2 c ((c + 1) + nI i) (f_M_parts_42 x1 x2 c (c + 1) s i) = 1) ∧ (¬ ((gI (f_M_parts_42 x1 x2 c (c + 1) s (n_M_parts_42 x1 x2 c (c + 1) s)) 13 0 17) ≤ ((c + 1) + nI (n_M_parts_42 x1 x2 c (c + 1) s))) → False)))
noncomputable def f_M_parts_29 (x1 : Int32) (x2 : Int32) (c0 : Int32) (s0 : MSto) (n : Nat) : MSto := nfold (fun i s => t_M_parts_29 x1 x2 (c0 + nI i) s) s0 n
noncomputable def n_M_parts_29 (x1 : Int32) (x2 : Int32) (c0 : Int32) (s0 : MSto) : Nat := nM s0 17
noncomputable def v_M_parts (a1 : Int32) (a2 : Int32) (σ : MSto) : Int32 := (if (v_M_isPiece a1 (sI σ 13 0 52 0)) = 0 then (-1) else (if (v_M_isYear a2 (sI σ 13 0 52 0)) = 0 then (-1) else (v_M_partedBy a1 a2 (f_M_parts_29 a1 a2 0 (sI (sI σ 13 0 52 0) 13 0 51 0) (n_M_parts_29 a1 a2 0 (sI (sI σ 13 0 52 0) 13 0 51 0))))))
def p_M_parts (a1 : Int32) (a2 : Int32) (σ : MSto) : Prop := (¬ ((v_M_isPiece a1 (sI σ 13 0 52 0)) = 0) → (¬ ((v_M_isYear a2 (sI σ 13 0 52 0)) = 0) → ((∀ i, i < (n_M_parts_29 a1 a2 0 (sI (sI σ 13 0 52 0) 13 0 51 0)) → g_M_parts_29 a1 a2 (0 + nI i) (f_M_parts_29 a1 a2 0 (sI (sI σ 13 0 52 0) 13 0 51 0) i) ∧ ¬ q_M_parts_29s a1 a2 (0 + nI i) (f_M_parts_29 a1 a2 0 (sI (sI σ 13 0 52 0) 13 0 51 0) i) = 1) ∧ ((((gI (f_M_parts_29 a1 a2 0 (sI (sI σ 13 0 52 0) 13 0 51 0) (n_M_parts_29 a1 a2 0 (sI (sI σ 13 0 52 0) 13 0 51 0))) 13 0 17) ≤ (0 + nI (n_M_parts_29 a1 a2 0 (sI (sI σ 13 0 52 0) 13 0 51 0)))) → (p_M_partedBy a1 a2 (f_M_parts_29 a1 a2 0 (sI (sI σ 13 0 52 0) 13 0 51 0) (n_M_parts_29 a1 a2 0 (sI (sI σ 13 0 52 0) 13 0 51 0))))) ∧ (¬ ((gI (f_M_parts_29 a1 a2 0 (sI (sI σ 13 0 52 0) 13 0 51 0) (n_M_parts_29 a1 a2 0 (sI (sI σ 13 0 52 0) 13 0 51 0))) 13 0 17) ≤ (0 + nI (n_M_parts_29 a1 a2 0 (sI (sI σ 13 0 52 0) 13 0 51 0)))) → False)))))
noncomputable def e_M_parts (a1 : Int32) (a2 : Int32) (σ : MSto) : MSto := (if (v_M_isPiece a1 (sI σ 13 0 52 0)) = 0 then (sI σ 13 0 52 0) else (if (v_M_isYear a2 (sI σ 13 0 52 0)) = 0 then (sI σ 13 0 52 0) else (f_M_parts_29 a1 a2 0 (sI (sI σ 13 0 52 0) 13 0 51 0) (n_M_parts_29 a1 a2 0 (sI (sI σ 13 0 52 0) 13 0 51 0)))))
noncomputable def S_M_parts : List MV → MSto → Option Prop × Option MV × MSto := fun as σ => match as with
  | [.inr (.inr (some (13, 0))), .inl a0, .inl a1] => (some (p_M_parts a0 a1 σ), some (mI (v_M_parts a0 a1 σ)), e_M_parts a0 a1 σ)
  | _ => (some False, none, σ)
noncomputable def E_M_parts : MEnt := ((1, 2, 13), (6, 154, 0, 0), S_M_parts, ((⟨"ClothWithManModel", "parts", "(II)I"⟩ : MethodName), prog_14_method_87_code, 5, (some .int)))

def T_M_parts : Nat → Option (Instr × Nat × List Nat) := fun k => bif Nat.blt k 128 then (bif Nat.blt k 63 then (bif Nat.blt k 30 then (bif Nat.blt k 17 then (bif Nat.blt k 6 then (bif Nat.blt k 2 then (bif Nat.blt k 1 then (bif Nat.beq k 0 then some (.aload_n 0, 1, []) else none) else (bif Nat.beq k 1 then some (.iconst 0, 2, []) else none)) else (bif Nat.blt k 5 then (bif Nat.beq k 2 then some (.putfield 161, 5, []) else none) else (bif Nat.beq k 5 then some (.aload_n 0, 6, []) else none))) else (bif Nat.blt k 10 then (bif Nat.blt k 7 then (bif Nat.beq k 6 then some (.iload_n 1, 7, []) else none) else (bif Nat.beq k 7 then some (.invokevirtual 267, 10, []) else none)) else (bif Nat.blt k 13 then (bif Nat.beq k 10 then some (.ifCond .eq 10, 13, [20]) else none) else (bif Nat.blt k 14 then (bif Nat.beq k 13 then some (.iload_n 2, 14, []) else none) else (bif Nat.beq k 14 then some (.invokestatic 228, 17, []) else none))))) else (bif Nat.blt k 23 then (bif Nat.blt k 21 then (bif Nat.blt k 20 then (bif Nat.beq k 17 then some (.ifCond .ne 5, 20, [22]) else none) else (bif Nat.beq k 20 then some (.iconst (-1), 21, []) else none)) else (bif Nat.blt k 22 then (bif Nat.beq k 21 then some (.ireturn, 22, []) else none) else (bif Nat.beq k 22 then some (.aload_n 0, 23, []) else none))) else (bif Nat.blt k 27 then (bif Nat.blt k 24 then (bif Nat.beq k 23 then some (.iconst 0, 24, []) else none) else (bif Nat.beq k 24 then some (.putfield 164, 27, []) else none)) else (bif Nat.blt k 28 then (bif Nat.beq k 27 then some (.iconst 0, 28, []) else none) else (bif Nat.blt k 29 then (bif Nat.beq k 28 then some (.istore_n 3, 29, []) else none) else (bif Nat.beq k 29 then some (.iload_n 3, 30, []) else none)))))) else (bif Nat.blt k 45 then (bif Nat.blt k 38 then (bif Nat.blt k 34 then (bif Nat.blt k 31 then (bif Nat.beq k 30 then some (.aload_n 0, 31, []) else none) else (bif Nat.beq k 31 then some (.getfield 188, 34, []) else none)) else (bif Nat.blt k 37 then (bif Nat.beq k 34 then some (.if_icmp .ge 87, 37, [121]) else none) else (bif Nat.beq k 37 then some (.iload_n 3, 38, []) else none))) else (bif Nat.blt k 40 then (bif Nat.blt k 39 then (bif Nat.beq k 38 then some (.iconst 1, 39, []) else none) else (bif Nat.beq k 39 then some (.iadd, 40, []) else none)) else (bif Nat.blt k 42 then (bif Nat.beq k 40 then some (.istore 4, 42, []) else none) else (bif Nat.blt k 44 then (bif Nat.beq k 42 then some (.iload 4, 44, []) else none) else (bif Nat.beq k 44 then some (.aload_n 0, 45, []) else none))))) else (bif Nat.blt k 55 then (bif Nat.blt k 51 then (bif Nat.blt k 48 then (bif Nat.beq k 45 then some (.getfield 188, 48, []) else none) else (bif Nat.beq k 48 then some (.if_icmp .ge 67, 51, [115]) else none)) else (bif Nat.blt k 52 then (bif Nat.beq k 51 then some (.aload_n 0, 52, []) else none) else (bif Nat.beq k 52 then some (.getfield 164, 55, []) else none))) else (bif Nat.blt k 59 then (bif Nat.blt k 58 then (bif Nat.beq k 55 then some (.ifCond .gt 54, 58, [109]) else none) else (bif Nat.beq k 58 then some (.aload_n 0, 59, []) else none)) else (bif Nat.blt k 60 then (bif Nat.beq k 59 then some (.iload_n 3, 60, []) else none) else (bif Nat.blt k 62 then (bif Nat.beq k 60 then some (.iload 4, 62, []) else none) else (bif Nat.beq k 62 then some (.aload_n 0, 63, []) else none))))))) else (bif Nat.blt k 93 then (bif Nat.blt k 78 then (bif Nat.blt k 69 then (bif Nat.blt k 67 then (bif Nat.blt k 66 then (bif Nat.beq k 63 then some (.getfield 35, 66, []) else none) else (bif Nat.beq k 66 then some (.iload_n 1, 67, []) else none)) else (bif Nat.blt k 68 then (bif Nat.beq k 67 then some (.iaload, 68, []) else none) else (bif Nat.beq k 68 then some (.aload_n 0, 69, []) else none))) else (bif Nat.blt k 73 then (bif Nat.blt k 72 then (bif Nat.beq k 69 then some (.getfield 38, 72, []) else none) else (bif Nat.beq k 72 then some (.iload_n 1, 73, []) else none)) else (bif Nat.blt k 74 then (bif Nat.beq k 73 then some (.iaload, 74, []) else none) else (bif Nat.blt k 75 then (bif Nat.beq k 74 then some (.aload_n 0, 75, []) else none) else (bif Nat.beq k 75 then some (.getfield 41, 78, []) else none))))) else (bif Nat.blt k 84 then (bif Nat.blt k 80 then (bif Nat.blt k 79 then (bif Nat.beq k 78 then some (.iload_n 1, 79, []) else none) else (bif Nat.beq k 79 then some (.iaload, 80, []) else none)) else (bif Nat.blt k 81 then (bif Nat.beq k 80 then some (.aload_n 0, 81, []) else none) else (bif Nat.beq k 81 then some (.getfield 44, 84, []) else none))) else (bif Nat.blt k 86 then (bif Nat.blt k 85 then (bif Nat.beq k 84 then some (.iload_n 1, 85, []) else none) else (bif Nat.beq k 85 then some (.iaload, 86, []) else none)) else (bif Nat.blt k 87 then (bif Nat.beq k 86 then some (.iload_n 2, 87, []) else none) else (bif Nat.blt k 90 then (bif Nat.beq k 87 then some (.invokevirtual 414, 90, []) else none) else (bif Nat.beq k 90 then some (.ifCond .eq 6, 93, [96]) else none)))))) else (bif Nat.blt k 109 then (bif Nat.blt k 99 then (bif Nat.blt k 97 then (bif Nat.blt k 96 then (bif Nat.beq k 93 then some (.goto 16, 96, [109]) else none) else (bif Nat.beq k 96 then some (.aload_n 0, 97, []) else none)) else (bif Nat.blt k 98 then (bif Nat.beq k 97 then some (.iload_n 3, 98, []) else none) else (bif Nat.beq k 98 then some (.i2l, 99, []) else none))) else (bif Nat.blt k 103 then (bif Nat.blt k 102 then (bif Nat.beq k 99 then some (.invokevirtual 177, 102, []) else none) else (bif Nat.beq k 102 then some (.aload_n 0, 103, []) else none)) else (bif Nat.blt k 105 then (bif Nat.beq k 103 then some (.iload 4, 105, []) else none) else (bif Nat.blt k 106 then (bif Nat.beq k 105 then some (.i2l, 106, []) else none) else (bif Nat.beq k 106 then some (.invokevirtual 177, 109, []) else none))))) else (bif Nat.blt k 121 then (bif Nat.blt k 115 then (bif Nat.blt k 112 then (bif Nat.beq k 109 then some (.iinc 4 1, 112, []) else none) else (bif Nat.beq k 112 then some (.goto (-70), 115, [42]) else none)) else (bif Nat.blt k 118 then (bif Nat.beq k 115 then some (.iinc 3 1, 118, []) else none) else (bif Nat.beq k 118 then some (.goto (-89), 121, [29]) else none))) else (bif Nat.blt k 123 then (bif Nat.blt k 122 then (bif Nat.beq k 121 then some (.aload_n 0, 122, []) else none) else (bif Nat.beq k 122 then some (.iload_n 1, 123, []) else none)) else (bif Nat.blt k 124 then (bif Nat.beq k 123 then some (.iload_n 2, 124, []) else none) else (bif Nat.blt k 127 then (bif Nat.beq k 124 then some (.invokevirtual 422, 127, []) else none) else (bif Nat.beq k 127 then some (.ireturn, 128, []) else none)))))))) else none
noncomputable def P_M_parts : MP := (T_M_parts, (fun k => mLook k [(35, (13, 11, (.array .int), true)), (38, (13, 12, (.array .int), true)), (41, (13, 13, (.array .int), true)), (44, (13, 14, (.array .int), true)), (161, (13, 52, .int, false)), (164, (13, 51, .int, false)), (188, (13, 17, .int, false))]), (fun k => mLook k []), (fun k => mLook k [(177, E_M_tell), (228, E_M_isYear), (267, E_M_isPiece), (414, E_M_areParted), (422, E_M_partedBy)]), (fun k => mLook k []), (fun k => mLook k []), (fun k => mLook k []), (fun k => mLook k [(29, [true, true, true, true, false]), (42, [true, true, true, true, true])]), (fun k => [21, 127].any (Nat.beq k)), (6, 154, 0, 0), false, (fun _ => none))
set_option maxRecDepth 100000 in
set_option maxHeartbeats 4000000 in
theorem q_M_parts_e (a1 : Int32) (a2 : Int32) (σ : MSto) (n : Nat) : mexe KT P_M_parts (n + 1) (0, [some (mR 13 0), some (mI a1), some (mI a2), none, none], [], σ, 0, 0) = (if (v_M_isPiece a1 (sI σ 13 0 52 0)) = 0 then some (21, [], [(mI (-1))], (sI σ 13 0 52 0), 0, 0) else (if (v_M_isYear a2 (sI σ 13 0 52 0)) = 0 then some (21, [], [(mI (-1))], (sI σ 13 0 52 0), 0, 0) else mexe KT P_M_parts n (29, [some (mR 13 0), some (mI a1), some (mI a2), some (mI 0), none], [], (sI (sI σ 13 0 52 0) 13 0 51 0), 0, 0))) := rfl
set_option maxRecDepth 100000 in
set_option maxHeartbeats 4000000 in
theorem q_M_parts_29 (x1 : Int32) (x2 : Int32) (x3 : Int32) (σ : MSto) (n : Nat) : mexe KT P_M_parts (n + 1) (29, [some (mR 13 0), some (mI x1), some (mI x2), some (mI x3), none], [], σ, 0, 0) = (if (gI σ 13 0 17) ≤ x3 then mG (p_M_partedBy x1 x2 σ) (some (127, [], [(mI (v_M_partedBy x1 x2 σ))], σ, 0, 0)) else mexe KT P_M_parts n (42, [some (mR 13 0), some (mI x1), some (mI x2), some (mI x3), some (mI (x3 + 1))], [], σ, 0, 0)) := rfl
set_option maxRecDepth 100000 in
set_option maxHeartbeats 4000000 in
theorem q_M_parts_42 (x1 : Int32) (x2 : Int32) (x3 : Int32) (x4 : Int32) (σ : MSto) (n : Nat) : mexe KT P_M_parts (n + 1) (42, [some (mR 13 0), some (mI x1), some (mI x2), some (mI x3), some (mI x4)], [], σ, 0, 0) = (if (gI σ 13 0 17) ≤ x4 then mexe KT P_M_parts n (29, [some (mR 13 0), some (mI x1), some (mI x2), some (mI (x3 + 1)), none], [], σ, 0, 0) else (if 0 < (gI σ 13 0 51) then mexe KT P_M_parts n (42, [some (mR 13 0), some (mI x1), some (mI x2), some (mI x3), some (mI (x4 + 1))], [], σ, 0, 0) else mG (vp_in x1 12) (mG (vp_in x1 12) (mG (vp_in x1 12) (mG (vp_in x1 12) (mG (p_M_areParted x3 x4 (gI σ 47 0 (Int32.toNatClampNeg x1)) (gI σ 48 0 (Int32.toNatClampNeg x1)) (gI σ 49 0 (Int32.toNatClampNeg x1)) (gI σ 50 0 (Int32.toNatClampNeg x1)) x2 σ) ((if (v_M_areParted x3 x4 (gI σ 47 0 (Int32.toNatClampNeg x1)) (gI σ 48 0 (Int32.toNatClampNeg x1)) (gI σ 49 0 (Int32.toNatClampNeg x1)) (gI σ 50 0 (Int32.toNatClampNeg x1)) x2 σ) = 0 then mG (p_M_tell (Int32.toInt64 x3) σ) (mG (p_M_tell (Int32.toInt64 x4) (e_M_tell (Int32.toInt64 x3) σ)) (mexe KT P_M_parts n (42, [some (mR 13 0), some (mI x1), some (mI x2), some (mI x3), some (mI (x4 + 1))], [], (e_M_tell (Int32.toInt64 x4) (e_M_tell (Int32.toInt64 x3) σ)), 0, 0))) else mexe KT P_M_parts n (42, [some (mR 13 0), some (mI x1), some (mI x2), some (mI x3), some (mI (x4 + 1))], [], σ, 0, 0))))))))) := rfl
set_option maxRecDepth 100000 in
theorem lp_M_parts_42 {Post : MST → Prop} (x1 : Int32) (x2 : Int32) (x3 : Int32) (c0 : Int32) (s0 : MSto) (N : Nat) (hb : ∀ i, i < N → g_M_parts_42 x1 x2 x3 (c0 + nI i) (f_M_parts_42 x1 x2 x3 c0 s0 i) ∧ ¬ q_M_parts_42s x1 x2 x3 (c0 + nI i) (f_M_parts_42 x1 x2 x3 c0 s0 i) = 1) (h : mW1 P_M_parts (42, [some (mR 13 0), some (mI x1), some (mI x2), some (mI x3), some (mI (c0 + nI N))], [], (f_M_parts_42 x1 x2 x3 c0 s0 N), 0, 0) Post) : mW1 P_M_parts (42, [some (mR 13 0), some (mI x1), some (mI x2), some (mI x3), some (mI c0)], [], s0, 0, 0) Post := by
  refine mW1_st (mW1_loop (fun i => (42, [some (mR 13 0), some (mI x1), some (mI x2), some (mI x3), some (mI (c0 + nI i))], [], (f_M_parts_42 x1 x2 x3 c0 s0 i), 0, 0)) N (fun i hlt hn => ?_) h) (by rw [show nI 0 = 0 from rfl, Int32.add_zero] <;> rfl)
  obtain ⟨hp, hq⟩ := hb i hlt
  have hn : mW1 P_M_parts (42, [some (mR 13 0), some (mI x1), some (mI x2), some (mI x3), some (mI (c0 + nI i + 1))], [], (t_M_parts_42 x1 x2 x3 (c0 + nI i) (f_M_parts_42 x1 x2 x3 c0 s0 i)), 0, 0) Post := by
    rw [Int32.add_assoc, nI_s]
    exact hn
  try dsimp only
  generalize (f_M_parts_42 x1 x2 x3 c0 s0 i) = s at *
  generalize c0 + nI i = c at *
  clear hb h hlt
  unfold g_M_parts_42 at hp
  refine mW1_eq (q_M_parts_42 _ _ _ _ _) ?_
  refine mTr_if (fun h0 => ?_) (fun h0 => ?_)
  · skip
    exact absurd (by unfold q_M_parts_42s; first | (rw [if_pos h0]; done) | (rw [if_pos h0]; rfl)) hq
  · skip
    have hp := hp h0
    refine mTr_if (fun h1 => ?_) (fun h1 => ?_)
    · skip
      have e : t_M_parts_42 x1 x2 x3 c s = s := (by unfold t_M_parts_42; first | (rw [if_neg h0, if_pos h1]; done) | (rw [if_neg h0, if_pos h1]; rfl))
      rw [e] at hn
      exact mTr_k hn
    · skip
      have hp := hp h1
      refine mTr_g hp.1 ?_
      have hp := hp.2
      refine mTr_g hp.1 ?_
      have hp := hp.2
      refine mTr_g hp.1 ?_
      have hp := hp.2
      refine mTr_g hp.1 ?_
      have hp := hp.2
      refine mTr_g hp.1 ?_
      have hp := hp.2
      refine mTr_if (fun h2 => ?_) (fun h2 => ?_)
      · skip
        have hp := hp h2
        refine mTr_g hp.1 ?_
        have hp := hp.2
        refine mTr_g hp ?_
        have e : t_M_parts_42 x1 x2 x3 c s = (e_M_tell (Int32.toInt64 c) (e_M_tell (Int32.toInt64 x3) s)) := (by unfold t_M_parts_42; first | (rw [if_neg h0, if_neg h1, if_pos h2]; done) | (rw [if_neg h0, if_neg h1, if_pos h2]; rfl))
        rw [e] at hn
        exact mTr_k hn
      · skip
        have e : t_M_parts_42 x1 x2 x3 c s = s := (by unfold t_M_parts_42; first | (rw [if_neg h0, if_neg h1, if_neg h2]; done) | (rw [if_neg h0, if_neg h1, if_neg h2]; rfl))
        rw [e] at hn
        exact mTr_k hn
set_option maxRecDepth 100000 in
theorem lp_M_parts_29 {Post : MST → Prop} (x1 : Int32) (x2 : Int32) (c0 : Int32) (s0 : MSto) (N : Nat) (hb : ∀ i, i < N → g_M_parts_29 x1 x2 (c0 + nI i) (f_M_parts_29 x1 x2 c0 s0 i) ∧ ¬ q_M_parts_29s x1 x2 (c0 + nI i) (f_M_parts_29 x1 x2 c0 s0 i) = 1) (h : mW1 P_M_parts (29, [some (mR 13 0), some (mI x1), some (mI x2), some (mI (c0 + nI N)), none], [], (f_M_parts_29 x1 x2 c0 s0 N), 0, 0) Post) : mW1 P_M_parts (29, [some (mR 13 0), some (mI x1), some (mI x2), some (mI c0), none], [], s0, 0, 0) Post := by
  refine mW1_st (mW1_loop (fun i => (29, [some (mR 13 0), some (mI x1), some (mI x2), some (mI (c0 + nI i)), none], [], (f_M_parts_29 x1 x2 c0 s0 i), 0, 0)) N (fun i hlt hn => ?_) h) (by rw [show nI 0 = 0 from rfl, Int32.add_zero] <;> rfl)
  obtain ⟨hp, hq⟩ := hb i hlt
  have hn : mW1 P_M_parts (29, [some (mR 13 0), some (mI x1), some (mI x2), some (mI (c0 + nI i + 1)), none], [], (t_M_parts_29 x1 x2 (c0 + nI i) (f_M_parts_29 x1 x2 c0 s0 i)), 0, 0) Post := by
    rw [Int32.add_assoc, nI_s]
    exact hn
  try dsimp only
  generalize (f_M_parts_29 x1 x2 c0 s0 i) = s at *
  generalize c0 + nI i = c at *
  clear hb h hlt
  unfold g_M_parts_29 at hp
  refine mW1_eq (q_M_parts_29 _ _ _ _) ?_
  refine mTr_if (fun h0 => ?_) (fun h0 => ?_)
  · skip
    exact absurd (by unfold q_M_parts_29s; first | (rw [if_pos h0]; done) | (rw [if_pos h0]; rfl)) hq
  · skip
    have hp := hp h0
    refine mTr_k (lp_M_parts_42 x1 x2 c (c + 1) s (n_M_parts_42 x1 x2 c (c + 1) s) hp.1 ?_)
    have hp := hp.2
    refine mW1_eq (q_M_parts_42 _ _ _ _ _) ?_
    refine mTr_if (fun h1 => ?_) (fun h1 => ?_)
    · skip
      have e : t_M_parts_29 x1 x2 c s = (f_M_parts_42 x1 x2 c (c + 1) s (n_M_parts_42 x1 x2 c (c + 1) s)) := (by unfold t_M_parts_29; first | (rw [if_neg h0]; done) | (rw [if_neg h0]; rfl))
      rw [e] at hn
      exact mTr_k hn
    · skip
      have hp := hp h1
      exact hp.elim
set_option maxRecDepth 100000 in
set_option maxHeartbeats 4000000 in
theorem d_M_parts (a1 : Int32) (a2 : Int32) (σ : MSto) (hp : p_M_parts a1 a2 σ) : mW1 P_M_parts (0, [some (mR 13 0), some (mI a1), some (mI a2), none, none], [], σ, 0, 0) (mF [21, 127] [mI (v_M_parts a1 a2 σ)] (e_M_parts a1 a2 σ) 0 0) := by
  refine mW1_eq (q_M_parts_e _ _ _) ?_
  unfold p_M_parts at hp
  refine mTr_if (fun h0 => ?_) (fun h0 => ?_)
  · skip
    exact mTr_e (by decide) (by unfold v_M_parts; first | (rw [if_pos h0]; done) | (rw [if_pos h0]; rfl)) (by unfold e_M_parts; first | (rw [if_pos h0]; done) | (rw [if_pos h0]; rfl)) (by decide) (by decide)
  · skip
    have hp := hp h0
    refine mTr_if (fun h1 => ?_) (fun h1 => ?_)
    · skip
      exact mTr_e (by decide) (by unfold v_M_parts; first | (rw [if_neg h0, if_pos h1]; done) | (rw [if_neg h0, if_pos h1]; rfl)) (by unfold e_M_parts; first | (rw [if_neg h0, if_pos h1]; done) | (rw [if_neg h0, if_pos h1]; rfl)) (by decide) (by decide)
    · skip
      have hp := hp h1
      refine mTr_k (lp_M_parts_29 a1 a2 0 (sI (sI σ 13 0 52 0) 13 0 51 0) (n_M_parts_29 a1 a2 0 (sI (sI σ 13 0 52 0) 13 0 51 0)) hp.1 ?_)
      have hp := hp.2
      refine mW1_eq (q_M_parts_29 _ _ _ _) ?_
      refine mTr_if (fun h2 => ?_) (fun h2 => ?_)
      · skip
        have hp := hp.1 h2
        refine mTr_g hp ?_
        exact mTr_e (by decide) (by unfold v_M_parts; first | (rw [if_neg h0, if_neg h1]; done) | (rw [if_neg h0, if_neg h1]; rfl)) (by unfold e_M_parts; first | (rw [if_neg h0, if_neg h1]; done) | (rw [if_neg h0, if_neg h1]; rfl)) (by decide) (by decide)
      · skip
        have hp := hp.2 h2
        exact hp.elim
theorem li_M_422 : mLink "ClothWithManModel" 422 E_M_partedBy := ⟨tw_8_33, tw_1_9, ⟨by decide, by decide⟩, by decide +kernel, Or.inl tw_8_30, (fun h => by cases h), (fun _ => ⟨tw_8_32, tw_0_84, TX12, 71, rfl⟩), (fun h => by cases h)⟩





theorem tk_M_parts : ∀ pc i nx tg, T_M_parts pc = some (i, nx, tg) → mOkB prog_14_method_87_code pc i nx tg = true := code_ok (N := 128) (fun k h => by unfold T_M_parts; rw [h]; rfl) (by decide +kernel)
theorem ok_M_parts (l : Launch) : mPOK l "ClothWithManModel" prog_14_method_87_code P_M_parts := by
  refine ⟨tk_M_parts, ?_, ?_, ?_, (fun pc i nx tg kd _ h => by cases h), ?_, ?_, fun pc en h => by cases h⟩
  · intro x ci f ty fin h
    exact mLook_all (Q := fun x v => mFOK "ClothWithManModel" x v.1 v.2.1 v.2.2.1 v.2.2.2 ∧ (v.2.2.2 = true → pIni P_M_parts = true → (Cond.fieldLink "ClothWithManModel" x (((mCl[v.1]?).getD ("", fun _ => ("", "", "", false), 0)).2.1 v.2.1).1 (((mCl[v.1]?).getD ("", fun _ => ("", "", "", false), 0)).2.1 v.2.1).2.1 (((mCl[v.1]?).getD ("", fun _ => ("", "", "", false), 0)).2.1 v.2.1).2.2.1 ∈ lw_tbl ∧ (((mCl[v.1]?).getD ("", fun _ => ("", "", "", false), 0)).2.1 v.2.1).1 = "ClothWithManModel"))) (fcC ⟨fo_M_35, fun h1 h2 => by cases h2⟩ (fcC ⟨fo_M_38, fun h1 h2 => by cases h2⟩ (fcC ⟨fo_M_41, fun h1 h2 => by cases h2⟩ (fcC ⟨fo_M_44, fun h1 h2 => by cases h2⟩ (fcC ⟨fo_M_161, fun h1 h2 => by cases h1⟩ (fcC ⟨fo_M_164, fun h1 h2 => by cases h1⟩ (fcC ⟨fo_M_188, fun h1 h2 => by cases h1⟩ fcN))))))) x (ci, f, ty, fin) h
  · intro x
    have hh := mLook_all (l := ([] : List (Nat × (Int32 ⊕ Int64)))) (Q := fun x (v : Int32 ⊕ Int64) => (∀ w, v = .inl w → Cond.constant "ClothWithManModel" x w ∈ lw_tbl) ∧ (∀ w, v = .inr w → Cond.constantLong "ClothWithManModel" x w ∈ lw_tbl)) fcN x
    exact ⟨fun w h => (hh _ h).1 w rfl, fun w h => (hh _ h).2 w rfl⟩
  · exact fun x en h => mLook_all (Q := fun x en => mLink "ClothWithManModel" x en ∧ mCtr l en ∧ (en.1.1 = 2 → en.2.2.2.2.2.2 = none)) (fcC ⟨li_M_177, c_M_tell l, (fun h => by cases h)⟩ (fcC ⟨li_M_228, c_M_isYear l, (fun h => by cases h)⟩ (fcC ⟨li_M_267, c_M_isPiece l, (fun h => by cases h)⟩ (fcC ⟨li_M_414, c_M_areParted l, (fun h => by cases h)⟩ (fcC ⟨li_M_422, c_M_partedBy l, (fun h => by cases h)⟩ fcN))))) x en h
  · exact fun x kd h => mLook_all (Q := fun x kd => (kd = 95 ∧ Cond.fieldLink "ClothWithManModel" x "ClothWithMan" "LIKENESSES" "[I" ∈ lw_tbl) ∨ (kd = 96 ∧ Cond.fieldLink "ClothWithManModel" x "ClothWithMan" "APART_BOUNDS" "[I" ∈ lw_tbl)) fcN x kd h
  · exact fun x ci h => mLook_all (Q := fun x ci => ci ≠ 0 ∧ ∃ (C : String) (T : u_T) (N : Nat), mCl[ci]? = some (C, T, N) ∧ Cond.classLink "ClothWithManModel" x C ∈ lw_tbl ∧ Cond.castable C C ∈ lw_tbl) fcN x ci h
set_option maxRecDepth 100000 in
theorem c_M_parts (l : Launch) : mCtr l E_M_parts := mCtr_of (P := P_M_parts) (own := "ClothWithManModel") mLay_ok rfl (by decide +kernel) rfl (ok_M_parts l) (fun h => by cases h) (fun as σ pr rv σ' hF hpr hlv => by
  unfold E_M_parts S_M_parts at hF
  simp only [] at hF
  split at hF
  · cases hF
    obtain ⟨n, pcF, c1, s1, g1, g2, g3, g4⟩ := mF_inv (d_M_parts _ _ σ (hpr _ rfl))
    exact ⟨Nat.le_of_ble_eq_true rfl, (fun v h => by cases h; trivial), n, pcF, c1, s1, g1, ⟨mEnd_of (i := .ireturn) (P := P_M_parts) (rets := [21, 127]) rfl g2, rfl⟩, g3, g4⟩
  · cases hF
    exact (hpr _ rfl).elim)
/-! ClothWithManModel.next(I)I -/
noncomputable def t_M_next_29 (x1 : Int32) (c : Int32) (σ : MSto) (s : Int32 × Int32) : Int32 × Int32 := (if (gI σ 13 0 10) ≤ c then s else (if (v_M_has (gI σ 13 0 15) c σ) = 0 then (if (s.1) < 0 then (c, (v_M_partedBy c x1 σ)) else (if (s.2) < (v_M_partedBy c x1 σ) then (c, (v_M_partedBy c x1 σ)) else ((s.1), (s.2)))) else ((s.1), (s.2))))
noncomputable def q_M_next_29s (x1 : Int32) (c : Int32) (σ : MSto) (s : Int32 × Int32) : Nat := (if (gI σ 13 0 10) ≤ c then 1 else (if (v_M_has (gI σ 13 0 15) c σ) = 0 then (if (s.1) < 0 then 0 else (if (s.2) < (v_M_partedBy c x1 σ) then 0 else 0)) else 0))
def g_M_next_29 (x1 : Int32) (c : Int32) (σ : MSto) (s : Int32 × Int32) : Prop := (¬ ((gI σ 13 0 10) ≤ c) → (((v_M_has (gI σ 13 0 15) c σ) = 0) → ((((s.1) < 0) → (p_M_partedBy c x1 σ)) ∧ (¬ ((s.1) < 0) → ((p_M_partedBy c x1 σ) ∧ (((s.2) < (v_M_partedBy c x1 σ)) → (p_M_partedBy c x1 σ)))))))
noncomputable def f_M_next_29 (x1 : Int32) (c0 : Int32) (σ : MSto) (s0 : Int32 × Int32) (n : Nat) : Int32 × Int32 := nfold (fun i s => t_M_next_29 x1 (c0 + nI i) σ s) s0 n
noncomputable def n_M_next_29 (x1 : Int32) (c0 : Int32) (σ : MSto) (s0 : Int32 × Int32) : Nat := nM σ 10
noncomputable def v_M_next (a1 : Int32) (σ : MSto) : Int32 := (if (v_M_isYear a1 (sI σ 13 0 52 0)) = 0 then (-1) else (if (gI (sI σ 13 0 52 0) 13 0 17) = 0 then (-1) else (if 0 ≤ ((f_M_next_29 a1 0 (sI σ 13 0 52 0) ((-2), 0) (n_M_next_29 a1 0 (sI σ 13 0 52 0) ((-2), 0))).1) then ((f_M_next_29 a1 0 (sI σ 13 0 52 0) ((-2), 0) (n_M_next_29 a1 0 (sI σ 13 0 52 0) ((-2), 0))).1) else (-2))))
def p_M_next (a1 : Int32) (σ : MSto) : Prop := (¬ ((v_M_isYear a1 (sI σ 13 0 52 0)) = 0) → (¬ ((gI (sI σ 13 0 52 0) 13 0 17) = 0) → ((∀ i, i < (n_M_next_29 a1 0 (sI σ 13 0 52 0) ((-2), 0)) → g_M_next_29 a1 (0 + nI i) (sI σ 13 0 52 0) (f_M_next_29 a1 0 (sI σ 13 0 52 0) ((-2), 0) i) ∧ ¬ q_M_next_29s a1 (0 + nI i) (sI σ 13 0 52 0) (f_M_next_29 a1 0 (sI σ 13 0 52 0) ((-2), 0) i) = 1) ∧ ((((gI (sI σ 13 0 52 0) 13 0 10) ≤ (0 + nI (n_M_next_29 a1 0 (sI σ 13 0 52 0) ((-2), 0)))) → ((0 ≤ ((f_M_next_29 a1 0 (sI σ 13 0 52 0) ((-2), 0) (n_M_next_29 a1 0 (sI σ 13 0 52 0) ((-2), 0))).1)) → (p_M_tell (Int32.toInt64 ((f_M_next_29 a1 0 (sI σ 13 0 52 0) ((-2), 0) (n_M_next_29 a1 0 (sI σ 13 0 52 0) ((-2), 0))).2)) (sI (sI σ 13 0 52 0) 13 0 51 0)))) ∧ (¬ ((gI (sI σ 13 0 52 0) 13 0 10) ≤ (0 + nI (n_M_next_29 a1 0 (sI σ 13 0 52 0) ((-2), 0)))) → False)))))
noncomputable def e_M_next (a1 : Int32) (σ : MSto) : MSto := (if (v_M_isYear a1 (sI σ 13 0 52 0)) = 0 then (sI σ 13 0 52 0) else (if (gI (sI σ 13 0 52 0) 13 0 17) = 0 then (sI σ 13 0 52 0) else (if 0 ≤ ((f_M_next_29 a1 0 (sI σ 13 0 52 0) ((-2), 0) (n_M_next_29 a1 0 (sI σ 13 0 52 0) ((-2), 0))).1) then (e_M_tell (Int32.toInt64 ((f_M_next_29 a1 0 (sI σ 13 0 52 0) ((-2), 0) (n_M_next_29 a1 0 (sI σ 13 0 52 0) ((-2), 0))).2)) (sI (sI σ 13 0 52 0) 13 0 51 0)) else (sI σ 13 0 52 0))))
noncomputable def S_M_next : List MV → MSto → Option Prop × Option MV × MSto := fun as σ => match as with
  | [.inr (.inr (some (13, 0))), .inl a0] => (some (p_M_next a0 σ), some (mI (v_M_next a0 σ)), e_M_next a0 σ)
  | _ => (some False, none, σ)
noncomputable def E_M_next : MEnt := ((1, 1, 13), (6, 154, 0, 0), S_M_next, ((⟨"ClothWithManModel", "next", "(I)I"⟩ : MethodName), prog_14_method_88_code, 5, (some .int)))

def T_M_next : Nat → Option (Instr × Nat × List Nat) := fun k => bif Nat.blt k 105 then (bif Nat.blt k 54 then (bif Nat.blt k 25 then (bif Nat.blt k 13 then (bif Nat.blt k 5 then (bif Nat.blt k 1 then (bif Nat.beq k 0 then some (.aload_n 0, 1, []) else none) else (bif Nat.blt k 2 then (bif Nat.beq k 1 then some (.iconst 0, 2, []) else none) else (bif Nat.beq k 2 then some (.putfield 161, 5, []) else none))) else (bif Nat.blt k 9 then (bif Nat.blt k 6 then (bif Nat.beq k 5 then some (.iload_n 1, 6, []) else none) else (bif Nat.beq k 6 then some (.invokestatic 228, 9, []) else none)) else (bif Nat.blt k 12 then (bif Nat.beq k 9 then some (.ifCond .eq 10, 12, [19]) else none) else (bif Nat.beq k 12 then some (.aload_n 0, 13, []) else none)))) else (bif Nat.blt k 20 then (bif Nat.blt k 16 then (bif Nat.beq k 13 then some (.getfield 188, 16, []) else none) else (bif Nat.blt k 19 then (bif Nat.beq k 16 then some (.ifCond .ne 5, 19, [21]) else none) else (bif Nat.beq k 19 then some (.iconst (-1), 20, []) else none))) else (bif Nat.blt k 23 then (bif Nat.blt k 21 then (bif Nat.beq k 20 then some (.ireturn, 21, []) else none) else (bif Nat.beq k 21 then some (.bipush (-2), 23, []) else none)) else (bif Nat.blt k 24 then (bif Nat.beq k 23 then some (.istore_n 2, 24, []) else none) else (bif Nat.beq k 24 then some (.iconst 0, 25, []) else none))))) else (bif Nat.blt k 38 then (bif Nat.blt k 29 then (bif Nat.blt k 26 then (bif Nat.beq k 25 then some (.istore_n 3, 26, []) else none) else (bif Nat.blt k 27 then (bif Nat.beq k 26 then some (.iconst 0, 27, []) else none) else (bif Nat.beq k 27 then some (.istore 4, 29, []) else none))) else (bif Nat.blt k 32 then (bif Nat.blt k 31 then (bif Nat.beq k 29 then some (.iload 4, 31, []) else none) else (bif Nat.beq k 31 then some (.aload_n 0, 32, []) else none)) else (bif Nat.blt k 35 then (bif Nat.beq k 32 then some (.getfield 185, 35, []) else none) else (bif Nat.beq k 35 then some (.if_icmp .ge 50, 38, [85]) else none)))) else (bif Nat.blt k 44 then (bif Nat.blt k 39 then (bif Nat.beq k 38 then some (.aload_n 0, 39, []) else none) else (bif Nat.blt k 42 then (bif Nat.beq k 39 then some (.getfield 277, 42, []) else none) else (bif Nat.beq k 42 then some (.iload 4, 44, []) else none))) else (bif Nat.blt k 50 then (bif Nat.blt k 47 then (bif Nat.beq k 44 then some (.invokestatic 301, 47, []) else none) else (bif Nat.beq k 47 then some (.ifCond .ne 32, 50, [79]) else none)) else (bif Nat.blt k 51 then (bif Nat.beq k 50 then some (.iload_n 2, 51, []) else none) else (bif Nat.beq k 51 then some (.ifCond .lt 17, 54, [68]) else none)))))) else (bif Nat.blt k 79 then (bif Nat.blt k 68 then (bif Nat.blt k 58 then (bif Nat.blt k 55 then (bif Nat.beq k 54 then some (.aload_n 0, 55, []) else none) else (bif Nat.blt k 57 then (bif Nat.beq k 55 then some (.iload 4, 57, []) else none) else (bif Nat.beq k 57 then some (.iload_n 1, 58, []) else none))) else (bif Nat.blt k 62 then (bif Nat.blt k 61 then (bif Nat.beq k 58 then some (.invokevirtual 422, 61, []) else none) else (bif Nat.beq k 61 then some (.iload_n 3, 62, []) else none)) else (bif Nat.blt k 65 then (bif Nat.beq k 62 then some (.if_icmp .gt 6, 65, [68]) else none) else (bif Nat.beq k 65 then some (.goto 14, 68, [79]) else none)))) else (bif Nat.blt k 72 then (bif Nat.blt k 70 then (bif Nat.beq k 68 then some (.iload 4, 70, []) else none) else (bif Nat.blt k 71 then (bif Nat.beq k 70 then some (.istore_n 2, 71, []) else none) else (bif Nat.beq k 71 then some (.aload_n 0, 72, []) else none))) else (bif Nat.blt k 75 then (bif Nat.blt k 74 then (bif Nat.beq k 72 then some (.iload 4, 74, []) else none) else (bif Nat.beq k 74 then some (.iload_n 1, 75, []) else none)) else (bif Nat.blt k 78 then (bif Nat.beq k 75 then some (.invokevirtual 422, 78, []) else none) else (bif Nat.beq k 78 then some (.istore_n 3, 79, []) else none))))) else (bif Nat.blt k 93 then (bif Nat.blt k 86 then (bif Nat.blt k 82 then (bif Nat.beq k 79 then some (.iinc 4 1, 82, []) else none) else (bif Nat.blt k 85 then (bif Nat.beq k 82 then some (.goto (-53), 85, [29]) else none) else (bif Nat.beq k 85 then some (.iload_n 2, 86, []) else none))) else (bif Nat.blt k 91 then (bif Nat.blt k 89 then (bif Nat.beq k 86 then some (.ifCond .ge 6, 89, [92]) else none) else (bif Nat.beq k 89 then some (.bipush (-2), 91, []) else none)) else (bif Nat.blt k 92 then (bif Nat.beq k 91 then some (.ireturn, 92, []) else none) else (bif Nat.beq k 92 then some (.aload_n 0, 93, []) else none)))) else (bif Nat.blt k 99 then (bif Nat.blt k 97 then (bif Nat.blt k 94 then (bif Nat.beq k 93 then some (.iconst 0, 94, []) else none) else (bif Nat.beq k 94 then some (.putfield 164, 97, []) else none)) else (bif Nat.blt k 98 then (bif Nat.beq k 97 then some (.aload_n 0, 98, []) else none) else (bif Nat.beq k 98 then some (.iload_n 3, 99, []) else none))) else (bif Nat.blt k 103 then (bif Nat.blt k 100 then (bif Nat.beq k 99 then some (.i2l, 100, []) else none) else (bif Nat.beq k 100 then some (.invokevirtual 177, 103, []) else none)) else (bif Nat.blt k 104 then (bif Nat.beq k 103 then some (.iload_n 2, 104, []) else none) else (bif Nat.beq k 104 then some (.ireturn, 105, []) else none))))))) else none
noncomputable def P_M_next : MP := (T_M_next, (fun k => mLook k [(161, (13, 52, .int, false)), (164, (13, 51, .int, false)), (185, (13, 10, .int, false)), (188, (13, 17, .int, false)), (277, (13, 15, .int, false))]), (fun k => mLook k []), (fun k => mLook k [(177, E_M_tell), (228, E_M_isYear), (301, E_M_has), (422, E_M_partedBy)]), (fun k => mLook k []), (fun k => mLook k []), (fun k => mLook k []), (fun k => mLook k [(29, [true, true, true, true, true])]), (fun k => [20, 91, 104].any (Nat.beq k)), (6, 154, 0, 0), false, (fun _ => none))
set_option maxRecDepth 100000 in
set_option maxHeartbeats 4000000 in
theorem q_M_next_e (a1 : Int32) (σ : MSto) (n : Nat) : mexe KT P_M_next (n + 1) (0, [some (mR 13 0), some (mI a1), none, none, none], [], σ, 0, 0) = (if (v_M_isYear a1 (sI σ 13 0 52 0)) = 0 then some (20, [], [(mI (-1))], (sI σ 13 0 52 0), 0, 0) else (if (gI (sI σ 13 0 52 0) 13 0 17) = 0 then some (20, [], [(mI (-1))], (sI σ 13 0 52 0), 0, 0) else mexe KT P_M_next n (29, [some (mR 13 0), some (mI a1), some (mI (-2)), some (mI 0), some (mI 0)], [], (sI σ 13 0 52 0), 0, 0))) := rfl
set_option maxRecDepth 100000 in
set_option maxHeartbeats 4000000 in
theorem q_M_next_29 (x1 : Int32) (x2 : Int32) (x3 : Int32) (x4 : Int32) (σ : MSto) (n : Nat) : mexe KT P_M_next (n + 1) (29, [some (mR 13 0), some (mI x1), some (mI x2), some (mI x3), some (mI x4)], [], σ, 0, 0) = (if (gI σ 13 0 10) ≤ x4 then (if 0 ≤ x2 then mG (p_M_tell (Int32.toInt64 x3) (sI σ 13 0 51 0)) (some (104, [], [(mI x2)], (e_M_tell (Int32.toInt64 x3) (sI σ 13 0 51 0)), 0, 0)) else some (91, [], [(mI (-2))], σ, 0, 0)) else (if (v_M_has (gI σ 13 0 15) x4 σ) = 0 then (if x2 < 0 then mG (p_M_partedBy x4 x1 σ) (mexe KT P_M_next n (29, [some (mR 13 0), some (mI x1), some (mI x4), some (mI (v_M_partedBy x4 x1 σ)), some (mI (x4 + 1))], [], σ, 0, 0)) else mG (p_M_partedBy x4 x1 σ) ((if x3 < (v_M_partedBy x4 x1 σ) then mG (p_M_partedBy x4 x1 σ) (mexe KT P_M_next n (29, [some (mR 13 0), some (mI x1), some (mI x4), some (mI (v_M_partedBy x4 x1 σ)), some (mI (x4 + 1))], [], σ, 0, 0)) else mexe KT P_M_next n (29, [some (mR 13 0), some (mI x1), some (mI x2), some (mI x3), some (mI (x4 + 1))], [], σ, 0, 0)))) else mexe KT P_M_next n (29, [some (mR 13 0), some (mI x1), some (mI x2), some (mI x3), some (mI (x4 + 1))], [], σ, 0, 0))) := rfl
set_option maxRecDepth 100000 in
theorem lp_M_next_29 {Post : MST → Prop} (x1 : Int32) (c0 : Int32) (σ : MSto) (s0 : Int32 × Int32) (N : Nat) (hb : ∀ i, i < N → g_M_next_29 x1 (c0 + nI i) σ (f_M_next_29 x1 c0 σ s0 i) ∧ ¬ q_M_next_29s x1 (c0 + nI i) σ (f_M_next_29 x1 c0 σ s0 i) = 1) (h : mW1 P_M_next (29, [some (mR 13 0), some (mI x1), some (mI ((f_M_next_29 x1 c0 σ s0 N).1)), some (mI ((f_M_next_29 x1 c0 σ s0 N).2)), some (mI (c0 + nI N))], [], σ, 0, 0) Post) : mW1 P_M_next (29, [some (mR 13 0), some (mI x1), some (mI (s0.1)), some (mI (s0.2)), some (mI c0)], [], σ, 0, 0) Post := by
  refine mW1_st (mW1_loop (fun i => (29, [some (mR 13 0), some (mI x1), some (mI ((f_M_next_29 x1 c0 σ s0 i).1)), some (mI ((f_M_next_29 x1 c0 σ s0 i).2)), some (mI (c0 + nI i))], [], σ, 0, 0)) N (fun i hlt hn => ?_) h) (by rw [show nI 0 = 0 from rfl, Int32.add_zero] <;> rfl)
  obtain ⟨hp, hq⟩ := hb i hlt
  have hn : mW1 P_M_next (29, [some (mR 13 0), some (mI x1), some (mI ((t_M_next_29 x1 (c0 + nI i) σ (f_M_next_29 x1 c0 σ s0 i)).1)), some (mI ((t_M_next_29 x1 (c0 + nI i) σ (f_M_next_29 x1 c0 σ s0 i)).2)), some (mI (c0 + nI i + 1))], [], σ, 0, 0) Post := by
    rw [Int32.add_assoc, nI_s]
    exact hn
  try dsimp only
  generalize (f_M_next_29 x1 c0 σ s0 i) = s at *
  generalize c0 + nI i = c at *
  clear hb h hlt
  unfold g_M_next_29 at hp
  refine mW1_eq (q_M_next_29 _ _ _ _ _) ?_
  refine mTr_if (fun h0 => ?_) (fun h0 => ?_)
  · skip
    exact absurd (by unfold q_M_next_29s; first | (rw [if_pos h0]; done) | (rw [if_pos h0]; rfl)) hq
  · skip
    have hp := hp h0
    refine mTr_if (fun h1 => ?_) (fun h1 => ?_)
    · skip
      have hp := hp h1
      refine mTr_if (fun h2 => ?_) (fun h2 => ?_)
      · skip
        have hp := hp.1 h2
        refine mTr_g hp ?_
        have e : t_M_next_29 x1 c σ s = (c, (v_M_partedBy c x1 σ)) := (by unfold t_M_next_29; first | (rw [if_neg h0, if_pos h1, if_pos h2]; done) | (rw [if_neg h0, if_pos h1, if_pos h2]; rfl))
        rw [e] at hn
        exact mTr_k hn
      · skip
        have hp := hp.2 h2
        refine mTr_g hp.1 ?_
        have hp := hp.2
        refine mTr_if (fun h3 => ?_) (fun h3 => ?_)
        · skip
          have hp := hp h3
          refine mTr_g hp ?_
          have e : t_M_next_29 x1 c σ s = (c, (v_M_partedBy c x1 σ)) := (by unfold t_M_next_29; first | (rw [if_neg h0, if_pos h1, if_neg h2, if_pos h3]; done) | (rw [if_neg h0, if_pos h1, if_neg h2, if_pos h3]; rfl))
          rw [e] at hn
          exact mTr_k hn
        · skip
          have e : t_M_next_29 x1 c σ s = ((s.1), (s.2)) := (by unfold t_M_next_29; first | (rw [if_neg h0, if_pos h1, if_neg h2, if_neg h3]; done) | (rw [if_neg h0, if_pos h1, if_neg h2, if_neg h3]; rfl))
          rw [e] at hn
          exact mTr_k hn
    · skip
      have e : t_M_next_29 x1 c σ s = ((s.1), (s.2)) := (by unfold t_M_next_29; first | (rw [if_neg h0, if_neg h1]; done) | (rw [if_neg h0, if_neg h1]; rfl))
      rw [e] at hn
      exact mTr_k hn
set_option maxRecDepth 100000 in
set_option maxHeartbeats 4000000 in
theorem d_M_next (a1 : Int32) (σ : MSto) (hp : p_M_next a1 σ) : mW1 P_M_next (0, [some (mR 13 0), some (mI a1), none, none, none], [], σ, 0, 0) (mF [20, 91, 104] [mI (v_M_next a1 σ)] (e_M_next a1 σ) 0 0) := by
  refine mW1_eq (q_M_next_e _ _) ?_
  unfold p_M_next at hp
  refine mTr_if (fun h0 => ?_) (fun h0 => ?_)
  · skip
    exact mTr_e (by decide) (by unfold v_M_next; first | (rw [if_pos h0]; done) | (rw [if_pos h0]; rfl)) (by unfold e_M_next; first | (rw [if_pos h0]; done) | (rw [if_pos h0]; rfl)) (by decide) (by decide)
  · skip
    have hp := hp h0
    refine mTr_if (fun h1 => ?_) (fun h1 => ?_)
    · skip
      exact mTr_e (by decide) (by unfold v_M_next; first | (rw [if_neg h0, if_pos h1]; done) | (rw [if_neg h0, if_pos h1]; rfl)) (by unfold e_M_next; first | (rw [if_neg h0, if_pos h1]; done) | (rw [if_neg h0, if_pos h1]; rfl)) (by decide) (by decide)
    · skip
      have hp := hp h1
      refine mTr_k (lp_M_next_29 a1 0 (sI σ 13 0 52 0) ((-2), 0) (n_M_next_29 a1 0 (sI σ 13 0 52 0) ((-2), 0)) hp.1 ?_)
      have hp := hp.2
      refine mW1_eq (q_M_next_29 _ _ _ _ _) ?_
      refine mTr_if (fun h2 => ?_) (fun h2 => ?_)
      · skip
        have hp := hp.1 h2
        refine mTr_if (fun h3 => ?_) (fun h3 => ?_)
        · skip
          have hp := hp h3
          refine mTr_g hp ?_
          exact mTr_e (by decide) (by unfold v_M_next; first | (rw [if_neg h0, if_neg h1, if_pos h3]; done) | (rw [if_neg h0, if_neg h1, if_pos h3]; rfl)) (by unfold e_M_next; first | (rw [if_neg h0, if_neg h1, if_pos h3]; done) | (rw [if_neg h0, if_neg h1, if_pos h3]; rfl)) (by decide) (by decide)
        · skip
          exact mTr_e (by decide) (by unfold v_M_next; first | (rw [if_neg h0, if_neg h1, if_neg h3]; done) | (rw [if_neg h0, if_neg h1, if_neg h3]; rfl)) (by unfold e_M_next; first | (rw [if_neg h0, if_neg h1, if_neg h3]; done) | (rw [if_neg h0, if_neg h1, if_neg h3]; rfl)) (by decide) (by decide)
      · skip
        have hp := hp.2 h2
        exact hp.elim




theorem tk_M_next : ∀ pc i nx tg, T_M_next pc = some (i, nx, tg) → mOkB prog_14_method_88_code pc i nx tg = true := code_ok (N := 105) (fun k h => by unfold T_M_next; rw [h]; rfl) (by decide +kernel)
theorem ok_M_next (l : Launch) : mPOK l "ClothWithManModel" prog_14_method_88_code P_M_next := by
  refine ⟨tk_M_next, ?_, ?_, ?_, (fun pc i nx tg kd _ h => by cases h), ?_, ?_, fun pc en h => by cases h⟩
  · intro x ci f ty fin h
    exact mLook_all (Q := fun x v => mFOK "ClothWithManModel" x v.1 v.2.1 v.2.2.1 v.2.2.2 ∧ (v.2.2.2 = true → pIni P_M_next = true → (Cond.fieldLink "ClothWithManModel" x (((mCl[v.1]?).getD ("", fun _ => ("", "", "", false), 0)).2.1 v.2.1).1 (((mCl[v.1]?).getD ("", fun _ => ("", "", "", false), 0)).2.1 v.2.1).2.1 (((mCl[v.1]?).getD ("", fun _ => ("", "", "", false), 0)).2.1 v.2.1).2.2.1 ∈ lw_tbl ∧ (((mCl[v.1]?).getD ("", fun _ => ("", "", "", false), 0)).2.1 v.2.1).1 = "ClothWithManModel"))) (fcC ⟨fo_M_161, fun h1 h2 => by cases h1⟩ (fcC ⟨fo_M_164, fun h1 h2 => by cases h1⟩ (fcC ⟨fo_M_185, fun h1 h2 => by cases h1⟩ (fcC ⟨fo_M_188, fun h1 h2 => by cases h1⟩ (fcC ⟨fo_M_277, fun h1 h2 => by cases h1⟩ fcN))))) x (ci, f, ty, fin) h
  · intro x
    have hh := mLook_all (l := ([] : List (Nat × (Int32 ⊕ Int64)))) (Q := fun x (v : Int32 ⊕ Int64) => (∀ w, v = .inl w → Cond.constant "ClothWithManModel" x w ∈ lw_tbl) ∧ (∀ w, v = .inr w → Cond.constantLong "ClothWithManModel" x w ∈ lw_tbl)) fcN x
    exact ⟨fun w h => (hh _ h).1 w rfl, fun w h => (hh _ h).2 w rfl⟩
  · exact fun x en h => mLook_all (Q := fun x en => mLink "ClothWithManModel" x en ∧ mCtr l en ∧ (en.1.1 = 2 → en.2.2.2.2.2.2 = none)) (fcC ⟨li_M_177, c_M_tell l, (fun h => by cases h)⟩ (fcC ⟨li_M_228, c_M_isYear l, (fun h => by cases h)⟩ (fcC ⟨li_M_301, c_M_has l, (fun h => by cases h)⟩ (fcC ⟨li_M_422, c_M_partedBy l, (fun h => by cases h)⟩ fcN)))) x en h
  · exact fun x kd h => mLook_all (Q := fun x kd => (kd = 95 ∧ Cond.fieldLink "ClothWithManModel" x "ClothWithMan" "LIKENESSES" "[I" ∈ lw_tbl) ∨ (kd = 96 ∧ Cond.fieldLink "ClothWithManModel" x "ClothWithMan" "APART_BOUNDS" "[I" ∈ lw_tbl)) fcN x kd h
  · exact fun x ci h => mLook_all (Q := fun x ci => ci ≠ 0 ∧ ∃ (C : String) (T : u_T) (N : Nat), mCl[ci]? = some (C, T, N) ∧ Cond.classLink "ClothWithManModel" x C ∈ lw_tbl ∧ Cond.castable C C ∈ lw_tbl) fcN x ci h
set_option maxRecDepth 100000 in
theorem c_M_next (l : Launch) : mCtr l E_M_next := mCtr_of (P := P_M_next) (own := "ClothWithManModel") mLay_ok rfl (by decide +kernel) rfl (ok_M_next l) (fun h => by cases h) (fun as σ pr rv σ' hF hpr hlv => by
  unfold E_M_next S_M_next at hF
  simp only [] at hF
  split at hF
  · cases hF
    obtain ⟨n, pcF, c1, s1, g1, g2, g3, g4⟩ := mF_inv (d_M_next _ σ (hpr _ rfl))
    exact ⟨Nat.le_of_ble_eq_true rfl, (fun v h => by cases h; trivial), n, pcF, c1, s1, g1, ⟨mEnd_of (i := .ireturn) (P := P_M_next) (rets := [20, 91, 104]) rfl g2, rfl⟩, g3, g4⟩
  · cases hF
    exact (hpr _ rfl).elim)

