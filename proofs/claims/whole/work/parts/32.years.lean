/-! ClothWithManModel.years(II)I -/
noncomputable def tj_M_years_30j86 (x1 : Int32) (x2 : Int32) (x3 : Int32) (x4 : Int32) (x5 : Int32) (x6 : Int32) (σ : MSto) (s : Int32 × Int32 × MSto) : Int32 × Int32 × MSto := (if x6 = x4 then (x3, x6, σ) else (if 10 < x3 then (x3, x6, σ) else (if x6 = 0 then (x3, x6, (e_M_tell (Int32.toInt64 (x5 - 1)) σ)) else (x3, x6, (e_M_tell (Int32.toInt64 x5) σ)))))
noncomputable def qj_M_years_30j86 (x1 : Int32) (x2 : Int32) (x3 : Int32) (x4 : Int32) (x5 : Int32) (x6 : Int32) (σ : MSto) : Nat := 0
def gj_M_years_30j86 (x1 : Int32) (x2 : Int32) (x3 : Int32) (x4 : Int32) (x5 : Int32) (x6 : Int32) (σ : MSto) : Prop := (¬ (x6 = x4) → (¬ (10 < x3) → (((x6 = 0) → (p_M_tell (Int32.toInt64 (x5 - 1)) σ)) ∧ (¬ (x6 = 0) → (p_M_tell (Int32.toInt64 x5) σ)))))
noncomputable def t_M_years_30 (x1 : Int32) (x2 : Int32) (c : Int32) (s : Int32 × Int32 × MSto) : Int32 × Int32 × MSto := (if 200 < c then s else (if 200 ≤ c then (tj_M_years_30j86 x1 x2 (s.1) (s.2.1) c 0 (s.2.2) s) else (if 0 < (lg_cmp (v_Ma_absJ ((Int32.toInt64 (gI (s.2.2) 41 0 (Int32.toNatClampNeg c))) - (Int32.toInt64 x1)) (s.2.2)) (Int32.toInt64 x2)) then (tj_M_years_30j86 x1 x2 (s.1) (s.2.1) c 0 (s.2.2) s) else (if (s.2.1) = 0 then (tj_M_years_30j86 x1 x2 ((s.1) + 1) (s.2.1) c 1 (s.2.2) s) else (tj_M_years_30j86 x1 x2 (s.1) (s.2.1) c 1 (s.2.2) s)))))
noncomputable def q_M_years_30s (x1 : Int32) (x2 : Int32) (c : Int32) (s : Int32 × Int32 × MSto) : Nat := (if 200 < c then 1 else 0)
def g_M_years_30 (x1 : Int32) (x2 : Int32) (c : Int32) (s : Int32 × Int32 × MSto) : Prop := (¬ (200 < c) → (((200 ≤ c) → (gj_M_years_30j86 x1 x2 (s.1) (s.2.1) c 0 (s.2.2))) ∧ (¬ (200 ≤ c) → ((vp_in c 200) ∧ (((0 < (lg_cmp (v_Ma_absJ ((Int32.toInt64 (gI (s.2.2) 41 0 (Int32.toNatClampNeg c))) - (Int32.toInt64 x1)) (s.2.2)) (Int32.toInt64 x2))) → (gj_M_years_30j86 x1 x2 (s.1) (s.2.1) c 0 (s.2.2))) ∧ (¬ (0 < (lg_cmp (v_Ma_absJ ((Int32.toInt64 (gI (s.2.2) 41 0 (Int32.toNatClampNeg c))) - (Int32.toInt64 x1)) (s.2.2)) (Int32.toInt64 x2))) → ((((s.2.1) = 0) → (gj_M_years_30j86 x1 x2 ((s.1) + 1) (s.2.1) c 1 (s.2.2))) ∧ (¬ ((s.2.1) = 0) → (gj_M_years_30j86 x1 x2 (s.1) (s.2.1) c 1 (s.2.2))))))))))
noncomputable def f_M_years_30 (x1 : Int32) (x2 : Int32) (c0 : Int32) (s0 : Int32 × Int32 × MSto) (n : Nat) : Int32 × Int32 × MSto := nfold (fun i s => t_M_years_30 x1 x2 (c0 + nI i) s) s0 n
noncomputable def n_M_years_30 (x1 : Int32) (x2 : Int32) (c0 : Int32) (s0 : Int32 × Int32 × MSto) : Nat := 201
noncomputable def v_M_years (a1 : Int32) (a2 : Int32) (σ : MSto) : Int32 := (if (v_M_in a2 1 60 (sI σ 13 0 52 0)) = 0 then (-1) else ((f_M_years_30 a1 a2 0 (0, 0, (sI (sI σ 13 0 52 0) 13 0 51 0)) (n_M_years_30 a1 a2 0 (0, 0, (sI (sI σ 13 0 52 0) 13 0 51 0)))).1))
def p_M_years (a1 : Int32) (a2 : Int32) (σ : MSto) : Prop := (¬ ((v_M_in a2 1 60 (sI σ 13 0 52 0)) = 0) → ((∀ i, i < (n_M_years_30 a1 a2 0 (0, 0, (sI (sI σ 13 0 52 0) 13 0 51 0))) → g_M_years_30 a1 a2 (0 + nI i) (f_M_years_30 a1 a2 0 (0, 0, (sI (sI σ 13 0 52 0) 13 0 51 0)) i) ∧ ¬ q_M_years_30s a1 a2 (0 + nI i) (f_M_years_30 a1 a2 0 (0, 0, (sI (sI σ 13 0 52 0) 13 0 51 0)) i) = 1) ∧ (¬ (200 < (0 + nI (n_M_years_30 a1 a2 0 (0, 0, (sI (sI σ 13 0 52 0) 13 0 51 0))))) → False)))
noncomputable def e_M_years (a1 : Int32) (a2 : Int32) (σ : MSto) : MSto := (if (v_M_in a2 1 60 (sI σ 13 0 52 0)) = 0 then (sI σ 13 0 52 0) else ((f_M_years_30 a1 a2 0 (0, 0, (sI (sI σ 13 0 52 0) 13 0 51 0)) (n_M_years_30 a1 a2 0 (0, 0, (sI (sI σ 13 0 52 0) 13 0 51 0)))).2.2))
noncomputable def S_M_years : List MV → MSto → Option Prop × Option MV × MSto := fun as σ => match as with
  | [.inr (.inr (some (13, 0))), .inl a0, .inl a1] => (some (p_M_years a0 a1 σ), some (mI (v_M_years a0 a1 σ)), e_M_years a0 a1 σ)
  | _ => (some False, none, σ)
noncomputable def E_M_years : MEnt := ((1, 2, 13), (1, 22, 0, 0), S_M_years, ((⟨"ClothWithManModel", "years", "(II)I"⟩ : MethodName), prog_14_method_45_code, 7, (some .int)))

def T_M_years : Nat → Option (Instr × Nat × List Nat) := fun k => bif Nat.blt k 131 then (bif Nat.blt k 61 then (bif Nat.blt k 27 then (bif Nat.blt k 15 then (bif Nat.blt k 6 then (bif Nat.blt k 2 then (bif Nat.blt k 1 then (bif Nat.beq k 0 then some (.aload_n 0, 1, []) else none) else (bif Nat.beq k 1 then some (.iconst 0, 2, []) else none)) else (bif Nat.blt k 5 then (bif Nat.beq k 2 then some (.putfield 161, 5, []) else none) else (bif Nat.beq k 5 then some (.iload_n 2, 6, []) else none))) else (bif Nat.blt k 9 then (bif Nat.blt k 7 then (bif Nat.beq k 6 then some (.iconst 1, 7, []) else none) else (bif Nat.beq k 7 then some (.bipush 60, 9, []) else none)) else (bif Nat.blt k 12 then (bif Nat.beq k 9 then some (.invokestatic 181, 12, []) else none) else (bif Nat.beq k 12 then some (.ifCond .ne 5, 15, [17]) else none)))) else (bif Nat.blt k 19 then (bif Nat.blt k 17 then (bif Nat.blt k 16 then (bif Nat.beq k 15 then some (.iconst (-1), 16, []) else none) else (bif Nat.beq k 16 then some (.ireturn, 17, []) else none)) else (bif Nat.blt k 18 then (bif Nat.beq k 17 then some (.iconst 0, 18, []) else none) else (bif Nat.beq k 18 then some (.istore_n 3, 19, []) else none))) else (bif Nat.blt k 21 then (bif Nat.blt k 20 then (bif Nat.beq k 19 then some (.aload_n 0, 20, []) else none) else (bif Nat.beq k 20 then some (.iconst 0, 21, []) else none)) else (bif Nat.blt k 24 then (bif Nat.beq k 21 then some (.putfield 164, 24, []) else none) else (bif Nat.blt k 25 then (bif Nat.beq k 24 then some (.iconst 0, 25, []) else none) else (bif Nat.beq k 25 then some (.istore 4, 27, []) else none)))))) else (bif Nat.blt k 47 then (bif Nat.blt k 35 then (bif Nat.blt k 30 then (bif Nat.blt k 28 then (bif Nat.beq k 27 then some (.iconst 0, 28, []) else none) else (bif Nat.beq k 28 then some (.istore 5, 30, []) else none)) else (bif Nat.blt k 32 then (bif Nat.beq k 30 then some (.iload 5, 32, []) else none) else (bif Nat.beq k 32 then some (.sipush 200, 35, []) else none))) else (bif Nat.blt k 40 then (bif Nat.blt k 38 then (bif Nat.beq k 35 then some (.if_icmp .gt 94, 38, [129]) else none) else (bif Nat.beq k 38 then some (.iload 5, 40, []) else none)) else (bif Nat.blt k 43 then (bif Nat.beq k 40 then some (.sipush 200, 43, []) else none) else (bif Nat.blt k 46 then (bif Nat.beq k 43 then some (.if_icmp .ge 27, 46, [70]) else none) else (bif Nat.beq k 46 then some (.aload_n 0, 47, []) else none))))) else (bif Nat.blt k 54 then (bif Nat.blt k 52 then (bif Nat.blt k 50 then (bif Nat.beq k 47 then some (.getfield 9, 50, []) else none) else (bif Nat.beq k 50 then some (.iload 5, 52, []) else none)) else (bif Nat.blt k 53 then (bif Nat.beq k 52 then some (.iaload, 53, []) else none) else (bif Nat.beq k 53 then some (.i2l, 54, []) else none))) else (bif Nat.blt k 56 then (bif Nat.blt k 55 then (bif Nat.beq k 54 then some (.iload_n 1, 55, []) else none) else (bif Nat.beq k 55 then some (.i2l, 56, []) else none)) else (bif Nat.blt k 57 then (bif Nat.beq k 56 then some (.lsub, 57, []) else none) else (bif Nat.blt k 60 then (bif Nat.beq k 57 then some (.invokestatic 167, 60, []) else none) else (bif Nat.beq k 60 then some (.iload_n 2, 61, []) else none))))))) else (bif Nat.blt k 96 then (bif Nat.blt k 75 then (bif Nat.blt k 67 then (bif Nat.blt k 63 then (bif Nat.blt k 62 then (bif Nat.beq k 61 then some (.i2l, 62, []) else none) else (bif Nat.beq k 62 then some (.lcmp, 63, []) else none)) else (bif Nat.blt k 66 then (bif Nat.beq k 63 then some (.ifCond .gt 7, 66, [70]) else none) else (bif Nat.beq k 66 then some (.iconst 1, 67, []) else none))) else (bif Nat.blt k 71 then (bif Nat.blt k 70 then (bif Nat.beq k 67 then some (.goto 4, 70, [71]) else none) else (bif Nat.beq k 70 then some (.iconst 0, 71, []) else none)) else (bif Nat.blt k 73 then (bif Nat.beq k 71 then some (.istore 6, 73, []) else none) else (bif Nat.beq k 73 then some (.iload 6, 75, []) else none)))) else (bif Nat.blt k 86 then (bif Nat.blt k 80 then (bif Nat.blt k 78 then (bif Nat.beq k 75 then some (.ifCond .eq 11, 78, [86]) else none) else (bif Nat.beq k 78 then some (.iload 4, 80, []) else none)) else (bif Nat.blt k 83 then (bif Nat.beq k 80 then some (.ifCond .ne 6, 83, [86]) else none) else (bif Nat.beq k 83 then some (.iinc 3 1, 86, []) else none))) else (bif Nat.blt k 90 then (bif Nat.blt k 88 then (bif Nat.beq k 86 then some (.iload 6, 88, []) else none) else (bif Nat.beq k 88 then some (.iload 4, 90, []) else none)) else (bif Nat.blt k 93 then (bif Nat.beq k 90 then some (.if_icmp .eq 29, 93, [119]) else none) else (bif Nat.blt k 94 then (bif Nat.beq k 93 then some (.iload_n 3, 94, []) else none) else (bif Nat.beq k 94 then some (.bipush 10, 96, []) else none)))))) else (bif Nat.blt k 114 then (bif Nat.blt k 105 then (bif Nat.blt k 100 then (bif Nat.blt k 99 then (bif Nat.beq k 96 then some (.if_icmp .gt 23, 99, [119]) else none) else (bif Nat.beq k 99 then some (.aload_n 0, 100, []) else none)) else (bif Nat.blt k 102 then (bif Nat.beq k 100 then some (.iload 6, 102, []) else none) else (bif Nat.beq k 102 then some (.ifCond .eq 9, 105, [111]) else none))) else (bif Nat.blt k 108 then (bif Nat.blt k 107 then (bif Nat.beq k 105 then some (.iload 5, 107, []) else none) else (bif Nat.beq k 107 then some (.i2l, 108, []) else none)) else (bif Nat.blt k 111 then (bif Nat.beq k 108 then some (.goto 8, 111, [116]) else none) else (bif Nat.blt k 113 then (bif Nat.beq k 111 then some (.iload 5, 113, []) else none) else (bif Nat.beq k 113 then some (.iconst 1, 114, []) else none))))) else (bif Nat.blt k 121 then (bif Nat.blt k 116 then (bif Nat.blt k 115 then (bif Nat.beq k 114 then some (.isub, 115, []) else none) else (bif Nat.beq k 115 then some (.i2l, 116, []) else none)) else (bif Nat.blt k 119 then (bif Nat.beq k 116 then some (.invokevirtual 177, 119, []) else none) else (bif Nat.beq k 119 then some (.iload 6, 121, []) else none))) else (bif Nat.blt k 126 then (bif Nat.blt k 123 then (bif Nat.beq k 121 then some (.istore 4, 123, []) else none) else (bif Nat.beq k 123 then some (.iinc 5 1, 126, []) else none)) else (bif Nat.blt k 129 then (bif Nat.beq k 126 then some (.goto (-96), 129, [30]) else none) else (bif Nat.blt k 130 then (bif Nat.beq k 129 then some (.iload_n 3, 130, []) else none) else (bif Nat.beq k 130 then some (.ireturn, 131, []) else none)))))))) else none
noncomputable def P_M_years : MP := (T_M_years, (fun k => mLook k [(9, (13, 0, (.array .int), true)), (161, (13, 52, .int, false)), (164, (13, 51, .int, false))]), (fun k => mLook k []), (fun k => mLook k [(167, E_Ma_absJ), (177, E_M_tell), (181, E_M_in)]), (fun k => mLook k []), (fun k => mLook k []), (fun k => mLook k []), (fun k => mLook k [(30, [true, true, true, true, true, true, false]), (86, [true, true, true, true, true, true, true])]), (fun k => [16, 130].any (Nat.beq k)), (1, 22, 0, 0), false, (fun _ => none))
set_option maxRecDepth 100000 in
set_option maxHeartbeats 4000000 in
theorem q_M_years_e (a1 : Int32) (a2 : Int32) (σ : MSto) (n : Nat) : mexe KT P_M_years (n + 1) (0, [some (mR 13 0), some (mI a1), some (mI a2), none, none, none, none], [], σ, 0, 0) = mIf ((v_M_in a2 1 60 (sI σ 13 0 52 0)) = 0) (some (16, [], [(mI (-1))], (sI σ 13 0 52 0), 0, 0)) (mexe KT P_M_years n (30, [some (mR 13 0), some (mI a1), some (mI a2), some (mI 0), some (mI 0), some (mI 0), none], [], (sI (sI σ 13 0 52 0) 13 0 51 0), 0, 0)) := rfl
set_option maxRecDepth 100000 in
set_option maxHeartbeats 4000000 in
theorem q_M_years_30 (x1 : Int32) (x2 : Int32) (x3 : Int32) (x4 : Int32) (x5 : Int32) (σ : MSto) (n : Nat) : mexe KT P_M_years (n + 1) (30, [some (mR 13 0), some (mI x1), some (mI x2), some (mI x3), some (mI x4), some (mI x5), none], [], σ, 0, 0) = mIf (200 < x5) (some (130, [], [(mI x3)], σ, 0, 0)) (mIf (200 ≤ x5) (mIf ((0 : Int32) = 0) (mexe KT P_M_years n (86, [some (mR 13 0), some (mI x1), some (mI x2), some (mI x3), some (mI x4), some (mI x5), some (mI 0)], [], σ, 0, 0)) (mIf (x4 = 0) (mexe KT P_M_years n (86, [some (mR 13 0), some (mI x1), some (mI x2), some (mI (x3 + 1)), some (mI x4), some (mI x5), some (mI 0)], [], σ, 0, 0)) (mexe KT P_M_years n (86, [some (mR 13 0), some (mI x1), some (mI x2), some (mI x3), some (mI x4), some (mI x5), some (mI 0)], [], σ, 0, 0)))) (mG (vp_in x5 200) (mIf (0 < (lg_cmp (v_Ma_absJ ((Int32.toInt64 (gI σ 41 0 (Int32.toNatClampNeg x5))) - (Int32.toInt64 x1)) σ) (Int32.toInt64 x2))) (mIf ((0 : Int32) = 0) (mexe KT P_M_years n (86, [some (mR 13 0), some (mI x1), some (mI x2), some (mI x3), some (mI x4), some (mI x5), some (mI 0)], [], σ, 0, 0)) (mIf (x4 = 0) (mexe KT P_M_years n (86, [some (mR 13 0), some (mI x1), some (mI x2), some (mI (x3 + 1)), some (mI x4), some (mI x5), some (mI 0)], [], σ, 0, 0)) (mexe KT P_M_years n (86, [some (mR 13 0), some (mI x1), some (mI x2), some (mI x3), some (mI x4), some (mI x5), some (mI 0)], [], σ, 0, 0)))) (mIf ((1 : Int32) = 0) (mexe KT P_M_years n (86, [some (mR 13 0), some (mI x1), some (mI x2), some (mI x3), some (mI x4), some (mI x5), some (mI 1)], [], σ, 0, 0)) (mIf (x4 = 0) (mexe KT P_M_years n (86, [some (mR 13 0), some (mI x1), some (mI x2), some (mI (x3 + 1)), some (mI x4), some (mI x5), some (mI 1)], [], σ, 0, 0)) (mexe KT P_M_years n (86, [some (mR 13 0), some (mI x1), some (mI x2), some (mI x3), some (mI x4), some (mI x5), some (mI 1)], [], σ, 0, 0))))))) := rfl
set_option maxRecDepth 100000 in
set_option maxHeartbeats 4000000 in
theorem q_M_years_86 (x1 : Int32) (x2 : Int32) (x3 : Int32) (x4 : Int32) (x5 : Int32) (x6 : Int32) (σ : MSto) (n : Nat) : mexe KT P_M_years (n + 1) (86, [some (mR 13 0), some (mI x1), some (mI x2), some (mI x3), some (mI x4), some (mI x5), some (mI x6)], [], σ, 0, 0) = mIf (x6 = x4) (mexe KT P_M_years n (30, [some (mR 13 0), some (mI x1), some (mI x2), some (mI x3), some (mI x6), some (mI (x5 + 1)), none], [], σ, 0, 0)) (mIf (10 < x3) (mexe KT P_M_years n (30, [some (mR 13 0), some (mI x1), some (mI x2), some (mI x3), some (mI x6), some (mI (x5 + 1)), none], [], σ, 0, 0)) (mIf (x6 = 0) (mG (p_M_tell (Int32.toInt64 (x5 - 1)) σ) (mexe KT P_M_years n (30, [some (mR 13 0), some (mI x1), some (mI x2), some (mI x3), some (mI x6), some (mI (x5 + 1)), none], [], (e_M_tell (Int32.toInt64 (x5 - 1)) σ), 0, 0))) (mG (p_M_tell (Int32.toInt64 x5) σ) (mexe KT P_M_years n (30, [some (mR 13 0), some (mI x1), some (mI x2), some (mI x3), some (mI x6), some (mI (x5 + 1)), none], [], (e_M_tell (Int32.toInt64 x5) σ), 0, 0))))) := rfl
set_option maxRecDepth 100000 in
theorem lj_M_years_30j86 {Post : MST → Prop} (x1 : Int32) (x2 : Int32) (x3 : Int32) (x4 : Int32) (x5 : Int32) (x6 : Int32) (σ : MSto) (s : Int32 × Int32 × MSto) (hp : gj_M_years_30j86 x1 x2 x3 x4 x5 x6 σ) (hq : ¬ 0 = 1) (hn : ∀ r, tj_M_years_30j86 x1 x2 x3 x4 x5 x6 σ s = r → mW1 P_M_years (30, [some (mR 13 0), some (mI x1), some (mI x2), some (mI (r.1)), some (mI (r.2.1)), some (mI (x5 + 1)), none], [], (r.2.2), 0, 0) Post) : mW1 P_M_years (86, [some (mR 13 0), some (mI x1), some (mI x2), some (mI x3), some (mI x4), some (mI x5), some (mI x6)], [], σ, 0, 0) Post := by
  unfold gj_M_years_30j86 at hp
  refine mW1_eq (q_M_years_86 _ _ _ _ _ _ _) ?_
  refine mTr_if (fun h0 => ?_) (fun h0 => ?_)
  · skip
    exact mTr_k (hn _ (if_pos h0))
  · skip
    have hp := hp h0
    refine mTr_if (fun h1 => ?_) (fun h1 => ?_)
    · skip
      exact mTr_k (hn _ ((if_neg h0).trans (if_pos h1)))
    · skip
      have hp := hp h1
      refine mTr_if (fun h2 => ?_) (fun h2 => ?_)
      · skip
        have hp := hp.1 h2
        refine mTr_g hp ?_
        exact mTr_k (hn _ ((if_neg h0).trans ((if_neg h1).trans (if_pos h2))))
      · skip
        have hp := hp.2 h2
        refine mTr_g hp ?_
        exact mTr_k (hn _ ((if_neg h0).trans ((if_neg h1).trans (if_neg h2))))
set_option maxRecDepth 100000 in
theorem lt_M_years_30 {Post : MST → Prop} (x1 : Int32) (x2 : Int32) (c : Int32) (s : Int32 × Int32 × MSto) (hp : g_M_years_30 x1 x2 c s) (hq : ¬ q_M_years_30s x1 x2 c s = 1) (hn : ∀ r, t_M_years_30 x1 x2 c s = r → mW1 P_M_years (30, [some (mR 13 0), some (mI x1), some (mI x2), some (mI (r.1)), some (mI (r.2.1)), some (mI (c + 1)), none], [], (r.2.2), 0, 0) Post) : mW1 P_M_years (30, [some (mR 13 0), some (mI x1), some (mI x2), some (mI (s.1)), some (mI (s.2.1)), some (mI c), none], [], (s.2.2), 0, 0) Post := by
  unfold g_M_years_30 at hp
  refine mW1_eq (q_M_years_30 _ _ _ _ _ _) ?_
  refine mTr_if (fun h0 => ?_) (fun h0 => ?_)
  · skip
    exact absurd (if_pos h0) hq
  · skip
    have hp := hp h0
    refine mTr_if (fun h1 => ?_) (fun h1 => ?_)
    · skip
      have hp := hp.1 h1
      refine mTr_t (by decide) ?_
      exact mTr_k (lj_M_years_30j86 x1 x2 (s.1) (s.2.1) c 0 (s.2.2) s hp (fun z => hq ((if_neg h0).trans z)) (fun z zr => hn z (((if_neg h0).trans (if_pos h1)).trans zr)))
    · skip
      have hp := hp.2 h1
      refine mTr_g hp.1 ?_
      have hp := hp.2
      refine mTr_if (fun h2 => ?_) (fun h2 => ?_)
      · skip
        have hp := hp.1 h2
        refine mTr_t (by decide) ?_
        exact mTr_k (lj_M_years_30j86 x1 x2 (s.1) (s.2.1) c 0 (s.2.2) s hp (fun z => hq ((if_neg h0).trans z)) (fun z zr => hn z (((if_neg h0).trans ((if_neg h1).trans (if_pos h2))).trans zr)))
      · skip
        have hp := hp.2 h2
        refine mTr_f (by decide) ?_
        refine mTr_if (fun h3 => ?_) (fun h3 => ?_)
        · skip
          have hp := hp.1 h3
          exact mTr_k (lj_M_years_30j86 x1 x2 ((s.1) + 1) (s.2.1) c 1 (s.2.2) s hp (fun z => hq ((if_neg h0).trans z)) (fun z zr => hn z (((if_neg h0).trans ((if_neg h1).trans ((if_neg h2).trans (if_pos h3)))).trans zr)))
        · skip
          have hp := hp.2 h3
          exact mTr_k (lj_M_years_30j86 x1 x2 (s.1) (s.2.1) c 1 (s.2.2) s hp (fun z => hq ((if_neg h0).trans z)) (fun z zr => hn z (((if_neg h0).trans ((if_neg h1).trans ((if_neg h2).trans (if_neg h3)))).trans zr)))
theorem lp_M_years_30 {Post : MST → Prop} (x1 : Int32) (x2 : Int32) (c0 : Int32) (s0 : Int32 × Int32 × MSto) (N : Nat) (hb : ∀ i, i < N → g_M_years_30 x1 x2 (c0 + nI i) (f_M_years_30 x1 x2 c0 s0 i) ∧ ¬ q_M_years_30s x1 x2 (c0 + nI i) (f_M_years_30 x1 x2 c0 s0 i) = 1) (h : mW1 P_M_years (30, [some (mR 13 0), some (mI x1), some (mI x2), some (mI ((f_M_years_30 x1 x2 c0 s0 N).1)), some (mI ((f_M_years_30 x1 x2 c0 s0 N).2.1)), some (mI (c0 + nI N)), none], [], ((f_M_years_30 x1 x2 c0 s0 N).2.2), 0, 0) Post) : mW1 P_M_years (30, [some (mR 13 0), some (mI x1), some (mI x2), some (mI (s0.1)), some (mI (s0.2.1)), some (mI c0), none], [], (s0.2.2), 0, 0) Post := by
  refine mW1_st (mW1_loop (fun i => (30, [some (mR 13 0), some (mI x1), some (mI x2), some (mI ((f_M_years_30 x1 x2 c0 s0 i).1)), some (mI ((f_M_years_30 x1 x2 c0 s0 i).2.1)), some (mI (c0 + nI i)), none], [], ((f_M_years_30 x1 x2 c0 s0 i).2.2), 0, 0)) N (fun i hlt hn => ?_) h) (by rw [show nI 0 = 0 from rfl, Int32.add_zero] <;> rfl)
  refine lt_M_years_30 x1 x2 _ _ (hb i hlt).1 (hb i hlt).2 (fun r hr => ?_)
  rw [Int32.add_assoc, nI_s]
  subst hr
  exact hn
set_option maxRecDepth 100000 in
set_option maxHeartbeats 4000000 in
theorem d_M_years (a1 : Int32) (a2 : Int32) (σ : MSto) (hp : p_M_years a1 a2 σ) : mW1 P_M_years (0, [some (mR 13 0), some (mI a1), some (mI a2), none, none, none, none], [], σ, 0, 0) (mF [16, 130] [mI (v_M_years a1 a2 σ)] (e_M_years a1 a2 σ) 0 0) := by
  refine mW1_eq (q_M_years_e _ _ _) ?_
  unfold p_M_years at hp
  refine mTr_if (fun h0 => ?_) (fun h0 => ?_)
  · skip
    exact mTr_e (by decide) (congrArg (fun z => [mI z]) (Eq.symm (if_pos h0))) (Eq.symm (if_pos h0)) (by decide) (by decide)
  · skip
    have hp := hp h0
    refine mTr_k (lp_M_years_30 a1 a2 0 (0, 0, (sI (sI σ 13 0 52 0) 13 0 51 0)) (n_M_years_30 a1 a2 0 (0, 0, (sI (sI σ 13 0 52 0) 13 0 51 0))) hp.1 ?_)
    have hp := hp.2
    refine mW1_eq (q_M_years_30 _ _ _ _ _ _) ?_
    refine mTr_if (fun h1 => ?_) (fun h1 => ?_)
    · skip
      exact mTr_e (by decide) (congrArg (fun z => [mI z]) (Eq.symm (if_neg h0))) (Eq.symm (if_neg h0)) (by decide) (by decide)
    · skip
      have hp := hp h1
      exact hp.elim



theorem tk_M_years : ∀ pc i nx tg, T_M_years pc = some (i, nx, tg) → mOkB prog_14_method_45_code pc i nx tg = true := code_ok (N := 131) (fun k h => by unfold T_M_years; rw [h]; rfl) (by decide +kernel)
theorem ok_M_years (l : Launch) : mPOK l "ClothWithManModel" prog_14_method_45_code P_M_years := by
  refine ⟨tk_M_years, ?_, ?_, ?_, (fun pc i nx tg kd _ h => by cases h), ?_, ?_, fun pc en h => by cases h⟩
  · intro x ci f ty fin h
    exact mLook_all (Q := fun x v => mFOK "ClothWithManModel" x v.1 v.2.1 v.2.2.1 v.2.2.2 ∧ (v.2.2.2 = true → pIni P_M_years = true → (Cond.fieldLink "ClothWithManModel" x (((mCl[v.1]?).getD ("", fun _ => ("", "", "", false), 0)).2.1 v.2.1).1 (((mCl[v.1]?).getD ("", fun _ => ("", "", "", false), 0)).2.1 v.2.1).2.1 (((mCl[v.1]?).getD ("", fun _ => ("", "", "", false), 0)).2.1 v.2.1).2.2.1 ∈ lw_tbl ∧ (((mCl[v.1]?).getD ("", fun _ => ("", "", "", false), 0)).2.1 v.2.1).1 = "ClothWithManModel"))) (fcC ⟨fo_M_9, fun h1 h2 => by cases h2⟩ (fcC ⟨fo_M_161, fun h1 h2 => by cases h1⟩ (fcC ⟨fo_M_164, fun h1 h2 => by cases h1⟩ fcN))) x (ci, f, ty, fin) h
  · intro x
    have hh := mLook_all (l := ([] : List (Nat × (Int32 ⊕ Int64)))) (Q := fun x (v : Int32 ⊕ Int64) => (∀ w, v = .inl w → Cond.constant "ClothWithManModel" x w ∈ lw_tbl) ∧ (∀ w, v = .inr w → Cond.constantLong "ClothWithManModel" x w ∈ lw_tbl)) fcN x
    exact ⟨fun w h => (hh _ h).1 w rfl, fun w h => (hh _ h).2 w rfl⟩
  · exact fun x en h => mLook_all (Q := fun x en => mLink "ClothWithManModel" x en ∧ mCtr l en ∧ (en.1.1 = 2 → en.2.2.2.2.2.2 = none)) (fcC ⟨li_M_167, c_Ma_absJ l, (fun h => by cases h)⟩ (fcC ⟨li_M_177, c_M_tell l, (fun h => by cases h)⟩ (fcC ⟨li_M_181, c_M_in l, (fun h => by cases h)⟩ fcN))) x en h
  · exact fun x kd h => mLook_all (Q := fun x kd => (kd = 95 ∧ Cond.fieldLink "ClothWithManModel" x "ClothWithMan" "LIKENESSES" "[I" ∈ lw_tbl) ∨ (kd = 96 ∧ Cond.fieldLink "ClothWithManModel" x "ClothWithMan" "APART_BOUNDS" "[I" ∈ lw_tbl)) fcN x kd h
  · exact fun x ci h => mLook_all (Q := fun x ci => ci ≠ 0 ∧ ∃ (C : String) (T : u_T) (N : Nat), mCl[ci]? = some (C, T, N) ∧ Cond.classLink "ClothWithManModel" x C ∈ lw_tbl ∧ Cond.castable C C ∈ lw_tbl) fcN x ci h
set_option maxRecDepth 100000 in
theorem c_M_years (l : Launch) : mCtr l E_M_years := mCtr_of (P := P_M_years) (own := "ClothWithManModel") mLay_ok rfl (by decide +kernel) rfl (ok_M_years l) (fun h => by cases h) (fun as σ pr rv σ' hF hpr hlv => by
  unfold E_M_years S_M_years at hF
  simp only [] at hF
  split at hF
  · cases hF
    obtain ⟨n, pcF, c1, s1, g1, g2, g3, g4⟩ := mF_inv (d_M_years _ _ σ (hpr _ rfl))
    exact ⟨Nat.le_of_ble_eq_true rfl, (fun v h => by cases h; trivial), n, pcF, c1, s1, g1, ⟨mEnd_of (i := .ireturn) (P := P_M_years) (rets := [16, 130]) rfl g2, rfl⟩, g3, g4⟩
  · cases hF
    exact (hpr _ rfl).elim)

