/-! ClothWithManModel.years(II)I -/
noncomputable def tj_M_years_30j86 (x1 : Int32) (x2 : Int32) (x3 : Int32) (x4 : Int32) (x5 : Int32) (x6 : Int32) (σ : MSto) (s : Int32 × Int32 × MSto) : Int32 × Int32 × MSto := (if x6 = x4 then (x3, x6, σ) else (if 10 < x3 then (x3, x6, σ) else (if x6 = 0 then (x3, x6, (e_M_tell (Int32.toInt64 (x5 - 1)) σ)) else (x3, x6, (e_M_tell (Int32.toInt64 x5) σ)))))
noncomputable def qj_M_years_30j86 (x1 : Int32) (x2 : Int32) (x3 : Int32) (x4 : Int32) (x5 : Int32) (x6 : Int32) (σ : MSto) : Nat := 0
def gj_M_years_30j86 (x1 : Int32) (x2 : Int32) (x3 : Int32) (x4 : Int32) (x5 : Int32) (x6 : Int32) (σ : MSto) : Prop := (¬ (x6 = x4) → (¬ (10 < x3) → (((x6 = 0) → (p_M_tell (Int32.toInt64 (x5 - 1)) σ)) ∧ (¬ (x6 = 0) → (p_M_tell (Int32.toInt64 x5) σ)))))
noncomputable def t_M_years_30 (x1 : Int32) (x2 : Int32) (c : Int32) (s : Int32 × Int32 × MSto) : Int32 × Int32 × MSto := (if 200 < c then s else (if 200 ≤ c then (tj_M_years_30j86 x1 x2 (s.1) (s.2.1) c 0 (s.2.2) s) else (if 0 < (lg_cmp (v_Ma_absJ ((Int32.toInt64 (gI (s.2.2) 41 0 (Int32.toNatClampNeg c))) - (Int32.toInt64 x1)) (s.2.2)) (Int32.toInt64 x2)) then (tj_M_years_30j86 x1 x2 (s.1) (s.2.1) c 0 (s.2.2) s) else (if (s.2.1) = 0 then (tj_M_years_30j86 x1 x2 ((s.1) + 1) (s.2.1) c 1 (s.2.2) s) else (tj_M_years_30j86 x1 x2 (s.1) (s.2.1) c 1 (s.2.2) s)))))
noncomputable def q_M_years_30s (x1 : Int32) (x2 : Int32) (c : Int32) (s : Int32 × Int32 × MSto) : Nat := (if 200 < c then 1 else 0)
def g_M_years_30 (x1 : Int32) (x2 : Int32) (c : Int32) (s : Int32 × Int32 × MSto) : Prop := (¬ (200 < c) → (((200 ≤ c) → (gj_M_years_30j86 x1 x2 (s.1) (s.2.1) c 0 (s.2.2))) ∧ (¬ (200 ≤ c) → ((vp_in c 200) ∧ (((0 < (lg_cmp (v_Ma_absJ ((Int32.toInt64 (gI (s.2.2) 41 0 (Int32.toNatClampNeg c))) - (Int32.toInt64 x1)) (s.2.2)) (Int32.toInt64 x2))) → (gj_M_years_30j86 x1 x2 (s.1) (s.2.1) c 0 (s.2.2))) ∧ (¬ (0 < (lg_cmp (v_Ma_absJ ((Int32.toInt64 (gI (s.2.2) 41 0 (Int32.toNatClampNeg c))) - (Int32.toInt64 x1)) (s.2.2)) (Int32.toInt64 x2))) → ((((s.2.1) = 0) → (gj_M_years_30j86 x1 x2 ((s.1) + 1) (s.2.1) c 1 (s.2.2))) ∧ (¬ ((s.2.1) = 0) → (gj_M_years_30j86 x1 x2 (s.1) (s.2.1) c 1 (s.2.2))))))))))
noncomputable def f_M_years_30 (x1 : Int32) (x2 : Int32) (c0 : Int32) (s0 : Int32 × Int32 × MSto) (n : Nat) : Int32 × Int32 × MSto := nfold (fun i s => t_M_years_30 x1 x2 (c0 + nI i) s) s0 n
noncomputable def n_M_years_30 (x1 : Int32) (x2 : Int32) (c0 : Int32) (s0 : Int32 × Int32 × MSto) : Nat := 201
noncomputable def v_M_years (a1 : Int32) (a2 : Int32) (σ : MSto) : Int32 := (if (v_M_in a2 1 60 (sI σ 13 0 52 0)) = 0 then (-1) else ((f_M_years_30 a1 a2 0 (0, 0, (sI (sI σ 13 0 52 0) 13 0 51 0)) (n_M_years_30 a1 a2 0 (0, 0, (sI (sI σ 13 0 52 0) 13 0 51 0)))).1))
def p_M_years (a1 : Int32) (a2 : Int32) (σ : MSto) : Prop := (¬ ((v_M_in a2 1 60 (sI σ 13 0 52 0)) = 0) → ((∀ i, i < (n_M_years_30 a1 a2 0 (0, 0, (sI (sI σ 13 0 52 0) 13 0 51 0))) → g_M_years_30 a1 a2 (0 + nI i) (f_M_years_30 a1 a2 0 (0, 0, (sI (sI σ 13 0 52 0) 13 0 51 0)) i) ∧ ¬ q_M_years_30s a1 a2 (0 + nI i) (f_M_years_30 a1 a2 0 (0, 0, (sI (sI σ 13 0 52 0) 13 0 51 0)) i) = 1) ∧ (¬ (200 < (0 + nI (n_M_years_30 a1 a2 0 (0, 0, (sI (sI σ 13 0 52 0) 13 0 51 0))))) → False)))
noncomputable def e_M_years (a1 : Int32) (a2 : Int32) (σ : MSto) : MSto := (if (v_M_in a2 1 60 (sI σ 13 0 52 0)) = 0 then (sI σ 13 0 52 0) else ((f_M_years_30 a1 a2 0 (0, 0, (sI (sI σ 13 0 52 0) 13 0 51 0)) (n_M_years_30 a1 a2 0 (0, 0, (sI (sI σ 13 0 52 0) 13 0 51 0)))).2.2))
noncomputable def S_M_years : List MV → MSto → Option Prop × Option MV × MSto := fun as σ => match as with
  | [.inr (.inr (some (13, 0))), .inl a0, .inl a1] => (some (p_M_years a0 a1 σ), some (mI (v_M_years a0 a1 σ)), e_M_years a0 a1 σ)
  | _ => (some False, none, σ)
noncomputable def E_M_years : MEnt := ((1, 2, 13), (1, 22, 0, 0), S_M_years, ((⟨"ClothWithManModel", "years", "(II)I"⟩ : MethodName), prog_14_method_45_code, 7, (some .int)))

def T_M_years : Nat → Option (Instr × Nat × List Nat) := fun k => bif Nat.blt k 131 then (bif Nat.blt k 61 then (bif Nat.blt k 27 then (bif Nat.blt k 15 then (bif Nat.blt k 6 then (bif Nat.blt k 2 then (bif Nat.blt k 1 then (bif Nat.beq k 0 then some (.aload_n 0, 1, []) else none) else (bif Nat.beq k 1 then some (.iconst 0, 2, []) else none)) else (bif Nat.blt k 5 then (bif Nat.beq k 2 then some (.putfield 161, 5, []) else none) else (bif Nat.beq k 5 then some (.iload_n 2, 6, []) else none))) else (bif Nat.blt k 9 then (bif Nat.blt k 7 then (bif Nat.beq k 6 then some (.iconst 1, 7, []) else none) else (bif Nat.beq k 7 then some (.bipush 60, 9, []) else none)) else (bif Nat.blt k 12 then (bif Nat.beq k 9 then some (.invokestatic 181, 12, []) else none) else (bif Nat.beq k 12 then some (.ifCond .ne 5, 15, [17]) else none)))) else (bif Nat.blt k 19 then (bif Nat.blt k 17 then (bif Nat.blt k 16 then (bif Nat.beq k 15 then some (.iconst (-1), 16, []) else none) else (bif Nat.beq k 16 then some (.ireturn, 17, []) else none)) else (bif Nat.blt k 18 then (bif Nat.beq k 17 then some (.iconst 0, 18, []) else none) else (bif Nat.beq k 18 then some (.istore_n 3, 19, []) else none))) else (bif Nat.blt k 21 then (bif Nat.blt k 20 then (bif Nat.beq k 19 then some (.aload_n 0, 20, []) else none) else (bif Nat.beq k 20 then some (.iconst 0, 21, []) else none)) else (bif Nat.blt k 24 then (bif Nat.beq k 21 then some (.putfield 164, 24, []) else none) else (bif Nat.blt k 25 then (bif Nat.beq k 24 then some (.iconst 0, 25, []) else none) else (bif Nat.beq k 25 then some (.istore 4, 27, []) else none)))))) else (bif Nat.blt k 47 then (bif Nat.blt k 35 then (bif Nat.blt k 30 then (bif Nat.blt k 28 then (bif Nat.beq k 27 then some (.iconst 0, 28, []) else none) else (bif Nat.beq k 28 then some (.istore 5, 30, []) else none)) else (bif Nat.blt k 32 then (bif Nat.beq k 30 then some (.iload 5, 32, []) else none) else (bif Nat.beq k 32 then some (.sipush 200, 35, []) else none))) else (bif Nat.blt k 40 then (bif Nat.blt k 38 then (bif Nat.beq k 35 then some (.if_icmp .gt 94, 38, [129]) else none) else (bif Nat.beq k 38 then some (.iload 5, 40, []) else none)) else (bif Nat.blt k 43 then (bif Nat.beq k 40 then some (.sipush 200, 43, []) else none) else (bif Nat.blt k 46 then (bif Nat.beq k 43 then some (.if_icmp .ge 27, 46, [70]) else none) else (bif Nat.beq k 46 then some (.aload_n 0, 47, []) else none))))) else (bif Nat.blt k 54 then (bif Nat.blt k 52 then (bif Nat.blt k 50 then (bif Nat.beq k 47 then some (.getfield 9, 50, []) else none) else (bif Nat.beq k 50 then some (.iload 5, 52, []) else none)) else (bif Nat.blt k 53 then (bif Nat.beq k 52 then some (.iaload, 53, []) else none) else (bif Nat.beq k 53 then some (.i2l, 54, []) else none))) else (bif Nat.blt k 56 then (bif Nat.blt k 55 then (bif Nat.beq k 54 then some (.iload_n 1, 55, []) else none) else (bif Nat.beq k 55 then some (.i2l, 56, []) else none)) else (bif Nat.blt k 57 then (bif Nat.beq k 56 then some (.lsub, 57, []) else none) else (bif Nat.blt k 60 then (bif Nat.beq k 57 then some (.invokestatic 167, 60, []) else none) else (bif Nat.beq k 60 then some (.iload_n 2, 61, []) else none))))))) else (bif Nat.blt k 96 then (bif Nat.blt k 75 then (bif Nat.blt k 67 then (bif Nat.blt k 63 then (bif Nat.blt k 62 then (bif Nat.beq k 61 then some (.i2l, 62, []) else none) else (bif Nat.beq k 62 then some (.lcmp, 63, []) else none)) else (bif Nat.blt k 66 then (bif Nat.beq k 63 then some (.ifCond .gt 7, 66, [70]) else none) else (bif Nat.beq k 66 then some (.iconst 1, 67, []) else none))) else (bif Nat.blt k 71 then (bif Nat.blt k 70 then (bif Nat.beq k 67 then some (.goto 4, 70, [71]) else none) else (bif Nat.beq k 70 then some (.iconst 0, 71, []) else none)) else (bif Nat.blt k 73 then (bif Nat.beq k 71 then some (.istore 6, 73, []) else none) else (bif Nat.beq k 73 then some (.iload 6, 75, []) else none)))) else (bif Nat.blt k 86 then (bif Nat.blt k 80 then (bif Nat.blt k 78 then (bif Nat.beq k 75 then some (.ifCond .eq 11, 78, [86]) else none) else (bif Nat.beq k 78 then some (.iload 4, 80, []) else none)) else (bif Nat.blt k 83 then (bif Nat.beq k 80 then some (.ifCond .ne 6, 83, [86]) else none) else (bif Nat.beq k 83 then some (.iinc 3 1, 86, []) else none))) else (bif Nat.blt k 90 then (bif Nat.blt k 88 then (bif Nat.beq k 86 then some (.iload 6, 88, []) else none) else (bif Nat.beq k 88 then some (.iload 4, 90, []) else none)) else (bif Nat.blt k 93 then (bif Nat.beq k 90 then some (.if_icmp .eq 29, 93, [119]) else none) else (bif Nat.blt k 94 then (bif Nat.beq k 93 then some (.iload_n 3, 94, []) else none) else (bif Nat.beq k 94 then some (.bipush 10, 96, []) else none)))))) else (bif Nat.blt k 114 then (bif Nat.blt k 105 then (bif Nat.blt k 100 then (bif Nat.blt k 99 then (bif Nat.beq k 96 then some (.if_icmp .gt 23, 99, [119]) else none) else (bif Nat.beq k 99 then some (.aload_n 0, 100, []) else none)) else (bif Nat.blt k 102 then (bif Nat.beq k 100 then some (.iload 6, 102, []) else none) else (bif Nat.beq k 102 then some (.ifCond .eq 9, 105, [111]) else none))) else (bif Nat.blt k 108 then (bif Nat.blt k 107 then (bif Nat.beq k 105 then some (.iload 5, 107, []) else none) else (bif Nat.beq k 107 then some (.i2l, 108, []) else none)) else (bif Nat.blt k 111 then (bif Nat.beq k 108 then some (.goto 8, 111, [116]) else none) else (bif Nat.blt k 113 then (bif Nat.beq k 111 then some (.iload 5, 113, []) else none) else (bif Nat.beq k 113 then some (.iconst 1, 114, []) else none))))) else (bif Nat.blt k 121 then (bif Nat.blt k 116 then (bif Nat.blt k 115 then (bif Nat.beq k 114 then some (.isub, 115, []) else none) else (bif Nat.beq k 115 then some (.i2l, 116, []) else none)) else (bif Nat.blt k 119 then (bif Nat.beq k 116 then some (.invokevirtual 177, 119, []) else none) else (bif Nat.beq k 119 then some (.iload 6, 121, []) else none))) else (bif Nat.blt k 126 then (bif Nat.blt k 123 then (bif Nat.beq k 121 then some (.istore 4, 123, []) else none) else (bif Nat.beq k 123 then some (.iinc 5 1, 126, []) else none)) else (bif Nat.blt k 129 then (bif Nat.beq k 126 then some (.goto (-96), 129, [30]) else none) else (bif Nat.blt k 130 then (bif Nat.beq k 129 then some (.iload_n 3, 130, []) else none) else (bif Nat.beq k 130 then some (.ireturn, 131, []) else none)))))))) else none
noncomputable def P_M_years : MP := (T_M_years, (fun k => mLook k [(9, (13, 0, (.array .int), true)), (161, (13, 52, .int, false)), (164, (13, 51, .int, false))]), (fun k => mLook k []), (fun k => mLook k [(167, E_Ma_absJ), (177, E_M_tell), (181, E_M_in)]), (fun k => mLook k []), (fun k => mLook k []), (fun k => mLook k []), (fun k => mLook k [(30, [true, true, true, true, true, true, false]), (86, [true, true, true, true, true, true, true])]), (fun k => [16, 130].any (Nat.beq k)), (1, 22, 0, 0), false, (fun _ => none))
set_option maxRecDepth 100000 in
set_option maxHeartbeats 4000000 in
theorem q_M_years_e (a1 : Int32) (a2 : Int32) (σ : MSto) (n : Nat) : mexe KT P_M_years (n + 1) (0, [some (mR 13 0), some (mI a1), some (mI a2), none, none, none, none], [], σ, 0, 0) = mIf ((v_M_in a2 1 60 (sI σ 13 0 52 0)) = 0) (some (16, [], [(mI (-1))], (sI σ 13 0 52 0), 0, 0)) (mexe KT P_M_years n (30, [some (mR 13 0), some (mI a1), some (mI a2), some (mI 0), some (mI 0), some (mI 0), none], [], (sI (sI σ 13 0 52 0) 13 0 51 0), 0, 0)) := rfl
set_option maxRecDepth 100000 in
set_option maxHeartbeats 4000000 in
theorem q_M_years_30 (x1 : Int32) (x2 : Int32) (x3 : Int32) (x4 : Int32) (x5 : Int32) (σ : MSto) (n : Nat) : mexe KT P_M_years (n + 1) (30, [some (mR 13 0), some (mI x1), some (mI x2), some (mI x3), some (mI x4), some (mI x5), none], [], σ, 0, 0) = mIf (200 < x5) (some (130, [], [(mI x3)], σ, 0, 0)) (mIf (200 ≤ x5) (mIf ((0 : Int32) = 0) (mexe KT P_M_years n (86, [some (mR 13 0), some (mI x1), some (mI x2), some (mI x3), some (mI x4), some (mI x5), some (mI 0)], [], σ, 0, 0)) (mIf (x4 = 0) (mexe KT P_M_years n (86, [some (mR 13 0), some (mI x1), some (mI x2), some (mI (x3 + 1)), some (mI x4), some (mI x5), some (mI 0)], [], σ, 0, 0)) (mexe KT P_M_years n (86, [some (mR 13 0), some (mI x1), some (mI x2), some (mI x3), some (mI x4), some (mI x5), some (mI 0)], [], σ, 0, 0)))) (mG (vp_in x5 200) (mIf (0 < (lg_cmp (v_Ma_absJ ((Int32.toInt64 (gI σ 41 0 (Int32.toNatClampNeg x5))) - (Int32.toInt64 x1)) σ) (Int32.toInt64 x2))) (mIf ((0 : Int32) = 0) (mexe KT P_M_years n (86, [some (mR 13 0), some (mI x1), some (mI x2), some (mI x3), some (mI x4), some (mI x5), some (mI 0)], [], σ, 0, 0)) (mIf (x4 = 0) (mexe KT P_M_years n (86, [some (mR 13 0), some (mI x1), some (mI x2), some (mI (x3 + 1)), some (mI x4), some (mI x5), some (mI 0)], [], σ, 0, 0)) (mexe KT P_M_years n (86, [some (mR 13 0), some (mI x1), some (mI x2), some (mI x3), some (mI x4), some (mI x5), some (mI 0)], [], σ, 0, 0)))) (mIf ((1 : Int32) = 0) (mexe KT P_M_years n (86, [some (mR 13 0), some (mI x1), some (mI x2), some (mI x3), some (mI x4), some (mI x5), some (mI 1)], [], σ, 0, 0)) (mIf (x4 = 0) (mexe KT P_M_years n (86, [some (mR 13 0), some (mI x1), some (mI x2), some (mI (x3 + 1)), some (mI x4), some (mI x5), some (mI 1)], [], σ, 0, 0)) (mexe KT P_M_years n (86, [some (mR 13 0), some (mI x1), some (mI x2), some (mI x3), some (mI x4), some (mI x5), some (mI 1)], [], σ, 0, 0))))))) := rfl
set_option maxRecDepth 100000 in
set_option maxHeartbeats 4000000 in
theorem q_M_years_86 (x1 : Int32) (x2 : Int32) (x3 : Int32) (x4 : Int32) (x5 : Int32) (x6 : Int32) (σ : MSto) (n : Nat) : mexe KT P_M_years (n + 1) (86, [some (mR 13 0), some (mI x1), some (mI x2), some (mI x3), some (mI x4), some (mI x5), some (mI x6)], [], σ, 0, 0) = mIf (x6 = x4) (mexe KT P_M_years n (30, [some (mR 13 0), some (mI x1), some (mI x2), some (mI x3), some (mI x6), some (mI (x5 + 1)), none], [], σ, 0, 0)) (mIf (10 < x3) (mexe KT P_M_years n (30, [some (mR 13 0), some (mI x1), some (mI x2), some (mI x3), some (mI x6), some (mI (x5 + 1)), none], [], σ, 0, 0)) (mIf (x6 = 0) (mG (p_M_tell (Int32.toInt64 (x5 - 1)) σ) (mexe KT P_M_years n (30, [some (mR 13 0), some (mI x1), some (mI x2), some (mI x3), some (mI x6), some (mI (x5 + 1)), none], [], (e_M_tell (Int32.toInt64 (x5 - 1)) σ), 0, 0))) (mG (p_M_tell (Int32.toInt64 x5) σ) (mexe KT P_M_years n (30, [some (mR 13 0), some (mI x1), some (mI x2), some (mI x3), some (mI x6), some (mI (x5 + 1)), none], [], (e_M_tell (Int32.toInt64 x5) σ), 0, 0))))) := rfl
set_option maxRecDepth 100000 in
theorem lj_M_years_30j86 {Post : MST → Prop} (x1 : Int32) (x2 : Int32) (x3 : Int32) (x4 : Int32) (x5 : Int32) (x6 : Int32) (σ : MSto) (s : Int32 × Int32 × MSto) (hp : gj_M_years_30j86 x1 x2 x3 x4 x5 x6 σ) (hq : ¬ 0 = 1) (hn : ∀ (r1 : Int32) (r2 : Int32) (r3 : MSto), tj_M_years_30j86 x1 x2 x3 x4 x5 x6 σ s = (r1, r2, r3) → mW1 P_M_years (30, [some (mR 13 0), some (mI x1), some (mI x2), some (mI r1), some (mI r2), some (mI (x5 + 1)), none], [], r3, 0, 0) Post) : mW1 P_M_years (86, [some (mR 13 0), some (mI x1), some (mI x2), some (mI x3), some (mI x4), some (mI x5), some (mI x6)], [], σ, 0, 0) Post := by
  unfold gj_M_years_30j86 at hp
  refine mW1_eq (q_M_years_86 _ _ _ _ _ _ _) ?_
  refine mTr_if (fun h0 => ?_) (fun h0 => ?_)
  · skip
    exact mTr_k (hn x3 x6 σ (if_pos h0))
  · skip
    have hp := hp h0
    refine mTr_if (fun h1 => ?_) (fun h1 => ?_)
    · skip
      exact mTr_k (hn x3 x6 σ ((if_neg h0).trans (if_pos h1)))
    · skip
      have hp := hp h1
      refine mTr_if (fun h2 => ?_) (fun h2 => ?_)
      · skip
        have hp := hp.1 h2
        refine mTr_g hp ?_
        exact mTr_k (hn x3 x6 (e_M_tell (Int32.toInt64 (x5 - 1)) σ) ((if_neg h0).trans ((if_neg h1).trans (if_pos h2))))
      · skip
        have hp := hp.2 h2
        refine mTr_g hp ?_
        exact mTr_k (hn x3 x6 (e_M_tell (Int32.toInt64 x5) σ) ((if_neg h0).trans ((if_neg h1).trans (if_neg h2))))
set_option maxRecDepth 100000 in
theorem lt_M_years_30 {Post : MST → Prop} (x1 : Int32) (x2 : Int32) (c : Int32) (s : Int32 × Int32 × MSto) (hp : g_M_years_30 x1 x2 c s) (hq : ¬ q_M_years_30s x1 x2 c s = 1) (hn : ∀ (r1 : Int32) (r2 : Int32) (r3 : MSto), t_M_years_30 x1 x2 c s = (r1, r2, r3) → mW1 P_M_years (30, [some (mR 13 0), some (mI x1), some (mI x2), some (mI r1), some (mI r2), some (mI (c + 1)), none], [], r3, 0, 0) Post) : mW1 P_M_years (30, [some (mR 13 0), some (mI x1), some (mI x2), some (mI (s.1)), some (mI (s.2.1)), some (mI c), none], [], (s.2.2), 0, 0) Post := by
  unfold g_M_years_30 at hp
  refine mW1_eq (q_M_years_30 _ _ _ _ _ _) ?_
  refine mTr_if (fun h0 => ?_) (fun h0 => ?_)
  · skip
    exact absurd (if_pos h0) hq
  · skip
    have hp := hp h0
    refine mTr_if (fun h1 => ?_) (fun h1 => ?_)
    · skip
      have hp := hp.1 h1
      refine mTr_t (by decide) ?_
      exact mTr_k (lj_M_years_30j86 x1 x2 (s.1) (s.2.1) c 0 (s.2.2) s hp (fun z => hq ((if_neg h0).trans z)) (fun r1 r2 r3 zr => hn r1 r2 r3 (((if_neg h0).trans (if_pos h1)).trans zr)))
    · skip
      have hp := hp.2 h1
      refine mTr_g hp.1 ?_
      have hp := hp.2
      refine mTr_if (fun h2 => ?_) (fun h2 => ?_)
      · skip
        have hp := hp.1 h2
        refine mTr_t (by decide) ?_
        exact mTr_k (lj_M_years_30j86 x1 x2 (s.1) (s.2.1) c 0 (s.2.2) s hp (fun z => hq ((if_neg h0).trans z)) (fun r1 r2 r3 zr => hn r1 r2 r3 (((if_neg h0).trans ((if_neg h1).trans (if_pos h2))).trans zr)))
      · skip
        have hp := hp.2 h2
        refine mTr_f (by decide) ?_
        refine mTr_if (fun h3 => ?_) (fun h3 => ?_)
        · skip
          have hp := hp.1 h3
          exact mTr_k (lj_M_years_30j86 x1 x2 ((s.1) + 1) (s.2.1) c 1 (s.2.2) s hp (fun z => hq ((if_neg h0).trans z)) (fun r1 r2 r3 zr => hn r1 r2 r3 (((if_neg h0).trans ((if_neg h1).trans ((if_neg h2).trans (if_pos h3)))).trans zr)))
        · skip
          have hp := hp.2 h3
          exact mTr_k (lj_M_years_30j86 x1 x2 (s.1) (s.2.1) c 1 (s.2.2) s hp (fun z => hq ((if_neg h0).trans z)) (fun r1 r2 r3 zr => hn r1 r2 r3 (((if_neg h0).trans ((if_neg h1).trans ((if_neg h2).trans (if_neg h3)))).trans zr)))
theorem lp_M_years_30 {Post : MST → Prop} (x1 : Int32) (x2 : Int32) (c0 : Int32) (s0 : Int32 × Int32 × MSto) (N : Nat) (hb : ∀ i, i < N → g_M_years_30 x1 x2 (c0 + nI i) (f_M_years_30 x1 x2 c0 s0 i) ∧ ¬ q_M_years_30s x1 x2 (c0 + nI i) (f_M_years_30 x1 x2 c0 s0 i) = 1) (h : mW1 P_M_years (30, [some (mR 13 0), some (mI x1), some (mI x2), some (mI ((f_M_years_30 x1 x2 c0 s0 N).1)), some (mI ((f_M_years_30 x1 x2 c0 s0 N).2.1)), some (mI (c0 + nI N)), none], [], ((f_M_years_30 x1 x2 c0 s0 N).2.2), 0, 0) Post) : mW1 P_M_years (30, [some (mR 13 0), some (mI x1), some (mI x2), some (mI (s0.1)), some (mI (s0.2.1)), some (mI c0), none], [], (s0.2.2), 0, 0) Post := by
  refine mW1_st (mW1_loop (fun i => (30, [some (mR 13 0), some (mI x1), some (mI x2), some (mI ((f_M_years_30 x1 x2 c0 s0 i).1)), some (mI ((f_M_years_30 x1 x2 c0 s0 i).2.1)), some (mI (c0 + nI i)), none], [], ((f_M_years_30 x1 x2 c0 s0 i).2.2), 0, 0)) N (fun i hlt hn => ?_) h) (by rw [show nI 0 = 0 from rfl, Int32.add_zero] <;> rfl)
  refine lt_M_years_30 x1 x2 _ _ (hb i hlt).1 (hb i hlt).2 (fun r1 r2 r3 hr => ?_)
  rw [Int32.add_assoc, nI_s]
  have e : f_M_years_30 x1 x2 c0 s0 (i + 1) = (r1, r2, r3) := hr
  try dsimp only at hn
  rw [e] at hn
  exact hn
set_option maxRecDepth 100000 in
set_option maxHeartbeats 4000000 in
theorem d_M_years (a1 : Int32) (a2 : Int32) (σ : MSto) (hp : p_M_years a1 a2 σ) : mW1 P_M_years (0, [some (mR 13 0), some (mI a1), some (mI a2), none, none, none, none], [], σ, 0, 0) (mF [16, 130] [mI (v_M_years a1 a2 σ)] (e_M_years a1 a2 σ) 0 0) := by
  refine mW1_eq (q_M_years_e _ _ _) ?_
  unfold p_M_years at hp
  refine mTr_if (fun h0 => ?_) (fun h0 => ?_)
  · skip
    exact mTr_e (by decide) (congrArg (fun z => [mI z]) (Eq.symm (if_pos h0))) (Eq.symm (if_pos h0)) (by decide) (by decide)
  · skip
    have hp := hp h0
    refine mTr_k (lp_M_years_30 a1 a2 0 (0, 0, (sI (sI σ 13 0 52 0) 13 0 51 0)) (n_M_years_30 a1 a2 0 (0, 0, (sI (sI σ 13 0 52 0) 13 0 51 0))) hp.1 ?_)
    have hp := hp.2
    refine mW1_eq (q_M_years_30 _ _ _ _ _ _) ?_
    refine mTr_if (fun h1 => ?_) (fun h1 => ?_)
    · skip
      exact mTr_e (by decide) (congrArg (fun z => [mI z]) (Eq.symm (if_neg h0))) (Eq.symm (if_neg h0)) (by decide) (by decide)
    · skip
      have hp := hp h1
      exact hp.elim



theorem tk_M_years : ∀ pc i nx tg, T_M_years pc = some (i, nx, tg) → mOkB prog_14_method_45_code pc i nx tg = true := code_ok (N := 131) (fun k h => by unfold T_M_years; rw [h]; rfl) (by decide +kernel)
theorem ok_M_years (l : Launch) : mPOK l "ClothWithManModel" prog_14_method_45_code P_M_years := by
  refine ⟨tk_M_years, ?_, ?_, ?_, (fun pc i nx tg kd _ h => by cases h), ?_, ?_, fun pc en h => by cases h⟩
  · intro x ci f ty fin h
    exact mLook_all (Q := fun x v => mFOK "ClothWithManModel" x v.1 v.2.1 v.2.2.1 v.2.2.2 ∧ (v.2.2.2 = true → pIni P_M_years = true → (Cond.fieldLink "ClothWithManModel" x (((mCl[v.1]?).getD ("", fun _ => ("", "", "", false), 0)).2.1 v.2.1).1 (((mCl[v.1]?).getD ("", fun _ => ("", "", "", false), 0)).2.1 v.2.1).2.1 (((mCl[v.1]?).getD ("", fun _ => ("", "", "", false), 0)).2.1 v.2.1).2.2.1 ∈ lw_tbl ∧ (((mCl[v.1]?).getD ("", fun _ => ("", "", "", false), 0)).2.1 v.2.1).1 = "ClothWithManModel"))) (fcC ⟨fo_M_9, fun h1 h2 => by cases h2⟩ (fcC ⟨fo_M_161, fun h1 h2 => by cases h1⟩ (fcC ⟨fo_M_164, fun h1 h2 => by cases h1⟩ fcN))) x (ci, f, ty, fin) h
  · intro x
    have hh := mLook_all (l := ([] : List (Nat × (Int32 ⊕ Int64)))) (Q := fun x (v : Int32 ⊕ Int64) => (∀ w, v = .inl w → Cond.constant "ClothWithManModel" x w ∈ lw_tbl) ∧ (∀ w, v = .inr w → Cond.constantLong "ClothWithManModel" x w ∈ lw_tbl)) fcN x
    exact ⟨fun w h => (hh _ h).1 w rfl, fun w h => (hh _ h).2 w rfl⟩
  · exact fun x en h => mLook_all (Q := fun x en => mLink "ClothWithManModel" x en ∧ mCtr l en ∧ (en.1.1 = 2 → en.2.2.2.2.2.2 = none)) (fcC ⟨li_M_167, c_Ma_absJ l, (fun h => by cases h)⟩ (fcC ⟨li_M_177, c_M_tell l, (fun h => by cases h)⟩ (fcC ⟨li_M_181, c_M_in l, (fun h => by cases h)⟩ fcN))) x en h
  · exact fun x kd h => mLook_all (Q := fun x kd => (kd = 95 ∧ Cond.fieldLink "ClothWithManModel" x "ClothWithMan" "LIKENESSES" "[I" ∈ lw_tbl) ∨ (kd = 96 ∧ Cond.fieldLink "ClothWithManModel" x "ClothWithMan" "APART_BOUNDS" "[I" ∈ lw_tbl)) fcN x kd h
  · exact fun x ci h => mLook_all (Q := fun x ci => ci ≠ 0 ∧ ∃ (C : String) (T : u_T) (N : Nat), mCl[ci]? = some (C, T, N) ∧ Cond.classLink "ClothWithManModel" x C ∈ lw_tbl ∧ Cond.instantiable C N ∈ lw_tbl) fcN x ci h
set_option maxRecDepth 100000 in
theorem c_M_years (l : Launch) : mCtr l E_M_years := mCtr_of (P := P_M_years) (own := "ClothWithManModel") mLay_ok rfl (by decide +kernel) rfl (ok_M_years l) (fun h => by cases h) (fun as σ pr rv σ' hF hpr hlv => by
  unfold E_M_years S_M_years at hF
  simp only [] at hF
  split at hF
  · cases hF
    obtain ⟨n, pcF, c1, s1, g1, g2, g3, g4⟩ := mF_inv (d_M_years _ _ σ (hpr _ rfl))
    exact ⟨Nat.le_of_ble_eq_true rfl, (fun v h => by cases h; trivial), n, pcF, c1, s1, g1, ⟨mEnd_of (i := .ireturn) (P := P_M_years) (rets := [16, 130]) rfl g2, rfl⟩, g3, g4⟩
  · cases hF
    exact (hpr _ rfl).elim)
/-! ClothWithManModel.within(II)I -/
noncomputable def t_M_within_182 (x5 : Int32) (c : Int32) (σ : MSto) (s : Int32 × Int32 × Int32) : Int32 × Int32 × Int32 := (if 200 ≤ c then s else (if (gI σ 82 0 (Int32.toNatClampNeg c)) = 0 then ((s.1), (s.2.1), (s.2.2)) else (if (s.1) = (-1) then (if (s.2.1) = (c - 1) then (if (s.2.1) = (-1) then (c, c, ((s.2.2) + 1)) else (c, c, ((s.2.2) + 0))) else (c, c, ((s.2.2) + 1))) else (if (s.2.1) = (c - 1) then (if (s.2.1) = (-1) then ((s.1), c, ((s.2.2) + 1)) else ((s.1), c, ((s.2.2) + 0))) else ((s.1), c, ((s.2.2) + 1))))))
noncomputable def q_M_within_182s (x5 : Int32) (c : Int32) (σ : MSto) (s : Int32 × Int32 × Int32) : Nat := (if 200 ≤ c then 1 else 0)
def g_M_within_182 (x5 : Int32) (c : Int32) (σ : MSto) (s : Int32 × Int32 × Int32) : Prop := (¬ (200 ≤ c) → (vp_in c 200))
noncomputable def f_M_within_182 (x5 : Int32) (c0 : Int32) (σ : MSto) (s0 : Int32 × Int32 × Int32) (n : Nat) : Int32 × Int32 × Int32 := nfold (fun i s => t_M_within_182 x5 (c0 + nI i) σ s) s0 n
noncomputable def n_M_within_182 (x5 : Int32) (c0 : Int32) (σ : MSto) (s0 : Int32 × Int32 × Int32) : Nat := 200
noncomputable def t_M_within_94 (x2 : Int32) (x3 : Int64) (x5 : Int32) (c : Int32) (σ : MSto) (s : Int32) : Int32 := (if 200 ≤ c then s else (if (gI σ 82 0 (Int32.toNatClampNeg c)) = 0 then (if s = (-1) then c else (if (lg_cmp (gJ σ 81 0 (Int32.toNatClampNeg c)) (gJ σ 81 0 (Int32.toNatClampNeg s))) ≤ 0 then s else c)) else s))
noncomputable def q_M_within_94s (x2 : Int32) (x3 : Int64) (x5 : Int32) (c : Int32) (σ : MSto) (s : Int32) : Nat := (if 200 ≤ c then 1 else 0)
def g_M_within_94 (x2 : Int32) (x3 : Int64) (x5 : Int32) (c : Int32) (σ : MSto) (s : Int32) : Prop := (¬ (200 ≤ c) → ((vp_in c 200) ∧ (((gI σ 82 0 (Int32.toNatClampNeg c)) = 0) → (¬ (s = (-1)) → ((vp_in c 200) ∧ (vp_in s 200))))))
noncomputable def f_M_within_94 (x2 : Int32) (x3 : Int64) (x5 : Int32) (c0 : Int32) (σ : MSto) (s0 : Int32) (n : Nat) : Int32 := nfold (fun i s => t_M_within_94 x2 x3 x5 (c0 + nI i) σ s) s0 n
noncomputable def n_M_within_94 (x2 : Int32) (x3 : Int64) (x5 : Int32) (c0 : Int32) (σ : MSto) (s0 : Int32) : Nat := 200
noncomputable def t_M_within_72 (x2 : Int32) (s : Int64 × Int32 × MSto) : Int64 × Int32 × MSto := (if 0 ≤ (lg_cmp (100 * (s.1)) ((Int32.toInt64 x2) * (gJ (s.2.2) 13 0 60))) then s else (((s.1) + (gJ (sI (s.2.2) 82 0 (Int32.toNatClampNeg (f_M_within_94 x2 (s.1) (s.2.1) 0 (s.2.2) (-1) (n_M_within_94 x2 (s.1) (s.2.1) 0 (s.2.2) (-1)))) (vp_nar .boolean 1)) 81 0 (Int32.toNatClampNeg (f_M_within_94 x2 (s.1) (s.2.1) 0 (s.2.2) (-1) (n_M_within_94 x2 (s.1) (s.2.1) 0 (s.2.2) (-1)))))), ((s.2.1) + 1), (sI (s.2.2) 82 0 (Int32.toNatClampNeg (f_M_within_94 x2 (s.1) (s.2.1) 0 (s.2.2) (-1) (n_M_within_94 x2 (s.1) (s.2.1) 0 (s.2.2) (-1)))) (vp_nar .boolean 1))))
noncomputable def q_M_within_72s (x2 : Int32) (s : Int64 × Int32 × MSto) : Nat := (if 0 ≤ (lg_cmp (100 * (s.1)) ((Int32.toInt64 x2) * (gJ (s.2.2) 13 0 60))) then 1 else 0)
def g_M_within_72 (x2 : Int32) (s : Int64 × Int32 × MSto) : Prop := (¬ (0 ≤ (lg_cmp (100 * (s.1)) ((Int32.toInt64 x2) * (gJ (s.2.2) 13 0 60)))) → ((∀ i, i < (n_M_within_94 x2 (s.1) (s.2.1) 0 (s.2.2) (-1)) → g_M_within_94 x2 (s.1) (s.2.1) (0 + nI i) (s.2.2) (f_M_within_94 x2 (s.1) (s.2.1) 0 (s.2.2) (-1) i) ∧ ¬ q_M_within_94s x2 (s.1) (s.2.1) (0 + nI i) (s.2.2) (f_M_within_94 x2 (s.1) (s.2.1) 0 (s.2.2) (-1) i) = 1) ∧ (((200 ≤ (0 + nI (n_M_within_94 x2 (s.1) (s.2.1) 0 (s.2.2) (-1)))) → ((vp_in (f_M_within_94 x2 (s.1) (s.2.1) 0 (s.2.2) (-1) (n_M_within_94 x2 (s.1) (s.2.1) 0 (s.2.2) (-1))) 200) ∧ (vp_in (f_M_within_94 x2 (s.1) (s.2.1) 0 (s.2.2) (-1) (n_M_within_94 x2 (s.1) (s.2.1) 0 (s.2.2) (-1))) 200))) ∧ (¬ (200 ≤ (0 + nI (n_M_within_94 x2 (s.1) (s.2.1) 0 (s.2.2) (-1)))) → False))))
noncomputable def f_M_within_72 (x2 : Int32) (s0 : Int64 × Int32 × MSto) (n : Nat) : Int64 × Int32 × MSto := nfold (fun i s => t_M_within_72 x2 s) s0 n
noncomputable def n_M_within_72 (x2 : Int32) (s0 : Int64 × Int32 × MSto) : Nat := leastN (fun i => q_M_within_72s x2 (f_M_within_72 x2 s0 i) = 1) 201
noncomputable def t_M_within_47 (x2 : Int32) (c : Int32) (s : MSto) : MSto := (if 200 ≤ c then s else (sI s 82 0 (Int32.toNatClampNeg c) (vp_nar .boolean 0)))
noncomputable def q_M_within_47s (x2 : Int32) (c : Int32) (s : MSto) : Nat := (if 200 ≤ c then 1 else 0)
def g_M_within_47 (x2 : Int32) (c : Int32) (s : MSto) : Prop := (¬ (200 ≤ c) → (vp_in c 200))
noncomputable def f_M_within_47 (x2 : Int32) (c0 : Int32) (s0 : MSto) (n : Nat) : MSto := nfold (fun i s => t_M_within_47 x2 (c0 + nI i) s) s0 n
noncomputable def n_M_within_47 (x2 : Int32) (c0 : Int32) (s0 : MSto) : Nat := 200
noncomputable def v_M_within (a1 : Int32) (a2 : Int32) (σ : MSto) : Int32 := (if (v_M_areCounted a1 1 6 (sI σ 13 0 52 0)) = 0 then (-1) else (if (v_M_in a2 1 100 (sI σ 13 0 52 0)) = 0 then (-1) else (if (lg_cmp (gJ (e_M_weighYears a1 (sI σ 13 0 52 0)) 13 0 60) 0) = 0 then (-2) else ((f_M_within_72 a2 (0, 0, (f_M_within_47 a2 0 (e_M_weighYears a1 (sI σ 13 0 52 0)) (n_M_within_47 a2 0 (e_M_weighYears a1 (sI σ 13 0 52 0))))) (n_M_within_72 a2 (0, 0, (f_M_within_47 a2 0 (e_M_weighYears a1 (sI σ 13 0 52 0)) (n_M_within_47 a2 0 (e_M_weighYears a1 (sI σ 13 0 52 0))))))).2.1))))
def p_M_within (a1 : Int32) (a2 : Int32) (σ : MSto) : Prop := (¬ ((v_M_areCounted a1 1 6 (sI σ 13 0 52 0)) = 0) → (¬ ((v_M_in a2 1 100 (sI σ 13 0 52 0)) = 0) → ((p_M_weighYears a1 (sI σ 13 0 52 0)) ∧ (¬ ((lg_cmp (gJ (e_M_weighYears a1 (sI σ 13 0 52 0)) 13 0 60) 0) = 0) → ((∀ i, i < (n_M_within_47 a2 0 (e_M_weighYears a1 (sI σ 13 0 52 0))) → g_M_within_47 a2 (0 + nI i) (f_M_within_47 a2 0 (e_M_weighYears a1 (sI σ 13 0 52 0)) i) ∧ ¬ q_M_within_47s a2 (0 + nI i) (f_M_within_47 a2 0 (e_M_weighYears a1 (sI σ 13 0 52 0)) i) = 1) ∧ (((200 ≤ (0 + nI (n_M_within_47 a2 0 (e_M_weighYears a1 (sI σ 13 0 52 0))))) → ((∀ i, i < (n_M_within_72 a2 (0, 0, (f_M_within_47 a2 0 (e_M_weighYears a1 (sI σ 13 0 52 0)) (n_M_within_47 a2 0 (e_M_weighYears a1 (sI σ 13 0 52 0)))))) → g_M_within_72 a2 (f_M_within_72 a2 (0, 0, (f_M_within_47 a2 0 (e_M_weighYears a1 (sI σ 13 0 52 0)) (n_M_within_47 a2 0 (e_M_weighYears a1 (sI σ 13 0 52 0))))) i) ∧ ¬ q_M_within_72s a2 (f_M_within_72 a2 (0, 0, (f_M_within_47 a2 0 (e_M_weighYears a1 (sI σ 13 0 52 0)) (n_M_within_47 a2 0 (e_M_weighYears a1 (sI σ 13 0 52 0))))) i) = 1) ∧ (((0 ≤ (lg_cmp (100 * ((f_M_within_72 a2 (0, 0, (f_M_within_47 a2 0 (e_M_weighYears a1 (sI σ 13 0 52 0)) (n_M_within_47 a2 0 (e_M_weighYears a1 (sI σ 13 0 52 0))))) (n_M_within_72 a2 (0, 0, (f_M_within_47 a2 0 (e_M_weighYears a1 (sI σ 13 0 52 0)) (n_M_within_47 a2 0 (e_M_weighYears a1 (sI σ 13 0 52 0))))))).1)) ((Int32.toInt64 a2) * (gJ ((f_M_within_72 a2 (0, 0, (f_M_within_47 a2 0 (e_M_weighYears a1 (sI σ 13 0 52 0)) (n_M_within_47 a2 0 (e_M_weighYears a1 (sI σ 13 0 52 0))))) (n_M_within_72 a2 (0, 0, (f_M_within_47 a2 0 (e_M_weighYears a1 (sI σ 13 0 52 0)) (n_M_within_47 a2 0 (e_M_weighYears a1 (sI σ 13 0 52 0))))))).2.2) 13 0 60)))) → ((∀ i, i < (n_M_within_182 ((f_M_within_72 a2 (0, 0, (f_M_within_47 a2 0 (e_M_weighYears a1 (sI σ 13 0 52 0)) (n_M_within_47 a2 0 (e_M_weighYears a1 (sI σ 13 0 52 0))))) (n_M_within_72 a2 (0, 0, (f_M_within_47 a2 0 (e_M_weighYears a1 (sI σ 13 0 52 0)) (n_M_within_47 a2 0 (e_M_weighYears a1 (sI σ 13 0 52 0))))))).2.1) 0 ((f_M_within_72 a2 (0, 0, (f_M_within_47 a2 0 (e_M_weighYears a1 (sI σ 13 0 52 0)) (n_M_within_47 a2 0 (e_M_weighYears a1 (sI σ 13 0 52 0))))) (n_M_within_72 a2 (0, 0, (f_M_within_47 a2 0 (e_M_weighYears a1 (sI σ 13 0 52 0)) (n_M_within_47 a2 0 (e_M_weighYears a1 (sI σ 13 0 52 0))))))).2.2) ((-1), (-1), 0)) → g_M_within_182 ((f_M_within_72 a2 (0, 0, (f_M_within_47 a2 0 (e_M_weighYears a1 (sI σ 13 0 52 0)) (n_M_within_47 a2 0 (e_M_weighYears a1 (sI σ 13 0 52 0))))) (n_M_within_72 a2 (0, 0, (f_M_within_47 a2 0 (e_M_weighYears a1 (sI σ 13 0 52 0)) (n_M_within_47 a2 0 (e_M_weighYears a1 (sI σ 13 0 52 0))))))).2.1) (0 + nI i) ((f_M_within_72 a2 (0, 0, (f_M_within_47 a2 0 (e_M_weighYears a1 (sI σ 13 0 52 0)) (n_M_within_47 a2 0 (e_M_weighYears a1 (sI σ 13 0 52 0))))) (n_M_within_72 a2 (0, 0, (f_M_within_47 a2 0 (e_M_weighYears a1 (sI σ 13 0 52 0)) (n_M_within_47 a2 0 (e_M_weighYears a1 (sI σ 13 0 52 0))))))).2.2) (f_M_within_182 ((f_M_within_72 a2 (0, 0, (f_M_within_47 a2 0 (e_M_weighYears a1 (sI σ 13 0 52 0)) (n_M_within_47 a2 0 (e_M_weighYears a1 (sI σ 13 0 52 0))))) (n_M_within_72 a2 (0, 0, (f_M_within_47 a2 0 (e_M_weighYears a1 (sI σ 13 0 52 0)) (n_M_within_47 a2 0 (e_M_weighYears a1 (sI σ 13 0 52 0))))))).2.1) 0 ((f_M_within_72 a2 (0, 0, (f_M_within_47 a2 0 (e_M_weighYears a1 (sI σ 13 0 52 0)) (n_M_within_47 a2 0 (e_M_weighYears a1 (sI σ 13 0 52 0))))) (n_M_within_72 a2 (0, 0, (f_M_within_47 a2 0 (e_M_weighYears a1 (sI σ 13 0 52 0)) (n_M_within_47 a2 0 (e_M_weighYears a1 (sI σ 13 0 52 0))))))).2.2) ((-1), (-1), 0) i) ∧ ¬ q_M_within_182s ((f_M_within_72 a2 (0, 0, (f_M_within_47 a2 0 (e_M_weighYears a1 (sI σ 13 0 52 0)) (n_M_within_47 a2 0 (e_M_weighYears a1 (sI σ 13 0 52 0))))) (n_M_within_72 a2 (0, 0, (f_M_within_47 a2 0 (e_M_weighYears a1 (sI σ 13 0 52 0)) (n_M_within_47 a2 0 (e_M_weighYears a1 (sI σ 13 0 52 0))))))).2.1) (0 + nI i) ((f_M_within_72 a2 (0, 0, (f_M_within_47 a2 0 (e_M_weighYears a1 (sI σ 13 0 52 0)) (n_M_within_47 a2 0 (e_M_weighYears a1 (sI σ 13 0 52 0))))) (n_M_within_72 a2 (0, 0, (f_M_within_47 a2 0 (e_M_weighYears a1 (sI σ 13 0 52 0)) (n_M_within_47 a2 0 (e_M_weighYears a1 (sI σ 13 0 52 0))))))).2.2) (f_M_within_182 ((f_M_within_72 a2 (0, 0, (f_M_within_47 a2 0 (e_M_weighYears a1 (sI σ 13 0 52 0)) (n_M_within_47 a2 0 (e_M_weighYears a1 (sI σ 13 0 52 0))))) (n_M_within_72 a2 (0, 0, (f_M_within_47 a2 0 (e_M_weighYears a1 (sI σ 13 0 52 0)) (n_M_within_47 a2 0 (e_M_weighYears a1 (sI σ 13 0 52 0))))))).2.1) 0 ((f_M_within_72 a2 (0, 0, (f_M_within_47 a2 0 (e_M_weighYears a1 (sI σ 13 0 52 0)) (n_M_within_47 a2 0 (e_M_weighYears a1 (sI σ 13 0 52 0))))) (n_M_within_72 a2 (0, 0, (f_M_within_47 a2 0 (e_M_weighYears a1 (sI σ 13 0 52 0)) (n_M_within_47 a2 0 (e_M_weighYears a1 (sI σ 13 0 52 0))))))).2.2) ((-1), (-1), 0) i) = 1) ∧ (((200 ≤ (0 + nI (n_M_within_182 ((f_M_within_72 a2 (0, 0, (f_M_within_47 a2 0 (e_M_weighYears a1 (sI σ 13 0 52 0)) (n_M_within_47 a2 0 (e_M_weighYears a1 (sI σ 13 0 52 0))))) (n_M_within_72 a2 (0, 0, (f_M_within_47 a2 0 (e_M_weighYears a1 (sI σ 13 0 52 0)) (n_M_within_47 a2 0 (e_M_weighYears a1 (sI σ 13 0 52 0))))))).2.1) 0 ((f_M_within_72 a2 (0, 0, (f_M_within_47 a2 0 (e_M_weighYears a1 (sI σ 13 0 52 0)) (n_M_within_47 a2 0 (e_M_weighYears a1 (sI σ 13 0 52 0))))) (n_M_within_72 a2 (0, 0, (f_M_within_47 a2 0 (e_M_weighYears a1 (sI σ 13 0 52 0)) (n_M_within_47 a2 0 (e_M_weighYears a1 (sI σ 13 0 52 0))))))).2.2) ((-1), (-1), 0)))) → ((p_M_tell (Int32.toInt64 ((f_M_within_182 ((f_M_within_72 a2 (0, 0, (f_M_within_47 a2 0 (e_M_weighYears a1 (sI σ 13 0 52 0)) (n_M_within_47 a2 0 (e_M_weighYears a1 (sI σ 13 0 52 0))))) (n_M_within_72 a2 (0, 0, (f_M_within_47 a2 0 (e_M_weighYears a1 (sI σ 13 0 52 0)) (n_M_within_47 a2 0 (e_M_weighYears a1 (sI σ 13 0 52 0))))))).2.1) 0 ((f_M_within_72 a2 (0, 0, (f_M_within_47 a2 0 (e_M_weighYears a1 (sI σ 13 0 52 0)) (n_M_within_47 a2 0 (e_M_weighYears a1 (sI σ 13 0 52 0))))) (n_M_within_72 a2 (0, 0, (f_M_within_47 a2 0 (e_M_weighYears a1 (sI σ 13 0 52 0)) (n_M_within_47 a2 0 (e_M_weighYears a1 (sI σ 13 0 52 0))))))).2.2) ((-1), (-1), 0) (n_M_within_182 ((f_M_within_72 a2 (0, 0, (f_M_within_47 a2 0 (e_M_weighYears a1 (sI σ 13 0 52 0)) (n_M_within_47 a2 0 (e_M_weighYears a1 (sI σ 13 0 52 0))))) (n_M_within_72 a2 (0, 0, (f_M_within_47 a2 0 (e_M_weighYears a1 (sI σ 13 0 52 0)) (n_M_within_47 a2 0 (e_M_weighYears a1 (sI σ 13 0 52 0))))))).2.1) 0 ((f_M_within_72 a2 (0, 0, (f_M_within_47 a2 0 (e_M_weighYears a1 (sI σ 13 0 52 0)) (n_M_within_47 a2 0 (e_M_weighYears a1 (sI σ 13 0 52 0))))) (n_M_within_72 a2 (0, 0, (f_M_within_47 a2 0 (e_M_weighYears a1 (sI σ 13 0 52 0)) (n_M_within_47 a2 0 (e_M_weighYears a1 (sI σ 13 0 52 0))))))).2.2) ((-1), (-1), 0))).1)) (sI ((f_M_within_72 a2 (0, 0, (f_M_within_47 a2 0 (e_M_weighYears a1 (sI σ 13 0 52 0)) (n_M_within_47 a2 0 (e_M_weighYears a1 (sI σ 13 0 52 0))))) (n_M_within_72 a2 (0, 0, (f_M_within_47 a2 0 (e_M_weighYears a1 (sI σ 13 0 52 0)) (n_M_within_47 a2 0 (e_M_weighYears a1 (sI σ 13 0 52 0))))))).2.2) 13 0 51 0)) ∧ ((p_M_tell (Int32.toInt64 ((f_M_within_182 ((f_M_within_72 a2 (0, 0, (f_M_within_47 a2 0 (e_M_weighYears a1 (sI σ 13 0 52 0)) (n_M_within_47 a2 0 (e_M_weighYears a1 (sI σ 13 0 52 0))))) (n_M_within_72 a2 (0, 0, (f_M_within_47 a2 0 (e_M_weighYears a1 (sI σ 13 0 52 0)) (n_M_within_47 a2 0 (e_M_weighYears a1 (sI σ 13 0 52 0))))))).2.1) 0 ((f_M_within_72 a2 (0, 0, (f_M_within_47 a2 0 (e_M_weighYears a1 (sI σ 13 0 52 0)) (n_M_within_47 a2 0 (e_M_weighYears a1 (sI σ 13 0 52 0))))) (n_M_within_72 a2 (0, 0, (f_M_within_47 a2 0 (e_M_weighYears a1 (sI σ 13 0 52 0)) (n_M_within_47 a2 0 (e_M_weighYears a1 (sI σ 13 0 52 0))))))).2.2) ((-1), (-1), 0) (n_M_within_182 ((f_M_within_72 a2 (0, 0, (f_M_within_47 a2 0 (e_M_weighYears a1 (sI σ 13 0 52 0)) (n_M_within_47 a2 0 (e_M_weighYears a1 (sI σ 13 0 52 0))))) (n_M_within_72 a2 (0, 0, (f_M_within_47 a2 0 (e_M_weighYears a1 (sI σ 13 0 52 0)) (n_M_within_47 a2 0 (e_M_weighYears a1 (sI σ 13 0 52 0))))))).2.1) 0 ((f_M_within_72 a2 (0, 0, (f_M_within_47 a2 0 (e_M_weighYears a1 (sI σ 13 0 52 0)) (n_M_within_47 a2 0 (e_M_weighYears a1 (sI σ 13 0 52 0))))) (n_M_within_72 a2 (0, 0, (f_M_within_47 a2 0 (e_M_weighYears a1 (sI σ 13 0 52 0)) (n_M_within_47 a2 0 (e_M_weighYears a1 (sI σ 13 0 52 0))))))).2.2) ((-1), (-1), 0))).2.1)) (e_M_tell (Int32.toInt64 ((f_M_within_182 ((f_M_within_72 a2 (0, 0, (f_M_within_47 a2 0 (e_M_weighYears a1 (sI σ 13 0 52 0)) (n_M_within_47 a2 0 (e_M_weighYears a1 (sI σ 13 0 52 0))))) (n_M_within_72 a2 (0, 0, (f_M_within_47 a2 0 (e_M_weighYears a1 (sI σ 13 0 52 0)) (n_M_within_47 a2 0 (e_M_weighYears a1 (sI σ 13 0 52 0))))))).2.1) 0 ((f_M_within_72 a2 (0, 0, (f_M_within_47 a2 0 (e_M_weighYears a1 (sI σ 13 0 52 0)) (n_M_within_47 a2 0 (e_M_weighYears a1 (sI σ 13 0 52 0))))) (n_M_within_72 a2 (0, 0, (f_M_within_47 a2 0 (e_M_weighYears a1 (sI σ 13 0 52 0)) (n_M_within_47 a2 0 (e_M_weighYears a1 (sI σ 13 0 52 0))))))).2.2) ((-1), (-1), 0) (n_M_within_182 ((f_M_within_72 a2 (0, 0, (f_M_within_47 a2 0 (e_M_weighYears a1 (sI σ 13 0 52 0)) (n_M_within_47 a2 0 (e_M_weighYears a1 (sI σ 13 0 52 0))))) (n_M_within_72 a2 (0, 0, (f_M_within_47 a2 0 (e_M_weighYears a1 (sI σ 13 0 52 0)) (n_M_within_47 a2 0 (e_M_weighYears a1 (sI σ 13 0 52 0))))))).2.1) 0 ((f_M_within_72 a2 (0, 0, (f_M_within_47 a2 0 (e_M_weighYears a1 (sI σ 13 0 52 0)) (n_M_within_47 a2 0 (e_M_weighYears a1 (sI σ 13 0 52 0))))) (n_M_within_72 a2 (0, 0, (f_M_within_47 a2 0 (e_M_weighYears a1 (sI σ 13 0 52 0)) (n_M_within_47 a2 0 (e_M_weighYears a1 (sI σ 13 0 52 0))))))).2.2) ((-1), (-1), 0))).1)) (sI ((f_M_within_72 a2 (0, 0, (f_M_within_47 a2 0 (e_M_weighYears a1 (sI σ 13 0 52 0)) (n_M_within_47 a2 0 (e_M_weighYears a1 (sI σ 13 0 52 0))))) (n_M_within_72 a2 (0, 0, (f_M_within_47 a2 0 (e_M_weighYears a1 (sI σ 13 0 52 0)) (n_M_within_47 a2 0 (e_M_weighYears a1 (sI σ 13 0 52 0))))))).2.2) 13 0 51 0))) ∧ (p_M_tell (Int32.toInt64 ((f_M_within_182 ((f_M_within_72 a2 (0, 0, (f_M_within_47 a2 0 (e_M_weighYears a1 (sI σ 13 0 52 0)) (n_M_within_47 a2 0 (e_M_weighYears a1 (sI σ 13 0 52 0))))) (n_M_within_72 a2 (0, 0, (f_M_within_47 a2 0 (e_M_weighYears a1 (sI σ 13 0 52 0)) (n_M_within_47 a2 0 (e_M_weighYears a1 (sI σ 13 0 52 0))))))).2.1) 0 ((f_M_within_72 a2 (0, 0, (f_M_within_47 a2 0 (e_M_weighYears a1 (sI σ 13 0 52 0)) (n_M_within_47 a2 0 (e_M_weighYears a1 (sI σ 13 0 52 0))))) (n_M_within_72 a2 (0, 0, (f_M_within_47 a2 0 (e_M_weighYears a1 (sI σ 13 0 52 0)) (n_M_within_47 a2 0 (e_M_weighYears a1 (sI σ 13 0 52 0))))))).2.2) ((-1), (-1), 0) (n_M_within_182 ((f_M_within_72 a2 (0, 0, (f_M_within_47 a2 0 (e_M_weighYears a1 (sI σ 13 0 52 0)) (n_M_within_47 a2 0 (e_M_weighYears a1 (sI σ 13 0 52 0))))) (n_M_within_72 a2 (0, 0, (f_M_within_47 a2 0 (e_M_weighYears a1 (sI σ 13 0 52 0)) (n_M_within_47 a2 0 (e_M_weighYears a1 (sI σ 13 0 52 0))))))).2.1) 0 ((f_M_within_72 a2 (0, 0, (f_M_within_47 a2 0 (e_M_weighYears a1 (sI σ 13 0 52 0)) (n_M_within_47 a2 0 (e_M_weighYears a1 (sI σ 13 0 52 0))))) (n_M_within_72 a2 (0, 0, (f_M_within_47 a2 0 (e_M_weighYears a1 (sI σ 13 0 52 0)) (n_M_within_47 a2 0 (e_M_weighYears a1 (sI σ 13 0 52 0))))))).2.2) ((-1), (-1), 0))).2.2)) (e_M_tell (Int32.toInt64 ((f_M_within_182 ((f_M_within_72 a2 (0, 0, (f_M_within_47 a2 0 (e_M_weighYears a1 (sI σ 13 0 52 0)) (n_M_within_47 a2 0 (e_M_weighYears a1 (sI σ 13 0 52 0))))) (n_M_within_72 a2 (0, 0, (f_M_within_47 a2 0 (e_M_weighYears a1 (sI σ 13 0 52 0)) (n_M_within_47 a2 0 (e_M_weighYears a1 (sI σ 13 0 52 0))))))).2.1) 0 ((f_M_within_72 a2 (0, 0, (f_M_within_47 a2 0 (e_M_weighYears a1 (sI σ 13 0 52 0)) (n_M_within_47 a2 0 (e_M_weighYears a1 (sI σ 13 0 52 0))))) (n_M_within_72 a2 (0, 0, (f_M_within_47 a2 0 (e_M_weighYears a1 (sI σ 13 0 52 0)) (n_M_within_47 a2 0 (e_M_weighYears a1 (sI σ 13 0 52 0))))))).2.2) ((-1), (-1), 0) (n_M_within_182 ((f_M_within_72 a2 (0, 0, (f_M_within_47 a2 0 (e_M_weighYears a1 (sI σ 13 0 52 0)) (n_M_within_47 a2 0 (e_M_weighYears a1 (sI σ 13 0 52 0))))) (n_M_within_72 a2 (0, 0, (f_M_within_47 a2 0 (e_M_weighYears a1 (sI σ 13 0 52 0)) (n_M_within_47 a2 0 (e_M_weighYears a1 (sI σ 13 0 52 0))))))).2.1) 0 ((f_M_within_72 a2 (0, 0, (f_M_within_47 a2 0 (e_M_weighYears a1 (sI σ 13 0 52 0)) (n_M_within_47 a2 0 (e_M_weighYears a1 (sI σ 13 0 52 0))))) (n_M_within_72 a2 (0, 0, (f_M_within_47 a2 0 (e_M_weighYears a1 (sI σ 13 0 52 0)) (n_M_within_47 a2 0 (e_M_weighYears a1 (sI σ 13 0 52 0))))))).2.2) ((-1), (-1), 0))).2.1)) (e_M_tell (Int32.toInt64 ((f_M_within_182 ((f_M_within_72 a2 (0, 0, (f_M_within_47 a2 0 (e_M_weighYears a1 (sI σ 13 0 52 0)) (n_M_within_47 a2 0 (e_M_weighYears a1 (sI σ 13 0 52 0))))) (n_M_within_72 a2 (0, 0, (f_M_within_47 a2 0 (e_M_weighYears a1 (sI σ 13 0 52 0)) (n_M_within_47 a2 0 (e_M_weighYears a1 (sI σ 13 0 52 0))))))).2.1) 0 ((f_M_within_72 a2 (0, 0, (f_M_within_47 a2 0 (e_M_weighYears a1 (sI σ 13 0 52 0)) (n_M_within_47 a2 0 (e_M_weighYears a1 (sI σ 13 0 52 0))))) (n_M_within_72 a2 (0, 0, (f_M_within_47 a2 0 (e_M_weighYears a1 (sI σ 13 0 52 0)) (n_M_within_47 a2 0 (e_M_weighYears a1 (sI σ 13 0 52 0))))))).2.2) ((-1), (-1), 0) (n_M_within_182 ((f_M_within_72 a2 (0, 0, (f_M_within_47 a2 0 (e_M_weighYears a1 (sI σ 13 0 52 0)) (n_M_within_47 a2 0 (e_M_weighYears a1 (sI σ 13 0 52 0))))) (n_M_within_72 a2 (0, 0, (f_M_within_47 a2 0 (e_M_weighYears a1 (sI σ 13 0 52 0)) (n_M_within_47 a2 0 (e_M_weighYears a1 (sI σ 13 0 52 0))))))).2.1) 0 ((f_M_within_72 a2 (0, 0, (f_M_within_47 a2 0 (e_M_weighYears a1 (sI σ 13 0 52 0)) (n_M_within_47 a2 0 (e_M_weighYears a1 (sI σ 13 0 52 0))))) (n_M_within_72 a2 (0, 0, (f_M_within_47 a2 0 (e_M_weighYears a1 (sI σ 13 0 52 0)) (n_M_within_47 a2 0 (e_M_weighYears a1 (sI σ 13 0 52 0))))))).2.2) ((-1), (-1), 0))).1)) (sI ((f_M_within_72 a2 (0, 0, (f_M_within_47 a2 0 (e_M_weighYears a1 (sI σ 13 0 52 0)) (n_M_within_47 a2 0 (e_M_weighYears a1 (sI σ 13 0 52 0))))) (n_M_within_72 a2 (0, 0, (f_M_within_47 a2 0 (e_M_weighYears a1 (sI σ 13 0 52 0)) (n_M_within_47 a2 0 (e_M_weighYears a1 (sI σ 13 0 52 0))))))).2.2) 13 0 51 0))))))) ∧ (¬ (200 ≤ (0 + nI (n_M_within_182 ((f_M_within_72 a2 (0, 0, (f_M_within_47 a2 0 (e_M_weighYears a1 (sI σ 13 0 52 0)) (n_M_within_47 a2 0 (e_M_weighYears a1 (sI σ 13 0 52 0))))) (n_M_within_72 a2 (0, 0, (f_M_within_47 a2 0 (e_M_weighYears a1 (sI σ 13 0 52 0)) (n_M_within_47 a2 0 (e_M_weighYears a1 (sI σ 13 0 52 0))))))).2.1) 0 ((f_M_within_72 a2 (0, 0, (f_M_within_47 a2 0 (e_M_weighYears a1 (sI σ 13 0 52 0)) (n_M_within_47 a2 0 (e_M_weighYears a1 (sI σ 13 0 52 0))))) (n_M_within_72 a2 (0, 0, (f_M_within_47 a2 0 (e_M_weighYears a1 (sI σ 13 0 52 0)) (n_M_within_47 a2 0 (e_M_weighYears a1 (sI σ 13 0 52 0))))))).2.2) ((-1), (-1), 0)))) → False)))) ∧ (¬ (0 ≤ (lg_cmp (100 * ((f_M_within_72 a2 (0, 0, (f_M_within_47 a2 0 (e_M_weighYears a1 (sI σ 13 0 52 0)) (n_M_within_47 a2 0 (e_M_weighYears a1 (sI σ 13 0 52 0))))) (n_M_within_72 a2 (0, 0, (f_M_within_47 a2 0 (e_M_weighYears a1 (sI σ 13 0 52 0)) (n_M_within_47 a2 0 (e_M_weighYears a1 (sI σ 13 0 52 0))))))).1)) ((Int32.toInt64 a2) * (gJ ((f_M_within_72 a2 (0, 0, (f_M_within_47 a2 0 (e_M_weighYears a1 (sI σ 13 0 52 0)) (n_M_within_47 a2 0 (e_M_weighYears a1 (sI σ 13 0 52 0))))) (n_M_within_72 a2 (0, 0, (f_M_within_47 a2 0 (e_M_weighYears a1 (sI σ 13 0 52 0)) (n_M_within_47 a2 0 (e_M_weighYears a1 (sI σ 13 0 52 0))))))).2.2) 13 0 60)))) → False)))) ∧ (¬ (200 ≤ (0 + nI (n_M_within_47 a2 0 (e_M_weighYears a1 (sI σ 13 0 52 0))))) → False)))))))
noncomputable def e_M_within (a1 : Int32) (a2 : Int32) (σ : MSto) : MSto := (if (v_M_areCounted a1 1 6 (sI σ 13 0 52 0)) = 0 then (sI σ 13 0 52 0) else (if (v_M_in a2 1 100 (sI σ 13 0 52 0)) = 0 then (sI σ 13 0 52 0) else (if (lg_cmp (gJ (e_M_weighYears a1 (sI σ 13 0 52 0)) 13 0 60) 0) = 0 then (e_M_weighYears a1 (sI σ 13 0 52 0)) else (e_M_tell (Int32.toInt64 ((f_M_within_182 ((f_M_within_72 a2 (0, 0, (f_M_within_47 a2 0 (e_M_weighYears a1 (sI σ 13 0 52 0)) (n_M_within_47 a2 0 (e_M_weighYears a1 (sI σ 13 0 52 0))))) (n_M_within_72 a2 (0, 0, (f_M_within_47 a2 0 (e_M_weighYears a1 (sI σ 13 0 52 0)) (n_M_within_47 a2 0 (e_M_weighYears a1 (sI σ 13 0 52 0))))))).2.1) 0 ((f_M_within_72 a2 (0, 0, (f_M_within_47 a2 0 (e_M_weighYears a1 (sI σ 13 0 52 0)) (n_M_within_47 a2 0 (e_M_weighYears a1 (sI σ 13 0 52 0))))) (n_M_within_72 a2 (0, 0, (f_M_within_47 a2 0 (e_M_weighYears a1 (sI σ 13 0 52 0)) (n_M_within_47 a2 0 (e_M_weighYears a1 (sI σ 13 0 52 0))))))).2.2) ((-1), (-1), 0) (n_M_within_182 ((f_M_within_72 a2 (0, 0, (f_M_within_47 a2 0 (e_M_weighYears a1 (sI σ 13 0 52 0)) (n_M_within_47 a2 0 (e_M_weighYears a1 (sI σ 13 0 52 0))))) (n_M_within_72 a2 (0, 0, (f_M_within_47 a2 0 (e_M_weighYears a1 (sI σ 13 0 52 0)) (n_M_within_47 a2 0 (e_M_weighYears a1 (sI σ 13 0 52 0))))))).2.1) 0 ((f_M_within_72 a2 (0, 0, (f_M_within_47 a2 0 (e_M_weighYears a1 (sI σ 13 0 52 0)) (n_M_within_47 a2 0 (e_M_weighYears a1 (sI σ 13 0 52 0))))) (n_M_within_72 a2 (0, 0, (f_M_within_47 a2 0 (e_M_weighYears a1 (sI σ 13 0 52 0)) (n_M_within_47 a2 0 (e_M_weighYears a1 (sI σ 13 0 52 0))))))).2.2) ((-1), (-1), 0))).2.2)) (e_M_tell (Int32.toInt64 ((f_M_within_182 ((f_M_within_72 a2 (0, 0, (f_M_within_47 a2 0 (e_M_weighYears a1 (sI σ 13 0 52 0)) (n_M_within_47 a2 0 (e_M_weighYears a1 (sI σ 13 0 52 0))))) (n_M_within_72 a2 (0, 0, (f_M_within_47 a2 0 (e_M_weighYears a1 (sI σ 13 0 52 0)) (n_M_within_47 a2 0 (e_M_weighYears a1 (sI σ 13 0 52 0))))))).2.1) 0 ((f_M_within_72 a2 (0, 0, (f_M_within_47 a2 0 (e_M_weighYears a1 (sI σ 13 0 52 0)) (n_M_within_47 a2 0 (e_M_weighYears a1 (sI σ 13 0 52 0))))) (n_M_within_72 a2 (0, 0, (f_M_within_47 a2 0 (e_M_weighYears a1 (sI σ 13 0 52 0)) (n_M_within_47 a2 0 (e_M_weighYears a1 (sI σ 13 0 52 0))))))).2.2) ((-1), (-1), 0) (n_M_within_182 ((f_M_within_72 a2 (0, 0, (f_M_within_47 a2 0 (e_M_weighYears a1 (sI σ 13 0 52 0)) (n_M_within_47 a2 0 (e_M_weighYears a1 (sI σ 13 0 52 0))))) (n_M_within_72 a2 (0, 0, (f_M_within_47 a2 0 (e_M_weighYears a1 (sI σ 13 0 52 0)) (n_M_within_47 a2 0 (e_M_weighYears a1 (sI σ 13 0 52 0))))))).2.1) 0 ((f_M_within_72 a2 (0, 0, (f_M_within_47 a2 0 (e_M_weighYears a1 (sI σ 13 0 52 0)) (n_M_within_47 a2 0 (e_M_weighYears a1 (sI σ 13 0 52 0))))) (n_M_within_72 a2 (0, 0, (f_M_within_47 a2 0 (e_M_weighYears a1 (sI σ 13 0 52 0)) (n_M_within_47 a2 0 (e_M_weighYears a1 (sI σ 13 0 52 0))))))).2.2) ((-1), (-1), 0))).2.1)) (e_M_tell (Int32.toInt64 ((f_M_within_182 ((f_M_within_72 a2 (0, 0, (f_M_within_47 a2 0 (e_M_weighYears a1 (sI σ 13 0 52 0)) (n_M_within_47 a2 0 (e_M_weighYears a1 (sI σ 13 0 52 0))))) (n_M_within_72 a2 (0, 0, (f_M_within_47 a2 0 (e_M_weighYears a1 (sI σ 13 0 52 0)) (n_M_within_47 a2 0 (e_M_weighYears a1 (sI σ 13 0 52 0))))))).2.1) 0 ((f_M_within_72 a2 (0, 0, (f_M_within_47 a2 0 (e_M_weighYears a1 (sI σ 13 0 52 0)) (n_M_within_47 a2 0 (e_M_weighYears a1 (sI σ 13 0 52 0))))) (n_M_within_72 a2 (0, 0, (f_M_within_47 a2 0 (e_M_weighYears a1 (sI σ 13 0 52 0)) (n_M_within_47 a2 0 (e_M_weighYears a1 (sI σ 13 0 52 0))))))).2.2) ((-1), (-1), 0) (n_M_within_182 ((f_M_within_72 a2 (0, 0, (f_M_within_47 a2 0 (e_M_weighYears a1 (sI σ 13 0 52 0)) (n_M_within_47 a2 0 (e_M_weighYears a1 (sI σ 13 0 52 0))))) (n_M_within_72 a2 (0, 0, (f_M_within_47 a2 0 (e_M_weighYears a1 (sI σ 13 0 52 0)) (n_M_within_47 a2 0 (e_M_weighYears a1 (sI σ 13 0 52 0))))))).2.1) 0 ((f_M_within_72 a2 (0, 0, (f_M_within_47 a2 0 (e_M_weighYears a1 (sI σ 13 0 52 0)) (n_M_within_47 a2 0 (e_M_weighYears a1 (sI σ 13 0 52 0))))) (n_M_within_72 a2 (0, 0, (f_M_within_47 a2 0 (e_M_weighYears a1 (sI σ 13 0 52 0)) (n_M_within_47 a2 0 (e_M_weighYears a1 (sI σ 13 0 52 0))))))).2.2) ((-1), (-1), 0))).1)) (sI ((f_M_within_72 a2 (0, 0, (f_M_within_47 a2 0 (e_M_weighYears a1 (sI σ 13 0 52 0)) (n_M_within_47 a2 0 (e_M_weighYears a1 (sI σ 13 0 52 0))))) (n_M_within_72 a2 (0, 0, (f_M_within_47 a2 0 (e_M_weighYears a1 (sI σ 13 0 52 0)) (n_M_within_47 a2 0 (e_M_weighYears a1 (sI σ 13 0 52 0))))))).2.2) 13 0 51 0)))))))
noncomputable def S_M_within : List MV → MSto → Option Prop × Option MV × MSto := fun as σ => match as with
  | [.inr (.inr (some (13, 0))), .inl a0, .inl a1] => (some (p_M_within a0 a1 σ), some (mI (v_M_within a0 a1 σ)), e_M_within a0 a1 σ)
  | _ => (some False, none, σ)
noncomputable def E_M_within : MEnt := ((1, 2, 13), (4, 94, 0, 0), S_M_within, ((⟨"ClothWithManModel", "within", "(II)I"⟩ : MethodName), prog_14_method_52_code, 10, (some .int)))

def T_M_within : Nat → Option (Instr × Nat × List Nat) := fun k => bif Nat.blt k 282 then (bif Nat.blt k 136 then (bif Nat.blt k 67 then (bif Nat.blt k 33 then (bif Nat.blt k 16 then (bif Nat.blt k 6 then (bif Nat.blt k 2 then (bif Nat.blt k 1 then (bif Nat.beq k 0 then some (.aload_n 0, 1, []) else none) else (bif Nat.beq k 1 then some (.iconst 0, 2, []) else none)) else (bif Nat.blt k 5 then (bif Nat.beq k 2 then some (.putfield 161, 5, []) else none) else (bif Nat.beq k 5 then some (.aload_n 0, 6, []) else none))) else (bif Nat.blt k 8 then (bif Nat.blt k 7 then (bif Nat.beq k 6 then some (.iload_n 1, 7, []) else none) else (bif Nat.beq k 7 then some (.iconst 1, 8, []) else none)) else (bif Nat.blt k 10 then (bif Nat.beq k 8 then some (.bipush 6, 10, []) else none) else (bif Nat.blt k 13 then (bif Nat.beq k 10 then some (.invokevirtual 315, 13, []) else none) else (bif Nat.beq k 13 then some (.ifCond .eq 13, 16, [26]) else none))))) else (bif Nat.blt k 26 then (bif Nat.blt k 18 then (bif Nat.blt k 17 then (bif Nat.beq k 16 then some (.iload_n 2, 17, []) else none) else (bif Nat.beq k 17 then some (.iconst 1, 18, []) else none)) else (bif Nat.blt k 20 then (bif Nat.beq k 18 then some (.bipush 100, 20, []) else none) else (bif Nat.blt k 23 then (bif Nat.beq k 20 then some (.invokestatic 181, 23, []) else none) else (bif Nat.beq k 23 then some (.ifCond .ne 5, 26, [28]) else none)))) else (bif Nat.blt k 28 then (bif Nat.blt k 27 then (bif Nat.beq k 26 then some (.iconst (-1), 27, []) else none) else (bif Nat.beq k 27 then some (.ireturn, 28, []) else none)) else (bif Nat.blt k 29 then (bif Nat.beq k 28 then some (.aload_n 0, 29, []) else none) else (bif Nat.blt k 30 then (bif Nat.beq k 29 then some (.iload_n 1, 30, []) else none) else (bif Nat.beq k 30 then some (.invokevirtual 318, 33, []) else none)))))) else (bif Nat.blt k 47 then (bif Nat.blt k 39 then (bif Nat.blt k 37 then (bif Nat.blt k 34 then (bif Nat.beq k 33 then some (.aload_n 0, 34, []) else none) else (bif Nat.beq k 34 then some (.getfield 307, 37, []) else none)) else (bif Nat.blt k 38 then (bif Nat.beq k 37 then some (.lconst 0, 38, []) else none) else (bif Nat.beq k 38 then some (.lcmp, 39, []) else none))) else (bif Nat.blt k 44 then (bif Nat.blt k 42 then (bif Nat.beq k 39 then some (.ifCond .ne 6, 42, [45]) else none) else (bif Nat.beq k 42 then some (.bipush (-2), 44, []) else none)) else (bif Nat.blt k 45 then (bif Nat.beq k 44 then some (.ireturn, 45, []) else none) else (bif Nat.blt k 46 then (bif Nat.beq k 45 then some (.iconst 0, 46, []) else none) else (bif Nat.beq k 46 then some (.istore_n 3, 47, []) else none))))) else (bif Nat.blt k 58 then (bif Nat.blt k 51 then (bif Nat.blt k 48 then (bif Nat.beq k 47 then some (.iload_n 3, 48, []) else none) else (bif Nat.beq k 48 then some (.sipush 200, 51, []) else none)) else (bif Nat.blt k 54 then (bif Nat.beq k 51 then some (.if_icmp .ge 16, 54, [67]) else none) else (bif Nat.blt k 55 then (bif Nat.beq k 54 then some (.aload_n 0, 55, []) else none) else (bif Nat.beq k 55 then some (.getfield 146, 58, []) else none)))) else (bif Nat.blt k 60 then (bif Nat.blt k 59 then (bif Nat.beq k 58 then some (.iload_n 3, 59, []) else none) else (bif Nat.beq k 59 then some (.iconst 0, 60, []) else none)) else (bif Nat.blt k 61 then (bif Nat.beq k 60 then some (.bastore, 61, []) else none) else (bif Nat.blt k 64 then (bif Nat.beq k 61 then some (.iinc 3 1, 64, []) else none) else (bif Nat.beq k 64 then some (.goto (-17), 67, [47]) else none))))))) else (bif Nat.blt k 96 then (bif Nat.blt k 79 then (bif Nat.blt k 72 then (bif Nat.blt k 69 then (bif Nat.blt k 68 then (bif Nat.beq k 67 then some (.lconst 0, 68, []) else none) else (bif Nat.beq k 68 then some (.lstore_n 3, 69, []) else none)) else (bif Nat.blt k 70 then (bif Nat.beq k 69 then some (.iconst 0, 70, []) else none) else (bif Nat.beq k 70 then some (.istore 5, 72, []) else none))) else (bif Nat.blt k 76 then (bif Nat.blt k 75 then (bif Nat.beq k 72 then some (.ldc2_w 325, 75, []) else none) else (bif Nat.beq k 75 then some (.lload_n 3, 76, []) else none)) else (bif Nat.blt k 77 then (bif Nat.beq k 76 then some (.lmul, 77, []) else none) else (bif Nat.blt k 78 then (bif Nat.beq k 77 then some (.iload_n 2, 78, []) else none) else (bif Nat.beq k 78 then some (.i2l, 79, []) else none))))) else (bif Nat.blt k 88 then (bif Nat.blt k 83 then (bif Nat.blt k 80 then (bif Nat.beq k 79 then some (.aload_n 0, 80, []) else none) else (bif Nat.beq k 80 then some (.getfield 307, 83, []) else none)) else (bif Nat.blt k 84 then (bif Nat.beq k 83 then some (.lmul, 84, []) else none) else (bif Nat.blt k 85 then (bif Nat.beq k 84 then some (.lcmp, 85, []) else none) else (bif Nat.beq k 85 then some (.ifCond .ge 85, 88, [170]) else none)))) else (bif Nat.blt k 91 then (bif Nat.blt k 89 then (bif Nat.beq k 88 then some (.iconst (-1), 89, []) else none) else (bif Nat.beq k 89 then some (.istore 6, 91, []) else none)) else (bif Nat.blt k 92 then (bif Nat.beq k 91 then some (.iconst 0, 92, []) else none) else (bif Nat.blt k 94 then (bif Nat.beq k 92 then some (.istore 7, 94, []) else none) else (bif Nat.beq k 94 then some (.iload 7, 96, []) else none)))))) else (bif Nat.blt k 118 then (bif Nat.blt k 108 then (bif Nat.blt k 102 then (bif Nat.blt k 99 then (bif Nat.beq k 96 then some (.sipush 200, 99, []) else none) else (bif Nat.beq k 99 then some (.if_icmp .ge 47, 102, [146]) else none)) else (bif Nat.blt k 103 then (bif Nat.beq k 102 then some (.aload_n 0, 103, []) else none) else (bif Nat.blt k 106 then (bif Nat.beq k 103 then some (.getfield 146, 106, []) else none) else (bif Nat.beq k 106 then some (.iload 7, 108, []) else none)))) else (bif Nat.blt k 112 then (bif Nat.blt k 109 then (bif Nat.beq k 108 then some (.baload, 109, []) else none) else (bif Nat.beq k 109 then some (.ifCond .ne 31, 112, [140]) else none)) else (bif Nat.blt k 114 then (bif Nat.beq k 112 then some (.iload 6, 114, []) else none) else (bif Nat.blt k 115 then (bif Nat.beq k 114 then some (.iconst (-1), 115, []) else none) else (bif Nat.beq k 115 then some (.if_icmp .eq 21, 118, [136]) else none))))) else (bif Nat.blt k 126 then (bif Nat.blt k 122 then (bif Nat.blt k 119 then (bif Nat.beq k 118 then some (.aload_n 0, 119, []) else none) else (bif Nat.beq k 119 then some (.getfield 143, 122, []) else none)) else (bif Nat.blt k 124 then (bif Nat.beq k 122 then some (.iload 7, 124, []) else none) else (bif Nat.blt k 125 then (bif Nat.beq k 124 then some (.laload, 125, []) else none) else (bif Nat.beq k 125 then some (.aload_n 0, 126, []) else none)))) else (bif Nat.blt k 131 then (bif Nat.blt k 129 then (bif Nat.beq k 126 then some (.getfield 143, 129, []) else none) else (bif Nat.beq k 129 then some (.iload 6, 131, []) else none)) else (bif Nat.blt k 132 then (bif Nat.beq k 131 then some (.laload, 132, []) else none) else (bif Nat.blt k 133 then (bif Nat.beq k 132 then some (.lcmp, 133, []) else none) else (bif Nat.beq k 133 then some (.ifCond .le 7, 136, [140]) else none)))))))) else (bif Nat.blt k 209 then (bif Nat.blt k 171 then (bif Nat.blt k 154 then (bif Nat.blt k 146 then (bif Nat.blt k 140 then (bif Nat.blt k 138 then (bif Nat.beq k 136 then some (.iload 7, 138, []) else none) else (bif Nat.beq k 138 then some (.istore 6, 140, []) else none)) else (bif Nat.blt k 143 then (bif Nat.beq k 140 then some (.iinc 7 1, 143, []) else none) else (bif Nat.beq k 143 then some (.goto (-49), 146, [94]) else none))) else (bif Nat.blt k 150 then (bif Nat.blt k 147 then (bif Nat.beq k 146 then some (.aload_n 0, 147, []) else none) else (bif Nat.beq k 147 then some (.getfield 146, 150, []) else none)) else (bif Nat.blt k 152 then (bif Nat.beq k 150 then some (.iload 6, 152, []) else none) else (bif Nat.blt k 153 then (bif Nat.beq k 152 then some (.iconst 1, 153, []) else none) else (bif Nat.beq k 153 then some (.bastore, 154, []) else none))))) else (bif Nat.blt k 162 then (bif Nat.blt k 156 then (bif Nat.blt k 155 then (bif Nat.beq k 154 then some (.lload_n 3, 155, []) else none) else (bif Nat.beq k 155 then some (.aload_n 0, 156, []) else none)) else (bif Nat.blt k 159 then (bif Nat.beq k 156 then some (.getfield 143, 159, []) else none) else (bif Nat.blt k 161 then (bif Nat.beq k 159 then some (.iload 6, 161, []) else none) else (bif Nat.beq k 161 then some (.laload, 162, []) else none)))) else (bif Nat.blt k 164 then (bif Nat.blt k 163 then (bif Nat.beq k 162 then some (.ladd, 163, []) else none) else (bif Nat.beq k 163 then some (.lstore_n 3, 164, []) else none)) else (bif Nat.blt k 167 then (bif Nat.beq k 164 then some (.iinc 5 1, 167, []) else none) else (bif Nat.blt k 170 then (bif Nat.beq k 167 then some (.goto (-95), 170, [72]) else none) else (bif Nat.beq k 170 then some (.iconst (-1), 171, []) else none)))))) else (bif Nat.blt k 187 then (bif Nat.blt k 177 then (bif Nat.blt k 174 then (bif Nat.blt k 173 then (bif Nat.beq k 171 then some (.istore 6, 173, []) else none) else (bif Nat.beq k 173 then some (.iconst (-1), 174, []) else none)) else (bif Nat.blt k 176 then (bif Nat.beq k 174 then some (.istore 7, 176, []) else none) else (bif Nat.beq k 176 then some (.iconst 0, 177, []) else none))) else (bif Nat.blt k 180 then (bif Nat.blt k 179 then (bif Nat.beq k 177 then some (.istore 8, 179, []) else none) else (bif Nat.beq k 179 then some (.iconst 0, 180, []) else none)) else (bif Nat.blt k 182 then (bif Nat.beq k 180 then some (.istore 9, 182, []) else none) else (bif Nat.blt k 184 then (bif Nat.beq k 182 then some (.iload 9, 184, []) else none) else (bif Nat.beq k 184 then some (.sipush 200, 187, []) else none))))) else (bif Nat.blt k 197 then (bif Nat.blt k 191 then (bif Nat.blt k 190 then (bif Nat.beq k 187 then some (.if_icmp .ge 66, 190, [253]) else none) else (bif Nat.beq k 190 then some (.aload_n 0, 191, []) else none)) else (bif Nat.blt k 194 then (bif Nat.beq k 191 then some (.getfield 146, 194, []) else none) else (bif Nat.blt k 196 then (bif Nat.beq k 194 then some (.iload 9, 196, []) else none) else (bif Nat.beq k 196 then some (.baload, 197, []) else none)))) else (bif Nat.blt k 203 then (bif Nat.blt k 200 then (bif Nat.beq k 197 then some (.ifCond .ne 6, 200, [203]) else none) else (bif Nat.beq k 200 then some (.goto 47, 203, [247]) else none)) else (bif Nat.blt k 205 then (bif Nat.beq k 203 then some (.iload 6, 205, []) else none) else (bif Nat.blt k 206 then (bif Nat.beq k 205 then some (.iconst (-1), 206, []) else none) else (bif Nat.beq k 206 then some (.if_icmp .ne 8, 209, [214]) else none))))))) else (bif Nat.blt k 245 then (bif Nat.blt k 226 then (bif Nat.blt k 218 then (bif Nat.blt k 214 then (bif Nat.blt k 211 then (bif Nat.beq k 209 then some (.iload 9, 211, []) else none) else (bif Nat.beq k 211 then some (.goto 5, 214, [216]) else none)) else (bif Nat.blt k 216 then (bif Nat.beq k 214 then some (.iload 6, 216, []) else none) else (bif Nat.beq k 216 then some (.istore 6, 218, []) else none))) else (bif Nat.blt k 222 then (bif Nat.blt k 220 then (bif Nat.beq k 218 then some (.iload 8, 220, []) else none) else (bif Nat.beq k 220 then some (.iload 7, 222, []) else none)) else (bif Nat.blt k 224 then (bif Nat.beq k 222 then some (.iload 9, 224, []) else none) else (bif Nat.blt k 225 then (bif Nat.beq k 224 then some (.iconst 1, 225, []) else none) else (bif Nat.beq k 225 then some (.isub, 226, []) else none))))) else (bif Nat.blt k 236 then (bif Nat.blt k 231 then (bif Nat.blt k 229 then (bif Nat.beq k 226 then some (.if_icmp .ne 9, 229, [235]) else none) else (bif Nat.beq k 229 then some (.iload 7, 231, []) else none)) else (bif Nat.blt k 232 then (bif Nat.beq k 231 then some (.iconst (-1), 232, []) else none) else (bif Nat.blt k 235 then (bif Nat.beq k 232 then some (.if_icmp .ne 7, 235, [239]) else none) else (bif Nat.beq k 235 then some (.iconst 1, 236, []) else none)))) else (bif Nat.blt k 240 then (bif Nat.blt k 239 then (bif Nat.beq k 236 then some (.goto 4, 239, [240]) else none) else (bif Nat.beq k 239 then some (.iconst 0, 240, []) else none)) else (bif Nat.blt k 241 then (bif Nat.beq k 240 then some (.iadd, 241, []) else none) else (bif Nat.blt k 243 then (bif Nat.beq k 241 then some (.istore 8, 243, []) else none) else (bif Nat.beq k 243 then some (.iload 9, 245, []) else none)))))) else (bif Nat.blt k 265 then (bif Nat.blt k 255 then (bif Nat.blt k 250 then (bif Nat.blt k 247 then (bif Nat.beq k 245 then some (.istore 7, 247, []) else none) else (bif Nat.beq k 247 then some (.iinc 9 1, 250, []) else none)) else (bif Nat.blt k 253 then (bif Nat.beq k 250 then some (.goto (-68), 253, [182]) else none) else (bif Nat.blt k 254 then (bif Nat.beq k 253 then some (.aload_n 0, 254, []) else none) else (bif Nat.beq k 254 then some (.iconst 0, 255, []) else none)))) else (bif Nat.blt k 259 then (bif Nat.blt k 258 then (bif Nat.beq k 255 then some (.putfield 164, 258, []) else none) else (bif Nat.beq k 258 then some (.aload_n 0, 259, []) else none)) else (bif Nat.blt k 261 then (bif Nat.beq k 259 then some (.iload 6, 261, []) else none) else (bif Nat.blt k 262 then (bif Nat.beq k 261 then some (.i2l, 262, []) else none) else (bif Nat.beq k 262 then some (.invokevirtual 177, 265, []) else none))))) else (bif Nat.blt k 273 then (bif Nat.blt k 268 then (bif Nat.blt k 266 then (bif Nat.beq k 265 then some (.aload_n 0, 266, []) else none) else (bif Nat.beq k 266 then some (.iload 7, 268, []) else none)) else (bif Nat.blt k 269 then (bif Nat.beq k 268 then some (.i2l, 269, []) else none) else (bif Nat.blt k 272 then (bif Nat.beq k 269 then some (.invokevirtual 177, 272, []) else none) else (bif Nat.beq k 272 then some (.aload_n 0, 273, []) else none)))) else (bif Nat.blt k 276 then (bif Nat.blt k 275 then (bif Nat.beq k 273 then some (.iload 8, 275, []) else none) else (bif Nat.beq k 275 then some (.i2l, 276, []) else none)) else (bif Nat.blt k 279 then (bif Nat.beq k 276 then some (.invokevirtual 177, 279, []) else none) else (bif Nat.blt k 281 then (bif Nat.beq k 279 then some (.iload 5, 281, []) else none) else (bif Nat.beq k 281 then some (.ireturn, 282, []) else none))))))))) else none
noncomputable def P_M_within : MP := (T_M_within, (fun k => mLook k [(143, (13, 59, (.array .long), true)), (146, (13, 61, (.array .boolean), true)), (161, (13, 52, .int, false)), (164, (13, 51, .int, false)), (307, (13, 60, .long, false))]), (fun k => mLook k [(325, .inr 100)]), (fun k => mLook k [(177, E_M_tell), (181, E_M_in), (315, E_M_areCounted), (318, E_M_weighYears)]), (fun k => mLook k []), (fun k => mLook k []), (fun k => mLook k []), (fun k => mLook k [(47, [true, false, true, true, false, false, false, false, false, false]), (72, [true, false, true, true, false, true, false, false, false, false]), (94, [true, false, true, true, false, true, true, true, false, false]), (182, [true, false, false, false, false, true, true, true, true, true])]), (fun k => [27, 44, 281].any (Nat.beq k)), (4, 94, 0, 0), false, (fun _ => none))
set_option maxRecDepth 100000 in
set_option maxHeartbeats 4000000 in
theorem q_M_within_e (a1 : Int32) (a2 : Int32) (σ : MSto) (n : Nat) : mexe KT P_M_within (n + 1) (0, [some (mR 13 0), some (mI a1), some (mI a2), none, none, none, none, none, none, none], [], σ, 0, 0) = mIf ((v_M_areCounted a1 1 6 (sI σ 13 0 52 0)) = 0) (some (27, [], [(mI (-1))], (sI σ 13 0 52 0), 0, 0)) (mIf ((v_M_in a2 1 100 (sI σ 13 0 52 0)) = 0) (some (27, [], [(mI (-1))], (sI σ 13 0 52 0), 0, 0)) (mG (p_M_weighYears a1 (sI σ 13 0 52 0)) (mIf ((lg_cmp (gJ (e_M_weighYears a1 (sI σ 13 0 52 0)) 13 0 60) 0) = 0) (some (44, [], [(mI (-2))], (e_M_weighYears a1 (sI σ 13 0 52 0)), 0, 0)) (mexe KT P_M_within n (47, [some (mR 13 0), none, some (mI a2), some (mI 0), none, none, none, none, none, none], [], (e_M_weighYears a1 (sI σ 13 0 52 0)), 0, 0))))) := rfl
set_option maxRecDepth 100000 in
set_option maxHeartbeats 4000000 in
theorem q_M_within_47 (x2 : Int32) (x3 : Int32) (σ : MSto) (n : Nat) : mexe KT P_M_within (n + 1) (47, [some (mR 13 0), none, some (mI x2), some (mI x3), none, none, none, none, none, none], [], σ, 0, 0) = mIf (200 ≤ x3) (mexe KT P_M_within n (72, [some (mR 13 0), none, some (mI x2), some (mJ 0), none, some (mI 0), none, none, none, none], [], σ, 0, 0)) (mG (vp_in x3 200) (mexe KT P_M_within n (47, [some (mR 13 0), none, some (mI x2), some (mI (x3 + 1)), none, none, none, none, none, none], [], (sI σ 82 0 (Int32.toNatClampNeg x3) (vp_nar .boolean 0)), 0, 0))) := rfl
set_option maxRecDepth 100000 in
set_option maxHeartbeats 4000000 in
theorem q_M_within_72 (x2 : Int32) (x3 : Int64) (x5 : Int32) (σ : MSto) (n : Nat) : mexe KT P_M_within (n + 1) (72, [some (mR 13 0), none, some (mI x2), some (mJ x3), none, some (mI x5), none, none, none, none], [], σ, 0, 0) = mIf (0 ≤ (lg_cmp (100 * x3) ((Int32.toInt64 x2) * (gJ σ 13 0 60)))) (mexe KT P_M_within n (182, [some (mR 13 0), none, none, none, none, some (mI x5), some (mI (-1)), some (mI (-1)), some (mI 0), some (mI 0)], [], σ, 0, 0)) (mexe KT P_M_within n (94, [some (mR 13 0), none, some (mI x2), some (mJ x3), none, some (mI x5), some (mI (-1)), some (mI 0), none, none], [], σ, 0, 0)) := rfl
set_option maxRecDepth 100000 in
set_option maxHeartbeats 4000000 in
theorem q_M_within_94 (x2 : Int32) (x3 : Int64) (x5 : Int32) (x6 : Int32) (x7 : Int32) (σ : MSto) (n : Nat) : mexe KT P_M_within (n + 1) (94, [some (mR 13 0), none, some (mI x2), some (mJ x3), none, some (mI x5), some (mI x6), some (mI x7), none, none], [], σ, 0, 0) = mIf (200 ≤ x7) (mG (vp_in x6 200) (mG (vp_in x6 200) (mexe KT P_M_within n (72, [some (mR 13 0), none, some (mI x2), some (mJ (x3 + (gJ (sI σ 82 0 (Int32.toNatClampNeg x6) (vp_nar .boolean 1)) 81 0 (Int32.toNatClampNeg x6)))), none, some (mI (x5 + 1)), none, none, none, none], [], (sI σ 82 0 (Int32.toNatClampNeg x6) (vp_nar .boolean 1)), 0, 0)))) (mG (vp_in x7 200) (mIf ((gI σ 82 0 (Int32.toNatClampNeg x7)) = 0) (mIf (x6 = (-1)) (mexe KT P_M_within n (94, [some (mR 13 0), none, some (mI x2), some (mJ x3), none, some (mI x5), some (mI x7), some (mI (x7 + 1)), none, none], [], σ, 0, 0)) (mG (vp_in x7 200) (mG (vp_in x6 200) (mIf ((lg_cmp (gJ σ 81 0 (Int32.toNatClampNeg x7)) (gJ σ 81 0 (Int32.toNatClampNeg x6))) ≤ 0) (mexe KT P_M_within n (94, [some (mR 13 0), none, some (mI x2), some (mJ x3), none, some (mI x5), some (mI x6), some (mI (x7 + 1)), none, none], [], σ, 0, 0)) (mexe KT P_M_within n (94, [some (mR 13 0), none, some (mI x2), some (mJ x3), none, some (mI x5), some (mI x7), some (mI (x7 + 1)), none, none], [], σ, 0, 0)))))) (mexe KT P_M_within n (94, [some (mR 13 0), none, some (mI x2), some (mJ x3), none, some (mI x5), some (mI x6), some (mI (x7 + 1)), none, none], [], σ, 0, 0)))) := rfl
set_option maxRecDepth 100000 in
set_option maxHeartbeats 4000000 in
theorem q_M_within_182 (x5 : Int32) (x6 : Int32) (x7 : Int32) (x8 : Int32) (x9 : Int32) (σ : MSto) (n : Nat) : mexe KT P_M_within (n + 1) (182, [some (mR 13 0), none, none, none, none, some (mI x5), some (mI x6), some (mI x7), some (mI x8), some (mI x9)], [], σ, 0, 0) = mIf (200 ≤ x9) (mG (p_M_tell (Int32.toInt64 x6) (sI σ 13 0 51 0)) (mG (p_M_tell (Int32.toInt64 x7) (e_M_tell (Int32.toInt64 x6) (sI σ 13 0 51 0))) (mG (p_M_tell (Int32.toInt64 x8) (e_M_tell (Int32.toInt64 x7) (e_M_tell (Int32.toInt64 x6) (sI σ 13 0 51 0)))) (some (281, [], [(mI x5)], (e_M_tell (Int32.toInt64 x8) (e_M_tell (Int32.toInt64 x7) (e_M_tell (Int32.toInt64 x6) (sI σ 13 0 51 0)))), 0, 0))))) (mG (vp_in x9 200) (mIf ((gI σ 82 0 (Int32.toNatClampNeg x9)) = 0) (mexe KT P_M_within n (182, [some (mR 13 0), none, none, none, none, some (mI x5), some (mI x6), some (mI x7), some (mI x8), some (mI (x9 + 1))], [], σ, 0, 0)) (mIf (x6 = (-1)) (mIf (x7 = (x9 - 1)) (mIf (x7 = (-1)) (mexe KT P_M_within n (182, [some (mR 13 0), none, none, none, none, some (mI x5), some (mI x9), some (mI x9), some (mI (x8 + 1)), some (mI (x9 + 1))], [], σ, 0, 0)) (mexe KT P_M_within n (182, [some (mR 13 0), none, none, none, none, some (mI x5), some (mI x9), some (mI x9), some (mI (x8 + 0)), some (mI (x9 + 1))], [], σ, 0, 0))) (mexe KT P_M_within n (182, [some (mR 13 0), none, none, none, none, some (mI x5), some (mI x9), some (mI x9), some (mI (x8 + 1)), some (mI (x9 + 1))], [], σ, 0, 0))) (mIf (x7 = (x9 - 1)) (mIf (x7 = (-1)) (mexe KT P_M_within n (182, [some (mR 13 0), none, none, none, none, some (mI x5), some (mI x6), some (mI x9), some (mI (x8 + 1)), some (mI (x9 + 1))], [], σ, 0, 0)) (mexe KT P_M_within n (182, [some (mR 13 0), none, none, none, none, some (mI x5), some (mI x6), some (mI x9), some (mI (x8 + 0)), some (mI (x9 + 1))], [], σ, 0, 0))) (mexe KT P_M_within n (182, [some (mR 13 0), none, none, none, none, some (mI x5), some (mI x6), some (mI x9), some (mI (x8 + 1)), some (mI (x9 + 1))], [], σ, 0, 0)))))) := rfl
set_option maxRecDepth 100000 in
theorem lt_M_within_182 {Post : MST → Prop} (x5 : Int32) (c : Int32) (σ : MSto) (s : Int32 × Int32 × Int32) (hp : g_M_within_182 x5 c σ s) (hq : ¬ q_M_within_182s x5 c σ s = 1) (hn : ∀ (r1 : Int32) (r2 : Int32) (r3 : Int32), t_M_within_182 x5 c σ s = (r1, r2, r3) → mW1 P_M_within (182, [some (mR 13 0), none, none, none, none, some (mI x5), some (mI r1), some (mI r2), some (mI r3), some (mI (c + 1))], [], σ, 0, 0) Post) : mW1 P_M_within (182, [some (mR 13 0), none, none, none, none, some (mI x5), some (mI (s.1)), some (mI (s.2.1)), some (mI (s.2.2)), some (mI c)], [], σ, 0, 0) Post := by
  unfold g_M_within_182 at hp
  refine mW1_eq (q_M_within_182 _ _ _ _ _ _) ?_
  refine mTr_if (fun h0 => ?_) (fun h0 => ?_)
  · skip
    exact absurd (if_pos h0) hq
  · skip
    have hp := hp h0
    refine mTr_g hp ?_
    refine mTr_if (fun h1 => ?_) (fun h1 => ?_)
    · skip
      exact mTr_k (hn (s.1) (s.2.1) (s.2.2) ((if_neg h0).trans (if_pos h1)))
    · skip
      refine mTr_if (fun h2 => ?_) (fun h2 => ?_)
      · skip
        refine mTr_if (fun h3 => ?_) (fun h3 => ?_)
        · skip
          refine mTr_if (fun h4 => ?_) (fun h4 => ?_)
          · skip
            exact mTr_k (hn c c ((s.2.2) + 1) ((if_neg h0).trans ((if_neg h1).trans ((if_pos h2).trans ((if_pos h3).trans (if_pos h4))))))
          · skip
            exact mTr_k (hn c c ((s.2.2) + 0) ((if_neg h0).trans ((if_neg h1).trans ((if_pos h2).trans ((if_pos h3).trans (if_neg h4))))))
        · skip
          exact mTr_k (hn c c ((s.2.2) + 1) ((if_neg h0).trans ((if_neg h1).trans ((if_pos h2).trans (if_neg h3)))))
      · skip
        refine mTr_if (fun h3 => ?_) (fun h3 => ?_)
        · skip
          refine mTr_if (fun h4 => ?_) (fun h4 => ?_)
          · skip
            exact mTr_k (hn (s.1) c ((s.2.2) + 1) ((if_neg h0).trans ((if_neg h1).trans ((if_neg h2).trans ((if_pos h3).trans (if_pos h4))))))
          · skip
            exact mTr_k (hn (s.1) c ((s.2.2) + 0) ((if_neg h0).trans ((if_neg h1).trans ((if_neg h2).trans ((if_pos h3).trans (if_neg h4))))))
        · skip
          exact mTr_k (hn (s.1) c ((s.2.2) + 1) ((if_neg h0).trans ((if_neg h1).trans ((if_neg h2).trans (if_neg h3)))))
theorem lp_M_within_182 {Post : MST → Prop} (x5 : Int32) (c0 : Int32) (σ : MSto) (s0 : Int32 × Int32 × Int32) (N : Nat) (hb : ∀ i, i < N → g_M_within_182 x5 (c0 + nI i) σ (f_M_within_182 x5 c0 σ s0 i) ∧ ¬ q_M_within_182s x5 (c0 + nI i) σ (f_M_within_182 x5 c0 σ s0 i) = 1) (h : mW1 P_M_within (182, [some (mR 13 0), none, none, none, none, some (mI x5), some (mI ((f_M_within_182 x5 c0 σ s0 N).1)), some (mI ((f_M_within_182 x5 c0 σ s0 N).2.1)), some (mI ((f_M_within_182 x5 c0 σ s0 N).2.2)), some (mI (c0 + nI N))], [], σ, 0, 0) Post) : mW1 P_M_within (182, [some (mR 13 0), none, none, none, none, some (mI x5), some (mI (s0.1)), some (mI (s0.2.1)), some (mI (s0.2.2)), some (mI c0)], [], σ, 0, 0) Post := by
  refine mW1_st (mW1_loop (fun i => (182, [some (mR 13 0), none, none, none, none, some (mI x5), some (mI ((f_M_within_182 x5 c0 σ s0 i).1)), some (mI ((f_M_within_182 x5 c0 σ s0 i).2.1)), some (mI ((f_M_within_182 x5 c0 σ s0 i).2.2)), some (mI (c0 + nI i))], [], σ, 0, 0)) N (fun i hlt hn => ?_) h) (by rw [show nI 0 = 0 from rfl, Int32.add_zero] <;> rfl)
  refine lt_M_within_182 x5 _ σ _ (hb i hlt).1 (hb i hlt).2 (fun r1 r2 r3 hr => ?_)
  rw [Int32.add_assoc, nI_s]
  have e : f_M_within_182 x5 c0 σ s0 (i + 1) = (r1, r2, r3) := hr
  try dsimp only at hn
  rw [e] at hn
  exact hn
set_option maxRecDepth 100000 in
theorem lt_M_within_94 {Post : MST → Prop} (x2 : Int32) (x3 : Int64) (x5 : Int32) (c : Int32) (σ : MSto) (s : Int32) (hp : g_M_within_94 x2 x3 x5 c σ s) (hq : ¬ q_M_within_94s x2 x3 x5 c σ s = 1) (hn : ∀ r, t_M_within_94 x2 x3 x5 c σ s = r → mW1 P_M_within (94, [some (mR 13 0), none, some (mI x2), some (mJ x3), none, some (mI x5), some (mI r), some (mI (c + 1)), none, none], [], σ, 0, 0) Post) : mW1 P_M_within (94, [some (mR 13 0), none, some (mI x2), some (mJ x3), none, some (mI x5), some (mI s), some (mI c), none, none], [], σ, 0, 0) Post := by
  unfold g_M_within_94 at hp
  refine mW1_eq (q_M_within_94 _ _ _ _ _ _) ?_
  refine mTr_if (fun h0 => ?_) (fun h0 => ?_)
  · skip
    exact absurd (if_pos h0) hq
  · skip
    have hp := hp h0
    refine mTr_g hp.1 ?_
    have hp := hp.2
    refine mTr_if (fun h1 => ?_) (fun h1 => ?_)
    · skip
      have hp := hp h1
      refine mTr_if (fun h2 => ?_) (fun h2 => ?_)
      · skip
        exact mTr_k (hn c ((if_neg h0).trans ((if_pos h1).trans (if_pos h2))))
      · skip
        have hp := hp h2
        refine mTr_g hp.1 ?_
        have hp := hp.2
        refine mTr_g hp ?_
        refine mTr_if (fun h3 => ?_) (fun h3 => ?_)
        · skip
          exact mTr_k (hn s ((if_neg h0).trans ((if_pos h1).trans ((if_neg h2).trans (if_pos h3)))))
        · skip
          exact mTr_k (hn c ((if_neg h0).trans ((if_pos h1).trans ((if_neg h2).trans (if_neg h3)))))
    · skip
      exact mTr_k (hn s ((if_neg h0).trans (if_neg h1)))
theorem lp_M_within_94 {Post : MST → Prop} (x2 : Int32) (x3 : Int64) (x5 : Int32) (c0 : Int32) (σ : MSto) (s0 : Int32) (N : Nat) (hb : ∀ i, i < N → g_M_within_94 x2 x3 x5 (c0 + nI i) σ (f_M_within_94 x2 x3 x5 c0 σ s0 i) ∧ ¬ q_M_within_94s x2 x3 x5 (c0 + nI i) σ (f_M_within_94 x2 x3 x5 c0 σ s0 i) = 1) (h : mW1 P_M_within (94, [some (mR 13 0), none, some (mI x2), some (mJ x3), none, some (mI x5), some (mI (f_M_within_94 x2 x3 x5 c0 σ s0 N)), some (mI (c0 + nI N)), none, none], [], σ, 0, 0) Post) : mW1 P_M_within (94, [some (mR 13 0), none, some (mI x2), some (mJ x3), none, some (mI x5), some (mI s0), some (mI c0), none, none], [], σ, 0, 0) Post := by
  refine mW1_st (mW1_loop (fun i => (94, [some (mR 13 0), none, some (mI x2), some (mJ x3), none, some (mI x5), some (mI (f_M_within_94 x2 x3 x5 c0 σ s0 i)), some (mI (c0 + nI i)), none, none], [], σ, 0, 0)) N (fun i hlt hn => ?_) h) (by rw [show nI 0 = 0 from rfl, Int32.add_zero] <;> rfl)
  refine lt_M_within_94 x2 x3 x5 _ σ _ (hb i hlt).1 (hb i hlt).2 (fun r hr => ?_)
  rw [Int32.add_assoc, nI_s]
  subst hr
  exact hn
set_option maxRecDepth 100000 in
theorem lt_M_within_72 {Post : MST → Prop} (x2 : Int32) (s : Int64 × Int32 × MSto) (hp : g_M_within_72 x2 s) (hq : ¬ q_M_within_72s x2 s = 1) (hn : ∀ (r1 : Int64) (r2 : Int32) (r3 : MSto), t_M_within_72 x2 s = (r1, r2, r3) → mW1 P_M_within (72, [some (mR 13 0), none, some (mI x2), some (mJ r1), none, some (mI r2), none, none, none, none], [], r3, 0, 0) Post) : mW1 P_M_within (72, [some (mR 13 0), none, some (mI x2), some (mJ (s.1)), none, some (mI (s.2.1)), none, none, none, none], [], (s.2.2), 0, 0) Post := by
  unfold g_M_within_72 at hp
  refine mW1_eq (q_M_within_72 _ _ _ _) ?_
  refine mTr_if (fun h0 => ?_) (fun h0 => ?_)
  · skip
    exact absurd (if_pos h0) hq
  · skip
    have hp := hp h0
    refine mTr_k (lp_M_within_94 x2 (s.1) (s.2.1) 0 (s.2.2) (-1) (n_M_within_94 x2 (s.1) (s.2.1) 0 (s.2.2) (-1)) hp.1 ?_)
    have hp := hp.2
    refine mW1_eq (q_M_within_94 _ _ _ _ _ _) ?_
    refine mTr_if (fun h1 => ?_) (fun h1 => ?_)
    · skip
      have hp := hp.1 h1
      refine mTr_g hp.1 ?_
      have hp := hp.2
      refine mTr_g hp ?_
      exact mTr_k (hn ((s.1) + (gJ (sI (s.2.2) 82 0 (Int32.toNatClampNeg (f_M_within_94 x2 (s.1) (s.2.1) 0 (s.2.2) (-1) (n_M_within_94 x2 (s.1) (s.2.1) 0 (s.2.2) (-1)))) (vp_nar .boolean 1)) 81 0 (Int32.toNatClampNeg (f_M_within_94 x2 (s.1) (s.2.1) 0 (s.2.2) (-1) (n_M_within_94 x2 (s.1) (s.2.1) 0 (s.2.2) (-1)))))) ((s.2.1) + 1) (sI (s.2.2) 82 0 (Int32.toNatClampNeg (f_M_within_94 x2 (s.1) (s.2.1) 0 (s.2.2) (-1) (n_M_within_94 x2 (s.1) (s.2.1) 0 (s.2.2) (-1)))) (vp_nar .boolean 1)) (if_neg h0))
    · skip
      have hp := hp.2 h1
      exact hp.elim
theorem lp_M_within_72 {Post : MST → Prop} (x2 : Int32) (s0 : Int64 × Int32 × MSto) (N : Nat) (hb : ∀ i, i < N → g_M_within_72 x2 (f_M_within_72 x2 s0 i) ∧ ¬ q_M_within_72s x2 (f_M_within_72 x2 s0 i) = 1) (h : mW1 P_M_within (72, [some (mR 13 0), none, some (mI x2), some (mJ ((f_M_within_72 x2 s0 N).1)), none, some (mI ((f_M_within_72 x2 s0 N).2.1)), none, none, none, none], [], ((f_M_within_72 x2 s0 N).2.2), 0, 0) Post) : mW1 P_M_within (72, [some (mR 13 0), none, some (mI x2), some (mJ (s0.1)), none, some (mI (s0.2.1)), none, none, none, none], [], (s0.2.2), 0, 0) Post := by
  refine mW1_st (mW1_loop (fun i => (72, [some (mR 13 0), none, some (mI x2), some (mJ ((f_M_within_72 x2 s0 i).1)), none, some (mI ((f_M_within_72 x2 s0 i).2.1)), none, none, none, none], [], ((f_M_within_72 x2 s0 i).2.2), 0, 0)) N (fun i hlt hn => ?_) h) (rfl)
  refine lt_M_within_72 x2 _ (hb i hlt).1 (hb i hlt).2 (fun r1 r2 r3 hr => ?_)
  have e : f_M_within_72 x2 s0 (i + 1) = (r1, r2, r3) := hr
  try dsimp only at hn
  rw [e] at hn
  exact hn
set_option maxRecDepth 100000 in
theorem lt_M_within_47 {Post : MST → Prop} (x2 : Int32) (c : Int32) (s : MSto) (hp : g_M_within_47 x2 c s) (hq : ¬ q_M_within_47s x2 c s = 1) (hn : ∀ r, t_M_within_47 x2 c s = r → mW1 P_M_within (47, [some (mR 13 0), none, some (mI x2), some (mI (c + 1)), none, none, none, none, none, none], [], r, 0, 0) Post) : mW1 P_M_within (47, [some (mR 13 0), none, some (mI x2), some (mI c), none, none, none, none, none, none], [], s, 0, 0) Post := by
  unfold g_M_within_47 at hp
  refine mW1_eq (q_M_within_47 _ _ _) ?_
  refine mTr_if (fun h0 => ?_) (fun h0 => ?_)
  · skip
    exact absurd (if_pos h0) hq
  · skip
    have hp := hp h0
    refine mTr_g hp ?_
    exact mTr_k (hn (sI s 82 0 (Int32.toNatClampNeg c) (vp_nar .boolean 0)) (if_neg h0))
theorem lp_M_within_47 {Post : MST → Prop} (x2 : Int32) (c0 : Int32) (s0 : MSto) (N : Nat) (hb : ∀ i, i < N → g_M_within_47 x2 (c0 + nI i) (f_M_within_47 x2 c0 s0 i) ∧ ¬ q_M_within_47s x2 (c0 + nI i) (f_M_within_47 x2 c0 s0 i) = 1) (h : mW1 P_M_within (47, [some (mR 13 0), none, some (mI x2), some (mI (c0 + nI N)), none, none, none, none, none, none], [], (f_M_within_47 x2 c0 s0 N), 0, 0) Post) : mW1 P_M_within (47, [some (mR 13 0), none, some (mI x2), some (mI c0), none, none, none, none, none, none], [], s0, 0, 0) Post := by
  refine mW1_st (mW1_loop (fun i => (47, [some (mR 13 0), none, some (mI x2), some (mI (c0 + nI i)), none, none, none, none, none, none], [], (f_M_within_47 x2 c0 s0 i), 0, 0)) N (fun i hlt hn => ?_) h) (by rw [show nI 0 = 0 from rfl, Int32.add_zero] <;> rfl)
  refine lt_M_within_47 x2 _ _ (hb i hlt).1 (hb i hlt).2 (fun r hr => ?_)
  rw [Int32.add_assoc, nI_s]
  subst hr
  exact hn
set_option maxRecDepth 100000 in
set_option maxHeartbeats 4000000 in
theorem d_M_within (a1 : Int32) (a2 : Int32) (σ : MSto) (hp : p_M_within a1 a2 σ) : mW1 P_M_within (0, [some (mR 13 0), some (mI a1), some (mI a2), none, none, none, none, none, none, none], [], σ, 0, 0) (mF [27, 44, 281] [mI (v_M_within a1 a2 σ)] (e_M_within a1 a2 σ) 0 0) := by
  refine mW1_eq (q_M_within_e _ _ _) ?_
  unfold p_M_within at hp
  refine mTr_if (fun h0 => ?_) (fun h0 => ?_)
  · skip
    exact mTr_e (by decide) (congrArg (fun z => [mI z]) (Eq.symm (if_pos h0))) (Eq.symm (if_pos h0)) (by decide) (by decide)
  · skip
    have hp := hp h0
    refine mTr_if (fun h1 => ?_) (fun h1 => ?_)
    · skip
      exact mTr_e (by decide) (congrArg (fun z => [mI z]) (Eq.symm ((if_neg h0).trans (if_pos h1)))) (Eq.symm ((if_neg h0).trans (if_pos h1))) (by decide) (by decide)
    · skip
      have hp := hp h1
      refine mTr_g hp.1 ?_
      have hp := hp.2
      refine mTr_if (fun h2 => ?_) (fun h2 => ?_)
      · skip
        exact mTr_e (by decide) (congrArg (fun z => [mI z]) (Eq.symm ((if_neg h0).trans ((if_neg h1).trans (if_pos h2))))) (Eq.symm ((if_neg h0).trans ((if_neg h1).trans (if_pos h2)))) (by decide) (by decide)
      · skip
        have hp := hp h2
        refine mTr_k (lp_M_within_47 a2 0 (e_M_weighYears a1 (sI σ 13 0 52 0)) (n_M_within_47 a2 0 (e_M_weighYears a1 (sI σ 13 0 52 0))) hp.1 ?_)
        have hp := hp.2
        refine mW1_eq (q_M_within_47 _ _ _) ?_
        refine mTr_if (fun h3 => ?_) (fun h3 => ?_)
        · skip
          have hp := hp.1 h3
          refine mTr_k (lp_M_within_72 a2 (0, 0, (f_M_within_47 a2 0 (e_M_weighYears a1 (sI σ 13 0 52 0)) (n_M_within_47 a2 0 (e_M_weighYears a1 (sI σ 13 0 52 0))))) (n_M_within_72 a2 (0, 0, (f_M_within_47 a2 0 (e_M_weighYears a1 (sI σ 13 0 52 0)) (n_M_within_47 a2 0 (e_M_weighYears a1 (sI σ 13 0 52 0)))))) hp.1 ?_)
          have hp := hp.2
          refine mW1_eq (q_M_within_72 _ _ _ _) ?_
          refine mTr_if (fun h4 => ?_) (fun h4 => ?_)
          · skip
            have hp := hp.1 h4
            refine mTr_k (lp_M_within_182 ((f_M_within_72 a2 (0, 0, (f_M_within_47 a2 0 (e_M_weighYears a1 (sI σ 13 0 52 0)) (n_M_within_47 a2 0 (e_M_weighYears a1 (sI σ 13 0 52 0))))) (n_M_within_72 a2 (0, 0, (f_M_within_47 a2 0 (e_M_weighYears a1 (sI σ 13 0 52 0)) (n_M_within_47 a2 0 (e_M_weighYears a1 (sI σ 13 0 52 0))))))).2.1) 0 ((f_M_within_72 a2 (0, 0, (f_M_within_47 a2 0 (e_M_weighYears a1 (sI σ 13 0 52 0)) (n_M_within_47 a2 0 (e_M_weighYears a1 (sI σ 13 0 52 0))))) (n_M_within_72 a2 (0, 0, (f_M_within_47 a2 0 (e_M_weighYears a1 (sI σ 13 0 52 0)) (n_M_within_47 a2 0 (e_M_weighYears a1 (sI σ 13 0 52 0))))))).2.2) ((-1), (-1), 0) (n_M_within_182 ((f_M_within_72 a2 (0, 0, (f_M_within_47 a2 0 (e_M_weighYears a1 (sI σ 13 0 52 0)) (n_M_within_47 a2 0 (e_M_weighYears a1 (sI σ 13 0 52 0))))) (n_M_within_72 a2 (0, 0, (f_M_within_47 a2 0 (e_M_weighYears a1 (sI σ 13 0 52 0)) (n_M_within_47 a2 0 (e_M_weighYears a1 (sI σ 13 0 52 0))))))).2.1) 0 ((f_M_within_72 a2 (0, 0, (f_M_within_47 a2 0 (e_M_weighYears a1 (sI σ 13 0 52 0)) (n_M_within_47 a2 0 (e_M_weighYears a1 (sI σ 13 0 52 0))))) (n_M_within_72 a2 (0, 0, (f_M_within_47 a2 0 (e_M_weighYears a1 (sI σ 13 0 52 0)) (n_M_within_47 a2 0 (e_M_weighYears a1 (sI σ 13 0 52 0))))))).2.2) ((-1), (-1), 0)) hp.1 ?_)
            have hp := hp.2
            refine mW1_eq (q_M_within_182 _ _ _ _ _ _) ?_
            refine mTr_if (fun h5 => ?_) (fun h5 => ?_)
            · skip
              have hp := hp.1 h5
              refine mTr_g hp.1 ?_
              have hp := hp.2
              refine mTr_g hp.1 ?_
              have hp := hp.2
              refine mTr_g hp ?_
              exact mTr_e (by decide) (congrArg (fun z => [mI z]) (Eq.symm ((if_neg h0).trans ((if_neg h1).trans (if_neg h2))))) (Eq.symm ((if_neg h0).trans ((if_neg h1).trans (if_neg h2)))) (by decide) (by decide)
            · skip
              have hp := hp.2 h5
              exact hp.elim
          · skip
            have hp := hp.2 h4
            exact hp.elim
        · skip
          have hp := hp.2 h3
          exact hp.elim




theorem tk_M_within : ∀ pc i nx tg, T_M_within pc = some (i, nx, tg) → mOkB prog_14_method_52_code pc i nx tg = true := code_ok (N := 282) (fun k h => by unfold T_M_within; rw [h]; rfl) (by decide +kernel)
theorem ok_M_within (l : Launch) : mPOK l "ClothWithManModel" prog_14_method_52_code P_M_within := by
  refine ⟨tk_M_within, ?_, ?_, ?_, (fun pc i nx tg kd _ h => by cases h), ?_, ?_, fun pc en h => by cases h⟩
  · intro x ci f ty fin h
    exact mLook_all (Q := fun x v => mFOK "ClothWithManModel" x v.1 v.2.1 v.2.2.1 v.2.2.2 ∧ (v.2.2.2 = true → pIni P_M_within = true → (Cond.fieldLink "ClothWithManModel" x (((mCl[v.1]?).getD ("", fun _ => ("", "", "", false), 0)).2.1 v.2.1).1 (((mCl[v.1]?).getD ("", fun _ => ("", "", "", false), 0)).2.1 v.2.1).2.1 (((mCl[v.1]?).getD ("", fun _ => ("", "", "", false), 0)).2.1 v.2.1).2.2.1 ∈ lw_tbl ∧ (((mCl[v.1]?).getD ("", fun _ => ("", "", "", false), 0)).2.1 v.2.1).1 = "ClothWithManModel"))) (fcC ⟨fo_M_143, fun h1 h2 => by cases h2⟩ (fcC ⟨fo_M_146, fun h1 h2 => by cases h2⟩ (fcC ⟨fo_M_161, fun h1 h2 => by cases h1⟩ (fcC ⟨fo_M_164, fun h1 h2 => by cases h1⟩ (fcC ⟨fo_M_307, fun h1 h2 => by cases h1⟩ fcN))))) x (ci, f, ty, fin) h
  · intro x
    have hh := mLook_all (l := ([(325, .inr 100)] : List (Nat × (Int32 ⊕ Int64)))) (Q := fun x (v : Int32 ⊕ Int64) => (∀ w, v = .inl w → Cond.constant "ClothWithManModel" x w ∈ lw_tbl) ∧ (∀ w, v = .inr w → Cond.constantLong "ClothWithManModel" x w ∈ lw_tbl)) (fcC ⟨(fun v h => by cases h), fun v h => by cases h; exact tw_7_123⟩ fcN) x
    exact ⟨fun w h => (hh _ h).1 w rfl, fun w h => (hh _ h).2 w rfl⟩
  · exact fun x en h => mLook_all (Q := fun x en => mLink "ClothWithManModel" x en ∧ mCtr l en ∧ (en.1.1 = 2 → en.2.2.2.2.2.2 = none)) (fcC ⟨li_M_177, c_M_tell l, (fun h => by cases h)⟩ (fcC ⟨li_M_181, c_M_in l, (fun h => by cases h)⟩ (fcC ⟨li_M_315, c_M_areCounted l, (fun h => by cases h)⟩ (fcC ⟨li_M_318, c_M_weighYears l, (fun h => by cases h)⟩ fcN)))) x en h
  · exact fun x kd h => mLook_all (Q := fun x kd => (kd = 95 ∧ Cond.fieldLink "ClothWithManModel" x "ClothWithMan" "LIKENESSES" "[I" ∈ lw_tbl) ∨ (kd = 96 ∧ Cond.fieldLink "ClothWithManModel" x "ClothWithMan" "APART_BOUNDS" "[I" ∈ lw_tbl)) fcN x kd h
  · exact fun x ci h => mLook_all (Q := fun x ci => ci ≠ 0 ∧ ∃ (C : String) (T : u_T) (N : Nat), mCl[ci]? = some (C, T, N) ∧ Cond.classLink "ClothWithManModel" x C ∈ lw_tbl ∧ Cond.instantiable C N ∈ lw_tbl) fcN x ci h
set_option maxRecDepth 100000 in
theorem c_M_within (l : Launch) : mCtr l E_M_within := mCtr_of (P := P_M_within) (own := "ClothWithManModel") mLay_ok rfl (by decide +kernel) rfl (ok_M_within l) (fun h => by cases h) (fun as σ pr rv σ' hF hpr hlv => by
  unfold E_M_within S_M_within at hF
  simp only [] at hF
  split at hF
  · cases hF
    obtain ⟨n, pcF, c1, s1, g1, g2, g3, g4⟩ := mF_inv (d_M_within _ _ σ (hpr _ rfl))
    exact ⟨Nat.le_of_ble_eq_true rfl, (fun v h => by cases h; trivial), n, pcF, c1, s1, g1, ⟨mEnd_of (i := .ireturn) (P := P_M_within) (rets := [27, 44, 281]) rfl g2, rfl⟩, g3, g4⟩
  · cases hF
    exact (hpr _ rfl).elim)
/-! ClothWithManModel.odd(I)I -/
noncomputable def t_M_odd_27 (x1 : Int32) (c : Int32) (s : Int32 × Int64 × Int64 × MSto) : Int32 × Int64 × Int64 × MSto := (if (gI (s.2.2.2) 13 0 10) ≤ c then s else (if (v_M_has x1 c (s.2.2.2)) = 0 then ((s.1), (s.2.1), (s.2.2.1), (s.2.2.2)) else (if (s.1) = (-1) then (c, (gJ (e_M_findApart (x1 &&& (((1 : Int32) <<< (c &&& 31)) ^^^ (-1))) (s.2.2.2)) 13 0 62), (gJ (e_M_findApart (x1 &&& (((1 : Int32) <<< (c &&& 31)) ^^^ (-1))) (s.2.2.2)) 13 0 63), (e_M_findApart (x1 &&& (((1 : Int32) <<< (c &&& 31)) ^^^ (-1))) (s.2.2.2))) else (if (v_M_isLess (gJ (e_M_findApart (x1 &&& (((1 : Int32) <<< (c &&& 31)) ^^^ (-1))) (s.2.2.2)) 13 0 62) (gJ (e_M_findApart (x1 &&& (((1 : Int32) <<< (c &&& 31)) ^^^ (-1))) (s.2.2.2)) 13 0 63) (s.2.1) (s.2.2.1) (e_M_findApart (x1 &&& (((1 : Int32) <<< (c &&& 31)) ^^^ (-1))) (s.2.2.2))) = 0 then ((s.1), (s.2.1), (s.2.2.1), (e_M_findApart (x1 &&& (((1 : Int32) <<< (c &&& 31)) ^^^ (-1))) (s.2.2.2))) else (c, (gJ (e_M_findApart (x1 &&& (((1 : Int32) <<< (c &&& 31)) ^^^ (-1))) (s.2.2.2)) 13 0 62), (gJ (e_M_findApart (x1 &&& (((1 : Int32) <<< (c &&& 31)) ^^^ (-1))) (s.2.2.2)) 13 0 63), (e_M_findApart (x1 &&& (((1 : Int32) <<< (c &&& 31)) ^^^ (-1))) (s.2.2.2)))))))
noncomputable def q_M_odd_27s (x1 : Int32) (c : Int32) (s : Int32 × Int64 × Int64 × MSto) : Nat := (if (gI (s.2.2.2) 13 0 10) ≤ c then 1 else 0)
def g_M_odd_27 (x1 : Int32) (c : Int32) (s : Int32 × Int64 × Int64 × MSto) : Prop := (¬ ((gI (s.2.2.2) 13 0 10) ≤ c) → (¬ ((v_M_has x1 c (s.2.2.2)) = 0) → ((p_M_findApart (x1 &&& (((1 : Int32) <<< (c &&& 31)) ^^^ (-1))) (s.2.2.2)) ∧ (¬ ((s.1) = (-1)) → (p_M_isLess (gJ (e_M_findApart (x1 &&& (((1 : Int32) <<< (c &&& 31)) ^^^ (-1))) (s.2.2.2)) 13 0 62) (gJ (e_M_findApart (x1 &&& (((1 : Int32) <<< (c &&& 31)) ^^^ (-1))) (s.2.2.2)) 13 0 63) (s.2.1) (s.2.2.1) (e_M_findApart (x1 &&& (((1 : Int32) <<< (c &&& 31)) ^^^ (-1))) (s.2.2.2)))))))
noncomputable def f_M_odd_27 (x1 : Int32) (c0 : Int32) (s0 : Int32 × Int64 × Int64 × MSto) (n : Nat) : Int32 × Int64 × Int64 × MSto := nfold (fun i s => t_M_odd_27 x1 (c0 + nI i) s) s0 n
noncomputable def n_M_odd_27 (x1 : Int32) (c0 : Int32) (s0 : Int32 × Int64 × Int64 × MSto) : Nat := nM (s0.2.2.2) 10
noncomputable def v_M_odd (a1 : Int32) (σ : MSto) : Int32 := (if (v_M_areCounted a1 3 4 (sI σ 13 0 52 0)) = 0 then (-1) else ((f_M_odd_27 a1 0 ((-1), 0, 1, (sI σ 13 0 52 0)) (n_M_odd_27 a1 0 ((-1), 0, 1, (sI σ 13 0 52 0)))).1))
def p_M_odd (a1 : Int32) (σ : MSto) : Prop := (¬ ((v_M_areCounted a1 3 4 (sI σ 13 0 52 0)) = 0) → ((∀ i, i < (n_M_odd_27 a1 0 ((-1), 0, 1, (sI σ 13 0 52 0))) → g_M_odd_27 a1 (0 + nI i) (f_M_odd_27 a1 0 ((-1), 0, 1, (sI σ 13 0 52 0)) i) ∧ ¬ q_M_odd_27s a1 (0 + nI i) (f_M_odd_27 a1 0 ((-1), 0, 1, (sI σ 13 0 52 0)) i) = 1) ∧ ((((gI ((f_M_odd_27 a1 0 ((-1), 0, 1, (sI σ 13 0 52 0)) (n_M_odd_27 a1 0 ((-1), 0, 1, (sI σ 13 0 52 0)))).2.2.2) 13 0 10) ≤ (0 + nI (n_M_odd_27 a1 0 ((-1), 0, 1, (sI σ 13 0 52 0))))) → (p_M_tellPart ((f_M_odd_27 a1 0 ((-1), 0, 1, (sI σ 13 0 52 0)) (n_M_odd_27 a1 0 ((-1), 0, 1, (sI σ 13 0 52 0)))).2.1) ((f_M_odd_27 a1 0 ((-1), 0, 1, (sI σ 13 0 52 0)) (n_M_odd_27 a1 0 ((-1), 0, 1, (sI σ 13 0 52 0)))).2.2.1) (sI ((f_M_odd_27 a1 0 ((-1), 0, 1, (sI σ 13 0 52 0)) (n_M_odd_27 a1 0 ((-1), 0, 1, (sI σ 13 0 52 0)))).2.2.2) 13 0 51 0))) ∧ (¬ ((gI ((f_M_odd_27 a1 0 ((-1), 0, 1, (sI σ 13 0 52 0)) (n_M_odd_27 a1 0 ((-1), 0, 1, (sI σ 13 0 52 0)))).2.2.2) 13 0 10) ≤ (0 + nI (n_M_odd_27 a1 0 ((-1), 0, 1, (sI σ 13 0 52 0))))) → False))))
noncomputable def e_M_odd (a1 : Int32) (σ : MSto) : MSto := (if (v_M_areCounted a1 3 4 (sI σ 13 0 52 0)) = 0 then (sI σ 13 0 52 0) else (e_M_tellPart ((f_M_odd_27 a1 0 ((-1), 0, 1, (sI σ 13 0 52 0)) (n_M_odd_27 a1 0 ((-1), 0, 1, (sI σ 13 0 52 0)))).2.1) ((f_M_odd_27 a1 0 ((-1), 0, 1, (sI σ 13 0 52 0)) (n_M_odd_27 a1 0 ((-1), 0, 1, (sI σ 13 0 52 0)))).2.2.1) (sI ((f_M_odd_27 a1 0 ((-1), 0, 1, (sI σ 13 0 52 0)) (n_M_odd_27 a1 0 ((-1), 0, 1, (sI σ 13 0 52 0)))).2.2.2) 13 0 51 0)))
noncomputable def S_M_odd : List MV → MSto → Option Prop × Option MV × MSto := fun as σ => match as with
  | [.inr (.inr (some (13, 0))), .inl a0] => (some (p_M_odd a0 σ), some (mI (v_M_odd a0 σ)), e_M_odd a0 σ)
  | _ => (some False, none, σ)
noncomputable def E_M_odd : MEnt := ((1, 1, 13), (3, 76, 0, 0), S_M_odd, ((⟨"ClothWithManModel", "odd", "(I)I"⟩ : MethodName), prog_14_method_64_code, 8, (some .int)))

def T_M_odd : Nat → Option (Instr × Nat × List Nat) := fun k => bif Nat.blt k 119 then (bif Nat.blt k 55 then (bif Nat.blt k 24 then (bif Nat.blt k 12 then (bif Nat.blt k 6 then (bif Nat.blt k 2 then (bif Nat.blt k 1 then (bif Nat.beq k 0 then some (.aload_n 0, 1, []) else none) else (bif Nat.beq k 1 then some (.iconst 0, 2, []) else none)) else (bif Nat.blt k 5 then (bif Nat.beq k 2 then some (.putfield 161, 5, []) else none) else (bif Nat.beq k 5 then some (.aload_n 0, 6, []) else none))) else (bif Nat.blt k 8 then (bif Nat.blt k 7 then (bif Nat.beq k 6 then some (.iload_n 1, 7, []) else none) else (bif Nat.beq k 7 then some (.iconst 3, 8, []) else none)) else (bif Nat.blt k 9 then (bif Nat.beq k 8 then some (.iconst 4, 9, []) else none) else (bif Nat.beq k 9 then some (.invokevirtual 315, 12, []) else none)))) else (bif Nat.blt k 18 then (bif Nat.blt k 16 then (bif Nat.blt k 15 then (bif Nat.beq k 12 then some (.ifCond .ne 5, 15, [17]) else none) else (bif Nat.beq k 15 then some (.iconst (-1), 16, []) else none)) else (bif Nat.blt k 17 then (bif Nat.beq k 16 then some (.ireturn, 17, []) else none) else (bif Nat.beq k 17 then some (.iconst (-1), 18, []) else none))) else (bif Nat.blt k 20 then (bif Nat.blt k 19 then (bif Nat.beq k 18 then some (.istore_n 2, 19, []) else none) else (bif Nat.beq k 19 then some (.lconst 0, 20, []) else none)) else (bif Nat.blt k 21 then (bif Nat.beq k 20 then some (.lstore_n 3, 21, []) else none) else (bif Nat.blt k 22 then (bif Nat.beq k 21 then some (.lconst 1, 22, []) else none) else (bif Nat.beq k 22 then some (.lstore 5, 24, []) else none)))))) else (bif Nat.blt k 39 then (bif Nat.blt k 30 then (bif Nat.blt k 27 then (bif Nat.blt k 25 then (bif Nat.beq k 24 then some (.iconst 0, 25, []) else none) else (bif Nat.beq k 25 then some (.istore 7, 27, []) else none)) else (bif Nat.blt k 29 then (bif Nat.beq k 27 then some (.iload 7, 29, []) else none) else (bif Nat.beq k 29 then some (.aload_n 0, 30, []) else none))) else (bif Nat.blt k 36 then (bif Nat.blt k 33 then (bif Nat.beq k 30 then some (.getfield 185, 33, []) else none) else (bif Nat.beq k 33 then some (.if_icmp .ge 72, 36, [105]) else none)) else (bif Nat.blt k 37 then (bif Nat.beq k 36 then some (.iload_n 1, 37, []) else none) else (bif Nat.beq k 37 then some (.iload 7, 39, []) else none)))) else (bif Nat.blt k 49 then (bif Nat.blt k 45 then (bif Nat.blt k 42 then (bif Nat.beq k 39 then some (.invokestatic 301, 42, []) else none) else (bif Nat.beq k 42 then some (.ifCond .ne 6, 45, [48]) else none)) else (bif Nat.blt k 48 then (bif Nat.beq k 45 then some (.goto 54, 48, [99]) else none) else (bif Nat.beq k 48 then some (.aload_n 0, 49, []) else none))) else (bif Nat.blt k 51 then (bif Nat.blt k 50 then (bif Nat.beq k 49 then some (.iload_n 1, 50, []) else none) else (bif Nat.beq k 50 then some (.iconst 1, 51, []) else none)) else (bif Nat.blt k 53 then (bif Nat.beq k 51 then some (.iload 7, 53, []) else none) else (bif Nat.blt k 54 then (bif Nat.beq k 53 then some (.ishl, 54, []) else none) else (bif Nat.beq k 54 then some (.iconst (-1), 55, []) else none))))))) else (bif Nat.blt k 88 then (bif Nat.blt k 69 then (bif Nat.blt k 61 then (bif Nat.blt k 57 then (bif Nat.blt k 56 then (bif Nat.beq k 55 then some (.ixor, 56, []) else none) else (bif Nat.beq k 56 then some (.iand, 57, []) else none)) else (bif Nat.blt k 60 then (bif Nat.beq k 57 then some (.invokevirtual 337, 60, []) else none) else (bif Nat.beq k 60 then some (.iload_n 2, 61, []) else none))) else (bif Nat.blt k 65 then (bif Nat.blt k 62 then (bif Nat.beq k 61 then some (.iconst (-1), 62, []) else none) else (bif Nat.beq k 62 then some (.if_icmp .eq 23, 65, [85]) else none)) else (bif Nat.blt k 66 then (bif Nat.beq k 65 then some (.aload_n 0, 66, []) else none) else (bif Nat.beq k 66 then some (.getfield 327, 69, []) else none)))) else (bif Nat.blt k 76 then (bif Nat.blt k 73 then (bif Nat.blt k 70 then (bif Nat.beq k 69 then some (.aload_n 0, 70, []) else none) else (bif Nat.beq k 70 then some (.getfield 330, 73, []) else none)) else (bif Nat.blt k 74 then (bif Nat.beq k 73 then some (.lload_n 3, 74, []) else none) else (bif Nat.beq k 74 then some (.lload 5, 76, []) else none))) else (bif Nat.blt k 82 then (bif Nat.blt k 79 then (bif Nat.beq k 76 then some (.invokestatic 371, 79, []) else none) else (bif Nat.beq k 79 then some (.ifCond .ne 6, 82, [85]) else none)) else (bif Nat.blt k 85 then (bif Nat.beq k 82 then some (.goto 17, 85, [99]) else none) else (bif Nat.blt k 87 then (bif Nat.beq k 85 then some (.iload 7, 87, []) else none) else (bif Nat.beq k 87 then some (.istore_n 2, 88, []) else none)))))) else (bif Nat.blt k 105 then (bif Nat.blt k 94 then (bif Nat.blt k 92 then (bif Nat.blt k 89 then (bif Nat.beq k 88 then some (.aload_n 0, 89, []) else none) else (bif Nat.beq k 89 then some (.getfield 327, 92, []) else none)) else (bif Nat.blt k 93 then (bif Nat.beq k 92 then some (.lstore_n 3, 93, []) else none) else (bif Nat.beq k 93 then some (.aload_n 0, 94, []) else none))) else (bif Nat.blt k 99 then (bif Nat.blt k 97 then (bif Nat.beq k 94 then some (.getfield 330, 97, []) else none) else (bif Nat.beq k 97 then some (.lstore 5, 99, []) else none)) else (bif Nat.blt k 102 then (bif Nat.beq k 99 then some (.iinc 7 1, 102, []) else none) else (bif Nat.beq k 102 then some (.goto (-75), 105, [27]) else none)))) else (bif Nat.blt k 111 then (bif Nat.blt k 107 then (bif Nat.blt k 106 then (bif Nat.beq k 105 then some (.aload_n 0, 106, []) else none) else (bif Nat.beq k 106 then some (.iconst 0, 107, []) else none)) else (bif Nat.blt k 110 then (bif Nat.beq k 107 then some (.putfield 164, 110, []) else none) else (bif Nat.beq k 110 then some (.aload_n 0, 111, []) else none))) else (bif Nat.blt k 114 then (bif Nat.blt k 112 then (bif Nat.beq k 111 then some (.lload_n 3, 112, []) else none) else (bif Nat.beq k 112 then some (.lload 5, 114, []) else none)) else (bif Nat.blt k 117 then (bif Nat.beq k 114 then some (.invokevirtual 321, 117, []) else none) else (bif Nat.blt k 118 then (bif Nat.beq k 117 then some (.iload_n 2, 118, []) else none) else (bif Nat.beq k 118 then some (.ireturn, 119, []) else none)))))))) else none
noncomputable def P_M_odd : MP := (T_M_odd, (fun k => mLook k [(161, (13, 52, .int, false)), (164, (13, 51, .int, false)), (185, (13, 10, .int, false)), (327, (13, 62, .long, false)), (330, (13, 63, .long, false))]), (fun k => mLook k []), (fun k => mLook k [(301, E_M_has), (315, E_M_areCounted), (321, E_M_tellPart), (337, E_M_findApart), (371, E_M_isLess)]), (fun k => mLook k []), (fun k => mLook k []), (fun k => mLook k []), (fun k => mLook k [(27, [true, true, true, true, false, true, false, true])]), (fun k => [16, 118].any (Nat.beq k)), (3, 76, 0, 0), false, (fun _ => none))
set_option maxRecDepth 100000 in
set_option maxHeartbeats 4000000 in
theorem q_M_odd_e (a1 : Int32) (σ : MSto) (n : Nat) : mexe KT P_M_odd (n + 1) (0, [some (mR 13 0), some (mI a1), none, none, none, none, none, none], [], σ, 0, 0) = mIf ((v_M_areCounted a1 3 4 (sI σ 13 0 52 0)) = 0) (some (16, [], [(mI (-1))], (sI σ 13 0 52 0), 0, 0)) (mexe KT P_M_odd n (27, [some (mR 13 0), some (mI a1), some (mI (-1)), some (mJ 0), none, some (mJ 1), none, some (mI 0)], [], (sI σ 13 0 52 0), 0, 0)) := rfl
set_option maxRecDepth 100000 in
set_option maxHeartbeats 4000000 in
theorem q_M_odd_27 (x1 : Int32) (x2 : Int32) (x3 : Int64) (x5 : Int64) (x7 : Int32) (σ : MSto) (n : Nat) : mexe KT P_M_odd (n + 1) (27, [some (mR 13 0), some (mI x1), some (mI x2), some (mJ x3), none, some (mJ x5), none, some (mI x7)], [], σ, 0, 0) = mIf ((gI σ 13 0 10) ≤ x7) (mG (p_M_tellPart x3 x5 (sI σ 13 0 51 0)) (some (118, [], [(mI x2)], (e_M_tellPart x3 x5 (sI σ 13 0 51 0)), 0, 0))) (mIf ((v_M_has x1 x7 σ) = 0) (mexe KT P_M_odd n (27, [some (mR 13 0), some (mI x1), some (mI x2), some (mJ x3), none, some (mJ x5), none, some (mI (x7 + 1))], [], σ, 0, 0)) (mG (p_M_findApart (x1 &&& (((1 : Int32) <<< (x7 &&& 31)) ^^^ (-1))) σ) (mIf (x2 = (-1)) (mexe KT P_M_odd n (27, [some (mR 13 0), some (mI x1), some (mI x7), some (mJ (gJ (e_M_findApart (x1 &&& (((1 : Int32) <<< (x7 &&& 31)) ^^^ (-1))) σ) 13 0 62)), none, some (mJ (gJ (e_M_findApart (x1 &&& (((1 : Int32) <<< (x7 &&& 31)) ^^^ (-1))) σ) 13 0 63)), none, some (mI (x7 + 1))], [], (e_M_findApart (x1 &&& (((1 : Int32) <<< (x7 &&& 31)) ^^^ (-1))) σ), 0, 0)) (mG (p_M_isLess (gJ (e_M_findApart (x1 &&& (((1 : Int32) <<< (x7 &&& 31)) ^^^ (-1))) σ) 13 0 62) (gJ (e_M_findApart (x1 &&& (((1 : Int32) <<< (x7 &&& 31)) ^^^ (-1))) σ) 13 0 63) x3 x5 (e_M_findApart (x1 &&& (((1 : Int32) <<< (x7 &&& 31)) ^^^ (-1))) σ)) (mIf ((v_M_isLess (gJ (e_M_findApart (x1 &&& (((1 : Int32) <<< (x7 &&& 31)) ^^^ (-1))) σ) 13 0 62) (gJ (e_M_findApart (x1 &&& (((1 : Int32) <<< (x7 &&& 31)) ^^^ (-1))) σ) 13 0 63) x3 x5 (e_M_findApart (x1 &&& (((1 : Int32) <<< (x7 &&& 31)) ^^^ (-1))) σ)) = 0) (mexe KT P_M_odd n (27, [some (mR 13 0), some (mI x1), some (mI x2), some (mJ x3), none, some (mJ x5), none, some (mI (x7 + 1))], [], (e_M_findApart (x1 &&& (((1 : Int32) <<< (x7 &&& 31)) ^^^ (-1))) σ), 0, 0)) (mexe KT P_M_odd n (27, [some (mR 13 0), some (mI x1), some (mI x7), some (mJ (gJ (e_M_findApart (x1 &&& (((1 : Int32) <<< (x7 &&& 31)) ^^^ (-1))) σ) 13 0 62)), none, some (mJ (gJ (e_M_findApart (x1 &&& (((1 : Int32) <<< (x7 &&& 31)) ^^^ (-1))) σ) 13 0 63)), none, some (mI (x7 + 1))], [], (e_M_findApart (x1 &&& (((1 : Int32) <<< (x7 &&& 31)) ^^^ (-1))) σ), 0, 0))))))) := rfl
set_option maxRecDepth 100000 in
theorem lt_M_odd_27 {Post : MST → Prop} (x1 : Int32) (c : Int32) (s : Int32 × Int64 × Int64 × MSto) (hp : g_M_odd_27 x1 c s) (hq : ¬ q_M_odd_27s x1 c s = 1) (hn : ∀ (r1 : Int32) (r2 : Int64) (r3 : Int64) (r4 : MSto), t_M_odd_27 x1 c s = (r1, r2, r3, r4) → mW1 P_M_odd (27, [some (mR 13 0), some (mI x1), some (mI r1), some (mJ r2), none, some (mJ r3), none, some (mI (c + 1))], [], r4, 0, 0) Post) : mW1 P_M_odd (27, [some (mR 13 0), some (mI x1), some (mI (s.1)), some (mJ (s.2.1)), none, some (mJ (s.2.2.1)), none, some (mI c)], [], (s.2.2.2), 0, 0) Post := by
  unfold g_M_odd_27 at hp
  refine mW1_eq (q_M_odd_27 _ _ _ _ _ _) ?_
  refine mTr_if (fun h0 => ?_) (fun h0 => ?_)
  · skip
    exact absurd (if_pos h0) hq
  · skip
    have hp := hp h0
    refine mTr_if (fun h1 => ?_) (fun h1 => ?_)
    · skip
      exact mTr_k (hn (s.1) (s.2.1) (s.2.2.1) (s.2.2.2) ((if_neg h0).trans (if_pos h1)))
    · skip
      have hp := hp h1
      refine mTr_g hp.1 ?_
      have hp := hp.2
      refine mTr_if (fun h2 => ?_) (fun h2 => ?_)
      · skip
        exact mTr_k (hn c (gJ (e_M_findApart (x1 &&& (((1 : Int32) <<< (c &&& 31)) ^^^ (-1))) (s.2.2.2)) 13 0 62) (gJ (e_M_findApart (x1 &&& (((1 : Int32) <<< (c &&& 31)) ^^^ (-1))) (s.2.2.2)) 13 0 63) (e_M_findApart (x1 &&& (((1 : Int32) <<< (c &&& 31)) ^^^ (-1))) (s.2.2.2)) ((if_neg h0).trans ((if_neg h1).trans (if_pos h2))))
      · skip
        have hp := hp h2
        refine mTr_g hp ?_
        refine mTr_if (fun h3 => ?_) (fun h3 => ?_)
        · skip
          exact mTr_k (hn (s.1) (s.2.1) (s.2.2.1) (e_M_findApart (x1 &&& (((1 : Int32) <<< (c &&& 31)) ^^^ (-1))) (s.2.2.2)) ((if_neg h0).trans ((if_neg h1).trans ((if_neg h2).trans (if_pos h3)))))
        · skip
          exact mTr_k (hn c (gJ (e_M_findApart (x1 &&& (((1 : Int32) <<< (c &&& 31)) ^^^ (-1))) (s.2.2.2)) 13 0 62) (gJ (e_M_findApart (x1 &&& (((1 : Int32) <<< (c &&& 31)) ^^^ (-1))) (s.2.2.2)) 13 0 63) (e_M_findApart (x1 &&& (((1 : Int32) <<< (c &&& 31)) ^^^ (-1))) (s.2.2.2)) ((if_neg h0).trans ((if_neg h1).trans ((if_neg h2).trans (if_neg h3)))))
theorem lp_M_odd_27 {Post : MST → Prop} (x1 : Int32) (c0 : Int32) (s0 : Int32 × Int64 × Int64 × MSto) (N : Nat) (hb : ∀ i, i < N → g_M_odd_27 x1 (c0 + nI i) (f_M_odd_27 x1 c0 s0 i) ∧ ¬ q_M_odd_27s x1 (c0 + nI i) (f_M_odd_27 x1 c0 s0 i) = 1) (h : mW1 P_M_odd (27, [some (mR 13 0), some (mI x1), some (mI ((f_M_odd_27 x1 c0 s0 N).1)), some (mJ ((f_M_odd_27 x1 c0 s0 N).2.1)), none, some (mJ ((f_M_odd_27 x1 c0 s0 N).2.2.1)), none, some (mI (c0 + nI N))], [], ((f_M_odd_27 x1 c0 s0 N).2.2.2), 0, 0) Post) : mW1 P_M_odd (27, [some (mR 13 0), some (mI x1), some (mI (s0.1)), some (mJ (s0.2.1)), none, some (mJ (s0.2.2.1)), none, some (mI c0)], [], (s0.2.2.2), 0, 0) Post := by
  refine mW1_st (mW1_loop (fun i => (27, [some (mR 13 0), some (mI x1), some (mI ((f_M_odd_27 x1 c0 s0 i).1)), some (mJ ((f_M_odd_27 x1 c0 s0 i).2.1)), none, some (mJ ((f_M_odd_27 x1 c0 s0 i).2.2.1)), none, some (mI (c0 + nI i))], [], ((f_M_odd_27 x1 c0 s0 i).2.2.2), 0, 0)) N (fun i hlt hn => ?_) h) (by rw [show nI 0 = 0 from rfl, Int32.add_zero] <;> rfl)
  refine lt_M_odd_27 x1 _ _ (hb i hlt).1 (hb i hlt).2 (fun r1 r2 r3 r4 hr => ?_)
  rw [Int32.add_assoc, nI_s]
  have e : f_M_odd_27 x1 c0 s0 (i + 1) = (r1, r2, r3, r4) := hr
  try dsimp only at hn
  rw [e] at hn
  exact hn
set_option maxRecDepth 100000 in
set_option maxHeartbeats 4000000 in
theorem d_M_odd (a1 : Int32) (σ : MSto) (hp : p_M_odd a1 σ) : mW1 P_M_odd (0, [some (mR 13 0), some (mI a1), none, none, none, none, none, none], [], σ, 0, 0) (mF [16, 118] [mI (v_M_odd a1 σ)] (e_M_odd a1 σ) 0 0) := by
  refine mW1_eq (q_M_odd_e _ _) ?_
  unfold p_M_odd at hp
  refine mTr_if (fun h0 => ?_) (fun h0 => ?_)
  · skip
    exact mTr_e (by decide) (congrArg (fun z => [mI z]) (Eq.symm (if_pos h0))) (Eq.symm (if_pos h0)) (by decide) (by decide)
  · skip
    have hp := hp h0
    refine mTr_k (lp_M_odd_27 a1 0 ((-1), 0, 1, (sI σ 13 0 52 0)) (n_M_odd_27 a1 0 ((-1), 0, 1, (sI σ 13 0 52 0))) hp.1 ?_)
    have hp := hp.2
    refine mW1_eq (q_M_odd_27 _ _ _ _ _ _) ?_
    refine mTr_if (fun h1 => ?_) (fun h1 => ?_)
    · skip
      have hp := hp.1 h1
      refine mTr_g hp ?_
      exact mTr_e (by decide) (congrArg (fun z => [mI z]) (Eq.symm (if_neg h0))) (Eq.symm (if_neg h0)) (by decide) (by decide)
    · skip
      have hp := hp.2 h1
      exact hp.elim
theorem li_M_371 : mLink "ClothWithManModel" 371 E_M_isLess := ⟨tw_7_177, tw_1_9, ⟨by decide, by decide⟩, by decide +kernel, Or.inl tw_7_175, (fun _ => tw_7_176), (fun h => by cases h), (fun h => by cases h)⟩





theorem tk_M_odd : ∀ pc i nx tg, T_M_odd pc = some (i, nx, tg) → mOkB prog_14_method_64_code pc i nx tg = true := code_ok (N := 119) (fun k h => by unfold T_M_odd; rw [h]; rfl) (by decide +kernel)
theorem ok_M_odd (l : Launch) : mPOK l "ClothWithManModel" prog_14_method_64_code P_M_odd := by
  refine ⟨tk_M_odd, ?_, ?_, ?_, (fun pc i nx tg kd _ h => by cases h), ?_, ?_, fun pc en h => by cases h⟩
  · intro x ci f ty fin h
    exact mLook_all (Q := fun x v => mFOK "ClothWithManModel" x v.1 v.2.1 v.2.2.1 v.2.2.2 ∧ (v.2.2.2 = true → pIni P_M_odd = true → (Cond.fieldLink "ClothWithManModel" x (((mCl[v.1]?).getD ("", fun _ => ("", "", "", false), 0)).2.1 v.2.1).1 (((mCl[v.1]?).getD ("", fun _ => ("", "", "", false), 0)).2.1 v.2.1).2.1 (((mCl[v.1]?).getD ("", fun _ => ("", "", "", false), 0)).2.1 v.2.1).2.2.1 ∈ lw_tbl ∧ (((mCl[v.1]?).getD ("", fun _ => ("", "", "", false), 0)).2.1 v.2.1).1 = "ClothWithManModel"))) (fcC ⟨fo_M_161, fun h1 h2 => by cases h1⟩ (fcC ⟨fo_M_164, fun h1 h2 => by cases h1⟩ (fcC ⟨fo_M_185, fun h1 h2 => by cases h1⟩ (fcC ⟨fo_M_327, fun h1 h2 => by cases h1⟩ (fcC ⟨fo_M_330, fun h1 h2 => by cases h1⟩ fcN))))) x (ci, f, ty, fin) h
  · intro x
    have hh := mLook_all (l := ([] : List (Nat × (Int32 ⊕ Int64)))) (Q := fun x (v : Int32 ⊕ Int64) => (∀ w, v = .inl w → Cond.constant "ClothWithManModel" x w ∈ lw_tbl) ∧ (∀ w, v = .inr w → Cond.constantLong "ClothWithManModel" x w ∈ lw_tbl)) fcN x
    exact ⟨fun w h => (hh _ h).1 w rfl, fun w h => (hh _ h).2 w rfl⟩
  · exact fun x en h => mLook_all (Q := fun x en => mLink "ClothWithManModel" x en ∧ mCtr l en ∧ (en.1.1 = 2 → en.2.2.2.2.2.2 = none)) (fcC ⟨li_M_301, c_M_has l, (fun h => by cases h)⟩ (fcC ⟨li_M_315, c_M_areCounted l, (fun h => by cases h)⟩ (fcC ⟨li_M_321, c_M_tellPart l, (fun h => by cases h)⟩ (fcC ⟨li_M_337, c_M_findApart l, (fun h => by cases h)⟩ (fcC ⟨li_M_371, c_M_isLess l, (fun h => by cases h)⟩ fcN))))) x en h
  · exact fun x kd h => mLook_all (Q := fun x kd => (kd = 95 ∧ Cond.fieldLink "ClothWithManModel" x "ClothWithMan" "LIKENESSES" "[I" ∈ lw_tbl) ∨ (kd = 96 ∧ Cond.fieldLink "ClothWithManModel" x "ClothWithMan" "APART_BOUNDS" "[I" ∈ lw_tbl)) fcN x kd h
  · exact fun x ci h => mLook_all (Q := fun x ci => ci ≠ 0 ∧ ∃ (C : String) (T : u_T) (N : Nat), mCl[ci]? = some (C, T, N) ∧ Cond.classLink "ClothWithManModel" x C ∈ lw_tbl ∧ Cond.instantiable C N ∈ lw_tbl) fcN x ci h
set_option maxRecDepth 100000 in
theorem c_M_odd (l : Launch) : mCtr l E_M_odd := mCtr_of (P := P_M_odd) (own := "ClothWithManModel") mLay_ok rfl (by decide +kernel) rfl (ok_M_odd l) (fun h => by cases h) (fun as σ pr rv σ' hF hpr hlv => by
  unfold E_M_odd S_M_odd at hF
  simp only [] at hF
  split at hF
  · cases hF
    obtain ⟨n, pcF, c1, s1, g1, g2, g3, g4⟩ := mF_inv (d_M_odd _ σ (hpr _ rfl))
    exact ⟨Nat.le_of_ble_eq_true rfl, (fun v h => by cases h; trivial), n, pcF, c1, s1, g1, ⟨mEnd_of (i := .ireturn) (P := P_M_odd) (rets := [16, 118]) rfl g2, rfl⟩, g3, g4⟩
  · cases hF
    exact (hpr _ rfl).elim)
/-! ClothWithManModel.partOf(IIII)J -/
noncomputable def t_M_partOf_72 (x3 : Int32) (x4 : Int32) (c : Int32) (σ : MSto) (s : Int64) : Int64 := (if (gI σ 13 0 27) ≤ c then s else (if c = x4 then s else (s * (Int32.toInt64 (v_M_fitOf c x3 σ)))))
noncomputable def q_M_partOf_72s (x3 : Int32) (x4 : Int32) (c : Int32) (σ : MSto) (s : Int64) : Nat := (if (gI σ 13 0 27) ≤ c then 1 else 0)
def g_M_partOf_72 (x3 : Int32) (x4 : Int32) (c : Int32) (σ : MSto) (s : Int64) : Prop := (¬ ((gI σ 13 0 27) ≤ c) → (¬ (c = x4) → (p_M_fitOf c x3 σ)))
noncomputable def f_M_partOf_72 (x3 : Int32) (x4 : Int32) (c0 : Int32) (σ : MSto) (s0 : Int64) (n : Nat) : Int64 := nfold (fun i s => t_M_partOf_72 x3 x4 (c0 + nI i) σ s) s0 n
noncomputable def n_M_partOf_72 (x3 : Int32) (x4 : Int32) (c0 : Int32) (σ : MSto) (s0 : Int64) : Nat := nM σ 27
noncomputable def t_M_partOf_6 (x1 : Int32) (x2 : Int32) (x3 : Int32) (x4 : Int32) (c : Int32) (σ : MSto) (s : Int64) : Int64 := (if (gI σ 13 0 10) ≤ c then s else (if (lg_cmp s 0) ≤ 0 then s else (if (v_M_has x2 c σ) = 0 then s else (s * (Int32.toInt64 (v_M_likenessOf (Int32.toInt64 (gI σ 51 0 (Int32.toNatClampNeg c))) (Int32.toInt64 (v_M_wouldOf x1 c x3 σ)) (v_M_spanOf c σ) σ))))))
noncomputable def q_M_partOf_6s (x1 : Int32) (x2 : Int32) (x3 : Int32) (x4 : Int32) (c : Int32) (σ : MSto) (s : Int64) : Nat := (if (gI σ 13 0 10) ≤ c then 1 else (if (lg_cmp s 0) ≤ 0 then 1 else 0))
def g_M_partOf_6 (x1 : Int32) (x2 : Int32) (x3 : Int32) (x4 : Int32) (c : Int32) (σ : MSto) (s : Int64) : Prop := (¬ ((gI σ 13 0 10) ≤ c) → (¬ ((lg_cmp s 0) ≤ 0) → (¬ ((v_M_has x2 c σ) = 0) → ((vp_in c 12) ∧ ((p_M_wouldOf x1 c x3 σ) ∧ ((p_M_spanOf c σ) ∧ (p_M_likenessOf (Int32.toInt64 (gI σ 51 0 (Int32.toNatClampNeg c))) (Int32.toInt64 (v_M_wouldOf x1 c x3 σ)) (v_M_spanOf c σ) σ)))))))
noncomputable def f_M_partOf_6 (x1 : Int32) (x2 : Int32) (x3 : Int32) (x4 : Int32) (c0 : Int32) (σ : MSto) (s0 : Int64) (n : Nat) : Int64 := nfold (fun i s => t_M_partOf_6 x1 x2 x3 x4 (c0 + nI i) σ s) s0 n
noncomputable def n_M_partOf_6 (x1 : Int32) (x2 : Int32) (x3 : Int32) (x4 : Int32) (c0 : Int32) (σ : MSto) (s0 : Int64) : Nat := leastN (fun i => q_M_partOf_6s x1 x2 x3 x4 (c0 + nI i) σ (f_M_partOf_6 x1 x2 x3 x4 c0 σ s0 i) = 1) 13
noncomputable def v_M_partOf (a1 : Int32) (a2 : Int32) (a3 : Int32) (a4 : Int32) (σ : MSto) : Int64 := (f_M_partOf_72 a3 a4 0 σ (f_M_partOf_6 a1 a2 a3 a4 0 σ 1 (n_M_partOf_6 a1 a2 a3 a4 0 σ 1)) (n_M_partOf_72 a3 a4 0 σ (f_M_partOf_6 a1 a2 a3 a4 0 σ 1 (n_M_partOf_6 a1 a2 a3 a4 0 σ 1))))
def p_M_partOf (a1 : Int32) (a2 : Int32) (a3 : Int32) (a4 : Int32) (σ : MSto) : Prop := ((∀ i, i < (n_M_partOf_6 a1 a2 a3 a4 0 σ 1) → g_M_partOf_6 a1 a2 a3 a4 (0 + nI i) σ (f_M_partOf_6 a1 a2 a3 a4 0 σ 1 i) ∧ ¬ q_M_partOf_6s a1 a2 a3 a4 (0 + nI i) σ (f_M_partOf_6 a1 a2 a3 a4 0 σ 1 i) = 1) ∧ ((((gI σ 13 0 10) ≤ (0 + nI (n_M_partOf_6 a1 a2 a3 a4 0 σ 1))) → ((∀ i, i < (n_M_partOf_72 a3 a4 0 σ (f_M_partOf_6 a1 a2 a3 a4 0 σ 1 (n_M_partOf_6 a1 a2 a3 a4 0 σ 1))) → g_M_partOf_72 a3 a4 (0 + nI i) σ (f_M_partOf_72 a3 a4 0 σ (f_M_partOf_6 a1 a2 a3 a4 0 σ 1 (n_M_partOf_6 a1 a2 a3 a4 0 σ 1)) i) ∧ ¬ q_M_partOf_72s a3 a4 (0 + nI i) σ (f_M_partOf_72 a3 a4 0 σ (f_M_partOf_6 a1 a2 a3 a4 0 σ 1 (n_M_partOf_6 a1 a2 a3 a4 0 σ 1)) i) = 1) ∧ (¬ ((gI σ 13 0 27) ≤ (0 + nI (n_M_partOf_72 a3 a4 0 σ (f_M_partOf_6 a1 a2 a3 a4 0 σ 1 (n_M_partOf_6 a1 a2 a3 a4 0 σ 1))))) → False))) ∧ (¬ ((gI σ 13 0 10) ≤ (0 + nI (n_M_partOf_6 a1 a2 a3 a4 0 σ 1))) → ((((lg_cmp (f_M_partOf_6 a1 a2 a3 a4 0 σ 1 (n_M_partOf_6 a1 a2 a3 a4 0 σ 1)) 0) ≤ 0) → ((∀ i, i < (n_M_partOf_72 a3 a4 0 σ (f_M_partOf_6 a1 a2 a3 a4 0 σ 1 (n_M_partOf_6 a1 a2 a3 a4 0 σ 1))) → g_M_partOf_72 a3 a4 (0 + nI i) σ (f_M_partOf_72 a3 a4 0 σ (f_M_partOf_6 a1 a2 a3 a4 0 σ 1 (n_M_partOf_6 a1 a2 a3 a4 0 σ 1)) i) ∧ ¬ q_M_partOf_72s a3 a4 (0 + nI i) σ (f_M_partOf_72 a3 a4 0 σ (f_M_partOf_6 a1 a2 a3 a4 0 σ 1 (n_M_partOf_6 a1 a2 a3 a4 0 σ 1)) i) = 1) ∧ (¬ ((gI σ 13 0 27) ≤ (0 + nI (n_M_partOf_72 a3 a4 0 σ (f_M_partOf_6 a1 a2 a3 a4 0 σ 1 (n_M_partOf_6 a1 a2 a3 a4 0 σ 1))))) → False))) ∧ (¬ ((lg_cmp (f_M_partOf_6 a1 a2 a3 a4 0 σ 1 (n_M_partOf_6 a1 a2 a3 a4 0 σ 1)) 0) ≤ 0) → False)))))
noncomputable def S_M_partOf : List MV → MSto → Option Prop × Option MV × MSto := fun as σ => match as with
  | [.inr (.inr (some (13, 0))), .inl a0, .inl a1, .inl a2, .inl a3] => (some (p_M_partOf a0 a1 a2 a3 σ), some (mJ (v_M_partOf a0 a1 a2 a3 σ)), σ)
  | _ => (some False, none, σ)
noncomputable def E_M_partOf : MEnt := ((1, 4, 13), (4, 100, 0, 0), S_M_partOf, ((⟨"ClothWithManModel", "partOf", "(IIII)J"⟩ : MethodName), prog_14_method_77_code, 8, (some .long)))

def T_M_partOf : Nat → Option (Instr × Nat × List Nat) := fun k => bif Nat.blt k 110 then (bif Nat.blt k 51 then (bif Nat.blt k 25 then (bif Nat.blt k 12 then (bif Nat.blt k 4 then (bif Nat.blt k 1 then (bif Nat.beq k 0 then some (.lconst 1, 1, []) else none) else (bif Nat.blt k 3 then (bif Nat.beq k 1 then some (.lstore 5, 3, []) else none) else (bif Nat.beq k 3 then some (.iconst 0, 4, []) else none))) else (bif Nat.blt k 8 then (bif Nat.blt k 6 then (bif Nat.beq k 4 then some (.istore 7, 6, []) else none) else (bif Nat.beq k 6 then some (.iload 7, 8, []) else none)) else (bif Nat.blt k 9 then (bif Nat.beq k 8 then some (.aload_n 0, 9, []) else none) else (bif Nat.beq k 9 then some (.getfield 185, 12, []) else none)))) else (bif Nat.blt k 18 then (bif Nat.blt k 15 then (bif Nat.beq k 12 then some (.if_icmp .ge 57, 15, [69]) else none) else (bif Nat.blt k 17 then (bif Nat.beq k 15 then some (.lload 5, 17, []) else none) else (bif Nat.beq k 17 then some (.lconst 0, 18, []) else none))) else (bif Nat.blt k 22 then (bif Nat.blt k 19 then (bif Nat.beq k 18 then some (.lcmp, 19, []) else none) else (bif Nat.beq k 19 then some (.ifCond .le 50, 22, [69]) else none)) else (bif Nat.blt k 23 then (bif Nat.beq k 22 then some (.iload_n 2, 23, []) else none) else (bif Nat.beq k 23 then some (.iload 7, 25, []) else none))))) else (bif Nat.blt k 40 then (bif Nat.blt k 33 then (bif Nat.blt k 28 then (bif Nat.beq k 25 then some (.invokestatic 301, 28, []) else none) else (bif Nat.blt k 31 then (bif Nat.beq k 28 then some (.ifCond .eq 35, 31, [63]) else none) else (bif Nat.beq k 31 then some (.lload 5, 33, []) else none))) else (bif Nat.blt k 37 then (bif Nat.blt k 34 then (bif Nat.beq k 33 then some (.aload_n 0, 34, []) else none) else (bif Nat.beq k 34 then some (.getfield 47, 37, []) else none)) else (bif Nat.blt k 39 then (bif Nat.beq k 37 then some (.iload 7, 39, []) else none) else (bif Nat.beq k 39 then some (.iaload, 40, []) else none)))) else (bif Nat.blt k 45 then (bif Nat.blt k 42 then (bif Nat.blt k 41 then (bif Nat.beq k 40 then some (.i2l, 41, []) else none) else (bif Nat.beq k 41 then some (.aload_n 0, 42, []) else none)) else (bif Nat.blt k 43 then (bif Nat.beq k 42 then some (.iload_n 1, 43, []) else none) else (bif Nat.beq k 43 then some (.iload 7, 45, []) else none))) else (bif Nat.blt k 49 then (bif Nat.blt k 46 then (bif Nat.beq k 45 then some (.iload_n 3, 46, []) else none) else (bif Nat.beq k 46 then some (.invokevirtual 391, 49, []) else none)) else (bif Nat.blt k 50 then (bif Nat.beq k 49 then some (.i2l, 50, []) else none) else (bif Nat.beq k 50 then some (.aload_n 0, 51, []) else none)))))) else (bif Nat.blt k 81 then (bif Nat.blt k 66 then (bif Nat.blt k 59 then (bif Nat.blt k 53 then (bif Nat.beq k 51 then some (.iload 7, 53, []) else none) else (bif Nat.blt k 56 then (bif Nat.beq k 53 then some (.invokevirtual 285, 56, []) else none) else (bif Nat.beq k 56 then some (.invokestatic 292, 59, []) else none))) else (bif Nat.blt k 61 then (bif Nat.blt k 60 then (bif Nat.beq k 59 then some (.i2l, 60, []) else none) else (bif Nat.beq k 60 then some (.lmul, 61, []) else none)) else (bif Nat.blt k 63 then (bif Nat.beq k 61 then some (.lstore 5, 63, []) else none) else (bif Nat.beq k 63 then some (.iinc 7 1, 66, []) else none)))) else (bif Nat.blt k 72 then (bif Nat.blt k 69 then (bif Nat.beq k 66 then some (.goto (-60), 69, [6]) else none) else (bif Nat.blt k 70 then (bif Nat.beq k 69 then some (.iconst 0, 70, []) else none) else (bif Nat.beq k 70 then some (.istore 7, 72, []) else none))) else (bif Nat.blt k 75 then (bif Nat.blt k 74 then (bif Nat.beq k 72 then some (.iload 7, 74, []) else none) else (bif Nat.beq k 74 then some (.aload_n 0, 75, []) else none)) else (bif Nat.blt k 78 then (bif Nat.beq k 75 then some (.getfield 394, 78, []) else none) else (bif Nat.beq k 78 then some (.if_icmp .ge 29, 81, [107]) else none))))) else (bif Nat.blt k 94 then (bif Nat.blt k 88 then (bif Nat.blt k 83 then (bif Nat.beq k 81 then some (.iload 7, 83, []) else none) else (bif Nat.blt k 85 then (bif Nat.beq k 83 then some (.iload 4, 85, []) else none) else (bif Nat.beq k 85 then some (.if_icmp .eq 16, 88, [101]) else none))) else (bif Nat.blt k 91 then (bif Nat.blt k 90 then (bif Nat.beq k 88 then some (.lload 5, 90, []) else none) else (bif Nat.beq k 90 then some (.aload_n 0, 91, []) else none)) else (bif Nat.blt k 93 then (bif Nat.beq k 91 then some (.iload 7, 93, []) else none) else (bif Nat.beq k 93 then some (.iload_n 3, 94, []) else none)))) else (bif Nat.blt k 101 then (bif Nat.blt k 98 then (bif Nat.blt k 97 then (bif Nat.beq k 94 then some (.invokevirtual 397, 97, []) else none) else (bif Nat.beq k 97 then some (.i2l, 98, []) else none)) else (bif Nat.blt k 99 then (bif Nat.beq k 98 then some (.lmul, 99, []) else none) else (bif Nat.beq k 99 then some (.lstore 5, 101, []) else none))) else (bif Nat.blt k 107 then (bif Nat.blt k 104 then (bif Nat.beq k 101 then some (.iinc 7 1, 104, []) else none) else (bif Nat.beq k 104 then some (.goto (-32), 107, [72]) else none)) else (bif Nat.blt k 109 then (bif Nat.beq k 107 then some (.lload 5, 109, []) else none) else (bif Nat.beq k 109 then some (.lreturn, 110, []) else none))))))) else none
noncomputable def P_M_partOf : MP := (T_M_partOf, (fun k => mLook k [(47, (13, 16, (.array .int), true)), (185, (13, 10, .int, false)), (394, (13, 27, .int, false))]), (fun k => mLook k []), (fun k => mLook k [(285, E_M_spanOf), (292, E_M_likenessOf), (301, E_M_has), (391, E_M_wouldOf), (397, E_M_fitOf)]), (fun k => mLook k []), (fun k => mLook k []), (fun k => mLook k []), (fun k => mLook k [(6, [true, true, true, true, true, true, false, true]), (72, [true, false, false, true, true, true, false, true])]), (fun k => [109].any (Nat.beq k)), (4, 100, 0, 0), false, (fun _ => none))
set_option maxRecDepth 100000 in
set_option maxHeartbeats 4000000 in
theorem q_M_partOf_e (a1 : Int32) (a2 : Int32) (a3 : Int32) (a4 : Int32) (σ : MSto) (n : Nat) : mexe KT P_M_partOf (n + 1) (0, [some (mR 13 0), some (mI a1), some (mI a2), some (mI a3), some (mI a4), none, none, none], [], σ, 0, 0) = mexe KT P_M_partOf n (6, [some (mR 13 0), some (mI a1), some (mI a2), some (mI a3), some (mI a4), some (mJ 1), none, some (mI 0)], [], σ, 0, 0) := rfl
set_option maxRecDepth 100000 in
set_option maxHeartbeats 4000000 in
theorem q_M_partOf_6 (x1 : Int32) (x2 : Int32) (x3 : Int32) (x4 : Int32) (x5 : Int64) (x7 : Int32) (σ : MSto) (n : Nat) : mexe KT P_M_partOf (n + 1) (6, [some (mR 13 0), some (mI x1), some (mI x2), some (mI x3), some (mI x4), some (mJ x5), none, some (mI x7)], [], σ, 0, 0) = mIf ((gI σ 13 0 10) ≤ x7) (mexe KT P_M_partOf n (72, [some (mR 13 0), none, none, some (mI x3), some (mI x4), some (mJ x5), none, some (mI 0)], [], σ, 0, 0)) (mIf ((lg_cmp x5 0) ≤ 0) (mexe KT P_M_partOf n (72, [some (mR 13 0), none, none, some (mI x3), some (mI x4), some (mJ x5), none, some (mI 0)], [], σ, 0, 0)) (mIf ((v_M_has x2 x7 σ) = 0) (mexe KT P_M_partOf n (6, [some (mR 13 0), some (mI x1), some (mI x2), some (mI x3), some (mI x4), some (mJ x5), none, some (mI (x7 + 1))], [], σ, 0, 0)) (mG (vp_in x7 12) (mG (p_M_wouldOf x1 x7 x3 σ) (mG (p_M_spanOf x7 σ) (mG (p_M_likenessOf (Int32.toInt64 (gI σ 51 0 (Int32.toNatClampNeg x7))) (Int32.toInt64 (v_M_wouldOf x1 x7 x3 σ)) (v_M_spanOf x7 σ) σ) (mexe KT P_M_partOf n (6, [some (mR 13 0), some (mI x1), some (mI x2), some (mI x3), some (mI x4), some (mJ (x5 * (Int32.toInt64 (v_M_likenessOf (Int32.toInt64 (gI σ 51 0 (Int32.toNatClampNeg x7))) (Int32.toInt64 (v_M_wouldOf x1 x7 x3 σ)) (v_M_spanOf x7 σ) σ)))), none, some (mI (x7 + 1))], [], σ, 0, 0)))))))) := rfl
set_option maxRecDepth 100000 in
set_option maxHeartbeats 4000000 in
theorem q_M_partOf_72 (x3 : Int32) (x4 : Int32) (x5 : Int64) (x7 : Int32) (σ : MSto) (n : Nat) : mexe KT P_M_partOf (n + 1) (72, [some (mR 13 0), none, none, some (mI x3), some (mI x4), some (mJ x5), none, some (mI x7)], [], σ, 0, 0) = mIf ((gI σ 13 0 27) ≤ x7) (some (109, [], [(mJ x5)], σ, 0, 0)) (mIf (x7 = x4) (mexe KT P_M_partOf n (72, [some (mR 13 0), none, none, some (mI x3), some (mI x4), some (mJ x5), none, some (mI (x7 + 1))], [], σ, 0, 0)) (mG (p_M_fitOf x7 x3 σ) (mexe KT P_M_partOf n (72, [some (mR 13 0), none, none, some (mI x3), some (mI x4), some (mJ (x5 * (Int32.toInt64 (v_M_fitOf x7 x3 σ)))), none, some (mI (x7 + 1))], [], σ, 0, 0)))) := rfl
set_option maxRecDepth 100000 in
theorem lt_M_partOf_72 {Post : MST → Prop} (x3 : Int32) (x4 : Int32) (c : Int32) (σ : MSto) (s : Int64) (hp : g_M_partOf_72 x3 x4 c σ s) (hq : ¬ q_M_partOf_72s x3 x4 c σ s = 1) (hn : ∀ r, t_M_partOf_72 x3 x4 c σ s = r → mW1 P_M_partOf (72, [some (mR 13 0), none, none, some (mI x3), some (mI x4), some (mJ r), none, some (mI (c + 1))], [], σ, 0, 0) Post) : mW1 P_M_partOf (72, [some (mR 13 0), none, none, some (mI x3), some (mI x4), some (mJ s), none, some (mI c)], [], σ, 0, 0) Post := by
  unfold g_M_partOf_72 at hp
  refine mW1_eq (q_M_partOf_72 _ _ _ _ _) ?_
  refine mTr_if (fun h0 => ?_) (fun h0 => ?_)
  · skip
    exact absurd (if_pos h0) hq
  · skip
    have hp := hp h0
    refine mTr_if (fun h1 => ?_) (fun h1 => ?_)
    · skip
      exact mTr_k (hn s ((if_neg h0).trans (if_pos h1)))
    · skip
      have hp := hp h1
      refine mTr_g hp ?_
      exact mTr_k (hn (s * (Int32.toInt64 (v_M_fitOf c x3 σ))) ((if_neg h0).trans (if_neg h1)))
theorem lp_M_partOf_72 {Post : MST → Prop} (x3 : Int32) (x4 : Int32) (c0 : Int32) (σ : MSto) (s0 : Int64) (N : Nat) (hb : ∀ i, i < N → g_M_partOf_72 x3 x4 (c0 + nI i) σ (f_M_partOf_72 x3 x4 c0 σ s0 i) ∧ ¬ q_M_partOf_72s x3 x4 (c0 + nI i) σ (f_M_partOf_72 x3 x4 c0 σ s0 i) = 1) (h : mW1 P_M_partOf (72, [some (mR 13 0), none, none, some (mI x3), some (mI x4), some (mJ (f_M_partOf_72 x3 x4 c0 σ s0 N)), none, some (mI (c0 + nI N))], [], σ, 0, 0) Post) : mW1 P_M_partOf (72, [some (mR 13 0), none, none, some (mI x3), some (mI x4), some (mJ s0), none, some (mI c0)], [], σ, 0, 0) Post := by
  refine mW1_st (mW1_loop (fun i => (72, [some (mR 13 0), none, none, some (mI x3), some (mI x4), some (mJ (f_M_partOf_72 x3 x4 c0 σ s0 i)), none, some (mI (c0 + nI i))], [], σ, 0, 0)) N (fun i hlt hn => ?_) h) (by rw [show nI 0 = 0 from rfl, Int32.add_zero] <;> rfl)
  refine lt_M_partOf_72 x3 x4 _ σ _ (hb i hlt).1 (hb i hlt).2 (fun r hr => ?_)
  rw [Int32.add_assoc, nI_s]
  subst hr
  exact hn
set_option maxRecDepth 100000 in
theorem lt_M_partOf_6 {Post : MST → Prop} (x1 : Int32) (x2 : Int32) (x3 : Int32) (x4 : Int32) (c : Int32) (σ : MSto) (s : Int64) (hp : g_M_partOf_6 x1 x2 x3 x4 c σ s) (hq : ¬ q_M_partOf_6s x1 x2 x3 x4 c σ s = 1) (hn : ∀ r, t_M_partOf_6 x1 x2 x3 x4 c σ s = r → mW1 P_M_partOf (6, [some (mR 13 0), some (mI x1), some (mI x2), some (mI x3), some (mI x4), some (mJ r), none, some (mI (c + 1))], [], σ, 0, 0) Post) : mW1 P_M_partOf (6, [some (mR 13 0), some (mI x1), some (mI x2), some (mI x3), some (mI x4), some (mJ s), none, some (mI c)], [], σ, 0, 0) Post := by
  unfold g_M_partOf_6 at hp
  refine mW1_eq (q_M_partOf_6 _ _ _ _ _ _ _) ?_
  refine mTr_if (fun h0 => ?_) (fun h0 => ?_)
  · skip
    exact absurd (if_pos h0) hq
  · skip
    have hp := hp h0
    refine mTr_if (fun h1 => ?_) (fun h1 => ?_)
    · skip
      exact absurd ((if_neg h0).trans (if_pos h1)) hq
    · skip
      have hp := hp h1
      refine mTr_if (fun h2 => ?_) (fun h2 => ?_)
      · skip
        exact mTr_k (hn s ((if_neg h0).trans ((if_neg h1).trans (if_pos h2))))
      · skip
        have hp := hp h2
        refine mTr_g hp.1 ?_
        have hp := hp.2
        refine mTr_g hp.1 ?_
        have hp := hp.2
        refine mTr_g hp.1 ?_
        have hp := hp.2
        refine mTr_g hp ?_
        exact mTr_k (hn (s * (Int32.toInt64 (v_M_likenessOf (Int32.toInt64 (gI σ 51 0 (Int32.toNatClampNeg c))) (Int32.toInt64 (v_M_wouldOf x1 c x3 σ)) (v_M_spanOf c σ) σ))) ((if_neg h0).trans ((if_neg h1).trans (if_neg h2))))
theorem lp_M_partOf_6 {Post : MST → Prop} (x1 : Int32) (x2 : Int32) (x3 : Int32) (x4 : Int32) (c0 : Int32) (σ : MSto) (s0 : Int64) (N : Nat) (hb : ∀ i, i < N → g_M_partOf_6 x1 x2 x3 x4 (c0 + nI i) σ (f_M_partOf_6 x1 x2 x3 x4 c0 σ s0 i) ∧ ¬ q_M_partOf_6s x1 x2 x3 x4 (c0 + nI i) σ (f_M_partOf_6 x1 x2 x3 x4 c0 σ s0 i) = 1) (h : mW1 P_M_partOf (6, [some (mR 13 0), some (mI x1), some (mI x2), some (mI x3), some (mI x4), some (mJ (f_M_partOf_6 x1 x2 x3 x4 c0 σ s0 N)), none, some (mI (c0 + nI N))], [], σ, 0, 0) Post) : mW1 P_M_partOf (6, [some (mR 13 0), some (mI x1), some (mI x2), some (mI x3), some (mI x4), some (mJ s0), none, some (mI c0)], [], σ, 0, 0) Post := by
  refine mW1_st (mW1_loop (fun i => (6, [some (mR 13 0), some (mI x1), some (mI x2), some (mI x3), some (mI x4), some (mJ (f_M_partOf_6 x1 x2 x3 x4 c0 σ s0 i)), none, some (mI (c0 + nI i))], [], σ, 0, 0)) N (fun i hlt hn => ?_) h) (by rw [show nI 0 = 0 from rfl, Int32.add_zero] <;> rfl)
  refine lt_M_partOf_6 x1 x2 x3 x4 _ σ _ (hb i hlt).1 (hb i hlt).2 (fun r hr => ?_)
  rw [Int32.add_assoc, nI_s]
  subst hr
  exact hn
set_option maxRecDepth 100000 in
set_option maxHeartbeats 4000000 in
theorem d_M_partOf (a1 : Int32) (a2 : Int32) (a3 : Int32) (a4 : Int32) (σ : MSto) (hp : p_M_partOf a1 a2 a3 a4 σ) : mW1 P_M_partOf (0, [some (mR 13 0), some (mI a1), some (mI a2), some (mI a3), some (mI a4), none, none, none], [], σ, 0, 0) (mF [109] [mJ (v_M_partOf a1 a2 a3 a4 σ)] σ 0 0) := by
  refine mW1_eq (q_M_partOf_e _ _ _ _ _) ?_
  unfold p_M_partOf at hp
  refine mTr_k (lp_M_partOf_6 a1 a2 a3 a4 0 σ 1 (n_M_partOf_6 a1 a2 a3 a4 0 σ 1) hp.1 ?_)
  have hp := hp.2
  refine mW1_eq (q_M_partOf_6 _ _ _ _ _ _ _) ?_
  refine mTr_if (fun h0 => ?_) (fun h0 => ?_)
  · skip
    have hp := hp.1 h0
    refine mTr_k (lp_M_partOf_72 a3 a4 0 σ (f_M_partOf_6 a1 a2 a3 a4 0 σ 1 (n_M_partOf_6 a1 a2 a3 a4 0 σ 1)) (n_M_partOf_72 a3 a4 0 σ (f_M_partOf_6 a1 a2 a3 a4 0 σ 1 (n_M_partOf_6 a1 a2 a3 a4 0 σ 1))) hp.1 ?_)
    have hp := hp.2
    refine mW1_eq (q_M_partOf_72 _ _ _ _ _) ?_
    refine mTr_if (fun h1 => ?_) (fun h1 => ?_)
    · skip
      exact mTr_e (by decide) (congrArg (fun z => [mJ z]) (Eq.symm (rfl))) rfl (by decide) (by decide)
    · skip
      have hp := hp h1
      exact hp.elim
  · skip
    have hp := hp.2 h0
    refine mTr_if (fun h1 => ?_) (fun h1 => ?_)
    · skip
      have hp := hp.1 h1
      refine mTr_k (lp_M_partOf_72 a3 a4 0 σ (f_M_partOf_6 a1 a2 a3 a4 0 σ 1 (n_M_partOf_6 a1 a2 a3 a4 0 σ 1)) (n_M_partOf_72 a3 a4 0 σ (f_M_partOf_6 a1 a2 a3 a4 0 σ 1 (n_M_partOf_6 a1 a2 a3 a4 0 σ 1))) hp.1 ?_)
      have hp := hp.2
      refine mW1_eq (q_M_partOf_72 _ _ _ _ _) ?_
      refine mTr_if (fun h2 => ?_) (fun h2 => ?_)
      · skip
        exact mTr_e (by decide) (congrArg (fun z => [mJ z]) (Eq.symm (rfl))) rfl (by decide) (by decide)
      · skip
        have hp := hp h2
        exact hp.elim
    · skip
      have hp := hp.2 h1
      exact hp.elim
theorem li_M_397 : mLink "ClothWithManModel" 397 E_M_fitOf := ⟨tw_8_5, tw_1_9, ⟨by decide, by decide⟩, by decide +kernel, Or.inl tw_8_2, (fun h => by cases h), (fun _ => ⟨tw_8_4, tw_0_82, TX12, 71, rfl⟩), (fun h => by cases h)⟩





theorem tk_M_partOf : ∀ pc i nx tg, T_M_partOf pc = some (i, nx, tg) → mOkB prog_14_method_77_code pc i nx tg = true := code_ok (N := 110) (fun k h => by unfold T_M_partOf; rw [h]; rfl) (by decide +kernel)
theorem ok_M_partOf (l : Launch) : mPOK l "ClothWithManModel" prog_14_method_77_code P_M_partOf := by
  refine ⟨tk_M_partOf, ?_, ?_, ?_, (fun pc i nx tg kd _ h => by cases h), ?_, ?_, fun pc en h => by cases h⟩
  · intro x ci f ty fin h
    exact mLook_all (Q := fun x v => mFOK "ClothWithManModel" x v.1 v.2.1 v.2.2.1 v.2.2.2 ∧ (v.2.2.2 = true → pIni P_M_partOf = true → (Cond.fieldLink "ClothWithManModel" x (((mCl[v.1]?).getD ("", fun _ => ("", "", "", false), 0)).2.1 v.2.1).1 (((mCl[v.1]?).getD ("", fun _ => ("", "", "", false), 0)).2.1 v.2.1).2.1 (((mCl[v.1]?).getD ("", fun _ => ("", "", "", false), 0)).2.1 v.2.1).2.2.1 ∈ lw_tbl ∧ (((mCl[v.1]?).getD ("", fun _ => ("", "", "", false), 0)).2.1 v.2.1).1 = "ClothWithManModel"))) (fcC ⟨fo_M_47, fun h1 h2 => by cases h2⟩ (fcC ⟨fo_M_185, fun h1 h2 => by cases h1⟩ (fcC ⟨fo_M_394, fun h1 h2 => by cases h1⟩ fcN))) x (ci, f, ty, fin) h
  · intro x
    have hh := mLook_all (l := ([] : List (Nat × (Int32 ⊕ Int64)))) (Q := fun x (v : Int32 ⊕ Int64) => (∀ w, v = .inl w → Cond.constant "ClothWithManModel" x w ∈ lw_tbl) ∧ (∀ w, v = .inr w → Cond.constantLong "ClothWithManModel" x w ∈ lw_tbl)) fcN x
    exact ⟨fun w h => (hh _ h).1 w rfl, fun w h => (hh _ h).2 w rfl⟩
  · exact fun x en h => mLook_all (Q := fun x en => mLink "ClothWithManModel" x en ∧ mCtr l en ∧ (en.1.1 = 2 → en.2.2.2.2.2.2 = none)) (fcC ⟨li_M_285, c_M_spanOf l, (fun h => by cases h)⟩ (fcC ⟨li_M_292, c_M_likenessOf l, (fun h => by cases h)⟩ (fcC ⟨li_M_301, c_M_has l, (fun h => by cases h)⟩ (fcC ⟨li_M_391, c_M_wouldOf l, (fun h => by cases h)⟩ (fcC ⟨li_M_397, c_M_fitOf l, (fun h => by cases h)⟩ fcN))))) x en h
  · exact fun x kd h => mLook_all (Q := fun x kd => (kd = 95 ∧ Cond.fieldLink "ClothWithManModel" x "ClothWithMan" "LIKENESSES" "[I" ∈ lw_tbl) ∨ (kd = 96 ∧ Cond.fieldLink "ClothWithManModel" x "ClothWithMan" "APART_BOUNDS" "[I" ∈ lw_tbl)) fcN x kd h
  · exact fun x ci h => mLook_all (Q := fun x ci => ci ≠ 0 ∧ ∃ (C : String) (T : u_T) (N : Nat), mCl[ci]? = some (C, T, N) ∧ Cond.classLink "ClothWithManModel" x C ∈ lw_tbl ∧ Cond.instantiable C N ∈ lw_tbl) fcN x ci h
set_option maxRecDepth 100000 in
theorem c_M_partOf (l : Launch) : mCtr l E_M_partOf := mCtr_of (P := P_M_partOf) (own := "ClothWithManModel") mLay_ok rfl (by decide +kernel) rfl (ok_M_partOf l) (fun h => by cases h) (fun as σ pr rv σ' hF hpr hlv => by
  unfold E_M_partOf S_M_partOf at hF
  simp only [] at hF
  split at hF
  · cases hF
    obtain ⟨n, pcF, c1, s1, g1, g2, g3, g4⟩ := mF_inv (d_M_partOf _ _ _ _ σ (hpr _ rfl))
    exact ⟨Nat.le_of_ble_eq_true rfl, (fun v h => by cases h; trivial), n, pcF, c1, s1, g1, mEnd_of (i := .lreturn) (P := P_M_partOf) (rets := [109]) rfl g2, g3, g4⟩
  · cases hF
    exact (hpr _ rfl).elim)
/-! ClothWithManModel.storyWeight(III)J -/
noncomputable def t_M_storyWeight_33 (x1 : Int32) (x2 : Int32) (x3 : Int32) (c : Int32) (σ : MSto) (s : Int64) : Int64 := (if 200 ≤ c then s else (s + (v_M_partOf x1 x2 c x3 σ)))
noncomputable def q_M_storyWeight_33s (x1 : Int32) (x2 : Int32) (x3 : Int32) (c : Int32) (σ : MSto) (s : Int64) : Nat := (if 200 ≤ c then 1 else 0)
def g_M_storyWeight_33 (x1 : Int32) (x2 : Int32) (x3 : Int32) (c : Int32) (σ : MSto) (s : Int64) : Prop := (¬ (200 ≤ c) → (p_M_partOf x1 x2 c x3 σ))
noncomputable def f_M_storyWeight_33 (x1 : Int32) (x2 : Int32) (x3 : Int32) (c0 : Int32) (σ : MSto) (s0 : Int64) (n : Nat) : Int64 := nfold (fun i s => t_M_storyWeight_33 x1 x2 x3 (c0 + nI i) σ s) s0 n
noncomputable def n_M_storyWeight_33 (x1 : Int32) (x2 : Int32) (x3 : Int32) (c0 : Int32) (σ : MSto) (s0 : Int64) : Nat := 200
noncomputable def v_M_storyWeight (a1 : Int32) (a2 : Int32) (a3 : Int32) (σ : MSto) : Int64 := (if (v_M_hasTerm a1 1 σ) = 0 then (f_M_storyWeight_33 a1 a2 a3 0 σ 0 (n_M_storyWeight_33 a1 a2 a3 0 σ 0)) else ((v_M_partOf a1 a2 (gI σ 52 0 (Int32.toNatClampNeg a1)) a3 σ) * 200))
def p_M_storyWeight (a1 : Int32) (a2 : Int32) (a3 : Int32) (σ : MSto) : Prop := ((p_M_hasTerm a1 1 σ) ∧ ((((v_M_hasTerm a1 1 σ) = 0) → ((∀ i, i < (n_M_storyWeight_33 a1 a2 a3 0 σ 0) → g_M_storyWeight_33 a1 a2 a3 (0 + nI i) σ (f_M_storyWeight_33 a1 a2 a3 0 σ 0 i) ∧ ¬ q_M_storyWeight_33s a1 a2 a3 (0 + nI i) σ (f_M_storyWeight_33 a1 a2 a3 0 σ 0 i) = 1) ∧ (¬ (200 ≤ (0 + nI (n_M_storyWeight_33 a1 a2 a3 0 σ 0))) → False))) ∧ (¬ ((v_M_hasTerm a1 1 σ) = 0) → ((vp_in a1 6) ∧ (p_M_partOf a1 a2 (gI σ 52 0 (Int32.toNatClampNeg a1)) a3 σ)))))
noncomputable def S_M_storyWeight : List MV → MSto → Option Prop × Option MV × MSto := fun as σ => match as with
  | [.inr (.inr (some (13, 0))), .inl a0, .inl a1, .inl a2] => (some (p_M_storyWeight a0 a1 a2 σ), some (mJ (v_M_storyWeight a0 a1 a2 σ)), σ)
  | _ => (some False, none, σ)
noncomputable def E_M_storyWeight : MEnt := ((1, 3, 13), (5, 127, 0, 0), S_M_storyWeight, ((⟨"ClothWithManModel", "storyWeight", "(III)J"⟩ : MethodName), prog_14_method_78_code, 7, (some .long)))

def T_M_storyWeight : Nat → Option (Instr × Nat × List Nat) := fun k => bif Nat.blt k 64 then (bif Nat.blt k 28 then (bif Nat.blt k 13 then (bif Nat.blt k 6 then (bif Nat.blt k 2 then (bif Nat.blt k 1 then (bif Nat.beq k 0 then some (.aload_n 0, 1, []) else none) else (bif Nat.beq k 1 then some (.iload_n 1, 2, []) else none)) else (bif Nat.blt k 3 then (bif Nat.beq k 2 then some (.iconst 1, 3, []) else none) else (bif Nat.beq k 3 then some (.invokevirtual 384, 6, []) else none))) else (bif Nat.blt k 10 then (bif Nat.blt k 9 then (bif Nat.beq k 6 then some (.ifCond .eq 21, 9, [27]) else none) else (bif Nat.beq k 9 then some (.aload_n 0, 10, []) else none)) else (bif Nat.blt k 11 then (bif Nat.beq k 10 then some (.iload_n 1, 11, []) else none) else (bif Nat.blt k 12 then (bif Nat.beq k 11 then some (.iload_n 2, 12, []) else none) else (bif Nat.beq k 12 then some (.aload_n 0, 13, []) else none))))) else (bif Nat.blt k 19 then (bif Nat.blt k 17 then (bif Nat.blt k 16 then (bif Nat.beq k 13 then some (.getfield 50, 16, []) else none) else (bif Nat.beq k 16 then some (.iload_n 1, 17, []) else none)) else (bif Nat.blt k 18 then (bif Nat.beq k 17 then some (.iaload, 18, []) else none) else (bif Nat.beq k 18 then some (.iload_n 3, 19, []) else none))) else (bif Nat.blt k 25 then (bif Nat.blt k 22 then (bif Nat.beq k 19 then some (.invokevirtual 400, 22, []) else none) else (bif Nat.beq k 22 then some (.ldc2_w 404, 25, []) else none)) else (bif Nat.blt k 26 then (bif Nat.beq k 25 then some (.lmul, 26, []) else none) else (bif Nat.blt k 27 then (bif Nat.beq k 26 then some (.lreturn, 27, []) else none) else (bif Nat.beq k 27 then some (.lconst 0, 28, []) else none)))))) else (bif Nat.blt k 45 then (bif Nat.blt k 35 then (bif Nat.blt k 31 then (bif Nat.blt k 30 then (bif Nat.beq k 28 then some (.lstore 4, 30, []) else none) else (bif Nat.beq k 30 then some (.iconst 0, 31, []) else none)) else (bif Nat.blt k 33 then (bif Nat.beq k 31 then some (.istore 6, 33, []) else none) else (bif Nat.beq k 33 then some (.iload 6, 35, []) else none))) else (bif Nat.blt k 41 then (bif Nat.blt k 38 then (bif Nat.beq k 35 then some (.sipush 200, 38, []) else none) else (bif Nat.beq k 38 then some (.if_icmp .ge 23, 41, [61]) else none)) else (bif Nat.blt k 43 then (bif Nat.beq k 41 then some (.lload 4, 43, []) else none) else (bif Nat.blt k 44 then (bif Nat.beq k 43 then some (.aload_n 0, 44, []) else none) else (bif Nat.beq k 44 then some (.iload_n 1, 45, []) else none))))) else (bif Nat.blt k 53 then (bif Nat.blt k 48 then (bif Nat.blt k 46 then (bif Nat.beq k 45 then some (.iload_n 2, 46, []) else none) else (bif Nat.beq k 46 then some (.iload 6, 48, []) else none)) else (bif Nat.blt k 49 then (bif Nat.beq k 48 then some (.iload_n 3, 49, []) else none) else (bif Nat.blt k 52 then (bif Nat.beq k 49 then some (.invokevirtual 400, 52, []) else none) else (bif Nat.beq k 52 then some (.ladd, 53, []) else none)))) else (bif Nat.blt k 58 then (bif Nat.blt k 55 then (bif Nat.beq k 53 then some (.lstore 4, 55, []) else none) else (bif Nat.beq k 55 then some (.iinc 6 1, 58, []) else none)) else (bif Nat.blt k 61 then (bif Nat.beq k 58 then some (.goto (-25), 61, [33]) else none) else (bif Nat.blt k 63 then (bif Nat.beq k 61 then some (.lload 4, 63, []) else none) else (bif Nat.beq k 63 then some (.lreturn, 64, []) else none))))))) else none
noncomputable def P_M_storyWeight : MP := (T_M_storyWeight, (fun k => mLook k [(50, (13, 18, (.array .int), true))]), (fun k => mLook k [(404, .inr 200)]), (fun k => mLook k [(384, E_M_hasTerm), (400, E_M_partOf)]), (fun k => mLook k []), (fun k => mLook k []), (fun k => mLook k []), (fun k => mLook k [(33, [true, true, true, true, true, false, true])]), (fun k => [26, 63].any (Nat.beq k)), (5, 127, 0, 0), false, (fun _ => none))
set_option maxRecDepth 100000 in
set_option maxHeartbeats 4000000 in
theorem q_M_storyWeight_e (a1 : Int32) (a2 : Int32) (a3 : Int32) (σ : MSto) (n : Nat) : mexe KT P_M_storyWeight (n + 1) (0, [some (mR 13 0), some (mI a1), some (mI a2), some (mI a3), none, none, none], [], σ, 0, 0) = mG (p_M_hasTerm a1 1 σ) (mIf ((v_M_hasTerm a1 1 σ) = 0) (mexe KT P_M_storyWeight n (33, [some (mR 13 0), some (mI a1), some (mI a2), some (mI a3), some (mJ 0), none, some (mI 0)], [], σ, 0, 0)) (mG (vp_in a1 6) (mG (p_M_partOf a1 a2 (gI σ 52 0 (Int32.toNatClampNeg a1)) a3 σ) (some (26, [], [(mJ ((v_M_partOf a1 a2 (gI σ 52 0 (Int32.toNatClampNeg a1)) a3 σ) * 200))], σ, 0, 0))))) := rfl
set_option maxRecDepth 100000 in
set_option maxHeartbeats 4000000 in
theorem q_M_storyWeight_33 (x1 : Int32) (x2 : Int32) (x3 : Int32) (x4 : Int64) (x6 : Int32) (σ : MSto) (n : Nat) : mexe KT P_M_storyWeight (n + 1) (33, [some (mR 13 0), some (mI x1), some (mI x2), some (mI x3), some (mJ x4), none, some (mI x6)], [], σ, 0, 0) = mIf (200 ≤ x6) (some (63, [], [(mJ x4)], σ, 0, 0)) (mG (p_M_partOf x1 x2 x6 x3 σ) (mexe KT P_M_storyWeight n (33, [some (mR 13 0), some (mI x1), some (mI x2), some (mI x3), some (mJ (x4 + (v_M_partOf x1 x2 x6 x3 σ))), none, some (mI (x6 + 1))], [], σ, 0, 0))) := rfl
set_option maxRecDepth 100000 in
theorem lt_M_storyWeight_33 {Post : MST → Prop} (x1 : Int32) (x2 : Int32) (x3 : Int32) (c : Int32) (σ : MSto) (s : Int64) (hp : g_M_storyWeight_33 x1 x2 x3 c σ s) (hq : ¬ q_M_storyWeight_33s x1 x2 x3 c σ s = 1) (hn : ∀ r, t_M_storyWeight_33 x1 x2 x3 c σ s = r → mW1 P_M_storyWeight (33, [some (mR 13 0), some (mI x1), some (mI x2), some (mI x3), some (mJ r), none, some (mI (c + 1))], [], σ, 0, 0) Post) : mW1 P_M_storyWeight (33, [some (mR 13 0), some (mI x1), some (mI x2), some (mI x3), some (mJ s), none, some (mI c)], [], σ, 0, 0) Post := by
  unfold g_M_storyWeight_33 at hp
  refine mW1_eq (q_M_storyWeight_33 _ _ _ _ _ _) ?_
  refine mTr_if (fun h0 => ?_) (fun h0 => ?_)
  · skip
    exact absurd (if_pos h0) hq
  · skip
    have hp := hp h0
    refine mTr_g hp ?_
    exact mTr_k (hn (s + (v_M_partOf x1 x2 c x3 σ)) (if_neg h0))
theorem lp_M_storyWeight_33 {Post : MST → Prop} (x1 : Int32) (x2 : Int32) (x3 : Int32) (c0 : Int32) (σ : MSto) (s0 : Int64) (N : Nat) (hb : ∀ i, i < N → g_M_storyWeight_33 x1 x2 x3 (c0 + nI i) σ (f_M_storyWeight_33 x1 x2 x3 c0 σ s0 i) ∧ ¬ q_M_storyWeight_33s x1 x2 x3 (c0 + nI i) σ (f_M_storyWeight_33 x1 x2 x3 c0 σ s0 i) = 1) (h : mW1 P_M_storyWeight (33, [some (mR 13 0), some (mI x1), some (mI x2), some (mI x3), some (mJ (f_M_storyWeight_33 x1 x2 x3 c0 σ s0 N)), none, some (mI (c0 + nI N))], [], σ, 0, 0) Post) : mW1 P_M_storyWeight (33, [some (mR 13 0), some (mI x1), some (mI x2), some (mI x3), some (mJ s0), none, some (mI c0)], [], σ, 0, 0) Post := by
  refine mW1_st (mW1_loop (fun i => (33, [some (mR 13 0), some (mI x1), some (mI x2), some (mI x3), some (mJ (f_M_storyWeight_33 x1 x2 x3 c0 σ s0 i)), none, some (mI (c0 + nI i))], [], σ, 0, 0)) N (fun i hlt hn => ?_) h) (by rw [show nI 0 = 0 from rfl, Int32.add_zero] <;> rfl)
  refine lt_M_storyWeight_33 x1 x2 x3 _ σ _ (hb i hlt).1 (hb i hlt).2 (fun r hr => ?_)
  rw [Int32.add_assoc, nI_s]
  subst hr
  exact hn
set_option maxRecDepth 100000 in
set_option maxHeartbeats 4000000 in
theorem d_M_storyWeight (a1 : Int32) (a2 : Int32) (a3 : Int32) (σ : MSto) (hp : p_M_storyWeight a1 a2 a3 σ) : mW1 P_M_storyWeight (0, [some (mR 13 0), some (mI a1), some (mI a2), some (mI a3), none, none, none], [], σ, 0, 0) (mF [26, 63] [mJ (v_M_storyWeight a1 a2 a3 σ)] σ 0 0) := by
  refine mW1_eq (q_M_storyWeight_e _ _ _ _) ?_
  unfold p_M_storyWeight at hp
  refine mTr_g hp.1 ?_
  have hp := hp.2
  refine mTr_if (fun h0 => ?_) (fun h0 => ?_)
  · skip
    have hp := hp.1 h0
    refine mTr_k (lp_M_storyWeight_33 a1 a2 a3 0 σ 0 (n_M_storyWeight_33 a1 a2 a3 0 σ 0) hp.1 ?_)
    have hp := hp.2
    refine mW1_eq (q_M_storyWeight_33 _ _ _ _ _ _) ?_
    refine mTr_if (fun h1 => ?_) (fun h1 => ?_)
    · skip
      exact mTr_e (by decide) (congrArg (fun z => [mJ z]) (Eq.symm (if_pos h0))) rfl (by decide) (by decide)
    · skip
      have hp := hp h1
      exact hp.elim
  · skip
    have hp := hp.2 h0
    refine mTr_g hp.1 ?_
    have hp := hp.2
    refine mTr_g hp ?_
    exact mTr_e (by decide) (congrArg (fun z => [mJ z]) (Eq.symm (if_neg h0))) rfl (by decide) (by decide)
theorem li_M_400 : mLink "ClothWithManModel" 400 E_M_partOf := ⟨tw_8_1, tw_1_9, ⟨by decide, by decide⟩, by decide +kernel, Or.inl tw_7_238, (fun h => by cases h), (fun _ => ⟨tw_8_0, tw_0_81, TX12, 71, rfl⟩), (fun h => by cases h)⟩


theorem tk_M_storyWeight : ∀ pc i nx tg, T_M_storyWeight pc = some (i, nx, tg) → mOkB prog_14_method_78_code pc i nx tg = true := code_ok (N := 64) (fun k h => by unfold T_M_storyWeight; rw [h]; rfl) (by decide +kernel)
theorem ok_M_storyWeight (l : Launch) : mPOK l "ClothWithManModel" prog_14_method_78_code P_M_storyWeight := by
  refine ⟨tk_M_storyWeight, ?_, ?_, ?_, (fun pc i nx tg kd _ h => by cases h), ?_, ?_, fun pc en h => by cases h⟩
  · intro x ci f ty fin h
    exact mLook_all (Q := fun x v => mFOK "ClothWithManModel" x v.1 v.2.1 v.2.2.1 v.2.2.2 ∧ (v.2.2.2 = true → pIni P_M_storyWeight = true → (Cond.fieldLink "ClothWithManModel" x (((mCl[v.1]?).getD ("", fun _ => ("", "", "", false), 0)).2.1 v.2.1).1 (((mCl[v.1]?).getD ("", fun _ => ("", "", "", false), 0)).2.1 v.2.1).2.1 (((mCl[v.1]?).getD ("", fun _ => ("", "", "", false), 0)).2.1 v.2.1).2.2.1 ∈ lw_tbl ∧ (((mCl[v.1]?).getD ("", fun _ => ("", "", "", false), 0)).2.1 v.2.1).1 = "ClothWithManModel"))) (fcC ⟨fo_M_50, fun h1 h2 => by cases h2⟩ fcN) x (ci, f, ty, fin) h
  · intro x
    have hh := mLook_all (l := ([(404, .inr 200)] : List (Nat × (Int32 ⊕ Int64)))) (Q := fun x (v : Int32 ⊕ Int64) => (∀ w, v = .inl w → Cond.constant "ClothWithManModel" x w ∈ lw_tbl) ∧ (∀ w, v = .inr w → Cond.constantLong "ClothWithManModel" x w ∈ lw_tbl)) (fcC ⟨(fun v h => by cases h), fun v h => by cases h; exact tw_8_6⟩ fcN) x
    exact ⟨fun w h => (hh _ h).1 w rfl, fun w h => (hh _ h).2 w rfl⟩
  · exact fun x en h => mLook_all (Q := fun x en => mLink "ClothWithManModel" x en ∧ mCtr l en ∧ (en.1.1 = 2 → en.2.2.2.2.2.2 = none)) (fcC ⟨li_M_384, c_M_hasTerm l, (fun h => by cases h)⟩ (fcC ⟨li_M_400, c_M_partOf l, (fun h => by cases h)⟩ fcN)) x en h
  · exact fun x kd h => mLook_all (Q := fun x kd => (kd = 95 ∧ Cond.fieldLink "ClothWithManModel" x "ClothWithMan" "LIKENESSES" "[I" ∈ lw_tbl) ∨ (kd = 96 ∧ Cond.fieldLink "ClothWithManModel" x "ClothWithMan" "APART_BOUNDS" "[I" ∈ lw_tbl)) fcN x kd h
  · exact fun x ci h => mLook_all (Q := fun x ci => ci ≠ 0 ∧ ∃ (C : String) (T : u_T) (N : Nat), mCl[ci]? = some (C, T, N) ∧ Cond.classLink "ClothWithManModel" x C ∈ lw_tbl ∧ Cond.instantiable C N ∈ lw_tbl) fcN x ci h
set_option maxRecDepth 100000 in
theorem c_M_storyWeight (l : Launch) : mCtr l E_M_storyWeight := mCtr_of (P := P_M_storyWeight) (own := "ClothWithManModel") mLay_ok rfl (by decide +kernel) rfl (ok_M_storyWeight l) (fun h => by cases h) (fun as σ pr rv σ' hF hpr hlv => by
  unfold E_M_storyWeight S_M_storyWeight at hF
  simp only [] at hF
  split at hF
  · cases hF
    obtain ⟨n, pcF, c1, s1, g1, g2, g3, g4⟩ := mF_inv (d_M_storyWeight _ _ _ σ (hpr _ rfl))
    exact ⟨Nat.le_of_ble_eq_true rfl, (fun v h => by cases h; trivial), n, pcF, c1, s1, g1, mEnd_of (i := .lreturn) (P := P_M_storyWeight) (rets := [26, 63]) rfl g2, g3, g4⟩
  · cases hF
    exact (hpr _ rfl).elim)
/-! ClothWithManModel.weighStories(II)I -/
noncomputable def tj_M_weighStories_6j39 (x1 : Int32) (x2 : Int32) (x3 : Int32) (x4 : Int32) (σ : MSto) (s : Int32 × MSto) : Int32 × MSto := (if 0 ≤ x3 then (if (lg_cmp (gJ σ 85 0 (Int32.toNatClampNeg x4)) (gJ σ 85 0 (Int32.toNatClampNeg x3))) ≤ 0 then (x3, σ) else (x4, σ)) else (if (lg_cmp (gJ σ 85 0 (Int32.toNatClampNeg x4)) 0) ≤ 0 then (x3, σ) else (x4, σ)))
noncomputable def qj_M_weighStories_6j39 (x1 : Int32) (x2 : Int32) (x3 : Int32) (x4 : Int32) (σ : MSto) : Nat := 0
def gj_M_weighStories_6j39 (x1 : Int32) (x2 : Int32) (x3 : Int32) (x4 : Int32) (σ : MSto) : Prop := ((vp_in x4 6) ∧ ((0 ≤ x3) → (vp_in x3 6)))
noncomputable def t_M_weighStories_6 (x1 : Int32) (x2 : Int32) (c : Int32) (s : Int32 × MSto) : Int32 × MSto := (if (gI (s.2) 13 0 17) ≤ c then s else (tj_M_weighStories_6j39 x1 x2 (s.1) c (sJ (s.2) 85 0 (Int32.toNatClampNeg c) ((Int32.toInt64 (gI (s.2) 60 0 (Int32.toNatClampNeg c))) * (v_M_storyWeight c x1 x2 (s.2)))) s))
noncomputable def q_M_weighStories_6s (x1 : Int32) (x2 : Int32) (c : Int32) (s : Int32 × MSto) : Nat := (if (gI (s.2) 13 0 17) ≤ c then 1 else 0)
def g_M_weighStories_6 (x1 : Int32) (x2 : Int32) (c : Int32) (s : Int32 × MSto) : Prop := (¬ ((gI (s.2) 13 0 17) ≤ c) → ((vp_in c 6) ∧ ((p_M_storyWeight c x1 x2 (s.2)) ∧ ((vp_in c 6) ∧ (gj_M_weighStories_6j39 x1 x2 (s.1) c (sJ (s.2) 85 0 (Int32.toNatClampNeg c) ((Int32.toInt64 (gI (s.2) 60 0 (Int32.toNatClampNeg c))) * (v_M_storyWeight c x1 x2 (s.2)))))))))
noncomputable def f_M_weighStories_6 (x1 : Int32) (x2 : Int32) (c0 : Int32) (s0 : Int32 × MSto) (n : Nat) : Int32 × MSto := nfold (fun i s => t_M_weighStories_6 x1 x2 (c0 + nI i) s) s0 n
noncomputable def n_M_weighStories_6 (x1 : Int32) (x2 : Int32) (c0 : Int32) (s0 : Int32 × MSto) : Nat := nM (s0.2) 17
noncomputable def v_M_weighStories (a1 : Int32) (a2 : Int32) (σ : MSto) : Int32 := ((f_M_weighStories_6 a1 a2 0 ((-2), σ) (n_M_weighStories_6 a1 a2 0 ((-2), σ))).1)
def p_M_weighStories (a1 : Int32) (a2 : Int32) (σ : MSto) : Prop := ((∀ i, i < (n_M_weighStories_6 a1 a2 0 ((-2), σ)) → g_M_weighStories_6 a1 a2 (0 + nI i) (f_M_weighStories_6 a1 a2 0 ((-2), σ) i) ∧ ¬ q_M_weighStories_6s a1 a2 (0 + nI i) (f_M_weighStories_6 a1 a2 0 ((-2), σ) i) = 1) ∧ (¬ ((gI ((f_M_weighStories_6 a1 a2 0 ((-2), σ) (n_M_weighStories_6 a1 a2 0 ((-2), σ))).2) 13 0 17) ≤ (0 + nI (n_M_weighStories_6 a1 a2 0 ((-2), σ)))) → False))
noncomputable def e_M_weighStories (a1 : Int32) (a2 : Int32) (σ : MSto) : MSto := ((f_M_weighStories_6 a1 a2 0 ((-2), σ) (n_M_weighStories_6 a1 a2 0 ((-2), σ))).2)
noncomputable def S_M_weighStories : List MV → MSto → Option Prop × Option MV × MSto := fun as σ => match as with
  | [.inr (.inr (some (13, 0))), .inl a0, .inl a1] => (some (p_M_weighStories a0 a1 σ), some (mI (v_M_weighStories a0 a1 σ)), e_M_weighStories a0 a1 σ)
  | _ => (some False, none, σ)
noncomputable def E_M_weighStories : MEnt := ((1, 2, 13), (6, 153, 0, 0), S_M_weighStories, ((⟨"ClothWithManModel", "weighStories", "(II)I"⟩ : MethodName), prog_14_method_79_code, 5, (some .int)))

def T_M_weighStories : Nat → Option (Instr × Nat × List Nat) := fun k => bif Nat.blt k 75 then (bif Nat.blt k 37 then (bif Nat.blt k 19 then (bif Nat.blt k 8 then (bif Nat.blt k 3 then (bif Nat.blt k 2 then (bif Nat.beq k 0 then some (.bipush (-2), 2, []) else none) else (bif Nat.beq k 2 then some (.istore_n 3, 3, []) else none)) else (bif Nat.blt k 4 then (bif Nat.beq k 3 then some (.iconst 0, 4, []) else none) else (bif Nat.blt k 6 then (bif Nat.beq k 4 then some (.istore 4, 6, []) else none) else (bif Nat.beq k 6 then some (.iload 4, 8, []) else none)))) else (bif Nat.blt k 12 then (bif Nat.blt k 9 then (bif Nat.beq k 8 then some (.aload_n 0, 9, []) else none) else (bif Nat.beq k 9 then some (.getfield 188, 12, []) else none)) else (bif Nat.blt k 15 then (bif Nat.beq k 12 then some (.if_icmp .ge 61, 15, [73]) else none) else (bif Nat.blt k 16 then (bif Nat.beq k 15 then some (.aload_n 0, 16, []) else none) else (bif Nat.beq k 16 then some (.getfield 155, 19, []) else none))))) else (bif Nat.blt k 28 then (bif Nat.blt k 22 then (bif Nat.blt k 21 then (bif Nat.beq k 19 then some (.iload 4, 21, []) else none) else (bif Nat.beq k 21 then some (.aload_n 0, 22, []) else none)) else (bif Nat.blt k 25 then (bif Nat.beq k 22 then some (.getfield 74, 25, []) else none) else (bif Nat.blt k 27 then (bif Nat.beq k 25 then some (.iload 4, 27, []) else none) else (bif Nat.beq k 27 then some (.iaload, 28, []) else none)))) else (bif Nat.blt k 32 then (bif Nat.blt k 29 then (bif Nat.beq k 28 then some (.i2l, 29, []) else none) else (bif Nat.blt k 30 then (bif Nat.beq k 29 then some (.aload_n 0, 30, []) else none) else (bif Nat.beq k 30 then some (.iload 4, 32, []) else none))) else (bif Nat.blt k 33 then (bif Nat.beq k 32 then some (.iload_n 1, 33, []) else none) else (bif Nat.blt k 34 then (bif Nat.beq k 33 then some (.iload_n 2, 34, []) else none) else (bif Nat.beq k 34 then some (.invokevirtual 406, 37, []) else none)))))) else (bif Nat.blt k 55 then (bif Nat.blt k 45 then (bif Nat.blt k 39 then (bif Nat.blt k 38 then (bif Nat.beq k 37 then some (.lmul, 38, []) else none) else (bif Nat.beq k 38 then some (.lastore, 39, []) else none)) else (bif Nat.blt k 40 then (bif Nat.beq k 39 then some (.aload_n 0, 40, []) else none) else (bif Nat.blt k 43 then (bif Nat.beq k 40 then some (.getfield 155, 43, []) else none) else (bif Nat.beq k 43 then some (.iload 4, 45, []) else none)))) else (bif Nat.blt k 50 then (bif Nat.blt k 46 then (bif Nat.beq k 45 then some (.laload, 46, []) else none) else (bif Nat.blt k 47 then (bif Nat.beq k 46 then some (.iload_n 3, 47, []) else none) else (bif Nat.beq k 47 then some (.ifCond .ge 7, 50, [54]) else none))) else (bif Nat.blt k 51 then (bif Nat.beq k 50 then some (.lconst 0, 51, []) else none) else (bif Nat.blt k 54 then (bif Nat.beq k 51 then some (.goto 9, 54, [60]) else none) else (bif Nat.beq k 54 then some (.aload_n 0, 55, []) else none))))) else (bif Nat.blt k 64 then (bif Nat.blt k 59 then (bif Nat.blt k 58 then (bif Nat.beq k 55 then some (.getfield 155, 58, []) else none) else (bif Nat.beq k 58 then some (.iload_n 3, 59, []) else none)) else (bif Nat.blt k 60 then (bif Nat.beq k 59 then some (.laload, 60, []) else none) else (bif Nat.blt k 61 then (bif Nat.beq k 60 then some (.lcmp, 61, []) else none) else (bif Nat.beq k 61 then some (.ifCond .le 6, 64, [67]) else none)))) else (bif Nat.blt k 70 then (bif Nat.blt k 66 then (bif Nat.beq k 64 then some (.iload 4, 66, []) else none) else (bif Nat.blt k 67 then (bif Nat.beq k 66 then some (.istore_n 3, 67, []) else none) else (bif Nat.beq k 67 then some (.iinc 4 1, 70, []) else none))) else (bif Nat.blt k 73 then (bif Nat.beq k 70 then some (.goto (-64), 73, [6]) else none) else (bif Nat.blt k 74 then (bif Nat.beq k 73 then some (.iload_n 3, 74, []) else none) else (bif Nat.beq k 74 then some (.ireturn, 75, []) else none))))))) else none
noncomputable def P_M_weighStories : MP := (T_M_weighStories, (fun k => mLook k [(74, (13, 26, (.array .int), true)), (155, (13, 69, (.array .long), true)), (188, (13, 17, .int, false))]), (fun k => mLook k []), (fun k => mLook k [(406, E_M_storyWeight)]), (fun k => mLook k []), (fun k => mLook k []), (fun k => mLook k []), (fun k => mLook k [(6, [true, true, true, true, true]), (39, [true, true, true, true, true])]), (fun k => [74].any (Nat.beq k)), (6, 153, 0, 0), false, (fun _ => none))
set_option maxRecDepth 100000 in
set_option maxHeartbeats 4000000 in
theorem q_M_weighStories_e (a1 : Int32) (a2 : Int32) (σ : MSto) (n : Nat) : mexe KT P_M_weighStories (n + 1) (0, [some (mR 13 0), some (mI a1), some (mI a2), none, none], [], σ, 0, 0) = mexe KT P_M_weighStories n (6, [some (mR 13 0), some (mI a1), some (mI a2), some (mI (-2)), some (mI 0)], [], σ, 0, 0) := rfl
set_option maxRecDepth 100000 in
set_option maxHeartbeats 4000000 in
theorem q_M_weighStories_6 (x1 : Int32) (x2 : Int32) (x3 : Int32) (x4 : Int32) (σ : MSto) (n : Nat) : mexe KT P_M_weighStories (n + 1) (6, [some (mR 13 0), some (mI x1), some (mI x2), some (mI x3), some (mI x4)], [], σ, 0, 0) = mIf ((gI σ 13 0 17) ≤ x4) (some (74, [], [(mI x3)], σ, 0, 0)) (mG (vp_in x4 6) (mG (p_M_storyWeight x4 x1 x2 σ) (mG (vp_in x4 6) (mexe KT P_M_weighStories n (39, [some (mR 13 0), some (mI x1), some (mI x2), some (mI x3), some (mI x4)], [], (sJ σ 85 0 (Int32.toNatClampNeg x4) ((Int32.toInt64 (gI σ 60 0 (Int32.toNatClampNeg x4))) * (v_M_storyWeight x4 x1 x2 σ))), 0, 0))))) := rfl
set_option maxRecDepth 100000 in
set_option maxHeartbeats 4000000 in
theorem q_M_weighStories_39 (x1 : Int32) (x2 : Int32) (x3 : Int32) (x4 : Int32) (σ : MSto) (n : Nat) : mexe KT P_M_weighStories (n + 1) (39, [some (mR 13 0), some (mI x1), some (mI x2), some (mI x3), some (mI x4)], [], σ, 0, 0) = mG (vp_in x4 6) (mIf (0 ≤ x3) (mG (vp_in x3 6) (mIf ((lg_cmp (gJ σ 85 0 (Int32.toNatClampNeg x4)) (gJ σ 85 0 (Int32.toNatClampNeg x3))) ≤ 0) (mexe KT P_M_weighStories n (6, [some (mR 13 0), some (mI x1), some (mI x2), some (mI x3), some (mI (x4 + 1))], [], σ, 0, 0)) (mexe KT P_M_weighStories n (6, [some (mR 13 0), some (mI x1), some (mI x2), some (mI x4), some (mI (x4 + 1))], [], σ, 0, 0)))) (mIf ((lg_cmp (gJ σ 85 0 (Int32.toNatClampNeg x4)) 0) ≤ 0) (mexe KT P_M_weighStories n (6, [some (mR 13 0), some (mI x1), some (mI x2), some (mI x3), some (mI (x4 + 1))], [], σ, 0, 0)) (mexe KT P_M_weighStories n (6, [some (mR 13 0), some (mI x1), some (mI x2), some (mI x4), some (mI (x4 + 1))], [], σ, 0, 0)))) := rfl
set_option maxRecDepth 100000 in
theorem lj_M_weighStories_6j39 {Post : MST → Prop} (x1 : Int32) (x2 : Int32) (x3 : Int32) (x4 : Int32) (σ : MSto) (s : Int32 × MSto) (hp : gj_M_weighStories_6j39 x1 x2 x3 x4 σ) (hq : ¬ 0 = 1) (hn : ∀ (r1 : Int32) (r2 : MSto), tj_M_weighStories_6j39 x1 x2 x3 x4 σ s = (r1, r2) → mW1 P_M_weighStories (6, [some (mR 13 0), some (mI x1), some (mI x2), some (mI r1), some (mI (x4 + 1))], [], r2, 0, 0) Post) : mW1 P_M_weighStories (39, [some (mR 13 0), some (mI x1), some (mI x2), some (mI x3), some (mI x4)], [], σ, 0, 0) Post := by
  unfold gj_M_weighStories_6j39 at hp
  refine mW1_eq (q_M_weighStories_39 _ _ _ _ _) ?_
  refine mTr_g hp.1 ?_
  have hp := hp.2
  refine mTr_if (fun h0 => ?_) (fun h0 => ?_)
  · skip
    have hp := hp h0
    refine mTr_g hp ?_
    refine mTr_if (fun h1 => ?_) (fun h1 => ?_)
    · skip
      exact mTr_k (hn x3 σ ((if_pos h0).trans (if_pos h1)))
    · skip
      exact mTr_k (hn x4 σ ((if_pos h0).trans (if_neg h1)))
  · skip
    refine mTr_if (fun h1 => ?_) (fun h1 => ?_)
    · skip
      exact mTr_k (hn x3 σ ((if_neg h0).trans (if_pos h1)))
    · skip
      exact mTr_k (hn x4 σ ((if_neg h0).trans (if_neg h1)))
set_option maxRecDepth 100000 in
theorem lt_M_weighStories_6 {Post : MST → Prop} (x1 : Int32) (x2 : Int32) (c : Int32) (s : Int32 × MSto) (hp : g_M_weighStories_6 x1 x2 c s) (hq : ¬ q_M_weighStories_6s x1 x2 c s = 1) (hn : ∀ (r1 : Int32) (r2 : MSto), t_M_weighStories_6 x1 x2 c s = (r1, r2) → mW1 P_M_weighStories (6, [some (mR 13 0), some (mI x1), some (mI x2), some (mI r1), some (mI (c + 1))], [], r2, 0, 0) Post) : mW1 P_M_weighStories (6, [some (mR 13 0), some (mI x1), some (mI x2), some (mI (s.1)), some (mI c)], [], (s.2), 0, 0) Post := by
  unfold g_M_weighStories_6 at hp
  refine mW1_eq (q_M_weighStories_6 _ _ _ _ _) ?_
  refine mTr_if (fun h0 => ?_) (fun h0 => ?_)
  · skip
    exact absurd (if_pos h0) hq
  · skip
    have hp := hp h0
    refine mTr_g hp.1 ?_
    have hp := hp.2
    refine mTr_g hp.1 ?_
    have hp := hp.2
    refine mTr_g hp.1 ?_
    have hp := hp.2
    exact mTr_k (lj_M_weighStories_6j39 x1 x2 (s.1) c (sJ (s.2) 85 0 (Int32.toNatClampNeg c) ((Int32.toInt64 (gI (s.2) 60 0 (Int32.toNatClampNeg c))) * (v_M_storyWeight c x1 x2 (s.2)))) s hp (fun z => hq ((if_neg h0).trans z)) (fun r1 r2 zr => hn r1 r2 ((if_neg h0).trans zr)))
theorem lp_M_weighStories_6 {Post : MST → Prop} (x1 : Int32) (x2 : Int32) (c0 : Int32) (s0 : Int32 × MSto) (N : Nat) (hb : ∀ i, i < N → g_M_weighStories_6 x1 x2 (c0 + nI i) (f_M_weighStories_6 x1 x2 c0 s0 i) ∧ ¬ q_M_weighStories_6s x1 x2 (c0 + nI i) (f_M_weighStories_6 x1 x2 c0 s0 i) = 1) (h : mW1 P_M_weighStories (6, [some (mR 13 0), some (mI x1), some (mI x2), some (mI ((f_M_weighStories_6 x1 x2 c0 s0 N).1)), some (mI (c0 + nI N))], [], ((f_M_weighStories_6 x1 x2 c0 s0 N).2), 0, 0) Post) : mW1 P_M_weighStories (6, [some (mR 13 0), some (mI x1), some (mI x2), some (mI (s0.1)), some (mI c0)], [], (s0.2), 0, 0) Post := by
  refine mW1_st (mW1_loop (fun i => (6, [some (mR 13 0), some (mI x1), some (mI x2), some (mI ((f_M_weighStories_6 x1 x2 c0 s0 i).1)), some (mI (c0 + nI i))], [], ((f_M_weighStories_6 x1 x2 c0 s0 i).2), 0, 0)) N (fun i hlt hn => ?_) h) (by rw [show nI 0 = 0 from rfl, Int32.add_zero] <;> rfl)
  refine lt_M_weighStories_6 x1 x2 _ _ (hb i hlt).1 (hb i hlt).2 (fun r1 r2 hr => ?_)
  rw [Int32.add_assoc, nI_s]
  have e : f_M_weighStories_6 x1 x2 c0 s0 (i + 1) = (r1, r2) := hr
  try dsimp only at hn
  rw [e] at hn
  exact hn
set_option maxRecDepth 100000 in
set_option maxHeartbeats 4000000 in
theorem d_M_weighStories (a1 : Int32) (a2 : Int32) (σ : MSto) (hp : p_M_weighStories a1 a2 σ) : mW1 P_M_weighStories (0, [some (mR 13 0), some (mI a1), some (mI a2), none, none], [], σ, 0, 0) (mF [74] [mI (v_M_weighStories a1 a2 σ)] (e_M_weighStories a1 a2 σ) 0 0) := by
  refine mW1_eq (q_M_weighStories_e _ _ _) ?_
  unfold p_M_weighStories at hp
  refine mTr_k (lp_M_weighStories_6 a1 a2 0 ((-2), σ) (n_M_weighStories_6 a1 a2 0 ((-2), σ)) hp.1 ?_)
  have hp := hp.2
  refine mW1_eq (q_M_weighStories_6 _ _ _ _ _) ?_
  refine mTr_if (fun h0 => ?_) (fun h0 => ?_)
  · skip
    exact mTr_e (by decide) (congrArg (fun z => [mI z]) (Eq.symm (rfl))) (Eq.symm (rfl)) (by decide) (by decide)
  · skip
    have hp := hp h0
    exact hp.elim
theorem li_M_406 : mLink "ClothWithManModel" 406 E_M_storyWeight := ⟨tw_7_237, tw_1_9, ⟨by decide, by decide⟩, by decide +kernel, Or.inl tw_7_234, (fun h => by cases h), (fun _ => ⟨tw_7_236, tw_0_80, TX12, 71, rfl⟩), (fun h => by cases h)⟩

theorem tk_M_weighStories : ∀ pc i nx tg, T_M_weighStories pc = some (i, nx, tg) → mOkB prog_14_method_79_code pc i nx tg = true := code_ok (N := 75) (fun k h => by unfold T_M_weighStories; rw [h]; rfl) (by decide +kernel)
theorem ok_M_weighStories (l : Launch) : mPOK l "ClothWithManModel" prog_14_method_79_code P_M_weighStories := by
  refine ⟨tk_M_weighStories, ?_, ?_, ?_, (fun pc i nx tg kd _ h => by cases h), ?_, ?_, fun pc en h => by cases h⟩
  · intro x ci f ty fin h
    exact mLook_all (Q := fun x v => mFOK "ClothWithManModel" x v.1 v.2.1 v.2.2.1 v.2.2.2 ∧ (v.2.2.2 = true → pIni P_M_weighStories = true → (Cond.fieldLink "ClothWithManModel" x (((mCl[v.1]?).getD ("", fun _ => ("", "", "", false), 0)).2.1 v.2.1).1 (((mCl[v.1]?).getD ("", fun _ => ("", "", "", false), 0)).2.1 v.2.1).2.1 (((mCl[v.1]?).getD ("", fun _ => ("", "", "", false), 0)).2.1 v.2.1).2.2.1 ∈ lw_tbl ∧ (((mCl[v.1]?).getD ("", fun _ => ("", "", "", false), 0)).2.1 v.2.1).1 = "ClothWithManModel"))) (fcC ⟨fo_M_74, fun h1 h2 => by cases h2⟩ (fcC ⟨fo_M_155, fun h1 h2 => by cases h2⟩ (fcC ⟨fo_M_188, fun h1 h2 => by cases h1⟩ fcN))) x (ci, f, ty, fin) h
  · intro x
    have hh := mLook_all (l := ([] : List (Nat × (Int32 ⊕ Int64)))) (Q := fun x (v : Int32 ⊕ Int64) => (∀ w, v = .inl w → Cond.constant "ClothWithManModel" x w ∈ lw_tbl) ∧ (∀ w, v = .inr w → Cond.constantLong "ClothWithManModel" x w ∈ lw_tbl)) fcN x
    exact ⟨fun w h => (hh _ h).1 w rfl, fun w h => (hh _ h).2 w rfl⟩
  · exact fun x en h => mLook_all (Q := fun x en => mLink "ClothWithManModel" x en ∧ mCtr l en ∧ (en.1.1 = 2 → en.2.2.2.2.2.2 = none)) (fcC ⟨li_M_406, c_M_storyWeight l, (fun h => by cases h)⟩ fcN) x en h
  · exact fun x kd h => mLook_all (Q := fun x kd => (kd = 95 ∧ Cond.fieldLink "ClothWithManModel" x "ClothWithMan" "LIKENESSES" "[I" ∈ lw_tbl) ∨ (kd = 96 ∧ Cond.fieldLink "ClothWithManModel" x "ClothWithMan" "APART_BOUNDS" "[I" ∈ lw_tbl)) fcN x kd h
  · exact fun x ci h => mLook_all (Q := fun x ci => ci ≠ 0 ∧ ∃ (C : String) (T : u_T) (N : Nat), mCl[ci]? = some (C, T, N) ∧ Cond.classLink "ClothWithManModel" x C ∈ lw_tbl ∧ Cond.instantiable C N ∈ lw_tbl) fcN x ci h
set_option maxRecDepth 100000 in
theorem c_M_weighStories (l : Launch) : mCtr l E_M_weighStories := mCtr_of (P := P_M_weighStories) (own := "ClothWithManModel") mLay_ok rfl (by decide +kernel) rfl (ok_M_weighStories l) (fun h => by cases h) (fun as σ pr rv σ' hF hpr hlv => by
  unfold E_M_weighStories S_M_weighStories at hF
  simp only [] at hF
  split at hF
  · cases hF
    obtain ⟨n, pcF, c1, s1, g1, g2, g3, g4⟩ := mF_inv (d_M_weighStories _ _ σ (hpr _ rfl))
    exact ⟨Nat.le_of_ble_eq_true rfl, (fun v h => by cases h; trivial), n, pcF, c1, s1, g1, ⟨mEnd_of (i := .ireturn) (P := P_M_weighStories) (rets := [74]) rfl g2, rfl⟩, g3, g4⟩
  · cases hF
    exact (hpr _ rfl).elim)
/-! ClothWithManModel.odds(I)I -/
noncomputable def t_M_odds_76 (x2 : Int32) (x3 : Int64) (c : Int32) (s : MSto) : MSto := (if (gI s 13 0 17) ≤ c then s else (e_M_tellPart (gJ s 85 0 (Int32.toNatClampNeg c)) x3 s))
noncomputable def q_M_odds_76s (x2 : Int32) (x3 : Int64) (c : Int32) (s : MSto) : Nat := (if (gI s 13 0 17) ≤ c then 1 else 0)
def g_M_odds_76 (x2 : Int32) (x3 : Int64) (c : Int32) (s : MSto) : Prop := (¬ ((gI s 13 0 17) ≤ c) → ((vp_in c 6) ∧ (p_M_tellPart (gJ s 85 0 (Int32.toNatClampNeg c)) x3 s)))
noncomputable def f_M_odds_76 (x2 : Int32) (x3 : Int64) (c0 : Int32) (s0 : MSto) (n : Nat) : MSto := nfold (fun i s => t_M_odds_76 x2 x3 (c0 + nI i) s) s0 n
noncomputable def n_M_odds_76 (x2 : Int32) (x3 : Int64) (c0 : Int32) (s0 : MSto) : Nat := nM s0 17
noncomputable def t_M_odds_43 (x2 : Int32) (c : Int32) (σ : MSto) (s : Int64) : Int64 := (if (gI σ 13 0 17) ≤ c then s else (s + (gJ σ 85 0 (Int32.toNatClampNeg c))))
noncomputable def q_M_odds_43s (x2 : Int32) (c : Int32) (σ : MSto) (s : Int64) : Nat := (if (gI σ 13 0 17) ≤ c then 1 else 0)
def g_M_odds_43 (x2 : Int32) (c : Int32) (σ : MSto) (s : Int64) : Prop := (¬ ((gI σ 13 0 17) ≤ c) → (vp_in c 6))
noncomputable def f_M_odds_43 (x2 : Int32) (c0 : Int32) (σ : MSto) (s0 : Int64) (n : Nat) : Int64 := nfold (fun i s => t_M_odds_43 x2 (c0 + nI i) σ s) s0 n
noncomputable def n_M_odds_43 (x2 : Int32) (c0 : Int32) (σ : MSto) (s0 : Int64) : Nat := nM σ 17
noncomputable def v_M_odds (a1 : Int32) (σ : MSto) : Int32 := (if (v_M_areCounted a1 1 4 (sI σ 13 0 52 0)) = 0 then (-1) else (if (gI (sI σ 13 0 52 0) 13 0 17) = 0 then (-1) else (if 0 ≤ (v_M_weighStories a1 (-1) (sI σ 13 0 52 0)) then (v_M_weighStories a1 (-1) (sI σ 13 0 52 0)) else (-2))))
def p_M_odds (a1 : Int32) (σ : MSto) : Prop := (¬ ((v_M_areCounted a1 1 4 (sI σ 13 0 52 0)) = 0) → (¬ ((gI (sI σ 13 0 52 0) 13 0 17) = 0) → ((p_M_weighStories a1 (-1) (sI σ 13 0 52 0)) ∧ ((0 ≤ (v_M_weighStories a1 (-1) (sI σ 13 0 52 0))) → ((∀ i, i < (n_M_odds_43 (v_M_weighStories a1 (-1) (sI σ 13 0 52 0)) 0 (e_M_weighStories a1 (-1) (sI σ 13 0 52 0)) 0) → g_M_odds_43 (v_M_weighStories a1 (-1) (sI σ 13 0 52 0)) (0 + nI i) (e_M_weighStories a1 (-1) (sI σ 13 0 52 0)) (f_M_odds_43 (v_M_weighStories a1 (-1) (sI σ 13 0 52 0)) 0 (e_M_weighStories a1 (-1) (sI σ 13 0 52 0)) 0 i) ∧ ¬ q_M_odds_43s (v_M_weighStories a1 (-1) (sI σ 13 0 52 0)) (0 + nI i) (e_M_weighStories a1 (-1) (sI σ 13 0 52 0)) (f_M_odds_43 (v_M_weighStories a1 (-1) (sI σ 13 0 52 0)) 0 (e_M_weighStories a1 (-1) (sI σ 13 0 52 0)) 0 i) = 1) ∧ ((((gI (e_M_weighStories a1 (-1) (sI σ 13 0 52 0)) 13 0 17) ≤ (0 + nI (n_M_odds_43 (v_M_weighStories a1 (-1) (sI σ 13 0 52 0)) 0 (e_M_weighStories a1 (-1) (sI σ 13 0 52 0)) 0))) → ((∀ i, i < (n_M_odds_76 (v_M_weighStories a1 (-1) (sI σ 13 0 52 0)) (f_M_odds_43 (v_M_weighStories a1 (-1) (sI σ 13 0 52 0)) 0 (e_M_weighStories a1 (-1) (sI σ 13 0 52 0)) 0 (n_M_odds_43 (v_M_weighStories a1 (-1) (sI σ 13 0 52 0)) 0 (e_M_weighStories a1 (-1) (sI σ 13 0 52 0)) 0)) 0 (sI (e_M_weighStories a1 (-1) (sI σ 13 0 52 0)) 13 0 51 0)) → g_M_odds_76 (v_M_weighStories a1 (-1) (sI σ 13 0 52 0)) (f_M_odds_43 (v_M_weighStories a1 (-1) (sI σ 13 0 52 0)) 0 (e_M_weighStories a1 (-1) (sI σ 13 0 52 0)) 0 (n_M_odds_43 (v_M_weighStories a1 (-1) (sI σ 13 0 52 0)) 0 (e_M_weighStories a1 (-1) (sI σ 13 0 52 0)) 0)) (0 + nI i) (f_M_odds_76 (v_M_weighStories a1 (-1) (sI σ 13 0 52 0)) (f_M_odds_43 (v_M_weighStories a1 (-1) (sI σ 13 0 52 0)) 0 (e_M_weighStories a1 (-1) (sI σ 13 0 52 0)) 0 (n_M_odds_43 (v_M_weighStories a1 (-1) (sI σ 13 0 52 0)) 0 (e_M_weighStories a1 (-1) (sI σ 13 0 52 0)) 0)) 0 (sI (e_M_weighStories a1 (-1) (sI σ 13 0 52 0)) 13 0 51 0) i) ∧ ¬ q_M_odds_76s (v_M_weighStories a1 (-1) (sI σ 13 0 52 0)) (f_M_odds_43 (v_M_weighStories a1 (-1) (sI σ 13 0 52 0)) 0 (e_M_weighStories a1 (-1) (sI σ 13 0 52 0)) 0 (n_M_odds_43 (v_M_weighStories a1 (-1) (sI σ 13 0 52 0)) 0 (e_M_weighStories a1 (-1) (sI σ 13 0 52 0)) 0)) (0 + nI i) (f_M_odds_76 (v_M_weighStories a1 (-1) (sI σ 13 0 52 0)) (f_M_odds_43 (v_M_weighStories a1 (-1) (sI σ 13 0 52 0)) 0 (e_M_weighStories a1 (-1) (sI σ 13 0 52 0)) 0 (n_M_odds_43 (v_M_weighStories a1 (-1) (sI σ 13 0 52 0)) 0 (e_M_weighStories a1 (-1) (sI σ 13 0 52 0)) 0)) 0 (sI (e_M_weighStories a1 (-1) (sI σ 13 0 52 0)) 13 0 51 0) i) = 1) ∧ (¬ ((gI (f_M_odds_76 (v_M_weighStories a1 (-1) (sI σ 13 0 52 0)) (f_M_odds_43 (v_M_weighStories a1 (-1) (sI σ 13 0 52 0)) 0 (e_M_weighStories a1 (-1) (sI σ 13 0 52 0)) 0 (n_M_odds_43 (v_M_weighStories a1 (-1) (sI σ 13 0 52 0)) 0 (e_M_weighStories a1 (-1) (sI σ 13 0 52 0)) 0)) 0 (sI (e_M_weighStories a1 (-1) (sI σ 13 0 52 0)) 13 0 51 0) (n_M_odds_76 (v_M_weighStories a1 (-1) (sI σ 13 0 52 0)) (f_M_odds_43 (v_M_weighStories a1 (-1) (sI σ 13 0 52 0)) 0 (e_M_weighStories a1 (-1) (sI σ 13 0 52 0)) 0 (n_M_odds_43 (v_M_weighStories a1 (-1) (sI σ 13 0 52 0)) 0 (e_M_weighStories a1 (-1) (sI σ 13 0 52 0)) 0)) 0 (sI (e_M_weighStories a1 (-1) (sI σ 13 0 52 0)) 13 0 51 0))) 13 0 17) ≤ (0 + nI (n_M_odds_76 (v_M_weighStories a1 (-1) (sI σ 13 0 52 0)) (f_M_odds_43 (v_M_weighStories a1 (-1) (sI σ 13 0 52 0)) 0 (e_M_weighStories a1 (-1) (sI σ 13 0 52 0)) 0 (n_M_odds_43 (v_M_weighStories a1 (-1) (sI σ 13 0 52 0)) 0 (e_M_weighStories a1 (-1) (sI σ 13 0 52 0)) 0)) 0 (sI (e_M_weighStories a1 (-1) (sI σ 13 0 52 0)) 13 0 51 0)))) → False))) ∧ (¬ ((gI (e_M_weighStories a1 (-1) (sI σ 13 0 52 0)) 13 0 17) ≤ (0 + nI (n_M_odds_43 (v_M_weighStories a1 (-1) (sI σ 13 0 52 0)) 0 (e_M_weighStories a1 (-1) (sI σ 13 0 52 0)) 0))) → False)))))))
noncomputable def e_M_odds (a1 : Int32) (σ : MSto) : MSto := (if (v_M_areCounted a1 1 4 (sI σ 13 0 52 0)) = 0 then (sI σ 13 0 52 0) else (if (gI (sI σ 13 0 52 0) 13 0 17) = 0 then (sI σ 13 0 52 0) else (if 0 ≤ (v_M_weighStories a1 (-1) (sI σ 13 0 52 0)) then (f_M_odds_76 (v_M_weighStories a1 (-1) (sI σ 13 0 52 0)) (f_M_odds_43 (v_M_weighStories a1 (-1) (sI σ 13 0 52 0)) 0 (e_M_weighStories a1 (-1) (sI σ 13 0 52 0)) 0 (n_M_odds_43 (v_M_weighStories a1 (-1) (sI σ 13 0 52 0)) 0 (e_M_weighStories a1 (-1) (sI σ 13 0 52 0)) 0)) 0 (sI (e_M_weighStories a1 (-1) (sI σ 13 0 52 0)) 13 0 51 0) (n_M_odds_76 (v_M_weighStories a1 (-1) (sI σ 13 0 52 0)) (f_M_odds_43 (v_M_weighStories a1 (-1) (sI σ 13 0 52 0)) 0 (e_M_weighStories a1 (-1) (sI σ 13 0 52 0)) 0 (n_M_odds_43 (v_M_weighStories a1 (-1) (sI σ 13 0 52 0)) 0 (e_M_weighStories a1 (-1) (sI σ 13 0 52 0)) 0)) 0 (sI (e_M_weighStories a1 (-1) (sI σ 13 0 52 0)) 13 0 51 0))) else (e_M_weighStories a1 (-1) (sI σ 13 0 52 0)))))
noncomputable def S_M_odds : List MV → MSto → Option Prop × Option MV × MSto := fun as σ => match as with
  | [.inr (.inr (some (13, 0))), .inl a0] => (some (p_M_odds a0 σ), some (mI (v_M_odds a0 σ)), e_M_odds a0 σ)
  | _ => (some False, none, σ)
noncomputable def E_M_odds : MEnt := ((1, 1, 13), (7, 177, 0, 0), S_M_odds, ((⟨"ClothWithManModel", "odds", "(I)I"⟩ : MethodName), prog_14_method_80_code, 6, (some .int)))

def T_M_odds : Nat → Option (Instr × Nat × List Nat) := fun k => bif Nat.blt k 105 then (bif Nat.blt k 49 then (bif Nat.blt k 25 then (bif Nat.blt k 9 then (bif Nat.blt k 5 then (bif Nat.blt k 1 then (bif Nat.beq k 0 then some (.aload_n 0, 1, []) else none) else (bif Nat.blt k 2 then (bif Nat.beq k 1 then some (.iconst 0, 2, []) else none) else (bif Nat.beq k 2 then some (.putfield 161, 5, []) else none))) else (bif Nat.blt k 7 then (bif Nat.blt k 6 then (bif Nat.beq k 5 then some (.aload_n 0, 6, []) else none) else (bif Nat.beq k 6 then some (.iload_n 1, 7, []) else none)) else (bif Nat.blt k 8 then (bif Nat.beq k 7 then some (.iconst 1, 8, []) else none) else (bif Nat.beq k 8 then some (.iconst 4, 9, []) else none)))) else (bif Nat.blt k 19 then (bif Nat.blt k 15 then (bif Nat.blt k 12 then (bif Nat.beq k 9 then some (.invokevirtual 315, 12, []) else none) else (bif Nat.beq k 12 then some (.ifCond .eq 10, 15, [22]) else none)) else (bif Nat.blt k 16 then (bif Nat.beq k 15 then some (.aload_n 0, 16, []) else none) else (bif Nat.beq k 16 then some (.getfield 188, 19, []) else none))) else (bif Nat.blt k 23 then (bif Nat.blt k 22 then (bif Nat.beq k 19 then some (.ifCond .ne 5, 22, [24]) else none) else (bif Nat.beq k 22 then some (.iconst (-1), 23, []) else none)) else (bif Nat.blt k 24 then (bif Nat.beq k 23 then some (.ireturn, 24, []) else none) else (bif Nat.beq k 24 then some (.aload_n 0, 25, []) else none))))) else (bif Nat.blt k 37 then (bif Nat.blt k 30 then (bif Nat.blt k 26 then (bif Nat.beq k 25 then some (.iload_n 1, 26, []) else none) else (bif Nat.blt k 27 then (bif Nat.beq k 26 then some (.iconst (-1), 27, []) else none) else (bif Nat.beq k 27 then some (.invokevirtual 409, 30, []) else none))) else (bif Nat.blt k 32 then (bif Nat.blt k 31 then (bif Nat.beq k 30 then some (.istore_n 2, 31, []) else none) else (bif Nat.beq k 31 then some (.iload_n 2, 32, []) else none)) else (bif Nat.blt k 35 then (bif Nat.beq k 32 then some (.ifCond .ge 6, 35, [38]) else none) else (bif Nat.beq k 35 then some (.bipush (-2), 37, []) else none)))) else (bif Nat.blt k 41 then (bif Nat.blt k 39 then (bif Nat.blt k 38 then (bif Nat.beq k 37 then some (.ireturn, 38, []) else none) else (bif Nat.beq k 38 then some (.lconst 0, 39, []) else none)) else (bif Nat.blt k 40 then (bif Nat.beq k 39 then some (.lstore_n 3, 40, []) else none) else (bif Nat.beq k 40 then some (.iconst 0, 41, []) else none))) else (bif Nat.blt k 45 then (bif Nat.blt k 43 then (bif Nat.beq k 41 then some (.istore 5, 43, []) else none) else (bif Nat.beq k 43 then some (.iload 5, 45, []) else none)) else (bif Nat.blt k 46 then (bif Nat.beq k 45 then some (.aload_n 0, 46, []) else none) else (bif Nat.beq k 46 then some (.getfield 188, 49, []) else none)))))) else (bif Nat.blt k 76 then (bif Nat.blt k 61 then (bif Nat.blt k 54 then (bif Nat.blt k 52 then (bif Nat.beq k 49 then some (.if_icmp .ge 19, 52, [68]) else none) else (bif Nat.blt k 53 then (bif Nat.beq k 52 then some (.lload_n 3, 53, []) else none) else (bif Nat.beq k 53 then some (.aload_n 0, 54, []) else none))) else (bif Nat.blt k 59 then (bif Nat.blt k 57 then (bif Nat.beq k 54 then some (.getfield 155, 57, []) else none) else (bif Nat.beq k 57 then some (.iload 5, 59, []) else none)) else (bif Nat.blt k 60 then (bif Nat.beq k 59 then some (.laload, 60, []) else none) else (bif Nat.beq k 60 then some (.ladd, 61, []) else none)))) else (bif Nat.blt k 69 then (bif Nat.blt k 65 then (bif Nat.blt k 62 then (bif Nat.beq k 61 then some (.lstore_n 3, 62, []) else none) else (bif Nat.beq k 62 then some (.iinc 5 1, 65, []) else none)) else (bif Nat.blt k 68 then (bif Nat.beq k 65 then some (.goto (-22), 68, [43]) else none) else (bif Nat.beq k 68 then some (.aload_n 0, 69, []) else none))) else (bif Nat.blt k 73 then (bif Nat.blt k 70 then (bif Nat.beq k 69 then some (.iconst 0, 70, []) else none) else (bif Nat.beq k 70 then some (.putfield 164, 73, []) else none)) else (bif Nat.blt k 74 then (bif Nat.beq k 73 then some (.iconst 0, 74, []) else none) else (bif Nat.beq k 74 then some (.istore 5, 76, []) else none))))) else (bif Nat.blt k 90 then (bif Nat.blt k 82 then (bif Nat.blt k 78 then (bif Nat.beq k 76 then some (.iload 5, 78, []) else none) else (bif Nat.blt k 79 then (bif Nat.beq k 78 then some (.aload_n 0, 79, []) else none) else (bif Nat.beq k 79 then some (.getfield 188, 82, []) else none))) else (bif Nat.blt k 86 then (bif Nat.blt k 85 then (bif Nat.beq k 82 then some (.if_icmp .ge 21, 85, [103]) else none) else (bif Nat.beq k 85 then some (.aload_n 0, 86, []) else none)) else (bif Nat.blt k 87 then (bif Nat.beq k 86 then some (.aload_n 0, 87, []) else none) else (bif Nat.beq k 87 then some (.getfield 155, 90, []) else none)))) else (bif Nat.blt k 97 then (bif Nat.blt k 93 then (bif Nat.blt k 92 then (bif Nat.beq k 90 then some (.iload 5, 92, []) else none) else (bif Nat.beq k 92 then some (.laload, 93, []) else none)) else (bif Nat.blt k 94 then (bif Nat.beq k 93 then some (.lload_n 3, 94, []) else none) else (bif Nat.beq k 94 then some (.invokevirtual 321, 97, []) else none))) else (bif Nat.blt k 103 then (bif Nat.blt k 100 then (bif Nat.beq k 97 then some (.iinc 5 1, 100, []) else none) else (bif Nat.beq k 100 then some (.goto (-24), 103, [76]) else none)) else (bif Nat.blt k 104 then (bif Nat.beq k 103 then some (.iload_n 2, 104, []) else none) else (bif Nat.beq k 104 then some (.ireturn, 105, []) else none))))))) else none
noncomputable def P_M_odds : MP := (T_M_odds, (fun k => mLook k [(155, (13, 69, (.array .long), true)), (161, (13, 52, .int, false)), (164, (13, 51, .int, false)), (188, (13, 17, .int, false))]), (fun k => mLook k []), (fun k => mLook k [(315, E_M_areCounted), (321, E_M_tellPart), (409, E_M_weighStories)]), (fun k => mLook k []), (fun k => mLook k []), (fun k => mLook k []), (fun k => mLook k [(43, [true, false, true, true, false, true]), (76, [true, false, true, true, false, true])]), (fun k => [23, 37, 104].any (Nat.beq k)), (7, 177, 0, 0), false, (fun _ => none))
set_option maxRecDepth 100000 in
set_option maxHeartbeats 4000000 in
theorem q_M_odds_e (a1 : Int32) (σ : MSto) (n : Nat) : mexe KT P_M_odds (n + 1) (0, [some (mR 13 0), some (mI a1), none, none, none, none], [], σ, 0, 0) = mIf ((v_M_areCounted a1 1 4 (sI σ 13 0 52 0)) = 0) (some (23, [], [(mI (-1))], (sI σ 13 0 52 0), 0, 0)) (mIf ((gI (sI σ 13 0 52 0) 13 0 17) = 0) (some (23, [], [(mI (-1))], (sI σ 13 0 52 0), 0, 0)) (mG (p_M_weighStories a1 (-1) (sI σ 13 0 52 0)) (mIf (0 ≤ (v_M_weighStories a1 (-1) (sI σ 13 0 52 0))) (mexe KT P_M_odds n (43, [some (mR 13 0), none, some (mI (v_M_weighStories a1 (-1) (sI σ 13 0 52 0))), some (mJ 0), none, some (mI 0)], [], (e_M_weighStories a1 (-1) (sI σ 13 0 52 0)), 0, 0)) (some (37, [], [(mI (-2))], (e_M_weighStories a1 (-1) (sI σ 13 0 52 0)), 0, 0))))) := rfl
set_option maxRecDepth 100000 in
set_option maxHeartbeats 4000000 in
theorem q_M_odds_43 (x2 : Int32) (x3 : Int64) (x5 : Int32) (σ : MSto) (n : Nat) : mexe KT P_M_odds (n + 1) (43, [some (mR 13 0), none, some (mI x2), some (mJ x3), none, some (mI x5)], [], σ, 0, 0) = mIf ((gI σ 13 0 17) ≤ x5) (mexe KT P_M_odds n (76, [some (mR 13 0), none, some (mI x2), some (mJ x3), none, some (mI 0)], [], (sI σ 13 0 51 0), 0, 0)) (mG (vp_in x5 6) (mexe KT P_M_odds n (43, [some (mR 13 0), none, some (mI x2), some (mJ (x3 + (gJ σ 85 0 (Int32.toNatClampNeg x5)))), none, some (mI (x5 + 1))], [], σ, 0, 0))) := rfl
set_option maxRecDepth 100000 in
set_option maxHeartbeats 4000000 in
theorem q_M_odds_76 (x2 : Int32) (x3 : Int64) (x5 : Int32) (σ : MSto) (n : Nat) : mexe KT P_M_odds (n + 1) (76, [some (mR 13 0), none, some (mI x2), some (mJ x3), none, some (mI x5)], [], σ, 0, 0) = mIf ((gI σ 13 0 17) ≤ x5) (some (104, [], [(mI x2)], σ, 0, 0)) (mG (vp_in x5 6) (mG (p_M_tellPart (gJ σ 85 0 (Int32.toNatClampNeg x5)) x3 σ) (mexe KT P_M_odds n (76, [some (mR 13 0), none, some (mI x2), some (mJ x3), none, some (mI (x5 + 1))], [], (e_M_tellPart (gJ σ 85 0 (Int32.toNatClampNeg x5)) x3 σ), 0, 0)))) := rfl
set_option maxRecDepth 100000 in
theorem lt_M_odds_76 {Post : MST → Prop} (x2 : Int32) (x3 : Int64) (c : Int32) (s : MSto) (hp : g_M_odds_76 x2 x3 c s) (hq : ¬ q_M_odds_76s x2 x3 c s = 1) (hn : ∀ r, t_M_odds_76 x2 x3 c s = r → mW1 P_M_odds (76, [some (mR 13 0), none, some (mI x2), some (mJ x3), none, some (mI (c + 1))], [], r, 0, 0) Post) : mW1 P_M_odds (76, [some (mR 13 0), none, some (mI x2), some (mJ x3), none, some (mI c)], [], s, 0, 0) Post := by
  unfold g_M_odds_76 at hp
  refine mW1_eq (q_M_odds_76 _ _ _ _) ?_
  refine mTr_if (fun h0 => ?_) (fun h0 => ?_)
  · skip
    exact absurd (if_pos h0) hq
  · skip
    have hp := hp h0
    refine mTr_g hp.1 ?_
    have hp := hp.2
    refine mTr_g hp ?_
    exact mTr_k (hn (e_M_tellPart (gJ s 85 0 (Int32.toNatClampNeg c)) x3 s) (if_neg h0))
theorem lp_M_odds_76 {Post : MST → Prop} (x2 : Int32) (x3 : Int64) (c0 : Int32) (s0 : MSto) (N : Nat) (hb : ∀ i, i < N → g_M_odds_76 x2 x3 (c0 + nI i) (f_M_odds_76 x2 x3 c0 s0 i) ∧ ¬ q_M_odds_76s x2 x3 (c0 + nI i) (f_M_odds_76 x2 x3 c0 s0 i) = 1) (h : mW1 P_M_odds (76, [some (mR 13 0), none, some (mI x2), some (mJ x3), none, some (mI (c0 + nI N))], [], (f_M_odds_76 x2 x3 c0 s0 N), 0, 0) Post) : mW1 P_M_odds (76, [some (mR 13 0), none, some (mI x2), some (mJ x3), none, some (mI c0)], [], s0, 0, 0) Post := by
  refine mW1_st (mW1_loop (fun i => (76, [some (mR 13 0), none, some (mI x2), some (mJ x3), none, some (mI (c0 + nI i))], [], (f_M_odds_76 x2 x3 c0 s0 i), 0, 0)) N (fun i hlt hn => ?_) h) (by rw [show nI 0 = 0 from rfl, Int32.add_zero] <;> rfl)
  refine lt_M_odds_76 x2 x3 _ _ (hb i hlt).1 (hb i hlt).2 (fun r hr => ?_)
  rw [Int32.add_assoc, nI_s]
  subst hr
  exact hn
set_option maxRecDepth 100000 in
theorem lt_M_odds_43 {Post : MST → Prop} (x2 : Int32) (c : Int32) (σ : MSto) (s : Int64) (hp : g_M_odds_43 x2 c σ s) (hq : ¬ q_M_odds_43s x2 c σ s = 1) (hn : ∀ r, t_M_odds_43 x2 c σ s = r → mW1 P_M_odds (43, [some (mR 13 0), none, some (mI x2), some (mJ r), none, some (mI (c + 1))], [], σ, 0, 0) Post) : mW1 P_M_odds (43, [some (mR 13 0), none, some (mI x2), some (mJ s), none, some (mI c)], [], σ, 0, 0) Post := by
  unfold g_M_odds_43 at hp
  refine mW1_eq (q_M_odds_43 _ _ _ _) ?_
  refine mTr_if (fun h0 => ?_) (fun h0 => ?_)
  · skip
    exact absurd (if_pos h0) hq
  · skip
    have hp := hp h0
    refine mTr_g hp ?_
    exact mTr_k (hn (s + (gJ σ 85 0 (Int32.toNatClampNeg c))) (if_neg h0))
theorem lp_M_odds_43 {Post : MST → Prop} (x2 : Int32) (c0 : Int32) (σ : MSto) (s0 : Int64) (N : Nat) (hb : ∀ i, i < N → g_M_odds_43 x2 (c0 + nI i) σ (f_M_odds_43 x2 c0 σ s0 i) ∧ ¬ q_M_odds_43s x2 (c0 + nI i) σ (f_M_odds_43 x2 c0 σ s0 i) = 1) (h : mW1 P_M_odds (43, [some (mR 13 0), none, some (mI x2), some (mJ (f_M_odds_43 x2 c0 σ s0 N)), none, some (mI (c0 + nI N))], [], σ, 0, 0) Post) : mW1 P_M_odds (43, [some (mR 13 0), none, some (mI x2), some (mJ s0), none, some (mI c0)], [], σ, 0, 0) Post := by
  refine mW1_st (mW1_loop (fun i => (43, [some (mR 13 0), none, some (mI x2), some (mJ (f_M_odds_43 x2 c0 σ s0 i)), none, some (mI (c0 + nI i))], [], σ, 0, 0)) N (fun i hlt hn => ?_) h) (by rw [show nI 0 = 0 from rfl, Int32.add_zero] <;> rfl)
  refine lt_M_odds_43 x2 _ σ _ (hb i hlt).1 (hb i hlt).2 (fun r hr => ?_)
  rw [Int32.add_assoc, nI_s]
  subst hr
  exact hn
set_option maxRecDepth 100000 in
set_option maxHeartbeats 4000000 in
theorem d_M_odds (a1 : Int32) (σ : MSto) (hp : p_M_odds a1 σ) : mW1 P_M_odds (0, [some (mR 13 0), some (mI a1), none, none, none, none], [], σ, 0, 0) (mF [23, 37, 104] [mI (v_M_odds a1 σ)] (e_M_odds a1 σ) 0 0) := by
  refine mW1_eq (q_M_odds_e _ _) ?_
  unfold p_M_odds at hp
  refine mTr_if (fun h0 => ?_) (fun h0 => ?_)
  · skip
    exact mTr_e (by decide) (congrArg (fun z => [mI z]) (Eq.symm (if_pos h0))) (Eq.symm (if_pos h0)) (by decide) (by decide)
  · skip
    have hp := hp h0
    refine mTr_if (fun h1 => ?_) (fun h1 => ?_)
    · skip
      exact mTr_e (by decide) (congrArg (fun z => [mI z]) (Eq.symm ((if_neg h0).trans (if_pos h1)))) (Eq.symm ((if_neg h0).trans (if_pos h1))) (by decide) (by decide)
    · skip
      have hp := hp h1
      refine mTr_g hp.1 ?_
      have hp := hp.2
      refine mTr_if (fun h2 => ?_) (fun h2 => ?_)
      · skip
        have hp := hp h2
        refine mTr_k (lp_M_odds_43 (v_M_weighStories a1 (-1) (sI σ 13 0 52 0)) 0 (e_M_weighStories a1 (-1) (sI σ 13 0 52 0)) 0 (n_M_odds_43 (v_M_weighStories a1 (-1) (sI σ 13 0 52 0)) 0 (e_M_weighStories a1 (-1) (sI σ 13 0 52 0)) 0) hp.1 ?_)
        have hp := hp.2
        refine mW1_eq (q_M_odds_43 _ _ _ _) ?_
        refine mTr_if (fun h3 => ?_) (fun h3 => ?_)
        · skip
          have hp := hp.1 h3
          refine mTr_k (lp_M_odds_76 (v_M_weighStories a1 (-1) (sI σ 13 0 52 0)) (f_M_odds_43 (v_M_weighStories a1 (-1) (sI σ 13 0 52 0)) 0 (e_M_weighStories a1 (-1) (sI σ 13 0 52 0)) 0 (n_M_odds_43 (v_M_weighStories a1 (-1) (sI σ 13 0 52 0)) 0 (e_M_weighStories a1 (-1) (sI σ 13 0 52 0)) 0)) 0 (sI (e_M_weighStories a1 (-1) (sI σ 13 0 52 0)) 13 0 51 0) (n_M_odds_76 (v_M_weighStories a1 (-1) (sI σ 13 0 52 0)) (f_M_odds_43 (v_M_weighStories a1 (-1) (sI σ 13 0 52 0)) 0 (e_M_weighStories a1 (-1) (sI σ 13 0 52 0)) 0 (n_M_odds_43 (v_M_weighStories a1 (-1) (sI σ 13 0 52 0)) 0 (e_M_weighStories a1 (-1) (sI σ 13 0 52 0)) 0)) 0 (sI (e_M_weighStories a1 (-1) (sI σ 13 0 52 0)) 13 0 51 0)) hp.1 ?_)
          have hp := hp.2
          refine mW1_eq (q_M_odds_76 _ _ _ _) ?_
          refine mTr_if (fun h4 => ?_) (fun h4 => ?_)
          · skip
            exact mTr_e (by decide) (congrArg (fun z => [mI z]) (Eq.symm ((if_neg h0).trans ((if_neg h1).trans (if_pos h2))))) (Eq.symm ((if_neg h0).trans ((if_neg h1).trans (if_pos h2)))) (by decide) (by decide)
          · skip
            have hp := hp h4
            exact hp.elim
        · skip
          have hp := hp.2 h3
          exact hp.elim
      · skip
        exact mTr_e (by decide) (congrArg (fun z => [mI z]) (Eq.symm ((if_neg h0).trans ((if_neg h1).trans (if_neg h2))))) (Eq.symm ((if_neg h0).trans ((if_neg h1).trans (if_neg h2)))) (by decide) (by decide)
theorem li_M_409 : mLink "ClothWithManModel" 409 E_M_weighStories := ⟨tw_7_233, tw_1_9, ⟨by decide, by decide⟩, by decide +kernel, Or.inl tw_7_230, (fun h => by cases h), (fun _ => ⟨tw_7_232, tw_0_79, TX12, 71, rfl⟩), (fun h => by cases h)⟩



theorem tk_M_odds : ∀ pc i nx tg, T_M_odds pc = some (i, nx, tg) → mOkB prog_14_method_80_code pc i nx tg = true := code_ok (N := 105) (fun k h => by unfold T_M_odds; rw [h]; rfl) (by decide +kernel)
theorem ok_M_odds (l : Launch) : mPOK l "ClothWithManModel" prog_14_method_80_code P_M_odds := by
  refine ⟨tk_M_odds, ?_, ?_, ?_, (fun pc i nx tg kd _ h => by cases h), ?_, ?_, fun pc en h => by cases h⟩
  · intro x ci f ty fin h
    exact mLook_all (Q := fun x v => mFOK "ClothWithManModel" x v.1 v.2.1 v.2.2.1 v.2.2.2 ∧ (v.2.2.2 = true → pIni P_M_odds = true → (Cond.fieldLink "ClothWithManModel" x (((mCl[v.1]?).getD ("", fun _ => ("", "", "", false), 0)).2.1 v.2.1).1 (((mCl[v.1]?).getD ("", fun _ => ("", "", "", false), 0)).2.1 v.2.1).2.1 (((mCl[v.1]?).getD ("", fun _ => ("", "", "", false), 0)).2.1 v.2.1).2.2.1 ∈ lw_tbl ∧ (((mCl[v.1]?).getD ("", fun _ => ("", "", "", false), 0)).2.1 v.2.1).1 = "ClothWithManModel"))) (fcC ⟨fo_M_155, fun h1 h2 => by cases h2⟩ (fcC ⟨fo_M_161, fun h1 h2 => by cases h1⟩ (fcC ⟨fo_M_164, fun h1 h2 => by cases h1⟩ (fcC ⟨fo_M_188, fun h1 h2 => by cases h1⟩ fcN)))) x (ci, f, ty, fin) h
  · intro x
    have hh := mLook_all (l := ([] : List (Nat × (Int32 ⊕ Int64)))) (Q := fun x (v : Int32 ⊕ Int64) => (∀ w, v = .inl w → Cond.constant "ClothWithManModel" x w ∈ lw_tbl) ∧ (∀ w, v = .inr w → Cond.constantLong "ClothWithManModel" x w ∈ lw_tbl)) fcN x
    exact ⟨fun w h => (hh _ h).1 w rfl, fun w h => (hh _ h).2 w rfl⟩
  · exact fun x en h => mLook_all (Q := fun x en => mLink "ClothWithManModel" x en ∧ mCtr l en ∧ (en.1.1 = 2 → en.2.2.2.2.2.2 = none)) (fcC ⟨li_M_315, c_M_areCounted l, (fun h => by cases h)⟩ (fcC ⟨li_M_321, c_M_tellPart l, (fun h => by cases h)⟩ (fcC ⟨li_M_409, c_M_weighStories l, (fun h => by cases h)⟩ fcN))) x en h
  · exact fun x kd h => mLook_all (Q := fun x kd => (kd = 95 ∧ Cond.fieldLink "ClothWithManModel" x "ClothWithMan" "LIKENESSES" "[I" ∈ lw_tbl) ∨ (kd = 96 ∧ Cond.fieldLink "ClothWithManModel" x "ClothWithMan" "APART_BOUNDS" "[I" ∈ lw_tbl)) fcN x kd h
  · exact fun x ci h => mLook_all (Q := fun x ci => ci ≠ 0 ∧ ∃ (C : String) (T : u_T) (N : Nat), mCl[ci]? = some (C, T, N) ∧ Cond.classLink "ClothWithManModel" x C ∈ lw_tbl ∧ Cond.instantiable C N ∈ lw_tbl) fcN x ci h
set_option maxRecDepth 100000 in
theorem c_M_odds (l : Launch) : mCtr l E_M_odds := mCtr_of (P := P_M_odds) (own := "ClothWithManModel") mLay_ok rfl (by decide +kernel) rfl (ok_M_odds l) (fun h => by cases h) (fun as σ pr rv σ' hF hpr hlv => by
  unfold E_M_odds S_M_odds at hF
  simp only [] at hF
  split at hF
  · cases hF
    obtain ⟨n, pcF, c1, s1, g1, g2, g3, g4⟩ := mF_inv (d_M_odds _ σ (hpr _ rfl))
    exact ⟨Nat.le_of_ble_eq_true rfl, (fun v h => by cases h; trivial), n, pcF, c1, s1, g1, ⟨mEnd_of (i := .ireturn) (P := P_M_odds) (rets := [23, 37, 104]) rfl g2, rfl⟩, g3, g4⟩
  · cases hF
    exact (hpr _ rfl).elim)
/-! ClothWithManModel.when(II)I -/
noncomputable def t_M_when_34 (x1 : Int32) (x2 : Int32) (c : Int32) (σ : MSto) (s : Int32 × Int64) : Int32 × Int64 := (if 200 ≤ c then s else (if (v_M_hasTerm x1 1 σ) = 0 then (if 0 < (lg_cmp (v_M_partOf x1 x2 c (-1) σ) (s.2)) then (c, (v_M_partOf x1 x2 c (-1) σ)) else ((s.1), (s.2))) else (if c = (gI σ 52 0 (Int32.toNatClampNeg x1)) then (if 0 < (lg_cmp (v_M_partOf x1 x2 c (-1) σ) (s.2)) then (c, (v_M_partOf x1 x2 c (-1) σ)) else ((s.1), (s.2))) else ((s.1), (s.2)))))
noncomputable def q_M_when_34s (x1 : Int32) (x2 : Int32) (c : Int32) (σ : MSto) (s : Int32 × Int64) : Nat := (if 200 ≤ c then 1 else 0)
def g_M_when_34 (x1 : Int32) (x2 : Int32) (c : Int32) (σ : MSto) (s : Int32 × Int64) : Prop := (¬ (200 ≤ c) → ((p_M_hasTerm x1 1 σ) ∧ ((((v_M_hasTerm x1 1 σ) = 0) → (p_M_partOf x1 x2 c (-1) σ)) ∧ (¬ ((v_M_hasTerm x1 1 σ) = 0) → ((vp_in x1 6) ∧ ((c = (gI σ 52 0 (Int32.toNatClampNeg x1))) → (p_M_partOf x1 x2 c (-1) σ)))))))
noncomputable def f_M_when_34 (x1 : Int32) (x2 : Int32) (c0 : Int32) (σ : MSto) (s0 : Int32 × Int64) (n : Nat) : Int32 × Int64 := nfold (fun i s => t_M_when_34 x1 x2 (c0 + nI i) σ s) s0 n
noncomputable def n_M_when_34 (x1 : Int32) (x2 : Int32) (c0 : Int32) (σ : MSto) (s0 : Int32 × Int64) : Nat := 200
noncomputable def v_M_when (a1 : Int32) (a2 : Int32) (σ : MSto) : Int32 := (if (v_M_isStory a1 (sI σ 13 0 52 0)) = 0 then (-1) else (if (v_M_areCounted a2 1 4 (sI σ 13 0 52 0)) = 0 then (-1) else ((f_M_when_34 a1 a2 0 (sI σ 13 0 52 0) ((-2), 0) (n_M_when_34 a1 a2 0 (sI σ 13 0 52 0) ((-2), 0))).1)))
def p_M_when (a1 : Int32) (a2 : Int32) (σ : MSto) : Prop := (¬ ((v_M_isStory a1 (sI σ 13 0 52 0)) = 0) → (¬ ((v_M_areCounted a2 1 4 (sI σ 13 0 52 0)) = 0) → ((∀ i, i < (n_M_when_34 a1 a2 0 (sI σ 13 0 52 0) ((-2), 0)) → g_M_when_34 a1 a2 (0 + nI i) (sI σ 13 0 52 0) (f_M_when_34 a1 a2 0 (sI σ 13 0 52 0) ((-2), 0) i) ∧ ¬ q_M_when_34s a1 a2 (0 + nI i) (sI σ 13 0 52 0) (f_M_when_34 a1 a2 0 (sI σ 13 0 52 0) ((-2), 0) i) = 1) ∧ (¬ (200 ≤ (0 + nI (n_M_when_34 a1 a2 0 (sI σ 13 0 52 0) ((-2), 0)))) → False))))
noncomputable def e_M_when (a1 : Int32) (a2 : Int32) (σ : MSto) : MSto := (sI σ 13 0 52 0)
noncomputable def S_M_when : List MV → MSto → Option Prop × Option MV × MSto := fun as σ => match as with
  | [.inr (.inr (some (13, 0))), .inl a0, .inl a1] => (some (p_M_when a0 a1 σ), some (mI (v_M_when a0 a1 σ)), e_M_when a0 a1 σ)
  | _ => (some False, none, σ)
noncomputable def E_M_when : MEnt := ((1, 2, 13), (5, 127, 0, 0), S_M_when, ((⟨"ClothWithManModel", "when", "(II)I"⟩ : MethodName), prog_14_method_81_code, 9, (some .int)))

def T_M_when : Nat → Option (Instr × Nat × List Nat) := fun k => bif Nat.blt k 102 then (bif Nat.blt k 48 then (bif Nat.blt k 24 then (bif Nat.blt k 13 then (bif Nat.blt k 5 then (bif Nat.blt k 1 then (bif Nat.beq k 0 then some (.aload_n 0, 1, []) else none) else (bif Nat.blt k 2 then (bif Nat.beq k 1 then some (.iconst 0, 2, []) else none) else (bif Nat.beq k 2 then some (.putfield 161, 5, []) else none))) else (bif Nat.blt k 7 then (bif Nat.blt k 6 then (bif Nat.beq k 5 then some (.aload_n 0, 6, []) else none) else (bif Nat.beq k 6 then some (.iload_n 1, 7, []) else none)) else (bif Nat.blt k 10 then (bif Nat.beq k 7 then some (.invokevirtual 381, 10, []) else none) else (bif Nat.beq k 10 then some (.ifCond .eq 13, 13, [23]) else none)))) else (bif Nat.blt k 16 then (bif Nat.blt k 14 then (bif Nat.beq k 13 then some (.aload_n 0, 14, []) else none) else (bif Nat.blt k 15 then (bif Nat.beq k 14 then some (.iload_n 2, 15, []) else none) else (bif Nat.beq k 15 then some (.iconst 1, 16, []) else none))) else (bif Nat.blt k 20 then (bif Nat.blt k 17 then (bif Nat.beq k 16 then some (.iconst 4, 17, []) else none) else (bif Nat.beq k 17 then some (.invokevirtual 315, 20, []) else none)) else (bif Nat.blt k 23 then (bif Nat.beq k 20 then some (.ifCond .ne 5, 23, [25]) else none) else (bif Nat.beq k 23 then some (.iconst (-1), 24, []) else none))))) else (bif Nat.blt k 34 then (bif Nat.blt k 28 then (bif Nat.blt k 25 then (bif Nat.beq k 24 then some (.ireturn, 25, []) else none) else (bif Nat.blt k 27 then (bif Nat.beq k 25 then some (.bipush (-2), 27, []) else none) else (bif Nat.beq k 27 then some (.istore_n 3, 28, []) else none))) else (bif Nat.blt k 31 then (bif Nat.blt k 29 then (bif Nat.beq k 28 then some (.lconst 0, 29, []) else none) else (bif Nat.beq k 29 then some (.lstore 4, 31, []) else none)) else (bif Nat.blt k 32 then (bif Nat.beq k 31 then some (.iconst 0, 32, []) else none) else (bif Nat.beq k 32 then some (.istore 6, 34, []) else none)))) else (bif Nat.blt k 42 then (bif Nat.blt k 36 then (bif Nat.beq k 34 then some (.iload 6, 36, []) else none) else (bif Nat.blt k 39 then (bif Nat.beq k 36 then some (.sipush 200, 39, []) else none) else (bif Nat.beq k 39 then some (.if_icmp .ge 61, 42, [100]) else none))) else (bif Nat.blt k 44 then (bif Nat.blt k 43 then (bif Nat.beq k 42 then some (.aload_n 0, 43, []) else none) else (bif Nat.beq k 43 then some (.iload_n 1, 44, []) else none)) else (bif Nat.blt k 45 then (bif Nat.beq k 44 then some (.iconst 1, 45, []) else none) else (bif Nat.beq k 45 then some (.invokevirtual 384, 48, []) else none)))))) else (bif Nat.blt k 74 then (bif Nat.blt k 62 then (bif Nat.blt k 54 then (bif Nat.blt k 51 then (bif Nat.beq k 48 then some (.ifCond .eq 17, 51, [65]) else none) else (bif Nat.blt k 53 then (bif Nat.beq k 51 then some (.iload 6, 53, []) else none) else (bif Nat.beq k 53 then some (.aload_n 0, 54, []) else none))) else (bif Nat.blt k 58 then (bif Nat.blt k 57 then (bif Nat.beq k 54 then some (.getfield 50, 57, []) else none) else (bif Nat.beq k 57 then some (.iload_n 1, 58, []) else none)) else (bif Nat.blt k 59 then (bif Nat.beq k 58 then some (.iaload, 59, []) else none) else (bif Nat.beq k 59 then some (.if_icmp .eq 6, 62, [65]) else none)))) else (bif Nat.blt k 67 then (bif Nat.blt k 65 then (bif Nat.beq k 62 then some (.goto 32, 65, [94]) else none) else (bif Nat.blt k 66 then (bif Nat.beq k 65 then some (.aload_n 0, 66, []) else none) else (bif Nat.beq k 66 then some (.iload_n 1, 67, []) else none))) else (bif Nat.blt k 70 then (bif Nat.blt k 68 then (bif Nat.beq k 67 then some (.iload_n 2, 68, []) else none) else (bif Nat.beq k 68 then some (.iload 6, 70, []) else none)) else (bif Nat.blt k 71 then (bif Nat.beq k 70 then some (.iconst (-1), 71, []) else none) else (bif Nat.beq k 71 then some (.invokevirtual 400, 74, []) else none))))) else (bif Nat.blt k 89 then (bif Nat.blt k 80 then (bif Nat.blt k 76 then (bif Nat.beq k 74 then some (.lstore 7, 76, []) else none) else (bif Nat.blt k 78 then (bif Nat.beq k 76 then some (.lload 7, 78, []) else none) else (bif Nat.beq k 78 then some (.lload 4, 80, []) else none))) else (bif Nat.blt k 84 then (bif Nat.blt k 81 then (bif Nat.beq k 80 then some (.lcmp, 81, []) else none) else (bif Nat.beq k 81 then some (.ifCond .gt 6, 84, [87]) else none)) else (bif Nat.blt k 87 then (bif Nat.beq k 84 then some (.goto 10, 87, [94]) else none) else (bif Nat.beq k 87 then some (.lload 7, 89, []) else none)))) else (bif Nat.blt k 94 then (bif Nat.blt k 91 then (bif Nat.beq k 89 then some (.lstore 4, 91, []) else none) else (bif Nat.blt k 93 then (bif Nat.beq k 91 then some (.iload 6, 93, []) else none) else (bif Nat.beq k 93 then some (.istore_n 3, 94, []) else none))) else (bif Nat.blt k 100 then (bif Nat.blt k 97 then (bif Nat.beq k 94 then some (.iinc 6 1, 97, []) else none) else (bif Nat.beq k 97 then some (.goto (-63), 100, [34]) else none)) else (bif Nat.blt k 101 then (bif Nat.beq k 100 then some (.iload_n 3, 101, []) else none) else (bif Nat.beq k 101 then some (.ireturn, 102, []) else none))))))) else none
noncomputable def P_M_when : MP := (T_M_when, (fun k => mLook k [(50, (13, 18, (.array .int), true)), (161, (13, 52, .int, false))]), (fun k => mLook k []), (fun k => mLook k [(315, E_M_areCounted), (381, E_M_isStory), (384, E_M_hasTerm), (400, E_M_partOf)]), (fun k => mLook k []), (fun k => mLook k []), (fun k => mLook k []), (fun k => mLook k [(34, [true, true, true, true, true, false, true, false, false])]), (fun k => [24, 101].any (Nat.beq k)), (5, 127, 0, 0), false, (fun _ => none))
set_option maxRecDepth 100000 in
set_option maxHeartbeats 4000000 in
theorem q_M_when_e (a1 : Int32) (a2 : Int32) (σ : MSto) (n : Nat) : mexe KT P_M_when (n + 1) (0, [some (mR 13 0), some (mI a1), some (mI a2), none, none, none, none, none, none], [], σ, 0, 0) = mIf ((v_M_isStory a1 (sI σ 13 0 52 0)) = 0) (some (24, [], [(mI (-1))], (sI σ 13 0 52 0), 0, 0)) (mIf ((v_M_areCounted a2 1 4 (sI σ 13 0 52 0)) = 0) (some (24, [], [(mI (-1))], (sI σ 13 0 52 0), 0, 0)) (mexe KT P_M_when n (34, [some (mR 13 0), some (mI a1), some (mI a2), some (mI (-2)), some (mJ 0), none, some (mI 0), none, none], [], (sI σ 13 0 52 0), 0, 0))) := rfl
set_option maxRecDepth 100000 in
set_option maxHeartbeats 4000000 in
theorem q_M_when_34 (x1 : Int32) (x2 : Int32) (x3 : Int32) (x4 : Int64) (x6 : Int32) (σ : MSto) (n : Nat) : mexe KT P_M_when (n + 1) (34, [some (mR 13 0), some (mI x1), some (mI x2), some (mI x3), some (mJ x4), none, some (mI x6), none, none], [], σ, 0, 0) = mIf (200 ≤ x6) (some (101, [], [(mI x3)], σ, 0, 0)) (mG (p_M_hasTerm x1 1 σ) (mIf ((v_M_hasTerm x1 1 σ) = 0) (mG (p_M_partOf x1 x2 x6 (-1) σ) (mIf (0 < (lg_cmp (v_M_partOf x1 x2 x6 (-1) σ) x4)) (mexe KT P_M_when n (34, [some (mR 13 0), some (mI x1), some (mI x2), some (mI x6), some (mJ (v_M_partOf x1 x2 x6 (-1) σ)), none, some (mI (x6 + 1)), none, none], [], σ, 0, 0)) (mexe KT P_M_when n (34, [some (mR 13 0), some (mI x1), some (mI x2), some (mI x3), some (mJ x4), none, some (mI (x6 + 1)), none, none], [], σ, 0, 0)))) (mG (vp_in x1 6) (mIf (x6 = (gI σ 52 0 (Int32.toNatClampNeg x1))) (mG (p_M_partOf x1 x2 x6 (-1) σ) (mIf (0 < (lg_cmp (v_M_partOf x1 x2 x6 (-1) σ) x4)) (mexe KT P_M_when n (34, [some (mR 13 0), some (mI x1), some (mI x2), some (mI x6), some (mJ (v_M_partOf x1 x2 x6 (-1) σ)), none, some (mI (x6 + 1)), none, none], [], σ, 0, 0)) (mexe KT P_M_when n (34, [some (mR 13 0), some (mI x1), some (mI x2), some (mI x3), some (mJ x4), none, some (mI (x6 + 1)), none, none], [], σ, 0, 0)))) (mexe KT P_M_when n (34, [some (mR 13 0), some (mI x1), some (mI x2), some (mI x3), some (mJ x4), none, some (mI (x6 + 1)), none, none], [], σ, 0, 0)))))) := rfl
set_option maxRecDepth 100000 in
theorem lt_M_when_34 {Post : MST → Prop} (x1 : Int32) (x2 : Int32) (c : Int32) (σ : MSto) (s : Int32 × Int64) (hp : g_M_when_34 x1 x2 c σ s) (hq : ¬ q_M_when_34s x1 x2 c σ s = 1) (hn : ∀ (r1 : Int32) (r2 : Int64), t_M_when_34 x1 x2 c σ s = (r1, r2) → mW1 P_M_when (34, [some (mR 13 0), some (mI x1), some (mI x2), some (mI r1), some (mJ r2), none, some (mI (c + 1)), none, none], [], σ, 0, 0) Post) : mW1 P_M_when (34, [some (mR 13 0), some (mI x1), some (mI x2), some (mI (s.1)), some (mJ (s.2)), none, some (mI c), none, none], [], σ, 0, 0) Post := by
  unfold g_M_when_34 at hp
  refine mW1_eq (q_M_when_34 _ _ _ _ _ _) ?_
  refine mTr_if (fun h0 => ?_) (fun h0 => ?_)
  · skip
    exact absurd (if_pos h0) hq
  · skip
    have hp := hp h0
    refine mTr_g hp.1 ?_
    have hp := hp.2
    refine mTr_if (fun h1 => ?_) (fun h1 => ?_)
    · skip
      have hp := hp.1 h1
      refine mTr_g hp ?_
      refine mTr_if (fun h2 => ?_) (fun h2 => ?_)
      · skip
        exact mTr_k (hn c (v_M_partOf x1 x2 c (-1) σ) ((if_neg h0).trans ((if_pos h1).trans (if_pos h2))))
      · skip
        exact mTr_k (hn (s.1) (s.2) ((if_neg h0).trans ((if_pos h1).trans (if_neg h2))))
    · skip
      have hp := hp.2 h1
      refine mTr_g hp.1 ?_
      have hp := hp.2
      refine mTr_if (fun h2 => ?_) (fun h2 => ?_)
      · skip
        have hp := hp h2
        refine mTr_g hp ?_
        refine mTr_if (fun h3 => ?_) (fun h3 => ?_)
        · skip
          exact mTr_k (hn c (v_M_partOf x1 x2 c (-1) σ) ((if_neg h0).trans ((if_neg h1).trans ((if_pos h2).trans (if_pos h3)))))
        · skip
          exact mTr_k (hn (s.1) (s.2) ((if_neg h0).trans ((if_neg h1).trans ((if_pos h2).trans (if_neg h3)))))
      · skip
        exact mTr_k (hn (s.1) (s.2) ((if_neg h0).trans ((if_neg h1).trans (if_neg h2))))
theorem lp_M_when_34 {Post : MST → Prop} (x1 : Int32) (x2 : Int32) (c0 : Int32) (σ : MSto) (s0 : Int32 × Int64) (N : Nat) (hb : ∀ i, i < N → g_M_when_34 x1 x2 (c0 + nI i) σ (f_M_when_34 x1 x2 c0 σ s0 i) ∧ ¬ q_M_when_34s x1 x2 (c0 + nI i) σ (f_M_when_34 x1 x2 c0 σ s0 i) = 1) (h : mW1 P_M_when (34, [some (mR 13 0), some (mI x1), some (mI x2), some (mI ((f_M_when_34 x1 x2 c0 σ s0 N).1)), some (mJ ((f_M_when_34 x1 x2 c0 σ s0 N).2)), none, some (mI (c0 + nI N)), none, none], [], σ, 0, 0) Post) : mW1 P_M_when (34, [some (mR 13 0), some (mI x1), some (mI x2), some (mI (s0.1)), some (mJ (s0.2)), none, some (mI c0), none, none], [], σ, 0, 0) Post := by
  refine mW1_st (mW1_loop (fun i => (34, [some (mR 13 0), some (mI x1), some (mI x2), some (mI ((f_M_when_34 x1 x2 c0 σ s0 i).1)), some (mJ ((f_M_when_34 x1 x2 c0 σ s0 i).2)), none, some (mI (c0 + nI i)), none, none], [], σ, 0, 0)) N (fun i hlt hn => ?_) h) (by rw [show nI 0 = 0 from rfl, Int32.add_zero] <;> rfl)
  refine lt_M_when_34 x1 x2 _ σ _ (hb i hlt).1 (hb i hlt).2 (fun r1 r2 hr => ?_)
  rw [Int32.add_assoc, nI_s]
  have e : f_M_when_34 x1 x2 c0 σ s0 (i + 1) = (r1, r2) := hr
  try dsimp only at hn
  rw [e] at hn
  exact hn
set_option maxRecDepth 100000 in
set_option maxHeartbeats 4000000 in
theorem d_M_when (a1 : Int32) (a2 : Int32) (σ : MSto) (hp : p_M_when a1 a2 σ) : mW1 P_M_when (0, [some (mR 13 0), some (mI a1), some (mI a2), none, none, none, none, none, none], [], σ, 0, 0) (mF [24, 101] [mI (v_M_when a1 a2 σ)] (e_M_when a1 a2 σ) 0 0) := by
  refine mW1_eq (q_M_when_e _ _ _) ?_
  unfold p_M_when at hp
  refine mTr_if (fun h0 => ?_) (fun h0 => ?_)
  · skip
    exact mTr_e (by decide) (congrArg (fun z => [mI z]) (Eq.symm (if_pos h0))) (Eq.symm (rfl)) (by decide) (by decide)
  · skip
    have hp := hp h0
    refine mTr_if (fun h1 => ?_) (fun h1 => ?_)
    · skip
      exact mTr_e (by decide) (congrArg (fun z => [mI z]) (Eq.symm ((if_neg h0).trans (if_pos h1)))) (Eq.symm (rfl)) (by decide) (by decide)
    · skip
      have hp := hp h1
      refine mTr_k (lp_M_when_34 a1 a2 0 (sI σ 13 0 52 0) ((-2), 0) (n_M_when_34 a1 a2 0 (sI σ 13 0 52 0) ((-2), 0)) hp.1 ?_)
      have hp := hp.2
      refine mW1_eq (q_M_when_34 _ _ _ _ _ _) ?_
      refine mTr_if (fun h2 => ?_) (fun h2 => ?_)
      · skip
        exact mTr_e (by decide) (congrArg (fun z => [mI z]) (Eq.symm ((if_neg h0).trans (if_neg h1)))) (Eq.symm (rfl)) (by decide) (by decide)
      · skip
        have hp := hp h2
        exact hp.elim




theorem tk_M_when : ∀ pc i nx tg, T_M_when pc = some (i, nx, tg) → mOkB prog_14_method_81_code pc i nx tg = true := code_ok (N := 102) (fun k h => by unfold T_M_when; rw [h]; rfl) (by decide +kernel)
theorem ok_M_when (l : Launch) : mPOK l "ClothWithManModel" prog_14_method_81_code P_M_when := by
  refine ⟨tk_M_when, ?_, ?_, ?_, (fun pc i nx tg kd _ h => by cases h), ?_, ?_, fun pc en h => by cases h⟩
  · intro x ci f ty fin h
    exact mLook_all (Q := fun x v => mFOK "ClothWithManModel" x v.1 v.2.1 v.2.2.1 v.2.2.2 ∧ (v.2.2.2 = true → pIni P_M_when = true → (Cond.fieldLink "ClothWithManModel" x (((mCl[v.1]?).getD ("", fun _ => ("", "", "", false), 0)).2.1 v.2.1).1 (((mCl[v.1]?).getD ("", fun _ => ("", "", "", false), 0)).2.1 v.2.1).2.1 (((mCl[v.1]?).getD ("", fun _ => ("", "", "", false), 0)).2.1 v.2.1).2.2.1 ∈ lw_tbl ∧ (((mCl[v.1]?).getD ("", fun _ => ("", "", "", false), 0)).2.1 v.2.1).1 = "ClothWithManModel"))) (fcC ⟨fo_M_50, fun h1 h2 => by cases h2⟩ (fcC ⟨fo_M_161, fun h1 h2 => by cases h1⟩ fcN)) x (ci, f, ty, fin) h
  · intro x
    have hh := mLook_all (l := ([] : List (Nat × (Int32 ⊕ Int64)))) (Q := fun x (v : Int32 ⊕ Int64) => (∀ w, v = .inl w → Cond.constant "ClothWithManModel" x w ∈ lw_tbl) ∧ (∀ w, v = .inr w → Cond.constantLong "ClothWithManModel" x w ∈ lw_tbl)) fcN x
    exact ⟨fun w h => (hh _ h).1 w rfl, fun w h => (hh _ h).2 w rfl⟩
  · exact fun x en h => mLook_all (Q := fun x en => mLink "ClothWithManModel" x en ∧ mCtr l en ∧ (en.1.1 = 2 → en.2.2.2.2.2.2 = none)) (fcC ⟨li_M_315, c_M_areCounted l, (fun h => by cases h)⟩ (fcC ⟨li_M_381, c_M_isStory l, (fun h => by cases h)⟩ (fcC ⟨li_M_384, c_M_hasTerm l, (fun h => by cases h)⟩ (fcC ⟨li_M_400, c_M_partOf l, (fun h => by cases h)⟩ fcN)))) x en h
  · exact fun x kd h => mLook_all (Q := fun x kd => (kd = 95 ∧ Cond.fieldLink "ClothWithManModel" x "ClothWithMan" "LIKENESSES" "[I" ∈ lw_tbl) ∨ (kd = 96 ∧ Cond.fieldLink "ClothWithManModel" x "ClothWithMan" "APART_BOUNDS" "[I" ∈ lw_tbl)) fcN x kd h
  · exact fun x ci h => mLook_all (Q := fun x ci => ci ≠ 0 ∧ ∃ (C : String) (T : u_T) (N : Nat), mCl[ci]? = some (C, T, N) ∧ Cond.classLink "ClothWithManModel" x C ∈ lw_tbl ∧ Cond.instantiable C N ∈ lw_tbl) fcN x ci h
set_option maxRecDepth 100000 in
theorem c_M_when (l : Launch) : mCtr l E_M_when := mCtr_of (P := P_M_when) (own := "ClothWithManModel") mLay_ok rfl (by decide +kernel) rfl (ok_M_when l) (fun h => by cases h) (fun as σ pr rv σ' hF hpr hlv => by
  unfold E_M_when S_M_when at hF
  simp only [] at hF
  split at hF
  · cases hF
    obtain ⟨n, pcF, c1, s1, g1, g2, g3, g4⟩ := mF_inv (d_M_when _ _ σ (hpr _ rfl))
    exact ⟨Nat.le_of_ble_eq_true rfl, (fun v h => by cases h; trivial), n, pcF, c1, s1, g1, ⟨mEnd_of (i := .ireturn) (P := P_M_when) (rets := [24, 101]) rfl g2, rfl⟩, g3, g4⟩
  · cases hF
    exact (hpr _ rfl).elim)
/-! ClothWithManModel.first(I)I -/
noncomputable def t_M_first_40 (x1 : Int32) (x2 : Int32) (c : Int32) (s : MSto) : MSto := (if (gI s 13 0 27) ≤ c then s else (if (v_M_weighStories x1 c s) = x2 then (e_M_weighStories x1 c s) else (if 0 ≤ (v_M_weighStories x1 c s) then s else (e_M_weighStories x1 c s))))
noncomputable def q_M_first_40s (x1 : Int32) (x2 : Int32) (c : Int32) (s : MSto) : Nat := (if (gI s 13 0 27) ≤ c then 1 else (if (v_M_weighStories x1 c s) = x2 then 0 else (if 0 ≤ (v_M_weighStories x1 c s) then 1 else 0)))
def g_M_first_40 (x1 : Int32) (x2 : Int32) (c : Int32) (s : MSto) : Prop := (¬ ((gI s 13 0 27) ≤ c) → (p_M_weighStories x1 c s))
noncomputable def f_M_first_40 (x1 : Int32) (x2 : Int32) (c0 : Int32) (s0 : MSto) (n : Nat) : MSto := nfold (fun i s => t_M_first_40 x1 x2 (c0 + nI i) s) s0 n
noncomputable def n_M_first_40 (x1 : Int32) (x2 : Int32) (c0 : Int32) (s0 : MSto) : Nat := leastN (fun i => q_M_first_40s x1 x2 (c0 + nI i) (f_M_first_40 x1 x2 c0 s0 i) = 1) 5
noncomputable def v_M_first (a1 : Int32) (σ : MSto) : Int32 := (if (v_M_areCounted a1 1 4 (sI σ 13 0 52 0)) = 0 then (-1) else (if (gI (sI σ 13 0 52 0) 13 0 17) = 0 then (-1) else (if 0 ≤ (v_M_weighStories a1 (-1) (sI σ 13 0 52 0)) then (if (gI (f_M_first_40 a1 (v_M_weighStories a1 (-1) (sI σ 13 0 52 0)) 0 (e_M_weighStories a1 (-1) (sI σ 13 0 52 0)) (n_M_first_40 a1 (v_M_weighStories a1 (-1) (sI σ 13 0 52 0)) 0 (e_M_weighStories a1 (-1) (sI σ 13 0 52 0)))) 13 0 27) ≤ (0 + nI (n_M_first_40 a1 (v_M_weighStories a1 (-1) (sI σ 13 0 52 0)) 0 (e_M_weighStories a1 (-1) (sI σ 13 0 52 0)))) then (-2) else (0 + nI (n_M_first_40 a1 (v_M_weighStories a1 (-1) (sI σ 13 0 52 0)) 0 (e_M_weighStories a1 (-1) (sI σ 13 0 52 0))))) else (-2))))
def p_M_first (a1 : Int32) (σ : MSto) : Prop := (¬ ((v_M_areCounted a1 1 4 (sI σ 13 0 52 0)) = 0) → (¬ ((gI (sI σ 13 0 52 0) 13 0 17) = 0) → ((p_M_weighStories a1 (-1) (sI σ 13 0 52 0)) ∧ ((0 ≤ (v_M_weighStories a1 (-1) (sI σ 13 0 52 0))) → ((∀ i, i < (n_M_first_40 a1 (v_M_weighStories a1 (-1) (sI σ 13 0 52 0)) 0 (e_M_weighStories a1 (-1) (sI σ 13 0 52 0))) → g_M_first_40 a1 (v_M_weighStories a1 (-1) (sI σ 13 0 52 0)) (0 + nI i) (f_M_first_40 a1 (v_M_weighStories a1 (-1) (sI σ 13 0 52 0)) 0 (e_M_weighStories a1 (-1) (sI σ 13 0 52 0)) i) ∧ ¬ q_M_first_40s a1 (v_M_weighStories a1 (-1) (sI σ 13 0 52 0)) (0 + nI i) (f_M_first_40 a1 (v_M_weighStories a1 (-1) (sI σ 13 0 52 0)) 0 (e_M_weighStories a1 (-1) (sI σ 13 0 52 0)) i) = 1) ∧ (¬ ((gI (f_M_first_40 a1 (v_M_weighStories a1 (-1) (sI σ 13 0 52 0)) 0 (e_M_weighStories a1 (-1) (sI σ 13 0 52 0)) (n_M_first_40 a1 (v_M_weighStories a1 (-1) (sI σ 13 0 52 0)) 0 (e_M_weighStories a1 (-1) (sI σ 13 0 52 0)))) 13 0 27) ≤ (0 + nI (n_M_first_40 a1 (v_M_weighStories a1 (-1) (sI σ 13 0 52 0)) 0 (e_M_weighStories a1 (-1) (sI σ 13 0 52 0))))) → ((p_M_weighStories a1 (0 + nI (n_M_first_40 a1 (v_M_weighStories a1 (-1) (sI σ 13 0 52 0)) 0 (e_M_weighStories a1 (-1) (sI σ 13 0 52 0)))) (f_M_first_40 a1 (v_M_weighStories a1 (-1) (sI σ 13 0 52 0)) 0 (e_M_weighStories a1 (-1) (sI σ 13 0 52 0)) (n_M_first_40 a1 (v_M_weighStories a1 (-1) (sI σ 13 0 52 0)) 0 (e_M_weighStories a1 (-1) (sI σ 13 0 52 0))))) ∧ ((((v_M_weighStories a1 (0 + nI (n_M_first_40 a1 (v_M_weighStories a1 (-1) (sI σ 13 0 52 0)) 0 (e_M_weighStories a1 (-1) (sI σ 13 0 52 0)))) (f_M_first_40 a1 (v_M_weighStories a1 (-1) (sI σ 13 0 52 0)) 0 (e_M_weighStories a1 (-1) (sI σ 13 0 52 0)) (n_M_first_40 a1 (v_M_weighStories a1 (-1) (sI σ 13 0 52 0)) 0 (e_M_weighStories a1 (-1) (sI σ 13 0 52 0))))) = (v_M_weighStories a1 (-1) (sI σ 13 0 52 0))) → False) ∧ (¬ ((v_M_weighStories a1 (0 + nI (n_M_first_40 a1 (v_M_weighStories a1 (-1) (sI σ 13 0 52 0)) 0 (e_M_weighStories a1 (-1) (sI σ 13 0 52 0)))) (f_M_first_40 a1 (v_M_weighStories a1 (-1) (sI σ 13 0 52 0)) 0 (e_M_weighStories a1 (-1) (sI σ 13 0 52 0)) (n_M_first_40 a1 (v_M_weighStories a1 (-1) (sI σ 13 0 52 0)) 0 (e_M_weighStories a1 (-1) (sI σ 13 0 52 0))))) = (v_M_weighStories a1 (-1) (sI σ 13 0 52 0))) → (((0 ≤ (v_M_weighStories a1 (0 + nI (n_M_first_40 a1 (v_M_weighStories a1 (-1) (sI σ 13 0 52 0)) 0 (e_M_weighStories a1 (-1) (sI σ 13 0 52 0)))) (f_M_first_40 a1 (v_M_weighStories a1 (-1) (sI σ 13 0 52 0)) 0 (e_M_weighStories a1 (-1) (sI σ 13 0 52 0)) (n_M_first_40 a1 (v_M_weighStories a1 (-1) (sI σ 13 0 52 0)) 0 (e_M_weighStories a1 (-1) (sI σ 13 0 52 0)))))) → (p_M_tell (Int32.toInt64 (v_M_weighStories a1 (0 + nI (n_M_first_40 a1 (v_M_weighStories a1 (-1) (sI σ 13 0 52 0)) 0 (e_M_weighStories a1 (-1) (sI σ 13 0 52 0)))) (f_M_first_40 a1 (v_M_weighStories a1 (-1) (sI σ 13 0 52 0)) 0 (e_M_weighStories a1 (-1) (sI σ 13 0 52 0)) (n_M_first_40 a1 (v_M_weighStories a1 (-1) (sI σ 13 0 52 0)) 0 (e_M_weighStories a1 (-1) (sI σ 13 0 52 0)))))) (sI (e_M_weighStories a1 (0 + nI (n_M_first_40 a1 (v_M_weighStories a1 (-1) (sI σ 13 0 52 0)) 0 (e_M_weighStories a1 (-1) (sI σ 13 0 52 0)))) (f_M_first_40 a1 (v_M_weighStories a1 (-1) (sI σ 13 0 52 0)) 0 (e_M_weighStories a1 (-1) (sI σ 13 0 52 0)) (n_M_first_40 a1 (v_M_weighStories a1 (-1) (sI σ 13 0 52 0)) 0 (e_M_weighStories a1 (-1) (sI σ 13 0 52 0))))) 13 0 51 0))) ∧ (¬ (0 ≤ (v_M_weighStories a1 (0 + nI (n_M_first_40 a1 (v_M_weighStories a1 (-1) (sI σ 13 0 52 0)) 0 (e_M_weighStories a1 (-1) (sI σ 13 0 52 0)))) (f_M_first_40 a1 (v_M_weighStories a1 (-1) (sI σ 13 0 52 0)) 0 (e_M_weighStories a1 (-1) (sI σ 13 0 52 0)) (n_M_first_40 a1 (v_M_weighStories a1 (-1) (sI σ 13 0 52 0)) 0 (e_M_weighStories a1 (-1) (sI σ 13 0 52 0)))))) → False)))))))))))
noncomputable def e_M_first (a1 : Int32) (σ : MSto) : MSto := (if (v_M_areCounted a1 1 4 (sI σ 13 0 52 0)) = 0 then (sI σ 13 0 52 0) else (if (gI (sI σ 13 0 52 0) 13 0 17) = 0 then (sI σ 13 0 52 0) else (if 0 ≤ (v_M_weighStories a1 (-1) (sI σ 13 0 52 0)) then (if (gI (f_M_first_40 a1 (v_M_weighStories a1 (-1) (sI σ 13 0 52 0)) 0 (e_M_weighStories a1 (-1) (sI σ 13 0 52 0)) (n_M_first_40 a1 (v_M_weighStories a1 (-1) (sI σ 13 0 52 0)) 0 (e_M_weighStories a1 (-1) (sI σ 13 0 52 0)))) 13 0 27) ≤ (0 + nI (n_M_first_40 a1 (v_M_weighStories a1 (-1) (sI σ 13 0 52 0)) 0 (e_M_weighStories a1 (-1) (sI σ 13 0 52 0)))) then (f_M_first_40 a1 (v_M_weighStories a1 (-1) (sI σ 13 0 52 0)) 0 (e_M_weighStories a1 (-1) (sI σ 13 0 52 0)) (n_M_first_40 a1 (v_M_weighStories a1 (-1) (sI σ 13 0 52 0)) 0 (e_M_weighStories a1 (-1) (sI σ 13 0 52 0)))) else (e_M_tell (Int32.toInt64 (v_M_weighStories a1 (0 + nI (n_M_first_40 a1 (v_M_weighStories a1 (-1) (sI σ 13 0 52 0)) 0 (e_M_weighStories a1 (-1) (sI σ 13 0 52 0)))) (f_M_first_40 a1 (v_M_weighStories a1 (-1) (sI σ 13 0 52 0)) 0 (e_M_weighStories a1 (-1) (sI σ 13 0 52 0)) (n_M_first_40 a1 (v_M_weighStories a1 (-1) (sI σ 13 0 52 0)) 0 (e_M_weighStories a1 (-1) (sI σ 13 0 52 0)))))) (sI (e_M_weighStories a1 (0 + nI (n_M_first_40 a1 (v_M_weighStories a1 (-1) (sI σ 13 0 52 0)) 0 (e_M_weighStories a1 (-1) (sI σ 13 0 52 0)))) (f_M_first_40 a1 (v_M_weighStories a1 (-1) (sI σ 13 0 52 0)) 0 (e_M_weighStories a1 (-1) (sI σ 13 0 52 0)) (n_M_first_40 a1 (v_M_weighStories a1 (-1) (sI σ 13 0 52 0)) 0 (e_M_weighStories a1 (-1) (sI σ 13 0 52 0))))) 13 0 51 0))) else (e_M_weighStories a1 (-1) (sI σ 13 0 52 0)))))
noncomputable def S_M_first : List MV → MSto → Option Prop × Option MV × MSto := fun as σ => match as with
  | [.inr (.inr (some (13, 0))), .inl a0] => (some (p_M_first a0 σ), some (mI (v_M_first a0 σ)), e_M_first a0 σ)
  | _ => (some False, none, σ)
noncomputable def E_M_first : MEnt := ((1, 1, 13), (7, 177, 0, 0), S_M_first, ((⟨"ClothWithManModel", "first", "(I)I"⟩ : MethodName), prog_14_method_82_code, 5, (some .int)))

def T_M_first : Nat → Option (Instr × Nat × List Nat) := fun k => bif Nat.blt k 93 then (bif Nat.blt k 41 then (bif Nat.blt k 23 then (bif Nat.blt k 8 then (bif Nat.blt k 5 then (bif Nat.blt k 1 then (bif Nat.beq k 0 then some (.aload_n 0, 1, []) else none) else (bif Nat.blt k 2 then (bif Nat.beq k 1 then some (.iconst 0, 2, []) else none) else (bif Nat.beq k 2 then some (.putfield 161, 5, []) else none))) else (bif Nat.blt k 6 then (bif Nat.beq k 5 then some (.aload_n 0, 6, []) else none) else (bif Nat.blt k 7 then (bif Nat.beq k 6 then some (.iload_n 1, 7, []) else none) else (bif Nat.beq k 7 then some (.iconst 1, 8, []) else none)))) else (bif Nat.blt k 15 then (bif Nat.blt k 9 then (bif Nat.beq k 8 then some (.iconst 4, 9, []) else none) else (bif Nat.blt k 12 then (bif Nat.beq k 9 then some (.invokevirtual 315, 12, []) else none) else (bif Nat.beq k 12 then some (.ifCond .eq 10, 15, [22]) else none))) else (bif Nat.blt k 19 then (bif Nat.blt k 16 then (bif Nat.beq k 15 then some (.aload_n 0, 16, []) else none) else (bif Nat.beq k 16 then some (.getfield 188, 19, []) else none)) else (bif Nat.blt k 22 then (bif Nat.beq k 19 then some (.ifCond .ne 5, 22, [24]) else none) else (bif Nat.beq k 22 then some (.iconst (-1), 23, []) else none))))) else (bif Nat.blt k 31 then (bif Nat.blt k 26 then (bif Nat.blt k 24 then (bif Nat.beq k 23 then some (.ireturn, 24, []) else none) else (bif Nat.blt k 25 then (bif Nat.beq k 24 then some (.aload_n 0, 25, []) else none) else (bif Nat.beq k 25 then some (.iload_n 1, 26, []) else none))) else (bif Nat.blt k 27 then (bif Nat.beq k 26 then some (.iconst (-1), 27, []) else none) else (bif Nat.blt k 30 then (bif Nat.beq k 27 then some (.invokevirtual 409, 30, []) else none) else (bif Nat.beq k 30 then some (.istore_n 2, 31, []) else none)))) else (bif Nat.blt k 37 then (bif Nat.blt k 32 then (bif Nat.beq k 31 then some (.iload_n 2, 32, []) else none) else (bif Nat.blt k 35 then (bif Nat.beq k 32 then some (.ifCond .ge 6, 35, [38]) else none) else (bif Nat.beq k 35 then some (.bipush (-2), 37, []) else none))) else (bif Nat.blt k 39 then (bif Nat.blt k 38 then (bif Nat.beq k 37 then some (.ireturn, 38, []) else none) else (bif Nat.beq k 38 then some (.iconst 0, 39, []) else none)) else (bif Nat.blt k 40 then (bif Nat.beq k 39 then some (.istore_n 3, 40, []) else none) else (bif Nat.beq k 40 then some (.iload_n 3, 41, []) else none)))))) else (bif Nat.blt k 67 then (bif Nat.blt k 51 then (bif Nat.blt k 48 then (bif Nat.blt k 42 then (bif Nat.beq k 41 then some (.aload_n 0, 42, []) else none) else (bif Nat.blt k 45 then (bif Nat.beq k 42 then some (.getfield 394, 45, []) else none) else (bif Nat.beq k 45 then some (.if_icmp .ge 45, 48, [90]) else none))) else (bif Nat.blt k 49 then (bif Nat.beq k 48 then some (.aload_n 0, 49, []) else none) else (bif Nat.blt k 50 then (bif Nat.beq k 49 then some (.iload_n 1, 50, []) else none) else (bif Nat.beq k 50 then some (.iload_n 3, 51, []) else none)))) else (bif Nat.blt k 58 then (bif Nat.blt k 54 then (bif Nat.beq k 51 then some (.invokevirtual 409, 54, []) else none) else (bif Nat.blt k 56 then (bif Nat.beq k 54 then some (.istore 4, 56, []) else none) else (bif Nat.beq k 56 then some (.iload 4, 58, []) else none))) else (bif Nat.blt k 62 then (bif Nat.blt k 59 then (bif Nat.beq k 58 then some (.iload_n 2, 59, []) else none) else (bif Nat.beq k 59 then some (.if_icmp .eq 25, 62, [84]) else none)) else (bif Nat.blt k 64 then (bif Nat.beq k 62 then some (.iload 4, 64, []) else none) else (bif Nat.beq k 64 then some (.ifCond .ge 6, 67, [70]) else none))))) else (bif Nat.blt k 79 then (bif Nat.blt k 72 then (bif Nat.blt k 70 then (bif Nat.beq k 67 then some (.goto 17, 70, [84]) else none) else (bif Nat.blt k 71 then (bif Nat.beq k 70 then some (.aload_n 0, 71, []) else none) else (bif Nat.beq k 71 then some (.iconst 0, 72, []) else none))) else (bif Nat.blt k 76 then (bif Nat.blt k 75 then (bif Nat.beq k 72 then some (.putfield 164, 75, []) else none) else (bif Nat.beq k 75 then some (.aload_n 0, 76, []) else none)) else (bif Nat.blt k 78 then (bif Nat.beq k 76 then some (.iload 4, 78, []) else none) else (bif Nat.beq k 78 then some (.i2l, 79, []) else none)))) else (bif Nat.blt k 84 then (bif Nat.blt k 82 then (bif Nat.beq k 79 then some (.invokevirtual 177, 82, []) else none) else (bif Nat.blt k 83 then (bif Nat.beq k 82 then some (.iload_n 3, 83, []) else none) else (bif Nat.beq k 83 then some (.ireturn, 84, []) else none))) else (bif Nat.blt k 90 then (bif Nat.blt k 87 then (bif Nat.beq k 84 then some (.iinc 3 1, 87, []) else none) else (bif Nat.beq k 87 then some (.goto (-47), 90, [40]) else none)) else (bif Nat.blt k 92 then (bif Nat.beq k 90 then some (.bipush (-2), 92, []) else none) else (bif Nat.beq k 92 then some (.ireturn, 93, []) else none))))))) else none
noncomputable def P_M_first : MP := (T_M_first, (fun k => mLook k [(161, (13, 52, .int, false)), (164, (13, 51, .int, false)), (188, (13, 17, .int, false)), (394, (13, 27, .int, false))]), (fun k => mLook k []), (fun k => mLook k [(177, E_M_tell), (315, E_M_areCounted), (409, E_M_weighStories)]), (fun k => mLook k []), (fun k => mLook k []), (fun k => mLook k []), (fun k => mLook k [(40, [true, true, true, true, false])]), (fun k => [23, 37, 83, 92].any (Nat.beq k)), (7, 177, 0, 0), false, (fun _ => none))
set_option maxRecDepth 100000 in
set_option maxHeartbeats 4000000 in
theorem q_M_first_e (a1 : Int32) (σ : MSto) (n : Nat) : mexe KT P_M_first (n + 1) (0, [some (mR 13 0), some (mI a1), none, none, none], [], σ, 0, 0) = mIf ((v_M_areCounted a1 1 4 (sI σ 13 0 52 0)) = 0) (some (23, [], [(mI (-1))], (sI σ 13 0 52 0), 0, 0)) (mIf ((gI (sI σ 13 0 52 0) 13 0 17) = 0) (some (23, [], [(mI (-1))], (sI σ 13 0 52 0), 0, 0)) (mG (p_M_weighStories a1 (-1) (sI σ 13 0 52 0)) (mIf (0 ≤ (v_M_weighStories a1 (-1) (sI σ 13 0 52 0))) (mexe KT P_M_first n (40, [some (mR 13 0), some (mI a1), some (mI (v_M_weighStories a1 (-1) (sI σ 13 0 52 0))), some (mI 0), none], [], (e_M_weighStories a1 (-1) (sI σ 13 0 52 0)), 0, 0)) (some (37, [], [(mI (-2))], (e_M_weighStories a1 (-1) (sI σ 13 0 52 0)), 0, 0))))) := rfl
set_option maxRecDepth 100000 in
set_option maxHeartbeats 4000000 in
theorem q_M_first_40 (x1 : Int32) (x2 : Int32) (x3 : Int32) (σ : MSto) (n : Nat) : mexe KT P_M_first (n + 1) (40, [some (mR 13 0), some (mI x1), some (mI x2), some (mI x3), none], [], σ, 0, 0) = mIf ((gI σ 13 0 27) ≤ x3) (some (92, [], [(mI (-2))], σ, 0, 0)) (mG (p_M_weighStories x1 x3 σ) (mIf ((v_M_weighStories x1 x3 σ) = x2) (mexe KT P_M_first n (40, [some (mR 13 0), some (mI x1), some (mI x2), some (mI (x3 + 1)), none], [], (e_M_weighStories x1 x3 σ), 0, 0)) (mIf (0 ≤ (v_M_weighStories x1 x3 σ)) (mG (p_M_tell (Int32.toInt64 (v_M_weighStories x1 x3 σ)) (sI (e_M_weighStories x1 x3 σ) 13 0 51 0)) (some (83, [], [(mI x3)], (e_M_tell (Int32.toInt64 (v_M_weighStories x1 x3 σ)) (sI (e_M_weighStories x1 x3 σ) 13 0 51 0)), 0, 0))) (mexe KT P_M_first n (40, [some (mR 13 0), some (mI x1), some (mI x2), some (mI (x3 + 1)), none], [], (e_M_weighStories x1 x3 σ), 0, 0))))) := rfl
set_option maxRecDepth 100000 in
theorem lt_M_first_40 {Post : MST → Prop} (x1 : Int32) (x2 : Int32) (c : Int32) (s : MSto) (hp : g_M_first_40 x1 x2 c s) (hq : ¬ q_M_first_40s x1 x2 c s = 1) (hn : ∀ r, t_M_first_40 x1 x2 c s = r → mW1 P_M_first (40, [some (mR 13 0), some (mI x1), some (mI x2), some (mI (c + 1)), none], [], r, 0, 0) Post) : mW1 P_M_first (40, [some (mR 13 0), some (mI x1), some (mI x2), some (mI c), none], [], s, 0, 0) Post := by
  unfold g_M_first_40 at hp
  refine mW1_eq (q_M_first_40 _ _ _ _) ?_
  refine mTr_if (fun h0 => ?_) (fun h0 => ?_)
  · skip
    exact absurd (if_pos h0) hq
  · skip
    have hp := hp h0
    refine mTr_g hp ?_
    refine mTr_if (fun h1 => ?_) (fun h1 => ?_)
    · skip
      exact mTr_k (hn (e_M_weighStories x1 c s) ((if_neg h0).trans (if_pos h1)))
    · skip
      refine mTr_if (fun h2 => ?_) (fun h2 => ?_)
      · skip
        exact absurd ((if_neg h0).trans ((if_neg h1).trans (if_pos h2))) hq
      · skip
        exact mTr_k (hn (e_M_weighStories x1 c s) ((if_neg h0).trans ((if_neg h1).trans (if_neg h2))))
theorem lp_M_first_40 {Post : MST → Prop} (x1 : Int32) (x2 : Int32) (c0 : Int32) (s0 : MSto) (N : Nat) (hb : ∀ i, i < N → g_M_first_40 x1 x2 (c0 + nI i) (f_M_first_40 x1 x2 c0 s0 i) ∧ ¬ q_M_first_40s x1 x2 (c0 + nI i) (f_M_first_40 x1 x2 c0 s0 i) = 1) (h : mW1 P_M_first (40, [some (mR 13 0), some (mI x1), some (mI x2), some (mI (c0 + nI N)), none], [], (f_M_first_40 x1 x2 c0 s0 N), 0, 0) Post) : mW1 P_M_first (40, [some (mR 13 0), some (mI x1), some (mI x2), some (mI c0), none], [], s0, 0, 0) Post := by
  refine mW1_st (mW1_loop (fun i => (40, [some (mR 13 0), some (mI x1), some (mI x2), some (mI (c0 + nI i)), none], [], (f_M_first_40 x1 x2 c0 s0 i), 0, 0)) N (fun i hlt hn => ?_) h) (by rw [show nI 0 = 0 from rfl, Int32.add_zero] <;> rfl)
  refine lt_M_first_40 x1 x2 _ _ (hb i hlt).1 (hb i hlt).2 (fun r hr => ?_)
  rw [Int32.add_assoc, nI_s]
  subst hr
  exact hn
set_option maxRecDepth 100000 in
set_option maxHeartbeats 4000000 in
theorem d_M_first (a1 : Int32) (σ : MSto) (hp : p_M_first a1 σ) : mW1 P_M_first (0, [some (mR 13 0), some (mI a1), none, none, none], [], σ, 0, 0) (mF [23, 37, 83, 92] [mI (v_M_first a1 σ)] (e_M_first a1 σ) 0 0) := by
  refine mW1_eq (q_M_first_e _ _) ?_
  unfold p_M_first at hp
  refine mTr_if (fun h0 => ?_) (fun h0 => ?_)
  · skip
    exact mTr_e (by decide) (congrArg (fun z => [mI z]) (Eq.symm (if_pos h0))) (Eq.symm (if_pos h0)) (by decide) (by decide)
  · skip
    have hp := hp h0
    refine mTr_if (fun h1 => ?_) (fun h1 => ?_)
    · skip
      exact mTr_e (by decide) (congrArg (fun z => [mI z]) (Eq.symm ((if_neg h0).trans (if_pos h1)))) (Eq.symm ((if_neg h0).trans (if_pos h1))) (by decide) (by decide)
    · skip
      have hp := hp h1
      refine mTr_g hp.1 ?_
      have hp := hp.2
      refine mTr_if (fun h2 => ?_) (fun h2 => ?_)
      · skip
        have hp := hp h2
        refine mTr_k (lp_M_first_40 a1 (v_M_weighStories a1 (-1) (sI σ 13 0 52 0)) 0 (e_M_weighStories a1 (-1) (sI σ 13 0 52 0)) (n_M_first_40 a1 (v_M_weighStories a1 (-1) (sI σ 13 0 52 0)) 0 (e_M_weighStories a1 (-1) (sI σ 13 0 52 0))) hp.1 ?_)
        have hp := hp.2
        refine mW1_eq (q_M_first_40 _ _ _ _) ?_
        refine mTr_if (fun h3 => ?_) (fun h3 => ?_)
        · skip
          exact mTr_e (by decide) (congrArg (fun z => [mI z]) (Eq.symm ((if_neg h0).trans ((if_neg h1).trans ((if_pos h2).trans (if_pos h3)))))) (Eq.symm ((if_neg h0).trans ((if_neg h1).trans ((if_pos h2).trans (if_pos h3))))) (by decide) (by decide)
        · skip
          have hp := hp h3
          refine mTr_g hp.1 ?_
          have hp := hp.2
          refine mTr_if (fun h4 => ?_) (fun h4 => ?_)
          · skip
            have hp := hp.1 h4
            exact hp.elim
          · skip
            have hp := hp.2 h4
            refine mTr_if (fun h5 => ?_) (fun h5 => ?_)
            · skip
              have hp := hp.1 h5
              refine mTr_g hp ?_
              exact mTr_e (by decide) (congrArg (fun z => [mI z]) (Eq.symm ((if_neg h0).trans ((if_neg h1).trans ((if_pos h2).trans (if_neg h3)))))) (Eq.symm ((if_neg h0).trans ((if_neg h1).trans ((if_pos h2).trans (if_neg h3))))) (by decide) (by decide)
            · skip
              have hp := hp.2 h5
              exact hp.elim
      · skip
        exact mTr_e (by decide) (congrArg (fun z => [mI z]) (Eq.symm ((if_neg h0).trans ((if_neg h1).trans (if_neg h2))))) (Eq.symm ((if_neg h0).trans ((if_neg h1).trans (if_neg h2)))) (by decide) (by decide)



theorem tk_M_first : ∀ pc i nx tg, T_M_first pc = some (i, nx, tg) → mOkB prog_14_method_82_code pc i nx tg = true := code_ok (N := 93) (fun k h => by unfold T_M_first; rw [h]; rfl) (by decide +kernel)
theorem ok_M_first (l : Launch) : mPOK l "ClothWithManModel" prog_14_method_82_code P_M_first := by
  refine ⟨tk_M_first, ?_, ?_, ?_, (fun pc i nx tg kd _ h => by cases h), ?_, ?_, fun pc en h => by cases h⟩
  · intro x ci f ty fin h
    exact mLook_all (Q := fun x v => mFOK "ClothWithManModel" x v.1 v.2.1 v.2.2.1 v.2.2.2 ∧ (v.2.2.2 = true → pIni P_M_first = true → (Cond.fieldLink "ClothWithManModel" x (((mCl[v.1]?).getD ("", fun _ => ("", "", "", false), 0)).2.1 v.2.1).1 (((mCl[v.1]?).getD ("", fun _ => ("", "", "", false), 0)).2.1 v.2.1).2.1 (((mCl[v.1]?).getD ("", fun _ => ("", "", "", false), 0)).2.1 v.2.1).2.2.1 ∈ lw_tbl ∧ (((mCl[v.1]?).getD ("", fun _ => ("", "", "", false), 0)).2.1 v.2.1).1 = "ClothWithManModel"))) (fcC ⟨fo_M_161, fun h1 h2 => by cases h1⟩ (fcC ⟨fo_M_164, fun h1 h2 => by cases h1⟩ (fcC ⟨fo_M_188, fun h1 h2 => by cases h1⟩ (fcC ⟨fo_M_394, fun h1 h2 => by cases h1⟩ fcN)))) x (ci, f, ty, fin) h
  · intro x
    have hh := mLook_all (l := ([] : List (Nat × (Int32 ⊕ Int64)))) (Q := fun x (v : Int32 ⊕ Int64) => (∀ w, v = .inl w → Cond.constant "ClothWithManModel" x w ∈ lw_tbl) ∧ (∀ w, v = .inr w → Cond.constantLong "ClothWithManModel" x w ∈ lw_tbl)) fcN x
    exact ⟨fun w h => (hh _ h).1 w rfl, fun w h => (hh _ h).2 w rfl⟩
  · exact fun x en h => mLook_all (Q := fun x en => mLink "ClothWithManModel" x en ∧ mCtr l en ∧ (en.1.1 = 2 → en.2.2.2.2.2.2 = none)) (fcC ⟨li_M_177, c_M_tell l, (fun h => by cases h)⟩ (fcC ⟨li_M_315, c_M_areCounted l, (fun h => by cases h)⟩ (fcC ⟨li_M_409, c_M_weighStories l, (fun h => by cases h)⟩ fcN))) x en h
  · exact fun x kd h => mLook_all (Q := fun x kd => (kd = 95 ∧ Cond.fieldLink "ClothWithManModel" x "ClothWithMan" "LIKENESSES" "[I" ∈ lw_tbl) ∨ (kd = 96 ∧ Cond.fieldLink "ClothWithManModel" x "ClothWithMan" "APART_BOUNDS" "[I" ∈ lw_tbl)) fcN x kd h
  · exact fun x ci h => mLook_all (Q := fun x ci => ci ≠ 0 ∧ ∃ (C : String) (T : u_T) (N : Nat), mCl[ci]? = some (C, T, N) ∧ Cond.classLink "ClothWithManModel" x C ∈ lw_tbl ∧ Cond.instantiable C N ∈ lw_tbl) fcN x ci h
set_option maxRecDepth 100000 in
theorem c_M_first (l : Launch) : mCtr l E_M_first := mCtr_of (P := P_M_first) (own := "ClothWithManModel") mLay_ok rfl (by decide +kernel) rfl (ok_M_first l) (fun h => by cases h) (fun as σ pr rv σ' hF hpr hlv => by
  unfold E_M_first S_M_first at hF
  simp only [] at hF
  split at hF
  · cases hF
    obtain ⟨n, pcF, c1, s1, g1, g2, g3, g4⟩ := mF_inv (d_M_first _ σ (hpr _ rfl))
    exact ⟨Nat.le_of_ble_eq_true rfl, (fun v h => by cases h; trivial), n, pcF, c1, s1, g1, ⟨mEnd_of (i := .ireturn) (P := P_M_first) (rets := [23, 37, 83, 92]) rfl g2, rfl⟩, g3, g4⟩
  · cases hF
    exact (hpr _ rfl).elim)

