/-! ClothWithManModel.odds(I)I -/
noncomputable def t_M_odds_76 (x2 : Int32) (x3 : Int64) (c : Int32) (s : MSto) : MSto := (if (gI s 13 0 17) ≤ c then s else (e_M_tellPart (gJ s 85 0 (Int32.toNatClampNeg c)) x3 s))
noncomputable def q_M_odds_76s (x2 : Int32) (x3 : Int64) (c : Int32) (s : MSto) : Nat := (if (gI s 13 0 17) ≤ c then 1 else 0)
def g_M_odds_76 (x2 : Int32) (x3 : Int64) (c : Int32) (s : MSto) : Prop := (¬ ((gI s 13 0 17) ≤ c) → ((vp_in c 6) ∧ (p_M_tellPart (gJ s 85 0 (Int32.toNatClampNeg c)) x3 s)))
noncomputable def f_M_odds_76 (x2 : Int32) (x3 : Int64) (c0 : Int32) (s0 : MSto) (n : Nat) : MSto := nfold (fun i s => t_M_odds_76 x2 x3 (c0 + nI i) s) s0 n
noncomputable def n_M_odds_76 (x2 : Int32) (x3 : Int64) (c0 : Int32) (s0 : MSto) : Nat := nM s0 17
noncomputable def t_M_odds_43 (x2 : Int32) (c : Int32) (σ : MSto) (s : Int64) : Int64 := (if (gI σ 13 0 17) ≤ c then s else (s + (gJ σ 85 0 (Int32.toNatClampNeg c))))
noncomputable def q_M_odds_43s (x2 : Int32) (c : Int32) (σ : MSto) (s : Int64) : Nat := (if (gI σ 13 0 17) ≤ c then 1 else 0)
def g_M_odds_43 (x2 : Int32) (c : Int32) (σ : MSto) (s : Int64) : Prop := (¬ ((gI σ 13 0 17) ≤ c) → (vp_in c 6))
noncomputable def f_M_odds_43 (x2 : Int32) (c0 : Int32) (σ : MSto) (s0 : Int64) (n : Nat) : Int64 := nfold (fun i s => t_M_odds_43 x2 (c0 + nI i) σ s) s0 n
noncomputable def n_M_odds_43 (x2 : Int32) (c0 : Int32) (σ : MSto) (s0 : Int64) : Nat := nM σ 17
noncomputable def v_M_odds (a1 : Int32) (σ : MSto) : Int32 := (if (v_M_areCounted a1 1 4 (sI σ 13 0 52 0)) = 0 then (-1) else (if (gI (sI σ 13 0 52 0) 13 0 17) = 0 then (-1) else (if 0 ≤ (v_M_weighStories a1 (-1) (sI σ 13 0 52 0)) then (v_M_weighStories a1 (-1) (sI σ 13 0 52 0)) else (-2))))
def p_M_odds (a1 : Int32) (σ : MSto) : Prop := (¬ ((v_M_areCounted a1 1 4 (sI σ 13 0 52 0)) = 0) → (¬ ((gI (sI σ 13 0 52 0) 13 0 17) = 0) → ((p_M_weighStories a1 (-1) (sI σ 13 0 52 0)) ∧ ((0 ≤ (v_M_weighStories a1 (-1) (sI σ 13 0 52 0))) → ((∀ i, i < (n_M_odds_43 (v_M_weighStories a1 (-1) (sI σ 13 0 52 0)) 0 (e_M_weighStories a1 (-1) (sI σ 13 0 52 0)) 0) → g_M_odds_43 (v_M_weighStories a1 (-1) (sI σ 13 0 52 0)) (0 + nI i) (e_M_weighStories a1 (-1) (sI σ 13 0 52 0)) (f_M_odds_43 (v_M_weighStories a1 (-1) (sI σ 13 0 52 0)) 0 (e_M_weighStories a1 (-1) (sI σ 13 0 52 0)) 0 i) ∧ ¬ q_M_odds_43s (v_M_weighStories a1 (-1) (sI σ 13 0 52 0)) (0 + nI i) (e_M_weighStories a1 (-1) (sI σ 13 0 52 0)) (f_M_odds_43 (v_M_weighStories a1 (-1) (sI σ 13 0 52 0)) 0 (e_M_weighStories a1 (-1) (sI σ 13 0 52 0)) 0 i) = 1) ∧ ((((gI (e_M_weighStories a1 (-1) (sI σ 13 0 52 0)) 13 0 17) ≤ (0 + nI (n_M_odds_43 (v_M_weighStories a1 (-1) (sI σ 13 0 52 0)) 0 (e_M_weighStories a1 (-1) (sI σ 13 0 52 0)) 0))) → ((∀ i, i < (n_M_odds_76 (v_M_weighStories a1 (-1) (sI σ 13 0 52 0)) (f_M_odds_43 (v_M_weighStories a1 (-1) (sI σ 13 0 52 0)) 0 (e_M_weighStories a1 (-1) (sI σ 13 0 52 0)) 0 (n_M_odds_43 (v_M_weighStories a1 (-1) (sI σ 13 0 52 0)) 0 (e_M_weighStories a1 (-1) (sI σ 13 0 52 0)) 0)) 0 (sI (e_M_weighStories a1 (-1) (sI σ 13 0 52 0)) 13 0 51 0)) → g_M_odds_76 (v_M_weighStories a1 (-1) (sI σ 13 0 52 0)) (f_M_odds_43 (v_M_weighStories a1 (-1) (sI σ 13 0 52 0)) 0 (e_M_weighStories a1 (-1) (sI σ 13 0 52 0)) 0 (n_M_odds_43 (v_M_weighStories a1 (-1) (sI σ 13 0 52 0)) 0 (e_M_weighStories a1 (-1) (sI σ 13 0 52 0)) 0)) (0 + nI i) (f_M_odds_76 (v_M_weighStories a1 (-1) (sI σ 13 0 52 0)) (f_M_odds_43 (v_M_weighStories a1 (-1) (sI σ 13 0 52 0)) 0 (e_M_weighStories a1 (-1) (sI σ 13 0 52 0)) 0 (n_M_odds_43 (v_M_weighStories a1 (-1) (sI σ 13 0 52 0)) 0 (e_M_weighStories a1 (-1) (sI σ 13 0 52 0)) 0)) 0 (sI (e_M_weighStories a1 (-1) (sI σ 13 0 52 0)) 13 0 51 0) i) ∧ ¬ q_M_odds_76s (v_M_weighStories a1 (-1) (sI σ 13 0 52 0)) (f_M_odds_43 (v_M_weighStories a1 (-1) (sI σ 13 0 52 0)) 0 (e_M_weighStories a1 (-1) (sI σ 13 0 52 0)) 0 (n_M_odds_43 (v_M_weighStories a1 (-1) (sI σ 13 0 52 0)) 0 (e_M_weighStories a1 (-1) (sI σ 13 0 52 0)) 0)) (0 + nI i) (f_M_odds_76 (v_M_weighStories a1 (-1) (sI σ 13 0 52 0)) (f_M_odds_43 (v_M_weighStories a1 (-1) (sI σ 13 0 52 0)) 0 (e_M_weighStories a1 (-1) (sI σ 13 0 52 0)) 0 (n_M_odds_43 (v_M_weighStories a1 (-1) (sI σ 13 0 52 0)) 0 (e_M_weighStories a1 (-1) (sI σ 13 0 52 0)) 0)) 0 (sI (e_M_weighStories a1 (-1) (sI σ 13 0 52 0)) 13 0 51 0) i) = 1) ∧ (¬ ((gI (f_M_odds_76 (v_M_weighStories a1 (-1) (sI σ 13 0 52 0)) (f_M_odds_43 (v_M_weighStories a1 (-1) (sI σ 13 0 52 0)) 0 (e_M_weighStories a1 (-1) (sI σ 13 0 52 0)) 0 (n_M_odds_43 (v_M_weighStories a1 (-1) (sI σ 13 0 52 0)) 0 (e_M_weighStories a1 (-1) (sI σ 13 0 52 0)) 0)) 0 (sI (e_M_weighStories a1 (-1) (sI σ 13 0 52 0)) 13 0 51 0) (n_M_odds_76 (v_M_weighStories a1 (-1) (sI σ 13 0 52 0)) (f_M_odds_43 (v_M_weighStories a1 (-1) (sI σ 13 0 52 0)) 0 (e_M_weighStories a1 (-1) (sI σ 13 0 52 0)) 0 (n_M_odds_43 (v_M_weighStories a1 (-1) (sI σ 13 0 52 0)) 0 (e_M_weighStories a1 (-1) (sI σ 13 0 52 0)) 0)) 0 (sI (e_M_weighStories a1 (-1) (sI σ 13 0 52 0)) 13 0 51 0))) 13 0 17) ≤ (0 + nI (n_M_odds_76 (v_M_weighStories a1 (-1) (sI σ 13 0 52 0)) (f_M_odds_43 (v_M_weighStories a1 (-1) (sI σ 13 0 52 0)) 0 (e_M_weighStories a1 (-1) (sI σ 13 0 52 0)) 0 (n_M_odds_43 (v_M_weighStories a1 (-1) (sI σ 13 0 52 0)) 0 (e_M_weighStories a1 (-1) (sI σ 13 0 52 0)) 0)) 0 (sI (e_M_weighStories a1 (-1) (sI σ 13 0 52 0)) 13 0 51 0)))) → False))) ∧ (¬ ((gI (e_M_weighStories a1 (-1) (sI σ 13 0 52 0)) 13 0 17) ≤ (0 + nI (n_M_odds_43 (v_M_weighStories a1 (-1) (sI σ 13 0 52 0)) 0 (e_M_weighStories a1 (-1) (sI σ 13 0 52 0)) 0))) → False)))))))
noncomputable def e_M_odds (a1 : Int32) (σ : MSto) : MSto := (if (v_M_areCounted a1 1 4 (sI σ 13 0 52 0)) = 0 then (sI σ 13 0 52 0) else (if (gI (sI σ 13 0 52 0) 13 0 17) = 0 then (sI σ 13 0 52 0) else (if 0 ≤ (v_M_weighStories a1 (-1) (sI σ 13 0 52 0)) then (f_M_odds_76 (v_M_weighStories a1 (-1) (sI σ 13 0 52 0)) (f_M_odds_43 (v_M_weighStories a1 (-1) (sI σ 13 0 52 0)) 0 (e_M_weighStories a1 (-1) (sI σ 13 0 52 0)) 0 (n_M_odds_43 (v_M_weighStories a1 (-1) (sI σ 13 0 52 0)) 0 (e_M_weighStories a1 (-1) (sI σ 13 0 52 0)) 0)) 0 (sI (e_M_weighStories a1 (-1) (sI σ 13 0 52 0)) 13 0 51 0) (n_M_odds_76 (v_M_weighStories a1 (-1) (sI σ 13 0 52 0)) (f_M_odds_43 (v_M_weighStories a1 (-1) (sI σ 13 0 52 0)) 0 (e_M_weighStories a1 (-1) (sI σ 13 0 52 0)) 0 (n_M_odds_43 (v_M_weighStories a1 (-1) (sI σ 13 0 52 0)) 0 (e_M_weighStories a1 (-1) (sI σ 13 0 52 0)) 0)) 0 (sI (e_M_weighStories a1 (-1) (sI σ 13 0 52 0)) 13 0 51 0))) else (e_M_weighStories a1 (-1) (sI σ 13 0 52 0)))))
noncomputable def S_M_odds : List MV → MSto → Option Prop × Option MV × MSto := fun as σ => match as with
  | [.inr (.inr (some (13, 0))), .inl a0] => (some (p_M_odds a0 σ), some (mI (v_M_odds a0 σ)), e_M_odds a0 σ)
  | _ => (some False, none, σ)
noncomputable def E_M_odds : MEnt := ((1, 1, 13), (7, 177, 0, 0), S_M_odds, ((⟨"ClothWithManModel", "odds", "(I)I"⟩ : MethodName), prog_14_method_80_code, 6, (some .int)))

def T_M_odds : Nat → Option (Instr × Nat × List Nat) := fun k => bif Nat.blt k 105 then (bif Nat.blt k 49 then (bif Nat.blt k 25 then (bif Nat.blt k 9 then (bif Nat.blt k 5 then (bif Nat.blt k 1 then (bif Nat.beq k 0 then some (.aload_n 0, 1, []) else none) else (bif Nat.blt k 2 then (bif Nat.beq k 1 then some (.iconst 0, 2, []) else none) else (bif Nat.beq k 2 then some (.putfield 161, 5, []) else none))) else (bif Nat.blt k 7 then (bif Nat.blt k 6 then (bif Nat.beq k 5 then some (.aload_n 0, 6, []) else none) else (bif Nat.beq k 6 then some (.iload_n 1, 7, []) else none)) else (bif Nat.blt k 8 then (bif Nat.beq k 7 then some (.iconst 1, 8, []) else none) else (bif Nat.beq k 8 then some (.iconst 4, 9, []) else none)))) else (bif Nat.blt k 19 then (bif Nat.blt k 15 then (bif Nat.blt k 12 then (bif Nat.beq k 9 then some (.invokevirtual 315, 12, []) else none) else (bif Nat.beq k 12 then some (.ifCond .eq 10, 15, [22]) else none)) else (bif Nat.blt k 16 then (bif Nat.beq k 15 then some (.aload_n 0, 16, []) else none) else (bif Nat.beq k 16 then some (.getfield 188, 19, []) else none))) else (bif Nat.blt k 23 then (bif Nat.blt k 22 then (bif Nat.beq k 19 then some (.ifCond .ne 5, 22, [24]) else none) else (bif Nat.beq k 22 then some (.iconst (-1), 23, []) else none)) else (bif Nat.blt k 24 then (bif Nat.beq k 23 then some (.ireturn, 24, []) else none) else (bif Nat.beq k 24 then some (.aload_n 0, 25, []) else none))))) else (bif Nat.blt k 37 then (bif Nat.blt k 30 then (bif Nat.blt k 26 then (bif Nat.beq k 25 then some (.iload_n 1, 26, []) else none) else (bif Nat.blt k 27 then (bif Nat.beq k 26 then some (.iconst (-1), 27, []) else none) else (bif Nat.beq k 27 then some (.invokevirtual 409, 30, []) else none))) else (bif Nat.blt k 32 then (bif Nat.blt k 31 then (bif Nat.beq k 30 then some (.istore_n 2, 31, []) else none) else (bif Nat.beq k 31 then some (.iload_n 2, 32, []) else none)) else (bif Nat.blt k 35 then (bif Nat.beq k 32 then some (.ifCond .ge 6, 35, [38]) else none) else (bif Nat.beq k 35 then some (.bipush (-2), 37, []) else none)))) else (bif Nat.blt k 41 then (bif Nat.blt k 39 then (bif Nat.blt k 38 then (bif Nat.beq k 37 then some (.ireturn, 38, []) else none) else (bif Nat.beq k 38 then some (.lconst 0, 39, []) else none)) else (bif Nat.blt k 40 then (bif Nat.beq k 39 then some (.lstore_n 3, 40, []) else none) else (bif Nat.beq k 40 then some (.iconst 0, 41, []) else none))) else (bif Nat.blt k 45 then (bif Nat.blt k 43 then (bif Nat.beq k 41 then some (.istore 5, 43, []) else none) else (bif Nat.beq k 43 then some (.iload 5, 45, []) else none)) else (bif Nat.blt k 46 then (bif Nat.beq k 45 then some (.aload_n 0, 46, []) else none) else (bif Nat.beq k 46 then some (.getfield 188, 49, []) else none)))))) else (bif Nat.blt k 76 then (bif Nat.blt k 61 then (bif Nat.blt k 54 then (bif Nat.blt k 52 then (bif Nat.beq k 49 then some (.if_icmp .ge 19, 52, [68]) else none) else (bif Nat.blt k 53 then (bif Nat.beq k 52 then some (.lload_n 3, 53, []) else none) else (bif Nat.beq k 53 then some (.aload_n 0, 54, []) else none))) else (bif Nat.blt k 59 then (bif Nat.blt k 57 then (bif Nat.beq k 54 then some (.getfield 155, 57, []) else none) else (bif Nat.beq k 57 then some (.iload 5, 59, []) else none)) else (bif Nat.blt k 60 then (bif Nat.beq k 59 then some (.laload, 60, []) else none) else (bif Nat.beq k 60 then some (.ladd, 61, []) else none)))) else (bif Nat.blt k 69 then (bif Nat.blt k 65 then (bif Nat.blt k 62 then (bif Nat.beq k 61 then some (.lstore_n 3, 62, []) else none) else (bif Nat.beq k 62 then some (.iinc 5 1, 65, []) else none)) else (bif Nat.blt k 68 then (bif Nat.beq k 65 then some (.goto (-22), 68, [43]) else none) else (bif Nat.beq k 68 then some (.aload_n 0, 69, []) else none))) else (bif Nat.blt k 73 then (bif Nat.blt k 70 then (bif Nat.beq k 69 then some (.iconst 0, 70, []) else none) else (bif Nat.beq k 70 then some (.putfield 164, 73, []) else none)) else (bif Nat.blt k 74 then (bif Nat.beq k 73 then some (.iconst 0, 74, []) else none) else (bif Nat.beq k 74 then some (.istore 5, 76, []) else none))))) else (bif Nat.blt k 90 then (bif Nat.blt k 82 then (bif Nat.blt k 78 then (bif Nat.beq k 76 then some (.iload 5, 78, []) else none) else (bif Nat.blt k 79 then (bif Nat.beq k 78 then some (.aload_n 0, 79, []) else none) else (bif Nat.beq k 79 then some (.getfield 188, 82, []) else none))) else (bif Nat.blt k 86 then (bif Nat.blt k 85 then (bif Nat.beq k 82 then some (.if_icmp .ge 21, 85, [103]) else none) else (bif Nat.beq k 85 then some (.aload_n 0, 86, []) else none)) else (bif Nat.blt k 87 then (bif Nat.beq k 86 then some (.aload_n 0, 87, []) else none) else (bif Nat.beq k 87 then some (.getfield 155, 90, []) else none)))) else (bif Nat.blt k 97 then (bif Nat.blt k 93 then (bif Nat.blt k 92 then (bif Nat.beq k 90 then some (.iload 5, 92, []) else none) else (bif Nat.beq k 92 then some (.laload, 93, []) else none)) else (bif Nat.blt k 94 then (bif Nat.beq k 93 then some (.lload_n 3, 94, []) else none) else (bif Nat.beq k 94 then some (.invokevirtual 321, 97, []) else none))) else (bif Nat.blt k 103 then (bif Nat.blt k 100 then (bif Nat.beq k 97 then some (.iinc 5 1, 100, []) else none) else (bif Nat.beq k 100 then some (.goto (-24), 103, [76]) else none)) else (bif Nat.blt k 104 then (bif Nat.beq k 103 then some (.iload_n 2, 104, []) else none) else (bif Nat.beq k 104 then some (.ireturn, 105, []) else none))))))) else none
noncomputable def P_M_odds : MP := (T_M_odds, (fun k => mLook k [(155, (13, 69, (.array .long), true)), (161, (13, 52, .int, false)), (164, (13, 51, .int, false)), (188, (13, 17, .int, false))]), (fun k => mLook k []), (fun k => mLook k [(315, E_M_areCounted), (321, E_M_tellPart), (409, E_M_weighStories)]), (fun k => mLook k []), (fun k => mLook k []), (fun k => mLook k []), (fun k => mLook k [(43, [true, false, true, true, false, true]), (76, [true, false, true, true, false, true])]), (fun k => [23, 37, 104].any (Nat.beq k)), (7, 177, 0, 0), false, (fun _ => none))
set_option maxRecDepth 100000 in
set_option maxHeartbeats 4000000 in
theorem q_M_odds_e (a1 : Int32) (σ : MSto) (n : Nat) : mexe KT P_M_odds (n + 1) (0, [some (mR 13 0), some (mI a1), none, none, none, none], [], σ, 0, 0) = (if (v_M_areCounted a1 1 4 (sI σ 13 0 52 0)) = 0 then some (23, [], [(mI (-1))], (sI σ 13 0 52 0), 0, 0) else (if (gI (sI σ 13 0 52 0) 13 0 17) = 0 then some (23, [], [(mI (-1))], (sI σ 13 0 52 0), 0, 0) else mG (p_M_weighStories a1 (-1) (sI σ 13 0 52 0)) ((if 0 ≤ (v_M_weighStories a1 (-1) (sI σ 13 0 52 0)) then mexe KT P_M_odds n (43, [some (mR 13 0), none, some (mI (v_M_weighStories a1 (-1) (sI σ 13 0 52 0))), some (mJ 0), none, some (mI 0)], [], (e_M_weighStories a1 (-1) (sI σ 13 0 52 0)), 0, 0) else some (37, [], [(mI (-2))], (e_M_weighStories a1 (-1) (sI σ 13 0 52 0)), 0, 0))))) := rfl
set_option maxRecDepth 100000 in
set_option maxHeartbeats 4000000 in
theorem q_M_odds_43 (x2 : Int32) (x3 : Int64) (x5 : Int32) (σ : MSto) (n : Nat) : mexe KT P_M_odds (n + 1) (43, [some (mR 13 0), none, some (mI x2), some (mJ x3), none, some (mI x5)], [], σ, 0, 0) = (if (gI σ 13 0 17) ≤ x5 then mexe KT P_M_odds n (76, [some (mR 13 0), none, some (mI x2), some (mJ x3), none, some (mI 0)], [], (sI σ 13 0 51 0), 0, 0) else mG (vp_in x5 6) (mexe KT P_M_odds n (43, [some (mR 13 0), none, some (mI x2), some (mJ (x3 + (gJ σ 85 0 (Int32.toNatClampNeg x5)))), none, some (mI (x5 + 1))], [], σ, 0, 0))) := rfl
set_option maxRecDepth 100000 in
set_option maxHeartbeats 4000000 in
theorem q_M_odds_76 (x2 : Int32) (x3 : Int64) (x5 : Int32) (σ : MSto) (n : Nat) : mexe KT P_M_odds (n + 1) (76, [some (mR 13 0), none, some (mI x2), some (mJ x3), none, some (mI x5)], [], σ, 0, 0) = (if (gI σ 13 0 17) ≤ x5 then some (104, [], [(mI x2)], σ, 0, 0) else mG (vp_in x5 6) (mG (p_M_tellPart (gJ σ 85 0 (Int32.toNatClampNeg x5)) x3 σ) (mexe KT P_M_odds n (76, [some (mR 13 0), none, some (mI x2), some (mJ x3), none, some (mI (x5 + 1))], [], (e_M_tellPart (gJ σ 85 0 (Int32.toNatClampNeg x5)) x3 σ), 0, 0)))) := rfl
set_option maxRecDepth 100000 in
theorem lp_M_odds_76 {Post : MST → Prop} (x2 : Int32) (x3 : Int64) (c0 : Int32) (s0 : MSto) (N : Nat) (hb : ∀ i, i < N → g_M_odds_76 x2 x3 (c0 + nI i) (f_M_odds_76 x2 x3 c0 s0 i) ∧ ¬ q_M_odds_76s x2 x3 (c0 + nI i) (f_M_odds_76 x2 x3 c0 s0 i) = 1) (h : mW1 P_M_odds (76, [some (mR 13 0), none, some (mI x2), some (mJ x3), none, some (mI (c0 + nI N))], [], (f_M_odds_76 x2 x3 c0 s0 N), 0, 0) Post) : mW1 P_M_odds (76, [some (mR 13 0), none, some (mI x2), some (mJ x3), none, some (mI c0)], [], s0, 0, 0) Post := by
  refine mW1_st (mW1_loop (fun i => (76, [some (mR 13 0), none, some (mI x2), some (mJ x3), none, some (mI (c0 + nI i))], [], (f_M_odds_76 x2 x3 c0 s0 i), 0, 0)) N (fun i hlt hn => ?_) h) (by rw [show nI 0 = 0 from rfl, Int32.add_zero] <;> rfl)
  obtain ⟨hp, hq⟩ := hb i hlt
  have hn : mW1 P_M_odds (76, [some (mR 13 0), none, some (mI x2), some (mJ x3), none, some (mI (c0 + nI i + 1))], [], (t_M_odds_76 x2 x3 (c0 + nI i) (f_M_odds_76 x2 x3 c0 s0 i)), 0, 0) Post := by
    rw [Int32.add_assoc, nI_s]
    exact hn
  try dsimp only
  generalize (f_M_odds_76 x2 x3 c0 s0 i) = s at *
  generalize c0 + nI i = c at *
  clear hb h hlt
  unfold g_M_odds_76 at hp
  refine mW1_eq (q_M_odds_76 _ _ _ _) ?_
  refine mTr_if (fun h0 => ?_) (fun h0 => ?_)
  · skip
    exact absurd (by unfold q_M_odds_76s; first | (rw [if_pos h0]; done) | (rw [if_pos h0]; rfl)) hq
  · skip
    have hp := hp h0
    refine mTr_g hp.1 ?_
    have hp := hp.2
    refine mTr_g hp ?_
    have e : t_M_odds_76 x2 x3 c s = (e_M_tellPart (gJ s 85 0 (Int32.toNatClampNeg c)) x3 s) := (by unfold t_M_odds_76; first | (rw [if_neg h0]; done) | (rw [if_neg h0]; rfl))
    rw [e] at hn
    exact mTr_k hn
set_option maxRecDepth 100000 in
theorem lp_M_odds_43 {Post : MST → Prop} (x2 : Int32) (c0 : Int32) (σ : MSto) (s0 : Int64) (N : Nat) (hb : ∀ i, i < N → g_M_odds_43 x2 (c0 + nI i) σ (f_M_odds_43 x2 c0 σ s0 i) ∧ ¬ q_M_odds_43s x2 (c0 + nI i) σ (f_M_odds_43 x2 c0 σ s0 i) = 1) (h : mW1 P_M_odds (43, [some (mR 13 0), none, some (mI x2), some (mJ (f_M_odds_43 x2 c0 σ s0 N)), none, some (mI (c0 + nI N))], [], σ, 0, 0) Post) : mW1 P_M_odds (43, [some (mR 13 0), none, some (mI x2), some (mJ s0), none, some (mI c0)], [], σ, 0, 0) Post := by
  refine mW1_st (mW1_loop (fun i => (43, [some (mR 13 0), none, some (mI x2), some (mJ (f_M_odds_43 x2 c0 σ s0 i)), none, some (mI (c0 + nI i))], [], σ, 0, 0)) N (fun i hlt hn => ?_) h) (by rw [show nI 0 = 0 from rfl, Int32.add_zero] <;> rfl)
  obtain ⟨hp, hq⟩ := hb i hlt
  have hn : mW1 P_M_odds (43, [some (mR 13 0), none, some (mI x2), some (mJ (t_M_odds_43 x2 (c0 + nI i) σ (f_M_odds_43 x2 c0 σ s0 i))), none, some (mI (c0 + nI i + 1))], [], σ, 0, 0) Post := by
    rw [Int32.add_assoc, nI_s]
    exact hn
  try dsimp only
  generalize (f_M_odds_43 x2 c0 σ s0 i) = s at *
  generalize c0 + nI i = c at *
  clear hb h hlt
  unfold g_M_odds_43 at hp
  refine mW1_eq (q_M_odds_43 _ _ _ _) ?_
  refine mTr_if (fun h0 => ?_) (fun h0 => ?_)
  · skip
    exact absurd (by unfold q_M_odds_43s; first | (rw [if_pos h0]; done) | (rw [if_pos h0]; rfl)) hq
  · skip
    have hp := hp h0
    refine mTr_g hp ?_
    have e : t_M_odds_43 x2 c σ s = (s + (gJ σ 85 0 (Int32.toNatClampNeg c))) := (by unfold t_M_odds_43; first | (rw [if_neg h0]; done) | (rw [if_neg h0]; rfl))
    rw [e] at hn
    exact mTr_k hn
set_option maxRecDepth 100000 in
set_option maxHeartbeats 4000000 in
theorem d_M_odds (a1 : Int32) (σ : MSto) (hp : p_M_odds a1 σ) : mW1 P_M_odds (0, [some (mR 13 0), some (mI a1), none, none, none, none], [], σ, 0, 0) (mF [23, 37, 104] [mI (v_M_odds a1 σ)] (e_M_odds a1 σ) 0 0) := by
  refine mW1_eq (q_M_odds_e _ _) ?_
  unfold p_M_odds at hp
  refine mTr_if (fun h0 => ?_) (fun h0 => ?_)
  · skip
    exact mTr_e (by decide) (by unfold v_M_odds; first | (rw [if_pos h0]; done) | (rw [if_pos h0]; rfl)) (by unfold e_M_odds; first | (rw [if_pos h0]; done) | (rw [if_pos h0]; rfl)) (by decide) (by decide)
  · skip
    have hp := hp h0
    refine mTr_if (fun h1 => ?_) (fun h1 => ?_)
    · skip
      exact mTr_e (by decide) (by unfold v_M_odds; first | (rw [if_neg h0, if_pos h1]; done) | (rw [if_neg h0, if_pos h1]; rfl)) (by unfold e_M_odds; first | (rw [if_neg h0, if_pos h1]; done) | (rw [if_neg h0, if_pos h1]; rfl)) (by decide) (by decide)
    · skip
      have hp := hp h1
      refine mTr_g hp.1 ?_
      have hp := hp.2
      refine mTr_if (fun h2 => ?_) (fun h2 => ?_)
      · skip
        have hp := hp h2
        refine mTr_k (lp_M_odds_43 (v_M_weighStories a1 (-1) (sI σ 13 0 52 0)) 0 (e_M_weighStories a1 (-1) (sI σ 13 0 52 0)) 0 (n_M_odds_43 (v_M_weighStories a1 (-1) (sI σ 13 0 52 0)) 0 (e_M_weighStories a1 (-1) (sI σ 13 0 52 0)) 0) hp.1 ?_)
        have hp := hp.2
        refine mW1_eq (q_M_odds_43 _ _ _ _) ?_
        refine mTr_if (fun h3 => ?_) (fun h3 => ?_)
        · skip
          have hp := hp.1 h3
          refine mTr_k (lp_M_odds_76 (v_M_weighStories a1 (-1) (sI σ 13 0 52 0)) (f_M_odds_43 (v_M_weighStories a1 (-1) (sI σ 13 0 52 0)) 0 (e_M_weighStories a1 (-1) (sI σ 13 0 52 0)) 0 (n_M_odds_43 (v_M_weighStories a1 (-1) (sI σ 13 0 52 0)) 0 (e_M_weighStories a1 (-1) (sI σ 13 0 52 0)) 0)) 0 (sI (e_M_weighStories a1 (-1) (sI σ 13 0 52 0)) 13 0 51 0) (n_M_odds_76 (v_M_weighStories a1 (-1) (sI σ 13 0 52 0)) (f_M_odds_43 (v_M_weighStories a1 (-1) (sI σ 13 0 52 0)) 0 (e_M_weighStories a1 (-1) (sI σ 13 0 52 0)) 0 (n_M_odds_43 (v_M_weighStories a1 (-1) (sI σ 13 0 52 0)) 0 (e_M_weighStories a1 (-1) (sI σ 13 0 52 0)) 0)) 0 (sI (e_M_weighStories a1 (-1) (sI σ 13 0 52 0)) 13 0 51 0)) hp.1 ?_)
          have hp := hp.2
          refine mW1_eq (q_M_odds_76 _ _ _ _) ?_
          refine mTr_if (fun h4 => ?_) (fun h4 => ?_)
          · skip
            exact mTr_e (by decide) (by unfold v_M_odds; first | (rw [if_neg h0, if_neg h1, if_pos h2]; done) | (rw [if_neg h0, if_neg h1, if_pos h2]; rfl)) (by unfold e_M_odds; first | (rw [if_neg h0, if_neg h1, if_pos h2]; done) | (rw [if_neg h0, if_neg h1, if_pos h2]; rfl)) (by decide) (by decide)
          · skip
            have hp := hp h4
            exact hp.elim
        · skip
          have hp := hp.2 h3
          exact hp.elim
      · skip
        exact mTr_e (by decide) (by unfold v_M_odds; first | (rw [if_neg h0, if_neg h1, if_neg h2]; done) | (rw [if_neg h0, if_neg h1, if_neg h2]; rfl)) (by unfold e_M_odds; first | (rw [if_neg h0, if_neg h1, if_neg h2]; done) | (rw [if_neg h0, if_neg h1, if_neg h2]; rfl)) (by decide) (by decide)
theorem li_M_409 : mLink "ClothWithManModel" 409 E_M_weighStories := ⟨tw_7_233, tw_1_9, ⟨by decide, by decide⟩, by decide +kernel, Or.inl tw_7_230, (fun h => by cases h), (fun _ => ⟨tw_7_232, tw_0_79, TX12, 71, rfl⟩), (fun h => by cases h)⟩



theorem tk_M_odds : ∀ pc i nx tg, T_M_odds pc = some (i, nx, tg) → mOkB prog_14_method_80_code pc i nx tg = true := code_ok (N := 105) (fun k h => by unfold T_M_odds; rw [h]; rfl) (by decide +kernel)
theorem ok_M_odds (l : Launch) : mPOK l "ClothWithManModel" prog_14_method_80_code P_M_odds := by
  refine ⟨tk_M_odds, ?_, ?_, ?_, (fun pc i nx tg kd _ h => by cases h), ?_, ?_, fun pc en h => by cases h⟩
  · intro x ci f ty fin h
    exact mLook_all (Q := fun x v => mFOK "ClothWithManModel" x v.1 v.2.1 v.2.2.1 v.2.2.2 ∧ (v.2.2.2 = true → pIni P_M_odds = true → (Cond.fieldLink "ClothWithManModel" x (((mCl[v.1]?).getD ("", fun _ => ("", "", "", false), 0)).2.1 v.2.1).1 (((mCl[v.1]?).getD ("", fun _ => ("", "", "", false), 0)).2.1 v.2.1).2.1 (((mCl[v.1]?).getD ("", fun _ => ("", "", "", false), 0)).2.1 v.2.1).2.2.1 ∈ lw_tbl ∧ (((mCl[v.1]?).getD ("", fun _ => ("", "", "", false), 0)).2.1 v.2.1).1 = "ClothWithManModel"))) (fcC ⟨fo_M_155, fun h1 h2 => by cases h2⟩ (fcC ⟨fo_M_161, fun h1 h2 => by cases h1⟩ (fcC ⟨fo_M_164, fun h1 h2 => by cases h1⟩ (fcC ⟨fo_M_188, fun h1 h2 => by cases h1⟩ fcN)))) x (ci, f, ty, fin) h
  · intro x
    have hh := mLook_all (l := ([] : List (Nat × (Int32 ⊕ Int64)))) (Q := fun x (v : Int32 ⊕ Int64) => (∀ w, v = .inl w → Cond.constant "ClothWithManModel" x w ∈ lw_tbl) ∧ (∀ w, v = .inr w → Cond.constantLong "ClothWithManModel" x w ∈ lw_tbl)) fcN x
    exact ⟨fun w h => (hh _ h).1 w rfl, fun w h => (hh _ h).2 w rfl⟩
  · exact fun x en h => mLook_all (Q := fun x en => mLink "ClothWithManModel" x en ∧ mCtr l en ∧ (en.1.1 = 2 → en.2.2.2.2.2.2 = none)) (fcC ⟨li_M_315, c_M_areCounted l, (fun h => by cases h)⟩ (fcC ⟨li_M_321, c_M_tellPart l, (fun h => by cases h)⟩ (fcC ⟨li_M_409, c_M_weighStories l, (fun h => by cases h)⟩ fcN))) x en h
  · exact fun x kd h => mLook_all (Q := fun x kd => (kd = 95 ∧ Cond.fieldLink "ClothWithManModel" x "ClothWithMan" "LIKENESSES" "[I" ∈ lw_tbl) ∨ (kd = 96 ∧ Cond.fieldLink "ClothWithManModel" x "ClothWithMan" "APART_BOUNDS" "[I" ∈ lw_tbl)) fcN x kd h
  · exact fun x ci h => mLook_all (Q := fun x ci => ci ≠ 0 ∧ ∃ (C : String) (T : u_T) (N : Nat), mCl[ci]? = some (C, T, N) ∧ Cond.classLink "ClothWithManModel" x C ∈ lw_tbl ∧ Cond.castable C C ∈ lw_tbl) fcN x ci h
set_option maxRecDepth 100000 in
theorem c_M_odds (l : Launch) : mCtr l E_M_odds := mCtr_of (P := P_M_odds) (own := "ClothWithManModel") mLay_ok rfl (by decide +kernel) rfl (ok_M_odds l) (fun h => by cases h) (fun as σ pr rv σ' hF hpr hlv => by
  unfold E_M_odds S_M_odds at hF
  simp only [] at hF
  split at hF
  · cases hF
    obtain ⟨n, pcF, c1, s1, g1, g2, g3, g4⟩ := mF_inv (d_M_odds _ σ (hpr _ rfl))
    exact ⟨Nat.le_of_ble_eq_true rfl, (fun v h => by cases h; trivial), n, pcF, c1, s1, g1, ⟨mEnd_of (i := .ireturn) (P := P_M_odds) (rets := [23, 37, 104]) rfl g2, rfl⟩, g3, g4⟩
  · cases hF
    exact (hpr _ rfl).elim)
/-! ClothWithManModel.when(II)I -/
noncomputable def t_M_when_34 (x1 : Int32) (x2 : Int32) (c : Int32) (σ : MSto) (s : Int32 × Int64) : Int32 × Int64 := (if 200 ≤ c then s else (if (v_M_hasTerm x1 1 σ) = 0 then (if 0 < (lg_cmp (v_M_partOf x1 x2 c (-1) σ) (s.2)) then (c, (v_M_partOf x1 x2 c (-1) σ)) else ((s.1), (s.2))) else (if c = (gI σ 52 0 (Int32.toNatClampNeg x1)) then (if 0 < (lg_cmp (v_M_partOf x1 x2 c (-1) σ) (s.2)) then (c, (v_M_partOf x1 x2 c (-1) σ)) else ((s.1), (s.2))) else ((s.1), (s.2)))))
noncomputable def q_M_when_34s (x1 : Int32) (x2 : Int32) (c : Int32) (σ : MSto) (s : Int32 × Int64) : Nat := (if 200 ≤ c then 1 else (if (v_M_hasTerm x1 1 σ) = 0 then (if 0 < (lg_cmp (v_M_partOf x1 x2 c (-1) σ) (s.2)) then 0 else 0) else (if c = (gI σ 52 0 (Int32.toNatClampNeg x1)) then (if 0 < (lg_cmp (v_M_partOf x1 x2 c (-1) σ) (s.2)) then 0 else 0) else 0)))
def g_M_when_34 (x1 : Int32) (x2 : Int32) (c : Int32) (σ : MSto) (s : Int32 × Int64) : Prop := (¬ (200 ≤ c) → ((p_M_hasTerm x1 1 σ) ∧ ((((v_M_hasTerm x1 1 σ) = 0) → (p_M_partOf x1 x2 c (-1) σ)) ∧ (¬ ((v_M_hasTerm x1 1 σ) = 0) → ((vp_in x1 6) ∧ ((c = (gI σ 52 0 (Int32.toNatClampNeg x1))) → (p_M_partOf x1 x2 c (-1) σ)))))))
noncomputable def f_M_when_34 (x1 : Int32) (x2 : Int32) (c0 : Int32) (σ : MSto) (s0 : Int32 × Int64) (n : Nat) : Int32 × Int64 := nfold (fun i s => t_M_when_34 x1 x2 (c0 + nI i) σ s) s0 n
noncomputable def n_M_when_34 (x1 : Int32) (x2 : Int32) (c0 : Int32) (σ : MSto) (s0 : Int32 × Int64) : Nat := 200
noncomputable def v_M_when (a1 : Int32) (a2 : Int32) (σ : MSto) : Int32 := (if (v_M_isStory a1 (sI σ 13 0 52 0)) = 0 then (-1) else (if (v_M_areCounted a2 1 4 (sI σ 13 0 52 0)) = 0 then (-1) else ((f_M_when_34 a1 a2 0 (sI σ 13 0 52 0) ((-2), 0) (n_M_when_34 a1 a2 0 (sI σ 13 0 52 0) ((-2), 0))).1)))
def p_M_when (a1 : Int32) (a2 : Int32) (σ : MSto) : Prop := (¬ ((v_M_isStory a1 (sI σ 13 0 52 0)) = 0) → (¬ ((v_M_areCounted a2 1 4 (sI σ 13 0 52 0)) = 0) → ((∀ i, i < (n_M_when_34 a1 a2 0 (sI σ 13 0 52 0) ((-2), 0)) → g_M_when_34 a1 a2 (0 + nI i) (sI σ 13 0 52 0) (f_M_when_34 a1 a2 0 (sI σ 13 0 52 0) ((-2), 0) i) ∧ ¬ q_M_when_34s a1 a2 (0 + nI i) (sI σ 13 0 52 0) (f_M_when_34 a1 a2 0 (sI σ 13 0 52 0) ((-2), 0) i) = 1) ∧ (¬ (200 ≤ (0 + nI (n_M_when_34 a1 a2 0 (sI σ 13 0 52 0) ((-2), 0)))) → False))))
noncomputable def e_M_when (a1 : Int32) (a2 : Int32) (σ : MSto) : MSto := (if (v_M_isStory a1 (sI σ 13 0 52 0)) = 0 then (sI σ 13 0 52 0) else (if (v_M_areCounted a2 1 4 (sI σ 13 0 52 0)) = 0 then (sI σ 13 0 52 0) else (sI σ 13 0 52 0)))
noncomputable def S_M_when : List MV → MSto → Option Prop × Option MV × MSto := fun as σ => match as with
  | [.inr (.inr (some (13, 0))), .inl a0, .inl a1] => (some (p_M_when a0 a1 σ), some (mI (v_M_when a0 a1 σ)), e_M_when a0 a1 σ)
  | _ => (some False, none, σ)
noncomputable def E_M_when : MEnt := ((1, 2, 13), (5, 127, 0, 0), S_M_when, ((⟨"ClothWithManModel", "when", "(II)I"⟩ : MethodName), prog_14_method_81_code, 9, (some .int)))

def T_M_when : Nat → Option (Instr × Nat × List Nat) := fun k => bif Nat.blt k 102 then (bif Nat.blt k 48 then (bif Nat.blt k 24 then (bif Nat.blt k 13 then (bif Nat.blt k 5 then (bif Nat.blt k 1 then (bif Nat.beq k 0 then some (.aload_n 0, 1, []) else none) else (bif Nat.blt k 2 then (bif Nat.beq k 1 then some (.iconst 0, 2, []) else none) else (bif Nat.beq k 2 then some (.putfield 161, 5, []) else none))) else (bif Nat.blt k 7 then (bif Nat.blt k 6 then (bif Nat.beq k 5 then some (.aload_n 0, 6, []) else none) else (bif Nat.beq k 6 then some (.iload_n 1, 7, []) else none)) else (bif Nat.blt k 10 then (bif Nat.beq k 7 then some (.invokevirtual 381, 10, []) else none) else (bif Nat.beq k 10 then some (.ifCond .eq 13, 13, [23]) else none)))) else (bif Nat.blt k 16 then (bif Nat.blt k 14 then (bif Nat.beq k 13 then some (.aload_n 0, 14, []) else none) else (bif Nat.blt k 15 then (bif Nat.beq k 14 then some (.iload_n 2, 15, []) else none) else (bif Nat.beq k 15 then some (.iconst 1, 16, []) else none))) else (bif Nat.blt k 20 then (bif Nat.blt k 17 then (bif Nat.beq k 16 then some (.iconst 4, 17, []) else none) else (bif Nat.beq k 17 then some (.invokevirtual 315, 20, []) else none)) else (bif Nat.blt k 23 then (bif Nat.beq k 20 then some (.ifCond .ne 5, 23, [25]) else none) else (bif Nat.beq k 23 then some (.iconst (-1), 24, []) else none))))) else (bif Nat.blt k 34 then (bif Nat.blt k 28 then (bif Nat.blt k 25 then (bif Nat.beq k 24 then some (.ireturn, 25, []) else none) else (bif Nat.blt k 27 then (bif Nat.beq k 25 then some (.bipush (-2), 27, []) else none) else (bif Nat.beq k 27 then some (.istore_n 3, 28, []) else none))) else (bif Nat.blt k 31 then (bif Nat.blt k 29 then (bif Nat.beq k 28 then some (.lconst 0, 29, []) else none) else (bif Nat.beq k 29 then some (.lstore 4, 31, []) else none)) else (bif Nat.blt k 32 then (bif Nat.beq k 31 then some (.iconst 0, 32, []) else none) else (bif Nat.beq k 32 then some (.istore 6, 34, []) else none)))) else (bif Nat.blt k 42 then (bif Nat.blt k 36 then (bif Nat.beq k 34 then some (.iload 6, 36, []) else none) else (bif Nat.blt k 39 then (bif Nat.beq k 36 then some (.sipush 200, 39, []) else none) else (bif Nat.beq k 39 then some (.if_icmp .ge 61, 42, [100]) else none))) else (bif Nat.blt k 44 then (bif Nat.blt k 43 then (bif Nat.beq k 42 then some (.aload_n 0, 43, []) else none) else (bif Nat.beq k 43 then some (.iload_n 1, 44, []) else none)) else (bif Nat.blt k 45 then (bif Nat.beq k 44 then some (.iconst 1, 45, []) else none) else (bif Nat.beq k 45 then some (.invokevirtual 384, 48, []) else none)))))) else (bif Nat.blt k 74 then (bif Nat.blt k 62 then (bif Nat.blt k 54 then (bif Nat.blt k 51 then (bif Nat.beq k 48 then some (.ifCond .eq 17, 51, [65]) else none) else (bif Nat.blt k 53 then (bif Nat.beq k 51 then some (.iload 6, 53, []) else none) else (bif Nat.beq k 53 then some (.aload_n 0, 54, []) else none))) else (bif Nat.blt k 58 then (bif Nat.blt k 57 then (bif Nat.beq k 54 then some (.getfield 50, 57, []) else none) else (bif Nat.beq k 57 then some (.iload_n 1, 58, []) else none)) else (bif Nat.blt k 59 then (bif Nat.beq k 58 then some (.iaload, 59, []) else none) else (bif Nat.beq k 59 then some (.if_icmp .eq 6, 62, [65]) else none)))) else (bif Nat.blt k 67 then (bif Nat.blt k 65 then (bif Nat.beq k 62 then some (.goto 32, 65, [94]) else none) else (bif Nat.blt k 66 then (bif Nat.beq k 65 then some (.aload_n 0, 66, []) else none) else (bif Nat.beq k 66 then some (.iload_n 1, 67, []) else none))) else (bif Nat.blt k 70 then (bif Nat.blt k 68 then (bif Nat.beq k 67 then some (.iload_n 2, 68, []) else none) else (bif Nat.beq k 68 then some (.iload 6, 70, []) else none)) else (bif Nat.blt k 71 then (bif Nat.beq k 70 then some (.iconst (-1), 71, []) else none) else (bif Nat.beq k 71 then some (.invokevirtual 400, 74, []) else none))))) else (bif Nat.blt k 89 then (bif Nat.blt k 80 then (bif Nat.blt k 76 then (bif Nat.beq k 74 then some (.lstore 7, 76, []) else none) else (bif Nat.blt k 78 then (bif Nat.beq k 76 then some (.lload 7, 78, []) else none) else (bif Nat.beq k 78 then some (.lload 4, 80, []) else none))) else (bif Nat.blt k 84 then (bif Nat.blt k 81 then (bif Nat.beq k 80 then some (.lcmp, 81, []) else none) else (bif Nat.beq k 81 then some (.ifCond .gt 6, 84, [87]) else none)) else (bif Nat.blt k 87 then (bif Nat.beq k 84 then some (.goto 10, 87, [94]) else none) else (bif Nat.beq k 87 then some (.lload 7, 89, []) else none)))) else (bif Nat.blt k 94 then (bif Nat.blt k 91 then (bif Nat.beq k 89 then some (.lstore 4, 91, []) else none) else (bif Nat.blt k 93 then (bif Nat.beq k 91 then some (.iload 6, 93, []) else none) else (bif Nat.beq k 93 then some (.istore_n 3, 94, []) else none))) else (bif Nat.blt k 100 then (bif Nat.blt k 97 then (bif Nat.beq k 94 then some (.iinc 6 1, 97, []) else none) else (bif Nat.beq k 97 then some (.goto (-63), 100, [34]) else none)) else (bif Nat.blt k 101 then (bif Nat.beq k 100 then some (.iload_n 3, 101, []) else none) else (bif Nat.beq k 101 then some (.ireturn, 102, []) else none))))))) else none
noncomputable def P_M_when : MP := (T_M_when, (fun k => mLook k [(50, (13, 18, (.array .int), true)), (161, (13, 52, .int, false))]), (fun k => mLook k []), (fun k => mLook k [(315, E_M_areCounted), (381, E_M_isStory), (384, E_M_hasTerm), (400, E_M_partOf)]), (fun k => mLook k []), (fun k => mLook k []), (fun k => mLook k []), (fun k => mLook k [(34, [true, true, true, true, true, false, true, false, false])]), (fun k => [24, 101].any (Nat.beq k)), (5, 127, 0, 0), false, (fun _ => none))
set_option maxRecDepth 100000 in
set_option maxHeartbeats 4000000 in
theorem q_M_when_e (a1 : Int32) (a2 : Int32) (σ : MSto) (n : Nat) : mexe KT P_M_when (n + 1) (0, [some (mR 13 0), some (mI a1), some (mI a2), none, none, none, none, none, none], [], σ, 0, 0) = (if (v_M_isStory a1 (sI σ 13 0 52 0)) = 0 then some (24, [], [(mI (-1))], (sI σ 13 0 52 0), 0, 0) else (if (v_M_areCounted a2 1 4 (sI σ 13 0 52 0)) = 0 then some (24, [], [(mI (-1))], (sI σ 13 0 52 0), 0, 0) else mexe KT P_M_when n (34, [some (mR 13 0), some (mI a1), some (mI a2), some (mI (-2)), some (mJ 0), none, some (mI 0), none, none], [], (sI σ 13 0 52 0), 0, 0))) := rfl
set_option maxRecDepth 100000 in
set_option maxHeartbeats 4000000 in
theorem q_M_when_34 (x1 : Int32) (x2 : Int32) (x3 : Int32) (x4 : Int64) (x6 : Int32) (σ : MSto) (n : Nat) : mexe KT P_M_when (n + 1) (34, [some (mR 13 0), some (mI x1), some (mI x2), some (mI x3), some (mJ x4), none, some (mI x6), none, none], [], σ, 0, 0) = (if 200 ≤ x6 then some (101, [], [(mI x3)], σ, 0, 0) else mG (p_M_hasTerm x1 1 σ) ((if (v_M_hasTerm x1 1 σ) = 0 then mG (p_M_partOf x1 x2 x6 (-1) σ) ((if 0 < (lg_cmp (v_M_partOf x1 x2 x6 (-1) σ) x4) then mexe KT P_M_when n (34, [some (mR 13 0), some (mI x1), some (mI x2), some (mI x6), some (mJ (v_M_partOf x1 x2 x6 (-1) σ)), none, some (mI (x6 + 1)), none, none], [], σ, 0, 0) else mexe KT P_M_when n (34, [some (mR 13 0), some (mI x1), some (mI x2), some (mI x3), some (mJ x4), none, some (mI (x6 + 1)), none, none], [], σ, 0, 0))) else mG (vp_in x1 6) ((if x6 = (gI σ 52 0 (Int32.toNatClampNeg x1)) then mG (p_M_partOf x1 x2 x6 (-1) σ) ((if 0 < (lg_cmp (v_M_partOf x1 x2 x6 (-1) σ) x4) then mexe KT P_M_when n (34, [some (mR 13 0), some (mI x1), some (mI x2), some (mI x6), some (mJ (v_M_partOf x1 x2 x6 (-1) σ)), none, some (mI (x6 + 1)), none, none], [], σ, 0, 0) else mexe KT P_M_when n (34, [some (mR 13 0), some (mI x1), some (mI x2), some (mI x3), some (mJ x4), none, some (mI (x6 + 1)), none, none], [], σ, 0, 0))) else mexe KT P_M_when n (34, [some (mR 13 0), some (mI x1), some (mI x2), some (mI x3), some (mJ x4), none, some (mI (x6 + 1)), none, none], [], σ, 0, 0)))))) := rfl
set_option maxRecDepth 100000 in
theorem lp_M_when_34 {Post : MST → Prop} (x1 : Int32) (x2 : Int32) (c0 : Int32) (σ : MSto) (s0 : Int32 × Int64) (N : Nat) (hb : ∀ i, i < N → g_M_when_34 x1 x2 (c0 + nI i) σ (f_M_when_34 x1 x2 c0 σ s0 i) ∧ ¬ q_M_when_34s x1 x2 (c0 + nI i) σ (f_M_when_34 x1 x2 c0 σ s0 i) = 1) (h : mW1 P_M_when (34, [some (mR 13 0), some (mI x1), some (mI x2), some (mI ((f_M_when_34 x1 x2 c0 σ s0 N).1)), some (mJ ((f_M_when_34 x1 x2 c0 σ s0 N).2)), none, some (mI (c0 + nI N)), none, none], [], σ, 0, 0) Post) : mW1 P_M_when (34, [some (mR 13 0), some (mI x1), some (mI x2), some (mI (s0.1)), some (mJ (s0.2)), none, some (mI c0), none, none], [], σ, 0, 0) Post := by
  refine mW1_st (mW1_loop (fun i => (34, [some (mR 13 0), some (mI x1), some (mI x2), some (mI ((f_M_when_34 x1 x2 c0 σ s0 i).1)), some (mJ ((f_M_when_34 x1 x2 c0 σ s0 i).2)), none, some (mI (c0 + nI i)), none, none], [], σ, 0, 0)) N (fun i hlt hn => ?_) h) (by rw [show nI 0 = 0 from rfl, Int32.add_zero] <;> rfl)
  obtain ⟨hp, hq⟩ := hb i hlt
  have hn : mW1 P_M_when (34, [some (mR 13 0), some (mI x1), some (mI x2), some (mI ((t_M_when_34 x1 x2 (c0 + nI i) σ (f_M_when_34 x1 x2 c0 σ s0 i)).1)), some (mJ ((t_M_when_34 x1 x2 (c0 + nI i) σ (f_M_when_34 x1 x2 c0 σ s0 i)).2)), none, some (mI (c0 + nI i + 1)), none, none], [], σ, 0, 0) Post := by
    rw [Int32.add_assoc, nI_s]
    exact hn
  try dsimp only
  generalize (f_M_when_34 x1 x2 c0 σ s0 i) = s at *
  generalize c0 + nI i = c at *
  clear hb h hlt
  unfold g_M_when_34 at hp
  refine mW1_eq (q_M_when_34 _ _ _ _ _ _) ?_
  refine mTr_if (fun h0 => ?_) (fun h0 => ?_)
  · skip
    exact absurd (by unfold q_M_when_34s; first | (rw [if_pos h0]; done) | (rw [if_pos h0]; rfl)) hq
  · skip
    have hp := hp h0
    refine mTr_g hp.1 ?_
    have hp := hp.2
    refine mTr_if (fun h1 => ?_) (fun h1 => ?_)
    · skip
      have hp := hp.1 h1
      refine mTr_g hp ?_
      refine mTr_if (fun h2 => ?_) (fun h2 => ?_)
      · skip
        have e : t_M_when_34 x1 x2 c σ s = (c, (v_M_partOf x1 x2 c (-1) σ)) := (by unfold t_M_when_34; first | (rw [if_neg h0, if_pos h1, if_pos h2]; done) | (rw [if_neg h0, if_pos h1, if_pos h2]; rfl))
        rw [e] at hn
        exact mTr_k hn
      · skip
        have e : t_M_when_34 x1 x2 c σ s = ((s.1), (s.2)) := (by unfold t_M_when_34; first | (rw [if_neg h0, if_pos h1, if_neg h2]; done) | (rw [if_neg h0, if_pos h1, if_neg h2]; rfl))
        rw [e] at hn
        exact mTr_k hn
    · skip
      have hp := hp.2 h1
      refine mTr_g hp.1 ?_
      have hp := hp.2
      refine mTr_if (fun h2 => ?_) (fun h2 => ?_)
      · skip
        have hp := hp h2
        refine mTr_g hp ?_
        refine mTr_if (fun h3 => ?_) (fun h3 => ?_)
        · skip
          have e : t_M_when_34 x1 x2 c σ s = (c, (v_M_partOf x1 x2 c (-1) σ)) := (by unfold t_M_when_34; first | (rw [if_neg h0, if_neg h1, if_pos h2, if_pos h3]; done) | (rw [if_neg h0, if_neg h1, if_pos h2, if_pos h3]; rfl))
          rw [e] at hn
          exact mTr_k hn
        · skip
          have e : t_M_when_34 x1 x2 c σ s = ((s.1), (s.2)) := (by unfold t_M_when_34; first | (rw [if_neg h0, if_neg h1, if_pos h2, if_neg h3]; done) | (rw [if_neg h0, if_neg h1, if_pos h2, if_neg h3]; rfl))
          rw [e] at hn
          exact mTr_k hn
      · skip
        have e : t_M_when_34 x1 x2 c σ s = ((s.1), (s.2)) := (by unfold t_M_when_34; first | (rw [if_neg h0, if_neg h1, if_neg h2]; done) | (rw [if_neg h0, if_neg h1, if_neg h2]; rfl))
        rw [e] at hn
        exact mTr_k hn
set_option maxRecDepth 100000 in
set_option maxHeartbeats 4000000 in
theorem d_M_when (a1 : Int32) (a2 : Int32) (σ : MSto) (hp : p_M_when a1 a2 σ) : mW1 P_M_when (0, [some (mR 13 0), some (mI a1), some (mI a2), none, none, none, none, none, none], [], σ, 0, 0) (mF [24, 101] [mI (v_M_when a1 a2 σ)] (e_M_when a1 a2 σ) 0 0) := by
  refine mW1_eq (q_M_when_e _ _ _) ?_
  unfold p_M_when at hp
  refine mTr_if (fun h0 => ?_) (fun h0 => ?_)
  · skip
    exact mTr_e (by decide) (by unfold v_M_when; first | (rw [if_pos h0]; done) | (rw [if_pos h0]; rfl)) (by unfold e_M_when; first | (rw [if_pos h0]; done) | (rw [if_pos h0]; rfl)) (by decide) (by decide)
  · skip
    have hp := hp h0
    refine mTr_if (fun h1 => ?_) (fun h1 => ?_)
    · skip
      exact mTr_e (by decide) (by unfold v_M_when; first | (rw [if_neg h0, if_pos h1]; done) | (rw [if_neg h0, if_pos h1]; rfl)) (by unfold e_M_when; first | (rw [if_neg h0, if_pos h1]; done) | (rw [if_neg h0, if_pos h1]; rfl)) (by decide) (by decide)
    · skip
      have hp := hp h1
      refine mTr_k (lp_M_when_34 a1 a2 0 (sI σ 13 0 52 0) ((-2), 0) (n_M_when_34 a1 a2 0 (sI σ 13 0 52 0) ((-2), 0)) hp.1 ?_)
      have hp := hp.2
      refine mW1_eq (q_M_when_34 _ _ _ _ _ _) ?_
      refine mTr_if (fun h2 => ?_) (fun h2 => ?_)
      · skip
        exact mTr_e (by decide) (by unfold v_M_when; first | (rw [if_neg h0, if_neg h1]; done) | (rw [if_neg h0, if_neg h1]; rfl)) (by unfold e_M_when; first | (rw [if_neg h0, if_neg h1]; done) | (rw [if_neg h0, if_neg h1]; rfl)) (by decide) (by decide)
      · skip
        have hp := hp h2
        exact hp.elim




theorem tk_M_when : ∀ pc i nx tg, T_M_when pc = some (i, nx, tg) → mOkB prog_14_method_81_code pc i nx tg = true := code_ok (N := 102) (fun k h => by unfold T_M_when; rw [h]; rfl) (by decide +kernel)
theorem ok_M_when (l : Launch) : mPOK l "ClothWithManModel" prog_14_method_81_code P_M_when := by
  refine ⟨tk_M_when, ?_, ?_, ?_, (fun pc i nx tg kd _ h => by cases h), ?_, ?_, fun pc en h => by cases h⟩
  · intro x ci f ty fin h
    exact mLook_all (Q := fun x v => mFOK "ClothWithManModel" x v.1 v.2.1 v.2.2.1 v.2.2.2 ∧ (v.2.2.2 = true → pIni P_M_when = true → (Cond.fieldLink "ClothWithManModel" x (((mCl[v.1]?).getD ("", fun _ => ("", "", "", false), 0)).2.1 v.2.1).1 (((mCl[v.1]?).getD ("", fun _ => ("", "", "", false), 0)).2.1 v.2.1).2.1 (((mCl[v.1]?).getD ("", fun _ => ("", "", "", false), 0)).2.1 v.2.1).2.2.1 ∈ lw_tbl ∧ (((mCl[v.1]?).getD ("", fun _ => ("", "", "", false), 0)).2.1 v.2.1).1 = "ClothWithManModel"))) (fcC ⟨fo_M_50, fun h1 h2 => by cases h2⟩ (fcC ⟨fo_M_161, fun h1 h2 => by cases h1⟩ fcN)) x (ci, f, ty, fin) h
  · intro x
    have hh := mLook_all (l := ([] : List (Nat × (Int32 ⊕ Int64)))) (Q := fun x (v : Int32 ⊕ Int64) => (∀ w, v = .inl w → Cond.constant "ClothWithManModel" x w ∈ lw_tbl) ∧ (∀ w, v = .inr w → Cond.constantLong "ClothWithManModel" x w ∈ lw_tbl)) fcN x
    exact ⟨fun w h => (hh _ h).1 w rfl, fun w h => (hh _ h).2 w rfl⟩
  · exact fun x en h => mLook_all (Q := fun x en => mLink "ClothWithManModel" x en ∧ mCtr l en ∧ (en.1.1 = 2 → en.2.2.2.2.2.2 = none)) (fcC ⟨li_M_315, c_M_areCounted l, (fun h => by cases h)⟩ (fcC ⟨li_M_381, c_M_isStory l, (fun h => by cases h)⟩ (fcC ⟨li_M_384, c_M_hasTerm l, (fun h => by cases h)⟩ (fcC ⟨li_M_400, c_M_partOf l, (fun h => by cases h)⟩ fcN)))) x en h
  · exact fun x kd h => mLook_all (Q := fun x kd => (kd = 95 ∧ Cond.fieldLink "ClothWithManModel" x "ClothWithMan" "LIKENESSES" "[I" ∈ lw_tbl) ∨ (kd = 96 ∧ Cond.fieldLink "ClothWithManModel" x "ClothWithMan" "APART_BOUNDS" "[I" ∈ lw_tbl)) fcN x kd h
  · exact fun x ci h => mLook_all (Q := fun x ci => ci ≠ 0 ∧ ∃ (C : String) (T : u_T) (N : Nat), mCl[ci]? = some (C, T, N) ∧ Cond.classLink "ClothWithManModel" x C ∈ lw_tbl ∧ Cond.castable C C ∈ lw_tbl) fcN x ci h
set_option maxRecDepth 100000 in
theorem c_M_when (l : Launch) : mCtr l E_M_when := mCtr_of (P := P_M_when) (own := "ClothWithManModel") mLay_ok rfl (by decide +kernel) rfl (ok_M_when l) (fun h => by cases h) (fun as σ pr rv σ' hF hpr hlv => by
  unfold E_M_when S_M_when at hF
  simp only [] at hF
  split at hF
  · cases hF
    obtain ⟨n, pcF, c1, s1, g1, g2, g3, g4⟩ := mF_inv (d_M_when _ _ σ (hpr _ rfl))
    exact ⟨Nat.le_of_ble_eq_true rfl, (fun v h => by cases h; trivial), n, pcF, c1, s1, g1, ⟨mEnd_of (i := .ireturn) (P := P_M_when) (rets := [24, 101]) rfl g2, rfl⟩, g3, g4⟩
  · cases hF
    exact (hpr _ rfl).elim)
/-! ClothWithManModel.first(I)I -/
noncomputable def t_M_first_40 (x1 : Int32) (x2 : Int32) (c : Int32) (s : MSto) : MSto := (if (gI s 13 0 27) ≤ c then s else (if (v_M_weighStories x1 c s) = x2 then (e_M_weighStories x1 c s) else (if 0 ≤ (v_M_weighStories x1 c s) then s else (e_M_weighStories x1 c s))))
noncomputable def q_M_first_40s (x1 : Int32) (x2 : Int32) (c : Int32) (s : MSto) : Nat := (if (gI s 13 0 27) ≤ c then 1 else (if (v_M_weighStories x1 c s) = x2 then 0 else (if 0 ≤ (v_M_weighStories x1 c s) then 1 else 0)))
def g_M_first_40 (x1 : Int32) (x2 : Int32) (c : Int32) (s : MSto) : Prop := (¬ ((gI s 13 0 27) ≤ c) → (p_M_weighStories x1 c s))
noncomputable def f_M_first_40 (x1 : Int32) (x2 : Int32) (c0 : Int32) (s0 : MSto) (n : Nat) : MSto := nfold (fun i s => t_M_first_40 x1 x2 (c0 + nI i) s) s0 n
noncomputable def n_M_first_40 (x1 : Int32) (x2 : Int32) (c0 : Int32) (s0 : MSto) : Nat := leastN (fun i => q_M_first_40s x1 x2 (c0 + nI i) (f_M_first_40 x1 x2 c0 s0 i) = 1) 5
noncomputable def v_M_first (a1 : Int32) (σ : MSto) : Int32 := (if (v_M_areCounted a1 1 4 (sI σ 13 0 52 0)) = 0 then (-1) else (if (gI (sI σ 13 0 52 0) 13 0 17) = 0 then (-1) else (if 0 ≤ (v_M_weighStories a1 (-1) (sI σ 13 0 52 0)) then (if (gI (f_M_first_40 a1 (v_M_weighStories a1 (-1) (sI σ 13 0 52 0)) 0 (e_M_weighStories a1 (-1) (sI σ 13 0 52 0)) (n_M_first_40 a1 (v_M_weighStories a1 (-1) (sI σ 13 0 52 0)) 0 (e_M_weighStories a1 (-1) (sI σ 13 0 52 0)))) 13 0 27) ≤ (0 + nI (n_M_first_40 a1 (v_M_weighStories a1 (-1) (sI σ 13 0 52 0)) 0 (e_M_weighStories a1 (-1) (sI σ 13 0 52 0)))) then (-2) else (0 + nI (n_M_first_40 a1 (v_M_weighStories a1 (-1) (sI σ 13 0 52 0)) 0 (e_M_weighStories a1 (-1) (sI σ 13 0 52 0))))) else (-2))))
def p_M_first (a1 : Int32) (σ : MSto) : Prop := (¬ ((v_M_areCounted a1 1 4 (sI σ 13 0 52 0)) = 0) → (¬ ((gI (sI σ 13 0 52 0) 13 0 17) = 0) → ((p_M_weighStories a1 (-1) (sI σ 13 0 52 0)) ∧ ((0 ≤ (v_M_weighStories a1 (-1) (sI σ 13 0 52 0))) → ((∀ i, i < (n_M_first_40 a1 (v_M_weighStories a1 (-1) (sI σ 13 0 52 0)) 0 (e_M_weighStories a1 (-1) (sI σ 13 0 52 0))) → g_M_first_40 a1 (v_M_weighStories a1 (-1) (sI σ 13 0 52 0)) (0 + nI i) (f_M_first_40 a1 (v_M_weighStories a1 (-1) (sI σ 13 0 52 0)) 0 (e_M_weighStories a1 (-1) (sI σ 13 0 52 0)) i) ∧ ¬ q_M_first_40s a1 (v_M_weighStories a1 (-1) (sI σ 13 0 52 0)) (0 + nI i) (f_M_first_40 a1 (v_M_weighStories a1 (-1) (sI σ 13 0 52 0)) 0 (e_M_weighStories a1 (-1) (sI σ 13 0 52 0)) i) = 1) ∧ (¬ ((gI (f_M_first_40 a1 (v_M_weighStories a1 (-1) (sI σ 13 0 52 0)) 0 (e_M_weighStories a1 (-1) (sI σ 13 0 52 0)) (n_M_first_40 a1 (v_M_weighStories a1 (-1) (sI σ 13 0 52 0)) 0 (e_M_weighStories a1 (-1) (sI σ 13 0 52 0)))) 13 0 27) ≤ (0 + nI (n_M_first_40 a1 (v_M_weighStories a1 (-1) (sI σ 13 0 52 0)) 0 (e_M_weighStories a1 (-1) (sI σ 13 0 52 0))))) → ((p_M_weighStories a1 (0 + nI (n_M_first_40 a1 (v_M_weighStories a1 (-1) (sI σ 13 0 52 0)) 0 (e_M_weighStories a1 (-1) (sI σ 13 0 52 0)))) (f_M_first_40 a1 (v_M_weighStories a1 (-1) (sI σ 13 0 52 0)) 0 (e_M_weighStories a1 (-1) (sI σ 13 0 52 0)) (n_M_first_40 a1 (v_M_weighStories a1 (-1) (sI σ 13 0 52 0)) 0 (e_M_weighStories a1 (-1) (sI σ 13 0 52 0))))) ∧ ((((v_M_weighStories a1 (0 + nI (n_M_first_40 a1 (v_M_weighStories a1 (-1) (sI σ 13 0 52 0)) 0 (e_M_weighStories a1 (-1) (sI σ 13 0 52 0)))) (f_M_first_40 a1 (v_M_weighStories a1 (-1) (sI σ 13 0 52 0)) 0 (e_M_weighStories a1 (-1) (sI σ 13 0 52 0)) (n_M_first_40 a1 (v_M_weighStories a1 (-1) (sI σ 13 0 52 0)) 0 (e_M_weighStories a1 (-1) (sI σ 13 0 52 0))))) = (v_M_weighStories a1 (-1) (sI σ 13 0 52 0))) → False) ∧ (¬ ((v_M_weighStories a1 (0 + nI (n_M_first_40 a1 (v_M_weighStories a1 (-1) (sI σ 13 0 52 0)) 0 (e_M_weighStories a1 (-1) (sI σ 13 0 52 0)))) (f_M_first_40 a1 (v_M_weighStories a1 (-1) (sI σ 13 0 52 0)) 0 (e_M_weighStories a1 (-1) (sI σ 13 0 52 0)) (n_M_first_40 a1 (v_M_weighStories a1 (-1) (sI σ 13 0 52 0)) 0 (e_M_weighStories a1 (-1) (sI σ 13 0 52 0))))) = (v_M_weighStories a1 (-1) (sI σ 13 0 52 0))) → (((0 ≤ (v_M_weighStories a1 (0 + nI (n_M_first_40 a1 (v_M_weighStories a1 (-1) (sI σ 13 0 52 0)) 0 (e_M_weighStories a1 (-1) (sI σ 13 0 52 0)))) (f_M_first_40 a1 (v_M_weighStories a1 (-1) (sI σ 13 0 52 0)) 0 (e_M_weighStories a1 (-1) (sI σ 13 0 52 0)) (n_M_first_40 a1 (v_M_weighStories a1 (-1) (sI σ 13 0 52 0)) 0 (e_M_weighStories a1 (-1) (sI σ 13 0 52 0)))))) → (p_M_tell (Int32.toInt64 (v_M_weighStories a1 (0 + nI (n_M_first_40 a1 (v_M_weighStories a1 (-1) (sI σ 13 0 52 0)) 0 (e_M_weighStories a1 (-1) (sI σ 13 0 52 0)))) (f_M_first_40 a1 (v_M_weighStories a1 (-1) (sI σ 13 0 52 0)) 0 (e_M_weighStories a1 (-1) (sI σ 13 0 52 0)) (n_M_first_40 a1 (v_M_weighStories a1 (-1) (sI σ 13 0 52 0)) 0 (e_M_weighStories a1 (-1) (sI σ 13 0 52 0)))))) (sI (e_M_weighStories a1 (0 + nI (n_M_first_40 a1 (v_M_weighStories a1 (-1) (sI σ 13 0 52 0)) 0 (e_M_weighStories a1 (-1) (sI σ 13 0 52 0)))) (f_M_first_40 a1 (v_M_weighStories a1 (-1) (sI σ 13 0 52 0)) 0 (e_M_weighStories a1 (-1) (sI σ 13 0 52 0)) (n_M_first_40 a1 (v_M_weighStories a1 (-1) (sI σ 13 0 52 0)) 0 (e_M_weighStories a1 (-1) (sI σ 13 0 52 0))))) 13 0 51 0))) ∧ (¬ (0 ≤ (v_M_weighStories a1 (0 + nI (n_M_first_40 a1 (v_M_weighStories a1 (-1) (sI σ 13 0 52 0)) 0 (e_M_weighStories a1 (-1) (sI σ 13 0 52 0)))) (f_M_first_40 a1 (v_M_weighStories a1 (-1) (sI σ 13 0 52 0)) 0 (e_M_weighStories a1 (-1) (sI σ 13 0 52 0)) (n_M_first_40 a1 (v_M_weighStories a1 (-1) (sI σ 13 0 52 0)) 0 (e_M_weighStories a1 (-1) (sI σ 13 0 52 0)))))) → False)))))))))))
noncomputable def e_M_first (a1 : Int32) (σ : MSto) : MSto := (if (v_M_areCounted a1 1 4 (sI σ 13 0 52 0)) = 0 then (sI σ 13 0 52 0) else (if (gI (sI σ 13 0 52 0) 13 0 17) = 0 then (sI σ 13 0 52 0) else (if 0 ≤ (v_M_weighStories a1 (-1) (sI σ 13 0 52 0)) then (if (gI (f_M_first_40 a1 (v_M_weighStories a1 (-1) (sI σ 13 0 52 0)) 0 (e_M_weighStories a1 (-1) (sI σ 13 0 52 0)) (n_M_first_40 a1 (v_M_weighStories a1 (-1) (sI σ 13 0 52 0)) 0 (e_M_weighStories a1 (-1) (sI σ 13 0 52 0)))) 13 0 27) ≤ (0 + nI (n_M_first_40 a1 (v_M_weighStories a1 (-1) (sI σ 13 0 52 0)) 0 (e_M_weighStories a1 (-1) (sI σ 13 0 52 0)))) then (f_M_first_40 a1 (v_M_weighStories a1 (-1) (sI σ 13 0 52 0)) 0 (e_M_weighStories a1 (-1) (sI σ 13 0 52 0)) (n_M_first_40 a1 (v_M_weighStories a1 (-1) (sI σ 13 0 52 0)) 0 (e_M_weighStories a1 (-1) (sI σ 13 0 52 0)))) else (e_M_tell (Int32.toInt64 (v_M_weighStories a1 (0 + nI (n_M_first_40 a1 (v_M_weighStories a1 (-1) (sI σ 13 0 52 0)) 0 (e_M_weighStories a1 (-1) (sI σ 13 0 52 0)))) (f_M_first_40 a1 (v_M_weighStories a1 (-1) (sI σ 13 0 52 0)) 0 (e_M_weighStories a1 (-1) (sI σ 13 0 52 0)) (n_M_first_40 a1 (v_M_weighStories a1 (-1) (sI σ 13 0 52 0)) 0 (e_M_weighStories a1 (-1) (sI σ 13 0 52 0)))))) (sI (e_M_weighStories a1 (0 + nI (n_M_first_40 a1 (v_M_weighStories a1 (-1) (sI σ 13 0 52 0)) 0 (e_M_weighStories a1 (-1) (sI σ 13 0 52 0)))) (f_M_first_40 a1 (v_M_weighStories a1 (-1) (sI σ 13 0 52 0)) 0 (e_M_weighStories a1 (-1) (sI σ 13 0 52 0)) (n_M_first_40 a1 (v_M_weighStories a1 (-1) (sI σ 13 0 52 0)) 0 (e_M_weighStories a1 (-1) (sI σ 13 0 52 0))))) 13 0 51 0))) else (e_M_weighStories a1 (-1) (sI σ 13 0 52 0)))))
noncomputable def S_M_first : List MV → MSto → Option Prop × Option MV × MSto := fun as σ => match as with
  | [.inr (.inr (some (13, 0))), .inl a0] => (some (p_M_first a0 σ), some (mI (v_M_first a0 σ)), e_M_first a0 σ)
  | _ => (some False, none, σ)
noncomputable def E_M_first : MEnt := ((1, 1, 13), (7, 177, 0, 0), S_M_first, ((⟨"ClothWithManModel", "first", "(I)I"⟩ : MethodName), prog_14_method_82_code, 5, (some .int)))

def T_M_first : Nat → Option (Instr × Nat × List Nat) := fun k => bif Nat.blt k 93 then (bif Nat.blt k 41 then (bif Nat.blt k 23 then (bif Nat.blt k 8 then (bif Nat.blt k 5 then (bif Nat.blt k 1 then (bif Nat.beq k 0 then some (.aload_n 0, 1, []) else none) else (bif Nat.blt k 2 then (bif Nat.beq k 1 then some (.iconst 0, 2, []) else none) else (bif Nat.beq k 2 then some (.putfield 161, 5, []) else none))) else (bif Nat.blt k 6 then (bif Nat.beq k 5 then some (.aload_n 0, 6, []) else none) else (bif Nat.blt k 7 then (bif Nat.beq k 6 then some (.iload_n 1, 7, []) else none) else (bif Nat.beq k 7 then some (.iconst 1, 8, []) else none)))) else (bif Nat.blt k 15 then (bif Nat.blt k 9 then (bif Nat.beq k 8 then some (.iconst 4, 9, []) else none) else (bif Nat.blt k 12 then (bif Nat.beq k 9 then some (.invokevirtual 315, 12, []) else none) else (bif Nat.beq k 12 then some (.ifCond .eq 10, 15, [22]) else none))) else (bif Nat.blt k 19 then (bif Nat.blt k 16 then (bif Nat.beq k 15 then some (.aload_n 0, 16, []) else none) else (bif Nat.beq k 16 then some (.getfield 188, 19, []) else none)) else (bif Nat.blt k 22 then (bif Nat.beq k 19 then some (.ifCond .ne 5, 22, [24]) else none) else (bif Nat.beq k 22 then some (.iconst (-1), 23, []) else none))))) else (bif Nat.blt k 31 then (bif Nat.blt k 26 then (bif Nat.blt k 24 then (bif Nat.beq k 23 then some (.ireturn, 24, []) else none) else (bif Nat.blt k 25 then (bif Nat.beq k 24 then some (.aload_n 0, 25, []) else none) else (bif Nat.beq k 25 then some (.iload_n 1, 26, []) else none))) else (bif Nat.blt k 27 then (bif Nat.beq k 26 then some (.iconst (-1), 27, []) else none) else (bif Nat.blt k 30 then (bif Nat.beq k 27 then some (.invokevirtual 409, 30, []) else none) else (bif Nat.beq k 30 then some (.istore_n 2, 31, []) else none)))) else (bif Nat.blt k 37 then (bif Nat.blt k 32 then (bif Nat.beq k 31 then some (.iload_n 2, 32, []) else none) else (bif Nat.blt k 35 then (bif Nat.beq k 32 then some (.ifCond .ge 6, 35, [38]) else none) else (bif Nat.beq k 35 then some (.bipush (-2), 37, []) else none))) else (bif Nat.blt k 39 then (bif Nat.blt k 38 then (bif Nat.beq k 37 then some (.ireturn, 38, []) else none) else (bif Nat.beq k 38 then some (.iconst 0, 39, []) else none)) else (bif Nat.blt k 40 then (bif Nat.beq k 39 then some (.istore_n 3, 40, []) else none) else (bif Nat.beq k 40 then some (.iload_n 3, 41, []) else none)))))) else (bif Nat.blt k 67 then (bif Nat.blt k 51 then (bif Nat.blt k 48 then (bif Nat.blt k 42 then (bif Nat.beq k 41 then some (.aload_n 0, 42, []) else none) else (bif Nat.blt k 45 then (bif Nat.beq k 42 then some (.getfield 394, 45, []) else none) else (bif Nat.beq k 45 then some (.if_icmp .ge 45, 48, [90]) else none))) else (bif Nat.blt k 49 then (bif Nat.beq k 48 then some (.aload_n 0, 49, []) else none) else (bif Nat.blt k 50 then (bif Nat.beq k 49 then some (.iload_n 1, 50, []) else none) else (bif Nat.beq k 50 then some (.iload_n 3, 51, []) else none)))) else (bif Nat.blt k 58 then (bif Nat.blt k 54 then (bif Nat.beq k 51 then some (.invokevirtual 409, 54, []) else none) else (bif Nat.blt k 56 then (bif Nat.beq k 54 then some (.istore 4, 56, []) else none) else (bif Nat.beq k 56 then some (.iload 4, 58, []) else none))) else (bif Nat.blt k 62 then (bif Nat.blt k 59 then (bif Nat.beq k 58 then some (.iload_n 2, 59, []) else none) else (bif Nat.beq k 59 then some (.if_icmp .eq 25, 62, [84]) else none)) else (bif Nat.blt k 64 then (bif Nat.beq k 62 then some (.iload 4, 64, []) else none) else (bif Nat.beq k 64 then some (.ifCond .ge 6, 67, [70]) else none))))) else (bif Nat.blt k 79 then (bif Nat.blt k 72 then (bif Nat.blt k 70 then (bif Nat.beq k 67 then some (.goto 17, 70, [84]) else none) else (bif Nat.blt k 71 then (bif Nat.beq k 70 then some (.aload_n 0, 71, []) else none) else (bif Nat.beq k 71 then some (.iconst 0, 72, []) else none))) else (bif Nat.blt k 76 then (bif Nat.blt k 75 then (bif Nat.beq k 72 then some (.putfield 164, 75, []) else none) else (bif Nat.beq k 75 then some (.aload_n 0, 76, []) else none)) else (bif Nat.blt k 78 then (bif Nat.beq k 76 then some (.iload 4, 78, []) else none) else (bif Nat.beq k 78 then some (.i2l, 79, []) else none)))) else (bif Nat.blt k 84 then (bif Nat.blt k 82 then (bif Nat.beq k 79 then some (.invokevirtual 177, 82, []) else none) else (bif Nat.blt k 83 then (bif Nat.beq k 82 then some (.iload_n 3, 83, []) else none) else (bif Nat.beq k 83 then some (.ireturn, 84, []) else none))) else (bif Nat.blt k 90 then (bif Nat.blt k 87 then (bif Nat.beq k 84 then some (.iinc 3 1, 87, []) else none) else (bif Nat.beq k 87 then some (.goto (-47), 90, [40]) else none)) else (bif Nat.blt k 92 then (bif Nat.beq k 90 then some (.bipush (-2), 92, []) else none) else (bif Nat.beq k 92 then some (.ireturn, 93, []) else none))))))) else none
noncomputable def P_M_first : MP := (T_M_first, (fun k => mLook k [(161, (13, 52, .int, false)), (164, (13, 51, .int, false)), (188, (13, 17, .int, false)), (394, (13, 27, .int, false))]), (fun k => mLook k []), (fun k => mLook k [(177, E_M_tell), (315, E_M_areCounted), (409, E_M_weighStories)]), (fun k => mLook k []), (fun k => mLook k []), (fun k => mLook k []), (fun k => mLook k [(40, [true, true, true, true, false])]), (fun k => [23, 37, 83, 92].any (Nat.beq k)), (7, 177, 0, 0), false, (fun _ => none))
set_option maxRecDepth 100000 in
set_option maxHeartbeats 4000000 in
theorem q_M_first_e (a1 : Int32) (σ : MSto) (n : Nat) : mexe KT P_M_first (n + 1) (0, [some (mR 13 0), some (mI a1), none, none, none], [], σ, 0, 0) = (if (v_M_areCounted a1 1 4 (sI σ 13 0 52 0)) = 0 then some (23, [], [(mI (-1))], (sI σ 13 0 52 0), 0, 0) else (if (gI (sI σ 13 0 52 0) 13 0 17) = 0 then some (23, [], [(mI (-1))], (sI σ 13 0 52 0), 0, 0) else mG (p_M_weighStories a1 (-1) (sI σ 13 0 52 0)) ((if 0 ≤ (v_M_weighStories a1 (-1) (sI σ 13 0 52 0)) then mexe KT P_M_first n (40, [some (mR 13 0), some (mI a1), some (mI (v_M_weighStories a1 (-1) (sI σ 13 0 52 0))), some (mI 0), none], [], (e_M_weighStories a1 (-1) (sI σ 13 0 52 0)), 0, 0) else some (37, [], [(mI (-2))], (e_M_weighStories a1 (-1) (sI σ 13 0 52 0)), 0, 0))))) := rfl
set_option maxRecDepth 100000 in
set_option maxHeartbeats 4000000 in
theorem q_M_first_40 (x1 : Int32) (x2 : Int32) (x3 : Int32) (σ : MSto) (n : Nat) : mexe KT P_M_first (n + 1) (40, [some (mR 13 0), some (mI x1), some (mI x2), some (mI x3), none], [], σ, 0, 0) = (if (gI σ 13 0 27) ≤ x3 then some (92, [], [(mI (-2))], σ, 0, 0) else mG (p_M_weighStories x1 x3 σ) ((if (v_M_weighStories x1 x3 σ) = x2 then mexe KT P_M_first n (40, [some (mR 13 0), some (mI x1), some (mI x2), some (mI (x3 + 1)), none], [], (e_M_weighStories x1 x3 σ), 0, 0) else (if 0 ≤ (v_M_weighStories x1 x3 σ) then mG (p_M_tell (Int32.toInt64 (v_M_weighStories x1 x3 σ)) (sI (e_M_weighStories x1 x3 σ) 13 0 51 0)) (some (83, [], [(mI x3)], (e_M_tell (Int32.toInt64 (v_M_weighStories x1 x3 σ)) (sI (e_M_weighStories x1 x3 σ) 13 0 51 0)), 0, 0)) else mexe KT P_M_first n (40, [some (mR 13 0), some (mI x1), some (mI x2), some (mI (x3 + 1)), none], [], (e_M_weighStories x1 x3 σ), 0, 0))))) := rfl
set_option maxRecDepth 100000 in
theorem lp_M_first_40 {Post : MST → Prop} (x1 : Int32) (x2 : Int32) (c0 : Int32) (s0 : MSto) (N : Nat) (hb : ∀ i, i < N → g_M_first_40 x1 x2 (c0 + nI i) (f_M_first_40 x1 x2 c0 s0 i) ∧ ¬ q_M_first_40s x1 x2 (c0 + nI i) (f_M_first_40 x1 x2 c0 s0 i) = 1) (h : mW1 P_M_first (40, [some (mR 13 0), some (mI x1), some (mI x2), some (mI (c0 + nI N)), none], [], (f_M_first_40 x1 x2 c0 s0 N), 0, 0) Post) : mW1 P_M_first (40, [some (mR 13 0), some (mI x1), some (mI x2), some (mI c0), none], [], s0, 0, 0) Post := by
  refine mW1_st (mW1_loop (fun i => (40, [some (mR 13 0), some (mI x1), some (mI x2), some (mI (c0 + nI i)), none], [], (f_M_first_40 x1 x2 c0 s0 i), 0, 0)) N (fun i hlt hn => ?_) h) (by rw [show nI 0 = 0 from rfl, Int32.add_zero] <;> rfl)
  obtain ⟨hp, hq⟩ := hb i hlt
  have hn : mW1 P_M_first (40, [some (mR 13 0), some (mI x1), some (mI x2), some (mI (c0 + nI i + 1)), none], [], (t_M_first_40 x1 x2 (c0 + nI i) (f_M_first_40 x1 x2 c0 s0 i)), 0, 0) Post := by
    rw [Int32.add_assoc, nI_s]
    exact hn
  try dsimp only
  generalize (f_M_first_40 x1 x2 c0 s0 i) = s at *
  generalize c0 + nI i = c at *
  clear hb h hlt
  unfold g_M_first_40 at hp
  refine mW1_eq (q_M_first_40 _ _ _ _) ?_
  refine mTr_if (fun h0 => ?_) (fun h0 => ?_)
  · skip
    exact absurd (by unfold q_M_first_40s; first | (rw [if_pos h0]; done) | (rw [if_pos h0]; rfl)) hq
  · skip
    have hp := hp h0
    refine mTr_g hp ?_
    refine mTr_if (fun h1 => ?_) (fun h1 => ?_)
    · skip
      have e : t_M_first_40 x1 x2 c s = (e_M_weighStories x1 c s) := (by unfold t_M_first_40; first | (rw [if_neg h0, if_pos h1]; done) | (rw [if_neg h0, if_pos h1]; rfl))
      rw [e] at hn
      exact mTr_k hn
    · skip
      refine mTr_if (fun h2 => ?_) (fun h2 => ?_)
      · skip
        exact absurd (by unfold q_M_first_40s; first | (rw [if_neg h0, if_neg h1, if_pos h2]; done) | (rw [if_neg h0, if_neg h1, if_pos h2]; rfl)) hq
      · skip
        have e : t_M_first_40 x1 x2 c s = (e_M_weighStories x1 c s) := (by unfold t_M_first_40; first | (rw [if_neg h0, if_neg h1, if_neg h2]; done) | (rw [if_neg h0, if_neg h1, if_neg h2]; rfl))
        rw [e] at hn
        exact mTr_k hn
set_option maxRecDepth 100000 in
set_option maxHeartbeats 4000000 in
theorem d_M_first (a1 : Int32) (σ : MSto) (hp : p_M_first a1 σ) : mW1 P_M_first (0, [some (mR 13 0), some (mI a1), none, none, none], [], σ, 0, 0) (mF [23, 37, 83, 92] [mI (v_M_first a1 σ)] (e_M_first a1 σ) 0 0) := by
  refine mW1_eq (q_M_first_e _ _) ?_
  unfold p_M_first at hp
  refine mTr_if (fun h0 => ?_) (fun h0 => ?_)
  · skip
    exact mTr_e (by decide) (by unfold v_M_first; first | (rw [if_pos h0]; done) | (rw [if_pos h0]; rfl)) (by unfold e_M_first; first | (rw [if_pos h0]; done) | (rw [if_pos h0]; rfl)) (by decide) (by decide)
  · skip
    have hp := hp h0
    refine mTr_if (fun h1 => ?_) (fun h1 => ?_)
    · skip
      exact mTr_e (by decide) (by unfold v_M_first; first | (rw [if_neg h0, if_pos h1]; done) | (rw [if_neg h0, if_pos h1]; rfl)) (by unfold e_M_first; first | (rw [if_neg h0, if_pos h1]; done) | (rw [if_neg h0, if_pos h1]; rfl)) (by decide) (by decide)
    · skip
      have hp := hp h1
      refine mTr_g hp.1 ?_
      have hp := hp.2
      refine mTr_if (fun h2 => ?_) (fun h2 => ?_)
      · skip
        have hp := hp h2
        refine mTr_k (lp_M_first_40 a1 (v_M_weighStories a1 (-1) (sI σ 13 0 52 0)) 0 (e_M_weighStories a1 (-1) (sI σ 13 0 52 0)) (n_M_first_40 a1 (v_M_weighStories a1 (-1) (sI σ 13 0 52 0)) 0 (e_M_weighStories a1 (-1) (sI σ 13 0 52 0))) hp.1 ?_)
        have hp := hp.2
        refine mW1_eq (q_M_first_40 _ _ _ _) ?_
        refine mTr_if (fun h3 => ?_) (fun h3 => ?_)
        · skip
          exact mTr_e (by decide) (by unfold v_M_first; first | (rw [if_neg h0, if_neg h1, if_pos h2, if_pos h3]; done) | (rw [if_neg h0, if_neg h1, if_pos h2, if_pos h3]; rfl)) (by unfold e_M_first; first | (rw [if_neg h0, if_neg h1, if_pos h2, if_pos h3]; done) | (rw [if_neg h0, if_neg h1, if_pos h2, if_pos h3]; rfl)) (by decide) (by decide)
        · skip
          have hp := hp h3
          refine mTr_g hp.1 ?_
          have hp := hp.2
          refine mTr_if (fun h4 => ?_) (fun h4 => ?_)
          · skip
            have hp := hp.1 h4
            exact hp.elim
          · skip
            have hp := hp.2 h4
            refine mTr_if (fun h5 => ?_) (fun h5 => ?_)
            · skip
              have hp := hp.1 h5
              refine mTr_g hp ?_
              exact mTr_e (by decide) (by unfold v_M_first; first | (rw [if_neg h0, if_neg h1, if_pos h2, if_neg h3]; done) | (rw [if_neg h0, if_neg h1, if_pos h2, if_neg h3]; rfl)) (by unfold e_M_first; first | (rw [if_neg h0, if_neg h1, if_pos h2, if_neg h3]; done) | (rw [if_neg h0, if_neg h1, if_pos h2, if_neg h3]; rfl)) (by decide) (by decide)
            · skip
              have hp := hp.2 h5
              exact hp.elim
      · skip
        exact mTr_e (by decide) (by unfold v_M_first; first | (rw [if_neg h0, if_neg h1, if_neg h2]; done) | (rw [if_neg h0, if_neg h1, if_neg h2]; rfl)) (by unfold e_M_first; first | (rw [if_neg h0, if_neg h1, if_neg h2]; done) | (rw [if_neg h0, if_neg h1, if_neg h2]; rfl)) (by decide) (by decide)



theorem tk_M_first : ∀ pc i nx tg, T_M_first pc = some (i, nx, tg) → mOkB prog_14_method_82_code pc i nx tg = true := code_ok (N := 93) (fun k h => by unfold T_M_first; rw [h]; rfl) (by decide +kernel)
theorem ok_M_first (l : Launch) : mPOK l "ClothWithManModel" prog_14_method_82_code P_M_first := by
  refine ⟨tk_M_first, ?_, ?_, ?_, (fun pc i nx tg kd _ h => by cases h), ?_, ?_, fun pc en h => by cases h⟩
  · intro x ci f ty fin h
    exact mLook_all (Q := fun x v => mFOK "ClothWithManModel" x v.1 v.2.1 v.2.2.1 v.2.2.2 ∧ (v.2.2.2 = true → pIni P_M_first = true → (Cond.fieldLink "ClothWithManModel" x (((mCl[v.1]?).getD ("", fun _ => ("", "", "", false), 0)).2.1 v.2.1).1 (((mCl[v.1]?).getD ("", fun _ => ("", "", "", false), 0)).2.1 v.2.1).2.1 (((mCl[v.1]?).getD ("", fun _ => ("", "", "", false), 0)).2.1 v.2.1).2.2.1 ∈ lw_tbl ∧ (((mCl[v.1]?).getD ("", fun _ => ("", "", "", false), 0)).2.1 v.2.1).1 = "ClothWithManModel"))) (fcC ⟨fo_M_161, fun h1 h2 => by cases h1⟩ (fcC ⟨fo_M_164, fun h1 h2 => by cases h1⟩ (fcC ⟨fo_M_188, fun h1 h2 => by cases h1⟩ (fcC ⟨fo_M_394, fun h1 h2 => by cases h1⟩ fcN)))) x (ci, f, ty, fin) h
  · intro x
    have hh := mLook_all (l := ([] : List (Nat × (Int32 ⊕ Int64)))) (Q := fun x (v : Int32 ⊕ Int64) => (∀ w, v = .inl w → Cond.constant "ClothWithManModel" x w ∈ lw_tbl) ∧ (∀ w, v = .inr w → Cond.constantLong "ClothWithManModel" x w ∈ lw_tbl)) fcN x
    exact ⟨fun w h => (hh _ h).1 w rfl, fun w h => (hh _ h).2 w rfl⟩
  · exact fun x en h => mLook_all (Q := fun x en => mLink "ClothWithManModel" x en ∧ mCtr l en ∧ (en.1.1 = 2 → en.2.2.2.2.2.2 = none)) (fcC ⟨li_M_177, c_M_tell l, (fun h => by cases h)⟩ (fcC ⟨li_M_315, c_M_areCounted l, (fun h => by cases h)⟩ (fcC ⟨li_M_409, c_M_weighStories l, (fun h => by cases h)⟩ fcN))) x en h
  · exact fun x kd h => mLook_all (Q := fun x kd => (kd = 95 ∧ Cond.fieldLink "ClothWithManModel" x "ClothWithMan" "LIKENESSES" "[I" ∈ lw_tbl) ∨ (kd = 96 ∧ Cond.fieldLink "ClothWithManModel" x "ClothWithMan" "APART_BOUNDS" "[I" ∈ lw_tbl)) fcN x kd h
  · exact fun x ci h => mLook_all (Q := fun x ci => ci ≠ 0 ∧ ∃ (C : String) (T : u_T) (N : Nat), mCl[ci]? = some (C, T, N) ∧ Cond.classLink "ClothWithManModel" x C ∈ lw_tbl ∧ Cond.castable C C ∈ lw_tbl) fcN x ci h
set_option maxRecDepth 100000 in
theorem c_M_first (l : Launch) : mCtr l E_M_first := mCtr_of (P := P_M_first) (own := "ClothWithManModel") mLay_ok rfl (by decide +kernel) rfl (ok_M_first l) (fun h => by cases h) (fun as σ pr rv σ' hF hpr hlv => by
  unfold E_M_first S_M_first at hF
  simp only [] at hF
  split at hF
  · cases hF
    obtain ⟨n, pcF, c1, s1, g1, g2, g3, g4⟩ := mF_inv (d_M_first _ σ (hpr _ rfl))
    exact ⟨Nat.le_of_ble_eq_true rfl, (fun v h => by cases h; trivial), n, pcF, c1, s1, g1, ⟨mEnd_of (i := .ireturn) (P := P_M_first) (rets := [23, 37, 83, 92]) rfl g2, rfl⟩, g3, g4⟩
  · cases hF
    exact (hpr _ rfl).elim)

