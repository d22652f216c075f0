/-! a number that doesn't unfold -/
noncomputable def cN (n : Nat) : Nat := Classical.choose (⟨n, rfl⟩ : ∃ m, m = n)
theorem cN_eq (n : Nat) : cN n = n := Classical.choose_spec (⟨n, rfl⟩ : ∃ m, m = n)
/-! bestHouse, so that it doesn't unfold -/
noncomputable def oBH (a1 a2 a3 a4 : Int32) (σ : MSto) : Prop × Int32 × MSto := Classical.choose (⟨_, rfl⟩ : ∃ m, m = (p_C_bestHouse a1 a2 a3 a4 σ, v_C_bestHouse a1 a2 a3 a4 σ, e_C_bestHouse a1 a2 a3 a4 σ))
theorem oBH_eq (a1 a2 a3 a4 : Int32) (σ : MSto) : oBH a1 a2 a3 a4 σ = (p_C_bestHouse a1 a2 a3 a4 σ, v_C_bestHouse a1 a2 a3 a4 σ, e_C_bestHouse a1 a2 a3 a4 σ) := Classical.choose_spec (⟨_, rfl⟩ : ∃ m, m = (p_C_bestHouse a1 a2 a3 a4 σ, v_C_bestHouse a1 a2 a3 a4 σ, e_C_bestHouse a1 a2 a3 a4 σ))
def p_C_bestHo (a1 a2 a3 a4 : Int32) (σ : MSto) : Prop := (oBH a1 a2 a3 a4 σ).1
noncomputable def v_C_bestHo (a1 a2 a3 a4 : Int32) (σ : MSto) : Int32 := (oBH a1 a2 a3 a4 σ).2.1
noncomputable def e_C_bestHo (a1 a2 a3 a4 : Int32) (σ : MSto) : MSto := (oBH a1 a2 a3 a4 σ).2.2
theorem p_bestHo (a1 a2 a3 a4 : Int32) (σ : MSto) : p_C_bestHo a1 a2 a3 a4 σ = p_C_bestHouse a1 a2 a3 a4 σ := congrArg (fun q : Prop × Int32 × MSto => q.1) (oBH_eq a1 a2 a3 a4 σ)
theorem v_bestHo (a1 a2 a3 a4 : Int32) (σ : MSto) : v_C_bestHo a1 a2 a3 a4 σ = v_C_bestHouse a1 a2 a3 a4 σ := by
  unfold v_C_bestHo; rw [oBH_eq]
theorem e_bestHo (a1 a2 a3 a4 : Int32) (σ : MSto) : e_C_bestHo a1 a2 a3 a4 σ = e_C_bestHouse a1 a2 a3 a4 σ := by
  unfold e_C_bestHo; rw [oBH_eq]
theorem w_C_bestHo (a1 a2 a3 a4 : Int32) (σ : MSto) : agO [8002, 38000] σ (e_C_bestHo a1 a2 a3 a4 σ) := by
  rw [e_bestHo]; exact w_C_bestHouse _ _ _ _ _
noncomputable def S_C_bestHo : List MV → MSto → Option Prop × Option MV × MSto := fun as σ => match as with
  | [.inr (.inr (some (12, 0))), .inl a0, .inl a1, .inl a2, .inl a3] => (some (p_C_bestHo a0 a1 a2 a3 σ), some (mI (v_C_bestHo a0 a1 a2 a3 σ)), e_C_bestHo a0 a1 a2 a3 σ)
  | _ => (some False, none, σ)
theorem S_bestHo : S_C_bestHo = S_C_bestHouse := by
  funext as σ
  unfold S_C_bestHo S_C_bestHouse
  simp only [p_bestHo, v_bestHo, e_bestHo]
  rfl
noncomputable def E_C_bestHo : MEnt := ((1, 4, 12), (7, 149, 0, 0), S_C_bestHo, ((⟨"ClothWithMan", "bestHouse", "(IIII)I"⟩ : MethodName), prog_1_method_100_code, 8, (some .int)))
theorem E_bestHo : E_C_bestHo = E_C_bestHouse := by
  unfold E_C_bestHo E_C_bestHouse
  rw [S_bestHo]
theorem c_C_bestHo (l : Launch) : mCtr l E_C_bestHo := by
  rw [E_bestHo]; exact c_C_bestHouse l
/-! ClothWithMan.where(I)I -/
noncomputable def tj_C_where_42j69 (x1 : Int32) (x2 : Int32) (x3 : Int32) (x4 : Int32) (x5 : Int32) (σ : MSto) (s : Int32 × MSto) : Int32 × MSto := (x2, σ)
noncomputable def qj_C_where_42j69 (x1 : Int32) (x2 : Int32) (x3 : Int32) (x4 : Int32) (x5 : Int32) (σ : MSto) : Nat := 0
noncomputable def tj_C_where_42j58 (x1 : Int32) (x2 : Int32) (x3 : Int32) (x4 : Int32) (x5 : Int32) (σ : MSto) (s : Int32 × MSto) : Int32 × MSto := (tj_C_where_42j69 x1 (v_C_bestHo x3 x4 x5 x2 σ) x3 x4 x5 (e_C_bestHo x3 x4 x5 x2 σ) s)
noncomputable def qj_C_where_42j58 (x1 : Int32) (x2 : Int32) (x3 : Int32) (x4 : Int32) (x5 : Int32) (σ : MSto) : Nat := 0
def gj_C_where_42j58 (x1 : Int32) (x2 : Int32) (x3 : Int32) (x4 : Int32) (x5 : Int32) (σ : MSto) : Prop := (p_C_bestHo x3 x4 x5 x2 σ)
noncomputable def t_C_where_42 (x1 : Int32) (x3 : Int32) (x4 : Int32) (c : Int32) (s : Int32 × MSto) : Int32 × MSto := (if 4 ≤ c then s else (tj_C_where_42j58 x1 (s.1) x3 x4 c (e_C_layBares x3 x4 c x1 (s.2)) s))
noncomputable def q_C_where_42s (x1 : Int32) (x3 : Int32) (x4 : Int32) (c : Int32) (s : Int32 × MSto) : Nat := (if 4 ≤ c then 1 else 0)
def g_C_where_42 (x1 : Int32) (x3 : Int32) (x4 : Int32) (c : Int32) (s : Int32 × MSto) : Prop := (¬ (4 ≤ c) → ((p_C_layBares x3 x4 c x1 (s.2)) ∧ (gj_C_where_42j58 x1 (s.1) x3 x4 c (e_C_layBares x3 x4 c x1 (s.2)))))
noncomputable def f_C_where_42 (x1 : Int32) (x3 : Int32) (x4 : Int32) (c0 : Int32) (s0 : Int32 × MSto) (n : Nat) : Int32 × MSto := nfold (fun i s => t_C_where_42 x1 x3 x4 (c0 + nI i) s) s0 n
noncomputable def n_C_where_42 (x1 : Int32) (x3 : Int32) (x4 : Int32) (c0 : Int32) (s0 : Int32 × MSto) : Nat := (cN 4)
noncomputable def t_C_where_32 (x1 : Int32) (x3 : Int32) (c : Int32) (s : Int32 × MSto) : Int32 × MSto := (if 8 ≤ c then s else (((f_C_where_42 x1 x3 c 0 ((s.1), (s.2)) (n_C_where_42 x1 x3 c 0 ((s.1), (s.2)))).1), ((f_C_where_42 x1 x3 c 0 ((s.1), (s.2)) (n_C_where_42 x1 x3 c 0 ((s.1), (s.2)))).2)))
noncomputable def q_C_where_32s (x1 : Int32) (x3 : Int32) (c : Int32) (s : Int32 × MSto) : Nat := (if 8 ≤ c then 1 else 0)
def g_C_where_32 (x1 : Int32) (x3 : Int32) (c : Int32) (s : Int32 × MSto) : Prop := (¬ (8 ≤ c) → ((∀ i, i < (n_C_where_42 x1 x3 c 0 ((s.1), (s.2))) → g_C_where_42 x1 x3 c (0 + nI i) (f_C_where_42 x1 x3 c 0 ((s.1), (s.2)) i) ∧ ¬ q_C_where_42s x1 x3 c (0 + nI i) (f_C_where_42 x1 x3 c 0 ((s.1), (s.2)) i) = 1) ∧ (¬ (4 ≤ (0 + nI (n_C_where_42 x1 x3 c 0 ((s.1), (s.2))))) → False)))
noncomputable def f_C_where_32 (x1 : Int32) (x3 : Int32) (c0 : Int32) (s0 : Int32 × MSto) (n : Nat) : Int32 × MSto := nfold (fun i s => t_C_where_32 x1 x3 (c0 + nI i) s) s0 n
noncomputable def n_C_where_32 (x1 : Int32) (x3 : Int32) (c0 : Int32) (s0 : Int32 × MSto) : Nat := (cN 8)
noncomputable def t_C_where_23 (x1 : Int32) (c : Int32) (s : Int32 × MSto) : Int32 × MSto := (if 24 ≤ c then s else (((f_C_where_32 x1 c 0 ((s.1), (s.2)) (n_C_where_32 x1 c 0 ((s.1), (s.2)))).1), ((f_C_where_32 x1 c 0 ((s.1), (s.2)) (n_C_where_32 x1 c 0 ((s.1), (s.2)))).2)))
noncomputable def q_C_where_23s (x1 : Int32) (c : Int32) (s : Int32 × MSto) : Nat := (if 24 ≤ c then 1 else 0)
def g_C_where_23 (x1 : Int32) (c : Int32) (s : Int32 × MSto) : Prop := (¬ (24 ≤ c) → ((∀ i, i < (n_C_where_32 x1 c 0 ((s.1), (s.2))) → g_C_where_32 x1 c (0 + nI i) (f_C_where_32 x1 c 0 ((s.1), (s.2)) i) ∧ ¬ q_C_where_32s x1 c (0 + nI i) (f_C_where_32 x1 c 0 ((s.1), (s.2)) i) = 1) ∧ (¬ (8 ≤ (0 + nI (n_C_where_32 x1 c 0 ((s.1), (s.2))))) → False)))
noncomputable def f_C_where_23 (x1 : Int32) (c0 : Int32) (s0 : Int32 × MSto) (n : Nat) : Int32 × MSto := nfold (fun i s => t_C_where_23 x1 (c0 + nI i) s) s0 n
noncomputable def n_C_where_23 (x1 : Int32) (c0 : Int32) (s0 : Int32 × MSto) : Nat := (cN 24)
noncomputable def v_C_where (a1 : Int32) (σ : MSto) : Int32 := (if (v_C_isYear a1 σ) = 0 then (-1) else (if (v_AL_isEmpty 15 0 σ) = 0 then ((f_C_where_23 a1 0 ((-1), σ) (n_C_where_23 a1 0 ((-1), σ))).1) else (-1)))
def p_C_where (a1 : Int32) (σ : MSto) : Prop := (¬ ((v_C_isYear a1 σ) = 0) → (((v_AL_isEmpty 15 0 σ) = 0) → ((∀ i, i < (n_C_where_23 a1 0 ((-1), σ)) → g_C_where_23 a1 (0 + nI i) (f_C_where_23 a1 0 ((-1), σ) i) ∧ ¬ q_C_where_23s a1 (0 + nI i) (f_C_where_23 a1 0 ((-1), σ) i) = 1) ∧ (¬ (24 ≤ (0 + nI (n_C_where_23 a1 0 ((-1), σ)))) → False))))
noncomputable def e_C_where (a1 : Int32) (σ : MSto) : MSto := (if (v_C_isYear a1 σ) = 0 then σ else (if (v_AL_isEmpty 15 0 σ) = 0 then ((f_C_where_23 a1 0 ((-1), σ) (n_C_where_23 a1 0 ((-1), σ))).2) else σ))
noncomputable def S_C_where : List MV → MSto → Option Prop × Option MV × MSto := fun as σ => match as with
  | [.inr (.inr (some (12, 0))), .inl a0] => (some (p_C_where a0 σ), some (mI (v_C_where a0 σ)), e_C_where a0 σ)
  | _ => (some False, none, σ)
noncomputable def E_C_where : MEnt := ((1, 1, 12), (9, 201, 0, 0), S_C_where, ((⟨"ClothWithMan", "where", "(I)I"⟩ : MethodName), prog_1_method_40_code, 6, (some .int)))

def T_C_where : Nat → Option (Instr × Nat × List Nat) := fun k => bif Nat.blt k 89 then (bif Nat.blt k 42 then (bif Nat.blt k 21 then (bif Nat.blt k 11 then (bif Nat.blt k 4 then (bif Nat.blt k 1 then (bif Nat.beq k 0 then some (.iload_n 1, 1, []) else none) else (bif Nat.beq k 1 then some (.invokestatic 116, 4, []) else none)) else (bif Nat.blt k 7 then (bif Nat.beq k 4 then some (.ifCond .eq 13, 7, [17]) else none) else (bif Nat.blt k 8 then (bif Nat.beq k 7 then some (.aload_n 0, 8, []) else none) else (bif Nat.beq k 8 then some (.getfield 37, 11, []) else none)))) else (bif Nat.blt k 18 then (bif Nat.blt k 14 then (bif Nat.beq k 11 then some (.invokevirtual 353, 14, []) else none) else (bif Nat.blt k 17 then (bif Nat.beq k 14 then some (.ifCond .eq 5, 17, [19]) else none) else (bif Nat.beq k 17 then some (.iconst (-1), 18, []) else none))) else (bif Nat.blt k 19 then (bif Nat.beq k 18 then some (.ireturn, 19, []) else none) else (bif Nat.blt k 20 then (bif Nat.beq k 19 then some (.iconst (-1), 20, []) else none) else (bif Nat.beq k 20 then some (.istore_n 2, 21, []) else none))))) else (bif Nat.blt k 30 then (bif Nat.blt k 24 then (bif Nat.blt k 22 then (bif Nat.beq k 21 then some (.iconst 0, 22, []) else none) else (bif Nat.blt k 23 then (bif Nat.beq k 22 then some (.istore_n 3, 23, []) else none) else (bif Nat.beq k 23 then some (.iload_n 3, 24, []) else none))) else (bif Nat.blt k 26 then (bif Nat.beq k 24 then some (.bipush 24, 26, []) else none) else (bif Nat.blt k 29 then (bif Nat.beq k 26 then some (.if_icmp .ge 61, 29, [87]) else none) else (bif Nat.beq k 29 then some (.iconst 0, 30, []) else none)))) else (bif Nat.blt k 36 then (bif Nat.blt k 32 then (bif Nat.beq k 30 then some (.istore 4, 32, []) else none) else (bif Nat.blt k 34 then (bif Nat.beq k 32 then some (.iload 4, 34, []) else none) else (bif Nat.beq k 34 then some (.bipush 8, 36, []) else none))) else (bif Nat.blt k 39 then (bif Nat.beq k 36 then some (.if_icmp .ge 45, 39, [81]) else none) else (bif Nat.blt k 40 then (bif Nat.beq k 39 then some (.iconst 0, 40, []) else none) else (bif Nat.beq k 40 then some (.istore 5, 42, []) else none)))))) else (bif Nat.blt k 62 then (bif Nat.blt k 52 then (bif Nat.blt k 48 then (bif Nat.blt k 44 then (bif Nat.beq k 42 then some (.iload 5, 44, []) else none) else (bif Nat.blt k 45 then (bif Nat.beq k 44 then some (.iconst 4, 45, []) else none) else (bif Nat.beq k 45 then some (.if_icmp .ge 30, 48, [75]) else none))) else (bif Nat.blt k 49 then (bif Nat.beq k 48 then some (.aload_n 0, 49, []) else none) else (bif Nat.blt k 50 then (bif Nat.beq k 49 then some (.iload_n 3, 50, []) else none) else (bif Nat.beq k 50 then some (.iload 4, 52, []) else none)))) else (bif Nat.blt k 58 then (bif Nat.blt k 54 then (bif Nat.beq k 52 then some (.iload 5, 54, []) else none) else (bif Nat.blt k 55 then (bif Nat.beq k 54 then some (.iload_n 1, 55, []) else none) else (bif Nat.beq k 55 then some (.invokevirtual 362, 58, []) else none))) else (bif Nat.blt k 59 then (bif Nat.beq k 58 then some (.aload_n 0, 59, []) else none) else (bif Nat.blt k 60 then (bif Nat.beq k 59 then some (.iload_n 3, 60, []) else none) else (bif Nat.beq k 60 then some (.iload 4, 62, []) else none))))) else (bif Nat.blt k 75 then (bif Nat.blt k 68 then (bif Nat.blt k 64 then (bif Nat.beq k 62 then some (.iload 5, 64, []) else none) else (bif Nat.blt k 65 then (bif Nat.beq k 64 then some (.iload_n 2, 65, []) else none) else (bif Nat.beq k 65 then some (.invokevirtual 365, 68, []) else none))) else (bif Nat.blt k 69 then (bif Nat.beq k 68 then some (.istore_n 2, 69, []) else none) else (bif Nat.blt k 72 then (bif Nat.beq k 69 then some (.iinc 5 1, 72, []) else none) else (bif Nat.beq k 72 then some (.goto (-30), 75, [42]) else none)))) else (bif Nat.blt k 84 then (bif Nat.blt k 78 then (bif Nat.beq k 75 then some (.iinc 4 1, 78, []) else none) else (bif Nat.blt k 81 then (bif Nat.beq k 78 then some (.goto (-46), 81, [32]) else none) else (bif Nat.beq k 81 then some (.iinc 3 1, 84, []) else none))) else (bif Nat.blt k 87 then (bif Nat.beq k 84 then some (.goto (-61), 87, [23]) else none) else (bif Nat.blt k 88 then (bif Nat.beq k 87 then some (.iload_n 2, 88, []) else none) else (bif Nat.beq k 88 then some (.ireturn, 89, []) else none))))))) else none
noncomputable def P_C_where : MP := (T_C_where, (fun k => mLook k [(37, (12, 5, (.object "java/util/ArrayList"), true))]), (fun k => mLook k []), (fun k => mLook k [(116, E_C_isYear), (353, E_AL_isEmpty), (362, E_C_layBares), (365, E_C_bestHo)]), (fun k => mLook k []), (fun k => mLook k []), (fun k => mLook k []), (fun k => mLook k [(23, [true, true, true, true, false, false]), (32, [true, true, true, true, true, false]), (42, [true, true, true, true, true, true]), (58, [true, true, true, true, true, true]), (69, [true, true, true, true, true, true])]), (fun k => [18, 88].any (Nat.beq k)), (9, 201, 0, 0), false, (fun _ => none))
set_option maxRecDepth 100000 in
set_option maxHeartbeats 4000000 in
theorem q_C_where_e (a1 : Int32) (σ : MSto) (n : Nat) : mexe KT P_C_where (n + 1) (0, [some (mR 12 0), some (mI a1), none, none, none, none], [], σ, 0, 0) = mIf ((v_C_isYear a1 σ) = 0) (some (18, [], [(mI (-1))], σ, 0, 0)) (mIf ((v_AL_isEmpty 15 0 σ) = 0) (mexe KT P_C_where n (23, [some (mR 12 0), some (mI a1), some (mI (-1)), some (mI 0), none, none], [], σ, 0, 0)) (some (18, [], [(mI (-1))], σ, 0, 0))) := rfl
set_option maxRecDepth 100000 in
set_option maxHeartbeats 4000000 in
theorem q_C_where_23 (x1 : Int32) (x2 : Int32) (x3 : Int32) (σ : MSto) (n : Nat) : mexe KT P_C_where (n + 1) (23, [some (mR 12 0), some (mI x1), some (mI x2), some (mI x3), none, none], [], σ, 0, 0) = mIf (24 ≤ x3) (some (88, [], [(mI x2)], σ, 0, 0)) (mexe KT P_C_where n (32, [some (mR 12 0), some (mI x1), some (mI x2), some (mI x3), some (mI 0), none], [], σ, 0, 0)) := rfl
set_option maxRecDepth 100000 in
set_option maxHeartbeats 4000000 in
theorem q_C_where_32 (x1 : Int32) (x2 : Int32) (x3 : Int32) (x4 : Int32) (σ : MSto) (n : Nat) : mexe KT P_C_where (n + 1) (32, [some (mR 12 0), some (mI x1), some (mI x2), some (mI x3), some (mI x4), none], [], σ, 0, 0) = mIf (8 ≤ x4) (mexe KT P_C_where n (23, [some (mR 12 0), some (mI x1), some (mI x2), some (mI (x3 + 1)), none, none], [], σ, 0, 0)) (mexe KT P_C_where n (42, [some (mR 12 0), some (mI x1), some (mI x2), some (mI x3), some (mI x4), some (mI 0)], [], σ, 0, 0)) := rfl
set_option maxRecDepth 100000 in
set_option maxHeartbeats 4000000 in
theorem q_C_where_42 (x1 : Int32) (x2 : Int32) (x3 : Int32) (x4 : Int32) (x5 : Int32) (σ : MSto) (n : Nat) : mexe KT P_C_where (n + 1) (42, [some (mR 12 0), some (mI x1), some (mI x2), some (mI x3), some (mI x4), some (mI x5)], [], σ, 0, 0) = mIf (4 ≤ x5) (mexe KT P_C_where n (32, [some (mR 12 0), some (mI x1), some (mI x2), some (mI x3), some (mI (x4 + 1)), none], [], σ, 0, 0)) (mG (p_C_layBares x3 x4 x5 x1 σ) (mexe KT P_C_where n (58, [some (mR 12 0), some (mI x1), some (mI x2), some (mI x3), some (mI x4), some (mI x5)], [], (e_C_layBares x3 x4 x5 x1 σ), 0, 0))) := rfl
set_option maxRecDepth 100000 in
set_option maxHeartbeats 4000000 in
theorem q_C_where_58 (x1 : Int32) (x2 : Int32) (x3 : Int32) (x4 : Int32) (x5 : Int32) (σ : MSto) (n : Nat) : mexe KT P_C_where (n + 1) (58, [some (mR 12 0), some (mI x1), some (mI x2), some (mI x3), some (mI x4), some (mI x5)], [], σ, 0, 0) = mG (p_C_bestHo x3 x4 x5 x2 σ) (mexe KT P_C_where n (69, [some (mR 12 0), some (mI x1), some (mI (v_C_bestHo x3 x4 x5 x2 σ)), some (mI x3), some (mI x4), some (mI x5)], [], (e_C_bestHo x3 x4 x5 x2 σ), 0, 0)) := rfl
set_option maxRecDepth 100000 in
set_option maxHeartbeats 4000000 in
theorem q_C_where_69 (x1 : Int32) (x2 : Int32) (x3 : Int32) (x4 : Int32) (x5 : Int32) (σ : MSto) (n : Nat) : mexe KT P_C_where (n + 1) (69, [some (mR 12 0), some (mI x1), some (mI x2), some (mI x3), some (mI x4), some (mI x5)], [], σ, 0, 0) = mexe KT P_C_where n (42, [some (mR 12 0), some (mI x1), some (mI x2), some (mI x3), some (mI x4), some (mI (x5 + 1))], [], σ, 0, 0) := rfl
set_option maxRecDepth 100000 in
theorem lj_C_where_42j69 {Post : MST → Prop} (x1 : Int32) (x2 : Int32) (x3 : Int32) (x4 : Int32) (x5 : Int32) (σ : MSto) (s : Int32 × MSto) (hq : ¬ 0 = 1) (hn : ∀ (r1 : Int32) (r2 : MSto), tj_C_where_42j69 x1 x2 x3 x4 x5 σ s = (r1, r2) → mW1 P_C_where (42, [some (mR 12 0), some (mI x1), some (mI r1), some (mI x3), some (mI x4), some (mI (x5 + 1))], [], r2, 0, 0) Post) : mW1 P_C_where (69, [some (mR 12 0), some (mI x1), some (mI x2), some (mI x3), some (mI x4), some (mI x5)], [], σ, 0, 0) Post := by
  refine mW1_eq (q_C_where_69 _ _ _ _ _ _) ?_
  exact mTr_k (hn x2 σ (rfl))
set_option maxRecDepth 100000 in
theorem lj_C_where_42j58 {Post : MST → Prop} (x1 : Int32) (x2 : Int32) (x3 : Int32) (x4 : Int32) (x5 : Int32) (σ : MSto) (s : Int32 × MSto) (hp : gj_C_where_42j58 x1 x2 x3 x4 x5 σ) (hq : ¬ 0 = 1) (hn : ∀ (r1 : Int32) (r2 : MSto), tj_C_where_42j58 x1 x2 x3 x4 x5 σ s = (r1, r2) → mW1 P_C_where (42, [some (mR 12 0), some (mI x1), some (mI r1), some (mI x3), some (mI x4), some (mI (x5 + 1))], [], r2, 0, 0) Post) : mW1 P_C_where (58, [some (mR 12 0), some (mI x1), some (mI x2), some (mI x3), some (mI x4), some (mI x5)], [], σ, 0, 0) Post := by
  unfold gj_C_where_42j58 at hp
  refine mW1_eq (q_C_where_58 _ _ _ _ _ _) ?_
  refine mTr_g hp ?_
  exact mTr_k (lj_C_where_42j69 x1 (v_C_bestHo x3 x4 x5 x2 σ) x3 x4 x5 (e_C_bestHo x3 x4 x5 x2 σ) s hq hn)
set_option maxRecDepth 100000 in
theorem lt_C_where_42 {Post : MST → Prop} (x1 : Int32) (x3 : Int32) (x4 : Int32) (c : Int32) (s : Int32 × MSto) (hp : g_C_where_42 x1 x3 x4 c s) (hq : ¬ q_C_where_42s x1 x3 x4 c s = 1) (hn : ∀ (r1 : Int32) (r2 : MSto), t_C_where_42 x1 x3 x4 c s = (r1, r2) → mW1 P_C_where (42, [some (mR 12 0), some (mI x1), some (mI r1), some (mI x3), some (mI x4), some (mI (c + 1))], [], r2, 0, 0) Post) : mW1 P_C_where (42, [some (mR 12 0), some (mI x1), some (mI (s.1)), some (mI x3), some (mI x4), some (mI c)], [], (s.2), 0, 0) Post := by
  unfold g_C_where_42 at hp
  refine mW1_eq (q_C_where_42 _ _ _ _ _ _) ?_
  refine mTr_if (fun h0 => ?_) (fun h0 => ?_)
  · skip
    exact absurd (if_pos h0) hq
  · skip
    have hp := hp h0
    refine mTr_g hp.1 ?_
    have hp := hp.2
    exact mTr_k (lj_C_where_42j58 x1 (s.1) x3 x4 c (e_C_layBares x3 x4 c x1 (s.2)) s hp (fun z => hq ((if_neg h0).trans z)) (fun r1 r2 zr => hn r1 r2 ((if_neg h0).trans zr)))
theorem lp_C_where_42 {Post : MST → Prop} (x1 : Int32) (x3 : Int32) (x4 : Int32) (c0 : Int32) (s0 : Int32 × MSto) (N : Nat) (hb : ∀ i, i < N → g_C_where_42 x1 x3 x4 (c0 + nI i) (f_C_where_42 x1 x3 x4 c0 s0 i) ∧ ¬ q_C_where_42s x1 x3 x4 (c0 + nI i) (f_C_where_42 x1 x3 x4 c0 s0 i) = 1) (h : mW1 P_C_where (42, [some (mR 12 0), some (mI x1), some (mI ((f_C_where_42 x1 x3 x4 c0 s0 N).1)), some (mI x3), some (mI x4), some (mI (c0 + nI N))], [], ((f_C_where_42 x1 x3 x4 c0 s0 N).2), 0, 0) Post) : mW1 P_C_where (42, [some (mR 12 0), some (mI x1), some (mI (s0.1)), some (mI x3), some (mI x4), some (mI c0)], [], (s0.2), 0, 0) Post := by
  refine mW1_st (mW1_loop (fun i => (42, [some (mR 12 0), some (mI x1), some (mI ((f_C_where_42 x1 x3 x4 c0 s0 i).1)), some (mI x3), some (mI x4), some (mI (c0 + nI i))], [], ((f_C_where_42 x1 x3 x4 c0 s0 i).2), 0, 0)) N (fun i hlt hn => ?_) h) (by rw [show nI 0 = 0 from rfl, Int32.add_zero] <;> rfl)
  refine lt_C_where_42 x1 x3 x4 _ _ (hb i hlt).1 (hb i hlt).2 (fun r1 r2 hr => ?_)
  rw [Int32.add_assoc, nI_s]
  have e : f_C_where_42 x1 x3 x4 c0 s0 (i + 1) = (r1, r2) := hr
  try dsimp only at hn
  rw [e] at hn
  exact hn
set_option maxRecDepth 100000 in
theorem lt_C_where_32 {Post : MST → Prop} (x1 : Int32) (x3 : Int32) (c : Int32) (s : Int32 × MSto) (hp : g_C_where_32 x1 x3 c s) (hq : ¬ q_C_where_32s x1 x3 c s = 1) (hn : ∀ (r1 : Int32) (r2 : MSto), t_C_where_32 x1 x3 c s = (r1, r2) → mW1 P_C_where (32, [some (mR 12 0), some (mI x1), some (mI r1), some (mI x3), some (mI (c + 1)), none], [], r2, 0, 0) Post) : mW1 P_C_where (32, [some (mR 12 0), some (mI x1), some (mI (s.1)), some (mI x3), some (mI c), none], [], (s.2), 0, 0) Post := by
  unfold g_C_where_32 at hp
  refine mW1_eq (q_C_where_32 _ _ _ _ _) ?_
  refine mTr_if (fun h0 => ?_) (fun h0 => ?_)
  · skip
    exact absurd (if_pos h0) hq
  · skip
    have hp := hp h0
    refine mTr_k (lp_C_where_42 x1 x3 c 0 ((s.1), (s.2)) (n_C_where_42 x1 x3 c 0 ((s.1), (s.2))) hp.1 ?_)
    have hp := hp.2
    refine mW1_eq (q_C_where_42 _ _ _ _ _ _) ?_
    refine mTr_if (fun h1 => ?_) (fun h1 => ?_)
    · skip
      exact mTr_k (hn ((f_C_where_42 x1 x3 c 0 ((s.1), (s.2)) (n_C_where_42 x1 x3 c 0 ((s.1), (s.2)))).1) ((f_C_where_42 x1 x3 c 0 ((s.1), (s.2)) (n_C_where_42 x1 x3 c 0 ((s.1), (s.2)))).2) (if_neg h0))
    · skip
      have hp := hp h1
      exact hp.elim
theorem lp_C_where_32 {Post : MST → Prop} (x1 : Int32) (x3 : Int32) (c0 : Int32) (s0 : Int32 × MSto) (N : Nat) (hb : ∀ i, i < N → g_C_where_32 x1 x3 (c0 + nI i) (f_C_where_32 x1 x3 c0 s0 i) ∧ ¬ q_C_where_32s x1 x3 (c0 + nI i) (f_C_where_32 x1 x3 c0 s0 i) = 1) (h : mW1 P_C_where (32, [some (mR 12 0), some (mI x1), some (mI ((f_C_where_32 x1 x3 c0 s0 N).1)), some (mI x3), some (mI (c0 + nI N)), none], [], ((f_C_where_32 x1 x3 c0 s0 N).2), 0, 0) Post) : mW1 P_C_where (32, [some (mR 12 0), some (mI x1), some (mI (s0.1)), some (mI x3), some (mI c0), none], [], (s0.2), 0, 0) Post := by
  refine mW1_st (mW1_loop (fun i => (32, [some (mR 12 0), some (mI x1), some (mI ((f_C_where_32 x1 x3 c0 s0 i).1)), some (mI x3), some (mI (c0 + nI i)), none], [], ((f_C_where_32 x1 x3 c0 s0 i).2), 0, 0)) N (fun i hlt hn => ?_) h) (by rw [show nI 0 = 0 from rfl, Int32.add_zero] <;> rfl)
  refine lt_C_where_32 x1 x3 _ _ (hb i hlt).1 (hb i hlt).2 (fun r1 r2 hr => ?_)
  rw [Int32.add_assoc, nI_s]
  have e : f_C_where_32 x1 x3 c0 s0 (i + 1) = (r1, r2) := hr
  try dsimp only at hn
  rw [e] at hn
  exact hn
set_option maxRecDepth 100000 in
theorem lt_C_where_23 {Post : MST → Prop} (x1 : Int32) (c : Int32) (s : Int32 × MSto) (hp : g_C_where_23 x1 c s) (hq : ¬ q_C_where_23s x1 c s = 1) (hn : ∀ (r1 : Int32) (r2 : MSto), t_C_where_23 x1 c s = (r1, r2) → mW1 P_C_where (23, [some (mR 12 0), some (mI x1), some (mI r1), some (mI (c + 1)), none, none], [], r2, 0, 0) Post) : mW1 P_C_where (23, [some (mR 12 0), some (mI x1), some (mI (s.1)), some (mI c), none, none], [], (s.2), 0, 0) Post := by
  unfold g_C_where_23 at hp
  refine mW1_eq (q_C_where_23 _ _ _ _) ?_
  refine mTr_if (fun h0 => ?_) (fun h0 => ?_)
  · skip
    exact absurd (if_pos h0) hq
  · skip
    have hp := hp h0
    refine mTr_k (lp_C_where_32 x1 c 0 ((s.1), (s.2)) (n_C_where_32 x1 c 0 ((s.1), (s.2))) hp.1 ?_)
    have hp := hp.2
    refine mW1_eq (q_C_where_32 _ _ _ _ _) ?_
    refine mTr_if (fun h1 => ?_) (fun h1 => ?_)
    · skip
      exact mTr_k (hn ((f_C_where_32 x1 c 0 ((s.1), (s.2)) (n_C_where_32 x1 c 0 ((s.1), (s.2)))).1) ((f_C_where_32 x1 c 0 ((s.1), (s.2)) (n_C_where_32 x1 c 0 ((s.1), (s.2)))).2) (if_neg h0))
    · skip
      have hp := hp h1
      exact hp.elim
theorem lp_C_where_23 {Post : MST → Prop} (x1 : Int32) (c0 : Int32) (s0 : Int32 × MSto) (N : Nat) (hb : ∀ i, i < N → g_C_where_23 x1 (c0 + nI i) (f_C_where_23 x1 c0 s0 i) ∧ ¬ q_C_where_23s x1 (c0 + nI i) (f_C_where_23 x1 c0 s0 i) = 1) (h : mW1 P_C_where (23, [some (mR 12 0), some (mI x1), some (mI ((f_C_where_23 x1 c0 s0 N).1)), some (mI (c0 + nI N)), none, none], [], ((f_C_where_23 x1 c0 s0 N).2), 0, 0) Post) : mW1 P_C_where (23, [some (mR 12 0), some (mI x1), some (mI (s0.1)), some (mI c0), none, none], [], (s0.2), 0, 0) Post := by
  refine mW1_st (mW1_loop (fun i => (23, [some (mR 12 0), some (mI x1), some (mI ((f_C_where_23 x1 c0 s0 i).1)), some (mI (c0 + nI i)), none, none], [], ((f_C_where_23 x1 c0 s0 i).2), 0, 0)) N (fun i hlt hn => ?_) h) (by rw [show nI 0 = 0 from rfl, Int32.add_zero] <;> rfl)
  refine lt_C_where_23 x1 _ _ (hb i hlt).1 (hb i hlt).2 (fun r1 r2 hr => ?_)
  rw [Int32.add_assoc, nI_s]
  have e : f_C_where_23 x1 c0 s0 (i + 1) = (r1, r2) := hr
  try dsimp only at hn
  rw [e] at hn
  exact hn
set_option maxRecDepth 100000 in
set_option maxHeartbeats 4000000 in
theorem d_C_where (a1 : Int32) (σ : MSto) (hp : p_C_where a1 σ) : mW1 P_C_where (0, [some (mR 12 0), some (mI a1), none, none, none, none], [], σ, 0, 0) (mF [18, 88] [mI (v_C_where a1 σ)] (e_C_where a1 σ) 0 0) := by
  refine mW1_eq (q_C_where_e _ _) ?_
  unfold p_C_where at hp
  refine mTr_if (fun h0 => ?_) (fun h0 => ?_)
  · skip
    exact mTr_e (by decide) (congrArg (fun z => [mI z]) (Eq.symm (if_pos h0))) (Eq.symm (if_pos h0)) (by decide) (by decide)
  · skip
    have hp := hp h0
    refine mTr_if (fun h1 => ?_) (fun h1 => ?_)
    · skip
      have hp := hp h1
      refine mTr_k (lp_C_where_23 a1 0 ((-1), σ) (n_C_where_23 a1 0 ((-1), σ)) hp.1 ?_)
      have hp := hp.2
      refine mW1_eq (q_C_where_23 _ _ _ _) ?_
      refine mTr_if (fun h2 => ?_) (fun h2 => ?_)
      · skip
        exact mTr_e (by decide) (congrArg (fun z => [mI z]) (Eq.symm ((if_neg h0).trans (if_pos h1)))) (Eq.symm ((if_neg h0).trans (if_pos h1))) (by decide) (by decide)
      · skip
        have hp := hp h2
        exact hp.elim
    · skip
      exact mTr_e (by decide) (congrArg (fun z => [mI z]) (Eq.symm ((if_neg h0).trans (if_neg h1)))) (Eq.symm ((if_neg h0).trans (if_neg h1))) (by decide) (by decide)
theorem li_C_365 : mLink "ClothWithMan" 365 E_C_bestHo := ⟨tw_4_189, tw_1_1, ⟨by decide, by decide⟩, by decide +kernel, Or.inl tw_4_186, (fun h => by cases h), (fun _ => ⟨tw_4_188, tw_0_38, TX11, 20, rfl⟩), (fun h => by cases h)⟩




theorem tk_C_where : ∀ pc i nx tg, T_C_where pc = some (i, nx, tg) → mOkB prog_1_method_40_code pc i nx tg = true := code_ok (N := 89) (fun k h => by unfold T_C_where; rw [h]; rfl) (by decide +kernel)
theorem ok_C_where (l : Launch) : mPOK l "ClothWithMan" prog_1_method_40_code P_C_where := by
  refine ⟨tk_C_where, ?_, ?_, ?_, (fun pc i nx tg kd _ h => by cases h), ?_, ?_, fun pc en h => by cases h⟩
  · intro x ci f ty fin h
    exact mLook_all (Q := fun x v => mFOK "ClothWithMan" x v.1 v.2.1 v.2.2.1 v.2.2.2 ∧ (v.2.2.2 = true → pIni P_C_where = true → (Cond.fieldLink "ClothWithMan" x (((mCl[v.1]?).getD ("", fun _ => ("", "", "", false), 0)).2.1 v.2.1).1 (((mCl[v.1]?).getD ("", fun _ => ("", "", "", false), 0)).2.1 v.2.1).2.1 (((mCl[v.1]?).getD ("", fun _ => ("", "", "", false), 0)).2.1 v.2.1).2.2.1 ∈ lw_tbl ∧ (((mCl[v.1]?).getD ("", fun _ => ("", "", "", false), 0)).2.1 v.2.1).1 = "ClothWithMan"))) (fcC ⟨fo_C_37, fun h1 h2 => by cases h2⟩ fcN) x (ci, f, ty, fin) h
  · intro x
    have hh := mLook_all (l := ([] : List (Nat × (Int32 ⊕ Int64)))) (Q := fun x (v : Int32 ⊕ Int64) => (∀ w, v = .inl w → Cond.constant "ClothWithMan" x w ∈ lw_tbl) ∧ (∀ w, v = .inr w → Cond.constantLong "ClothWithMan" x w ∈ lw_tbl)) fcN x
    exact ⟨fun w h => (hh _ h).1 w rfl, fun w h => (hh _ h).2 w rfl⟩
  · exact fun x en h => mLook_all (Q := fun x en => mLink "ClothWithMan" x en ∧ mCtr l en ∧ (en.1.1 = 2 → en.2.2.2.2.2.2 = none)) (fcC ⟨li_C_116, c_C_isYear l, (fun h => by cases h)⟩ (fcC ⟨li_C_353, c_AL_isEmpty l, (fun h => by cases h)⟩ (fcC ⟨li_C_362, c_C_layBares l, (fun h => by cases h)⟩ (fcC ⟨li_C_365, c_C_bestHo l, (fun h => by cases h)⟩ fcN)))) x en h
  · exact fun x kd h => mLook_all (Q := fun x kd => (kd = 95 ∧ Cond.fieldLink "ClothWithMan" x "ClothWithMan" "LIKENESSES" "[I" ∈ lw_tbl) ∨ (kd = 96 ∧ Cond.fieldLink "ClothWithMan" x "ClothWithMan" "APART_BOUNDS" "[I" ∈ lw_tbl)) fcN x kd h
  · exact fun x ci h => mLook_all (Q := fun x ci => ci ≠ 0 ∧ ∃ (C : String) (T : u_T) (N : Nat), mCl[ci]? = some (C, T, N) ∧ Cond.classLink "ClothWithMan" x C ∈ lw_tbl ∧ Cond.instantiable C N ∈ lw_tbl) fcN x ci h
set_option maxRecDepth 100000 in
theorem c_C_where (l : Launch) : mCtr l E_C_where := mCtr_of (P := P_C_where) (own := "ClothWithMan") mLay_ok rfl (by decide +kernel) rfl (ok_C_where l) (fun h => by cases h) (fun as σ pr rv σ' hF hpr hlv => by
  unfold E_C_where S_C_where at hF
  simp only [] at hF
  split at hF
  · cases hF
    obtain ⟨n, pcF, c1, s1, g1, g2, g3, g4⟩ := mF_inv (d_C_where _ σ (hpr _ rfl))
    exact ⟨Nat.le_of_ble_eq_true rfl, (fun v h => by cases h; trivial), n, pcF, c1, s1, g1, ⟨mEnd_of (i := .ireturn) (P := P_C_where) (rets := [18, 88]) rfl g2, rfl⟩, g3, g4⟩
  · cases hF
    exact (hpr _ rfl).elim)

