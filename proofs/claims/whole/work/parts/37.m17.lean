/-! ClothWithManModel.where(I)I -/
noncomputable def t_M_where_28 (x1 : Int32) (c : Int32) (σ : MSto) (s : Int32 × Int32) : Int32 × Int32 := (if 4608 ≤ c then s else (if (s.1) < (v_M_partedAt (c / 192) ((c / 24) - (c / 24) / 8 * 8) ((c / 6) - (c / 6) / 4 * 4) (c - c / 6 * 6) x1 σ) then ((v_M_partedAt (c / 192) ((c / 24) - (c / 24) / 8 * 8) ((c / 6) - (c / 6) / 4 * 4) (c - c / 6 * 6) x1 σ), c) else ((s.1), (s.2))))
noncomputable def q_M_where_28s (x1 : Int32) (c : Int32) (σ : MSto) (s : Int32 × Int32) : Nat := (if 4608 ≤ c then 1 else (if (s.1) < (v_M_partedAt (c / 192) ((c / 24) - (c / 24) / 8 * 8) ((c / 6) - (c / 6) / 4 * 4) (c - c / 6 * 6) x1 σ) then 0 else 0))
def g_M_where_28 (x1 : Int32) (c : Int32) (σ : MSto) (s : Int32 × Int32) : Prop := (¬ (4608 ≤ c) → (p_M_partedAt (c / 192) ((c / 24) - (c / 24) / 8 * 8) ((c / 6) - (c / 6) / 4 * 4) (c - c / 6 * 6) x1 σ))
noncomputable def f_M_where_28 (x1 : Int32) (c0 : Int32) (σ : MSto) (s0 : Int32 × Int32) (n : Nat) : Int32 × Int32 := nfold (fun i s => t_M_where_28 x1 (c0 + nI i) σ s) s0 n
noncomputable def n_M_where_28 (x1 : Int32) (c0 : Int32) (σ : MSto) (s0 : Int32 × Int32) : Nat := 4608
noncomputable def v_M_where (a1 : Int32) (σ : MSto) : Int32 := (if (v_M_isYear a1 (sI σ 13 0 52 0)) = 0 then (-1) else (if (gI (sI σ 13 0 52 0) 13 0 17) = 0 then (-1) else ((f_M_where_28 a1 0 (sI σ 13 0 52 0) ((-1), 0) (n_M_where_28 a1 0 (sI σ 13 0 52 0) ((-1), 0))).1)))
def p_M_where (a1 : Int32) (σ : MSto) : Prop := (¬ ((v_M_isYear a1 (sI σ 13 0 52 0)) = 0) → (¬ ((gI (sI σ 13 0 52 0) 13 0 17) = 0) → ((∀ i, i < (n_M_where_28 a1 0 (sI σ 13 0 52 0) ((-1), 0)) → g_M_where_28 a1 (0 + nI i) (sI σ 13 0 52 0) (f_M_where_28 a1 0 (sI σ 13 0 52 0) ((-1), 0) i) ∧ ¬ q_M_where_28s a1 (0 + nI i) (sI σ 13 0 52 0) (f_M_where_28 a1 0 (sI σ 13 0 52 0) ((-1), 0) i) = 1) ∧ (((4608 ≤ (0 + nI (n_M_where_28 a1 0 (sI σ 13 0 52 0) ((-1), 0)))) → ((p_M_tell (Int32.toInt64 (((f_M_where_28 a1 0 (sI σ 13 0 52 0) ((-1), 0) (n_M_where_28 a1 0 (sI σ 13 0 52 0) ((-1), 0))).2) / 192)) (sI (sI σ 13 0 52 0) 13 0 51 0)) ∧ ((p_M_tell (Int32.toInt64 ((((f_M_where_28 a1 0 (sI σ 13 0 52 0) ((-1), 0) (n_M_where_28 a1 0 (sI σ 13 0 52 0) ((-1), 0))).2) / 24) - (((f_M_where_28 a1 0 (sI σ 13 0 52 0) ((-1), 0) (n_M_where_28 a1 0 (sI σ 13 0 52 0) ((-1), 0))).2) / 24) / 8 * 8)) (e_M_tell (Int32.toInt64 (((f_M_where_28 a1 0 (sI σ 13 0 52 0) ((-1), 0) (n_M_where_28 a1 0 (sI σ 13 0 52 0) ((-1), 0))).2) / 192)) (sI (sI σ 13 0 52 0) 13 0 51 0))) ∧ ((p_M_tell (Int32.toInt64 ((((f_M_where_28 a1 0 (sI σ 13 0 52 0) ((-1), 0) (n_M_where_28 a1 0 (sI σ 13 0 52 0) ((-1), 0))).2) / 6) - (((f_M_where_28 a1 0 (sI σ 13 0 52 0) ((-1), 0) (n_M_where_28 a1 0 (sI σ 13 0 52 0) ((-1), 0))).2) / 6) / 4 * 4)) (e_M_tell (Int32.toInt64 ((((f_M_where_28 a1 0 (sI σ 13 0 52 0) ((-1), 0) (n_M_where_28 a1 0 (sI σ 13 0 52 0) ((-1), 0))).2) / 24) - (((f_M_where_28 a1 0 (sI σ 13 0 52 0) ((-1), 0) (n_M_where_28 a1 0 (sI σ 13 0 52 0) ((-1), 0))).2) / 24) / 8 * 8)) (e_M_tell (Int32.toInt64 (((f_M_where_28 a1 0 (sI σ 13 0 52 0) ((-1), 0) (n_M_where_28 a1 0 (sI σ 13 0 52 0) ((-1), 0))).2) / 192)) (sI (sI σ 13 0 52 0) 13 0 51 0)))) ∧ (p_M_tell (Int32.toInt64 (((f_M_where_28 a1 0 (sI σ 13 0 52 0) ((-1), 0) (n_M_where_28 a1 0 (sI σ 13 0 52 0) ((-1), 0))).2) - ((f_M_where_28 a1 0 (sI σ 13 0 52 0) ((-1), 0) (n_M_where_28 a1 0 (sI σ 13 0 52 0) ((-1), 0))).2) / 6 * 6)) (e_M_tell (Int32.toInt64 ((((f_M_where_28 a1 0 (sI σ 13 0 52 0) ((-1), 0) (n_M_where_28 a1 0 (sI σ 13 0 52 0) ((-1), 0))).2) / 6) - (((f_M_where_28 a1 0 (sI σ 13 0 52 0) ((-1), 0) (n_M_where_28 a1 0 (sI σ 13 0 52 0) ((-1), 0))).2) / 6) / 4 * 4)) (e_M_tell (Int32.toInt64 ((((f_M_where_28 a1 0 (sI σ 13 0 52 0) ((-1), 0) (n_M_where_28 a1 0 (sI σ 13 0 52 0) ((-1), 0))).2) / 24) - (((f_M_where_28 a1 0 (sI σ 13 0 52 0) ((-1), 0) (n_M_where_28 a1 0 (sI σ 13 0 52 0) ((-1), 0))).2) / 24) / 8 * 8)) (e_M_tell (Int32.toInt64 (((f_M_where_28 a1 0 (sI σ 13 0 52 0) ((-1), 0) (n_M_where_28 a1 0 (sI σ 13 0 52 0) ((-1), 0))).2) / 192)) (sI (sI σ 13 0 52 0) 13 0 51 0))))))))) ∧ (¬ (4608 ≤ (0 + nI (n_M_where_28 a1 0 (sI σ 13 0 52 0) ((-1), 0)))) → False)))))
noncomputable def e_M_where (a1 : Int32) (σ : MSto) : MSto := (if (v_M_isYear a1 (sI σ 13 0 52 0)) = 0 then (sI σ 13 0 52 0) else (if (gI (sI σ 13 0 52 0) 13 0 17) = 0 then (sI σ 13 0 52 0) else (e_M_tell (Int32.toInt64 (((f_M_where_28 a1 0 (sI σ 13 0 52 0) ((-1), 0) (n_M_where_28 a1 0 (sI σ 13 0 52 0) ((-1), 0))).2) - ((f_M_where_28 a1 0 (sI σ 13 0 52 0) ((-1), 0) (n_M_where_28 a1 0 (sI σ 13 0 52 0) ((-1), 0))).2) / 6 * 6)) (e_M_tell (Int32.toInt64 ((((f_M_where_28 a1 0 (sI σ 13 0 52 0) ((-1), 0) (n_M_where_28 a1 0 (sI σ 13 0 52 0) ((-1), 0))).2) / 6) - (((f_M_where_28 a1 0 (sI σ 13 0 52 0) ((-1), 0) (n_M_where_28 a1 0 (sI σ 13 0 52 0) ((-1), 0))).2) / 6) / 4 * 4)) (e_M_tell (Int32.toInt64 ((((f_M_where_28 a1 0 (sI σ 13 0 52 0) ((-1), 0) (n_M_where_28 a1 0 (sI σ 13 0 52 0) ((-1), 0))).2) / 24) - (((f_M_where_28 a1 0 (sI σ 13 0 52 0) ((-1), 0) (n_M_where_28 a1 0 (sI σ 13 0 52 0) ((-1), 0))).2) / 24) / 8 * 8)) (e_M_tell (Int32.toInt64 (((f_M_where_28 a1 0 (sI σ 13 0 52 0) ((-1), 0) (n_M_where_28 a1 0 (sI σ 13 0 52 0) ((-1), 0))).2) / 192)) (sI (sI σ 13 0 52 0) 13 0 51 0)))))))
noncomputable def S_M_where : List MV → MSto → Option Prop × Option MV × MSto := fun as σ => match as with
  | [.inr (.inr (some (13, 0))), .inl a0] => (some (p_M_where a0 σ), some (mI (v_M_where a0 σ)), e_M_where a0 σ)
  | _ => (some False, none, σ)
noncomputable def E_M_where : MEnt := ((1, 1, 13), (5, 132, 0, 0), S_M_where, ((⟨"ClothWithManModel", "where", "(I)I"⟩ : MethodName), prog_14_method_90_code, 6, (some .int)))

def T_M_where : Nat → Option (Instr × Nat × List Nat) := fun k => bif Nat.blt k 139 then (bif Nat.blt k 71 then (bif Nat.blt k 36 then (bif Nat.blt k 20 then (bif Nat.blt k 9 then (bif Nat.blt k 2 then (bif Nat.blt k 1 then (bif Nat.beq k 0 then some (.aload_n 0, 1, []) else none) else (bif Nat.beq k 1 then some (.iconst 0, 2, []) else none)) else (bif Nat.blt k 5 then (bif Nat.beq k 2 then some (.putfield 161, 5, []) else none) else (bif Nat.blt k 6 then (bif Nat.beq k 5 then some (.iload_n 1, 6, []) else none) else (bif Nat.beq k 6 then some (.invokestatic 228, 9, []) else none)))) else (bif Nat.blt k 13 then (bif Nat.blt k 12 then (bif Nat.beq k 9 then some (.ifCond .eq 10, 12, [19]) else none) else (bif Nat.beq k 12 then some (.aload_n 0, 13, []) else none)) else (bif Nat.blt k 16 then (bif Nat.beq k 13 then some (.getfield 188, 16, []) else none) else (bif Nat.blt k 19 then (bif Nat.beq k 16 then some (.ifCond .ne 5, 19, [21]) else none) else (bif Nat.beq k 19 then some (.iconst (-1), 20, []) else none))))) else (bif Nat.blt k 25 then (bif Nat.blt k 22 then (bif Nat.blt k 21 then (bif Nat.beq k 20 then some (.ireturn, 21, []) else none) else (bif Nat.beq k 21 then some (.iconst (-1), 22, []) else none)) else (bif Nat.blt k 23 then (bif Nat.beq k 22 then some (.istore_n 2, 23, []) else none) else (bif Nat.blt k 24 then (bif Nat.beq k 23 then some (.iconst 0, 24, []) else none) else (bif Nat.beq k 24 then some (.istore_n 3, 25, []) else none)))) else (bif Nat.blt k 28 then (bif Nat.blt k 26 then (bif Nat.beq k 25 then some (.iconst 0, 26, []) else none) else (bif Nat.beq k 26 then some (.istore 4, 28, []) else none)) else (bif Nat.blt k 30 then (bif Nat.beq k 28 then some (.iload 4, 30, []) else none) else (bif Nat.blt k 33 then (bif Nat.beq k 30 then some (.sipush 4608, 33, []) else none) else (bif Nat.beq k 33 then some (.if_icmp .ge 57, 36, [90]) else none)))))) else (bif Nat.blt k 53 then (bif Nat.blt k 45 then (bif Nat.blt k 39 then (bif Nat.blt k 37 then (bif Nat.beq k 36 then some (.aload_n 0, 37, []) else none) else (bif Nat.beq k 37 then some (.iload 4, 39, []) else none)) else (bif Nat.blt k 42 then (bif Nat.beq k 39 then some (.sipush 192, 42, []) else none) else (bif Nat.blt k 43 then (bif Nat.beq k 42 then some (.idiv, 43, []) else none) else (bif Nat.beq k 43 then some (.iload 4, 45, []) else none)))) else (bif Nat.blt k 48 then (bif Nat.blt k 47 then (bif Nat.beq k 45 then some (.bipush 24, 47, []) else none) else (bif Nat.beq k 47 then some (.idiv, 48, []) else none)) else (bif Nat.blt k 50 then (bif Nat.beq k 48 then some (.bipush 8, 50, []) else none) else (bif Nat.blt k 51 then (bif Nat.beq k 50 then some (.irem, 51, []) else none) else (bif Nat.beq k 51 then some (.iload 4, 53, []) else none))))) else (bif Nat.blt k 60 then (bif Nat.blt k 56 then (bif Nat.blt k 55 then (bif Nat.beq k 53 then some (.bipush 6, 55, []) else none) else (bif Nat.beq k 55 then some (.idiv, 56, []) else none)) else (bif Nat.blt k 57 then (bif Nat.beq k 56 then some (.iconst 4, 57, []) else none) else (bif Nat.blt k 58 then (bif Nat.beq k 57 then some (.irem, 58, []) else none) else (bif Nat.beq k 58 then some (.iload 4, 60, []) else none)))) else (bif Nat.blt k 64 then (bif Nat.blt k 62 then (bif Nat.beq k 60 then some (.bipush 6, 62, []) else none) else (bif Nat.blt k 63 then (bif Nat.beq k 62 then some (.irem, 63, []) else none) else (bif Nat.beq k 63 then some (.iload_n 1, 64, []) else none))) else (bif Nat.blt k 67 then (bif Nat.beq k 64 then some (.invokevirtual 418, 67, []) else none) else (bif Nat.blt k 69 then (bif Nat.beq k 67 then some (.istore 5, 69, []) else none) else (bif Nat.beq k 69 then some (.iload 5, 71, []) else none))))))) else (bif Nat.blt k 109 then (bif Nat.blt k 91 then (bif Nat.blt k 81 then (bif Nat.blt k 75 then (bif Nat.blt k 72 then (bif Nat.beq k 71 then some (.iload_n 2, 72, []) else none) else (bif Nat.beq k 72 then some (.if_icmp .gt 6, 75, [78]) else none)) else (bif Nat.blt k 78 then (bif Nat.beq k 75 then some (.goto 9, 78, [84]) else none) else (bif Nat.blt k 80 then (bif Nat.beq k 78 then some (.iload 5, 80, []) else none) else (bif Nat.beq k 80 then some (.istore_n 2, 81, []) else none)))) else (bif Nat.blt k 84 then (bif Nat.blt k 83 then (bif Nat.beq k 81 then some (.iload 4, 83, []) else none) else (bif Nat.beq k 83 then some (.istore_n 3, 84, []) else none)) else (bif Nat.blt k 87 then (bif Nat.beq k 84 then some (.iinc 4 1, 87, []) else none) else (bif Nat.blt k 90 then (bif Nat.beq k 87 then some (.goto (-59), 90, [28]) else none) else (bif Nat.beq k 90 then some (.aload_n 0, 91, []) else none))))) else (bif Nat.blt k 100 then (bif Nat.blt k 95 then (bif Nat.blt k 92 then (bif Nat.beq k 91 then some (.iconst 0, 92, []) else none) else (bif Nat.beq k 92 then some (.putfield 164, 95, []) else none)) else (bif Nat.blt k 96 then (bif Nat.beq k 95 then some (.aload_n 0, 96, []) else none) else (bif Nat.blt k 97 then (bif Nat.beq k 96 then some (.iload_n 3, 97, []) else none) else (bif Nat.beq k 97 then some (.sipush 192, 100, []) else none)))) else (bif Nat.blt k 105 then (bif Nat.blt k 101 then (bif Nat.beq k 100 then some (.idiv, 101, []) else none) else (bif Nat.blt k 102 then (bif Nat.beq k 101 then some (.i2l, 102, []) else none) else (bif Nat.beq k 102 then some (.invokevirtual 177, 105, []) else none))) else (bif Nat.blt k 106 then (bif Nat.beq k 105 then some (.aload_n 0, 106, []) else none) else (bif Nat.blt k 107 then (bif Nat.beq k 106 then some (.iload_n 3, 107, []) else none) else (bif Nat.beq k 107 then some (.bipush 24, 109, []) else none)))))) else (bif Nat.blt k 123 then (bif Nat.blt k 117 then (bif Nat.blt k 112 then (bif Nat.blt k 110 then (bif Nat.beq k 109 then some (.idiv, 110, []) else none) else (bif Nat.beq k 110 then some (.bipush 8, 112, []) else none)) else (bif Nat.blt k 113 then (bif Nat.beq k 112 then some (.irem, 113, []) else none) else (bif Nat.blt k 114 then (bif Nat.beq k 113 then some (.i2l, 114, []) else none) else (bif Nat.beq k 114 then some (.invokevirtual 177, 117, []) else none)))) else (bif Nat.blt k 119 then (bif Nat.blt k 118 then (bif Nat.beq k 117 then some (.aload_n 0, 118, []) else none) else (bif Nat.beq k 118 then some (.iload_n 3, 119, []) else none)) else (bif Nat.blt k 121 then (bif Nat.beq k 119 then some (.bipush 6, 121, []) else none) else (bif Nat.blt k 122 then (bif Nat.beq k 121 then some (.idiv, 122, []) else none) else (bif Nat.beq k 122 then some (.iconst 4, 123, []) else none))))) else (bif Nat.blt k 130 then (bif Nat.blt k 125 then (bif Nat.blt k 124 then (bif Nat.beq k 123 then some (.irem, 124, []) else none) else (bif Nat.beq k 124 then some (.i2l, 125, []) else none)) else (bif Nat.blt k 128 then (bif Nat.beq k 125 then some (.invokevirtual 177, 128, []) else none) else (bif Nat.blt k 129 then (bif Nat.beq k 128 then some (.aload_n 0, 129, []) else none) else (bif Nat.beq k 129 then some (.iload_n 3, 130, []) else none)))) else (bif Nat.blt k 134 then (bif Nat.blt k 132 then (bif Nat.beq k 130 then some (.bipush 6, 132, []) else none) else (bif Nat.blt k 133 then (bif Nat.beq k 132 then some (.irem, 133, []) else none) else (bif Nat.beq k 133 then some (.i2l, 134, []) else none))) else (bif Nat.blt k 137 then (bif Nat.beq k 134 then some (.invokevirtual 177, 137, []) else none) else (bif Nat.blt k 138 then (bif Nat.beq k 137 then some (.iload_n 2, 138, []) else none) else (bif Nat.beq k 138 then some (.ireturn, 139, []) else none)))))))) else none
noncomputable def P_M_where : MP := (T_M_where, (fun k => mLook k [(161, (13, 52, .int, false)), (164, (13, 51, .int, false)), (188, (13, 17, .int, false))]), (fun k => mLook k []), (fun k => mLook k [(177, E_M_tell), (228, E_M_isYear), (418, E_M_partedAt)]), (fun k => mLook k []), (fun k => mLook k []), (fun k => mLook k []), (fun k => mLook k [(28, [true, true, true, true, true, false])]), (fun k => [20, 138].any (Nat.beq k)), (5, 132, 0, 0), false, (fun _ => none))
set_option maxRecDepth 100000 in
set_option maxHeartbeats 4000000 in
theorem q_M_where_e (a1 : Int32) (σ : MSto) (n : Nat) : mexe KT P_M_where (n + 1) (0, [some (mR 13 0), some (mI a1), none, none, none, none], [], σ, 0, 0) = (if (v_M_isYear a1 (sI σ 13 0 52 0)) = 0 then some (20, [], [(mI (-1))], (sI σ 13 0 52 0), 0, 0) else (if (gI (sI σ 13 0 52 0) 13 0 17) = 0 then some (20, [], [(mI (-1))], (sI σ 13 0 52 0), 0, 0) else mexe KT P_M_where n (28, [some (mR 13 0), some (mI a1), some (mI (-1)), some (mI 0), some (mI 0), none], [], (sI σ 13 0 52 0), 0, 0))) := rfl
set_option maxRecDepth 100000 in
set_option maxHeartbeats 4000000 in
theorem q_M_where_28 (x1 : Int32) (x2 : Int32) (x3 : Int32) (x4 : Int32) (σ : MSto) (n : Nat) : mexe KT P_M_where (n + 1) (28, [some (mR 13 0), some (mI x1), some (mI x2), some (mI x3), some (mI x4), none], [], σ, 0, 0) = (if 4608 ≤ x4 then mG (¬ (192 : Int32) = 0) (mG (p_M_tell (Int32.toInt64 (x3 / 192)) (sI σ 13 0 51 0)) (mG (¬ (24 : Int32) = 0) (mG (¬ (8 : Int32) = 0) (mG (p_M_tell (Int32.toInt64 ((x3 / 24) - (x3 / 24) / 8 * 8)) (e_M_tell (Int32.toInt64 (x3 / 192)) (sI σ 13 0 51 0))) (mG (¬ (6 : Int32) = 0) (mG (¬ (4 : Int32) = 0) (mG (p_M_tell (Int32.toInt64 ((x3 / 6) - (x3 / 6) / 4 * 4)) (e_M_tell (Int32.toInt64 ((x3 / 24) - (x3 / 24) / 8 * 8)) (e_M_tell (Int32.toInt64 (x3 / 192)) (sI σ 13 0 51 0)))) (mG (¬ (6 : Int32) = 0) (mG (p_M_tell (Int32.toInt64 (x3 - x3 / 6 * 6)) (e_M_tell (Int32.toInt64 ((x3 / 6) - (x3 / 6) / 4 * 4)) (e_M_tell (Int32.toInt64 ((x3 / 24) - (x3 / 24) / 8 * 8)) (e_M_tell (Int32.toInt64 (x3 / 192)) (sI σ 13 0 51 0))))) (some (138, [], [(mI x2)], (e_M_tell (Int32.toInt64 (x3 - x3 / 6 * 6)) (e_M_tell (Int32.toInt64 ((x3 / 6) - (x3 / 6) / 4 * 4)) (e_M_tell (Int32.toInt64 ((x3 / 24) - (x3 / 24) / 8 * 8)) (e_M_tell (Int32.toInt64 (x3 / 192)) (sI σ 13 0 51 0))))), 0, 0))))))))))) else mG (¬ (192 : Int32) = 0) (mG (¬ (24 : Int32) = 0) (mG (¬ (8 : Int32) = 0) (mG (¬ (6 : Int32) = 0) (mG (¬ (4 : Int32) = 0) (mG (¬ (6 : Int32) = 0) (mG (p_M_partedAt (x4 / 192) ((x4 / 24) - (x4 / 24) / 8 * 8) ((x4 / 6) - (x4 / 6) / 4 * 4) (x4 - x4 / 6 * 6) x1 σ) ((if x2 < (v_M_partedAt (x4 / 192) ((x4 / 24) - (x4 / 24) / 8 * 8) ((x4 / 6) - (x4 / 6) / 4 * 4) (x4 - x4 / 6 * 6) x1 σ) then mexe KT P_M_where n (28, [some (mR 13 0), some (mI x1), some (mI (v_M_partedAt (x4 / 192) ((x4 / 24) - (x4 / 24) / 8 * 8) ((x4 / 6) - (x4 / 6) / 4 * 4) (x4 - x4 / 6 * 6) x1 σ)), some (mI x4), some (mI (x4 + 1)), none], [], σ, 0, 0) else mexe KT P_M_where n (28, [some (mR 13 0), some (mI x1), some (mI x2), some (mI x3), some (mI (x4 + 1)), none], [], σ, 0, 0)))))))))) := rfl
set_option maxRecDepth 100000 in
theorem lp_M_where_28 {Post : MST → Prop} (x1 : Int32) (c0 : Int32) (σ : MSto) (s0 : Int32 × Int32) (N : Nat) (hb : ∀ i, i < N → g_M_where_28 x1 (c0 + nI i) σ (f_M_where_28 x1 c0 σ s0 i) ∧ ¬ q_M_where_28s x1 (c0 + nI i) σ (f_M_where_28 x1 c0 σ s0 i) = 1) (h : mW1 P_M_where (28, [some (mR 13 0), some (mI x1), some (mI ((f_M_where_28 x1 c0 σ s0 N).1)), some (mI ((f_M_where_28 x1 c0 σ s0 N).2)), some (mI (c0 + nI N)), none], [], σ, 0, 0) Post) : mW1 P_M_where (28, [some (mR 13 0), some (mI x1), some (mI (s0.1)), some (mI (s0.2)), some (mI c0), none], [], σ, 0, 0) Post := by
  refine mW1_st (mW1_loop (fun i => (28, [some (mR 13 0), some (mI x1), some (mI ((f_M_where_28 x1 c0 σ s0 i).1)), some (mI ((f_M_where_28 x1 c0 σ s0 i).2)), some (mI (c0 + nI i)), none], [], σ, 0, 0)) N (fun i hlt hn => ?_) h) (by rw [show nI 0 = 0 from rfl, Int32.add_zero] <;> rfl)
  obtain ⟨hp, hq⟩ := hb i hlt
  have hn : mW1 P_M_where (28, [some (mR 13 0), some (mI x1), some (mI ((t_M_where_28 x1 (c0 + nI i) σ (f_M_where_28 x1 c0 σ s0 i)).1)), some (mI ((t_M_where_28 x1 (c0 + nI i) σ (f_M_where_28 x1 c0 σ s0 i)).2)), some (mI (c0 + nI i + 1)), none], [], σ, 0, 0) Post := by
    rw [Int32.add_assoc, nI_s]
    exact hn
  try dsimp only
  generalize (f_M_where_28 x1 c0 σ s0 i) = s at *
  generalize c0 + nI i = c at *
  clear hb h hlt
  unfold g_M_where_28 at hp
  refine mW1_eq (q_M_where_28 _ _ _ _ _) ?_
  refine mTr_if (fun h0 => ?_) (fun h0 => ?_)
  · skip
    exact absurd (by unfold q_M_where_28s; first | (rw [if_pos h0]; done) | (rw [if_pos h0]; rfl)) hq
  · skip
    have hp := hp h0
    refine mTr_g (by decide) ?_
    refine mTr_g (by decide) ?_
    refine mTr_g (by decide) ?_
    refine mTr_g (by decide) ?_
    refine mTr_g (by decide) ?_
    refine mTr_g (by decide) ?_
    refine mTr_g hp ?_
    refine mTr_if (fun h1 => ?_) (fun h1 => ?_)
    · skip
      have e : t_M_where_28 x1 c σ s = ((v_M_partedAt (c / 192) ((c / 24) - (c / 24) / 8 * 8) ((c / 6) - (c / 6) / 4 * 4) (c - c / 6 * 6) x1 σ), c) := (by unfold t_M_where_28; first | (rw [if_neg h0, if_pos h1]; done) | (rw [if_neg h0, if_pos h1]; rfl))
      rw [e] at hn
      exact mTr_k hn
    · skip
      have e : t_M_where_28 x1 c σ s = ((s.1), (s.2)) := (by unfold t_M_where_28; first | (rw [if_neg h0, if_neg h1]; done) | (rw [if_neg h0, if_neg h1]; rfl))
      rw [e] at hn
      exact mTr_k hn
set_option maxRecDepth 100000 in
set_option maxHeartbeats 4000000 in
theorem d_M_where (a1 : Int32) (σ : MSto) (hp : p_M_where a1 σ) : mW1 P_M_where (0, [some (mR 13 0), some (mI a1), none, none, none, none], [], σ, 0, 0) (mF [20, 138] [mI (v_M_where a1 σ)] (e_M_where a1 σ) 0 0) := by
  refine mW1_eq (q_M_where_e _ _) ?_
  unfold p_M_where at hp
  refine mTr_if (fun h0 => ?_) (fun h0 => ?_)
  · skip
    exact mTr_e (by decide) (by unfold v_M_where; first | (rw [if_pos h0]; done) | (rw [if_pos h0]; rfl)) (by unfold e_M_where; first | (rw [if_pos h0]; done) | (rw [if_pos h0]; rfl)) (by decide) (by decide)
  · skip
    have hp := hp h0
    refine mTr_if (fun h1 => ?_) (fun h1 => ?_)
    · skip
      exact mTr_e (by decide) (by unfold v_M_where; first | (rw [if_neg h0, if_pos h1]; done) | (rw [if_neg h0, if_pos h1]; rfl)) (by unfold e_M_where; first | (rw [if_neg h0, if_pos h1]; done) | (rw [if_neg h0, if_pos h1]; rfl)) (by decide) (by decide)
    · skip
      have hp := hp h1
      refine mTr_k (lp_M_where_28 a1 0 (sI σ 13 0 52 0) ((-1), 0) (n_M_where_28 a1 0 (sI σ 13 0 52 0) ((-1), 0)) hp.1 ?_)
      have hp := hp.2
      refine mW1_eq (q_M_where_28 _ _ _ _ _) ?_
      refine mTr_if (fun h2 => ?_) (fun h2 => ?_)
      · skip
        have hp := hp.1 h2
        refine mTr_g (by decide) ?_
        refine mTr_g hp.1 ?_
        have hp := hp.2
        refine mTr_g (by decide) ?_
        refine mTr_g (by decide) ?_
        refine mTr_g hp.1 ?_
        have hp := hp.2
        refine mTr_g (by decide) ?_
        refine mTr_g (by decide) ?_
        refine mTr_g hp.1 ?_
        have hp := hp.2
        refine mTr_g (by decide) ?_
        refine mTr_g hp ?_
        exact mTr_e (by decide) (by unfold v_M_where; first | (rw [if_neg h0, if_neg h1]; done) | (rw [if_neg h0, if_neg h1]; rfl)) (by unfold e_M_where; first | (rw [if_neg h0, if_neg h1]; done) | (rw [if_neg h0, if_neg h1]; rfl)) (by decide) (by decide)
      · skip
        have hp := hp.2 h2
        exact hp.elim



theorem tk_M_where : ∀ pc i nx tg, T_M_where pc = some (i, nx, tg) → mOkB prog_14_method_90_code pc i nx tg = true := code_ok (N := 139) (fun k h => by unfold T_M_where; rw [h]; rfl) (by decide +kernel)
theorem ok_M_where (l : Launch) : mPOK l "ClothWithManModel" prog_14_method_90_code P_M_where := by
  refine ⟨tk_M_where, ?_, ?_, ?_, (fun pc i nx tg kd _ h => by cases h), ?_, ?_, fun pc en h => by cases h⟩
  · intro x ci f ty fin h
    exact mLook_all (Q := fun x v => mFOK "ClothWithManModel" x v.1 v.2.1 v.2.2.1 v.2.2.2 ∧ (v.2.2.2 = true → pIni P_M_where = true → (Cond.fieldLink "ClothWithManModel" x (((mCl[v.1]?).getD ("", fun _ => ("", "", "", false), 0)).2.1 v.2.1).1 (((mCl[v.1]?).getD ("", fun _ => ("", "", "", false), 0)).2.1 v.2.1).2.1 (((mCl[v.1]?).getD ("", fun _ => ("", "", "", false), 0)).2.1 v.2.1).2.2.1 ∈ lw_tbl ∧ (((mCl[v.1]?).getD ("", fun _ => ("", "", "", false), 0)).2.1 v.2.1).1 = "ClothWithManModel"))) (fcC ⟨fo_M_161, fun h1 h2 => by cases h1⟩ (fcC ⟨fo_M_164, fun h1 h2 => by cases h1⟩ (fcC ⟨fo_M_188, fun h1 h2 => by cases h1⟩ fcN))) x (ci, f, ty, fin) h
  · intro x
    have hh := mLook_all (l := ([] : List (Nat × (Int32 ⊕ Int64)))) (Q := fun x (v : Int32 ⊕ Int64) => (∀ w, v = .inl w → Cond.constant "ClothWithManModel" x w ∈ lw_tbl) ∧ (∀ w, v = .inr w → Cond.constantLong "ClothWithManModel" x w ∈ lw_tbl)) fcN x
    exact ⟨fun w h => (hh _ h).1 w rfl, fun w h => (hh _ h).2 w rfl⟩
  · exact fun x en h => mLook_all (Q := fun x en => mLink "ClothWithManModel" x en ∧ mCtr l en ∧ (en.1.1 = 2 → en.2.2.2.2.2.2 = none)) (fcC ⟨li_M_177, c_M_tell l, (fun h => by cases h)⟩ (fcC ⟨li_M_228, c_M_isYear l, (fun h => by cases h)⟩ (fcC ⟨li_M_418, c_M_partedAt l, (fun h => by cases h)⟩ fcN))) x en h
  · exact fun x kd h => mLook_all (Q := fun x kd => (kd = 95 ∧ Cond.fieldLink "ClothWithManModel" x "ClothWithMan" "LIKENESSES" "[I" ∈ lw_tbl) ∨ (kd = 96 ∧ Cond.fieldLink "ClothWithManModel" x "ClothWithMan" "APART_BOUNDS" "[I" ∈ lw_tbl)) fcN x kd h
  · exact fun x ci h => mLook_all (Q := fun x ci => ci ≠ 0 ∧ ∃ (C : String) (T : u_T) (N : Nat), mCl[ci]? = some (C, T, N) ∧ Cond.classLink "ClothWithManModel" x C ∈ lw_tbl ∧ Cond.castable C C ∈ lw_tbl) fcN x ci h
set_option maxRecDepth 100000 in
theorem c_M_where (l : Launch) : mCtr l E_M_where := mCtr_of (P := P_M_where) (own := "ClothWithManModel") mLay_ok rfl (by decide +kernel) rfl (ok_M_where l) (fun h => by cases h) (fun as σ pr rv σ' hF hpr hlv => by
  unfold E_M_where S_M_where at hF
  simp only [] at hF
  split at hF
  · cases hF
    obtain ⟨n, pcF, c1, s1, g1, g2, g3, g4⟩ := mF_inv (d_M_where _ σ (hpr _ rfl))
    exact ⟨Nat.le_of_ble_eq_true rfl, (fun v h => by cases h; trivial), n, pcF, c1, s1, g1, ⟨mEnd_of (i := .ireturn) (P := P_M_where) (rets := [20, 138]) rfl g2, rfl⟩, g3, g4⟩
  · cases hF
    exact (hpr _ rfl).elim)
/-! ClothWithManModel.choose(II)J -/
noncomputable def t_M_choose_16 (x0 : Int32) (x1 : Int32) (c : Int32) (σ : MSto) (s : Int64) : Int64 := (if x1 < c then s else ((s * (Int32.toInt64 ((x0 - x1) + c))) / (Int32.toInt64 c)))
noncomputable def q_M_choose_16s (x0 : Int32) (x1 : Int32) (c : Int32) (σ : MSto) (s : Int64) : Nat := (if x1 < c then 1 else 0)
def g_M_choose_16 (x0 : Int32) (x1 : Int32) (c : Int32) (σ : MSto) (s : Int64) : Prop := (¬ (x1 < c) → (¬ ((Int32.toInt64 c) : Int64) = 0))
noncomputable def f_M_choose_16 (x0 : Int32) (x1 : Int32) (c0 : Int32) (σ : MSto) (s0 : Int64) (n : Nat) : Int64 := nfold (fun i s => t_M_choose_16 x0 x1 (c0 + nI i) σ s) s0 n
noncomputable def n_M_choose_16 (x0 : Int32) (x1 : Int32) (c0 : Int32) (σ : MSto) (s0 : Int64) : Nat := x1.toNatClampNeg
noncomputable def v_M_choose (a0 : Int32) (a1 : Int32) (σ : MSto) : Int64 := (if (v_M_in a1 0 a0 σ) = 0 then 0 else (f_M_choose_16 a0 a1 1 σ 1 (n_M_choose_16 a0 a1 1 σ 1)))
def p_M_choose (a0 : Int32) (a1 : Int32) (σ : MSto) : Prop := (¬ ((v_M_in a1 0 a0 σ) = 0) → ((∀ i, i < (n_M_choose_16 a0 a1 1 σ 1) → g_M_choose_16 a0 a1 (1 + nI i) σ (f_M_choose_16 a0 a1 1 σ 1 i) ∧ ¬ q_M_choose_16s a0 a1 (1 + nI i) σ (f_M_choose_16 a0 a1 1 σ 1 i) = 1) ∧ (¬ (a1 < (1 + nI (n_M_choose_16 a0 a1 1 σ 1))) → False)))
noncomputable def S_M_choose : List MV → MSto → Option Prop × Option MV × MSto := fun as σ => match as with
  | [.inl a0, .inl a1] => (some (p_M_choose a0 a1 σ), some (mJ (v_M_choose a0 a1 σ)), σ)
  | _ => (some False, none, σ)
noncomputable def E_M_choose : MEnt := ((0, 2, 13), (1, 22, 0, 0), S_M_choose, ((⟨"ClothWithManModel", "choose", "(II)J"⟩ : MethodName), prog_14_method_92_code, 5, (some .long)))

def T_M_choose : Nat → Option (Instr × Nat × List Nat) := fun k => bif Nat.blt k 44 then (bif Nat.blt k 23 then (bif Nat.blt k 11 then (bif Nat.blt k 3 then (bif Nat.blt k 1 then (bif Nat.beq k 0 then some (.iload_n 1, 1, []) else none) else (bif Nat.blt k 2 then (bif Nat.beq k 1 then some (.iconst 0, 2, []) else none) else (bif Nat.beq k 2 then some (.iload_n 0, 3, []) else none))) else (bif Nat.blt k 9 then (bif Nat.blt k 6 then (bif Nat.beq k 3 then some (.invokestatic 181, 6, []) else none) else (bif Nat.beq k 6 then some (.ifCond .ne 5, 9, [11]) else none)) else (bif Nat.blt k 10 then (bif Nat.beq k 9 then some (.lconst 0, 10, []) else none) else (bif Nat.beq k 10 then some (.lreturn, 11, []) else none)))) else (bif Nat.blt k 16 then (bif Nat.blt k 13 then (bif Nat.blt k 12 then (bif Nat.beq k 11 then some (.lconst 1, 12, []) else none) else (bif Nat.beq k 12 then some (.lstore_n 2, 13, []) else none)) else (bif Nat.blt k 14 then (bif Nat.beq k 13 then some (.iconst 1, 14, []) else none) else (bif Nat.beq k 14 then some (.istore 4, 16, []) else none))) else (bif Nat.blt k 19 then (bif Nat.blt k 18 then (bif Nat.beq k 16 then some (.iload 4, 18, []) else none) else (bif Nat.beq k 18 then some (.iload_n 1, 19, []) else none)) else (bif Nat.blt k 22 then (bif Nat.beq k 19 then some (.if_icmp .gt 23, 22, [42]) else none) else (bif Nat.beq k 22 then some (.lload_n 2, 23, []) else none))))) else (bif Nat.blt k 31 then (bif Nat.blt k 26 then (bif Nat.blt k 24 then (bif Nat.beq k 23 then some (.iload_n 0, 24, []) else none) else (bif Nat.blt k 25 then (bif Nat.beq k 24 then some (.iload_n 1, 25, []) else none) else (bif Nat.beq k 25 then some (.isub, 26, []) else none))) else (bif Nat.blt k 29 then (bif Nat.blt k 28 then (bif Nat.beq k 26 then some (.iload 4, 28, []) else none) else (bif Nat.beq k 28 then some (.iadd, 29, []) else none)) else (bif Nat.blt k 30 then (bif Nat.beq k 29 then some (.i2l, 30, []) else none) else (bif Nat.beq k 30 then some (.lmul, 31, []) else none)))) else (bif Nat.blt k 36 then (bif Nat.blt k 34 then (bif Nat.blt k 33 then (bif Nat.beq k 31 then some (.iload 4, 33, []) else none) else (bif Nat.beq k 33 then some (.i2l, 34, []) else none)) else (bif Nat.blt k 35 then (bif Nat.beq k 34 then some (.ldiv, 35, []) else none) else (bif Nat.beq k 35 then some (.lstore_n 2, 36, []) else none))) else (bif Nat.blt k 42 then (bif Nat.blt k 39 then (bif Nat.beq k 36 then some (.iinc 4 1, 39, []) else none) else (bif Nat.beq k 39 then some (.goto (-23), 42, [16]) else none)) else (bif Nat.blt k 43 then (bif Nat.beq k 42 then some (.lload_n 2, 43, []) else none) else (bif Nat.beq k 43 then some (.lreturn, 44, []) else none)))))) else none
noncomputable def P_M_choose : MP := (T_M_choose, (fun k => mLook k []), (fun k => mLook k []), (fun k => mLook k [(181, E_M_in)]), (fun k => mLook k []), (fun k => mLook k []), (fun k => mLook k []), (fun k => mLook k [(16, [true, true, true, false, true])]), (fun k => [10, 43].any (Nat.beq k)), (1, 22, 0, 0), false, (fun _ => none))
set_option maxRecDepth 100000 in
set_option maxHeartbeats 4000000 in
theorem q_M_choose_e (a0 : Int32) (a1 : Int32) (σ : MSto) (n : Nat) : mexe KT P_M_choose (n + 1) (0, [some (mI a0), some (mI a1), none, none, none], [], σ, 0, 0) = (if (v_M_in a1 0 a0 σ) = 0 then some (10, [], [(mJ 0)], σ, 0, 0) else mexe KT P_M_choose n (16, [some (mI a0), some (mI a1), some (mJ 1), none, some (mI 1)], [], σ, 0, 0)) := rfl
set_option maxRecDepth 100000 in
set_option maxHeartbeats 4000000 in
theorem q_M_choose_16 (x0 : Int32) (x1 : Int32) (x2 : Int64) (x4 : Int32) (σ : MSto) (n : Nat) : mexe KT P_M_choose (n + 1) (16, [some (mI x0), some (mI x1), some (mJ x2), none, some (mI x4)], [], σ, 0, 0) = (if x1 < x4 then some (43, [], [(mJ x2)], σ, 0, 0) else mG (¬ ((Int32.toInt64 x4) : Int64) = 0) (mexe KT P_M_choose n (16, [some (mI x0), some (mI x1), some (mJ ((x2 * (Int32.toInt64 ((x0 - x1) + x4))) / (Int32.toInt64 x4))), none, some (mI (x4 + 1))], [], σ, 0, 0))) := rfl
set_option maxRecDepth 100000 in
theorem lp_M_choose_16 {Post : MST → Prop} (x0 : Int32) (x1 : Int32) (c0 : Int32) (σ : MSto) (s0 : Int64) (N : Nat) (hb : ∀ i, i < N → g_M_choose_16 x0 x1 (c0 + nI i) σ (f_M_choose_16 x0 x1 c0 σ s0 i) ∧ ¬ q_M_choose_16s x0 x1 (c0 + nI i) σ (f_M_choose_16 x0 x1 c0 σ s0 i) = 1) (h : mW1 P_M_choose (16, [some (mI x0), some (mI x1), some (mJ (f_M_choose_16 x0 x1 c0 σ s0 N)), none, some (mI (c0 + nI N))], [], σ, 0, 0) Post) : mW1 P_M_choose (16, [some (mI x0), some (mI x1), some (mJ s0), none, some (mI c0)], [], σ, 0, 0) Post := by
  refine mW1_st (mW1_loop (fun i => (16, [some (mI x0), some (mI x1), some (mJ (f_M_choose_16 x0 x1 c0 σ s0 i)), none, some (mI (c0 + nI i))], [], σ, 0, 0)) N (fun i hlt hn => ?_) h) (by rw [show nI 0 = 0 from rfl, Int32.add_zero] <;> rfl)
  obtain ⟨hp, hq⟩ := hb i hlt
  have hn : mW1 P_M_choose (16, [some (mI x0), some (mI x1), some (mJ (t_M_choose_16 x0 x1 (c0 + nI i) σ (f_M_choose_16 x0 x1 c0 σ s0 i))), none, some (mI (c0 + nI i + 1))], [], σ, 0, 0) Post := by
    rw [Int32.add_assoc, nI_s]
    exact hn
  try dsimp only
  generalize (f_M_choose_16 x0 x1 c0 σ s0 i) = s at *
  generalize c0 + nI i = c at *
  clear hb h hlt
  unfold g_M_choose_16 at hp
  refine mW1_eq (q_M_choose_16 _ _ _ _ _) ?_
  refine mTr_if (fun h0 => ?_) (fun h0 => ?_)
  · skip
    exact absurd (by unfold q_M_choose_16s; first | (rw [if_pos h0]; done) | (rw [if_pos h0]; rfl)) hq
  · skip
    have hp := hp h0
    refine mTr_g hp ?_
    have e : t_M_choose_16 x0 x1 c σ s = ((s * (Int32.toInt64 ((x0 - x1) + c))) / (Int32.toInt64 c)) := (by unfold t_M_choose_16; first | (rw [if_neg h0]; done) | (rw [if_neg h0]; rfl))
    rw [e] at hn
    exact mTr_k hn
set_option maxRecDepth 100000 in
set_option maxHeartbeats 4000000 in
theorem d_M_choose (a0 : Int32) (a1 : Int32) (σ : MSto) (hp : p_M_choose a0 a1 σ) : mW1 P_M_choose (0, [some (mI a0), some (mI a1), none, none, none], [], σ, 0, 0) (mF [10, 43] [mJ (v_M_choose a0 a1 σ)] σ 0 0) := by
  refine mW1_eq (q_M_choose_e _ _ _) ?_
  unfold p_M_choose at hp
  refine mTr_if (fun h0 => ?_) (fun h0 => ?_)
  · skip
    exact mTr_e (by decide) (by unfold v_M_choose; first | (rw [if_pos h0]; done) | (rw [if_pos h0]; rfl)) rfl (by decide) (by decide)
  · skip
    have hp := hp h0
    refine mTr_k (lp_M_choose_16 a0 a1 1 σ 1 (n_M_choose_16 a0 a1 1 σ 1) hp.1 ?_)
    have hp := hp.2
    refine mW1_eq (q_M_choose_16 _ _ _ _ _) ?_
    refine mTr_if (fun h1 => ?_) (fun h1 => ?_)
    · skip
      exact mTr_e (by decide) (by unfold v_M_choose; first | (rw [if_neg h0]; done) | (rw [if_neg h0]; rfl)) rfl (by decide) (by decide)
    · skip
      have hp := hp h1
      exact hp.elim

theorem tk_M_choose : ∀ pc i nx tg, T_M_choose pc = some (i, nx, tg) → mOkB prog_14_method_92_code pc i nx tg = true := code_ok (N := 44) (fun k h => by unfold T_M_choose; rw [h]; rfl) (by decide +kernel)
theorem ok_M_choose (l : Launch) : mPOK l "ClothWithManModel" prog_14_method_92_code P_M_choose := by
  refine ⟨tk_M_choose, ?_, ?_, ?_, (fun pc i nx tg kd _ h => by cases h), ?_, ?_, fun pc en h => by cases h⟩
  · intro x ci f ty fin h
    exact mLook_all (Q := fun x v => mFOK "ClothWithManModel" x v.1 v.2.1 v.2.2.1 v.2.2.2 ∧ (v.2.2.2 = true → pIni P_M_choose = true → (Cond.fieldLink "ClothWithManModel" x (((mCl[v.1]?).getD ("", fun _ => ("", "", "", false), 0)).2.1 v.2.1).1 (((mCl[v.1]?).getD ("", fun _ => ("", "", "", false), 0)).2.1 v.2.1).2.1 (((mCl[v.1]?).getD ("", fun _ => ("", "", "", false), 0)).2.1 v.2.1).2.2.1 ∈ lw_tbl ∧ (((mCl[v.1]?).getD ("", fun _ => ("", "", "", false), 0)).2.1 v.2.1).1 = "ClothWithManModel"))) fcN x (ci, f, ty, fin) h
  · intro x
    have hh := mLook_all (l := ([] : List (Nat × (Int32 ⊕ Int64)))) (Q := fun x (v : Int32 ⊕ Int64) => (∀ w, v = .inl w → Cond.constant "ClothWithManModel" x w ∈ lw_tbl) ∧ (∀ w, v = .inr w → Cond.constantLong "ClothWithManModel" x w ∈ lw_tbl)) fcN x
    exact ⟨fun w h => (hh _ h).1 w rfl, fun w h => (hh _ h).2 w rfl⟩
  · exact fun x en h => mLook_all (Q := fun x en => mLink "ClothWithManModel" x en ∧ mCtr l en ∧ (en.1.1 = 2 → en.2.2.2.2.2.2 = none)) (fcC ⟨li_M_181, c_M_in l, (fun h => by cases h)⟩ fcN) x en h
  · exact fun x kd h => mLook_all (Q := fun x kd => (kd = 95 ∧ Cond.fieldLink "ClothWithManModel" x "ClothWithMan" "LIKENESSES" "[I" ∈ lw_tbl) ∨ (kd = 96 ∧ Cond.fieldLink "ClothWithManModel" x "ClothWithMan" "APART_BOUNDS" "[I" ∈ lw_tbl)) fcN x kd h
  · exact fun x ci h => mLook_all (Q := fun x ci => ci ≠ 0 ∧ ∃ (C : String) (T : u_T) (N : Nat), mCl[ci]? = some (C, T, N) ∧ Cond.classLink "ClothWithManModel" x C ∈ lw_tbl ∧ Cond.castable C C ∈ lw_tbl) fcN x ci h
set_option maxRecDepth 100000 in
theorem c_M_choose (l : Launch) : mCtr l E_M_choose := mCtr_of (P := P_M_choose) (own := "ClothWithManModel") mLay_ok rfl (by decide +kernel) rfl (ok_M_choose l) (fun h => by cases h) (fun as σ pr rv σ' hF hpr hlv => by
  unfold E_M_choose S_M_choose at hF
  simp only [] at hF
  split at hF
  · cases hF
    obtain ⟨n, pcF, c1, s1, g1, g2, g3, g4⟩ := mF_inv (d_M_choose _ _ σ (hpr _ rfl))
    exact ⟨Nat.le_of_ble_eq_true rfl, (fun v h => by cases h; trivial), n, pcF, c1, s1, g1, mEnd_of (i := .lreturn) (P := P_M_choose) (rets := [10, 43]) rfl g2, g3, g4⟩
  · cases hF
    exact (hpr _ rfl).elim)
/-! ClothWithManModel.knew(II)I -/
noncomputable def t_M_knew_33 (x1 : Int32) (x2 : Int32) (c : Int32) (σ : MSto) (s : Int32) : Int32 := (if (gI σ 13 0 31) ≤ c then s else (if (gI σ 64 0 (Int32.toNatClampNeg c)) = x1 then (s + 0) else (s + 1)))
noncomputable def q_M_knew_33s (x1 : Int32) (x2 : Int32) (c : Int32) (σ : MSto) (s : Int32) : Nat := (if (gI σ 13 0 31) ≤ c then 1 else (if (gI σ 64 0 (Int32.toNatClampNeg c)) = x1 then 0 else 0))
def g_M_knew_33 (x1 : Int32) (x2 : Int32) (c : Int32) (σ : MSto) (s : Int32) : Prop := (¬ ((gI σ 13 0 31) ≤ c) → (vp_in c 9))
noncomputable def f_M_knew_33 (x1 : Int32) (x2 : Int32) (c0 : Int32) (σ : MSto) (s0 : Int32) (n : Nat) : Int32 := nfold (fun i s => t_M_knew_33 x1 x2 (c0 + nI i) σ s) s0 n
noncomputable def n_M_knew_33 (x1 : Int32) (x2 : Int32) (c0 : Int32) (σ : MSto) (s0 : Int32) : Nat := nM σ 31
noncomputable def v_M_knew (a1 : Int32) (a2 : Int32) (σ : MSto) : Int32 := (if (v_M_in a1 0 5 (sI σ 13 0 52 0)) = 0 then (-1) else (if (v_M_in a2 0 (gI (sI σ 13 0 52 0) 13 0 31) (sI σ 13 0 52 0)) = 0 then (-1) else 0))
def p_M_knew (a1 : Int32) (a2 : Int32) (σ : MSto) : Prop := (¬ ((v_M_in a1 0 5 (sI σ 13 0 52 0)) = 0) → (¬ ((v_M_in a2 0 (gI (sI σ 13 0 52 0) 13 0 31) (sI σ 13 0 52 0)) = 0) → ((∀ i, i < (n_M_knew_33 a1 a2 0 (sI σ 13 0 52 0) 0) → g_M_knew_33 a1 a2 (0 + nI i) (sI σ 13 0 52 0) (f_M_knew_33 a1 a2 0 (sI σ 13 0 52 0) 0 i) ∧ ¬ q_M_knew_33s a1 a2 (0 + nI i) (sI σ 13 0 52 0) (f_M_knew_33 a1 a2 0 (sI σ 13 0 52 0) 0 i) = 1) ∧ ((((gI (sI σ 13 0 52 0) 13 0 31) ≤ (0 + nI (n_M_knew_33 a1 a2 0 (sI σ 13 0 52 0) 0))) → ((p_M_choose (f_M_knew_33 a1 a2 0 (sI σ 13 0 52 0) 0 (n_M_knew_33 a1 a2 0 (sI σ 13 0 52 0) 0)) a2 (sI (sI σ 13 0 52 0) 13 0 51 0)) ∧ ((p_M_choose (gI (sI (sI σ 13 0 52 0) 13 0 51 0) 13 0 31) a2 (sI (sI σ 13 0 52 0) 13 0 51 0)) ∧ (p_M_tellPart (v_M_choose (f_M_knew_33 a1 a2 0 (sI σ 13 0 52 0) 0 (n_M_knew_33 a1 a2 0 (sI σ 13 0 52 0) 0)) a2 (sI (sI σ 13 0 52 0) 13 0 51 0)) (v_M_choose (gI (sI (sI σ 13 0 52 0) 13 0 51 0) 13 0 31) a2 (sI (sI σ 13 0 52 0) 13 0 51 0)) (sI (sI σ 13 0 52 0) 13 0 51 0))))) ∧ (¬ ((gI (sI σ 13 0 52 0) 13 0 31) ≤ (0 + nI (n_M_knew_33 a1 a2 0 (sI σ 13 0 52 0) 0))) → False)))))
noncomputable def e_M_knew (a1 : Int32) (a2 : Int32) (σ : MSto) : MSto := (if (v_M_in a1 0 5 (sI σ 13 0 52 0)) = 0 then (sI σ 13 0 52 0) else (if (v_M_in a2 0 (gI (sI σ 13 0 52 0) 13 0 31) (sI σ 13 0 52 0)) = 0 then (sI σ 13 0 52 0) else (e_M_tellPart (v_M_choose (f_M_knew_33 a1 a2 0 (sI σ 13 0 52 0) 0 (n_M_knew_33 a1 a2 0 (sI σ 13 0 52 0) 0)) a2 (sI (sI σ 13 0 52 0) 13 0 51 0)) (v_M_choose (gI (sI (sI σ 13 0 52 0) 13 0 51 0) 13 0 31) a2 (sI (sI σ 13 0 52 0) 13 0 51 0)) (sI (sI σ 13 0 52 0) 13 0 51 0))))
noncomputable def S_M_knew : List MV → MSto → Option Prop × Option MV × MSto := fun as σ => match as with
  | [.inr (.inr (some (13, 0))), .inl a0, .inl a1] => (some (p_M_knew a0 a1 σ), some (mI (v_M_knew a0 a1 σ)), e_M_knew a0 a1 σ)
  | _ => (some False, none, σ)
noncomputable def E_M_knew : MEnt := ((1, 2, 13), (3, 76, 0, 0), S_M_knew, ((⟨"ClothWithManModel", "knew", "(II)I"⟩ : MethodName), prog_14_method_93_code, 5, (some .int)))

def T_M_knew : Nat → Option (Instr × Nat × List Nat) := fun k => bif Nat.blt k 91 then (bif Nat.blt k 44 then (bif Nat.blt k 23 then (bif Nat.blt k 8 then (bif Nat.blt k 5 then (bif Nat.blt k 1 then (bif Nat.beq k 0 then some (.aload_n 0, 1, []) else none) else (bif Nat.blt k 2 then (bif Nat.beq k 1 then some (.iconst 0, 2, []) else none) else (bif Nat.beq k 2 then some (.putfield 161, 5, []) else none))) else (bif Nat.blt k 6 then (bif Nat.beq k 5 then some (.iload_n 1, 6, []) else none) else (bif Nat.blt k 7 then (bif Nat.beq k 6 then some (.iconst 0, 7, []) else none) else (bif Nat.beq k 7 then some (.iconst 5, 8, []) else none)))) else (bif Nat.blt k 15 then (bif Nat.blt k 11 then (bif Nat.beq k 8 then some (.invokestatic 181, 11, []) else none) else (bif Nat.blt k 14 then (bif Nat.beq k 11 then some (.ifCond .eq 15, 14, [26]) else none) else (bif Nat.beq k 14 then some (.iload_n 2, 15, []) else none))) else (bif Nat.blt k 17 then (bif Nat.blt k 16 then (bif Nat.beq k 15 then some (.iconst 0, 16, []) else none) else (bif Nat.beq k 16 then some (.aload_n 0, 17, []) else none)) else (bif Nat.blt k 20 then (bif Nat.beq k 17 then some (.getfield 425, 20, []) else none) else (bif Nat.beq k 20 then some (.invokestatic 181, 23, []) else none))))) else (bif Nat.blt k 31 then (bif Nat.blt k 28 then (bif Nat.blt k 26 then (bif Nat.beq k 23 then some (.ifCond .ne 5, 26, [28]) else none) else (bif Nat.blt k 27 then (bif Nat.beq k 26 then some (.iconst (-1), 27, []) else none) else (bif Nat.beq k 27 then some (.ireturn, 28, []) else none))) else (bif Nat.blt k 29 then (bif Nat.beq k 28 then some (.iconst 0, 29, []) else none) else (bif Nat.blt k 30 then (bif Nat.beq k 29 then some (.istore_n 3, 30, []) else none) else (bif Nat.beq k 30 then some (.iconst 0, 31, []) else none)))) else (bif Nat.blt k 36 then (bif Nat.blt k 33 then (bif Nat.beq k 31 then some (.istore 4, 33, []) else none) else (bif Nat.blt k 35 then (bif Nat.beq k 33 then some (.iload 4, 35, []) else none) else (bif Nat.beq k 35 then some (.aload_n 0, 36, []) else none))) else (bif Nat.blt k 42 then (bif Nat.blt k 39 then (bif Nat.beq k 36 then some (.getfield 425, 39, []) else none) else (bif Nat.beq k 39 then some (.if_icmp .ge 28, 42, [67]) else none)) else (bif Nat.blt k 43 then (bif Nat.beq k 42 then some (.iload_n 3, 43, []) else none) else (bif Nat.beq k 43 then some (.aload_n 0, 44, []) else none)))))) else (bif Nat.blt k 68 then (bif Nat.blt k 55 then (bif Nat.blt k 50 then (bif Nat.blt k 47 then (bif Nat.beq k 44 then some (.getfield 87, 47, []) else none) else (bif Nat.blt k 49 then (bif Nat.beq k 47 then some (.iload 4, 49, []) else none) else (bif Nat.beq k 49 then some (.iaload, 50, []) else none))) else (bif Nat.blt k 51 then (bif Nat.beq k 50 then some (.iload_n 1, 51, []) else none) else (bif Nat.blt k 54 then (bif Nat.beq k 51 then some (.if_icmp .ne 7, 54, [58]) else none) else (bif Nat.beq k 54 then some (.iconst 0, 55, []) else none)))) else (bif Nat.blt k 60 then (bif Nat.blt k 58 then (bif Nat.beq k 55 then some (.goto 4, 58, [59]) else none) else (bif Nat.blt k 59 then (bif Nat.beq k 58 then some (.iconst 1, 59, []) else none) else (bif Nat.beq k 59 then some (.iadd, 60, []) else none))) else (bif Nat.blt k 64 then (bif Nat.blt k 61 then (bif Nat.beq k 60 then some (.istore_n 3, 61, []) else none) else (bif Nat.beq k 61 then some (.iinc 4 1, 64, []) else none)) else (bif Nat.blt k 67 then (bif Nat.beq k 64 then some (.goto (-31), 67, [33]) else none) else (bif Nat.beq k 67 then some (.aload_n 0, 68, []) else none))))) else (bif Nat.blt k 78 then (bif Nat.blt k 73 then (bif Nat.blt k 69 then (bif Nat.beq k 68 then some (.iconst 0, 69, []) else none) else (bif Nat.blt k 72 then (bif Nat.beq k 69 then some (.putfield 164, 72, []) else none) else (bif Nat.beq k 72 then some (.aload_n 0, 73, []) else none))) else (bif Nat.blt k 74 then (bif Nat.beq k 73 then some (.iload_n 3, 74, []) else none) else (bif Nat.blt k 75 then (bif Nat.beq k 74 then some (.iload_n 2, 75, []) else none) else (bif Nat.beq k 75 then some (.invokestatic 428, 78, []) else none)))) else (bif Nat.blt k 83 then (bif Nat.blt k 79 then (bif Nat.beq k 78 then some (.aload_n 0, 79, []) else none) else (bif Nat.blt k 82 then (bif Nat.beq k 79 then some (.getfield 425, 82, []) else none) else (bif Nat.beq k 82 then some (.iload_n 2, 83, []) else none))) else (bif Nat.blt k 89 then (bif Nat.blt k 86 then (bif Nat.beq k 83 then some (.invokestatic 428, 86, []) else none) else (bif Nat.beq k 86 then some (.invokevirtual 321, 89, []) else none)) else (bif Nat.blt k 90 then (bif Nat.beq k 89 then some (.iconst 0, 90, []) else none) else (bif Nat.beq k 90 then some (.ireturn, 91, []) else none))))))) else none
noncomputable def P_M_knew : MP := (T_M_knew, (fun k => mLook k [(87, (13, 32, (.array .int), true)), (161, (13, 52, .int, false)), (164, (13, 51, .int, false)), (425, (13, 31, .int, false))]), (fun k => mLook k []), (fun k => mLook k [(181, E_M_in), (321, E_M_tellPart), (428, E_M_choose)]), (fun k => mLook k []), (fun k => mLook k []), (fun k => mLook k []), (fun k => mLook k [(33, [true, true, true, true, true])]), (fun k => [27, 90].any (Nat.beq k)), (3, 76, 0, 0), false, (fun _ => none))
set_option maxRecDepth 100000 in
set_option maxHeartbeats 4000000 in
theorem q_M_knew_e (a1 : Int32) (a2 : Int32) (σ : MSto) (n : Nat) : mexe KT P_M_knew (n + 1) (0, [some (mR 13 0), some (mI a1), some (mI a2), none, none], [], σ, 0, 0) = (if (v_M_in a1 0 5 (sI σ 13 0 52 0)) = 0 then some (27, [], [(mI (-1))], (sI σ 13 0 52 0), 0, 0) else (if (v_M_in a2 0 (gI (sI σ 13 0 52 0) 13 0 31) (sI σ 13 0 52 0)) = 0 then some (27, [], [(mI (-1))], (sI σ 13 0 52 0), 0, 0) else mexe KT P_M_knew n (33, [some (mR 13 0), some (mI a1), some (mI a2), some (mI 0), some (mI 0)], [], (sI σ 13 0 52 0), 0, 0))) := rfl
set_option maxRecDepth 100000 in
set_option maxHeartbeats 4000000 in
theorem q_M_knew_33 (x1 : Int32) (x2 : Int32) (x3 : Int32) (x4 : Int32) (σ : MSto) (n : Nat) : mexe KT P_M_knew (n + 1) (33, [some (mR 13 0), some (mI x1), some (mI x2), some (mI x3), some (mI x4)], [], σ, 0, 0) = (if (gI σ 13 0 31) ≤ x4 then mG (p_M_choose x3 x2 (sI σ 13 0 51 0)) (mG (p_M_choose (gI (sI σ 13 0 51 0) 13 0 31) x2 (sI σ 13 0 51 0)) (mG (p_M_tellPart (v_M_choose x3 x2 (sI σ 13 0 51 0)) (v_M_choose (gI (sI σ 13 0 51 0) 13 0 31) x2 (sI σ 13 0 51 0)) (sI σ 13 0 51 0)) (some (90, [], [(mI 0)], (e_M_tellPart (v_M_choose x3 x2 (sI σ 13 0 51 0)) (v_M_choose (gI (sI σ 13 0 51 0) 13 0 31) x2 (sI σ 13 0 51 0)) (sI σ 13 0 51 0)), 0, 0)))) else mG (vp_in x4 9) ((if (gI σ 64 0 (Int32.toNatClampNeg x4)) = x1 then mexe KT P_M_knew n (33, [some (mR 13 0), some (mI x1), some (mI x2), some (mI (x3 + 0)), some (mI (x4 + 1))], [], σ, 0, 0) else mexe KT P_M_knew n (33, [some (mR 13 0), some (mI x1), some (mI x2), some (mI (x3 + 1)), some (mI (x4 + 1))], [], σ, 0, 0)))) := rfl
set_option maxRecDepth 100000 in
theorem lp_M_knew_33 {Post : MST → Prop} (x1 : Int32) (x2 : Int32) (c0 : Int32) (σ : MSto) (s0 : Int32) (N : Nat) (hb : ∀ i, i < N → g_M_knew_33 x1 x2 (c0 + nI i) σ (f_M_knew_33 x1 x2 c0 σ s0 i) ∧ ¬ q_M_knew_33s x1 x2 (c0 + nI i) σ (f_M_knew_33 x1 x2 c0 σ s0 i) = 1) (h : mW1 P_M_knew (33, [some (mR 13 0), some (mI x1), some (mI x2), some (mI (f_M_knew_33 x1 x2 c0 σ s0 N)), some (mI (c0 + nI N))], [], σ, 0, 0) Post) : mW1 P_M_knew (33, [some (mR 13 0), some (mI x1), some (mI x2), some (mI s0), some (mI c0)], [], σ, 0, 0) Post := by
  refine mW1_st (mW1_loop (fun i => (33, [some (mR 13 0), some (mI x1), some (mI x2), some (mI (f_M_knew_33 x1 x2 c0 σ s0 i)), some (mI (c0 + nI i))], [], σ, 0, 0)) N (fun i hlt hn => ?_) h) (by rw [show nI 0 = 0 from rfl, Int32.add_zero] <;> rfl)
  obtain ⟨hp, hq⟩ := hb i hlt
  have hn : mW1 P_M_knew (33, [some (mR 13 0), some (mI x1), some (mI x2), some (mI (t_M_knew_33 x1 x2 (c0 + nI i) σ (f_M_knew_33 x1 x2 c0 σ s0 i))), some (mI (c0 + nI i + 1))], [], σ, 0, 0) Post := by
    rw [Int32.add_assoc, nI_s]
    exact hn
  try dsimp only
  generalize (f_M_knew_33 x1 x2 c0 σ s0 i) = s at *
  generalize c0 + nI i = c at *
  clear hb h hlt
  unfold g_M_knew_33 at hp
  refine mW1_eq (q_M_knew_33 _ _ _ _ _) ?_
  refine mTr_if (fun h0 => ?_) (fun h0 => ?_)
  · skip
    exact absurd (by unfold q_M_knew_33s; first | (rw [if_pos h0]; done) | (rw [if_pos h0]; rfl)) hq
  · skip
    have hp := hp h0
    refine mTr_g hp ?_
    refine mTr_if (fun h1 => ?_) (fun h1 => ?_)
    · skip
      have e : t_M_knew_33 x1 x2 c σ s = (s + 0) := (by unfold t_M_knew_33; first | (rw [if_neg h0, if_pos h1]; done) | (rw [if_neg h0, if_pos h1]; rfl))
      rw [e] at hn
      exact mTr_k hn
    · skip
      have e : t_M_knew_33 x1 x2 c σ s = (s + 1) := (by unfold t_M_knew_33; first | (rw [if_neg h0, if_neg h1]; done) | (rw [if_neg h0, if_neg h1]; rfl))
      rw [e] at hn
      exact mTr_k hn
set_option maxRecDepth 100000 in
set_option maxHeartbeats 4000000 in
theorem d_M_knew (a1 : Int32) (a2 : Int32) (σ : MSto) (hp : p_M_knew a1 a2 σ) : mW1 P_M_knew (0, [some (mR 13 0), some (mI a1), some (mI a2), none, none], [], σ, 0, 0) (mF [27, 90] [mI (v_M_knew a1 a2 σ)] (e_M_knew a1 a2 σ) 0 0) := by
  refine mW1_eq (q_M_knew_e _ _ _) ?_
  unfold p_M_knew at hp
  refine mTr_if (fun h0 => ?_) (fun h0 => ?_)
  · skip
    exact mTr_e (by decide) (by unfold v_M_knew; first | (rw [if_pos h0]; done) | (rw [if_pos h0]; rfl)) (by unfold e_M_knew; first | (rw [if_pos h0]; done) | (rw [if_pos h0]; rfl)) (by decide) (by decide)
  · skip
    have hp := hp h0
    refine mTr_if (fun h1 => ?_) (fun h1 => ?_)
    · skip
      exact mTr_e (by decide) (by unfold v_M_knew; first | (rw [if_neg h0, if_pos h1]; done) | (rw [if_neg h0, if_pos h1]; rfl)) (by unfold e_M_knew; first | (rw [if_neg h0, if_pos h1]; done) | (rw [if_neg h0, if_pos h1]; rfl)) (by decide) (by decide)
    · skip
      have hp := hp h1
      refine mTr_k (lp_M_knew_33 a1 a2 0 (sI σ 13 0 52 0) 0 (n_M_knew_33 a1 a2 0 (sI σ 13 0 52 0) 0) hp.1 ?_)
      have hp := hp.2
      refine mW1_eq (q_M_knew_33 _ _ _ _ _) ?_
      refine mTr_if (fun h2 => ?_) (fun h2 => ?_)
      · skip
        have hp := hp.1 h2
        refine mTr_g hp.1 ?_
        have hp := hp.2
        refine mTr_g hp.1 ?_
        have hp := hp.2
        refine mTr_g hp ?_
        exact mTr_e (by decide) (by unfold v_M_knew; first | (rw [if_neg h0, if_neg h1]; done) | (rw [if_neg h0, if_neg h1]; rfl)) (by unfold e_M_knew; first | (rw [if_neg h0, if_neg h1]; done) | (rw [if_neg h0, if_neg h1]; rfl)) (by decide) (by decide)
      · skip
        have hp := hp.2 h2
        exact hp.elim
theorem li_M_428 : mLink "ClothWithManModel" 428 E_M_choose := ⟨tw_8_60, tw_1_9, ⟨by decide, by decide⟩, by decide +kernel, Or.inl tw_8_58, (fun _ => tw_8_59), (fun h => by cases h), (fun h => by cases h)⟩



theorem tk_M_knew : ∀ pc i nx tg, T_M_knew pc = some (i, nx, tg) → mOkB prog_14_method_93_code pc i nx tg = true := code_ok (N := 91) (fun k h => by unfold T_M_knew; rw [h]; rfl) (by decide +kernel)
theorem ok_M_knew (l : Launch) : mPOK l "ClothWithManModel" prog_14_method_93_code P_M_knew := by
  refine ⟨tk_M_knew, ?_, ?_, ?_, (fun pc i nx tg kd _ h => by cases h), ?_, ?_, fun pc en h => by cases h⟩
  · intro x ci f ty fin h
    exact mLook_all (Q := fun x v => mFOK "ClothWithManModel" x v.1 v.2.1 v.2.2.1 v.2.2.2 ∧ (v.2.2.2 = true → pIni P_M_knew = true → (Cond.fieldLink "ClothWithManModel" x (((mCl[v.1]?).getD ("", fun _ => ("", "", "", false), 0)).2.1 v.2.1).1 (((mCl[v.1]?).getD ("", fun _ => ("", "", "", false), 0)).2.1 v.2.1).2.1 (((mCl[v.1]?).getD ("", fun _ => ("", "", "", false), 0)).2.1 v.2.1).2.2.1 ∈ lw_tbl ∧ (((mCl[v.1]?).getD ("", fun _ => ("", "", "", false), 0)).2.1 v.2.1).1 = "ClothWithManModel"))) (fcC ⟨fo_M_87, fun h1 h2 => by cases h2⟩ (fcC ⟨fo_M_161, fun h1 h2 => by cases h1⟩ (fcC ⟨fo_M_164, fun h1 h2 => by cases h1⟩ (fcC ⟨fo_M_425, fun h1 h2 => by cases h1⟩ fcN)))) x (ci, f, ty, fin) h
  · intro x
    have hh := mLook_all (l := ([] : List (Nat × (Int32 ⊕ Int64)))) (Q := fun x (v : Int32 ⊕ Int64) => (∀ w, v = .inl w → Cond.constant "ClothWithManModel" x w ∈ lw_tbl) ∧ (∀ w, v = .inr w → Cond.constantLong "ClothWithManModel" x w ∈ lw_tbl)) fcN x
    exact ⟨fun w h => (hh _ h).1 w rfl, fun w h => (hh _ h).2 w rfl⟩
  · exact fun x en h => mLook_all (Q := fun x en => mLink "ClothWithManModel" x en ∧ mCtr l en ∧ (en.1.1 = 2 → en.2.2.2.2.2.2 = none)) (fcC ⟨li_M_181, c_M_in l, (fun h => by cases h)⟩ (fcC ⟨li_M_321, c_M_tellPart l, (fun h => by cases h)⟩ (fcC ⟨li_M_428, c_M_choose l, (fun h => by cases h)⟩ fcN))) x en h
  · exact fun x kd h => mLook_all (Q := fun x kd => (kd = 95 ∧ Cond.fieldLink "ClothWithManModel" x "ClothWithMan" "LIKENESSES" "[I" ∈ lw_tbl) ∨ (kd = 96 ∧ Cond.fieldLink "ClothWithManModel" x "ClothWithMan" "APART_BOUNDS" "[I" ∈ lw_tbl)) fcN x kd h
  · exact fun x ci h => mLook_all (Q := fun x ci => ci ≠ 0 ∧ ∃ (C : String) (T : u_T) (N : Nat), mCl[ci]? = some (C, T, N) ∧ Cond.classLink "ClothWithManModel" x C ∈ lw_tbl ∧ Cond.castable C C ∈ lw_tbl) fcN x ci h
set_option maxRecDepth 100000 in
theorem c_M_knew (l : Launch) : mCtr l E_M_knew := mCtr_of (P := P_M_knew) (own := "ClothWithManModel") mLay_ok rfl (by decide +kernel) rfl (ok_M_knew l) (fun h => by cases h) (fun as σ pr rv σ' hF hpr hlv => by
  unfold E_M_knew S_M_knew at hF
  simp only [] at hF
  split at hF
  · cases hF
    obtain ⟨n, pcF, c1, s1, g1, g2, g3, g4⟩ := mF_inv (d_M_knew _ _ σ (hpr _ rfl))
    exact ⟨Nat.le_of_ble_eq_true rfl, (fun v h => by cases h; trivial), n, pcF, c1, s1, g1, ⟨mEnd_of (i := .ireturn) (P := P_M_knew) (rets := [27, 90]) rfl g2, rfl⟩, g3, g4⟩
  · cases hF
    exact (hpr _ rfl).elim)
/-! ClothWithManModel.open(II)I -/
noncomputable def t_M_open_20 (x1 : Int32) (x2 : Int32) (c : Int32) (σ : MSto) (s : Int32) : Int32 := (if 8 ≤ c then s else (if (v_M_has (gI σ 13 0 33) c σ) = 0 then s else (if ((gI σ 65 0 (Int32.toNatClampNeg c)) &&& (x1 ^^^ (-1))) = 0 then (if ((gI σ 66 0 (Int32.toNatClampNeg c)) &&& (x2 ^^^ (-1))) = 0 then (s ||| (1 <<< (c &&& 31))) else s) else s)))
noncomputable def q_M_open_20s (x1 : Int32) (x2 : Int32) (c : Int32) (σ : MSto) (s : Int32) : Nat := (if 8 ≤ c then 1 else (if (v_M_has (gI σ 13 0 33) c σ) = 0 then 0 else (if ((gI σ 65 0 (Int32.toNatClampNeg c)) &&& (x1 ^^^ (-1))) = 0 then (if ((gI σ 66 0 (Int32.toNatClampNeg c)) &&& (x2 ^^^ (-1))) = 0 then 0 else 0) else 0)))
def g_M_open_20 (x1 : Int32) (x2 : Int32) (c : Int32) (σ : MSto) (s : Int32) : Prop := (¬ (8 ≤ c) → (¬ ((v_M_has (gI σ 13 0 33) c σ) = 0) → ((vp_in c 8) ∧ ((((gI σ 65 0 (Int32.toNatClampNeg c)) &&& (x1 ^^^ (-1))) = 0) → (vp_in c 8)))))
noncomputable def f_M_open_20 (x1 : Int32) (x2 : Int32) (c0 : Int32) (σ : MSto) (s0 : Int32) (n : Nat) : Int32 := nfold (fun i s => t_M_open_20 x1 x2 (c0 + nI i) σ s) s0 n
noncomputable def n_M_open_20 (x1 : Int32) (x2 : Int32) (c0 : Int32) (σ : MSto) (s0 : Int32) : Nat := 8
noncomputable def v_M_open (a1 : Int32) (a2 : Int32) (σ : MSto) : Int32 := (if (v_M_areMarks a1 a2 (sI σ 13 0 52 0)) = 0 then (-1) else (v_M_openBy a1 a2 (e_M_tell (Int32.toInt64 (f_M_open_20 a1 a2 0 (sI σ 13 0 52 0) 0 (n_M_open_20 a1 a2 0 (sI σ 13 0 52 0) 0))) (sI (sI σ 13 0 52 0) 13 0 51 0))))
def p_M_open (a1 : Int32) (a2 : Int32) (σ : MSto) : Prop := (¬ ((v_M_areMarks a1 a2 (sI σ 13 0 52 0)) = 0) → ((∀ i, i < (n_M_open_20 a1 a2 0 (sI σ 13 0 52 0) 0) → g_M_open_20 a1 a2 (0 + nI i) (sI σ 13 0 52 0) (f_M_open_20 a1 a2 0 (sI σ 13 0 52 0) 0 i) ∧ ¬ q_M_open_20s a1 a2 (0 + nI i) (sI σ 13 0 52 0) (f_M_open_20 a1 a2 0 (sI σ 13 0 52 0) 0 i) = 1) ∧ (((8 ≤ (0 + nI (n_M_open_20 a1 a2 0 (sI σ 13 0 52 0) 0))) → ((p_M_tell (Int32.toInt64 (f_M_open_20 a1 a2 0 (sI σ 13 0 52 0) 0 (n_M_open_20 a1 a2 0 (sI σ 13 0 52 0) 0))) (sI (sI σ 13 0 52 0) 13 0 51 0)) ∧ (p_M_openBy a1 a2 (e_M_tell (Int32.toInt64 (f_M_open_20 a1 a2 0 (sI σ 13 0 52 0) 0 (n_M_open_20 a1 a2 0 (sI σ 13 0 52 0) 0))) (sI (sI σ 13 0 52 0) 13 0 51 0))))) ∧ (¬ (8 ≤ (0 + nI (n_M_open_20 a1 a2 0 (sI σ 13 0 52 0) 0))) → False))))
noncomputable def e_M_open (a1 : Int32) (a2 : Int32) (σ : MSto) : MSto := (if (v_M_areMarks a1 a2 (sI σ 13 0 52 0)) = 0 then (sI σ 13 0 52 0) else (e_M_tell (Int32.toInt64 (f_M_open_20 a1 a2 0 (sI σ 13 0 52 0) 0 (n_M_open_20 a1 a2 0 (sI σ 13 0 52 0) 0))) (sI (sI σ 13 0 52 0) 13 0 51 0)))
noncomputable def S_M_open : List MV → MSto → Option Prop × Option MV × MSto := fun as σ => match as with
  | [.inr (.inr (some (13, 0))), .inl a0, .inl a1] => (some (p_M_open a0 a1 σ), some (mI (v_M_open a0 a1 σ)), e_M_open a0 a1 σ)
  | _ => (some False, none, σ)
noncomputable def E_M_open : MEnt := ((1, 2, 13), (2, 45, 0, 0), S_M_open, ((⟨"ClothWithManModel", "open", "(II)I"⟩ : MethodName), prog_14_method_97_code, 5, (some .int)))

def T_M_open : Nat → Option (Instr × Nat × List Nat) := fun k => bif Nat.blt k 98 then (bif Nat.blt k 50 then (bif Nat.blt k 22 then (bif Nat.blt k 13 then (bif Nat.blt k 5 then (bif Nat.blt k 1 then (bif Nat.beq k 0 then some (.aload_n 0, 1, []) else none) else (bif Nat.blt k 2 then (bif Nat.beq k 1 then some (.iconst 0, 2, []) else none) else (bif Nat.beq k 2 then some (.putfield 161, 5, []) else none))) else (bif Nat.blt k 7 then (bif Nat.blt k 6 then (bif Nat.beq k 5 then some (.iload_n 1, 6, []) else none) else (bif Nat.beq k 6 then some (.iload_n 2, 7, []) else none)) else (bif Nat.blt k 10 then (bif Nat.beq k 7 then some (.invokestatic 434, 10, []) else none) else (bif Nat.beq k 10 then some (.ifCond .ne 5, 13, [15]) else none)))) else (bif Nat.blt k 16 then (bif Nat.blt k 14 then (bif Nat.beq k 13 then some (.iconst (-1), 14, []) else none) else (bif Nat.blt k 15 then (bif Nat.beq k 14 then some (.ireturn, 15, []) else none) else (bif Nat.beq k 15 then some (.iconst 0, 16, []) else none))) else (bif Nat.blt k 18 then (bif Nat.blt k 17 then (bif Nat.beq k 16 then some (.istore_n 3, 17, []) else none) else (bif Nat.beq k 17 then some (.iconst 0, 18, []) else none)) else (bif Nat.blt k 20 then (bif Nat.beq k 18 then some (.istore 4, 20, []) else none) else (bif Nat.beq k 20 then some (.iload 4, 22, []) else none))))) else (bif Nat.blt k 39 then (bif Nat.blt k 28 then (bif Nat.blt k 24 then (bif Nat.beq k 22 then some (.bipush 8, 24, []) else none) else (bif Nat.blt k 27 then (bif Nat.beq k 24 then some (.if_icmp .ge 56, 27, [80]) else none) else (bif Nat.beq k 27 then some (.aload_n 0, 28, []) else none))) else (bif Nat.blt k 33 then (bif Nat.blt k 31 then (bif Nat.beq k 28 then some (.getfield 431, 31, []) else none) else (bif Nat.beq k 31 then some (.iload 4, 33, []) else none)) else (bif Nat.blt k 36 then (bif Nat.beq k 33 then some (.invokestatic 301, 36, []) else none) else (bif Nat.beq k 36 then some (.ifCond .eq 38, 39, [74]) else none)))) else (bif Nat.blt k 46 then (bif Nat.blt k 43 then (bif Nat.blt k 40 then (bif Nat.beq k 39 then some (.aload_n 0, 40, []) else none) else (bif Nat.beq k 40 then some (.getfield 90, 43, []) else none)) else (bif Nat.blt k 45 then (bif Nat.beq k 43 then some (.iload 4, 45, []) else none) else (bif Nat.beq k 45 then some (.iaload, 46, []) else none))) else (bif Nat.blt k 48 then (bif Nat.blt k 47 then (bif Nat.beq k 46 then some (.iload_n 1, 47, []) else none) else (bif Nat.beq k 47 then some (.iconst (-1), 48, []) else none)) else (bif Nat.blt k 49 then (bif Nat.beq k 48 then some (.ixor, 49, []) else none) else (bif Nat.beq k 49 then some (.iand, 50, []) else none)))))) else (bif Nat.blt k 73 then (bif Nat.blt k 62 then (bif Nat.blt k 57 then (bif Nat.blt k 53 then (bif Nat.beq k 50 then some (.ifCond .ne 24, 53, [74]) else none) else (bif Nat.blt k 54 then (bif Nat.beq k 53 then some (.aload_n 0, 54, []) else none) else (bif Nat.beq k 54 then some (.getfield 93, 57, []) else none))) else (bif Nat.blt k 60 then (bif Nat.blt k 59 then (bif Nat.beq k 57 then some (.iload 4, 59, []) else none) else (bif Nat.beq k 59 then some (.iaload, 60, []) else none)) else (bif Nat.blt k 61 then (bif Nat.beq k 60 then some (.iload_n 2, 61, []) else none) else (bif Nat.beq k 61 then some (.iconst (-1), 62, []) else none)))) else (bif Nat.blt k 68 then (bif Nat.blt k 64 then (bif Nat.blt k 63 then (bif Nat.beq k 62 then some (.ixor, 63, []) else none) else (bif Nat.beq k 63 then some (.iand, 64, []) else none)) else (bif Nat.blt k 67 then (bif Nat.beq k 64 then some (.ifCond .ne 10, 67, [74]) else none) else (bif Nat.beq k 67 then some (.iload_n 3, 68, []) else none))) else (bif Nat.blt k 71 then (bif Nat.blt k 69 then (bif Nat.beq k 68 then some (.iconst 1, 69, []) else none) else (bif Nat.beq k 69 then some (.iload 4, 71, []) else none)) else (bif Nat.blt k 72 then (bif Nat.beq k 71 then some (.ishl, 72, []) else none) else (bif Nat.beq k 72 then some (.ior, 73, []) else none))))) else (bif Nat.blt k 86 then (bif Nat.blt k 80 then (bif Nat.blt k 74 then (bif Nat.beq k 73 then some (.istore_n 3, 74, []) else none) else (bif Nat.blt k 77 then (bif Nat.beq k 74 then some (.iinc 4 1, 77, []) else none) else (bif Nat.beq k 77 then some (.goto (-57), 80, [20]) else none))) else (bif Nat.blt k 82 then (bif Nat.blt k 81 then (bif Nat.beq k 80 then some (.aload_n 0, 81, []) else none) else (bif Nat.beq k 81 then some (.iconst 0, 82, []) else none)) else (bif Nat.blt k 85 then (bif Nat.beq k 82 then some (.putfield 164, 85, []) else none) else (bif Nat.beq k 85 then some (.aload_n 0, 86, []) else none)))) else (bif Nat.blt k 92 then (bif Nat.blt k 88 then (bif Nat.blt k 87 then (bif Nat.beq k 86 then some (.iload_n 3, 87, []) else none) else (bif Nat.beq k 87 then some (.i2l, 88, []) else none)) else (bif Nat.blt k 91 then (bif Nat.beq k 88 then some (.invokevirtual 177, 91, []) else none) else (bif Nat.beq k 91 then some (.aload_n 0, 92, []) else none))) else (bif Nat.blt k 94 then (bif Nat.blt k 93 then (bif Nat.beq k 92 then some (.iload_n 1, 93, []) else none) else (bif Nat.beq k 93 then some (.iload_n 2, 94, []) else none)) else (bif Nat.blt k 97 then (bif Nat.beq k 94 then some (.invokevirtual 437, 97, []) else none) else (bif Nat.beq k 97 then some (.ireturn, 98, []) else none))))))) else none
noncomputable def P_M_open : MP := (T_M_open, (fun k => mLook k [(90, (13, 34, (.array .int), true)), (93, (13, 35, (.array .int), true)), (161, (13, 52, .int, false)), (164, (13, 51, .int, false)), (431, (13, 33, .int, false))]), (fun k => mLook k []), (fun k => mLook k [(177, E_M_tell), (301, E_M_has), (434, E_M_areMarks), (437, E_M_openBy)]), (fun k => mLook k []), (fun k => mLook k []), (fun k => mLook k []), (fun k => mLook k [(20, [true, true, true, true, true])]), (fun k => [14, 97].any (Nat.beq k)), (2, 45, 0, 0), false, (fun _ => none))
set_option maxRecDepth 100000 in
set_option maxHeartbeats 4000000 in
theorem q_M_open_e (a1 : Int32) (a2 : Int32) (σ : MSto) (n : Nat) : mexe KT P_M_open (n + 1) (0, [some (mR 13 0), some (mI a1), some (mI a2), none, none], [], σ, 0, 0) = (if (v_M_areMarks a1 a2 (sI σ 13 0 52 0)) = 0 then some (14, [], [(mI (-1))], (sI σ 13 0 52 0), 0, 0) else mexe KT P_M_open n (20, [some (mR 13 0), some (mI a1), some (mI a2), some (mI 0), some (mI 0)], [], (sI σ 13 0 52 0), 0, 0)) := rfl
set_option maxRecDepth 100000 in
set_option maxHeartbeats 4000000 in
theorem q_M_open_20 (x1 : Int32) (x2 : Int32) (x3 : Int32) (x4 : Int32) (σ : MSto) (n : Nat) : mexe KT P_M_open (n + 1) (20, [some (mR 13 0), some (mI x1), some (mI x2), some (mI x3), some (mI x4)], [], σ, 0, 0) = (if 8 ≤ x4 then mG (p_M_tell (Int32.toInt64 x3) (sI σ 13 0 51 0)) (mG (p_M_openBy x1 x2 (e_M_tell (Int32.toInt64 x3) (sI σ 13 0 51 0))) (some (97, [], [(mI (v_M_openBy x1 x2 (e_M_tell (Int32.toInt64 x3) (sI σ 13 0 51 0))))], (e_M_tell (Int32.toInt64 x3) (sI σ 13 0 51 0)), 0, 0))) else (if (v_M_has (gI σ 13 0 33) x4 σ) = 0 then mexe KT P_M_open n (20, [some (mR 13 0), some (mI x1), some (mI x2), some (mI x3), some (mI (x4 + 1))], [], σ, 0, 0) else mG (vp_in x4 8) ((if ((gI σ 65 0 (Int32.toNatClampNeg x4)) &&& (x1 ^^^ (-1))) = 0 then mG (vp_in x4 8) ((if ((gI σ 66 0 (Int32.toNatClampNeg x4)) &&& (x2 ^^^ (-1))) = 0 then mexe KT P_M_open n (20, [some (mR 13 0), some (mI x1), some (mI x2), some (mI (x3 ||| (1 <<< (x4 &&& 31)))), some (mI (x4 + 1))], [], σ, 0, 0) else mexe KT P_M_open n (20, [some (mR 13 0), some (mI x1), some (mI x2), some (mI x3), some (mI (x4 + 1))], [], σ, 0, 0))) else mexe KT P_M_open n (20, [some (mR 13 0), some (mI x1), some (mI x2), some (mI x3), some (mI (x4 + 1))], [], σ, 0, 0))))) := rfl
set_option maxRecDepth 100000 in
theorem lp_M_open_20 {Post : MST → Prop} (x1 : Int32) (x2 : Int32) (c0 : Int32) (σ : MSto) (s0 : Int32) (N : Nat) (hb : ∀ i, i < N → g_M_open_20 x1 x2 (c0 + nI i) σ (f_M_open_20 x1 x2 c0 σ s0 i) ∧ ¬ q_M_open_20s x1 x2 (c0 + nI i) σ (f_M_open_20 x1 x2 c0 σ s0 i) = 1) (h : mW1 P_M_open (20, [some (mR 13 0), some (mI x1), some (mI x2), some (mI (f_M_open_20 x1 x2 c0 σ s0 N)), some (mI (c0 + nI N))], [], σ, 0, 0) Post) : mW1 P_M_open (20, [some (mR 13 0), some (mI x1), some (mI x2), some (mI s0), some (mI c0)], [], σ, 0, 0) Post := by
  refine mW1_st (mW1_loop (fun i => (20, [some (mR 13 0), some (mI x1), some (mI x2), some (mI (f_M_open_20 x1 x2 c0 σ s0 i)), some (mI (c0 + nI i))], [], σ, 0, 0)) N (fun i hlt hn => ?_) h) (by rw [show nI 0 = 0 from rfl, Int32.add_zero] <;> rfl)
  obtain ⟨hp, hq⟩ := hb i hlt
  have hn : mW1 P_M_open (20, [some (mR 13 0), some (mI x1), some (mI x2), some (mI (t_M_open_20 x1 x2 (c0 + nI i) σ (f_M_open_20 x1 x2 c0 σ s0 i))), some (mI (c0 + nI i + 1))], [], σ, 0, 0) Post := by
    rw [Int32.add_assoc, nI_s]
    exact hn
  try dsimp only
  generalize (f_M_open_20 x1 x2 c0 σ s0 i) = s at *
  generalize c0 + nI i = c at *
  clear hb h hlt
  unfold g_M_open_20 at hp
  refine mW1_eq (q_M_open_20 _ _ _ _ _) ?_
  refine mTr_if (fun h0 => ?_) (fun h0 => ?_)
  · skip
    exact absurd (by unfold q_M_open_20s; first | (rw [if_pos h0]; done) | (rw [if_pos h0]; rfl)) hq
  · skip
    have hp := hp h0
    refine mTr_if (fun h1 => ?_) (fun h1 => ?_)
    · skip
      have e : t_M_open_20 x1 x2 c σ s = s := (by unfold t_M_open_20; first | (rw [if_neg h0, if_pos h1]; done) | (rw [if_neg h0, if_pos h1]; rfl))
      rw [e] at hn
      exact mTr_k hn
    · skip
      have hp := hp h1
      refine mTr_g hp.1 ?_
      have hp := hp.2
      refine mTr_if (fun h2 => ?_) (fun h2 => ?_)
      · skip
        have hp := hp h2
        refine mTr_g hp ?_
        refine mTr_if (fun h3 => ?_) (fun h3 => ?_)
        · skip
          have e : t_M_open_20 x1 x2 c σ s = (s ||| (1 <<< (c &&& 31))) := (by unfold t_M_open_20; first | (rw [if_neg h0, if_neg h1, if_pos h2, if_pos h3]; done) | (rw [if_neg h0, if_neg h1, if_pos h2, if_pos h3]; rfl))
          rw [e] at hn
          exact mTr_k hn
        · skip
          have e : t_M_open_20 x1 x2 c σ s = s := (by unfold t_M_open_20; first | (rw [if_neg h0, if_neg h1, if_pos h2, if_neg h3]; done) | (rw [if_neg h0, if_neg h1, if_pos h2, if_neg h3]; rfl))
          rw [e] at hn
          exact mTr_k hn
      · skip
        have e : t_M_open_20 x1 x2 c σ s = s := (by unfold t_M_open_20; first | (rw [if_neg h0, if_neg h1, if_neg h2]; done) | (rw [if_neg h0, if_neg h1, if_neg h2]; rfl))
        rw [e] at hn
        exact mTr_k hn
set_option maxRecDepth 100000 in
set_option maxHeartbeats 4000000 in
theorem d_M_open (a1 : Int32) (a2 : Int32) (σ : MSto) (hp : p_M_open a1 a2 σ) : mW1 P_M_open (0, [some (mR 13 0), some (mI a1), some (mI a2), none, none], [], σ, 0, 0) (mF [14, 97] [mI (v_M_open a1 a2 σ)] (e_M_open a1 a2 σ) 0 0) := by
  refine mW1_eq (q_M_open_e _ _ _) ?_
  unfold p_M_open at hp
  refine mTr_if (fun h0 => ?_) (fun h0 => ?_)
  · skip
    exact mTr_e (by decide) (by unfold v_M_open; first | (rw [if_pos h0]; done) | (rw [if_pos h0]; rfl)) (by unfold e_M_open; first | (rw [if_pos h0]; done) | (rw [if_pos h0]; rfl)) (by decide) (by decide)
  · skip
    have hp := hp h0
    refine mTr_k (lp_M_open_20 a1 a2 0 (sI σ 13 0 52 0) 0 (n_M_open_20 a1 a2 0 (sI σ 13 0 52 0) 0) hp.1 ?_)
    have hp := hp.2
    refine mW1_eq (q_M_open_20 _ _ _ _ _) ?_
    refine mTr_if (fun h1 => ?_) (fun h1 => ?_)
    · skip
      have hp := hp.1 h1
      refine mTr_g hp.1 ?_
      have hp := hp.2
      refine mTr_g hp ?_
      exact mTr_e (by decide) (by unfold v_M_open; first | (rw [if_neg h0]; done) | (rw [if_neg h0]; rfl)) (by unfold e_M_open; first | (rw [if_neg h0]; done) | (rw [if_neg h0]; rfl)) (by decide) (by decide)
    · skip
      have hp := hp.2 h1
      exact hp.elim
theorem li_M_437 : mLink "ClothWithManModel" 437 E_M_openBy := ⟨tw_8_75, tw_1_9, ⟨by decide, by decide⟩, by decide +kernel, Or.inl tw_8_72, (fun h => by cases h), (fun _ => ⟨tw_8_74, tw_0_86, TX12, 71, rfl⟩), (fun h => by cases h)⟩

theorem li_M_434 : mLink "ClothWithManModel" 434 E_M_areMarks := ⟨tw_8_71, tw_1_9, ⟨by decide, by decide⟩, by decide +kernel, Or.inl tw_8_69, (fun _ => tw_8_70), (fun h => by cases h), (fun h => by cases h)⟩



theorem tk_M_open : ∀ pc i nx tg, T_M_open pc = some (i, nx, tg) → mOkB prog_14_method_97_code pc i nx tg = true := code_ok (N := 98) (fun k h => by unfold T_M_open; rw [h]; rfl) (by decide +kernel)
theorem ok_M_open (l : Launch) : mPOK l "ClothWithManModel" prog_14_method_97_code P_M_open := by
  refine ⟨tk_M_open, ?_, ?_, ?_, (fun pc i nx tg kd _ h => by cases h), ?_, ?_, fun pc en h => by cases h⟩
  · intro x ci f ty fin h
    exact mLook_all (Q := fun x v => mFOK "ClothWithManModel" x v.1 v.2.1 v.2.2.1 v.2.2.2 ∧ (v.2.2.2 = true → pIni P_M_open = true → (Cond.fieldLink "ClothWithManModel" x (((mCl[v.1]?).getD ("", fun _ => ("", "", "", false), 0)).2.1 v.2.1).1 (((mCl[v.1]?).getD ("", fun _ => ("", "", "", false), 0)).2.1 v.2.1).2.1 (((mCl[v.1]?).getD ("", fun _ => ("", "", "", false), 0)).2.1 v.2.1).2.2.1 ∈ lw_tbl ∧ (((mCl[v.1]?).getD ("", fun _ => ("", "", "", false), 0)).2.1 v.2.1).1 = "ClothWithManModel"))) (fcC ⟨fo_M_90, fun h1 h2 => by cases h2⟩ (fcC ⟨fo_M_93, fun h1 h2 => by cases h2⟩ (fcC ⟨fo_M_161, fun h1 h2 => by cases h1⟩ (fcC ⟨fo_M_164, fun h1 h2 => by cases h1⟩ (fcC ⟨fo_M_431, fun h1 h2 => by cases h1⟩ fcN))))) x (ci, f, ty, fin) h
  · intro x
    have hh := mLook_all (l := ([] : List (Nat × (Int32 ⊕ Int64)))) (Q := fun x (v : Int32 ⊕ Int64) => (∀ w, v = .inl w → Cond.constant "ClothWithManModel" x w ∈ lw_tbl) ∧ (∀ w, v = .inr w → Cond.constantLong "ClothWithManModel" x w ∈ lw_tbl)) fcN x
    exact ⟨fun w h => (hh _ h).1 w rfl, fun w h => (hh _ h).2 w rfl⟩
  · exact fun x en h => mLook_all (Q := fun x en => mLink "ClothWithManModel" x en ∧ mCtr l en ∧ (en.1.1 = 2 → en.2.2.2.2.2.2 = none)) (fcC ⟨li_M_177, c_M_tell l, (fun h => by cases h)⟩ (fcC ⟨li_M_301, c_M_has l, (fun h => by cases h)⟩ (fcC ⟨li_M_434, c_M_areMarks l, (fun h => by cases h)⟩ (fcC ⟨li_M_437, c_M_openBy l, (fun h => by cases h)⟩ fcN)))) x en h
  · exact fun x kd h => mLook_all (Q := fun x kd => (kd = 95 ∧ Cond.fieldLink "ClothWithManModel" x "ClothWithMan" "LIKENESSES" "[I" ∈ lw_tbl) ∨ (kd = 96 ∧ Cond.fieldLink "ClothWithManModel" x "ClothWithMan" "APART_BOUNDS" "[I" ∈ lw_tbl)) fcN x kd h
  · exact fun x ci h => mLook_all (Q := fun x ci => ci ≠ 0 ∧ ∃ (C : String) (T : u_T) (N : Nat), mCl[ci]? = some (C, T, N) ∧ Cond.classLink "ClothWithManModel" x C ∈ lw_tbl ∧ Cond.castable C C ∈ lw_tbl) fcN x ci h
set_option maxRecDepth 100000 in
theorem c_M_open (l : Launch) : mCtr l E_M_open := mCtr_of (P := P_M_open) (own := "ClothWithManModel") mLay_ok rfl (by decide +kernel) rfl (ok_M_open l) (fun h => by cases h) (fun as σ pr rv σ' hF hpr hlv => by
  unfold E_M_open S_M_open at hF
  simp only [] at hF
  split at hF
  · cases hF
    obtain ⟨n, pcF, c1, s1, g1, g2, g3, g4⟩ := mF_inv (d_M_open _ _ σ (hpr _ rfl))
    exact ⟨Nat.le_of_ble_eq_true rfl, (fun v h => by cases h; trivial), n, pcF, c1, s1, g1, ⟨mEnd_of (i := .ireturn) (P := P_M_open) (rets := [14, 97]) rfl g2, rfl⟩, g3, g4⟩
  · cases hF
    exact (hpr _ rfl).elim)

