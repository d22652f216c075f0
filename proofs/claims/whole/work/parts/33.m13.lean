/-! ClothWithManModel.odd(I)I -/
noncomputable def t_M_odd_27 (x1 : Int32) (c : Int32) (s : Int32 × Int64 × Int64 × MSto) : Int32 × Int64 × Int64 × MSto := (if (gI (s.2.2.2) 13 0 10) ≤ c then s else (if (v_M_has x1 c (s.2.2.2)) = 0 then ((s.1), (s.2.1), (s.2.2.1), (s.2.2.2)) else (if (s.1) = (-1) then (c, (gJ (e_M_findApart (x1 &&& ((1 <<< (c &&& 31)) ^^^ (-1))) (s.2.2.2)) 13 0 62), (gJ (e_M_findApart (x1 &&& ((1 <<< (c &&& 31)) ^^^ (-1))) (s.2.2.2)) 13 0 63), (e_M_findApart (x1 &&& ((1 <<< (c &&& 31)) ^^^ (-1))) (s.2.2.2))) else (if (v_M_isLess (gJ (e_M_findApart (x1 &&& ((1 <<< (c &&& 31)) ^^^ (-1))) (s.2.2.2)) 13 0 62) (gJ (e_M_findApart (x1 &&& ((1 <<< (c &&& 31)) ^^^ (-1))) (s.2.2.2)) 13 0 63) (s.2.1) (s.2.2.1) (e_M_findApart (x1 &&& ((1 <<< (c &&& 31)) ^^^ (-1))) (s.2.2.2))) = 0 then ((s.1), (s.2.1), (s.2.2.1), (e_M_findApart (x1 &&& ((1 <<< (c &&& 31)) ^^^ (-1))) (s.2.2.2))) else (c, (gJ (e_M_findApart (x1 &&& ((1 <<< (c &&& 31)) ^^^ (-1))) (s.2.2.2)) 13 0 62), (gJ (e_M_findApart (x1 &&& ((1 <<< (c &&& 31)) ^^^ (-1))) (s.2.2.2)) 13 0 63), (e_M_findApart (x1 &&& ((1 <<< (c &&& 31)) ^^^ (-1))) (s.2.2.2)))))))
noncomputable def q_M_odd_27s (x1 : Int32) (c : Int32) (s : Int32 × Int64 × Int64 × MSto) : Nat := (if (gI (s.2.2.2) 13 0 10) ≤ c then 1 else (if (v_M_has x1 c (s.2.2.2)) = 0 then 0 else (if (s.1) = (-1) then 0 else (if (v_M_isLess (gJ (e_M_findApart (x1 &&& ((1 <<< (c &&& 31)) ^^^ (-1))) (s.2.2.2)) 13 0 62) (gJ (e_M_findApart (x1 &&& ((1 <<< (c &&& 31)) ^^^ (-1))) (s.2.2.2)) 13 0 63) (s.2.1) (s.2.2.1) (e_M_findApart (x1 &&& ((1 <<< (c &&& 31)) ^^^ (-1))) (s.2.2.2))) = 0 then 0 else 0))))
def g_M_odd_27 (x1 : Int32) (c : Int32) (s : Int32 × Int64 × Int64 × MSto) : Prop := (¬ ((gI (s.2.2.2) 13 0 10) ≤ c) → (¬ ((v_M_has x1 c (s.2.2.2)) = 0) → ((p_M_findApart (x1 &&& ((1 <<< (c &&& 31)) ^^^ (-1))) (s.2.2.2)) ∧ (¬ ((s.1) = (-1)) → (p_M_isLess (gJ (e_M_findApart (x1 &&& ((1 <<< (c &&& 31)) ^^^ (-1))) (s.2.2.2)) 13 0 62) (gJ (e_M_findApart (x1 &&& ((1 <<< (c &&& 31)) ^^^ (-1))) (s.2.2.2)) 13 0 63) (s.2.1) (s.2.2.1) (e_M_findApart (x1 &&& ((1 <<< (c &&& 31)) ^^^ (-1))) (s.2.2.2)))))))
noncomputable def f_M_odd_27 (x1 : Int32) (c0 : Int32) (s0 : Int32 × Int64 × Int64 × MSto) (n : Nat) : Int32 × Int64 × Int64 × MSto := nfold (fun i s => t_M_odd_27 x1 (c0 + nI i) s) s0 n
noncomputable def n_M_odd_27 (x1 : Int32) (c0 : Int32) (s0 : Int32 × Int64 × Int64 × MSto) : Nat := nM (s0.2.2.2) 10
noncomputable def v_M_odd (a1 : Int32) (σ : MSto) : Int32 := (if (v_M_areCounted a1 3 4 (sI σ 13 0 52 0)) = 0 then (-1) else ((f_M_odd_27 a1 0 ((-1), 0, 1, (sI σ 13 0 52 0)) (n_M_odd_27 a1 0 ((-1), 0, 1, (sI σ 13 0 52 0)))).1))
def p_M_odd (a1 : Int32) (σ : MSto) : Prop := (¬ ((v_M_areCounted a1 3 4 (sI σ 13 0 52 0)) = 0) → ((∀ i, i < (n_M_odd_27 a1 0 ((-1), 0, 1, (sI σ 13 0 52 0))) → g_M_odd_27 a1 (0 + nI i) (f_M_odd_27 a1 0 ((-1), 0, 1, (sI σ 13 0 52 0)) i) ∧ ¬ q_M_odd_27s a1 (0 + nI i) (f_M_odd_27 a1 0 ((-1), 0, 1, (sI σ 13 0 52 0)) i) = 1) ∧ ((((gI ((f_M_odd_27 a1 0 ((-1), 0, 1, (sI σ 13 0 52 0)) (n_M_odd_27 a1 0 ((-1), 0, 1, (sI σ 13 0 52 0)))).2.2.2) 13 0 10) ≤ (0 + nI (n_M_odd_27 a1 0 ((-1), 0, 1, (sI σ 13 0 52 0))))) → (p_M_tellPart ((f_M_odd_27 a1 0 ((-1), 0, 1, (sI σ 13 0 52 0)) (n_M_odd_27 a1 0 ((-1), 0, 1, (sI σ 13 0 52 0)))).2.1) ((f_M_odd_27 a1 0 ((-1), 0, 1, (sI σ 13 0 52 0)) (n_M_odd_27 a1 0 ((-1), 0, 1, (sI σ 13 0 52 0)))).2.2.1) (sI ((f_M_odd_27 a1 0 ((-1), 0, 1, (sI σ 13 0 52 0)) (n_M_odd_27 a1 0 ((-1), 0, 1, (sI σ 13 0 52 0)))).2.2.2) 13 0 51 0))) ∧ (¬ ((gI ((f_M_odd_27 a1 0 ((-1), 0, 1, (sI σ 13 0 52 0)) (n_M_odd_27 a1 0 ((-1), 0, 1, (sI σ 13 0 52 0)))).2.2.2) 13 0 10) ≤ (0 + nI (n_M_odd_27 a1 0 ((-1), 0, 1, (sI σ 13 0 52 0))))) → False))))
noncomputable def e_M_odd (a1 : Int32) (σ : MSto) : MSto := (if (v_M_areCounted a1 3 4 (sI σ 13 0 52 0)) = 0 then (sI σ 13 0 52 0) else (e_M_tellPart ((f_M_odd_27 a1 0 ((-1), 0, 1, (sI σ 13 0 52 0)) (n_M_odd_27 a1 0 ((-1), 0, 1, (sI σ 13 0 52 0)))).2.1) ((f_M_odd_27 a1 0 ((-1), 0, 1, (sI σ 13 0 52 0)) (n_M_odd_27 a1 0 ((-1), 0, 1, (sI σ 13 0 52 0)))).2.2.1) (sI ((f_M_odd_27 a1 0 ((-1), 0, 1, (sI σ 13 0 52 0)) (n_M_odd_27 a1 0 ((-1), 0, 1, (sI σ 13 0 52 0)))).2.2.2) 13 0 51 0)))
noncomputable def S_M_odd : List MV → MSto → Option Prop × Option MV × MSto := fun as σ => match as with
  | [.inr (.inr (some (13, 0))), .inl a0] => (some (p_M_odd a0 σ), some (mI (v_M_odd a0 σ)), e_M_odd a0 σ)
  | _ => (some False, none, σ)
noncomputable def E_M_odd : MEnt := ((1, 1, 13), (3, 76, 0, 0), S_M_odd, ((⟨"ClothWithManModel", "odd", "(I)I"⟩ : MethodName), prog_14_method_64_code, 8, (some .int)))

def T_M_odd : Nat → Option (Instr × Nat × List Nat) := fun k => bif Nat.blt k 119 then (bif Nat.blt k 55 then (bif Nat.blt k 24 then (bif Nat.blt k 12 then (bif Nat.blt k 6 then (bif Nat.blt k 2 then (bif Nat.blt k 1 then (bif Nat.beq k 0 then some (.aload_n 0, 1, []) else none) else (bif Nat.beq k 1 then some (.iconst 0, 2, []) else none)) else (bif Nat.blt k 5 then (bif Nat.beq k 2 then some (.putfield 161, 5, []) else none) else (bif Nat.beq k 5 then some (.aload_n 0, 6, []) else none))) else (bif Nat.blt k 8 then (bif Nat.blt k 7 then (bif Nat.beq k 6 then some (.iload_n 1, 7, []) else none) else (bif Nat.beq k 7 then some (.iconst 3, 8, []) else none)) else (bif Nat.blt k 9 then (bif Nat.beq k 8 then some (.iconst 4, 9, []) else none) else (bif Nat.beq k 9 then some (.invokevirtual 315, 12, []) else none)))) else (bif Nat.blt k 18 then (bif Nat.blt k 16 then (bif Nat.blt k 15 then (bif Nat.beq k 12 then some (.ifCond .ne 5, 15, [17]) else none) else (bif Nat.beq k 15 then some (.iconst (-1), 16, []) else none)) else (bif Nat.blt k 17 then (bif Nat.beq k 16 then some (.ireturn, 17, []) else none) else (bif Nat.beq k 17 then some (.iconst (-1), 18, []) else none))) else (bif Nat.blt k 20 then (bif Nat.blt k 19 then (bif Nat.beq k 18 then some (.istore_n 2, 19, []) else none) else (bif Nat.beq k 19 then some (.lconst 0, 20, []) else none)) else (bif Nat.blt k 21 then (bif Nat.beq k 20 then some (.lstore_n 3, 21, []) else none) else (bif Nat.blt k 22 then (bif Nat.beq k 21 then some (.lconst 1, 22, []) else none) else (bif Nat.beq k 22 then some (.lstore 5, 24, []) else none)))))) else (bif Nat.blt k 39 then (bif Nat.blt k 30 then (bif Nat.blt k 27 then (bif Nat.blt k 25 then (bif Nat.beq k 24 then some (.iconst 0, 25, []) else none) else (bif Nat.beq k 25 then some (.istore 7, 27, []) else none)) else (bif Nat.blt k 29 then (bif Nat.beq k 27 then some (.iload 7, 29, []) else none) else (bif Nat.beq k 29 then some (.aload_n 0, 30, []) else none))) else (bif Nat.blt k 36 then (bif Nat.blt k 33 then (bif Nat.beq k 30 then some (.getfield 185, 33, []) else none) else (bif Nat.beq k 33 then some (.if_icmp .ge 72, 36, [105]) else none)) else (bif Nat.blt k 37 then (bif Nat.beq k 36 then some (.iload_n 1, 37, []) else none) else (bif Nat.beq k 37 then some (.iload 7, 39, []) else none)))) else (bif Nat.blt k 49 then (bif Nat.blt k 45 then (bif Nat.blt k 42 then (bif Nat.beq k 39 then some (.invokestatic 301, 42, []) else none) else (bif Nat.beq k 42 then some (.ifCond .ne 6, 45, [48]) else none)) else (bif Nat.blt k 48 then (bif Nat.beq k 45 then some (.goto 54, 48, [99]) else none) else (bif Nat.beq k 48 then some (.aload_n 0, 49, []) else none))) else (bif Nat.blt k 51 then (bif Nat.blt k 50 then (bif Nat.beq k 49 then some (.iload_n 1, 50, []) else none) else (bif Nat.beq k 50 then some (.iconst 1, 51, []) else none)) else (bif Nat.blt k 53 then (bif Nat.beq k 51 then some (.iload 7, 53, []) else none) else (bif Nat.blt k 54 then (bif Nat.beq k 53 then some (.ishl, 54, []) else none) else (bif Nat.beq k 54 then some (.iconst (-1), 55, []) else none))))))) else (bif Nat.blt k 88 then (bif Nat.blt k 69 then (bif Nat.blt k 61 then (bif Nat.blt k 57 then (bif Nat.blt k 56 then (bif Nat.beq k 55 then some (.ixor, 56, []) else none) else (bif Nat.beq k 56 then some (.iand, 57, []) else none)) else (bif Nat.blt k 60 then (bif Nat.beq k 57 then some (.invokevirtual 337, 60, []) else none) else (bif Nat.beq k 60 then some (.iload_n 2, 61, []) else none))) else (bif Nat.blt k 65 then (bif Nat.blt k 62 then (bif Nat.beq k 61 then some (.iconst (-1), 62, []) else none) else (bif Nat.beq k 62 then some (.if_icmp .eq 23, 65, [85]) else none)) else (bif Nat.blt k 66 then (bif Nat.beq k 65 then some (.aload_n 0, 66, []) else none) else (bif Nat.beq k 66 then some (.getfield 327, 69, []) else none)))) else (bif Nat.blt k 76 then (bif Nat.blt k 73 then (bif Nat.blt k 70 then (bif Nat.beq k 69 then some (.aload_n 0, 70, []) else none) else (bif Nat.beq k 70 then some (.getfield 330, 73, []) else none)) else (bif Nat.blt k 74 then (bif Nat.beq k 73 then some (.lload_n 3, 74, []) else none) else (bif Nat.beq k 74 then some (.lload 5, 76, []) else none))) else (bif Nat.blt k 82 then (bif Nat.blt k 79 then (bif Nat.beq k 76 then some (.invokestatic 371, 79, []) else none) else (bif Nat.beq k 79 then some (.ifCond .ne 6, 82, [85]) else none)) else (bif Nat.blt k 85 then (bif Nat.beq k 82 then some (.goto 17, 85, [99]) else none) else (bif Nat.blt k 87 then (bif Nat.beq k 85 then some (.iload 7, 87, []) else none) else (bif Nat.beq k 87 then some (.istore_n 2, 88, []) else none)))))) else (bif Nat.blt k 105 then (bif Nat.blt k 94 then (bif Nat.blt k 92 then (bif Nat.blt k 89 then (bif Nat.beq k 88 then some (.aload_n 0, 89, []) else none) else (bif Nat.beq k 89 then some (.getfield 327, 92, []) else none)) else (bif Nat.blt k 93 then (bif Nat.beq k 92 then some (.lstore_n 3, 93, []) else none) else (bif Nat.beq k 93 then some (.aload_n 0, 94, []) else none))) else (bif Nat.blt k 99 then (bif Nat.blt k 97 then (bif Nat.beq k 94 then some (.getfield 330, 97, []) else none) else (bif Nat.beq k 97 then some (.lstore 5, 99, []) else none)) else (bif Nat.blt k 102 then (bif Nat.beq k 99 then some (.iinc 7 1, 102, []) else none) else (bif Nat.beq k 102 then some (.goto (-75), 105, [27]) else none)))) else (bif Nat.blt k 111 then (bif Nat.blt k 107 then (bif Nat.blt k 106 then (bif Nat.beq k 105 then some (.aload_n 0, 106, []) else none) else (bif Nat.beq k 106 then some (.iconst 0, 107, []) else none)) else (bif Nat.blt k 110 then (bif Nat.beq k 107 then some (.putfield 164, 110, []) else none) else (bif Nat.beq k 110 then some (.aload_n 0, 111, []) else none))) else (bif Nat.blt k 114 then (bif Nat.blt k 112 then (bif Nat.beq k 111 then some (.lload_n 3, 112, []) else none) else (bif Nat.beq k 112 then some (.lload 5, 114, []) else none)) else (bif Nat.blt k 117 then (bif Nat.beq k 114 then some (.invokevirtual 321, 117, []) else none) else (bif Nat.blt k 118 then (bif Nat.beq k 117 then some (.iload_n 2, 118, []) else none) else (bif Nat.beq k 118 then some (.ireturn, 119, []) else none)))))))) else none
noncomputable def P_M_odd : MP := (T_M_odd, (fun k => mLook k [(161, (13, 52, .int, false)), (164, (13, 51, .int, false)), (185, (13, 10, .int, false)), (327, (13, 62, .long, false)), (330, (13, 63, .long, false))]), (fun k => mLook k []), (fun k => mLook k [(301, E_M_has), (315, E_M_areCounted), (321, E_M_tellPart), (337, E_M_findApart), (371, E_M_isLess)]), (fun k => mLook k []), (fun k => mLook k []), (fun k => mLook k []), (fun k => mLook k [(27, [true, true, true, true, false, true, false, true])]), (fun k => [16, 118].any (Nat.beq k)), (3, 76, 0, 0), false, (fun _ => none))
set_option maxRecDepth 100000 in
set_option maxHeartbeats 4000000 in
theorem q_M_odd_e (a1 : Int32) (σ : MSto) (n : Nat) : mexe KT P_M_odd (n + 1) (0, [some (mR 13 0), some (mI a1), none, none, none, none, none, none], [], σ, 0, 0) = (if (v_M_areCounted a1 3 4 (sI σ 13 0 52 0)) = 0 then some (16, [], [(mI (-1))], (sI σ 13 0 52 0), 0, 0) else mexe KT P_M_odd n (27, [some (mR 13 0), some (mI a1), some (mI (-1)), some (mJ 0), none, some (mJ 1), none, some (mI 0)], [], (sI σ 13 0 52 0), 0, 0)) := rfl
set_option maxRecDepth 100000 in
set_option maxHeartbeats 4000000 in
theorem q_M_odd_27 (x1 : Int32) (x2 : Int32) (x3 : Int64) (x5 : Int64) (x7 : Int32) (σ : MSto) (n : Nat) : mexe KT P_M_odd (n + 1) (27, [some (mR 13 0), some (mI x1), some (mI x2), some (mJ x3), none, some (mJ x5), none, some (mI x7)], [], σ, 0, 0) = (if (gI σ 13 0 10) ≤ x7 then mG (p_M_tellPart x3 x5 (sI σ 13 0 51 0)) (some (118, [], [(mI x2)], (e_M_tellPart x3 x5 (sI σ 13 0 51 0)), 0, 0)) else (if (v_M_has x1 x7 σ) = 0 then mexe KT P_M_odd n (27, [some (mR 13 0), some (mI x1), some (mI x2), some (mJ x3), none, some (mJ x5), none, some (mI (x7 + 1))], [], σ, 0, 0) else mG (p_M_findApart (x1 &&& ((1 <<< (x7 &&& 31)) ^^^ (-1))) σ) ((if x2 = (-1) then mexe KT P_M_odd n (27, [some (mR 13 0), some (mI x1), some (mI x7), some (mJ (gJ (e_M_findApart (x1 &&& ((1 <<< (x7 &&& 31)) ^^^ (-1))) σ) 13 0 62)), none, some (mJ (gJ (e_M_findApart (x1 &&& ((1 <<< (x7 &&& 31)) ^^^ (-1))) σ) 13 0 63)), none, some (mI (x7 + 1))], [], (e_M_findApart (x1 &&& ((1 <<< (x7 &&& 31)) ^^^ (-1))) σ), 0, 0) else mG (p_M_isLess (gJ (e_M_findApart (x1 &&& ((1 <<< (x7 &&& 31)) ^^^ (-1))) σ) 13 0 62) (gJ (e_M_findApart (x1 &&& ((1 <<< (x7 &&& 31)) ^^^ (-1))) σ) 13 0 63) x3 x5 (e_M_findApart (x1 &&& ((1 <<< (x7 &&& 31)) ^^^ (-1))) σ)) ((if (v_M_isLess (gJ (e_M_findApart (x1 &&& ((1 <<< (x7 &&& 31)) ^^^ (-1))) σ) 13 0 62) (gJ (e_M_findApart (x1 &&& ((1 <<< (x7 &&& 31)) ^^^ (-1))) σ) 13 0 63) x3 x5 (e_M_findApart (x1 &&& ((1 <<< (x7 &&& 31)) ^^^ (-1))) σ)) = 0 then mexe KT P_M_odd n (27, [some (mR 13 0), some (mI x1), some (mI x2), some (mJ x3), none, some (mJ x5), none, some (mI (x7 + 1))], [], (e_M_findApart (x1 &&& ((1 <<< (x7 &&& 31)) ^^^ (-1))) σ), 0, 0) else mexe KT P_M_odd n (27, [some (mR 13 0), some (mI x1), some (mI x7), some (mJ (gJ (e_M_findApart (x1 &&& ((1 <<< (x7 &&& 31)) ^^^ (-1))) σ) 13 0 62)), none, some (mJ (gJ (e_M_findApart (x1 &&& ((1 <<< (x7 &&& 31)) ^^^ (-1))) σ) 13 0 63)), none, some (mI (x7 + 1))], [], (e_M_findApart (x1 &&& ((1 <<< (x7 &&& 31)) ^^^ (-1))) σ), 0, 0))))))) := rfl
set_option maxRecDepth 100000 in
theorem lp_M_odd_27 {Post : MST → Prop} (x1 : Int32) (c0 : Int32) (s0 : Int32 × Int64 × Int64 × MSto) (N : Nat) (hb : ∀ i, i < N → g_M_odd_27 x1 (c0 + nI i) (f_M_odd_27 x1 c0 s0 i) ∧ ¬ q_M_odd_27s x1 (c0 + nI i) (f_M_odd_27 x1 c0 s0 i) = 1) (h : mW1 P_M_odd (27, [some (mR 13 0), some (mI x1), some (mI ((f_M_odd_27 x1 c0 s0 N).1)), some (mJ ((f_M_odd_27 x1 c0 s0 N).2.1)), none, some (mJ ((f_M_odd_27 x1 c0 s0 N).2.2.1)), none, some (mI (c0 + nI N))], [], ((f_M_odd_27 x1 c0 s0 N).2.2.2), 0, 0) Post) : mW1 P_M_odd (27, [some (mR 13 0), some (mI x1), some (mI (s0.1)), some (mJ (s0.2.1)), none, some (mJ (s0.2.2.1)), none, some (mI c0)], [], (s0.2.2.2), 0, 0) Post := by
  refine mW1_st (mW1_loop (fun i => (27, [some (mR 13 0), some (mI x1), some (mI ((f_M_odd_27 x1 c0 s0 i).1)), some (mJ ((f_M_odd_27 x1 c0 s0 i).2.1)), none, some (mJ ((f_M_odd_27 x1 c0 s0 i).2.2.1)), none, some (mI (c0 + nI i))], [], ((f_M_odd_27 x1 c0 s0 i).2.2.2), 0, 0)) N (fun i hlt hn => ?_) h) (by rw [show nI 0 = 0 from rfl, Int32.add_zero] <;> rfl)
  obtain ⟨hp, hq⟩ := hb i hlt
  have hn : mW1 P_M_odd (27, [some (mR 13 0), some (mI x1), some (mI ((t_M_odd_27 x1 (c0 + nI i) (f_M_odd_27 x1 c0 s0 i)).1)), some (mJ ((t_M_odd_27 x1 (c0 + nI i) (f_M_odd_27 x1 c0 s0 i)).2.1)), none, some (mJ ((t_M_odd_27 x1 (c0 + nI i) (f_M_odd_27 x1 c0 s0 i)).2.2.1)), none, some (mI (c0 + nI i + 1))], [], ((t_M_odd_27 x1 (c0 + nI i) (f_M_odd_27 x1 c0 s0 i)).2.2.2), 0, 0) Post := by
    rw [Int32.add_assoc, nI_s]
    exact hn
  try dsimp only
  generalize (f_M_odd_27 x1 c0 s0 i) = s at *
  generalize c0 + nI i = c at *
  clear hb h hlt
  unfold g_M_odd_27 at hp
  refine mW1_eq (q_M_odd_27 _ _ _ _ _ _) ?_
  refine mTr_if (fun h0 => ?_) (fun h0 => ?_)
  · skip
    exact absurd (by unfold q_M_odd_27s; first | (rw [if_pos h0]; done) | (rw [if_pos h0]; rfl)) hq
  · skip
    have hp := hp h0
    refine mTr_if (fun h1 => ?_) (fun h1 => ?_)
    · skip
      have e : t_M_odd_27 x1 c s = ((s.1), (s.2.1), (s.2.2.1), (s.2.2.2)) := (by unfold t_M_odd_27; first | (rw [if_neg h0, if_pos h1]; done) | (rw [if_neg h0, if_pos h1]; rfl))
      rw [e] at hn
      exact mTr_k hn
    · skip
      have hp := hp h1
      refine mTr_g hp.1 ?_
      have hp := hp.2
      refine mTr_if (fun h2 => ?_) (fun h2 => ?_)
      · skip
        have e : t_M_odd_27 x1 c s = (c, (gJ (e_M_findApart (x1 &&& ((1 <<< (c &&& 31)) ^^^ (-1))) (s.2.2.2)) 13 0 62), (gJ (e_M_findApart (x1 &&& ((1 <<< (c &&& 31)) ^^^ (-1))) (s.2.2.2)) 13 0 63), (e_M_findApart (x1 &&& ((1 <<< (c &&& 31)) ^^^ (-1))) (s.2.2.2))) := (by unfold t_M_odd_27; first | (rw [if_neg h0, if_neg h1, if_pos h2]; done) | (rw [if_neg h0, if_neg h1, if_pos h2]; rfl))
        rw [e] at hn
        exact mTr_k hn
      · skip
        have hp := hp h2
        refine mTr_g hp ?_
        refine mTr_if (fun h3 => ?_) (fun h3 => ?_)
        · skip
          have e : t_M_odd_27 x1 c s = ((s.1), (s.2.1), (s.2.2.1), (e_M_findApart (x1 &&& ((1 <<< (c &&& 31)) ^^^ (-1))) (s.2.2.2))) := (by unfold t_M_odd_27; first | (rw [if_neg h0, if_neg h1, if_neg h2, if_pos h3]; done) | (rw [if_neg h0, if_neg h1, if_neg h2, if_pos h3]; rfl))
          rw [e] at hn
          exact mTr_k hn
        · skip
          have e : t_M_odd_27 x1 c s = (c, (gJ (e_M_findApart (x1 &&& ((1 <<< (c &&& 31)) ^^^ (-1))) (s.2.2.2)) 13 0 62), (gJ (e_M_findApart (x1 &&& ((1 <<< (c &&& 31)) ^^^ (-1))) (s.2.2.2)) 13 0 63), (e_M_findApart (x1 &&& ((1 <<< (c &&& 31)) ^^^ (-1))) (s.2.2.2))) := (by unfold t_M_odd_27; first | (rw [if_neg h0, if_neg h1, if_neg h2, if_neg h3]; done) | (rw [if_neg h0, if_neg h1, if_neg h2, if_neg h3]; rfl))
          rw [e] at hn
          exact mTr_k hn
set_option maxRecDepth 100000 in
set_option maxHeartbeats 4000000 in
theorem d_M_odd (a1 : Int32) (σ : MSto) (hp : p_M_odd a1 σ) : mW1 P_M_odd (0, [some (mR 13 0), some (mI a1), none, none, none, none, none, none], [], σ, 0, 0) (mF [16, 118] [mI (v_M_odd a1 σ)] (e_M_odd a1 σ) 0 0) := by
  refine mW1_eq (q_M_odd_e _ _) ?_
  unfold p_M_odd at hp
  refine mTr_if (fun h0 => ?_) (fun h0 => ?_)
  · skip
    exact mTr_e (by decide) (by unfold v_M_odd; first | (rw [if_pos h0]; done) | (rw [if_pos h0]; rfl)) (by unfold e_M_odd; first | (rw [if_pos h0]; done) | (rw [if_pos h0]; rfl)) (by decide) (by decide)
  · skip
    have hp := hp h0
    refine mTr_k (lp_M_odd_27 a1 0 ((-1), 0, 1, (sI σ 13 0 52 0)) (n_M_odd_27 a1 0 ((-1), 0, 1, (sI σ 13 0 52 0))) hp.1 ?_)
    have hp := hp.2
    refine mW1_eq (q_M_odd_27 _ _ _ _ _ _) ?_
    refine mTr_if (fun h1 => ?_) (fun h1 => ?_)
    · skip
      have hp := hp.1 h1
      refine mTr_g hp ?_
      exact mTr_e (by decide) (by unfold v_M_odd; first | (rw [if_neg h0]; done) | (rw [if_neg h0]; rfl)) (by unfold e_M_odd; first | (rw [if_neg h0]; done) | (rw [if_neg h0]; rfl)) (by decide) (by decide)
    · skip
      have hp := hp.2 h1
      exact hp.elim
theorem li_M_371 : mLink "ClothWithManModel" 371 E_M_isLess := ⟨tw_7_177, tw_1_9, ⟨by decide, by decide⟩, by decide +kernel, Or.inl tw_7_175, (fun _ => tw_7_176), (fun h => by cases h), (fun h => by cases h)⟩





theorem tk_M_odd : ∀ pc i nx tg, T_M_odd pc = some (i, nx, tg) → mOkB prog_14_method_64_code pc i nx tg = true := code_ok (N := 119) (fun k h => by unfold T_M_odd; rw [h]; rfl) (by decide +kernel)
theorem ok_M_odd (l : Launch) : mPOK l "ClothWithManModel" prog_14_method_64_code P_M_odd := by
  refine ⟨tk_M_odd, ?_, ?_, ?_, (fun pc i nx tg kd _ h => by cases h), ?_, ?_, fun pc en h => by cases h⟩
  · intro x ci f ty fin h
    exact mLook_all (Q := fun x v => mFOK "ClothWithManModel" x v.1 v.2.1 v.2.2.1 v.2.2.2 ∧ (v.2.2.2 = true → pIni P_M_odd = true → (Cond.fieldLink "ClothWithManModel" x (((mCl[v.1]?).getD ("", fun _ => ("", "", "", false), 0)).2.1 v.2.1).1 (((mCl[v.1]?).getD ("", fun _ => ("", "", "", false), 0)).2.1 v.2.1).2.1 (((mCl[v.1]?).getD ("", fun _ => ("", "", "", false), 0)).2.1 v.2.1).2.2.1 ∈ lw_tbl ∧ (((mCl[v.1]?).getD ("", fun _ => ("", "", "", false), 0)).2.1 v.2.1).1 = "ClothWithManModel"))) (fcC ⟨fo_M_161, fun h1 h2 => by cases h1⟩ (fcC ⟨fo_M_164, fun h1 h2 => by cases h1⟩ (fcC ⟨fo_M_185, fun h1 h2 => by cases h1⟩ (fcC ⟨fo_M_327, fun h1 h2 => by cases h1⟩ (fcC ⟨fo_M_330, fun h1 h2 => by cases h1⟩ fcN))))) x (ci, f, ty, fin) h
  · intro x
    have hh := mLook_all (l := ([] : List (Nat × (Int32 ⊕ Int64)))) (Q := fun x (v : Int32 ⊕ Int64) => (∀ w, v = .inl w → Cond.constant "ClothWithManModel" x w ∈ lw_tbl) ∧ (∀ w, v = .inr w → Cond.constantLong "ClothWithManModel" x w ∈ lw_tbl)) fcN x
    exact ⟨fun w h => (hh _ h).1 w rfl, fun w h => (hh _ h).2 w rfl⟩
  · exact fun x en h => mLook_all (Q := fun x en => mLink "ClothWithManModel" x en ∧ mCtr l en ∧ (en.1.1 = 2 → en.2.2.2.2.2.2 = none)) (fcC ⟨li_M_301, c_M_has l, (fun h => by cases h)⟩ (fcC ⟨li_M_315, c_M_areCounted l, (fun h => by cases h)⟩ (fcC ⟨li_M_321, c_M_tellPart l, (fun h => by cases h)⟩ (fcC ⟨li_M_337, c_M_findApart l, (fun h => by cases h)⟩ (fcC ⟨li_M_371, c_M_isLess l, (fun h => by cases h)⟩ fcN))))) x en h
  · exact fun x kd h => mLook_all (Q := fun x kd => (kd = 95 ∧ Cond.fieldLink "ClothWithManModel" x "ClothWithMan" "LIKENESSES" "[I" ∈ lw_tbl) ∨ (kd = 96 ∧ Cond.fieldLink "ClothWithManModel" x "ClothWithMan" "APART_BOUNDS" "[I" ∈ lw_tbl)) fcN x kd h
  · exact fun x ci h => mLook_all (Q := fun x ci => ci ≠ 0 ∧ ∃ (C : String) (T : u_T) (N : Nat), mCl[ci]? = some (C, T, N) ∧ Cond.classLink "ClothWithManModel" x C ∈ lw_tbl ∧ Cond.castable C C ∈ lw_tbl) fcN x ci h
set_option maxRecDepth 100000 in
theorem c_M_odd (l : Launch) : mCtr l E_M_odd := mCtr_of (P := P_M_odd) (own := "ClothWithManModel") mLay_ok rfl (by decide +kernel) rfl (ok_M_odd l) (fun h => by cases h) (fun as σ pr rv σ' hF hpr hlv => by
  unfold E_M_odd S_M_odd at hF
  simp only [] at hF
  split at hF
  · cases hF
    obtain ⟨n, pcF, c1, s1, g1, g2, g3, g4⟩ := mF_inv (d_M_odd _ σ (hpr _ rfl))
    exact ⟨Nat.le_of_ble_eq_true rfl, (fun v h => by cases h; trivial), n, pcF, c1, s1, g1, ⟨mEnd_of (i := .ireturn) (P := P_M_odd) (rets := [16, 118]) rfl g2, rfl⟩, g3, g4⟩
  · cases hF
    exact (hpr _ rfl).elim)
/-! ClothWithManModel.partOf(IIII)J -/
noncomputable def t_M_partOf_72 (x3 : Int32) (x4 : Int32) (c : Int32) (σ : MSto) (s : Int64) : Int64 := (if (gI σ 13 0 27) ≤ c then s else (if c = x4 then s else (s * (Int32.toInt64 (v_M_fitOf c x3 σ)))))
noncomputable def q_M_partOf_72s (x3 : Int32) (x4 : Int32) (c : Int32) (σ : MSto) (s : Int64) : Nat := (if (gI σ 13 0 27) ≤ c then 1 else (if c = x4 then 0 else 0))
def g_M_partOf_72 (x3 : Int32) (x4 : Int32) (c : Int32) (σ : MSto) (s : Int64) : Prop := (¬ ((gI σ 13 0 27) ≤ c) → (¬ (c = x4) → (p_M_fitOf c x3 σ)))
noncomputable def f_M_partOf_72 (x3 : Int32) (x4 : Int32) (c0 : Int32) (σ : MSto) (s0 : Int64) (n : Nat) : Int64 := nfold (fun i s => t_M_partOf_72 x3 x4 (c0 + nI i) σ s) s0 n
noncomputable def n_M_partOf_72 (x3 : Int32) (x4 : Int32) (c0 : Int32) (σ : MSto) (s0 : Int64) : Nat := nM σ 27
noncomputable def t_M_partOf_6 (x1 : Int32) (x2 : Int32) (x3 : Int32) (x4 : Int32) (c : Int32) (σ : MSto) (s : Int64) : Int64 := (if (gI σ 13 0 10) ≤ c then s else (if (lg_cmp s 0) ≤ 0 then s else (if (v_M_has x2 c σ) = 0 then s else (s * (Int32.toInt64 (v_M_likenessOf (Int32.toInt64 (gI σ 51 0 (Int32.toNatClampNeg c))) (Int32.toInt64 (v_M_wouldOf x1 c x3 σ)) (v_M_spanOf c σ) σ))))))
noncomputable def q_M_partOf_6s (x1 : Int32) (x2 : Int32) (x3 : Int32) (x4 : Int32) (c : Int32) (σ : MSto) (s : Int64) : Nat := (if (gI σ 13 0 10) ≤ c then 1 else (if (lg_cmp s 0) ≤ 0 then 1 else (if (v_M_has x2 c σ) = 0 then 0 else 0)))
def g_M_partOf_6 (x1 : Int32) (x2 : Int32) (x3 : Int32) (x4 : Int32) (c : Int32) (σ : MSto) (s : Int64) : Prop := (¬ ((gI σ 13 0 10) ≤ c) → (¬ ((lg_cmp s 0) ≤ 0) → (¬ ((v_M_has x2 c σ) = 0) → ((vp_in c 12) ∧ ((p_M_wouldOf x1 c x3 σ) ∧ ((p_M_spanOf c σ) ∧ (p_M_likenessOf (Int32.toInt64 (gI σ 51 0 (Int32.toNatClampNeg c))) (Int32.toInt64 (v_M_wouldOf x1 c x3 σ)) (v_M_spanOf c σ) σ)))))))
noncomputable def f_M_partOf_6 (x1 : Int32) (x2 : Int32) (x3 : Int32) (x4 : Int32) (c0 : Int32) (σ : MSto) (s0 : Int64) (n : Nat) : Int64 := nfold (fun i s => t_M_partOf_6 x1 x2 x3 x4 (c0 + nI i) σ s) s0 n
noncomputable def n_M_partOf_6 (x1 : Int32) (x2 : Int32) (x3 : Int32) (x4 : Int32) (c0 : Int32) (σ : MSto) (s0 : Int64) : Nat := leastN (fun i => q_M_partOf_6s x1 x2 x3 x4 (c0 + nI i) σ (f_M_partOf_6 x1 x2 x3 x4 c0 σ s0 i) = 1) 13
noncomputable def v_M_partOf (a1 : Int32) (a2 : Int32) (a3 : Int32) (a4 : Int32) (σ : MSto) : Int64 := (if (gI σ 13 0 10) ≤ (0 + nI (n_M_partOf_6 a1 a2 a3 a4 0 σ 1)) then (f_M_partOf_72 a3 a4 0 σ (f_M_partOf_6 a1 a2 a3 a4 0 σ 1 (n_M_partOf_6 a1 a2 a3 a4 0 σ 1)) (n_M_partOf_72 a3 a4 0 σ (f_M_partOf_6 a1 a2 a3 a4 0 σ 1 (n_M_partOf_6 a1 a2 a3 a4 0 σ 1)))) else (f_M_partOf_72 a3 a4 0 σ (f_M_partOf_6 a1 a2 a3 a4 0 σ 1 (n_M_partOf_6 a1 a2 a3 a4 0 σ 1)) (n_M_partOf_72 a3 a4 0 σ (f_M_partOf_6 a1 a2 a3 a4 0 σ 1 (n_M_partOf_6 a1 a2 a3 a4 0 σ 1)))))
def p_M_partOf (a1 : Int32) (a2 : Int32) (a3 : Int32) (a4 : Int32) (σ : MSto) : Prop := ((∀ i, i < (n_M_partOf_6 a1 a2 a3 a4 0 σ 1) → g_M_partOf_6 a1 a2 a3 a4 (0 + nI i) σ (f_M_partOf_6 a1 a2 a3 a4 0 σ 1 i) ∧ ¬ q_M_partOf_6s a1 a2 a3 a4 (0 + nI i) σ (f_M_partOf_6 a1 a2 a3 a4 0 σ 1 i) = 1) ∧ ((((gI σ 13 0 10) ≤ (0 + nI (n_M_partOf_6 a1 a2 a3 a4 0 σ 1))) → ((∀ i, i < (n_M_partOf_72 a3 a4 0 σ (f_M_partOf_6 a1 a2 a3 a4 0 σ 1 (n_M_partOf_6 a1 a2 a3 a4 0 σ 1))) → g_M_partOf_72 a3 a4 (0 + nI i) σ (f_M_partOf_72 a3 a4 0 σ (f_M_partOf_6 a1 a2 a3 a4 0 σ 1 (n_M_partOf_6 a1 a2 a3 a4 0 σ 1)) i) ∧ ¬ q_M_partOf_72s a3 a4 (0 + nI i) σ (f_M_partOf_72 a3 a4 0 σ (f_M_partOf_6 a1 a2 a3 a4 0 σ 1 (n_M_partOf_6 a1 a2 a3 a4 0 σ 1)) i) = 1) ∧ (¬ ((gI σ 13 0 27) ≤ (0 + nI (n_M_partOf_72 a3 a4 0 σ (f_M_partOf_6 a1 a2 a3 a4 0 σ 1 (n_M_partOf_6 a1 a2 a3 a4 0 σ 1))))) → False))) ∧ (¬ ((gI σ 13 0 10) ≤ (0 + nI (n_M_partOf_6 a1 a2 a3 a4 0 σ 1))) → ((((lg_cmp (f_M_partOf_6 a1 a2 a3 a4 0 σ 1 (n_M_partOf_6 a1 a2 a3 a4 0 σ 1)) 0) ≤ 0) → ((∀ i, i < (n_M_partOf_72 a3 a4 0 σ (f_M_partOf_6 a1 a2 a3 a4 0 σ 1 (n_M_partOf_6 a1 a2 a3 a4 0 σ 1))) → g_M_partOf_72 a3 a4 (0 + nI i) σ (f_M_partOf_72 a3 a4 0 σ (f_M_partOf_6 a1 a2 a3 a4 0 σ 1 (n_M_partOf_6 a1 a2 a3 a4 0 σ 1)) i) ∧ ¬ q_M_partOf_72s a3 a4 (0 + nI i) σ (f_M_partOf_72 a3 a4 0 σ (f_M_partOf_6 a1 a2 a3 a4 0 σ 1 (n_M_partOf_6 a1 a2 a3 a4 0 σ 1)) i) = 1) ∧ (¬ ((gI σ 13 0 27) ≤ (0 + nI (n_M_partOf_72 a3 a4 0 σ (f_M_partOf_6 a1 a2 a3 a4 0 σ 1 (n_M_partOf_6 a1 a2 a3 a4 0 σ 1))))) → False))) ∧ (¬ ((lg_cmp (f_M_partOf_6 a1 a2 a3 a4 0 σ 1 (n_M_partOf_6 a1 a2 a3 a4 0 σ 1)) 0) ≤ 0) → False)))))
noncomputable def S_M_partOf : List MV → MSto → Option Prop × Option MV × MSto := fun as σ => match as with
  | [.inr (.inr (some (13, 0))), .inl a0, .inl a1, .inl a2, .inl a3] => (some (p_M_partOf a0 a1 a2 a3 σ), some (mJ (v_M_partOf a0 a1 a2 a3 σ)), σ)
  | _ => (some False, none, σ)
noncomputable def E_M_partOf : MEnt := ((1, 4, 13), (4, 100, 0, 0), S_M_partOf, ((⟨"ClothWithManModel", "partOf", "(IIII)J"⟩ : MethodName), prog_14_method_77_code, 8, (some .long)))

def T_M_partOf : Nat → Option (Instr × Nat × List Nat) := fun k => bif Nat.blt k 110 then (bif Nat.blt k 51 then (bif Nat.blt k 25 then (bif Nat.blt k 12 then (bif Nat.blt k 4 then (bif Nat.blt k 1 then (bif Nat.beq k 0 then some (.lconst 1, 1, []) else none) else (bif Nat.blt k 3 then (bif Nat.beq k 1 then some (.lstore 5, 3, []) else none) else (bif Nat.beq k 3 then some (.iconst 0, 4, []) else none))) else (bif Nat.blt k 8 then (bif Nat.blt k 6 then (bif Nat.beq k 4 then some (.istore 7, 6, []) else none) else (bif Nat.beq k 6 then some (.iload 7, 8, []) else none)) else (bif Nat.blt k 9 then (bif Nat.beq k 8 then some (.aload_n 0, 9, []) else none) else (bif Nat.beq k 9 then some (.getfield 185, 12, []) else none)))) else (bif Nat.blt k 18 then (bif Nat.blt k 15 then (bif Nat.beq k 12 then some (.if_icmp .ge 57, 15, [69]) else none) else (bif Nat.blt k 17 then (bif Nat.beq k 15 then some (.lload 5, 17, []) else none) else (bif Nat.beq k 17 then some (.lconst 0, 18, []) else none))) else (bif Nat.blt k 22 then (bif Nat.blt k 19 then (bif Nat.beq k 18 then some (.lcmp, 19, []) else none) else (bif Nat.beq k 19 then some (.ifCond .le 50, 22, [69]) else none)) else (bif Nat.blt k 23 then (bif Nat.beq k 22 then some (.iload_n 2, 23, []) else none) else (bif Nat.beq k 23 then some (.iload 7, 25, []) else none))))) else (bif Nat.blt k 40 then (bif Nat.blt k 33 then (bif Nat.blt k 28 then (bif Nat.beq k 25 then some (.invokestatic 301, 28, []) else none) else (bif Nat.blt k 31 then (bif Nat.beq k 28 then some (.ifCond .eq 35, 31, [63]) else none) else (bif Nat.beq k 31 then some (.lload 5, 33, []) else none))) else (bif Nat.blt k 37 then (bif Nat.blt k 34 then (bif Nat.beq k 33 then some (.aload_n 0, 34, []) else none) else (bif Nat.beq k 34 then some (.getfield 47, 37, []) else none)) else (bif Nat.blt k 39 then (bif Nat.beq k 37 then some (.iload 7, 39, []) else none) else (bif Nat.beq k 39 then some (.iaload, 40, []) else none)))) else (bif Nat.blt k 45 then (bif Nat.blt k 42 then (bif Nat.blt k 41 then (bif Nat.beq k 40 then some (.i2l, 41, []) else none) else (bif Nat.beq k 41 then some (.aload_n 0, 42, []) else none)) else (bif Nat.blt k 43 then (bif Nat.beq k 42 then some (.iload_n 1, 43, []) else none) else (bif Nat.beq k 43 then some (.iload 7, 45, []) else none))) else (bif Nat.blt k 49 then (bif Nat.blt k 46 then (bif Nat.beq k 45 then some (.iload_n 3, 46, []) else none) else (bif Nat.beq k 46 then some (.invokevirtual 391, 49, []) else none)) else (bif Nat.blt k 50 then (bif Nat.beq k 49 then some (.i2l, 50, []) else none) else (bif Nat.beq k 50 then some (.aload_n 0, 51, []) else none)))))) else (bif Nat.blt k 81 then (bif Nat.blt k 66 then (bif Nat.blt k 59 then (bif Nat.blt k 53 then (bif Nat.beq k 51 then some (.iload 7, 53, []) else none) else (bif Nat.blt k 56 then (bif Nat.beq k 53 then some (.invokevirtual 285, 56, []) else none) else (bif Nat.beq k 56 then some (.invokestatic 292, 59, []) else none))) else (bif Nat.blt k 61 then (bif Nat.blt k 60 then (bif Nat.beq k 59 then some (.i2l, 60, []) else none) else (bif Nat.beq k 60 then some (.lmul, 61, []) else none)) else (bif Nat.blt k 63 then (bif Nat.beq k 61 then some (.lstore 5, 63, []) else none) else (bif Nat.beq k 63 then some (.iinc 7 1, 66, []) else none)))) else (bif Nat.blt k 72 then (bif Nat.blt k 69 then (bif Nat.beq k 66 then some (.goto (-60), 69, [6]) else none) else (bif Nat.blt k 70 then (bif Nat.beq k 69 then some (.iconst 0, 70, []) else none) else (bif Nat.beq k 70 then some (.istore 7, 72, []) else none))) else (bif Nat.blt k 75 then (bif Nat.blt k 74 then (bif Nat.beq k 72 then some (.iload 7, 74, []) else none) else (bif Nat.beq k 74 then some (.aload_n 0, 75, []) else none)) else (bif Nat.blt k 78 then (bif Nat.beq k 75 then some (.getfield 394, 78, []) else none) else (bif Nat.beq k 78 then some (.if_icmp .ge 29, 81, [107]) else none))))) else (bif Nat.blt k 94 then (bif Nat.blt k 88 then (bif Nat.blt k 83 then (bif Nat.beq k 81 then some (.iload 7, 83, []) else none) else (bif Nat.blt k 85 then (bif Nat.beq k 83 then some (.iload 4, 85, []) else none) else (bif Nat.beq k 85 then some (.if_icmp .eq 16, 88, [101]) else none))) else (bif Nat.blt k 91 then (bif Nat.blt k 90 then (bif Nat.beq k 88 then some (.lload 5, 90, []) else none) else (bif Nat.beq k 90 then some (.aload_n 0, 91, []) else none)) else (bif Nat.blt k 93 then (bif Nat.beq k 91 then some (.iload 7, 93, []) else none) else (bif Nat.beq k 93 then some (.iload_n 3, 94, []) else none)))) else (bif Nat.blt k 101 then (bif Nat.blt k 98 then (bif Nat.blt k 97 then (bif Nat.beq k 94 then some (.invokevirtual 397, 97, []) else none) else (bif Nat.beq k 97 then some (.i2l, 98, []) else none)) else (bif Nat.blt k 99 then (bif Nat.beq k 98 then some (.lmul, 99, []) else none) else (bif Nat.beq k 99 then some (.lstore 5, 101, []) else none))) else (bif Nat.blt k 107 then (bif Nat.blt k 104 then (bif Nat.beq k 101 then some (.iinc 7 1, 104, []) else none) else (bif Nat.beq k 104 then some (.goto (-32), 107, [72]) else none)) else (bif Nat.blt k 109 then (bif Nat.beq k 107 then some (.lload 5, 109, []) else none) else (bif Nat.beq k 109 then some (.lreturn, 110, []) else none))))))) else none
noncomputable def P_M_partOf : MP := (T_M_partOf, (fun k => mLook k [(47, (13, 16, (.array .int), true)), (185, (13, 10, .int, false)), (394, (13, 27, .int, false))]), (fun k => mLook k []), (fun k => mLook k [(285, E_M_spanOf), (292, E_M_likenessOf), (301, E_M_has), (391, E_M_wouldOf), (397, E_M_fitOf)]), (fun k => mLook k []), (fun k => mLook k []), (fun k => mLook k []), (fun k => mLook k [(6, [true, true, true, true, true, true, false, true]), (72, [true, false, false, true, true, true, false, true])]), (fun k => [109].any (Nat.beq k)), (4, 100, 0, 0), false, (fun _ => none))
set_option maxRecDepth 100000 in
set_option maxHeartbeats 4000000 in
theorem q_M_partOf_e (a1 : Int32) (a2 : Int32) (a3 : Int32) (a4 : Int32) (σ : MSto) (n : Nat) : mexe KT P_M_partOf (n + 1) (0, [some (mR 13 0), some (mI a1), some (mI a2), some (mI a3), some (mI a4), none, none, none], [], σ, 0, 0) = mexe KT P_M_partOf n (6, [some (mR 13 0), some (mI a1), some (mI a2), some (mI a3), some (mI a4), some (mJ 1), none, some (mI 0)], [], σ, 0, 0) := rfl
set_option maxRecDepth 100000 in
set_option maxHeartbeats 4000000 in
theorem q_M_partOf_6 (x1 : Int32) (x2 : Int32) (x3 : Int32) (x4 : Int32) (x5 : Int64) (x7 : Int32) (σ : MSto) (n : Nat) : mexe KT P_M_partOf (n + 1) (6, [some (mR 13 0), some (mI x1), some (mI x2), some (mI x3), some (mI x4), some (mJ x5), none, some (mI x7)], [], σ, 0, 0) = (if (gI σ 13 0 10) ≤ x7 then mexe KT P_M_partOf n (72, [some (mR 13 0), none, none, some (mI x3), some (mI x4), some (mJ x5), none, some (mI 0)], [], σ, 0, 0) else (if (lg_cmp x5 0) ≤ 0 then mexe KT P_M_partOf n (72, [some (mR 13 0), none, none, some (mI x3), some (mI x4), some (mJ x5), none, some (mI 0)], [], σ, 0, 0) else (if (v_M_has x2 x7 σ) = 0 then mexe KT P_M_partOf n (6, [some (mR 13 0), some (mI x1), some (mI x2), some (mI x3), some (mI x4), some (mJ x5), none, some (mI (x7 + 1))], [], σ, 0, 0) else mG (vp_in x7 12) (mG (p_M_wouldOf x1 x7 x3 σ) (mG (p_M_spanOf x7 σ) (mG (p_M_likenessOf (Int32.toInt64 (gI σ 51 0 (Int32.toNatClampNeg x7))) (Int32.toInt64 (v_M_wouldOf x1 x7 x3 σ)) (v_M_spanOf x7 σ) σ) (mexe KT P_M_partOf n (6, [some (mR 13 0), some (mI x1), some (mI x2), some (mI x3), some (mI x4), some (mJ (x5 * (Int32.toInt64 (v_M_likenessOf (Int32.toInt64 (gI σ 51 0 (Int32.toNatClampNeg x7))) (Int32.toInt64 (v_M_wouldOf x1 x7 x3 σ)) (v_M_spanOf x7 σ) σ)))), none, some (mI (x7 + 1))], [], σ, 0, 0)))))))) := rfl
set_option maxRecDepth 100000 in
set_option maxHeartbeats 4000000 in
theorem q_M_partOf_72 (x3 : Int32) (x4 : Int32) (x5 : Int64) (x7 : Int32) (σ : MSto) (n : Nat) : mexe KT P_M_partOf (n + 1) (72, [some (mR 13 0), none, none, some (mI x3), some (mI x4), some (mJ x5), none, some (mI x7)], [], σ, 0, 0) = (if (gI σ 13 0 27) ≤ x7 then some (109, [], [(mJ x5)], σ, 0, 0) else (if x7 = x4 then mexe KT P_M_partOf n (72, [some (mR 13 0), none, none, some (mI x3), some (mI x4), some (mJ x5), none, some (mI (x7 + 1))], [], σ, 0, 0) else mG (p_M_fitOf x7 x3 σ) (mexe KT P_M_partOf n (72, [some (mR 13 0), none, none, some (mI x3), some (mI x4), some (mJ (x5 * (Int32.toInt64 (v_M_fitOf x7 x3 σ)))), none, some (mI (x7 + 1))], [], σ, 0, 0)))) := rfl
set_option maxRecDepth 100000 in
theorem lp_M_partOf_72 {Post : MST → Prop} (x3 : Int32) (x4 : Int32) (c0 : Int32) (σ : MSto) (s0 : Int64) (N : Nat) (hb : ∀ i, i < N → g_M_partOf_72 x3 x4 (c0 + nI i) σ (f_M_partOf_72 x3 x4 c0 σ s0 i) ∧ ¬ q_M_partOf_72s x3 x4 (c0 + nI i) σ (f_M_partOf_72 x3 x4 c0 σ s0 i) = 1) (h : mW1 P_M_partOf (72, [some (mR 13 0), none, none, some (mI x3), some (mI x4), some (mJ (f_M_partOf_72 x3 x4 c0 σ s0 N)), none, some (mI (c0 + nI N))], [], σ, 0, 0) Post) : mW1 P_M_partOf (72, [some (mR 13 0), none, none, some (mI x3), some (mI x4), some (mJ s0), none, some (mI c0)], [], σ, 0, 0) Post := by
  refine mW1_st (mW1_loop (fun i => (72, [some (mR 13 0), none, none, some (mI x3), some (mI x4), some (mJ (f_M_partOf_72 x3 x4 c0 σ s0 i)), none, some (mI (c0 + nI i))], [], σ, 0, 0)) N (fun i hlt hn => ?_) h) (by rw [show nI 0 = 0 from rfl, Int32.add_zero] <;> rfl)
  obtain ⟨hp, hq⟩ := hb i hlt
  have hn : mW1 P_M_partOf (72, [some (mR 13 0), none, none, some (mI x3), some (mI x4), some (mJ (t_M_partOf_72 x3 x4 (c0 + nI i) σ (f_M_partOf_72 x3 x4 c0 σ s0 i))), none, some (mI (c0 + nI i + 1))], [], σ, 0, 0) Post := by
    rw [Int32.add_assoc, nI_s]
    exact hn
  try dsimp only
  generalize (f_M_partOf_72 x3 x4 c0 σ s0 i) = s at *
  generalize c0 + nI i = c at *
  clear hb h hlt
  unfold g_M_partOf_72 at hp
  refine mW1_eq (q_M_partOf_72 _ _ _ _ _) ?_
  refine mTr_if (fun h0 => ?_) (fun h0 => ?_)
  · skip
    exact absurd (by unfold q_M_partOf_72s; first | (rw [if_pos h0]; done) | (rw [if_pos h0]; rfl)) hq
  · skip
    have hp := hp h0
    refine mTr_if (fun h1 => ?_) (fun h1 => ?_)
    · skip
      have e : t_M_partOf_72 x3 x4 c σ s = s := (by unfold t_M_partOf_72; first | (rw [if_neg h0, if_pos h1]; done) | (rw [if_neg h0, if_pos h1]; rfl))
      rw [e] at hn
      exact mTr_k hn
    · skip
      have hp := hp h1
      refine mTr_g hp ?_
      have e : t_M_partOf_72 x3 x4 c σ s = (s * (Int32.toInt64 (v_M_fitOf c x3 σ))) := (by unfold t_M_partOf_72; first | (rw [if_neg h0, if_neg h1]; done) | (rw [if_neg h0, if_neg h1]; rfl))
      rw [e] at hn
      exact mTr_k hn
set_option maxRecDepth 100000 in
theorem lp_M_partOf_6 {Post : MST → Prop} (x1 : Int32) (x2 : Int32) (x3 : Int32) (x4 : Int32) (c0 : Int32) (σ : MSto) (s0 : Int64) (N : Nat) (hb : ∀ i, i < N → g_M_partOf_6 x1 x2 x3 x4 (c0 + nI i) σ (f_M_partOf_6 x1 x2 x3 x4 c0 σ s0 i) ∧ ¬ q_M_partOf_6s x1 x2 x3 x4 (c0 + nI i) σ (f_M_partOf_6 x1 x2 x3 x4 c0 σ s0 i) = 1) (h : mW1 P_M_partOf (6, [some (mR 13 0), some (mI x1), some (mI x2), some (mI x3), some (mI x4), some (mJ (f_M_partOf_6 x1 x2 x3 x4 c0 σ s0 N)), none, some (mI (c0 + nI N))], [], σ, 0, 0) Post) : mW1 P_M_partOf (6, [some (mR 13 0), some (mI x1), some (mI x2), some (mI x3), some (mI x4), some (mJ s0), none, some (mI c0)], [], σ, 0, 0) Post := by
  refine mW1_st (mW1_loop (fun i => (6, [some (mR 13 0), some (mI x1), some (mI x2), some (mI x3), some (mI x4), some (mJ (f_M_partOf_6 x1 x2 x3 x4 c0 σ s0 i)), none, some (mI (c0 + nI i))], [], σ, 0, 0)) N (fun i hlt hn => ?_) h) (by rw [show nI 0 = 0 from rfl, Int32.add_zero] <;> rfl)
  obtain ⟨hp, hq⟩ := hb i hlt
  have hn : mW1 P_M_partOf (6, [some (mR 13 0), some (mI x1), some (mI x2), some (mI x3), some (mI x4), some (mJ (t_M_partOf_6 x1 x2 x3 x4 (c0 + nI i) σ (f_M_partOf_6 x1 x2 x3 x4 c0 σ s0 i))), none, some (mI (c0 + nI i + 1))], [], σ, 0, 0) Post := by
    rw [Int32.add_assoc, nI_s]
    exact hn
  try dsimp only
  generalize (f_M_partOf_6 x1 x2 x3 x4 c0 σ s0 i) = s at *
  generalize c0 + nI i = c at *
  clear hb h hlt
  unfold g_M_partOf_6 at hp
  refine mW1_eq (q_M_partOf_6 _ _ _ _ _ _ _) ?_
  refine mTr_if (fun h0 => ?_) (fun h0 => ?_)
  · skip
    exact absurd (by unfold q_M_partOf_6s; first | (rw [if_pos h0]; done) | (rw [if_pos h0]; rfl)) hq
  · skip
    have hp := hp h0
    refine mTr_if (fun h1 => ?_) (fun h1 => ?_)
    · skip
      exact absurd (by unfold q_M_partOf_6s; first | (rw [if_neg h0, if_pos h1]; done) | (rw [if_neg h0, if_pos h1]; rfl)) hq
    · skip
      have hp := hp h1
      refine mTr_if (fun h2 => ?_) (fun h2 => ?_)
      · skip
        have e : t_M_partOf_6 x1 x2 x3 x4 c σ s = s := (by unfold t_M_partOf_6; first | (rw [if_neg h0, if_neg h1, if_pos h2]; done) | (rw [if_neg h0, if_neg h1, if_pos h2]; rfl))
        rw [e] at hn
        exact mTr_k hn
      · skip
        have hp := hp h2
        refine mTr_g hp.1 ?_
        have hp := hp.2
        refine mTr_g hp.1 ?_
        have hp := hp.2
        refine mTr_g hp.1 ?_
        have hp := hp.2
        refine mTr_g hp ?_
        have e : t_M_partOf_6 x1 x2 x3 x4 c σ s = (s * (Int32.toInt64 (v_M_likenessOf (Int32.toInt64 (gI σ 51 0 (Int32.toNatClampNeg c))) (Int32.toInt64 (v_M_wouldOf x1 c x3 σ)) (v_M_spanOf c σ) σ))) := (by unfold t_M_partOf_6; first | (rw [if_neg h0, if_neg h1, if_neg h2]; done) | (rw [if_neg h0, if_neg h1, if_neg h2]; rfl))
        rw [e] at hn
        exact mTr_k hn
set_option maxRecDepth 100000 in
set_option maxHeartbeats 4000000 in
theorem d_M_partOf (a1 : Int32) (a2 : Int32) (a3 : Int32) (a4 : Int32) (σ : MSto) (hp : p_M_partOf a1 a2 a3 a4 σ) : mW1 P_M_partOf (0, [some (mR 13 0), some (mI a1), some (mI a2), some (mI a3), some (mI a4), none, none, none], [], σ, 0, 0) (mF [109] [mJ (v_M_partOf a1 a2 a3 a4 σ)] σ 0 0) := by
  refine mW1_eq (q_M_partOf_e _ _ _ _ _) ?_
  unfold p_M_partOf at hp
  refine mTr_k (lp_M_partOf_6 a1 a2 a3 a4 0 σ 1 (n_M_partOf_6 a1 a2 a3 a4 0 σ 1) hp.1 ?_)
  have hp := hp.2
  refine mW1_eq (q_M_partOf_6 _ _ _ _ _ _ _) ?_
  refine mTr_if (fun h0 => ?_) (fun h0 => ?_)
  · skip
    have hp := hp.1 h0
    refine mTr_k (lp_M_partOf_72 a3 a4 0 σ (f_M_partOf_6 a1 a2 a3 a4 0 σ 1 (n_M_partOf_6 a1 a2 a3 a4 0 σ 1)) (n_M_partOf_72 a3 a4 0 σ (f_M_partOf_6 a1 a2 a3 a4 0 σ 1 (n_M_partOf_6 a1 a2 a3 a4 0 σ 1))) hp.1 ?_)
    have hp := hp.2
    refine mW1_eq (q_M_partOf_72 _ _ _ _ _) ?_
    refine mTr_if (fun h1 => ?_) (fun h1 => ?_)
    · skip
      exact mTr_e (by decide) (by unfold v_M_partOf; first | (rw [if_pos h0]; done) | (rw [if_pos h0]; rfl)) rfl (by decide) (by decide)
    · skip
      have hp := hp h1
      exact hp.elim
  · skip
    have hp := hp.2 h0
    refine mTr_if (fun h1 => ?_) (fun h1 => ?_)
    · skip
      have hp := hp.1 h1
      refine mTr_k (lp_M_partOf_72 a3 a4 0 σ (f_M_partOf_6 a1 a2 a3 a4 0 σ 1 (n_M_partOf_6 a1 a2 a3 a4 0 σ 1)) (n_M_partOf_72 a3 a4 0 σ (f_M_partOf_6 a1 a2 a3 a4 0 σ 1 (n_M_partOf_6 a1 a2 a3 a4 0 σ 1))) hp.1 ?_)
      have hp := hp.2
      refine mW1_eq (q_M_partOf_72 _ _ _ _ _) ?_
      refine mTr_if (fun h2 => ?_) (fun h2 => ?_)
      · skip
        exact mTr_e (by decide) (by unfold v_M_partOf; first | (rw [if_neg h0]; done) | (rw [if_neg h0]; rfl)) rfl (by decide) (by decide)
      · skip
        have hp := hp h2
        exact hp.elim
    · skip
      have hp := hp.2 h1
      exact hp.elim
theorem li_M_397 : mLink "ClothWithManModel" 397 E_M_fitOf := ⟨tw_8_5, tw_1_9, ⟨by decide, by decide⟩, by decide +kernel, Or.inl tw_8_2, (fun h => by cases h), (fun _ => ⟨tw_8_4, tw_0_82, TX12, 71, rfl⟩), (fun h => by cases h)⟩





theorem tk_M_partOf : ∀ pc i nx tg, T_M_partOf pc = some (i, nx, tg) → mOkB prog_14_method_77_code pc i nx tg = true := code_ok (N := 110) (fun k h => by unfold T_M_partOf; rw [h]; rfl) (by decide +kernel)
theorem ok_M_partOf (l : Launch) : mPOK l "ClothWithManModel" prog_14_method_77_code P_M_partOf := by
  refine ⟨tk_M_partOf, ?_, ?_, ?_, (fun pc i nx tg kd _ h => by cases h), ?_, ?_, fun pc en h => by cases h⟩
  · intro x ci f ty fin h
    exact mLook_all (Q := fun x v => mFOK "ClothWithManModel" x v.1 v.2.1 v.2.2.1 v.2.2.2 ∧ (v.2.2.2 = true → pIni P_M_partOf = true → (Cond.fieldLink "ClothWithManModel" x (((mCl[v.1]?).getD ("", fun _ => ("", "", "", false), 0)).2.1 v.2.1).1 (((mCl[v.1]?).getD ("", fun _ => ("", "", "", false), 0)).2.1 v.2.1).2.1 (((mCl[v.1]?).getD ("", fun _ => ("", "", "", false), 0)).2.1 v.2.1).2.2.1 ∈ lw_tbl ∧ (((mCl[v.1]?).getD ("", fun _ => ("", "", "", false), 0)).2.1 v.2.1).1 = "ClothWithManModel"))) (fcC ⟨fo_M_47, fun h1 h2 => by cases h2⟩ (fcC ⟨fo_M_185, fun h1 h2 => by cases h1⟩ (fcC ⟨fo_M_394, fun h1 h2 => by cases h1⟩ fcN))) x (ci, f, ty, fin) h
  · intro x
    have hh := mLook_all (l := ([] : List (Nat × (Int32 ⊕ Int64)))) (Q := fun x (v : Int32 ⊕ Int64) => (∀ w, v = .inl w → Cond.constant "ClothWithManModel" x w ∈ lw_tbl) ∧ (∀ w, v = .inr w → Cond.constantLong "ClothWithManModel" x w ∈ lw_tbl)) fcN x
    exact ⟨fun w h => (hh _ h).1 w rfl, fun w h => (hh _ h).2 w rfl⟩
  · exact fun x en h => mLook_all (Q := fun x en => mLink "ClothWithManModel" x en ∧ mCtr l en ∧ (en.1.1 = 2 → en.2.2.2.2.2.2 = none)) (fcC ⟨li_M_285, c_M_spanOf l, (fun h => by cases h)⟩ (fcC ⟨li_M_292, c_M_likenessOf l, (fun h => by cases h)⟩ (fcC ⟨li_M_301, c_M_has l, (fun h => by cases h)⟩ (fcC ⟨li_M_391, c_M_wouldOf l, (fun h => by cases h)⟩ (fcC ⟨li_M_397, c_M_fitOf l, (fun h => by cases h)⟩ fcN))))) x en h
  · exact fun x kd h => mLook_all (Q := fun x kd => (kd = 95 ∧ Cond.fieldLink "ClothWithManModel" x "ClothWithMan" "LIKENESSES" "[I" ∈ lw_tbl) ∨ (kd = 96 ∧ Cond.fieldLink "ClothWithManModel" x "ClothWithMan" "APART_BOUNDS" "[I" ∈ lw_tbl)) fcN x kd h
  · exact fun x ci h => mLook_all (Q := fun x ci => ci ≠ 0 ∧ ∃ (C : String) (T : u_T) (N : Nat), mCl[ci]? = some (C, T, N) ∧ Cond.classLink "ClothWithManModel" x C ∈ lw_tbl ∧ Cond.castable C C ∈ lw_tbl) fcN x ci h
set_option maxRecDepth 100000 in
theorem c_M_partOf (l : Launch) : mCtr l E_M_partOf := mCtr_of (P := P_M_partOf) (own := "ClothWithManModel") mLay_ok rfl (by decide +kernel) rfl (ok_M_partOf l) (fun h => by cases h) (fun as σ pr rv σ' hF hpr hlv => by
  unfold E_M_partOf S_M_partOf at hF
  simp only [] at hF
  split at hF
  · cases hF
    obtain ⟨n, pcF, c1, s1, g1, g2, g3, g4⟩ := mF_inv (d_M_partOf _ _ _ _ σ (hpr _ rfl))
    exact ⟨Nat.le_of_ble_eq_true rfl, (fun v h => by cases h; trivial), n, pcF, c1, s1, g1, mEnd_of (i := .lreturn) (P := P_M_partOf) (rets := [109]) rfl g2, g3, g4⟩
  · cases hF
    exact (hpr _ rfl).elim)
/-! ClothWithManModel.storyWeight(III)J -/
noncomputable def t_M_storyWeight_33 (x1 : Int32) (x2 : Int32) (x3 : Int32) (c : Int32) (σ : MSto) (s : Int64) : Int64 := (if 200 ≤ c then s else (s + (v_M_partOf x1 x2 c x3 σ)))
noncomputable def q_M_storyWeight_33s (x1 : Int32) (x2 : Int32) (x3 : Int32) (c : Int32) (σ : MSto) (s : Int64) : Nat := (if 200 ≤ c then 1 else 0)
def g_M_storyWeight_33 (x1 : Int32) (x2 : Int32) (x3 : Int32) (c : Int32) (σ : MSto) (s : Int64) : Prop := (¬ (200 ≤ c) → (p_M_partOf x1 x2 c x3 σ))
noncomputable def f_M_storyWeight_33 (x1 : Int32) (x2 : Int32) (x3 : Int32) (c0 : Int32) (σ : MSto) (s0 : Int64) (n : Nat) : Int64 := nfold (fun i s => t_M_storyWeight_33 x1 x2 x3 (c0 + nI i) σ s) s0 n
noncomputable def n_M_storyWeight_33 (x1 : Int32) (x2 : Int32) (x3 : Int32) (c0 : Int32) (σ : MSto) (s0 : Int64) : Nat := 200
noncomputable def v_M_storyWeight (a1 : Int32) (a2 : Int32) (a3 : Int32) (σ : MSto) : Int64 := (if (v_M_hasTerm a1 1 σ) = 0 then (f_M_storyWeight_33 a1 a2 a3 0 σ 0 (n_M_storyWeight_33 a1 a2 a3 0 σ 0)) else ((v_M_partOf a1 a2 (gI σ 52 0 (Int32.toNatClampNeg a1)) a3 σ) * 200))
def p_M_storyWeight (a1 : Int32) (a2 : Int32) (a3 : Int32) (σ : MSto) : Prop := ((p_M_hasTerm a1 1 σ) ∧ ((((v_M_hasTerm a1 1 σ) = 0) → ((∀ i, i < (n_M_storyWeight_33 a1 a2 a3 0 σ 0) → g_M_storyWeight_33 a1 a2 a3 (0 + nI i) σ (f_M_storyWeight_33 a1 a2 a3 0 σ 0 i) ∧ ¬ q_M_storyWeight_33s a1 a2 a3 (0 + nI i) σ (f_M_storyWeight_33 a1 a2 a3 0 σ 0 i) = 1) ∧ (¬ (200 ≤ (0 + nI (n_M_storyWeight_33 a1 a2 a3 0 σ 0))) → False))) ∧ (¬ ((v_M_hasTerm a1 1 σ) = 0) → ((vp_in a1 6) ∧ (p_M_partOf a1 a2 (gI σ 52 0 (Int32.toNatClampNeg a1)) a3 σ)))))
noncomputable def S_M_storyWeight : List MV → MSto → Option Prop × Option MV × MSto := fun as σ => match as with
  | [.inr (.inr (some (13, 0))), .inl a0, .inl a1, .inl a2] => (some (p_M_storyWeight a0 a1 a2 σ), some (mJ (v_M_storyWeight a0 a1 a2 σ)), σ)
  | _ => (some False, none, σ)
noncomputable def E_M_storyWeight : MEnt := ((1, 3, 13), (5, 127, 0, 0), S_M_storyWeight, ((⟨"ClothWithManModel", "storyWeight", "(III)J"⟩ : MethodName), prog_14_method_78_code, 7, (some .long)))

def T_M_storyWeight : Nat → Option (Instr × Nat × List Nat) := fun k => bif Nat.blt k 64 then (bif Nat.blt k 28 then (bif Nat.blt k 13 then (bif Nat.blt k 6 then (bif Nat.blt k 2 then (bif Nat.blt k 1 then (bif Nat.beq k 0 then some (.aload_n 0, 1, []) else none) else (bif Nat.beq k 1 then some (.iload_n 1, 2, []) else none)) else (bif Nat.blt k 3 then (bif Nat.beq k 2 then some (.iconst 1, 3, []) else none) else (bif Nat.beq k 3 then some (.invokevirtual 384, 6, []) else none))) else (bif Nat.blt k 10 then (bif Nat.blt k 9 then (bif Nat.beq k 6 then some (.ifCond .eq 21, 9, [27]) else none) else (bif Nat.beq k 9 then some (.aload_n 0, 10, []) else none)) else (bif Nat.blt k 11 then (bif Nat.beq k 10 then some (.iload_n 1, 11, []) else none) else (bif Nat.blt k 12 then (bif Nat.beq k 11 then some (.iload_n 2, 12, []) else none) else (bif Nat.beq k 12 then some (.aload_n 0, 13, []) else none))))) else (bif Nat.blt k 19 then (bif Nat.blt k 17 then (bif Nat.blt k 16 then (bif Nat.beq k 13 then some (.getfield 50, 16, []) else none) else (bif Nat.beq k 16 then some (.iload_n 1, 17, []) else none)) else (bif Nat.blt k 18 then (bif Nat.beq k 17 then some (.iaload, 18, []) else none) else (bif Nat.beq k 18 then some (.iload_n 3, 19, []) else none))) else (bif Nat.blt k 25 then (bif Nat.blt k 22 then (bif Nat.beq k 19 then some (.invokevirtual 400, 22, []) else none) else (bif Nat.beq k 22 then some (.ldc2_w 404, 25, []) else none)) else (bif Nat.blt k 26 then (bif Nat.beq k 25 then some (.lmul, 26, []) else none) else (bif Nat.blt k 27 then (bif Nat.beq k 26 then some (.lreturn, 27, []) else none) else (bif Nat.beq k 27 then some (.lconst 0, 28, []) else none)))))) else (bif Nat.blt k 45 then (bif Nat.blt k 35 then (bif Nat.blt k 31 then (bif Nat.blt k 30 then (bif Nat.beq k 28 then some (.lstore 4, 30, []) else none) else (bif Nat.beq k 30 then some (.iconst 0, 31, []) else none)) else (bif Nat.blt k 33 then (bif Nat.beq k 31 then some (.istore 6, 33, []) else none) else (bif Nat.beq k 33 then some (.iload 6, 35, []) else none))) else (bif Nat.blt k 41 then (bif Nat.blt k 38 then (bif Nat.beq k 35 then some (.sipush 200, 38, []) else none) else (bif Nat.beq k 38 then some (.if_icmp .ge 23, 41, [61]) else none)) else (bif Nat.blt k 43 then (bif Nat.beq k 41 then some (.lload 4, 43, []) else none) else (bif Nat.blt k 44 then (bif Nat.beq k 43 then some (.aload_n 0, 44, []) else none) else (bif Nat.beq k 44 then some (.iload_n 1, 45, []) else none))))) else (bif Nat.blt k 53 then (bif Nat.blt k 48 then (bif Nat.blt k 46 then (bif Nat.beq k 45 then some (.iload_n 2, 46, []) else none) else (bif Nat.beq k 46 then some (.iload 6, 48, []) else none)) else (bif Nat.blt k 49 then (bif Nat.beq k 48 then some (.iload_n 3, 49, []) else none) else (bif Nat.blt k 52 then (bif Nat.beq k 49 then some (.invokevirtual 400, 52, []) else none) else (bif Nat.beq k 52 then some (.ladd, 53, []) else none)))) else (bif Nat.blt k 58 then (bif Nat.blt k 55 then (bif Nat.beq k 53 then some (.lstore 4, 55, []) else none) else (bif Nat.beq k 55 then some (.iinc 6 1, 58, []) else none)) else (bif Nat.blt k 61 then (bif Nat.beq k 58 then some (.goto (-25), 61, [33]) else none) else (bif Nat.blt k 63 then (bif Nat.beq k 61 then some (.lload 4, 63, []) else none) else (bif Nat.beq k 63 then some (.lreturn, 64, []) else none))))))) else none
noncomputable def P_M_storyWeight : MP := (T_M_storyWeight, (fun k => mLook k [(50, (13, 18, (.array .int), true))]), (fun k => mLook k [(404, .inr 200)]), (fun k => mLook k [(384, E_M_hasTerm), (400, E_M_partOf)]), (fun k => mLook k []), (fun k => mLook k []), (fun k => mLook k []), (fun k => mLook k [(33, [true, true, true, true, true, false, true])]), (fun k => [26, 63].any (Nat.beq k)), (5, 127, 0, 0), false, (fun _ => none))
set_option maxRecDepth 100000 in
set_option maxHeartbeats 4000000 in
theorem q_M_storyWeight_e (a1 : Int32) (a2 : Int32) (a3 : Int32) (σ : MSto) (n : Nat) : mexe KT P_M_storyWeight (n + 1) (0, [some (mR 13 0), some (mI a1), some (mI a2), some (mI a3), none, none, none], [], σ, 0, 0) = mG (p_M_hasTerm a1 1 σ) ((if (v_M_hasTerm a1 1 σ) = 0 then mexe KT P_M_storyWeight n (33, [some (mR 13 0), some (mI a1), some (mI a2), some (mI a3), some (mJ 0), none, some (mI 0)], [], σ, 0, 0) else mG (vp_in a1 6) (mG (p_M_partOf a1 a2 (gI σ 52 0 (Int32.toNatClampNeg a1)) a3 σ) (some (26, [], [(mJ ((v_M_partOf a1 a2 (gI σ 52 0 (Int32.toNatClampNeg a1)) a3 σ) * 200))], σ, 0, 0))))) := rfl
set_option maxRecDepth 100000 in
set_option maxHeartbeats 4000000 in
theorem q_M_storyWeight_33 (x1 : Int32) (x2 : Int32) (x3 : Int32) (x4 : Int64) (x6 : Int32) (σ : MSto) (n : Nat) : mexe KT P_M_storyWeight (n + 1) (33, [some (mR 13 0), some (mI x1), some (mI x2), some (mI x3), some (mJ x4), none, some (mI x6)], [], σ, 0, 0) = (if 200 ≤ x6 then some (63, [], [(mJ x4)], σ, 0, 0) else mG (p_M_partOf x1 x2 x6 x3 σ) (mexe KT P_M_storyWeight n (33, [some (mR 13 0), some (mI x1), some (mI x2), some (mI x3), some (mJ (x4 + (v_M_partOf x1 x2 x6 x3 σ))), none, some (mI (x6 + 1))], [], σ, 0, 0))) := rfl
set_option maxRecDepth 100000 in
theorem lp_M_storyWeight_33 {Post : MST → Prop} (x1 : Int32) (x2 : Int32) (x3 : Int32) (c0 : Int32) (σ : MSto) (s0 : Int64) (N : Nat) (hb : ∀ i, i < N → g_M_storyWeight_33 x1 x2 x3 (c0 + nI i) σ (f_M_storyWeight_33 x1 x2 x3 c0 σ s0 i) ∧ ¬ q_M_storyWeight_33s x1 x2 x3 (c0 + nI i) σ (f_M_storyWeight_33 x1 x2 x3 c0 σ s0 i) = 1) (h : mW1 P_M_storyWeight (33, [some (mR 13 0), some (mI x1), some (mI x2), some (mI x3), some (mJ (f_M_storyWeight_33 x1 x2 x3 c0 σ s0 N)), none, some (mI (c0 + nI N))], [], σ, 0, 0) Post) : mW1 P_M_storyWeight (33, [some (mR 13 0), some (mI x1), some (mI x2), some (mI x3), some (mJ s0), none, some (mI c0)], [], σ, 0, 0) Post := by
  refine mW1_st (mW1_loop (fun i => (33, [some (mR 13 0), some (mI x1), some (mI x2), some (mI x3), some (mJ (f_M_storyWeight_33 x1 x2 x3 c0 σ s0 i)), none, some (mI (c0 + nI i))], [], σ, 0, 0)) N (fun i hlt hn => ?_) h) (by rw [show nI 0 = 0 from rfl, Int32.add_zero] <;> rfl)
  obtain ⟨hp, hq⟩ := hb i hlt
  have hn : mW1 P_M_storyWeight (33, [some (mR 13 0), some (mI x1), some (mI x2), some (mI x3), some (mJ (t_M_storyWeight_33 x1 x2 x3 (c0 + nI i) σ (f_M_storyWeight_33 x1 x2 x3 c0 σ s0 i))), none, some (mI (c0 + nI i + 1))], [], σ, 0, 0) Post := by
    rw [Int32.add_assoc, nI_s]
    exact hn
  try dsimp only
  generalize (f_M_storyWeight_33 x1 x2 x3 c0 σ s0 i) = s at *
  generalize c0 + nI i = c at *
  clear hb h hlt
  unfold g_M_storyWeight_33 at hp
  refine mW1_eq (q_M_storyWeight_33 _ _ _ _ _ _) ?_
  refine mTr_if (fun h0 => ?_) (fun h0 => ?_)
  · skip
    exact absurd (by unfold q_M_storyWeight_33s; first | (rw [if_pos h0]; done) | (rw [if_pos h0]; rfl)) hq
  · skip
    have hp := hp h0
    refine mTr_g hp ?_
    have e : t_M_storyWeight_33 x1 x2 x3 c σ s = (s + (v_M_partOf x1 x2 c x3 σ)) := (by unfold t_M_storyWeight_33; first | (rw [if_neg h0]; done) | (rw [if_neg h0]; rfl))
    rw [e] at hn
    exact mTr_k hn
set_option maxRecDepth 100000 in
set_option maxHeartbeats 4000000 in
theorem d_M_storyWeight (a1 : Int32) (a2 : Int32) (a3 : Int32) (σ : MSto) (hp : p_M_storyWeight a1 a2 a3 σ) : mW1 P_M_storyWeight (0, [some (mR 13 0), some (mI a1), some (mI a2), some (mI a3), none, none, none], [], σ, 0, 0) (mF [26, 63] [mJ (v_M_storyWeight a1 a2 a3 σ)] σ 0 0) := by
  refine mW1_eq (q_M_storyWeight_e _ _ _ _) ?_
  unfold p_M_storyWeight at hp
  refine mTr_g hp.1 ?_
  have hp := hp.2
  refine mTr_if (fun h0 => ?_) (fun h0 => ?_)
  · skip
    have hp := hp.1 h0
    refine mTr_k (lp_M_storyWeight_33 a1 a2 a3 0 σ 0 (n_M_storyWeight_33 a1 a2 a3 0 σ 0) hp.1 ?_)
    have hp := hp.2
    refine mW1_eq (q_M_storyWeight_33 _ _ _ _ _ _) ?_
    refine mTr_if (fun h1 => ?_) (fun h1 => ?_)
    · skip
      exact mTr_e (by decide) (by unfold v_M_storyWeight; first | (rw [if_pos h0]; done) | (rw [if_pos h0]; rfl)) rfl (by decide) (by decide)
    · skip
      have hp := hp h1
      exact hp.elim
  · skip
    have hp := hp.2 h0
    refine mTr_g hp.1 ?_
    have hp := hp.2
    refine mTr_g hp ?_
    exact mTr_e (by decide) (by unfold v_M_storyWeight; first | (rw [if_neg h0]; done) | (rw [if_neg h0]; rfl)) rfl (by decide) (by decide)
theorem li_M_400 : mLink "ClothWithManModel" 400 E_M_partOf := ⟨tw_8_1, tw_1_9, ⟨by decide, by decide⟩, by decide +kernel, Or.inl tw_7_238, (fun h => by cases h), (fun _ => ⟨tw_8_0, tw_0_81, TX12, 71, rfl⟩), (fun h => by cases h)⟩


theorem tk_M_storyWeight : ∀ pc i nx tg, T_M_storyWeight pc = some (i, nx, tg) → mOkB prog_14_method_78_code pc i nx tg = true := code_ok (N := 64) (fun k h => by unfold T_M_storyWeight; rw [h]; rfl) (by decide +kernel)
theorem ok_M_storyWeight (l : Launch) : mPOK l "ClothWithManModel" prog_14_method_78_code P_M_storyWeight := by
  refine ⟨tk_M_storyWeight, ?_, ?_, ?_, (fun pc i nx tg kd _ h => by cases h), ?_, ?_, fun pc en h => by cases h⟩
  · intro x ci f ty fin h
    exact mLook_all (Q := fun x v => mFOK "ClothWithManModel" x v.1 v.2.1 v.2.2.1 v.2.2.2 ∧ (v.2.2.2 = true → pIni P_M_storyWeight = true → (Cond.fieldLink "ClothWithManModel" x (((mCl[v.1]?).getD ("", fun _ => ("", "", "", false), 0)).2.1 v.2.1).1 (((mCl[v.1]?).getD ("", fun _ => ("", "", "", false), 0)).2.1 v.2.1).2.1 (((mCl[v.1]?).getD ("", fun _ => ("", "", "", false), 0)).2.1 v.2.1).2.2.1 ∈ lw_tbl ∧ (((mCl[v.1]?).getD ("", fun _ => ("", "", "", false), 0)).2.1 v.2.1).1 = "ClothWithManModel"))) (fcC ⟨fo_M_50, fun h1 h2 => by cases h2⟩ fcN) x (ci, f, ty, fin) h
  · intro x
    have hh := mLook_all (l := ([(404, .inr 200)] : List (Nat × (Int32 ⊕ Int64)))) (Q := fun x (v : Int32 ⊕ Int64) => (∀ w, v = .inl w → Cond.constant "ClothWithManModel" x w ∈ lw_tbl) ∧ (∀ w, v = .inr w → Cond.constantLong "ClothWithManModel" x w ∈ lw_tbl)) (fcC ⟨(fun v h => by cases h), fun v h => by cases h; exact tw_8_6⟩ fcN) x
    exact ⟨fun w h => (hh _ h).1 w rfl, fun w h => (hh _ h).2 w rfl⟩
  · exact fun x en h => mLook_all (Q := fun x en => mLink "ClothWithManModel" x en ∧ mCtr l en ∧ (en.1.1 = 2 → en.2.2.2.2.2.2 = none)) (fcC ⟨li_M_384, c_M_hasTerm l, (fun h => by cases h)⟩ (fcC ⟨li_M_400, c_M_partOf l, (fun h => by cases h)⟩ fcN)) x en h
  · exact fun x kd h => mLook_all (Q := fun x kd => (kd = 95 ∧ Cond.fieldLink "ClothWithManModel" x "ClothWithMan" "LIKENESSES" "[I" ∈ lw_tbl) ∨ (kd = 96 ∧ Cond.fieldLink "ClothWithManModel" x "ClothWithMan" "APART_BOUNDS" "[I" ∈ lw_tbl)) fcN x kd h
  · exact fun x ci h => mLook_all (Q := fun x ci => ci ≠ 0 ∧ ∃ (C : String) (T : u_T) (N : Nat), mCl[ci]? = some (C, T, N) ∧ Cond.classLink "ClothWithManModel" x C ∈ lw_tbl ∧ Cond.castable C C ∈ lw_tbl) fcN x ci h
set_option maxRecDepth 100000 in
theorem c_M_storyWeight (l : Launch) : mCtr l E_M_storyWeight := mCtr_of (P := P_M_storyWeight) (own := "ClothWithManModel") mLay_ok rfl (by decide +kernel) rfl (ok_M_storyWeight l) (fun h => by cases h) (fun as σ pr rv σ' hF hpr hlv => by
  unfold E_M_storyWeight S_M_storyWeight at hF
  simp only [] at hF
  split at hF
  · cases hF
    obtain ⟨n, pcF, c1, s1, g1, g2, g3, g4⟩ := mF_inv (d_M_storyWeight _ _ _ σ (hpr _ rfl))
    exact ⟨Nat.le_of_ble_eq_true rfl, (fun v h => by cases h; trivial), n, pcF, c1, s1, g1, mEnd_of (i := .lreturn) (P := P_M_storyWeight) (rets := [26, 63]) rfl g2, g3, g4⟩
  · cases hF
    exact (hpr _ rfl).elim)
/-! ClothWithManModel.weighStories(II)I -/
noncomputable def t_M_weighStories_6 (x1 : Int32) (x2 : Int32) (c : Int32) (s : Int32 × MSto) : Int32 × MSto := (if (gI (s.2) 13 0 17) ≤ c then s else (if 0 ≤ (s.1) then (if (lg_cmp (gJ (sJ (s.2) 85 0 (Int32.toNatClampNeg c) ((Int32.toInt64 (gI (s.2) 60 0 (Int32.toNatClampNeg c))) * (v_M_storyWeight c x1 x2 (s.2)))) 85 0 (Int32.toNatClampNeg c)) (gJ (sJ (s.2) 85 0 (Int32.toNatClampNeg c) ((Int32.toInt64 (gI (s.2) 60 0 (Int32.toNatClampNeg c))) * (v_M_storyWeight c x1 x2 (s.2)))) 85 0 (Int32.toNatClampNeg (s.1)))) ≤ 0 then ((s.1), (sJ (s.2) 85 0 (Int32.toNatClampNeg c) ((Int32.toInt64 (gI (s.2) 60 0 (Int32.toNatClampNeg c))) * (v_M_storyWeight c x1 x2 (s.2))))) else (c, (sJ (s.2) 85 0 (Int32.toNatClampNeg c) ((Int32.toInt64 (gI (s.2) 60 0 (Int32.toNatClampNeg c))) * (v_M_storyWeight c x1 x2 (s.2)))))) else (if (lg_cmp (gJ (sJ (s.2) 85 0 (Int32.toNatClampNeg c) ((Int32.toInt64 (gI (s.2) 60 0 (Int32.toNatClampNeg c))) * (v_M_storyWeight c x1 x2 (s.2)))) 85 0 (Int32.toNatClampNeg c)) 0) ≤ 0 then ((s.1), (sJ (s.2) 85 0 (Int32.toNatClampNeg c) ((Int32.toInt64 (gI (s.2) 60 0 (Int32.toNatClampNeg c))) * (v_M_storyWeight c x1 x2 (s.2))))) else (c, (sJ (s.2) 85 0 (Int32.toNatClampNeg c) ((Int32.toInt64 (gI (s.2) 60 0 (Int32.toNatClampNeg c))) * (v_M_storyWeight c x1 x2 (s.2))))))))
noncomputable def q_M_weighStories_6s (x1 : Int32) (x2 : Int32) (c : Int32) (s : Int32 × MSto) : Nat := (if (gI (s.2) 13 0 17) ≤ c then 1 else (if 0 ≤ (s.1) then (if (lg_cmp (gJ (sJ (s.2) 85 0 (Int32.toNatClampNeg c) ((Int32.toInt64 (gI (s.2) 60 0 (Int32.toNatClampNeg c))) * (v_M_storyWeight c x1 x2 (s.2)))) 85 0 (Int32.toNatClampNeg c)) (gJ (sJ (s.2) 85 0 (Int32.toNatClampNeg c) ((Int32.toInt64 (gI (s.2) 60 0 (Int32.toNatClampNeg c))) * (v_M_storyWeight c x1 x2 (s.2)))) 85 0 (Int32.toNatClampNeg (s.1)))) ≤ 0 then 0 else 0) else (if (lg_cmp (gJ (sJ (s.2) 85 0 (Int32.toNatClampNeg c) ((Int32.toInt64 (gI (s.2) 60 0 (Int32.toNatClampNeg c))) * (v_M_storyWeight c x1 x2 (s.2)))) 85 0 (Int32.toNatClampNeg c)) 0) ≤ 0 then 0 else 0)))
def g_M_weighStories_6 (x1 : Int32) (x2 : Int32) (c : Int32) (s : Int32 × MSto) : Prop := (¬ ((gI (s.2) 13 0 17) ≤ c) → ((vp_in c 6) ∧ ((p_M_storyWeight c x1 x2 (s.2)) ∧ ((vp_in c 6) ∧ ((vp_in c 6) ∧ ((0 ≤ (s.1)) → (vp_in (s.1) 6)))))))
noncomputable def f_M_weighStories_6 (x1 : Int32) (x2 : Int32) (c0 : Int32) (s0 : Int32 × MSto) (n : Nat) : Int32 × MSto := nfold (fun i s => t_M_weighStories_6 x1 x2 (c0 + nI i) s) s0 n
noncomputable def n_M_weighStories_6 (x1 : Int32) (x2 : Int32) (c0 : Int32) (s0 : Int32 × MSto) : Nat := nM (s0.2) 17
noncomputable def v_M_weighStories (a1 : Int32) (a2 : Int32) (σ : MSto) : Int32 := ((f_M_weighStories_6 a1 a2 0 ((-2), σ) (n_M_weighStories_6 a1 a2 0 ((-2), σ))).1)
def p_M_weighStories (a1 : Int32) (a2 : Int32) (σ : MSto) : Prop := ((∀ i, i < (n_M_weighStories_6 a1 a2 0 ((-2), σ)) → g_M_weighStories_6 a1 a2 (0 + nI i) (f_M_weighStories_6 a1 a2 0 ((-2), σ) i) ∧ ¬ q_M_weighStories_6s a1 a2 (0 + nI i) (f_M_weighStories_6 a1 a2 0 ((-2), σ) i) = 1) ∧ (¬ ((gI ((f_M_weighStories_6 a1 a2 0 ((-2), σ) (n_M_weighStories_6 a1 a2 0 ((-2), σ))).2) 13 0 17) ≤ (0 + nI (n_M_weighStories_6 a1 a2 0 ((-2), σ)))) → False))
noncomputable def e_M_weighStories (a1 : Int32) (a2 : Int32) (σ : MSto) : MSto := ((f_M_weighStories_6 a1 a2 0 ((-2), σ) (n_M_weighStories_6 a1 a2 0 ((-2), σ))).2)
noncomputable def S_M_weighStories : List MV → MSto → Option Prop × Option MV × MSto := fun as σ => match as with
  | [.inr (.inr (some (13, 0))), .inl a0, .inl a1] => (some (p_M_weighStories a0 a1 σ), some (mI (v_M_weighStories a0 a1 σ)), e_M_weighStories a0 a1 σ)
  | _ => (some False, none, σ)
noncomputable def E_M_weighStories : MEnt := ((1, 2, 13), (6, 153, 0, 0), S_M_weighStories, ((⟨"ClothWithManModel", "weighStories", "(II)I"⟩ : MethodName), prog_14_method_79_code, 5, (some .int)))

def T_M_weighStories : Nat → Option (Instr × Nat × List Nat) := fun k => bif Nat.blt k 75 then (bif Nat.blt k 37 then (bif Nat.blt k 19 then (bif Nat.blt k 8 then (bif Nat.blt k 3 then (bif Nat.blt k 2 then (bif Nat.beq k 0 then some (.bipush (-2), 2, []) else none) else (bif Nat.beq k 2 then some (.istore_n 3, 3, []) else none)) else (bif Nat.blt k 4 then (bif Nat.beq k 3 then some (.iconst 0, 4, []) else none) else (bif Nat.blt k 6 then (bif Nat.beq k 4 then some (.istore 4, 6, []) else none) else (bif Nat.beq k 6 then some (.iload 4, 8, []) else none)))) else (bif Nat.blt k 12 then (bif Nat.blt k 9 then (bif Nat.beq k 8 then some (.aload_n 0, 9, []) else none) else (bif Nat.beq k 9 then some (.getfield 188, 12, []) else none)) else (bif Nat.blt k 15 then (bif Nat.beq k 12 then some (.if_icmp .ge 61, 15, [73]) else none) else (bif Nat.blt k 16 then (bif Nat.beq k 15 then some (.aload_n 0, 16, []) else none) else (bif Nat.beq k 16 then some (.getfield 155, 19, []) else none))))) else (bif Nat.blt k 28 then (bif Nat.blt k 22 then (bif Nat.blt k 21 then (bif Nat.beq k 19 then some (.iload 4, 21, []) else none) else (bif Nat.beq k 21 then some (.aload_n 0, 22, []) else none)) else (bif Nat.blt k 25 then (bif Nat.beq k 22 then some (.getfield 74, 25, []) else none) else (bif Nat.blt k 27 then (bif Nat.beq k 25 then some (.iload 4, 27, []) else none) else (bif Nat.beq k 27 then some (.iaload, 28, []) else none)))) else (bif Nat.blt k 32 then (bif Nat.blt k 29 then (bif Nat.beq k 28 then some (.i2l, 29, []) else none) else (bif Nat.blt k 30 then (bif Nat.beq k 29 then some (.aload_n 0, 30, []) else none) else (bif Nat.beq k 30 then some (.iload 4, 32, []) else none))) else (bif Nat.blt k 33 then (bif Nat.beq k 32 then some (.iload_n 1, 33, []) else none) else (bif Nat.blt k 34 then (bif Nat.beq k 33 then some (.iload_n 2, 34, []) else none) else (bif Nat.beq k 34 then some (.invokevirtual 406, 37, []) else none)))))) else (bif Nat.blt k 55 then (bif Nat.blt k 45 then (bif Nat.blt k 39 then (bif Nat.blt k 38 then (bif Nat.beq k 37 then some (.lmul, 38, []) else none) else (bif Nat.beq k 38 then some (.lastore, 39, []) else none)) else (bif Nat.blt k 40 then (bif Nat.beq k 39 then some (.aload_n 0, 40, []) else none) else (bif Nat.blt k 43 then (bif Nat.beq k 40 then some (.getfield 155, 43, []) else none) else (bif Nat.beq k 43 then some (.iload 4, 45, []) else none)))) else (bif Nat.blt k 50 then (bif Nat.blt k 46 then (bif Nat.beq k 45 then some (.laload, 46, []) else none) else (bif Nat.blt k 47 then (bif Nat.beq k 46 then some (.iload_n 3, 47, []) else none) else (bif Nat.beq k 47 then some (.ifCond .ge 7, 50, [54]) else none))) else (bif Nat.blt k 51 then (bif Nat.beq k 50 then some (.lconst 0, 51, []) else none) else (bif Nat.blt k 54 then (bif Nat.beq k 51 then some (.goto 9, 54, [60]) else none) else (bif Nat.beq k 54 then some (.aload_n 0, 55, []) else none))))) else (bif Nat.blt k 64 then (bif Nat.blt k 59 then (bif Nat.blt k 58 then (bif Nat.beq k 55 then some (.getfield 155, 58, []) else none) else (bif Nat.beq k 58 then some (.iload_n 3, 59, []) else none)) else (bif Nat.blt k 60 then (bif Nat.beq k 59 then some (.laload, 60, []) else none) else (bif Nat.blt k 61 then (bif Nat.beq k 60 then some (.lcmp, 61, []) else none) else (bif Nat.beq k 61 then some (.ifCond .le 6, 64, [67]) else none)))) else (bif Nat.blt k 70 then (bif Nat.blt k 66 then (bif Nat.beq k 64 then some (.iload 4, 66, []) else none) else (bif Nat.blt k 67 then (bif Nat.beq k 66 then some (.istore_n 3, 67, []) else none) else (bif Nat.beq k 67 then some (.iinc 4 1, 70, []) else none))) else (bif Nat.blt k 73 then (bif Nat.beq k 70 then some (.goto (-64), 73, [6]) else none) else (bif Nat.blt k 74 then (bif Nat.beq k 73 then some (.iload_n 3, 74, []) else none) else (bif Nat.beq k 74 then some (.ireturn, 75, []) else none))))))) else none
noncomputable def P_M_weighStories : MP := (T_M_weighStories, (fun k => mLook k [(74, (13, 26, (.array .int), true)), (155, (13, 69, (.array .long), true)), (188, (13, 17, .int, false))]), (fun k => mLook k []), (fun k => mLook k [(406, E_M_storyWeight)]), (fun k => mLook k []), (fun k => mLook k []), (fun k => mLook k []), (fun k => mLook k [(6, [true, true, true, true, true])]), (fun k => [74].any (Nat.beq k)), (6, 153, 0, 0), false, (fun _ => none))
set_option maxRecDepth 100000 in
set_option maxHeartbeats 4000000 in
theorem q_M_weighStories_e (a1 : Int32) (a2 : Int32) (σ : MSto) (n : Nat) : mexe KT P_M_weighStories (n + 1) (0, [some (mR 13 0), some (mI a1), some (mI a2), none, none], [], σ, 0, 0) = mexe KT P_M_weighStories n (6, [some (mR 13 0), some (mI a1), some (mI a2), some (mI (-2)), some (mI 0)], [], σ, 0, 0) := rfl
set_option maxRecDepth 100000 in
set_option maxHeartbeats 4000000 in
theorem q_M_weighStories_6 (x1 : Int32) (x2 : Int32) (x3 : Int32) (x4 : Int32) (σ : MSto) (n : Nat) : mexe KT P_M_weighStories (n + 1) (6, [some (mR 13 0), some (mI x1), some (mI x2), some (mI x3), some (mI x4)], [], σ, 0, 0) = (if (gI σ 13 0 17) ≤ x4 then some (74, [], [(mI x3)], σ, 0, 0) else mG (vp_in x4 6) (mG (p_M_storyWeight x4 x1 x2 σ) (mG (vp_in x4 6) (mG (vp_in x4 6) ((if 0 ≤ x3 then mG (vp_in x3 6) ((if (lg_cmp (gJ (sJ σ 85 0 (Int32.toNatClampNeg x4) ((Int32.toInt64 (gI σ 60 0 (Int32.toNatClampNeg x4))) * (v_M_storyWeight x4 x1 x2 σ))) 85 0 (Int32.toNatClampNeg x4)) (gJ (sJ σ 85 0 (Int32.toNatClampNeg x4) ((Int32.toInt64 (gI σ 60 0 (Int32.toNatClampNeg x4))) * (v_M_storyWeight x4 x1 x2 σ))) 85 0 (Int32.toNatClampNeg x3))) ≤ 0 then mexe KT P_M_weighStories n (6, [some (mR 13 0), some (mI x1), some (mI x2), some (mI x3), some (mI (x4 + 1))], [], (sJ σ 85 0 (Int32.toNatClampNeg x4) ((Int32.toInt64 (gI σ 60 0 (Int32.toNatClampNeg x4))) * (v_M_storyWeight x4 x1 x2 σ))), 0, 0) else mexe KT P_M_weighStories n (6, [some (mR 13 0), some (mI x1), some (mI x2), some (mI x4), some (mI (x4 + 1))], [], (sJ σ 85 0 (Int32.toNatClampNeg x4) ((Int32.toInt64 (gI σ 60 0 (Int32.toNatClampNeg x4))) * (v_M_storyWeight x4 x1 x2 σ))), 0, 0))) else (if (lg_cmp (gJ (sJ σ 85 0 (Int32.toNatClampNeg x4) ((Int32.toInt64 (gI σ 60 0 (Int32.toNatClampNeg x4))) * (v_M_storyWeight x4 x1 x2 σ))) 85 0 (Int32.toNatClampNeg x4)) 0) ≤ 0 then mexe KT P_M_weighStories n (6, [some (mR 13 0), some (mI x1), some (mI x2), some (mI x3), some (mI (x4 + 1))], [], (sJ σ 85 0 (Int32.toNatClampNeg x4) ((Int32.toInt64 (gI σ 60 0 (Int32.toNatClampNeg x4))) * (v_M_storyWeight x4 x1 x2 σ))), 0, 0) else mexe KT P_M_weighStories n (6, [some (mR 13 0), some (mI x1), some (mI x2), some (mI x4), some (mI (x4 + 1))], [], (sJ σ 85 0 (Int32.toNatClampNeg x4) ((Int32.toInt64 (gI σ 60 0 (Int32.toNatClampNeg x4))) * (v_M_storyWeight x4 x1 x2 σ))), 0, 0)))))))) := rfl
set_option maxRecDepth 100000 in
theorem lp_M_weighStories_6 {Post : MST → Prop} (x1 : Int32) (x2 : Int32) (c0 : Int32) (s0 : Int32 × MSto) (N : Nat) (hb : ∀ i, i < N → g_M_weighStories_6 x1 x2 (c0 + nI i) (f_M_weighStories_6 x1 x2 c0 s0 i) ∧ ¬ q_M_weighStories_6s x1 x2 (c0 + nI i) (f_M_weighStories_6 x1 x2 c0 s0 i) = 1) (h : mW1 P_M_weighStories (6, [some (mR 13 0), some (mI x1), some (mI x2), some (mI ((f_M_weighStories_6 x1 x2 c0 s0 N).1)), some (mI (c0 + nI N))], [], ((f_M_weighStories_6 x1 x2 c0 s0 N).2), 0, 0) Post) : mW1 P_M_weighStories (6, [some (mR 13 0), some (mI x1), some (mI x2), some (mI (s0.1)), some (mI c0)], [], (s0.2), 0, 0) Post := by
  refine mW1_st (mW1_loop (fun i => (6, [some (mR 13 0), some (mI x1), some (mI x2), some (mI ((f_M_weighStories_6 x1 x2 c0 s0 i).1)), some (mI (c0 + nI i))], [], ((f_M_weighStories_6 x1 x2 c0 s0 i).2), 0, 0)) N (fun i hlt hn => ?_) h) (by rw [show nI 0 = 0 from rfl, Int32.add_zero] <;> rfl)
  obtain ⟨hp, hq⟩ := hb i hlt
  have hn : mW1 P_M_weighStories (6, [some (mR 13 0), some (mI x1), some (mI x2), some (mI ((t_M_weighStories_6 x1 x2 (c0 + nI i) (f_M_weighStories_6 x1 x2 c0 s0 i)).1)), some (mI (c0 + nI i + 1))], [], ((t_M_weighStories_6 x1 x2 (c0 + nI i) (f_M_weighStories_6 x1 x2 c0 s0 i)).2), 0, 0) Post := by
    rw [Int32.add_assoc, nI_s]
    exact hn
  try dsimp only
  generalize (f_M_weighStories_6 x1 x2 c0 s0 i) = s at *
  generalize c0 + nI i = c at *
  clear hb h hlt
  unfold g_M_weighStories_6 at hp
  refine mW1_eq (q_M_weighStories_6 _ _ _ _ _) ?_
  refine mTr_if (fun h0 => ?_) (fun h0 => ?_)
  · skip
    exact absurd (by unfold q_M_weighStories_6s; first | (rw [if_pos h0]; done) | (rw [if_pos h0]; rfl)) hq
  · skip
    have hp := hp h0
    refine mTr_g hp.1 ?_
    have hp := hp.2
    refine mTr_g hp.1 ?_
    have hp := hp.2
    refine mTr_g hp.1 ?_
    have hp := hp.2
    refine mTr_g hp.1 ?_
    have hp := hp.2
    refine mTr_if (fun h1 => ?_) (fun h1 => ?_)
    · skip
      have hp := hp h1
      refine mTr_g hp ?_
      refine mTr_if (fun h2 => ?_) (fun h2 => ?_)
      · skip
        have e : t_M_weighStories_6 x1 x2 c s = ((s.1), (sJ (s.2) 85 0 (Int32.toNatClampNeg c) ((Int32.toInt64 (gI (s.2) 60 0 (Int32.toNatClampNeg c))) * (v_M_storyWeight c x1 x2 (s.2))))) := (by unfold t_M_weighStories_6; first | (rw [if_neg h0, if_pos h1, if_pos h2]; done) | (rw [if_neg h0, if_pos h1, if_pos h2]; rfl))
        rw [e] at hn
        exact mTr_k hn
      · skip
        have e : t_M_weighStories_6 x1 x2 c s = (c, (sJ (s.2) 85 0 (Int32.toNatClampNeg c) ((Int32.toInt64 (gI (s.2) 60 0 (Int32.toNatClampNeg c))) * (v_M_storyWeight c x1 x2 (s.2))))) := (by unfold t_M_weighStories_6; first | (rw [if_neg h0, if_pos h1, if_neg h2]; done) | (rw [if_neg h0, if_pos h1, if_neg h2]; rfl))
        rw [e] at hn
        exact mTr_k hn
    · skip
      refine mTr_if (fun h2 => ?_) (fun h2 => ?_)
      · skip
        have e : t_M_weighStories_6 x1 x2 c s = ((s.1), (sJ (s.2) 85 0 (Int32.toNatClampNeg c) ((Int32.toInt64 (gI (s.2) 60 0 (Int32.toNatClampNeg c))) * (v_M_storyWeight c x1 x2 (s.2))))) := (by unfold t_M_weighStories_6; first | (rw [if_neg h0, if_neg h1, if_pos h2]; done) | (rw [if_neg h0, if_neg h1, if_pos h2]; rfl))
        rw [e] at hn
        exact mTr_k hn
      · skip
        have e : t_M_weighStories_6 x1 x2 c s = (c, (sJ (s.2) 85 0 (Int32.toNatClampNeg c) ((Int32.toInt64 (gI (s.2) 60 0 (Int32.toNatClampNeg c))) * (v_M_storyWeight c x1 x2 (s.2))))) := (by unfold t_M_weighStories_6; first | (rw [if_neg h0, if_neg h1, if_neg h2]; done) | (rw [if_neg h0, if_neg h1, if_neg h2]; rfl))
        rw [e] at hn
        exact mTr_k hn
set_option maxRecDepth 100000 in
set_option maxHeartbeats 4000000 in
theorem d_M_weighStories (a1 : Int32) (a2 : Int32) (σ : MSto) (hp : p_M_weighStories a1 a2 σ) : mW1 P_M_weighStories (0, [some (mR 13 0), some (mI a1), some (mI a2), none, none], [], σ, 0, 0) (mF [74] [mI (v_M_weighStories a1 a2 σ)] (e_M_weighStories a1 a2 σ) 0 0) := by
  refine mW1_eq (q_M_weighStories_e _ _ _) ?_
  unfold p_M_weighStories at hp
  refine mTr_k (lp_M_weighStories_6 a1 a2 0 ((-2), σ) (n_M_weighStories_6 a1 a2 0 ((-2), σ)) hp.1 ?_)
  have hp := hp.2
  refine mW1_eq (q_M_weighStories_6 _ _ _ _ _) ?_
  refine mTr_if (fun h0 => ?_) (fun h0 => ?_)
  · skip
    exact mTr_e (by decide) (by unfold v_M_weighStories; rfl) (by unfold e_M_weighStories; rfl) (by decide) (by decide)
  · skip
    have hp := hp h0
    exact hp.elim
theorem li_M_406 : mLink "ClothWithManModel" 406 E_M_storyWeight := ⟨tw_7_237, tw_1_9, ⟨by decide, by decide⟩, by decide +kernel, Or.inl tw_7_234, (fun h => by cases h), (fun _ => ⟨tw_7_236, tw_0_80, TX12, 71, rfl⟩), (fun h => by cases h)⟩

theorem tk_M_weighStories : ∀ pc i nx tg, T_M_weighStories pc = some (i, nx, tg) → mOkB prog_14_method_79_code pc i nx tg = true := code_ok (N := 75) (fun k h => by unfold T_M_weighStories; rw [h]; rfl) (by decide +kernel)
theorem ok_M_weighStories (l : Launch) : mPOK l "ClothWithManModel" prog_14_method_79_code P_M_weighStories := by
  refine ⟨tk_M_weighStories, ?_, ?_, ?_, (fun pc i nx tg kd _ h => by cases h), ?_, ?_, fun pc en h => by cases h⟩
  · intro x ci f ty fin h
    exact mLook_all (Q := fun x v => mFOK "ClothWithManModel" x v.1 v.2.1 v.2.2.1 v.2.2.2 ∧ (v.2.2.2 = true → pIni P_M_weighStories = true → (Cond.fieldLink "ClothWithManModel" x (((mCl[v.1]?).getD ("", fun _ => ("", "", "", false), 0)).2.1 v.2.1).1 (((mCl[v.1]?).getD ("", fun _ => ("", "", "", false), 0)).2.1 v.2.1).2.1 (((mCl[v.1]?).getD ("", fun _ => ("", "", "", false), 0)).2.1 v.2.1).2.2.1 ∈ lw_tbl ∧ (((mCl[v.1]?).getD ("", fun _ => ("", "", "", false), 0)).2.1 v.2.1).1 = "ClothWithManModel"))) (fcC ⟨fo_M_74, fun h1 h2 => by cases h2⟩ (fcC ⟨fo_M_155, fun h1 h2 => by cases h2⟩ (fcC ⟨fo_M_188, fun h1 h2 => by cases h1⟩ fcN))) x (ci, f, ty, fin) h
  · intro x
    have hh := mLook_all (l := ([] : List (Nat × (Int32 ⊕ Int64)))) (Q := fun x (v : Int32 ⊕ Int64) => (∀ w, v = .inl w → Cond.constant "ClothWithManModel" x w ∈ lw_tbl) ∧ (∀ w, v = .inr w → Cond.constantLong "ClothWithManModel" x w ∈ lw_tbl)) fcN x
    exact ⟨fun w h => (hh _ h).1 w rfl, fun w h => (hh _ h).2 w rfl⟩
  · exact fun x en h => mLook_all (Q := fun x en => mLink "ClothWithManModel" x en ∧ mCtr l en ∧ (en.1.1 = 2 → en.2.2.2.2.2.2 = none)) (fcC ⟨li_M_406, c_M_storyWeight l, (fun h => by cases h)⟩ fcN) x en h
  · exact fun x kd h => mLook_all (Q := fun x kd => (kd = 95 ∧ Cond.fieldLink "ClothWithManModel" x "ClothWithMan" "LIKENESSES" "[I" ∈ lw_tbl) ∨ (kd = 96 ∧ Cond.fieldLink "ClothWithManModel" x "ClothWithMan" "APART_BOUNDS" "[I" ∈ lw_tbl)) fcN x kd h
  · exact fun x ci h => mLook_all (Q := fun x ci => ci ≠ 0 ∧ ∃ (C : String) (T : u_T) (N : Nat), mCl[ci]? = some (C, T, N) ∧ Cond.classLink "ClothWithManModel" x C ∈ lw_tbl ∧ Cond.castable C C ∈ lw_tbl) fcN x ci h
set_option maxRecDepth 100000 in
theorem c_M_weighStories (l : Launch) : mCtr l E_M_weighStories := mCtr_of (P := P_M_weighStories) (own := "ClothWithManModel") mLay_ok rfl (by decide +kernel) rfl (ok_M_weighStories l) (fun h => by cases h) (fun as σ pr rv σ' hF hpr hlv => by
  unfold E_M_weighStories S_M_weighStories at hF
  simp only [] at hF
  split at hF
  · cases hF
    obtain ⟨n, pcF, c1, s1, g1, g2, g3, g4⟩ := mF_inv (d_M_weighStories _ _ σ (hpr _ rfl))
    exact ⟨Nat.le_of_ble_eq_true rfl, (fun v h => by cases h; trivial), n, pcF, c1, s1, g1, ⟨mEnd_of (i := .ireturn) (P := P_M_weighStories) (rets := [74]) rfl g2, rfl⟩, g3, g4⟩
  · cases hF
    exact (hpr _ rfl).elim)

