/-! ClothWithMan.keep(I)Z -/
noncomputable def t_C_keepO_102 (x1 : Int32) (r2 : Nat) (c : Int32) (s : MSto) : MSto := (if 6 ≤ c then s else (if (v_C_storyCount s) ≤ c then (sI s 40 r2 (Int32.toNatClampNeg c) 1) else (sI s 40 r2 (Int32.toNatClampNeg c) (gI s 9 (v_AL_get 15 0 c s) 1))))
noncomputable def q_C_keepO_102s (x1 : Int32) (r2 : Nat) (c : Int32) (s : MSto) : Nat := (if 6 ≤ c then 1 else 0)
def g_C_keepO_102 (x1 : Int32) (r2 : Nat) (c : Int32) (s : MSto) : Prop := (¬ (6 ≤ c) → ((((v_C_storyCount s) ≤ c) → (vp_in c 6)) ∧ (¬ ((v_C_storyCount s) ≤ c) → ((p_AL_get 15 0 c s) ∧ (vp_in c 6)))))
noncomputable def f_C_keepO_102 (x1 : Int32) (r2 : Nat) (c0 : Int32) (s0 : MSto) (n : Nat) : MSto := nfold (fun i s => t_C_keepO_102 x1 r2 (c0 + nI i) s) s0 n
noncomputable def n_C_keepO_102 (x1 : Int32) (r2 : Nat) (c0 : Int32) (s0 : MSto) : Nat := 6
noncomputable def t_C_keepO_66 (x1 : Int32) (r2 : Nat) (c : Int32) (s : MSto) : MSto := (if (v_C_pieceCount s) ≤ c then s else (sI s 39 r2 (Int32.toNatClampNeg c) (gI s 7 (v_AL_get 14 0 c s) 5)))
noncomputable def q_C_keepO_66s (x1 : Int32) (r2 : Nat) (c : Int32) (s : MSto) : Nat := (if (v_C_pieceCount s) ≤ c then 1 else 0)
def g_C_keepO_66 (x1 : Int32) (r2 : Nat) (c : Int32) (s : MSto) : Prop := (¬ ((v_C_pieceCount s) ≤ c) → ((p_AL_get 14 0 c s) ∧ (vp_in c 12)))
noncomputable def f_C_keepO_66 (x1 : Int32) (r2 : Nat) (c0 : Int32) (s0 : MSto) (n : Nat) : MSto := nfold (fun i s => t_C_keepO_66 x1 r2 (c0 + nI i) s) s0 n
noncomputable def n_C_keepO_66 (x1 : Int32) (r2 : Nat) (c0 : Int32) (s0 : MSto) : Nat := (v_C_pieceCount s0).toNatClampNeg
def bj_C_keepO_j64 (x1 : Int32) (r2 : Nat) (σ : MSto) : Prop := True
noncomputable def ej_C_keepO_j64 (x1 : Int32) (r2 : Nat) (σ : MSto) : MSto := (sR (f_C_keepO_102 x1 r2 0 (f_C_keepO_66 x1 r2 0 σ (n_C_keepO_66 x1 r2 0 σ)) (n_C_keepO_102 x1 r2 0 (f_C_keepO_66 x1 r2 0 σ (n_C_keepO_66 x1 r2 0 σ)))) 25 0 (Int32.toNatClampNeg x1) (some r2))
def gj_C_keepO_j64 (x1 : Int32) (r2 : Nat) (σ : MSto) : Prop := ((∀ i, i < (n_C_keepO_66 x1 r2 0 σ) → g_C_keepO_66 x1 r2 (0 + nI i) (f_C_keepO_66 x1 r2 0 σ i) ∧ ¬ q_C_keepO_66s x1 r2 (0 + nI i) (f_C_keepO_66 x1 r2 0 σ i) = 1) ∧ ((((v_C_pieceCount (f_C_keepO_66 x1 r2 0 σ (n_C_keepO_66 x1 r2 0 σ))) ≤ (0 + nI (n_C_keepO_66 x1 r2 0 σ))) → ((∀ i, i < (n_C_keepO_102 x1 r2 0 (f_C_keepO_66 x1 r2 0 σ (n_C_keepO_66 x1 r2 0 σ))) → g_C_keepO_102 x1 r2 (0 + nI i) (f_C_keepO_102 x1 r2 0 (f_C_keepO_66 x1 r2 0 σ (n_C_keepO_66 x1 r2 0 σ)) i) ∧ ¬ q_C_keepO_102s x1 r2 (0 + nI i) (f_C_keepO_102 x1 r2 0 (f_C_keepO_66 x1 r2 0 σ (n_C_keepO_66 x1 r2 0 σ)) i) = 1) ∧ (((6 ≤ (0 + nI (n_C_keepO_102 x1 r2 0 (f_C_keepO_66 x1 r2 0 σ (n_C_keepO_66 x1 r2 0 σ))))) → (vp_in x1 3)) ∧ (¬ (6 ≤ (0 + nI (n_C_keepO_102 x1 r2 0 (f_C_keepO_66 x1 r2 0 σ (n_C_keepO_66 x1 r2 0 σ))))) → False)))) ∧ (¬ ((v_C_pieceCount (f_C_keepO_66 x1 r2 0 σ (n_C_keepO_66 x1 r2 0 σ))) ≤ (0 + nI (n_C_keepO_66 x1 r2 0 σ))) → False)))
def b_C_keepO (a1 : Int32) (σ : MSto) : Prop := (if (v_C_isIn a1 0 2 σ) = 0 then False else (mO (gR σ 25 0 (Int32.toNatClampNeg a1)) (False) (fun z2 => (bj_C_keepO_j64 a1 z2 (sI (sI (sI σ 4 z2 0 (gI σ 1 0 1)) 4 z2 1 (gI (sI σ 4 z2 0 (gI σ 1 0 1)) 12 0 12)) 4 z2 2 (v_C_countedBits (sI (sI σ 4 z2 0 (gI σ 1 0 1)) 4 z2 1 (gI (sI σ 4 z2 0 (gI σ 1 0 1)) 12 0 12))))))))
noncomputable def v_C_keepO (a1 : Int32) (σ : MSto) : Int32 := bI (b_C_keepO a1 σ)
def p_C_keepO (a1 : Int32) (σ : MSto) : Prop := (¬ ((v_C_isIn a1 0 2 σ) = 0) → ((vp_in a1 3) ∧ (((gR σ 25 0 (Int32.toNatClampNeg a1)) = none → False) ∧ (∀ z1, (gR σ 25 0 (Int32.toNatClampNeg a1)) = some z1 → ((vp_in a1 3) ∧ (((gR σ 25 0 (Int32.toNatClampNeg a1)) = none → False) ∧ (∀ z2, (gR σ 25 0 (Int32.toNatClampNeg a1)) = some z2 → ((p_C_countedBits (sI (sI σ 4 z2 0 (gI σ 1 0 1)) 4 z2 1 (gI (sI σ 4 z2 0 (gI σ 1 0 1)) 12 0 12))) ∧ (gj_C_keepO_j64 a1 z2 (sI (sI (sI σ 4 z2 0 (gI σ 1 0 1)) 4 z2 1 (gI (sI σ 4 z2 0 (gI σ 1 0 1)) 12 0 12)) 4 z2 2 (v_C_countedBits (sI (sI σ 4 z2 0 (gI σ 1 0 1)) 4 z2 1 (gI (sI σ 4 z2 0 (gI σ 1 0 1)) 12 0 12)))))))))))))
noncomputable def e_C_keepO (a1 : Int32) (σ : MSto) : MSto := (if (v_C_isIn a1 0 2 σ) = 0 then σ else (mO (gR σ 25 0 (Int32.toNatClampNeg a1)) (σ) (fun z2 => (ej_C_keepO_j64 a1 z2 (sI (sI (sI σ 4 z2 0 (gI σ 1 0 1)) 4 z2 1 (gI (sI σ 4 z2 0 (gI σ 1 0 1)) 12 0 12)) 4 z2 2 (v_C_countedBits (sI (sI σ 4 z2 0 (gI σ 1 0 1)) 4 z2 1 (gI (sI σ 4 z2 0 (gI σ 1 0 1)) 12 0 12))))))))
noncomputable def S_C_keepO : List MV → MSto → Option Prop × Option MV × MSto := fun as σ => match as with
  | [.inr (.inr (some (12, 0))), .inl a0] => (some (p_C_keepO a0 σ), some (mI (v_C_keepO a0 σ)), e_C_keepO a0 σ)
  | _ => (some False, none, σ)
noncomputable def E_C_keepO : MEnt := ((1, 1, 12), (7, 143, 3, 23), S_C_keepO, ((⟨"ClothWithMan", "keep", "(I)Z"⟩ : MethodName), prog_1_method_49_code, 4, (some .boolean)))

def T_C_keepO : Nat → Option (Instr × Nat × List Nat) := fun k => bif Nat.blt k 155 then (bif Nat.blt k 75 then (bif Nat.blt k 36 then (bif Nat.blt k 16 then (bif Nat.blt k 9 then (bif Nat.blt k 2 then (bif Nat.blt k 1 then (bif Nat.beq k 0 then some (.iload_n 1, 1, []) else none) else (bif Nat.beq k 1 then some (.iconst 0, 2, []) else none)) else (bif Nat.blt k 3 then (bif Nat.beq k 2 then some (.iconst 2, 3, []) else none) else (bif Nat.blt k 6 then (bif Nat.beq k 3 then some (.invokestatic 145, 6, []) else none) else (bif Nat.beq k 6 then some (.ifCond .ne 5, 9, [11]) else none)))) else (bif Nat.blt k 11 then (bif Nat.blt k 10 then (bif Nat.beq k 9 then some (.iconst 0, 10, []) else none) else (bif Nat.beq k 10 then some (.ireturn, 11, []) else none)) else (bif Nat.blt k 12 then (bif Nat.beq k 11 then some (.aload_n 0, 12, []) else none) else (bif Nat.blt k 15 then (bif Nat.beq k 12 then some (.getfield 60, 15, []) else none) else (bif Nat.beq k 15 then some (.iload_n 1, 16, []) else none))))) else (bif Nat.blt k 25 then (bif Nat.blt k 20 then (bif Nat.blt k 17 then (bif Nat.beq k 16 then some (.aaload, 17, []) else none) else (bif Nat.beq k 17 then some (.ifnull 12, 20, [29]) else none)) else (bif Nat.blt k 21 then (bif Nat.beq k 20 then some (.aload_n 0, 21, []) else none) else (bif Nat.blt k 24 then (bif Nat.beq k 21 then some (.getfield 60, 24, []) else none) else (bif Nat.beq k 24 then some (.iload_n 1, 25, []) else none)))) else (bif Nat.blt k 29 then (bif Nat.blt k 26 then (bif Nat.beq k 25 then some (.aaload, 26, []) else none) else (bif Nat.beq k 26 then some (.goto 10, 29, [36]) else none)) else (bif Nat.blt k 32 then (bif Nat.beq k 29 then some (.new 58, 32, []) else none) else (bif Nat.blt k 33 then (bif Nat.beq k 32 then some (.dup, 33, []) else none) else (bif Nat.beq k 33 then some (.invokespecial 406, 36, []) else none)))))) else (bif Nat.blt k 56 then (bif Nat.blt k 45 then (bif Nat.blt k 38 then (bif Nat.blt k 37 then (bif Nat.beq k 36 then some (.astore_n 2, 37, []) else none) else (bif Nat.beq k 37 then some (.aload_n 2, 38, []) else none)) else (bif Nat.blt k 39 then (bif Nat.beq k 38 then some (.aload_n 0, 39, []) else none) else (bif Nat.blt k 42 then (bif Nat.beq k 39 then some (.getfield 19, 42, []) else none) else (bif Nat.beq k 42 then some (.getfield 122, 45, []) else none)))) else (bif Nat.blt k 49 then (bif Nat.blt k 48 then (bif Nat.beq k 45 then some (.putfield 407, 48, []) else none) else (bif Nat.beq k 48 then some (.aload_n 2, 49, []) else none)) else (bif Nat.blt k 50 then (bif Nat.beq k 49 then some (.aload_n 0, 50, []) else none) else (bif Nat.blt k 53 then (bif Nat.beq k 50 then some (.getfield 71, 53, []) else none) else (bif Nat.beq k 53 then some (.putfield 408, 56, []) else none))))) else (bif Nat.blt k 65 then (bif Nat.blt k 58 then (bif Nat.blt k 57 then (bif Nat.beq k 56 then some (.aload_n 2, 57, []) else none) else (bif Nat.beq k 57 then some (.aload_n 0, 58, []) else none)) else (bif Nat.blt k 61 then (bif Nat.beq k 58 then some (.invokevirtual 409, 61, []) else none) else (bif Nat.blt k 64 then (bif Nat.beq k 61 then some (.putfield 412, 64, []) else none) else (bif Nat.beq k 64 then some (.iconst 0, 65, []) else none)))) else (bif Nat.blt k 68 then (bif Nat.blt k 66 then (bif Nat.beq k 65 then some (.istore_n 3, 66, []) else none) else (bif Nat.blt k 67 then (bif Nat.beq k 66 then some (.iload_n 3, 67, []) else none) else (bif Nat.beq k 67 then some (.aload_n 0, 68, []) else none))) else (bif Nat.blt k 71 then (bif Nat.beq k 68 then some (.invokevirtual 281, 71, []) else none) else (bif Nat.blt k 74 then (bif Nat.beq k 71 then some (.if_icmp .ge 29, 74, [100]) else none) else (bif Nat.beq k 74 then some (.aload_n 2, 75, []) else none))))))) else (bif Nat.blt k 114 then (bif Nat.blt k 97 then (bif Nat.blt k 84 then (bif Nat.blt k 79 then (bif Nat.blt k 78 then (bif Nat.beq k 75 then some (.getfield 415, 78, []) else none) else (bif Nat.beq k 78 then some (.iload_n 3, 79, []) else none)) else (bif Nat.blt k 80 then (bif Nat.beq k 79 then some (.aload_n 0, 80, []) else none) else (bif Nat.blt k 83 then (bif Nat.beq k 80 then some (.getfield 33, 83, []) else none) else (bif Nat.beq k 83 then some (.iload_n 3, 84, []) else none)))) else (bif Nat.blt k 90 then (bif Nat.blt k 87 then (bif Nat.beq k 84 then some (.invokevirtual 183, 87, []) else none) else (bif Nat.beq k 87 then some (.checkcast 168, 90, []) else none)) else (bif Nat.blt k 93 then (bif Nat.beq k 90 then some (.getfield 201, 93, []) else none) else (bif Nat.blt k 94 then (bif Nat.beq k 93 then some (.iastore, 94, []) else none) else (bif Nat.beq k 94 then some (.iinc 3 1, 97, []) else none))))) else (bif Nat.blt k 105 then (bif Nat.blt k 101 then (bif Nat.blt k 100 then (bif Nat.beq k 97 then some (.goto (-31), 100, [66]) else none) else (bif Nat.beq k 100 then some (.iconst 0, 101, []) else none)) else (bif Nat.blt k 102 then (bif Nat.beq k 101 then some (.istore_n 3, 102, []) else none) else (bif Nat.blt k 103 then (bif Nat.beq k 102 then some (.iload_n 3, 103, []) else none) else (bif Nat.beq k 103 then some (.bipush 6, 105, []) else none)))) else (bif Nat.blt k 109 then (bif Nat.blt k 108 then (bif Nat.beq k 105 then some (.if_icmp .ge 41, 108, [146]) else none) else (bif Nat.beq k 108 then some (.aload_n 2, 109, []) else none)) else (bif Nat.blt k 112 then (bif Nat.beq k 109 then some (.getfield 417, 112, []) else none) else (bif Nat.blt k 113 then (bif Nat.beq k 112 then some (.iload_n 3, 113, []) else none) else (bif Nat.beq k 113 then some (.iload_n 3, 114, []) else none)))))) else (bif Nat.blt k 138 then (bif Nat.blt k 125 then (bif Nat.blt k 118 then (bif Nat.blt k 115 then (bif Nat.beq k 114 then some (.aload_n 0, 115, []) else none) else (bif Nat.beq k 115 then some (.invokevirtual 330, 118, []) else none)) else (bif Nat.blt k 121 then (bif Nat.beq k 118 then some (.if_icmp .ge 20, 121, [138]) else none) else (bif Nat.blt k 122 then (bif Nat.beq k 121 then some (.aload_n 0, 122, []) else none) else (bif Nat.beq k 122 then some (.getfield 37, 125, []) else none)))) else (bif Nat.blt k 129 then (bif Nat.blt k 126 then (bif Nat.beq k 125 then some (.iload_n 3, 126, []) else none) else (bif Nat.beq k 126 then some (.invokevirtual 183, 129, []) else none)) else (bif Nat.blt k 132 then (bif Nat.beq k 129 then some (.checkcast 294, 132, []) else none) else (bif Nat.blt k 135 then (bif Nat.beq k 132 then some (.getfield 310, 135, []) else none) else (bif Nat.beq k 135 then some (.goto 4, 138, [139]) else none))))) else (bif Nat.blt k 147 then (bif Nat.blt k 140 then (bif Nat.blt k 139 then (bif Nat.beq k 138 then some (.iconst 1, 139, []) else none) else (bif Nat.beq k 139 then some (.iastore, 140, []) else none)) else (bif Nat.blt k 143 then (bif Nat.beq k 140 then some (.iinc 3 1, 143, []) else none) else (bif Nat.blt k 146 then (bif Nat.beq k 143 then some (.goto (-41), 146, [102]) else none) else (bif Nat.beq k 146 then some (.aload_n 0, 147, []) else none)))) else (bif Nat.blt k 152 then (bif Nat.blt k 150 then (bif Nat.beq k 147 then some (.getfield 60, 150, []) else none) else (bif Nat.blt k 151 then (bif Nat.beq k 150 then some (.iload_n 1, 151, []) else none) else (bif Nat.beq k 151 then some (.aload_n 2, 152, []) else none))) else (bif Nat.blt k 153 then (bif Nat.beq k 152 then some (.aastore, 153, []) else none) else (bif Nat.blt k 154 then (bif Nat.beq k 153 then some (.iconst 1, 154, []) else none) else (bif Nat.beq k 154 then some (.ireturn, 155, []) else none)))))))) else none
noncomputable def P_C_keepO : MP := (T_C_keepO, (fun k => mLook k [(19, (12, 1, (.object "ClothWithMan$Cloth"), true)), (33, (12, 4, (.object "java/util/ArrayList"), true)), (37, (12, 5, (.object "java/util/ArrayList"), true)), (60, (12, 10, (.array (.object "ClothWithMan$Kept")), true)), (71, (12, 12, .int, false)), (122, (1, 1, .int, false)), (201, (7, 5, .int, false)), (310, (9, 1, .int, false)), (407, (4, 0, .int, false)), (408, (4, 1, .int, false)), (412, (4, 2, .int, false)), (415, (4, 3, (.array .int), true)), (417, (4, 4, (.array .int), true))]), (fun k => mLook k []), (fun k => mLook k [(145, E_C_isIn), (183, E_AL_get), (281, E_C_pieceCount), (330, E_C_storyCount), (406, E_Ke_init), (409, E_C_countedBits)]), (fun k => mLook k []), (fun k => mLook k []), (fun k => mLook k [(168, 7), (294, 9)]), (fun k => mLook k [(64, [true, true, true, false]), (66, [true, true, true, true]), (102, [true, true, true, true])]), (fun k => [10, 154].any (Nat.beq k)), (7, 143, 3, 23), false, (fun _ => none))
set_option maxRecDepth 100000 in
set_option maxHeartbeats 4000000 in
theorem q_C_keepO_e (a1 : Int32) (σ : MSto) (n : Nat) : mexe KT P_C_keepO (n + 1) (0, [some (mR 12 0), some (mI a1), none, none], [], σ, 0, 0) = mIf ((v_C_isIn a1 0 2 σ) = 0) (some (10, [], [(mI 0)], σ, 0, 0)) (mG (vp_in a1 3) (mO (gR σ 25 0 (Int32.toNatClampNeg a1)) (none) (fun z1 => mG (vp_in a1 3) (mO (gR σ 25 0 (Int32.toNatClampNeg a1)) (none) (fun z2 => mG (p_C_countedBits (sI (sI σ 4 z2 0 (gI σ 1 0 1)) 4 z2 1 (gI (sI σ 4 z2 0 (gI σ 1 0 1)) 12 0 12))) (mexe KT P_C_keepO n (64, [some (mR 12 0), some (mI a1), some (mR 4 z2), none], [], (sI (sI (sI σ 4 z2 0 (gI σ 1 0 1)) 4 z2 1 (gI (sI σ 4 z2 0 (gI σ 1 0 1)) 12 0 12)) 4 z2 2 (v_C_countedBits (sI (sI σ 4 z2 0 (gI σ 1 0 1)) 4 z2 1 (gI (sI σ 4 z2 0 (gI σ 1 0 1)) 12 0 12)))), 0, 0))))))) := rfl
set_option maxRecDepth 100000 in
set_option maxHeartbeats 4000000 in
theorem q_C_keepO_64 (x1 : Int32) (r2 : Nat) (σ : MSto) (n : Nat) : mexe KT P_C_keepO (n + 1) (64, [some (mR 12 0), some (mI x1), some (mR 4 r2), none], [], σ, 0, 0) = mexe KT P_C_keepO n (66, [some (mR 12 0), some (mI x1), some (mR 4 r2), some (mI 0)], [], σ, 0, 0) := rfl
set_option maxRecDepth 100000 in
set_option maxHeartbeats 4000000 in
theorem q_C_keepO_66 (x1 : Int32) (r2 : Nat) (x3 : Int32) (σ : MSto) (n : Nat) : mexe KT P_C_keepO (n + 1) (66, [some (mR 12 0), some (mI x1), some (mR 4 r2), some (mI x3)], [], σ, 0, 0) = mIf ((v_C_pieceCount σ) ≤ x3) (mexe KT P_C_keepO n (102, [some (mR 12 0), some (mI x1), some (mR 4 r2), some (mI 0)], [], σ, 0, 0)) (mG (p_AL_get 14 0 x3 σ) (mG (vp_in x3 12) (mexe KT P_C_keepO n (66, [some (mR 12 0), some (mI x1), some (mR 4 r2), some (mI (x3 + 1))], [], (sI σ 39 r2 (Int32.toNatClampNeg x3) (gI σ 7 (v_AL_get 14 0 x3 σ) 5)), 0, 0)))) := rfl
set_option maxRecDepth 100000 in
set_option maxHeartbeats 4000000 in
theorem q_C_keepO_102 (x1 : Int32) (r2 : Nat) (x3 : Int32) (σ : MSto) (n : Nat) : mexe KT P_C_keepO (n + 1) (102, [some (mR 12 0), some (mI x1), some (mR 4 r2), some (mI x3)], [], σ, 0, 0) = mIf (6 ≤ x3) (mG (vp_in x1 3) (some (154, [], [(mI 1)], (sR σ 25 0 (Int32.toNatClampNeg x1) (some r2)), 0, 0))) (mIf ((v_C_storyCount σ) ≤ x3) (mG (vp_in x3 6) (mexe KT P_C_keepO n (102, [some (mR 12 0), some (mI x1), some (mR 4 r2), some (mI (x3 + 1))], [], (sI σ 40 r2 (Int32.toNatClampNeg x3) 1), 0, 0))) (mG (p_AL_get 15 0 x3 σ) (mG (vp_in x3 6) (mexe KT P_C_keepO n (102, [some (mR 12 0), some (mI x1), some (mR 4 r2), some (mI (x3 + 1))], [], (sI σ 40 r2 (Int32.toNatClampNeg x3) (gI σ 9 (v_AL_get 15 0 x3 σ) 1)), 0, 0))))) := rfl
set_option maxRecDepth 100000 in
theorem lt_C_keepO_102 {Post : MST → Prop} (x1 : Int32) (r2 : Nat) (c : Int32) (s : MSto) (hp : g_C_keepO_102 x1 r2 c s) (hq : ¬ q_C_keepO_102s x1 r2 c s = 1) (hn : ∀ r, t_C_keepO_102 x1 r2 c s = r → mW1 P_C_keepO (102, [some (mR 12 0), some (mI x1), some (mR 4 r2), some (mI (c + 1))], [], r, 0, 0) Post) : mW1 P_C_keepO (102, [some (mR 12 0), some (mI x1), some (mR 4 r2), some (mI c)], [], s, 0, 0) Post := by
  unfold g_C_keepO_102 at hp
  refine mW1_eq (q_C_keepO_102 _ _ _ _) ?_
  refine mTr_if (fun h0 => ?_) (fun h0 => ?_)
  · skip
    exact absurd (if_pos h0) hq
  · skip
    have hp := hp h0
    refine mTr_if (fun h1 => ?_) (fun h1 => ?_)
    · skip
      have hp := hp.1 h1
      refine mTr_g hp ?_
      exact mTr_k (hn (sI s 40 r2 (Int32.toNatClampNeg c) 1) ((if_neg h0).trans (if_pos h1)))
    · skip
      have hp := hp.2 h1
      refine mTr_g hp.1 ?_
      have hp := hp.2
      refine mTr_g hp ?_
      exact mTr_k (hn (sI s 40 r2 (Int32.toNatClampNeg c) (gI s 9 (v_AL_get 15 0 c s) 1)) ((if_neg h0).trans (if_neg h1)))
theorem lp_C_keepO_102 {Post : MST → Prop} (x1 : Int32) (r2 : Nat) (c0 : Int32) (s0 : MSto) (N : Nat) (hb : ∀ i, i < N → g_C_keepO_102 x1 r2 (c0 + nI i) (f_C_keepO_102 x1 r2 c0 s0 i) ∧ ¬ q_C_keepO_102s x1 r2 (c0 + nI i) (f_C_keepO_102 x1 r2 c0 s0 i) = 1) (h : mW1 P_C_keepO (102, [some (mR 12 0), some (mI x1), some (mR 4 r2), some (mI (c0 + nI N))], [], (f_C_keepO_102 x1 r2 c0 s0 N), 0, 0) Post) : mW1 P_C_keepO (102, [some (mR 12 0), some (mI x1), some (mR 4 r2), some (mI c0)], [], s0, 0, 0) Post := by
  refine mW1_st (mW1_loop (fun i => (102, [some (mR 12 0), some (mI x1), some (mR 4 r2), some (mI (c0 + nI i))], [], (f_C_keepO_102 x1 r2 c0 s0 i), 0, 0)) N (fun i hlt hn => ?_) h) (by rw [show nI 0 = 0 from rfl, Int32.add_zero] <;> rfl)
  refine lt_C_keepO_102 x1 r2 _ _ (hb i hlt).1 (hb i hlt).2 (fun r hr => ?_)
  rw [Int32.add_assoc, nI_s]
  subst hr
  exact hn
set_option maxRecDepth 100000 in
theorem lt_C_keepO_66 {Post : MST → Prop} (x1 : Int32) (r2 : Nat) (c : Int32) (s : MSto) (hp : g_C_keepO_66 x1 r2 c s) (hq : ¬ q_C_keepO_66s x1 r2 c s = 1) (hn : ∀ r, t_C_keepO_66 x1 r2 c s = r → mW1 P_C_keepO (66, [some (mR 12 0), some (mI x1), some (mR 4 r2), some (mI (c + 1))], [], r, 0, 0) Post) : mW1 P_C_keepO (66, [some (mR 12 0), some (mI x1), some (mR 4 r2), some (mI c)], [], s, 0, 0) Post := by
  unfold g_C_keepO_66 at hp
  refine mW1_eq (q_C_keepO_66 _ _ _ _) ?_
  refine mTr_if (fun h0 => ?_) (fun h0 => ?_)
  · skip
    exact absurd (if_pos h0) hq
  · skip
    have hp := hp h0
    refine mTr_g hp.1 ?_
    have hp := hp.2
    refine mTr_g hp ?_
    exact mTr_k (hn (sI s 39 r2 (Int32.toNatClampNeg c) (gI s 7 (v_AL_get 14 0 c s) 5)) (if_neg h0))
theorem lp_C_keepO_66 {Post : MST → Prop} (x1 : Int32) (r2 : Nat) (c0 : Int32) (s0 : MSto) (N : Nat) (hb : ∀ i, i < N → g_C_keepO_66 x1 r2 (c0 + nI i) (f_C_keepO_66 x1 r2 c0 s0 i) ∧ ¬ q_C_keepO_66s x1 r2 (c0 + nI i) (f_C_keepO_66 x1 r2 c0 s0 i) = 1) (h : mW1 P_C_keepO (66, [some (mR 12 0), some (mI x1), some (mR 4 r2), some (mI (c0 + nI N))], [], (f_C_keepO_66 x1 r2 c0 s0 N), 0, 0) Post) : mW1 P_C_keepO (66, [some (mR 12 0), some (mI x1), some (mR 4 r2), some (mI c0)], [], s0, 0, 0) Post := by
  refine mW1_st (mW1_loop (fun i => (66, [some (mR 12 0), some (mI x1), some (mR 4 r2), some (mI (c0 + nI i))], [], (f_C_keepO_66 x1 r2 c0 s0 i), 0, 0)) N (fun i hlt hn => ?_) h) (by rw [show nI 0 = 0 from rfl, Int32.add_zero] <;> rfl)
  refine lt_C_keepO_66 x1 r2 _ _ (hb i hlt).1 (hb i hlt).2 (fun r hr => ?_)
  rw [Int32.add_assoc, nI_s]
  subst hr
  exact hn
set_option maxRecDepth 100000 in
theorem lj_C_keepO_j64 (x1 : Int32) (r2 : Nat) (σ : MSto) (hp : gj_C_keepO_j64 x1 r2 σ) : mW1 P_C_keepO (64, [some (mR 12 0), some (mI x1), some (mR 4 r2), none], [], σ, 0, 0) (mF [10, 154] [mI (bI (bj_C_keepO_j64 x1 r2 σ))] (ej_C_keepO_j64 x1 r2 σ) 3 23) := by
  unfold gj_C_keepO_j64 at hp
  refine mW1_eq (q_C_keepO_64 _ _ _) ?_
  refine mTr_k (lp_C_keepO_66 x1 r2 0 σ (n_C_keepO_66 x1 r2 0 σ) hp.1 ?_)
  have hp := hp.2
  refine mW1_eq (q_C_keepO_66 _ _ _ _) ?_
  refine mTr_if (fun h0 => ?_) (fun h0 => ?_)
  · skip
    have hp := hp.1 h0
    refine mTr_k (lp_C_keepO_102 x1 r2 0 (f_C_keepO_66 x1 r2 0 σ (n_C_keepO_66 x1 r2 0 σ)) (n_C_keepO_102 x1 r2 0 (f_C_keepO_66 x1 r2 0 σ (n_C_keepO_66 x1 r2 0 σ))) hp.1 ?_)
    have hp := hp.2
    refine mW1_eq (q_C_keepO_102 _ _ _ _) ?_
    refine mTr_if (fun h1 => ?_) (fun h1 => ?_)
    · skip
      have hp := hp.1 h1
      refine mTr_g hp ?_
      exact mTr_e (by decide) (bI_T (rfl)) (Eq.symm (rfl)) (by decide) (by decide)
    · skip
      have hp := hp.2 h1
      exact hp.elim
  · skip
    have hp := hp.2 h0
    exact hp.elim
set_option maxRecDepth 100000 in
set_option maxHeartbeats 4000000 in
theorem d_C_keepO (a1 : Int32) (σ : MSto) (hp : p_C_keepO a1 σ) : mW1 P_C_keepO (0, [some (mR 12 0), some (mI a1), none, none], [], σ, 0, 0) (mF [10, 154] [mI (v_C_keepO a1 σ)] (e_C_keepO a1 σ) 3 23) := by
  refine mW1_eq (q_C_keepO_e _ _) ?_
  unfold p_C_keepO at hp
  unfold v_C_keepO
  refine mTr_if (fun h0 => ?_) (fun h0 => ?_)
  · skip
    exact mTr_e (by decide) (bI_F (if_pos h0)) (Eq.symm (if_pos h0)) (by decide) (by decide)
  · skip
    have hp := hp h0
    refine mTr_g hp.1 ?_
    have hp := hp.2
    refine mTr_o (fun h1 => ?_) (fun z1 h1 => ?_)
    · skip
      have hp := hp.1 h1
      exact hp.elim
    · skip
      have hp := hp.2 z1 h1
      refine mTr_g hp.1 ?_
      have hp := hp.2
      refine mTr_o (fun h2 => ?_) (fun z2 h2 => ?_)
      · skip
        have hp := hp.1 h2
        exact hp.elim
      · skip
        have hp := hp.2 z2 h2
        refine mTr_g hp.1 ?_
        have hp := hp.2
        exact mTr_k (mF_cB ((if_neg h0).trans (mO_es h2)) ((if_neg h0).trans (mO_es h2)) (lj_C_keepO_j64 a1 z2 (sI (sI (sI σ 4 z2 0 (gI σ 1 0 1)) 4 z2 1 (gI (sI σ 4 z2 0 (gI σ 1 0 1)) 12 0 12)) 4 z2 2 (v_C_countedBits (sI (sI σ 4 z2 0 (gI σ 1 0 1)) 4 z2 1 (gI (sI σ 4 z2 0 (gI σ 1 0 1)) 12 0 12)))) hp))

theorem li_C_406 : mLink "ClothWithMan" 406 E_Ke_init := ⟨tw_5_46, tw_1_27, ⟨by decide, by decide⟩, by decide +kernel, Or.inr ⟨_, tw_5_44⟩, (fun h => by cases h), (fun h => by cases h), (fun _ => ⟨tw_5_45, rfl⟩)⟩





theorem tk_C_keepO : ∀ pc i nx tg, T_C_keepO pc = some (i, nx, tg) → mOkB prog_1_method_49_code pc i nx tg = true := code_ok (N := 155) (fun k h => by unfold T_C_keepO; rw [h]; rfl) (by decide +kernel)
theorem ok_C_keepO (l : Launch) : mPOK l "ClothWithMan" prog_1_method_49_code P_C_keepO := by
  refine ⟨tk_C_keepO, ?_, ?_, ?_, (fun pc i nx tg kd _ h => by cases h), ?_, ?_, fun pc en h => by cases h⟩
  · intro x ci f ty fin h
    exact mLook_all (Q := fun x v => mFOK "ClothWithMan" x v.1 v.2.1 v.2.2.1 v.2.2.2 ∧ (v.2.2.2 = true → pIni P_C_keepO = true → (Cond.fieldLink "ClothWithMan" x (((mCl[v.1]?).getD ("", fun _ => ("", "", "", false), 0)).2.1 v.2.1).1 (((mCl[v.1]?).getD ("", fun _ => ("", "", "", false), 0)).2.1 v.2.1).2.1 (((mCl[v.1]?).getD ("", fun _ => ("", "", "", false), 0)).2.1 v.2.1).2.2.1 ∈ lw_tbl ∧ (((mCl[v.1]?).getD ("", fun _ => ("", "", "", false), 0)).2.1 v.2.1).1 = "ClothWithMan"))) (fcC ⟨fo_C_19, fun h1 h2 => by cases h2⟩ (fcC ⟨fo_C_33, fun h1 h2 => by cases h2⟩ (fcC ⟨fo_C_37, fun h1 h2 => by cases h2⟩ (fcC ⟨fo_C_60, fun h1 h2 => by cases h2⟩ (fcC ⟨fo_C_71, fun h1 h2 => by cases h1⟩ (fcC ⟨fo_C_122, fun h1 h2 => by cases h1⟩ (fcC ⟨fo_C_201, fun h1 h2 => by cases h1⟩ (fcC ⟨fo_C_310, fun h1 h2 => by cases h1⟩ (fcC ⟨fo_C_407, fun h1 h2 => by cases h1⟩ (fcC ⟨fo_C_408, fun h1 h2 => by cases h1⟩ (fcC ⟨fo_C_412, fun h1 h2 => by cases h1⟩ (fcC ⟨fo_C_415, fun h1 h2 => by cases h2⟩ (fcC ⟨fo_C_417, fun h1 h2 => by cases h2⟩ fcN))))))))))))) x (ci, f, ty, fin) h
  · intro x
    have hh := mLook_all (l := ([] : List (Nat × (Int32 ⊕ Int64)))) (Q := fun x (v : Int32 ⊕ Int64) => (∀ w, v = .inl w → Cond.constant "ClothWithMan" x w ∈ lw_tbl) ∧ (∀ w, v = .inr w → Cond.constantLong "ClothWithMan" x w ∈ lw_tbl)) fcN x
    exact ⟨fun w h => (hh _ h).1 w rfl, fun w h => (hh _ h).2 w rfl⟩
  · exact fun x en h => mLook_all (Q := fun x en => mLink "ClothWithMan" x en ∧ mCtr l en ∧ (en.1.1 = 2 → en.2.2.2.2.2.2 = none)) (fcC ⟨li_C_145, c_C_isIn l, (fun h => by cases h)⟩ (fcC ⟨li_C_183, c_AL_get l, (fun h => by cases h)⟩ (fcC ⟨li_C_281, c_C_pieceCount l, (fun h => by cases h)⟩ (fcC ⟨li_C_330, c_C_storyCount l, (fun h => by cases h)⟩ (fcC ⟨li_C_406, c_Ke_init l, (fun _ => rfl)⟩ (fcC ⟨li_C_409, c_C_countedBits l, (fun h => by cases h)⟩ fcN)))))) x en h
  · exact fun x kd h => mLook_all (Q := fun x kd => (kd = 95 ∧ Cond.fieldLink "ClothWithMan" x "ClothWithMan" "LIKENESSES" "[I" ∈ lw_tbl) ∨ (kd = 96 ∧ Cond.fieldLink "ClothWithMan" x "ClothWithMan" "APART_BOUNDS" "[I" ∈ lw_tbl)) fcN x kd h
  · exact fun x ci h => mLook_all (Q := fun x ci => ci ≠ 0 ∧ ∃ (C : String) (T : u_T) (N : Nat), mCl[ci]? = some (C, T, N) ∧ Cond.classLink "ClothWithMan" x C ∈ lw_tbl ∧ Cond.instantiable C N ∈ lw_tbl) (fcC ⟨by decide, "ClothWithMan$Piece", TX6, 6, rfl, tw_3_6, tw_3_7⟩ (fcC ⟨by decide, "ClothWithMan$Story", TX8, 9, rfl, tw_3_215, tw_3_216⟩ fcN)) x ci h
set_option maxRecDepth 100000 in
theorem c_C_keepO (l : Launch) : mCtr l E_C_keepO := mCtr_of (P := P_C_keepO) (own := "ClothWithMan") mLay_ok rfl (by decide +kernel) rfl (ok_C_keepO l) (fun h => by cases h) (fun as σ pr rv σ' hF hpr hlv => by
  unfold E_C_keepO S_C_keepO at hF
  simp only [] at hF
  split at hF
  · cases hF
    obtain ⟨n, pcF, c1, s1, g1, g2, g3, g4⟩ := mF_inv (d_C_keepO _ σ (hpr _ rfl))
    exact ⟨Nat.le_of_ble_eq_true rfl, (fun v h => by cases h; trivial), n, pcF, c1, s1, g1, ⟨mEnd_of (i := .ireturn) (P := P_C_keepO) (rets := [10, 154]) rfl g2, bI_narrow _⟩, g3, g4⟩
  · cases hF
    exact (hpr _ rfl).elim)
/-! ClothWithMan.keep(I)Z -/
noncomputable def t_C_keepN_102 (x1 : Int32) (r2 : Nat) (c : Int32) (s : MSto) : MSto := (if 6 ≤ c then s else (if (v_C_storyCount s) ≤ c then (sI s 40 r2 (Int32.toNatClampNeg c) 1) else (sI s 40 r2 (Int32.toNatClampNeg c) (gI s 9 (v_AL_get 15 0 c s) 1))))
noncomputable def q_C_keepN_102s (x1 : Int32) (r2 : Nat) (c : Int32) (s : MSto) : Nat := (if 6 ≤ c then 1 else 0)
def g_C_keepN_102 (x1 : Int32) (r2 : Nat) (c : Int32) (s : MSto) : Prop := (¬ (6 ≤ c) → ((((v_C_storyCount s) ≤ c) → (vp_in c 6)) ∧ (¬ ((v_C_storyCount s) ≤ c) → ((p_AL_get 15 0 c s) ∧ (vp_in c 6)))))
noncomputable def f_C_keepN_102 (x1 : Int32) (r2 : Nat) (c0 : Int32) (s0 : MSto) (n : Nat) : MSto := nfold (fun i s => t_C_keepN_102 x1 r2 (c0 + nI i) s) s0 n
noncomputable def n_C_keepN_102 (x1 : Int32) (r2 : Nat) (c0 : Int32) (s0 : MSto) : Nat := 6
noncomputable def t_C_keepN_66 (x1 : Int32) (r2 : Nat) (c : Int32) (s : MSto) : MSto := (if (v_C_pieceCount s) ≤ c then s else (sI s 39 r2 (Int32.toNatClampNeg c) (gI s 7 (v_AL_get 14 0 c s) 5)))
noncomputable def q_C_keepN_66s (x1 : Int32) (r2 : Nat) (c : Int32) (s : MSto) : Nat := (if (v_C_pieceCount s) ≤ c then 1 else 0)
def g_C_keepN_66 (x1 : Int32) (r2 : Nat) (c : Int32) (s : MSto) : Prop := (¬ ((v_C_pieceCount s) ≤ c) → ((p_AL_get 14 0 c s) ∧ (vp_in c 12)))
noncomputable def f_C_keepN_66 (x1 : Int32) (r2 : Nat) (c0 : Int32) (s0 : MSto) (n : Nat) : MSto := nfold (fun i s => t_C_keepN_66 x1 r2 (c0 + nI i) s) s0 n
noncomputable def n_C_keepN_66 (x1 : Int32) (r2 : Nat) (c0 : Int32) (s0 : MSto) : Nat := (v_C_pieceCount s0).toNatClampNeg
def bj_C_keepN_j56 (x1 : Int32) (r2 : Nat) (σ : MSto) : Prop := True
noncomputable def ej_C_keepN_j56 (x1 : Int32) (r2 : Nat) (σ : MSto) : MSto := (sR (f_C_keepN_102 x1 r2 0 (f_C_keepN_66 x1 r2 0 (sI σ 4 r2 2 (v_C_countedBits σ)) (n_C_keepN_66 x1 r2 0 (sI σ 4 r2 2 (v_C_countedBits σ)))) (n_C_keepN_102 x1 r2 0 (f_C_keepN_66 x1 r2 0 (sI σ 4 r2 2 (v_C_countedBits σ)) (n_C_keepN_66 x1 r2 0 (sI σ 4 r2 2 (v_C_countedBits σ)))))) 25 0 (Int32.toNatClampNeg x1) (some r2))
def gj_C_keepN_j56 (x1 : Int32) (r2 : Nat) (σ : MSto) : Prop := ((p_C_countedBits σ) ∧ ((∀ i, i < (n_C_keepN_66 x1 r2 0 (sI σ 4 r2 2 (v_C_countedBits σ))) → g_C_keepN_66 x1 r2 (0 + nI i) (f_C_keepN_66 x1 r2 0 (sI σ 4 r2 2 (v_C_countedBits σ)) i) ∧ ¬ q_C_keepN_66s x1 r2 (0 + nI i) (f_C_keepN_66 x1 r2 0 (sI σ 4 r2 2 (v_C_countedBits σ)) i) = 1) ∧ ((((v_C_pieceCount (f_C_keepN_66 x1 r2 0 (sI σ 4 r2 2 (v_C_countedBits σ)) (n_C_keepN_66 x1 r2 0 (sI σ 4 r2 2 (v_C_countedBits σ))))) ≤ (0 + nI (n_C_keepN_66 x1 r2 0 (sI σ 4 r2 2 (v_C_countedBits σ))))) → ((∀ i, i < (n_C_keepN_102 x1 r2 0 (f_C_keepN_66 x1 r2 0 (sI σ 4 r2 2 (v_C_countedBits σ)) (n_C_keepN_66 x1 r2 0 (sI σ 4 r2 2 (v_C_countedBits σ))))) → g_C_keepN_102 x1 r2 (0 + nI i) (f_C_keepN_102 x1 r2 0 (f_C_keepN_66 x1 r2 0 (sI σ 4 r2 2 (v_C_countedBits σ)) (n_C_keepN_66 x1 r2 0 (sI σ 4 r2 2 (v_C_countedBits σ)))) i) ∧ ¬ q_C_keepN_102s x1 r2 (0 + nI i) (f_C_keepN_102 x1 r2 0 (f_C_keepN_66 x1 r2 0 (sI σ 4 r2 2 (v_C_countedBits σ)) (n_C_keepN_66 x1 r2 0 (sI σ 4 r2 2 (v_C_countedBits σ)))) i) = 1) ∧ (((6 ≤ (0 + nI (n_C_keepN_102 x1 r2 0 (f_C_keepN_66 x1 r2 0 (sI σ 4 r2 2 (v_C_countedBits σ)) (n_C_keepN_66 x1 r2 0 (sI σ 4 r2 2 (v_C_countedBits σ))))))) → (vp_in x1 3)) ∧ (¬ (6 ≤ (0 + nI (n_C_keepN_102 x1 r2 0 (f_C_keepN_66 x1 r2 0 (sI σ 4 r2 2 (v_C_countedBits σ)) (n_C_keepN_66 x1 r2 0 (sI σ 4 r2 2 (v_C_countedBits σ))))))) → False)))) ∧ (¬ ((v_C_pieceCount (f_C_keepN_66 x1 r2 0 (sI σ 4 r2 2 (v_C_countedBits σ)) (n_C_keepN_66 x1 r2 0 (sI σ 4 r2 2 (v_C_countedBits σ))))) ≤ (0 + nI (n_C_keepN_66 x1 r2 0 (sI σ 4 r2 2 (v_C_countedBits σ))))) → False))))
def b_C_keepN (a1 : Int32) (σ : MSto) : Prop := (if (v_C_isIn a1 0 2 σ) = 0 then False else (bj_C_keepN_j56 a1 (v_newKe σ) (sI (sI (e_newKe σ) 4 (v_newKe σ) 0 (gI (e_newKe σ) 1 0 1)) 4 (v_newKe σ) 1 (gI (sI (e_newKe σ) 4 (v_newKe σ) 0 (gI (e_newKe σ) 1 0 1)) 12 0 12))))
noncomputable def v_C_keepN (a1 : Int32) (σ : MSto) : Int32 := bI (b_C_keepN a1 σ)
def p_C_keepN (a1 : Int32) (σ : MSto) : Prop := (¬ ((v_C_isIn a1 0 2 σ) = 0) → ((vp_in a1 3) ∧ (((gR σ 25 0 (Int32.toNatClampNeg a1)) = none → ((p_newKe σ) ∧ (gj_C_keepN_j56 a1 (v_newKe σ) (sI (sI (e_newKe σ) 4 (v_newKe σ) 0 (gI (e_newKe σ) 1 0 1)) 4 (v_newKe σ) 1 (gI (sI (e_newKe σ) 4 (v_newKe σ) 0 (gI (e_newKe σ) 1 0 1)) 12 0 12))))) ∧ (∀ z1, (gR σ 25 0 (Int32.toNatClampNeg a1)) = some z1 → False))))
noncomputable def e_C_keepN (a1 : Int32) (σ : MSto) : MSto := (if (v_C_isIn a1 0 2 σ) = 0 then σ else (ej_C_keepN_j56 a1 (v_newKe σ) (sI (sI (e_newKe σ) 4 (v_newKe σ) 0 (gI (e_newKe σ) 1 0 1)) 4 (v_newKe σ) 1 (gI (sI (e_newKe σ) 4 (v_newKe σ) 0 (gI (e_newKe σ) 1 0 1)) 12 0 12))))
noncomputable def S_C_keepN : List MV → MSto → Option Prop × Option MV × MSto := fun as σ => match as with
  | [.inr (.inr (some (12, 0))), .inl a0] => (some (p_C_keepN a0 σ), some (mI (v_C_keepN a0 σ)), e_C_keepN a0 σ)
  | _ => (some False, none, σ)
noncomputable def E_C_keepN : MEnt := ((1, 1, 12), (7, 143, 3, 23), S_C_keepN, ((⟨"ClothWithMan", "keep", "(I)Z"⟩ : MethodName), prog_1_method_49_code, 4, (some .boolean)))

def T_C_keepN : Nat → Option (Instr × Nat × List Nat) := fun k => bif Nat.blt k 155 then (bif Nat.blt k 75 then (bif Nat.blt k 37 then (bif Nat.blt k 16 then (bif Nat.blt k 9 then (bif Nat.blt k 2 then (bif Nat.blt k 1 then (bif Nat.beq k 0 then some (.iload_n 1, 1, []) else none) else (bif Nat.beq k 1 then some (.iconst 0, 2, []) else none)) else (bif Nat.blt k 3 then (bif Nat.beq k 2 then some (.iconst 2, 3, []) else none) else (bif Nat.blt k 6 then (bif Nat.beq k 3 then some (.invokestatic 145, 6, []) else none) else (bif Nat.beq k 6 then some (.ifCond .ne 5, 9, [11]) else none)))) else (bif Nat.blt k 11 then (bif Nat.blt k 10 then (bif Nat.beq k 9 then some (.iconst 0, 10, []) else none) else (bif Nat.beq k 10 then some (.ireturn, 11, []) else none)) else (bif Nat.blt k 12 then (bif Nat.beq k 11 then some (.aload_n 0, 12, []) else none) else (bif Nat.blt k 15 then (bif Nat.beq k 12 then some (.getfield 60, 15, []) else none) else (bif Nat.beq k 15 then some (.iload_n 1, 16, []) else none))))) else (bif Nat.blt k 25 then (bif Nat.blt k 20 then (bif Nat.blt k 17 then (bif Nat.beq k 16 then some (.aaload, 17, []) else none) else (bif Nat.beq k 17 then some (.ifnull 12, 20, [29]) else none)) else (bif Nat.blt k 21 then (bif Nat.beq k 20 then some (.aload_n 0, 21, []) else none) else (bif Nat.blt k 24 then (bif Nat.beq k 21 then some (.getfield 60, 24, []) else none) else (bif Nat.beq k 24 then some (.iload_n 1, 25, []) else none)))) else (bif Nat.blt k 32 then (bif Nat.blt k 29 then (bif Nat.beq k 25 then some (.aaload, 26, []) else none) else (bif Nat.beq k 29 then some (.new 58, 32, [36]) else none)) else (bif Nat.blt k 33 then (bif Nat.beq k 32 then some (.dup, 33, []) else none) else (bif Nat.blt k 36 then (bif Nat.beq k 33 then some (.invokespecial 406, 36, []) else none) else (bif Nat.beq k 36 then some (.astore_n 2, 37, []) else none)))))) else (bif Nat.blt k 57 then (bif Nat.blt k 48 then (bif Nat.blt k 39 then (bif Nat.blt k 38 then (bif Nat.beq k 37 then some (.aload_n 2, 38, []) else none) else (bif Nat.beq k 38 then some (.aload_n 0, 39, []) else none)) else (bif Nat.blt k 42 then (bif Nat.beq k 39 then some (.getfield 19, 42, []) else none) else (bif Nat.blt k 45 then (bif Nat.beq k 42 then some (.getfield 122, 45, []) else none) else (bif Nat.beq k 45 then some (.putfield 407, 48, []) else none)))) else (bif Nat.blt k 50 then (bif Nat.blt k 49 then (bif Nat.beq k 48 then some (.aload_n 2, 49, []) else none) else (bif Nat.beq k 49 then some (.aload_n 0, 50, []) else none)) else (bif Nat.blt k 53 then (bif Nat.beq k 50 then some (.getfield 71, 53, []) else none) else (bif Nat.blt k 56 then (bif Nat.beq k 53 then some (.putfield 408, 56, []) else none) else (bif Nat.beq k 56 then some (.aload_n 2, 57, []) else none))))) else (bif Nat.blt k 66 then (bif Nat.blt k 61 then (bif Nat.blt k 58 then (bif Nat.beq k 57 then some (.aload_n 0, 58, []) else none) else (bif Nat.beq k 58 then some (.invokevirtual 409, 61, []) else none)) else (bif Nat.blt k 64 then (bif Nat.beq k 61 then some (.putfield 412, 64, []) else none) else (bif Nat.blt k 65 then (bif Nat.beq k 64 then some (.iconst 0, 65, []) else none) else (bif Nat.beq k 65 then some (.istore_n 3, 66, []) else none)))) else (bif Nat.blt k 68 then (bif Nat.blt k 67 then (bif Nat.beq k 66 then some (.iload_n 3, 67, []) else none) else (bif Nat.beq k 67 then some (.aload_n 0, 68, []) else none)) else (bif Nat.blt k 71 then (bif Nat.beq k 68 then some (.invokevirtual 281, 71, []) else none) else (bif Nat.blt k 74 then (bif Nat.beq k 71 then some (.if_icmp .ge 29, 74, [100]) else none) else (bif Nat.beq k 74 then some (.aload_n 2, 75, []) else none))))))) else (bif Nat.blt k 114 then (bif Nat.blt k 97 then (bif Nat.blt k 84 then (bif Nat.blt k 79 then (bif Nat.blt k 78 then (bif Nat.beq k 75 then some (.getfield 415, 78, []) else none) else (bif Nat.beq k 78 then some (.iload_n 3, 79, []) else none)) else (bif Nat.blt k 80 then (bif Nat.beq k 79 then some (.aload_n 0, 80, []) else none) else (bif Nat.blt k 83 then (bif Nat.beq k 80 then some (.getfield 33, 83, []) else none) else (bif Nat.beq k 83 then some (.iload_n 3, 84, []) else none)))) else (bif Nat.blt k 90 then (bif Nat.blt k 87 then (bif Nat.beq k 84 then some (.invokevirtual 183, 87, []) else none) else (bif Nat.beq k 87 then some (.checkcast 168, 90, []) else none)) else (bif Nat.blt k 93 then (bif Nat.beq k 90 then some (.getfield 201, 93, []) else none) else (bif Nat.blt k 94 then (bif Nat.beq k 93 then some (.iastore, 94, []) else none) else (bif Nat.beq k 94 then some (.iinc 3 1, 97, []) else none))))) else (bif Nat.blt k 105 then (bif Nat.blt k 101 then (bif Nat.blt k 100 then (bif Nat.beq k 97 then some (.goto (-31), 100, [66]) else none) else (bif Nat.beq k 100 then some (.iconst 0, 101, []) else none)) else (bif Nat.blt k 102 then (bif Nat.beq k 101 then some (.istore_n 3, 102, []) else none) else (bif Nat.blt k 103 then (bif Nat.beq k 102 then some (.iload_n 3, 103, []) else none) else (bif Nat.beq k 103 then some (.bipush 6, 105, []) else none)))) else (bif Nat.blt k 109 then (bif Nat.blt k 108 then (bif Nat.beq k 105 then some (.if_icmp .ge 41, 108, [146]) else none) else (bif Nat.beq k 108 then some (.aload_n 2, 109, []) else none)) else (bif Nat.blt k 112 then (bif Nat.beq k 109 then some (.getfield 417, 112, []) else none) else (bif Nat.blt k 113 then (bif Nat.beq k 112 then some (.iload_n 3, 113, []) else none) else (bif Nat.beq k 113 then some (.iload_n 3, 114, []) else none)))))) else (bif Nat.blt k 138 then (bif Nat.blt k 125 then (bif Nat.blt k 118 then (bif Nat.blt k 115 then (bif Nat.beq k 114 then some (.aload_n 0, 115, []) else none) else (bif Nat.beq k 115 then some (.invokevirtual 330, 118, []) else none)) else (bif Nat.blt k 121 then (bif Nat.beq k 118 then some (.if_icmp .ge 20, 121, [138]) else none) else (bif Nat.blt k 122 then (bif Nat.beq k 121 then some (.aload_n 0, 122, []) else none) else (bif Nat.beq k 122 then some (.getfield 37, 125, []) else none)))) else (bif Nat.blt k 129 then (bif Nat.blt k 126 then (bif Nat.beq k 125 then some (.iload_n 3, 126, []) else none) else (bif Nat.beq k 126 then some (.invokevirtual 183, 129, []) else none)) else (bif Nat.blt k 132 then (bif Nat.beq k 129 then some (.checkcast 294, 132, []) else none) else (bif Nat.blt k 135 then (bif Nat.beq k 132 then some (.getfield 310, 135, []) else none) else (bif Nat.beq k 135 then some (.goto 4, 138, [139]) else none))))) else (bif Nat.blt k 147 then (bif Nat.blt k 140 then (bif Nat.blt k 139 then (bif Nat.beq k 138 then some (.iconst 1, 139, []) else none) else (bif Nat.beq k 139 then some (.iastore, 140, []) else none)) else (bif Nat.blt k 143 then (bif Nat.beq k 140 then some (.iinc 3 1, 143, []) else none) else (bif Nat.blt k 146 then (bif Nat.beq k 143 then some (.goto (-41), 146, [102]) else none) else (bif Nat.beq k 146 then some (.aload_n 0, 147, []) else none)))) else (bif Nat.blt k 152 then (bif Nat.blt k 150 then (bif Nat.beq k 147 then some (.getfield 60, 150, []) else none) else (bif Nat.blt k 151 then (bif Nat.beq k 150 then some (.iload_n 1, 151, []) else none) else (bif Nat.beq k 151 then some (.aload_n 2, 152, []) else none))) else (bif Nat.blt k 153 then (bif Nat.beq k 152 then some (.aastore, 153, []) else none) else (bif Nat.blt k 154 then (bif Nat.beq k 153 then some (.iconst 1, 154, []) else none) else (bif Nat.beq k 154 then some (.ireturn, 155, []) else none)))))))) else none
noncomputable def P_C_keepN : MP := (T_C_keepN, (fun k => mLook k [(19, (12, 1, (.object "ClothWithMan$Cloth"), true)), (33, (12, 4, (.object "java/util/ArrayList"), true)), (37, (12, 5, (.object "java/util/ArrayList"), true)), (60, (12, 10, (.array (.object "ClothWithMan$Kept")), true)), (71, (12, 12, .int, false)), (122, (1, 1, .int, false)), (201, (7, 5, .int, false)), (310, (9, 1, .int, false)), (407, (4, 0, .int, false)), (408, (4, 1, .int, false)), (412, (4, 2, .int, false)), (415, (4, 3, (.array .int), true)), (417, (4, 4, (.array .int), true))]), (fun k => mLook k []), (fun k => mLook k [(145, E_C_isIn), (183, E_AL_get), (281, E_C_pieceCount), (330, E_C_storyCount), (409, E_C_countedBits)]), (fun k => mLook k []), (fun k => mLook k []), (fun k => mLook k [(168, 7), (294, 9)]), (fun k => mLook k [(56, [true, true, true, false]), (66, [true, true, true, true]), (102, [true, true, true, true])]), (fun k => [10, 154].any (Nat.beq k)), (7, 143, 3, 23), false, (fun k => mLook k [(29, E_newKe)]))
set_option maxRecDepth 100000 in
set_option maxHeartbeats 4000000 in
theorem q_C_keepN_e (a1 : Int32) (σ : MSto) (n : Nat) : mexe KT P_C_keepN (n + 1) (0, [some (mR 12 0), some (mI a1), none, none], [], σ, 0, 0) = mIf ((v_C_isIn a1 0 2 σ) = 0) (some (10, [], [(mI 0)], σ, 0, 0)) (mG (vp_in a1 3) (mO (gR σ 25 0 (Int32.toNatClampNeg a1)) (mG (p_newKe σ) (mexe KT P_C_keepN n (56, [some (mR 12 0), some (mI a1), some (mR 4 (v_newKe σ)), none], [], (sI (sI (e_newKe σ) 4 (v_newKe σ) 0 (gI (e_newKe σ) 1 0 1)) 4 (v_newKe σ) 1 (gI (sI (e_newKe σ) 4 (v_newKe σ) 0 (gI (e_newKe σ) 1 0 1)) 12 0 12)), 3, 23))) (fun z1 => mG (vp_in a1 3) (mO (gR σ 25 0 (Int32.toNatClampNeg a1)) (none) (fun z2 => none))))) := rfl
set_option maxRecDepth 100000 in
set_option maxHeartbeats 4000000 in
theorem q_C_keepN_56 (x1 : Int32) (r2 : Nat) (σ : MSto) (n : Nat) : mexe KT P_C_keepN (n + 1) (56, [some (mR 12 0), some (mI x1), some (mR 4 r2), none], [], σ, 3, 23) = mG (p_C_countedBits σ) (mexe KT P_C_keepN n (66, [some (mR 12 0), some (mI x1), some (mR 4 r2), some (mI 0)], [], (sI σ 4 r2 2 (v_C_countedBits σ)), 3, 23)) := rfl
set_option maxRecDepth 100000 in
set_option maxHeartbeats 4000000 in
theorem q_C_keepN_66 (x1 : Int32) (r2 : Nat) (x3 : Int32) (σ : MSto) (n : Nat) : mexe KT P_C_keepN (n + 1) (66, [some (mR 12 0), some (mI x1), some (mR 4 r2), some (mI x3)], [], σ, 3, 23) = mIf ((v_C_pieceCount σ) ≤ x3) (mexe KT P_C_keepN n (102, [some (mR 12 0), some (mI x1), some (mR 4 r2), some (mI 0)], [], σ, 3, 23)) (mG (p_AL_get 14 0 x3 σ) (mG (vp_in x3 12) (mexe KT P_C_keepN n (66, [some (mR 12 0), some (mI x1), some (mR 4 r2), some (mI (x3 + 1))], [], (sI σ 39 r2 (Int32.toNatClampNeg x3) (gI σ 7 (v_AL_get 14 0 x3 σ) 5)), 3, 23)))) := rfl
set_option maxRecDepth 100000 in
set_option maxHeartbeats 4000000 in
theorem q_C_keepN_102 (x1 : Int32) (r2 : Nat) (x3 : Int32) (σ : MSto) (n : Nat) : mexe KT P_C_keepN (n + 1) (102, [some (mR 12 0), some (mI x1), some (mR 4 r2), some (mI x3)], [], σ, 3, 23) = mIf (6 ≤ x3) (mG (vp_in x1 3) (some (154, [], [(mI 1)], (sR σ 25 0 (Int32.toNatClampNeg x1) (some r2)), 3, 23))) (mIf ((v_C_storyCount σ) ≤ x3) (mG (vp_in x3 6) (mexe KT P_C_keepN n (102, [some (mR 12 0), some (mI x1), some (mR 4 r2), some (mI (x3 + 1))], [], (sI σ 40 r2 (Int32.toNatClampNeg x3) 1), 3, 23))) (mG (p_AL_get 15 0 x3 σ) (mG (vp_in x3 6) (mexe KT P_C_keepN n (102, [some (mR 12 0), some (mI x1), some (mR 4 r2), some (mI (x3 + 1))], [], (sI σ 40 r2 (Int32.toNatClampNeg x3) (gI σ 9 (v_AL_get 15 0 x3 σ) 1)), 3, 23))))) := rfl
set_option maxRecDepth 100000 in
theorem lt_C_keepN_102 {Post : MST → Prop} (x1 : Int32) (r2 : Nat) (c : Int32) (s : MSto) (hp : g_C_keepN_102 x1 r2 c s) (hq : ¬ q_C_keepN_102s x1 r2 c s = 1) (hn : ∀ r, t_C_keepN_102 x1 r2 c s = r → mW1 P_C_keepN (102, [some (mR 12 0), some (mI x1), some (mR 4 r2), some (mI (c + 1))], [], r, 3, 23) Post) : mW1 P_C_keepN (102, [some (mR 12 0), some (mI x1), some (mR 4 r2), some (mI c)], [], s, 3, 23) Post := by
  unfold g_C_keepN_102 at hp
  refine mW1_eq (q_C_keepN_102 _ _ _ _) ?_
  refine mTr_if (fun h0 => ?_) (fun h0 => ?_)
  · skip
    exact absurd (if_pos h0) hq
  · skip
    have hp := hp h0
    refine mTr_if (fun h1 => ?_) (fun h1 => ?_)
    · skip
      have hp := hp.1 h1
      refine mTr_g hp ?_
      exact mTr_k (hn (sI s 40 r2 (Int32.toNatClampNeg c) 1) ((if_neg h0).trans (if_pos h1)))
    · skip
      have hp := hp.2 h1
      refine mTr_g hp.1 ?_
      have hp := hp.2
      refine mTr_g hp ?_
      exact mTr_k (hn (sI s 40 r2 (Int32.toNatClampNeg c) (gI s 9 (v_AL_get 15 0 c s) 1)) ((if_neg h0).trans (if_neg h1)))
theorem lp_C_keepN_102 {Post : MST → Prop} (x1 : Int32) (r2 : Nat) (c0 : Int32) (s0 : MSto) (N : Nat) (hb : ∀ i, i < N → g_C_keepN_102 x1 r2 (c0 + nI i) (f_C_keepN_102 x1 r2 c0 s0 i) ∧ ¬ q_C_keepN_102s x1 r2 (c0 + nI i) (f_C_keepN_102 x1 r2 c0 s0 i) = 1) (h : mW1 P_C_keepN (102, [some (mR 12 0), some (mI x1), some (mR 4 r2), some (mI (c0 + nI N))], [], (f_C_keepN_102 x1 r2 c0 s0 N), 3, 23) Post) : mW1 P_C_keepN (102, [some (mR 12 0), some (mI x1), some (mR 4 r2), some (mI c0)], [], s0, 3, 23) Post := by
  refine mW1_st (mW1_loop (fun i => (102, [some (mR 12 0), some (mI x1), some (mR 4 r2), some (mI (c0 + nI i))], [], (f_C_keepN_102 x1 r2 c0 s0 i), 3, 23)) N (fun i hlt hn => ?_) h) (by rw [show nI 0 = 0 from rfl, Int32.add_zero] <;> rfl)
  refine lt_C_keepN_102 x1 r2 _ _ (hb i hlt).1 (hb i hlt).2 (fun r hr => ?_)
  rw [Int32.add_assoc, nI_s]
  subst hr
  exact hn
set_option maxRecDepth 100000 in
theorem lt_C_keepN_66 {Post : MST → Prop} (x1 : Int32) (r2 : Nat) (c : Int32) (s : MSto) (hp : g_C_keepN_66 x1 r2 c s) (hq : ¬ q_C_keepN_66s x1 r2 c s = 1) (hn : ∀ r, t_C_keepN_66 x1 r2 c s = r → mW1 P_C_keepN (66, [some (mR 12 0), some (mI x1), some (mR 4 r2), some (mI (c + 1))], [], r, 3, 23) Post) : mW1 P_C_keepN (66, [some (mR 12 0), some (mI x1), some (mR 4 r2), some (mI c)], [], s, 3, 23) Post := by
  unfold g_C_keepN_66 at hp
  refine mW1_eq (q_C_keepN_66 _ _ _ _) ?_
  refine mTr_if (fun h0 => ?_) (fun h0 => ?_)
  · skip
    exact absurd (if_pos h0) hq
  · skip
    have hp := hp h0
    refine mTr_g hp.1 ?_
    have hp := hp.2
    refine mTr_g hp ?_
    exact mTr_k (hn (sI s 39 r2 (Int32.toNatClampNeg c) (gI s 7 (v_AL_get 14 0 c s) 5)) (if_neg h0))
theorem lp_C_keepN_66 {Post : MST → Prop} (x1 : Int32) (r2 : Nat) (c0 : Int32) (s0 : MSto) (N : Nat) (hb : ∀ i, i < N → g_C_keepN_66 x1 r2 (c0 + nI i) (f_C_keepN_66 x1 r2 c0 s0 i) ∧ ¬ q_C_keepN_66s x1 r2 (c0 + nI i) (f_C_keepN_66 x1 r2 c0 s0 i) = 1) (h : mW1 P_C_keepN (66, [some (mR 12 0), some (mI x1), some (mR 4 r2), some (mI (c0 + nI N))], [], (f_C_keepN_66 x1 r2 c0 s0 N), 3, 23) Post) : mW1 P_C_keepN (66, [some (mR 12 0), some (mI x1), some (mR 4 r2), some (mI c0)], [], s0, 3, 23) Post := by
  refine mW1_st (mW1_loop (fun i => (66, [some (mR 12 0), some (mI x1), some (mR 4 r2), some (mI (c0 + nI i))], [], (f_C_keepN_66 x1 r2 c0 s0 i), 3, 23)) N (fun i hlt hn => ?_) h) (by rw [show nI 0 = 0 from rfl, Int32.add_zero] <;> rfl)
  refine lt_C_keepN_66 x1 r2 _ _ (hb i hlt).1 (hb i hlt).2 (fun r hr => ?_)
  rw [Int32.add_assoc, nI_s]
  subst hr
  exact hn
set_option maxRecDepth 100000 in
theorem lj_C_keepN_j56 (x1 : Int32) (r2 : Nat) (σ : MSto) (hp : gj_C_keepN_j56 x1 r2 σ) : mW1 P_C_keepN (56, [some (mR 12 0), some (mI x1), some (mR 4 r2), none], [], σ, 3, 23) (mF [10, 154] [mI (bI (bj_C_keepN_j56 x1 r2 σ))] (ej_C_keepN_j56 x1 r2 σ) 3 23) := by
  unfold gj_C_keepN_j56 at hp
  refine mW1_eq (q_C_keepN_56 _ _ _) ?_
  refine mTr_g hp.1 ?_
  have hp := hp.2
  refine mTr_k (lp_C_keepN_66 x1 r2 0 (sI σ 4 r2 2 (v_C_countedBits σ)) (n_C_keepN_66 x1 r2 0 (sI σ 4 r2 2 (v_C_countedBits σ))) hp.1 ?_)
  have hp := hp.2
  refine mW1_eq (q_C_keepN_66 _ _ _ _) ?_
  refine mTr_if (fun h0 => ?_) (fun h0 => ?_)
  · skip
    have hp := hp.1 h0
    refine mTr_k (lp_C_keepN_102 x1 r2 0 (f_C_keepN_66 x1 r2 0 (sI σ 4 r2 2 (v_C_countedBits σ)) (n_C_keepN_66 x1 r2 0 (sI σ 4 r2 2 (v_C_countedBits σ)))) (n_C_keepN_102 x1 r2 0 (f_C_keepN_66 x1 r2 0 (sI σ 4 r2 2 (v_C_countedBits σ)) (n_C_keepN_66 x1 r2 0 (sI σ 4 r2 2 (v_C_countedBits σ))))) hp.1 ?_)
    have hp := hp.2
    refine mW1_eq (q_C_keepN_102 _ _ _ _) ?_
    refine mTr_if (fun h1 => ?_) (fun h1 => ?_)
    · skip
      have hp := hp.1 h1
      refine mTr_g hp ?_
      exact mTr_e (by decide) (bI_T (rfl)) (Eq.symm (rfl)) (by decide) (by decide)
    · skip
      have hp := hp.2 h1
      exact hp.elim
  · skip
    have hp := hp.2 h0
    exact hp.elim
set_option maxRecDepth 100000 in
set_option maxHeartbeats 4000000 in
theorem d_C_keepN (a1 : Int32) (σ : MSto) (hp : p_C_keepN a1 σ) : mW1 P_C_keepN (0, [some (mR 12 0), some (mI a1), none, none], [], σ, 0, 0) (mF [10, 154] [mI (v_C_keepN a1 σ)] (e_C_keepN a1 σ) 3 23) := by
  refine mW1_eq (q_C_keepN_e _ _) ?_
  unfold p_C_keepN at hp
  unfold v_C_keepN
  refine mTr_if (fun h0 => ?_) (fun h0 => ?_)
  · skip
    exact mTr_e (by decide) (bI_F (if_pos h0)) (Eq.symm (if_pos h0)) (by decide) (by decide)
  · skip
    have hp := hp h0
    refine mTr_g hp.1 ?_
    have hp := hp.2
    refine mTr_o (fun h1 => ?_) (fun z1 h1 => ?_)
    · skip
      have hp := hp.1 h1
      refine mTr_g hp.1 ?_
      have hp := hp.2
      exact mTr_k (mF_cB (if_neg h0) (if_neg h0) (lj_C_keepN_j56 a1 (v_newKe σ) (sI (sI (e_newKe σ) 4 (v_newKe σ) 0 (gI (e_newKe σ) 1 0 1)) 4 (v_newKe σ) 1 (gI (sI (e_newKe σ) 4 (v_newKe σ) 0 (gI (e_newKe σ) 1 0 1)) 12 0 12)) hp))
    · skip
      have hp := hp.2 z1 h1
      exact hp.elim





theorem tk_C_keepN : ∀ pc i nx tg, T_C_keepN pc = some (i, nx, tg) → mOkB prog_1_method_49_code pc i nx tg = true := code_ok (N := 155) (fun k h => by unfold T_C_keepN; rw [h]; rfl) (by decide +kernel)
theorem fu_C_keepN (l : Launch) : ∀ pc en, pFus P_C_keepN pc = some en → ∀ x nx t, pCode P_C_keepN pc = some (.new x, nx, [t]) → mFusOK l "ClothWithMan" prog_1_method_49_code pc t en := by
  intro pc en h2 x nx t h1
  have h3 := mLook_mem h2
  simp only [List.mem_cons, Prod.mk.injEq, List.not_mem_nil, or_false] at h3
  rcases h3 with ⟨rfl, rfl⟩
  · have e : T_C_keepN 29 = some (.new x, nx, [t]) := h1
    cases e
    exact fus_obj (kr := 104) (k := 4) (x := 58) (ix := 406) (ei := E_Ke_init) rfl rfl (by decide) (by decide +kernel) (by decide) (by decide) ⟨4, _, "ClothWithMan$Kept", TX3, rfl, by decide, rfl, tw_1_144, tw_5_43, tw_1_27, (lt_s (lt_s (lt_s (lt_s (lt_s lt_0 ⟨.int, by decide +kernel, Or.inl ⟨rfl, rfl⟩⟩) ⟨.int, by decide +kernel, Or.inl ⟨rfl, rfl⟩⟩) ⟨.int, by decide +kernel, Or.inl ⟨rfl, rfl⟩⟩) ⟨(.array .int), by decide +kernel, Or.inr (Or.inr ⟨⟨39, rfl⟩, rfl⟩)⟩) ⟨(.array .int), by decide +kernel, Or.inr (Or.inr ⟨⟨40, rfl⟩, rfl⟩)⟩)⟩ (by decide +kernel) (by decide +kernel) (by decide +kernel) li_C_406 (c_Ke_init l) rfl rfl ⟨by decide, by decide, rfl, rfl⟩ h_newKe

theorem ok_C_keepN (l : Launch) : mPOK l "ClothWithMan" prog_1_method_49_code P_C_keepN := by
  refine ⟨tk_C_keepN, ?_, ?_, ?_, (fun pc i nx tg kd _ h => by cases h), ?_, ?_, fu_C_keepN l⟩
  · intro x ci f ty fin h
    exact mLook_all (Q := fun x v => mFOK "ClothWithMan" x v.1 v.2.1 v.2.2.1 v.2.2.2 ∧ (v.2.2.2 = true → pIni P_C_keepN = true → (Cond.fieldLink "ClothWithMan" x (((mCl[v.1]?).getD ("", fun _ => ("", "", "", false), 0)).2.1 v.2.1).1 (((mCl[v.1]?).getD ("", fun _ => ("", "", "", false), 0)).2.1 v.2.1).2.1 (((mCl[v.1]?).getD ("", fun _ => ("", "", "", false), 0)).2.1 v.2.1).2.2.1 ∈ lw_tbl ∧ (((mCl[v.1]?).getD ("", fun _ => ("", "", "", false), 0)).2.1 v.2.1).1 = "ClothWithMan"))) (fcC ⟨fo_C_19, fun h1 h2 => by cases h2⟩ (fcC ⟨fo_C_33, fun h1 h2 => by cases h2⟩ (fcC ⟨fo_C_37, fun h1 h2 => by cases h2⟩ (fcC ⟨fo_C_60, fun h1 h2 => by cases h2⟩ (fcC ⟨fo_C_71, fun h1 h2 => by cases h1⟩ (fcC ⟨fo_C_122, fun h1 h2 => by cases h1⟩ (fcC ⟨fo_C_201, fun h1 h2 => by cases h1⟩ (fcC ⟨fo_C_310, fun h1 h2 => by cases h1⟩ (fcC ⟨fo_C_407, fun h1 h2 => by cases h1⟩ (fcC ⟨fo_C_408, fun h1 h2 => by cases h1⟩ (fcC ⟨fo_C_412, fun h1 h2 => by cases h1⟩ (fcC ⟨fo_C_415, fun h1 h2 => by cases h2⟩ (fcC ⟨fo_C_417, fun h1 h2 => by cases h2⟩ fcN))))))))))))) x (ci, f, ty, fin) h
  · intro x
    have hh := mLook_all (l := ([] : List (Nat × (Int32 ⊕ Int64)))) (Q := fun x (v : Int32 ⊕ Int64) => (∀ w, v = .inl w → Cond.constant "ClothWithMan" x w ∈ lw_tbl) ∧ (∀ w, v = .inr w → Cond.constantLong "ClothWithMan" x w ∈ lw_tbl)) fcN x
    exact ⟨fun w h => (hh _ h).1 w rfl, fun w h => (hh _ h).2 w rfl⟩
  · exact fun x en h => mLook_all (Q := fun x en => mLink "ClothWithMan" x en ∧ mCtr l en ∧ (en.1.1 = 2 → en.2.2.2.2.2.2 = none)) (fcC ⟨li_C_145, c_C_isIn l, (fun h => by cases h)⟩ (fcC ⟨li_C_183, c_AL_get l, (fun h => by cases h)⟩ (fcC ⟨li_C_281, c_C_pieceCount l, (fun h => by cases h)⟩ (fcC ⟨li_C_330, c_C_storyCount l, (fun h => by cases h)⟩ (fcC ⟨li_C_409, c_C_countedBits l, (fun h => by cases h)⟩ fcN))))) x en h
  · exact fun x kd h => mLook_all (Q := fun x kd => (kd = 95 ∧ Cond.fieldLink "ClothWithMan" x "ClothWithMan" "LIKENESSES" "[I" ∈ lw_tbl) ∨ (kd = 96 ∧ Cond.fieldLink "ClothWithMan" x "ClothWithMan" "APART_BOUNDS" "[I" ∈ lw_tbl)) fcN x kd h
  · exact fun x ci h => mLook_all (Q := fun x ci => ci ≠ 0 ∧ ∃ (C : String) (T : u_T) (N : Nat), mCl[ci]? = some (C, T, N) ∧ Cond.classLink "ClothWithMan" x C ∈ lw_tbl ∧ Cond.instantiable C N ∈ lw_tbl) (fcC ⟨by decide, "ClothWithMan$Piece", TX6, 6, rfl, tw_3_6, tw_3_7⟩ (fcC ⟨by decide, "ClothWithMan$Story", TX8, 9, rfl, tw_3_215, tw_3_216⟩ fcN)) x ci h
set_option maxRecDepth 100000 in
theorem c_C_keepN (l : Launch) : mCtr l E_C_keepN := mCtr_of (P := P_C_keepN) (own := "ClothWithMan") mLay_ok rfl (by decide +kernel) rfl (ok_C_keepN l) (fun h => by cases h) (fun as σ pr rv σ' hF hpr hlv => by
  unfold E_C_keepN S_C_keepN at hF
  simp only [] at hF
  split at hF
  · cases hF
    obtain ⟨n, pcF, c1, s1, g1, g2, g3, g4⟩ := mF_inv (d_C_keepN _ σ (hpr _ rfl))
    exact ⟨Nat.le_of_ble_eq_true rfl, (fun v h => by cases h; trivial), n, pcF, c1, s1, g1, ⟨mEnd_of (i := .ireturn) (P := P_C_keepN) (rets := [10, 154]) rfl g2, bI_narrow _⟩, g3, g4⟩
  · cases hF
    exact (hpr _ rfl).elim)

