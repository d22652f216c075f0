/-! ClothWithMan.<init>()V -/
noncomputable def t_C_init_185  (c : Int32) (s : MSto) : MSto := (if 6 ≤ c then s else (mO (gR s 112 0 3) (s) (fun z1 => (sI s 21 z1 (Int32.toNatClampNeg c) 20))))
noncomputable def q_C_init_185s  (c : Int32) (s : MSto) : Nat := (if 6 ≤ c then 1 else 0)
def g_C_init_185  (c : Int32) (s : MSto) : Prop := (¬ (6 ≤ c) → (((gR s 112 0 3) = none → False) ∧ (∀ z1, (gR s 112 0 3) = some z1 → (vp_in c 6))))
noncomputable def f_C_init_185  (c0 : Int32) (s0 : MSto) (n : Nat) : MSto := nfold (fun i s => t_C_init_185 (c0 + nI i) s) s0 n
noncomputable def n_C_init_185  (c0 : Int32) (s0 : MSto) : Nat := 6
def p_C_init  (σ : MSto) : Prop := ((p_newTe σ) ∧ ((p_newCl (sR (e_newTe σ) 112 0 0 (some 0))) ∧ ((p_newL14 (sR (sNew (sR (sNew (sR (e_newCl (sR (e_newTe σ) 112 0 0 (some 0))) 112 0 1 (some 0)) 20) 112 0 2 (some (gN σ 20))) 21) 112 0 3 (some (gN σ 21)))) ∧ ((p_newL15 (sR (e_newL14 (sR (sNew (sR (sNew (sR (e_newCl (sR (e_newTe σ) 112 0 0 (some 0))) 112 0 1 (some 0)) 20) 112 0 2 (some (gN σ 20))) 21) 112 0 3 (some (gN σ 21)))) 112 0 4 (some 0))) ∧ ((p_newL16 (sR (e_newL15 (sR (e_newL14 (sR (sNew (sR (sNew (sR (e_newCl (sR (e_newTe σ) 112 0 0 (some 0))) 112 0 1 (some 0)) 20) 112 0 2 (some (gN σ 20))) 21) 112 0 3 (some (gN σ 21)))) 112 0 4 (some 0))) 112 0 5 (some 0))) ∧ ((p_newRo (sR (sNew (sR (sNew (sR (sNew (sR (sNew (sR (e_newL16 (sR (e_newL15 (sR (e_newL14 (sR (sNew (sR (sNew (sR (e_newCl (sR (e_newTe σ) 112 0 0 (some 0))) 112 0 1 (some 0)) 20) 112 0 2 (some (gN σ 20))) 21) 112 0 3 (some (gN σ 21)))) 112 0 4 (some 0))) 112 0 5 (some 0))) 112 0 6 (some 0)) 22) 112 0 7 (some (gN σ 22))) 23) 112 0 8 (some (gN σ 23))) 24) 112 0 9 (some (gN σ 24))) 25) 112 0 10 (some (gN σ 25)))) ∧ ((∀ i, i < (n_C_init_185 0 (sR (sNew (sR (sNew (sR (sNew (sR (sNew (sR (sNew (sR (sNew (sR (sNew (sI (sR (e_newRo (sR (sNew (sR (sNew (sR (sNew (sR (sNew (sR (e_newL16 (sR (e_newL15 (sR (e_newL14 (sR (sNew (sR (sNew (sR (e_newCl (sR (e_newTe σ) 112 0 0 (some 0))) 112 0 1 (some 0)) 20) 112 0 2 (some (gN σ 20))) 21) 112 0 3 (some (gN σ 21)))) 112 0 4 (some 0))) 112 0 5 (some 0))) 112 0 6 (some 0)) 22) 112 0 7 (some (gN σ 22))) 23) 112 0 8 (some (gN σ 23))) 24) 112 0 9 (some (gN σ 24))) 25) 112 0 10 (some (gN σ 25)))) 112 0 11 (some 0)) 112 0 12 1) 26) 112 0 13 (some (gN σ 26))) 27) 112 0 14 (some (gN σ 27))) 28) 112 0 15 (some (gN σ 28))) 29) 112 0 16 (some (gN σ 29))) 30) 112 0 17 (some (gN σ 30))) 31) 112 0 18 (some (gN σ 31))) 32) 112 0 19 (some (gN σ 32)))) → g_C_init_185 (0 + nI i) (f_C_init_185 0 (sR (sNew (sR (sNew (sR (sNew (sR (sNew (sR (sNew (sR (sNew (sR (sNew (sI (sR (e_newRo (sR (sNew (sR (sNew (sR (sNew (sR (sNew (sR (e_newL16 (sR (e_newL15 (sR (e_newL14 (sR (sNew (sR (sNew (sR (e_newCl (sR (e_newTe σ) 112 0 0 (some 0))) 112 0 1 (some 0)) 20) 112 0 2 (some (gN σ 20))) 21) 112 0 3 (some (gN σ 21)))) 112 0 4 (some 0))) 112 0 5 (some 0))) 112 0 6 (some 0)) 22) 112 0 7 (some (gN σ 22))) 23) 112 0 8 (some (gN σ 23))) 24) 112 0 9 (some (gN σ 24))) 25) 112 0 10 (some (gN σ 25)))) 112 0 11 (some 0)) 112 0 12 1) 26) 112 0 13 (some (gN σ 26))) 27) 112 0 14 (some (gN σ 27))) 28) 112 0 15 (some (gN σ 28))) 29) 112 0 16 (some (gN σ 29))) 30) 112 0 17 (some (gN σ 30))) 31) 112 0 18 (some (gN σ 31))) 32) 112 0 19 (some (gN σ 32))) i) ∧ ¬ q_C_init_185s (0 + nI i) (f_C_init_185 0 (sR (sNew (sR (sNew (sR (sNew (sR (sNew (sR (sNew (sR (sNew (sR (sNew (sI (sR (e_newRo (sR (sNew (sR (sNew (sR (sNew (sR (sNew (sR (e_newL16 (sR (e_newL15 (sR (e_newL14 (sR (sNew (sR (sNew (sR (e_newCl (sR (e_newTe σ) 112 0 0 (some 0))) 112 0 1 (some 0)) 20) 112 0 2 (some (gN σ 20))) 21) 112 0 3 (some (gN σ 21)))) 112 0 4 (some 0))) 112 0 5 (some 0))) 112 0 6 (some 0)) 22) 112 0 7 (some (gN σ 22))) 23) 112 0 8 (some (gN σ 23))) 24) 112 0 9 (some (gN σ 24))) 25) 112 0 10 (some (gN σ 25)))) 112 0 11 (some 0)) 112 0 12 1) 26) 112 0 13 (some (gN σ 26))) 27) 112 0 14 (some (gN σ 27))) 28) 112 0 15 (some (gN σ 28))) 29) 112 0 16 (some (gN σ 29))) 30) 112 0 17 (some (gN σ 30))) 31) 112 0 18 (some (gN σ 31))) 32) 112 0 19 (some (gN σ 32))) i) = 1) ∧ (¬ (6 ≤ (0 + nI (n_C_init_185 0 (sR (sNew (sR (sNew (sR (sNew (sR (sNew (sR (sNew (sR (sNew (sR (sNew (sI (sR (e_newRo (sR (sNew (sR (sNew (sR (sNew (sR (sNew (sR (e_newL16 (sR (e_newL15 (sR (e_newL14 (sR (sNew (sR (sNew (sR (e_newCl (sR (e_newTe σ) 112 0 0 (some 0))) 112 0 1 (some 0)) 20) 112 0 2 (some (gN σ 20))) 21) 112 0 3 (some (gN σ 21)))) 112 0 4 (some 0))) 112 0 5 (some 0))) 112 0 6 (some 0)) 22) 112 0 7 (some (gN σ 22))) 23) 112 0 8 (some (gN σ 23))) 24) 112 0 9 (some (gN σ 24))) 25) 112 0 10 (some (gN σ 25)))) 112 0 11 (some 0)) 112 0 12 1) 26) 112 0 13 (some (gN σ 26))) 27) 112 0 14 (some (gN σ 27))) 28) 112 0 15 (some (gN σ 28))) 29) 112 0 16 (some (gN σ 29))) 30) 112 0 17 (some (gN σ 30))) 31) 112 0 18 (some (gN σ 31))) 32) 112 0 19 (some (gN σ 32)))))) → False))))))))
noncomputable def e_C_init  (σ : MSto) : MSto := (f_C_init_185 0 (sR (sNew (sR (sNew (sR (sNew (sR (sNew (sR (sNew (sR (sNew (sR (sNew (sI (sR (e_newRo (sR (sNew (sR (sNew (sR (sNew (sR (sNew (sR (e_newL16 (sR (e_newL15 (sR (e_newL14 (sR (sNew (sR (sNew (sR (e_newCl (sR (e_newTe σ) 112 0 0 (some 0))) 112 0 1 (some 0)) 20) 112 0 2 (some (gN σ 20))) 21) 112 0 3 (some (gN σ 21)))) 112 0 4 (some 0))) 112 0 5 (some 0))) 112 0 6 (some 0)) 22) 112 0 7 (some (gN σ 22))) 23) 112 0 8 (some (gN σ 23))) 24) 112 0 9 (some (gN σ 24))) 25) 112 0 10 (some (gN σ 25)))) 112 0 11 (some 0)) 112 0 12 1) 26) 112 0 13 (some (gN σ 26))) 27) 112 0 14 (some (gN σ 27))) 28) 112 0 15 (some (gN σ 28))) 29) 112 0 16 (some (gN σ 29))) 30) 112 0 17 (some (gN σ 30))) 31) 112 0 18 (some (gN σ 31))) 32) 112 0 19 (some (gN σ 32))) (n_C_init_185 0 (sR (sNew (sR (sNew (sR (sNew (sR (sNew (sR (sNew (sR (sNew (sR (sNew (sI (sR (e_newRo (sR (sNew (sR (sNew (sR (sNew (sR (sNew (sR (e_newL16 (sR (e_newL15 (sR (e_newL14 (sR (sNew (sR (sNew (sR (e_newCl (sR (e_newTe σ) 112 0 0 (some 0))) 112 0 1 (some 0)) 20) 112 0 2 (some (gN σ 20))) 21) 112 0 3 (some (gN σ 21)))) 112 0 4 (some 0))) 112 0 5 (some 0))) 112 0 6 (some 0)) 22) 112 0 7 (some (gN σ 22))) 23) 112 0 8 (some (gN σ 23))) 24) 112 0 9 (some (gN σ 24))) 25) 112 0 10 (some (gN σ 25)))) 112 0 11 (some 0)) 112 0 12 1) 26) 112 0 13 (some (gN σ 26))) 27) 112 0 14 (some (gN σ 27))) 28) 112 0 15 (some (gN σ 28))) 29) 112 0 16 (some (gN σ 29))) 30) 112 0 17 (some (gN σ 30))) 31) 112 0 18 (some (gN σ 31))) 32) 112 0 19 (some (gN σ 32)))))
noncomputable def S_C_init : List MV → MSto → Option Prop × Option MV × MSto := fun as σ => match as with
  | [.inr (.inr (some (112, 0)))] => (some (p_C_init σ), none, e_C_init σ)
  | _ => (some False, none, σ)
noncomputable def E_C_init : MEnt := ((2, 0, 12), (6, 180, 28, 848), S_C_init, ((⟨"ClothWithMan", "<init>", "()V"⟩ : MethodName), prog_1_method_1_code, 2, none))

def T_C_init : Nat → Option (Instr × Nat × List Nat) := fun k => bif Nat.blt k 206 then (bif Nat.blt k 106 then (bif Nat.blt k 53 then (bif Nat.blt k 26 then (bif Nat.blt k 12 then (bif Nat.blt k 5 then (bif Nat.blt k 1 then (bif Nat.beq k 0 then some (.aload_n 0, 1, []) else none) else (bif Nat.blt k 4 then (bif Nat.beq k 1 then some (.invokespecial 1, 4, []) else none) else (bif Nat.beq k 4 then some (.aload_n 0, 5, []) else none))) else (bif Nat.blt k 8 then (bif Nat.beq k 5 then some (.new 7, 8, [12]) else none) else (bif Nat.blt k 9 then (bif Nat.beq k 8 then some (.dup, 9, []) else none) else (bif Nat.beq k 9 then some (.invokespecial 9, 12, []) else none)))) else (bif Nat.blt k 19 then (bif Nat.blt k 15 then (bif Nat.beq k 12 then some (.putfield 10, 15, []) else none) else (bif Nat.blt k 16 then (bif Nat.beq k 15 then some (.aload_n 0, 16, []) else none) else (bif Nat.beq k 16 then some (.new 16, 19, [23]) else none))) else (bif Nat.blt k 20 then (bif Nat.beq k 19 then some (.dup, 20, []) else none) else (bif Nat.blt k 23 then (bif Nat.beq k 20 then some (.invokespecial 18, 23, []) else none) else (bif Nat.beq k 23 then some (.putfield 19, 26, []) else none))))) else (bif Nat.blt k 37 then (bif Nat.blt k 31 then (bif Nat.blt k 27 then (bif Nat.beq k 26 then some (.aload_n 0, 27, []) else none) else (bif Nat.blt k 29 then (bif Nat.beq k 27 then some (.bipush 6, 29, []) else none) else (bif Nat.beq k 29 then some (.newarray .int, 31, []) else none))) else (bif Nat.blt k 34 then (bif Nat.beq k 31 then some (.putfield 23, 34, []) else none) else (bif Nat.blt k 35 then (bif Nat.beq k 34 then some (.aload_n 0, 35, []) else none) else (bif Nat.beq k 35 then some (.bipush 6, 37, []) else none)))) else (bif Nat.blt k 43 then (bif Nat.blt k 39 then (bif Nat.beq k 37 then some (.newarray .int, 39, []) else none) else (bif Nat.blt k 42 then (bif Nat.beq k 39 then some (.putfield 27, 42, []) else none) else (bif Nat.beq k 42 then some (.aload_n 0, 43, []) else none))) else (bif Nat.blt k 47 then (bif Nat.blt k 46 then (bif Nat.beq k 43 then some (.new 30, 46, [50]) else none) else (bif Nat.beq k 46 then some (.dup, 47, []) else none)) else (bif Nat.blt k 50 then (bif Nat.beq k 47 then some (.invokespecial 32, 50, []) else none) else (bif Nat.beq k 50 then some (.putfield 33, 53, []) else none)))))) else (bif Nat.blt k 78 then (bif Nat.blt k 65 then (bif Nat.blt k 58 then (bif Nat.blt k 54 then (bif Nat.beq k 53 then some (.aload_n 0, 54, []) else none) else (bif Nat.blt k 57 then (bif Nat.beq k 54 then some (.new 30, 57, [61]) else none) else (bif Nat.beq k 57 then some (.dup, 58, []) else none))) else (bif Nat.blt k 61 then (bif Nat.beq k 58 then some (.invokespecial 32, 61, []) else none) else (bif Nat.blt k 64 then (bif Nat.beq k 61 then some (.putfield 37, 64, []) else none) else (bif Nat.beq k 64 then some (.aload_n 0, 65, []) else none)))) else (bif Nat.blt k 72 then (bif Nat.blt k 68 then (bif Nat.beq k 65 then some (.new 30, 68, [72]) else none) else (bif Nat.blt k 69 then (bif Nat.beq k 68 then some (.dup, 69, []) else none) else (bif Nat.beq k 69 then some (.invokespecial 32, 72, []) else none))) else (bif Nat.blt k 75 then (bif Nat.beq k 72 then some (.putfield 40, 75, []) else none) else (bif Nat.blt k 76 then (bif Nat.beq k 75 then some (.aload_n 0, 76, []) else none) else (bif Nat.beq k 76 then some (.bipush 6, 78, []) else none))))) else (bif Nat.blt k 92 then (bif Nat.blt k 84 then (bif Nat.blt k 80 then (bif Nat.beq k 78 then some (.newarray .int, 80, []) else none) else (bif Nat.blt k 83 then (bif Nat.beq k 80 then some (.putfield 43, 83, []) else none) else (bif Nat.beq k 83 then some (.aload_n 0, 84, []) else none))) else (bif Nat.blt k 86 then (bif Nat.beq k 84 then some (.bipush 8, 86, []) else none) else (bif Nat.blt k 89 then (bif Nat.beq k 86 then some (.anewarray 46, 89, []) else none) else (bif Nat.beq k 89 then some (.putfield 48, 92, []) else none)))) else (bif Nat.blt k 98 then (bif Nat.blt k 93 then (bif Nat.beq k 92 then some (.aload_n 0, 93, []) else none) else (bif Nat.blt k 95 then (bif Nat.beq k 93 then some (.bipush 8, 95, []) else none) else (bif Nat.beq k 95 then some (.anewarray 52, 98, []) else none))) else (bif Nat.blt k 102 then (bif Nat.blt k 101 then (bif Nat.beq k 98 then some (.putfield 54, 101, []) else none) else (bif Nat.beq k 101 then some (.aload_n 0, 102, []) else none)) else (bif Nat.blt k 103 then (bif Nat.beq k 102 then some (.iconst 3, 103, []) else none) else (bif Nat.beq k 103 then some (.anewarray 58, 106, []) else none))))))) else (bif Nat.blt k 159 then (bif Nat.blt k 131 then (bif Nat.blt k 120 then (bif Nat.blt k 113 then (bif Nat.blt k 109 then (bif Nat.beq k 106 then some (.putfield 60, 109, []) else none) else (bif Nat.blt k 110 then (bif Nat.beq k 109 then some (.aload_n 0, 110, []) else none) else (bif Nat.beq k 110 then some (.new 64, 113, [117]) else none))) else (bif Nat.blt k 114 then (bif Nat.beq k 113 then some (.dup, 114, []) else none) else (bif Nat.blt k 117 then (bif Nat.beq k 114 then some (.invokespecial 66, 117, []) else none) else (bif Nat.beq k 117 then some (.putfield 67, 120, []) else none)))) else (bif Nat.blt k 125 then (bif Nat.blt k 121 then (bif Nat.beq k 120 then some (.aload_n 0, 121, []) else none) else (bif Nat.blt k 122 then (bif Nat.beq k 121 then some (.iconst 1, 122, []) else none) else (bif Nat.beq k 122 then some (.putfield 71, 125, []) else none))) else (bif Nat.blt k 126 then (bif Nat.beq k 125 then some (.aload_n 0, 126, []) else none) else (bif Nat.blt k 129 then (bif Nat.beq k 126 then some (.sipush 200, 129, []) else none) else (bif Nat.beq k 129 then some (.newarray .long, 131, []) else none))))) else (bif Nat.blt k 144 then (bif Nat.blt k 138 then (bif Nat.blt k 134 then (bif Nat.beq k 131 then some (.putfield 75, 134, []) else none) else (bif Nat.blt k 135 then (bif Nat.beq k 134 then some (.aload_n 0, 135, []) else none) else (bif Nat.beq k 135 then some (.sipush 200, 138, []) else none))) else (bif Nat.blt k 140 then (bif Nat.beq k 138 then some (.newarray .boolean, 140, []) else none) else (bif Nat.blt k 143 then (bif Nat.beq k 140 then some (.putfield 79, 143, []) else none) else (bif Nat.beq k 143 then some (.aload_n 0, 144, []) else none)))) else (bif Nat.blt k 151 then (bif Nat.blt k 146 then (bif Nat.beq k 144 then some (.bipush 6, 146, []) else none) else (bif Nat.blt k 148 then (bif Nat.beq k 146 then some (.newarray .long, 148, []) else none) else (bif Nat.beq k 148 then some (.putfield 83, 151, []) else none))) else (bif Nat.blt k 154 then (bif Nat.blt k 152 then (bif Nat.beq k 151 then some (.aload_n 0, 152, []) else none) else (bif Nat.beq k 152 then some (.bipush 6, 154, []) else none)) else (bif Nat.blt k 156 then (bif Nat.beq k 154 then some (.newarray .int, 156, []) else none) else (bif Nat.beq k 156 then some (.putfield 86, 159, []) else none)))))) else (bif Nat.blt k 183 then (bif Nat.blt k 170 then (bif Nat.blt k 164 then (bif Nat.blt k 160 then (bif Nat.beq k 159 then some (.aload_n 0, 160, []) else none) else (bif Nat.blt k 162 then (bif Nat.beq k 160 then some (.bipush 12, 162, []) else none) else (bif Nat.beq k 162 then some (.newarray .int, 164, []) else none))) else (bif Nat.blt k 167 then (bif Nat.beq k 164 then some (.putfield 89, 167, []) else none) else (bif Nat.blt k 168 then (bif Nat.beq k 167 then some (.aload_n 0, 168, []) else none) else (bif Nat.beq k 168 then some (.bipush 6, 170, []) else none)))) else (bif Nat.blt k 176 then (bif Nat.blt k 172 then (bif Nat.beq k 170 then some (.newarray .int, 172, []) else none) else (bif Nat.blt k 175 then (bif Nat.beq k 172 then some (.putfield 92, 175, []) else none) else (bif Nat.beq k 175 then some (.aload_n 0, 176, []) else none))) else (bif Nat.blt k 178 then (bif Nat.beq k 176 then some (.bipush 6, 178, []) else none) else (bif Nat.blt k 180 then (bif Nat.beq k 178 then some (.newarray .int, 180, []) else none) else (bif Nat.beq k 180 then some (.putfield 95, 183, []) else none))))) else (bif Nat.blt k 192 then (bif Nat.blt k 186 then (bif Nat.blt k 184 then (bif Nat.beq k 183 then some (.iconst 0, 184, []) else none) else (bif Nat.blt k 185 then (bif Nat.beq k 184 then some (.istore_n 1, 185, []) else none) else (bif Nat.beq k 185 then some (.iload_n 1, 186, []) else none))) else (bif Nat.blt k 188 then (bif Nat.beq k 186 then some (.bipush 6, 188, []) else none) else (bif Nat.blt k 191 then (bif Nat.beq k 188 then some (.if_icmp .ge 17, 191, [205]) else none) else (bif Nat.beq k 191 then some (.aload_n 0, 192, []) else none)))) else (bif Nat.blt k 198 then (bif Nat.blt k 195 then (bif Nat.beq k 192 then some (.getfield 27, 195, []) else none) else (bif Nat.blt k 196 then (bif Nat.beq k 195 then some (.iload_n 1, 196, []) else none) else (bif Nat.beq k 196 then some (.bipush 20, 198, []) else none))) else (bif Nat.blt k 202 then (bif Nat.blt k 199 then (bif Nat.beq k 198 then some (.iastore, 199, []) else none) else (bif Nat.beq k 199 then some (.iinc 1 1, 202, []) else none)) else (bif Nat.blt k 205 then (bif Nat.beq k 202 then some (.goto (-17), 205, [185]) else none) else (bif Nat.beq k 205 then some (.return_, 206, []) else none)))))))) else none
noncomputable def P_C_init : MP := (T_C_init, (fun k => mLook k [(10, (12, 0, (.object "ClothWithMan$Text"), true)), (19, (12, 1, (.object "ClothWithMan$Cloth"), true)), (23, (12, 2, (.array .int), true)), (27, (12, 3, (.array .int), true)), (33, (12, 4, (.object "java/util/ArrayList"), true)), (37, (12, 5, (.object "java/util/ArrayList"), true)), (40, (12, 6, (.object "java/util/ArrayList"), true)), (43, (12, 7, (.array .int), true)), (48, (12, 8, (.array (.object "ClothWithMan$How")), true)), (54, (12, 9, (.array (.object "ClothWithMan$Want")), true)), (60, (12, 10, (.array (.object "ClothWithMan$Kept")), true)), (67, (12, 11, (.object "ClothWithMan$Row"), true)), (71, (12, 12, .int, false)), (75, (12, 13, (.array .long), true)), (79, (12, 14, (.array .boolean), true)), (83, (12, 15, (.array .long), true)), (86, (12, 16, (.array .int), true)), (89, (12, 17, (.array .int), true)), (92, (12, 18, (.array .int), true)), (95, (12, 19, (.array .int), true))]), (fun k => mLook k []), (fun k => mLook k []), (fun k => mLook k [(1, 0), (29, 20), (37, 21), (78, 22), (86, 23), (95, 24), (103, 25), (129, 26), (138, 27), (146, 28), (154, 29), (162, 30), (170, 31), (178, 32)]), (fun k => mLook k []), (fun k => mLook k []), (fun k => mLook k [(185, [true, true])]), (fun k => [205].any (Nat.beq k)), (6, 180, 28, 848), true, (fun k => mLook k [(5, E_newTe), (16, E_newCl), (43, (E_newL 14)), (54, (E_newL 15)), (65, (E_newL 16)), (110, E_newRo)]))
set_option maxRecDepth 100000 in
set_option maxHeartbeats 4000000 in
theorem q_C_init_e  (σ : MSto) (n : Nat) : mexe KT P_C_init (n + 1) (0, [some (mR 112 0), none], [], σ, 0, 0) = mG (p_newTe σ) (mG (p_newCl (sR (e_newTe σ) 112 0 0 (some 0))) (mG (p_newL14 (sR (sNew (sR (sNew (sR (e_newCl (sR (e_newTe σ) 112 0 0 (some 0))) 112 0 1 (some 0)) 20) 112 0 2 (some (gN σ 20))) 21) 112 0 3 (some (gN σ 21)))) (mG (p_newL15 (sR (e_newL14 (sR (sNew (sR (sNew (sR (e_newCl (sR (e_newTe σ) 112 0 0 (some 0))) 112 0 1 (some 0)) 20) 112 0 2 (some (gN σ 20))) 21) 112 0 3 (some (gN σ 21)))) 112 0 4 (some 0))) (mG (p_newL16 (sR (e_newL15 (sR (e_newL14 (sR (sNew (sR (sNew (sR (e_newCl (sR (e_newTe σ) 112 0 0 (some 0))) 112 0 1 (some 0)) 20) 112 0 2 (some (gN σ 20))) 21) 112 0 3 (some (gN σ 21)))) 112 0 4 (some 0))) 112 0 5 (some 0))) (mG (p_newRo (sR (sNew (sR (sNew (sR (sNew (sR (sNew (sR (e_newL16 (sR (e_newL15 (sR (e_newL14 (sR (sNew (sR (sNew (sR (e_newCl (sR (e_newTe σ) 112 0 0 (some 0))) 112 0 1 (some 0)) 20) 112 0 2 (some (gN σ 20))) 21) 112 0 3 (some (gN σ 21)))) 112 0 4 (some 0))) 112 0 5 (some 0))) 112 0 6 (some 0)) 22) 112 0 7 (some (gN σ 22))) 23) 112 0 8 (some (gN σ 23))) 24) 112 0 9 (some (gN σ 24))) 25) 112 0 10 (some (gN σ 25)))) (mexe KT P_C_init n (185, [some (mR 112 0), some (mI 0)], [], (sR (sNew (sR (sNew (sR (sNew (sR (sNew (sR (sNew (sR (sNew (sR (sNew (sI (sR (e_newRo (sR (sNew (sR (sNew (sR (sNew (sR (sNew (sR (e_newL16 (sR (e_newL15 (sR (e_newL14 (sR (sNew (sR (sNew (sR (e_newCl (sR (e_newTe σ) 112 0 0 (some 0))) 112 0 1 (some 0)) 20) 112 0 2 (some (gN σ 20))) 21) 112 0 3 (some (gN σ 21)))) 112 0 4 (some 0))) 112 0 5 (some 0))) 112 0 6 (some 0)) 22) 112 0 7 (some (gN σ 22))) 23) 112 0 8 (some (gN σ 23))) 24) 112 0 9 (some (gN σ 24))) 25) 112 0 10 (some (gN σ 25)))) 112 0 11 (some 0)) 112 0 12 1) 26) 112 0 13 (some (gN σ 26))) 27) 112 0 14 (some (gN σ 27))) 28) 112 0 15 (some (gN σ 28))) 29) 112 0 16 (some (gN σ 29))) 30) 112 0 17 (some (gN σ 30))) 31) 112 0 18 (some (gN σ 31))) 32) 112 0 19 (some (gN σ 32))), 28, 848))))))) := rfl
set_option maxRecDepth 100000 in
set_option maxHeartbeats 4000000 in
theorem q_C_init_185 (x1 : Int32) (σ : MSto) (n : Nat) : mexe KT P_C_init (n + 1) (185, [some (mR 112 0), some (mI x1)], [], σ, 28, 848) = mIf (6 ≤ x1) (some (205, [], [], σ, 28, 848)) (mO (gR σ 112 0 3) (none) (fun z1 => mG (vp_in x1 6) (mexe KT P_C_init n (185, [some (mR 112 0), some (mI (x1 + 1))], [], (sI σ 21 z1 (Int32.toNatClampNeg x1) 20), 28, 848)))) := rfl
set_option maxRecDepth 100000 in
theorem lt_C_init_185 {Post : MST → Prop}  (c : Int32) (s : MSto) (hp : g_C_init_185 c s) (hq : ¬ q_C_init_185s c s = 1) (hn : ∀ r, t_C_init_185 c s = r → mW1 P_C_init (185, [some (mR 112 0), some (mI (c + 1))], [], r, 28, 848) Post) : mW1 P_C_init (185, [some (mR 112 0), some (mI c)], [], s, 28, 848) Post := by
  unfold g_C_init_185 at hp
  refine mW1_eq (q_C_init_185 _ _) ?_
  refine mTr_if (fun h0 => ?_) (fun h0 => ?_)
  · skip
    exact absurd (if_pos h0) hq
  · skip
    have hp := hp h0
    refine mTr_o (fun h1 => ?_) (fun z1 h1 => ?_)
    · skip
      have hp := hp.1 h1
      exact hp.elim
    · skip
      have hp := hp.2 z1 h1
      refine mTr_g hp ?_
      exact mTr_k (hn (sI s 21 z1 (Int32.toNatClampNeg c) 20) ((if_neg h0).trans (mO_es h1)))
theorem lp_C_init_185 {Post : MST → Prop}  (c0 : Int32) (s0 : MSto) (N : Nat) (hb : ∀ i, i < N → g_C_init_185 (c0 + nI i) (f_C_init_185 c0 s0 i) ∧ ¬ q_C_init_185s (c0 + nI i) (f_C_init_185 c0 s0 i) = 1) (h : mW1 P_C_init (185, [some (mR 112 0), some (mI (c0 + nI N))], [], (f_C_init_185 c0 s0 N), 28, 848) Post) : mW1 P_C_init (185, [some (mR 112 0), some (mI c0)], [], s0, 28, 848) Post := by
  refine mW1_st (mW1_loop (fun i => (185, [some (mR 112 0), some (mI (c0 + nI i))], [], (f_C_init_185 c0 s0 i), 28, 848)) N (fun i hlt hn => ?_) h) (by rw [show nI 0 = 0 from rfl, Int32.add_zero] <;> rfl)
  refine lt_C_init_185 _ _ (hb i hlt).1 (hb i hlt).2 (fun r hr => ?_)
  rw [Int32.add_assoc, nI_s]
  subst hr
  exact hn
set_option maxRecDepth 100000 in
set_option maxHeartbeats 4000000 in
theorem d_C_init  (σ : MSto) (hp : p_C_init σ) : mW1 P_C_init (0, [some (mR 112 0), none], [], σ, 0, 0) (mF [205] [] (e_C_init σ) 28 848) := by
  refine mW1_eq (q_C_init_e  _) ?_
  unfold p_C_init at hp
  refine mTr_g hp.1 ?_
  have hp := hp.2
  refine mTr_g hp.1 ?_
  have hp := hp.2
  refine mTr_g hp.1 ?_
  have hp := hp.2
  refine mTr_g hp.1 ?_
  have hp := hp.2
  refine mTr_g hp.1 ?_
  have hp := hp.2
  refine mTr_g hp.1 ?_
  have hp := hp.2
  refine mTr_k (lp_C_init_185 0 (sR (sNew (sR (sNew (sR (sNew (sR (sNew (sR (sNew (sR (sNew (sR (sNew (sI (sR (e_newRo (sR (sNew (sR (sNew (sR (sNew (sR (sNew (sR (e_newL16 (sR (e_newL15 (sR (e_newL14 (sR (sNew (sR (sNew (sR (e_newCl (sR (e_newTe σ) 112 0 0 (some 0))) 112 0 1 (some 0)) 20) 112 0 2 (some (gN σ 20))) 21) 112 0 3 (some (gN σ 21)))) 112 0 4 (some 0))) 112 0 5 (some 0))) 112 0 6 (some 0)) 22) 112 0 7 (some (gN σ 22))) 23) 112 0 8 (some (gN σ 23))) 24) 112 0 9 (some (gN σ 24))) 25) 112 0 10 (some (gN σ 25)))) 112 0 11 (some 0)) 112 0 12 1) 26) 112 0 13 (some (gN σ 26))) 27) 112 0 14 (some (gN σ 27))) 28) 112 0 15 (some (gN σ 28))) 29) 112 0 16 (some (gN σ 29))) 30) 112 0 17 (some (gN σ 30))) 31) 112 0 18 (some (gN σ 31))) 32) 112 0 19 (some (gN σ 32))) (n_C_init_185 0 (sR (sNew (sR (sNew (sR (sNew (sR (sNew (sR (sNew (sR (sNew (sR (sNew (sI (sR (e_newRo (sR (sNew (sR (sNew (sR (sNew (sR (sNew (sR (e_newL16 (sR (e_newL15 (sR (e_newL14 (sR (sNew (sR (sNew (sR (e_newCl (sR (e_newTe σ) 112 0 0 (some 0))) 112 0 1 (some 0)) 20) 112 0 2 (some (gN σ 20))) 21) 112 0 3 (some (gN σ 21)))) 112 0 4 (some 0))) 112 0 5 (some 0))) 112 0 6 (some 0)) 22) 112 0 7 (some (gN σ 22))) 23) 112 0 8 (some (gN σ 23))) 24) 112 0 9 (some (gN σ 24))) 25) 112 0 10 (some (gN σ 25)))) 112 0 11 (some 0)) 112 0 12 1) 26) 112 0 13 (some (gN σ 26))) 27) 112 0 14 (some (gN σ 27))) 28) 112 0 15 (some (gN σ 28))) 29) 112 0 16 (some (gN σ 29))) 30) 112 0 17 (some (gN σ 30))) 31) 112 0 18 (some (gN σ 31))) 32) 112 0 19 (some (gN σ 32)))) hp.1 ?_)
  have hp := hp.2
  refine mW1_eq (q_C_init_185 _ _) ?_
  refine mTr_if (fun h0 => ?_) (fun h0 => ?_)
  · skip
    exact mTr_e (by decide) rfl (Eq.symm (rfl)) (by decide) (by decide)
  · skip
    have hp := hp h0
    exact hp.elim
theorem tk_C_init : ∀ pc i nx tg, T_C_init pc = some (i, nx, tg) → mOkB prog_1_method_1_code pc i nx tg = true := code_ok (N := 206) (fun k h => by unfold T_C_init; rw [h]; rfl) (by decide +kernel)
theorem al_C_init : ∀ pc i nx tg kd, pCode P_C_init pc = some (i, nx, tg) → pAlc P_C_init pc = some kd → match i with
    | .new x => mAOK "ClothWithMan" x kd
    | .newarray t => mNAOK t kd
    | .anewarray x => mAAOK "ClothWithMan" x kd
    | .invokespecial x => Cond.methodLink "ClothWithMan" x Lib.objectInit ∈ lw_tbl
    | _ => True := by
  intro pc i nx tg kd h1 h2
  have h3 := mLook_mem h2
  simp only [List.mem_cons, Prod.mk.injEq, List.not_mem_nil, or_false] at h3
  rcases h3 with ⟨rfl, rfl⟩ | ⟨rfl, rfl⟩ | ⟨rfl, rfl⟩ | ⟨rfl, rfl⟩ | ⟨rfl, rfl⟩ | ⟨rfl, rfl⟩ | ⟨rfl, rfl⟩ | ⟨rfl, rfl⟩ | ⟨rfl, rfl⟩ | ⟨rfl, rfl⟩ | ⟨rfl, rfl⟩ | ⟨rfl, rfl⟩ | ⟨rfl, rfl⟩ | ⟨rfl, rfl⟩
  · have e : T_C_init 1 = some (i, nx, tg) := h1
    cases e
    exact tw_1_33
  · have e : T_C_init 29 = some (i, nx, tg) := h1
    cases e
    exact ⟨.int, 6, rfl, rfl, tw_1_90, by decide⟩
  · have e : T_C_init 37 = some (i, nx, tg) := h1
    cases e
    exact ⟨.int, 6, rfl, rfl, tw_1_90, by decide⟩
  · have e : T_C_init 78 = some (i, nx, tg) := h1
    cases e
    exact ⟨.int, 6, rfl, rfl, tw_1_90, by decide⟩
  · have e : T_C_init 86 = some (i, nx, tg) := h1
    cases e
    exact ⟨"ClothWithMan$How", 8, 3, rfl, by decide, tw_1_140, tw_1_141⟩
  · have e : T_C_init 95 = some (i, nx, tg) := h1
    cases e
    exact ⟨"ClothWithMan$Want", 8, 11, rfl, by decide, tw_1_142, tw_1_143⟩
  · have e : T_C_init 103 = some (i, nx, tg) := h1
    cases e
    exact ⟨"ClothWithMan$Kept", 3, 4, rfl, by decide, tw_1_144, tw_1_145⟩
  · have e : T_C_init 129 = some (i, nx, tg) := h1
    cases e
    exact ⟨.long, 200, rfl, rfl, tw_1_161, by decide⟩
  · have e : T_C_init 138 = some (i, nx, tg) := h1
    cases e
    exact ⟨.boolean, 200, rfl, rfl, tw_1_223, by decide⟩
  · have e : T_C_init 146 = some (i, nx, tg) := h1
    cases e
    exact ⟨.long, 6, rfl, rfl, tw_1_161, by decide⟩
  · have e : T_C_init 154 = some (i, nx, tg) := h1
    cases e
    exact ⟨.int, 6, rfl, rfl, tw_1_90, by decide⟩
  · have e : T_C_init 162 = some (i, nx, tg) := h1
    cases e
    exact ⟨.int, 12, rfl, rfl, tw_1_90, by decide⟩
  · have e : T_C_init 170 = some (i, nx, tg) := h1
    cases e
    exact ⟨.int, 6, rfl, rfl, tw_1_90, by decide⟩
  · have e : T_C_init 178 = some (i, nx, tg) := h1
    cases e
    exact ⟨.int, 6, rfl, rfl, tw_1_90, by decide⟩

theorem li_C_9 : mLink "ClothWithMan" 9 E_Te_init := ⟨tw_1_40, tw_1_2, ⟨by decide, by decide⟩, by decide +kernel, Or.inr ⟨_, tw_1_38⟩, (fun h => by cases h), (fun h => by cases h), (fun _ => ⟨tw_1_39, rfl⟩)⟩
theorem li_C_18 : mLink "ClothWithMan" 18 E_Cl_init := ⟨tw_1_68, tw_1_3, ⟨by decide, by decide⟩, by decide +kernel, Or.inr ⟨_, tw_1_66⟩, (fun h => by cases h), (fun h => by cases h), (fun _ => ⟨tw_1_67, rfl⟩)⟩
theorem li_C_66 : mLink "ClothWithMan" 66 E_Ro_init := ⟨tw_1_150, tw_1_8, ⟨by decide, by decide⟩, by decide +kernel, Or.inr ⟨_, tw_1_148⟩, (fun h => by cases h), (fun h => by cases h), (fun _ => ⟨tw_1_149, rfl⟩)⟩
theorem fu_C_init (l : Launch) : ∀ pc en, pFus P_C_init pc = some en → ∀ x nx t, pCode P_C_init pc = some (.new x, nx, [t]) → mFusOK l "ClothWithMan" prog_1_method_1_code pc t en := by
  intro pc en h2 x nx t h1
  have h3 := mLook_mem h2
  simp only [List.mem_cons, Prod.mk.injEq, List.not_mem_nil, or_false] at h3
  rcases h3 with ⟨rfl, rfl⟩ | ⟨rfl, rfl⟩ | ⟨rfl, rfl⟩ | ⟨rfl, rfl⟩ | ⟨rfl, rfl⟩ | ⟨rfl, rfl⟩
  · have e : T_C_init 5 = some (.new x, nx, [t]) := h1
    cases e
    exact fus_obj (kr := 110) (k := 10) (x := 7) (ix := 9) (ei := E_Te_init) rfl rfl (by decide) (by decide +kernel) (by decide) (by decide) ⟨10, _, "ClothWithMan$Text", TX9, rfl, by decide, rfl, tw_1_36, tw_1_37, tw_1_2, (lt_s (lt_s (lt_s (lt_s (lt_s lt_0 ⟨(.array .char), by decide +kernel, Or.inr (Or.inr ⟨⟨33, rfl⟩, rfl⟩)⟩) ⟨.int, by decide +kernel, Or.inl ⟨rfl, rfl⟩⟩) ⟨.int, by decide +kernel, Or.inl ⟨rfl, rfl⟩⟩) ⟨.int, by decide +kernel, Or.inl ⟨rfl, rfl⟩⟩) ⟨.int, by decide +kernel, Or.inl ⟨rfl, rfl⟩⟩)⟩ (by decide +kernel) (by decide +kernel) (by decide +kernel) li_C_9 (c_Te_init l) rfl rfl ⟨by decide, by decide, rfl, rfl⟩ h_newTe
  · have e : T_C_init 16 = some (.new x, nx, [t]) := h1
    cases e
    exact fus_obj (kr := 101) (k := 1) (x := 16) (ix := 18) (ei := E_Cl_init) rfl rfl (by decide) (by decide +kernel) (by decide) (by decide) ⟨1, _, "ClothWithMan$Cloth", TX0, rfl, by decide, rfl, tw_1_64, tw_1_65, tw_1_3, (lt_s (lt_s (lt_s (lt_s (lt_s lt_0 ⟨(.object "ClothWithMan$Curve"), by decide +kernel, Or.inr (Or.inr ⟨⟨2, rfl⟩, rfl⟩)⟩) ⟨.int, by decide +kernel, Or.inl ⟨rfl, rfl⟩⟩) ⟨(.object "java/util/ArrayList"), by decide +kernel, Or.inr (Or.inr ⟨⟨17, rfl⟩, rfl⟩)⟩) ⟨(.object "java/util/ArrayList"), by decide +kernel, Or.inr (Or.inr ⟨⟨18, rfl⟩, rfl⟩)⟩) ⟨(.array .int), by decide +kernel, Or.inr (Or.inr ⟨⟨34, rfl⟩, rfl⟩)⟩)⟩ (by decide +kernel) (by decide +kernel) (by decide +kernel) li_C_18 (c_Cl_init l) rfl rfl ⟨by decide, by decide, rfl, rfl⟩ h_newCl
  · have e : T_C_init 43 = some (.new x, nx, [t]) := h1
    cases e
    exact fus_list (kd := 14) (x := 30) (ix := 32) rfl (by decide +kernel) (by decide +kernel) (by decide +kernel) tw_1_138 tw_1_139
  · have e : T_C_init 54 = some (.new x, nx, [t]) := h1
    cases e
    exact fus_list (kd := 15) (x := 30) (ix := 32) rfl (by decide +kernel) (by decide +kernel) (by decide +kernel) tw_1_138 tw_1_139
  · have e : T_C_init 65 = some (.new x, nx, [t]) := h1
    cases e
    exact fus_list (kd := 16) (x := 30) (ix := 32) rfl (by decide +kernel) (by decide +kernel) (by decide +kernel) tw_1_138 tw_1_139
  · have e : T_C_init 110 = some (.new x, nx, [t]) := h1
    cases e
    exact fus_obj (kr := 108) (k := 8) (x := 64) (ix := 66) (ei := E_Ro_init) rfl rfl (by decide) (by decide +kernel) (by decide) (by decide) ⟨8, _, "ClothWithMan$Row", TX7, rfl, by decide, rfl, tw_1_146, tw_1_147, tw_1_8, (lt_s (lt_s lt_0 ⟨(.array .long), by decide +kernel, Or.inr (Or.inr ⟨⟨38, rfl⟩, rfl⟩)⟩) ⟨.int, by decide +kernel, Or.inl ⟨rfl, rfl⟩⟩)⟩ (by decide +kernel) (by decide +kernel) (by decide +kernel) li_C_66 (c_Ro_init l) rfl rfl ⟨by decide, by decide, rfl, rfl⟩ h_newRo

theorem ok_C_init (l : Launch) : mPOK l "ClothWithMan" prog_1_method_1_code P_C_init := by
  refine ⟨tk_C_init, ?_, ?_, ?_, al_C_init, ?_, ?_, fu_C_init l⟩
  · intro x ci f ty fin h
    exact mLook_all (Q := fun x v => mFOK "ClothWithMan" x v.1 v.2.1 v.2.2.1 v.2.2.2 ∧ (v.2.2.2 = true → pIni P_C_init = true → (Cond.fieldLink "ClothWithMan" x (((mCl[v.1]?).getD ("", fun _ => ("", "", "", false), 0)).2.1 v.2.1).1 (((mCl[v.1]?).getD ("", fun _ => ("", "", "", false), 0)).2.1 v.2.1).2.1 (((mCl[v.1]?).getD ("", fun _ => ("", "", "", false), 0)).2.1 v.2.1).2.2.1 ∈ lw_tbl ∧ (((mCl[v.1]?).getD ("", fun _ => ("", "", "", false), 0)).2.1 v.2.1).1 = "ClothWithMan"))) (fcC ⟨fo_C_10, fun _ _ => ⟨tw_1_162, rfl⟩⟩ (fcC ⟨fo_C_19, fun _ _ => ⟨tw_1_163, rfl⟩⟩ (fcC ⟨fo_C_23, fun _ _ => ⟨tw_1_164, rfl⟩⟩ (fcC ⟨fo_C_27, fun _ _ => ⟨tw_1_165, rfl⟩⟩ (fcC ⟨fo_C_33, fun _ _ => ⟨tw_1_166, rfl⟩⟩ (fcC ⟨fo_C_37, fun _ _ => ⟨tw_1_167, rfl⟩⟩ (fcC ⟨fo_C_40, fun _ _ => ⟨tw_1_168, rfl⟩⟩ (fcC ⟨fo_C_43, fun _ _ => ⟨tw_1_169, rfl⟩⟩ (fcC ⟨fo_C_48, fun _ _ => ⟨tw_1_170, rfl⟩⟩ (fcC ⟨fo_C_54, fun _ _ => ⟨tw_1_171, rfl⟩⟩ (fcC ⟨fo_C_60, fun _ _ => ⟨tw_1_172, rfl⟩⟩ (fcC ⟨fo_C_67, fun _ _ => ⟨tw_1_173, rfl⟩⟩ (fcC ⟨fo_C_71, fun h1 h2 => by cases h1⟩ (fcC ⟨fo_C_75, fun _ _ => ⟨tw_1_175, rfl⟩⟩ (fcC ⟨fo_C_79, fun _ _ => ⟨tw_1_176, rfl⟩⟩ (fcC ⟨fo_C_83, fun _ _ => ⟨tw_1_177, rfl⟩⟩ (fcC ⟨fo_C_86, fun _ _ => ⟨tw_1_178, rfl⟩⟩ (fcC ⟨fo_C_89, fun _ _ => ⟨tw_1_179, rfl⟩⟩ (fcC ⟨fo_C_92, fun _ _ => ⟨tw_1_180, rfl⟩⟩ (fcC ⟨fo_C_95, fun _ _ => ⟨tw_1_181, rfl⟩⟩ fcN)))))))))))))))))))) x (ci, f, ty, fin) h
  · intro x
    have hh := mLook_all (l := ([] : List (Nat × (Int32 ⊕ Int64)))) (Q := fun x (v : Int32 ⊕ Int64) => (∀ w, v = .inl w → Cond.constant "ClothWithMan" x w ∈ lw_tbl) ∧ (∀ w, v = .inr w → Cond.constantLong "ClothWithMan" x w ∈ lw_tbl)) fcN x
    exact ⟨fun w h => (hh _ h).1 w rfl, fun w h => (hh _ h).2 w rfl⟩
  · exact fun x en h => mLook_all (Q := fun x en => mLink "ClothWithMan" x en ∧ mCtr l en ∧ (en.1.1 = 2 → en.2.2.2.2.2.2 = none)) fcN x en h
  · exact fun x kd h => mLook_all (Q := fun x kd => (kd = 95 ∧ Cond.fieldLink "ClothWithMan" x "ClothWithMan" "LIKENESSES" "[I" ∈ lw_tbl) ∨ (kd = 96 ∧ Cond.fieldLink "ClothWithMan" x "ClothWithMan" "APART_BOUNDS" "[I" ∈ lw_tbl)) fcN x kd h
  · exact fun x ci h => mLook_all (Q := fun x ci => ci ≠ 0 ∧ ∃ (C : String) (T : u_T) (N : Nat), mCl[ci]? = some (C, T, N) ∧ Cond.classLink "ClothWithMan" x C ∈ lw_tbl ∧ Cond.instantiable C N ∈ lw_tbl) fcN x ci h
set_option maxRecDepth 100000 in
theorem c_C_init (l : Launch) : mCtr l E_C_init := mCtr_of (P := P_C_init) (own := "ClothWithMan") mLay_ok rfl (by decide +kernel) rfl (ok_C_init l) (fun _ => rfl) (fun as σ pr rv σ' hF hpr hlv => by
  unfold E_C_init S_C_init at hF
  simp only [] at hF
  split at hF
  · cases hF
    obtain ⟨n, pcF, c1, s1, g1, g2, g3, g4⟩ := mF_inv (d_C_init σ (hpr _ rfl))
    exact ⟨Nat.le_of_ble_eq_true rfl, (fun v h => by cases h), n, pcF, c1, s1, g1, mEnd_of (i := .return_) (P := P_C_init) (rets := [205]) rfl g2, g3, g4⟩
  · cases hF
    exact (hpr _ rfl).elim)
/-! new ClothWithMan -/
def p_newC (σ : MSto) : Prop := gN σ 112 = 0 ∧ gN σ 12 = 0 ∧ gN σ 10 = 0 ∧ gN σ 1 = 0 ∧ gN σ 20 = 0 ∧ gN σ 21 = 0 ∧ gN σ 14 = 0 ∧ gN σ 15 = 0 ∧ gN σ 16 = 0 ∧ gN σ 22 = 0 ∧ gN σ 23 = 0 ∧ gN σ 24 = 0 ∧ gN σ 25 = 0 ∧ gN σ 8 = 0 ∧ gN σ 26 = 0 ∧ gN σ 27 = 0 ∧ gN σ 28 = 0 ∧ gN σ 29 = 0 ∧ gN σ 30 = 0 ∧ gN σ 31 = 0 ∧ gN σ 32 = 0 ∧ p_C_init (sNew σ 112)
noncomputable def e_newC (σ : MSto) : MSto := mRen 112 12 (e_C_init (sNew σ 112))
noncomputable def S_newC : List MV → MSto → Option Prop × Option MV × MSto := fun as σ => match as with
  | [] => (some (p_newC σ), some (mR 12 (0)), e_newC σ)
  | _ => (some False, none, σ)
noncomputable def E_newC : MEnt := ((0, 0, 0), (6, 180, 29, 868), S_newC, ((⟨"ClothWithMan", "<init>", "()V"⟩ : MethodName), prog_1_method_1_code, 2, none))
set_option maxRecDepth 100000 in
set_option maxHeartbeats 4000000 in
theorem h_newC : ∀ (σ : MSto) (pr : Option Prop) (rv : Option MV) (σ' : MSto), E_newC.2.2.1 [] σ = (pr, rv, σ') → (∀ q, pr = some q → q) → gN σ 112 = 0 ∧ ∃ (σ1 : MSto) (pr1 : Option Prop), E_C_init.2.2.1 [mR 112 0] (sNew σ 112) = (pr1, none, σ1) ∧ (∀ q, pr1 = some q → q) ∧ gN σ1 112 = 1 ∧ gN σ1 12 = gN σ 12 ∧ (∀ f t, ([22, 4, 42, 44, 30, 32, 34, 46, 48, 50, 52, 18, 0, 54, 56, 58, 60, 62, 64, 66] : List Nat)[f]? = some (2 * t + 2) → gR σ1 112 0 f = some (gN σ 12)) ∧ rv = some (mR 12 (gN σ 12)) ∧ σ' = mRen 112 12 σ1 := by
  intro σ pr rv σ' h hp
  have h' : (some (p_newC σ), some (mR 12 (0)), e_newC σ) = (pr, rv, σ') := h
  cases h'
  obtain ⟨h0, h1, h2, h3, h4, h5, h6, h7, h8, h9, h10, h11, h12, h13, h14, h15, h16, h17, h18, h19, h20, hp9⟩ := hp _ rfl
  refine ⟨h0, e_C_init (sNew σ 112), _, rfl, ?_, ?_, ?_, ?_, ?_, rfl⟩
  · intro q hq; cases hq; exact hp9
  · exact congrArg (· + 1) h0
  · rfl
  · intro f t hf
    match f, hf with
    | 0, _ => exact congrArg some (h1.symm : 0 = gN σ 12)
    | 1, _ => exact congrArg some (h1.symm : 0 = gN σ 12)
    | 2, _ => exact congrArg some (h4.trans h1.symm : gN σ 20 = gN σ 12)
    | 3, _ => exact congrArg some (h5.trans h1.symm : gN σ 21 = gN σ 12)
    | 4, _ => exact congrArg some (h1.symm : 0 = gN σ 12)
    | 5, _ => exact congrArg some (h1.symm : 0 = gN σ 12)
    | 6, _ => exact congrArg some (h1.symm : 0 = gN σ 12)
    | 7, _ => exact congrArg some (h9.trans h1.symm : gN σ 22 = gN σ 12)
    | 8, _ => exact congrArg some (h10.trans h1.symm : gN σ 23 = gN σ 12)
    | 9, _ => exact congrArg some (h11.trans h1.symm : gN σ 24 = gN σ 12)
    | 10, _ => exact congrArg some (h12.trans h1.symm : gN σ 25 = gN σ 12)
    | 11, _ => exact congrArg some (h1.symm : 0 = gN σ 12)
    | 12, hf => exact absurd (Option.some.inj hf) (by omega)
    | 13, _ => exact congrArg some (h14.trans h1.symm : gN σ 26 = gN σ 12)
    | 14, _ => exact congrArg some (h15.trans h1.symm : gN σ 27 = gN σ 12)
    | 15, _ => exact congrArg some (h16.trans h1.symm : gN σ 28 = gN σ 12)
    | 16, _ => exact congrArg some (h17.trans h1.symm : gN σ 29 = gN σ 12)
    | 17, _ => exact congrArg some (h18.trans h1.symm : gN σ 30 = gN σ 12)
    | 18, _ => exact congrArg some (h19.trans h1.symm : gN σ 31 = gN σ 12)
    | 19, _ => exact congrArg some (h20.trans h1.symm : gN σ 32 = gN σ 12)
    | f + 20, hf => cases hf
  · rw [h1]

