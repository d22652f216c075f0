/-! ClothWithManModel.<init>()V -/
noncomputable def t_M_init_384  (c : Int32) (s : MSto) : MSto := (if 6 ≤ c then s else (mO (gR s 113 0 9) (s) (fun z1 => (sI s 46 z1 (Int32.toNatClampNeg c) 20))))
noncomputable def q_M_init_384s  (c : Int32) (s : MSto) : Nat := (if 6 ≤ c then 1 else 0)
def g_M_init_384  (c : Int32) (s : MSto) : Prop := (¬ (6 ≤ c) → (((gR s 113 0 9) = none → False) ∧ (∀ z1, (gR s 113 0 9) = some z1 → (vp_in c 6))))
noncomputable def f_M_init_384  (c0 : Int32) (s0 : MSto) (n : Nat) : MSto := nfold (fun i s => t_M_init_384 (c0 + nI i) s) s0 n
noncomputable def n_M_init_384  (c0 : Int32) (s0 : MSto) : Nat := 6
noncomputable def ej_M_init_j382  (σ : MSto) : MSto := (f_M_init_384 0 σ (n_M_init_384 0 σ))
def gj_M_init_j382  (σ : MSto) : Prop := ((∀ i, i < (n_M_init_384 0 σ) → g_M_init_384 (0 + nI i) (f_M_init_384 0 σ i) ∧ ¬ q_M_init_384s (0 + nI i) (f_M_init_384 0 σ i) = 1) ∧ (¬ (6 ≤ (0 + nI (n_M_init_384 0 σ))) → False))
noncomputable def ej_M_init_j316  (σ : MSto) : MSto := (ej_M_init_j382 (sR (sNew (sR (sNew (sR (sNew (sR (sNew (sR (sNew (sR (sNew (sR (sNew (sR (sNew σ 79) 113 0 57 (some (gN σ 79))) 80) 113 0 58 (some (gN σ 80))) 81) 113 0 59 (some (gN σ 81))) 82) 113 0 61 (some (gN σ 82))) 83) 113 0 64 (some (gN σ 83))) 84) 113 0 65 (some (gN σ 84))) 85) 113 0 69 (some (gN σ 85))) 86) 113 0 70 (some (gN σ 86))))
def gj_M_init_j316  (σ : MSto) : Prop := (gj_M_init_j382 (sR (sNew (sR (sNew (sR (sNew (sR (sNew (sR (sNew (sR (sNew (sR (sNew (sR (sNew σ 79) 113 0 57 (some (gN σ 79))) 80) 113 0 58 (some (gN σ 80))) 81) 113 0 59 (some (gN σ 81))) 82) 113 0 61 (some (gN σ 82))) 83) 113 0 64 (some (gN σ 83))) 84) 113 0 65 (some (gN σ 84))) 85) 113 0 69 (some (gN σ 85))) 86) 113 0 70 (some (gN σ 86))))
noncomputable def ej_M_init_j256  (σ : MSto) : MSto := (ej_M_init_j316 (sR (sNew (sR (sNew (sR (sNew (sR (sNew (sR (sNew (sR (sNew (sR (sNew (sR (sNew σ 71) 113 0 42 (some (gN σ 71))) 72) 113 0 43 (some (gN σ 72))) 73) 113 0 44 (some (gN σ 73))) 74) 113 0 45 (some (gN σ 74))) 75) 113 0 46 (some (gN σ 75))) 76) 113 0 47 (some (gN σ 76))) 77) 113 0 48 (some (gN σ 77))) 78) 113 0 50 (some (gN σ 78))))
def gj_M_init_j256  (σ : MSto) : Prop := (gj_M_init_j316 (sR (sNew (sR (sNew (sR (sNew (sR (sNew (sR (sNew (sR (sNew (sR (sNew (sR (sNew σ 71) 113 0 42 (some (gN σ 71))) 72) 113 0 43 (some (gN σ 72))) 73) 113 0 44 (some (gN σ 73))) 74) 113 0 45 (some (gN σ 74))) 75) 113 0 46 (some (gN σ 75))) 76) 113 0 47 (some (gN σ 76))) 77) 113 0 48 (some (gN σ 77))) 78) 113 0 50 (some (gN σ 78))))
noncomputable def ej_M_init_j196  (σ : MSto) : MSto := (ej_M_init_j256 (sR (sNew (sI (sR (sNew (sR (sNew (sR (sNew (sR (sNew (sR (sNew (sR (sNew σ 64) 113 0 32 (some (gN σ 64))) 65) 113 0 34 (some (gN σ 65))) 66) 113 0 35 (some (gN σ 66))) 67) 113 0 37 (some (gN σ 67))) 68) 113 0 38 (some (gN σ 68))) 69) 113 0 39 (some (gN σ 69))) 113 0 40 1) 70) 113 0 41 (some (gN σ 70))))
def gj_M_init_j196  (σ : MSto) : Prop := (gj_M_init_j256 (sR (sNew (sI (sR (sNew (sR (sNew (sR (sNew (sR (sNew (sR (sNew (sR (sNew σ 64) 113 0 32 (some (gN σ 64))) 65) 113 0 34 (some (gN σ 65))) 66) 113 0 35 (some (gN σ 66))) 67) 113 0 37 (some (gN σ 67))) 68) 113 0 38 (some (gN σ 68))) 69) 113 0 39 (some (gN σ 69))) 113 0 40 1) 70) 113 0 41 (some (gN σ 70))))
noncomputable def ej_M_init_j135  (σ : MSto) : MSto := (ej_M_init_j196 (sR (sNew (sR (sNew (sR (sNew (sR (sNew (sR (sNew (sR (sNew (sR (sNew (sR (sNew σ 56) 113 0 22 (some (gN σ 56))) 57) 113 0 23 (some (gN σ 57))) 58) 113 0 24 (some (gN σ 58))) 59) 113 0 25 (some (gN σ 59))) 60) 113 0 26 (some (gN σ 60))) 61) 113 0 28 (some (gN σ 61))) 62) 113 0 29 (some (gN σ 62))) 63) 113 0 30 (some (gN σ 63))))
def gj_M_init_j135  (σ : MSto) : Prop := (gj_M_init_j196 (sR (sNew (sR (sNew (sR (sNew (sR (sNew (sR (sNew (sR (sNew (sR (sNew (sR (sNew σ 56) 113 0 22 (some (gN σ 56))) 57) 113 0 23 (some (gN σ 57))) 58) 113 0 24 (some (gN σ 58))) 59) 113 0 25 (some (gN σ 59))) 60) 113 0 26 (some (gN σ 60))) 61) 113 0 28 (some (gN σ 61))) 62) 113 0 29 (some (gN σ 62))) 63) 113 0 30 (some (gN σ 63))))
noncomputable def ej_M_init_j71  (σ : MSto) : MSto := (ej_M_init_j135 (sR (sNew (sR (sNew (sR (sNew (sR (sNew (sR (sNew (sR (sNew (sR (sNew (sR (sNew σ 48) 113 0 12 (some (gN σ 48))) 49) 113 0 13 (some (gN σ 49))) 50) 113 0 14 (some (gN σ 50))) 51) 113 0 16 (some (gN σ 51))) 52) 113 0 18 (some (gN σ 52))) 53) 113 0 19 (some (gN σ 53))) 54) 113 0 20 (some (gN σ 54))) 55) 113 0 21 (some (gN σ 55))))
def gj_M_init_j71  (σ : MSto) : Prop := (gj_M_init_j135 (sR (sNew (sR (sNew (sR (sNew (sR (sNew (sR (sNew (sR (sNew (sR (sNew (sR (sNew σ 48) 113 0 12 (some (gN σ 48))) 49) 113 0 13 (some (gN σ 49))) 50) 113 0 14 (some (gN σ 50))) 51) 113 0 16 (some (gN σ 51))) 52) 113 0 18 (some (gN σ 52))) 53) 113 0 19 (some (gN σ 53))) 54) 113 0 20 (some (gN σ 54))) 55) 113 0 21 (some (gN σ 55))))
def p_M_init  (σ : MSto) : Prop := (gj_M_init_j71 (sR (sNew (sR (sNew (sR (sNew (sR (sNew (sR (sNew (sR (sNew (sI (sI (sR (sNew σ 41) 113 0 0 (some (gN σ 41))) 113 0 1 1) 113 0 2 100) 42) 113 0 4 (some (gN σ 42))) 43) 113 0 6 (some (gN σ 43))) 44) 113 0 7 (some (gN σ 44))) 45) 113 0 8 (some (gN σ 45))) 46) 113 0 9 (some (gN σ 46))) 47) 113 0 11 (some (gN σ 47))))
noncomputable def e_M_init  (σ : MSto) : MSto := (ej_M_init_j71 (sR (sNew (sR (sNew (sR (sNew (sR (sNew (sR (sNew (sR (sNew (sI (sI (sR (sNew σ 41) 113 0 0 (some (gN σ 41))) 113 0 1 1) 113 0 2 100) 42) 113 0 4 (some (gN σ 42))) 43) 113 0 6 (some (gN σ 43))) 44) 113 0 7 (some (gN σ 44))) 45) 113 0 8 (some (gN σ 45))) 46) 113 0 9 (some (gN σ 46))) 47) 113 0 11 (some (gN σ 47))))
noncomputable def S_M_init : List MV → MSto → Option Prop × Option MV × MSto := fun as σ => match as with
  | [.inr (.inr (some (113, 0)))] => (some (p_M_init σ), none, e_M_init σ)
  | _ => (some False, none, σ)
noncomputable def E_M_init : MEnt := ((2, 0, 13), (1, 20, 46, 1180), S_M_init, ((⟨"ClothWithManModel", "<init>", "()V"⟩ : MethodName), prog_14_method_1_code, 2, none))

def T_M_init : Nat → Option (Instr × Nat × List Nat) := fun k => bif Nat.blt k 405 then (bif Nat.blt k 204 then (bif Nat.blt k 103 then (bif Nat.blt k 50 then (bif Nat.blt k 25 then (bif Nat.blt k 13 then (bif Nat.blt k 5 then (bif Nat.blt k 1 then (bif Nat.beq k 0 then some (.aload_n 0, 1, []) else none) else (bif Nat.blt k 4 then (bif Nat.beq k 1 then some (.invokespecial 1, 4, []) else none) else (bif Nat.beq k 4 then some (.aload_n 0, 5, []) else none))) else (bif Nat.blt k 8 then (bif Nat.beq k 5 then some (.sipush 200, 8, []) else none) else (bif Nat.blt k 10 then (bif Nat.beq k 8 then some (.newarray .int, 10, []) else none) else (bif Nat.beq k 10 then some (.putfield 9, 13, []) else none)))) else (bif Nat.blt k 18 then (bif Nat.blt k 14 then (bif Nat.beq k 13 then some (.aload_n 0, 14, []) else none) else (bif Nat.blt k 15 then (bif Nat.beq k 14 then some (.iconst 1, 15, []) else none) else (bif Nat.beq k 15 then some (.putfield 13, 18, []) else none))) else (bif Nat.blt k 21 then (bif Nat.blt k 19 then (bif Nat.beq k 18 then some (.aload_n 0, 19, []) else none) else (bif Nat.beq k 19 then some (.bipush 100, 21, []) else none)) else (bif Nat.blt k 24 then (bif Nat.beq k 21 then some (.putfield 17, 24, []) else none) else (bif Nat.beq k 24 then some (.aload_n 0, 25, []) else none))))) else (bif Nat.blt k 37 then (bif Nat.blt k 32 then (bif Nat.blt k 27 then (bif Nat.beq k 25 then some (.bipush 30, 27, []) else none) else (bif Nat.blt k 29 then (bif Nat.beq k 27 then some (.newarray .int, 29, []) else none) else (bif Nat.beq k 29 then some (.putfield 20, 32, []) else none))) else (bif Nat.blt k 33 then (bif Nat.beq k 32 then some (.aload_n 0, 33, []) else none) else (bif Nat.blt k 35 then (bif Nat.beq k 33 then some (.bipush 36, 35, []) else none) else (bif Nat.beq k 35 then some (.newarray .int, 37, []) else none)))) else (bif Nat.blt k 42 then (bif Nat.blt k 40 then (bif Nat.beq k 37 then some (.putfield 23, 40, []) else none) else (bif Nat.blt k 41 then (bif Nat.beq k 40 then some (.aload_n 0, 41, []) else none) else (bif Nat.beq k 41 then some (.iconst 4, 42, []) else none))) else (bif Nat.blt k 47 then (bif Nat.blt k 44 then (bif Nat.beq k 42 then some (.newarray .int, 44, []) else none) else (bif Nat.beq k 44 then some (.putfield 26, 47, []) else none)) else (bif Nat.blt k 48 then (bif Nat.beq k 47 then some (.aload_n 0, 48, []) else none) else (bif Nat.beq k 48 then some (.bipush 6, 50, []) else none)))))) else (bif Nat.blt k 76 then (bif Nat.blt k 63 then (bif Nat.blt k 56 then (bif Nat.blt k 52 then (bif Nat.beq k 50 then some (.newarray .int, 52, []) else none) else (bif Nat.blt k 55 then (bif Nat.beq k 52 then some (.putfield 29, 55, []) else none) else (bif Nat.beq k 55 then some (.aload_n 0, 56, []) else none))) else (bif Nat.blt k 58 then (bif Nat.beq k 56 then some (.bipush 6, 58, []) else none) else (bif Nat.blt k 60 then (bif Nat.beq k 58 then some (.newarray .int, 60, []) else none) else (bif Nat.beq k 60 then some (.putfield 32, 63, []) else none)))) else (bif Nat.blt k 68 then (bif Nat.blt k 64 then (bif Nat.beq k 63 then some (.aload_n 0, 64, []) else none) else (bif Nat.blt k 66 then (bif Nat.beq k 64 then some (.bipush 12, 66, []) else none) else (bif Nat.beq k 66 then some (.newarray .int, 68, []) else none))) else (bif Nat.blt k 72 then (bif Nat.blt k 71 then (bif Nat.beq k 68 then some (.putfield 35, 71, []) else none) else (bif Nat.beq k 71 then some (.aload_n 0, 72, []) else none)) else (bif Nat.blt k 74 then (bif Nat.beq k 72 then some (.bipush 12, 74, []) else none) else (bif Nat.beq k 74 then some (.newarray .int, 76, []) else none))))) else (bif Nat.blt k 88 then (bif Nat.blt k 82 then (bif Nat.blt k 79 then (bif Nat.beq k 76 then some (.putfield 38, 79, []) else none) else (bif Nat.blt k 80 then (bif Nat.beq k 79 then some (.aload_n 0, 80, []) else none) else (bif Nat.beq k 80 then some (.bipush 12, 82, []) else none))) else (bif Nat.blt k 84 then (bif Nat.beq k 82 then some (.newarray .int, 84, []) else none) else (bif Nat.blt k 87 then (bif Nat.beq k 84 then some (.putfield 41, 87, []) else none) else (bif Nat.beq k 87 then some (.aload_n 0, 88, []) else none)))) else (bif Nat.blt k 95 then (bif Nat.blt k 90 then (bif Nat.beq k 88 then some (.bipush 12, 90, []) else none) else (bif Nat.blt k 92 then (bif Nat.beq k 90 then some (.newarray .int, 92, []) else none) else (bif Nat.beq k 92 then some (.putfield 44, 95, []) else none))) else (bif Nat.blt k 98 then (bif Nat.blt k 96 then (bif Nat.beq k 95 then some (.aload_n 0, 96, []) else none) else (bif Nat.beq k 96 then some (.bipush 12, 98, []) else none)) else (bif Nat.blt k 100 then (bif Nat.beq k 98 then some (.newarray .int, 100, []) else none) else (bif Nat.beq k 100 then some (.putfield 47, 103, []) else none))))))) else (bif Nat.blt k 154 then (bif Nat.blt k 128 then (bif Nat.blt k 114 then (bif Nat.blt k 108 then (bif Nat.blt k 104 then (bif Nat.beq k 103 then some (.aload_n 0, 104, []) else none) else (bif Nat.blt k 106 then (bif Nat.beq k 104 then some (.bipush 6, 106, []) else none) else (bif Nat.beq k 106 then some (.newarray .int, 108, []) else none))) else (bif Nat.blt k 111 then (bif Nat.beq k 108 then some (.putfield 50, 111, []) else none) else (bif Nat.blt k 112 then (bif Nat.beq k 111 then some (.aload_n 0, 112, []) else none) else (bif Nat.beq k 112 then some (.bipush 6, 114, []) else none)))) else (bif Nat.blt k 120 then (bif Nat.blt k 116 then (bif Nat.beq k 114 then some (.newarray .int, 116, []) else none) else (bif Nat.blt k 119 then (bif Nat.beq k 116 then some (.putfield 53, 119, []) else none) else (bif Nat.beq k 119 then some (.aload_n 0, 120, []) else none))) else (bif Nat.blt k 124 then (bif Nat.blt k 122 then (bif Nat.beq k 120 then some (.bipush 6, 122, []) else none) else (bif Nat.beq k 122 then some (.newarray .int, 124, []) else none)) else (bif Nat.blt k 127 then (bif Nat.beq k 124 then some (.putfield 56, 127, []) else none) else (bif Nat.beq k 127 then some (.aload_n 0, 128, []) else none))))) else (bif Nat.blt k 140 then (bif Nat.blt k 135 then (bif Nat.blt k 130 then (bif Nat.beq k 128 then some (.bipush 6, 130, []) else none) else (bif Nat.blt k 132 then (bif Nat.beq k 130 then some (.newarray .int, 132, []) else none) else (bif Nat.beq k 132 then some (.putfield 59, 135, []) else none))) else (bif Nat.blt k 136 then (bif Nat.beq k 135 then some (.aload_n 0, 136, []) else none) else (bif Nat.blt k 138 then (bif Nat.beq k 136 then some (.bipush 6, 138, []) else none) else (bif Nat.beq k 138 then some (.newarray .int, 140, []) else none)))) else (bif Nat.blt k 146 then (bif Nat.blt k 143 then (bif Nat.beq k 140 then some (.putfield 62, 143, []) else none) else (bif Nat.blt k 144 then (bif Nat.beq k 143 then some (.aload_n 0, 144, []) else none) else (bif Nat.beq k 144 then some (.bipush 6, 146, []) else none))) else (bif Nat.blt k 151 then (bif Nat.blt k 148 then (bif Nat.beq k 146 then some (.newarray .int, 148, []) else none) else (bif Nat.beq k 148 then some (.putfield 65, 151, []) else none)) else (bif Nat.blt k 152 then (bif Nat.beq k 151 then some (.aload_n 0, 152, []) else none) else (bif Nat.beq k 152 then some (.bipush 6, 154, []) else none)))))) else (bif Nat.blt k 179 then (bif Nat.blt k 167 then (bif Nat.blt k 160 then (bif Nat.blt k 156 then (bif Nat.beq k 154 then some (.newarray .int, 156, []) else none) else (bif Nat.blt k 159 then (bif Nat.beq k 156 then some (.putfield 68, 159, []) else none) else (bif Nat.beq k 159 then some (.aload_n 0, 160, []) else none))) else (bif Nat.blt k 162 then (bif Nat.beq k 160 then some (.bipush 6, 162, []) else none) else (bif Nat.blt k 164 then (bif Nat.beq k 162 then some (.newarray .int, 164, []) else none) else (bif Nat.beq k 164 then some (.putfield 71, 167, []) else none)))) else (bif Nat.blt k 172 then (bif Nat.blt k 168 then (bif Nat.beq k 167 then some (.aload_n 0, 168, []) else none) else (bif Nat.blt k 170 then (bif Nat.beq k 168 then some (.bipush 6, 170, []) else none) else (bif Nat.beq k 170 then some (.newarray .int, 172, []) else none))) else (bif Nat.blt k 176 then (bif Nat.blt k 175 then (bif Nat.beq k 172 then some (.putfield 74, 175, []) else none) else (bif Nat.beq k 175 then some (.aload_n 0, 176, []) else none)) else (bif Nat.blt k 177 then (bif Nat.beq k 176 then some (.iconst 4, 177, []) else none) else (bif Nat.beq k 177 then some (.newarray .int, 179, []) else none))))) else (bif Nat.blt k 190 then (bif Nat.blt k 184 then (bif Nat.blt k 182 then (bif Nat.beq k 179 then some (.putfield 77, 182, []) else none) else (bif Nat.blt k 183 then (bif Nat.beq k 182 then some (.aload_n 0, 183, []) else none) else (bif Nat.beq k 183 then some (.iconst 4, 184, []) else none))) else (bif Nat.blt k 186 then (bif Nat.beq k 184 then some (.newarray .boolean, 186, []) else none) else (bif Nat.blt k 189 then (bif Nat.beq k 186 then some (.putfield 80, 189, []) else none) else (bif Nat.beq k 189 then some (.aload_n 0, 190, []) else none)))) else (bif Nat.blt k 196 then (bif Nat.blt k 191 then (bif Nat.beq k 190 then some (.iconst 4, 191, []) else none) else (bif Nat.blt k 193 then (bif Nat.beq k 191 then some (.newarray .int, 193, []) else none) else (bif Nat.beq k 193 then some (.putfield 84, 196, []) else none))) else (bif Nat.blt k 199 then (bif Nat.blt k 197 then (bif Nat.beq k 196 then some (.aload_n 0, 197, []) else none) else (bif Nat.beq k 197 then some (.bipush 9, 199, []) else none)) else (bif Nat.blt k 201 then (bif Nat.beq k 199 then some (.newarray .int, 201, []) else none) else (bif Nat.beq k 201 then some (.putfield 87, 204, []) else none)))))))) else (bif Nat.blt k 301 then (bif Nat.blt k 253 then (bif Nat.blt k 229 then (bif Nat.blt k 215 then (bif Nat.blt k 209 then (bif Nat.blt k 205 then (bif Nat.beq k 204 then some (.aload_n 0, 205, []) else none) else (bif Nat.blt k 207 then (bif Nat.beq k 205 then some (.bipush 8, 207, []) else none) else (bif Nat.beq k 207 then some (.newarray .int, 209, []) else none))) else (bif Nat.blt k 212 then (bif Nat.beq k 209 then some (.putfield 90, 212, []) else none) else (bif Nat.blt k 213 then (bif Nat.beq k 212 then some (.aload_n 0, 213, []) else none) else (bif Nat.beq k 213 then some (.bipush 8, 215, []) else none)))) else (bif Nat.blt k 221 then (bif Nat.blt k 217 then (bif Nat.beq k 215 then some (.newarray .int, 217, []) else none) else (bif Nat.blt k 220 then (bif Nat.beq k 217 then some (.putfield 93, 220, []) else none) else (bif Nat.beq k 220 then some (.aload_n 0, 221, []) else none))) else (bif Nat.blt k 225 then (bif Nat.blt k 223 then (bif Nat.beq k 221 then some (.bipush 8, 223, []) else none) else (bif Nat.beq k 223 then some (.newarray .int, 225, []) else none)) else (bif Nat.blt k 228 then (bif Nat.beq k 225 then some (.putfield 96, 228, []) else none) else (bif Nat.beq k 228 then some (.aload_n 0, 229, []) else none))))) else (bif Nat.blt k 241 then (bif Nat.blt k 236 then (bif Nat.blt k 231 then (bif Nat.beq k 229 then some (.bipush 8, 231, []) else none) else (bif Nat.blt k 233 then (bif Nat.beq k 231 then some (.newarray .int, 233, []) else none) else (bif Nat.beq k 233 then some (.putfield 99, 236, []) else none))) else (bif Nat.blt k 237 then (bif Nat.beq k 236 then some (.aload_n 0, 237, []) else none) else (bif Nat.blt k 239 then (bif Nat.beq k 237 then some (.bipush 8, 239, []) else none) else (bif Nat.beq k 239 then some (.newarray .int, 241, []) else none)))) else (bif Nat.blt k 246 then (bif Nat.blt k 244 then (bif Nat.beq k 241 then some (.putfield 102, 244, []) else none) else (bif Nat.blt k 245 then (bif Nat.beq k 244 then some (.aload_n 0, 245, []) else none) else (bif Nat.beq k 245 then some (.iconst 1, 246, []) else none))) else (bif Nat.blt k 250 then (bif Nat.blt k 249 then (bif Nat.beq k 246 then some (.putfield 105, 249, []) else none) else (bif Nat.beq k 249 then some (.aload_n 0, 250, []) else none)) else (bif Nat.blt k 251 then (bif Nat.beq k 250 then some (.iconst 3, 251, []) else none) else (bif Nat.beq k 251 then some (.newarray .boolean, 253, []) else none)))))) else (bif Nat.blt k 278 then (bif Nat.blt k 264 then (bif Nat.blt k 258 then (bif Nat.blt k 256 then (bif Nat.beq k 253 then some (.putfield 108, 256, []) else none) else (bif Nat.blt k 257 then (bif Nat.beq k 256 then some (.aload_n 0, 257, []) else none) else (bif Nat.beq k 257 then some (.iconst 3, 258, []) else none))) else (bif Nat.blt k 260 then (bif Nat.beq k 258 then some (.newarray .int, 260, []) else none) else (bif Nat.blt k 263 then (bif Nat.beq k 260 then some (.putfield 111, 263, []) else none) else (bif Nat.beq k 263 then some (.aload_n 0, 264, []) else none)))) else (bif Nat.blt k 271 then (bif Nat.blt k 266 then (bif Nat.beq k 264 then some (.bipush 36, 266, []) else none) else (bif Nat.blt k 268 then (bif Nat.beq k 266 then some (.newarray .int, 268, []) else none) else (bif Nat.beq k 268 then some (.putfield 114, 271, []) else none))) else (bif Nat.blt k 273 then (bif Nat.blt k 272 then (bif Nat.beq k 271 then some (.aload_n 0, 272, []) else none) else (bif Nat.beq k 272 then some (.iconst 3, 273, []) else none)) else (bif Nat.blt k 275 then (bif Nat.beq k 273 then some (.newarray .int, 275, []) else none) else (bif Nat.beq k 275 then some (.putfield 117, 278, []) else none))))) else (bif Nat.blt k 288 then (bif Nat.blt k 283 then (bif Nat.blt k 279 then (bif Nat.beq k 278 then some (.aload_n 0, 279, []) else none) else (bif Nat.blt k 281 then (bif Nat.beq k 279 then some (.bipush 18, 281, []) else none) else (bif Nat.beq k 281 then some (.newarray .int, 283, []) else none))) else (bif Nat.blt k 286 then (bif Nat.beq k 283 then some (.putfield 120, 286, []) else none) else (bif Nat.blt k 287 then (bif Nat.beq k 286 then some (.aload_n 0, 287, []) else none) else (bif Nat.beq k 287 then some (.iconst 3, 288, []) else none)))) else (bif Nat.blt k 294 then (bif Nat.blt k 290 then (bif Nat.beq k 288 then some (.newarray .int, 290, []) else none) else (bif Nat.blt k 293 then (bif Nat.beq k 290 then some (.putfield 123, 293, []) else none) else (bif Nat.beq k 293 then some (.aload_n 0, 294, []) else none))) else (bif Nat.blt k 297 then (bif Nat.blt k 295 then (bif Nat.beq k 294 then some (.iconst 3, 295, []) else none) else (bif Nat.beq k 295 then some (.newarray .int, 297, []) else none)) else (bif Nat.blt k 300 then (bif Nat.beq k 297 then some (.putfield 126, 300, []) else none) else (bif Nat.beq k 300 then some (.aload_n 0, 301, []) else none))))))) else (bif Nat.blt k 355 then (bif Nat.blt k 327 then (bif Nat.blt k 313 then (bif Nat.blt k 308 then (bif Nat.blt k 303 then (bif Nat.beq k 301 then some (.bipush 80, 303, []) else none) else (bif Nat.blt k 305 then (bif Nat.beq k 303 then some (.newarray .byte, 305, []) else none) else (bif Nat.beq k 305 then some (.putfield 129, 308, []) else none))) else (bif Nat.blt k 309 then (bif Nat.beq k 308 then some (.aload_n 0, 309, []) else none) else (bif Nat.blt k 311 then (bif Nat.beq k 309 then some (.bipush 24, 311, []) else none) else (bif Nat.beq k 311 then some (.newarray .long, 313, []) else none)))) else (bif Nat.blt k 319 then (bif Nat.blt k 316 then (bif Nat.beq k 313 then some (.putfield 133, 316, []) else none) else (bif Nat.blt k 317 then (bif Nat.beq k 316 then some (.aload_n 0, 317, []) else none) else (bif Nat.beq k 317 then some (.bipush 60, 319, []) else none))) else (bif Nat.blt k 324 then (bif Nat.blt k 321 then (bif Nat.beq k 319 then some (.newarray .int, 321, []) else none) else (bif Nat.beq k 321 then some (.putfield 137, 324, []) else none)) else (bif Nat.blt k 325 then (bif Nat.beq k 324 then some (.aload_n 0, 325, []) else none) else (bif Nat.beq k 325 then some (.bipush 60, 327, []) else none))))) else (bif Nat.blt k 341 then (bif Nat.blt k 333 then (bif Nat.blt k 329 then (bif Nat.beq k 327 then some (.newarray .int, 329, []) else none) else (bif Nat.blt k 332 then (bif Nat.beq k 329 then some (.putfield 140, 332, []) else none) else (bif Nat.beq k 332 then some (.aload_n 0, 333, []) else none))) else (bif Nat.blt k 336 then (bif Nat.beq k 333 then some (.sipush 200, 336, []) else none) else (bif Nat.blt k 338 then (bif Nat.beq k 336 then some (.newarray .long, 338, []) else none) else (bif Nat.beq k 338 then some (.putfield 143, 341, []) else none)))) else (bif Nat.blt k 347 then (bif Nat.blt k 342 then (bif Nat.beq k 341 then some (.aload_n 0, 342, []) else none) else (bif Nat.blt k 345 then (bif Nat.beq k 342 then some (.sipush 200, 345, []) else none) else (bif Nat.beq k 345 then some (.newarray .boolean, 347, []) else none))) else (bif Nat.blt k 351 then (bif Nat.blt k 350 then (bif Nat.beq k 347 then some (.putfield 146, 350, []) else none) else (bif Nat.beq k 350 then some (.aload_n 0, 351, []) else none)) else (bif Nat.blt k 353 then (bif Nat.beq k 351 then some (.bipush 6, 353, []) else none) else (bif Nat.beq k 353 then some (.newarray .int, 355, []) else none)))))) else (bif Nat.blt k 382 then (bif Nat.blt k 367 then (bif Nat.blt k 361 then (bif Nat.blt k 358 then (bif Nat.beq k 355 then some (.putfield 149, 358, []) else none) else (bif Nat.blt k 359 then (bif Nat.beq k 358 then some (.aload_n 0, 359, []) else none) else (bif Nat.beq k 359 then some (.bipush 6, 361, []) else none))) else (bif Nat.blt k 363 then (bif Nat.beq k 361 then some (.newarray .int, 363, []) else none) else (bif Nat.blt k 366 then (bif Nat.beq k 363 then some (.putfield 152, 366, []) else none) else (bif Nat.beq k 366 then some (.aload_n 0, 367, []) else none)))) else (bif Nat.blt k 374 then (bif Nat.blt k 369 then (bif Nat.beq k 367 then some (.bipush 6, 369, []) else none) else (bif Nat.blt k 371 then (bif Nat.beq k 369 then some (.newarray .long, 371, []) else none) else (bif Nat.beq k 371 then some (.putfield 155, 374, []) else none))) else (bif Nat.blt k 377 then (bif Nat.blt k 375 then (bif Nat.beq k 374 then some (.aload_n 0, 375, []) else none) else (bif Nat.beq k 375 then some (.bipush 12, 377, []) else none)) else (bif Nat.blt k 379 then (bif Nat.beq k 377 then some (.newarray .int, 379, []) else none) else (bif Nat.beq k 379 then some (.putfield 158, 382, []) else none))))) else (bif Nat.blt k 391 then (bif Nat.blt k 385 then (bif Nat.blt k 383 then (bif Nat.beq k 382 then some (.iconst 0, 383, []) else none) else (bif Nat.blt k 384 then (bif Nat.beq k 383 then some (.istore_n 1, 384, []) else none) else (bif Nat.beq k 384 then some (.iload_n 1, 385, []) else none))) else (bif Nat.blt k 387 then (bif Nat.beq k 385 then some (.bipush 6, 387, []) else none) else (bif Nat.blt k 390 then (bif Nat.beq k 387 then some (.if_icmp .ge 17, 390, [404]) else none) else (bif Nat.beq k 390 then some (.aload_n 0, 391, []) else none)))) else (bif Nat.blt k 397 then (bif Nat.blt k 394 then (bif Nat.beq k 391 then some (.getfield 32, 394, []) else none) else (bif Nat.blt k 395 then (bif Nat.beq k 394 then some (.iload_n 1, 395, []) else none) else (bif Nat.beq k 395 then some (.bipush 20, 397, []) else none))) else (bif Nat.blt k 401 then (bif Nat.blt k 398 then (bif Nat.beq k 397 then some (.iastore, 398, []) else none) else (bif Nat.beq k 398 then some (.iinc 1 1, 401, []) else none)) else (bif Nat.blt k 404 then (bif Nat.beq k 401 then some (.goto (-17), 404, [384]) else none) else (bif Nat.beq k 404 then some (.return_, 405, []) else none))))))))) else none
noncomputable def P_M_init : MP := (T_M_init, (fun k => mLook k [(9, (13, 0, (.array .int), true)), (13, (13, 1, .int, false)), (17, (13, 2, .int, false)), (20, (13, 4, (.array .int), true)), (23, (13, 6, (.array .int), true)), (26, (13, 7, (.array .int), true)), (29, (13, 8, (.array .int), true)), (32, (13, 9, (.array .int), true)), (35, (13, 11, (.array .int), true)), (38, (13, 12, (.array .int), true)), (41, (13, 13, (.array .int), true)), (44, (13, 14, (.array .int), true)), (47, (13, 16, (.array .int), true)), (50, (13, 18, (.array .int), true)), (53, (13, 19, (.array .int), true)), (56, (13, 20, (.array .int), true)), (59, (13, 21, (.array .int), true)), (62, (13, 22, (.array .int), true)), (65, (13, 23, (.array .int), true)), (68, (13, 24, (.array .int), true)), (71, (13, 25, (.array .int), true)), (74, (13, 26, (.array .int), true)), (77, (13, 28, (.array .int), true)), (80, (13, 29, (.array .boolean), true)), (84, (13, 30, (.array .int), true)), (87, (13, 32, (.array .int), true)), (90, (13, 34, (.array .int), true)), (93, (13, 35, (.array .int), true)), (96, (13, 37, (.array .int), true)), (99, (13, 38, (.array .int), true)), (102, (13, 39, (.array .int), true)), (105, (13, 40, .int, false)), (108, (13, 41, (.array .boolean), true)), (111, (13, 42, (.array .int), true)), (114, (13, 43, (.array .int), true)), (117, (13, 44, (.array .int), true)), (120, (13, 45, (.array .int), true)), (123, (13, 46, (.array .int), true)), (126, (13, 47, (.array .int), true)), (129, (13, 48, (.array .byte), true)), (133, (13, 50, (.array .long), true)), (137, (13, 57, (.array .int), true)), (140, (13, 58, (.array .int), true)), (143, (13, 59, (.array .long), true)), (146, (13, 61, (.array .boolean), true)), (149, (13, 64, (.array .int), true)), (152, (13, 65, (.array .int), true)), (155, (13, 69, (.array .long), true)), (158, (13, 70, (.array .int), true))]), (fun k => mLook k []), (fun k => mLook k []), (fun k => mLook k [(1, 0), (8, 41), (27, 42), (35, 43), (42, 44), (50, 45), (58, 46), (66, 47), (74, 48), (82, 49), (90, 50), (98, 51), (106, 52), (114, 53), (122, 54), (130, 55), (138, 56), (146, 57), (154, 58), (162, 59), (170, 60), (177, 61), (184, 62), (191, 63), (199, 64), (207, 65), (215, 66), (223, 67), (231, 68), (239, 69), (251, 70), (258, 71), (266, 72), (273, 73), (281, 74), (288, 75), (295, 76), (303, 77), (311, 78), (319, 79), (327, 80), (336, 81), (345, 82), (353, 83), (361, 84), (369, 85), (377, 86)]), (fun k => mLook k []), (fun k => mLook k []), (fun k => mLook k [(71, [true, false]), (135, [true, false]), (196, [true, false]), (256, [true, false]), (316, [true, false]), (382, [true, false]), (384, [true, true])]), (fun k => [404].any (Nat.beq k)), (1, 20, 46, 1180), true, (fun _ => none))
set_option maxRecDepth 100000 in
set_option maxHeartbeats 4000000 in
theorem q_M_init_e  (σ : MSto) (n : Nat) : mexe KT P_M_init (n + 1) (0, [some (mR 113 0), none], [], σ, 0, 0) = mexe KT P_M_init n (71, [some (mR 113 0), none], [], (sR (sNew (sR (sNew (sR (sNew (sR (sNew (sR (sNew (sR (sNew (sI (sI (sR (sNew σ 41) 113 0 0 (some (gN σ 41))) 113 0 1 1) 113 0 2 100) 42) 113 0 4 (some (gN σ 42))) 43) 113 0 6 (some (gN σ 43))) 44) 113 0 7 (some (gN σ 44))) 45) 113 0 8 (some (gN σ 45))) 46) 113 0 9 (some (gN σ 46))) 47) 113 0 11 (some (gN σ 47))), 7, 294) := rfl
set_option maxRecDepth 100000 in
set_option maxHeartbeats 4000000 in
theorem q_M_init_71  (σ : MSto) (n : Nat) : mexe KT P_M_init (n + 1) (71, [some (mR 113 0), none], [], σ, 7, 294) = mexe KT P_M_init n (135, [some (mR 113 0), none], [], (sR (sNew (sR (sNew (sR (sNew (sR (sNew (sR (sNew (sR (sNew (sR (sNew (sR (sNew σ 48) 113 0 12 (some (gN σ 48))) 49) 113 0 13 (some (gN σ 49))) 50) 113 0 14 (some (gN σ 50))) 51) 113 0 16 (some (gN σ 51))) 52) 113 0 18 (some (gN σ 52))) 53) 113 0 19 (some (gN σ 53))) 54) 113 0 20 (some (gN σ 54))) 55) 113 0 21 (some (gN σ 55))), 15, 366) := rfl
set_option maxRecDepth 100000 in
set_option maxHeartbeats 4000000 in
theorem q_M_init_135  (σ : MSto) (n : Nat) : mexe KT P_M_init (n + 1) (135, [some (mR 113 0), none], [], σ, 15, 366) = mexe KT P_M_init n (196, [some (mR 113 0), none], [], (sR (sNew (sR (sNew (sR (sNew (sR (sNew (sR (sNew (sR (sNew (sR (sNew (sR (sNew σ 56) 113 0 22 (some (gN σ 56))) 57) 113 0 23 (some (gN σ 57))) 58) 113 0 24 (some (gN σ 58))) 59) 113 0 25 (some (gN σ 59))) 60) 113 0 26 (some (gN σ 60))) 61) 113 0 28 (some (gN σ 61))) 62) 113 0 29 (some (gN σ 62))) 63) 113 0 30 (some (gN σ 63))), 23, 408) := rfl
set_option maxRecDepth 100000 in
set_option maxHeartbeats 4000000 in
theorem q_M_init_196  (σ : MSto) (n : Nat) : mexe KT P_M_init (n + 1) (196, [some (mR 113 0), none], [], σ, 23, 408) = mexe KT P_M_init n (256, [some (mR 113 0), none], [], (sR (sNew (sI (sR (sNew (sR (sNew (sR (sNew (sR (sNew (sR (sNew (sR (sNew σ 64) 113 0 32 (some (gN σ 64))) 65) 113 0 34 (some (gN σ 65))) 66) 113 0 35 (some (gN σ 66))) 67) 113 0 37 (some (gN σ 67))) 68) 113 0 38 (some (gN σ 68))) 69) 113 0 39 (some (gN σ 69))) 113 0 40 1) 70) 113 0 41 (some (gN σ 70))), 30, 460) := rfl
set_option maxRecDepth 100000 in
set_option maxHeartbeats 4000000 in
theorem q_M_init_256  (σ : MSto) (n : Nat) : mexe KT P_M_init (n + 1) (256, [some (mR 113 0), none], [], σ, 30, 460) = mexe KT P_M_init n (316, [some (mR 113 0), none], [], (sR (sNew (sR (sNew (sR (sNew (sR (sNew (sR (sNew (sR (sNew (sR (sNew (sR (sNew σ 71) 113 0 42 (some (gN σ 71))) 72) 113 0 43 (some (gN σ 72))) 73) 113 0 44 (some (gN σ 73))) 74) 113 0 45 (some (gN σ 74))) 75) 113 0 46 (some (gN σ 75))) 76) 113 0 47 (some (gN σ 76))) 77) 113 0 48 (some (gN σ 77))) 78) 113 0 50 (some (gN σ 78))), 38, 630) := rfl
set_option maxRecDepth 100000 in
set_option maxHeartbeats 4000000 in
theorem q_M_init_316  (σ : MSto) (n : Nat) : mexe KT P_M_init (n + 1) (316, [some (mR 113 0), none], [], σ, 38, 630) = mexe KT P_M_init n (382, [some (mR 113 0), none], [], (sR (sNew (sR (sNew (sR (sNew (sR (sNew (sR (sNew (sR (sNew (sR (sNew (sR (sNew σ 79) 113 0 57 (some (gN σ 79))) 80) 113 0 58 (some (gN σ 80))) 81) 113 0 59 (some (gN σ 81))) 82) 113 0 61 (some (gN σ 82))) 83) 113 0 64 (some (gN σ 83))) 84) 113 0 65 (some (gN σ 84))) 85) 113 0 69 (some (gN σ 85))) 86) 113 0 70 (some (gN σ 86))), 46, 1180) := rfl
set_option maxRecDepth 100000 in
set_option maxHeartbeats 4000000 in
theorem q_M_init_382  (σ : MSto) (n : Nat) : mexe KT P_M_init (n + 1) (382, [some (mR 113 0), none], [], σ, 46, 1180) = mexe KT P_M_init n (384, [some (mR 113 0), some (mI 0)], [], σ, 46, 1180) := rfl
set_option maxRecDepth 100000 in
set_option maxHeartbeats 4000000 in
theorem q_M_init_384 (x1 : Int32) (σ : MSto) (n : Nat) : mexe KT P_M_init (n + 1) (384, [some (mR 113 0), some (mI x1)], [], σ, 46, 1180) = mIf (6 ≤ x1) (some (404, [], [], σ, 46, 1180)) (mO (gR σ 113 0 9) (none) (fun z1 => mG (vp_in x1 6) (mexe KT P_M_init n (384, [some (mR 113 0), some (mI (x1 + 1))], [], (sI σ 46 z1 (Int32.toNatClampNeg x1) 20), 46, 1180)))) := rfl
set_option maxRecDepth 100000 in
theorem lt_M_init_384 {Post : MST → Prop}  (c : Int32) (s : MSto) (hp : g_M_init_384 c s) (hq : ¬ q_M_init_384s c s = 1) (hn : ∀ r, t_M_init_384 c s = r → mW1 P_M_init (384, [some (mR 113 0), some (mI (c + 1))], [], r, 46, 1180) Post) : mW1 P_M_init (384, [some (mR 113 0), some (mI c)], [], s, 46, 1180) Post := by
  unfold g_M_init_384 at hp
  refine mW1_eq (q_M_init_384 _ _) ?_
  refine mTr_if (fun h0 => ?_) (fun h0 => ?_)
  · skip
    exact absurd (if_pos h0) hq
  · skip
    have hp := hp h0
    refine mTr_o (fun h1 => ?_) (fun z1 h1 => ?_)
    · skip
      have hp := hp.1 h1
      exact hp.elim
    · skip
      have hp := hp.2 z1 h1
      refine mTr_g hp ?_
      exact mTr_k (hn (sI s 46 z1 (Int32.toNatClampNeg c) 20) ((if_neg h0).trans (mO_es h1)))
theorem lp_M_init_384 {Post : MST → Prop}  (c0 : Int32) (s0 : MSto) (N : Nat) (hb : ∀ i, i < N → g_M_init_384 (c0 + nI i) (f_M_init_384 c0 s0 i) ∧ ¬ q_M_init_384s (c0 + nI i) (f_M_init_384 c0 s0 i) = 1) (h : mW1 P_M_init (384, [some (mR 113 0), some (mI (c0 + nI N))], [], (f_M_init_384 c0 s0 N), 46, 1180) Post) : mW1 P_M_init (384, [some (mR 113 0), some (mI c0)], [], s0, 46, 1180) Post := by
  refine mW1_st (mW1_loop (fun i => (384, [some (mR 113 0), some (mI (c0 + nI i))], [], (f_M_init_384 c0 s0 i), 46, 1180)) N (fun i hlt hn => ?_) h) (by rw [show nI 0 = 0 from rfl, Int32.add_zero] <;> rfl)
  refine lt_M_init_384 _ _ (hb i hlt).1 (hb i hlt).2 (fun r hr => ?_)
  rw [Int32.add_assoc, nI_s]
  subst hr
  exact hn
set_option maxRecDepth 100000 in
theorem lj_M_init_j382  (σ : MSto) (hp : gj_M_init_j382 σ) : mW1 P_M_init (382, [some (mR 113 0), none], [], σ, 46, 1180) (mF [404] [] (ej_M_init_j382 σ) 46 1180) := by
  unfold gj_M_init_j382 at hp
  refine mW1_eq (q_M_init_382 _) ?_
  refine mTr_k (lp_M_init_384 0 σ (n_M_init_384 0 σ) hp.1 ?_)
  have hp := hp.2
  refine mW1_eq (q_M_init_384 _ _) ?_
  refine mTr_if (fun h0 => ?_) (fun h0 => ?_)
  · skip
    exact mTr_e (by decide) rfl (Eq.symm (rfl)) (by decide) (by decide)
  · skip
    have hp := hp h0
    exact hp.elim
set_option maxRecDepth 100000 in
theorem lj_M_init_j316  (σ : MSto) (hp : gj_M_init_j316 σ) : mW1 P_M_init (316, [some (mR 113 0), none], [], σ, 38, 630) (mF [404] [] (ej_M_init_j316 σ) 46 1180) := by
  unfold gj_M_init_j316 at hp
  refine mW1_eq (q_M_init_316 _) ?_
  exact mTr_k (mF_c0 (rfl) (lj_M_init_j382 (sR (sNew (sR (sNew (sR (sNew (sR (sNew (sR (sNew (sR (sNew (sR (sNew (sR (sNew σ 79) 113 0 57 (some (gN σ 79))) 80) 113 0 58 (some (gN σ 80))) 81) 113 0 59 (some (gN σ 81))) 82) 113 0 61 (some (gN σ 82))) 83) 113 0 64 (some (gN σ 83))) 84) 113 0 65 (some (gN σ 84))) 85) 113 0 69 (some (gN σ 85))) 86) 113 0 70 (some (gN σ 86))) hp))
set_option maxRecDepth 100000 in
theorem lj_M_init_j256  (σ : MSto) (hp : gj_M_init_j256 σ) : mW1 P_M_init (256, [some (mR 113 0), none], [], σ, 30, 460) (mF [404] [] (ej_M_init_j256 σ) 46 1180) := by
  unfold gj_M_init_j256 at hp
  refine mW1_eq (q_M_init_256 _) ?_
  exact mTr_k (mF_c0 (rfl) (lj_M_init_j316 (sR (sNew (sR (sNew (sR (sNew (sR (sNew (sR (sNew (sR (sNew (sR (sNew (sR (sNew σ 71) 113 0 42 (some (gN σ 71))) 72) 113 0 43 (some (gN σ 72))) 73) 113 0 44 (some (gN σ 73))) 74) 113 0 45 (some (gN σ 74))) 75) 113 0 46 (some (gN σ 75))) 76) 113 0 47 (some (gN σ 76))) 77) 113 0 48 (some (gN σ 77))) 78) 113 0 50 (some (gN σ 78))) hp))
set_option maxRecDepth 100000 in
theorem lj_M_init_j196  (σ : MSto) (hp : gj_M_init_j196 σ) : mW1 P_M_init (196, [some (mR 113 0), none], [], σ, 23, 408) (mF [404] [] (ej_M_init_j196 σ) 46 1180) := by
  unfold gj_M_init_j196 at hp
  refine mW1_eq (q_M_init_196 _) ?_
  exact mTr_k (mF_c0 (rfl) (lj_M_init_j256 (sR (sNew (sI (sR (sNew (sR (sNew (sR (sNew (sR (sNew (sR (sNew (sR (sNew σ 64) 113 0 32 (some (gN σ 64))) 65) 113 0 34 (some (gN σ 65))) 66) 113 0 35 (some (gN σ 66))) 67) 113 0 37 (some (gN σ 67))) 68) 113 0 38 (some (gN σ 68))) 69) 113 0 39 (some (gN σ 69))) 113 0 40 1) 70) 113 0 41 (some (gN σ 70))) hp))
set_option maxRecDepth 100000 in
theorem lj_M_init_j135  (σ : MSto) (hp : gj_M_init_j135 σ) : mW1 P_M_init (135, [some (mR 113 0), none], [], σ, 15, 366) (mF [404] [] (ej_M_init_j135 σ) 46 1180) := by
  unfold gj_M_init_j135 at hp
  refine mW1_eq (q_M_init_135 _) ?_
  exact mTr_k (mF_c0 (rfl) (lj_M_init_j196 (sR (sNew (sR (sNew (sR (sNew (sR (sNew (sR (sNew (sR (sNew (sR (sNew (sR (sNew σ 56) 113 0 22 (some (gN σ 56))) 57) 113 0 23 (some (gN σ 57))) 58) 113 0 24 (some (gN σ 58))) 59) 113 0 25 (some (gN σ 59))) 60) 113 0 26 (some (gN σ 60))) 61) 113 0 28 (some (gN σ 61))) 62) 113 0 29 (some (gN σ 62))) 63) 113 0 30 (some (gN σ 63))) hp))
set_option maxRecDepth 100000 in
theorem lj_M_init_j71  (σ : MSto) (hp : gj_M_init_j71 σ) : mW1 P_M_init (71, [some (mR 113 0), none], [], σ, 7, 294) (mF [404] [] (ej_M_init_j71 σ) 46 1180) := by
  unfold gj_M_init_j71 at hp
  refine mW1_eq (q_M_init_71 _) ?_
  exact mTr_k (mF_c0 (rfl) (lj_M_init_j135 (sR (sNew (sR (sNew (sR (sNew (sR (sNew (sR (sNew (sR (sNew (sR (sNew (sR (sNew σ 48) 113 0 12 (some (gN σ 48))) 49) 113 0 13 (some (gN σ 49))) 50) 113 0 14 (some (gN σ 50))) 51) 113 0 16 (some (gN σ 51))) 52) 113 0 18 (some (gN σ 52))) 53) 113 0 19 (some (gN σ 53))) 54) 113 0 20 (some (gN σ 54))) 55) 113 0 21 (some (gN σ 55))) hp))
set_option maxRecDepth 100000 in
set_option maxHeartbeats 4000000 in
theorem d_M_init  (σ : MSto) (hp : p_M_init σ) : mW1 P_M_init (0, [some (mR 113 0), none], [], σ, 0, 0) (mF [404] [] (e_M_init σ) 46 1180) := by
  refine mW1_eq (q_M_init_e  _) ?_
  unfold p_M_init at hp
  exact mTr_k (mF_c0 (rfl) (lj_M_init_j71 (sR (sNew (sR (sNew (sR (sNew (sR (sNew (sR (sNew (sR (sNew (sI (sI (sR (sNew σ 41) 113 0 0 (some (gN σ 41))) 113 0 1 1) 113 0 2 100) 42) 113 0 4 (some (gN σ 42))) 43) 113 0 6 (some (gN σ 43))) 44) 113 0 7 (some (gN σ 44))) 45) 113 0 8 (some (gN σ 45))) 46) 113 0 9 (some (gN σ 46))) 47) 113 0 11 (some (gN σ 47))) hp))
theorem tk_M_init : ∀ pc i nx tg, T_M_init pc = some (i, nx, tg) → mOkB prog_14_method_1_code pc i nx tg = true := code_ok (N := 405) (fun k h => by unfold T_M_init; rw [h]; rfl) (by decide +kernel)
theorem al_M_init : ∀ pc i nx tg kd, pCode P_M_init pc = some (i, nx, tg) → pAlc P_M_init pc = some kd → match i with
    | .new x => mAOK "ClothWithManModel" x kd
    | .newarray t => mNAOK t kd
    | .anewarray x => mAAOK "ClothWithManModel" x kd
    | .invokespecial x => Cond.methodLink "ClothWithManModel" x Lib.objectInit ∈ lw_tbl
    | _ => True := by
  intro pc i nx tg kd h1 h2
  have h3 := mLook_mem h2
  simp only [List.mem_cons, Prod.mk.injEq, List.not_mem_nil, or_false] at h3
  rcases h3 with ⟨rfl, rfl⟩ | ⟨rfl, rfl⟩ | ⟨rfl, rfl⟩ | ⟨rfl, rfl⟩ | ⟨rfl, rfl⟩ | ⟨rfl, rfl⟩ | ⟨rfl, rfl⟩ | ⟨rfl, rfl⟩ | ⟨rfl, rfl⟩ | ⟨rfl, rfl⟩ | ⟨rfl, rfl⟩ | ⟨rfl, rfl⟩ | ⟨rfl, rfl⟩ | ⟨rfl, rfl⟩ | ⟨rfl, rfl⟩ | ⟨rfl, rfl⟩ | ⟨rfl, rfl⟩ | ⟨rfl, rfl⟩ | ⟨rfl, rfl⟩ | ⟨rfl, rfl⟩ | ⟨rfl, rfl⟩ | ⟨rfl, rfl⟩ | ⟨rfl, rfl⟩ | ⟨rfl, rfl⟩ | ⟨rfl, rfl⟩ | ⟨rfl, rfl⟩ | ⟨rfl, rfl⟩ | ⟨rfl, rfl⟩ | ⟨rfl, rfl⟩ | ⟨rfl, rfl⟩ | ⟨rfl, rfl⟩ | ⟨rfl, rfl⟩ | ⟨rfl, rfl⟩ | ⟨rfl, rfl⟩ | ⟨rfl, rfl⟩ | ⟨rfl, rfl⟩ | ⟨rfl, rfl⟩ | ⟨rfl, rfl⟩ | ⟨rfl, rfl⟩ | ⟨rfl, rfl⟩ | ⟨rfl, rfl⟩ | ⟨rfl, rfl⟩ | ⟨rfl, rfl⟩ | ⟨rfl, rfl⟩ | ⟨rfl, rfl⟩ | ⟨rfl, rfl⟩ | ⟨rfl, rfl⟩
  · have e : T_M_init 1 = some (i, nx, tg) := h1
    cases e
    exact tw_5_193
  · have e : T_M_init 8 = some (i, nx, tg) := h1
    cases e
    exact ⟨.int, 200, rfl, rfl, tw_1_90, by decide⟩
  · have e : T_M_init 27 = some (i, nx, tg) := h1
    cases e
    exact ⟨.int, 30, rfl, rfl, tw_1_90, by decide⟩
  · have e : T_M_init 35 = some (i, nx, tg) := h1
    cases e
    exact ⟨.int, 36, rfl, rfl, tw_1_90, by decide⟩
  · have e : T_M_init 42 = some (i, nx, tg) := h1
    cases e
    exact ⟨.int, 4, rfl, rfl, tw_1_90, by decide⟩
  · have e : T_M_init 50 = some (i, nx, tg) := h1
    cases e
    exact ⟨.int, 6, rfl, rfl, tw_1_90, by decide⟩
  · have e : T_M_init 58 = some (i, nx, tg) := h1
    cases e
    exact ⟨.int, 6, rfl, rfl, tw_1_90, by decide⟩
  · have e : T_M_init 66 = some (i, nx, tg) := h1
    cases e
    exact ⟨.int, 12, rfl, rfl, tw_1_90, by decide⟩
  · have e : T_M_init 74 = some (i, nx, tg) := h1
    cases e
    exact ⟨.int, 12, rfl, rfl, tw_1_90, by decide⟩
  · have e : T_M_init 82 = some (i, nx, tg) := h1
    cases e
    exact ⟨.int, 12, rfl, rfl, tw_1_90, by decide⟩
  · have e : T_M_init 90 = some (i, nx, tg) := h1
    cases e
    exact ⟨.int, 12, rfl, rfl, tw_1_90, by decide⟩
  · have e : T_M_init 98 = some (i, nx, tg) := h1
    cases e
    exact ⟨.int, 12, rfl, rfl, tw_1_90, by decide⟩
  · have e : T_M_init 106 = some (i, nx, tg) := h1
    cases e
    exact ⟨.int, 6, rfl, rfl, tw_1_90, by decide⟩
  · have e : T_M_init 114 = some (i, nx, tg) := h1
    cases e
    exact ⟨.int, 6, rfl, rfl, tw_1_90, by decide⟩
  · have e : T_M_init 122 = some (i, nx, tg) := h1
    cases e
    exact ⟨.int, 6, rfl, rfl, tw_1_90, by decide⟩
  · have e : T_M_init 130 = some (i, nx, tg) := h1
    cases e
    exact ⟨.int, 6, rfl, rfl, tw_1_90, by decide⟩
  · have e : T_M_init 138 = some (i, nx, tg) := h1
    cases e
    exact ⟨.int, 6, rfl, rfl, tw_1_90, by decide⟩
  · have e : T_M_init 146 = some (i, nx, tg) := h1
    cases e
    exact ⟨.int, 6, rfl, rfl, tw_1_90, by decide⟩
  · have e : T_M_init 154 = some (i, nx, tg) := h1
    cases e
    exact ⟨.int, 6, rfl, rfl, tw_1_90, by decide⟩
  · have e : T_M_init 162 = some (i, nx, tg) := h1
    cases e
    exact ⟨.int, 6, rfl, rfl, tw_1_90, by decide⟩
  · have e : T_M_init 170 = some (i, nx, tg) := h1
    cases e
    exact ⟨.int, 6, rfl, rfl, tw_1_90, by decide⟩
  · have e : T_M_init 177 = some (i, nx, tg) := h1
    cases e
    exact ⟨.int, 4, rfl, rfl, tw_1_90, by decide⟩
  · have e : T_M_init 184 = some (i, nx, tg) := h1
    cases e
    exact ⟨.boolean, 4, rfl, rfl, tw_1_223, by decide⟩
  · have e : T_M_init 191 = some (i, nx, tg) := h1
    cases e
    exact ⟨.int, 4, rfl, rfl, tw_1_90, by decide⟩
  · have e : T_M_init 199 = some (i, nx, tg) := h1
    cases e
    exact ⟨.int, 9, rfl, rfl, tw_1_90, by decide⟩
  · have e : T_M_init 207 = some (i, nx, tg) := h1
    cases e
    exact ⟨.int, 8, rfl, rfl, tw_1_90, by decide⟩
  · have e : T_M_init 215 = some (i, nx, tg) := h1
    cases e
    exact ⟨.int, 8, rfl, rfl, tw_1_90, by decide⟩
  · have e : T_M_init 223 = some (i, nx, tg) := h1
    cases e
    exact ⟨.int, 8, rfl, rfl, tw_1_90, by decide⟩
  · have e : T_M_init 231 = some (i, nx, tg) := h1
    cases e
    exact ⟨.int, 8, rfl, rfl, tw_1_90, by decide⟩
  · have e : T_M_init 239 = some (i, nx, tg) := h1
    cases e
    exact ⟨.int, 8, rfl, rfl, tw_1_90, by decide⟩
  · have e : T_M_init 251 = some (i, nx, tg) := h1
    cases e
    exact ⟨.boolean, 3, rfl, rfl, tw_1_223, by decide⟩
  · have e : T_M_init 258 = some (i, nx, tg) := h1
    cases e
    exact ⟨.int, 3, rfl, rfl, tw_1_90, by decide⟩
  · have e : T_M_init 266 = some (i, nx, tg) := h1
    cases e
    exact ⟨.int, 36, rfl, rfl, tw_1_90, by decide⟩
  · have e : T_M_init 273 = some (i, nx, tg) := h1
    cases e
    exact ⟨.int, 3, rfl, rfl, tw_1_90, by decide⟩
  · have e : T_M_init 281 = some (i, nx, tg) := h1
    cases e
    exact ⟨.int, 18, rfl, rfl, tw_1_90, by decide⟩
  · have e : T_M_init 288 = some (i, nx, tg) := h1
    cases e
    exact ⟨.int, 3, rfl, rfl, tw_1_90, by decide⟩
  · have e : T_M_init 295 = some (i, nx, tg) := h1
    cases e
    exact ⟨.int, 3, rfl, rfl, tw_1_90, by decide⟩
  · have e : T_M_init 303 = some (i, nx, tg) := h1
    cases e
    exact ⟨.byte, 80, rfl, rfl, tw_5_147, by decide⟩
  · have e : T_M_init 311 = some (i, nx, tg) := h1
    cases e
    exact ⟨.long, 24, rfl, rfl, tw_1_161, by decide⟩
  · have e : T_M_init 319 = some (i, nx, tg) := h1
    cases e
    exact ⟨.int, 60, rfl, rfl, tw_1_90, by decide⟩
  · have e : T_M_init 327 = some (i, nx, tg) := h1
    cases e
    exact ⟨.int, 60, rfl, rfl, tw_1_90, by decide⟩
  · have e : T_M_init 336 = some (i, nx, tg) := h1
    cases e
    exact ⟨.long, 200, rfl, rfl, tw_1_161, by decide⟩
  · have e : T_M_init 345 = some (i, nx, tg) := h1
    cases e
    exact ⟨.boolean, 200, rfl, rfl, tw_1_223, by decide⟩
  · have e : T_M_init 353 = some (i, nx, tg) := h1
    cases e
    exact ⟨.int, 6, rfl, rfl, tw_1_90, by decide⟩
  · have e : T_M_init 361 = some (i, nx, tg) := h1
    cases e
    exact ⟨.int, 6, rfl, rfl, tw_1_90, by decide⟩
  · have e : T_M_init 369 = some (i, nx, tg) := h1
    cases e
    exact ⟨.long, 6, rfl, rfl, tw_1_161, by decide⟩
  · have e : T_M_init 377 = some (i, nx, tg) := h1
    cases e
    exact ⟨.int, 12, rfl, rfl, tw_1_90, by decide⟩

theorem ok_M_init (l : Launch) : mPOK l "ClothWithManModel" prog_14_method_1_code P_M_init := by
  refine ⟨tk_M_init, ?_, ?_, ?_, al_M_init, ?_, ?_, fun pc en h => by cases h⟩
  · intro x ci f ty fin h
    exact mLook_all (Q := fun x v => mFOK "ClothWithManModel" x v.1 v.2.1 v.2.2.1 v.2.2.2 ∧ (v.2.2.2 = true → pIni P_M_init = true → (Cond.fieldLink "ClothWithManModel" x (((mCl[v.1]?).getD ("", fun _ => ("", "", "", false), 0)).2.1 v.2.1).1 (((mCl[v.1]?).getD ("", fun _ => ("", "", "", false), 0)).2.1 v.2.1).2.1 (((mCl[v.1]?).getD ("", fun _ => ("", "", "", false), 0)).2.1 v.2.1).2.2.1 ∈ lw_tbl ∧ (((mCl[v.1]?).getD ("", fun _ => ("", "", "", false), 0)).2.1 v.2.1).1 = "ClothWithManModel"))) (fcC ⟨fo_M_9, fun _ _ => ⟨tw_5_194, rfl⟩⟩ (fcC ⟨fo_M_13, fun h1 h2 => by cases h1⟩ (fcC ⟨fo_M_17, fun h1 h2 => by cases h1⟩ (fcC ⟨fo_M_20, fun _ _ => ⟨tw_5_198, rfl⟩⟩ (fcC ⟨fo_M_23, fun _ _ => ⟨tw_5_200, rfl⟩⟩ (fcC ⟨fo_M_26, fun _ _ => ⟨tw_5_201, rfl⟩⟩ (fcC ⟨fo_M_29, fun _ _ => ⟨tw_5_202, rfl⟩⟩ (fcC ⟨fo_M_32, fun _ _ => ⟨tw_5_203, rfl⟩⟩ (fcC ⟨fo_M_35, fun _ _ => ⟨tw_5_205, rfl⟩⟩ (fcC ⟨fo_M_38, fun _ _ => ⟨tw_5_206, rfl⟩⟩ (fcC ⟨fo_M_41, fun _ _ => ⟨tw_5_207, rfl⟩⟩ (fcC ⟨fo_M_44, fun _ _ => ⟨tw_5_208, rfl⟩⟩ (fcC ⟨fo_M_47, fun _ _ => ⟨tw_5_210, rfl⟩⟩ (fcC ⟨fo_M_50, fun _ _ => ⟨tw_5_212, rfl⟩⟩ (fcC ⟨fo_M_53, fun _ _ => ⟨tw_5_213, rfl⟩⟩ (fcC ⟨fo_M_56, fun _ _ => ⟨tw_5_214, rfl⟩⟩ (fcC ⟨fo_M_59, fun _ _ => ⟨tw_5_215, rfl⟩⟩ (fcC ⟨fo_M_62, fun _ _ => ⟨tw_5_216, rfl⟩⟩ (fcC ⟨fo_M_65, fun _ _ => ⟨tw_5_217, rfl⟩⟩ (fcC ⟨fo_M_68, fun _ _ => ⟨tw_5_218, rfl⟩⟩ (fcC ⟨fo_M_71, fun _ _ => ⟨tw_5_219, rfl⟩⟩ (fcC ⟨fo_M_74, fun _ _ => ⟨tw_5_220, rfl⟩⟩ (fcC ⟨fo_M_77, fun _ _ => ⟨tw_5_222, rfl⟩⟩ (fcC ⟨fo_M_80, fun _ _ => ⟨tw_5_223, rfl⟩⟩ (fcC ⟨fo_M_84, fun _ _ => ⟨tw_5_224, rfl⟩⟩ (fcC ⟨fo_M_87, fun _ _ => ⟨tw_5_226, rfl⟩⟩ (fcC ⟨fo_M_90, fun _ _ => ⟨tw_5_228, rfl⟩⟩ (fcC ⟨fo_M_93, fun _ _ => ⟨tw_5_229, rfl⟩⟩ (fcC ⟨fo_M_96, fun _ _ => ⟨tw_5_231, rfl⟩⟩ (fcC ⟨fo_M_99, fun _ _ => ⟨tw_5_232, rfl⟩⟩ (fcC ⟨fo_M_102, fun _ _ => ⟨tw_5_233, rfl⟩⟩ (fcC ⟨fo_M_105, fun h1 h2 => by cases h1⟩ (fcC ⟨fo_M_108, fun _ _ => ⟨tw_5_235, rfl⟩⟩ (fcC ⟨fo_M_111, fun _ _ => ⟨tw_5_236, rfl⟩⟩ (fcC ⟨fo_M_114, fun _ _ => ⟨tw_5_237, rfl⟩⟩ (fcC ⟨fo_M_117, fun _ _ => ⟨tw_5_238, rfl⟩⟩ (fcC ⟨fo_M_120, fun _ _ => ⟨tw_5_239, rfl⟩⟩ (fcC ⟨fo_M_123, fun _ _ => ⟨tw_6_0, rfl⟩⟩ (fcC ⟨fo_M_126, fun _ _ => ⟨tw_6_1, rfl⟩⟩ (fcC ⟨fo_M_129, fun _ _ => ⟨tw_6_2, rfl⟩⟩ (fcC ⟨fo_M_133, fun _ _ => ⟨tw_6_4, rfl⟩⟩ (fcC ⟨fo_M_137, fun _ _ => ⟨tw_6_11, rfl⟩⟩ (fcC ⟨fo_M_140, fun _ _ => ⟨tw_6_12, rfl⟩⟩ (fcC ⟨fo_M_143, fun _ _ => ⟨tw_6_13, rfl⟩⟩ (fcC ⟨fo_M_146, fun _ _ => ⟨tw_6_15, rfl⟩⟩ (fcC ⟨fo_M_149, fun _ _ => ⟨tw_6_18, rfl⟩⟩ (fcC ⟨fo_M_152, fun _ _ => ⟨tw_6_19, rfl⟩⟩ (fcC ⟨fo_M_155, fun _ _ => ⟨tw_6_23, rfl⟩⟩ (fcC ⟨fo_M_158, fun _ _ => ⟨tw_6_24, rfl⟩⟩ fcN))))))))))))))))))))))))))))))))))))))))))))))))) x (ci, f, ty, fin) h
  · intro x
    have hh := mLook_all (l := ([] : List (Nat × (Int32 ⊕ Int64)))) (Q := fun x (v : Int32 ⊕ Int64) => (∀ w, v = .inl w → Cond.constant "ClothWithManModel" x w ∈ lw_tbl) ∧ (∀ w, v = .inr w → Cond.constantLong "ClothWithManModel" x w ∈ lw_tbl)) fcN x
    exact ⟨fun w h => (hh _ h).1 w rfl, fun w h => (hh _ h).2 w rfl⟩
  · exact fun x en h => mLook_all (Q := fun x en => mLink "ClothWithManModel" x en ∧ mCtr l en ∧ (en.1.1 = 2 → en.2.2.2.2.2.2 = none)) fcN x en h
  · exact fun x kd h => mLook_all (Q := fun x kd => (kd = 95 ∧ Cond.fieldLink "ClothWithManModel" x "ClothWithMan" "LIKENESSES" "[I" ∈ lw_tbl) ∨ (kd = 96 ∧ Cond.fieldLink "ClothWithManModel" x "ClothWithMan" "APART_BOUNDS" "[I" ∈ lw_tbl)) fcN x kd h
  · exact fun x ci h => mLook_all (Q := fun x ci => ci ≠ 0 ∧ ∃ (C : String) (T : u_T) (N : Nat), mCl[ci]? = some (C, T, N) ∧ Cond.classLink "ClothWithManModel" x C ∈ lw_tbl ∧ Cond.instantiable C N ∈ lw_tbl) fcN x ci h
set_option maxRecDepth 100000 in
theorem c_M_init (l : Launch) : mCtr l E_M_init := mCtr_of (P := P_M_init) (own := "ClothWithManModel") mLay_ok rfl (by decide +kernel) rfl (ok_M_init l) (fun _ => rfl) (fun as σ pr rv σ' hF hpr hlv => by
  unfold E_M_init S_M_init at hF
  simp only [] at hF
  split at hF
  · cases hF
    obtain ⟨n, pcF, c1, s1, g1, g2, g3, g4⟩ := mF_inv (d_M_init σ (hpr _ rfl))
    exact ⟨Nat.le_of_ble_eq_true rfl, (fun v h => by cases h), n, pcF, c1, s1, g1, mEnd_of (i := .return_) (P := P_M_init) (rets := [404]) rfl g2, g3, g4⟩
  · cases hF
    exact (hpr _ rfl).elim)
/-! new ClothWithManModel -/
def p_newM (σ : MSto) : Prop := gN σ 113 = 0 ∧ gN σ 13 = 0 ∧ gN σ 41 = 0 ∧ gN σ 42 = 0 ∧ gN σ 43 = 0 ∧ gN σ 44 = 0 ∧ gN σ 45 = 0 ∧ gN σ 46 = 0 ∧ gN σ 47 = 0 ∧ gN σ 48 = 0 ∧ gN σ 49 = 0 ∧ gN σ 50 = 0 ∧ gN σ 51 = 0 ∧ gN σ 52 = 0 ∧ gN σ 53 = 0 ∧ gN σ 54 = 0 ∧ gN σ 55 = 0 ∧ gN σ 56 = 0 ∧ gN σ 57 = 0 ∧ gN σ 58 = 0 ∧ gN σ 59 = 0 ∧ gN σ 60 = 0 ∧ gN σ 61 = 0 ∧ gN σ 62 = 0 ∧ gN σ 63 = 0 ∧ gN σ 64 = 0 ∧ gN σ 65 = 0 ∧ gN σ 66 = 0 ∧ gN σ 67 = 0 ∧ gN σ 68 = 0 ∧ gN σ 69 = 0 ∧ gN σ 70 = 0 ∧ gN σ 71 = 0 ∧ gN σ 72 = 0 ∧ gN σ 73 = 0 ∧ gN σ 74 = 0 ∧ gN σ 75 = 0 ∧ gN σ 76 = 0 ∧ gN σ 77 = 0 ∧ gN σ 78 = 0 ∧ gN σ 79 = 0 ∧ gN σ 80 = 0 ∧ gN σ 81 = 0 ∧ gN σ 82 = 0 ∧ gN σ 83 = 0 ∧ gN σ 84 = 0 ∧ gN σ 85 = 0 ∧ gN σ 86 = 0 ∧ p_M_init (sNew σ 113)
noncomputable def e_newM (σ : MSto) : MSto := mRen 113 13 (e_M_init (sNew σ 113))
noncomputable def S_newM : List MV → MSto → Option Prop × Option MV × MSto := fun as σ => match as with
  | [] => (some (p_newM σ), some (mR 13 (0)), e_newM σ)
  | _ => (some False, none, σ)
noncomputable def E_newM : MEnt := ((0, 0, 0), (1, 20, 47, 1251), S_newM, ((⟨"ClothWithManModel", "<init>", "()V"⟩ : MethodName), prog_14_method_1_code, 2, none))
set_option maxRecDepth 100000 in
set_option maxHeartbeats 4000000 in
theorem h_newM : ∀ (σ : MSto) (pr : Option Prop) (rv : Option MV) (σ' : MSto), E_newM.2.2.1 [] σ = (pr, rv, σ') → (∀ q, pr = some q → q) → gN σ 113 = 0 ∧ ∃ (σ1 : MSto) (pr1 : Option Prop), E_M_init.2.2.1 [mR 113 0] (sNew σ 113) = (pr1, none, σ1) ∧ (∀ q, pr1 = some q → q) ∧ gN σ1 113 = 1 ∧ gN σ1 13 = gN σ 13 ∧ (∀ f t, ([84, 0, 0, 0, 86, 0, 88, 90, 92, 94, 0, 96, 98, 100, 102, 0, 104, 0, 106, 108, 110, 112, 114, 116, 118, 120, 122, 0, 124, 126, 128, 0, 130, 0, 132, 134, 0, 136, 138, 140, 0, 142, 144, 146, 148, 150, 152, 154, 156, 0, 158, 0, 0, 0, 0, 0, 0, 160, 162, 164, 1, 166, 1, 1, 168, 170, 0, 1, 0, 172, 174] : List Nat)[f]? = some (2 * t + 2) → gR σ1 113 0 f = some (gN σ 13)) ∧ rv = some (mR 13 (gN σ 13)) ∧ σ' = mRen 113 13 σ1 := by
  intro σ pr rv σ' h hp
  have h' : (some (p_newM σ), some (mR 13 (0)), e_newM σ) = (pr, rv, σ') := h
  cases h'
  obtain ⟨h0, h1, h2, h3, h4, h5, h6, h7, h8, h9, h10, h11, h12, h13, h14, h15, h16, h17, h18, h19, h20, h21, h22, h23, h24, h25, h26, h27, h28, h29, h30, h31, h32, h33, h34, h35, h36, h37, h38, h39, h40, h41, h42, h43, h44, h45, h46, h47, hp9⟩ := hp _ rfl
  refine ⟨h0, e_M_init (sNew σ 113), _, rfl, ?_, ?_, ?_, ?_, ?_, rfl⟩
  · intro q hq; cases hq; exact hp9
  · exact congrArg (· + 1) h0
  · rfl
  · intro f t hf
    match f, hf with
    | 0, _ => exact congrArg some (h2.trans h1.symm : gN σ 41 = gN σ 13)
    | 1, hf => exact absurd (Option.some.inj hf) (by omega)
    | 2, hf => exact absurd (Option.some.inj hf) (by omega)
    | 3, hf => exact absurd (Option.some.inj hf) (by omega)
    | 4, _ => exact congrArg some (h3.trans h1.symm : gN σ 42 = gN σ 13)
    | 5, hf => exact absurd (Option.some.inj hf) (by omega)
    | 6, _ => exact congrArg some (h4.trans h1.symm : gN σ 43 = gN σ 13)
    | 7, _ => exact congrArg some (h5.trans h1.symm : gN σ 44 = gN σ 13)
    | 8, _ => exact congrArg some (h6.trans h1.symm : gN σ 45 = gN σ 13)
    | 9, _ => exact congrArg some (h7.trans h1.symm : gN σ 46 = gN σ 13)
    | 10, hf => exact absurd (Option.some.inj hf) (by omega)
    | 11, _ => exact congrArg some (h8.trans h1.symm : gN σ 47 = gN σ 13)
    | 12, _ => exact congrArg some (h9.trans h1.symm : gN σ 48 = gN σ 13)
    | 13, _ => exact congrArg some (h10.trans h1.symm : gN σ 49 = gN σ 13)
    | 14, _ => exact congrArg some (h11.trans h1.symm : gN σ 50 = gN σ 13)
    | 15, hf => exact absurd (Option.some.inj hf) (by omega)
    | 16, _ => exact congrArg some (h12.trans h1.symm : gN σ 51 = gN σ 13)
    | 17, hf => exact absurd (Option.some.inj hf) (by omega)
    | 18, _ => exact congrArg some (h13.trans h1.symm : gN σ 52 = gN σ 13)
    | 19, _ => exact congrArg some (h14.trans h1.symm : gN σ 53 = gN σ 13)
    | 20, _ => exact congrArg some (h15.trans h1.symm : gN σ 54 = gN σ 13)
    | 21, _ => exact congrArg some (h16.trans h1.symm : gN σ 55 = gN σ 13)
    | 22, _ => exact congrArg some (h17.trans h1.symm : gN σ 56 = gN σ 13)
    | 23, _ => exact congrArg some (h18.trans h1.symm : gN σ 57 = gN σ 13)
    | 24, _ => exact congrArg some (h19.trans h1.symm : gN σ 58 = gN σ 13)
    | 25, _ => exact congrArg some (h20.trans h1.symm : gN σ 59 = gN σ 13)
    | 26, _ => exact congrArg some (h21.trans h1.symm : gN σ 60 = gN σ 13)
    | 27, hf => exact absurd (Option.some.inj hf) (by omega)
    | 28, _ => exact congrArg some (h22.trans h1.symm : gN σ 61 = gN σ 13)
    | 29, _ => exact congrArg some (h23.trans h1.symm : gN σ 62 = gN σ 13)
    | 30, _ => exact congrArg some (h24.trans h1.symm : gN σ 63 = gN σ 13)
    | 31, hf => exact absurd (Option.some.inj hf) (by omega)
    | 32, _ => exact congrArg some (h25.trans h1.symm : gN σ 64 = gN σ 13)
    | 33, hf => exact absurd (Option.some.inj hf) (by omega)
    | 34, _ => exact congrArg some (h26.trans h1.symm : gN σ 65 = gN σ 13)
    | 35, _ => exact congrArg some (h27.trans h1.symm : gN σ 66 = gN σ 13)
    | 36, hf => exact absurd (Option.some.inj hf) (by omega)
    | 37, _ => exact congrArg some (h28.trans h1.symm : gN σ 67 = gN σ 13)
    | 38, _ => exact congrArg some (h29.trans h1.symm : gN σ 68 = gN σ 13)
    | 39, _ => exact congrArg some (h30.trans h1.symm : gN σ 69 = gN σ 13)
    | 40, hf => exact absurd (Option.some.inj hf) (by omega)
    | 41, _ => exact congrArg some (h31.trans h1.symm : gN σ 70 = gN σ 13)
    | 42, _ => exact congrArg some (h32.trans h1.symm : gN σ 71 = gN σ 13)
    | 43, _ => exact congrArg some (h33.trans h1.symm : gN σ 72 = gN σ 13)
    | 44, _ => exact congrArg some (h34.trans h1.symm : gN σ 73 = gN σ 13)
    | 45, _ => exact congrArg some (h35.trans h1.symm : gN σ 74 = gN σ 13)
    | 46, _ => exact congrArg some (h36.trans h1.symm : gN σ 75 = gN σ 13)
    | 47, _ => exact congrArg some (h37.trans h1.symm : gN σ 76 = gN σ 13)
    | 48, _ => exact congrArg some (h38.trans h1.symm : gN σ 77 = gN σ 13)
    | 49, hf => exact absurd (Option.some.inj hf) (by omega)
    | 50, _ => exact congrArg some (h39.trans h1.symm : gN σ 78 = gN σ 13)
    | 51, hf => exact absurd (Option.some.inj hf) (by omega)
    | 52, hf => exact absurd (Option.some.inj hf) (by omega)
    | 53, hf => exact absurd (Option.some.inj hf) (by omega)
    | 54, hf => exact absurd (Option.some.inj hf) (by omega)
    | 55, hf => exact absurd (Option.some.inj hf) (by omega)
    | 56, hf => exact absurd (Option.some.inj hf) (by omega)
    | 57, _ => exact congrArg some (h40.trans h1.symm : gN σ 79 = gN σ 13)
    | 58, _ => exact congrArg some (h41.trans h1.symm : gN σ 80 = gN σ 13)
    | 59, _ => exact congrArg some (h42.trans h1.symm : gN σ 81 = gN σ 13)
    | 60, hf => exact absurd (Option.some.inj hf) (by omega)
    | 61, _ => exact congrArg some (h43.trans h1.symm : gN σ 82 = gN σ 13)
    | 62, hf => exact absurd (Option.some.inj hf) (by omega)
    | 63, hf => exact absurd (Option.some.inj hf) (by omega)
    | 64, _ => exact congrArg some (h44.trans h1.symm : gN σ 83 = gN σ 13)
    | 65, _ => exact congrArg some (h45.trans h1.symm : gN σ 84 = gN σ 13)
    | 66, hf => exact absurd (Option.some.inj hf) (by omega)
    | 67, hf => exact absurd (Option.some.inj hf) (by omega)
    | 68, hf => exact absurd (Option.some.inj hf) (by omega)
    | 69, _ => exact congrArg some (h46.trans h1.symm : gN σ 85 = gN σ 13)
    | 70, _ => exact congrArg some (h47.trans h1.symm : gN σ 86 = gN σ 13)
    | f + 71, hf => cases hf
  · rw [h1]

