/-! ClothWithManModel.weighYears(I)V -/
noncomputable def w_M_W (bits : Int32) (σ : MSto) (y : Nat) : Int64 := v_M_weightOf bits (nI y) σ
noncomputable def e_M_weighYears (bits : Int32) (σ : MSto) : MSto := sJ (fJ σ 81 0 (w_M_W bits σ) 200) 13 0 60 (sumJ (w_M_W bits σ) 200)
def p_M_weighYears (bits : Int32) (σ : MSto) : Prop := iM σ
noncomputable def S_M_weighYears : List MV → MSto → Option Prop × Option MV × MSto := fun as σ => match as with
  | [.inr (.inr (some (13, 0))), .inl a0] => (some (p_M_weighYears a0 σ), none, e_M_weighYears a0 σ)
  | _ => (some False, none, σ)
noncomputable def E_M_weighYears : MEnt := ((1, 1, 13), (3, 72, 0, 0), S_M_weighYears, ((⟨"ClothWithManModel", "weighYears", "(I)V"⟩ : MethodName), prog_14_method_50_code, 3, none))

def T_M_weighYears : Nat → Option (Instr × Nat × List Nat) := fun k => bif Nat.blt k 48 then (bif Nat.blt k 22 then (bif Nat.blt k 11 then (bif Nat.blt k 5 then (bif Nat.blt k 1 then (bif Nat.beq k 0 then some (.aload_n 0, 1, []) else none) else (bif Nat.blt k 2 then (bif Nat.beq k 1 then some (.lconst 0, 2, []) else none) else (bif Nat.beq k 2 then some (.putfield 307, 5, []) else none))) else (bif Nat.blt k 7 then (bif Nat.blt k 6 then (bif Nat.beq k 5 then some (.iconst 0, 6, []) else none) else (bif Nat.beq k 6 then some (.istore_n 2, 7, []) else none)) else (bif Nat.blt k 8 then (bif Nat.beq k 7 then some (.iload_n 2, 8, []) else none) else (bif Nat.beq k 8 then some (.sipush 200, 11, []) else none)))) else (bif Nat.blt k 18 then (bif Nat.blt k 14 then (bif Nat.beq k 11 then some (.if_icmp .ge 36, 14, [47]) else none) else (bif Nat.blt k 15 then (bif Nat.beq k 14 then some (.aload_n 0, 15, []) else none) else (bif Nat.beq k 15 then some (.getfield 143, 18, []) else none))) else (bif Nat.blt k 20 then (bif Nat.blt k 19 then (bif Nat.beq k 18 then some (.iload_n 2, 19, []) else none) else (bif Nat.beq k 19 then some (.aload_n 0, 20, []) else none)) else (bif Nat.blt k 21 then (bif Nat.beq k 20 then some (.iload_n 1, 21, []) else none) else (bif Nat.beq k 21 then some (.iload_n 2, 22, []) else none))))) else (bif Nat.blt k 35 then (bif Nat.blt k 27 then (bif Nat.blt k 25 then (bif Nat.beq k 22 then some (.invokevirtual 311, 25, []) else none) else (bif Nat.blt k 26 then (bif Nat.beq k 25 then some (.lastore, 26, []) else none) else (bif Nat.beq k 26 then some (.aload_n 0, 27, []) else none))) else (bif Nat.blt k 31 then (bif Nat.blt k 28 then (bif Nat.beq k 27 then some (.dup, 28, []) else none) else (bif Nat.beq k 28 then some (.getfield 307, 31, []) else none)) else (bif Nat.blt k 32 then (bif Nat.beq k 31 then some (.aload_n 0, 32, []) else none) else (bif Nat.beq k 32 then some (.getfield 143, 35, []) else none)))) else (bif Nat.blt k 38 then (bif Nat.blt k 36 then (bif Nat.beq k 35 then some (.iload_n 2, 36, []) else none) else (bif Nat.blt k 37 then (bif Nat.beq k 36 then some (.laload, 37, []) else none) else (bif Nat.beq k 37 then some (.ladd, 38, []) else none))) else (bif Nat.blt k 44 then (bif Nat.blt k 41 then (bif Nat.beq k 38 then some (.putfield 307, 41, []) else none) else (bif Nat.beq k 41 then some (.iinc 2 1, 44, []) else none)) else (bif Nat.blt k 47 then (bif Nat.beq k 44 then some (.goto (-37), 47, [7]) else none) else (bif Nat.beq k 47 then some (.return_, 48, []) else none)))))) else none
noncomputable def P_M_weighYears : MP := (T_M_weighYears, (fun k => mLook k [(143, (13, 59, (.array .long), true)), (307, (13, 60, .long, false))]), (fun k => mLook k []), (fun k => mLook k [(311, E_M_weightOf)]), (fun k => mLook k []), (fun k => mLook k []), (fun k => mLook k []), (fun k => mLook k [(7, [true, true, true])]), (fun k => [47].any (Nat.beq k)), (3, 72, 0, 0), false, (fun _ => none))
set_option maxRecDepth 100000 in
set_option maxHeartbeats 4000000 in
theorem q_M_weighYears_e (a1 : Int32) (σ : MSto) (n : Nat) : mexe KT P_M_weighYears (n + 1) (0, [some (mR 13 0), some (mI a1), none], [], σ, 0, 0) = mexe KT P_M_weighYears n (7, [some (mR 13 0), some (mI a1), some (mI 0)], [], (sJ σ 13 0 60 0), 0, 0) := rfl
set_option maxRecDepth 100000 in
set_option maxHeartbeats 4000000 in
theorem q_M_weighYears_7 (x1 : Int32) (x2 : Int32) (σ : MSto) (n : Nat) : mexe KT P_M_weighYears (n + 1) (7, [some (mR 13 0), some (mI x1), some (mI x2)], [], σ, 0, 0) = mIf (200 ≤ x2) (some (47, [], [], σ, 0, 0)) (mG (p_M_weightOf x1 x2 σ) (mG (vp_in x2 200) (mG (vp_in x2 200) (mexe KT P_M_weighYears n (7, [some (mR 13 0), some (mI x1), some (mI (x2 + 1))], [], (sJ (sJ σ 81 0 (Int32.toNatClampNeg x2) (v_M_weightOf x1 x2 σ)) 13 0 60 ((gJ (sJ σ 81 0 (Int32.toNatClampNeg x2) (v_M_weightOf x1 x2 σ)) 13 0 60) + (gJ (sJ σ 81 0 (Int32.toNatClampNeg x2) (v_M_weightOf x1 x2 σ)) 81 0 (Int32.toNatClampNeg x2)))), 0, 0))))) := rfl
set_option maxRecDepth 100000 in
set_option maxHeartbeats 4000000 in
theorem d_M_weighYears (a1 : Int32) (σ : MSto) (hp : p_M_weighYears a1 σ) : mW1 P_M_weighYears (0, [some (mR 13 0), some (mI a1), none], [], σ, 0, 0) (mF [47] [] (e_M_weighYears a1 σ) 0 0) := by
  have hi : iM σ := hp
  refine mW1_eq (q_M_weighYears_e _ _) ?_
  try simp only [bI_0]
  refine mTr_l (mW1_loop (fun i => (7, [some (mR 13 0), some (mI a1), some (mI (nI i))], [], sJ (fJ σ 81 0 (w_M_W a1 σ) i) 13 0 60 (sumJ (w_M_W a1 σ) i), 0, 0)) 200 (fun i hlt hn => ?_) ?_) (by rw [fJ_0]; rfl)
  · have h0 : (nI i).toNatClampNeg = i := nI_cl (by omega)
    refine mW1_eq (q_M_weighYears_7 _ _ _) ?_
    refine mTr_f (nI_ge hlt (by decide)) ?_
    refine mTr_g ⟨hi, nI_inb hlt (by decide)⟩ (mTr_g (nI_inb hlt (by decide)) (mTr_g (nI_inb hlt (by decide)) ?_))
    refine mTr_l hn ?_
    rw [nI_s, h0]
    have e1 : v_M_weightOf a1 (nI i) (sJ (fJ σ 81 0 (w_M_W a1 σ) i) 13 0 60 (sumJ (w_M_W a1 σ) i)) = w_M_W a1 σ i := rfl
    rw [e1]
    congr 4
    refine sto_ext (fun k i j => ?_) (fun k i j => ?_) (fun k i j => ?_) (fun k => ?_)
    all_goals try rfl
    · simp only [gJ_sJ, gJ_fJ, sumJ_s]
      grind
  · refine mW1_eq (q_M_weighYears_7 _ _ _) ?_
    refine mTr_t (Int32.le_refl _) ?_
    exact mTr_e (by decide) rfl rfl (by decide) (by decide)
theorem li_M_311 : mLink "ClothWithManModel" 311 E_M_weightOf := ⟨tw_7_104, tw_1_9, ⟨by decide, by decide⟩, by decide +kernel, Or.inl tw_7_101, (fun h => by cases h), (fun _ => ⟨tw_7_103, tw_0_63, TX12, 71, rfl⟩), (fun h => by cases h)⟩

theorem tk_M_weighYears : ∀ pc i nx tg, T_M_weighYears pc = some (i, nx, tg) → mOkB prog_14_method_50_code pc i nx tg = true := code_ok (N := 48) (fun k h => by unfold T_M_weighYears; rw [h]; rfl) (by decide +kernel)
theorem ok_M_weighYears (l : Launch) : mPOK l "ClothWithManModel" prog_14_method_50_code P_M_weighYears := by
  refine ⟨tk_M_weighYears, ?_, ?_, ?_, (fun pc i nx tg kd _ h => by cases h), ?_, ?_, fun pc en h => by cases h⟩
  · intro x ci f ty fin h
    exact mLook_all (Q := fun x v => mFOK "ClothWithManModel" x v.1 v.2.1 v.2.2.1 v.2.2.2 ∧ (v.2.2.2 = true → pIni P_M_weighYears = true → (Cond.fieldLink "ClothWithManModel" x (((mCl[v.1]?).getD ("", fun _ => ("", "", "", false), 0)).2.1 v.2.1).1 (((mCl[v.1]?).getD ("", fun _ => ("", "", "", false), 0)).2.1 v.2.1).2.1 (((mCl[v.1]?).getD ("", fun _ => ("", "", "", false), 0)).2.1 v.2.1).2.2.1 ∈ lw_tbl ∧ (((mCl[v.1]?).getD ("", fun _ => ("", "", "", false), 0)).2.1 v.2.1).1 = "ClothWithManModel"))) (fcC ⟨fo_M_143, fun h1 h2 => by cases h2⟩ (fcC ⟨fo_M_307, fun h1 h2 => by cases h1⟩ fcN)) x (ci, f, ty, fin) h
  · intro x
    have hh := mLook_all (l := ([] : List (Nat × (Int32 ⊕ Int64)))) (Q := fun x (v : Int32 ⊕ Int64) => (∀ w, v = .inl w → Cond.constant "ClothWithManModel" x w ∈ lw_tbl) ∧ (∀ w, v = .inr w → Cond.constantLong "ClothWithManModel" x w ∈ lw_tbl)) fcN x
    exact ⟨fun w h => (hh _ h).1 w rfl, fun w h => (hh _ h).2 w rfl⟩
  · exact fun x en h => mLook_all (Q := fun x en => mLink "ClothWithManModel" x en ∧ mCtr l en ∧ (en.1.1 = 2 → en.2.2.2.2.2.2 = none)) (fcC ⟨li_M_311, c_M_weightOf l, (fun h => by cases h)⟩ fcN) x en h
  · exact fun x kd h => mLook_all (Q := fun x kd => (kd = 95 ∧ Cond.fieldLink "ClothWithManModel" x "ClothWithMan" "LIKENESSES" "[I" ∈ lw_tbl) ∨ (kd = 96 ∧ Cond.fieldLink "ClothWithManModel" x "ClothWithMan" "APART_BOUNDS" "[I" ∈ lw_tbl)) fcN x kd h
  · exact fun x ci h => mLook_all (Q := fun x ci => ci ≠ 0 ∧ ∃ (C : String) (T : u_T) (N : Nat), mCl[ci]? = some (C, T, N) ∧ Cond.classLink "ClothWithManModel" x C ∈ lw_tbl ∧ Cond.instantiable C N ∈ lw_tbl) fcN x ci h
set_option maxRecDepth 100000 in
theorem c_M_weighYears (l : Launch) : mCtr l E_M_weighYears := mCtr_of (P := P_M_weighYears) (own := "ClothWithManModel") mLay_ok rfl (by decide +kernel) rfl (ok_M_weighYears l) (fun h => by cases h) (fun as σ pr rv σ' hF hpr hlv => by
  unfold E_M_weighYears S_M_weighYears at hF
  simp only [] at hF
  split at hF
  · cases hF
    obtain ⟨n, pcF, c1, s1, g1, g2, g3, g4⟩ := mF_inv (d_M_weighYears _ σ (hpr _ rfl))
    exact ⟨Nat.le_of_ble_eq_true rfl, (fun v h => by cases h), n, pcF, c1, s1, g1, mEnd_of (i := .return_) (P := P_M_weighYears) (rets := [47]) rfl g2, g3, g4⟩
  · cases hF
    exact (hpr _ rfl).elim)
/-! ClothWithManModel.findApart(I)V -/
noncomputable def w_M_far (a b : Nat) (σ : MSto) : Int64 := Int32.toInt64 (v_M_cleared (nI a) σ - v_M_cleared (nI b) σ)
noncomputable def t_M_apIn (bits : Int32) (a : Nat) (σ : MSto) (b : Nat) (v : Int64) : Int64 := if v_M_has bits (nI b) σ = 0 then v else v + (w_M_far a b σ * w_M_far a b σ) * v_M_spansBut bits (nI a) (nI b) σ
noncomputable def t_M_apUp (bits : Int32) (σ : MSto) (a : Nat) (v : Int64) : Int64 := if v_M_has bits (nI a) σ = 0 then v else nfold (t_M_apIn bits a σ) v a
noncomputable def t_M_apLow (bits : Int32) (σ : MSto) (a : Nat) (v : Int64) : Int64 := if v_M_has bits (nI a) σ = 0 then v else v + v_M_spansBut bits (nI a) (nI a) σ
noncomputable def w_M_apUp (bits : Int32) (σ : MSto) : Int64 := nfold (t_M_apUp bits σ) 0 (nM σ 10)
noncomputable def w_M_apLow (bits : Int32) (σ : MSto) : Int64 := nfold (t_M_apLow bits σ) 0 (nM σ 10)
noncomputable def e_M_findApart (bits : Int32) (σ : MSto) : MSto := sJ (sJ σ 13 0 62 (w_M_apUp bits σ)) 13 0 63 (w_M_apLow bits σ)
def p_M_findApart (bits : Int32) (σ : MSto) : Prop := iM σ
noncomputable def S_M_findApart : List MV → MSto → Option Prop × Option MV × MSto := fun as σ => match as with
  | [.inr (.inr (some (13, 0))), .inl a0] => (some (p_M_findApart a0 σ), none, e_M_findApart a0 σ)
  | _ => (some False, none, σ)
noncomputable def E_M_findApart : MEnt := ((1, 1, 13), (2, 47, 0, 0), S_M_findApart, ((⟨"ClothWithManModel", "findApart", "(I)V"⟩ : MethodName), prog_14_method_54_code, 6, none))

def T_M_findApart : Nat → Option (Instr × Nat × List Nat) := fun k => bif Nat.blt k 114 then (bif Nat.blt k 54 then (bif Nat.blt k 28 then (bif Nat.blt k 12 then (bif Nat.blt k 6 then (bif Nat.blt k 2 then (bif Nat.blt k 1 then (bif Nat.beq k 0 then some (.aload_n 0, 1, []) else none) else (bif Nat.beq k 1 then some (.lconst 0, 2, []) else none)) else (bif Nat.blt k 5 then (bif Nat.beq k 2 then some (.putfield 327, 5, []) else none) else (bif Nat.beq k 5 then some (.aload_n 0, 6, []) else none))) else (bif Nat.blt k 10 then (bif Nat.blt k 7 then (bif Nat.beq k 6 then some (.lconst 0, 7, []) else none) else (bif Nat.beq k 7 then some (.putfield 330, 10, []) else none)) else (bif Nat.blt k 11 then (bif Nat.beq k 10 then some (.iconst 0, 11, []) else none) else (bif Nat.beq k 11 then some (.istore_n 2, 12, []) else none)))) else (bif Nat.blt k 20 then (bif Nat.blt k 14 then (bif Nat.blt k 13 then (bif Nat.beq k 12 then some (.iload_n 2, 13, []) else none) else (bif Nat.beq k 13 then some (.aload_n 0, 14, []) else none)) else (bif Nat.blt k 17 then (bif Nat.beq k 14 then some (.getfield 185, 17, []) else none) else (bif Nat.beq k 17 then some (.if_icmp .ge 96, 20, [113]) else none))) else (bif Nat.blt k 22 then (bif Nat.blt k 21 then (bif Nat.beq k 20 then some (.iload_n 1, 21, []) else none) else (bif Nat.beq k 21 then some (.iload_n 2, 22, []) else none)) else (bif Nat.blt k 25 then (bif Nat.beq k 22 then some (.invokestatic 301, 25, []) else none) else (bif Nat.beq k 25 then some (.ifCond .ne 6, 28, [31]) else none))))) else (bif Nat.blt k 40 then (bif Nat.blt k 36 then (bif Nat.blt k 32 then (bif Nat.blt k 31 then (bif Nat.beq k 28 then some (.goto 79, 31, [107]) else none) else (bif Nat.beq k 31 then some (.aload_n 0, 32, []) else none)) else (bif Nat.blt k 33 then (bif Nat.beq k 32 then some (.dup, 33, []) else none) else (bif Nat.beq k 33 then some (.getfield 330, 36, []) else none))) else (bif Nat.blt k 38 then (bif Nat.blt k 37 then (bif Nat.beq k 36 then some (.aload_n 0, 37, []) else none) else (bif Nat.beq k 37 then some (.iload_n 1, 38, []) else none)) else (bif Nat.blt k 39 then (bif Nat.beq k 38 then some (.iload_n 2, 39, []) else none) else (bif Nat.beq k 39 then some (.iload_n 2, 40, []) else none)))) else (bif Nat.blt k 48 then (bif Nat.blt k 44 then (bif Nat.blt k 43 then (bif Nat.beq k 40 then some (.invokevirtual 333, 43, []) else none) else (bif Nat.beq k 43 then some (.ladd, 44, []) else none)) else (bif Nat.blt k 47 then (bif Nat.beq k 44 then some (.putfield 330, 47, []) else none) else (bif Nat.beq k 47 then some (.iconst 0, 48, []) else none))) else (bif Nat.blt k 50 then (bif Nat.blt k 49 then (bif Nat.beq k 48 then some (.istore_n 3, 49, []) else none) else (bif Nat.beq k 49 then some (.iload_n 3, 50, []) else none)) else (bif Nat.blt k 51 then (bif Nat.beq k 50 then some (.iload_n 2, 51, []) else none) else (bif Nat.beq k 51 then some (.if_icmp .ge 56, 54, [107]) else none)))))) else (bif Nat.blt k 81 then (bif Nat.blt k 70 then (bif Nat.blt k 62 then (bif Nat.blt k 56 then (bif Nat.blt k 55 then (bif Nat.beq k 54 then some (.iload_n 1, 55, []) else none) else (bif Nat.beq k 55 then some (.iload_n 3, 56, []) else none)) else (bif Nat.blt k 59 then (bif Nat.beq k 56 then some (.invokestatic 301, 59, []) else none) else (bif Nat.beq k 59 then some (.ifCond .ne 6, 62, [65]) else none))) else (bif Nat.blt k 66 then (bif Nat.blt k 65 then (bif Nat.beq k 62 then some (.goto 39, 65, [101]) else none) else (bif Nat.beq k 65 then some (.aload_n 0, 66, []) else none)) else (bif Nat.blt k 67 then (bif Nat.beq k 66 then some (.iload_n 2, 67, []) else none) else (bif Nat.beq k 67 then some (.invokevirtual 304, 70, []) else none)))) else (bif Nat.blt k 76 then (bif Nat.blt k 72 then (bif Nat.blt k 71 then (bif Nat.beq k 70 then some (.aload_n 0, 71, []) else none) else (bif Nat.beq k 71 then some (.iload_n 3, 72, []) else none)) else (bif Nat.blt k 75 then (bif Nat.beq k 72 then some (.invokevirtual 304, 75, []) else none) else (bif Nat.beq k 75 then some (.isub, 76, []) else none))) else (bif Nat.blt k 79 then (bif Nat.blt k 77 then (bif Nat.beq k 76 then some (.i2l, 77, []) else none) else (bif Nat.beq k 77 then some (.lstore 4, 79, []) else none)) else (bif Nat.blt k 80 then (bif Nat.beq k 79 then some (.aload_n 0, 80, []) else none) else (bif Nat.beq k 80 then some (.dup, 81, []) else none))))) else (bif Nat.blt k 93 then (bif Nat.blt k 89 then (bif Nat.blt k 86 then (bif Nat.blt k 84 then (bif Nat.beq k 81 then some (.getfield 327, 84, []) else none) else (bif Nat.beq k 84 then some (.lload 4, 86, []) else none)) else (bif Nat.blt k 88 then (bif Nat.beq k 86 then some (.lload 4, 88, []) else none) else (bif Nat.beq k 88 then some (.lmul, 89, []) else none))) else (bif Nat.blt k 91 then (bif Nat.blt k 90 then (bif Nat.beq k 89 then some (.aload_n 0, 90, []) else none) else (bif Nat.beq k 90 then some (.iload_n 1, 91, []) else none)) else (bif Nat.blt k 92 then (bif Nat.beq k 91 then some (.iload_n 2, 92, []) else none) else (bif Nat.beq k 92 then some (.iload_n 3, 93, []) else none)))) else (bif Nat.blt k 101 then (bif Nat.blt k 97 then (bif Nat.blt k 96 then (bif Nat.beq k 93 then some (.invokevirtual 333, 96, []) else none) else (bif Nat.beq k 96 then some (.lmul, 97, []) else none)) else (bif Nat.blt k 98 then (bif Nat.beq k 97 then some (.ladd, 98, []) else none) else (bif Nat.beq k 98 then some (.putfield 327, 101, []) else none))) else (bif Nat.blt k 107 then (bif Nat.blt k 104 then (bif Nat.beq k 101 then some (.iinc 3 1, 104, []) else none) else (bif Nat.beq k 104 then some (.goto (-55), 107, [49]) else none)) else (bif Nat.blt k 110 then (bif Nat.beq k 107 then some (.iinc 2 1, 110, []) else none) else (bif Nat.blt k 113 then (bif Nat.beq k 110 then some (.goto (-98), 113, [12]) else none) else (bif Nat.beq k 113 then some (.return_, 114, []) else none)))))))) else none
noncomputable def P_M_findApart : MP := (T_M_findApart, (fun k => mLook k [(185, (13, 10, .int, false)), (327, (13, 62, .long, false)), (330, (13, 63, .long, false))]), (fun k => mLook k []), (fun k => mLook k [(301, E_M_has), (304, E_M_cleared), (333, E_M_spansBut)]), (fun k => mLook k []), (fun k => mLook k []), (fun k => mLook k []), (fun k => mLook k [(12, [true, true, true, false, false, false]), (49, [true, true, true, true, false, false])]), (fun k => [113].any (Nat.beq k)), (2, 47, 0, 0), false, (fun _ => none))
set_option maxRecDepth 100000 in
set_option maxHeartbeats 4000000 in
theorem q_M_findApart_e (a1 : Int32) (σ : MSto) (n : Nat) : mexe KT P_M_findApart (n + 1) (0, [some (mR 13 0), some (mI a1), none, none, none, none], [], σ, 0, 0) = mexe KT P_M_findApart n (12, [some (mR 13 0), some (mI a1), some (mI 0), none, none, none], [], (sJ (sJ σ 13 0 62 0) 13 0 63 0), 0, 0) := rfl
set_option maxRecDepth 100000 in
set_option maxHeartbeats 4000000 in
theorem q_M_findApart_12 (x1 : Int32) (x2 : Int32) (σ : MSto) (n : Nat) : mexe KT P_M_findApart (n + 1) (12, [some (mR 13 0), some (mI x1), some (mI x2), none, none, none], [], σ, 0, 0) = mIf ((gI σ 13 0 10) ≤ x2) (some (113, [], [], σ, 0, 0)) (mIf ((v_M_has x1 x2 σ) = 0) (mexe KT P_M_findApart n (12, [some (mR 13 0), some (mI x1), some (mI (x2 + 1)), none, none, none], [], σ, 0, 0)) (mG (p_M_spansBut x1 x2 x2 σ) (mexe KT P_M_findApart n (49, [some (mR 13 0), some (mI x1), some (mI x2), some (mI 0), none, none], [], (sJ σ 13 0 63 ((gJ σ 13 0 63) + (v_M_spansBut x1 x2 x2 σ))), 0, 0)))) := rfl
set_option maxRecDepth 100000 in
set_option maxHeartbeats 4000000 in
theorem q_M_findApart_49 (x1 : Int32) (x2 : Int32) (x3 : Int32) (σ : MSto) (n : Nat) : mexe KT P_M_findApart (n + 1) (49, [some (mR 13 0), some (mI x1), some (mI x2), some (mI x3), none, none], [], σ, 0, 0) = mIf (x2 ≤ x3) (mexe KT P_M_findApart n (12, [some (mR 13 0), some (mI x1), some (mI (x2 + 1)), none, none, none], [], σ, 0, 0)) (mIf ((v_M_has x1 x3 σ) = 0) (mexe KT P_M_findApart n (49, [some (mR 13 0), some (mI x1), some (mI x2), some (mI (x3 + 1)), none, none], [], σ, 0, 0)) (mG (p_M_cleared x2 σ) (mG (p_M_cleared x3 σ) (mG (p_M_spansBut x1 x2 x3 σ) (mexe KT P_M_findApart n (49, [some (mR 13 0), some (mI x1), some (mI x2), some (mI (x3 + 1)), none, none], [], (sJ σ 13 0 62 ((gJ σ 13 0 62) + (((Int32.toInt64 ((v_M_cleared x2 σ) - (v_M_cleared x3 σ))) * (Int32.toInt64 ((v_M_cleared x2 σ) - (v_M_cleared x3 σ)))) * (v_M_spansBut x1 x2 x3 σ)))), 0, 0)))))) := rfl
set_option maxRecDepth 100000 in
set_option maxHeartbeats 4000000 in
theorem d_M_findApart (a1 : Int32) (σ : MSto) (hp : p_M_findApart a1 σ) : mW1 P_M_findApart (0, [some (mR 13 0), some (mI a1), none, none, none, none], [], σ, 0, 0) (mF [113] [] (e_M_findApart a1 σ) 0 0) := by
  have hi : iM σ := hp
  have hc := hi.c.2.2.1
  refine mW1_eq (q_M_findApart_e _ _) ?_
  try simp only [bI_0]
  refine mTr_k (mW1_loop (fun i => (12, [some (mR 13 0), some (mI a1), some (mI (nI i)), none, none, none], [], sJ (sJ σ 13 0 62 (nfold (t_M_apUp a1 σ) 0 i)) 13 0 63 (nfold (t_M_apLow a1 σ) 0 i), 0, 0)) (nM σ 10) (fun i hlt hn => ?_) ?_)
  · refine mW1_eq (q_M_findApart_12 _ _ _) ?_
    refine mTr_f (cnt_ge hc (by omega) hlt) ?_
    refine mTr_if (fun g => ?_) (fun g => ?_)
    · have g' : v_M_has a1 (nI i) σ = 0 := g
      exact mTr_l hn (by rw [nI_s, nfold_s, nfold_s, t_M_apUp, if_pos g', t_M_apLow, if_pos g'])
    · have g' : ¬ v_M_has a1 (nI i) σ = 0 := g
      refine mTr_g hi ?_
      have hL : nfold (t_M_apLow a1 σ) 0 (i + 1) = nfold (t_M_apLow a1 σ) 0 i + v_M_spansBut a1 (nI i) (nI i) σ := nfold_st (if_neg g')
      have hU : nfold (t_M_apUp a1 σ) 0 (i + 1) = nfold (t_M_apIn a1 i σ) (nfold (t_M_apUp a1 σ) 0 i) i := nfold_st (if_neg g')
      refine mTr_l (mW1_loop (fun b => (49, [some (mR 13 0), some (mI a1), some (mI (nI i)), some (mI (nI b)), none, none], [], sJ (sJ σ 13 0 62 (nfold (t_M_apIn a1 i σ) (nfold (t_M_apUp a1 σ) 0 i) b)) 13 0 63 (nfold (t_M_apLow a1 σ) 0 (i + 1)), 0, 0)) i (fun b hb hm => ?_) ?_) ?_
      · have hbn : b < nM σ 10 := by omega
        refine mW1_eq (q_M_findApart_49 _ _ _ _) ?_
        refine mTr_f (nI_ge hb (by have := hc.2; omega)) ?_
        refine mTr_if (fun g2 => ?_) (fun g2 => ?_)
        · have g2' : v_M_has a1 (nI b) σ = 0 := g2
          exact mTr_l hm (by rw [nI_s, nfold_s (t_M_apIn a1 i σ), t_M_apIn, if_pos g2'])
        · refine mTr_g (pc_cleared hi hlt) (mTr_g (pc_cleared hi hbn) (mTr_g hi ?_))
          refine mTr_l hm ?_
          have g2' : ¬ v_M_has a1 (nI b) σ = 0 := g2
          rw [nI_s, nfold_s (t_M_apIn a1 i σ), t_M_apIn, if_neg g2']
          rw [gJ_sJ, if_neg (by decide), gJ_sJ, if_pos ⟨rfl, rfl, rfl⟩, sJ_comm _ _ _ (by decide), sJ_sJ]
          rfl
      · refine mW1_eq (q_M_findApart_49 _ _ _ _) ?_
        refine mTr_t (Int32.le_refl _) ?_
        exact mTr_l hn (by rw [nI_s, ← hU])
      · rw [gJ_sJ, if_pos ⟨rfl, rfl, rfl⟩, sJ_sJ, hL]
        rfl
  · refine mW1_eq (q_M_findApart_12 _ _ _) ?_
    refine mTr_t (cnt_le hc) ?_
    exact mTr_e (by decide) rfl rfl (by decide) (by decide)
theorem li_M_333 : mLink "ClothWithManModel" 333 E_M_spansBut := ⟨tw_7_139, tw_1_9, ⟨by decide, by decide⟩, by decide +kernel, Or.inl tw_7_136, (fun h => by cases h), (fun _ => ⟨tw_7_138, tw_0_67, TX12, 71, rfl⟩), (fun h => by cases h)⟩



theorem tk_M_findApart : ∀ pc i nx tg, T_M_findApart pc = some (i, nx, tg) → mOkB prog_14_method_54_code pc i nx tg = true := code_ok (N := 114) (fun k h => by unfold T_M_findApart; rw [h]; rfl) (by decide +kernel)
theorem ok_M_findApart (l : Launch) : mPOK l "ClothWithManModel" prog_14_method_54_code P_M_findApart := by
  refine ⟨tk_M_findApart, ?_, ?_, ?_, (fun pc i nx tg kd _ h => by cases h), ?_, ?_, fun pc en h => by cases h⟩
  · intro x ci f ty fin h
    exact mLook_all (Q := fun x v => mFOK "ClothWithManModel" x v.1 v.2.1 v.2.2.1 v.2.2.2 ∧ (v.2.2.2 = true → pIni P_M_findApart = true → (Cond.fieldLink "ClothWithManModel" x (((mCl[v.1]?).getD ("", fun _ => ("", "", "", false), 0)).2.1 v.2.1).1 (((mCl[v.1]?).getD ("", fun _ => ("", "", "", false), 0)).2.1 v.2.1).2.1 (((mCl[v.1]?).getD ("", fun _ => ("", "", "", false), 0)).2.1 v.2.1).2.2.1 ∈ lw_tbl ∧ (((mCl[v.1]?).getD ("", fun _ => ("", "", "", false), 0)).2.1 v.2.1).1 = "ClothWithManModel"))) (fcC ⟨fo_M_185, fun h1 h2 => by cases h1⟩ (fcC ⟨fo_M_327, fun h1 h2 => by cases h1⟩ (fcC ⟨fo_M_330, fun h1 h2 => by cases h1⟩ fcN))) x (ci, f, ty, fin) h
  · intro x
    have hh := mLook_all (l := ([] : List (Nat × (Int32 ⊕ Int64)))) (Q := fun x (v : Int32 ⊕ Int64) => (∀ w, v = .inl w → Cond.constant "ClothWithManModel" x w ∈ lw_tbl) ∧ (∀ w, v = .inr w → Cond.constantLong "ClothWithManModel" x w ∈ lw_tbl)) fcN x
    exact ⟨fun w h => (hh _ h).1 w rfl, fun w h => (hh _ h).2 w rfl⟩
  · exact fun x en h => mLook_all (Q := fun x en => mLink "ClothWithManModel" x en ∧ mCtr l en ∧ (en.1.1 = 2 → en.2.2.2.2.2.2 = none)) (fcC ⟨li_M_301, c_M_has l, (fun h => by cases h)⟩ (fcC ⟨li_M_304, c_M_cleared l, (fun h => by cases h)⟩ (fcC ⟨li_M_333, c_M_spansBut l, (fun h => by cases h)⟩ fcN))) x en h
  · exact fun x kd h => mLook_all (Q := fun x kd => (kd = 95 ∧ Cond.fieldLink "ClothWithManModel" x "ClothWithMan" "LIKENESSES" "[I" ∈ lw_tbl) ∨ (kd = 96 ∧ Cond.fieldLink "ClothWithManModel" x "ClothWithMan" "APART_BOUNDS" "[I" ∈ lw_tbl)) fcN x kd h
  · exact fun x ci h => mLook_all (Q := fun x ci => ci ≠ 0 ∧ ∃ (C : String) (T : u_T) (N : Nat), mCl[ci]? = some (C, T, N) ∧ Cond.classLink "ClothWithManModel" x C ∈ lw_tbl ∧ Cond.instantiable C N ∈ lw_tbl) fcN x ci h
set_option maxRecDepth 100000 in
theorem c_M_findApart (l : Launch) : mCtr l E_M_findApart := mCtr_of (P := P_M_findApart) (own := "ClothWithManModel") mLay_ok rfl (by decide +kernel) rfl (ok_M_findApart l) (fun h => by cases h) (fun as σ pr rv σ' hF hpr hlv => by
  unfold E_M_findApart S_M_findApart at hF
  simp only [] at hF
  split at hF
  · cases hF
    obtain ⟨n, pcF, c1, s1, g1, g2, g3, g4⟩ := mF_inv (d_M_findApart _ σ (hpr _ rfl))
    exact ⟨Nat.le_of_ble_eq_true rfl, (fun v h => by cases h), n, pcF, c1, s1, g1, mEnd_of (i := .return_) (P := P_M_findApart) (rets := [113]) rfl g2, g3, g4⟩
  · cases hF
    exact (hpr _ rfl).elim)

