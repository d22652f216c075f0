/-! ClothWithManModel.begin(I)V -/
noncomputable def e_M_begin (a1 : Int32) (σ : MSto) : MSto := (sI (sI (sI (sI (sI σ 13 0 53 (gI σ 13 0 49)) 13 0 54 a1) 13 0 55 0) 13 0 56 (-1)) 13 0 49 0)
noncomputable def S_M_begin : List MV → MSto → Option Prop × Option MV × MSto := fun as σ => match as with
  | [.inr (.inr (some (13, 0))), .inl a0] => (none, none, e_M_begin a0 σ)
  | _ => (some False, none, σ)
noncomputable def E_M_begin : MEnt := ((1, 1, 13), (0, 0, 0, 0), S_M_begin, ((⟨"ClothWithManModel", "begin", "(I)V"⟩ : MethodName), prog_14_method_14_code, 2, none))

def T_M_begin : Nat → Option (Instr × Nat × List Nat) := fun k => bif Nat.blt k 29 then (bif Nat.blt k 14 then (bif Nat.blt k 8 then (bif Nat.blt k 2 then (bif Nat.blt k 1 then (bif Nat.beq k 0 then some (.aload_n 0, 1, []) else none) else (bif Nat.beq k 1 then some (.aload_n 0, 2, []) else none)) else (bif Nat.blt k 5 then (bif Nat.beq k 2 then some (.getfield 191, 5, []) else none) else (bif Nat.beq k 5 then some (.putfield 194, 8, []) else none))) else (bif Nat.blt k 10 then (bif Nat.blt k 9 then (bif Nat.beq k 8 then some (.aload_n 0, 9, []) else none) else (bif Nat.beq k 9 then some (.iload_n 1, 10, []) else none)) else (bif Nat.blt k 13 then (bif Nat.beq k 10 then some (.putfield 197, 13, []) else none) else (bif Nat.beq k 13 then some (.aload_n 0, 14, []) else none)))) else (bif Nat.blt k 20 then (bif Nat.blt k 18 then (bif Nat.blt k 15 then (bif Nat.beq k 14 then some (.iconst 0, 15, []) else none) else (bif Nat.beq k 15 then some (.putfield 200, 18, []) else none)) else (bif Nat.blt k 19 then (bif Nat.beq k 18 then some (.aload_n 0, 19, []) else none) else (bif Nat.beq k 19 then some (.iconst (-1), 20, []) else none))) else (bif Nat.blt k 24 then (bif Nat.blt k 23 then (bif Nat.beq k 20 then some (.putfield 203, 23, []) else none) else (bif Nat.beq k 23 then some (.aload_n 0, 24, []) else none)) else (bif Nat.blt k 25 then (bif Nat.beq k 24 then some (.iconst 0, 25, []) else none) else (bif Nat.blt k 28 then (bif Nat.beq k 25 then some (.putfield 191, 28, []) else none) else (bif Nat.beq k 28 then some (.return_, 29, []) else none)))))) else none
noncomputable def P_M_begin : MP := (T_M_begin, (fun k => mLook k [(191, (13, 49, .int, false)), (194, (13, 53, .int, false)), (197, (13, 54, .int, false)), (200, (13, 55, .int, false)), (203, (13, 56, .int, false))]), (fun k => mLook k []), (fun k => mLook k []), (fun k => mLook k []), (fun k => mLook k []), (fun k => mLook k []), (fun k => mLook k []), (fun k => [28].any (Nat.beq k)), (0, 0, 0, 0), false, (fun _ => none))
set_option maxRecDepth 100000 in
set_option maxHeartbeats 4000000 in
theorem q_M_begin_e (a1 : Int32) (σ : MSto) (n : Nat) : mexe KT P_M_begin (n + 1) (0, [some (mR 13 0), some (mI a1)], [], σ, 0, 0) = some (28, [], [], (sI (sI (sI (sI (sI σ 13 0 53 (gI σ 13 0 49)) 13 0 54 a1) 13 0 55 0) 13 0 56 (-1)) 13 0 49 0), 0, 0) := rfl
set_option maxRecDepth 100000 in
set_option maxHeartbeats 4000000 in
theorem d_M_begin (a1 : Int32) (σ : MSto) : mW1 P_M_begin (0, [some (mR 13 0), some (mI a1)], [], σ, 0, 0) (mF [28] [] (e_M_begin a1 σ) 0 0) := by
  refine mW1_eq (q_M_begin_e _ _) ?_
  exact mTr_e (by decide) rfl (Eq.symm (rfl)) (by decide) (by decide)
theorem tk_M_begin : ∀ pc i nx tg, T_M_begin pc = some (i, nx, tg) → mOkB prog_14_method_14_code pc i nx tg = true := code_ok (N := 29) (fun k h => by unfold T_M_begin; rw [h]; rfl) (by decide +kernel)
theorem ok_M_begin (l : Launch) : mPOK l "ClothWithManModel" prog_14_method_14_code P_M_begin := by
  refine ⟨tk_M_begin, ?_, ?_, ?_, (fun pc i nx tg kd _ h => by cases h), ?_, ?_, fun pc en h => by cases h⟩
  · intro x ci f ty fin h
    exact mLook_all (Q := fun x v => mFOK "ClothWithManModel" x v.1 v.2.1 v.2.2.1 v.2.2.2 ∧ (v.2.2.2 = true → pIni P_M_begin = true → (Cond.fieldLink "ClothWithManModel" x (((mCl[v.1]?).getD ("", fun _ => ("", "", "", false), 0)).2.1 v.2.1).1 (((mCl[v.1]?).getD ("", fun _ => ("", "", "", false), 0)).2.1 v.2.1).2.1 (((mCl[v.1]?).getD ("", fun _ => ("", "", "", false), 0)).2.1 v.2.1).2.2.1 ∈ lw_tbl ∧ (((mCl[v.1]?).getD ("", fun _ => ("", "", "", false), 0)).2.1 v.2.1).1 = "ClothWithManModel"))) (fcC ⟨fo_M_191, fun h1 h2 => by cases h1⟩ (fcC ⟨fo_M_194, fun h1 h2 => by cases h1⟩ (fcC ⟨fo_M_197, fun h1 h2 => by cases h1⟩ (fcC ⟨fo_M_200, fun h1 h2 => by cases h1⟩ (fcC ⟨fo_M_203, fun h1 h2 => by cases h1⟩ fcN))))) x (ci, f, ty, fin) h
  · intro x
    have hh := mLook_all (l := ([] : List (Nat × (Int32 ⊕ Int64)))) (Q := fun x (v : Int32 ⊕ Int64) => (∀ w, v = .inl w → Cond.constant "ClothWithManModel" x w ∈ lw_tbl) ∧ (∀ w, v = .inr w → Cond.constantLong "ClothWithManModel" x w ∈ lw_tbl)) fcN x
    exact ⟨fun w h => (hh _ h).1 w rfl, fun w h => (hh _ h).2 w rfl⟩
  · exact fun x en h => mLook_all (Q := fun x en => mLink "ClothWithManModel" x en ∧ mCtr l en ∧ (en.1.1 = 2 → en.2.2.2.2.2.2 = none)) fcN x en h
  · exact fun x kd h => mLook_all (Q := fun x kd => (kd = 95 ∧ Cond.fieldLink "ClothWithManModel" x "ClothWithMan" "LIKENESSES" "[I" ∈ lw_tbl) ∨ (kd = 96 ∧ Cond.fieldLink "ClothWithManModel" x "ClothWithMan" "APART_BOUNDS" "[I" ∈ lw_tbl)) fcN x kd h
  · exact fun x ci h => mLook_all (Q := fun x ci => ci ≠ 0 ∧ ∃ (C : String) (T : u_T) (N : Nat), mCl[ci]? = some (C, T, N) ∧ Cond.classLink "ClothWithManModel" x C ∈ lw_tbl ∧ Cond.instantiable C N ∈ lw_tbl) fcN x ci h
set_option maxRecDepth 100000 in
theorem c_M_begin (l : Launch) : mCtr l E_M_begin := mCtr_of (P := P_M_begin) (own := "ClothWithManModel") mLay_ok rfl (by decide +kernel) rfl (ok_M_begin l) (fun h => by cases h) (fun as σ pr rv σ' hF hpr hlv => by
  unfold E_M_begin S_M_begin at hF
  simp only [] at hF
  split at hF
  · cases hF
    obtain ⟨n, pcF, c1, s1, g1, g2, g3, g4⟩ := mF_inv (d_M_begin _ σ)
    exact ⟨Nat.le_of_ble_eq_true rfl, (fun v h => by cases h), n, pcF, c1, s1, g1, mEnd_of (i := .return_) (P := P_M_begin) (rets := [28]) rfl g2, g3, g4⟩
  · cases hF
    exact (hpr _ rfl).elim)
/-! ClothWithManModel.here()I -/
noncomputable def v_M_here  (σ : MSto) : Int32 := (if (gI σ 13 0 53) ≤ (gI σ 13 0 55) then (-1) else (if (gI σ 13 0 54) ≤ (gI σ 13 0 55) then (-1) else (gI σ 77 0 (Int32.toNatClampNeg (gI σ 13 0 55)))))
def p_M_here  (σ : MSto) : Prop := (¬ ((gI σ 13 0 53) ≤ (gI σ 13 0 55)) → (¬ ((gI σ 13 0 54) ≤ (gI σ 13 0 55)) → (vp_in (gI σ 13 0 55) 80)))
noncomputable def S_M_here : List MV → MSto → Option Prop × Option MV × MSto := fun as σ => match as with
  | [.inr (.inr (some (13, 0)))] => (some (p_M_here σ), some (mI (v_M_here σ)), σ)
  | _ => (some False, none, σ)
noncomputable def E_M_here : MEnt := ((1, 0, 13), (0, 0, 0, 0), S_M_here, ((⟨"ClothWithManModel", "here", "()I"⟩ : MethodName), prog_14_method_15_code, 1, (some .int)))

def T_M_here : Nat → Option (Instr × Nat × List Nat) := fun k => bif Nat.blt k 36 then (bif Nat.blt k 19 then (bif Nat.blt k 8 then (bif Nat.blt k 4 then (bif Nat.blt k 1 then (bif Nat.beq k 0 then some (.aload_n 0, 1, []) else none) else (bif Nat.beq k 1 then some (.getfield 200, 4, []) else none)) else (bif Nat.blt k 5 then (bif Nat.beq k 4 then some (.aload_n 0, 5, []) else none) else (bif Nat.beq k 5 then some (.getfield 194, 8, []) else none))) else (bif Nat.blt k 12 then (bif Nat.blt k 11 then (bif Nat.beq k 8 then some (.if_icmp .ge 26, 11, [34]) else none) else (bif Nat.beq k 11 then some (.aload_n 0, 12, []) else none)) else (bif Nat.blt k 15 then (bif Nat.beq k 12 then some (.getfield 200, 15, []) else none) else (bif Nat.blt k 16 then (bif Nat.beq k 15 then some (.aload_n 0, 16, []) else none) else (bif Nat.beq k 16 then some (.getfield 197, 19, []) else none))))) else (bif Nat.blt k 27 then (bif Nat.blt k 23 then (bif Nat.blt k 22 then (bif Nat.beq k 19 then some (.if_icmp .ge 15, 22, [34]) else none) else (bif Nat.beq k 22 then some (.aload_n 0, 23, []) else none)) else (bif Nat.blt k 26 then (bif Nat.beq k 23 then some (.getfield 129, 26, []) else none) else (bif Nat.beq k 26 then some (.aload_n 0, 27, []) else none))) else (bif Nat.blt k 31 then (bif Nat.blt k 30 then (bif Nat.beq k 27 then some (.getfield 200, 30, []) else none) else (bif Nat.beq k 30 then some (.baload, 31, []) else none)) else (bif Nat.blt k 34 then (bif Nat.beq k 31 then some (.goto 4, 34, [35]) else none) else (bif Nat.blt k 35 then (bif Nat.beq k 34 then some (.iconst (-1), 35, []) else none) else (bif Nat.beq k 35 then some (.ireturn, 36, []) else none)))))) else none
noncomputable def P_M_here : MP := (T_M_here, (fun k => mLook k [(129, (13, 48, (.array .byte), true)), (194, (13, 53, .int, false)), (197, (13, 54, .int, false)), (200, (13, 55, .int, false))]), (fun k => mLook k []), (fun k => mLook k []), (fun k => mLook k []), (fun k => mLook k []), (fun k => mLook k []), (fun k => mLook k []), (fun k => [35].any (Nat.beq k)), (0, 0, 0, 0), false, (fun _ => none))
set_option maxRecDepth 100000 in
set_option maxHeartbeats 4000000 in
theorem q_M_here_e  (σ : MSto) (n : Nat) : mexe KT P_M_here (n + 1) (0, [some (mR 13 0)], [], σ, 0, 0) = mIf ((gI σ 13 0 53) ≤ (gI σ 13 0 55)) (some (35, [], [(mI (-1))], σ, 0, 0)) (mIf ((gI σ 13 0 54) ≤ (gI σ 13 0 55)) (some (35, [], [(mI (-1))], σ, 0, 0)) (mG (vp_in (gI σ 13 0 55) 80) (some (35, [], [(mI (gI σ 77 0 (Int32.toNatClampNeg (gI σ 13 0 55))))], σ, 0, 0)))) := rfl
set_option maxRecDepth 100000 in
set_option maxHeartbeats 4000000 in
theorem d_M_here  (σ : MSto) (hp : p_M_here σ) : mW1 P_M_here (0, [some (mR 13 0)], [], σ, 0, 0) (mF [35] [mI (v_M_here σ)] σ 0 0) := by
  refine mW1_eq (q_M_here_e  _) ?_
  unfold p_M_here at hp
  refine mTr_if (fun h0 => ?_) (fun h0 => ?_)
  · skip
    exact mTr_e (by decide) (congrArg (fun z => [mI z]) (Eq.symm (if_pos h0))) rfl (by decide) (by decide)
  · skip
    have hp := hp h0
    refine mTr_if (fun h1 => ?_) (fun h1 => ?_)
    · skip
      exact mTr_e (by decide) (congrArg (fun z => [mI z]) (Eq.symm ((if_neg h0).trans (if_pos h1)))) rfl (by decide) (by decide)
    · skip
      have hp := hp h1
      refine mTr_g hp ?_
      exact mTr_e (by decide) (congrArg (fun z => [mI z]) (Eq.symm ((if_neg h0).trans (if_neg h1)))) rfl (by decide) (by decide)
theorem tk_M_here : ∀ pc i nx tg, T_M_here pc = some (i, nx, tg) → mOkB prog_14_method_15_code pc i nx tg = true := code_ok (N := 36) (fun k h => by unfold T_M_here; rw [h]; rfl) (by decide +kernel)
theorem ok_M_here (l : Launch) : mPOK l "ClothWithManModel" prog_14_method_15_code P_M_here := by
  refine ⟨tk_M_here, ?_, ?_, ?_, (fun pc i nx tg kd _ h => by cases h), ?_, ?_, fun pc en h => by cases h⟩
  · intro x ci f ty fin h
    exact mLook_all (Q := fun x v => mFOK "ClothWithManModel" x v.1 v.2.1 v.2.2.1 v.2.2.2 ∧ (v.2.2.2 = true → pIni P_M_here = true → (Cond.fieldLink "ClothWithManModel" x (((mCl[v.1]?).getD ("", fun _ => ("", "", "", false), 0)).2.1 v.2.1).1 (((mCl[v.1]?).getD ("", fun _ => ("", "", "", false), 0)).2.1 v.2.1).2.1 (((mCl[v.1]?).getD ("", fun _ => ("", "", "", false), 0)).2.1 v.2.1).2.2.1 ∈ lw_tbl ∧ (((mCl[v.1]?).getD ("", fun _ => ("", "", "", false), 0)).2.1 v.2.1).1 = "ClothWithManModel"))) (fcC ⟨fo_M_129, fun h1 h2 => by cases h2⟩ (fcC ⟨fo_M_194, fun h1 h2 => by cases h1⟩ (fcC ⟨fo_M_197, fun h1 h2 => by cases h1⟩ (fcC ⟨fo_M_200, fun h1 h2 => by cases h1⟩ fcN)))) x (ci, f, ty, fin) h
  · intro x
    have hh := mLook_all (l := ([] : List (Nat × (Int32 ⊕ Int64)))) (Q := fun x (v : Int32 ⊕ Int64) => (∀ w, v = .inl w → Cond.constant "ClothWithManModel" x w ∈ lw_tbl) ∧ (∀ w, v = .inr w → Cond.constantLong "ClothWithManModel" x w ∈ lw_tbl)) fcN x
    exact ⟨fun w h => (hh _ h).1 w rfl, fun w h => (hh _ h).2 w rfl⟩
  · exact fun x en h => mLook_all (Q := fun x en => mLink "ClothWithManModel" x en ∧ mCtr l en ∧ (en.1.1 = 2 → en.2.2.2.2.2.2 = none)) fcN x en h
  · exact fun x kd h => mLook_all (Q := fun x kd => (kd = 95 ∧ Cond.fieldLink "ClothWithManModel" x "ClothWithMan" "LIKENESSES" "[I" ∈ lw_tbl) ∨ (kd = 96 ∧ Cond.fieldLink "ClothWithManModel" x "ClothWithMan" "APART_BOUNDS" "[I" ∈ lw_tbl)) fcN x kd h
  · exact fun x ci h => mLook_all (Q := fun x ci => ci ≠ 0 ∧ ∃ (C : String) (T : u_T) (N : Nat), mCl[ci]? = some (C, T, N) ∧ Cond.classLink "ClothWithManModel" x C ∈ lw_tbl ∧ Cond.instantiable C N ∈ lw_tbl) fcN x ci h
set_option maxRecDepth 100000 in
theorem c_M_here (l : Launch) : mCtr l E_M_here := mCtr_of (P := P_M_here) (own := "ClothWithManModel") mLay_ok rfl (by decide +kernel) rfl (ok_M_here l) (fun h => by cases h) (fun as σ pr rv σ' hF hpr hlv => by
  unfold E_M_here S_M_here at hF
  simp only [] at hF
  split at hF
  · cases hF
    obtain ⟨n, pcF, c1, s1, g1, g2, g3, g4⟩ := mF_inv (d_M_here σ (hpr _ rfl))
    exact ⟨Nat.le_of_ble_eq_true rfl, (fun v h => by cases h; trivial), n, pcF, c1, s1, g1, ⟨mEnd_of (i := .ireturn) (P := P_M_here) (rets := [35]) rfl g2, rfl⟩, g3, g4⟩
  · cases hF
    exact (hpr _ rfl).elim)
/-! ClothWithManModel.passes(C)Z -/
def b_M_passes (a1 : Int32) (σ : MSto) : Prop := (if (gI σ 13 0 56) = (-1) then (if (v_M_here σ) = a1 then True else False) else False)
noncomputable def v_M_passes (a1 : Int32) (σ : MSto) : Int32 := bI (b_M_passes a1 σ)
def p_M_passes (a1 : Int32) (σ : MSto) : Prop := (((gI σ 13 0 56) = (-1)) → (p_M_here σ))
noncomputable def e_M_passes (a1 : Int32) (σ : MSto) : MSto := (if (gI σ 13 0 56) = (-1) then (if (v_M_here σ) = a1 then (sI σ 13 0 55 ((gI σ 13 0 55) + 1)) else σ) else σ)
noncomputable def S_M_passes : List MV → MSto → Option Prop × Option MV × MSto := fun as σ => match as with
  | [.inr (.inr (some (13, 0))), .inl a0] => (some (p_M_passes a0 σ), some (mI (v_M_passes a0 σ)), e_M_passes a0 σ)
  | _ => (some False, none, σ)
noncomputable def E_M_passes : MEnt := ((1, 1, 13), (1, 20, 0, 0), S_M_passes, ((⟨"ClothWithManModel", "passes", "(C)Z"⟩ : MethodName), prog_14_method_16_code, 2, (some .boolean)))

def T_M_passes : Nat → Option (Instr × Nat × List Nat) := fun k => bif Nat.blt k 30 then (bif Nat.blt k 17 then (bif Nat.blt k 8 then (bif Nat.blt k 4 then (bif Nat.blt k 1 then (bif Nat.beq k 0 then some (.aload_n 0, 1, []) else none) else (bif Nat.beq k 1 then some (.getfield 203, 4, []) else none)) else (bif Nat.blt k 5 then (bif Nat.beq k 4 then some (.iconst (-1), 5, []) else none) else (bif Nat.beq k 5 then some (.if_icmp .ne 11, 8, [16]) else none))) else (bif Nat.blt k 12 then (bif Nat.blt k 9 then (bif Nat.beq k 8 then some (.aload_n 0, 9, []) else none) else (bif Nat.beq k 9 then some (.invokevirtual 206, 12, []) else none)) else (bif Nat.blt k 13 then (bif Nat.beq k 12 then some (.iload_n 1, 13, []) else none) else (bif Nat.blt k 16 then (bif Nat.beq k 13 then some (.if_icmp .eq 5, 16, [18]) else none) else (bif Nat.beq k 16 then some (.iconst 0, 17, []) else none))))) else (bif Nat.blt k 23 then (bif Nat.blt k 19 then (bif Nat.blt k 18 then (bif Nat.beq k 17 then some (.ireturn, 18, []) else none) else (bif Nat.beq k 18 then some (.aload_n 0, 19, []) else none)) else (bif Nat.blt k 20 then (bif Nat.beq k 19 then some (.dup, 20, []) else none) else (bif Nat.beq k 20 then some (.getfield 200, 23, []) else none))) else (bif Nat.blt k 25 then (bif Nat.blt k 24 then (bif Nat.beq k 23 then some (.iconst 1, 24, []) else none) else (bif Nat.beq k 24 then some (.iadd, 25, []) else none)) else (bif Nat.blt k 28 then (bif Nat.beq k 25 then some (.putfield 200, 28, []) else none) else (bif Nat.blt k 29 then (bif Nat.beq k 28 then some (.iconst 1, 29, []) else none) else (bif Nat.beq k 29 then some (.ireturn, 30, []) else none)))))) else none
noncomputable def P_M_passes : MP := (T_M_passes, (fun k => mLook k [(200, (13, 55, .int, false)), (203, (13, 56, .int, false))]), (fun k => mLook k []), (fun k => mLook k [(206, E_M_here)]), (fun k => mLook k []), (fun k => mLook k []), (fun k => mLook k []), (fun k => mLook k []), (fun k => [17, 29].any (Nat.beq k)), (1, 20, 0, 0), false, (fun _ => none))
set_option maxRecDepth 100000 in
set_option maxHeartbeats 4000000 in
theorem q_M_passes_e (a1 : Int32) (σ : MSto) (n : Nat) : mexe KT P_M_passes (n + 1) (0, [some (mR 13 0), some (mI a1)], [], σ, 0, 0) = mIf ((gI σ 13 0 56) = (-1)) (mG (p_M_here σ) (mIf ((v_M_here σ) = a1) (some (29, [], [(mI 1)], (sI σ 13 0 55 ((gI σ 13 0 55) + 1)), 0, 0)) (some (17, [], [(mI 0)], σ, 0, 0)))) (some (17, [], [(mI 0)], σ, 0, 0)) := rfl
set_option maxRecDepth 100000 in
set_option maxHeartbeats 4000000 in
theorem d_M_passes (a1 : Int32) (σ : MSto) (hp : p_M_passes a1 σ) : mW1 P_M_passes (0, [some (mR 13 0), some (mI a1)], [], σ, 0, 0) (mF [17, 29] [mI (v_M_passes a1 σ)] (e_M_passes a1 σ) 0 0) := by
  refine mW1_eq (q_M_passes_e _ _) ?_
  unfold p_M_passes at hp
  unfold v_M_passes
  refine mTr_if (fun h0 => ?_) (fun h0 => ?_)
  · skip
    have hp := hp h0
    refine mTr_g hp ?_
    refine mTr_if (fun h1 => ?_) (fun h1 => ?_)
    · skip
      exact mTr_e (by decide) (bI_T ((if_pos h0).trans (if_pos h1))) (Eq.symm ((if_pos h0).trans (if_pos h1))) (by decide) (by decide)
    · skip
      exact mTr_e (by decide) (bI_F ((if_pos h0).trans (if_neg h1))) (Eq.symm ((if_pos h0).trans (if_neg h1))) (by decide) (by decide)
  · skip
    exact mTr_e (by decide) (bI_F (if_neg h0)) (Eq.symm (if_neg h0)) (by decide) (by decide)
theorem li_M_206 : mLink "ClothWithManModel" 206 E_M_here := ⟨tw_6_198, tw_1_9, ⟨by decide, by decide⟩, by decide +kernel, Or.inl tw_6_195, (fun h => by cases h), (fun _ => ⟨tw_6_197, tw_0_48, TX12, 71, rfl⟩), (fun h => by cases h)⟩

theorem tk_M_passes : ∀ pc i nx tg, T_M_passes pc = some (i, nx, tg) → mOkB prog_14_method_16_code pc i nx tg = true := code_ok (N := 30) (fun k h => by unfold T_M_passes; rw [h]; rfl) (by decide +kernel)
theorem ok_M_passes (l : Launch) : mPOK l "ClothWithManModel" prog_14_method_16_code P_M_passes := by
  refine ⟨tk_M_passes, ?_, ?_, ?_, (fun pc i nx tg kd _ h => by cases h), ?_, ?_, fun pc en h => by cases h⟩
  · intro x ci f ty fin h
    exact mLook_all (Q := fun x v => mFOK "ClothWithManModel" x v.1 v.2.1 v.2.2.1 v.2.2.2 ∧ (v.2.2.2 = true → pIni P_M_passes = true → (Cond.fieldLink "ClothWithManModel" x (((mCl[v.1]?).getD ("", fun _ => ("", "", "", false), 0)).2.1 v.2.1).1 (((mCl[v.1]?).getD ("", fun _ => ("", "", "", false), 0)).2.1 v.2.1).2.1 (((mCl[v.1]?).getD ("", fun _ => ("", "", "", false), 0)).2.1 v.2.1).2.2.1 ∈ lw_tbl ∧ (((mCl[v.1]?).getD ("", fun _ => ("", "", "", false), 0)).2.1 v.2.1).1 = "ClothWithManModel"))) (fcC ⟨fo_M_200, fun h1 h2 => by cases h1⟩ (fcC ⟨fo_M_203, fun h1 h2 => by cases h1⟩ fcN)) x (ci, f, ty, fin) h
  · intro x
    have hh := mLook_all (l := ([] : List (Nat × (Int32 ⊕ Int64)))) (Q := fun x (v : Int32 ⊕ Int64) => (∀ w, v = .inl w → Cond.constant "ClothWithManModel" x w ∈ lw_tbl) ∧ (∀ w, v = .inr w → Cond.constantLong "ClothWithManModel" x w ∈ lw_tbl)) fcN x
    exact ⟨fun w h => (hh _ h).1 w rfl, fun w h => (hh _ h).2 w rfl⟩
  · exact fun x en h => mLook_all (Q := fun x en => mLink "ClothWithManModel" x en ∧ mCtr l en ∧ (en.1.1 = 2 → en.2.2.2.2.2.2 = none)) (fcC ⟨li_M_206, c_M_here l, (fun h => by cases h)⟩ fcN) x en h
  · exact fun x kd h => mLook_all (Q := fun x kd => (kd = 95 ∧ Cond.fieldLink "ClothWithManModel" x "ClothWithMan" "LIKENESSES" "[I" ∈ lw_tbl) ∨ (kd = 96 ∧ Cond.fieldLink "ClothWithManModel" x "ClothWithMan" "APART_BOUNDS" "[I" ∈ lw_tbl)) fcN x kd h
  · exact fun x ci h => mLook_all (Q := fun x ci => ci ≠ 0 ∧ ∃ (C : String) (T : u_T) (N : Nat), mCl[ci]? = some (C, T, N) ∧ Cond.classLink "ClothWithManModel" x C ∈ lw_tbl ∧ Cond.instantiable C N ∈ lw_tbl) fcN x ci h
set_option maxRecDepth 100000 in
theorem c_M_passes (l : Launch) : mCtr l E_M_passes := mCtr_of (P := P_M_passes) (own := "ClothWithManModel") mLay_ok rfl (by decide +kernel) rfl (ok_M_passes l) (fun h => by cases h) (fun as σ pr rv σ' hF hpr hlv => by
  unfold E_M_passes S_M_passes at hF
  simp only [] at hF
  split at hF
  · cases hF
    obtain ⟨n, pcF, c1, s1, g1, g2, g3, g4⟩ := mF_inv (d_M_passes _ σ (hpr _ rfl))
    exact ⟨Nat.le_of_ble_eq_true rfl, (fun v h => by cases h; trivial), n, pcF, c1, s1, g1, ⟨mEnd_of (i := .ireturn) (P := P_M_passes) (rets := [17, 29]) rfl g2, bI_narrow _⟩, g3, g4⟩
  · cases hF
    exact (hpr _ rfl).elim)
/-! ClothWithManModel.fault(I)V -/
noncomputable def e_M_fault (a1 : Int32) (σ : MSto) : MSto := (if (gI σ 13 0 56) = (-1) then (sI σ 13 0 56 a1) else σ)
noncomputable def S_M_fault : List MV → MSto → Option Prop × Option MV × MSto := fun as σ => match as with
  | [.inr (.inr (some (13, 0))), .inl a0] => (none, none, e_M_fault a0 σ)
  | _ => (some False, none, σ)
noncomputable def E_M_fault : MEnt := ((1, 1, 13), (0, 0, 0, 0), S_M_fault, ((⟨"ClothWithManModel", "fault", "(I)V"⟩ : MethodName), prog_14_method_17_code, 2, none))

def T_M_fault : Nat → Option (Instr × Nat × List Nat) := fun k => bif Nat.blt k 14 then (bif Nat.blt k 8 then (bif Nat.blt k 4 then (bif Nat.blt k 1 then (bif Nat.beq k 0 then some (.aload_n 0, 1, []) else none) else (bif Nat.beq k 1 then some (.getfield 203, 4, []) else none)) else (bif Nat.blt k 5 then (bif Nat.beq k 4 then some (.iconst (-1), 5, []) else none) else (bif Nat.beq k 5 then some (.if_icmp .ne 8, 8, [13]) else none))) else (bif Nat.blt k 10 then (bif Nat.blt k 9 then (bif Nat.beq k 8 then some (.aload_n 0, 9, []) else none) else (bif Nat.beq k 9 then some (.iload_n 1, 10, []) else none)) else (bif Nat.blt k 13 then (bif Nat.beq k 10 then some (.putfield 203, 13, []) else none) else (bif Nat.beq k 13 then some (.return_, 14, []) else none)))) else none
noncomputable def P_M_fault : MP := (T_M_fault, (fun k => mLook k [(203, (13, 56, .int, false))]), (fun k => mLook k []), (fun k => mLook k []), (fun k => mLook k []), (fun k => mLook k []), (fun k => mLook k []), (fun k => mLook k []), (fun k => [13].any (Nat.beq k)), (0, 0, 0, 0), false, (fun _ => none))
set_option maxRecDepth 100000 in
set_option maxHeartbeats 4000000 in
theorem q_M_fault_e (a1 : Int32) (σ : MSto) (n : Nat) : mexe KT P_M_fault (n + 1) (0, [some (mR 13 0), some (mI a1)], [], σ, 0, 0) = mIf ((gI σ 13 0 56) = (-1)) (some (13, [], [], (sI σ 13 0 56 a1), 0, 0)) (some (13, [], [], σ, 0, 0)) := rfl
set_option maxRecDepth 100000 in
set_option maxHeartbeats 4000000 in
theorem d_M_fault (a1 : Int32) (σ : MSto) : mW1 P_M_fault (0, [some (mR 13 0), some (mI a1)], [], σ, 0, 0) (mF [13] [] (e_M_fault a1 σ) 0 0) := by
  refine mW1_eq (q_M_fault_e _ _) ?_
  refine mTr_if (fun h0 => ?_) (fun h0 => ?_)
  · skip
    exact mTr_e (by decide) rfl (Eq.symm (if_pos h0)) (by decide) (by decide)
  · skip
    exact mTr_e (by decide) rfl (Eq.symm (if_neg h0)) (by decide) (by decide)
theorem tk_M_fault : ∀ pc i nx tg, T_M_fault pc = some (i, nx, tg) → mOkB prog_14_method_17_code pc i nx tg = true := code_ok (N := 14) (fun k h => by unfold T_M_fault; rw [h]; rfl) (by decide +kernel)
theorem ok_M_fault (l : Launch) : mPOK l "ClothWithManModel" prog_14_method_17_code P_M_fault := by
  refine ⟨tk_M_fault, ?_, ?_, ?_, (fun pc i nx tg kd _ h => by cases h), ?_, ?_, fun pc en h => by cases h⟩
  · intro x ci f ty fin h
    exact mLook_all (Q := fun x v => mFOK "ClothWithManModel" x v.1 v.2.1 v.2.2.1 v.2.2.2 ∧ (v.2.2.2 = true → pIni P_M_fault = true → (Cond.fieldLink "ClothWithManModel" x (((mCl[v.1]?).getD ("", fun _ => ("", "", "", false), 0)).2.1 v.2.1).1 (((mCl[v.1]?).getD ("", fun _ => ("", "", "", false), 0)).2.1 v.2.1).2.1 (((mCl[v.1]?).getD ("", fun _ => ("", "", "", false), 0)).2.1 v.2.1).2.2.1 ∈ lw_tbl ∧ (((mCl[v.1]?).getD ("", fun _ => ("", "", "", false), 0)).2.1 v.2.1).1 = "ClothWithManModel"))) (fcC ⟨fo_M_203, fun h1 h2 => by cases h1⟩ fcN) x (ci, f, ty, fin) h
  · intro x
    have hh := mLook_all (l := ([] : List (Nat × (Int32 ⊕ Int64)))) (Q := fun x (v : Int32 ⊕ Int64) => (∀ w, v = .inl w → Cond.constant "ClothWithManModel" x w ∈ lw_tbl) ∧ (∀ w, v = .inr w → Cond.constantLong "ClothWithManModel" x w ∈ lw_tbl)) fcN x
    exact ⟨fun w h => (hh _ h).1 w rfl, fun w h => (hh _ h).2 w rfl⟩
  · exact fun x en h => mLook_all (Q := fun x en => mLink "ClothWithManModel" x en ∧ mCtr l en ∧ (en.1.1 = 2 → en.2.2.2.2.2.2 = none)) fcN x en h
  · exact fun x kd h => mLook_all (Q := fun x kd => (kd = 95 ∧ Cond.fieldLink "ClothWithManModel" x "ClothWithMan" "LIKENESSES" "[I" ∈ lw_tbl) ∨ (kd = 96 ∧ Cond.fieldLink "ClothWithManModel" x "ClothWithMan" "APART_BOUNDS" "[I" ∈ lw_tbl)) fcN x kd h
  · exact fun x ci h => mLook_all (Q := fun x ci => ci ≠ 0 ∧ ∃ (C : String) (T : u_T) (N : Nat), mCl[ci]? = some (C, T, N) ∧ Cond.classLink "ClothWithManModel" x C ∈ lw_tbl ∧ Cond.instantiable C N ∈ lw_tbl) fcN x ci h
set_option maxRecDepth 100000 in
theorem c_M_fault (l : Launch) : mCtr l E_M_fault := mCtr_of (P := P_M_fault) (own := "ClothWithManModel") mLay_ok rfl (by decide +kernel) rfl (ok_M_fault l) (fun h => by cases h) (fun as σ pr rv σ' hF hpr hlv => by
  unfold E_M_fault S_M_fault at hF
  simp only [] at hF
  split at hF
  · cases hF
    obtain ⟨n, pcF, c1, s1, g1, g2, g3, g4⟩ := mF_inv (d_M_fault _ σ)
    exact ⟨Nat.le_of_ble_eq_true rfl, (fun v h => by cases h), n, pcF, c1, s1, g1, mEnd_of (i := .return_) (P := P_M_fault) (rets := [13]) rfl g2, g3, g4⟩
  · cases hF
    exact (hpr _ rfl).elim)
/-! ClothWithManModel.need(C)V -/
def p_M_need (a1 : Int32) (σ : MSto) : Prop := (p_M_passes a1 σ)
noncomputable def e_M_need (a1 : Int32) (σ : MSto) : MSto := (if (v_M_passes a1 σ) = 0 then (e_M_fault (gI (e_M_passes a1 σ) 13 0 55) (e_M_passes a1 σ)) else (e_M_passes a1 σ))
noncomputable def S_M_need : List MV → MSto → Option Prop × Option MV × MSto := fun as σ => match as with
  | [.inr (.inr (some (13, 0))), .inl a0] => (some (p_M_need a0 σ), none, e_M_need a0 σ)
  | _ => (some False, none, σ)
noncomputable def E_M_need : MEnt := ((1, 1, 13), (2, 41, 0, 0), S_M_need, ((⟨"ClothWithManModel", "need", "(C)V"⟩ : MethodName), prog_14_method_18_code, 2, none))

def T_M_need : Nat → Option (Instr × Nat × List Nat) := fun k => bif Nat.blt k 17 then (bif Nat.blt k 8 then (bif Nat.blt k 2 then (bif Nat.blt k 1 then (bif Nat.beq k 0 then some (.aload_n 0, 1, []) else none) else (bif Nat.beq k 1 then some (.iload_n 1, 2, []) else none)) else (bif Nat.blt k 5 then (bif Nat.beq k 2 then some (.invokevirtual 210, 5, []) else none) else (bif Nat.beq k 5 then some (.ifCond .ne 11, 8, [16]) else none))) else (bif Nat.blt k 10 then (bif Nat.blt k 9 then (bif Nat.beq k 8 then some (.aload_n 0, 9, []) else none) else (bif Nat.beq k 9 then some (.aload_n 0, 10, []) else none)) else (bif Nat.blt k 13 then (bif Nat.beq k 10 then some (.getfield 200, 13, []) else none) else (bif Nat.blt k 16 then (bif Nat.beq k 13 then some (.invokevirtual 214, 16, []) else none) else (bif Nat.beq k 16 then some (.return_, 17, []) else none))))) else none
noncomputable def P_M_need : MP := (T_M_need, (fun k => mLook k [(200, (13, 55, .int, false))]), (fun k => mLook k []), (fun k => mLook k [(210, E_M_passes), (214, E_M_fault)]), (fun k => mLook k []), (fun k => mLook k []), (fun k => mLook k []), (fun k => mLook k []), (fun k => [16].any (Nat.beq k)), (2, 41, 0, 0), false, (fun _ => none))
set_option maxRecDepth 100000 in
set_option maxHeartbeats 4000000 in
theorem q_M_need_e (a1 : Int32) (σ : MSto) (n : Nat) : mexe KT P_M_need (n + 1) (0, [some (mR 13 0), some (mI a1)], [], σ, 0, 0) = mG (p_M_passes a1 σ) (mIf ((v_M_passes a1 σ) = 0) (some (16, [], [], (e_M_fault (gI (e_M_passes a1 σ) 13 0 55) (e_M_passes a1 σ)), 0, 0)) (some (16, [], [], (e_M_passes a1 σ), 0, 0))) := rfl
set_option maxRecDepth 100000 in
set_option maxHeartbeats 4000000 in
theorem d_M_need (a1 : Int32) (σ : MSto) (hp : p_M_need a1 σ) : mW1 P_M_need (0, [some (mR 13 0), some (mI a1)], [], σ, 0, 0) (mF [16] [] (e_M_need a1 σ) 0 0) := by
  refine mW1_eq (q_M_need_e _ _) ?_
  unfold p_M_need at hp
  refine mTr_g hp ?_
  refine mTr_if (fun h0 => ?_) (fun h0 => ?_)
  · skip
    exact mTr_e (by decide) rfl (Eq.symm (if_pos h0)) (by decide) (by decide)
  · skip
    exact mTr_e (by decide) rfl (Eq.symm (if_neg h0)) (by decide) (by decide)
theorem li_M_214 : mLink "ClothWithManModel" 214 E_M_fault := ⟨tw_6_202, tw_1_9, ⟨by decide, by decide⟩, by decide +kernel, Or.inl tw_6_199, (fun h => by cases h), (fun _ => ⟨tw_6_201, tw_0_49, TX12, 71, rfl⟩), (fun h => by cases h)⟩

theorem li_M_210 : mLink "ClothWithManModel" 210 E_M_passes := ⟨tw_6_210, tw_1_9, ⟨by decide, by decide⟩, by decide +kernel, Or.inl tw_6_207, (fun h => by cases h), (fun _ => ⟨tw_6_209, tw_0_51, TX12, 71, rfl⟩), (fun h => by cases h)⟩

theorem tk_M_need : ∀ pc i nx tg, T_M_need pc = some (i, nx, tg) → mOkB prog_14_method_18_code pc i nx tg = true := code_ok (N := 17) (fun k h => by unfold T_M_need; rw [h]; rfl) (by decide +kernel)
theorem ok_M_need (l : Launch) : mPOK l "ClothWithManModel" prog_14_method_18_code P_M_need := by
  refine ⟨tk_M_need, ?_, ?_, ?_, (fun pc i nx tg kd _ h => by cases h), ?_, ?_, fun pc en h => by cases h⟩
  · intro x ci f ty fin h
    exact mLook_all (Q := fun x v => mFOK "ClothWithManModel" x v.1 v.2.1 v.2.2.1 v.2.2.2 ∧ (v.2.2.2 = true → pIni P_M_need = true → (Cond.fieldLink "ClothWithManModel" x (((mCl[v.1]?).getD ("", fun _ => ("", "", "", false), 0)).2.1 v.2.1).1 (((mCl[v.1]?).getD ("", fun _ => ("", "", "", false), 0)).2.1 v.2.1).2.1 (((mCl[v.1]?).getD ("", fun _ => ("", "", "", false), 0)).2.1 v.2.1).2.2.1 ∈ lw_tbl ∧ (((mCl[v.1]?).getD ("", fun _ => ("", "", "", false), 0)).2.1 v.2.1).1 = "ClothWithManModel"))) (fcC ⟨fo_M_200, fun h1 h2 => by cases h1⟩ fcN) x (ci, f, ty, fin) h
  · intro x
    have hh := mLook_all (l := ([] : List (Nat × (Int32 ⊕ Int64)))) (Q := fun x (v : Int32 ⊕ Int64) => (∀ w, v = .inl w → Cond.constant "ClothWithManModel" x w ∈ lw_tbl) ∧ (∀ w, v = .inr w → Cond.constantLong "ClothWithManModel" x w ∈ lw_tbl)) fcN x
    exact ⟨fun w h => (hh _ h).1 w rfl, fun w h => (hh _ h).2 w rfl⟩
  · exact fun x en h => mLook_all (Q := fun x en => mLink "ClothWithManModel" x en ∧ mCtr l en ∧ (en.1.1 = 2 → en.2.2.2.2.2.2 = none)) (fcC ⟨li_M_210, c_M_passes l, (fun h => by cases h)⟩ (fcC ⟨li_M_214, c_M_fault l, (fun h => by cases h)⟩ fcN)) x en h
  · exact fun x kd h => mLook_all (Q := fun x kd => (kd = 95 ∧ Cond.fieldLink "ClothWithManModel" x "ClothWithMan" "LIKENESSES" "[I" ∈ lw_tbl) ∨ (kd = 96 ∧ Cond.fieldLink "ClothWithManModel" x "ClothWithMan" "APART_BOUNDS" "[I" ∈ lw_tbl)) fcN x kd h
  · exact fun x ci h => mLook_all (Q := fun x ci => ci ≠ 0 ∧ ∃ (C : String) (T : u_T) (N : Nat), mCl[ci]? = some (C, T, N) ∧ Cond.classLink "ClothWithManModel" x C ∈ lw_tbl ∧ Cond.instantiable C N ∈ lw_tbl) fcN x ci h
set_option maxRecDepth 100000 in
theorem c_M_need (l : Launch) : mCtr l E_M_need := mCtr_of (P := P_M_need) (own := "ClothWithManModel") mLay_ok rfl (by decide +kernel) rfl (ok_M_need l) (fun h => by cases h) (fun as σ pr rv σ' hF hpr hlv => by
  unfold E_M_need S_M_need at hF
  simp only [] at hF
  split at hF
  · cases hF
    obtain ⟨n, pcF, c1, s1, g1, g2, g3, g4⟩ := mF_inv (d_M_need _ σ (hpr _ rfl))
    exact ⟨Nat.le_of_ble_eq_true rfl, (fun v h => by cases h), n, pcF, c1, s1, g1, mEnd_of (i := .return_) (P := P_M_need) (rets := [16]) rfl g2, g3, g4⟩
  · cases hF
    exact (hpr _ rfl).elim)
/-! ClothWithManModel.areCounted(III)Z -/
def b_M_areCounted (a1 : Int32) (a2 : Int32) (a3 : Int32) (σ : MSto) : Prop := (if a1 ≤ 0 then False else (if (a1 &&& ((gI σ 13 0 15) ^^^ (-1))) = 0 then (if (v_M_in (v_In_bitCount a1 σ) a2 a3 σ) = 0 then False else True) else False))
noncomputable def v_M_areCounted (a1 : Int32) (a2 : Int32) (a3 : Int32) (σ : MSto) : Int32 := bI (b_M_areCounted a1 a2 a3 σ)
noncomputable def S_M_areCounted : List MV → MSto → Option Prop × Option MV × MSto := fun as σ => match as with
  | [.inr (.inr (some (13, 0))), .inl a0, .inl a1, .inl a2] => (none, some (mI (v_M_areCounted a0 a1 a2 σ)), σ)
  | _ => (some False, none, σ)
noncomputable def E_M_areCounted : MEnt := ((1, 3, 13), (1, 22, 0, 0), S_M_areCounted, ((⟨"ClothWithManModel", "areCounted", "(III)Z"⟩ : MethodName), prog_14_method_46_code, 4, (some .boolean)))

def T_M_areCounted : Nat → Option (Instr × Nat × List Nat) := fun k => bif Nat.blt k 33 then (bif Nat.blt k 15 then (bif Nat.blt k 6 then (bif Nat.blt k 4 then (bif Nat.blt k 1 then (bif Nat.beq k 0 then some (.iload_n 1, 1, []) else none) else (bif Nat.beq k 1 then some (.ifCond .le 30, 4, [31]) else none)) else (bif Nat.blt k 5 then (bif Nat.beq k 4 then some (.iload_n 1, 5, []) else none) else (bif Nat.beq k 5 then some (.aload_n 0, 6, []) else none))) else (bif Nat.blt k 10 then (bif Nat.blt k 9 then (bif Nat.beq k 6 then some (.getfield 277, 9, []) else none) else (bif Nat.beq k 9 then some (.iconst (-1), 10, []) else none)) else (bif Nat.blt k 11 then (bif Nat.beq k 10 then some (.ixor, 11, []) else none) else (bif Nat.blt k 12 then (bif Nat.beq k 11 then some (.iand, 12, []) else none) else (bif Nat.beq k 12 then some (.ifCond .ne 19, 15, [31]) else none))))) else (bif Nat.blt k 24 then (bif Nat.blt k 19 then (bif Nat.blt k 16 then (bif Nat.beq k 15 then some (.iload_n 1, 16, []) else none) else (bif Nat.beq k 16 then some (.invokestatic 296, 19, []) else none)) else (bif Nat.blt k 20 then (bif Nat.beq k 19 then some (.iload_n 2, 20, []) else none) else (bif Nat.blt k 21 then (bif Nat.beq k 20 then some (.iload_n 3, 21, []) else none) else (bif Nat.beq k 21 then some (.invokestatic 181, 24, []) else none)))) else (bif Nat.blt k 28 then (bif Nat.blt k 27 then (bif Nat.beq k 24 then some (.ifCond .eq 7, 27, [31]) else none) else (bif Nat.beq k 27 then some (.iconst 1, 28, []) else none)) else (bif Nat.blt k 31 then (bif Nat.beq k 28 then some (.goto 4, 31, [32]) else none) else (bif Nat.blt k 32 then (bif Nat.beq k 31 then some (.iconst 0, 32, []) else none) else (bif Nat.beq k 32 then some (.ireturn, 33, []) else none)))))) else none
noncomputable def P_M_areCounted : MP := (T_M_areCounted, (fun k => mLook k [(277, (13, 15, .int, false))]), (fun k => mLook k []), (fun k => mLook k [(181, E_M_in), (296, E_In_bitCount)]), (fun k => mLook k []), (fun k => mLook k []), (fun k => mLook k []), (fun k => mLook k []), (fun k => [32].any (Nat.beq k)), (1, 22, 0, 0), false, (fun _ => none))
set_option maxRecDepth 100000 in
set_option maxHeartbeats 4000000 in
theorem q_M_areCounted_e (a1 : Int32) (a2 : Int32) (a3 : Int32) (σ : MSto) (n : Nat) : mexe KT P_M_areCounted (n + 1) (0, [some (mR 13 0), some (mI a1), some (mI a2), some (mI a3)], [], σ, 0, 0) = mIf (a1 ≤ 0) (some (32, [], [(mI 0)], σ, 0, 0)) (mIf ((a1 &&& ((gI σ 13 0 15) ^^^ (-1))) = 0) (mIf ((v_M_in (v_In_bitCount a1 σ) a2 a3 σ) = 0) (some (32, [], [(mI 0)], σ, 0, 0)) (some (32, [], [(mI 1)], σ, 0, 0))) (some (32, [], [(mI 0)], σ, 0, 0))) := rfl
set_option maxRecDepth 100000 in
set_option maxHeartbeats 4000000 in
theorem d_M_areCounted (a1 : Int32) (a2 : Int32) (a3 : Int32) (σ : MSto) : mW1 P_M_areCounted (0, [some (mR 13 0), some (mI a1), some (mI a2), some (mI a3)], [], σ, 0, 0) (mF [32] [mI (v_M_areCounted a1 a2 a3 σ)] σ 0 0) := by
  refine mW1_eq (q_M_areCounted_e _ _ _ _) ?_
  unfold v_M_areCounted
  refine mTr_if (fun h0 => ?_) (fun h0 => ?_)
  · skip
    exact mTr_e (by decide) (bI_F (if_pos h0)) rfl (by decide) (by decide)
  · skip
    refine mTr_if (fun h1 => ?_) (fun h1 => ?_)
    · skip
      refine mTr_if (fun h2 => ?_) (fun h2 => ?_)
      · skip
        exact mTr_e (by decide) (bI_F ((if_neg h0).trans ((if_pos h1).trans (if_pos h2)))) rfl (by decide) (by decide)
      · skip
        exact mTr_e (by decide) (bI_T ((if_neg h0).trans ((if_pos h1).trans (if_neg h2)))) rfl (by decide) (by decide)
    · skip
      exact mTr_e (by decide) (bI_F ((if_neg h0).trans (if_neg h1))) rfl (by decide) (by decide)
theorem li_M_296 : mLink "ClothWithManModel" 296 E_In_bitCount := ⟨tw_3_104, tw_1_22, ⟨by decide, by decide⟩, by decide +kernel, Or.inl tw_7_96, (fun _ => tw_3_103), (fun h => by cases h), (fun h => by cases h)⟩


theorem tk_M_areCounted : ∀ pc i nx tg, T_M_areCounted pc = some (i, nx, tg) → mOkB prog_14_method_46_code pc i nx tg = true := code_ok (N := 33) (fun k h => by unfold T_M_areCounted; rw [h]; rfl) (by decide +kernel)
theorem ok_M_areCounted (l : Launch) : mPOK l "ClothWithManModel" prog_14_method_46_code P_M_areCounted := by
  refine ⟨tk_M_areCounted, ?_, ?_, ?_, (fun pc i nx tg kd _ h => by cases h), ?_, ?_, fun pc en h => by cases h⟩
  · intro x ci f ty fin h
    exact mLook_all (Q := fun x v => mFOK "ClothWithManModel" x v.1 v.2.1 v.2.2.1 v.2.2.2 ∧ (v.2.2.2 = true → pIni P_M_areCounted = true → (Cond.fieldLink "ClothWithManModel" x (((mCl[v.1]?).getD ("", fun _ => ("", "", "", false), 0)).2.1 v.2.1).1 (((mCl[v.1]?).getD ("", fun _ => ("", "", "", false), 0)).2.1 v.2.1).2.1 (((mCl[v.1]?).getD ("", fun _ => ("", "", "", false), 0)).2.1 v.2.1).2.2.1 ∈ lw_tbl ∧ (((mCl[v.1]?).getD ("", fun _ => ("", "", "", false), 0)).2.1 v.2.1).1 = "ClothWithManModel"))) (fcC ⟨fo_M_277, fun h1 h2 => by cases h1⟩ fcN) x (ci, f, ty, fin) h
  · intro x
    have hh := mLook_all (l := ([] : List (Nat × (Int32 ⊕ Int64)))) (Q := fun x (v : Int32 ⊕ Int64) => (∀ w, v = .inl w → Cond.constant "ClothWithManModel" x w ∈ lw_tbl) ∧ (∀ w, v = .inr w → Cond.constantLong "ClothWithManModel" x w ∈ lw_tbl)) fcN x
    exact ⟨fun w h => (hh _ h).1 w rfl, fun w h => (hh _ h).2 w rfl⟩
  · exact fun x en h => mLook_all (Q := fun x en => mLink "ClothWithManModel" x en ∧ mCtr l en ∧ (en.1.1 = 2 → en.2.2.2.2.2.2 = none)) (fcC ⟨li_M_181, c_M_in l, (fun h => by cases h)⟩ (fcC ⟨li_M_296, c_In_bitCount l, (fun h => by cases h)⟩ fcN)) x en h
  · exact fun x kd h => mLook_all (Q := fun x kd => (kd = 95 ∧ Cond.fieldLink "ClothWithManModel" x "ClothWithMan" "LIKENESSES" "[I" ∈ lw_tbl) ∨ (kd = 96 ∧ Cond.fieldLink "ClothWithManModel" x "ClothWithMan" "APART_BOUNDS" "[I" ∈ lw_tbl)) fcN x kd h
  · exact fun x ci h => mLook_all (Q := fun x ci => ci ≠ 0 ∧ ∃ (C : String) (T : u_T) (N : Nat), mCl[ci]? = some (C, T, N) ∧ Cond.classLink "ClothWithManModel" x C ∈ lw_tbl ∧ Cond.instantiable C N ∈ lw_tbl) fcN x ci h
set_option maxRecDepth 100000 in
theorem c_M_areCounted (l : Launch) : mCtr l E_M_areCounted := mCtr_of (P := P_M_areCounted) (own := "ClothWithManModel") mLay_ok rfl (by decide +kernel) rfl (ok_M_areCounted l) (fun h => by cases h) (fun as σ pr rv σ' hF hpr hlv => by
  unfold E_M_areCounted S_M_areCounted at hF
  simp only [] at hF
  split at hF
  · cases hF
    obtain ⟨n, pcF, c1, s1, g1, g2, g3, g4⟩ := mF_inv (d_M_areCounted _ _ _ σ)
    exact ⟨Nat.le_of_ble_eq_true rfl, (fun v h => by cases h; trivial), n, pcF, c1, s1, g1, ⟨mEnd_of (i := .ireturn) (P := P_M_areCounted) (rets := [32]) rfl g2, bI_narrow _⟩, g3, g4⟩
  · cases hF
    exact (hpr _ rfl).elim)
/-! ClothWithManModel.swap(II)V -/
def p_M_swap (a1 : Int32) (a2 : Int32) (σ : MSto) : Prop := ((vp_in a1 6) ∧ ((vp_in a2 6) ∧ ((vp_in a1 6) ∧ (vp_in a2 6))))
noncomputable def e_M_swap (a1 : Int32) (a2 : Int32) (σ : MSto) : MSto := (sI (sI σ 84 0 (Int32.toNatClampNeg a1) (gI σ 84 0 (Int32.toNatClampNeg a2))) 84 0 (Int32.toNatClampNeg a2) (gI σ 84 0 (Int32.toNatClampNeg a1)))
noncomputable def S_M_swap : List MV → MSto → Option Prop × Option MV × MSto := fun as σ => match as with
  | [.inr (.inr (some (13, 0))), .inl a0, .inl a1] => (some (p_M_swap a0 a1 σ), none, e_M_swap a0 a1 σ)
  | _ => (some False, none, σ)
noncomputable def E_M_swap : MEnt := ((1, 2, 13), (0, 0, 0, 0), S_M_swap, ((⟨"ClothWithManModel", "swap", "(II)V"⟩ : MethodName), prog_14_method_62_code, 4, none))

def T_M_swap : Nat → Option (Instr × Nat × List Nat) := fun k => bif Nat.blt k 27 then (bif Nat.blt k 13 then (bif Nat.blt k 6 then (bif Nat.blt k 4 then (bif Nat.blt k 1 then (bif Nat.beq k 0 then some (.aload_n 0, 1, []) else none) else (bif Nat.beq k 1 then some (.getfield 152, 4, []) else none)) else (bif Nat.blt k 5 then (bif Nat.beq k 4 then some (.iload_n 1, 5, []) else none) else (bif Nat.beq k 5 then some (.iaload, 6, []) else none))) else (bif Nat.blt k 8 then (bif Nat.blt k 7 then (bif Nat.beq k 6 then some (.istore_n 3, 7, []) else none) else (bif Nat.beq k 7 then some (.aload_n 0, 8, []) else none)) else (bif Nat.blt k 11 then (bif Nat.beq k 8 then some (.getfield 152, 11, []) else none) else (bif Nat.blt k 12 then (bif Nat.beq k 11 then some (.iload_n 1, 12, []) else none) else (bif Nat.beq k 12 then some (.aload_n 0, 13, []) else none))))) else (bif Nat.blt k 20 then (bif Nat.blt k 17 then (bif Nat.blt k 16 then (bif Nat.beq k 13 then some (.getfield 152, 16, []) else none) else (bif Nat.beq k 16 then some (.iload_n 2, 17, []) else none)) else (bif Nat.blt k 18 then (bif Nat.beq k 17 then some (.iaload, 18, []) else none) else (bif Nat.blt k 19 then (bif Nat.beq k 18 then some (.iastore, 19, []) else none) else (bif Nat.beq k 19 then some (.aload_n 0, 20, []) else none)))) else (bif Nat.blt k 24 then (bif Nat.blt k 23 then (bif Nat.beq k 20 then some (.getfield 152, 23, []) else none) else (bif Nat.beq k 23 then some (.iload_n 2, 24, []) else none)) else (bif Nat.blt k 25 then (bif Nat.beq k 24 then some (.iload_n 3, 25, []) else none) else (bif Nat.blt k 26 then (bif Nat.beq k 25 then some (.iastore, 26, []) else none) else (bif Nat.beq k 26 then some (.return_, 27, []) else none)))))) else none
noncomputable def P_M_swap : MP := (T_M_swap, (fun k => mLook k [(152, (13, 65, (.array .int), true))]), (fun k => mLook k []), (fun k => mLook k []), (fun k => mLook k []), (fun k => mLook k []), (fun k => mLook k []), (fun k => mLook k []), (fun k => [26].any (Nat.beq k)), (0, 0, 0, 0), false, (fun _ => none))
set_option maxRecDepth 100000 in
set_option maxHeartbeats 4000000 in
theorem q_M_swap_e (a1 : Int32) (a2 : Int32) (σ : MSto) (n : Nat) : mexe KT P_M_swap (n + 1) (0, [some (mR 13 0), some (mI a1), some (mI a2), none], [], σ, 0, 0) = mG (vp_in a1 6) (mG (vp_in a2 6) (mG (vp_in a1 6) (mG (vp_in a2 6) (some (26, [], [], (sI (sI σ 84 0 (Int32.toNatClampNeg a1) (gI σ 84 0 (Int32.toNatClampNeg a2))) 84 0 (Int32.toNatClampNeg a2) (gI σ 84 0 (Int32.toNatClampNeg a1))), 0, 0))))) := rfl
set_option maxRecDepth 100000 in
set_option maxHeartbeats 4000000 in
theorem d_M_swap (a1 : Int32) (a2 : Int32) (σ : MSto) (hp : p_M_swap a1 a2 σ) : mW1 P_M_swap (0, [some (mR 13 0), some (mI a1), some (mI a2), none], [], σ, 0, 0) (mF [26] [] (e_M_swap a1 a2 σ) 0 0) := by
  refine mW1_eq (q_M_swap_e _ _ _) ?_
  unfold p_M_swap at hp
  refine mTr_g hp.1 ?_
  have hp := hp.2
  refine mTr_g hp.1 ?_
  have hp := hp.2
  refine mTr_g hp.1 ?_
  have hp := hp.2
  refine mTr_g hp ?_
  exact mTr_e (by decide) rfl (Eq.symm (rfl)) (by decide) (by decide)
theorem tk_M_swap : ∀ pc i nx tg, T_M_swap pc = some (i, nx, tg) → mOkB prog_14_method_62_code pc i nx tg = true := code_ok (N := 27) (fun k h => by unfold T_M_swap; rw [h]; rfl) (by decide +kernel)
theorem ok_M_swap (l : Launch) : mPOK l "ClothWithManModel" prog_14_method_62_code P_M_swap := by
  refine ⟨tk_M_swap, ?_, ?_, ?_, (fun pc i nx tg kd _ h => by cases h), ?_, ?_, fun pc en h => by cases h⟩
  · intro x ci f ty fin h
    exact mLook_all (Q := fun x v => mFOK "ClothWithManModel" x v.1 v.2.1 v.2.2.1 v.2.2.2 ∧ (v.2.2.2 = true → pIni P_M_swap = true → (Cond.fieldLink "ClothWithManModel" x (((mCl[v.1]?).getD ("", fun _ => ("", "", "", false), 0)).2.1 v.2.1).1 (((mCl[v.1]?).getD ("", fun _ => ("", "", "", false), 0)).2.1 v.2.1).2.1 (((mCl[v.1]?).getD ("", fun _ => ("", "", "", false), 0)).2.1 v.2.1).2.2.1 ∈ lw_tbl ∧ (((mCl[v.1]?).getD ("", fun _ => ("", "", "", false), 0)).2.1 v.2.1).1 = "ClothWithManModel"))) (fcC ⟨fo_M_152, fun h1 h2 => by cases h2⟩ fcN) x (ci, f, ty, fin) h
  · intro x
    have hh := mLook_all (l := ([] : List (Nat × (Int32 ⊕ Int64)))) (Q := fun x (v : Int32 ⊕ Int64) => (∀ w, v = .inl w → Cond.constant "ClothWithManModel" x w ∈ lw_tbl) ∧ (∀ w, v = .inr w → Cond.constantLong "ClothWithManModel" x w ∈ lw_tbl)) fcN x
    exact ⟨fun w h => (hh _ h).1 w rfl, fun w h => (hh _ h).2 w rfl⟩
  · exact fun x en h => mLook_all (Q := fun x en => mLink "ClothWithManModel" x en ∧ mCtr l en ∧ (en.1.1 = 2 → en.2.2.2.2.2.2 = none)) fcN x en h
  · exact fun x kd h => mLook_all (Q := fun x kd => (kd = 95 ∧ Cond.fieldLink "ClothWithManModel" x "ClothWithMan" "LIKENESSES" "[I" ∈ lw_tbl) ∨ (kd = 96 ∧ Cond.fieldLink "ClothWithManModel" x "ClothWithMan" "APART_BOUNDS" "[I" ∈ lw_tbl)) fcN x kd h
  · exact fun x ci h => mLook_all (Q := fun x ci => ci ≠ 0 ∧ ∃ (C : String) (T : u_T) (N : Nat), mCl[ci]? = some (C, T, N) ∧ Cond.classLink "ClothWithManModel" x C ∈ lw_tbl ∧ Cond.instantiable C N ∈ lw_tbl) fcN x ci h
set_option maxRecDepth 100000 in
theorem c_M_swap (l : Launch) : mCtr l E_M_swap := mCtr_of (P := P_M_swap) (own := "ClothWithManModel") mLay_ok rfl (by decide +kernel) rfl (ok_M_swap l) (fun h => by cases h) (fun as σ pr rv σ' hF hpr hlv => by
  unfold E_M_swap S_M_swap at hF
  simp only [] at hF
  split at hF
  · cases hF
    obtain ⟨n, pcF, c1, s1, g1, g2, g3, g4⟩ := mF_inv (d_M_swap _ _ σ (hpr _ rfl))
    exact ⟨Nat.le_of_ble_eq_true rfl, (fun v h => by cases h), n, pcF, c1, s1, g1, mEnd_of (i := .return_) (P := P_M_swap) (rets := [26]) rfl g2, g3, g4⟩
  · cases hF
    exact (hpr _ rfl).elim)
theorem nI_s (i : Nat) : nI i + 1 = nI (i + 1) := nI_add i 1
theorem pI {σ : MSto} (hi : iM σ) {p : Nat} (h : p < nM σ 10) : p < 12 ∧ (nI p).toNatClampNeg = p ∧ vp_in (nI p) 12 := by
  have := hi.c.2.2.1.2
  exact ⟨by omega, nI_cl (by omega), nI_inb (by omega) (by omega)⟩
theorem pc_cleared {σ : MSto} (hi : iM σ) {p : Nat} (h : p < nM σ 10) : p_M_cleared (nI p) σ := by
  obtain ⟨h1, h2, h3⟩ := pI hi h
  refine ⟨h3, h3, ?_⟩
  rw [h2]
  exact rgI (hi.p p h).2.2.2 (by decide) rfl
theorem pc_spanOf {σ : MSto} (hi : iM σ) {p : Nat} (h : p < nM σ 10) : p_M_spanOf (nI p) σ := by
  obtain ⟨h1, h2, h3⟩ := pI hi h
  refine ⟨h3, ?_⟩
  rw [h2]
  exact rgI (hi.p p h).2.2.2 (by decide) rfl
theorem rg_nat {x a b : Int32} (h : rg x a b) (ha : 0 ≤ a) : ∃ n : Nat, x = nI n ∧ a.toInt ≤ n ∧ (n : Int) ≤ b.toInt := by
  obtain ⟨h1, h2⟩ := h
  rw [Int32.le_iff_toInt_le] at *
  have hb := b.toInt_lt
  have hx := x.toInt_lt
  have h0 : (0 : Int32).toInt = 0 := rfl
  refine ⟨x.toInt.toNat, ?_, by omega, by omega⟩
  rw [← Int32.toInt_inj, nI_toInt (by omega)]
  omega
theorem spanOf_rg {σ : MSto} (hi : iM σ) {p : Nat} (h : p < nM σ 10) : rg (v_M_spanOf (nI p) σ) 1 60 := by
  obtain ⟨h1, h2, h3⟩ := pI hi h
  unfold v_M_spanOf
  rw [h2]
  obtain ⟨n, e, g1, g2⟩ := rg_nat (hi.p p h).2.2.2 (by decide)
  have g2' : (5 : Int32).toInt = 5 := rfl
  rw [e, nI_cl (by omega)]
  exact (hi.h n (by omega)).2
theorem rg_ne0 {x : Int32} (h : rg x 1 60) : ¬ ((Int32.toInt64 x) : Int64) = 0 := by
  intro e
  have h1 := h.1
  rw [Int32.le_iff_toInt_le] at h1
  have : (Int32.toInt64 x).toInt = (0 : Int64).toInt := by rw [e]
  rw [Int32.toInt_toInt64] at this
  have h0 : (0 : Int64).toInt = 0 := rfl
  have h2 : (1 : Int32).toInt = 1 := rfl
  omega
theorem cnt_ge {σ : MSto} {f b i : Nat} (h : cM σ f b) (hb : b < 2 ^ 31) (hi : i < nM σ f) : ¬ gI σ 13 0 f ≤ nI i := by
  rw [h.1]
  exact nI_ge hi (by have := h.2; omega)
theorem cnt_le {σ : MSto} {f b : Nat} (h : cM σ f b) : gI σ 13 0 f ≤ nI (nM σ f) := by
  rw [← h.1]
  exact Int32.le_refl _
/-! ClothWithManModel.weightOf(II)J -/
noncomputable def t_M_weight (bits y : Int32) (σ : MSto) (p : Nat) (v : Int64) : Int64 := if v_M_has bits (nI p) σ = 0 then v else v * (Int32.toInt64 (v_M_likenessOf (Int32.toInt64 (v_M_cleared (nI p) σ)) (Int32.toInt64 (gI σ 41 0 y.toNatClampNeg)) (v_M_spanOf (nI p) σ) σ))
noncomputable def v_M_weightOf (bits y : Int32) (σ : MSto) : Int64 := nfold (t_M_weight bits y σ) 1 (nM σ 10)
def p_M_weightOf (bits y : Int32) (σ : MSto) : Prop := iM σ ∧ vp_in y 200
noncomputable def S_M_weightOf : List MV → MSto → Option Prop × Option MV × MSto := fun as σ => match as with
  | [.inr (.inr (some (13, 0))), .inl a0, .inl a1] => (some (p_M_weightOf a0 a1 σ), some (mJ (v_M_weightOf a0 a1 σ)), σ)
  | _ => (some False, none, σ)
noncomputable def E_M_weightOf : MEnt := ((1, 2, 13), (2, 47, 0, 0), S_M_weightOf, ((⟨"ClothWithManModel", "weightOf", "(II)J"⟩ : MethodName), prog_14_method_49_code, 6, (some .long)))

def T_M_weightOf : Nat → Option (Instr × Nat × List Nat) := fun k => bif Nat.blt k 58 then (bif Nat.blt k 30 then (bif Nat.blt k 14 then (bif Nat.blt k 5 then (bif Nat.blt k 2 then (bif Nat.blt k 1 then (bif Nat.beq k 0 then some (.lconst 1, 1, []) else none) else (bif Nat.beq k 1 then some (.lstore_n 3, 2, []) else none)) else (bif Nat.blt k 3 then (bif Nat.beq k 2 then some (.iconst 0, 3, []) else none) else (bif Nat.beq k 3 then some (.istore 5, 5, []) else none))) else (bif Nat.blt k 8 then (bif Nat.blt k 7 then (bif Nat.beq k 5 then some (.iload 5, 7, []) else none) else (bif Nat.beq k 7 then some (.aload_n 0, 8, []) else none)) else (bif Nat.blt k 11 then (bif Nat.beq k 8 then some (.getfield 185, 11, []) else none) else (bif Nat.beq k 11 then some (.if_icmp .ge 45, 14, [56]) else none)))) else (bif Nat.blt k 23 then (bif Nat.blt k 17 then (bif Nat.blt k 15 then (bif Nat.beq k 14 then some (.iload_n 1, 15, []) else none) else (bif Nat.beq k 15 then some (.iload 5, 17, []) else none)) else (bif Nat.blt k 20 then (bif Nat.beq k 17 then some (.invokestatic 301, 20, []) else none) else (bif Nat.beq k 20 then some (.ifCond .eq 30, 23, [50]) else none))) else (bif Nat.blt k 25 then (bif Nat.blt k 24 then (bif Nat.beq k 23 then some (.lload_n 3, 24, []) else none) else (bif Nat.beq k 24 then some (.aload_n 0, 25, []) else none)) else (bif Nat.blt k 27 then (bif Nat.beq k 25 then some (.iload 5, 27, []) else none) else (bif Nat.beq k 27 then some (.invokevirtual 304, 30, []) else none))))) else (bif Nat.blt k 41 then (bif Nat.blt k 36 then (bif Nat.blt k 32 then (bif Nat.blt k 31 then (bif Nat.beq k 30 then some (.i2l, 31, []) else none) else (bif Nat.beq k 31 then some (.aload_n 0, 32, []) else none)) else (bif Nat.blt k 35 then (bif Nat.beq k 32 then some (.getfield 9, 35, []) else none) else (bif Nat.beq k 35 then some (.iload_n 2, 36, []) else none))) else (bif Nat.blt k 38 then (bif Nat.blt k 37 then (bif Nat.beq k 36 then some (.iaload, 37, []) else none) else (bif Nat.beq k 37 then some (.i2l, 38, []) else none)) else (bif Nat.blt k 39 then (bif Nat.beq k 38 then some (.aload_n 0, 39, []) else none) else (bif Nat.beq k 39 then some (.iload 5, 41, []) else none)))) else (bif Nat.blt k 49 then (bif Nat.blt k 47 then (bif Nat.blt k 44 then (bif Nat.beq k 41 then some (.invokevirtual 285, 44, []) else none) else (bif Nat.beq k 44 then some (.invokestatic 292, 47, []) else none)) else (bif Nat.blt k 48 then (bif Nat.beq k 47 then some (.i2l, 48, []) else none) else (bif Nat.beq k 48 then some (.lmul, 49, []) else none))) else (bif Nat.blt k 53 then (bif Nat.blt k 50 then (bif Nat.beq k 49 then some (.lstore_n 3, 50, []) else none) else (bif Nat.beq k 50 then some (.iinc 5 1, 53, []) else none)) else (bif Nat.blt k 56 then (bif Nat.beq k 53 then some (.goto (-48), 56, [5]) else none) else (bif Nat.blt k 57 then (bif Nat.beq k 56 then some (.lload_n 3, 57, []) else none) else (bif Nat.beq k 57 then some (.lreturn, 58, []) else none))))))) else none
noncomputable def P_M_weightOf : MP := (T_M_weightOf, (fun k => mLook k [(9, (13, 0, (.array .int), true)), (185, (13, 10, .int, false))]), (fun k => mLook k []), (fun k => mLook k [(285, E_M_spanOf), (292, E_M_likenessOf), (301, E_M_has), (304, E_M_cleared)]), (fun k => mLook k []), (fun k => mLook k []), (fun k => mLook k []), (fun k => mLook k [(5, [true, true, true, true, false, true])]), (fun k => [57].any (Nat.beq k)), (2, 47, 0, 0), false, (fun _ => none))
set_option maxRecDepth 100000 in
set_option maxHeartbeats 4000000 in
theorem q_M_weightOf_e (a1 : Int32) (a2 : Int32) (σ : MSto) (n : Nat) : mexe KT P_M_weightOf (n + 1) (0, [some (mR 13 0), some (mI a1), some (mI a2), none, none, none], [], σ, 0, 0) = mexe KT P_M_weightOf n (5, [some (mR 13 0), some (mI a1), some (mI a2), some (mJ 1), none, some (mI 0)], [], σ, 0, 0) := rfl
set_option maxRecDepth 100000 in
set_option maxHeartbeats 4000000 in
theorem q_M_weightOf_5 (x1 : Int32) (x2 : Int32) (x3 : Int64) (x5 : Int32) (σ : MSto) (n : Nat) : mexe KT P_M_weightOf (n + 1) (5, [some (mR 13 0), some (mI x1), some (mI x2), some (mJ x3), none, some (mI x5)], [], σ, 0, 0) = mIf ((gI σ 13 0 10) ≤ x5) (some (57, [], [(mJ x3)], σ, 0, 0)) (mIf ((v_M_has x1 x5 σ) = 0) (mexe KT P_M_weightOf n (5, [some (mR 13 0), some (mI x1), some (mI x2), some (mJ x3), none, some (mI (x5 + 1))], [], σ, 0, 0)) (mG (p_M_cleared x5 σ) (mG (vp_in x2 200) (mG (p_M_spanOf x5 σ) (mG (p_M_likenessOf (Int32.toInt64 (v_M_cleared x5 σ)) (Int32.toInt64 (gI σ 41 0 (Int32.toNatClampNeg x2))) (v_M_spanOf x5 σ) σ) (mexe KT P_M_weightOf n (5, [some (mR 13 0), some (mI x1), some (mI x2), some (mJ (x3 * (Int32.toInt64 (v_M_likenessOf (Int32.toInt64 (v_M_cleared x5 σ)) (Int32.toInt64 (gI σ 41 0 (Int32.toNatClampNeg x2))) (v_M_spanOf x5 σ) σ)))), none, some (mI (x5 + 1))], [], σ, 0, 0))))))) := rfl
set_option maxRecDepth 100000 in
set_option maxHeartbeats 4000000 in
theorem d_M_weightOf (a1 : Int32) (a2 : Int32) (σ : MSto) (hp : p_M_weightOf a1 a2 σ) : mW1 P_M_weightOf (0, [some (mR 13 0), some (mI a1), some (mI a2), none, none, none], [], σ, 0, 0) (mF [57] [mJ (v_M_weightOf a1 a2 σ)] σ 0 0) := by
  obtain ⟨hi, hy⟩ := hp
  have hc := hi.c.2.2.1
  refine mW1_eq (q_M_weightOf_e _ _ _) ?_
  try simp only [bI_0]
  refine mTr_k (mW1_loop (fun i => (5, [some (mR 13 0), some (mI a1), some (mI a2), some (mJ (nfold (t_M_weight a1 a2 σ) 1 i)), none, some (mI (nI i))], [], σ, 0, 0)) (nM σ 10) (fun i hlt hn => ?_) ?_)
  · refine mW1_eq (q_M_weightOf_5 _ _ _ _ _) ?_
    refine mTr_f (cnt_ge hc (by omega) hlt) ?_
    refine mTr_if (fun g => ?_) (fun g => ?_)
    · exact mTr_l hn (by rw [nI_s, nfold_s]; unfold t_M_weight; rw [if_pos g])
    · refine mTr_g (pc_cleared hi hlt) (mTr_g hy (mTr_g (pc_spanOf hi hlt) (mTr_g (rg_ne0 (spanOf_rg hi hlt)) ?_)))
      exact mTr_l hn (by rw [nI_s, nfold_s]; unfold t_M_weight; rw [if_neg g])
  · refine mW1_eq (q_M_weightOf_5 _ _ _ _ _) ?_
    refine mTr_t (cnt_le hc) ?_
    exact mTr_e (by decide) rfl rfl (by decide) (by decide)
theorem li_M_304 : mLink "ClothWithManModel" 304 E_M_cleared := ⟨tw_7_111, tw_1_9, ⟨by decide, by decide⟩, by decide +kernel, Or.inl tw_7_108, (fun h => by cases h), (fun _ => ⟨tw_7_110, tw_0_64, TX12, 71, rfl⟩), (fun h => by cases h)⟩

theorem li_M_301 : mLink "ClothWithManModel" 301 E_M_has := ⟨tw_7_107, tw_1_9, ⟨by decide, by decide⟩, by decide +kernel, Or.inl tw_7_105, (fun _ => tw_7_106), (fun h => by cases h), (fun h => by cases h)⟩



theorem tk_M_weightOf : ∀ pc i nx tg, T_M_weightOf pc = some (i, nx, tg) → mOkB prog_14_method_49_code pc i nx tg = true := code_ok (N := 58) (fun k h => by unfold T_M_weightOf; rw [h]; rfl) (by decide +kernel)
theorem ok_M_weightOf (l : Launch) : mPOK l "ClothWithManModel" prog_14_method_49_code P_M_weightOf := by
  refine ⟨tk_M_weightOf, ?_, ?_, ?_, (fun pc i nx tg kd _ h => by cases h), ?_, ?_, fun pc en h => by cases h⟩
  · intro x ci f ty fin h
    exact mLook_all (Q := fun x v => mFOK "ClothWithManModel" x v.1 v.2.1 v.2.2.1 v.2.2.2 ∧ (v.2.2.2 = true → pIni P_M_weightOf = true → (Cond.fieldLink "ClothWithManModel" x (((mCl[v.1]?).getD ("", fun _ => ("", "", "", false), 0)).2.1 v.2.1).1 (((mCl[v.1]?).getD ("", fun _ => ("", "", "", false), 0)).2.1 v.2.1).2.1 (((mCl[v.1]?).getD ("", fun _ => ("", "", "", false), 0)).2.1 v.2.1).2.2.1 ∈ lw_tbl ∧ (((mCl[v.1]?).getD ("", fun _ => ("", "", "", false), 0)).2.1 v.2.1).1 = "ClothWithManModel"))) (fcC ⟨fo_M_9, fun h1 h2 => by cases h2⟩ (fcC ⟨fo_M_185, fun h1 h2 => by cases h1⟩ fcN)) x (ci, f, ty, fin) h
  · intro x
    have hh := mLook_all (l := ([] : List (Nat × (Int32 ⊕ Int64)))) (Q := fun x (v : Int32 ⊕ Int64) => (∀ w, v = .inl w → Cond.constant "ClothWithManModel" x w ∈ lw_tbl) ∧ (∀ w, v = .inr w → Cond.constantLong "ClothWithManModel" x w ∈ lw_tbl)) fcN x
    exact ⟨fun w h => (hh _ h).1 w rfl, fun w h => (hh _ h).2 w rfl⟩
  · exact fun x en h => mLook_all (Q := fun x en => mLink "ClothWithManModel" x en ∧ mCtr l en ∧ (en.1.1 = 2 → en.2.2.2.2.2.2 = none)) (fcC ⟨li_M_285, c_M_spanOf l, (fun h => by cases h)⟩ (fcC ⟨li_M_292, c_M_likenessOf l, (fun h => by cases h)⟩ (fcC ⟨li_M_301, c_M_has l, (fun h => by cases h)⟩ (fcC ⟨li_M_304, c_M_cleared l, (fun h => by cases h)⟩ fcN)))) x en h
  · exact fun x kd h => mLook_all (Q := fun x kd => (kd = 95 ∧ Cond.fieldLink "ClothWithManModel" x "ClothWithMan" "LIKENESSES" "[I" ∈ lw_tbl) ∨ (kd = 96 ∧ Cond.fieldLink "ClothWithManModel" x "ClothWithMan" "APART_BOUNDS" "[I" ∈ lw_tbl)) fcN x kd h
  · exact fun x ci h => mLook_all (Q := fun x ci => ci ≠ 0 ∧ ∃ (C : String) (T : u_T) (N : Nat), mCl[ci]? = some (C, T, N) ∧ Cond.classLink "ClothWithManModel" x C ∈ lw_tbl ∧ Cond.instantiable C N ∈ lw_tbl) fcN x ci h
set_option maxRecDepth 100000 in
theorem c_M_weightOf (l : Launch) : mCtr l E_M_weightOf := mCtr_of (P := P_M_weightOf) (own := "ClothWithManModel") mLay_ok rfl (by decide +kernel) rfl (ok_M_weightOf l) (fun h => by cases h) (fun as σ pr rv σ' hF hpr hlv => by
  unfold E_M_weightOf S_M_weightOf at hF
  simp only [] at hF
  split at hF
  · cases hF
    obtain ⟨n, pcF, c1, s1, g1, g2, g3, g4⟩ := mF_inv (d_M_weightOf _ _ σ (hpr _ rfl))
    exact ⟨Nat.le_of_ble_eq_true rfl, (fun v h => by cases h; trivial), n, pcF, c1, s1, g1, mEnd_of (i := .lreturn) (P := P_M_weightOf) (rets := [57]) rfl g2, g3, g4⟩
  · cases hF
    exact (hpr _ rfl).elim)
/-! ClothWithManModel.spansBut(III)J -/
noncomputable def t_M_spansBut (bits a b : Int32) (σ : MSto) (p : Nat) (v : Int64) : Int64 := if v_M_has bits (nI p) σ = 0 then v else if nI p = a then v else if nI p = b then v else v * ((Int32.toInt64 (v_M_spanOf (nI p) σ)) * (Int32.toInt64 (v_M_spanOf (nI p) σ)))
noncomputable def v_M_spansBut (bits a b : Int32) (σ : MSto) : Int64 := nfold (t_M_spansBut bits a b σ) 1 (nM σ 10)
def p_M_spansBut (bits a b : Int32) (σ : MSto) : Prop := iM σ
noncomputable def S_M_spansBut : List MV → MSto → Option Prop × Option MV × MSto := fun as σ => match as with
  | [.inr (.inr (some (13, 0))), .inl a0, .inl a1, .inl a2] => (some (p_M_spansBut a0 a1 a2 σ), some (mJ (v_M_spansBut a0 a1 a2 σ)), σ)
  | _ => (some False, none, σ)
noncomputable def E_M_spansBut : MEnt := ((1, 3, 13), (1, 21, 0, 0), S_M_spansBut, ((⟨"ClothWithManModel", "spansBut", "(III)J"⟩ : MethodName), prog_14_method_55_code, 7, (some .long)))

def T_M_spansBut : Nat → Option (Instr × Nat × List Nat) := fun k => bif Nat.blt k 65 then (bif Nat.blt k 33 then (bif Nat.blt k 15 then (bif Nat.blt k 6 then (bif Nat.blt k 3 then (bif Nat.blt k 1 then (bif Nat.beq k 0 then some (.lconst 1, 1, []) else none) else (bif Nat.beq k 1 then some (.lstore 4, 3, []) else none)) else (bif Nat.blt k 4 then (bif Nat.beq k 3 then some (.iconst 0, 4, []) else none) else (bif Nat.beq k 4 then some (.istore 6, 6, []) else none))) else (bif Nat.blt k 9 then (bif Nat.blt k 8 then (bif Nat.beq k 6 then some (.iload 6, 8, []) else none) else (bif Nat.beq k 8 then some (.aload_n 0, 9, []) else none)) else (bif Nat.blt k 12 then (bif Nat.beq k 9 then some (.getfield 185, 12, []) else none) else (bif Nat.beq k 12 then some (.if_icmp .ge 50, 15, [62]) else none)))) else (bif Nat.blt k 24 then (bif Nat.blt k 18 then (bif Nat.blt k 16 then (bif Nat.beq k 15 then some (.iload_n 1, 16, []) else none) else (bif Nat.beq k 16 then some (.iload 6, 18, []) else none)) else (bif Nat.blt k 21 then (bif Nat.beq k 18 then some (.invokestatic 301, 21, []) else none) else (bif Nat.beq k 21 then some (.ifCond .eq 35, 24, [56]) else none))) else (bif Nat.blt k 27 then (bif Nat.blt k 26 then (bif Nat.beq k 24 then some (.iload 6, 26, []) else none) else (bif Nat.beq k 26 then some (.iload_n 2, 27, []) else none)) else (bif Nat.blt k 30 then (bif Nat.beq k 27 then some (.if_icmp .eq 29, 30, [56]) else none) else (bif Nat.blt k 32 then (bif Nat.beq k 30 then some (.iload 6, 32, []) else none) else (bif Nat.beq k 32 then some (.iload_n 3, 33, []) else none)))))) else (bif Nat.blt k 48 then (bif Nat.blt k 41 then (bif Nat.blt k 38 then (bif Nat.blt k 36 then (bif Nat.beq k 33 then some (.if_icmp .eq 23, 36, [56]) else none) else (bif Nat.beq k 36 then some (.lload 4, 38, []) else none)) else (bif Nat.blt k 39 then (bif Nat.beq k 38 then some (.aload_n 0, 39, []) else none) else (bif Nat.beq k 39 then some (.iload 6, 41, []) else none))) else (bif Nat.blt k 45 then (bif Nat.blt k 44 then (bif Nat.beq k 41 then some (.invokevirtual 285, 44, []) else none) else (bif Nat.beq k 44 then some (.i2l, 45, []) else none)) else (bif Nat.blt k 46 then (bif Nat.beq k 45 then some (.aload_n 0, 46, []) else none) else (bif Nat.beq k 46 then some (.iload 6, 48, []) else none)))) else (bif Nat.blt k 54 then (bif Nat.blt k 52 then (bif Nat.blt k 51 then (bif Nat.beq k 48 then some (.invokevirtual 285, 51, []) else none) else (bif Nat.beq k 51 then some (.i2l, 52, []) else none)) else (bif Nat.blt k 53 then (bif Nat.beq k 52 then some (.lmul, 53, []) else none) else (bif Nat.beq k 53 then some (.lmul, 54, []) else none))) else (bif Nat.blt k 59 then (bif Nat.blt k 56 then (bif Nat.beq k 54 then some (.lstore 4, 56, []) else none) else (bif Nat.beq k 56 then some (.iinc 6 1, 59, []) else none)) else (bif Nat.blt k 62 then (bif Nat.beq k 59 then some (.goto (-53), 62, [6]) else none) else (bif Nat.blt k 64 then (bif Nat.beq k 62 then some (.lload 4, 64, []) else none) else (bif Nat.beq k 64 then some (.lreturn, 65, []) else none))))))) else none
noncomputable def P_M_spansBut : MP := (T_M_spansBut, (fun k => mLook k [(185, (13, 10, .int, false))]), (fun k => mLook k []), (fun k => mLook k [(285, E_M_spanOf), (301, E_M_has)]), (fun k => mLook k []), (fun k => mLook k []), (fun k => mLook k []), (fun k => mLook k [(6, [true, true, true, true, true, false, true])]), (fun k => [64].any (Nat.beq k)), (1, 21, 0, 0), false, (fun _ => none))
set_option maxRecDepth 100000 in
set_option maxHeartbeats 4000000 in
theorem q_M_spansBut_e (a1 : Int32) (a2 : Int32) (a3 : Int32) (σ : MSto) (n : Nat) : mexe KT P_M_spansBut (n + 1) (0, [some (mR 13 0), some (mI a1), some (mI a2), some (mI a3), none, none, none], [], σ, 0, 0) = mexe KT P_M_spansBut n (6, [some (mR 13 0), some (mI a1), some (mI a2), some (mI a3), some (mJ 1), none, some (mI 0)], [], σ, 0, 0) := rfl
set_option maxRecDepth 100000 in
set_option maxHeartbeats 4000000 in
theorem q_M_spansBut_6 (x1 : Int32) (x2 : Int32) (x3 : Int32) (x4 : Int64) (x6 : Int32) (σ : MSto) (n : Nat) : mexe KT P_M_spansBut (n + 1) (6, [some (mR 13 0), some (mI x1), some (mI x2), some (mI x3), some (mJ x4), none, some (mI x6)], [], σ, 0, 0) = mIf ((gI σ 13 0 10) ≤ x6) (some (64, [], [(mJ x4)], σ, 0, 0)) (mIf ((v_M_has x1 x6 σ) = 0) (mexe KT P_M_spansBut n (6, [some (mR 13 0), some (mI x1), some (mI x2), some (mI x3), some (mJ x4), none, some (mI (x6 + 1))], [], σ, 0, 0)) (mIf (x6 = x2) (mexe KT P_M_spansBut n (6, [some (mR 13 0), some (mI x1), some (mI x2), some (mI x3), some (mJ x4), none, some (mI (x6 + 1))], [], σ, 0, 0)) (mIf (x6 = x3) (mexe KT P_M_spansBut n (6, [some (mR 13 0), some (mI x1), some (mI x2), some (mI x3), some (mJ x4), none, some (mI (x6 + 1))], [], σ, 0, 0)) (mG (p_M_spanOf x6 σ) (mG (p_M_spanOf x6 σ) (mexe KT P_M_spansBut n (6, [some (mR 13 0), some (mI x1), some (mI x2), some (mI x3), some (mJ (x4 * ((Int32.toInt64 (v_M_spanOf x6 σ)) * (Int32.toInt64 (v_M_spanOf x6 σ))))), none, some (mI (x6 + 1))], [], σ, 0, 0))))))) := rfl
set_option maxRecDepth 100000 in
set_option maxHeartbeats 4000000 in
theorem d_M_spansBut (a1 : Int32) (a2 : Int32) (a3 : Int32) (σ : MSto) (hp : p_M_spansBut a1 a2 a3 σ) : mW1 P_M_spansBut (0, [some (mR 13 0), some (mI a1), some (mI a2), some (mI a3), none, none, none], [], σ, 0, 0) (mF [64] [mJ (v_M_spansBut a1 a2 a3 σ)] σ 0 0) := by
  have hi : iM σ := hp
  have hc := hi.c.2.2.1
  refine mW1_eq (q_M_spansBut_e _ _ _ _) ?_
  try simp only [bI_0]
  refine mTr_k (mW1_loop (fun i => (6, [some (mR 13 0), some (mI a1), some (mI a2), some (mI a3), some (mJ (nfold (t_M_spansBut a1 a2 a3 σ) 1 i)), none, some (mI (nI i))], [], σ, 0, 0)) (nM σ 10) (fun i hlt hn => ?_) ?_)
  · refine mW1_eq (q_M_spansBut_6 _ _ _ _ _ _) ?_
    refine mTr_f (cnt_ge hc (by omega) hlt) ?_
    refine mTr_if (fun g => ?_) (fun g => ?_)
    · exact mTr_l hn (by rw [nI_s, nfold_s]; unfold t_M_spansBut; rw [if_pos g])
    · refine mTr_if (fun g2 => ?_) (fun g2 => ?_)
      · exact mTr_l hn (by rw [nI_s, nfold_s]; unfold t_M_spansBut; rw [if_neg g, if_pos g2])
      · refine mTr_if (fun g3 => ?_) (fun g3 => ?_)
        · exact mTr_l hn (by rw [nI_s, nfold_s]; unfold t_M_spansBut; rw [if_neg g, if_neg g2, if_pos g3])
        · refine mTr_g (pc_spanOf hi hlt) (mTr_g (pc_spanOf hi hlt) ?_)
          exact mTr_l hn (by rw [nI_s, nfold_s]; unfold t_M_spansBut; rw [if_neg g, if_neg g2, if_neg g3])
  · refine mW1_eq (q_M_spansBut_6 _ _ _ _ _ _) ?_
    refine mTr_t (cnt_le hc) ?_
    exact mTr_e (by decide) rfl rfl (by decide) (by decide)


theorem tk_M_spansBut : ∀ pc i nx tg, T_M_spansBut pc = some (i, nx, tg) → mOkB prog_14_method_55_code pc i nx tg = true := code_ok (N := 65) (fun k h => by unfold T_M_spansBut; rw [h]; rfl) (by decide +kernel)
theorem ok_M_spansBut (l : Launch) : mPOK l "ClothWithManModel" prog_14_method_55_code P_M_spansBut := by
  refine ⟨tk_M_spansBut, ?_, ?_, ?_, (fun pc i nx tg kd _ h => by cases h), ?_, ?_, fun pc en h => by cases h⟩
  · intro x ci f ty fin h
    exact mLook_all (Q := fun x v => mFOK "ClothWithManModel" x v.1 v.2.1 v.2.2.1 v.2.2.2 ∧ (v.2.2.2 = true → pIni P_M_spansBut = true → (Cond.fieldLink "ClothWithManModel" x (((mCl[v.1]?).getD ("", fun _ => ("", "", "", false), 0)).2.1 v.2.1).1 (((mCl[v.1]?).getD ("", fun _ => ("", "", "", false), 0)).2.1 v.2.1).2.1 (((mCl[v.1]?).getD ("", fun _ => ("", "", "", false), 0)).2.1 v.2.1).2.2.1 ∈ lw_tbl ∧ (((mCl[v.1]?).getD ("", fun _ => ("", "", "", false), 0)).2.1 v.2.1).1 = "ClothWithManModel"))) (fcC ⟨fo_M_185, fun h1 h2 => by cases h1⟩ fcN) x (ci, f, ty, fin) h
  · intro x
    have hh := mLook_all (l := ([] : List (Nat × (Int32 ⊕ Int64)))) (Q := fun x (v : Int32 ⊕ Int64) => (∀ w, v = .inl w → Cond.constant "ClothWithManModel" x w ∈ lw_tbl) ∧ (∀ w, v = .inr w → Cond.constantLong "ClothWithManModel" x w ∈ lw_tbl)) fcN x
    exact ⟨fun w h => (hh _ h).1 w rfl, fun w h => (hh _ h).2 w rfl⟩
  · exact fun x en h => mLook_all (Q := fun x en => mLink "ClothWithManModel" x en ∧ mCtr l en ∧ (en.1.1 = 2 → en.2.2.2.2.2.2 = none)) (fcC ⟨li_M_285, c_M_spanOf l, (fun h => by cases h)⟩ (fcC ⟨li_M_301, c_M_has l, (fun h => by cases h)⟩ fcN)) x en h
  · exact fun x kd h => mLook_all (Q := fun x kd => (kd = 95 ∧ Cond.fieldLink "ClothWithManModel" x "ClothWithMan" "LIKENESSES" "[I" ∈ lw_tbl) ∨ (kd = 96 ∧ Cond.fieldLink "ClothWithManModel" x "ClothWithMan" "APART_BOUNDS" "[I" ∈ lw_tbl)) fcN x kd h
  · exact fun x ci h => mLook_all (Q := fun x ci => ci ≠ 0 ∧ ∃ (C : String) (T : u_T) (N : Nat), mCl[ci]? = some (C, T, N) ∧ Cond.classLink "ClothWithManModel" x C ∈ lw_tbl ∧ Cond.instantiable C N ∈ lw_tbl) fcN x ci h
set_option maxRecDepth 100000 in
theorem c_M_spansBut (l : Launch) : mCtr l E_M_spansBut := mCtr_of (P := P_M_spansBut) (own := "ClothWithManModel") mLay_ok rfl (by decide +kernel) rfl (ok_M_spansBut l) (fun h => by cases h) (fun as σ pr rv σ' hF hpr hlv => by
  unfold E_M_spansBut S_M_spansBut at hF
  simp only [] at hF
  split at hF
  · cases hF
    obtain ⟨n, pcF, c1, s1, g1, g2, g3, g4⟩ := mF_inv (d_M_spansBut _ _ _ σ (hpr _ rfl))
    exact ⟨Nat.le_of_ble_eq_true rfl, (fun v h => by cases h; trivial), n, pcF, c1, s1, g1, mEnd_of (i := .lreturn) (P := P_M_spansBut) (rets := [64]) rfl g2, g3, g4⟩
  · cases hF
    exact (hpr _ rfl).elim)

