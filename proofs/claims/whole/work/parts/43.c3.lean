/-! ClothWithMan.pieceCount()I -/
noncomputable def v_C_pieceCount  (σ : MSto) : Int32 := (v_Ma_min (v_AL_size 14 0 σ) 12 σ)
noncomputable def S_C_pieceCount : List MV → MSto → Option Prop × Option MV × MSto := fun as σ => match as with
  | [.inr (.inr (some (12, 0)))] => (none, some (mI (v_C_pieceCount σ)), σ)
  | _ => (some False, none, σ)
noncomputable def E_C_pieceCount : MEnt := ((1, 0, 12), (1, 21, 0, 0), S_C_pieceCount, ((⟨"ClothWithMan", "pieceCount", "()I"⟩ : MethodName), prog_1_method_63_code, 1, (some .int)))

def T_C_pieceCount : Nat → Option (Instr × Nat × List Nat) := fun k => bif Nat.blt k 13 then (bif Nat.blt k 7 then (bif Nat.blt k 1 then (bif Nat.beq k 0 then some (.aload_n 0, 1, []) else none) else (bif Nat.blt k 4 then (bif Nat.beq k 1 then some (.getfield 33, 4, []) else none) else (bif Nat.beq k 4 then some (.invokevirtual 132, 7, []) else none))) else (bif Nat.blt k 9 then (bif Nat.beq k 7 then some (.bipush 12, 9, []) else none) else (bif Nat.blt k 12 then (bif Nat.beq k 9 then some (.invokestatic 433, 12, []) else none) else (bif Nat.beq k 12 then some (.ireturn, 13, []) else none)))) else none
noncomputable def P_C_pieceCount : MP := (T_C_pieceCount, (fun k => mLook k [(33, (12, 4, (.object "java/util/ArrayList"), true))]), (fun k => mLook k []), (fun k => mLook k [(132, E_AL_size), (433, E_Ma_min)]), (fun k => mLook k []), (fun k => mLook k []), (fun k => mLook k []), (fun k => mLook k []), (fun k => [12].any (Nat.beq k)), (1, 21, 0, 0), false, (fun _ => none))
set_option maxRecDepth 100000 in
set_option maxHeartbeats 4000000 in
theorem q_C_pieceCount_e  (σ : MSto) (n : Nat) : mexe KT P_C_pieceCount (n + 1) (0, [some (mR 12 0)], [], σ, 0, 0) = some (12, [], [(mI (v_Ma_min (v_AL_size 14 0 σ) 12 σ))], σ, 0, 0) := rfl
set_option maxRecDepth 100000 in
set_option maxHeartbeats 4000000 in
theorem d_C_pieceCount  (σ : MSto) : mW1 P_C_pieceCount (0, [some (mR 12 0)], [], σ, 0, 0) (mF [12] [mI (v_C_pieceCount σ)] σ 0 0) := by
  refine mW1_eq (q_C_pieceCount_e  _) ?_
  exact mTr_e (by decide) (congrArg (fun z => [mI z]) (Eq.symm (rfl))) rfl (by decide) (by decide)

theorem li_C_132 : mLink "ClothWithMan" 132 E_AL_size := ⟨tw_2_90, tw_1_7, ⟨by decide, by decide⟩, by decide +kernel, Or.inl tw_2_87, (fun h => by cases h), (fun _ => ⟨tw_2_88, tw_2_89, TJx4a65c, 3, rfl⟩), (fun h => by cases h)⟩

theorem tk_C_pieceCount : ∀ pc i nx tg, T_C_pieceCount pc = some (i, nx, tg) → mOkB prog_1_method_63_code pc i nx tg = true := code_ok (N := 13) (fun k h => by unfold T_C_pieceCount; rw [h]; rfl) (by decide +kernel)
theorem ok_C_pieceCount (l : Launch) : mPOK l "ClothWithMan" prog_1_method_63_code P_C_pieceCount := by
  refine ⟨tk_C_pieceCount, ?_, ?_, ?_, (fun pc i nx tg kd _ h => by cases h), ?_, ?_, fun pc en h => by cases h⟩
  · intro x ci f ty fin h
    exact mLook_all (Q := fun x v => mFOK "ClothWithMan" x v.1 v.2.1 v.2.2.1 v.2.2.2 ∧ (v.2.2.2 = true → pIni P_C_pieceCount = true → (Cond.fieldLink "ClothWithMan" x (((mCl[v.1]?).getD ("", fun _ => ("", "", "", false), 0)).2.1 v.2.1).1 (((mCl[v.1]?).getD ("", fun _ => ("", "", "", false), 0)).2.1 v.2.1).2.1 (((mCl[v.1]?).getD ("", fun _ => ("", "", "", false), 0)).2.1 v.2.1).2.2.1 ∈ lw_tbl ∧ (((mCl[v.1]?).getD ("", fun _ => ("", "", "", false), 0)).2.1 v.2.1).1 = "ClothWithMan"))) (fcC ⟨fo_C_33, fun h1 h2 => by cases h2⟩ fcN) x (ci, f, ty, fin) h
  · intro x
    have hh := mLook_all (l := ([] : List (Nat × (Int32 ⊕ Int64)))) (Q := fun x (v : Int32 ⊕ Int64) => (∀ w, v = .inl w → Cond.constant "ClothWithMan" x w ∈ lw_tbl) ∧ (∀ w, v = .inr w → Cond.constantLong "ClothWithMan" x w ∈ lw_tbl)) fcN x
    exact ⟨fun w h => (hh _ h).1 w rfl, fun w h => (hh _ h).2 w rfl⟩
  · exact fun x en h => mLook_all (Q := fun x en => mLink "ClothWithMan" x en ∧ mCtr l en ∧ (en.1.1 = 2 → en.2.2.2.2.2.2 = none)) (fcC ⟨li_C_132, c_AL_size l, (fun h => by cases h)⟩ (fcC ⟨li_C_433, c_Ma_min l, (fun h => by cases h)⟩ fcN)) x en h
  · exact fun x kd h => mLook_all (Q := fun x kd => (kd = 95 ∧ Cond.fieldLink "ClothWithMan" x "ClothWithMan" "LIKENESSES" "[I" ∈ lw_tbl) ∨ (kd = 96 ∧ Cond.fieldLink "ClothWithMan" x "ClothWithMan" "APART_BOUNDS" "[I" ∈ lw_tbl)) fcN x kd h
  · exact fun x ci h => mLook_all (Q := fun x ci => ci ≠ 0 ∧ ∃ (C : String) (T : u_T) (N : Nat), mCl[ci]? = some (C, T, N) ∧ Cond.classLink "ClothWithMan" x C ∈ lw_tbl ∧ Cond.instantiable C N ∈ lw_tbl) fcN x ci h
set_option maxRecDepth 100000 in
theorem c_C_pieceCount (l : Launch) : mCtr l E_C_pieceCount := mCtr_of (P := P_C_pieceCount) (own := "ClothWithMan") mLay_ok rfl (by decide +kernel) rfl (ok_C_pieceCount l) (fun h => by cases h) (fun as σ pr rv σ' hF hpr hlv => by
  unfold E_C_pieceCount S_C_pieceCount at hF
  simp only [] at hF
  split at hF
  · cases hF
    obtain ⟨n, pcF, c1, s1, g1, g2, g3, g4⟩ := mF_inv (d_C_pieceCount σ)
    exact ⟨Nat.le_of_ble_eq_true rfl, (fun v h => by cases h; trivial), n, pcF, c1, s1, g1, ⟨mEnd_of (i := .ireturn) (P := P_C_pieceCount) (rets := [12]) rfl g2, rfl⟩, g3, g4⟩
  · cases hF
    exact (hpr _ rfl).elim)
/-! ClothWithMan.storyCount()I -/
noncomputable def v_C_storyCount  (σ : MSto) : Int32 := (v_Ma_min (v_AL_size 15 0 σ) 6 σ)
noncomputable def S_C_storyCount : List MV → MSto → Option Prop × Option MV × MSto := fun as σ => match as with
  | [.inr (.inr (some (12, 0)))] => (none, some (mI (v_C_storyCount σ)), σ)
  | _ => (some False, none, σ)
noncomputable def E_C_storyCount : MEnt := ((1, 0, 12), (1, 21, 0, 0), S_C_storyCount, ((⟨"ClothWithMan", "storyCount", "()I"⟩ : MethodName), prog_1_method_64_code, 1, (some .int)))

def T_C_storyCount : Nat → Option (Instr × Nat × List Nat) := fun k => bif Nat.blt k 13 then (bif Nat.blt k 7 then (bif Nat.blt k 1 then (bif Nat.beq k 0 then some (.aload_n 0, 1, []) else none) else (bif Nat.blt k 4 then (bif Nat.beq k 1 then some (.getfield 37, 4, []) else none) else (bif Nat.beq k 4 then some (.invokevirtual 132, 7, []) else none))) else (bif Nat.blt k 9 then (bif Nat.beq k 7 then some (.bipush 6, 9, []) else none) else (bif Nat.blt k 12 then (bif Nat.beq k 9 then some (.invokestatic 433, 12, []) else none) else (bif Nat.beq k 12 then some (.ireturn, 13, []) else none)))) else none
noncomputable def P_C_storyCount : MP := (T_C_storyCount, (fun k => mLook k [(37, (12, 5, (.object "java/util/ArrayList"), true))]), (fun k => mLook k []), (fun k => mLook k [(132, E_AL_size), (433, E_Ma_min)]), (fun k => mLook k []), (fun k => mLook k []), (fun k => mLook k []), (fun k => mLook k []), (fun k => [12].any (Nat.beq k)), (1, 21, 0, 0), false, (fun _ => none))
set_option maxRecDepth 100000 in
set_option maxHeartbeats 4000000 in
theorem q_C_storyCount_e  (σ : MSto) (n : Nat) : mexe KT P_C_storyCount (n + 1) (0, [some (mR 12 0)], [], σ, 0, 0) = some (12, [], [(mI (v_Ma_min (v_AL_size 15 0 σ) 6 σ))], σ, 0, 0) := rfl
set_option maxRecDepth 100000 in
set_option maxHeartbeats 4000000 in
theorem d_C_storyCount  (σ : MSto) : mW1 P_C_storyCount (0, [some (mR 12 0)], [], σ, 0, 0) (mF [12] [mI (v_C_storyCount σ)] σ 0 0) := by
  refine mW1_eq (q_C_storyCount_e  _) ?_
  exact mTr_e (by decide) (congrArg (fun z => [mI z]) (Eq.symm (rfl))) rfl (by decide) (by decide)


theorem tk_C_storyCount : ∀ pc i nx tg, T_C_storyCount pc = some (i, nx, tg) → mOkB prog_1_method_64_code pc i nx tg = true := code_ok (N := 13) (fun k h => by unfold T_C_storyCount; rw [h]; rfl) (by decide +kernel)
theorem ok_C_storyCount (l : Launch) : mPOK l "ClothWithMan" prog_1_method_64_code P_C_storyCount := by
  refine ⟨tk_C_storyCount, ?_, ?_, ?_, (fun pc i nx tg kd _ h => by cases h), ?_, ?_, fun pc en h => by cases h⟩
  · intro x ci f ty fin h
    exact mLook_all (Q := fun x v => mFOK "ClothWithMan" x v.1 v.2.1 v.2.2.1 v.2.2.2 ∧ (v.2.2.2 = true → pIni P_C_storyCount = true → (Cond.fieldLink "ClothWithMan" x (((mCl[v.1]?).getD ("", fun _ => ("", "", "", false), 0)).2.1 v.2.1).1 (((mCl[v.1]?).getD ("", fun _ => ("", "", "", false), 0)).2.1 v.2.1).2.1 (((mCl[v.1]?).getD ("", fun _ => ("", "", "", false), 0)).2.1 v.2.1).2.2.1 ∈ lw_tbl ∧ (((mCl[v.1]?).getD ("", fun _ => ("", "", "", false), 0)).2.1 v.2.1).1 = "ClothWithMan"))) (fcC ⟨fo_C_37, fun h1 h2 => by cases h2⟩ fcN) x (ci, f, ty, fin) h
  · intro x
    have hh := mLook_all (l := ([] : List (Nat × (Int32 ⊕ Int64)))) (Q := fun x (v : Int32 ⊕ Int64) => (∀ w, v = .inl w → Cond.constant "ClothWithMan" x w ∈ lw_tbl) ∧ (∀ w, v = .inr w → Cond.constantLong "ClothWithMan" x w ∈ lw_tbl)) fcN x
    exact ⟨fun w h => (hh _ h).1 w rfl, fun w h => (hh _ h).2 w rfl⟩
  · exact fun x en h => mLook_all (Q := fun x en => mLink "ClothWithMan" x en ∧ mCtr l en ∧ (en.1.1 = 2 → en.2.2.2.2.2.2 = none)) (fcC ⟨li_C_132, c_AL_size l, (fun h => by cases h)⟩ (fcC ⟨li_C_433, c_Ma_min l, (fun h => by cases h)⟩ fcN)) x en h
  · exact fun x kd h => mLook_all (Q := fun x kd => (kd = 95 ∧ Cond.fieldLink "ClothWithMan" x "ClothWithMan" "LIKENESSES" "[I" ∈ lw_tbl) ∨ (kd = 96 ∧ Cond.fieldLink "ClothWithMan" x "ClothWithMan" "APART_BOUNDS" "[I" ∈ lw_tbl)) fcN x kd h
  · exact fun x ci h => mLook_all (Q := fun x ci => ci ≠ 0 ∧ ∃ (C : String) (T : u_T) (N : Nat), mCl[ci]? = some (C, T, N) ∧ Cond.classLink "ClothWithMan" x C ∈ lw_tbl ∧ Cond.instantiable C N ∈ lw_tbl) fcN x ci h
set_option maxRecDepth 100000 in
theorem c_C_storyCount (l : Launch) : mCtr l E_C_storyCount := mCtr_of (P := P_C_storyCount) (own := "ClothWithMan") mLay_ok rfl (by decide +kernel) rfl (ok_C_storyCount l) (fun h => by cases h) (fun as σ pr rv σ' hF hpr hlv => by
  unfold E_C_storyCount S_C_storyCount at hF
  simp only [] at hF
  split at hF
  · cases hF
    obtain ⟨n, pcF, c1, s1, g1, g2, g3, g4⟩ := mF_inv (d_C_storyCount σ)
    exact ⟨Nat.le_of_ble_eq_true rfl, (fun v h => by cases h; trivial), n, pcF, c1, s1, g1, ⟨mEnd_of (i := .ireturn) (P := P_C_storyCount) (rets := [12]) rfl g2, rfl⟩, g3, g4⟩
  · cases hF
    exact (hpr _ rfl).elim)
/-! ClothWithMan.isPiece(I)Z -/
def b_C_isPiece (a1 : Int32) (σ : MSto) : Prop := (if a1 < 0 then False else (if (v_C_pieceCount σ) ≤ a1 then False else True))
noncomputable def v_C_isPiece (a1 : Int32) (σ : MSto) : Int32 := bI (b_C_isPiece a1 σ)
noncomputable def S_C_isPiece : List MV → MSto → Option Prop × Option MV × MSto := fun as σ => match as with
  | [.inr (.inr (some (12, 0))), .inl a0] => (none, some (mI (v_C_isPiece a0 σ)), σ)
  | _ => (some False, none, σ)
noncomputable def E_C_isPiece : MEnt := ((1, 1, 12), (2, 41, 0, 0), S_C_isPiece, ((⟨"ClothWithMan", "isPiece", "(I)Z"⟩ : MethodName), prog_1_method_59_code, 2, (some .boolean)))

def T_C_isPiece : Nat → Option (Instr × Nat × List Nat) := fun k => bif Nat.blt k 18 then (bif Nat.blt k 9 then (bif Nat.blt k 4 then (bif Nat.blt k 1 then (bif Nat.beq k 0 then some (.iload_n 1, 1, []) else none) else (bif Nat.beq k 1 then some (.ifCond .lt 15, 4, [16]) else none)) else (bif Nat.blt k 5 then (bif Nat.beq k 4 then some (.iload_n 1, 5, []) else none) else (bif Nat.blt k 6 then (bif Nat.beq k 5 then some (.aload_n 0, 6, []) else none) else (bif Nat.beq k 6 then some (.invokevirtual 281, 9, []) else none)))) else (bif Nat.blt k 13 then (bif Nat.blt k 12 then (bif Nat.beq k 9 then some (.if_icmp .ge 7, 12, [16]) else none) else (bif Nat.beq k 12 then some (.iconst 1, 13, []) else none)) else (bif Nat.blt k 16 then (bif Nat.beq k 13 then some (.goto 4, 16, [17]) else none) else (bif Nat.blt k 17 then (bif Nat.beq k 16 then some (.iconst 0, 17, []) else none) else (bif Nat.beq k 17 then some (.ireturn, 18, []) else none))))) else none
noncomputable def P_C_isPiece : MP := (T_C_isPiece, (fun k => mLook k []), (fun k => mLook k []), (fun k => mLook k [(281, E_C_pieceCount)]), (fun k => mLook k []), (fun k => mLook k []), (fun k => mLook k []), (fun k => mLook k []), (fun k => [17].any (Nat.beq k)), (2, 41, 0, 0), false, (fun _ => none))
set_option maxRecDepth 100000 in
set_option maxHeartbeats 4000000 in
theorem q_C_isPiece_e (a1 : Int32) (σ : MSto) (n : Nat) : mexe KT P_C_isPiece (n + 1) (0, [some (mR 12 0), some (mI a1)], [], σ, 0, 0) = mIf (a1 < 0) (some (17, [], [(mI 0)], σ, 0, 0)) (mIf ((v_C_pieceCount σ) ≤ a1) (some (17, [], [(mI 0)], σ, 0, 0)) (some (17, [], [(mI 1)], σ, 0, 0))) := rfl
set_option maxRecDepth 100000 in
set_option maxHeartbeats 4000000 in
theorem d_C_isPiece (a1 : Int32) (σ : MSto) : mW1 P_C_isPiece (0, [some (mR 12 0), some (mI a1)], [], σ, 0, 0) (mF [17] [mI (v_C_isPiece a1 σ)] σ 0 0) := by
  refine mW1_eq (q_C_isPiece_e _ _) ?_
  unfold v_C_isPiece
  refine mTr_if (fun h0 => ?_) (fun h0 => ?_)
  · skip
    exact mTr_e (by decide) (bI_F (if_pos h0)) rfl (by decide) (by decide)
  · skip
    refine mTr_if (fun h1 => ?_) (fun h1 => ?_)
    · skip
      exact mTr_e (by decide) (bI_F ((if_neg h0).trans (if_pos h1))) rfl (by decide) (by decide)
    · skip
      exact mTr_e (by decide) (bI_T ((if_neg h0).trans (if_neg h1))) rfl (by decide) (by decide)
theorem li_C_281 : mLink "ClothWithMan" 281 E_C_pieceCount := ⟨tw_3_48, tw_1_1, ⟨by decide, by decide⟩, by decide +kernel, Or.inl tw_3_45, (fun h => by cases h), (fun _ => ⟨tw_3_47, tw_0_6, TX11, 20, rfl⟩), (fun h => by cases h)⟩

theorem tk_C_isPiece : ∀ pc i nx tg, T_C_isPiece pc = some (i, nx, tg) → mOkB prog_1_method_59_code pc i nx tg = true := code_ok (N := 18) (fun k h => by unfold T_C_isPiece; rw [h]; rfl) (by decide +kernel)
theorem ok_C_isPiece (l : Launch) : mPOK l "ClothWithMan" prog_1_method_59_code P_C_isPiece := by
  refine ⟨tk_C_isPiece, ?_, ?_, ?_, (fun pc i nx tg kd _ h => by cases h), ?_, ?_, fun pc en h => by cases h⟩
  · intro x ci f ty fin h
    exact mLook_all (Q := fun x v => mFOK "ClothWithMan" x v.1 v.2.1 v.2.2.1 v.2.2.2 ∧ (v.2.2.2 = true → pIni P_C_isPiece = true → (Cond.fieldLink "ClothWithMan" x (((mCl[v.1]?).getD ("", fun _ => ("", "", "", false), 0)).2.1 v.2.1).1 (((mCl[v.1]?).getD ("", fun _ => ("", "", "", false), 0)).2.1 v.2.1).2.1 (((mCl[v.1]?).getD ("", fun _ => ("", "", "", false), 0)).2.1 v.2.1).2.2.1 ∈ lw_tbl ∧ (((mCl[v.1]?).getD ("", fun _ => ("", "", "", false), 0)).2.1 v.2.1).1 = "ClothWithMan"))) fcN x (ci, f, ty, fin) h
  · intro x
    have hh := mLook_all (l := ([] : List (Nat × (Int32 ⊕ Int64)))) (Q := fun x (v : Int32 ⊕ Int64) => (∀ w, v = .inl w → Cond.constant "ClothWithMan" x w ∈ lw_tbl) ∧ (∀ w, v = .inr w → Cond.constantLong "ClothWithMan" x w ∈ lw_tbl)) fcN x
    exact ⟨fun w h => (hh _ h).1 w rfl, fun w h => (hh _ h).2 w rfl⟩
  · exact fun x en h => mLook_all (Q := fun x en => mLink "ClothWithMan" x en ∧ mCtr l en ∧ (en.1.1 = 2 → en.2.2.2.2.2.2 = none)) (fcC ⟨li_C_281, c_C_pieceCount l, (fun h => by cases h)⟩ fcN) x en h
  · exact fun x kd h => mLook_all (Q := fun x kd => (kd = 95 ∧ Cond.fieldLink "ClothWithMan" x "ClothWithMan" "LIKENESSES" "[I" ∈ lw_tbl) ∨ (kd = 96 ∧ Cond.fieldLink "ClothWithMan" x "ClothWithMan" "APART_BOUNDS" "[I" ∈ lw_tbl)) fcN x kd h
  · exact fun x ci h => mLook_all (Q := fun x ci => ci ≠ 0 ∧ ∃ (C : String) (T : u_T) (N : Nat), mCl[ci]? = some (C, T, N) ∧ Cond.classLink "ClothWithMan" x C ∈ lw_tbl ∧ Cond.instantiable C N ∈ lw_tbl) fcN x ci h
set_option maxRecDepth 100000 in
theorem c_C_isPiece (l : Launch) : mCtr l E_C_isPiece := mCtr_of (P := P_C_isPiece) (own := "ClothWithMan") mLay_ok rfl (by decide +kernel) rfl (ok_C_isPiece l) (fun h => by cases h) (fun as σ pr rv σ' hF hpr hlv => by
  unfold E_C_isPiece S_C_isPiece at hF
  simp only [] at hF
  split at hF
  · cases hF
    obtain ⟨n, pcF, c1, s1, g1, g2, g3, g4⟩ := mF_inv (d_C_isPiece _ σ)
    exact ⟨Nat.le_of_ble_eq_true rfl, (fun v h => by cases h; trivial), n, pcF, c1, s1, g1, ⟨mEnd_of (i := .ireturn) (P := P_C_isPiece) (rets := [17]) rfl g2, bI_narrow _⟩, g3, g4⟩
  · cases hF
    exact (hpr _ rfl).elim)
/-! ClothWithMan.isStory(I)Z -/
def b_C_isStory (a1 : Int32) (σ : MSto) : Prop := (if a1 < 0 then False else (if (v_C_storyCount σ) ≤ a1 then False else True))
noncomputable def v_C_isStory (a1 : Int32) (σ : MSto) : Int32 := bI (b_C_isStory a1 σ)
noncomputable def S_C_isStory : List MV → MSto → Option Prop × Option MV × MSto := fun as σ => match as with
  | [.inr (.inr (some (12, 0))), .inl a0] => (none, some (mI (v_C_isStory a0 σ)), σ)
  | _ => (some False, none, σ)
noncomputable def E_C_isStory : MEnt := ((1, 1, 12), (2, 41, 0, 0), S_C_isStory, ((⟨"ClothWithMan", "isStory", "(I)Z"⟩ : MethodName), prog_1_method_60_code, 2, (some .boolean)))

def T_C_isStory : Nat → Option (Instr × Nat × List Nat) := fun k => bif Nat.blt k 18 then (bif Nat.blt k 9 then (bif Nat.blt k 4 then (bif Nat.blt k 1 then (bif Nat.beq k 0 then some (.iload_n 1, 1, []) else none) else (bif Nat.beq k 1 then some (.ifCond .lt 15, 4, [16]) else none)) else (bif Nat.blt k 5 then (bif Nat.beq k 4 then some (.iload_n 1, 5, []) else none) else (bif Nat.blt k 6 then (bif Nat.beq k 5 then some (.aload_n 0, 6, []) else none) else (bif Nat.beq k 6 then some (.invokevirtual 330, 9, []) else none)))) else (bif Nat.blt k 13 then (bif Nat.blt k 12 then (bif Nat.beq k 9 then some (.if_icmp .ge 7, 12, [16]) else none) else (bif Nat.beq k 12 then some (.iconst 1, 13, []) else none)) else (bif Nat.blt k 16 then (bif Nat.beq k 13 then some (.goto 4, 16, [17]) else none) else (bif Nat.blt k 17 then (bif Nat.beq k 16 then some (.iconst 0, 17, []) else none) else (bif Nat.beq k 17 then some (.ireturn, 18, []) else none))))) else none
noncomputable def P_C_isStory : MP := (T_C_isStory, (fun k => mLook k []), (fun k => mLook k []), (fun k => mLook k [(330, E_C_storyCount)]), (fun k => mLook k []), (fun k => mLook k []), (fun k => mLook k []), (fun k => mLook k []), (fun k => [17].any (Nat.beq k)), (2, 41, 0, 0), false, (fun _ => none))
set_option maxRecDepth 100000 in
set_option maxHeartbeats 4000000 in
theorem q_C_isStory_e (a1 : Int32) (σ : MSto) (n : Nat) : mexe KT P_C_isStory (n + 1) (0, [some (mR 12 0), some (mI a1)], [], σ, 0, 0) = mIf (a1 < 0) (some (17, [], [(mI 0)], σ, 0, 0)) (mIf ((v_C_storyCount σ) ≤ a1) (some (17, [], [(mI 0)], σ, 0, 0)) (some (17, [], [(mI 1)], σ, 0, 0))) := rfl
set_option maxRecDepth 100000 in
set_option maxHeartbeats 4000000 in
theorem d_C_isStory (a1 : Int32) (σ : MSto) : mW1 P_C_isStory (0, [some (mR 12 0), some (mI a1)], [], σ, 0, 0) (mF [17] [mI (v_C_isStory a1 σ)] σ 0 0) := by
  refine mW1_eq (q_C_isStory_e _ _) ?_
  unfold v_C_isStory
  refine mTr_if (fun h0 => ?_) (fun h0 => ?_)
  · skip
    exact mTr_e (by decide) (bI_F (if_pos h0)) rfl (by decide) (by decide)
  · skip
    refine mTr_if (fun h1 => ?_) (fun h1 => ?_)
    · skip
      exact mTr_e (by decide) (bI_F ((if_neg h0).trans (if_pos h1))) rfl (by decide) (by decide)
    · skip
      exact mTr_e (by decide) (bI_T ((if_neg h0).trans (if_neg h1))) rfl (by decide) (by decide)
theorem li_C_330 : mLink "ClothWithMan" 330 E_C_storyCount := ⟨tw_4_55, tw_1_1, ⟨by decide, by decide⟩, by decide +kernel, Or.inl tw_4_52, (fun h => by cases h), (fun _ => ⟨tw_4_54, tw_0_25, TX11, 20, rfl⟩), (fun h => by cases h)⟩

theorem tk_C_isStory : ∀ pc i nx tg, T_C_isStory pc = some (i, nx, tg) → mOkB prog_1_method_60_code pc i nx tg = true := code_ok (N := 18) (fun k h => by unfold T_C_isStory; rw [h]; rfl) (by decide +kernel)
theorem ok_C_isStory (l : Launch) : mPOK l "ClothWithMan" prog_1_method_60_code P_C_isStory := by
  refine ⟨tk_C_isStory, ?_, ?_, ?_, (fun pc i nx tg kd _ h => by cases h), ?_, ?_, fun pc en h => by cases h⟩
  · intro x ci f ty fin h
    exact mLook_all (Q := fun x v => mFOK "ClothWithMan" x v.1 v.2.1 v.2.2.1 v.2.2.2 ∧ (v.2.2.2 = true → pIni P_C_isStory = true → (Cond.fieldLink "ClothWithMan" x (((mCl[v.1]?).getD ("", fun _ => ("", "", "", false), 0)).2.1 v.2.1).1 (((mCl[v.1]?).getD ("", fun _ => ("", "", "", false), 0)).2.1 v.2.1).2.1 (((mCl[v.1]?).getD ("", fun _ => ("", "", "", false), 0)).2.1 v.2.1).2.2.1 ∈ lw_tbl ∧ (((mCl[v.1]?).getD ("", fun _ => ("", "", "", false), 0)).2.1 v.2.1).1 = "ClothWithMan"))) fcN x (ci, f, ty, fin) h
  · intro x
    have hh := mLook_all (l := ([] : List (Nat × (Int32 ⊕ Int64)))) (Q := fun x (v : Int32 ⊕ Int64) => (∀ w, v = .inl w → Cond.constant "ClothWithMan" x w ∈ lw_tbl) ∧ (∀ w, v = .inr w → Cond.constantLong "ClothWithMan" x w ∈ lw_tbl)) fcN x
    exact ⟨fun w h => (hh _ h).1 w rfl, fun w h => (hh _ h).2 w rfl⟩
  · exact fun x en h => mLook_all (Q := fun x en => mLink "ClothWithMan" x en ∧ mCtr l en ∧ (en.1.1 = 2 → en.2.2.2.2.2.2 = none)) (fcC ⟨li_C_330, c_C_storyCount l, (fun h => by cases h)⟩ fcN) x en h
  · exact fun x kd h => mLook_all (Q := fun x kd => (kd = 95 ∧ Cond.fieldLink "ClothWithMan" x "ClothWithMan" "LIKENESSES" "[I" ∈ lw_tbl) ∨ (kd = 96 ∧ Cond.fieldLink "ClothWithMan" x "ClothWithMan" "APART_BOUNDS" "[I" ∈ lw_tbl)) fcN x kd h
  · exact fun x ci h => mLook_all (Q := fun x ci => ci ≠ 0 ∧ ∃ (C : String) (T : u_T) (N : Nat), mCl[ci]? = some (C, T, N) ∧ Cond.classLink "ClothWithMan" x C ∈ lw_tbl ∧ Cond.instantiable C N ∈ lw_tbl) fcN x ci h
set_option maxRecDepth 100000 in
theorem c_C_isStory (l : Launch) : mCtr l E_C_isStory := mCtr_of (P := P_C_isStory) (own := "ClothWithMan") mLay_ok rfl (by decide +kernel) rfl (ok_C_isStory l) (fun h => by cases h) (fun as σ pr rv σ' hF hpr hlv => by
  unfold E_C_isStory S_C_isStory at hF
  simp only [] at hF
  split at hF
  · cases hF
    obtain ⟨n, pcF, c1, s1, g1, g2, g3, g4⟩ := mF_inv (d_C_isStory _ σ)
    exact ⟨Nat.le_of_ble_eq_true rfl, (fun v h => by cases h; trivial), n, pcF, c1, s1, g1, ⟨mEnd_of (i := .ireturn) (P := P_C_isStory) (rets := [17]) rfl g2, bI_narrow _⟩, g3, g4⟩
  · cases hF
    exact (hpr _ rfl).elim)
/-! ClothWithMan.countedBits()I -/
noncomputable def t_C_countedBits_4  (c : Int32) (σ : MSto) (s : Int32) : Int32 := (if (v_C_pieceCount σ) ≤ c then s else (if (gI σ 7 (v_AL_get 14 0 c σ) 4) = 0 then s else (s ||| ((1 : Int32) <<< (c &&& 31)))))
noncomputable def q_C_countedBits_4s  (c : Int32) (σ : MSto) (s : Int32) : Nat := (if (v_C_pieceCount σ) ≤ c then 1 else 0)
def g_C_countedBits_4  (c : Int32) (σ : MSto) (s : Int32) : Prop := (¬ ((v_C_pieceCount σ) ≤ c) → (p_AL_get 14 0 c σ))
noncomputable def f_C_countedBits_4  (c0 : Int32) (σ : MSto) (s0 : Int32) (n : Nat) : Int32 := nfold (fun i s => t_C_countedBits_4 (c0 + nI i) σ s) s0 n
noncomputable def n_C_countedBits_4  (c0 : Int32) (σ : MSto) (s0 : Int32) : Nat := (v_C_pieceCount σ).toNatClampNeg
noncomputable def v_C_countedBits  (σ : MSto) : Int32 := (f_C_countedBits_4 0 σ 0 (n_C_countedBits_4 0 σ 0))
def p_C_countedBits  (σ : MSto) : Prop := ((∀ i, i < (n_C_countedBits_4 0 σ 0) → g_C_countedBits_4 (0 + nI i) σ (f_C_countedBits_4 0 σ 0 i) ∧ ¬ q_C_countedBits_4s (0 + nI i) σ (f_C_countedBits_4 0 σ 0 i) = 1) ∧ (¬ ((v_C_pieceCount σ) ≤ (0 + nI (n_C_countedBits_4 0 σ 0))) → False))
noncomputable def S_C_countedBits : List MV → MSto → Option Prop × Option MV × MSto := fun as σ => match as with
  | [.inr (.inr (some (12, 0)))] => (some (p_C_countedBits σ), some (mI (v_C_countedBits σ)), σ)
  | _ => (some False, none, σ)
noncomputable def E_C_countedBits : MEnt := ((1, 0, 12), (6, 121, 0, 0), S_C_countedBits, ((⟨"ClothWithMan", "countedBits", "()I"⟩ : MethodName), prog_1_method_71_code, 3, (some .int)))

def T_C_countedBits : Nat → Option (Instr × Nat × List Nat) := fun k => bif Nat.blt k 43 then (bif Nat.blt k 20 then (bif Nat.blt k 6 then (bif Nat.blt k 3 then (bif Nat.blt k 1 then (bif Nat.beq k 0 then some (.iconst 0, 1, []) else none) else (bif Nat.blt k 2 then (bif Nat.beq k 1 then some (.istore_n 1, 2, []) else none) else (bif Nat.beq k 2 then some (.iconst 0, 3, []) else none))) else (bif Nat.blt k 4 then (bif Nat.beq k 3 then some (.istore_n 2, 4, []) else none) else (bif Nat.blt k 5 then (bif Nat.beq k 4 then some (.iload_n 2, 5, []) else none) else (bif Nat.beq k 5 then some (.aload_n 0, 6, []) else none)))) else (bif Nat.blt k 13 then (bif Nat.blt k 9 then (bif Nat.beq k 6 then some (.invokevirtual 281, 9, []) else none) else (bif Nat.blt k 12 then (bif Nat.beq k 9 then some (.if_icmp .ge 32, 12, [41]) else none) else (bif Nat.beq k 12 then some (.aload_n 0, 13, []) else none))) else (bif Nat.blt k 16 then (bif Nat.beq k 13 then some (.getfield 33, 16, []) else none) else (bif Nat.blt k 17 then (bif Nat.beq k 16 then some (.iload_n 2, 17, []) else none) else (bif Nat.beq k 17 then some (.invokevirtual 183, 20, []) else none))))) else (bif Nat.blt k 32 then (bif Nat.blt k 29 then (bif Nat.blt k 23 then (bif Nat.beq k 20 then some (.checkcast 168, 23, []) else none) else (bif Nat.blt k 26 then (bif Nat.beq k 23 then some (.getfield 204, 26, []) else none) else (bif Nat.beq k 26 then some (.ifCond .eq 9, 29, [35]) else none))) else (bif Nat.blt k 30 then (bif Nat.beq k 29 then some (.iload_n 1, 30, []) else none) else (bif Nat.blt k 31 then (bif Nat.beq k 30 then some (.iconst 1, 31, []) else none) else (bif Nat.beq k 31 then some (.iload_n 2, 32, []) else none)))) else (bif Nat.blt k 35 then (bif Nat.blt k 33 then (bif Nat.beq k 32 then some (.ishl, 33, []) else none) else (bif Nat.blt k 34 then (bif Nat.beq k 33 then some (.ior, 34, []) else none) else (bif Nat.beq k 34 then some (.istore_n 1, 35, []) else none))) else (bif Nat.blt k 41 then (bif Nat.blt k 38 then (bif Nat.beq k 35 then some (.iinc 2 1, 38, []) else none) else (bif Nat.beq k 38 then some (.goto (-34), 41, [4]) else none)) else (bif Nat.blt k 42 then (bif Nat.beq k 41 then some (.iload_n 1, 42, []) else none) else (bif Nat.beq k 42 then some (.ireturn, 43, []) else none)))))) else none
noncomputable def P_C_countedBits : MP := (T_C_countedBits, (fun k => mLook k [(33, (12, 4, (.object "java/util/ArrayList"), true)), (204, (7, 4, .boolean, false))]), (fun k => mLook k []), (fun k => mLook k [(183, E_AL_get), (281, E_C_pieceCount)]), (fun k => mLook k []), (fun k => mLook k []), (fun k => mLook k [(168, 7)]), (fun k => mLook k [(4, [true, true, true])]), (fun k => [42].any (Nat.beq k)), (6, 121, 0, 0), false, (fun _ => none))
set_option maxRecDepth 100000 in
set_option maxHeartbeats 4000000 in
theorem q_C_countedBits_e  (σ : MSto) (n : Nat) : mexe KT P_C_countedBits (n + 1) (0, [some (mR 12 0), none, none], [], σ, 0, 0) = mexe KT P_C_countedBits n (4, [some (mR 12 0), some (mI 0), some (mI 0)], [], σ, 0, 0) := rfl
set_option maxRecDepth 100000 in
set_option maxHeartbeats 4000000 in
theorem q_C_countedBits_4 (x1 : Int32) (x2 : Int32) (σ : MSto) (n : Nat) : mexe KT P_C_countedBits (n + 1) (4, [some (mR 12 0), some (mI x1), some (mI x2)], [], σ, 0, 0) = mIf ((v_C_pieceCount σ) ≤ x2) (some (42, [], [(mI x1)], σ, 0, 0)) (mG (p_AL_get 14 0 x2 σ) (mIf ((gI σ 7 (v_AL_get 14 0 x2 σ) 4) = 0) (mexe KT P_C_countedBits n (4, [some (mR 12 0), some (mI x1), some (mI (x2 + 1))], [], σ, 0, 0)) (mexe KT P_C_countedBits n (4, [some (mR 12 0), some (mI (x1 ||| ((1 : Int32) <<< (x2 &&& 31)))), some (mI (x2 + 1))], [], σ, 0, 0)))) := rfl
set_option maxRecDepth 100000 in
theorem lt_C_countedBits_4 {Post : MST → Prop}  (c : Int32) (σ : MSto) (s : Int32) (hp : g_C_countedBits_4 c σ s) (hq : ¬ q_C_countedBits_4s c σ s = 1) (hn : ∀ r, t_C_countedBits_4 c σ s = r → mW1 P_C_countedBits (4, [some (mR 12 0), some (mI r), some (mI (c + 1))], [], σ, 0, 0) Post) : mW1 P_C_countedBits (4, [some (mR 12 0), some (mI s), some (mI c)], [], σ, 0, 0) Post := by
  unfold g_C_countedBits_4 at hp
  refine mW1_eq (q_C_countedBits_4 _ _ _) ?_
  refine mTr_if (fun h0 => ?_) (fun h0 => ?_)
  · skip
    exact absurd (if_pos h0) hq
  · skip
    have hp := hp h0
    refine mTr_g hp ?_
    refine mTr_if (fun h1 => ?_) (fun h1 => ?_)
    · skip
      exact mTr_k (hn s ((if_neg h0).trans (if_pos h1)))
    · skip
      exact mTr_k (hn (s ||| ((1 : Int32) <<< (c &&& 31))) ((if_neg h0).trans (if_neg h1)))
theorem lp_C_countedBits_4 {Post : MST → Prop}  (c0 : Int32) (σ : MSto) (s0 : Int32) (N : Nat) (hb : ∀ i, i < N → g_C_countedBits_4 (c0 + nI i) σ (f_C_countedBits_4 c0 σ s0 i) ∧ ¬ q_C_countedBits_4s (c0 + nI i) σ (f_C_countedBits_4 c0 σ s0 i) = 1) (h : mW1 P_C_countedBits (4, [some (mR 12 0), some (mI (f_C_countedBits_4 c0 σ s0 N)), some (mI (c0 + nI N))], [], σ, 0, 0) Post) : mW1 P_C_countedBits (4, [some (mR 12 0), some (mI s0), some (mI c0)], [], σ, 0, 0) Post := by
  refine mW1_st (mW1_loop (fun i => (4, [some (mR 12 0), some (mI (f_C_countedBits_4 c0 σ s0 i)), some (mI (c0 + nI i))], [], σ, 0, 0)) N (fun i hlt hn => ?_) h) (by rw [show nI 0 = 0 from rfl, Int32.add_zero] <;> rfl)
  refine lt_C_countedBits_4 _ σ _ (hb i hlt).1 (hb i hlt).2 (fun r hr => ?_)
  rw [Int32.add_assoc, nI_s]
  subst hr
  exact hn
set_option maxRecDepth 100000 in
set_option maxHeartbeats 4000000 in
theorem d_C_countedBits  (σ : MSto) (hp : p_C_countedBits σ) : mW1 P_C_countedBits (0, [some (mR 12 0), none, none], [], σ, 0, 0) (mF [42] [mI (v_C_countedBits σ)] σ 0 0) := by
  refine mW1_eq (q_C_countedBits_e  _) ?_
  unfold p_C_countedBits at hp
  refine mTr_k (lp_C_countedBits_4 0 σ 0 (n_C_countedBits_4 0 σ 0) hp.1 ?_)
  have hp := hp.2
  refine mW1_eq (q_C_countedBits_4 _ _ _) ?_
  refine mTr_if (fun h0 => ?_) (fun h0 => ?_)
  · skip
    exact mTr_e (by decide) (congrArg (fun z => [mI z]) (Eq.symm (rfl))) rfl (by decide) (by decide)
  · skip
    have hp := hp h0
    exact hp.elim

theorem li_C_183 : mLink "ClothWithMan" 183 E_AL_get := ⟨tw_2_217, tw_1_7, ⟨by decide, by decide⟩, by decide +kernel, Or.inl tw_3_49, (fun h => by cases h), (fun _ => ⟨tw_2_215, tw_2_216, TJx4a65c, 3, rfl⟩), (fun h => by cases h)⟩

theorem tk_C_countedBits : ∀ pc i nx tg, T_C_countedBits pc = some (i, nx, tg) → mOkB prog_1_method_71_code pc i nx tg = true := code_ok (N := 43) (fun k h => by unfold T_C_countedBits; rw [h]; rfl) (by decide +kernel)
theorem ok_C_countedBits (l : Launch) : mPOK l "ClothWithMan" prog_1_method_71_code P_C_countedBits := by
  refine ⟨tk_C_countedBits, ?_, ?_, ?_, (fun pc i nx tg kd _ h => by cases h), ?_, ?_, fun pc en h => by cases h⟩
  · intro x ci f ty fin h
    exact mLook_all (Q := fun x v => mFOK "ClothWithMan" x v.1 v.2.1 v.2.2.1 v.2.2.2 ∧ (v.2.2.2 = true → pIni P_C_countedBits = true → (Cond.fieldLink "ClothWithMan" x (((mCl[v.1]?).getD ("", fun _ => ("", "", "", false), 0)).2.1 v.2.1).1 (((mCl[v.1]?).getD ("", fun _ => ("", "", "", false), 0)).2.1 v.2.1).2.1 (((mCl[v.1]?).getD ("", fun _ => ("", "", "", false), 0)).2.1 v.2.1).2.2.1 ∈ lw_tbl ∧ (((mCl[v.1]?).getD ("", fun _ => ("", "", "", false), 0)).2.1 v.2.1).1 = "ClothWithMan"))) (fcC ⟨fo_C_33, fun h1 h2 => by cases h2⟩ (fcC ⟨fo_C_204, fun h1 h2 => by cases h1⟩ fcN)) x (ci, f, ty, fin) h
  · intro x
    have hh := mLook_all (l := ([] : List (Nat × (Int32 ⊕ Int64)))) (Q := fun x (v : Int32 ⊕ Int64) => (∀ w, v = .inl w → Cond.constant "ClothWithMan" x w ∈ lw_tbl) ∧ (∀ w, v = .inr w → Cond.constantLong "ClothWithMan" x w ∈ lw_tbl)) fcN x
    exact ⟨fun w h => (hh _ h).1 w rfl, fun w h => (hh _ h).2 w rfl⟩
  · exact fun x en h => mLook_all (Q := fun x en => mLink "ClothWithMan" x en ∧ mCtr l en ∧ (en.1.1 = 2 → en.2.2.2.2.2.2 = none)) (fcC ⟨li_C_183, c_AL_get l, (fun h => by cases h)⟩ (fcC ⟨li_C_281, c_C_pieceCount l, (fun h => by cases h)⟩ fcN)) x en h
  · exact fun x kd h => mLook_all (Q := fun x kd => (kd = 95 ∧ Cond.fieldLink "ClothWithMan" x "ClothWithMan" "LIKENESSES" "[I" ∈ lw_tbl) ∨ (kd = 96 ∧ Cond.fieldLink "ClothWithMan" x "ClothWithMan" "APART_BOUNDS" "[I" ∈ lw_tbl)) fcN x kd h
  · exact fun x ci h => mLook_all (Q := fun x ci => ci ≠ 0 ∧ ∃ (C : String) (T : u_T) (N : Nat), mCl[ci]? = some (C, T, N) ∧ Cond.classLink "ClothWithMan" x C ∈ lw_tbl ∧ Cond.instantiable C N ∈ lw_tbl) (fcC ⟨by decide, "ClothWithMan$Piece", TX6, 6, rfl, tw_3_6, tw_3_7⟩ fcN) x ci h
set_option maxRecDepth 100000 in
theorem c_C_countedBits (l : Launch) : mCtr l E_C_countedBits := mCtr_of (P := P_C_countedBits) (own := "ClothWithMan") mLay_ok rfl (by decide +kernel) rfl (ok_C_countedBits l) (fun h => by cases h) (fun as σ pr rv σ' hF hpr hlv => by
  unfold E_C_countedBits S_C_countedBits at hF
  simp only [] at hF
  split at hF
  · cases hF
    obtain ⟨n, pcF, c1, s1, g1, g2, g3, g4⟩ := mF_inv (d_C_countedBits σ (hpr _ rfl))
    exact ⟨Nat.le_of_ble_eq_true rfl, (fun v h => by cases h; trivial), n, pcF, c1, s1, g1, ⟨mEnd_of (i := .ireturn) (P := P_C_countedBits) (rets := [42]) rfl g2, rfl⟩, g3, g4⟩
  · cases hF
    exact (hpr _ rfl).elim)
/-! ClothWithMan.areCounted(III)Z -/
def b_C_areCounted (a1 : Int32) (a2 : Int32) (a3 : Int32) (σ : MSto) : Prop := (if a1 < 0 then False else (if (a1 &&& ((v_C_countedBits σ) ^^^ (-1))) = 0 then (if (v_C_isIn (v_In_bitCount a1 σ) a2 a3 σ) = 0 then False else True) else False))
noncomputable def v_C_areCounted (a1 : Int32) (a2 : Int32) (a3 : Int32) (σ : MSto) : Int32 := bI (b_C_areCounted a1 a2 a3 σ)
def p_C_areCounted (a1 : Int32) (a2 : Int32) (a3 : Int32) (σ : MSto) : Prop := (¬ (a1 < 0) → (p_C_countedBits σ))
noncomputable def S_C_areCounted : List MV → MSto → Option Prop × Option MV × MSto := fun as σ => match as with
  | [.inr (.inr (some (12, 0))), .inl a0, .inl a1, .inl a2] => (some (p_C_areCounted a0 a1 a2 σ), some (mI (v_C_areCounted a0 a1 a2 σ)), σ)
  | _ => (some False, none, σ)
noncomputable def E_C_areCounted : MEnt := ((1, 3, 12), (7, 143, 0, 0), S_C_areCounted, ((⟨"ClothWithMan", "areCounted", "(III)Z"⟩ : MethodName), prog_1_method_61_code, 4, (some .boolean)))

def T_C_areCounted : Nat → Option (Instr × Nat × List Nat) := fun k => bif Nat.blt k 33 then (bif Nat.blt k 15 then (bif Nat.blt k 6 then (bif Nat.blt k 4 then (bif Nat.blt k 1 then (bif Nat.beq k 0 then some (.iload_n 1, 1, []) else none) else (bif Nat.beq k 1 then some (.ifCond .lt 30, 4, [31]) else none)) else (bif Nat.blt k 5 then (bif Nat.beq k 4 then some (.iload_n 1, 5, []) else none) else (bif Nat.beq k 5 then some (.aload_n 0, 6, []) else none))) else (bif Nat.blt k 10 then (bif Nat.blt k 9 then (bif Nat.beq k 6 then some (.invokevirtual 409, 9, []) else none) else (bif Nat.beq k 9 then some (.iconst (-1), 10, []) else none)) else (bif Nat.blt k 11 then (bif Nat.beq k 10 then some (.ixor, 11, []) else none) else (bif Nat.blt k 12 then (bif Nat.beq k 11 then some (.iand, 12, []) else none) else (bif Nat.beq k 12 then some (.ifCond .ne 19, 15, [31]) else none))))) else (bif Nat.blt k 24 then (bif Nat.blt k 19 then (bif Nat.blt k 16 then (bif Nat.beq k 15 then some (.iload_n 1, 16, []) else none) else (bif Nat.beq k 16 then some (.invokestatic 260, 19, []) else none)) else (bif Nat.blt k 20 then (bif Nat.beq k 19 then some (.iload_n 2, 20, []) else none) else (bif Nat.blt k 21 then (bif Nat.beq k 20 then some (.iload_n 3, 21, []) else none) else (bif Nat.beq k 21 then some (.invokestatic 145, 24, []) else none)))) else (bif Nat.blt k 28 then (bif Nat.blt k 27 then (bif Nat.beq k 24 then some (.ifCond .eq 7, 27, [31]) else none) else (bif Nat.beq k 27 then some (.iconst 1, 28, []) else none)) else (bif Nat.blt k 31 then (bif Nat.beq k 28 then some (.goto 4, 31, [32]) else none) else (bif Nat.blt k 32 then (bif Nat.beq k 31 then some (.iconst 0, 32, []) else none) else (bif Nat.beq k 32 then some (.ireturn, 33, []) else none)))))) else none
noncomputable def P_C_areCounted : MP := (T_C_areCounted, (fun k => mLook k []), (fun k => mLook k []), (fun k => mLook k [(145, E_C_isIn), (260, E_In_bitCount), (409, E_C_countedBits)]), (fun k => mLook k []), (fun k => mLook k []), (fun k => mLook k []), (fun k => mLook k []), (fun k => [32].any (Nat.beq k)), (7, 143, 0, 0), false, (fun _ => none))
set_option maxRecDepth 100000 in
set_option maxHeartbeats 4000000 in
theorem q_C_areCounted_e (a1 : Int32) (a2 : Int32) (a3 : Int32) (σ : MSto) (n : Nat) : mexe KT P_C_areCounted (n + 1) (0, [some (mR 12 0), some (mI a1), some (mI a2), some (mI a3)], [], σ, 0, 0) = mIf (a1 < 0) (some (32, [], [(mI 0)], σ, 0, 0)) (mG (p_C_countedBits σ) (mIf ((a1 &&& ((v_C_countedBits σ) ^^^ (-1))) = 0) (mIf ((v_C_isIn (v_In_bitCount a1 σ) a2 a3 σ) = 0) (some (32, [], [(mI 0)], σ, 0, 0)) (some (32, [], [(mI 1)], σ, 0, 0))) (some (32, [], [(mI 0)], σ, 0, 0)))) := rfl
set_option maxRecDepth 100000 in
set_option maxHeartbeats 4000000 in
theorem d_C_areCounted (a1 : Int32) (a2 : Int32) (a3 : Int32) (σ : MSto) (hp : p_C_areCounted a1 a2 a3 σ) : mW1 P_C_areCounted (0, [some (mR 12 0), some (mI a1), some (mI a2), some (mI a3)], [], σ, 0, 0) (mF [32] [mI (v_C_areCounted a1 a2 a3 σ)] σ 0 0) := by
  refine mW1_eq (q_C_areCounted_e _ _ _ _) ?_
  unfold p_C_areCounted at hp
  unfold v_C_areCounted
  refine mTr_if (fun h0 => ?_) (fun h0 => ?_)
  · skip
    exact mTr_e (by decide) (bI_F (if_pos h0)) rfl (by decide) (by decide)
  · skip
    have hp := hp h0
    refine mTr_g hp ?_
    refine mTr_if (fun h1 => ?_) (fun h1 => ?_)
    · skip
      refine mTr_if (fun h2 => ?_) (fun h2 => ?_)
      · skip
        exact mTr_e (by decide) (bI_F ((if_neg h0).trans ((if_pos h1).trans (if_pos h2)))) rfl (by decide) (by decide)
      · skip
        exact mTr_e (by decide) (bI_T ((if_neg h0).trans ((if_pos h1).trans (if_neg h2)))) rfl (by decide) (by decide)
    · skip
      exact mTr_e (by decide) (bI_F ((if_neg h0).trans (if_neg h1))) rfl (by decide) (by decide)
theorem li_C_409 : mLink "ClothWithMan" 409 E_C_countedBits := ⟨tw_3_101, tw_1_1, ⟨by decide, by decide⟩, by decide +kernel, Or.inl tw_3_98, (fun h => by cases h), (fun _ => ⟨tw_3_100, tw_0_10, TX11, 20, rfl⟩), (fun h => by cases h)⟩

theorem li_C_260 : mLink "ClothWithMan" 260 E_In_bitCount := ⟨tw_3_104, tw_1_22, ⟨by decide, by decide⟩, by decide +kernel, Or.inl tw_3_102, (fun _ => tw_3_103), (fun h => by cases h), (fun h => by cases h)⟩


theorem tk_C_areCounted : ∀ pc i nx tg, T_C_areCounted pc = some (i, nx, tg) → mOkB prog_1_method_61_code pc i nx tg = true := code_ok (N := 33) (fun k h => by unfold T_C_areCounted; rw [h]; rfl) (by decide +kernel)
theorem ok_C_areCounted (l : Launch) : mPOK l "ClothWithMan" prog_1_method_61_code P_C_areCounted := by
  refine ⟨tk_C_areCounted, ?_, ?_, ?_, (fun pc i nx tg kd _ h => by cases h), ?_, ?_, fun pc en h => by cases h⟩
  · intro x ci f ty fin h
    exact mLook_all (Q := fun x v => mFOK "ClothWithMan" x v.1 v.2.1 v.2.2.1 v.2.2.2 ∧ (v.2.2.2 = true → pIni P_C_areCounted = true → (Cond.fieldLink "ClothWithMan" x (((mCl[v.1]?).getD ("", fun _ => ("", "", "", false), 0)).2.1 v.2.1).1 (((mCl[v.1]?).getD ("", fun _ => ("", "", "", false), 0)).2.1 v.2.1).2.1 (((mCl[v.1]?).getD ("", fun _ => ("", "", "", false), 0)).2.1 v.2.1).2.2.1 ∈ lw_tbl ∧ (((mCl[v.1]?).getD ("", fun _ => ("", "", "", false), 0)).2.1 v.2.1).1 = "ClothWithMan"))) fcN x (ci, f, ty, fin) h
  · intro x
    have hh := mLook_all (l := ([] : List (Nat × (Int32 ⊕ Int64)))) (Q := fun x (v : Int32 ⊕ Int64) => (∀ w, v = .inl w → Cond.constant "ClothWithMan" x w ∈ lw_tbl) ∧ (∀ w, v = .inr w → Cond.constantLong "ClothWithMan" x w ∈ lw_tbl)) fcN x
    exact ⟨fun w h => (hh _ h).1 w rfl, fun w h => (hh _ h).2 w rfl⟩
  · exact fun x en h => mLook_all (Q := fun x en => mLink "ClothWithMan" x en ∧ mCtr l en ∧ (en.1.1 = 2 → en.2.2.2.2.2.2 = none)) (fcC ⟨li_C_145, c_C_isIn l, (fun h => by cases h)⟩ (fcC ⟨li_C_260, c_In_bitCount l, (fun h => by cases h)⟩ (fcC ⟨li_C_409, c_C_countedBits l, (fun h => by cases h)⟩ fcN))) x en h
  · exact fun x kd h => mLook_all (Q := fun x kd => (kd = 95 ∧ Cond.fieldLink "ClothWithMan" x "ClothWithMan" "LIKENESSES" "[I" ∈ lw_tbl) ∨ (kd = 96 ∧ Cond.fieldLink "ClothWithMan" x "ClothWithMan" "APART_BOUNDS" "[I" ∈ lw_tbl)) fcN x kd h
  · exact fun x ci h => mLook_all (Q := fun x ci => ci ≠ 0 ∧ ∃ (C : String) (T : u_T) (N : Nat), mCl[ci]? = some (C, T, N) ∧ Cond.classLink "ClothWithMan" x C ∈ lw_tbl ∧ Cond.instantiable C N ∈ lw_tbl) fcN x ci h
set_option maxRecDepth 100000 in
theorem c_C_areCounted (l : Launch) : mCtr l E_C_areCounted := mCtr_of (P := P_C_areCounted) (own := "ClothWithMan") mLay_ok rfl (by decide +kernel) rfl (ok_C_areCounted l) (fun h => by cases h) (fun as σ pr rv σ' hF hpr hlv => by
  unfold E_C_areCounted S_C_areCounted at hF
  simp only [] at hF
  split at hF
  · cases hF
    obtain ⟨n, pcF, c1, s1, g1, g2, g3, g4⟩ := mF_inv (d_C_areCounted _ _ _ σ (hpr _ rfl))
    exact ⟨Nat.le_of_ble_eq_true rfl, (fun v h => by cases h; trivial), n, pcF, c1, s1, g1, ⟨mEnd_of (i := .ireturn) (P := P_C_areCounted) (rets := [32]) rfl g2, bI_narrow _⟩, g3, g4⟩
  · cases hF
    exact (hpr _ rfl).elim)
/-! ClothWithMan.areForStories(I)Z -/
def b_C_areForStories (a1 : Int32) (σ : MSto) : Prop := (if (v_C_areCounted a1 1 4 σ) = 0 then False else (if (v_AL_isEmpty 15 0 σ) = 0 then True else False))
noncomputable def v_C_areForStories (a1 : Int32) (σ : MSto) : Int32 := bI (b_C_areForStories a1 σ)
def p_C_areForStories (a1 : Int32) (σ : MSto) : Prop := (p_C_areCounted a1 1 4 σ)
noncomputable def S_C_areForStories : List MV → MSto → Option Prop × Option MV × MSto := fun as σ => match as with
  | [.inr (.inr (some (12, 0))), .inl a0] => (some (p_C_areForStories a0 σ), some (mI (v_C_areForStories a0 σ)), σ)
  | _ => (some False, none, σ)
noncomputable def E_C_areForStories : MEnt := ((1, 1, 12), (8, 166, 0, 0), S_C_areForStories, ((⟨"ClothWithMan", "areForStories", "(I)Z"⟩ : MethodName), prog_1_method_62_code, 2, (some .boolean)))

def T_C_areForStories : Nat → Option (Instr × Nat × List Nat) := fun k => bif Nat.blt k 26 then (bif Nat.blt k 11 then (bif Nat.blt k 3 then (bif Nat.blt k 1 then (bif Nat.beq k 0 then some (.aload_n 0, 1, []) else none) else (bif Nat.blt k 2 then (bif Nat.beq k 1 then some (.iload_n 1, 2, []) else none) else (bif Nat.beq k 2 then some (.iconst 1, 3, []) else none))) else (bif Nat.blt k 7 then (bif Nat.blt k 4 then (bif Nat.beq k 3 then some (.iconst 4, 4, []) else none) else (bif Nat.beq k 4 then some (.invokevirtual 229, 7, []) else none)) else (bif Nat.blt k 10 then (bif Nat.beq k 7 then some (.ifCond .eq 17, 10, [24]) else none) else (bif Nat.beq k 10 then some (.aload_n 0, 11, []) else none)))) else (bif Nat.blt k 20 then (bif Nat.blt k 14 then (bif Nat.beq k 11 then some (.getfield 37, 14, []) else none) else (bif Nat.blt k 17 then (bif Nat.beq k 14 then some (.invokevirtual 353, 17, []) else none) else (bif Nat.beq k 17 then some (.ifCond .ne 7, 20, [24]) else none))) else (bif Nat.blt k 24 then (bif Nat.blt k 21 then (bif Nat.beq k 20 then some (.iconst 1, 21, []) else none) else (bif Nat.beq k 21 then some (.goto 4, 24, [25]) else none)) else (bif Nat.blt k 25 then (bif Nat.beq k 24 then some (.iconst 0, 25, []) else none) else (bif Nat.beq k 25 then some (.ireturn, 26, []) else none))))) else none
noncomputable def P_C_areForStories : MP := (T_C_areForStories, (fun k => mLook k [(37, (12, 5, (.object "java/util/ArrayList"), true))]), (fun k => mLook k []), (fun k => mLook k [(229, E_C_areCounted), (353, E_AL_isEmpty)]), (fun k => mLook k []), (fun k => mLook k []), (fun k => mLook k []), (fun k => mLook k []), (fun k => [25].any (Nat.beq k)), (8, 166, 0, 0), false, (fun _ => none))
set_option maxRecDepth 100000 in
set_option maxHeartbeats 4000000 in
theorem q_C_areForStories_e (a1 : Int32) (σ : MSto) (n : Nat) : mexe KT P_C_areForStories (n + 1) (0, [some (mR 12 0), some (mI a1)], [], σ, 0, 0) = mG (p_C_areCounted a1 1 4 σ) (mIf ((v_C_areCounted a1 1 4 σ) = 0) (some (25, [], [(mI 0)], σ, 0, 0)) (mIf ((v_AL_isEmpty 15 0 σ) = 0) (some (25, [], [(mI 1)], σ, 0, 0)) (some (25, [], [(mI 0)], σ, 0, 0)))) := rfl
set_option maxRecDepth 100000 in
set_option maxHeartbeats 4000000 in
theorem d_C_areForStories (a1 : Int32) (σ : MSto) (hp : p_C_areForStories a1 σ) : mW1 P_C_areForStories (0, [some (mR 12 0), some (mI a1)], [], σ, 0, 0) (mF [25] [mI (v_C_areForStories a1 σ)] σ 0 0) := by
  refine mW1_eq (q_C_areForStories_e _ _) ?_
  unfold p_C_areForStories at hp
  unfold v_C_areForStories
  refine mTr_g hp ?_
  refine mTr_if (fun h0 => ?_) (fun h0 => ?_)
  · skip
    exact mTr_e (by decide) (bI_F (if_pos h0)) rfl (by decide) (by decide)
  · skip
    refine mTr_if (fun h1 => ?_) (fun h1 => ?_)
    · skip
      exact mTr_e (by decide) (bI_T ((if_neg h0).trans (if_pos h1))) rfl (by decide) (by decide)
    · skip
      exact mTr_e (by decide) (bI_F ((if_neg h0).trans (if_neg h1))) rfl (by decide) (by decide)
theorem li_C_353 : mLink "ClothWithMan" 353 E_AL_isEmpty := ⟨tw_4_87, tw_1_7, ⟨by decide, by decide⟩, by decide +kernel, Or.inl tw_4_84, (fun h => by cases h), (fun _ => ⟨tw_4_85, tw_4_86, TJx4a65c, 3, rfl⟩), (fun h => by cases h)⟩

theorem li_C_229 : mLink "ClothWithMan" 229 E_C_areCounted := ⟨tw_3_97, tw_1_1, ⟨by decide, by decide⟩, by decide +kernel, Or.inl tw_3_94, (fun h => by cases h), (fun _ => ⟨tw_3_96, tw_0_9, TX11, 20, rfl⟩), (fun h => by cases h)⟩

theorem tk_C_areForStories : ∀ pc i nx tg, T_C_areForStories pc = some (i, nx, tg) → mOkB prog_1_method_62_code pc i nx tg = true := code_ok (N := 26) (fun k h => by unfold T_C_areForStories; rw [h]; rfl) (by decide +kernel)
theorem ok_C_areForStories (l : Launch) : mPOK l "ClothWithMan" prog_1_method_62_code P_C_areForStories := by
  refine ⟨tk_C_areForStories, ?_, ?_, ?_, (fun pc i nx tg kd _ h => by cases h), ?_, ?_, fun pc en h => by cases h⟩
  · intro x ci f ty fin h
    exact mLook_all (Q := fun x v => mFOK "ClothWithMan" x v.1 v.2.1 v.2.2.1 v.2.2.2 ∧ (v.2.2.2 = true → pIni P_C_areForStories = true → (Cond.fieldLink "ClothWithMan" x (((mCl[v.1]?).getD ("", fun _ => ("", "", "", false), 0)).2.1 v.2.1).1 (((mCl[v.1]?).getD ("", fun _ => ("", "", "", false), 0)).2.1 v.2.1).2.1 (((mCl[v.1]?).getD ("", fun _ => ("", "", "", false), 0)).2.1 v.2.1).2.2.1 ∈ lw_tbl ∧ (((mCl[v.1]?).getD ("", fun _ => ("", "", "", false), 0)).2.1 v.2.1).1 = "ClothWithMan"))) (fcC ⟨fo_C_37, fun h1 h2 => by cases h2⟩ fcN) x (ci, f, ty, fin) h
  · intro x
    have hh := mLook_all (l := ([] : List (Nat × (Int32 ⊕ Int64)))) (Q := fun x (v : Int32 ⊕ Int64) => (∀ w, v = .inl w → Cond.constant "ClothWithMan" x w ∈ lw_tbl) ∧ (∀ w, v = .inr w → Cond.constantLong "ClothWithMan" x w ∈ lw_tbl)) fcN x
    exact ⟨fun w h => (hh _ h).1 w rfl, fun w h => (hh _ h).2 w rfl⟩
  · exact fun x en h => mLook_all (Q := fun x en => mLink "ClothWithMan" x en ∧ mCtr l en ∧ (en.1.1 = 2 → en.2.2.2.2.2.2 = none)) (fcC ⟨li_C_229, c_C_areCounted l, (fun h => by cases h)⟩ (fcC ⟨li_C_353, c_AL_isEmpty l, (fun h => by cases h)⟩ fcN)) x en h
  · exact fun x kd h => mLook_all (Q := fun x kd => (kd = 95 ∧ Cond.fieldLink "ClothWithMan" x "ClothWithMan" "LIKENESSES" "[I" ∈ lw_tbl) ∨ (kd = 96 ∧ Cond.fieldLink "ClothWithMan" x "ClothWithMan" "APART_BOUNDS" "[I" ∈ lw_tbl)) fcN x kd h
  · exact fun x ci h => mLook_all (Q := fun x ci => ci ≠ 0 ∧ ∃ (C : String) (T : u_T) (N : Nat), mCl[ci]? = some (C, T, N) ∧ Cond.classLink "ClothWithMan" x C ∈ lw_tbl ∧ Cond.instantiable C N ∈ lw_tbl) fcN x ci h
set_option maxRecDepth 100000 in
theorem c_C_areForStories (l : Launch) : mCtr l E_C_areForStories := mCtr_of (P := P_C_areForStories) (own := "ClothWithMan") mLay_ok rfl (by decide +kernel) rfl (ok_C_areForStories l) (fun h => by cases h) (fun as σ pr rv σ' hF hpr hlv => by
  unfold E_C_areForStories S_C_areForStories at hF
  simp only [] at hF
  split at hF
  · cases hF
    obtain ⟨n, pcF, c1, s1, g1, g2, g3, g4⟩ := mF_inv (d_C_areForStories _ σ (hpr _ rfl))
    exact ⟨Nat.le_of_ble_eq_true rfl, (fun v h => by cases h; trivial), n, pcF, c1, s1, g1, ⟨mEnd_of (i := .ireturn) (P := P_C_areForStories) (rets := [25]) rfl g2, bI_narrow _⟩, g3, g4⟩
  · cases hF
    exact (hpr _ rfl).elim)
/-! ClothWithMan.trueOf(LClothWithMan$Piece;)I -/
noncomputable def v_C_trueOf (a1 : Nat) (σ : MSto) : Int32 := ((v_Cl_threadAt (gI σ 7 a1 0) (gI σ 7 a1 1) (gI σ 7 a1 2) σ) + (gI σ 20 0 (Int32.toNatClampNeg (gI σ 7 a1 3))))
def p_C_trueOf (a1 : Nat) (σ : MSto) : Prop := ((p_Cl_threadAt (gI σ 7 a1 0) (gI σ 7 a1 1) (gI σ 7 a1 2) σ) ∧ (vp_in (gI σ 7 a1 3) 6))
noncomputable def S_C_trueOf : List MV → MSto → Option Prop × Option MV × MSto := fun as σ => match as with
  | [.inr (.inr (some (12, 0))), .inr (.inr (some (7, a0)))] => (some (p_C_trueOf a0 σ), some (mI (v_C_trueOf a0 σ)), σ)
  | _ => (some False, none, σ)
noncomputable def E_C_trueOf : MEnt := ((1, 1, 12), (8, 174, 0, 0), S_C_trueOf, ((⟨"ClothWithMan", "trueOf", "(LClothWithMan$Piece;)I"⟩ : MethodName), prog_1_method_69_code, 2, (some .int)))

def T_C_trueOf : Nat → Option (Instr × Nat × List Nat) := fun k => bif Nat.blt k 30 then (bif Nat.blt k 16 then (bif Nat.blt k 8 then (bif Nat.blt k 4 then (bif Nat.blt k 1 then (bif Nat.beq k 0 then some (.aload_n 0, 1, []) else none) else (bif Nat.beq k 1 then some (.getfield 19, 4, []) else none)) else (bif Nat.blt k 5 then (bif Nat.beq k 4 then some (.aload_n 1, 5, []) else none) else (bif Nat.beq k 5 then some (.getfield 436, 8, []) else none))) else (bif Nat.blt k 12 then (bif Nat.blt k 9 then (bif Nat.beq k 8 then some (.aload_n 1, 9, []) else none) else (bif Nat.beq k 9 then some (.getfield 439, 12, []) else none)) else (bif Nat.blt k 13 then (bif Nat.beq k 12 then some (.aload_n 1, 13, []) else none) else (bif Nat.beq k 13 then some (.getfield 442, 16, []) else none)))) else (bif Nat.blt k 24 then (bif Nat.blt k 20 then (bif Nat.blt k 19 then (bif Nat.beq k 16 then some (.invokevirtual 164, 19, []) else none) else (bif Nat.beq k 19 then some (.aload_n 0, 20, []) else none)) else (bif Nat.blt k 23 then (bif Nat.beq k 20 then some (.getfield 23, 23, []) else none) else (bif Nat.beq k 23 then some (.aload_n 1, 24, []) else none))) else (bif Nat.blt k 28 then (bif Nat.blt k 27 then (bif Nat.beq k 24 then some (.getfield 195, 27, []) else none) else (bif Nat.beq k 27 then some (.iaload, 28, []) else none)) else (bif Nat.blt k 29 then (bif Nat.beq k 28 then some (.iadd, 29, []) else none) else (bif Nat.beq k 29 then some (.ireturn, 30, []) else none))))) else none
noncomputable def P_C_trueOf : MP := (T_C_trueOf, (fun k => mLook k [(19, (12, 1, (.object "ClothWithMan$Cloth"), true)), (23, (12, 2, (.array .int), true)), (195, (7, 3, .int, true)), (436, (7, 0, .int, true)), (439, (7, 1, .int, true)), (442, (7, 2, .int, true))]), (fun k => mLook k []), (fun k => mLook k [(164, E_Cl_threadAt)]), (fun k => mLook k []), (fun k => mLook k []), (fun k => mLook k []), (fun k => mLook k []), (fun k => [29].any (Nat.beq k)), (8, 174, 0, 0), false, (fun _ => none))
set_option maxRecDepth 100000 in
set_option maxHeartbeats 4000000 in
theorem q_C_trueOf_e (a1 : Nat) (σ : MSto) (n : Nat) : mexe KT P_C_trueOf (n + 1) (0, [some (mR 12 0), some (mR 7 a1)], [], σ, 0, 0) = mG (p_Cl_threadAt (gI σ 7 a1 0) (gI σ 7 a1 1) (gI σ 7 a1 2) σ) (mG (vp_in (gI σ 7 a1 3) 6) (some (29, [], [(mI ((v_Cl_threadAt (gI σ 7 a1 0) (gI σ 7 a1 1) (gI σ 7 a1 2) σ) + (gI σ 20 0 (Int32.toNatClampNeg (gI σ 7 a1 3)))))], σ, 0, 0))) := rfl
set_option maxRecDepth 100000 in
set_option maxHeartbeats 4000000 in
theorem d_C_trueOf (a1 : Nat) (σ : MSto) (hp : p_C_trueOf a1 σ) : mW1 P_C_trueOf (0, [some (mR 12 0), some (mR 7 a1)], [], σ, 0, 0) (mF [29] [mI (v_C_trueOf a1 σ)] σ 0 0) := by
  refine mW1_eq (q_C_trueOf_e _ _) ?_
  unfold p_C_trueOf at hp
  refine mTr_g hp.1 ?_
  have hp := hp.2
  refine mTr_g hp ?_
  exact mTr_e (by decide) (congrArg (fun z => [mI z]) (Eq.symm (rfl))) rfl (by decide) (by decide)
theorem li_C_164 : mLink "ClothWithMan" 164 E_Cl_threadAt := ⟨tw_2_212, tw_1_3, ⟨by decide, by decide⟩, by decide +kernel, Or.inl tw_2_209, (fun h => by cases h), (fun _ => ⟨tw_2_210, tw_2_211, TX0, 5, rfl⟩), (fun h => by cases h)⟩

theorem tk_C_trueOf : ∀ pc i nx tg, T_C_trueOf pc = some (i, nx, tg) → mOkB prog_1_method_69_code pc i nx tg = true := code_ok (N := 30) (fun k h => by unfold T_C_trueOf; rw [h]; rfl) (by decide +kernel)
theorem ok_C_trueOf (l : Launch) : mPOK l "ClothWithMan" prog_1_method_69_code P_C_trueOf := by
  refine ⟨tk_C_trueOf, ?_, ?_, ?_, (fun pc i nx tg kd _ h => by cases h), ?_, ?_, fun pc en h => by cases h⟩
  · intro x ci f ty fin h
    exact mLook_all (Q := fun x v => mFOK "ClothWithMan" x v.1 v.2.1 v.2.2.1 v.2.2.2 ∧ (v.2.2.2 = true → pIni P_C_trueOf = true → (Cond.fieldLink "ClothWithMan" x (((mCl[v.1]?).getD ("", fun _ => ("", "", "", false), 0)).2.1 v.2.1).1 (((mCl[v.1]?).getD ("", fun _ => ("", "", "", false), 0)).2.1 v.2.1).2.1 (((mCl[v.1]?).getD ("", fun _ => ("", "", "", false), 0)).2.1 v.2.1).2.2.1 ∈ lw_tbl ∧ (((mCl[v.1]?).getD ("", fun _ => ("", "", "", false), 0)).2.1 v.2.1).1 = "ClothWithMan"))) (fcC ⟨fo_C_19, fun h1 h2 => by cases h2⟩ (fcC ⟨fo_C_23, fun h1 h2 => by cases h2⟩ (fcC ⟨fo_C_195, fun h1 h2 => by cases h2⟩ (fcC ⟨fo_C_436, fun h1 h2 => by cases h2⟩ (fcC ⟨fo_C_439, fun h1 h2 => by cases h2⟩ (fcC ⟨fo_C_442, fun h1 h2 => by cases h2⟩ fcN)))))) x (ci, f, ty, fin) h
  · intro x
    have hh := mLook_all (l := ([] : List (Nat × (Int32 ⊕ Int64)))) (Q := fun x (v : Int32 ⊕ Int64) => (∀ w, v = .inl w → Cond.constant "ClothWithMan" x w ∈ lw_tbl) ∧ (∀ w, v = .inr w → Cond.constantLong "ClothWithMan" x w ∈ lw_tbl)) fcN x
    exact ⟨fun w h => (hh _ h).1 w rfl, fun w h => (hh _ h).2 w rfl⟩
  · exact fun x en h => mLook_all (Q := fun x en => mLink "ClothWithMan" x en ∧ mCtr l en ∧ (en.1.1 = 2 → en.2.2.2.2.2.2 = none)) (fcC ⟨li_C_164, c_Cl_threadAt l, (fun h => by cases h)⟩ fcN) x en h
  · exact fun x kd h => mLook_all (Q := fun x kd => (kd = 95 ∧ Cond.fieldLink "ClothWithMan" x "ClothWithMan" "LIKENESSES" "[I" ∈ lw_tbl) ∨ (kd = 96 ∧ Cond.fieldLink "ClothWithMan" x "ClothWithMan" "APART_BOUNDS" "[I" ∈ lw_tbl)) fcN x kd h
  · exact fun x ci h => mLook_all (Q := fun x ci => ci ≠ 0 ∧ ∃ (C : String) (T : u_T) (N : Nat), mCl[ci]? = some (C, T, N) ∧ Cond.classLink "ClothWithMan" x C ∈ lw_tbl ∧ Cond.instantiable C N ∈ lw_tbl) fcN x ci h
set_option maxRecDepth 100000 in
theorem c_C_trueOf (l : Launch) : mCtr l E_C_trueOf := mCtr_of (P := P_C_trueOf) (own := "ClothWithMan") mLay_ok rfl (by decide +kernel) rfl (ok_C_trueOf l) (fun h => by cases h) (fun as σ pr rv σ' hF hpr hlv => by
  unfold E_C_trueOf S_C_trueOf at hF
  simp only [] at hF
  split at hF
  · cases hF
    obtain ⟨n, pcF, c1, s1, g1, g2, g3, g4⟩ := mF_inv (d_C_trueOf _ σ (hpr _ rfl))
    exact ⟨Nat.le_of_ble_eq_true rfl, (fun v h => by cases h; trivial), n, pcF, c1, s1, g1, ⟨mEnd_of (i := .ireturn) (P := P_C_trueOf) (rets := [29]) rfl g2, rfl⟩, g3, g4⟩
  · cases hF
    exact (hpr _ rfl).elim)
/-! ClothWithMan.lotOf(I)I -/
noncomputable def v_C_lotOf (a1 : Int32) (σ : MSto) : Int32 := (if a1 ≤ 0 then 0 else ((Int32.toUInt32 (gI (sI σ 12 0 12 (((gI σ 12 0 12) * 1103515245) + 12345)) 12 0 12) >>> (Int32.toUInt32 16 &&& Int32.toUInt32 31)).toInt32 - (Int32.toUInt32 (gI (sI σ 12 0 12 (((gI σ 12 0 12) * 1103515245) + 12345)) 12 0 12) >>> (Int32.toUInt32 16 &&& Int32.toUInt32 31)).toInt32 / a1 * a1))
def p_C_lotOf (a1 : Int32) (σ : MSto) : Prop := (¬ (a1 ≤ 0) → (¬ (a1 : Int32) = 0))
noncomputable def e_C_lotOf (a1 : Int32) (σ : MSto) : MSto := (sI σ 12 0 12 (((gI σ 12 0 12) * 1103515245) + 12345))
noncomputable def S_C_lotOf : List MV → MSto → Option Prop × Option MV × MSto := fun as σ => match as with
  | [.inr (.inr (some (12, 0))), .inl a0] => (some (p_C_lotOf a0 σ), some (mI (v_C_lotOf a0 σ)), e_C_lotOf a0 σ)
  | _ => (some False, none, σ)
noncomputable def E_C_lotOf : MEnt := ((1, 1, 12), (0, 0, 0, 0), S_C_lotOf, ((⟨"ClothWithMan", "lotOf", "(I)I"⟩ : MethodName), prog_1_method_70_code, 2, (some .int)))

def T_C_lotOf : Nat → Option (Instr × Nat × List Nat) := fun k => bif Nat.blt k 34 then (bif Nat.blt k 17 then (bif Nat.blt k 8 then (bif Nat.blt k 2 then (bif Nat.blt k 1 then (bif Nat.beq k 0 then some (.aload_n 0, 1, []) else none) else (bif Nat.beq k 1 then some (.aload_n 0, 2, []) else none)) else (bif Nat.blt k 5 then (bif Nat.beq k 2 then some (.getfield 71, 5, []) else none) else (bif Nat.beq k 5 then some (.ldc_w 445, 8, []) else none))) else (bif Nat.blt k 12 then (bif Nat.blt k 9 then (bif Nat.beq k 8 then some (.imul, 9, []) else none) else (bif Nat.beq k 9 then some (.sipush 12345, 12, []) else none)) else (bif Nat.blt k 13 then (bif Nat.beq k 12 then some (.iadd, 13, []) else none) else (bif Nat.blt k 16 then (bif Nat.beq k 13 then some (.putfield 71, 16, []) else none) else (bif Nat.beq k 16 then some (.iload_n 1, 17, []) else none))))) else (bif Nat.blt k 27 then (bif Nat.blt k 21 then (bif Nat.blt k 20 then (bif Nat.beq k 17 then some (.ifCond .le 15, 20, [32]) else none) else (bif Nat.beq k 20 then some (.aload_n 0, 21, []) else none)) else (bif Nat.blt k 24 then (bif Nat.beq k 21 then some (.getfield 71, 24, []) else none) else (bif Nat.blt k 26 then (bif Nat.beq k 24 then some (.bipush 16, 26, []) else none) else (bif Nat.beq k 26 then some (.iushr, 27, []) else none)))) else (bif Nat.blt k 29 then (bif Nat.blt k 28 then (bif Nat.beq k 27 then some (.iload_n 1, 28, []) else none) else (bif Nat.beq k 28 then some (.irem, 29, []) else none)) else (bif Nat.blt k 32 then (bif Nat.beq k 29 then some (.goto 4, 32, [33]) else none) else (bif Nat.blt k 33 then (bif Nat.beq k 32 then some (.iconst 0, 33, []) else none) else (bif Nat.beq k 33 then some (.ireturn, 34, []) else none)))))) else none
noncomputable def P_C_lotOf : MP := (T_C_lotOf, (fun k => mLook k [(71, (12, 12, .int, false))]), (fun k => mLook k [(445, .inl 1103515245)]), (fun k => mLook k []), (fun k => mLook k []), (fun k => mLook k []), (fun k => mLook k []), (fun k => mLook k []), (fun k => [33].any (Nat.beq k)), (0, 0, 0, 0), false, (fun _ => none))
set_option maxRecDepth 100000 in
set_option maxHeartbeats 4000000 in
theorem q_C_lotOf_e (a1 : Int32) (σ : MSto) (n : Nat) : mexe KT P_C_lotOf (n + 1) (0, [some (mR 12 0), some (mI a1)], [], σ, 0, 0) = mIf (a1 ≤ 0) (some (33, [], [(mI 0)], (sI σ 12 0 12 (((gI σ 12 0 12) * 1103515245) + 12345)), 0, 0)) (mG (¬ (a1 : Int32) = 0) (some (33, [], [(mI ((Int32.toUInt32 (gI (sI σ 12 0 12 (((gI σ 12 0 12) * 1103515245) + 12345)) 12 0 12) >>> (Int32.toUInt32 16 &&& Int32.toUInt32 31)).toInt32 - (Int32.toUInt32 (gI (sI σ 12 0 12 (((gI σ 12 0 12) * 1103515245) + 12345)) 12 0 12) >>> (Int32.toUInt32 16 &&& Int32.toUInt32 31)).toInt32 / a1 * a1))], (sI σ 12 0 12 (((gI σ 12 0 12) * 1103515245) + 12345)), 0, 0))) := rfl
set_option maxRecDepth 100000 in
set_option maxHeartbeats 4000000 in
theorem d_C_lotOf (a1 : Int32) (σ : MSto) (hp : p_C_lotOf a1 σ) : mW1 P_C_lotOf (0, [some (mR 12 0), some (mI a1)], [], σ, 0, 0) (mF [33] [mI (v_C_lotOf a1 σ)] (e_C_lotOf a1 σ) 0 0) := by
  refine mW1_eq (q_C_lotOf_e _ _) ?_
  unfold p_C_lotOf at hp
  refine mTr_if (fun h0 => ?_) (fun h0 => ?_)
  · skip
    exact mTr_e (by decide) (congrArg (fun z => [mI z]) (Eq.symm (if_pos h0))) (Eq.symm (rfl)) (by decide) (by decide)
  · skip
    have hp := hp h0
    refine mTr_g hp ?_
    exact mTr_e (by decide) (congrArg (fun z => [mI z]) (Eq.symm (if_neg h0))) (Eq.symm (rfl)) (by decide) (by decide)
theorem tk_C_lotOf : ∀ pc i nx tg, T_C_lotOf pc = some (i, nx, tg) → mOkB prog_1_method_70_code pc i nx tg = true := code_ok (N := 34) (fun k h => by unfold T_C_lotOf; rw [h]; rfl) (by decide +kernel)
theorem ok_C_lotOf (l : Launch) : mPOK l "ClothWithMan" prog_1_method_70_code P_C_lotOf := by
  refine ⟨tk_C_lotOf, ?_, ?_, ?_, (fun pc i nx tg kd _ h => by cases h), ?_, ?_, fun pc en h => by cases h⟩
  · intro x ci f ty fin h
    exact mLook_all (Q := fun x v => mFOK "ClothWithMan" x v.1 v.2.1 v.2.2.1 v.2.2.2 ∧ (v.2.2.2 = true → pIni P_C_lotOf = true → (Cond.fieldLink "ClothWithMan" x (((mCl[v.1]?).getD ("", fun _ => ("", "", "", false), 0)).2.1 v.2.1).1 (((mCl[v.1]?).getD ("", fun _ => ("", "", "", false), 0)).2.1 v.2.1).2.1 (((mCl[v.1]?).getD ("", fun _ => ("", "", "", false), 0)).2.1 v.2.1).2.2.1 ∈ lw_tbl ∧ (((mCl[v.1]?).getD ("", fun _ => ("", "", "", false), 0)).2.1 v.2.1).1 = "ClothWithMan"))) (fcC ⟨fo_C_71, fun h1 h2 => by cases h1⟩ fcN) x (ci, f, ty, fin) h
  · intro x
    have hh := mLook_all (l := ([(445, .inl 1103515245)] : List (Nat × (Int32 ⊕ Int64)))) (Q := fun x (v : Int32 ⊕ Int64) => (∀ w, v = .inl w → Cond.constant "ClothWithMan" x w ∈ lw_tbl) ∧ (∀ w, v = .inr w → Cond.constantLong "ClothWithMan" x w ∈ lw_tbl)) (fcC ⟨(fun v h => by cases h; exact tw_5_163), fun v h => by cases h⟩ fcN) x
    exact ⟨fun w h => (hh _ h).1 w rfl, fun w h => (hh _ h).2 w rfl⟩
  · exact fun x en h => mLook_all (Q := fun x en => mLink "ClothWithMan" x en ∧ mCtr l en ∧ (en.1.1 = 2 → en.2.2.2.2.2.2 = none)) fcN x en h
  · exact fun x kd h => mLook_all (Q := fun x kd => (kd = 95 ∧ Cond.fieldLink "ClothWithMan" x "ClothWithMan" "LIKENESSES" "[I" ∈ lw_tbl) ∨ (kd = 96 ∧ Cond.fieldLink "ClothWithMan" x "ClothWithMan" "APART_BOUNDS" "[I" ∈ lw_tbl)) fcN x kd h
  · exact fun x ci h => mLook_all (Q := fun x ci => ci ≠ 0 ∧ ∃ (C : String) (T : u_T) (N : Nat), mCl[ci]? = some (C, T, N) ∧ Cond.classLink "ClothWithMan" x C ∈ lw_tbl ∧ Cond.instantiable C N ∈ lw_tbl) fcN x ci h
set_option maxRecDepth 100000 in
theorem c_C_lotOf (l : Launch) : mCtr l E_C_lotOf := mCtr_of (P := P_C_lotOf) (own := "ClothWithMan") mLay_ok rfl (by decide +kernel) rfl (ok_C_lotOf l) (fun h => by cases h) (fun as σ pr rv σ' hF hpr hlv => by
  unfold E_C_lotOf S_C_lotOf at hF
  simp only [] at hF
  split at hF
  · cases hF
    obtain ⟨n, pcF, c1, s1, g1, g2, g3, g4⟩ := mF_inv (d_C_lotOf _ σ (hpr _ rfl))
    exact ⟨Nat.le_of_ble_eq_true rfl, (fun v h => by cases h; trivial), n, pcF, c1, s1, g1, ⟨mEnd_of (i := .ireturn) (P := P_C_lotOf) (rets := [33]) rfl g2, rfl⟩, g3, g4⟩
  · cases hF
    exact (hpr _ rfl).elim)
/-! ClothWithMan.cleanNumber(LClothWithMan$Piece;)I -/
noncomputable def v_C_cleanNumber (a1 : Nat) (σ : MSto) : Int32 := ((gI σ 7 a1 5) - (gI σ 20 0 (Int32.toNatClampNeg (gI σ 7 a1 3))))
def p_C_cleanNumber (a1 : Nat) (σ : MSto) : Prop := (vp_in (gI σ 7 a1 3) 6)
noncomputable def S_C_cleanNumber : List MV → MSto → Option Prop × Option MV × MSto := fun as σ => match as with
  | [.inr (.inr (some (12, 0))), .inr (.inr (some (7, a0)))] => (some (p_C_cleanNumber a0 σ), some (mI (v_C_cleanNumber a0 σ)), σ)
  | _ => (some False, none, σ)
noncomputable def E_C_cleanNumber : MEnt := ((1, 1, 12), (0, 0, 0, 0), S_C_cleanNumber, ((⟨"ClothWithMan", "cleanNumber", "(LClothWithMan$Piece;)I"⟩ : MethodName), prog_1_method_72_code, 2, (some .int)))

def T_C_cleanNumber : Nat → Option (Instr × Nat × List Nat) := fun k => bif Nat.blt k 15 then (bif Nat.blt k 8 then (bif Nat.blt k 4 then (bif Nat.blt k 1 then (bif Nat.beq k 0 then some (.aload_n 1, 1, []) else none) else (bif Nat.beq k 1 then some (.getfield 201, 4, []) else none)) else (bif Nat.blt k 5 then (bif Nat.beq k 4 then some (.aload_n 0, 5, []) else none) else (bif Nat.beq k 5 then some (.getfield 23, 8, []) else none))) else (bif Nat.blt k 12 then (bif Nat.blt k 9 then (bif Nat.beq k 8 then some (.aload_n 1, 9, []) else none) else (bif Nat.beq k 9 then some (.getfield 195, 12, []) else none)) else (bif Nat.blt k 13 then (bif Nat.beq k 12 then some (.iaload, 13, []) else none) else (bif Nat.blt k 14 then (bif Nat.beq k 13 then some (.isub, 14, []) else none) else (bif Nat.beq k 14 then some (.ireturn, 15, []) else none))))) else none
noncomputable def P_C_cleanNumber : MP := (T_C_cleanNumber, (fun k => mLook k [(23, (12, 2, (.array .int), true)), (195, (7, 3, .int, true)), (201, (7, 5, .int, false))]), (fun k => mLook k []), (fun k => mLook k []), (fun k => mLook k []), (fun k => mLook k []), (fun k => mLook k []), (fun k => mLook k []), (fun k => [14].any (Nat.beq k)), (0, 0, 0, 0), false, (fun _ => none))
set_option maxRecDepth 100000 in
set_option maxHeartbeats 4000000 in
theorem q_C_cleanNumber_e (a1 : Nat) (σ : MSto) (n : Nat) : mexe KT P_C_cleanNumber (n + 1) (0, [some (mR 12 0), some (mR 7 a1)], [], σ, 0, 0) = mG (vp_in (gI σ 7 a1 3) 6) (some (14, [], [(mI ((gI σ 7 a1 5) - (gI σ 20 0 (Int32.toNatClampNeg (gI σ 7 a1 3)))))], σ, 0, 0)) := rfl
set_option maxRecDepth 100000 in
set_option maxHeartbeats 4000000 in
theorem d_C_cleanNumber (a1 : Nat) (σ : MSto) (hp : p_C_cleanNumber a1 σ) : mW1 P_C_cleanNumber (0, [some (mR 12 0), some (mR 7 a1)], [], σ, 0, 0) (mF [14] [mI (v_C_cleanNumber a1 σ)] σ 0 0) := by
  refine mW1_eq (q_C_cleanNumber_e _ _) ?_
  unfold p_C_cleanNumber at hp
  refine mTr_g hp ?_
  exact mTr_e (by decide) (congrArg (fun z => [mI z]) (Eq.symm (rfl))) rfl (by decide) (by decide)
theorem tk_C_cleanNumber : ∀ pc i nx tg, T_C_cleanNumber pc = some (i, nx, tg) → mOkB prog_1_method_72_code pc i nx tg = true := code_ok (N := 15) (fun k h => by unfold T_C_cleanNumber; rw [h]; rfl) (by decide +kernel)
theorem ok_C_cleanNumber (l : Launch) : mPOK l "ClothWithMan" prog_1_method_72_code P_C_cleanNumber := by
  refine ⟨tk_C_cleanNumber, ?_, ?_, ?_, (fun pc i nx tg kd _ h => by cases h), ?_, ?_, fun pc en h => by cases h⟩
  · intro x ci f ty fin h
    exact mLook_all (Q := fun x v => mFOK "ClothWithMan" x v.1 v.2.1 v.2.2.1 v.2.2.2 ∧ (v.2.2.2 = true → pIni P_C_cleanNumber = true → (Cond.fieldLink "ClothWithMan" x (((mCl[v.1]?).getD ("", fun _ => ("", "", "", false), 0)).2.1 v.2.1).1 (((mCl[v.1]?).getD ("", fun _ => ("", "", "", false), 0)).2.1 v.2.1).2.1 (((mCl[v.1]?).getD ("", fun _ => ("", "", "", false), 0)).2.1 v.2.1).2.2.1 ∈ lw_tbl ∧ (((mCl[v.1]?).getD ("", fun _ => ("", "", "", false), 0)).2.1 v.2.1).1 = "ClothWithMan"))) (fcC ⟨fo_C_23, fun h1 h2 => by cases h2⟩ (fcC ⟨fo_C_195, fun h1 h2 => by cases h2⟩ (fcC ⟨fo_C_201, fun h1 h2 => by cases h1⟩ fcN))) x (ci, f, ty, fin) h
  · intro x
    have hh := mLook_all (l := ([] : List (Nat × (Int32 ⊕ Int64)))) (Q := fun x (v : Int32 ⊕ Int64) => (∀ w, v = .inl w → Cond.constant "ClothWithMan" x w ∈ lw_tbl) ∧ (∀ w, v = .inr w → Cond.constantLong "ClothWithMan" x w ∈ lw_tbl)) fcN x
    exact ⟨fun w h => (hh _ h).1 w rfl, fun w h => (hh _ h).2 w rfl⟩
  · exact fun x en h => mLook_all (Q := fun x en => mLink "ClothWithMan" x en ∧ mCtr l en ∧ (en.1.1 = 2 → en.2.2.2.2.2.2 = none)) fcN x en h
  · exact fun x kd h => mLook_all (Q := fun x kd => (kd = 95 ∧ Cond.fieldLink "ClothWithMan" x "ClothWithMan" "LIKENESSES" "[I" ∈ lw_tbl) ∨ (kd = 96 ∧ Cond.fieldLink "ClothWithMan" x "ClothWithMan" "APART_BOUNDS" "[I" ∈ lw_tbl)) fcN x kd h
  · exact fun x ci h => mLook_all (Q := fun x ci => ci ≠ 0 ∧ ∃ (C : String) (T : u_T) (N : Nat), mCl[ci]? = some (C, T, N) ∧ Cond.classLink "ClothWithMan" x C ∈ lw_tbl ∧ Cond.instantiable C N ∈ lw_tbl) fcN x ci h
set_option maxRecDepth 100000 in
theorem c_C_cleanNumber (l : Launch) : mCtr l E_C_cleanNumber := mCtr_of (P := P_C_cleanNumber) (own := "ClothWithMan") mLay_ok rfl (by decide +kernel) rfl (ok_C_cleanNumber l) (fun h => by cases h) (fun as σ pr rv σ' hF hpr hlv => by
  unfold E_C_cleanNumber S_C_cleanNumber at hF
  simp only [] at hF
  split at hF
  · cases hF
    obtain ⟨n, pcF, c1, s1, g1, g2, g3, g4⟩ := mF_inv (d_C_cleanNumber _ σ (hpr _ rfl))
    exact ⟨Nat.le_of_ble_eq_true rfl, (fun v h => by cases h; trivial), n, pcF, c1, s1, g1, ⟨mEnd_of (i := .ireturn) (P := P_C_cleanNumber) (rets := [14]) rfl g2, rfl⟩, g3, g4⟩
  · cases hF
    exact (hpr _ rfl).elim)
/-! ClothWithMan.weightOf(II)J -/
noncomputable def t_C_weightOf_18 (x2 : Int32) (x3 : Int32) (c : Int32) (σ : MSto) (s : Int64) : Int64 := (if (v_C_pieceCount σ) ≤ c then s else (if (v_C_has x2 c σ) = 0 then s else (s * (Int32.toInt64 (v_C_likenessOf (v_C_cleanNumber (v_AL_get 14 0 c σ) σ) x3 (gI σ 21 0 (Int32.toNatClampNeg (gI σ 7 (v_AL_get 14 0 c σ) 3))) σ)))))
noncomputable def q_C_weightOf_18s (x2 : Int32) (x3 : Int32) (c : Int32) (σ : MSto) (s : Int64) : Nat := (if (v_C_pieceCount σ) ≤ c then 1 else 0)
def g_C_weightOf_18 (x2 : Int32) (x3 : Int32) (c : Int32) (σ : MSto) (s : Int64) : Prop := (¬ ((v_C_pieceCount σ) ≤ c) → (¬ ((v_C_has x2 c σ) = 0) → ((p_AL_get 14 0 c σ) ∧ ((p_C_cleanNumber (v_AL_get 14 0 c σ) σ) ∧ ((vp_in (gI σ 7 (v_AL_get 14 0 c σ) 3) 6) ∧ (p_C_likenessOf (v_C_cleanNumber (v_AL_get 14 0 c σ) σ) x3 (gI σ 21 0 (Int32.toNatClampNeg (gI σ 7 (v_AL_get 14 0 c σ) 3))) σ))))))
noncomputable def f_C_weightOf_18 (x2 : Int32) (x3 : Int32) (c0 : Int32) (σ : MSto) (s0 : Int64) (n : Nat) : Int64 := nfold (fun i s => t_C_weightOf_18 x2 x3 (c0 + nI i) σ s) s0 n
noncomputable def n_C_weightOf_18 (x2 : Int32) (x3 : Int32) (c0 : Int32) (σ : MSto) (s0 : Int64) : Nat := (v_C_pieceCount σ).toNatClampNeg
noncomputable def v_C_weightOf (a1 : Int32) (a2 : Int32) (σ : MSto) : Int64 := (f_C_weightOf_18 a2 (v_Cu_at a1 σ) 0 σ 1 (n_C_weightOf_18 a2 (v_Cu_at a1 σ) 0 σ 1))
def p_C_weightOf (a1 : Int32) (a2 : Int32) (σ : MSto) : Prop := ((p_Cu_at a1 σ) ∧ ((∀ i, i < (n_C_weightOf_18 a2 (v_Cu_at a1 σ) 0 σ 1) → g_C_weightOf_18 a2 (v_Cu_at a1 σ) (0 + nI i) σ (f_C_weightOf_18 a2 (v_Cu_at a1 σ) 0 σ 1 i) ∧ ¬ q_C_weightOf_18s a2 (v_Cu_at a1 σ) (0 + nI i) σ (f_C_weightOf_18 a2 (v_Cu_at a1 σ) 0 σ 1 i) = 1) ∧ (¬ ((v_C_pieceCount σ) ≤ (0 + nI (n_C_weightOf_18 a2 (v_Cu_at a1 σ) 0 σ 1))) → False)))
noncomputable def S_C_weightOf : List MV → MSto → Option Prop × Option MV × MSto := fun as σ => match as with
  | [.inr (.inr (some (12, 0))), .inl a0, .inl a1] => (some (p_C_weightOf a0 a1 σ), some (mJ (v_C_weightOf a0 a1 σ)), σ)
  | _ => (some False, none, σ)
noncomputable def E_C_weightOf : MEnt := ((1, 2, 12), (6, 121, 0, 0), S_C_weightOf, ((⟨"ClothWithMan", "weightOf", "(II)J"⟩ : MethodName), prog_1_method_76_code, 8, (some .long)))

def T_C_weightOf : Nat → Option (Instr × Nat × List Nat) := fun k => bif Nat.blt k 85 then (bif Nat.blt k 42 then (bif Nat.blt k 18 then (bif Nat.blt k 11 then (bif Nat.blt k 4 then (bif Nat.blt k 1 then (bif Nat.beq k 0 then some (.aload_n 0, 1, []) else none) else (bif Nat.beq k 1 then some (.getfield 19, 4, []) else none)) else (bif Nat.blt k 7 then (bif Nat.beq k 4 then some (.getfield 106, 7, []) else none) else (bif Nat.blt k 8 then (bif Nat.beq k 7 then some (.iload_n 1, 8, []) else none) else (bif Nat.beq k 8 then some (.invokevirtual 119, 11, []) else none)))) else (bif Nat.blt k 13 then (bif Nat.blt k 12 then (bif Nat.beq k 11 then some (.istore_n 3, 12, []) else none) else (bif Nat.beq k 12 then some (.lconst 1, 13, []) else none)) else (bif Nat.blt k 15 then (bif Nat.beq k 13 then some (.lstore 4, 15, []) else none) else (bif Nat.blt k 16 then (bif Nat.beq k 15 then some (.iconst 0, 16, []) else none) else (bif Nat.beq k 16 then some (.istore 6, 18, []) else none))))) else (bif Nat.blt k 28 then (bif Nat.blt k 21 then (bif Nat.blt k 20 then (bif Nat.beq k 18 then some (.iload 6, 20, []) else none) else (bif Nat.beq k 20 then some (.aload_n 0, 21, []) else none)) else (bif Nat.blt k 24 then (bif Nat.beq k 21 then some (.invokevirtual 281, 24, []) else none) else (bif Nat.blt k 27 then (bif Nat.beq k 24 then some (.if_icmp .ge 58, 27, [82]) else none) else (bif Nat.beq k 27 then some (.iload_n 2, 28, []) else none)))) else (bif Nat.blt k 36 then (bif Nat.blt k 30 then (bif Nat.beq k 28 then some (.iload 6, 30, []) else none) else (bif Nat.blt k 33 then (bif Nat.beq k 30 then some (.invokestatic 284, 33, []) else none) else (bif Nat.beq k 33 then some (.ifCond .eq 43, 36, [76]) else none))) else (bif Nat.blt k 37 then (bif Nat.beq k 36 then some (.aload_n 0, 37, []) else none) else (bif Nat.blt k 40 then (bif Nat.beq k 37 then some (.getfield 33, 40, []) else none) else (bif Nat.beq k 40 then some (.iload 6, 42, []) else none)))))) else (bif Nat.blt k 63 then (bif Nat.blt k 53 then (bif Nat.blt k 48 then (bif Nat.blt k 45 then (bif Nat.beq k 42 then some (.invokevirtual 183, 45, []) else none) else (bif Nat.beq k 45 then some (.checkcast 168, 48, []) else none)) else (bif Nat.blt k 50 then (bif Nat.beq k 48 then some (.astore 7, 50, []) else none) else (bif Nat.blt k 52 then (bif Nat.beq k 50 then some (.lload 4, 52, []) else none) else (bif Nat.beq k 52 then some (.aload_n 0, 53, []) else none)))) else (bif Nat.blt k 58 then (bif Nat.blt k 55 then (bif Nat.beq k 53 then some (.aload 7, 55, []) else none) else (bif Nat.beq k 55 then some (.invokevirtual 454, 58, []) else none)) else (bif Nat.blt k 59 then (bif Nat.beq k 58 then some (.iload_n 3, 59, []) else none) else (bif Nat.blt k 60 then (bif Nat.beq k 59 then some (.aload_n 0, 60, []) else none) else (bif Nat.beq k 60 then some (.getfield 27, 63, []) else none))))) else (bif Nat.blt k 73 then (bif Nat.blt k 68 then (bif Nat.blt k 65 then (bif Nat.beq k 63 then some (.aload 7, 65, []) else none) else (bif Nat.beq k 65 then some (.getfield 195, 68, []) else none)) else (bif Nat.blt k 69 then (bif Nat.beq k 68 then some (.iaload, 69, []) else none) else (bif Nat.blt k 72 then (bif Nat.beq k 69 then some (.invokestatic 210, 72, []) else none) else (bif Nat.beq k 72 then some (.i2l, 73, []) else none)))) else (bif Nat.blt k 79 then (bif Nat.blt k 74 then (bif Nat.beq k 73 then some (.lmul, 74, []) else none) else (bif Nat.blt k 76 then (bif Nat.beq k 74 then some (.lstore 4, 76, []) else none) else (bif Nat.beq k 76 then some (.iinc 6 1, 79, []) else none))) else (bif Nat.blt k 82 then (bif Nat.beq k 79 then some (.goto (-61), 82, [18]) else none) else (bif Nat.blt k 84 then (bif Nat.beq k 82 then some (.lload 4, 84, []) else none) else (bif Nat.beq k 84 then some (.lreturn, 85, []) else none))))))) else none
noncomputable def P_C_weightOf : MP := (T_C_weightOf, (fun k => mLook k [(19, (12, 1, (.object "ClothWithMan$Cloth"), true)), (27, (12, 3, (.array .int), true)), (33, (12, 4, (.object "java/util/ArrayList"), true)), (106, (1, 0, (.object "ClothWithMan$Curve"), true)), (195, (7, 3, .int, true))]), (fun k => mLook k []), (fun k => mLook k [(119, E_Cu_at), (183, E_AL_get), (210, E_C_likenessOf), (281, E_C_pieceCount), (284, E_C_has), (454, E_C_cleanNumber)]), (fun k => mLook k []), (fun k => mLook k []), (fun k => mLook k [(168, 7)]), (fun k => mLook k [(18, [true, false, true, true, true, false, true, false])]), (fun k => [84].any (Nat.beq k)), (6, 121, 0, 0), false, (fun _ => none))
set_option maxRecDepth 100000 in
set_option maxHeartbeats 4000000 in
theorem q_C_weightOf_e (a1 : Int32) (a2 : Int32) (σ : MSto) (n : Nat) : mexe KT P_C_weightOf (n + 1) (0, [some (mR 12 0), some (mI a1), some (mI a2), none, none, none, none, none], [], σ, 0, 0) = mG (p_Cu_at a1 σ) (mexe KT P_C_weightOf n (18, [some (mR 12 0), none, some (mI a2), some (mI (v_Cu_at a1 σ)), some (mJ 1), none, some (mI 0), none], [], σ, 0, 0)) := rfl
set_option maxRecDepth 100000 in
set_option maxHeartbeats 4000000 in
theorem q_C_weightOf_18 (x2 : Int32) (x3 : Int32) (x4 : Int64) (x6 : Int32) (σ : MSto) (n : Nat) : mexe KT P_C_weightOf (n + 1) (18, [some (mR 12 0), none, some (mI x2), some (mI x3), some (mJ x4), none, some (mI x6), none], [], σ, 0, 0) = mIf ((v_C_pieceCount σ) ≤ x6) (some (84, [], [(mJ x4)], σ, 0, 0)) (mIf ((v_C_has x2 x6 σ) = 0) (mexe KT P_C_weightOf n (18, [some (mR 12 0), none, some (mI x2), some (mI x3), some (mJ x4), none, some (mI (x6 + 1)), none], [], σ, 0, 0)) (mG (p_AL_get 14 0 x6 σ) (mG (p_C_cleanNumber (v_AL_get 14 0 x6 σ) σ) (mG (vp_in (gI σ 7 (v_AL_get 14 0 x6 σ) 3) 6) (mG (p_C_likenessOf (v_C_cleanNumber (v_AL_get 14 0 x6 σ) σ) x3 (gI σ 21 0 (Int32.toNatClampNeg (gI σ 7 (v_AL_get 14 0 x6 σ) 3))) σ) (mexe KT P_C_weightOf n (18, [some (mR 12 0), none, some (mI x2), some (mI x3), some (mJ (x4 * (Int32.toInt64 (v_C_likenessOf (v_C_cleanNumber (v_AL_get 14 0 x6 σ) σ) x3 (gI σ 21 0 (Int32.toNatClampNeg (gI σ 7 (v_AL_get 14 0 x6 σ) 3))) σ)))), none, some (mI (x6 + 1)), none], [], σ, 0, 0))))))) := rfl
set_option maxRecDepth 100000 in
theorem lt_C_weightOf_18 {Post : MST → Prop} (x2 : Int32) (x3 : Int32) (c : Int32) (σ : MSto) (s : Int64) (hp : g_C_weightOf_18 x2 x3 c σ s) (hq : ¬ q_C_weightOf_18s x2 x3 c σ s = 1) (hn : ∀ r, t_C_weightOf_18 x2 x3 c σ s = r → mW1 P_C_weightOf (18, [some (mR 12 0), none, some (mI x2), some (mI x3), some (mJ r), none, some (mI (c + 1)), none], [], σ, 0, 0) Post) : mW1 P_C_weightOf (18, [some (mR 12 0), none, some (mI x2), some (mI x3), some (mJ s), none, some (mI c), none], [], σ, 0, 0) Post := by
  unfold g_C_weightOf_18 at hp
  refine mW1_eq (q_C_weightOf_18 _ _ _ _ _) ?_
  refine mTr_if (fun h0 => ?_) (fun h0 => ?_)
  · skip
    exact absurd (if_pos h0) hq
  · skip
    have hp := hp h0
    refine mTr_if (fun h1 => ?_) (fun h1 => ?_)
    · skip
      exact mTr_k (hn s ((if_neg h0).trans (if_pos h1)))
    · skip
      have hp := hp h1
      refine mTr_g hp.1 ?_
      have hp := hp.2
      refine mTr_g hp.1 ?_
      have hp := hp.2
      refine mTr_g hp.1 ?_
      have hp := hp.2
      refine mTr_g hp ?_
      exact mTr_k (hn (s * (Int32.toInt64 (v_C_likenessOf (v_C_cleanNumber (v_AL_get 14 0 c σ) σ) x3 (gI σ 21 0 (Int32.toNatClampNeg (gI σ 7 (v_AL_get 14 0 c σ) 3))) σ))) ((if_neg h0).trans (if_neg h1)))
theorem lp_C_weightOf_18 {Post : MST → Prop} (x2 : Int32) (x3 : Int32) (c0 : Int32) (σ : MSto) (s0 : Int64) (N : Nat) (hb : ∀ i, i < N → g_C_weightOf_18 x2 x3 (c0 + nI i) σ (f_C_weightOf_18 x2 x3 c0 σ s0 i) ∧ ¬ q_C_weightOf_18s x2 x3 (c0 + nI i) σ (f_C_weightOf_18 x2 x3 c0 σ s0 i) = 1) (h : mW1 P_C_weightOf (18, [some (mR 12 0), none, some (mI x2), some (mI x3), some (mJ (f_C_weightOf_18 x2 x3 c0 σ s0 N)), none, some (mI (c0 + nI N)), none], [], σ, 0, 0) Post) : mW1 P_C_weightOf (18, [some (mR 12 0), none, some (mI x2), some (mI x3), some (mJ s0), none, some (mI c0), none], [], σ, 0, 0) Post := by
  refine mW1_st (mW1_loop (fun i => (18, [some (mR 12 0), none, some (mI x2), some (mI x3), some (mJ (f_C_weightOf_18 x2 x3 c0 σ s0 i)), none, some (mI (c0 + nI i)), none], [], σ, 0, 0)) N (fun i hlt hn => ?_) h) (by rw [show nI 0 = 0 from rfl, Int32.add_zero] <;> rfl)
  refine lt_C_weightOf_18 x2 x3 _ σ _ (hb i hlt).1 (hb i hlt).2 (fun r hr => ?_)
  rw [Int32.add_assoc, nI_s]
  subst hr
  exact hn
set_option maxRecDepth 100000 in
set_option maxHeartbeats 4000000 in
theorem d_C_weightOf (a1 : Int32) (a2 : Int32) (σ : MSto) (hp : p_C_weightOf a1 a2 σ) : mW1 P_C_weightOf (0, [some (mR 12 0), some (mI a1), some (mI a2), none, none, none, none, none], [], σ, 0, 0) (mF [84] [mJ (v_C_weightOf a1 a2 σ)] σ 0 0) := by
  refine mW1_eq (q_C_weightOf_e _ _ _) ?_
  unfold p_C_weightOf at hp
  refine mTr_g hp.1 ?_
  have hp := hp.2
  refine mTr_k (lp_C_weightOf_18 a2 (v_Cu_at a1 σ) 0 σ 1 (n_C_weightOf_18 a2 (v_Cu_at a1 σ) 0 σ 1) hp.1 ?_)
  have hp := hp.2
  refine mW1_eq (q_C_weightOf_18 _ _ _ _ _) ?_
  refine mTr_if (fun h0 => ?_) (fun h0 => ?_)
  · skip
    exact mTr_e (by decide) (congrArg (fun z => [mJ z]) (Eq.symm (rfl))) rfl (by decide) (by decide)
  · skip
    have hp := hp h0
    exact hp.elim
theorem li_C_454 : mLink "ClothWithMan" 454 E_C_cleanNumber := ⟨tw_3_122, tw_1_1, ⟨by decide, by decide⟩, by decide +kernel, Or.inl tw_3_119, (fun h => by cases h), (fun _ => ⟨tw_3_121, tw_0_13, TX11, 20, rfl⟩), (fun h => by cases h)⟩



theorem li_C_210 : mLink "ClothWithMan" 210 E_C_likenessOf := ⟨tw_3_60, tw_1_1, ⟨by decide, by decide⟩, by decide +kernel, Or.inl tw_3_58, (fun _ => tw_3_59), (fun h => by cases h), (fun h => by cases h)⟩


theorem li_C_119 : mLink "ClothWithMan" 119 E_Cu_at := ⟨tw_2_75, tw_1_4, ⟨by decide, by decide⟩, by decide +kernel, Or.inl tw_2_72, (fun h => by cases h), (fun _ => ⟨tw_2_73, tw_2_74, TX1, 4, rfl⟩), (fun h => by cases h)⟩

theorem tk_C_weightOf : ∀ pc i nx tg, T_C_weightOf pc = some (i, nx, tg) → mOkB prog_1_method_76_code pc i nx tg = true := code_ok (N := 85) (fun k h => by unfold T_C_weightOf; rw [h]; rfl) (by decide +kernel)
theorem ok_C_weightOf (l : Launch) : mPOK l "ClothWithMan" prog_1_method_76_code P_C_weightOf := by
  refine ⟨tk_C_weightOf, ?_, ?_, ?_, (fun pc i nx tg kd _ h => by cases h), ?_, ?_, fun pc en h => by cases h⟩
  · intro x ci f ty fin h
    exact mLook_all (Q := fun x v => mFOK "ClothWithMan" x v.1 v.2.1 v.2.2.1 v.2.2.2 ∧ (v.2.2.2 = true → pIni P_C_weightOf = true → (Cond.fieldLink "ClothWithMan" x (((mCl[v.1]?).getD ("", fun _ => ("", "", "", false), 0)).2.1 v.2.1).1 (((mCl[v.1]?).getD ("", fun _ => ("", "", "", false), 0)).2.1 v.2.1).2.1 (((mCl[v.1]?).getD ("", fun _ => ("", "", "", false), 0)).2.1 v.2.1).2.2.1 ∈ lw_tbl ∧ (((mCl[v.1]?).getD ("", fun _ => ("", "", "", false), 0)).2.1 v.2.1).1 = "ClothWithMan"))) (fcC ⟨fo_C_19, fun h1 h2 => by cases h2⟩ (fcC ⟨fo_C_27, fun h1 h2 => by cases h2⟩ (fcC ⟨fo_C_33, fun h1 h2 => by cases h2⟩ (fcC ⟨fo_C_106, fun h1 h2 => by cases h2⟩ (fcC ⟨fo_C_195, fun h1 h2 => by cases h2⟩ fcN))))) x (ci, f, ty, fin) h
  · intro x
    have hh := mLook_all (l := ([] : List (Nat × (Int32 ⊕ Int64)))) (Q := fun x (v : Int32 ⊕ Int64) => (∀ w, v = .inl w → Cond.constant "ClothWithMan" x w ∈ lw_tbl) ∧ (∀ w, v = .inr w → Cond.constantLong "ClothWithMan" x w ∈ lw_tbl)) fcN x
    exact ⟨fun w h => (hh _ h).1 w rfl, fun w h => (hh _ h).2 w rfl⟩
  · exact fun x en h => mLook_all (Q := fun x en => mLink "ClothWithMan" x en ∧ mCtr l en ∧ (en.1.1 = 2 → en.2.2.2.2.2.2 = none)) (fcC ⟨li_C_119, c_Cu_at l, (fun h => by cases h)⟩ (fcC ⟨li_C_183, c_AL_get l, (fun h => by cases h)⟩ (fcC ⟨li_C_210, c_C_likenessOf l, (fun h => by cases h)⟩ (fcC ⟨li_C_281, c_C_pieceCount l, (fun h => by cases h)⟩ (fcC ⟨li_C_284, c_C_has l, (fun h => by cases h)⟩ (fcC ⟨li_C_454, c_C_cleanNumber l, (fun h => by cases h)⟩ fcN)))))) x en h
  · exact fun x kd h => mLook_all (Q := fun x kd => (kd = 95 ∧ Cond.fieldLink "ClothWithMan" x "ClothWithMan" "LIKENESSES" "[I" ∈ lw_tbl) ∨ (kd = 96 ∧ Cond.fieldLink "ClothWithMan" x "ClothWithMan" "APART_BOUNDS" "[I" ∈ lw_tbl)) fcN x kd h
  · exact fun x ci h => mLook_all (Q := fun x ci => ci ≠ 0 ∧ ∃ (C : String) (T : u_T) (N : Nat), mCl[ci]? = some (C, T, N) ∧ Cond.classLink "ClothWithMan" x C ∈ lw_tbl ∧ Cond.instantiable C N ∈ lw_tbl) (fcC ⟨by decide, "ClothWithMan$Piece", TX6, 6, rfl, tw_3_6, tw_3_7⟩ fcN) x ci h
set_option maxRecDepth 100000 in
theorem c_C_weightOf (l : Launch) : mCtr l E_C_weightOf := mCtr_of (P := P_C_weightOf) (own := "ClothWithMan") mLay_ok rfl (by decide +kernel) rfl (ok_C_weightOf l) (fun h => by cases h) (fun as σ pr rv σ' hF hpr hlv => by
  unfold E_C_weightOf S_C_weightOf at hF
  simp only [] at hF
  split at hF
  · cases hF
    obtain ⟨n, pcF, c1, s1, g1, g2, g3, g4⟩ := mF_inv (d_C_weightOf _ _ σ (hpr _ rfl))
    exact ⟨Nat.le_of_ble_eq_true rfl, (fun v h => by cases h; trivial), n, pcF, c1, s1, g1, mEnd_of (i := .lreturn) (P := P_C_weightOf) (rets := [84]) rfl g2, g3, g4⟩
  · cases hF
    exact (hpr _ rfl).elim)
/-! ClothWithMan.weighYears(I)J -/
noncomputable def t_C_weighYears_5 (x1 : Int32) (c : Int32) (s : Int64 × MSto) : Int64 × MSto := (if 200 ≤ c then s else (((s.1) + (gJ (sJ (s.2) 26 0 (Int32.toNatClampNeg c) (v_C_weightOf c x1 (s.2))) 26 0 (Int32.toNatClampNeg c))), (sJ (s.2) 26 0 (Int32.toNatClampNeg c) (v_C_weightOf c x1 (s.2)))))
noncomputable def q_C_weighYears_5s (x1 : Int32) (c : Int32) (s : Int64 × MSto) : Nat := (if 200 ≤ c then 1 else 0)
def g_C_weighYears_5 (x1 : Int32) (c : Int32) (s : Int64 × MSto) : Prop := (¬ (200 ≤ c) → ((p_C_weightOf c x1 (s.2)) ∧ ((vp_in c 200) ∧ (vp_in c 200))))
noncomputable def f_C_weighYears_5 (x1 : Int32) (c0 : Int32) (s0 : Int64 × MSto) (n : Nat) : Int64 × MSto := nfold (fun i s => t_C_weighYears_5 x1 (c0 + nI i) s) s0 n
noncomputable def n_C_weighYears_5 (x1 : Int32) (c0 : Int32) (s0 : Int64 × MSto) : Nat := 200
noncomputable def v_C_weighYears (a1 : Int32) (σ : MSto) : Int64 := ((f_C_weighYears_5 a1 0 (0, σ) (n_C_weighYears_5 a1 0 (0, σ))).1)
def p_C_weighYears (a1 : Int32) (σ : MSto) : Prop := ((∀ i, i < (n_C_weighYears_5 a1 0 (0, σ)) → g_C_weighYears_5 a1 (0 + nI i) (f_C_weighYears_5 a1 0 (0, σ) i) ∧ ¬ q_C_weighYears_5s a1 (0 + nI i) (f_C_weighYears_5 a1 0 (0, σ) i) = 1) ∧ (¬ (200 ≤ (0 + nI (n_C_weighYears_5 a1 0 (0, σ)))) → False))
noncomputable def e_C_weighYears (a1 : Int32) (σ : MSto) : MSto := ((f_C_weighYears_5 a1 0 (0, σ) (n_C_weighYears_5 a1 0 (0, σ))).2)
noncomputable def S_C_weighYears : List MV → MSto → Option Prop × Option MV × MSto := fun as σ => match as with
  | [.inr (.inr (some (12, 0))), .inl a0] => (some (p_C_weighYears a0 σ), some (mJ (v_C_weighYears a0 σ)), e_C_weighYears a0 σ)
  | _ => (some False, none, σ)
noncomputable def E_C_weighYears : MEnt := ((1, 1, 12), (7, 148, 0, 0), S_C_weighYears, ((⟨"ClothWithMan", "weighYears", "(I)J"⟩ : MethodName), prog_1_method_75_code, 5, (some .long)))

def T_C_weighYears : Nat → Option (Instr × Nat × List Nat) := fun k => bif Nat.blt k 45 then (bif Nat.blt k 23 then (bif Nat.blt k 10 then (bif Nat.blt k 3 then (bif Nat.blt k 1 then (bif Nat.beq k 0 then some (.lconst 0, 1, []) else none) else (bif Nat.blt k 2 then (bif Nat.beq k 1 then some (.lstore_n 2, 2, []) else none) else (bif Nat.beq k 2 then some (.iconst 0, 3, []) else none))) else (bif Nat.blt k 5 then (bif Nat.beq k 3 then some (.istore 4, 5, []) else none) else (bif Nat.blt k 7 then (bif Nat.beq k 5 then some (.iload 4, 7, []) else none) else (bif Nat.beq k 7 then some (.sipush 200, 10, []) else none)))) else (bif Nat.blt k 17 then (bif Nat.blt k 13 then (bif Nat.beq k 10 then some (.if_icmp .ge 33, 13, [43]) else none) else (bif Nat.blt k 14 then (bif Nat.beq k 13 then some (.aload_n 0, 14, []) else none) else (bif Nat.beq k 14 then some (.getfield 75, 17, []) else none))) else (bif Nat.blt k 20 then (bif Nat.blt k 19 then (bif Nat.beq k 17 then some (.iload 4, 19, []) else none) else (bif Nat.beq k 19 then some (.aload_n 0, 20, []) else none)) else (bif Nat.blt k 22 then (bif Nat.beq k 20 then some (.iload 4, 22, []) else none) else (bif Nat.beq k 22 then some (.iload_n 1, 23, []) else none))))) else (bif Nat.blt k 34 then (bif Nat.blt k 28 then (bif Nat.blt k 26 then (bif Nat.beq k 23 then some (.invokevirtual 451, 26, []) else none) else (bif Nat.blt k 27 then (bif Nat.beq k 26 then some (.lastore, 27, []) else none) else (bif Nat.beq k 27 then some (.lload_n 2, 28, []) else none))) else (bif Nat.blt k 29 then (bif Nat.beq k 28 then some (.aload_n 0, 29, []) else none) else (bif Nat.blt k 32 then (bif Nat.beq k 29 then some (.getfield 75, 32, []) else none) else (bif Nat.beq k 32 then some (.iload 4, 34, []) else none)))) else (bif Nat.blt k 37 then (bif Nat.blt k 35 then (bif Nat.beq k 34 then some (.laload, 35, []) else none) else (bif Nat.blt k 36 then (bif Nat.beq k 35 then some (.ladd, 36, []) else none) else (bif Nat.beq k 36 then some (.lstore_n 2, 37, []) else none))) else (bif Nat.blt k 43 then (bif Nat.blt k 40 then (bif Nat.beq k 37 then some (.iinc 4 1, 40, []) else none) else (bif Nat.beq k 40 then some (.goto (-35), 43, [5]) else none)) else (bif Nat.blt k 44 then (bif Nat.beq k 43 then some (.lload_n 2, 44, []) else none) else (bif Nat.beq k 44 then some (.lreturn, 45, []) else none)))))) else none
noncomputable def P_C_weighYears : MP := (T_C_weighYears, (fun k => mLook k [(75, (12, 13, (.array .long), true))]), (fun k => mLook k []), (fun k => mLook k [(451, E_C_weightOf)]), (fun k => mLook k []), (fun k => mLook k []), (fun k => mLook k []), (fun k => mLook k [(5, [true, true, true, false, true])]), (fun k => [44].any (Nat.beq k)), (7, 148, 0, 0), false, (fun _ => none))
set_option maxRecDepth 100000 in
set_option maxHeartbeats 4000000 in
theorem q_C_weighYears_e (a1 : Int32) (σ : MSto) (n : Nat) : mexe KT P_C_weighYears (n + 1) (0, [some (mR 12 0), some (mI a1), none, none, none], [], σ, 0, 0) = mexe KT P_C_weighYears n (5, [some (mR 12 0), some (mI a1), some (mJ 0), none, some (mI 0)], [], σ, 0, 0) := rfl
set_option maxRecDepth 100000 in
set_option maxHeartbeats 4000000 in
theorem q_C_weighYears_5 (x1 : Int32) (x2 : Int64) (x4 : Int32) (σ : MSto) (n : Nat) : mexe KT P_C_weighYears (n + 1) (5, [some (mR 12 0), some (mI x1), some (mJ x2), none, some (mI x4)], [], σ, 0, 0) = mIf (200 ≤ x4) (some (44, [], [(mJ x2)], σ, 0, 0)) (mG (p_C_weightOf x4 x1 σ) (mG (vp_in x4 200) (mG (vp_in x4 200) (mexe KT P_C_weighYears n (5, [some (mR 12 0), some (mI x1), some (mJ (x2 + (gJ (sJ σ 26 0 (Int32.toNatClampNeg x4) (v_C_weightOf x4 x1 σ)) 26 0 (Int32.toNatClampNeg x4)))), none, some (mI (x4 + 1))], [], (sJ σ 26 0 (Int32.toNatClampNeg x4) (v_C_weightOf x4 x1 σ)), 0, 0))))) := rfl
set_option maxRecDepth 100000 in
theorem lt_C_weighYears_5 {Post : MST → Prop} (x1 : Int32) (c : Int32) (s : Int64 × MSto) (hp : g_C_weighYears_5 x1 c s) (hq : ¬ q_C_weighYears_5s x1 c s = 1) (hn : ∀ (r1 : Int64) (r2 : MSto), t_C_weighYears_5 x1 c s = (r1, r2) → mW1 P_C_weighYears (5, [some (mR 12 0), some (mI x1), some (mJ r1), none, some (mI (c + 1))], [], r2, 0, 0) Post) : mW1 P_C_weighYears (5, [some (mR 12 0), some (mI x1), some (mJ (s.1)), none, some (mI c)], [], (s.2), 0, 0) Post := by
  unfold g_C_weighYears_5 at hp
  refine mW1_eq (q_C_weighYears_5 _ _ _ _) ?_
  refine mTr_if (fun h0 => ?_) (fun h0 => ?_)
  · skip
    exact absurd (if_pos h0) hq
  · skip
    have hp := hp h0
    refine mTr_g hp.1 ?_
    have hp := hp.2
    refine mTr_g hp.1 ?_
    have hp := hp.2
    refine mTr_g hp ?_
    exact mTr_k (hn ((s.1) + (gJ (sJ (s.2) 26 0 (Int32.toNatClampNeg c) (v_C_weightOf c x1 (s.2))) 26 0 (Int32.toNatClampNeg c))) (sJ (s.2) 26 0 (Int32.toNatClampNeg c) (v_C_weightOf c x1 (s.2))) (if_neg h0))
theorem lp_C_weighYears_5 {Post : MST → Prop} (x1 : Int32) (c0 : Int32) (s0 : Int64 × MSto) (N : Nat) (hb : ∀ i, i < N → g_C_weighYears_5 x1 (c0 + nI i) (f_C_weighYears_5 x1 c0 s0 i) ∧ ¬ q_C_weighYears_5s x1 (c0 + nI i) (f_C_weighYears_5 x1 c0 s0 i) = 1) (h : mW1 P_C_weighYears (5, [some (mR 12 0), some (mI x1), some (mJ ((f_C_weighYears_5 x1 c0 s0 N).1)), none, some (mI (c0 + nI N))], [], ((f_C_weighYears_5 x1 c0 s0 N).2), 0, 0) Post) : mW1 P_C_weighYears (5, [some (mR 12 0), some (mI x1), some (mJ (s0.1)), none, some (mI c0)], [], (s0.2), 0, 0) Post := by
  refine mW1_st (mW1_loop (fun i => (5, [some (mR 12 0), some (mI x1), some (mJ ((f_C_weighYears_5 x1 c0 s0 i).1)), none, some (mI (c0 + nI i))], [], ((f_C_weighYears_5 x1 c0 s0 i).2), 0, 0)) N (fun i hlt hn => ?_) h) (by rw [show nI 0 = 0 from rfl, Int32.add_zero] <;> rfl)
  refine lt_C_weighYears_5 x1 _ _ (hb i hlt).1 (hb i hlt).2 (fun r1 r2 hr => ?_)
  rw [Int32.add_assoc, nI_s]
  have e : f_C_weighYears_5 x1 c0 s0 (i + 1) = (r1, r2) := hr
  try dsimp only at hn
  rw [e] at hn
  exact hn
set_option maxRecDepth 100000 in
set_option maxHeartbeats 4000000 in
theorem d_C_weighYears (a1 : Int32) (σ : MSto) (hp : p_C_weighYears a1 σ) : mW1 P_C_weighYears (0, [some (mR 12 0), some (mI a1), none, none, none], [], σ, 0, 0) (mF [44] [mJ (v_C_weighYears a1 σ)] (e_C_weighYears a1 σ) 0 0) := by
  refine mW1_eq (q_C_weighYears_e _ _) ?_
  unfold p_C_weighYears at hp
  refine mTr_k (lp_C_weighYears_5 a1 0 (0, σ) (n_C_weighYears_5 a1 0 (0, σ)) hp.1 ?_)
  have hp := hp.2
  refine mW1_eq (q_C_weighYears_5 _ _ _ _) ?_
  refine mTr_if (fun h0 => ?_) (fun h0 => ?_)
  · skip
    exact mTr_e (by decide) (congrArg (fun z => [mJ z]) (Eq.symm (rfl))) (Eq.symm (rfl)) (by decide) (by decide)
  · skip
    have hp := hp h0
    exact hp.elim
theorem li_C_451 : mLink "ClothWithMan" 451 E_C_weightOf := ⟨tw_3_115, tw_1_1, ⟨by decide, by decide⟩, by decide +kernel, Or.inl tw_3_112, (fun h => by cases h), (fun _ => ⟨tw_3_114, tw_0_12, TX11, 20, rfl⟩), (fun h => by cases h)⟩

theorem tk_C_weighYears : ∀ pc i nx tg, T_C_weighYears pc = some (i, nx, tg) → mOkB prog_1_method_75_code pc i nx tg = true := code_ok (N := 45) (fun k h => by unfold T_C_weighYears; rw [h]; rfl) (by decide +kernel)
theorem ok_C_weighYears (l : Launch) : mPOK l "ClothWithMan" prog_1_method_75_code P_C_weighYears := by
  refine ⟨tk_C_weighYears, ?_, ?_, ?_, (fun pc i nx tg kd _ h => by cases h), ?_, ?_, fun pc en h => by cases h⟩
  · intro x ci f ty fin h
    exact mLook_all (Q := fun x v => mFOK "ClothWithMan" x v.1 v.2.1 v.2.2.1 v.2.2.2 ∧ (v.2.2.2 = true → pIni P_C_weighYears = true → (Cond.fieldLink "ClothWithMan" x (((mCl[v.1]?).getD ("", fun _ => ("", "", "", false), 0)).2.1 v.2.1).1 (((mCl[v.1]?).getD ("", fun _ => ("", "", "", false), 0)).2.1 v.2.1).2.1 (((mCl[v.1]?).getD ("", fun _ => ("", "", "", false), 0)).2.1 v.2.1).2.2.1 ∈ lw_tbl ∧ (((mCl[v.1]?).getD ("", fun _ => ("", "", "", false), 0)).2.1 v.2.1).1 = "ClothWithMan"))) (fcC ⟨fo_C_75, fun h1 h2 => by cases h2⟩ fcN) x (ci, f, ty, fin) h
  · intro x
    have hh := mLook_all (l := ([] : List (Nat × (Int32 ⊕ Int64)))) (Q := fun x (v : Int32 ⊕ Int64) => (∀ w, v = .inl w → Cond.constant "ClothWithMan" x w ∈ lw_tbl) ∧ (∀ w, v = .inr w → Cond.constantLong "ClothWithMan" x w ∈ lw_tbl)) fcN x
    exact ⟨fun w h => (hh _ h).1 w rfl, fun w h => (hh _ h).2 w rfl⟩
  · exact fun x en h => mLook_all (Q := fun x en => mLink "ClothWithMan" x en ∧ mCtr l en ∧ (en.1.1 = 2 → en.2.2.2.2.2.2 = none)) (fcC ⟨li_C_451, c_C_weightOf l, (fun h => by cases h)⟩ fcN) x en h
  · exact fun x kd h => mLook_all (Q := fun x kd => (kd = 95 ∧ Cond.fieldLink "ClothWithMan" x "ClothWithMan" "LIKENESSES" "[I" ∈ lw_tbl) ∨ (kd = 96 ∧ Cond.fieldLink "ClothWithMan" x "ClothWithMan" "APART_BOUNDS" "[I" ∈ lw_tbl)) fcN x kd h
  · exact fun x ci h => mLook_all (Q := fun x ci => ci ≠ 0 ∧ ∃ (C : String) (T : u_T) (N : Nat), mCl[ci]? = some (C, T, N) ∧ Cond.classLink "ClothWithMan" x C ∈ lw_tbl ∧ Cond.instantiable C N ∈ lw_tbl) fcN x ci h
set_option maxRecDepth 100000 in
theorem c_C_weighYears (l : Launch) : mCtr l E_C_weighYears := mCtr_of (P := P_C_weighYears) (own := "ClothWithMan") mLay_ok rfl (by decide +kernel) rfl (ok_C_weighYears l) (fun h => by cases h) (fun as σ pr rv σ' hF hpr hlv => by
  unfold E_C_weighYears S_C_weighYears at hF
  simp only [] at hF
  split at hF
  · cases hF
    obtain ⟨n, pcF, c1, s1, g1, g2, g3, g4⟩ := mF_inv (d_C_weighYears _ σ (hpr _ rfl))
    exact ⟨Nat.le_of_ble_eq_true rfl, (fun v h => by cases h; trivial), n, pcF, c1, s1, g1, mEnd_of (i := .lreturn) (P := P_C_weighYears) (rets := [44]) rfl g2, g3, g4⟩
  · cases hF
    exact (hpr _ rfl).elim)
/-! ClothWithMan.clearMarks()V -/
noncomputable def t_C_clearMarks_2  (c : Int32) (s : MSto) : MSto := (if 200 ≤ c then s else (sI s 27 0 (Int32.toNatClampNeg c) (vp_nar .boolean 0)))
noncomputable def q_C_clearMarks_2s  (c : Int32) (s : MSto) : Nat := (if 200 ≤ c then 1 else 0)
def g_C_clearMarks_2  (c : Int32) (s : MSto) : Prop := (¬ (200 ≤ c) → (vp_in c 200))
noncomputable def f_C_clearMarks_2  (c0 : Int32) (s0 : MSto) (n : Nat) : MSto := nfold (fun i s => t_C_clearMarks_2 (c0 + nI i) s) s0 n
noncomputable def n_C_clearMarks_2  (c0 : Int32) (s0 : MSto) : Nat := 200
def p_C_clearMarks  (σ : MSto) : Prop := ((∀ i, i < (n_C_clearMarks_2 0 σ) → g_C_clearMarks_2 (0 + nI i) (f_C_clearMarks_2 0 σ i) ∧ ¬ q_C_clearMarks_2s (0 + nI i) (f_C_clearMarks_2 0 σ i) = 1) ∧ (¬ (200 ≤ (0 + nI (n_C_clearMarks_2 0 σ))) → False))
noncomputable def e_C_clearMarks  (σ : MSto) : MSto := (f_C_clearMarks_2 0 σ (n_C_clearMarks_2 0 σ))
noncomputable def S_C_clearMarks : List MV → MSto → Option Prop × Option MV × MSto := fun as σ => match as with
  | [.inr (.inr (some (12, 0)))] => (some (p_C_clearMarks σ), none, e_C_clearMarks σ)
  | _ => (some False, none, σ)
noncomputable def E_C_clearMarks : MEnt := ((1, 0, 12), (0, 0, 0, 0), S_C_clearMarks, ((⟨"ClothWithMan", "clearMarks", "()V"⟩ : MethodName), prog_1_method_77_code, 2, none))

def T_C_clearMarks : Nat → Option (Instr × Nat × List Nat) := fun k => bif Nat.blt k 23 then (bif Nat.blt k 10 then (bif Nat.blt k 3 then (bif Nat.blt k 1 then (bif Nat.beq k 0 then some (.iconst 0, 1, []) else none) else (bif Nat.blt k 2 then (bif Nat.beq k 1 then some (.istore_n 1, 2, []) else none) else (bif Nat.beq k 2 then some (.iload_n 1, 3, []) else none))) else (bif Nat.blt k 6 then (bif Nat.beq k 3 then some (.sipush 200, 6, []) else none) else (bif Nat.blt k 9 then (bif Nat.beq k 6 then some (.if_icmp .ge 16, 9, [22]) else none) else (bif Nat.beq k 9 then some (.aload_n 0, 10, []) else none)))) else (bif Nat.blt k 15 then (bif Nat.blt k 13 then (bif Nat.beq k 10 then some (.getfield 79, 13, []) else none) else (bif Nat.blt k 14 then (bif Nat.beq k 13 then some (.iload_n 1, 14, []) else none) else (bif Nat.beq k 14 then some (.iconst 0, 15, []) else none))) else (bif Nat.blt k 19 then (bif Nat.blt k 16 then (bif Nat.beq k 15 then some (.bastore, 16, []) else none) else (bif Nat.beq k 16 then some (.iinc 1 1, 19, []) else none)) else (bif Nat.blt k 22 then (bif Nat.beq k 19 then some (.goto (-17), 22, [2]) else none) else (bif Nat.beq k 22 then some (.return_, 23, []) else none))))) else none
noncomputable def P_C_clearMarks : MP := (T_C_clearMarks, (fun k => mLook k [(79, (12, 14, (.array .boolean), true))]), (fun k => mLook k []), (fun k => mLook k []), (fun k => mLook k []), (fun k => mLook k []), (fun k => mLook k []), (fun k => mLook k [(2, [true, true])]), (fun k => [22].any (Nat.beq k)), (0, 0, 0, 0), false, (fun _ => none))
set_option maxRecDepth 100000 in
set_option maxHeartbeats 4000000 in
theorem q_C_clearMarks_e  (σ : MSto) (n : Nat) : mexe KT P_C_clearMarks (n + 1) (0, [some (mR 12 0), none], [], σ, 0, 0) = mexe KT P_C_clearMarks n (2, [some (mR 12 0), some (mI 0)], [], σ, 0, 0) := rfl
set_option maxRecDepth 100000 in
set_option maxHeartbeats 4000000 in
theorem q_C_clearMarks_2 (x1 : Int32) (σ : MSto) (n : Nat) : mexe KT P_C_clearMarks (n + 1) (2, [some (mR 12 0), some (mI x1)], [], σ, 0, 0) = mIf (200 ≤ x1) (some (22, [], [], σ, 0, 0)) (mG (vp_in x1 200) (mexe KT P_C_clearMarks n (2, [some (mR 12 0), some (mI (x1 + 1))], [], (sI σ 27 0 (Int32.toNatClampNeg x1) (vp_nar .boolean 0)), 0, 0))) := rfl
set_option maxRecDepth 100000 in
theorem lt_C_clearMarks_2 {Post : MST → Prop}  (c : Int32) (s : MSto) (hp : g_C_clearMarks_2 c s) (hq : ¬ q_C_clearMarks_2s c s = 1) (hn : ∀ r, t_C_clearMarks_2 c s = r → mW1 P_C_clearMarks (2, [some (mR 12 0), some (mI (c + 1))], [], r, 0, 0) Post) : mW1 P_C_clearMarks (2, [some (mR 12 0), some (mI c)], [], s, 0, 0) Post := by
  unfold g_C_clearMarks_2 at hp
  refine mW1_eq (q_C_clearMarks_2 _ _) ?_
  refine mTr_if (fun h0 => ?_) (fun h0 => ?_)
  · skip
    exact absurd (if_pos h0) hq
  · skip
    have hp := hp h0
    refine mTr_g hp ?_
    exact mTr_k (hn (sI s 27 0 (Int32.toNatClampNeg c) (vp_nar .boolean 0)) (if_neg h0))
theorem lp_C_clearMarks_2 {Post : MST → Prop}  (c0 : Int32) (s0 : MSto) (N : Nat) (hb : ∀ i, i < N → g_C_clearMarks_2 (c0 + nI i) (f_C_clearMarks_2 c0 s0 i) ∧ ¬ q_C_clearMarks_2s (c0 + nI i) (f_C_clearMarks_2 c0 s0 i) = 1) (h : mW1 P_C_clearMarks (2, [some (mR 12 0), some (mI (c0 + nI N))], [], (f_C_clearMarks_2 c0 s0 N), 0, 0) Post) : mW1 P_C_clearMarks (2, [some (mR 12 0), some (mI c0)], [], s0, 0, 0) Post := by
  refine mW1_st (mW1_loop (fun i => (2, [some (mR 12 0), some (mI (c0 + nI i))], [], (f_C_clearMarks_2 c0 s0 i), 0, 0)) N (fun i hlt hn => ?_) h) (by rw [show nI 0 = 0 from rfl, Int32.add_zero] <;> rfl)
  refine lt_C_clearMarks_2 _ _ (hb i hlt).1 (hb i hlt).2 (fun r hr => ?_)
  rw [Int32.add_assoc, nI_s]
  subst hr
  exact hn
set_option maxRecDepth 100000 in
set_option maxHeartbeats 4000000 in
theorem d_C_clearMarks  (σ : MSto) (hp : p_C_clearMarks σ) : mW1 P_C_clearMarks (0, [some (mR 12 0), none], [], σ, 0, 0) (mF [22] [] (e_C_clearMarks σ) 0 0) := by
  refine mW1_eq (q_C_clearMarks_e  _) ?_
  unfold p_C_clearMarks at hp
  refine mTr_k (lp_C_clearMarks_2 0 σ (n_C_clearMarks_2 0 σ) hp.1 ?_)
  have hp := hp.2
  refine mW1_eq (q_C_clearMarks_2 _ _) ?_
  refine mTr_if (fun h0 => ?_) (fun h0 => ?_)
  · skip
    exact mTr_e (by decide) rfl (Eq.symm (rfl)) (by decide) (by decide)
  · skip
    have hp := hp h0
    exact hp.elim
theorem tk_C_clearMarks : ∀ pc i nx tg, T_C_clearMarks pc = some (i, nx, tg) → mOkB prog_1_method_77_code pc i nx tg = true := code_ok (N := 23) (fun k h => by unfold T_C_clearMarks; rw [h]; rfl) (by decide +kernel)
theorem ok_C_clearMarks (l : Launch) : mPOK l "ClothWithMan" prog_1_method_77_code P_C_clearMarks := by
  refine ⟨tk_C_clearMarks, ?_, ?_, ?_, (fun pc i nx tg kd _ h => by cases h), ?_, ?_, fun pc en h => by cases h⟩
  · intro x ci f ty fin h
    exact mLook_all (Q := fun x v => mFOK "ClothWithMan" x v.1 v.2.1 v.2.2.1 v.2.2.2 ∧ (v.2.2.2 = true → pIni P_C_clearMarks = true → (Cond.fieldLink "ClothWithMan" x (((mCl[v.1]?).getD ("", fun _ => ("", "", "", false), 0)).2.1 v.2.1).1 (((mCl[v.1]?).getD ("", fun _ => ("", "", "", false), 0)).2.1 v.2.1).2.1 (((mCl[v.1]?).getD ("", fun _ => ("", "", "", false), 0)).2.1 v.2.1).2.2.1 ∈ lw_tbl ∧ (((mCl[v.1]?).getD ("", fun _ => ("", "", "", false), 0)).2.1 v.2.1).1 = "ClothWithMan"))) (fcC ⟨fo_C_79, fun h1 h2 => by cases h2⟩ fcN) x (ci, f, ty, fin) h
  · intro x
    have hh := mLook_all (l := ([] : List (Nat × (Int32 ⊕ Int64)))) (Q := fun x (v : Int32 ⊕ Int64) => (∀ w, v = .inl w → Cond.constant "ClothWithMan" x w ∈ lw_tbl) ∧ (∀ w, v = .inr w → Cond.constantLong "ClothWithMan" x w ∈ lw_tbl)) fcN x
    exact ⟨fun w h => (hh _ h).1 w rfl, fun w h => (hh _ h).2 w rfl⟩
  · exact fun x en h => mLook_all (Q := fun x en => mLink "ClothWithMan" x en ∧ mCtr l en ∧ (en.1.1 = 2 → en.2.2.2.2.2.2 = none)) fcN x en h
  · exact fun x kd h => mLook_all (Q := fun x kd => (kd = 95 ∧ Cond.fieldLink "ClothWithMan" x "ClothWithMan" "LIKENESSES" "[I" ∈ lw_tbl) ∨ (kd = 96 ∧ Cond.fieldLink "ClothWithMan" x "ClothWithMan" "APART_BOUNDS" "[I" ∈ lw_tbl)) fcN x kd h
  · exact fun x ci h => mLook_all (Q := fun x ci => ci ≠ 0 ∧ ∃ (C : String) (T : u_T) (N : Nat), mCl[ci]? = some (C, T, N) ∧ Cond.classLink "ClothWithMan" x C ∈ lw_tbl ∧ Cond.instantiable C N ∈ lw_tbl) fcN x ci h
set_option maxRecDepth 100000 in
theorem c_C_clearMarks (l : Launch) : mCtr l E_C_clearMarks := mCtr_of (P := P_C_clearMarks) (own := "ClothWithMan") mLay_ok rfl (by decide +kernel) rfl (ok_C_clearMarks l) (fun h => by cases h) (fun as σ pr rv σ' hF hpr hlv => by
  unfold E_C_clearMarks S_C_clearMarks at hF
  simp only [] at hF
  split at hF
  · cases hF
    obtain ⟨n, pcF, c1, s1, g1, g2, g3, g4⟩ := mF_inv (d_C_clearMarks σ (hpr _ rfl))
    exact ⟨Nat.le_of_ble_eq_true rfl, (fun v h => by cases h), n, pcF, c1, s1, g1, mEnd_of (i := .return_) (P := P_C_clearMarks) (rets := [22]) rfl g2, g3, g4⟩
  · cases hF
    exact (hpr _ rfl).elim)
/-! ClothWithMan.heaviestUnmarked()I -/
noncomputable def t_C_heaviestUnmarked_9  (c : Int32) (σ : MSto) (s : Int32 × Int64) : Int32 × Int64 := (if 200 ≤ c then s else (if (gI σ 27 0 (Int32.toNatClampNeg c)) = 0 then (if (lg_cmp (gJ σ 26 0 (Int32.toNatClampNeg c)) (s.2)) ≤ 0 then ((s.1), (s.2)) else (c, (gJ σ 26 0 (Int32.toNatClampNeg c)))) else ((s.1), (s.2))))
noncomputable def q_C_heaviestUnmarked_9s  (c : Int32) (σ : MSto) (s : Int32 × Int64) : Nat := (if 200 ≤ c then 1 else 0)
def g_C_heaviestUnmarked_9  (c : Int32) (σ : MSto) (s : Int32 × Int64) : Prop := (¬ (200 ≤ c) → ((vp_in c 200) ∧ (((gI σ 27 0 (Int32.toNatClampNeg c)) = 0) → ((vp_in c 200) ∧ (¬ ((lg_cmp (gJ σ 26 0 (Int32.toNatClampNeg c)) (s.2)) ≤ 0) → (vp_in c 200))))))
noncomputable def f_C_heaviestUnmarked_9  (c0 : Int32) (σ : MSto) (s0 : Int32 × Int64) (n : Nat) : Int32 × Int64 := nfold (fun i s => t_C_heaviestUnmarked_9 (c0 + nI i) σ s) s0 n
noncomputable def n_C_heaviestUnmarked_9  (c0 : Int32) (σ : MSto) (s0 : Int32 × Int64) : Nat := 200
noncomputable def v_C_heaviestUnmarked  (σ : MSto) : Int32 := ((f_C_heaviestUnmarked_9 0 σ (0, (-1)) (n_C_heaviestUnmarked_9 0 σ (0, (-1)))).1)
def p_C_heaviestUnmarked  (σ : MSto) : Prop := ((∀ i, i < (n_C_heaviestUnmarked_9 0 σ (0, (-1))) → g_C_heaviestUnmarked_9 (0 + nI i) σ (f_C_heaviestUnmarked_9 0 σ (0, (-1)) i) ∧ ¬ q_C_heaviestUnmarked_9s (0 + nI i) σ (f_C_heaviestUnmarked_9 0 σ (0, (-1)) i) = 1) ∧ (¬ (200 ≤ (0 + nI (n_C_heaviestUnmarked_9 0 σ (0, (-1))))) → False))
noncomputable def S_C_heaviestUnmarked : List MV → MSto → Option Prop × Option MV × MSto := fun as σ => match as with
  | [.inr (.inr (some (12, 0)))] => (some (p_C_heaviestUnmarked σ), some (mI (v_C_heaviestUnmarked σ)), σ)
  | _ => (some False, none, σ)
noncomputable def E_C_heaviestUnmarked : MEnt := ((1, 0, 12), (0, 0, 0, 0), S_C_heaviestUnmarked, ((⟨"ClothWithMan", "heaviestUnmarked", "()I"⟩ : MethodName), prog_1_method_78_code, 5, (some .int)))

def T_C_heaviestUnmarked : Nat → Option (Instr × Nat × List Nat) := fun k => bif Nat.blt k 58 then (bif Nat.blt k 31 then (bif Nat.blt k 14 then (bif Nat.blt k 6 then (bif Nat.blt k 2 then (bif Nat.blt k 1 then (bif Nat.beq k 0 then some (.iconst 0, 1, []) else none) else (bif Nat.beq k 1 then some (.istore_n 1, 2, []) else none)) else (bif Nat.blt k 5 then (bif Nat.beq k 2 then some (.ldc2_w 457, 5, []) else none) else (bif Nat.beq k 5 then some (.lstore_n 2, 6, []) else none))) else (bif Nat.blt k 9 then (bif Nat.blt k 7 then (bif Nat.beq k 6 then some (.iconst 0, 7, []) else none) else (bif Nat.beq k 7 then some (.istore 4, 9, []) else none)) else (bif Nat.blt k 11 then (bif Nat.beq k 9 then some (.iload 4, 11, []) else none) else (bif Nat.beq k 11 then some (.sipush 200, 14, []) else none)))) else (bif Nat.blt k 23 then (bif Nat.blt k 18 then (bif Nat.blt k 17 then (bif Nat.beq k 14 then some (.if_icmp .ge 42, 17, [56]) else none) else (bif Nat.beq k 17 then some (.aload_n 0, 18, []) else none)) else (bif Nat.blt k 21 then (bif Nat.beq k 18 then some (.getfield 79, 21, []) else none) else (bif Nat.beq k 21 then some (.iload 4, 23, []) else none))) else (bif Nat.blt k 27 then (bif Nat.blt k 24 then (bif Nat.beq k 23 then some (.baload, 24, []) else none) else (bif Nat.beq k 24 then some (.ifCond .ne 26, 27, [50]) else none)) else (bif Nat.blt k 28 then (bif Nat.beq k 27 then some (.aload_n 0, 28, []) else none) else (bif Nat.beq k 28 then some (.getfield 75, 31, []) else none))))) else (bif Nat.blt k 43 then (bif Nat.blt k 36 then (bif Nat.blt k 34 then (bif Nat.blt k 33 then (bif Nat.beq k 31 then some (.iload 4, 33, []) else none) else (bif Nat.beq k 33 then some (.laload, 34, []) else none)) else (bif Nat.blt k 35 then (bif Nat.beq k 34 then some (.lload_n 2, 35, []) else none) else (bif Nat.beq k 35 then some (.lcmp, 36, []) else none))) else (bif Nat.blt k 41 then (bif Nat.blt k 39 then (bif Nat.beq k 36 then some (.ifCond .le 14, 39, [50]) else none) else (bif Nat.beq k 39 then some (.iload 4, 41, []) else none)) else (bif Nat.blt k 42 then (bif Nat.beq k 41 then some (.istore_n 1, 42, []) else none) else (bif Nat.beq k 42 then some (.aload_n 0, 43, []) else none)))) else (bif Nat.blt k 50 then (bif Nat.blt k 48 then (bif Nat.blt k 46 then (bif Nat.beq k 43 then some (.getfield 75, 46, []) else none) else (bif Nat.beq k 46 then some (.iload 4, 48, []) else none)) else (bif Nat.blt k 49 then (bif Nat.beq k 48 then some (.laload, 49, []) else none) else (bif Nat.beq k 49 then some (.lstore_n 2, 50, []) else none))) else (bif Nat.blt k 56 then (bif Nat.blt k 53 then (bif Nat.beq k 50 then some (.iinc 4 1, 53, []) else none) else (bif Nat.beq k 53 then some (.goto (-44), 56, [9]) else none)) else (bif Nat.blt k 57 then (bif Nat.beq k 56 then some (.iload_n 1, 57, []) else none) else (bif Nat.beq k 57 then some (.ireturn, 58, []) else none)))))) else none
noncomputable def P_C_heaviestUnmarked : MP := (T_C_heaviestUnmarked, (fun k => mLook k [(75, (12, 13, (.array .long), true)), (79, (12, 14, (.array .boolean), true))]), (fun k => mLook k [(457, .inr (-1))]), (fun k => mLook k []), (fun k => mLook k []), (fun k => mLook k []), (fun k => mLook k []), (fun k => mLook k [(9, [true, true, true, false, true])]), (fun k => [57].any (Nat.beq k)), (0, 0, 0, 0), false, (fun _ => none))
set_option maxRecDepth 100000 in
set_option maxHeartbeats 4000000 in
theorem q_C_heaviestUnmarked_e  (σ : MSto) (n : Nat) : mexe KT P_C_heaviestUnmarked (n + 1) (0, [some (mR 12 0), none, none, none, none], [], σ, 0, 0) = mexe KT P_C_heaviestUnmarked n (9, [some (mR 12 0), some (mI 0), some (mJ (-1)), none, some (mI 0)], [], σ, 0, 0) := rfl
set_option maxRecDepth 100000 in
set_option maxHeartbeats 4000000 in
theorem q_C_heaviestUnmarked_9 (x1 : Int32) (x2 : Int64) (x4 : Int32) (σ : MSto) (n : Nat) : mexe KT P_C_heaviestUnmarked (n + 1) (9, [some (mR 12 0), some (mI x1), some (mJ x2), none, some (mI x4)], [], σ, 0, 0) = mIf (200 ≤ x4) (some (57, [], [(mI x1)], σ, 0, 0)) (mG (vp_in x4 200) (mIf ((gI σ 27 0 (Int32.toNatClampNeg x4)) = 0) (mG (vp_in x4 200) (mIf ((lg_cmp (gJ σ 26 0 (Int32.toNatClampNeg x4)) x2) ≤ 0) (mexe KT P_C_heaviestUnmarked n (9, [some (mR 12 0), some (mI x1), some (mJ x2), none, some (mI (x4 + 1))], [], σ, 0, 0)) (mG (vp_in x4 200) (mexe KT P_C_heaviestUnmarked n (9, [some (mR 12 0), some (mI x4), some (mJ (gJ σ 26 0 (Int32.toNatClampNeg x4))), none, some (mI (x4 + 1))], [], σ, 0, 0))))) (mexe KT P_C_heaviestUnmarked n (9, [some (mR 12 0), some (mI x1), some (mJ x2), none, some (mI (x4 + 1))], [], σ, 0, 0)))) := rfl
set_option maxRecDepth 100000 in
theorem lt_C_heaviestUnmarked_9 {Post : MST → Prop}  (c : Int32) (σ : MSto) (s : Int32 × Int64) (hp : g_C_heaviestUnmarked_9 c σ s) (hq : ¬ q_C_heaviestUnmarked_9s c σ s = 1) (hn : ∀ (r1 : Int32) (r2 : Int64), t_C_heaviestUnmarked_9 c σ s = (r1, r2) → mW1 P_C_heaviestUnmarked (9, [some (mR 12 0), some (mI r1), some (mJ r2), none, some (mI (c + 1))], [], σ, 0, 0) Post) : mW1 P_C_heaviestUnmarked (9, [some (mR 12 0), some (mI (s.1)), some (mJ (s.2)), none, some (mI c)], [], σ, 0, 0) Post := by
  unfold g_C_heaviestUnmarked_9 at hp
  refine mW1_eq (q_C_heaviestUnmarked_9 _ _ _ _) ?_
  refine mTr_if (fun h0 => ?_) (fun h0 => ?_)
  · skip
    exact absurd (if_pos h0) hq
  · skip
    have hp := hp h0
    refine mTr_g hp.1 ?_
    have hp := hp.2
    refine mTr_if (fun h1 => ?_) (fun h1 => ?_)
    · skip
      have hp := hp h1
      refine mTr_g hp.1 ?_
      have hp := hp.2
      refine mTr_if (fun h2 => ?_) (fun h2 => ?_)
      · skip
        exact mTr_k (hn (s.1) (s.2) ((if_neg h0).trans ((if_pos h1).trans (if_pos h2))))
      · skip
        have hp := hp h2
        refine mTr_g hp ?_
        exact mTr_k (hn c (gJ σ 26 0 (Int32.toNatClampNeg c)) ((if_neg h0).trans ((if_pos h1).trans (if_neg h2))))
    · skip
      exact mTr_k (hn (s.1) (s.2) ((if_neg h0).trans (if_neg h1)))
theorem lp_C_heaviestUnmarked_9 {Post : MST → Prop}  (c0 : Int32) (σ : MSto) (s0 : Int32 × Int64) (N : Nat) (hb : ∀ i, i < N → g_C_heaviestUnmarked_9 (c0 + nI i) σ (f_C_heaviestUnmarked_9 c0 σ s0 i) ∧ ¬ q_C_heaviestUnmarked_9s (c0 + nI i) σ (f_C_heaviestUnmarked_9 c0 σ s0 i) = 1) (h : mW1 P_C_heaviestUnmarked (9, [some (mR 12 0), some (mI ((f_C_heaviestUnmarked_9 c0 σ s0 N).1)), some (mJ ((f_C_heaviestUnmarked_9 c0 σ s0 N).2)), none, some (mI (c0 + nI N))], [], σ, 0, 0) Post) : mW1 P_C_heaviestUnmarked (9, [some (mR 12 0), some (mI (s0.1)), some (mJ (s0.2)), none, some (mI c0)], [], σ, 0, 0) Post := by
  refine mW1_st (mW1_loop (fun i => (9, [some (mR 12 0), some (mI ((f_C_heaviestUnmarked_9 c0 σ s0 i).1)), some (mJ ((f_C_heaviestUnmarked_9 c0 σ s0 i).2)), none, some (mI (c0 + nI i))], [], σ, 0, 0)) N (fun i hlt hn => ?_) h) (by rw [show nI 0 = 0 from rfl, Int32.add_zero] <;> rfl)
  refine lt_C_heaviestUnmarked_9 _ σ _ (hb i hlt).1 (hb i hlt).2 (fun r1 r2 hr => ?_)
  rw [Int32.add_assoc, nI_s]
  have e : f_C_heaviestUnmarked_9 c0 σ s0 (i + 1) = (r1, r2) := hr
  try dsimp only at hn
  rw [e] at hn
  exact hn
set_option maxRecDepth 100000 in
set_option maxHeartbeats 4000000 in
theorem d_C_heaviestUnmarked  (σ : MSto) (hp : p_C_heaviestUnmarked σ) : mW1 P_C_heaviestUnmarked (0, [some (mR 12 0), none, none, none, none], [], σ, 0, 0) (mF [57] [mI (v_C_heaviestUnmarked σ)] σ 0 0) := by
  refine mW1_eq (q_C_heaviestUnmarked_e  _) ?_
  unfold p_C_heaviestUnmarked at hp
  refine mTr_k (lp_C_heaviestUnmarked_9 0 σ (0, (-1)) (n_C_heaviestUnmarked_9 0 σ (0, (-1))) hp.1 ?_)
  have hp := hp.2
  refine mW1_eq (q_C_heaviestUnmarked_9 _ _ _ _) ?_
  refine mTr_if (fun h0 => ?_) (fun h0 => ?_)
  · skip
    exact mTr_e (by decide) (congrArg (fun z => [mI z]) (Eq.symm (rfl))) rfl (by decide) (by decide)
  · skip
    have hp := hp h0
    exact hp.elim
theorem tk_C_heaviestUnmarked : ∀ pc i nx tg, T_C_heaviestUnmarked pc = some (i, nx, tg) → mOkB prog_1_method_78_code pc i nx tg = true := code_ok (N := 58) (fun k h => by unfold T_C_heaviestUnmarked; rw [h]; rfl) (by decide +kernel)
theorem ok_C_heaviestUnmarked (l : Launch) : mPOK l "ClothWithMan" prog_1_method_78_code P_C_heaviestUnmarked := by
  refine ⟨tk_C_heaviestUnmarked, ?_, ?_, ?_, (fun pc i nx tg kd _ h => by cases h), ?_, ?_, fun pc en h => by cases h⟩
  · intro x ci f ty fin h
    exact mLook_all (Q := fun x v => mFOK "ClothWithMan" x v.1 v.2.1 v.2.2.1 v.2.2.2 ∧ (v.2.2.2 = true → pIni P_C_heaviestUnmarked = true → (Cond.fieldLink "ClothWithMan" x (((mCl[v.1]?).getD ("", fun _ => ("", "", "", false), 0)).2.1 v.2.1).1 (((mCl[v.1]?).getD ("", fun _ => ("", "", "", false), 0)).2.1 v.2.1).2.1 (((mCl[v.1]?).getD ("", fun _ => ("", "", "", false), 0)).2.1 v.2.1).2.2.1 ∈ lw_tbl ∧ (((mCl[v.1]?).getD ("", fun _ => ("", "", "", false), 0)).2.1 v.2.1).1 = "ClothWithMan"))) (fcC ⟨fo_C_75, fun h1 h2 => by cases h2⟩ (fcC ⟨fo_C_79, fun h1 h2 => by cases h2⟩ fcN)) x (ci, f, ty, fin) h
  · intro x
    have hh := mLook_all (l := ([(457, .inr (-1))] : List (Nat × (Int32 ⊕ Int64)))) (Q := fun x (v : Int32 ⊕ Int64) => (∀ w, v = .inl w → Cond.constant "ClothWithMan" x w ∈ lw_tbl) ∧ (∀ w, v = .inr w → Cond.constantLong "ClothWithMan" x w ∈ lw_tbl)) (fcC ⟨(fun v h => by cases h), fun v h => by cases h; exact tw_3_131⟩ fcN) x
    exact ⟨fun w h => (hh _ h).1 w rfl, fun w h => (hh _ h).2 w rfl⟩
  · exact fun x en h => mLook_all (Q := fun x en => mLink "ClothWithMan" x en ∧ mCtr l en ∧ (en.1.1 = 2 → en.2.2.2.2.2.2 = none)) fcN x en h
  · exact fun x kd h => mLook_all (Q := fun x kd => (kd = 95 ∧ Cond.fieldLink "ClothWithMan" x "ClothWithMan" "LIKENESSES" "[I" ∈ lw_tbl) ∨ (kd = 96 ∧ Cond.fieldLink "ClothWithMan" x "ClothWithMan" "APART_BOUNDS" "[I" ∈ lw_tbl)) fcN x kd h
  · exact fun x ci h => mLook_all (Q := fun x ci => ci ≠ 0 ∧ ∃ (C : String) (T : u_T) (N : Nat), mCl[ci]? = some (C, T, N) ∧ Cond.classLink "ClothWithMan" x C ∈ lw_tbl ∧ Cond.instantiable C N ∈ lw_tbl) fcN x ci h
set_option maxRecDepth 100000 in
theorem c_C_heaviestUnmarked (l : Launch) : mCtr l E_C_heaviestUnmarked := mCtr_of (P := P_C_heaviestUnmarked) (own := "ClothWithMan") mLay_ok rfl (by decide +kernel) rfl (ok_C_heaviestUnmarked l) (fun h => by cases h) (fun as σ pr rv σ' hF hpr hlv => by
  unfold E_C_heaviestUnmarked S_C_heaviestUnmarked at hF
  simp only [] at hF
  split at hF
  · cases hF
    obtain ⟨n, pcF, c1, s1, g1, g2, g3, g4⟩ := mF_inv (d_C_heaviestUnmarked σ (hpr _ rfl))
    exact ⟨Nat.le_of_ble_eq_true rfl, (fun v h => by cases h; trivial), n, pcF, c1, s1, g1, ⟨mEnd_of (i := .ireturn) (P := P_C_heaviestUnmarked) (rets := [57]) rfl g2, rfl⟩, g3, g4⟩
  · cases hF
    exact (hpr _ rfl).elim)
/-! ClothWithMan.startsSpan(I)Z -/
def b_C_startsSpan (a1 : Int32) (σ : MSto) : Prop := (if (gI σ 27 0 (Int32.toNatClampNeg a1)) = 0 then False else (if a1 = 0 then True else (if (gI σ 27 0 (Int32.toNatClampNeg (a1 - 1))) = 0 then True else False)))
noncomputable def v_C_startsSpan (a1 : Int32) (σ : MSto) : Int32 := bI (b_C_startsSpan a1 σ)
def p_C_startsSpan (a1 : Int32) (σ : MSto) : Prop := ((vp_in a1 200) ∧ (¬ ((gI σ 27 0 (Int32.toNatClampNeg a1)) = 0) → (¬ (a1 = 0) → (vp_in (a1 - 1) 200))))
noncomputable def S_C_startsSpan : List MV → MSto → Option Prop × Option MV × MSto := fun as σ => match as with
  | [.inr (.inr (some (12, 0))), .inl a0] => (some (p_C_startsSpan a0 σ), some (mI (v_C_startsSpan a0 σ)), σ)
  | _ => (some False, none, σ)
noncomputable def E_C_startsSpan : MEnt := ((1, 1, 12), (0, 0, 0, 0), S_C_startsSpan, ((⟨"ClothWithMan", "startsSpan", "(I)Z"⟩ : MethodName), prog_1_method_79_code, 2, (some .boolean)))

def T_C_startsSpan : Nat → Option (Instr × Nat × List Nat) := fun k => bif Nat.blt k 30 then (bif Nat.blt k 17 then (bif Nat.blt k 6 then (bif Nat.blt k 4 then (bif Nat.blt k 1 then (bif Nat.beq k 0 then some (.aload_n 0, 1, []) else none) else (bif Nat.beq k 1 then some (.getfield 79, 4, []) else none)) else (bif Nat.blt k 5 then (bif Nat.beq k 4 then some (.iload_n 1, 5, []) else none) else (bif Nat.beq k 5 then some (.baload, 6, []) else none))) else (bif Nat.blt k 10 then (bif Nat.blt k 9 then (bif Nat.beq k 6 then some (.ifCond .eq 22, 9, [28]) else none) else (bif Nat.beq k 9 then some (.iload_n 1, 10, []) else none)) else (bif Nat.blt k 13 then (bif Nat.beq k 10 then some (.ifCond .eq 14, 13, [24]) else none) else (bif Nat.blt k 14 then (bif Nat.beq k 13 then some (.aload_n 0, 14, []) else none) else (bif Nat.beq k 14 then some (.getfield 79, 17, []) else none))))) else (bif Nat.blt k 21 then (bif Nat.blt k 19 then (bif Nat.blt k 18 then (bif Nat.beq k 17 then some (.iload_n 1, 18, []) else none) else (bif Nat.beq k 18 then some (.iconst 1, 19, []) else none)) else (bif Nat.blt k 20 then (bif Nat.beq k 19 then some (.isub, 20, []) else none) else (bif Nat.beq k 20 then some (.baload, 21, []) else none))) else (bif Nat.blt k 25 then (bif Nat.blt k 24 then (bif Nat.beq k 21 then some (.ifCond .ne 7, 24, [28]) else none) else (bif Nat.beq k 24 then some (.iconst 1, 25, []) else none)) else (bif Nat.blt k 28 then (bif Nat.beq k 25 then some (.goto 4, 28, [29]) else none) else (bif Nat.blt k 29 then (bif Nat.beq k 28 then some (.iconst 0, 29, []) else none) else (bif Nat.beq k 29 then some (.ireturn, 30, []) else none)))))) else none
noncomputable def P_C_startsSpan : MP := (T_C_startsSpan, (fun k => mLook k [(79, (12, 14, (.array .boolean), true))]), (fun k => mLook k []), (fun k => mLook k []), (fun k => mLook k []), (fun k => mLook k []), (fun k => mLook k []), (fun k => mLook k []), (fun k => [29].any (Nat.beq k)), (0, 0, 0, 0), false, (fun _ => none))
set_option maxRecDepth 100000 in
set_option maxHeartbeats 4000000 in
theorem q_C_startsSpan_e (a1 : Int32) (σ : MSto) (n : Nat) : mexe KT P_C_startsSpan (n + 1) (0, [some (mR 12 0), some (mI a1)], [], σ, 0, 0) = mG (vp_in a1 200) (mIf ((gI σ 27 0 (Int32.toNatClampNeg a1)) = 0) (some (29, [], [(mI 0)], σ, 0, 0)) (mIf (a1 = 0) (some (29, [], [(mI 1)], σ, 0, 0)) (mG (vp_in (a1 - 1) 200) (mIf ((gI σ 27 0 (Int32.toNatClampNeg (a1 - 1))) = 0) (some (29, [], [(mI 1)], σ, 0, 0)) (some (29, [], [(mI 0)], σ, 0, 0)))))) := rfl
set_option maxRecDepth 100000 in
set_option maxHeartbeats 4000000 in
theorem d_C_startsSpan (a1 : Int32) (σ : MSto) (hp : p_C_startsSpan a1 σ) : mW1 P_C_startsSpan (0, [some (mR 12 0), some (mI a1)], [], σ, 0, 0) (mF [29] [mI (v_C_startsSpan a1 σ)] σ 0 0) := by
  refine mW1_eq (q_C_startsSpan_e _ _) ?_
  unfold p_C_startsSpan at hp
  unfold v_C_startsSpan
  refine mTr_g hp.1 ?_
  have hp := hp.2
  refine mTr_if (fun h0 => ?_) (fun h0 => ?_)
  · skip
    exact mTr_e (by decide) (bI_F (if_pos h0)) rfl (by decide) (by decide)
  · skip
    have hp := hp h0
    refine mTr_if (fun h1 => ?_) (fun h1 => ?_)
    · skip
      exact mTr_e (by decide) (bI_T ((if_neg h0).trans (if_pos h1))) rfl (by decide) (by decide)
    · skip
      have hp := hp h1
      refine mTr_g hp ?_
      refine mTr_if (fun h2 => ?_) (fun h2 => ?_)
      · skip
        exact mTr_e (by decide) (bI_T ((if_neg h0).trans ((if_neg h1).trans (if_pos h2)))) rfl (by decide) (by decide)
      · skip
        exact mTr_e (by decide) (bI_F ((if_neg h0).trans ((if_neg h1).trans (if_neg h2)))) rfl (by decide) (by decide)
theorem tk_C_startsSpan : ∀ pc i nx tg, T_C_startsSpan pc = some (i, nx, tg) → mOkB prog_1_method_79_code pc i nx tg = true := code_ok (N := 30) (fun k h => by unfold T_C_startsSpan; rw [h]; rfl) (by decide +kernel)
theorem ok_C_startsSpan (l : Launch) : mPOK l "ClothWithMan" prog_1_method_79_code P_C_startsSpan := by
  refine ⟨tk_C_startsSpan, ?_, ?_, ?_, (fun pc i nx tg kd _ h => by cases h), ?_, ?_, fun pc en h => by cases h⟩
  · intro x ci f ty fin h
    exact mLook_all (Q := fun x v => mFOK "ClothWithMan" x v.1 v.2.1 v.2.2.1 v.2.2.2 ∧ (v.2.2.2 = true → pIni P_C_startsSpan = true → (Cond.fieldLink "ClothWithMan" x (((mCl[v.1]?).getD ("", fun _ => ("", "", "", false), 0)).2.1 v.2.1).1 (((mCl[v.1]?).getD ("", fun _ => ("", "", "", false), 0)).2.1 v.2.1).2.1 (((mCl[v.1]?).getD ("", fun _ => ("", "", "", false), 0)).2.1 v.2.1).2.2.1 ∈ lw_tbl ∧ (((mCl[v.1]?).getD ("", fun _ => ("", "", "", false), 0)).2.1 v.2.1).1 = "ClothWithMan"))) (fcC ⟨fo_C_79, fun h1 h2 => by cases h2⟩ fcN) x (ci, f, ty, fin) h
  · intro x
    have hh := mLook_all (l := ([] : List (Nat × (Int32 ⊕ Int64)))) (Q := fun x (v : Int32 ⊕ Int64) => (∀ w, v = .inl w → Cond.constant "ClothWithMan" x w ∈ lw_tbl) ∧ (∀ w, v = .inr w → Cond.constantLong "ClothWithMan" x w ∈ lw_tbl)) fcN x
    exact ⟨fun w h => (hh _ h).1 w rfl, fun w h => (hh _ h).2 w rfl⟩
  · exact fun x en h => mLook_all (Q := fun x en => mLink "ClothWithMan" x en ∧ mCtr l en ∧ (en.1.1 = 2 → en.2.2.2.2.2.2 = none)) fcN x en h
  · exact fun x kd h => mLook_all (Q := fun x kd => (kd = 95 ∧ Cond.fieldLink "ClothWithMan" x "ClothWithMan" "LIKENESSES" "[I" ∈ lw_tbl) ∨ (kd = 96 ∧ Cond.fieldLink "ClothWithMan" x "ClothWithMan" "APART_BOUNDS" "[I" ∈ lw_tbl)) fcN x kd h
  · exact fun x ci h => mLook_all (Q := fun x ci => ci ≠ 0 ∧ ∃ (C : String) (T : u_T) (N : Nat), mCl[ci]? = some (C, T, N) ∧ Cond.classLink "ClothWithMan" x C ∈ lw_tbl ∧ Cond.instantiable C N ∈ lw_tbl) fcN x ci h
set_option maxRecDepth 100000 in
theorem c_C_startsSpan (l : Launch) : mCtr l E_C_startsSpan := mCtr_of (P := P_C_startsSpan) (own := "ClothWithMan") mLay_ok rfl (by decide +kernel) rfl (ok_C_startsSpan l) (fun h => by cases h) (fun as σ pr rv σ' hF hpr hlv => by
  unfold E_C_startsSpan S_C_startsSpan at hF
  simp only [] at hF
  split at hF
  · cases hF
    obtain ⟨n, pcF, c1, s1, g1, g2, g3, g4⟩ := mF_inv (d_C_startsSpan _ σ (hpr _ rfl))
    exact ⟨Nat.le_of_ble_eq_true rfl, (fun v h => by cases h; trivial), n, pcF, c1, s1, g1, ⟨mEnd_of (i := .ireturn) (P := P_C_startsSpan) (rets := [29]) rfl g2, bI_narrow _⟩, g3, g4⟩
  · cases hF
    exact (hpr _ rfl).elim)
/-! ClothWithMan.endsSpan(I)Z -/
def b_C_endsSpan (a1 : Int32) (σ : MSto) : Prop := (if (gI σ 27 0 (Int32.toNatClampNeg a1)) = 0 then False else (if a1 = 199 then True else (if (gI σ 27 0 (Int32.toNatClampNeg (a1 + 1))) = 0 then True else False)))
noncomputable def v_C_endsSpan (a1 : Int32) (σ : MSto) : Int32 := bI (b_C_endsSpan a1 σ)
def p_C_endsSpan (a1 : Int32) (σ : MSto) : Prop := ((vp_in a1 200) ∧ (¬ ((gI σ 27 0 (Int32.toNatClampNeg a1)) = 0) → (¬ (a1 = 199) → (vp_in (a1 + 1) 200))))
noncomputable def S_C_endsSpan : List MV → MSto → Option Prop × Option MV × MSto := fun as σ => match as with
  | [.inr (.inr (some (12, 0))), .inl a0] => (some (p_C_endsSpan a0 σ), some (mI (v_C_endsSpan a0 σ)), σ)
  | _ => (some False, none, σ)
noncomputable def E_C_endsSpan : MEnt := ((1, 1, 12), (0, 0, 0, 0), S_C_endsSpan, ((⟨"ClothWithMan", "endsSpan", "(I)Z"⟩ : MethodName), prog_1_method_80_code, 2, (some .boolean)))

def T_C_endsSpan : Nat → Option (Instr × Nat × List Nat) := fun k => bif Nat.blt k 33 then (bif Nat.blt k 17 then (bif Nat.blt k 6 then (bif Nat.blt k 4 then (bif Nat.blt k 1 then (bif Nat.beq k 0 then some (.aload_n 0, 1, []) else none) else (bif Nat.beq k 1 then some (.getfield 79, 4, []) else none)) else (bif Nat.blt k 5 then (bif Nat.beq k 4 then some (.iload_n 1, 5, []) else none) else (bif Nat.beq k 5 then some (.baload, 6, []) else none))) else (bif Nat.blt k 10 then (bif Nat.blt k 9 then (bif Nat.beq k 6 then some (.ifCond .eq 25, 9, [31]) else none) else (bif Nat.beq k 9 then some (.iload_n 1, 10, []) else none)) else (bif Nat.blt k 13 then (bif Nat.beq k 10 then some (.sipush 199, 13, []) else none) else (bif Nat.blt k 16 then (bif Nat.beq k 13 then some (.if_icmp .eq 14, 16, [27]) else none) else (bif Nat.beq k 16 then some (.aload_n 0, 17, []) else none))))) else (bif Nat.blt k 24 then (bif Nat.blt k 21 then (bif Nat.blt k 20 then (bif Nat.beq k 17 then some (.getfield 79, 20, []) else none) else (bif Nat.beq k 20 then some (.iload_n 1, 21, []) else none)) else (bif Nat.blt k 22 then (bif Nat.beq k 21 then some (.iconst 1, 22, []) else none) else (bif Nat.blt k 23 then (bif Nat.beq k 22 then some (.iadd, 23, []) else none) else (bif Nat.beq k 23 then some (.baload, 24, []) else none)))) else (bif Nat.blt k 28 then (bif Nat.blt k 27 then (bif Nat.beq k 24 then some (.ifCond .ne 7, 27, [31]) else none) else (bif Nat.beq k 27 then some (.iconst 1, 28, []) else none)) else (bif Nat.blt k 31 then (bif Nat.beq k 28 then some (.goto 4, 31, [32]) else none) else (bif Nat.blt k 32 then (bif Nat.beq k 31 then some (.iconst 0, 32, []) else none) else (bif Nat.beq k 32 then some (.ireturn, 33, []) else none)))))) else none
noncomputable def P_C_endsSpan : MP := (T_C_endsSpan, (fun k => mLook k [(79, (12, 14, (.array .boolean), true))]), (fun k => mLook k []), (fun k => mLook k []), (fun k => mLook k []), (fun k => mLook k []), (fun k => mLook k []), (fun k => mLook k []), (fun k => [32].any (Nat.beq k)), (0, 0, 0, 0), false, (fun _ => none))
set_option maxRecDepth 100000 in
set_option maxHeartbeats 4000000 in
theorem q_C_endsSpan_e (a1 : Int32) (σ : MSto) (n : Nat) : mexe KT P_C_endsSpan (n + 1) (0, [some (mR 12 0), some (mI a1)], [], σ, 0, 0) = mG (vp_in a1 200) (mIf ((gI σ 27 0 (Int32.toNatClampNeg a1)) = 0) (some (32, [], [(mI 0)], σ, 0, 0)) (mIf (a1 = 199) (some (32, [], [(mI 1)], σ, 0, 0)) (mG (vp_in (a1 + 1) 200) (mIf ((gI σ 27 0 (Int32.toNatClampNeg (a1 + 1))) = 0) (some (32, [], [(mI 1)], σ, 0, 0)) (some (32, [], [(mI 0)], σ, 0, 0)))))) := rfl
set_option maxRecDepth 100000 in
set_option maxHeartbeats 4000000 in
theorem d_C_endsSpan (a1 : Int32) (σ : MSto) (hp : p_C_endsSpan a1 σ) : mW1 P_C_endsSpan (0, [some (mR 12 0), some (mI a1)], [], σ, 0, 0) (mF [32] [mI (v_C_endsSpan a1 σ)] σ 0 0) := by
  refine mW1_eq (q_C_endsSpan_e _ _) ?_
  unfold p_C_endsSpan at hp
  unfold v_C_endsSpan
  refine mTr_g hp.1 ?_
  have hp := hp.2
  refine mTr_if (fun h0 => ?_) (fun h0 => ?_)
  · skip
    exact mTr_e (by decide) (bI_F (if_pos h0)) rfl (by decide) (by decide)
  · skip
    have hp := hp h0
    refine mTr_if (fun h1 => ?_) (fun h1 => ?_)
    · skip
      exact mTr_e (by decide) (bI_T ((if_neg h0).trans (if_pos h1))) rfl (by decide) (by decide)
    · skip
      have hp := hp h1
      refine mTr_g hp ?_
      refine mTr_if (fun h2 => ?_) (fun h2 => ?_)
      · skip
        exact mTr_e (by decide) (bI_T ((if_neg h0).trans ((if_neg h1).trans (if_pos h2)))) rfl (by decide) (by decide)
      · skip
        exact mTr_e (by decide) (bI_F ((if_neg h0).trans ((if_neg h1).trans (if_neg h2)))) rfl (by decide) (by decide)
theorem tk_C_endsSpan : ∀ pc i nx tg, T_C_endsSpan pc = some (i, nx, tg) → mOkB prog_1_method_80_code pc i nx tg = true := code_ok (N := 33) (fun k h => by unfold T_C_endsSpan; rw [h]; rfl) (by decide +kernel)
theorem ok_C_endsSpan (l : Launch) : mPOK l "ClothWithMan" prog_1_method_80_code P_C_endsSpan := by
  refine ⟨tk_C_endsSpan, ?_, ?_, ?_, (fun pc i nx tg kd _ h => by cases h), ?_, ?_, fun pc en h => by cases h⟩
  · intro x ci f ty fin h
    exact mLook_all (Q := fun x v => mFOK "ClothWithMan" x v.1 v.2.1 v.2.2.1 v.2.2.2 ∧ (v.2.2.2 = true → pIni P_C_endsSpan = true → (Cond.fieldLink "ClothWithMan" x (((mCl[v.1]?).getD ("", fun _ => ("", "", "", false), 0)).2.1 v.2.1).1 (((mCl[v.1]?).getD ("", fun _ => ("", "", "", false), 0)).2.1 v.2.1).2.1 (((mCl[v.1]?).getD ("", fun _ => ("", "", "", false), 0)).2.1 v.2.1).2.2.1 ∈ lw_tbl ∧ (((mCl[v.1]?).getD ("", fun _ => ("", "", "", false), 0)).2.1 v.2.1).1 = "ClothWithMan"))) (fcC ⟨fo_C_79, fun h1 h2 => by cases h2⟩ fcN) x (ci, f, ty, fin) h
  · intro x
    have hh := mLook_all (l := ([] : List (Nat × (Int32 ⊕ Int64)))) (Q := fun x (v : Int32 ⊕ Int64) => (∀ w, v = .inl w → Cond.constant "ClothWithMan" x w ∈ lw_tbl) ∧ (∀ w, v = .inr w → Cond.constantLong "ClothWithMan" x w ∈ lw_tbl)) fcN x
    exact ⟨fun w h => (hh _ h).1 w rfl, fun w h => (hh _ h).2 w rfl⟩
  · exact fun x en h => mLook_all (Q := fun x en => mLink "ClothWithMan" x en ∧ mCtr l en ∧ (en.1.1 = 2 → en.2.2.2.2.2.2 = none)) fcN x en h
  · exact fun x kd h => mLook_all (Q := fun x kd => (kd = 95 ∧ Cond.fieldLink "ClothWithMan" x "ClothWithMan" "LIKENESSES" "[I" ∈ lw_tbl) ∨ (kd = 96 ∧ Cond.fieldLink "ClothWithMan" x "ClothWithMan" "APART_BOUNDS" "[I" ∈ lw_tbl)) fcN x kd h
  · exact fun x ci h => mLook_all (Q := fun x ci => ci ≠ 0 ∧ ∃ (C : String) (T : u_T) (N : Nat), mCl[ci]? = some (C, T, N) ∧ Cond.classLink "ClothWithMan" x C ∈ lw_tbl ∧ Cond.instantiable C N ∈ lw_tbl) fcN x ci h
set_option maxRecDepth 100000 in
theorem c_C_endsSpan (l : Launch) : mCtr l E_C_endsSpan := mCtr_of (P := P_C_endsSpan) (own := "ClothWithMan") mLay_ok rfl (by decide +kernel) rfl (ok_C_endsSpan l) (fun h => by cases h) (fun as σ pr rv σ' hF hpr hlv => by
  unfold E_C_endsSpan S_C_endsSpan at hF
  simp only [] at hF
  split at hF
  · cases hF
    obtain ⟨n, pcF, c1, s1, g1, g2, g3, g4⟩ := mF_inv (d_C_endsSpan _ σ (hpr _ rfl))
    exact ⟨Nat.le_of_ble_eq_true rfl, (fun v h => by cases h; trivial), n, pcF, c1, s1, g1, ⟨mEnd_of (i := .ireturn) (P := P_C_endsSpan) (rets := [32]) rfl g2, bI_narrow _⟩, g3, g4⟩
  · cases hF
    exact (hpr _ rfl).elim)
/-! ClothWithMan.tellMarked()V -/
noncomputable def t_C_tellMarked_9  (c : Int32) (σ : MSto) (s : Int32 × Int32 × Int32) : Int32 × Int32 × Int32 := (if 200 ≤ c then s else (if (gI σ 27 0 (Int32.toNatClampNeg c)) = 0 then (if (v_C_startsSpan c σ) = 0 then ((s.1), (s.2.1), (s.2.2)) else ((s.1), (s.2.1), ((s.2.2) + 1))) else (if (s.1) = (-1) then (if (v_C_startsSpan c σ) = 0 then (c, c, (s.2.2)) else (c, c, ((s.2.2) + 1))) else (if (v_C_startsSpan c σ) = 0 then ((s.1), c, (s.2.2)) else ((s.1), c, ((s.2.2) + 1))))))
noncomputable def q_C_tellMarked_9s  (c : Int32) (σ : MSto) (s : Int32 × Int32 × Int32) : Nat := (if 200 ≤ c then 1 else 0)
def g_C_tellMarked_9  (c : Int32) (σ : MSto) (s : Int32 × Int32 × Int32) : Prop := (¬ (200 ≤ c) → ((vp_in c 200) ∧ ((((gI σ 27 0 (Int32.toNatClampNeg c)) = 0) → (p_C_startsSpan c σ)) ∧ (¬ ((gI σ 27 0 (Int32.toNatClampNeg c)) = 0) → ((((s.1) = (-1)) → (p_C_startsSpan c σ)) ∧ (¬ ((s.1) = (-1)) → (p_C_startsSpan c σ)))))))
noncomputable def f_C_tellMarked_9  (c0 : Int32) (σ : MSto) (s0 : Int32 × Int32 × Int32) (n : Nat) : Int32 × Int32 × Int32 := nfold (fun i s => t_C_tellMarked_9 (c0 + nI i) σ s) s0 n
noncomputable def n_C_tellMarked_9  (c0 : Int32) (σ : MSto) (s0 : Int32 × Int32 × Int32) : Nat := 200
def p_C_tellMarked  (σ : MSto) : Prop := ((∀ i, i < (n_C_tellMarked_9 0 σ ((-1), (-1), 0)) → g_C_tellMarked_9 (0 + nI i) σ (f_C_tellMarked_9 0 σ ((-1), (-1), 0) i) ∧ ¬ q_C_tellMarked_9s (0 + nI i) σ (f_C_tellMarked_9 0 σ ((-1), (-1), 0) i) = 1) ∧ (((200 ≤ (0 + nI (n_C_tellMarked_9 0 σ ((-1), (-1), 0)))) → ((p_Ro_add (Int32.toInt64 ((f_C_tellMarked_9 0 σ ((-1), (-1), 0) (n_C_tellMarked_9 0 σ ((-1), (-1), 0))).1)) (e_Ro_clear σ)) ∧ ((p_Ro_add (Int32.toInt64 ((f_C_tellMarked_9 0 σ ((-1), (-1), 0) (n_C_tellMarked_9 0 σ ((-1), (-1), 0))).2.1)) (e_Ro_add (Int32.toInt64 ((f_C_tellMarked_9 0 σ ((-1), (-1), 0) (n_C_tellMarked_9 0 σ ((-1), (-1), 0))).1)) (e_Ro_clear σ))) ∧ (p_Ro_add (Int32.toInt64 ((f_C_tellMarked_9 0 σ ((-1), (-1), 0) (n_C_tellMarked_9 0 σ ((-1), (-1), 0))).2.2)) (e_Ro_add (Int32.toInt64 ((f_C_tellMarked_9 0 σ ((-1), (-1), 0) (n_C_tellMarked_9 0 σ ((-1), (-1), 0))).2.1)) (e_Ro_add (Int32.toInt64 ((f_C_tellMarked_9 0 σ ((-1), (-1), 0) (n_C_tellMarked_9 0 σ ((-1), (-1), 0))).1)) (e_Ro_clear σ))))))) ∧ (¬ (200 ≤ (0 + nI (n_C_tellMarked_9 0 σ ((-1), (-1), 0)))) → False)))
noncomputable def e_C_tellMarked  (σ : MSto) : MSto := (e_Ro_add (Int32.toInt64 ((f_C_tellMarked_9 0 σ ((-1), (-1), 0) (n_C_tellMarked_9 0 σ ((-1), (-1), 0))).2.2)) (e_Ro_add (Int32.toInt64 ((f_C_tellMarked_9 0 σ ((-1), (-1), 0) (n_C_tellMarked_9 0 σ ((-1), (-1), 0))).2.1)) (e_Ro_add (Int32.toInt64 ((f_C_tellMarked_9 0 σ ((-1), (-1), 0) (n_C_tellMarked_9 0 σ ((-1), (-1), 0))).1)) (e_Ro_clear σ))))
noncomputable def S_C_tellMarked : List MV → MSto → Option Prop × Option MV × MSto := fun as σ => match as with
  | [.inr (.inr (some (12, 0)))] => (some (p_C_tellMarked σ), none, e_C_tellMarked σ)
  | _ => (some False, none, σ)
noncomputable def E_C_tellMarked : MEnt := ((1, 0, 12), (1, 22, 0, 0), S_C_tellMarked, ((⟨"ClothWithMan", "tellMarked", "()V"⟩ : MethodName), prog_1_method_81_code, 5, none))

def T_C_tellMarked : Nat → Option (Instr × Nat × List Nat) := fun k => bif Nat.blt k 95 then (bif Nat.blt k 42 then (bif Nat.blt k 18 then (bif Nat.blt k 6 then (bif Nat.blt k 3 then (bif Nat.blt k 1 then (bif Nat.beq k 0 then some (.iconst (-1), 1, []) else none) else (bif Nat.blt k 2 then (bif Nat.beq k 1 then some (.istore_n 1, 2, []) else none) else (bif Nat.beq k 2 then some (.iconst (-1), 3, []) else none))) else (bif Nat.blt k 4 then (bif Nat.beq k 3 then some (.istore_n 2, 4, []) else none) else (bif Nat.blt k 5 then (bif Nat.beq k 4 then some (.iconst 0, 5, []) else none) else (bif Nat.beq k 5 then some (.istore_n 3, 6, []) else none)))) else (bif Nat.blt k 11 then (bif Nat.blt k 7 then (bif Nat.beq k 6 then some (.iconst 0, 7, []) else none) else (bif Nat.blt k 9 then (bif Nat.beq k 7 then some (.istore 4, 9, []) else none) else (bif Nat.beq k 9 then some (.iload 4, 11, []) else none))) else (bif Nat.blt k 14 then (bif Nat.beq k 11 then some (.sipush 200, 14, []) else none) else (bif Nat.blt k 17 then (bif Nat.beq k 14 then some (.if_icmp .ge 46, 17, [60]) else none) else (bif Nat.beq k 17 then some (.aload_n 0, 18, []) else none))))) else (bif Nat.blt k 29 then (bif Nat.blt k 24 then (bif Nat.blt k 21 then (bif Nat.beq k 18 then some (.getfield 79, 21, []) else none) else (bif Nat.blt k 23 then (bif Nat.beq k 21 then some (.iload 4, 23, []) else none) else (bif Nat.beq k 23 then some (.baload, 24, []) else none))) else (bif Nat.blt k 27 then (bif Nat.beq k 24 then some (.ifCond .eq 18, 27, [42]) else none) else (bif Nat.blt k 28 then (bif Nat.beq k 27 then some (.iload_n 1, 28, []) else none) else (bif Nat.beq k 28 then some (.iconst (-1), 29, []) else none)))) else (bif Nat.blt k 37 then (bif Nat.blt k 32 then (bif Nat.beq k 29 then some (.if_icmp .ne 8, 32, [37]) else none) else (bif Nat.blt k 34 then (bif Nat.beq k 32 then some (.iload 4, 34, []) else none) else (bif Nat.beq k 34 then some (.goto 4, 37, [38]) else none))) else (bif Nat.blt k 39 then (bif Nat.blt k 38 then (bif Nat.beq k 37 then some (.iload_n 1, 38, []) else none) else (bif Nat.beq k 38 then some (.istore_n 1, 39, []) else none)) else (bif Nat.blt k 41 then (bif Nat.beq k 39 then some (.iload 4, 41, []) else none) else (bif Nat.beq k 41 then some (.istore_n 2, 42, []) else none)))))) else (bif Nat.blt k 72 then (bif Nat.blt k 57 then (bif Nat.blt k 48 then (bif Nat.blt k 43 then (bif Nat.beq k 42 then some (.aload_n 0, 43, []) else none) else (bif Nat.blt k 45 then (bif Nat.beq k 43 then some (.iload 4, 45, []) else none) else (bif Nat.beq k 45 then some (.invokevirtual 220, 48, []) else none))) else (bif Nat.blt k 51 then (bif Nat.beq k 48 then some (.ifCond .eq 6, 51, [54]) else none) else (bif Nat.blt k 54 then (bif Nat.beq k 51 then some (.iinc 3 1, 54, []) else none) else (bif Nat.beq k 54 then some (.iinc 4 1, 57, []) else none)))) else (bif Nat.blt k 64 then (bif Nat.blt k 60 then (bif Nat.beq k 57 then some (.goto (-48), 60, [9]) else none) else (bif Nat.blt k 61 then (bif Nat.beq k 60 then some (.aload_n 0, 61, []) else none) else (bif Nat.beq k 61 then some (.getfield 67, 64, []) else none))) else (bif Nat.blt k 68 then (bif Nat.blt k 67 then (bif Nat.beq k 64 then some (.invokevirtual 217, 67, []) else none) else (bif Nat.beq k 67 then some (.aload_n 0, 68, []) else none)) else (bif Nat.blt k 71 then (bif Nat.beq k 68 then some (.getfield 67, 71, []) else none) else (bif Nat.beq k 71 then some (.iload_n 1, 72, []) else none))))) else (bif Nat.blt k 82 then (bif Nat.blt k 77 then (bif Nat.blt k 73 then (bif Nat.beq k 72 then some (.i2l, 73, []) else none) else (bif Nat.blt k 76 then (bif Nat.beq k 73 then some (.invokevirtual 223, 76, []) else none) else (bif Nat.beq k 76 then some (.aload_n 0, 77, []) else none))) else (bif Nat.blt k 80 then (bif Nat.beq k 77 then some (.getfield 67, 80, []) else none) else (bif Nat.blt k 81 then (bif Nat.beq k 80 then some (.iload_n 2, 81, []) else none) else (bif Nat.beq k 81 then some (.i2l, 82, []) else none)))) else (bif Nat.blt k 89 then (bif Nat.blt k 85 then (bif Nat.beq k 82 then some (.invokevirtual 223, 85, []) else none) else (bif Nat.blt k 86 then (bif Nat.beq k 85 then some (.aload_n 0, 86, []) else none) else (bif Nat.beq k 86 then some (.getfield 67, 89, []) else none))) else (bif Nat.blt k 91 then (bif Nat.blt k 90 then (bif Nat.beq k 89 then some (.iload_n 3, 90, []) else none) else (bif Nat.beq k 90 then some (.i2l, 91, []) else none)) else (bif Nat.blt k 94 then (bif Nat.beq k 91 then some (.invokevirtual 223, 94, []) else none) else (bif Nat.beq k 94 then some (.return_, 95, []) else none))))))) else none
noncomputable def P_C_tellMarked : MP := (T_C_tellMarked, (fun k => mLook k [(67, (12, 11, (.object "ClothWithMan$Row"), true)), (79, (12, 14, (.array .boolean), true))]), (fun k => mLook k []), (fun k => mLook k [(217, E_Ro_clear), (220, E_C_startsSpan), (223, E_Ro_add)]), (fun k => mLook k []), (fun k => mLook k []), (fun k => mLook k []), (fun k => mLook k [(9, [true, true, true, true, true])]), (fun k => [94].any (Nat.beq k)), (1, 22, 0, 0), false, (fun _ => none))
set_option maxRecDepth 100000 in
set_option maxHeartbeats 4000000 in
theorem q_C_tellMarked_e  (σ : MSto) (n : Nat) : mexe KT P_C_tellMarked (n + 1) (0, [some (mR 12 0), none, none, none, none], [], σ, 0, 0) = mexe KT P_C_tellMarked n (9, [some (mR 12 0), some (mI (-1)), some (mI (-1)), some (mI 0), some (mI 0)], [], σ, 0, 0) := rfl
set_option maxRecDepth 100000 in
set_option maxHeartbeats 4000000 in
theorem q_C_tellMarked_9 (x1 : Int32) (x2 : Int32) (x3 : Int32) (x4 : Int32) (σ : MSto) (n : Nat) : mexe KT P_C_tellMarked (n + 1) (9, [some (mR 12 0), some (mI x1), some (mI x2), some (mI x3), some (mI x4)], [], σ, 0, 0) = mIf (200 ≤ x4) (mG (p_Ro_add (Int32.toInt64 x1) (e_Ro_clear σ)) (mG (p_Ro_add (Int32.toInt64 x2) (e_Ro_add (Int32.toInt64 x1) (e_Ro_clear σ))) (mG (p_Ro_add (Int32.toInt64 x3) (e_Ro_add (Int32.toInt64 x2) (e_Ro_add (Int32.toInt64 x1) (e_Ro_clear σ)))) (some (94, [], [], (e_Ro_add (Int32.toInt64 x3) (e_Ro_add (Int32.toInt64 x2) (e_Ro_add (Int32.toInt64 x1) (e_Ro_clear σ)))), 0, 0))))) (mG (vp_in x4 200) (mIf ((gI σ 27 0 (Int32.toNatClampNeg x4)) = 0) (mG (p_C_startsSpan x4 σ) (mIf ((v_C_startsSpan x4 σ) = 0) (mexe KT P_C_tellMarked n (9, [some (mR 12 0), some (mI x1), some (mI x2), some (mI x3), some (mI (x4 + 1))], [], σ, 0, 0)) (mexe KT P_C_tellMarked n (9, [some (mR 12 0), some (mI x1), some (mI x2), some (mI (x3 + 1)), some (mI (x4 + 1))], [], σ, 0, 0)))) (mIf (x1 = (-1)) (mG (p_C_startsSpan x4 σ) (mIf ((v_C_startsSpan x4 σ) = 0) (mexe KT P_C_tellMarked n (9, [some (mR 12 0), some (mI x4), some (mI x4), some (mI x3), some (mI (x4 + 1))], [], σ, 0, 0)) (mexe KT P_C_tellMarked n (9, [some (mR 12 0), some (mI x4), some (mI x4), some (mI (x3 + 1)), some (mI (x4 + 1))], [], σ, 0, 0)))) (mG (p_C_startsSpan x4 σ) (mIf ((v_C_startsSpan x4 σ) = 0) (mexe KT P_C_tellMarked n (9, [some (mR 12 0), some (mI x1), some (mI x4), some (mI x3), some (mI (x4 + 1))], [], σ, 0, 0)) (mexe KT P_C_tellMarked n (9, [some (mR 12 0), some (mI x1), some (mI x4), some (mI (x3 + 1)), some (mI (x4 + 1))], [], σ, 0, 0))))))) := rfl
set_option maxRecDepth 100000 in
theorem lt_C_tellMarked_9 {Post : MST → Prop}  (c : Int32) (σ : MSto) (s : Int32 × Int32 × Int32) (hp : g_C_tellMarked_9 c σ s) (hq : ¬ q_C_tellMarked_9s c σ s = 1) (hn : ∀ (r1 : Int32) (r2 : Int32) (r3 : Int32), t_C_tellMarked_9 c σ s = (r1, r2, r3) → mW1 P_C_tellMarked (9, [some (mR 12 0), some (mI r1), some (mI r2), some (mI r3), some (mI (c + 1))], [], σ, 0, 0) Post) : mW1 P_C_tellMarked (9, [some (mR 12 0), some (mI (s.1)), some (mI (s.2.1)), some (mI (s.2.2)), some (mI c)], [], σ, 0, 0) Post := by
  unfold g_C_tellMarked_9 at hp
  refine mW1_eq (q_C_tellMarked_9 _ _ _ _ _) ?_
  refine mTr_if (fun h0 => ?_) (fun h0 => ?_)
  · skip
    exact absurd (if_pos h0) hq
  · skip
    have hp := hp h0
    refine mTr_g hp.1 ?_
    have hp := hp.2
    refine mTr_if (fun h1 => ?_) (fun h1 => ?_)
    · skip
      have hp := hp.1 h1
      refine mTr_g hp ?_
      refine mTr_if (fun h2 => ?_) (fun h2 => ?_)
      · skip
        exact mTr_k (hn (s.1) (s.2.1) (s.2.2) ((if_neg h0).trans ((if_pos h1).trans (if_pos h2))))
      · skip
        exact mTr_k (hn (s.1) (s.2.1) ((s.2.2) + 1) ((if_neg h0).trans ((if_pos h1).trans (if_neg h2))))
    · skip
      have hp := hp.2 h1
      refine mTr_if (fun h2 => ?_) (fun h2 => ?_)
      · skip
        have hp := hp.1 h2
        refine mTr_g hp ?_
        refine mTr_if (fun h3 => ?_) (fun h3 => ?_)
        · skip
          exact mTr_k (hn c c (s.2.2) ((if_neg h0).trans ((if_neg h1).trans ((if_pos h2).trans (if_pos h3)))))
        · skip
          exact mTr_k (hn c c ((s.2.2) + 1) ((if_neg h0).trans ((if_neg h1).trans ((if_pos h2).trans (if_neg h3)))))
      · skip
        have hp := hp.2 h2
        refine mTr_g hp ?_
        refine mTr_if (fun h3 => ?_) (fun h3 => ?_)
        · skip
          exact mTr_k (hn (s.1) c (s.2.2) ((if_neg h0).trans ((if_neg h1).trans ((if_neg h2).trans (if_pos h3)))))
        · skip
          exact mTr_k (hn (s.1) c ((s.2.2) + 1) ((if_neg h0).trans ((if_neg h1).trans ((if_neg h2).trans (if_neg h3)))))
theorem lp_C_tellMarked_9 {Post : MST → Prop}  (c0 : Int32) (σ : MSto) (s0 : Int32 × Int32 × Int32) (N : Nat) (hb : ∀ i, i < N → g_C_tellMarked_9 (c0 + nI i) σ (f_C_tellMarked_9 c0 σ s0 i) ∧ ¬ q_C_tellMarked_9s (c0 + nI i) σ (f_C_tellMarked_9 c0 σ s0 i) = 1) (h : mW1 P_C_tellMarked (9, [some (mR 12 0), some (mI ((f_C_tellMarked_9 c0 σ s0 N).1)), some (mI ((f_C_tellMarked_9 c0 σ s0 N).2.1)), some (mI ((f_C_tellMarked_9 c0 σ s0 N).2.2)), some (mI (c0 + nI N))], [], σ, 0, 0) Post) : mW1 P_C_tellMarked (9, [some (mR 12 0), some (mI (s0.1)), some (mI (s0.2.1)), some (mI (s0.2.2)), some (mI c0)], [], σ, 0, 0) Post := by
  refine mW1_st (mW1_loop (fun i => (9, [some (mR 12 0), some (mI ((f_C_tellMarked_9 c0 σ s0 i).1)), some (mI ((f_C_tellMarked_9 c0 σ s0 i).2.1)), some (mI ((f_C_tellMarked_9 c0 σ s0 i).2.2)), some (mI (c0 + nI i))], [], σ, 0, 0)) N (fun i hlt hn => ?_) h) (by rw [show nI 0 = 0 from rfl, Int32.add_zero] <;> rfl)
  refine lt_C_tellMarked_9 _ σ _ (hb i hlt).1 (hb i hlt).2 (fun r1 r2 r3 hr => ?_)
  rw [Int32.add_assoc, nI_s]
  have e : f_C_tellMarked_9 c0 σ s0 (i + 1) = (r1, r2, r3) := hr
  try dsimp only at hn
  rw [e] at hn
  exact hn
set_option maxRecDepth 100000 in
set_option maxHeartbeats 4000000 in
theorem d_C_tellMarked  (σ : MSto) (hp : p_C_tellMarked σ) : mW1 P_C_tellMarked (0, [some (mR 12 0), none, none, none, none], [], σ, 0, 0) (mF [94] [] (e_C_tellMarked σ) 0 0) := by
  refine mW1_eq (q_C_tellMarked_e  _) ?_
  unfold p_C_tellMarked at hp
  refine mTr_k (lp_C_tellMarked_9 0 σ ((-1), (-1), 0) (n_C_tellMarked_9 0 σ ((-1), (-1), 0)) hp.1 ?_)
  have hp := hp.2
  refine mW1_eq (q_C_tellMarked_9 _ _ _ _ _) ?_
  refine mTr_if (fun h0 => ?_) (fun h0 => ?_)
  · skip
    have hp := hp.1 h0
    refine mTr_g hp.1 ?_
    have hp := hp.2
    refine mTr_g hp.1 ?_
    have hp := hp.2
    refine mTr_g hp ?_
    exact mTr_e (by decide) rfl (Eq.symm (rfl)) (by decide) (by decide)
  · skip
    have hp := hp.2 h0
    exact hp.elim
theorem li_C_223 : mLink "ClothWithMan" 223 E_Ro_add := ⟨tw_3_85, tw_1_8, ⟨by decide, by decide⟩, by decide +kernel, Or.inl tw_3_82, (fun h => by cases h), (fun _ => ⟨tw_3_83, tw_3_84, TX7, 2, rfl⟩), (fun h => by cases h)⟩

theorem li_C_220 : mLink "ClothWithMan" 220 E_C_startsSpan := ⟨tw_3_81, tw_1_1, ⟨by decide, by decide⟩, by decide +kernel, Or.inl tw_3_78, (fun h => by cases h), (fun _ => ⟨tw_3_80, tw_0_7, TX11, 20, rfl⟩), (fun h => by cases h)⟩

theorem li_C_217 : mLink "ClothWithMan" 217 E_Ro_clear := ⟨tw_3_77, tw_1_8, ⟨by decide, by decide⟩, by decide +kernel, Or.inl tw_3_74, (fun h => by cases h), (fun _ => ⟨tw_3_75, tw_3_76, TX7, 2, rfl⟩), (fun h => by cases h)⟩

theorem tk_C_tellMarked : ∀ pc i nx tg, T_C_tellMarked pc = some (i, nx, tg) → mOkB prog_1_method_81_code pc i nx tg = true := code_ok (N := 95) (fun k h => by unfold T_C_tellMarked; rw [h]; rfl) (by decide +kernel)
theorem ok_C_tellMarked (l : Launch) : mPOK l "ClothWithMan" prog_1_method_81_code P_C_tellMarked := by
  refine ⟨tk_C_tellMarked, ?_, ?_, ?_, (fun pc i nx tg kd _ h => by cases h), ?_, ?_, fun pc en h => by cases h⟩
  · intro x ci f ty fin h
    exact mLook_all (Q := fun x v => mFOK "ClothWithMan" x v.1 v.2.1 v.2.2.1 v.2.2.2 ∧ (v.2.2.2 = true → pIni P_C_tellMarked = true → (Cond.fieldLink "ClothWithMan" x (((mCl[v.1]?).getD ("", fun _ => ("", "", "", false), 0)).2.1 v.2.1).1 (((mCl[v.1]?).getD ("", fun _ => ("", "", "", false), 0)).2.1 v.2.1).2.1 (((mCl[v.1]?).getD ("", fun _ => ("", "", "", false), 0)).2.1 v.2.1).2.2.1 ∈ lw_tbl ∧ (((mCl[v.1]?).getD ("", fun _ => ("", "", "", false), 0)).2.1 v.2.1).1 = "ClothWithMan"))) (fcC ⟨fo_C_67, fun h1 h2 => by cases h2⟩ (fcC ⟨fo_C_79, fun h1 h2 => by cases h2⟩ fcN)) x (ci, f, ty, fin) h
  · intro x
    have hh := mLook_all (l := ([] : List (Nat × (Int32 ⊕ Int64)))) (Q := fun x (v : Int32 ⊕ Int64) => (∀ w, v = .inl w → Cond.constant "ClothWithMan" x w ∈ lw_tbl) ∧ (∀ w, v = .inr w → Cond.constantLong "ClothWithMan" x w ∈ lw_tbl)) fcN x
    exact ⟨fun w h => (hh _ h).1 w rfl, fun w h => (hh _ h).2 w rfl⟩
  · exact fun x en h => mLook_all (Q := fun x en => mLink "ClothWithMan" x en ∧ mCtr l en ∧ (en.1.1 = 2 → en.2.2.2.2.2.2 = none)) (fcC ⟨li_C_217, c_Ro_clear l, (fun h => by cases h)⟩ (fcC ⟨li_C_220, c_C_startsSpan l, (fun h => by cases h)⟩ (fcC ⟨li_C_223, c_Ro_add l, (fun h => by cases h)⟩ fcN))) x en h
  · exact fun x kd h => mLook_all (Q := fun x kd => (kd = 95 ∧ Cond.fieldLink "ClothWithMan" x "ClothWithMan" "LIKENESSES" "[I" ∈ lw_tbl) ∨ (kd = 96 ∧ Cond.fieldLink "ClothWithMan" x "ClothWithMan" "APART_BOUNDS" "[I" ∈ lw_tbl)) fcN x kd h
  · exact fun x ci h => mLook_all (Q := fun x ci => ci ≠ 0 ∧ ∃ (C : String) (T : u_T) (N : Nat), mCl[ci]? = some (C, T, N) ∧ Cond.classLink "ClothWithMan" x C ∈ lw_tbl ∧ Cond.instantiable C N ∈ lw_tbl) fcN x ci h
set_option maxRecDepth 100000 in
theorem c_C_tellMarked (l : Launch) : mCtr l E_C_tellMarked := mCtr_of (P := P_C_tellMarked) (own := "ClothWithMan") mLay_ok rfl (by decide +kernel) rfl (ok_C_tellMarked l) (fun h => by cases h) (fun as σ pr rv σ' hF hpr hlv => by
  unfold E_C_tellMarked S_C_tellMarked at hF
  simp only [] at hF
  split at hF
  · cases hF
    obtain ⟨n, pcF, c1, s1, g1, g2, g3, g4⟩ := mF_inv (d_C_tellMarked σ (hpr _ rfl))
    exact ⟨Nat.le_of_ble_eq_true rfl, (fun v h => by cases h), n, pcF, c1, s1, g1, mEnd_of (i := .return_) (P := P_C_tellMarked) (rets := [94]) rfl g2, g3, g4⟩
  · cases hF
    exact (hpr _ rfl).elim)
/-! ClothWithMan.squaresOf(I)J -/
noncomputable def t_C_squaresOf_5 (x1 : Int32) (c : Int32) (σ : MSto) (s : Int64) : Int64 := (if (v_C_pieceCount σ) ≤ c then s else (if (v_C_has x1 c σ) = 0 then s else (s * ((Int32.toInt64 (gI σ 21 0 (Int32.toNatClampNeg (gI σ 7 (v_AL_get 14 0 c σ) 3)))) * (Int32.toInt64 (gI σ 21 0 (Int32.toNatClampNeg (gI σ 7 (v_AL_get 14 0 c σ) 3))))))))
noncomputable def q_C_squaresOf_5s (x1 : Int32) (c : Int32) (σ : MSto) (s : Int64) : Nat := (if (v_C_pieceCount σ) ≤ c then 1 else 0)
def g_C_squaresOf_5 (x1 : Int32) (c : Int32) (σ : MSto) (s : Int64) : Prop := (¬ ((v_C_pieceCount σ) ≤ c) → (¬ ((v_C_has x1 c σ) = 0) → ((p_AL_get 14 0 c σ) ∧ (vp_in (gI σ 7 (v_AL_get 14 0 c σ) 3) 6))))
noncomputable def f_C_squaresOf_5 (x1 : Int32) (c0 : Int32) (σ : MSto) (s0 : Int64) (n : Nat) : Int64 := nfold (fun i s => t_C_squaresOf_5 x1 (c0 + nI i) σ s) s0 n
noncomputable def n_C_squaresOf_5 (x1 : Int32) (c0 : Int32) (σ : MSto) (s0 : Int64) : Nat := (v_C_pieceCount σ).toNatClampNeg
noncomputable def v_C_squaresOf (a1 : Int32) (σ : MSto) : Int64 := (f_C_squaresOf_5 a1 0 σ 1 (n_C_squaresOf_5 a1 0 σ 1))
def p_C_squaresOf (a1 : Int32) (σ : MSto) : Prop := ((∀ i, i < (n_C_squaresOf_5 a1 0 σ 1) → g_C_squaresOf_5 a1 (0 + nI i) σ (f_C_squaresOf_5 a1 0 σ 1 i) ∧ ¬ q_C_squaresOf_5s a1 (0 + nI i) σ (f_C_squaresOf_5 a1 0 σ 1 i) = 1) ∧ (¬ ((v_C_pieceCount σ) ≤ (0 + nI (n_C_squaresOf_5 a1 0 σ 1))) → False))
noncomputable def S_C_squaresOf : List MV → MSto → Option Prop × Option MV × MSto := fun as σ => match as with
  | [.inr (.inr (some (12, 0))), .inl a0] => (some (p_C_squaresOf a0 σ), some (mJ (v_C_squaresOf a0 σ)), σ)
  | _ => (some False, none, σ)
noncomputable def E_C_squaresOf : MEnt := ((1, 1, 12), (6, 121, 0, 0), S_C_squaresOf, ((⟨"ClothWithMan", "squaresOf", "(I)J"⟩ : MethodName), prog_1_method_82_code, 7, (some .long)))

def T_C_squaresOf : Nat → Option (Instr × Nat × List Nat) := fun k => bif Nat.blt k 62 then (bif Nat.blt k 31 then (bif Nat.blt k 14 then (bif Nat.blt k 5 then (bif Nat.blt k 2 then (bif Nat.blt k 1 then (bif Nat.beq k 0 then some (.lconst 1, 1, []) else none) else (bif Nat.beq k 1 then some (.lstore_n 2, 2, []) else none)) else (bif Nat.blt k 3 then (bif Nat.beq k 2 then some (.iconst 0, 3, []) else none) else (bif Nat.beq k 3 then some (.istore 4, 5, []) else none))) else (bif Nat.blt k 8 then (bif Nat.blt k 7 then (bif Nat.beq k 5 then some (.iload 4, 7, []) else none) else (bif Nat.beq k 7 then some (.aload_n 0, 8, []) else none)) else (bif Nat.blt k 11 then (bif Nat.beq k 8 then some (.invokevirtual 281, 11, []) else none) else (bif Nat.beq k 11 then some (.if_icmp .ge 49, 14, [60]) else none)))) else (bif Nat.blt k 23 then (bif Nat.blt k 17 then (bif Nat.blt k 15 then (bif Nat.beq k 14 then some (.iload_n 1, 15, []) else none) else (bif Nat.beq k 15 then some (.iload 4, 17, []) else none)) else (bif Nat.blt k 20 then (bif Nat.beq k 17 then some (.invokestatic 284, 20, []) else none) else (bif Nat.beq k 20 then some (.ifCond .eq 34, 23, [54]) else none))) else (bif Nat.blt k 27 then (bif Nat.blt k 24 then (bif Nat.beq k 23 then some (.aload_n 0, 24, []) else none) else (bif Nat.beq k 24 then some (.getfield 27, 27, []) else none)) else (bif Nat.blt k 28 then (bif Nat.beq k 27 then some (.aload_n 0, 28, []) else none) else (bif Nat.beq k 28 then some (.getfield 33, 31, []) else none))))) else (bif Nat.blt k 47 then (bif Nat.blt k 42 then (bif Nat.blt k 36 then (bif Nat.blt k 33 then (bif Nat.beq k 31 then some (.iload 4, 33, []) else none) else (bif Nat.beq k 33 then some (.invokevirtual 183, 36, []) else none)) else (bif Nat.blt k 39 then (bif Nat.beq k 36 then some (.checkcast 168, 39, []) else none) else (bif Nat.beq k 39 then some (.getfield 195, 42, []) else none))) else (bif Nat.blt k 44 then (bif Nat.blt k 43 then (bif Nat.beq k 42 then some (.iaload, 43, []) else none) else (bif Nat.beq k 43 then some (.i2l, 44, []) else none)) else (bif Nat.blt k 46 then (bif Nat.beq k 44 then some (.lstore 5, 46, []) else none) else (bif Nat.beq k 46 then some (.lload_n 2, 47, []) else none)))) else (bif Nat.blt k 53 then (bif Nat.blt k 51 then (bif Nat.blt k 49 then (bif Nat.beq k 47 then some (.lload 5, 49, []) else none) else (bif Nat.beq k 49 then some (.lload 5, 51, []) else none)) else (bif Nat.blt k 52 then (bif Nat.beq k 51 then some (.lmul, 52, []) else none) else (bif Nat.beq k 52 then some (.lmul, 53, []) else none))) else (bif Nat.blt k 57 then (bif Nat.blt k 54 then (bif Nat.beq k 53 then some (.lstore_n 2, 54, []) else none) else (bif Nat.beq k 54 then some (.iinc 4 1, 57, []) else none)) else (bif Nat.blt k 60 then (bif Nat.beq k 57 then some (.goto (-52), 60, [5]) else none) else (bif Nat.blt k 61 then (bif Nat.beq k 60 then some (.lload_n 2, 61, []) else none) else (bif Nat.beq k 61 then some (.lreturn, 62, []) else none))))))) else none
noncomputable def P_C_squaresOf : MP := (T_C_squaresOf, (fun k => mLook k [(27, (12, 3, (.array .int), true)), (33, (12, 4, (.object "java/util/ArrayList"), true)), (195, (7, 3, .int, true))]), (fun k => mLook k []), (fun k => mLook k [(183, E_AL_get), (281, E_C_pieceCount), (284, E_C_has)]), (fun k => mLook k []), (fun k => mLook k []), (fun k => mLook k [(168, 7)]), (fun k => mLook k [(5, [true, true, true, false, true, false, false])]), (fun k => [61].any (Nat.beq k)), (6, 121, 0, 0), false, (fun _ => none))
set_option maxRecDepth 100000 in
set_option maxHeartbeats 4000000 in
theorem q_C_squaresOf_e (a1 : Int32) (σ : MSto) (n : Nat) : mexe KT P_C_squaresOf (n + 1) (0, [some (mR 12 0), some (mI a1), none, none, none, none, none], [], σ, 0, 0) = mexe KT P_C_squaresOf n (5, [some (mR 12 0), some (mI a1), some (mJ 1), none, some (mI 0), none, none], [], σ, 0, 0) := rfl
set_option maxRecDepth 100000 in
set_option maxHeartbeats 4000000 in
theorem q_C_squaresOf_5 (x1 : Int32) (x2 : Int64) (x4 : Int32) (σ : MSto) (n : Nat) : mexe KT P_C_squaresOf (n + 1) (5, [some (mR 12 0), some (mI x1), some (mJ x2), none, some (mI x4), none, none], [], σ, 0, 0) = mIf ((v_C_pieceCount σ) ≤ x4) (some (61, [], [(mJ x2)], σ, 0, 0)) (mIf ((v_C_has x1 x4 σ) = 0) (mexe KT P_C_squaresOf n (5, [some (mR 12 0), some (mI x1), some (mJ x2), none, some (mI (x4 + 1)), none, none], [], σ, 0, 0)) (mG (p_AL_get 14 0 x4 σ) (mG (vp_in (gI σ 7 (v_AL_get 14 0 x4 σ) 3) 6) (mexe KT P_C_squaresOf n (5, [some (mR 12 0), some (mI x1), some (mJ (x2 * ((Int32.toInt64 (gI σ 21 0 (Int32.toNatClampNeg (gI σ 7 (v_AL_get 14 0 x4 σ) 3)))) * (Int32.toInt64 (gI σ 21 0 (Int32.toNatClampNeg (gI σ 7 (v_AL_get 14 0 x4 σ) 3))))))), none, some (mI (x4 + 1)), none, none], [], σ, 0, 0))))) := rfl
set_option maxRecDepth 100000 in
theorem lt_C_squaresOf_5 {Post : MST → Prop} (x1 : Int32) (c : Int32) (σ : MSto) (s : Int64) (hp : g_C_squaresOf_5 x1 c σ s) (hq : ¬ q_C_squaresOf_5s x1 c σ s = 1) (hn : ∀ r, t_C_squaresOf_5 x1 c σ s = r → mW1 P_C_squaresOf (5, [some (mR 12 0), some (mI x1), some (mJ r), none, some (mI (c + 1)), none, none], [], σ, 0, 0) Post) : mW1 P_C_squaresOf (5, [some (mR 12 0), some (mI x1), some (mJ s), none, some (mI c), none, none], [], σ, 0, 0) Post := by
  unfold g_C_squaresOf_5 at hp
  refine mW1_eq (q_C_squaresOf_5 _ _ _ _) ?_
  refine mTr_if (fun h0 => ?_) (fun h0 => ?_)
  · skip
    exact absurd (if_pos h0) hq
  · skip
    have hp := hp h0
    refine mTr_if (fun h1 => ?_) (fun h1 => ?_)
    · skip
      exact mTr_k (hn s ((if_neg h0).trans (if_pos h1)))
    · skip
      have hp := hp h1
      refine mTr_g hp.1 ?_
      have hp := hp.2
      refine mTr_g hp ?_
      exact mTr_k (hn (s * ((Int32.toInt64 (gI σ 21 0 (Int32.toNatClampNeg (gI σ 7 (v_AL_get 14 0 c σ) 3)))) * (Int32.toInt64 (gI σ 21 0 (Int32.toNatClampNeg (gI σ 7 (v_AL_get 14 0 c σ) 3)))))) ((if_neg h0).trans (if_neg h1)))
theorem lp_C_squaresOf_5 {Post : MST → Prop} (x1 : Int32) (c0 : Int32) (σ : MSto) (s0 : Int64) (N : Nat) (hb : ∀ i, i < N → g_C_squaresOf_5 x1 (c0 + nI i) σ (f_C_squaresOf_5 x1 c0 σ s0 i) ∧ ¬ q_C_squaresOf_5s x1 (c0 + nI i) σ (f_C_squaresOf_5 x1 c0 σ s0 i) = 1) (h : mW1 P_C_squaresOf (5, [some (mR 12 0), some (mI x1), some (mJ (f_C_squaresOf_5 x1 c0 σ s0 N)), none, some (mI (c0 + nI N)), none, none], [], σ, 0, 0) Post) : mW1 P_C_squaresOf (5, [some (mR 12 0), some (mI x1), some (mJ s0), none, some (mI c0), none, none], [], σ, 0, 0) Post := by
  refine mW1_st (mW1_loop (fun i => (5, [some (mR 12 0), some (mI x1), some (mJ (f_C_squaresOf_5 x1 c0 σ s0 i)), none, some (mI (c0 + nI i)), none, none], [], σ, 0, 0)) N (fun i hlt hn => ?_) h) (by rw [show nI 0 = 0 from rfl, Int32.add_zero] <;> rfl)
  refine lt_C_squaresOf_5 x1 _ σ _ (hb i hlt).1 (hb i hlt).2 (fun r hr => ?_)
  rw [Int32.add_assoc, nI_s]
  subst hr
  exact hn
set_option maxRecDepth 100000 in
set_option maxHeartbeats 4000000 in
theorem d_C_squaresOf (a1 : Int32) (σ : MSto) (hp : p_C_squaresOf a1 σ) : mW1 P_C_squaresOf (0, [some (mR 12 0), some (mI a1), none, none, none, none, none], [], σ, 0, 0) (mF [61] [mJ (v_C_squaresOf a1 σ)] σ 0 0) := by
  refine mW1_eq (q_C_squaresOf_e _ _) ?_
  unfold p_C_squaresOf at hp
  refine mTr_k (lp_C_squaresOf_5 a1 0 σ 1 (n_C_squaresOf_5 a1 0 σ 1) hp.1 ?_)
  have hp := hp.2
  refine mW1_eq (q_C_squaresOf_5 _ _ _ _) ?_
  refine mTr_if (fun h0 => ?_) (fun h0 => ?_)
  · skip
    exact mTr_e (by decide) (congrArg (fun z => [mJ z]) (Eq.symm (rfl))) rfl (by decide) (by decide)
  · skip
    have hp := hp h0
    exact hp.elim



theorem tk_C_squaresOf : ∀ pc i nx tg, T_C_squaresOf pc = some (i, nx, tg) → mOkB prog_1_method_82_code pc i nx tg = true := code_ok (N := 62) (fun k h => by unfold T_C_squaresOf; rw [h]; rfl) (by decide +kernel)
theorem ok_C_squaresOf (l : Launch) : mPOK l "ClothWithMan" prog_1_method_82_code P_C_squaresOf := by
  refine ⟨tk_C_squaresOf, ?_, ?_, ?_, (fun pc i nx tg kd _ h => by cases h), ?_, ?_, fun pc en h => by cases h⟩
  · intro x ci f ty fin h
    exact mLook_all (Q := fun x v => mFOK "ClothWithMan" x v.1 v.2.1 v.2.2.1 v.2.2.2 ∧ (v.2.2.2 = true → pIni P_C_squaresOf = true → (Cond.fieldLink "ClothWithMan" x (((mCl[v.1]?).getD ("", fun _ => ("", "", "", false), 0)).2.1 v.2.1).1 (((mCl[v.1]?).getD ("", fun _ => ("", "", "", false), 0)).2.1 v.2.1).2.1 (((mCl[v.1]?).getD ("", fun _ => ("", "", "", false), 0)).2.1 v.2.1).2.2.1 ∈ lw_tbl ∧ (((mCl[v.1]?).getD ("", fun _ => ("", "", "", false), 0)).2.1 v.2.1).1 = "ClothWithMan"))) (fcC ⟨fo_C_27, fun h1 h2 => by cases h2⟩ (fcC ⟨fo_C_33, fun h1 h2 => by cases h2⟩ (fcC ⟨fo_C_195, fun h1 h2 => by cases h2⟩ fcN))) x (ci, f, ty, fin) h
  · intro x
    have hh := mLook_all (l := ([] : List (Nat × (Int32 ⊕ Int64)))) (Q := fun x (v : Int32 ⊕ Int64) => (∀ w, v = .inl w → Cond.constant "ClothWithMan" x w ∈ lw_tbl) ∧ (∀ w, v = .inr w → Cond.constantLong "ClothWithMan" x w ∈ lw_tbl)) fcN x
    exact ⟨fun w h => (hh _ h).1 w rfl, fun w h => (hh _ h).2 w rfl⟩
  · exact fun x en h => mLook_all (Q := fun x en => mLink "ClothWithMan" x en ∧ mCtr l en ∧ (en.1.1 = 2 → en.2.2.2.2.2.2 = none)) (fcC ⟨li_C_183, c_AL_get l, (fun h => by cases h)⟩ (fcC ⟨li_C_281, c_C_pieceCount l, (fun h => by cases h)⟩ (fcC ⟨li_C_284, c_C_has l, (fun h => by cases h)⟩ fcN))) x en h
  · exact fun x kd h => mLook_all (Q := fun x kd => (kd = 95 ∧ Cond.fieldLink "ClothWithMan" x "ClothWithMan" "LIKENESSES" "[I" ∈ lw_tbl) ∨ (kd = 96 ∧ Cond.fieldLink "ClothWithMan" x "ClothWithMan" "APART_BOUNDS" "[I" ∈ lw_tbl)) fcN x kd h
  · exact fun x ci h => mLook_all (Q := fun x ci => ci ≠ 0 ∧ ∃ (C : String) (T : u_T) (N : Nat), mCl[ci]? = some (C, T, N) ∧ Cond.classLink "ClothWithMan" x C ∈ lw_tbl ∧ Cond.instantiable C N ∈ lw_tbl) (fcC ⟨by decide, "ClothWithMan$Piece", TX6, 6, rfl, tw_3_6, tw_3_7⟩ fcN) x ci h
set_option maxRecDepth 100000 in
theorem c_C_squaresOf (l : Launch) : mCtr l E_C_squaresOf := mCtr_of (P := P_C_squaresOf) (own := "ClothWithMan") mLay_ok rfl (by decide +kernel) rfl (ok_C_squaresOf l) (fun h => by cases h) (fun as σ pr rv σ' hF hpr hlv => by
  unfold E_C_squaresOf S_C_squaresOf at hF
  simp only [] at hF
  split at hF
  · cases hF
    obtain ⟨n, pcF, c1, s1, g1, g2, g3, g4⟩ := mF_inv (d_C_squaresOf _ σ (hpr _ rfl))
    exact ⟨Nat.le_of_ble_eq_true rfl, (fun v h => by cases h; trivial), n, pcF, c1, s1, g1, mEnd_of (i := .lreturn) (P := P_C_squaresOf) (rets := [61]) rfl g2, g3, g4⟩
  · cases hF
    exact (hpr _ rfl).elim)
/-! ClothWithMan.apartUpper(I)J -/
noncomputable def t_C_apartUpper_20 (x1 : Int32) (x4 : Int32) (c : Int32) (σ : MSto) (s : Int64) : Int64 := (if (v_C_pieceCount σ) ≤ c then s else (if (v_C_has x1 x4 σ) = 0 then s else (if (v_C_has x1 c σ) = 0 then s else (s + (((Int32.toInt64 ((v_C_cleanNumber (v_AL_get 14 0 x4 σ) σ) - (v_C_cleanNumber (v_AL_get 14 0 c σ) σ))) * (Int32.toInt64 ((v_C_cleanNumber (v_AL_get 14 0 x4 σ) σ) - (v_C_cleanNumber (v_AL_get 14 0 c σ) σ)))) * (v_C_squaresOf (v_C_without (v_C_without x1 x4 σ) c σ) σ))))))
noncomputable def q_C_apartUpper_20s (x1 : Int32) (x4 : Int32) (c : Int32) (σ : MSto) (s : Int64) : Nat := (if (v_C_pieceCount σ) ≤ c then 1 else 0)
def g_C_apartUpper_20 (x1 : Int32) (x4 : Int32) (c : Int32) (σ : MSto) (s : Int64) : Prop := (¬ ((v_C_pieceCount σ) ≤ c) → (¬ ((v_C_has x1 x4 σ) = 0) → (¬ ((v_C_has x1 c σ) = 0) → ((p_AL_get 14 0 x4 σ) ∧ ((p_C_cleanNumber (v_AL_get 14 0 x4 σ) σ) ∧ ((p_AL_get 14 0 c σ) ∧ ((p_C_cleanNumber (v_AL_get 14 0 c σ) σ) ∧ (p_C_squaresOf (v_C_without (v_C_without x1 x4 σ) c σ) σ))))))))
noncomputable def f_C_apartUpper_20 (x1 : Int32) (x4 : Int32) (c0 : Int32) (σ : MSto) (s0 : Int64) (n : Nat) : Int64 := nfold (fun i s => t_C_apartUpper_20 x1 x4 (c0 + nI i) σ s) s0 n
noncomputable def n_C_apartUpper_20 (x1 : Int32) (x4 : Int32) (c0 : Int32) (σ : MSto) (s0 : Int64) : Nat := ((v_C_pieceCount σ).toNatClampNeg - c0.toNatClampNeg)
noncomputable def t_C_apartUpper_5 (x1 : Int32) (c : Int32) (σ : MSto) (s : Int64) : Int64 := (if (v_C_pieceCount σ) ≤ c then s else (f_C_apartUpper_20 x1 c (c + 1) σ s (n_C_apartUpper_20 x1 c (c + 1) σ s)))
noncomputable def q_C_apartUpper_5s (x1 : Int32) (c : Int32) (σ : MSto) (s : Int64) : Nat := (if (v_C_pieceCount σ) ≤ c then 1 else 0)
def g_C_apartUpper_5 (x1 : Int32) (c : Int32) (σ : MSto) (s : Int64) : Prop := (¬ ((v_C_pieceCount σ) ≤ c) → ((∀ i, i < (n_C_apartUpper_20 x1 c (c + 1) σ s) → g_C_apartUpper_20 x1 c ((c + 1) + nI i) σ (f_C_apartUpper_20 x1 c (c + 1) σ s i) ∧ ¬ q_C_apartUpper_20s x1 c ((c + 1) + nI i) σ (f_C_apartUpper_20 x1 c (c + 1) σ s i) = 1) ∧ (¬ ((v_C_pieceCount σ) ≤ ((c + 1) + nI (n_C_apartUpper_20 x1 c (c + 1) σ s))) → False)))
noncomputable def f_C_apartUpper_5 (x1 : Int32) (c0 : Int32) (σ : MSto) (s0 : Int64) (n : Nat) : Int64 := nfold (fun i s => t_C_apartUpper_5 x1 (c0 + nI i) σ s) s0 n
noncomputable def n_C_apartUpper_5 (x1 : Int32) (c0 : Int32) (σ : MSto) (s0 : Int64) : Nat := (v_C_pieceCount σ).toNatClampNeg
noncomputable def v_C_apartUpper (a1 : Int32) (σ : MSto) : Int64 := (f_C_apartUpper_5 a1 0 σ 0 (n_C_apartUpper_5 a1 0 σ 0))
def p_C_apartUpper (a1 : Int32) (σ : MSto) : Prop := ((∀ i, i < (n_C_apartUpper_5 a1 0 σ 0) → g_C_apartUpper_5 a1 (0 + nI i) σ (f_C_apartUpper_5 a1 0 σ 0 i) ∧ ¬ q_C_apartUpper_5s a1 (0 + nI i) σ (f_C_apartUpper_5 a1 0 σ 0 i) = 1) ∧ (¬ ((v_C_pieceCount σ) ≤ (0 + nI (n_C_apartUpper_5 a1 0 σ 0))) → False))
noncomputable def S_C_apartUpper : List MV → MSto → Option Prop × Option MV × MSto := fun as σ => match as with
  | [.inr (.inr (some (12, 0))), .inl a0] => (some (p_C_apartUpper a0 σ), some (mJ (v_C_apartUpper a0 σ)), σ)
  | _ => (some False, none, σ)
noncomputable def E_C_apartUpper : MEnt := ((1, 1, 12), (7, 147, 0, 0), S_C_apartUpper, ((⟨"ClothWithMan", "apartUpper", "(I)J"⟩ : MethodName), prog_1_method_83_code, 8, (some .long)))

def T_C_apartUpper : Nat → Option (Instr × Nat × List Nat) := fun k => bif Nat.blt k 121 then (bif Nat.blt k 60 then (bif Nat.blt k 26 then (bif Nat.blt k 11 then (bif Nat.blt k 3 then (bif Nat.blt k 1 then (bif Nat.beq k 0 then some (.lconst 0, 1, []) else none) else (bif Nat.blt k 2 then (bif Nat.beq k 1 then some (.lstore_n 2, 2, []) else none) else (bif Nat.beq k 2 then some (.iconst 0, 3, []) else none))) else (bif Nat.blt k 7 then (bif Nat.blt k 5 then (bif Nat.beq k 3 then some (.istore 4, 5, []) else none) else (bif Nat.beq k 5 then some (.iload 4, 7, []) else none)) else (bif Nat.blt k 8 then (bif Nat.beq k 7 then some (.aload_n 0, 8, []) else none) else (bif Nat.beq k 8 then some (.invokevirtual 281, 11, []) else none)))) else (bif Nat.blt k 18 then (bif Nat.blt k 16 then (bif Nat.blt k 14 then (bif Nat.beq k 11 then some (.if_icmp .ge 108, 14, [119]) else none) else (bif Nat.beq k 14 then some (.iload 4, 16, []) else none)) else (bif Nat.blt k 17 then (bif Nat.beq k 16 then some (.iconst 1, 17, []) else none) else (bif Nat.beq k 17 then some (.iadd, 18, []) else none))) else (bif Nat.blt k 22 then (bif Nat.blt k 20 then (bif Nat.beq k 18 then some (.istore 5, 20, []) else none) else (bif Nat.beq k 20 then some (.iload 5, 22, []) else none)) else (bif Nat.blt k 23 then (bif Nat.beq k 22 then some (.aload_n 0, 23, []) else none) else (bif Nat.beq k 23 then some (.invokevirtual 281, 26, []) else none))))) else (bif Nat.blt k 41 then (bif Nat.blt k 32 then (bif Nat.blt k 29 then (bif Nat.beq k 26 then some (.if_icmp .ge 87, 29, [113]) else none) else (bif Nat.blt k 30 then (bif Nat.beq k 29 then some (.iload_n 1, 30, []) else none) else (bif Nat.beq k 30 then some (.iload 4, 32, []) else none))) else (bif Nat.blt k 38 then (bif Nat.blt k 35 then (bif Nat.beq k 32 then some (.invokestatic 284, 35, []) else none) else (bif Nat.beq k 35 then some (.ifCond .eq 72, 38, [107]) else none)) else (bif Nat.blt k 39 then (bif Nat.beq k 38 then some (.iload_n 1, 39, []) else none) else (bif Nat.beq k 39 then some (.iload 5, 41, []) else none)))) else (bif Nat.blt k 49 then (bif Nat.blt k 47 then (bif Nat.blt k 44 then (bif Nat.beq k 41 then some (.invokestatic 284, 44, []) else none) else (bif Nat.beq k 44 then some (.ifCond .eq 63, 47, [107]) else none)) else (bif Nat.blt k 48 then (bif Nat.beq k 47 then some (.aload_n 0, 48, []) else none) else (bif Nat.beq k 48 then some (.aload_n 0, 49, []) else none))) else (bif Nat.blt k 54 then (bif Nat.blt k 52 then (bif Nat.beq k 49 then some (.getfield 33, 52, []) else none) else (bif Nat.beq k 52 then some (.iload 4, 54, []) else none)) else (bif Nat.blt k 57 then (bif Nat.beq k 54 then some (.invokevirtual 183, 57, []) else none) else (bif Nat.beq k 57 then some (.checkcast 168, 60, []) else none)))))) else (bif Nat.blt k 89 then (bif Nat.blt k 76 then (bif Nat.blt k 65 then (bif Nat.blt k 63 then (bif Nat.beq k 60 then some (.invokevirtual 454, 63, []) else none) else (bif Nat.blt k 64 then (bif Nat.beq k 63 then some (.aload_n 0, 64, []) else none) else (bif Nat.beq k 64 then some (.aload_n 0, 65, []) else none))) else (bif Nat.blt k 70 then (bif Nat.blt k 68 then (bif Nat.beq k 65 then some (.getfield 33, 68, []) else none) else (bif Nat.beq k 68 then some (.iload 5, 70, []) else none)) else (bif Nat.blt k 73 then (bif Nat.beq k 70 then some (.invokevirtual 183, 73, []) else none) else (bif Nat.beq k 73 then some (.checkcast 168, 76, []) else none)))) else (bif Nat.blt k 83 then (bif Nat.blt k 80 then (bif Nat.blt k 79 then (bif Nat.beq k 76 then some (.invokevirtual 454, 79, []) else none) else (bif Nat.beq k 79 then some (.isub, 80, []) else none)) else (bif Nat.blt k 81 then (bif Nat.beq k 80 then some (.i2l, 81, []) else none) else (bif Nat.beq k 81 then some (.lstore 6, 83, []) else none))) else (bif Nat.blt k 86 then (bif Nat.blt k 84 then (bif Nat.beq k 83 then some (.lload_n 2, 84, []) else none) else (bif Nat.beq k 84 then some (.lload 6, 86, []) else none)) else (bif Nat.blt k 88 then (bif Nat.beq k 86 then some (.lload 6, 88, []) else none) else (bif Nat.beq k 88 then some (.lmul, 89, []) else none))))) else (bif Nat.blt k 105 then (bif Nat.blt k 96 then (bif Nat.blt k 91 then (bif Nat.blt k 90 then (bif Nat.beq k 89 then some (.aload_n 0, 90, []) else none) else (bif Nat.beq k 90 then some (.iload_n 1, 91, []) else none)) else (bif Nat.blt k 93 then (bif Nat.beq k 91 then some (.iload 4, 93, []) else none) else (bif Nat.beq k 93 then some (.invokestatic 288, 96, []) else none))) else (bif Nat.blt k 101 then (bif Nat.blt k 98 then (bif Nat.beq k 96 then some (.iload 5, 98, []) else none) else (bif Nat.beq k 98 then some (.invokestatic 288, 101, []) else none)) else (bif Nat.blt k 104 then (bif Nat.beq k 101 then some (.invokevirtual 459, 104, []) else none) else (bif Nat.beq k 104 then some (.lmul, 105, []) else none)))) else (bif Nat.blt k 113 then (bif Nat.blt k 107 then (bif Nat.blt k 106 then (bif Nat.beq k 105 then some (.ladd, 106, []) else none) else (bif Nat.beq k 106 then some (.lstore_n 2, 107, []) else none)) else (bif Nat.blt k 110 then (bif Nat.beq k 107 then some (.iinc 5 1, 110, []) else none) else (bif Nat.beq k 110 then some (.goto (-90), 113, [20]) else none))) else (bif Nat.blt k 119 then (bif Nat.blt k 116 then (bif Nat.beq k 113 then some (.iinc 4 1, 116, []) else none) else (bif Nat.beq k 116 then some (.goto (-111), 119, [5]) else none)) else (bif Nat.blt k 120 then (bif Nat.beq k 119 then some (.lload_n 2, 120, []) else none) else (bif Nat.beq k 120 then some (.lreturn, 121, []) else none))))))) else none
noncomputable def P_C_apartUpper : MP := (T_C_apartUpper, (fun k => mLook k [(33, (12, 4, (.object "java/util/ArrayList"), true))]), (fun k => mLook k []), (fun k => mLook k [(183, E_AL_get), (281, E_C_pieceCount), (284, E_C_has), (288, E_C_without), (454, E_C_cleanNumber), (459, E_C_squaresOf)]), (fun k => mLook k []), (fun k => mLook k []), (fun k => mLook k [(168, 7)]), (fun k => mLook k [(5, [true, true, true, false, true, false, false, false]), (20, [true, true, true, false, true, true, false, false])]), (fun k => [120].any (Nat.beq k)), (7, 147, 0, 0), false, (fun _ => none))
set_option maxRecDepth 100000 in
set_option maxHeartbeats 4000000 in
theorem q_C_apartUpper_e (a1 : Int32) (σ : MSto) (n : Nat) : mexe KT P_C_apartUpper (n + 1) (0, [some (mR 12 0), some (mI a1), none, none, none, none, none, none], [], σ, 0, 0) = mexe KT P_C_apartUpper n (5, [some (mR 12 0), some (mI a1), some (mJ 0), none, some (mI 0), none, none, none], [], σ, 0, 0) := rfl
set_option maxRecDepth 100000 in
set_option maxHeartbeats 4000000 in
theorem q_C_apartUpper_5 (x1 : Int32) (x2 : Int64) (x4 : Int32) (σ : MSto) (n : Nat) : mexe KT P_C_apartUpper (n + 1) (5, [some (mR 12 0), some (mI x1), some (mJ x2), none, some (mI x4), none, none, none], [], σ, 0, 0) = mIf ((v_C_pieceCount σ) ≤ x4) (some (120, [], [(mJ x2)], σ, 0, 0)) (mexe KT P_C_apartUpper n (20, [some (mR 12 0), some (mI x1), some (mJ x2), none, some (mI x4), some (mI (x4 + 1)), none, none], [], σ, 0, 0)) := rfl
set_option maxRecDepth 100000 in
set_option maxHeartbeats 4000000 in
theorem q_C_apartUpper_20 (x1 : Int32) (x2 : Int64) (x4 : Int32) (x5 : Int32) (σ : MSto) (n : Nat) : mexe KT P_C_apartUpper (n + 1) (20, [some (mR 12 0), some (mI x1), some (mJ x2), none, some (mI x4), some (mI x5), none, none], [], σ, 0, 0) = mIf ((v_C_pieceCount σ) ≤ x5) (mexe KT P_C_apartUpper n (5, [some (mR 12 0), some (mI x1), some (mJ x2), none, some (mI (x4 + 1)), none, none, none], [], σ, 0, 0)) (mIf ((v_C_has x1 x4 σ) = 0) (mexe KT P_C_apartUpper n (20, [some (mR 12 0), some (mI x1), some (mJ x2), none, some (mI x4), some (mI (x5 + 1)), none, none], [], σ, 0, 0)) (mIf ((v_C_has x1 x5 σ) = 0) (mexe KT P_C_apartUpper n (20, [some (mR 12 0), some (mI x1), some (mJ x2), none, some (mI x4), some (mI (x5 + 1)), none, none], [], σ, 0, 0)) (mG (p_AL_get 14 0 x4 σ) (mG (p_C_cleanNumber (v_AL_get 14 0 x4 σ) σ) (mG (p_AL_get 14 0 x5 σ) (mG (p_C_cleanNumber (v_AL_get 14 0 x5 σ) σ) (mG (p_C_squaresOf (v_C_without (v_C_without x1 x4 σ) x5 σ) σ) (mexe KT P_C_apartUpper n (20, [some (mR 12 0), some (mI x1), some (mJ (x2 + (((Int32.toInt64 ((v_C_cleanNumber (v_AL_get 14 0 x4 σ) σ) - (v_C_cleanNumber (v_AL_get 14 0 x5 σ) σ))) * (Int32.toInt64 ((v_C_cleanNumber (v_AL_get 14 0 x4 σ) σ) - (v_C_cleanNumber (v_AL_get 14 0 x5 σ) σ)))) * (v_C_squaresOf (v_C_without (v_C_without x1 x4 σ) x5 σ) σ)))), none, some (mI x4), some (mI (x5 + 1)), none, none], [], σ, 0, 0))))))))) := rfl
set_option maxRecDepth 100000 in
theorem lt_C_apartUpper_20 {Post : MST → Prop} (x1 : Int32) (x4 : Int32) (c : Int32) (σ : MSto) (s : Int64) (hp : g_C_apartUpper_20 x1 x4 c σ s) (hq : ¬ q_C_apartUpper_20s x1 x4 c σ s = 1) (hn : ∀ r, t_C_apartUpper_20 x1 x4 c σ s = r → mW1 P_C_apartUpper (20, [some (mR 12 0), some (mI x1), some (mJ r), none, some (mI x4), some (mI (c + 1)), none, none], [], σ, 0, 0) Post) : mW1 P_C_apartUpper (20, [some (mR 12 0), some (mI x1), some (mJ s), none, some (mI x4), some (mI c), none, none], [], σ, 0, 0) Post := by
  unfold g_C_apartUpper_20 at hp
  refine mW1_eq (q_C_apartUpper_20 _ _ _ _ _) ?_
  refine mTr_if (fun h0 => ?_) (fun h0 => ?_)
  · skip
    exact absurd (if_pos h0) hq
  · skip
    have hp := hp h0
    refine mTr_if (fun h1 => ?_) (fun h1 => ?_)
    · skip
      exact mTr_k (hn s ((if_neg h0).trans (if_pos h1)))
    · skip
      have hp := hp h1
      refine mTr_if (fun h2 => ?_) (fun h2 => ?_)
      · skip
        exact mTr_k (hn s ((if_neg h0).trans ((if_neg h1).trans (if_pos h2))))
      · skip
        have hp := hp h2
        refine mTr_g hp.1 ?_
        have hp := hp.2
        refine mTr_g hp.1 ?_
        have hp := hp.2
        refine mTr_g hp.1 ?_
        have hp := hp.2
        refine mTr_g hp.1 ?_
        have hp := hp.2
        refine mTr_g hp ?_
        exact mTr_k (hn (s + (((Int32.toInt64 ((v_C_cleanNumber (v_AL_get 14 0 x4 σ) σ) - (v_C_cleanNumber (v_AL_get 14 0 c σ) σ))) * (Int32.toInt64 ((v_C_cleanNumber (v_AL_get 14 0 x4 σ) σ) - (v_C_cleanNumber (v_AL_get 14 0 c σ) σ)))) * (v_C_squaresOf (v_C_without (v_C_without x1 x4 σ) c σ) σ))) ((if_neg h0).trans ((if_neg h1).trans (if_neg h2))))
theorem lp_C_apartUpper_20 {Post : MST → Prop} (x1 : Int32) (x4 : Int32) (c0 : Int32) (σ : MSto) (s0 : Int64) (N : Nat) (hb : ∀ i, i < N → g_C_apartUpper_20 x1 x4 (c0 + nI i) σ (f_C_apartUpper_20 x1 x4 c0 σ s0 i) ∧ ¬ q_C_apartUpper_20s x1 x4 (c0 + nI i) σ (f_C_apartUpper_20 x1 x4 c0 σ s0 i) = 1) (h : mW1 P_C_apartUpper (20, [some (mR 12 0), some (mI x1), some (mJ (f_C_apartUpper_20 x1 x4 c0 σ s0 N)), none, some (mI x4), some (mI (c0 + nI N)), none, none], [], σ, 0, 0) Post) : mW1 P_C_apartUpper (20, [some (mR 12 0), some (mI x1), some (mJ s0), none, some (mI x4), some (mI c0), none, none], [], σ, 0, 0) Post := by
  refine mW1_st (mW1_loop (fun i => (20, [some (mR 12 0), some (mI x1), some (mJ (f_C_apartUpper_20 x1 x4 c0 σ s0 i)), none, some (mI x4), some (mI (c0 + nI i)), none, none], [], σ, 0, 0)) N (fun i hlt hn => ?_) h) (by rw [show nI 0 = 0 from rfl, Int32.add_zero] <;> rfl)
  refine lt_C_apartUpper_20 x1 x4 _ σ _ (hb i hlt).1 (hb i hlt).2 (fun r hr => ?_)
  rw [Int32.add_assoc, nI_s]
  subst hr
  exact hn
set_option maxRecDepth 100000 in
theorem lt_C_apartUpper_5 {Post : MST → Prop} (x1 : Int32) (c : Int32) (σ : MSto) (s : Int64) (hp : g_C_apartUpper_5 x1 c σ s) (hq : ¬ q_C_apartUpper_5s x1 c σ s = 1) (hn : ∀ r, t_C_apartUpper_5 x1 c σ s = r → mW1 P_C_apartUpper (5, [some (mR 12 0), some (mI x1), some (mJ r), none, some (mI (c + 1)), none, none, none], [], σ, 0, 0) Post) : mW1 P_C_apartUpper (5, [some (mR 12 0), some (mI x1), some (mJ s), none, some (mI c), none, none, none], [], σ, 0, 0) Post := by
  unfold g_C_apartUpper_5 at hp
  refine mW1_eq (q_C_apartUpper_5 _ _ _ _) ?_
  refine mTr_if (fun h0 => ?_) (fun h0 => ?_)
  · skip
    exact absurd (if_pos h0) hq
  · skip
    have hp := hp h0
    refine mTr_k (lp_C_apartUpper_20 x1 c (c + 1) σ s (n_C_apartUpper_20 x1 c (c + 1) σ s) hp.1 ?_)
    have hp := hp.2
    refine mW1_eq (q_C_apartUpper_20 _ _ _ _ _) ?_
    refine mTr_if (fun h1 => ?_) (fun h1 => ?_)
    · skip
      exact mTr_k (hn (f_C_apartUpper_20 x1 c (c + 1) σ s (n_C_apartUpper_20 x1 c (c + 1) σ s)) (if_neg h0))
    · skip
      have hp := hp h1
      exact hp.elim
theorem lp_C_apartUpper_5 {Post : MST → Prop} (x1 : Int32) (c0 : Int32) (σ : MSto) (s0 : Int64) (N : Nat) (hb : ∀ i, i < N → g_C_apartUpper_5 x1 (c0 + nI i) σ (f_C_apartUpper_5 x1 c0 σ s0 i) ∧ ¬ q_C_apartUpper_5s x1 (c0 + nI i) σ (f_C_apartUpper_5 x1 c0 σ s0 i) = 1) (h : mW1 P_C_apartUpper (5, [some (mR 12 0), some (mI x1), some (mJ (f_C_apartUpper_5 x1 c0 σ s0 N)), none, some (mI (c0 + nI N)), none, none, none], [], σ, 0, 0) Post) : mW1 P_C_apartUpper (5, [some (mR 12 0), some (mI x1), some (mJ s0), none, some (mI c0), none, none, none], [], σ, 0, 0) Post := by
  refine mW1_st (mW1_loop (fun i => (5, [some (mR 12 0), some (mI x1), some (mJ (f_C_apartUpper_5 x1 c0 σ s0 i)), none, some (mI (c0 + nI i)), none, none, none], [], σ, 0, 0)) N (fun i hlt hn => ?_) h) (by rw [show nI 0 = 0 from rfl, Int32.add_zero] <;> rfl)
  refine lt_C_apartUpper_5 x1 _ σ _ (hb i hlt).1 (hb i hlt).2 (fun r hr => ?_)
  rw [Int32.add_assoc, nI_s]
  subst hr
  exact hn
set_option maxRecDepth 100000 in
set_option maxHeartbeats 4000000 in
theorem d_C_apartUpper (a1 : Int32) (σ : MSto) (hp : p_C_apartUpper a1 σ) : mW1 P_C_apartUpper (0, [some (mR 12 0), some (mI a1), none, none, none, none, none, none], [], σ, 0, 0) (mF [120] [mJ (v_C_apartUpper a1 σ)] σ 0 0) := by
  refine mW1_eq (q_C_apartUpper_e _ _) ?_
  unfold p_C_apartUpper at hp
  refine mTr_k (lp_C_apartUpper_5 a1 0 σ 0 (n_C_apartUpper_5 a1 0 σ 0) hp.1 ?_)
  have hp := hp.2
  refine mW1_eq (q_C_apartUpper_5 _ _ _ _) ?_
  refine mTr_if (fun h0 => ?_) (fun h0 => ?_)
  · skip
    exact mTr_e (by decide) (congrArg (fun z => [mJ z]) (Eq.symm (rfl))) rfl (by decide) (by decide)
  · skip
    have hp := hp h0
    exact hp.elim
theorem li_C_459 : mLink "ClothWithMan" 459 E_C_squaresOf := ⟨tw_3_168, tw_1_1, ⟨by decide, by decide⟩, by decide +kernel, Or.inl tw_3_165, (fun h => by cases h), (fun _ => ⟨tw_3_167, tw_0_18, TX11, 20, rfl⟩), (fun h => by cases h)⟩


theorem li_C_288 : mLink "ClothWithMan" 288 E_C_without := ⟨tw_3_164, tw_1_1, ⟨by decide, by decide⟩, by decide +kernel, Or.inl tw_3_162, (fun _ => tw_3_163), (fun h => by cases h), (fun h => by cases h)⟩




theorem tk_C_apartUpper : ∀ pc i nx tg, T_C_apartUpper pc = some (i, nx, tg) → mOkB prog_1_method_83_code pc i nx tg = true := code_ok (N := 121) (fun k h => by unfold T_C_apartUpper; rw [h]; rfl) (by decide +kernel)
theorem ok_C_apartUpper (l : Launch) : mPOK l "ClothWithMan" prog_1_method_83_code P_C_apartUpper := by
  refine ⟨tk_C_apartUpper, ?_, ?_, ?_, (fun pc i nx tg kd _ h => by cases h), ?_, ?_, fun pc en h => by cases h⟩
  · intro x ci f ty fin h
    exact mLook_all (Q := fun x v => mFOK "ClothWithMan" x v.1 v.2.1 v.2.2.1 v.2.2.2 ∧ (v.2.2.2 = true → pIni P_C_apartUpper = true → (Cond.fieldLink "ClothWithMan" x (((mCl[v.1]?).getD ("", fun _ => ("", "", "", false), 0)).2.1 v.2.1).1 (((mCl[v.1]?).getD ("", fun _ => ("", "", "", false), 0)).2.1 v.2.1).2.1 (((mCl[v.1]?).getD ("", fun _ => ("", "", "", false), 0)).2.1 v.2.1).2.2.1 ∈ lw_tbl ∧ (((mCl[v.1]?).getD ("", fun _ => ("", "", "", false), 0)).2.1 v.2.1).1 = "ClothWithMan"))) (fcC ⟨fo_C_33, fun h1 h2 => by cases h2⟩ fcN) x (ci, f, ty, fin) h
  · intro x
    have hh := mLook_all (l := ([] : List (Nat × (Int32 ⊕ Int64)))) (Q := fun x (v : Int32 ⊕ Int64) => (∀ w, v = .inl w → Cond.constant "ClothWithMan" x w ∈ lw_tbl) ∧ (∀ w, v = .inr w → Cond.constantLong "ClothWithMan" x w ∈ lw_tbl)) fcN x
    exact ⟨fun w h => (hh _ h).1 w rfl, fun w h => (hh _ h).2 w rfl⟩
  · exact fun x en h => mLook_all (Q := fun x en => mLink "ClothWithMan" x en ∧ mCtr l en ∧ (en.1.1 = 2 → en.2.2.2.2.2.2 = none)) (fcC ⟨li_C_183, c_AL_get l, (fun h => by cases h)⟩ (fcC ⟨li_C_281, c_C_pieceCount l, (fun h => by cases h)⟩ (fcC ⟨li_C_284, c_C_has l, (fun h => by cases h)⟩ (fcC ⟨li_C_288, c_C_without l, (fun h => by cases h)⟩ (fcC ⟨li_C_454, c_C_cleanNumber l, (fun h => by cases h)⟩ (fcC ⟨li_C_459, c_C_squaresOf l, (fun h => by cases h)⟩ fcN)))))) x en h
  · exact fun x kd h => mLook_all (Q := fun x kd => (kd = 95 ∧ Cond.fieldLink "ClothWithMan" x "ClothWithMan" "LIKENESSES" "[I" ∈ lw_tbl) ∨ (kd = 96 ∧ Cond.fieldLink "ClothWithMan" x "ClothWithMan" "APART_BOUNDS" "[I" ∈ lw_tbl)) fcN x kd h
  · exact fun x ci h => mLook_all (Q := fun x ci => ci ≠ 0 ∧ ∃ (C : String) (T : u_T) (N : Nat), mCl[ci]? = some (C, T, N) ∧ Cond.classLink "ClothWithMan" x C ∈ lw_tbl ∧ Cond.instantiable C N ∈ lw_tbl) (fcC ⟨by decide, "ClothWithMan$Piece", TX6, 6, rfl, tw_3_6, tw_3_7⟩ fcN) x ci h
set_option maxRecDepth 100000 in
theorem c_C_apartUpper (l : Launch) : mCtr l E_C_apartUpper := mCtr_of (P := P_C_apartUpper) (own := "ClothWithMan") mLay_ok rfl (by decide +kernel) rfl (ok_C_apartUpper l) (fun h => by cases h) (fun as σ pr rv σ' hF hpr hlv => by
  unfold E_C_apartUpper S_C_apartUpper at hF
  simp only [] at hF
  split at hF
  · cases hF
    obtain ⟨n, pcF, c1, s1, g1, g2, g3, g4⟩ := mF_inv (d_C_apartUpper _ σ (hpr _ rfl))
    exact ⟨Nat.le_of_ble_eq_true rfl, (fun v h => by cases h; trivial), n, pcF, c1, s1, g1, mEnd_of (i := .lreturn) (P := P_C_apartUpper) (rets := [120]) rfl g2, g3, g4⟩
  · cases hF
    exact (hpr _ rfl).elim)
/-! ClothWithMan.apartLower(I)J -/
noncomputable def t_C_apartLower_5 (x1 : Int32) (c : Int32) (σ : MSto) (s : Int64) : Int64 := (if (v_C_pieceCount σ) ≤ c then s else (if (v_C_has x1 c σ) = 0 then s else (s + (v_C_squaresOf (v_C_without x1 c σ) σ))))
noncomputable def q_C_apartLower_5s (x1 : Int32) (c : Int32) (σ : MSto) (s : Int64) : Nat := (if (v_C_pieceCount σ) ≤ c then 1 else 0)
def g_C_apartLower_5 (x1 : Int32) (c : Int32) (σ : MSto) (s : Int64) : Prop := (¬ ((v_C_pieceCount σ) ≤ c) → (¬ ((v_C_has x1 c σ) = 0) → (p_C_squaresOf (v_C_without x1 c σ) σ)))
noncomputable def f_C_apartLower_5 (x1 : Int32) (c0 : Int32) (σ : MSto) (s0 : Int64) (n : Nat) : Int64 := nfold (fun i s => t_C_apartLower_5 x1 (c0 + nI i) σ s) s0 n
noncomputable def n_C_apartLower_5 (x1 : Int32) (c0 : Int32) (σ : MSto) (s0 : Int64) : Nat := (v_C_pieceCount σ).toNatClampNeg
noncomputable def v_C_apartLower (a1 : Int32) (σ : MSto) : Int64 := (f_C_apartLower_5 a1 0 σ 0 (n_C_apartLower_5 a1 0 σ 0))
def p_C_apartLower (a1 : Int32) (σ : MSto) : Prop := ((∀ i, i < (n_C_apartLower_5 a1 0 σ 0) → g_C_apartLower_5 a1 (0 + nI i) σ (f_C_apartLower_5 a1 0 σ 0 i) ∧ ¬ q_C_apartLower_5s a1 (0 + nI i) σ (f_C_apartLower_5 a1 0 σ 0 i) = 1) ∧ (¬ ((v_C_pieceCount σ) ≤ (0 + nI (n_C_apartLower_5 a1 0 σ 0))) → False))
noncomputable def S_C_apartLower : List MV → MSto → Option Prop × Option MV × MSto := fun as σ => match as with
  | [.inr (.inr (some (12, 0))), .inl a0] => (some (p_C_apartLower a0 σ), some (mJ (v_C_apartLower a0 σ)), σ)
  | _ => (some False, none, σ)
noncomputable def E_C_apartLower : MEnt := ((1, 1, 12), (7, 147, 0, 0), S_C_apartLower, ((⟨"ClothWithMan", "apartLower", "(I)J"⟩ : MethodName), prog_1_method_84_code, 5, (some .long)))

def T_C_apartLower : Nat → Option (Instr × Nat × List Nat) := fun k => bif Nat.blt k 44 then (bif Nat.blt k 23 then (bif Nat.blt k 8 then (bif Nat.blt k 3 then (bif Nat.blt k 1 then (bif Nat.beq k 0 then some (.lconst 0, 1, []) else none) else (bif Nat.blt k 2 then (bif Nat.beq k 1 then some (.lstore_n 2, 2, []) else none) else (bif Nat.beq k 2 then some (.iconst 0, 3, []) else none))) else (bif Nat.blt k 5 then (bif Nat.beq k 3 then some (.istore 4, 5, []) else none) else (bif Nat.blt k 7 then (bif Nat.beq k 5 then some (.iload 4, 7, []) else none) else (bif Nat.beq k 7 then some (.aload_n 0, 8, []) else none)))) else (bif Nat.blt k 15 then (bif Nat.blt k 11 then (bif Nat.beq k 8 then some (.invokevirtual 281, 11, []) else none) else (bif Nat.blt k 14 then (bif Nat.beq k 11 then some (.if_icmp .ge 31, 14, [42]) else none) else (bif Nat.beq k 14 then some (.iload_n 1, 15, []) else none))) else (bif Nat.blt k 17 then (bif Nat.beq k 15 then some (.iload 4, 17, []) else none) else (bif Nat.blt k 20 then (bif Nat.beq k 17 then some (.invokestatic 284, 20, []) else none) else (bif Nat.beq k 20 then some (.ifCond .eq 16, 23, [36]) else none))))) else (bif Nat.blt k 34 then (bif Nat.blt k 26 then (bif Nat.blt k 24 then (bif Nat.beq k 23 then some (.lload_n 2, 24, []) else none) else (bif Nat.blt k 25 then (bif Nat.beq k 24 then some (.aload_n 0, 25, []) else none) else (bif Nat.beq k 25 then some (.iload_n 1, 26, []) else none))) else (bif Nat.blt k 28 then (bif Nat.beq k 26 then some (.iload 4, 28, []) else none) else (bif Nat.blt k 31 then (bif Nat.beq k 28 then some (.invokestatic 288, 31, []) else none) else (bif Nat.beq k 31 then some (.invokevirtual 459, 34, []) else none)))) else (bif Nat.blt k 39 then (bif Nat.blt k 35 then (bif Nat.beq k 34 then some (.ladd, 35, []) else none) else (bif Nat.blt k 36 then (bif Nat.beq k 35 then some (.lstore_n 2, 36, []) else none) else (bif Nat.beq k 36 then some (.iinc 4 1, 39, []) else none))) else (bif Nat.blt k 42 then (bif Nat.beq k 39 then some (.goto (-34), 42, [5]) else none) else (bif Nat.blt k 43 then (bif Nat.beq k 42 then some (.lload_n 2, 43, []) else none) else (bif Nat.beq k 43 then some (.lreturn, 44, []) else none)))))) else none
noncomputable def P_C_apartLower : MP := (T_C_apartLower, (fun k => mLook k []), (fun k => mLook k []), (fun k => mLook k [(281, E_C_pieceCount), (284, E_C_has), (288, E_C_without), (459, E_C_squaresOf)]), (fun k => mLook k []), (fun k => mLook k []), (fun k => mLook k []), (fun k => mLook k [(5, [true, true, true, false, true])]), (fun k => [43].any (Nat.beq k)), (7, 147, 0, 0), false, (fun _ => none))
set_option maxRecDepth 100000 in
set_option maxHeartbeats 4000000 in
theorem q_C_apartLower_e (a1 : Int32) (σ : MSto) (n : Nat) : mexe KT P_C_apartLower (n + 1) (0, [some (mR 12 0), some (mI a1), none, none, none], [], σ, 0, 0) = mexe KT P_C_apartLower n (5, [some (mR 12 0), some (mI a1), some (mJ 0), none, some (mI 0)], [], σ, 0, 0) := rfl
set_option maxRecDepth 100000 in
set_option maxHeartbeats 4000000 in
theorem q_C_apartLower_5 (x1 : Int32) (x2 : Int64) (x4 : Int32) (σ : MSto) (n : Nat) : mexe KT P_C_apartLower (n + 1) (5, [some (mR 12 0), some (mI x1), some (mJ x2), none, some (mI x4)], [], σ, 0, 0) = mIf ((v_C_pieceCount σ) ≤ x4) (some (43, [], [(mJ x2)], σ, 0, 0)) (mIf ((v_C_has x1 x4 σ) = 0) (mexe KT P_C_apartLower n (5, [some (mR 12 0), some (mI x1), some (mJ x2), none, some (mI (x4 + 1))], [], σ, 0, 0)) (mG (p_C_squaresOf (v_C_without x1 x4 σ) σ) (mexe KT P_C_apartLower n (5, [some (mR 12 0), some (mI x1), some (mJ (x2 + (v_C_squaresOf (v_C_without x1 x4 σ) σ))), none, some (mI (x4 + 1))], [], σ, 0, 0)))) := rfl
set_option maxRecDepth 100000 in
theorem lt_C_apartLower_5 {Post : MST → Prop} (x1 : Int32) (c : Int32) (σ : MSto) (s : Int64) (hp : g_C_apartLower_5 x1 c σ s) (hq : ¬ q_C_apartLower_5s x1 c σ s = 1) (hn : ∀ r, t_C_apartLower_5 x1 c σ s = r → mW1 P_C_apartLower (5, [some (mR 12 0), some (mI x1), some (mJ r), none, some (mI (c + 1))], [], σ, 0, 0) Post) : mW1 P_C_apartLower (5, [some (mR 12 0), some (mI x1), some (mJ s), none, some (mI c)], [], σ, 0, 0) Post := by
  unfold g_C_apartLower_5 at hp
  refine mW1_eq (q_C_apartLower_5 _ _ _ _) ?_
  refine mTr_if (fun h0 => ?_) (fun h0 => ?_)
  · skip
    exact absurd (if_pos h0) hq
  · skip
    have hp := hp h0
    refine mTr_if (fun h1 => ?_) (fun h1 => ?_)
    · skip
      exact mTr_k (hn s ((if_neg h0).trans (if_pos h1)))
    · skip
      have hp := hp h1
      refine mTr_g hp ?_
      exact mTr_k (hn (s + (v_C_squaresOf (v_C_without x1 c σ) σ)) ((if_neg h0).trans (if_neg h1)))
theorem lp_C_apartLower_5 {Post : MST → Prop} (x1 : Int32) (c0 : Int32) (σ : MSto) (s0 : Int64) (N : Nat) (hb : ∀ i, i < N → g_C_apartLower_5 x1 (c0 + nI i) σ (f_C_apartLower_5 x1 c0 σ s0 i) ∧ ¬ q_C_apartLower_5s x1 (c0 + nI i) σ (f_C_apartLower_5 x1 c0 σ s0 i) = 1) (h : mW1 P_C_apartLower (5, [some (mR 12 0), some (mI x1), some (mJ (f_C_apartLower_5 x1 c0 σ s0 N)), none, some (mI (c0 + nI N))], [], σ, 0, 0) Post) : mW1 P_C_apartLower (5, [some (mR 12 0), some (mI x1), some (mJ s0), none, some (mI c0)], [], σ, 0, 0) Post := by
  refine mW1_st (mW1_loop (fun i => (5, [some (mR 12 0), some (mI x1), some (mJ (f_C_apartLower_5 x1 c0 σ s0 i)), none, some (mI (c0 + nI i))], [], σ, 0, 0)) N (fun i hlt hn => ?_) h) (by rw [show nI 0 = 0 from rfl, Int32.add_zero] <;> rfl)
  refine lt_C_apartLower_5 x1 _ σ _ (hb i hlt).1 (hb i hlt).2 (fun r hr => ?_)
  rw [Int32.add_assoc, nI_s]
  subst hr
  exact hn
set_option maxRecDepth 100000 in
set_option maxHeartbeats 4000000 in
theorem d_C_apartLower (a1 : Int32) (σ : MSto) (hp : p_C_apartLower a1 σ) : mW1 P_C_apartLower (0, [some (mR 12 0), some (mI a1), none, none, none], [], σ, 0, 0) (mF [43] [mJ (v_C_apartLower a1 σ)] σ 0 0) := by
  refine mW1_eq (q_C_apartLower_e _ _) ?_
  unfold p_C_apartLower at hp
  refine mTr_k (lp_C_apartLower_5 a1 0 σ 0 (n_C_apartLower_5 a1 0 σ 0) hp.1 ?_)
  have hp := hp.2
  refine mW1_eq (q_C_apartLower_5 _ _ _ _) ?_
  refine mTr_if (fun h0 => ?_) (fun h0 => ?_)
  · skip
    exact mTr_e (by decide) (congrArg (fun z => [mJ z]) (Eq.symm (rfl))) rfl (by decide) (by decide)
  · skip
    have hp := hp h0
    exact hp.elim




theorem tk_C_apartLower : ∀ pc i nx tg, T_C_apartLower pc = some (i, nx, tg) → mOkB prog_1_method_84_code pc i nx tg = true := code_ok (N := 44) (fun k h => by unfold T_C_apartLower; rw [h]; rfl) (by decide +kernel)
theorem ok_C_apartLower (l : Launch) : mPOK l "ClothWithMan" prog_1_method_84_code P_C_apartLower := by
  refine ⟨tk_C_apartLower, ?_, ?_, ?_, (fun pc i nx tg kd _ h => by cases h), ?_, ?_, fun pc en h => by cases h⟩
  · intro x ci f ty fin h
    exact mLook_all (Q := fun x v => mFOK "ClothWithMan" x v.1 v.2.1 v.2.2.1 v.2.2.2 ∧ (v.2.2.2 = true → pIni P_C_apartLower = true → (Cond.fieldLink "ClothWithMan" x (((mCl[v.1]?).getD ("", fun _ => ("", "", "", false), 0)).2.1 v.2.1).1 (((mCl[v.1]?).getD ("", fun _ => ("", "", "", false), 0)).2.1 v.2.1).2.1 (((mCl[v.1]?).getD ("", fun _ => ("", "", "", false), 0)).2.1 v.2.1).2.2.1 ∈ lw_tbl ∧ (((mCl[v.1]?).getD ("", fun _ => ("", "", "", false), 0)).2.1 v.2.1).1 = "ClothWithMan"))) fcN x (ci, f, ty, fin) h
  · intro x
    have hh := mLook_all (l := ([] : List (Nat × (Int32 ⊕ Int64)))) (Q := fun x (v : Int32 ⊕ Int64) => (∀ w, v = .inl w → Cond.constant "ClothWithMan" x w ∈ lw_tbl) ∧ (∀ w, v = .inr w → Cond.constantLong "ClothWithMan" x w ∈ lw_tbl)) fcN x
    exact ⟨fun w h => (hh _ h).1 w rfl, fun w h => (hh _ h).2 w rfl⟩
  · exact fun x en h => mLook_all (Q := fun x en => mLink "ClothWithMan" x en ∧ mCtr l en ∧ (en.1.1 = 2 → en.2.2.2.2.2.2 = none)) (fcC ⟨li_C_281, c_C_pieceCount l, (fun h => by cases h)⟩ (fcC ⟨li_C_284, c_C_has l, (fun h => by cases h)⟩ (fcC ⟨li_C_288, c_C_without l, (fun h => by cases h)⟩ (fcC ⟨li_C_459, c_C_squaresOf l, (fun h => by cases h)⟩ fcN)))) x en h
  · exact fun x kd h => mLook_all (Q := fun x kd => (kd = 95 ∧ Cond.fieldLink "ClothWithMan" x "ClothWithMan" "LIKENESSES" "[I" ∈ lw_tbl) ∨ (kd = 96 ∧ Cond.fieldLink "ClothWithMan" x "ClothWithMan" "APART_BOUNDS" "[I" ∈ lw_tbl)) fcN x kd h
  · exact fun x ci h => mLook_all (Q := fun x ci => ci ≠ 0 ∧ ∃ (C : String) (T : u_T) (N : Nat), mCl[ci]? = some (C, T, N) ∧ Cond.classLink "ClothWithMan" x C ∈ lw_tbl ∧ Cond.instantiable C N ∈ lw_tbl) fcN x ci h
set_option maxRecDepth 100000 in
theorem c_C_apartLower (l : Launch) : mCtr l E_C_apartLower := mCtr_of (P := P_C_apartLower) (own := "ClothWithMan") mLay_ok rfl (by decide +kernel) rfl (ok_C_apartLower l) (fun h => by cases h) (fun as σ pr rv σ' hF hpr hlv => by
  unfold E_C_apartLower S_C_apartLower at hF
  simp only [] at hF
  split at hF
  · cases hF
    obtain ⟨n, pcF, c1, s1, g1, g2, g3, g4⟩ := mF_inv (d_C_apartLower _ σ (hpr _ rfl))
    exact ⟨Nat.le_of_ble_eq_true rfl, (fun v h => by cases h; trivial), n, pcF, c1, s1, g1, mEnd_of (i := .lreturn) (P := P_C_apartLower) (rets := [43]) rfl g2, g3, g4⟩
  · cases hF
    exact (hpr _ rfl).elim)
/-! ClothWithMan.layOut(I)I -/
noncomputable def tj_C_layOut_4j67 (x1 : Int32) (x2 : Int32) (x3 : Int32) (σ : MSto) (s : Int32 × MSto) : Int32 × MSto := ((x2 + 1), σ)
noncomputable def qj_C_layOut_4j67 (x1 : Int32) (x2 : Int32) (x3 : Int32) (σ : MSto) : Nat := 0
noncomputable def t_C_layOut_4 (x1 : Int32) (c : Int32) (s : Int32 × MSto) : Int32 × MSto := (if (v_C_pieceCount (s.2)) ≤ c then s else (if 6 ≤ (s.1) then s else (if (v_C_has x1 c (s.2)) = 0 then ((s.1), (s.2)) else (tj_C_layOut_4j67 x1 (s.1) c (sI (sI (s.2) 31 0 (Int32.toNatClampNeg (s.1)) (gI (s.2) 7 (v_AL_get 14 0 c (s.2)) 0)) 32 0 (Int32.toNatClampNeg (s.1)) (v_C_cleanNumber (v_AL_get 14 0 c (sI (s.2) 31 0 (Int32.toNatClampNeg (s.1)) (gI (s.2) 7 (v_AL_get 14 0 c (s.2)) 0))) (sI (s.2) 31 0 (Int32.toNatClampNeg (s.1)) (gI (s.2) 7 (v_AL_get 14 0 c (s.2)) 0)))) s))))
noncomputable def q_C_layOut_4s (x1 : Int32) (c : Int32) (s : Int32 × MSto) : Nat := (if (v_C_pieceCount (s.2)) ≤ c then 1 else (if 6 ≤ (s.1) then 1 else 0))
def g_C_layOut_4 (x1 : Int32) (c : Int32) (s : Int32 × MSto) : Prop := (¬ ((v_C_pieceCount (s.2)) ≤ c) → (¬ (6 ≤ (s.1)) → (¬ ((v_C_has x1 c (s.2)) = 0) → ((p_AL_get 14 0 c (s.2)) ∧ ((vp_in (s.1) 6) ∧ ((p_AL_get 14 0 c (sI (s.2) 31 0 (Int32.toNatClampNeg (s.1)) (gI (s.2) 7 (v_AL_get 14 0 c (s.2)) 0))) ∧ ((p_C_cleanNumber (v_AL_get 14 0 c (sI (s.2) 31 0 (Int32.toNatClampNeg (s.1)) (gI (s.2) 7 (v_AL_get 14 0 c (s.2)) 0))) (sI (s.2) 31 0 (Int32.toNatClampNeg (s.1)) (gI (s.2) 7 (v_AL_get 14 0 c (s.2)) 0))) ∧ (vp_in (s.1) 6))))))))
noncomputable def f_C_layOut_4 (x1 : Int32) (c0 : Int32) (s0 : Int32 × MSto) (n : Nat) : Int32 × MSto := nfold (fun i s => t_C_layOut_4 x1 (c0 + nI i) s) s0 n
noncomputable def n_C_layOut_4 (x1 : Int32) (c0 : Int32) (s0 : Int32 × MSto) : Nat := leastN (fun i => q_C_layOut_4s x1 (c0 + nI i) (f_C_layOut_4 x1 c0 s0 i) = 1) 13
noncomputable def v_C_layOut (a1 : Int32) (σ : MSto) : Int32 := ((f_C_layOut_4 a1 0 (0, σ) (n_C_layOut_4 a1 0 (0, σ))).1)
def p_C_layOut (a1 : Int32) (σ : MSto) : Prop := ((∀ i, i < (n_C_layOut_4 a1 0 (0, σ)) → g_C_layOut_4 a1 (0 + nI i) (f_C_layOut_4 a1 0 (0, σ) i) ∧ ¬ q_C_layOut_4s a1 (0 + nI i) (f_C_layOut_4 a1 0 (0, σ) i) = 1) ∧ (¬ ((v_C_pieceCount ((f_C_layOut_4 a1 0 (0, σ) (n_C_layOut_4 a1 0 (0, σ))).2)) ≤ (0 + nI (n_C_layOut_4 a1 0 (0, σ)))) → (¬ (6 ≤ ((f_C_layOut_4 a1 0 (0, σ) (n_C_layOut_4 a1 0 (0, σ))).1)) → False)))
noncomputable def e_C_layOut (a1 : Int32) (σ : MSto) : MSto := ((f_C_layOut_4 a1 0 (0, σ) (n_C_layOut_4 a1 0 (0, σ))).2)
noncomputable def S_C_layOut : List MV → MSto → Option Prop × Option MV × MSto := fun as σ => match as with
  | [.inr (.inr (some (12, 0))), .inl a0] => (some (p_C_layOut a0 σ), some (mI (v_C_layOut a0 σ)), e_C_layOut a0 σ)
  | _ => (some False, none, σ)
noncomputable def E_C_layOut : MEnt := ((1, 1, 12), (6, 121, 0, 0), S_C_layOut, ((⟨"ClothWithMan", "layOut", "(I)I"⟩ : MethodName), prog_1_method_85_code, 4, (some .int)))

def T_C_layOut : Nat → Option (Instr × Nat × List Nat) := fun k => bif Nat.blt k 78 then (bif Nat.blt k 35 then (bif Nat.blt k 15 then (bif Nat.blt k 5 then (bif Nat.blt k 2 then (bif Nat.blt k 1 then (bif Nat.beq k 0 then some (.iconst 0, 1, []) else none) else (bif Nat.beq k 1 then some (.istore_n 2, 2, []) else none)) else (bif Nat.blt k 3 then (bif Nat.beq k 2 then some (.iconst 0, 3, []) else none) else (bif Nat.blt k 4 then (bif Nat.beq k 3 then some (.istore_n 3, 4, []) else none) else (bif Nat.beq k 4 then some (.iload_n 3, 5, []) else none)))) else (bif Nat.blt k 9 then (bif Nat.blt k 6 then (bif Nat.beq k 5 then some (.aload_n 0, 6, []) else none) else (bif Nat.beq k 6 then some (.invokevirtual 281, 9, []) else none)) else (bif Nat.blt k 12 then (bif Nat.beq k 9 then some (.if_icmp .ge 67, 12, [76]) else none) else (bif Nat.blt k 13 then (bif Nat.beq k 12 then some (.iload_n 2, 13, []) else none) else (bif Nat.beq k 13 then some (.bipush 6, 15, []) else none))))) else (bif Nat.blt k 26 then (bif Nat.blt k 19 then (bif Nat.blt k 18 then (bif Nat.beq k 15 then some (.if_icmp .ge 61, 18, [76]) else none) else (bif Nat.beq k 18 then some (.iload_n 1, 19, []) else none)) else (bif Nat.blt k 20 then (bif Nat.beq k 19 then some (.iload_n 3, 20, []) else none) else (bif Nat.blt k 23 then (bif Nat.beq k 20 then some (.invokestatic 284, 23, []) else none) else (bif Nat.beq k 23 then some (.ifCond .eq 47, 26, [70]) else none)))) else (bif Nat.blt k 30 then (bif Nat.blt k 27 then (bif Nat.beq k 26 then some (.aload_n 0, 27, []) else none) else (bif Nat.beq k 27 then some (.getfield 92, 30, []) else none)) else (bif Nat.blt k 31 then (bif Nat.beq k 30 then some (.iload_n 2, 31, []) else none) else (bif Nat.blt k 32 then (bif Nat.beq k 31 then some (.aload_n 0, 32, []) else none) else (bif Nat.beq k 32 then some (.getfield 33, 35, []) else none)))))) else (bif Nat.blt k 53 then (bif Nat.blt k 46 then (bif Nat.blt k 39 then (bif Nat.blt k 36 then (bif Nat.beq k 35 then some (.iload_n 3, 36, []) else none) else (bif Nat.beq k 36 then some (.invokevirtual 183, 39, []) else none)) else (bif Nat.blt k 42 then (bif Nat.beq k 39 then some (.checkcast 168, 42, []) else none) else (bif Nat.blt k 45 then (bif Nat.beq k 42 then some (.getfield 436, 45, []) else none) else (bif Nat.beq k 45 then some (.iastore, 46, []) else none)))) else (bif Nat.blt k 50 then (bif Nat.blt k 47 then (bif Nat.beq k 46 then some (.aload_n 0, 47, []) else none) else (bif Nat.beq k 47 then some (.getfield 95, 50, []) else none)) else (bif Nat.blt k 51 then (bif Nat.beq k 50 then some (.iload_n 2, 51, []) else none) else (bif Nat.blt k 52 then (bif Nat.beq k 51 then some (.aload_n 0, 52, []) else none) else (bif Nat.beq k 52 then some (.aload_n 0, 53, []) else none))))) else (bif Nat.blt k 66 then (bif Nat.blt k 57 then (bif Nat.blt k 56 then (bif Nat.beq k 53 then some (.getfield 33, 56, []) else none) else (bif Nat.beq k 56 then some (.iload_n 3, 57, []) else none)) else (bif Nat.blt k 60 then (bif Nat.beq k 57 then some (.invokevirtual 183, 60, []) else none) else (bif Nat.blt k 63 then (bif Nat.beq k 60 then some (.checkcast 168, 63, []) else none) else (bif Nat.beq k 63 then some (.invokevirtual 454, 66, []) else none)))) else (bif Nat.blt k 73 then (bif Nat.blt k 67 then (bif Nat.beq k 66 then some (.iastore, 67, []) else none) else (bif Nat.blt k 70 then (bif Nat.beq k 67 then some (.iinc 2 1, 70, []) else none) else (bif Nat.beq k 70 then some (.iinc 3 1, 73, []) else none))) else (bif Nat.blt k 76 then (bif Nat.beq k 73 then some (.goto (-69), 76, [4]) else none) else (bif Nat.blt k 77 then (bif Nat.beq k 76 then some (.iload_n 2, 77, []) else none) else (bif Nat.beq k 77 then some (.ireturn, 78, []) else none))))))) else none
noncomputable def P_C_layOut : MP := (T_C_layOut, (fun k => mLook k [(33, (12, 4, (.object "java/util/ArrayList"), true)), (92, (12, 18, (.array .int), true)), (95, (12, 19, (.array .int), true)), (436, (7, 0, .int, true))]), (fun k => mLook k []), (fun k => mLook k [(183, E_AL_get), (281, E_C_pieceCount), (284, E_C_has), (454, E_C_cleanNumber)]), (fun k => mLook k []), (fun k => mLook k []), (fun k => mLook k [(168, 7)]), (fun k => mLook k [(4, [true, true, true, true]), (67, [true, true, true, true])]), (fun k => [77].any (Nat.beq k)), (6, 121, 0, 0), false, (fun _ => none))
set_option maxRecDepth 100000 in
set_option maxHeartbeats 4000000 in
theorem q_C_layOut_e (a1 : Int32) (σ : MSto) (n : Nat) : mexe KT P_C_layOut (n + 1) (0, [some (mR 12 0), some (mI a1), none, none], [], σ, 0, 0) = mexe KT P_C_layOut n (4, [some (mR 12 0), some (mI a1), some (mI 0), some (mI 0)], [], σ, 0, 0) := rfl
set_option maxRecDepth 100000 in
set_option maxHeartbeats 4000000 in
theorem q_C_layOut_4 (x1 : Int32) (x2 : Int32) (x3 : Int32) (σ : MSto) (n : Nat) : mexe KT P_C_layOut (n + 1) (4, [some (mR 12 0), some (mI x1), some (mI x2), some (mI x3)], [], σ, 0, 0) = mIf ((v_C_pieceCount σ) ≤ x3) (some (77, [], [(mI x2)], σ, 0, 0)) (mIf (6 ≤ x2) (some (77, [], [(mI x2)], σ, 0, 0)) (mIf ((v_C_has x1 x3 σ) = 0) (mexe KT P_C_layOut n (4, [some (mR 12 0), some (mI x1), some (mI x2), some (mI (x3 + 1))], [], σ, 0, 0)) (mG (p_AL_get 14 0 x3 σ) (mG (vp_in x2 6) (mG (p_AL_get 14 0 x3 (sI σ 31 0 (Int32.toNatClampNeg x2) (gI σ 7 (v_AL_get 14 0 x3 σ) 0))) (mG (p_C_cleanNumber (v_AL_get 14 0 x3 (sI σ 31 0 (Int32.toNatClampNeg x2) (gI σ 7 (v_AL_get 14 0 x3 σ) 0))) (sI σ 31 0 (Int32.toNatClampNeg x2) (gI σ 7 (v_AL_get 14 0 x3 σ) 0))) (mG (vp_in x2 6) (mexe KT P_C_layOut n (67, [some (mR 12 0), some (mI x1), some (mI x2), some (mI x3)], [], (sI (sI σ 31 0 (Int32.toNatClampNeg x2) (gI σ 7 (v_AL_get 14 0 x3 σ) 0)) 32 0 (Int32.toNatClampNeg x2) (v_C_cleanNumber (v_AL_get 14 0 x3 (sI σ 31 0 (Int32.toNatClampNeg x2) (gI σ 7 (v_AL_get 14 0 x3 σ) 0))) (sI σ 31 0 (Int32.toNatClampNeg x2) (gI σ 7 (v_AL_get 14 0 x3 σ) 0)))), 0, 0))))))))) := rfl
set_option maxRecDepth 100000 in
set_option maxHeartbeats 4000000 in
theorem q_C_layOut_67 (x1 : Int32) (x2 : Int32) (x3 : Int32) (σ : MSto) (n : Nat) : mexe KT P_C_layOut (n + 1) (67, [some (mR 12 0), some (mI x1), some (mI x2), some (mI x3)], [], σ, 0, 0) = mexe KT P_C_layOut n (4, [some (mR 12 0), some (mI x1), some (mI (x2 + 1)), some (mI (x3 + 1))], [], σ, 0, 0) := rfl
set_option maxRecDepth 100000 in
theorem lj_C_layOut_4j67 {Post : MST → Prop} (x1 : Int32) (x2 : Int32) (x3 : Int32) (σ : MSto) (s : Int32 × MSto) (hq : ¬ 0 = 1) (hn : ∀ (r1 : Int32) (r2 : MSto), tj_C_layOut_4j67 x1 x2 x3 σ s = (r1, r2) → mW1 P_C_layOut (4, [some (mR 12 0), some (mI x1), some (mI r1), some (mI (x3 + 1))], [], r2, 0, 0) Post) : mW1 P_C_layOut (67, [some (mR 12 0), some (mI x1), some (mI x2), some (mI x3)], [], σ, 0, 0) Post := by
  refine mW1_eq (q_C_layOut_67 _ _ _ _) ?_
  exact mTr_k (hn (x2 + 1) σ (rfl))
set_option maxRecDepth 100000 in
theorem lt_C_layOut_4 {Post : MST → Prop} (x1 : Int32) (c : Int32) (s : Int32 × MSto) (hp : g_C_layOut_4 x1 c s) (hq : ¬ q_C_layOut_4s x1 c s = 1) (hn : ∀ (r1 : Int32) (r2 : MSto), t_C_layOut_4 x1 c s = (r1, r2) → mW1 P_C_layOut (4, [some (mR 12 0), some (mI x1), some (mI r1), some (mI (c + 1))], [], r2, 0, 0) Post) : mW1 P_C_layOut (4, [some (mR 12 0), some (mI x1), some (mI (s.1)), some (mI c)], [], (s.2), 0, 0) Post := by
  unfold g_C_layOut_4 at hp
  refine mW1_eq (q_C_layOut_4 _ _ _ _) ?_
  refine mTr_if (fun h0 => ?_) (fun h0 => ?_)
  · skip
    exact absurd (if_pos h0) hq
  · skip
    have hp := hp h0
    refine mTr_if (fun h1 => ?_) (fun h1 => ?_)
    · skip
      exact absurd ((if_neg h0).trans (if_pos h1)) hq
    · skip
      have hp := hp h1
      refine mTr_if (fun h2 => ?_) (fun h2 => ?_)
      · skip
        exact mTr_k (hn (s.1) (s.2) ((if_neg h0).trans ((if_neg h1).trans (if_pos h2))))
      · skip
        have hp := hp h2
        refine mTr_g hp.1 ?_
        have hp := hp.2
        refine mTr_g hp.1 ?_
        have hp := hp.2
        refine mTr_g hp.1 ?_
        have hp := hp.2
        refine mTr_g hp.1 ?_
        have hp := hp.2
        refine mTr_g hp ?_
        exact mTr_k (lj_C_layOut_4j67 x1 (s.1) c (sI (sI (s.2) 31 0 (Int32.toNatClampNeg (s.1)) (gI (s.2) 7 (v_AL_get 14 0 c (s.2)) 0)) 32 0 (Int32.toNatClampNeg (s.1)) (v_C_cleanNumber (v_AL_get 14 0 c (sI (s.2) 31 0 (Int32.toNatClampNeg (s.1)) (gI (s.2) 7 (v_AL_get 14 0 c (s.2)) 0))) (sI (s.2) 31 0 (Int32.toNatClampNeg (s.1)) (gI (s.2) 7 (v_AL_get 14 0 c (s.2)) 0)))) s (fun z => hq (((if_neg h0).trans (if_neg h1)).trans z)) (fun r1 r2 zr => hn r1 r2 (((if_neg h0).trans ((if_neg h1).trans (if_neg h2))).trans zr)))
theorem lp_C_layOut_4 {Post : MST → Prop} (x1 : Int32) (c0 : Int32) (s0 : Int32 × MSto) (N : Nat) (hb : ∀ i, i < N → g_C_layOut_4 x1 (c0 + nI i) (f_C_layOut_4 x1 c0 s0 i) ∧ ¬ q_C_layOut_4s x1 (c0 + nI i) (f_C_layOut_4 x1 c0 s0 i) = 1) (h : mW1 P_C_layOut (4, [some (mR 12 0), some (mI x1), some (mI ((f_C_layOut_4 x1 c0 s0 N).1)), some (mI (c0 + nI N))], [], ((f_C_layOut_4 x1 c0 s0 N).2), 0, 0) Post) : mW1 P_C_layOut (4, [some (mR 12 0), some (mI x1), some (mI (s0.1)), some (mI c0)], [], (s0.2), 0, 0) Post := by
  refine mW1_st (mW1_loop (fun i => (4, [some (mR 12 0), some (mI x1), some (mI ((f_C_layOut_4 x1 c0 s0 i).1)), some (mI (c0 + nI i))], [], ((f_C_layOut_4 x1 c0 s0 i).2), 0, 0)) N (fun i hlt hn => ?_) h) (by rw [show nI 0 = 0 from rfl, Int32.add_zero] <;> rfl)
  refine lt_C_layOut_4 x1 _ _ (hb i hlt).1 (hb i hlt).2 (fun r1 r2 hr => ?_)
  rw [Int32.add_assoc, nI_s]
  have e : f_C_layOut_4 x1 c0 s0 (i + 1) = (r1, r2) := hr
  try dsimp only at hn
  rw [e] at hn
  exact hn
set_option maxRecDepth 100000 in
set_option maxHeartbeats 4000000 in
theorem d_C_layOut (a1 : Int32) (σ : MSto) (hp : p_C_layOut a1 σ) : mW1 P_C_layOut (0, [some (mR 12 0), some (mI a1), none, none], [], σ, 0, 0) (mF [77] [mI (v_C_layOut a1 σ)] (e_C_layOut a1 σ) 0 0) := by
  refine mW1_eq (q_C_layOut_e _ _) ?_
  unfold p_C_layOut at hp
  refine mTr_k (lp_C_layOut_4 a1 0 (0, σ) (n_C_layOut_4 a1 0 (0, σ)) hp.1 ?_)
  have hp := hp.2
  refine mW1_eq (q_C_layOut_4 _ _ _ _) ?_
  refine mTr_if (fun h0 => ?_) (fun h0 => ?_)
  · skip
    exact mTr_e (by decide) (congrArg (fun z => [mI z]) (Eq.symm (rfl))) (Eq.symm (rfl)) (by decide) (by decide)
  · skip
    have hp := hp h0
    refine mTr_if (fun h1 => ?_) (fun h1 => ?_)
    · skip
      exact mTr_e (by decide) (congrArg (fun z => [mI z]) (Eq.symm (rfl))) (Eq.symm (rfl)) (by decide) (by decide)
    · skip
      have hp := hp h1
      exact hp.elim




theorem tk_C_layOut : ∀ pc i nx tg, T_C_layOut pc = some (i, nx, tg) → mOkB prog_1_method_85_code pc i nx tg = true := code_ok (N := 78) (fun k h => by unfold T_C_layOut; rw [h]; rfl) (by decide +kernel)
theorem ok_C_layOut (l : Launch) : mPOK l "ClothWithMan" prog_1_method_85_code P_C_layOut := by
  refine ⟨tk_C_layOut, ?_, ?_, ?_, (fun pc i nx tg kd _ h => by cases h), ?_, ?_, fun pc en h => by cases h⟩
  · intro x ci f ty fin h
    exact mLook_all (Q := fun x v => mFOK "ClothWithMan" x v.1 v.2.1 v.2.2.1 v.2.2.2 ∧ (v.2.2.2 = true → pIni P_C_layOut = true → (Cond.fieldLink "ClothWithMan" x (((mCl[v.1]?).getD ("", fun _ => ("", "", "", false), 0)).2.1 v.2.1).1 (((mCl[v.1]?).getD ("", fun _ => ("", "", "", false), 0)).2.1 v.2.1).2.1 (((mCl[v.1]?).getD ("", fun _ => ("", "", "", false), 0)).2.1 v.2.1).2.2.1 ∈ lw_tbl ∧ (((mCl[v.1]?).getD ("", fun _ => ("", "", "", false), 0)).2.1 v.2.1).1 = "ClothWithMan"))) (fcC ⟨fo_C_33, fun h1 h2 => by cases h2⟩ (fcC ⟨fo_C_92, fun h1 h2 => by cases h2⟩ (fcC ⟨fo_C_95, fun h1 h2 => by cases h2⟩ (fcC ⟨fo_C_436, fun h1 h2 => by cases h2⟩ fcN)))) x (ci, f, ty, fin) h
  · intro x
    have hh := mLook_all (l := ([] : List (Nat × (Int32 ⊕ Int64)))) (Q := fun x (v : Int32 ⊕ Int64) => (∀ w, v = .inl w → Cond.constant "ClothWithMan" x w ∈ lw_tbl) ∧ (∀ w, v = .inr w → Cond.constantLong "ClothWithMan" x w ∈ lw_tbl)) fcN x
    exact ⟨fun w h => (hh _ h).1 w rfl, fun w h => (hh _ h).2 w rfl⟩
  · exact fun x en h => mLook_all (Q := fun x en => mLink "ClothWithMan" x en ∧ mCtr l en ∧ (en.1.1 = 2 → en.2.2.2.2.2.2 = none)) (fcC ⟨li_C_183, c_AL_get l, (fun h => by cases h)⟩ (fcC ⟨li_C_281, c_C_pieceCount l, (fun h => by cases h)⟩ (fcC ⟨li_C_284, c_C_has l, (fun h => by cases h)⟩ (fcC ⟨li_C_454, c_C_cleanNumber l, (fun h => by cases h)⟩ fcN)))) x en h
  · exact fun x kd h => mLook_all (Q := fun x kd => (kd = 95 ∧ Cond.fieldLink "ClothWithMan" x "ClothWithMan" "LIKENESSES" "[I" ∈ lw_tbl) ∨ (kd = 96 ∧ Cond.fieldLink "ClothWithMan" x "ClothWithMan" "APART_BOUNDS" "[I" ∈ lw_tbl)) fcN x kd h
  · exact fun x ci h => mLook_all (Q := fun x ci => ci ≠ 0 ∧ ∃ (C : String) (T : u_T) (N : Nat), mCl[ci]? = some (C, T, N) ∧ Cond.classLink "ClothWithMan" x C ∈ lw_tbl ∧ Cond.instantiable C N ∈ lw_tbl) (fcC ⟨by decide, "ClothWithMan$Piece", TX6, 6, rfl, tw_3_6, tw_3_7⟩ fcN) x ci h
set_option maxRecDepth 100000 in
theorem c_C_layOut (l : Launch) : mCtr l E_C_layOut := mCtr_of (P := P_C_layOut) (own := "ClothWithMan") mLay_ok rfl (by decide +kernel) rfl (ok_C_layOut l) (fun h => by cases h) (fun as σ pr rv σ' hF hpr hlv => by
  unfold E_C_layOut S_C_layOut at hF
  simp only [] at hF
  split at hF
  · cases hF
    obtain ⟨n, pcF, c1, s1, g1, g2, g3, g4⟩ := mF_inv (d_C_layOut _ σ (hpr _ rfl))
    exact ⟨Nat.le_of_ble_eq_true rfl, (fun v h => by cases h; trivial), n, pcF, c1, s1, g1, ⟨mEnd_of (i := .ireturn) (P := P_C_layOut) (rets := [77]) rfl g2, rfl⟩, g3, g4⟩
  · cases hF
    exact (hpr _ rfl).elim)
/-! ClothWithMan.slopeLower(I)J -/
noncomputable def t_C_slopeLower_8 (x1 : Int32) (c : Int32) (σ : MSto) (s : Int64 × Int64) : Int64 × Int64 := (if x1 ≤ c then s else (((s.1) + (Int32.toInt64 (gI σ 31 0 (Int32.toNatClampNeg c)))), ((s.2) + (Int32.toInt64 ((gI σ 31 0 (Int32.toNatClampNeg c)) * (gI σ 31 0 (Int32.toNatClampNeg c)))))))
noncomputable def q_C_slopeLower_8s (x1 : Int32) (c : Int32) (σ : MSto) (s : Int64 × Int64) : Nat := (if x1 ≤ c then 1 else 0)
def g_C_slopeLower_8 (x1 : Int32) (c : Int32) (σ : MSto) (s : Int64 × Int64) : Prop := (¬ (x1 ≤ c) → ((vp_in c 6) ∧ ((vp_in c 6) ∧ (vp_in c 6))))
noncomputable def f_C_slopeLower_8 (x1 : Int32) (c0 : Int32) (σ : MSto) (s0 : Int64 × Int64) (n : Nat) : Int64 × Int64 := nfold (fun i s => t_C_slopeLower_8 x1 (c0 + nI i) σ s) s0 n
noncomputable def n_C_slopeLower_8 (x1 : Int32) (c0 : Int32) (σ : MSto) (s0 : Int64 × Int64) : Nat := x1.toNatClampNeg
noncomputable def v_C_slopeLower (a1 : Int32) (σ : MSto) : Int64 := (((Int32.toInt64 a1) * ((f_C_slopeLower_8 a1 0 σ (0, 0) (n_C_slopeLower_8 a1 0 σ (0, 0))).2)) - (((f_C_slopeLower_8 a1 0 σ (0, 0) (n_C_slopeLower_8 a1 0 σ (0, 0))).1) * ((f_C_slopeLower_8 a1 0 σ (0, 0) (n_C_slopeLower_8 a1 0 σ (0, 0))).1)))
def p_C_slopeLower (a1 : Int32) (σ : MSto) : Prop := ((∀ i, i < (n_C_slopeLower_8 a1 0 σ (0, 0)) → g_C_slopeLower_8 a1 (0 + nI i) σ (f_C_slopeLower_8 a1 0 σ (0, 0) i) ∧ ¬ q_C_slopeLower_8s a1 (0 + nI i) σ (f_C_slopeLower_8 a1 0 σ (0, 0) i) = 1) ∧ (¬ (a1 ≤ (0 + nI (n_C_slopeLower_8 a1 0 σ (0, 0)))) → False))
noncomputable def S_C_slopeLower : List MV → MSto → Option Prop × Option MV × MSto := fun as σ => match as with
  | [.inr (.inr (some (12, 0))), .inl a0] => (some (p_C_slopeLower a0 σ), some (mJ (v_C_slopeLower a0 σ)), σ)
  | _ => (some False, none, σ)
noncomputable def E_C_slopeLower : MEnt := ((1, 1, 12), (0, 0, 0, 0), S_C_slopeLower, ((⟨"ClothWithMan", "slopeLower", "(I)J"⟩ : MethodName), prog_1_method_86_code, 7, (some .long)))

def T_C_slopeLower : Nat → Option (Instr × Nat × List Nat) := fun k => bif Nat.blt k 62 then (bif Nat.blt k 31 then (bif Nat.blt k 15 then (bif Nat.blt k 6 then (bif Nat.blt k 2 then (bif Nat.blt k 1 then (bif Nat.beq k 0 then some (.lconst 0, 1, []) else none) else (bif Nat.beq k 1 then some (.lstore_n 2, 2, []) else none)) else (bif Nat.blt k 3 then (bif Nat.beq k 2 then some (.lconst 0, 3, []) else none) else (bif Nat.blt k 5 then (bif Nat.beq k 3 then some (.lstore 4, 5, []) else none) else (bif Nat.beq k 5 then some (.iconst 0, 6, []) else none)))) else (bif Nat.blt k 10 then (bif Nat.blt k 8 then (bif Nat.beq k 6 then some (.istore 6, 8, []) else none) else (bif Nat.beq k 8 then some (.iload 6, 10, []) else none)) else (bif Nat.blt k 11 then (bif Nat.beq k 10 then some (.iload_n 1, 11, []) else none) else (bif Nat.blt k 14 then (bif Nat.beq k 11 then some (.if_icmp .ge 41, 14, [52]) else none) else (bif Nat.beq k 14 then some (.lload_n 2, 15, []) else none))))) else (bif Nat.blt k 23 then (bif Nat.blt k 19 then (bif Nat.blt k 16 then (bif Nat.beq k 15 then some (.aload_n 0, 16, []) else none) else (bif Nat.beq k 16 then some (.getfield 92, 19, []) else none)) else (bif Nat.blt k 21 then (bif Nat.beq k 19 then some (.iload 6, 21, []) else none) else (bif Nat.blt k 22 then (bif Nat.beq k 21 then some (.iaload, 22, []) else none) else (bif Nat.beq k 22 then some (.i2l, 23, []) else none)))) else (bif Nat.blt k 25 then (bif Nat.blt k 24 then (bif Nat.beq k 23 then some (.ladd, 24, []) else none) else (bif Nat.beq k 24 then some (.lstore_n 2, 25, []) else none)) else (bif Nat.blt k 27 then (bif Nat.beq k 25 then some (.lload 4, 27, []) else none) else (bif Nat.blt k 28 then (bif Nat.beq k 27 then some (.aload_n 0, 28, []) else none) else (bif Nat.beq k 28 then some (.getfield 92, 31, []) else none)))))) else (bif Nat.blt k 46 then (bif Nat.blt k 40 then (bif Nat.blt k 34 then (bif Nat.blt k 33 then (bif Nat.beq k 31 then some (.iload 6, 33, []) else none) else (bif Nat.beq k 33 then some (.iaload, 34, []) else none)) else (bif Nat.blt k 35 then (bif Nat.beq k 34 then some (.aload_n 0, 35, []) else none) else (bif Nat.blt k 38 then (bif Nat.beq k 35 then some (.getfield 92, 38, []) else none) else (bif Nat.beq k 38 then some (.iload 6, 40, []) else none)))) else (bif Nat.blt k 42 then (bif Nat.blt k 41 then (bif Nat.beq k 40 then some (.iaload, 41, []) else none) else (bif Nat.beq k 41 then some (.imul, 42, []) else none)) else (bif Nat.blt k 43 then (bif Nat.beq k 42 then some (.i2l, 43, []) else none) else (bif Nat.blt k 44 then (bif Nat.beq k 43 then some (.ladd, 44, []) else none) else (bif Nat.beq k 44 then some (.lstore 4, 46, []) else none))))) else (bif Nat.blt k 56 then (bif Nat.blt k 52 then (bif Nat.blt k 49 then (bif Nat.beq k 46 then some (.iinc 6 1, 49, []) else none) else (bif Nat.beq k 49 then some (.goto (-41), 52, [8]) else none)) else (bif Nat.blt k 53 then (bif Nat.beq k 52 then some (.iload_n 1, 53, []) else none) else (bif Nat.blt k 54 then (bif Nat.beq k 53 then some (.i2l, 54, []) else none) else (bif Nat.beq k 54 then some (.lload 4, 56, []) else none)))) else (bif Nat.blt k 59 then (bif Nat.blt k 57 then (bif Nat.beq k 56 then some (.lmul, 57, []) else none) else (bif Nat.blt k 58 then (bif Nat.beq k 57 then some (.lload_n 2, 58, []) else none) else (bif Nat.beq k 58 then some (.lload_n 2, 59, []) else none))) else (bif Nat.blt k 60 then (bif Nat.beq k 59 then some (.lmul, 60, []) else none) else (bif Nat.blt k 61 then (bif Nat.beq k 60 then some (.lsub, 61, []) else none) else (bif Nat.beq k 61 then some (.lreturn, 62, []) else none))))))) else none
noncomputable def P_C_slopeLower : MP := (T_C_slopeLower, (fun k => mLook k [(92, (12, 18, (.array .int), true))]), (fun k => mLook k []), (fun k => mLook k []), (fun k => mLook k []), (fun k => mLook k []), (fun k => mLook k []), (fun k => mLook k [(8, [true, true, true, false, true, false, true])]), (fun k => [61].any (Nat.beq k)), (0, 0, 0, 0), false, (fun _ => none))
set_option maxRecDepth 100000 in
set_option maxHeartbeats 4000000 in
theorem q_C_slopeLower_e (a1 : Int32) (σ : MSto) (n : Nat) : mexe KT P_C_slopeLower (n + 1) (0, [some (mR 12 0), some (mI a1), none, none, none, none, none], [], σ, 0, 0) = mexe KT P_C_slopeLower n (8, [some (mR 12 0), some (mI a1), some (mJ 0), none, some (mJ 0), none, some (mI 0)], [], σ, 0, 0) := rfl
set_option maxRecDepth 100000 in
set_option maxHeartbeats 4000000 in
theorem q_C_slopeLower_8 (x1 : Int32) (x2 : Int64) (x4 : Int64) (x6 : Int32) (σ : MSto) (n : Nat) : mexe KT P_C_slopeLower (n + 1) (8, [some (mR 12 0), some (mI x1), some (mJ x2), none, some (mJ x4), none, some (mI x6)], [], σ, 0, 0) = mIf (x1 ≤ x6) (some (61, [], [(mJ (((Int32.toInt64 x1) * x4) - (x2 * x2)))], σ, 0, 0)) (mG (vp_in x6 6) (mG (vp_in x6 6) (mG (vp_in x6 6) (mexe KT P_C_slopeLower n (8, [some (mR 12 0), some (mI x1), some (mJ (x2 + (Int32.toInt64 (gI σ 31 0 (Int32.toNatClampNeg x6))))), none, some (mJ (x4 + (Int32.toInt64 ((gI σ 31 0 (Int32.toNatClampNeg x6)) * (gI σ 31 0 (Int32.toNatClampNeg x6)))))), none, some (mI (x6 + 1))], [], σ, 0, 0))))) := rfl
set_option maxRecDepth 100000 in
theorem lt_C_slopeLower_8 {Post : MST → Prop} (x1 : Int32) (c : Int32) (σ : MSto) (s : Int64 × Int64) (hp : g_C_slopeLower_8 x1 c σ s) (hq : ¬ q_C_slopeLower_8s x1 c σ s = 1) (hn : ∀ (r1 : Int64) (r2 : Int64), t_C_slopeLower_8 x1 c σ s = (r1, r2) → mW1 P_C_slopeLower (8, [some (mR 12 0), some (mI x1), some (mJ r1), none, some (mJ r2), none, some (mI (c + 1))], [], σ, 0, 0) Post) : mW1 P_C_slopeLower (8, [some (mR 12 0), some (mI x1), some (mJ (s.1)), none, some (mJ (s.2)), none, some (mI c)], [], σ, 0, 0) Post := by
  unfold g_C_slopeLower_8 at hp
  refine mW1_eq (q_C_slopeLower_8 _ _ _ _ _) ?_
  refine mTr_if (fun h0 => ?_) (fun h0 => ?_)
  · skip
    exact absurd (if_pos h0) hq
  · skip
    have hp := hp h0
    refine mTr_g hp.1 ?_
    have hp := hp.2
    refine mTr_g hp.1 ?_
    have hp := hp.2
    refine mTr_g hp ?_
    exact mTr_k (hn ((s.1) + (Int32.toInt64 (gI σ 31 0 (Int32.toNatClampNeg c)))) ((s.2) + (Int32.toInt64 ((gI σ 31 0 (Int32.toNatClampNeg c)) * (gI σ 31 0 (Int32.toNatClampNeg c))))) (if_neg h0))
theorem lp_C_slopeLower_8 {Post : MST → Prop} (x1 : Int32) (c0 : Int32) (σ : MSto) (s0 : Int64 × Int64) (N : Nat) (hb : ∀ i, i < N → g_C_slopeLower_8 x1 (c0 + nI i) σ (f_C_slopeLower_8 x1 c0 σ s0 i) ∧ ¬ q_C_slopeLower_8s x1 (c0 + nI i) σ (f_C_slopeLower_8 x1 c0 σ s0 i) = 1) (h : mW1 P_C_slopeLower (8, [some (mR 12 0), some (mI x1), some (mJ ((f_C_slopeLower_8 x1 c0 σ s0 N).1)), none, some (mJ ((f_C_slopeLower_8 x1 c0 σ s0 N).2)), none, some (mI (c0 + nI N))], [], σ, 0, 0) Post) : mW1 P_C_slopeLower (8, [some (mR 12 0), some (mI x1), some (mJ (s0.1)), none, some (mJ (s0.2)), none, some (mI c0)], [], σ, 0, 0) Post := by
  refine mW1_st (mW1_loop (fun i => (8, [some (mR 12 0), some (mI x1), some (mJ ((f_C_slopeLower_8 x1 c0 σ s0 i).1)), none, some (mJ ((f_C_slopeLower_8 x1 c0 σ s0 i).2)), none, some (mI (c0 + nI i))], [], σ, 0, 0)) N (fun i hlt hn => ?_) h) (by rw [show nI 0 = 0 from rfl, Int32.add_zero] <;> rfl)
  refine lt_C_slopeLower_8 x1 _ σ _ (hb i hlt).1 (hb i hlt).2 (fun r1 r2 hr => ?_)
  rw [Int32.add_assoc, nI_s]
  have e : f_C_slopeLower_8 x1 c0 σ s0 (i + 1) = (r1, r2) := hr
  try dsimp only at hn
  rw [e] at hn
  exact hn
set_option maxRecDepth 100000 in
set_option maxHeartbeats 4000000 in
theorem d_C_slopeLower (a1 : Int32) (σ : MSto) (hp : p_C_slopeLower a1 σ) : mW1 P_C_slopeLower (0, [some (mR 12 0), some (mI a1), none, none, none, none, none], [], σ, 0, 0) (mF [61] [mJ (v_C_slopeLower a1 σ)] σ 0 0) := by
  refine mW1_eq (q_C_slopeLower_e _ _) ?_
  unfold p_C_slopeLower at hp
  refine mTr_k (lp_C_slopeLower_8 a1 0 σ (0, 0) (n_C_slopeLower_8 a1 0 σ (0, 0)) hp.1 ?_)
  have hp := hp.2
  refine mW1_eq (q_C_slopeLower_8 _ _ _ _ _) ?_
  refine mTr_if (fun h0 => ?_) (fun h0 => ?_)
  · skip
    exact mTr_e (by decide) (congrArg (fun z => [mJ z]) (Eq.symm (rfl))) rfl (by decide) (by decide)
  · skip
    have hp := hp h0
    exact hp.elim
theorem tk_C_slopeLower : ∀ pc i nx tg, T_C_slopeLower pc = some (i, nx, tg) → mOkB prog_1_method_86_code pc i nx tg = true := code_ok (N := 62) (fun k h => by unfold T_C_slopeLower; rw [h]; rfl) (by decide +kernel)
theorem ok_C_slopeLower (l : Launch) : mPOK l "ClothWithMan" prog_1_method_86_code P_C_slopeLower := by
  refine ⟨tk_C_slopeLower, ?_, ?_, ?_, (fun pc i nx tg kd _ h => by cases h), ?_, ?_, fun pc en h => by cases h⟩
  · intro x ci f ty fin h
    exact mLook_all (Q := fun x v => mFOK "ClothWithMan" x v.1 v.2.1 v.2.2.1 v.2.2.2 ∧ (v.2.2.2 = true → pIni P_C_slopeLower = true → (Cond.fieldLink "ClothWithMan" x (((mCl[v.1]?).getD ("", fun _ => ("", "", "", false), 0)).2.1 v.2.1).1 (((mCl[v.1]?).getD ("", fun _ => ("", "", "", false), 0)).2.1 v.2.1).2.1 (((mCl[v.1]?).getD ("", fun _ => ("", "", "", false), 0)).2.1 v.2.1).2.2.1 ∈ lw_tbl ∧ (((mCl[v.1]?).getD ("", fun _ => ("", "", "", false), 0)).2.1 v.2.1).1 = "ClothWithMan"))) (fcC ⟨fo_C_92, fun h1 h2 => by cases h2⟩ fcN) x (ci, f, ty, fin) h
  · intro x
    have hh := mLook_all (l := ([] : List (Nat × (Int32 ⊕ Int64)))) (Q := fun x (v : Int32 ⊕ Int64) => (∀ w, v = .inl w → Cond.constant "ClothWithMan" x w ∈ lw_tbl) ∧ (∀ w, v = .inr w → Cond.constantLong "ClothWithMan" x w ∈ lw_tbl)) fcN x
    exact ⟨fun w h => (hh _ h).1 w rfl, fun w h => (hh _ h).2 w rfl⟩
  · exact fun x en h => mLook_all (Q := fun x en => mLink "ClothWithMan" x en ∧ mCtr l en ∧ (en.1.1 = 2 → en.2.2.2.2.2.2 = none)) fcN x en h
  · exact fun x kd h => mLook_all (Q := fun x kd => (kd = 95 ∧ Cond.fieldLink "ClothWithMan" x "ClothWithMan" "LIKENESSES" "[I" ∈ lw_tbl) ∨ (kd = 96 ∧ Cond.fieldLink "ClothWithMan" x "ClothWithMan" "APART_BOUNDS" "[I" ∈ lw_tbl)) fcN x kd h
  · exact fun x ci h => mLook_all (Q := fun x ci => ci ≠ 0 ∧ ∃ (C : String) (T : u_T) (N : Nat), mCl[ci]? = some (C, T, N) ∧ Cond.classLink "ClothWithMan" x C ∈ lw_tbl ∧ Cond.instantiable C N ∈ lw_tbl) fcN x ci h
set_option maxRecDepth 100000 in
theorem c_C_slopeLower (l : Launch) : mCtr l E_C_slopeLower := mCtr_of (P := P_C_slopeLower) (own := "ClothWithMan") mLay_ok rfl (by decide +kernel) rfl (ok_C_slopeLower l) (fun h => by cases h) (fun as σ pr rv σ' hF hpr hlv => by
  unfold E_C_slopeLower S_C_slopeLower at hF
  simp only [] at hF
  split at hF
  · cases hF
    obtain ⟨n, pcF, c1, s1, g1, g2, g3, g4⟩ := mF_inv (d_C_slopeLower _ σ (hpr _ rfl))
    exact ⟨Nat.le_of_ble_eq_true rfl, (fun v h => by cases h; trivial), n, pcF, c1, s1, g1, mEnd_of (i := .lreturn) (P := P_C_slopeLower) (rets := [61]) rfl g2, g3, g4⟩
  · cases hF
    exact (hpr _ rfl).elim)
/-! ClothWithMan.slopeUpper(II)J -/
noncomputable def t_C_slopeUpper_21 (x1 : Int32) (c : Int32) (σ : MSto) (s : Int64 × Int64 × Int64 × Int32 × Int32) : Int64 × Int64 × Int64 × Int32 × Int32 := (if x1 ≤ c then s else (((s.1) + (Int32.toInt64 (gI σ 31 0 (Int32.toNatClampNeg c)))), ((s.2.1) + (Int32.toInt64 (gI σ 32 0 (Int32.toNatClampNeg c)))), ((s.2.2.1) + (Int32.toInt64 ((gI σ 31 0 (Int32.toNatClampNeg c)) * (gI σ 32 0 (Int32.toNatClampNeg (v_C_bitNumber (s.2.2.2.1) ((s.2.2.2.2) - (s.2.2.2.2) / (x1 - c) * (x1 - c)) σ)))))), (v_C_without (s.2.2.2.1) (v_C_bitNumber (s.2.2.2.1) ((s.2.2.2.2) - (s.2.2.2.2) / (x1 - c) * (x1 - c)) σ) σ), ((s.2.2.2.2) / (x1 - c))))
noncomputable def q_C_slopeUpper_21s (x1 : Int32) (c : Int32) (σ : MSto) (s : Int64 × Int64 × Int64 × Int32 × Int32) : Nat := (if x1 ≤ c then 1 else 0)
def g_C_slopeUpper_21 (x1 : Int32) (c : Int32) (σ : MSto) (s : Int64 × Int64 × Int64 × Int32 × Int32) : Prop := (¬ (x1 ≤ c) → ((¬ ((x1 - c) : Int32) = 0) ∧ ((p_C_bitNumber (s.2.2.2.1) ((s.2.2.2.2) - (s.2.2.2.2) / (x1 - c) * (x1 - c)) σ) ∧ ((¬ ((x1 - c) : Int32) = 0) ∧ ((vp_in c 6) ∧ ((vp_in c 6) ∧ ((vp_in c 6) ∧ (vp_in (v_C_bitNumber (s.2.2.2.1) ((s.2.2.2.2) - (s.2.2.2.2) / (x1 - c) * (x1 - c)) σ) 6))))))))
noncomputable def f_C_slopeUpper_21 (x1 : Int32) (c0 : Int32) (σ : MSto) (s0 : Int64 × Int64 × Int64 × Int32 × Int32) (n : Nat) : Int64 × Int64 × Int64 × Int32 × Int32 := nfold (fun i s => t_C_slopeUpper_21 x1 (c0 + nI i) σ s) s0 n
noncomputable def n_C_slopeUpper_21 (x1 : Int32) (c0 : Int32) (σ : MSto) (s0 : Int64 × Int64 × Int64 × Int32 × Int32) : Nat := x1.toNatClampNeg
noncomputable def v_C_slopeUpper (a1 : Int32) (a2 : Int32) (σ : MSto) : Int64 := (((Int32.toInt64 a1) * ((f_C_slopeUpper_21 a1 0 σ (0, 0, 0, (((1 : Int32) <<< (a1 &&& 31)) - 1), a2) (n_C_slopeUpper_21 a1 0 σ (0, 0, 0, (((1 : Int32) <<< (a1 &&& 31)) - 1), a2))).2.2.1)) - (((f_C_slopeUpper_21 a1 0 σ (0, 0, 0, (((1 : Int32) <<< (a1 &&& 31)) - 1), a2) (n_C_slopeUpper_21 a1 0 σ (0, 0, 0, (((1 : Int32) <<< (a1 &&& 31)) - 1), a2))).1) * ((f_C_slopeUpper_21 a1 0 σ (0, 0, 0, (((1 : Int32) <<< (a1 &&& 31)) - 1), a2) (n_C_slopeUpper_21 a1 0 σ (0, 0, 0, (((1 : Int32) <<< (a1 &&& 31)) - 1), a2))).2.1)))
def p_C_slopeUpper (a1 : Int32) (a2 : Int32) (σ : MSto) : Prop := ((∀ i, i < (n_C_slopeUpper_21 a1 0 σ (0, 0, 0, (((1 : Int32) <<< (a1 &&& 31)) - 1), a2)) → g_C_slopeUpper_21 a1 (0 + nI i) σ (f_C_slopeUpper_21 a1 0 σ (0, 0, 0, (((1 : Int32) <<< (a1 &&& 31)) - 1), a2) i) ∧ ¬ q_C_slopeUpper_21s a1 (0 + nI i) σ (f_C_slopeUpper_21 a1 0 σ (0, 0, 0, (((1 : Int32) <<< (a1 &&& 31)) - 1), a2) i) = 1) ∧ (¬ (a1 ≤ (0 + nI (n_C_slopeUpper_21 a1 0 σ (0, 0, 0, (((1 : Int32) <<< (a1 &&& 31)) - 1), a2)))) → False))
noncomputable def S_C_slopeUpper : List MV → MSto → Option Prop × Option MV × MSto := fun as σ => match as with
  | [.inr (.inr (some (12, 0))), .inl a0, .inl a1] => (some (p_C_slopeUpper a0 a1 σ), some (mJ (v_C_slopeUpper a0 a1 σ)), σ)
  | _ => (some False, none, σ)
noncomputable def E_C_slopeUpper : MEnt := ((1, 2, 12), (2, 44, 0, 0), S_C_slopeUpper, ((⟨"ClothWithMan", "slopeUpper", "(II)J"⟩ : MethodName), prog_1_method_87_code, 14, (some .long)))

def T_C_slopeUpper : Nat → Option (Instr × Nat × List Nat) := fun k => bif Nat.blt k 123 then (bif Nat.blt k 62 then (bif Nat.blt k 27 then (bif Nat.blt k 11 then (bif Nat.blt k 5 then (bif Nat.blt k 2 then (bif Nat.blt k 1 then (bif Nat.beq k 0 then some (.lconst 0, 1, []) else none) else (bif Nat.beq k 1 then some (.lstore_n 3, 2, []) else none)) else (bif Nat.blt k 3 then (bif Nat.beq k 2 then some (.lconst 0, 3, []) else none) else (bif Nat.beq k 3 then some (.lstore 5, 5, []) else none))) else (bif Nat.blt k 8 then (bif Nat.blt k 6 then (bif Nat.beq k 5 then some (.lconst 0, 6, []) else none) else (bif Nat.beq k 6 then some (.lstore 7, 8, []) else none)) else (bif Nat.blt k 9 then (bif Nat.beq k 8 then some (.iconst 1, 9, []) else none) else (bif Nat.blt k 10 then (bif Nat.beq k 9 then some (.iload_n 1, 10, []) else none) else (bif Nat.beq k 10 then some (.ishl, 11, []) else none))))) else (bif Nat.blt k 18 then (bif Nat.blt k 13 then (bif Nat.blt k 12 then (bif Nat.beq k 11 then some (.iconst 1, 12, []) else none) else (bif Nat.beq k 12 then some (.isub, 13, []) else none)) else (bif Nat.blt k 15 then (bif Nat.beq k 13 then some (.istore 9, 15, []) else none) else (bif Nat.blt k 16 then (bif Nat.beq k 15 then some (.iload_n 2, 16, []) else none) else (bif Nat.beq k 16 then some (.istore 10, 18, []) else none)))) else (bif Nat.blt k 21 then (bif Nat.blt k 19 then (bif Nat.beq k 18 then some (.iconst 0, 19, []) else none) else (bif Nat.beq k 19 then some (.istore 11, 21, []) else none)) else (bif Nat.blt k 23 then (bif Nat.beq k 21 then some (.iload 11, 23, []) else none) else (bif Nat.blt k 24 then (bif Nat.beq k 23 then some (.iload_n 1, 24, []) else none) else (bif Nat.beq k 24 then some (.if_icmp .ge 88, 27, [112]) else none)))))) else (bif Nat.blt k 43 then (bif Nat.blt k 33 then (bif Nat.blt k 30 then (bif Nat.blt k 28 then (bif Nat.beq k 27 then some (.iload_n 1, 28, []) else none) else (bif Nat.beq k 28 then some (.iload 11, 30, []) else none)) else (bif Nat.blt k 31 then (bif Nat.beq k 30 then some (.isub, 31, []) else none) else (bif Nat.beq k 31 then some (.istore 12, 33, []) else none))) else (bif Nat.blt k 37 then (bif Nat.blt k 35 then (bif Nat.beq k 33 then some (.iload 9, 35, []) else none) else (bif Nat.beq k 35 then some (.iload 10, 37, []) else none)) else (bif Nat.blt k 39 then (bif Nat.beq k 37 then some (.iload 12, 39, []) else none) else (bif Nat.blt k 40 then (bif Nat.beq k 39 then some (.irem, 40, []) else none) else (bif Nat.beq k 40 then some (.invokestatic 462, 43, []) else none))))) else (bif Nat.blt k 52 then (bif Nat.blt k 47 then (bif Nat.blt k 45 then (bif Nat.beq k 43 then some (.istore 13, 45, []) else none) else (bif Nat.beq k 45 then some (.iload 10, 47, []) else none)) else (bif Nat.blt k 49 then (bif Nat.beq k 47 then some (.iload 12, 49, []) else none) else (bif Nat.blt k 50 then (bif Nat.beq k 49 then some (.idiv, 50, []) else none) else (bif Nat.beq k 50 then some (.istore 10, 52, []) else none)))) else (bif Nat.blt k 56 then (bif Nat.blt k 54 then (bif Nat.beq k 52 then some (.iload 9, 54, []) else none) else (bif Nat.beq k 54 then some (.iload 13, 56, []) else none)) else (bif Nat.blt k 59 then (bif Nat.beq k 56 then some (.invokestatic 288, 59, []) else none) else (bif Nat.blt k 61 then (bif Nat.beq k 59 then some (.istore 9, 61, []) else none) else (bif Nat.beq k 61 then some (.lload_n 3, 62, []) else none))))))) else (bif Nat.blt k 93 then (bif Nat.blt k 75 then (bif Nat.blt k 69 then (bif Nat.blt k 66 then (bif Nat.blt k 63 then (bif Nat.beq k 62 then some (.aload_n 0, 63, []) else none) else (bif Nat.beq k 63 then some (.getfield 92, 66, []) else none)) else (bif Nat.blt k 68 then (bif Nat.beq k 66 then some (.iload 11, 68, []) else none) else (bif Nat.beq k 68 then some (.iaload, 69, []) else none))) else (bif Nat.blt k 71 then (bif Nat.blt k 70 then (bif Nat.beq k 69 then some (.i2l, 70, []) else none) else (bif Nat.beq k 70 then some (.ladd, 71, []) else none)) else (bif Nat.blt k 72 then (bif Nat.beq k 71 then some (.lstore_n 3, 72, []) else none) else (bif Nat.blt k 74 then (bif Nat.beq k 72 then some (.lload 5, 74, []) else none) else (bif Nat.beq k 74 then some (.aload_n 0, 75, []) else none))))) else (bif Nat.blt k 83 then (bif Nat.blt k 80 then (bif Nat.blt k 78 then (bif Nat.beq k 75 then some (.getfield 95, 78, []) else none) else (bif Nat.beq k 78 then some (.iload 11, 80, []) else none)) else (bif Nat.blt k 81 then (bif Nat.beq k 80 then some (.iaload, 81, []) else none) else (bif Nat.blt k 82 then (bif Nat.beq k 81 then some (.i2l, 82, []) else none) else (bif Nat.beq k 82 then some (.ladd, 83, []) else none)))) else (bif Nat.blt k 87 then (bif Nat.blt k 85 then (bif Nat.beq k 83 then some (.lstore 5, 85, []) else none) else (bif Nat.beq k 85 then some (.lload 7, 87, []) else none)) else (bif Nat.blt k 88 then (bif Nat.beq k 87 then some (.aload_n 0, 88, []) else none) else (bif Nat.blt k 91 then (bif Nat.beq k 88 then some (.getfield 92, 91, []) else none) else (bif Nat.beq k 91 then some (.iload 11, 93, []) else none)))))) else (bif Nat.blt k 109 then (bif Nat.blt k 101 then (bif Nat.blt k 95 then (bif Nat.blt k 94 then (bif Nat.beq k 93 then some (.iaload, 94, []) else none) else (bif Nat.beq k 94 then some (.aload_n 0, 95, []) else none)) else (bif Nat.blt k 98 then (bif Nat.beq k 95 then some (.getfield 95, 98, []) else none) else (bif Nat.blt k 100 then (bif Nat.beq k 98 then some (.iload 13, 100, []) else none) else (bif Nat.beq k 100 then some (.iaload, 101, []) else none)))) else (bif Nat.blt k 103 then (bif Nat.blt k 102 then (bif Nat.beq k 101 then some (.imul, 102, []) else none) else (bif Nat.beq k 102 then some (.i2l, 103, []) else none)) else (bif Nat.blt k 104 then (bif Nat.beq k 103 then some (.ladd, 104, []) else none) else (bif Nat.blt k 106 then (bif Nat.beq k 104 then some (.lstore 7, 106, []) else none) else (bif Nat.beq k 106 then some (.iinc 11 1, 109, []) else none))))) else (bif Nat.blt k 117 then (bif Nat.blt k 113 then (bif Nat.blt k 112 then (bif Nat.beq k 109 then some (.goto (-88), 112, [21]) else none) else (bif Nat.beq k 112 then some (.iload_n 1, 113, []) else none)) else (bif Nat.blt k 114 then (bif Nat.beq k 113 then some (.i2l, 114, []) else none) else (bif Nat.blt k 116 then (bif Nat.beq k 114 then some (.lload 7, 116, []) else none) else (bif Nat.beq k 116 then some (.lmul, 117, []) else none)))) else (bif Nat.blt k 120 then (bif Nat.blt k 118 then (bif Nat.beq k 117 then some (.lload_n 3, 118, []) else none) else (bif Nat.beq k 118 then some (.lload 5, 120, []) else none)) else (bif Nat.blt k 121 then (bif Nat.beq k 120 then some (.lmul, 121, []) else none) else (bif Nat.blt k 122 then (bif Nat.beq k 121 then some (.lsub, 122, []) else none) else (bif Nat.beq k 122 then some (.lreturn, 123, []) else none)))))))) else none
noncomputable def P_C_slopeUpper : MP := (T_C_slopeUpper, (fun k => mLook k [(92, (12, 18, (.array .int), true)), (95, (12, 19, (.array .int), true))]), (fun k => mLook k []), (fun k => mLook k [(288, E_C_without), (462, E_C_bitNumber)]), (fun k => mLook k []), (fun k => mLook k []), (fun k => mLook k []), (fun k => mLook k [(21, [true, true, false, true, false, true, false, true, false, true, true, true, false, false])]), (fun k => [122].any (Nat.beq k)), (2, 44, 0, 0), false, (fun _ => none))
set_option maxRecDepth 100000 in
set_option maxHeartbeats 4000000 in
theorem q_C_slopeUpper_e (a1 : Int32) (a2 : Int32) (σ : MSto) (n : Nat) : mexe KT P_C_slopeUpper (n + 1) (0, [some (mR 12 0), some (mI a1), some (mI a2), none, none, none, none, none, none, none, none, none, none, none], [], σ, 0, 0) = mexe KT P_C_slopeUpper n (21, [some (mR 12 0), some (mI a1), none, some (mJ 0), none, some (mJ 0), none, some (mJ 0), none, some (mI (((1 : Int32) <<< (a1 &&& 31)) - 1)), some (mI a2), some (mI 0), none, none], [], σ, 0, 0) := rfl
set_option maxRecDepth 100000 in
set_option maxHeartbeats 4000000 in
theorem q_C_slopeUpper_21 (x1 : Int32) (x3 : Int64) (x5 : Int64) (x7 : Int64) (x9 : Int32) (x10 : Int32) (x11 : Int32) (σ : MSto) (n : Nat) : mexe KT P_C_slopeUpper (n + 1) (21, [some (mR 12 0), some (mI x1), none, some (mJ x3), none, some (mJ x5), none, some (mJ x7), none, some (mI x9), some (mI x10), some (mI x11), none, none], [], σ, 0, 0) = mIf (x1 ≤ x11) (some (122, [], [(mJ (((Int32.toInt64 x1) * x7) - (x3 * x5)))], σ, 0, 0)) (mG (¬ ((x1 - x11) : Int32) = 0) (mG (p_C_bitNumber x9 (x10 - x10 / (x1 - x11) * (x1 - x11)) σ) (mG (¬ ((x1 - x11) : Int32) = 0) (mG (vp_in x11 6) (mG (vp_in x11 6) (mG (vp_in x11 6) (mG (vp_in (v_C_bitNumber x9 (x10 - x10 / (x1 - x11) * (x1 - x11)) σ) 6) (mexe KT P_C_slopeUpper n (21, [some (mR 12 0), some (mI x1), none, some (mJ (x3 + (Int32.toInt64 (gI σ 31 0 (Int32.toNatClampNeg x11))))), none, some (mJ (x5 + (Int32.toInt64 (gI σ 32 0 (Int32.toNatClampNeg x11))))), none, some (mJ (x7 + (Int32.toInt64 ((gI σ 31 0 (Int32.toNatClampNeg x11)) * (gI σ 32 0 (Int32.toNatClampNeg (v_C_bitNumber x9 (x10 - x10 / (x1 - x11) * (x1 - x11)) σ))))))), none, some (mI (v_C_without x9 (v_C_bitNumber x9 (x10 - x10 / (x1 - x11) * (x1 - x11)) σ) σ)), some (mI (x10 / (x1 - x11))), some (mI (x11 + 1)), none, none], [], σ, 0, 0))))))))) := rfl
set_option maxRecDepth 100000 in
theorem lt_C_slopeUpper_21 {Post : MST → Prop} (x1 : Int32) (c : Int32) (σ : MSto) (s : Int64 × Int64 × Int64 × Int32 × Int32) (hp : g_C_slopeUpper_21 x1 c σ s) (hq : ¬ q_C_slopeUpper_21s x1 c σ s = 1) (hn : ∀ (r1 : Int64) (r2 : Int64) (r3 : Int64) (r4 : Int32) (r5 : Int32), t_C_slopeUpper_21 x1 c σ s = (r1, r2, r3, r4, r5) → mW1 P_C_slopeUpper (21, [some (mR 12 0), some (mI x1), none, some (mJ r1), none, some (mJ r2), none, some (mJ r3), none, some (mI r4), some (mI r5), some (mI (c + 1)), none, none], [], σ, 0, 0) Post) : mW1 P_C_slopeUpper (21, [some (mR 12 0), some (mI x1), none, some (mJ (s.1)), none, some (mJ (s.2.1)), none, some (mJ (s.2.2.1)), none, some (mI (s.2.2.2.1)), some (mI (s.2.2.2.2)), some (mI c), none, none], [], σ, 0, 0) Post := by
  unfold g_C_slopeUpper_21 at hp
  refine mW1_eq (q_C_slopeUpper_21 _ _ _ _ _ _ _ _) ?_
  refine mTr_if (fun h0 => ?_) (fun h0 => ?_)
  · skip
    exact absurd (if_pos h0) hq
  · skip
    have hp := hp h0
    refine mTr_g hp.1 ?_
    have hp := hp.2
    refine mTr_g hp.1 ?_
    have hp := hp.2
    refine mTr_g hp.1 ?_
    have hp := hp.2
    refine mTr_g hp.1 ?_
    have hp := hp.2
    refine mTr_g hp.1 ?_
    have hp := hp.2
    refine mTr_g hp.1 ?_
    have hp := hp.2
    refine mTr_g hp ?_
    exact mTr_k (hn ((s.1) + (Int32.toInt64 (gI σ 31 0 (Int32.toNatClampNeg c)))) ((s.2.1) + (Int32.toInt64 (gI σ 32 0 (Int32.toNatClampNeg c)))) ((s.2.2.1) + (Int32.toInt64 ((gI σ 31 0 (Int32.toNatClampNeg c)) * (gI σ 32 0 (Int32.toNatClampNeg (v_C_bitNumber (s.2.2.2.1) ((s.2.2.2.2) - (s.2.2.2.2) / (x1 - c) * (x1 - c)) σ)))))) (v_C_without (s.2.2.2.1) (v_C_bitNumber (s.2.2.2.1) ((s.2.2.2.2) - (s.2.2.2.2) / (x1 - c) * (x1 - c)) σ) σ) ((s.2.2.2.2) / (x1 - c)) (if_neg h0))
theorem lp_C_slopeUpper_21 {Post : MST → Prop} (x1 : Int32) (c0 : Int32) (σ : MSto) (s0 : Int64 × Int64 × Int64 × Int32 × Int32) (N : Nat) (hb : ∀ i, i < N → g_C_slopeUpper_21 x1 (c0 + nI i) σ (f_C_slopeUpper_21 x1 c0 σ s0 i) ∧ ¬ q_C_slopeUpper_21s x1 (c0 + nI i) σ (f_C_slopeUpper_21 x1 c0 σ s0 i) = 1) (h : mW1 P_C_slopeUpper (21, [some (mR 12 0), some (mI x1), none, some (mJ ((f_C_slopeUpper_21 x1 c0 σ s0 N).1)), none, some (mJ ((f_C_slopeUpper_21 x1 c0 σ s0 N).2.1)), none, some (mJ ((f_C_slopeUpper_21 x1 c0 σ s0 N).2.2.1)), none, some (mI ((f_C_slopeUpper_21 x1 c0 σ s0 N).2.2.2.1)), some (mI ((f_C_slopeUpper_21 x1 c0 σ s0 N).2.2.2.2)), some (mI (c0 + nI N)), none, none], [], σ, 0, 0) Post) : mW1 P_C_slopeUpper (21, [some (mR 12 0), some (mI x1), none, some (mJ (s0.1)), none, some (mJ (s0.2.1)), none, some (mJ (s0.2.2.1)), none, some (mI (s0.2.2.2.1)), some (mI (s0.2.2.2.2)), some (mI c0), none, none], [], σ, 0, 0) Post := by
  refine mW1_st (mW1_loop (fun i => (21, [some (mR 12 0), some (mI x1), none, some (mJ ((f_C_slopeUpper_21 x1 c0 σ s0 i).1)), none, some (mJ ((f_C_slopeUpper_21 x1 c0 σ s0 i).2.1)), none, some (mJ ((f_C_slopeUpper_21 x1 c0 σ s0 i).2.2.1)), none, some (mI ((f_C_slopeUpper_21 x1 c0 σ s0 i).2.2.2.1)), some (mI ((f_C_slopeUpper_21 x1 c0 σ s0 i).2.2.2.2)), some (mI (c0 + nI i)), none, none], [], σ, 0, 0)) N (fun i hlt hn => ?_) h) (by rw [show nI 0 = 0 from rfl, Int32.add_zero] <;> rfl)
  refine lt_C_slopeUpper_21 x1 _ σ _ (hb i hlt).1 (hb i hlt).2 (fun r1 r2 r3 r4 r5 hr => ?_)
  rw [Int32.add_assoc, nI_s]
  have e : f_C_slopeUpper_21 x1 c0 σ s0 (i + 1) = (r1, r2, r3, r4, r5) := hr
  try dsimp only at hn
  rw [e] at hn
  exact hn
set_option maxRecDepth 100000 in
set_option maxHeartbeats 4000000 in
theorem d_C_slopeUpper (a1 : Int32) (a2 : Int32) (σ : MSto) (hp : p_C_slopeUpper a1 a2 σ) : mW1 P_C_slopeUpper (0, [some (mR 12 0), some (mI a1), some (mI a2), none, none, none, none, none, none, none, none, none, none, none], [], σ, 0, 0) (mF [122] [mJ (v_C_slopeUpper a1 a2 σ)] σ 0 0) := by
  refine mW1_eq (q_C_slopeUpper_e _ _ _) ?_
  unfold p_C_slopeUpper at hp
  refine mTr_k (lp_C_slopeUpper_21 a1 0 σ (0, 0, 0, (((1 : Int32) <<< (a1 &&& 31)) - 1), a2) (n_C_slopeUpper_21 a1 0 σ (0, 0, 0, (((1 : Int32) <<< (a1 &&& 31)) - 1), a2)) hp.1 ?_)
  have hp := hp.2
  refine mW1_eq (q_C_slopeUpper_21 _ _ _ _ _ _ _ _) ?_
  refine mTr_if (fun h0 => ?_) (fun h0 => ?_)
  · skip
    exact mTr_e (by decide) (congrArg (fun z => [mJ z]) (Eq.symm (rfl))) rfl (by decide) (by decide)
  · skip
    have hp := hp h0
    exact hp.elim
theorem li_C_462 : mLink "ClothWithMan" 462 E_C_bitNumber := ⟨tw_3_193, tw_1_1, ⟨by decide, by decide⟩, by decide +kernel, Or.inl tw_3_191, (fun _ => tw_3_192), (fun h => by cases h), (fun h => by cases h)⟩


theorem tk_C_slopeUpper : ∀ pc i nx tg, T_C_slopeUpper pc = some (i, nx, tg) → mOkB prog_1_method_87_code pc i nx tg = true := code_ok (N := 123) (fun k h => by unfold T_C_slopeUpper; rw [h]; rfl) (by decide +kernel)
theorem ok_C_slopeUpper (l : Launch) : mPOK l "ClothWithMan" prog_1_method_87_code P_C_slopeUpper := by
  refine ⟨tk_C_slopeUpper, ?_, ?_, ?_, (fun pc i nx tg kd _ h => by cases h), ?_, ?_, fun pc en h => by cases h⟩
  · intro x ci f ty fin h
    exact mLook_all (Q := fun x v => mFOK "ClothWithMan" x v.1 v.2.1 v.2.2.1 v.2.2.2 ∧ (v.2.2.2 = true → pIni P_C_slopeUpper = true → (Cond.fieldLink "ClothWithMan" x (((mCl[v.1]?).getD ("", fun _ => ("", "", "", false), 0)).2.1 v.2.1).1 (((mCl[v.1]?).getD ("", fun _ => ("", "", "", false), 0)).2.1 v.2.1).2.1 (((mCl[v.1]?).getD ("", fun _ => ("", "", "", false), 0)).2.1 v.2.1).2.2.1 ∈ lw_tbl ∧ (((mCl[v.1]?).getD ("", fun _ => ("", "", "", false), 0)).2.1 v.2.1).1 = "ClothWithMan"))) (fcC ⟨fo_C_92, fun h1 h2 => by cases h2⟩ (fcC ⟨fo_C_95, fun h1 h2 => by cases h2⟩ fcN)) x (ci, f, ty, fin) h
  · intro x
    have hh := mLook_all (l := ([] : List (Nat × (Int32 ⊕ Int64)))) (Q := fun x (v : Int32 ⊕ Int64) => (∀ w, v = .inl w → Cond.constant "ClothWithMan" x w ∈ lw_tbl) ∧ (∀ w, v = .inr w → Cond.constantLong "ClothWithMan" x w ∈ lw_tbl)) fcN x
    exact ⟨fun w h => (hh _ h).1 w rfl, fun w h => (hh _ h).2 w rfl⟩
  · exact fun x en h => mLook_all (Q := fun x en => mLink "ClothWithMan" x en ∧ mCtr l en ∧ (en.1.1 = 2 → en.2.2.2.2.2.2 = none)) (fcC ⟨li_C_288, c_C_without l, (fun h => by cases h)⟩ (fcC ⟨li_C_462, c_C_bitNumber l, (fun h => by cases h)⟩ fcN)) x en h
  · exact fun x kd h => mLook_all (Q := fun x kd => (kd = 95 ∧ Cond.fieldLink "ClothWithMan" x "ClothWithMan" "LIKENESSES" "[I" ∈ lw_tbl) ∨ (kd = 96 ∧ Cond.fieldLink "ClothWithMan" x "ClothWithMan" "APART_BOUNDS" "[I" ∈ lw_tbl)) fcN x kd h
  · exact fun x ci h => mLook_all (Q := fun x ci => ci ≠ 0 ∧ ∃ (C : String) (T : u_T) (N : Nat), mCl[ci]? = some (C, T, N) ∧ Cond.classLink "ClothWithMan" x C ∈ lw_tbl ∧ Cond.instantiable C N ∈ lw_tbl) fcN x ci h
set_option maxRecDepth 100000 in
theorem c_C_slopeUpper (l : Launch) : mCtr l E_C_slopeUpper := mCtr_of (P := P_C_slopeUpper) (own := "ClothWithMan") mLay_ok rfl (by decide +kernel) rfl (ok_C_slopeUpper l) (fun h => by cases h) (fun as σ pr rv σ' hF hpr hlv => by
  unfold E_C_slopeUpper S_C_slopeUpper at hF
  simp only [] at hF
  split at hF
  · cases hF
    obtain ⟨n, pcF, c1, s1, g1, g2, g3, g4⟩ := mF_inv (d_C_slopeUpper _ _ σ (hpr _ rfl))
    exact ⟨Nat.le_of_ble_eq_true rfl, (fun v h => by cases h; trivial), n, pcF, c1, s1, g1, mEnd_of (i := .lreturn) (P := P_C_slopeUpper) (rets := [122]) rfl g2, g3, g4⟩
  · cases hF
    exact (hpr _ rfl).elim)
/-! ClothWithMan.bareOf(LClothWithMan$Story;IIII)I -/
noncomputable def v_C_bareOf (a1 : Nat) (a2 : Int32) (a3 : Int32) (a4 : Int32) (a5 : Int32) (σ : MSto) : Int32 := (if (v_St_mends a1 a2 a3 σ) = 0 then (if (v_St_hasTerm a1 2 σ) = 0 then ((v_Cl_withStuffs (v_Cu_at (v_St_wovenIn a1 a5 σ) σ) a2 a3 a4 σ) + ((gI σ 9 a1 6) * a2)) else ((v_C_mixOf (v_Cl_withStuffs (v_Cu_at (v_St_wovenIn a1 a5 σ) σ) a2 a3 a4 σ) (v_Cu_at (gI σ 9 a1 3) σ) (gI σ 9 a1 4) σ) + ((gI σ 9 a1 6) * a2))) else (if (v_St_hasTerm a1 2 σ) = 0 then ((v_Cl_withStuffs (v_Cu_at (gI σ 9 a1 5) σ) a2 a3 a4 σ) + ((gI σ 9 a1 6) * a2)) else ((v_C_mixOf (v_Cl_withStuffs (v_Cu_at (gI σ 9 a1 5) σ) a2 a3 a4 σ) (v_Cu_at (gI σ 9 a1 3) σ) (gI σ 9 a1 4) σ) + ((gI σ 9 a1 6) * a2))))
def p_C_bareOf (a1 : Nat) (a2 : Int32) (a3 : Int32) (a4 : Int32) (a5 : Int32) (σ : MSto) : Prop := ((((v_St_mends a1 a2 a3 σ) = 0) → ((p_Cu_at (v_St_wovenIn a1 a5 σ) σ) ∧ ((p_Cl_withStuffs (v_Cu_at (v_St_wovenIn a1 a5 σ) σ) a2 a3 a4 σ) ∧ (¬ ((v_St_hasTerm a1 2 σ) = 0) → (p_Cu_at (gI σ 9 a1 3) σ))))) ∧ (¬ ((v_St_mends a1 a2 a3 σ) = 0) → ((p_Cu_at (gI σ 9 a1 5) σ) ∧ ((p_Cl_withStuffs (v_Cu_at (gI σ 9 a1 5) σ) a2 a3 a4 σ) ∧ (¬ ((v_St_hasTerm a1 2 σ) = 0) → (p_Cu_at (gI σ 9 a1 3) σ))))))
noncomputable def S_C_bareOf : List MV → MSto → Option Prop × Option MV × MSto := fun as σ => match as with
  | [.inr (.inr (some (12, 0))), .inr (.inr (some (9, a0))), .inl a1, .inl a2, .inl a3, .inl a4] => (some (p_C_bareOf a0 a1 a2 a3 a4 σ), some (mI (v_C_bareOf a0 a1 a2 a3 a4 σ)), σ)
  | _ => (some False, none, σ)
noncomputable def E_C_bareOf : MEnt := ((1, 5, 12), (7, 149, 0, 0), S_C_bareOf, ((⟨"ClothWithMan", "bareOf", "(LClothWithMan$Story;IIII)I"⟩ : MethodName), prog_1_method_89_code, 8, (some .int)))

def T_C_bareOf : Nat → Option (Instr × Nat × List Nat) := fun k => bif Nat.blt k 92 then (bif Nat.blt k 47 then (bif Nat.blt k 22 then (bif Nat.blt k 9 then (bif Nat.blt k 2 then (bif Nat.blt k 1 then (bif Nat.beq k 0 then some (.aload_n 1, 1, []) else none) else (bif Nat.beq k 1 then some (.iload_n 2, 2, []) else none)) else (bif Nat.blt k 3 then (bif Nat.beq k 2 then some (.iload_n 3, 3, []) else none) else (bif Nat.blt k 6 then (bif Nat.beq k 3 then some (.invokevirtual 465, 6, []) else none) else (bif Nat.beq k 6 then some (.ifCond .eq 10, 9, [16]) else none)))) else (bif Nat.blt k 16 then (bif Nat.blt k 10 then (bif Nat.beq k 9 then some (.aload_n 1, 10, []) else none) else (bif Nat.blt k 13 then (bif Nat.beq k 10 then some (.getfield 467, 13, []) else none) else (bif Nat.beq k 13 then some (.goto 9, 16, [22]) else none))) else (bif Nat.blt k 17 then (bif Nat.beq k 16 then some (.aload_n 1, 17, []) else none) else (bif Nat.blt k 19 then (bif Nat.beq k 17 then some (.iload 5, 19, []) else none) else (bif Nat.beq k 19 then some (.invokevirtual 470, 22, []) else none))))) else (bif Nat.blt k 35 then (bif Nat.blt k 28 then (bif Nat.blt k 24 then (bif Nat.beq k 22 then some (.istore 6, 24, []) else none) else (bif Nat.blt k 25 then (bif Nat.beq k 24 then some (.aload_n 0, 25, []) else none) else (bif Nat.beq k 25 then some (.getfield 19, 28, []) else none))) else (bif Nat.blt k 29 then (bif Nat.beq k 28 then some (.aload_n 0, 29, []) else none) else (bif Nat.blt k 32 then (bif Nat.beq k 29 then some (.getfield 19, 32, []) else none) else (bif Nat.beq k 32 then some (.getfield 106, 35, []) else none)))) else (bif Nat.blt k 41 then (bif Nat.blt k 37 then (bif Nat.beq k 35 then some (.iload 6, 37, []) else none) else (bif Nat.blt k 40 then (bif Nat.beq k 37 then some (.invokevirtual 119, 40, []) else none) else (bif Nat.beq k 40 then some (.iload_n 2, 41, []) else none))) else (bif Nat.blt k 42 then (bif Nat.beq k 41 then some (.iload_n 3, 42, []) else none) else (bif Nat.blt k 44 then (bif Nat.beq k 42 then some (.iload 4, 44, []) else none) else (bif Nat.beq k 44 then some (.invokevirtual 473, 47, []) else none)))))) else (bif Nat.blt k 70 then (bif Nat.blt k 57 then (bif Nat.blt k 50 then (bif Nat.blt k 49 then (bif Nat.beq k 47 then some (.istore 7, 49, []) else none) else (bif Nat.beq k 49 then some (.aload_n 1, 50, []) else none)) else (bif Nat.blt k 51 then (bif Nat.beq k 50 then some (.iconst 2, 51, []) else none) else (bif Nat.blt k 54 then (bif Nat.beq k 51 then some (.invokevirtual 476, 54, []) else none) else (bif Nat.beq k 54 then some (.ifCond .eq 28, 57, [82]) else none)))) else (bif Nat.blt k 63 then (bif Nat.blt k 59 then (bif Nat.beq k 57 then some (.iload 7, 59, []) else none) else (bif Nat.blt k 60 then (bif Nat.beq k 59 then some (.aload_n 0, 60, []) else none) else (bif Nat.beq k 60 then some (.getfield 19, 63, []) else none))) else (bif Nat.blt k 66 then (bif Nat.beq k 63 then some (.getfield 106, 66, []) else none) else (bif Nat.blt k 67 then (bif Nat.beq k 66 then some (.aload_n 1, 67, []) else none) else (bif Nat.beq k 67 then some (.getfield 479, 70, []) else none))))) else (bif Nat.blt k 84 then (bif Nat.blt k 77 then (bif Nat.blt k 73 then (bif Nat.beq k 70 then some (.invokevirtual 119, 73, []) else none) else (bif Nat.blt k 74 then (bif Nat.beq k 73 then some (.aload_n 1, 74, []) else none) else (bif Nat.beq k 74 then some (.getfield 482, 77, []) else none))) else (bif Nat.blt k 80 then (bif Nat.beq k 77 then some (.invokestatic 291, 80, []) else none) else (bif Nat.blt k 82 then (bif Nat.beq k 80 then some (.istore 7, 82, []) else none) else (bif Nat.beq k 82 then some (.iload 7, 84, []) else none)))) else (bif Nat.blt k 89 then (bif Nat.blt k 85 then (bif Nat.beq k 84 then some (.aload_n 1, 85, []) else none) else (bif Nat.blt k 88 then (bif Nat.beq k 85 then some (.getfield 485, 88, []) else none) else (bif Nat.beq k 88 then some (.iload_n 2, 89, []) else none))) else (bif Nat.blt k 90 then (bif Nat.beq k 89 then some (.imul, 90, []) else none) else (bif Nat.blt k 91 then (bif Nat.beq k 90 then some (.iadd, 91, []) else none) else (bif Nat.beq k 91 then some (.ireturn, 92, []) else none))))))) else none
noncomputable def P_C_bareOf : MP := (T_C_bareOf, (fun k => mLook k [(19, (12, 1, (.object "ClothWithMan$Cloth"), true)), (106, (1, 0, (.object "ClothWithMan$Curve"), true)), (467, (9, 5, .int, false)), (479, (9, 3, .int, false)), (482, (9, 4, .int, false)), (485, (9, 6, .int, false))]), (fun k => mLook k []), (fun k => mLook k [(119, E_Cu_at), (291, E_C_mixOf), (465, E_St_mends), (470, E_St_wovenIn), (473, E_Cl_withStuffs), (476, E_St_hasTerm)]), (fun k => mLook k []), (fun k => mLook k []), (fun k => mLook k []), (fun k => mLook k []), (fun k => [91].any (Nat.beq k)), (7, 149, 0, 0), false, (fun _ => none))
set_option maxRecDepth 100000 in
set_option maxHeartbeats 4000000 in
theorem q_C_bareOf_e (a1 : Nat) (a2 : Int32) (a3 : Int32) (a4 : Int32) (a5 : Int32) (σ : MSto) (n : Nat) : mexe KT P_C_bareOf (n + 1) (0, [some (mR 12 0), some (mR 9 a1), some (mI a2), some (mI a3), some (mI a4), some (mI a5), none, none], [], σ, 0, 0) = mIf ((v_St_mends a1 a2 a3 σ) = 0) (mG (p_Cu_at (v_St_wovenIn a1 a5 σ) σ) (mG (p_Cl_withStuffs (v_Cu_at (v_St_wovenIn a1 a5 σ) σ) a2 a3 a4 σ) (mIf ((v_St_hasTerm a1 2 σ) = 0) (some (91, [], [(mI ((v_Cl_withStuffs (v_Cu_at (v_St_wovenIn a1 a5 σ) σ) a2 a3 a4 σ) + ((gI σ 9 a1 6) * a2)))], σ, 0, 0)) (mG (p_Cu_at (gI σ 9 a1 3) σ) (some (91, [], [(mI ((v_C_mixOf (v_Cl_withStuffs (v_Cu_at (v_St_wovenIn a1 a5 σ) σ) a2 a3 a4 σ) (v_Cu_at (gI σ 9 a1 3) σ) (gI σ 9 a1 4) σ) + ((gI σ 9 a1 6) * a2)))], σ, 0, 0)))))) (mG (p_Cu_at (gI σ 9 a1 5) σ) (mG (p_Cl_withStuffs (v_Cu_at (gI σ 9 a1 5) σ) a2 a3 a4 σ) (mIf ((v_St_hasTerm a1 2 σ) = 0) (some (91, [], [(mI ((v_Cl_withStuffs (v_Cu_at (gI σ 9 a1 5) σ) a2 a3 a4 σ) + ((gI σ 9 a1 6) * a2)))], σ, 0, 0)) (mG (p_Cu_at (gI σ 9 a1 3) σ) (some (91, [], [(mI ((v_C_mixOf (v_Cl_withStuffs (v_Cu_at (gI σ 9 a1 5) σ) a2 a3 a4 σ) (v_Cu_at (gI σ 9 a1 3) σ) (gI σ 9 a1 4) σ) + ((gI σ 9 a1 6) * a2)))], σ, 0, 0)))))) := rfl
set_option maxRecDepth 100000 in
set_option maxHeartbeats 4000000 in
theorem d_C_bareOf (a1 : Nat) (a2 : Int32) (a3 : Int32) (a4 : Int32) (a5 : Int32) (σ : MSto) (hp : p_C_bareOf a1 a2 a3 a4 a5 σ) : mW1 P_C_bareOf (0, [some (mR 12 0), some (mR 9 a1), some (mI a2), some (mI a3), some (mI a4), some (mI a5), none, none], [], σ, 0, 0) (mF [91] [mI (v_C_bareOf a1 a2 a3 a4 a5 σ)] σ 0 0) := by
  refine mW1_eq (q_C_bareOf_e _ _ _ _ _ _) ?_
  unfold p_C_bareOf at hp
  refine mTr_if (fun h0 => ?_) (fun h0 => ?_)
  · skip
    have hp := hp.1 h0
    refine mTr_g hp.1 ?_
    have hp := hp.2
    refine mTr_g hp.1 ?_
    have hp := hp.2
    refine mTr_if (fun h1 => ?_) (fun h1 => ?_)
    · skip
      exact mTr_e (by decide) (congrArg (fun z => [mI z]) (Eq.symm ((if_pos h0).trans (if_pos h1)))) rfl (by decide) (by decide)
    · skip
      have hp := hp h1
      refine mTr_g hp ?_
      exact mTr_e (by decide) (congrArg (fun z => [mI z]) (Eq.symm ((if_pos h0).trans (if_neg h1)))) rfl (by decide) (by decide)
  · skip
    have hp := hp.2 h0
    refine mTr_g hp.1 ?_
    have hp := hp.2
    refine mTr_g hp.1 ?_
    have hp := hp.2
    refine mTr_if (fun h1 => ?_) (fun h1 => ?_)
    · skip
      exact mTr_e (by decide) (congrArg (fun z => [mI z]) (Eq.symm ((if_neg h0).trans (if_pos h1)))) rfl (by decide) (by decide)
    · skip
      have hp := hp h1
      refine mTr_g hp ?_
      exact mTr_e (by decide) (congrArg (fun z => [mI z]) (Eq.symm ((if_neg h0).trans (if_neg h1)))) rfl (by decide) (by decide)
theorem li_C_476 : mLink "ClothWithMan" 476 E_St_hasTerm := ⟨tw_4_31, tw_1_23, ⟨by decide, by decide⟩, by decide +kernel, Or.inl tw_4_121, (fun h => by cases h), (fun _ => ⟨tw_4_29, tw_4_30, TX8, 9, rfl⟩), (fun h => by cases h)⟩

theorem li_C_473 : mLink "ClothWithMan" 473 E_Cl_withStuffs := ⟨tw_2_237, tw_1_3, ⟨by decide, by decide⟩, by decide +kernel, Or.inl tw_4_120, (fun h => by cases h), (fun _ => ⟨tw_2_235, tw_2_236, TX0, 5, rfl⟩), (fun h => by cases h)⟩

theorem li_C_470 : mLink "ClothWithMan" 470 E_St_wovenIn := ⟨tw_4_119, tw_1_23, ⟨by decide, by decide⟩, by decide +kernel, Or.inl tw_4_116, (fun h => by cases h), (fun _ => ⟨tw_4_117, tw_4_118, TX8, 9, rfl⟩), (fun h => by cases h)⟩

theorem li_C_465 : mLink "ClothWithMan" 465 E_St_mends := ⟨tw_4_115, tw_1_23, ⟨by decide, by decide⟩, by decide +kernel, Or.inl tw_4_112, (fun h => by cases h), (fun _ => ⟨tw_4_113, tw_4_114, TX8, 9, rfl⟩), (fun h => by cases h)⟩

theorem li_C_291 : mLink "ClothWithMan" 291 E_C_mixOf := ⟨tw_3_1, tw_1_1, ⟨by decide, by decide⟩, by decide +kernel, Or.inl tw_3_206, (fun _ => tw_3_0), (fun h => by cases h), (fun h => by cases h)⟩


theorem tk_C_bareOf : ∀ pc i nx tg, T_C_bareOf pc = some (i, nx, tg) → mOkB prog_1_method_89_code pc i nx tg = true := code_ok (N := 92) (fun k h => by unfold T_C_bareOf; rw [h]; rfl) (by decide +kernel)
theorem ok_C_bareOf (l : Launch) : mPOK l "ClothWithMan" prog_1_method_89_code P_C_bareOf := by
  refine ⟨tk_C_bareOf, ?_, ?_, ?_, (fun pc i nx tg kd _ h => by cases h), ?_, ?_, fun pc en h => by cases h⟩
  · intro x ci f ty fin h
    exact mLook_all (Q := fun x v => mFOK "ClothWithMan" x v.1 v.2.1 v.2.2.1 v.2.2.2 ∧ (v.2.2.2 = true → pIni P_C_bareOf = true → (Cond.fieldLink "ClothWithMan" x (((mCl[v.1]?).getD ("", fun _ => ("", "", "", false), 0)).2.1 v.2.1).1 (((mCl[v.1]?).getD ("", fun _ => ("", "", "", false), 0)).2.1 v.2.1).2.1 (((mCl[v.1]?).getD ("", fun _ => ("", "", "", false), 0)).2.1 v.2.1).2.2.1 ∈ lw_tbl ∧ (((mCl[v.1]?).getD ("", fun _ => ("", "", "", false), 0)).2.1 v.2.1).1 = "ClothWithMan"))) (fcC ⟨fo_C_19, fun h1 h2 => by cases h2⟩ (fcC ⟨fo_C_106, fun h1 h2 => by cases h2⟩ (fcC ⟨fo_C_467, fun h1 h2 => by cases h1⟩ (fcC ⟨fo_C_479, fun h1 h2 => by cases h1⟩ (fcC ⟨fo_C_482, fun h1 h2 => by cases h1⟩ (fcC ⟨fo_C_485, fun h1 h2 => by cases h1⟩ fcN)))))) x (ci, f, ty, fin) h
  · intro x
    have hh := mLook_all (l := ([] : List (Nat × (Int32 ⊕ Int64)))) (Q := fun x (v : Int32 ⊕ Int64) => (∀ w, v = .inl w → Cond.constant "ClothWithMan" x w ∈ lw_tbl) ∧ (∀ w, v = .inr w → Cond.constantLong "ClothWithMan" x w ∈ lw_tbl)) fcN x
    exact ⟨fun w h => (hh _ h).1 w rfl, fun w h => (hh _ h).2 w rfl⟩
  · exact fun x en h => mLook_all (Q := fun x en => mLink "ClothWithMan" x en ∧ mCtr l en ∧ (en.1.1 = 2 → en.2.2.2.2.2.2 = none)) (fcC ⟨li_C_119, c_Cu_at l, (fun h => by cases h)⟩ (fcC ⟨li_C_291, c_C_mixOf l, (fun h => by cases h)⟩ (fcC ⟨li_C_465, c_St_mends l, (fun h => by cases h)⟩ (fcC ⟨li_C_470, c_St_wovenIn l, (fun h => by cases h)⟩ (fcC ⟨li_C_473, c_Cl_withStuffs l, (fun h => by cases h)⟩ (fcC ⟨li_C_476, c_St_hasTerm l, (fun h => by cases h)⟩ fcN)))))) x en h
  · exact fun x kd h => mLook_all (Q := fun x kd => (kd = 95 ∧ Cond.fieldLink "ClothWithMan" x "ClothWithMan" "LIKENESSES" "[I" ∈ lw_tbl) ∨ (kd = 96 ∧ Cond.fieldLink "ClothWithMan" x "ClothWithMan" "APART_BOUNDS" "[I" ∈ lw_tbl)) fcN x kd h
  · exact fun x ci h => mLook_all (Q := fun x ci => ci ≠ 0 ∧ ∃ (C : String) (T : u_T) (N : Nat), mCl[ci]? = some (C, T, N) ∧ Cond.classLink "ClothWithMan" x C ∈ lw_tbl ∧ Cond.instantiable C N ∈ lw_tbl) fcN x ci h
set_option maxRecDepth 100000 in
theorem c_C_bareOf (l : Launch) : mCtr l E_C_bareOf := mCtr_of (P := P_C_bareOf) (own := "ClothWithMan") mLay_ok rfl (by decide +kernel) rfl (ok_C_bareOf l) (fun h => by cases h) (fun as σ pr rv σ' hF hpr hlv => by
  unfold E_C_bareOf S_C_bareOf at hF
  simp only [] at hF
  split at hF
  · cases hF
    obtain ⟨n, pcF, c1, s1, g1, g2, g3, g4⟩ := mF_inv (d_C_bareOf _ _ _ _ _ σ (hpr _ rfl))
    exact ⟨Nat.le_of_ble_eq_true rfl, (fun v h => by cases h; trivial), n, pcF, c1, s1, g1, ⟨mEnd_of (i := .ireturn) (P := P_C_bareOf) (rets := [91]) rfl g2, rfl⟩, g3, g4⟩
  · cases hF
    exact (hpr _ rfl).elim)
/-! ClothWithMan.houseAdds(LClothWithMan$Story;I)I -/
noncomputable def v_C_houseAdds (a1 : Nat) (a2 : Int32) (σ : MSto) : Int32 := ((gI σ 20 0 (Int32.toNatClampNeg a2)) + (v_St_moreOf a1 a2 σ))
def p_C_houseAdds (a1 : Nat) (a2 : Int32) (σ : MSto) : Prop := (vp_in a2 6)
noncomputable def S_C_houseAdds : List MV → MSto → Option Prop × Option MV × MSto := fun as σ => match as with
  | [.inr (.inr (some (12, 0))), .inr (.inr (some (9, a0))), .inl a1] => (some (p_C_houseAdds a0 a1 σ), some (mI (v_C_houseAdds a0 a1 σ)), σ)
  | _ => (some False, none, σ)
noncomputable def E_C_houseAdds : MEnt := ((1, 2, 12), (2, 42, 0, 0), S_C_houseAdds, ((⟨"ClothWithMan", "houseAdds", "(LClothWithMan$Story;I)I"⟩ : MethodName), prog_1_method_90_code, 3, (some .int)))

def T_C_houseAdds : Nat → Option (Instr × Nat × List Nat) := fun k => bif Nat.blt k 13 then (bif Nat.blt k 6 then (bif Nat.blt k 4 then (bif Nat.blt k 1 then (bif Nat.beq k 0 then some (.aload_n 0, 1, []) else none) else (bif Nat.beq k 1 then some (.getfield 23, 4, []) else none)) else (bif Nat.blt k 5 then (bif Nat.beq k 4 then some (.iload_n 2, 5, []) else none) else (bif Nat.beq k 5 then some (.iaload, 6, []) else none))) else (bif Nat.blt k 8 then (bif Nat.blt k 7 then (bif Nat.beq k 6 then some (.aload_n 1, 7, []) else none) else (bif Nat.beq k 7 then some (.iload_n 2, 8, []) else none)) else (bif Nat.blt k 11 then (bif Nat.beq k 8 then some (.invokevirtual 488, 11, []) else none) else (bif Nat.blt k 12 then (bif Nat.beq k 11 then some (.iadd, 12, []) else none) else (bif Nat.beq k 12 then some (.ireturn, 13, []) else none))))) else none
noncomputable def P_C_houseAdds : MP := (T_C_houseAdds, (fun k => mLook k [(23, (12, 2, (.array .int), true))]), (fun k => mLook k []), (fun k => mLook k [(488, E_St_moreOf)]), (fun k => mLook k []), (fun k => mLook k []), (fun k => mLook k []), (fun k => mLook k []), (fun k => [12].any (Nat.beq k)), (2, 42, 0, 0), false, (fun _ => none))
set_option maxRecDepth 100000 in
set_option maxHeartbeats 4000000 in
theorem q_C_houseAdds_e (a1 : Nat) (a2 : Int32) (σ : MSto) (n : Nat) : mexe KT P_C_houseAdds (n + 1) (0, [some (mR 12 0), some (mR 9 a1), some (mI a2)], [], σ, 0, 0) = mG (vp_in a2 6) (some (12, [], [(mI ((gI σ 20 0 (Int32.toNatClampNeg a2)) + (v_St_moreOf a1 a2 σ)))], σ, 0, 0)) := rfl
set_option maxRecDepth 100000 in
set_option maxHeartbeats 4000000 in
theorem d_C_houseAdds (a1 : Nat) (a2 : Int32) (σ : MSto) (hp : p_C_houseAdds a1 a2 σ) : mW1 P_C_houseAdds (0, [some (mR 12 0), some (mR 9 a1), some (mI a2)], [], σ, 0, 0) (mF [12] [mI (v_C_houseAdds a1 a2 σ)] σ 0 0) := by
  refine mW1_eq (q_C_houseAdds_e _ _ _) ?_
  unfold p_C_houseAdds at hp
  refine mTr_g hp ?_
  exact mTr_e (by decide) (congrArg (fun z => [mI z]) (Eq.symm (rfl))) rfl (by decide) (by decide)
theorem li_C_488 : mLink "ClothWithMan" 488 E_St_moreOf := ⟨tw_4_129, tw_1_23, ⟨by decide, by decide⟩, by decide +kernel, Or.inl tw_4_126, (fun h => by cases h), (fun _ => ⟨tw_4_127, tw_4_128, TX8, 9, rfl⟩), (fun h => by cases h)⟩

theorem tk_C_houseAdds : ∀ pc i nx tg, T_C_houseAdds pc = some (i, nx, tg) → mOkB prog_1_method_90_code pc i nx tg = true := code_ok (N := 13) (fun k h => by unfold T_C_houseAdds; rw [h]; rfl) (by decide +kernel)
theorem ok_C_houseAdds (l : Launch) : mPOK l "ClothWithMan" prog_1_method_90_code P_C_houseAdds := by
  refine ⟨tk_C_houseAdds, ?_, ?_, ?_, (fun pc i nx tg kd _ h => by cases h), ?_, ?_, fun pc en h => by cases h⟩
  · intro x ci f ty fin h
    exact mLook_all (Q := fun x v => mFOK "ClothWithMan" x v.1 v.2.1 v.2.2.1 v.2.2.2 ∧ (v.2.2.2 = true → pIni P_C_houseAdds = true → (Cond.fieldLink "ClothWithMan" x (((mCl[v.1]?).getD ("", fun _ => ("", "", "", false), 0)).2.1 v.2.1).1 (((mCl[v.1]?).getD ("", fun _ => ("", "", "", false), 0)).2.1 v.2.1).2.1 (((mCl[v.1]?).getD ("", fun _ => ("", "", "", false), 0)).2.1 v.2.1).2.2.1 ∈ lw_tbl ∧ (((mCl[v.1]?).getD ("", fun _ => ("", "", "", false), 0)).2.1 v.2.1).1 = "ClothWithMan"))) (fcC ⟨fo_C_23, fun h1 h2 => by cases h2⟩ fcN) x (ci, f, ty, fin) h
  · intro x
    have hh := mLook_all (l := ([] : List (Nat × (Int32 ⊕ Int64)))) (Q := fun x (v : Int32 ⊕ Int64) => (∀ w, v = .inl w → Cond.constant "ClothWithMan" x w ∈ lw_tbl) ∧ (∀ w, v = .inr w → Cond.constantLong "ClothWithMan" x w ∈ lw_tbl)) fcN x
    exact ⟨fun w h => (hh _ h).1 w rfl, fun w h => (hh _ h).2 w rfl⟩
  · exact fun x en h => mLook_all (Q := fun x en => mLink "ClothWithMan" x en ∧ mCtr l en ∧ (en.1.1 = 2 → en.2.2.2.2.2.2 = none)) (fcC ⟨li_C_488, c_St_moreOf l, (fun h => by cases h)⟩ fcN) x en h
  · exact fun x kd h => mLook_all (Q := fun x kd => (kd = 95 ∧ Cond.fieldLink "ClothWithMan" x "ClothWithMan" "LIKENESSES" "[I" ∈ lw_tbl) ∨ (kd = 96 ∧ Cond.fieldLink "ClothWithMan" x "ClothWithMan" "APART_BOUNDS" "[I" ∈ lw_tbl)) fcN x kd h
  · exact fun x ci h => mLook_all (Q := fun x ci => ci ≠ 0 ∧ ∃ (C : String) (T : u_T) (N : Nat), mCl[ci]? = some (C, T, N) ∧ Cond.classLink "ClothWithMan" x C ∈ lw_tbl ∧ Cond.instantiable C N ∈ lw_tbl) fcN x ci h
set_option maxRecDepth 100000 in
theorem c_C_houseAdds (l : Launch) : mCtr l E_C_houseAdds := mCtr_of (P := P_C_houseAdds) (own := "ClothWithMan") mLay_ok rfl (by decide +kernel) rfl (ok_C_houseAdds l) (fun h => by cases h) (fun as σ pr rv σ' hF hpr hlv => by
  unfold E_C_houseAdds S_C_houseAdds at hF
  simp only [] at hF
  split at hF
  · cases hF
    obtain ⟨n, pcF, c1, s1, g1, g2, g3, g4⟩ := mF_inv (d_C_houseAdds _ _ σ (hpr _ rfl))
    exact ⟨Nat.le_of_ble_eq_true rfl, (fun v h => by cases h; trivial), n, pcF, c1, s1, g1, ⟨mEnd_of (i := .ireturn) (P := P_C_houseAdds) (rets := [12]) rfl g2, rfl⟩, g3, g4⟩
  · cases hF
    exact (hpr _ rfl).elim)
/-! ClothWithMan.wouldBe(LClothWithMan$Story;LClothWithMan$Piece;I)I -/
noncomputable def v_C_wouldBe (a1 : Nat) (a2 : Nat) (a3 : Int32) (σ : MSto) : Int32 := ((v_C_bareOf a1 (gI σ 7 a2 0) (gI σ 7 a2 1) (gI σ 7 a2 2) a3 σ) + (v_C_houseAdds a1 (gI σ 7 a2 3) σ))
def p_C_wouldBe (a1 : Nat) (a2 : Nat) (a3 : Int32) (σ : MSto) : Prop := ((p_C_bareOf a1 (gI σ 7 a2 0) (gI σ 7 a2 1) (gI σ 7 a2 2) a3 σ) ∧ (p_C_houseAdds a1 (gI σ 7 a2 3) σ))
noncomputable def S_C_wouldBe : List MV → MSto → Option Prop × Option MV × MSto := fun as σ => match as with
  | [.inr (.inr (some (12, 0))), .inr (.inr (some (9, a0))), .inr (.inr (some (7, a1))), .inl a2] => (some (p_C_wouldBe a0 a1 a2 σ), some (mI (v_C_wouldBe a0 a1 a2 σ)), σ)
  | _ => (some False, none, σ)
noncomputable def E_C_wouldBe : MEnt := ((1, 3, 12), (8, 176, 0, 0), S_C_wouldBe, ((⟨"ClothWithMan", "wouldBe", "(LClothWithMan$Story;LClothWithMan$Piece;I)I"⟩ : MethodName), prog_1_method_91_code, 4, (some .int)))

def T_C_wouldBe : Nat → Option (Instr × Nat × List Nat) := fun k => bif Nat.blt k 29 then (bif Nat.blt k 14 then (bif Nat.blt k 6 then (bif Nat.blt k 2 then (bif Nat.blt k 1 then (bif Nat.beq k 0 then some (.aload_n 0, 1, []) else none) else (bif Nat.beq k 1 then some (.aload_n 1, 2, []) else none)) else (bif Nat.blt k 3 then (bif Nat.beq k 2 then some (.aload_n 2, 3, []) else none) else (bif Nat.beq k 3 then some (.getfield 436, 6, []) else none))) else (bif Nat.blt k 10 then (bif Nat.blt k 7 then (bif Nat.beq k 6 then some (.aload_n 2, 7, []) else none) else (bif Nat.beq k 7 then some (.getfield 439, 10, []) else none)) else (bif Nat.blt k 11 then (bif Nat.beq k 10 then some (.aload_n 2, 11, []) else none) else (bif Nat.beq k 11 then some (.getfield 442, 14, []) else none)))) else (bif Nat.blt k 20 then (bif Nat.blt k 18 then (bif Nat.blt k 15 then (bif Nat.beq k 14 then some (.iload_n 3, 15, []) else none) else (bif Nat.beq k 15 then some (.invokevirtual 491, 18, []) else none)) else (bif Nat.blt k 19 then (bif Nat.beq k 18 then some (.aload_n 0, 19, []) else none) else (bif Nat.beq k 19 then some (.aload_n 1, 20, []) else none))) else (bif Nat.blt k 24 then (bif Nat.blt k 21 then (bif Nat.beq k 20 then some (.aload_n 2, 21, []) else none) else (bif Nat.beq k 21 then some (.getfield 195, 24, []) else none)) else (bif Nat.blt k 27 then (bif Nat.beq k 24 then some (.invokevirtual 495, 27, []) else none) else (bif Nat.blt k 28 then (bif Nat.beq k 27 then some (.iadd, 28, []) else none) else (bif Nat.beq k 28 then some (.ireturn, 29, []) else none)))))) else none
noncomputable def P_C_wouldBe : MP := (T_C_wouldBe, (fun k => mLook k [(195, (7, 3, .int, true)), (436, (7, 0, .int, true)), (439, (7, 1, .int, true)), (442, (7, 2, .int, true))]), (fun k => mLook k []), (fun k => mLook k [(491, E_C_bareOf), (495, E_C_houseAdds)]), (fun k => mLook k []), (fun k => mLook k []), (fun k => mLook k []), (fun k => mLook k []), (fun k => [28].any (Nat.beq k)), (8, 176, 0, 0), false, (fun _ => none))
set_option maxRecDepth 100000 in
set_option maxHeartbeats 4000000 in
theorem q_C_wouldBe_e (a1 : Nat) (a2 : Nat) (a3 : Int32) (σ : MSto) (n : Nat) : mexe KT P_C_wouldBe (n + 1) (0, [some (mR 12 0), some (mR 9 a1), some (mR 7 a2), some (mI a3)], [], σ, 0, 0) = mG (p_C_bareOf a1 (gI σ 7 a2 0) (gI σ 7 a2 1) (gI σ 7 a2 2) a3 σ) (mG (p_C_houseAdds a1 (gI σ 7 a2 3) σ) (some (28, [], [(mI ((v_C_bareOf a1 (gI σ 7 a2 0) (gI σ 7 a2 1) (gI σ 7 a2 2) a3 σ) + (v_C_houseAdds a1 (gI σ 7 a2 3) σ)))], σ, 0, 0))) := rfl
set_option maxRecDepth 100000 in
set_option maxHeartbeats 4000000 in
theorem d_C_wouldBe (a1 : Nat) (a2 : Nat) (a3 : Int32) (σ : MSto) (hp : p_C_wouldBe a1 a2 a3 σ) : mW1 P_C_wouldBe (0, [some (mR 12 0), some (mR 9 a1), some (mR 7 a2), some (mI a3)], [], σ, 0, 0) (mF [28] [mI (v_C_wouldBe a1 a2 a3 σ)] σ 0 0) := by
  refine mW1_eq (q_C_wouldBe_e _ _ _ _) ?_
  unfold p_C_wouldBe at hp
  refine mTr_g hp.1 ?_
  have hp := hp.2
  refine mTr_g hp ?_
  exact mTr_e (by decide) (congrArg (fun z => [mI z]) (Eq.symm (rfl))) rfl (by decide) (by decide)
theorem li_C_495 : mLink "ClothWithMan" 495 E_C_houseAdds := ⟨tw_4_125, tw_1_1, ⟨by decide, by decide⟩, by decide +kernel, Or.inl tw_4_122, (fun h => by cases h), (fun _ => ⟨tw_4_124, tw_0_31, TX11, 20, rfl⟩), (fun h => by cases h)⟩

theorem li_C_491 : mLink "ClothWithMan" 491 E_C_bareOf := ⟨tw_4_111, tw_1_1, ⟨by decide, by decide⟩, by decide +kernel, Or.inl tw_4_108, (fun h => by cases h), (fun _ => ⟨tw_4_110, tw_0_30, TX11, 20, rfl⟩), (fun h => by cases h)⟩

theorem tk_C_wouldBe : ∀ pc i nx tg, T_C_wouldBe pc = some (i, nx, tg) → mOkB prog_1_method_91_code pc i nx tg = true := code_ok (N := 29) (fun k h => by unfold T_C_wouldBe; rw [h]; rfl) (by decide +kernel)
theorem ok_C_wouldBe (l : Launch) : mPOK l "ClothWithMan" prog_1_method_91_code P_C_wouldBe := by
  refine ⟨tk_C_wouldBe, ?_, ?_, ?_, (fun pc i nx tg kd _ h => by cases h), ?_, ?_, fun pc en h => by cases h⟩
  · intro x ci f ty fin h
    exact mLook_all (Q := fun x v => mFOK "ClothWithMan" x v.1 v.2.1 v.2.2.1 v.2.2.2 ∧ (v.2.2.2 = true → pIni P_C_wouldBe = true → (Cond.fieldLink "ClothWithMan" x (((mCl[v.1]?).getD ("", fun _ => ("", "", "", false), 0)).2.1 v.2.1).1 (((mCl[v.1]?).getD ("", fun _ => ("", "", "", false), 0)).2.1 v.2.1).2.1 (((mCl[v.1]?).getD ("", fun _ => ("", "", "", false), 0)).2.1 v.2.1).2.2.1 ∈ lw_tbl ∧ (((mCl[v.1]?).getD ("", fun _ => ("", "", "", false), 0)).2.1 v.2.1).1 = "ClothWithMan"))) (fcC ⟨fo_C_195, fun h1 h2 => by cases h2⟩ (fcC ⟨fo_C_436, fun h1 h2 => by cases h2⟩ (fcC ⟨fo_C_439, fun h1 h2 => by cases h2⟩ (fcC ⟨fo_C_442, fun h1 h2 => by cases h2⟩ fcN)))) x (ci, f, ty, fin) h
  · intro x
    have hh := mLook_all (l := ([] : List (Nat × (Int32 ⊕ Int64)))) (Q := fun x (v : Int32 ⊕ Int64) => (∀ w, v = .inl w → Cond.constant "ClothWithMan" x w ∈ lw_tbl) ∧ (∀ w, v = .inr w → Cond.constantLong "ClothWithMan" x w ∈ lw_tbl)) fcN x
    exact ⟨fun w h => (hh _ h).1 w rfl, fun w h => (hh _ h).2 w rfl⟩
  · exact fun x en h => mLook_all (Q := fun x en => mLink "ClothWithMan" x en ∧ mCtr l en ∧ (en.1.1 = 2 → en.2.2.2.2.2.2 = none)) (fcC ⟨li_C_491, c_C_bareOf l, (fun h => by cases h)⟩ (fcC ⟨li_C_495, c_C_houseAdds l, (fun h => by cases h)⟩ fcN)) x en h
  · exact fun x kd h => mLook_all (Q := fun x kd => (kd = 95 ∧ Cond.fieldLink "ClothWithMan" x "ClothWithMan" "LIKENESSES" "[I" ∈ lw_tbl) ∨ (kd = 96 ∧ Cond.fieldLink "ClothWithMan" x "ClothWithMan" "APART_BOUNDS" "[I" ∈ lw_tbl)) fcN x kd h
  · exact fun x ci h => mLook_all (Q := fun x ci => ci ≠ 0 ∧ ∃ (C : String) (T : u_T) (N : Nat), mCl[ci]? = some (C, T, N) ∧ Cond.classLink "ClothWithMan" x C ∈ lw_tbl ∧ Cond.instantiable C N ∈ lw_tbl) fcN x ci h
set_option maxRecDepth 100000 in
theorem c_C_wouldBe (l : Launch) : mCtr l E_C_wouldBe := mCtr_of (P := P_C_wouldBe) (own := "ClothWithMan") mLay_ok rfl (by decide +kernel) rfl (ok_C_wouldBe l) (fun h => by cases h) (fun as σ pr rv σ' hF hpr hlv => by
  unfold E_C_wouldBe S_C_wouldBe at hF
  simp only [] at hF
  split at hF
  · cases hF
    obtain ⟨n, pcF, c1, s1, g1, g2, g3, g4⟩ := mF_inv (d_C_wouldBe _ _ _ σ (hpr _ rfl))
    exact ⟨Nat.le_of_ble_eq_true rfl, (fun v h => by cases h; trivial), n, pcF, c1, s1, g1, ⟨mEnd_of (i := .ireturn) (P := P_C_wouldBe) (rets := [28]) rfl g2, rfl⟩, g3, g4⟩
  · cases hF
    exact (hpr _ rfl).elim)
/-! ClothWithMan.partOf(LClothWithMan$Story;III)J -/
noncomputable def t_C_partOf_79 (x3 : Int32) (x4 : Int32) (c : Int32) (σ : MSto) (s : Int64) : Int64 := (if (v_AL_size 16 0 σ) ≤ c then s else (if c = x4 then s else (s * (Int32.toInt64 (v_Pp_fitTo (v_AL_get 16 0 c σ) x3 σ)))))
noncomputable def q_C_partOf_79s (x3 : Int32) (x4 : Int32) (c : Int32) (σ : MSto) (s : Int64) : Nat := (if (v_AL_size 16 0 σ) ≤ c then 1 else 0)
def g_C_partOf_79 (x3 : Int32) (x4 : Int32) (c : Int32) (σ : MSto) (s : Int64) : Prop := (¬ ((v_AL_size 16 0 σ) ≤ c) → (¬ (c = x4) → (p_AL_get 16 0 c σ)))
noncomputable def f_C_partOf_79 (x3 : Int32) (x4 : Int32) (c0 : Int32) (σ : MSto) (s0 : Int64) (n : Nat) : Int64 := nfold (fun i s => t_C_partOf_79 x3 x4 (c0 + nI i) σ s) s0 n
noncomputable def n_C_partOf_79 (x3 : Int32) (x4 : Int32) (c0 : Int32) (σ : MSto) (s0 : Int64) : Nat := (gI σ 16 0 2).toNatClampNeg
noncomputable def t_C_partOf_6 (r1 : Nat) (x2 : Int32) (x3 : Int32) (x4 : Int32) (c : Int32) (σ : MSto) (s : Int64) : Int64 := (if (v_C_pieceCount σ) ≤ c then s else (if (v_C_has x2 c σ) = 0 then s else (s * (Int32.toInt64 (v_C_likenessOf (gI σ 7 (v_AL_get 14 0 c σ) 5) (v_C_wouldBe r1 (v_AL_get 14 0 c σ) x3 σ) (gI σ 21 0 (Int32.toNatClampNeg (gI σ 7 (v_AL_get 14 0 c σ) 3))) σ)))))
noncomputable def q_C_partOf_6s (r1 : Nat) (x2 : Int32) (x3 : Int32) (x4 : Int32) (c : Int32) (σ : MSto) (s : Int64) : Nat := (if (v_C_pieceCount σ) ≤ c then 1 else 0)
def g_C_partOf_6 (r1 : Nat) (x2 : Int32) (x3 : Int32) (x4 : Int32) (c : Int32) (σ : MSto) (s : Int64) : Prop := (¬ ((v_C_pieceCount σ) ≤ c) → (¬ ((v_C_has x2 c σ) = 0) → ((p_AL_get 14 0 c σ) ∧ ((p_C_wouldBe r1 (v_AL_get 14 0 c σ) x3 σ) ∧ ((vp_in (gI σ 7 (v_AL_get 14 0 c σ) 3) 6) ∧ (p_C_likenessOf (gI σ 7 (v_AL_get 14 0 c σ) 5) (v_C_wouldBe r1 (v_AL_get 14 0 c σ) x3 σ) (gI σ 21 0 (Int32.toNatClampNeg (gI σ 7 (v_AL_get 14 0 c σ) 3))) σ))))))
noncomputable def f_C_partOf_6 (r1 : Nat) (x2 : Int32) (x3 : Int32) (x4 : Int32) (c0 : Int32) (σ : MSto) (s0 : Int64) (n : Nat) : Int64 := nfold (fun i s => t_C_partOf_6 r1 x2 x3 x4 (c0 + nI i) σ s) s0 n
noncomputable def n_C_partOf_6 (r1 : Nat) (x2 : Int32) (x3 : Int32) (x4 : Int32) (c0 : Int32) (σ : MSto) (s0 : Int64) : Nat := (v_C_pieceCount σ).toNatClampNeg
noncomputable def v_C_partOf (a1 : Nat) (a2 : Int32) (a3 : Int32) (a4 : Int32) (σ : MSto) : Int64 := (f_C_partOf_79 a3 a4 0 σ (f_C_partOf_6 a1 a2 a3 a4 0 σ 1 (n_C_partOf_6 a1 a2 a3 a4 0 σ 1)) (n_C_partOf_79 a3 a4 0 σ (f_C_partOf_6 a1 a2 a3 a4 0 σ 1 (n_C_partOf_6 a1 a2 a3 a4 0 σ 1))))
def p_C_partOf (a1 : Nat) (a2 : Int32) (a3 : Int32) (a4 : Int32) (σ : MSto) : Prop := ((∀ i, i < (n_C_partOf_6 a1 a2 a3 a4 0 σ 1) → g_C_partOf_6 a1 a2 a3 a4 (0 + nI i) σ (f_C_partOf_6 a1 a2 a3 a4 0 σ 1 i) ∧ ¬ q_C_partOf_6s a1 a2 a3 a4 (0 + nI i) σ (f_C_partOf_6 a1 a2 a3 a4 0 σ 1 i) = 1) ∧ ((((v_C_pieceCount σ) ≤ (0 + nI (n_C_partOf_6 a1 a2 a3 a4 0 σ 1))) → ((∀ i, i < (n_C_partOf_79 a3 a4 0 σ (f_C_partOf_6 a1 a2 a3 a4 0 σ 1 (n_C_partOf_6 a1 a2 a3 a4 0 σ 1))) → g_C_partOf_79 a3 a4 (0 + nI i) σ (f_C_partOf_79 a3 a4 0 σ (f_C_partOf_6 a1 a2 a3 a4 0 σ 1 (n_C_partOf_6 a1 a2 a3 a4 0 σ 1)) i) ∧ ¬ q_C_partOf_79s a3 a4 (0 + nI i) σ (f_C_partOf_79 a3 a4 0 σ (f_C_partOf_6 a1 a2 a3 a4 0 σ 1 (n_C_partOf_6 a1 a2 a3 a4 0 σ 1)) i) = 1) ∧ (¬ ((v_AL_size 16 0 σ) ≤ (0 + nI (n_C_partOf_79 a3 a4 0 σ (f_C_partOf_6 a1 a2 a3 a4 0 σ 1 (n_C_partOf_6 a1 a2 a3 a4 0 σ 1))))) → False))) ∧ (¬ ((v_C_pieceCount σ) ≤ (0 + nI (n_C_partOf_6 a1 a2 a3 a4 0 σ 1))) → False)))
noncomputable def S_C_partOf : List MV → MSto → Option Prop × Option MV × MSto := fun as σ => match as with
  | [.inr (.inr (some (12, 0))), .inr (.inr (some (9, a0))), .inl a1, .inl a2, .inl a3] => (some (p_C_partOf a0 a1 a2 a3 σ), some (mJ (v_C_partOf a0 a1 a2 a3 σ)), σ)
  | _ => (some False, none, σ)
noncomputable def E_C_partOf : MEnt := ((1, 4, 12), (9, 199, 0, 0), S_C_partOf, ((⟨"ClothWithMan", "partOf", "(LClothWithMan$Story;III)J"⟩ : MethodName), prog_1_method_92_code, 9, (some .long)))

def T_C_partOf : Nat → Option (Instr × Nat × List Nat) := fun k => bif Nat.blt k 129 then (bif Nat.blt k 63 then (bif Nat.blt k 30 then (bif Nat.blt k 12 then (bif Nat.blt k 4 then (bif Nat.blt k 1 then (bif Nat.beq k 0 then some (.lconst 1, 1, []) else none) else (bif Nat.blt k 3 then (bif Nat.beq k 1 then some (.lstore 5, 3, []) else none) else (bif Nat.beq k 3 then some (.iconst 0, 4, []) else none))) else (bif Nat.blt k 8 then (bif Nat.blt k 6 then (bif Nat.beq k 4 then some (.istore 7, 6, []) else none) else (bif Nat.beq k 6 then some (.iload 7, 8, []) else none)) else (bif Nat.blt k 9 then (bif Nat.beq k 8 then some (.aload_n 0, 9, []) else none) else (bif Nat.beq k 9 then some (.invokevirtual 281, 12, []) else none)))) else (bif Nat.blt k 21 then (bif Nat.blt k 16 then (bif Nat.blt k 15 then (bif Nat.beq k 12 then some (.if_icmp .ge 64, 15, [76]) else none) else (bif Nat.beq k 15 then some (.iload_n 2, 16, []) else none)) else (bif Nat.blt k 18 then (bif Nat.beq k 16 then some (.iload 7, 18, []) else none) else (bif Nat.beq k 18 then some (.invokestatic 284, 21, []) else none))) else (bif Nat.blt k 25 then (bif Nat.blt k 24 then (bif Nat.beq k 21 then some (.ifCond .eq 49, 24, [70]) else none) else (bif Nat.beq k 24 then some (.aload_n 0, 25, []) else none)) else (bif Nat.blt k 28 then (bif Nat.beq k 25 then some (.getfield 33, 28, []) else none) else (bif Nat.beq k 28 then some (.iload 7, 30, []) else none))))) else (bif Nat.blt k 47 then (bif Nat.blt k 40 then (bif Nat.blt k 36 then (bif Nat.blt k 33 then (bif Nat.beq k 30 then some (.invokevirtual 183, 33, []) else none) else (bif Nat.beq k 33 then some (.checkcast 168, 36, []) else none)) else (bif Nat.blt k 38 then (bif Nat.beq k 36 then some (.astore 8, 38, []) else none) else (bif Nat.beq k 38 then some (.lload 5, 40, []) else none))) else (bif Nat.blt k 45 then (bif Nat.blt k 42 then (bif Nat.beq k 40 then some (.aload 8, 42, []) else none) else (bif Nat.beq k 42 then some (.getfield 201, 45, []) else none)) else (bif Nat.blt k 46 then (bif Nat.beq k 45 then some (.aload_n 0, 46, []) else none) else (bif Nat.beq k 46 then some (.aload_n 1, 47, []) else none)))) else (bif Nat.blt k 54 then (bif Nat.blt k 50 then (bif Nat.blt k 49 then (bif Nat.beq k 47 then some (.aload 8, 49, []) else none) else (bif Nat.beq k 49 then some (.iload_n 3, 50, []) else none)) else (bif Nat.blt k 53 then (bif Nat.beq k 50 then some (.invokevirtual 315, 53, []) else none) else (bif Nat.beq k 53 then some (.aload_n 0, 54, []) else none))) else (bif Nat.blt k 59 then (bif Nat.blt k 57 then (bif Nat.beq k 54 then some (.getfield 27, 57, []) else none) else (bif Nat.beq k 57 then some (.aload 8, 59, []) else none)) else (bif Nat.blt k 62 then (bif Nat.beq k 59 then some (.getfield 195, 62, []) else none) else (bif Nat.beq k 62 then some (.iaload, 63, []) else none)))))) else (bif Nat.blt k 95 then (bif Nat.blt k 77 then (bif Nat.blt k 68 then (bif Nat.blt k 66 then (bif Nat.beq k 63 then some (.invokestatic 210, 66, []) else none) else (bif Nat.blt k 67 then (bif Nat.beq k 66 then some (.i2l, 67, []) else none) else (bif Nat.beq k 67 then some (.lmul, 68, []) else none))) else (bif Nat.blt k 73 then (bif Nat.blt k 70 then (bif Nat.beq k 68 then some (.lstore 5, 70, []) else none) else (bif Nat.beq k 70 then some (.iinc 7 1, 73, []) else none)) else (bif Nat.blt k 76 then (bif Nat.beq k 73 then some (.goto (-67), 76, [6]) else none) else (bif Nat.beq k 76 then some (.iconst 0, 77, []) else none)))) else (bif Nat.blt k 85 then (bif Nat.blt k 81 then (bif Nat.blt k 79 then (bif Nat.beq k 77 then some (.istore 7, 79, []) else none) else (bif Nat.beq k 79 then some (.iload 7, 81, []) else none)) else (bif Nat.blt k 82 then (bif Nat.beq k 81 then some (.aload_n 0, 82, []) else none) else (bif Nat.beq k 82 then some (.getfield 40, 85, []) else none))) else (bif Nat.blt k 91 then (bif Nat.blt k 88 then (bif Nat.beq k 85 then some (.invokevirtual 132, 88, []) else none) else (bif Nat.beq k 88 then some (.if_icmp .ge 38, 91, [126]) else none)) else (bif Nat.blt k 93 then (bif Nat.beq k 91 then some (.iload 7, 93, []) else none) else (bif Nat.beq k 93 then some (.iload 4, 95, []) else none))))) else (bif Nat.blt k 113 then (bif Nat.blt k 104 then (bif Nat.blt k 100 then (bif Nat.blt k 98 then (bif Nat.beq k 95 then some (.if_icmp .eq 25, 98, [120]) else none) else (bif Nat.beq k 98 then some (.lload 5, 100, []) else none)) else (bif Nat.blt k 101 then (bif Nat.beq k 100 then some (.aload_n 0, 101, []) else none) else (bif Nat.beq k 101 then some (.getfield 40, 104, []) else none))) else (bif Nat.blt k 109 then (bif Nat.blt k 106 then (bif Nat.beq k 104 then some (.iload 7, 106, []) else none) else (bif Nat.beq k 106 then some (.invokevirtual 183, 109, []) else none)) else (bif Nat.blt k 112 then (bif Nat.beq k 109 then some (.checkcast 319, 112, []) else none) else (bif Nat.beq k 112 then some (.iload_n 3, 113, []) else none)))) else (bif Nat.blt k 120 then (bif Nat.blt k 117 then (bif Nat.blt k 116 then (bif Nat.beq k 113 then some (.invokevirtual 499, 116, []) else none) else (bif Nat.beq k 116 then some (.i2l, 117, []) else none)) else (bif Nat.blt k 118 then (bif Nat.beq k 117 then some (.lmul, 118, []) else none) else (bif Nat.beq k 118 then some (.lstore 5, 120, []) else none))) else (bif Nat.blt k 126 then (bif Nat.blt k 123 then (bif Nat.beq k 120 then some (.iinc 7 1, 123, []) else none) else (bif Nat.beq k 123 then some (.goto (-44), 126, [79]) else none)) else (bif Nat.blt k 128 then (bif Nat.beq k 126 then some (.lload 5, 128, []) else none) else (bif Nat.beq k 128 then some (.lreturn, 129, []) else none))))))) else none
noncomputable def P_C_partOf : MP := (T_C_partOf, (fun k => mLook k [(27, (12, 3, (.array .int), true)), (33, (12, 4, (.object "java/util/ArrayList"), true)), (40, (12, 6, (.object "java/util/ArrayList"), true)), (195, (7, 3, .int, true)), (201, (7, 5, .int, false))]), (fun k => mLook k []), (fun k => mLook k [(132, E_AL_size), (183, E_AL_get), (210, E_C_likenessOf), (281, E_C_pieceCount), (284, E_C_has), (315, E_C_wouldBe), (499, E_Pp_fitTo)]), (fun k => mLook k []), (fun k => mLook k []), (fun k => mLook k [(168, 7), (319, 5)]), (fun k => mLook k [(6, [true, true, true, true, true, true, false, true, false]), (79, [true, false, false, true, true, true, false, true, false])]), (fun k => [128].any (Nat.beq k)), (9, 199, 0, 0), false, (fun _ => none))
set_option maxRecDepth 100000 in
set_option maxHeartbeats 4000000 in
theorem q_C_partOf_e (a1 : Nat) (a2 : Int32) (a3 : Int32) (a4 : Int32) (σ : MSto) (n : Nat) : mexe KT P_C_partOf (n + 1) (0, [some (mR 12 0), some (mR 9 a1), some (mI a2), some (mI a3), some (mI a4), none, none, none, none], [], σ, 0, 0) = mexe KT P_C_partOf n (6, [some (mR 12 0), some (mR 9 a1), some (mI a2), some (mI a3), some (mI a4), some (mJ 1), none, some (mI 0), none], [], σ, 0, 0) := rfl
set_option maxRecDepth 100000 in
set_option maxHeartbeats 4000000 in
theorem q_C_partOf_6 (r1 : Nat) (x2 : Int32) (x3 : Int32) (x4 : Int32) (x5 : Int64) (x7 : Int32) (σ : MSto) (n : Nat) : mexe KT P_C_partOf (n + 1) (6, [some (mR 12 0), some (mR 9 r1), some (mI x2), some (mI x3), some (mI x4), some (mJ x5), none, some (mI x7), none], [], σ, 0, 0) = mIf ((v_C_pieceCount σ) ≤ x7) (mexe KT P_C_partOf n (79, [some (mR 12 0), none, none, some (mI x3), some (mI x4), some (mJ x5), none, some (mI 0), none], [], σ, 0, 0)) (mIf ((v_C_has x2 x7 σ) = 0) (mexe KT P_C_partOf n (6, [some (mR 12 0), some (mR 9 r1), some (mI x2), some (mI x3), some (mI x4), some (mJ x5), none, some (mI (x7 + 1)), none], [], σ, 0, 0)) (mG (p_AL_get 14 0 x7 σ) (mG (p_C_wouldBe r1 (v_AL_get 14 0 x7 σ) x3 σ) (mG (vp_in (gI σ 7 (v_AL_get 14 0 x7 σ) 3) 6) (mG (p_C_likenessOf (gI σ 7 (v_AL_get 14 0 x7 σ) 5) (v_C_wouldBe r1 (v_AL_get 14 0 x7 σ) x3 σ) (gI σ 21 0 (Int32.toNatClampNeg (gI σ 7 (v_AL_get 14 0 x7 σ) 3))) σ) (mexe KT P_C_partOf n (6, [some (mR 12 0), some (mR 9 r1), some (mI x2), some (mI x3), some (mI x4), some (mJ (x5 * (Int32.toInt64 (v_C_likenessOf (gI σ 7 (v_AL_get 14 0 x7 σ) 5) (v_C_wouldBe r1 (v_AL_get 14 0 x7 σ) x3 σ) (gI σ 21 0 (Int32.toNatClampNeg (gI σ 7 (v_AL_get 14 0 x7 σ) 3))) σ)))), none, some (mI (x7 + 1)), none], [], σ, 0, 0))))))) := rfl
set_option maxRecDepth 100000 in
set_option maxHeartbeats 4000000 in
theorem q_C_partOf_79 (x3 : Int32) (x4 : Int32) (x5 : Int64) (x7 : Int32) (σ : MSto) (n : Nat) : mexe KT P_C_partOf (n + 1) (79, [some (mR 12 0), none, none, some (mI x3), some (mI x4), some (mJ x5), none, some (mI x7), none], [], σ, 0, 0) = mIf ((v_AL_size 16 0 σ) ≤ x7) (some (128, [], [(mJ x5)], σ, 0, 0)) (mIf (x7 = x4) (mexe KT P_C_partOf n (79, [some (mR 12 0), none, none, some (mI x3), some (mI x4), some (mJ x5), none, some (mI (x7 + 1)), none], [], σ, 0, 0)) (mG (p_AL_get 16 0 x7 σ) (mexe KT P_C_partOf n (79, [some (mR 12 0), none, none, some (mI x3), some (mI x4), some (mJ (x5 * (Int32.toInt64 (v_Pp_fitTo (v_AL_get 16 0 x7 σ) x3 σ)))), none, some (mI (x7 + 1)), none], [], σ, 0, 0)))) := rfl
set_option maxRecDepth 100000 in
theorem lt_C_partOf_79 {Post : MST → Prop} (x3 : Int32) (x4 : Int32) (c : Int32) (σ : MSto) (s : Int64) (hp : g_C_partOf_79 x3 x4 c σ s) (hq : ¬ q_C_partOf_79s x3 x4 c σ s = 1) (hn : ∀ r, t_C_partOf_79 x3 x4 c σ s = r → mW1 P_C_partOf (79, [some (mR 12 0), none, none, some (mI x3), some (mI x4), some (mJ r), none, some (mI (c + 1)), none], [], σ, 0, 0) Post) : mW1 P_C_partOf (79, [some (mR 12 0), none, none, some (mI x3), some (mI x4), some (mJ s), none, some (mI c), none], [], σ, 0, 0) Post := by
  unfold g_C_partOf_79 at hp
  refine mW1_eq (q_C_partOf_79 _ _ _ _ _) ?_
  refine mTr_if (fun h0 => ?_) (fun h0 => ?_)
  · skip
    exact absurd (if_pos h0) hq
  · skip
    have hp := hp h0
    refine mTr_if (fun h1 => ?_) (fun h1 => ?_)
    · skip
      exact mTr_k (hn s ((if_neg h0).trans (if_pos h1)))
    · skip
      have hp := hp h1
      refine mTr_g hp ?_
      exact mTr_k (hn (s * (Int32.toInt64 (v_Pp_fitTo (v_AL_get 16 0 c σ) x3 σ))) ((if_neg h0).trans (if_neg h1)))
theorem lp_C_partOf_79 {Post : MST → Prop} (x3 : Int32) (x4 : Int32) (c0 : Int32) (σ : MSto) (s0 : Int64) (N : Nat) (hb : ∀ i, i < N → g_C_partOf_79 x3 x4 (c0 + nI i) σ (f_C_partOf_79 x3 x4 c0 σ s0 i) ∧ ¬ q_C_partOf_79s x3 x4 (c0 + nI i) σ (f_C_partOf_79 x3 x4 c0 σ s0 i) = 1) (h : mW1 P_C_partOf (79, [some (mR 12 0), none, none, some (mI x3), some (mI x4), some (mJ (f_C_partOf_79 x3 x4 c0 σ s0 N)), none, some (mI (c0 + nI N)), none], [], σ, 0, 0) Post) : mW1 P_C_partOf (79, [some (mR 12 0), none, none, some (mI x3), some (mI x4), some (mJ s0), none, some (mI c0), none], [], σ, 0, 0) Post := by
  refine mW1_st (mW1_loop (fun i => (79, [some (mR 12 0), none, none, some (mI x3), some (mI x4), some (mJ (f_C_partOf_79 x3 x4 c0 σ s0 i)), none, some (mI (c0 + nI i)), none], [], σ, 0, 0)) N (fun i hlt hn => ?_) h) (by rw [show nI 0 = 0 from rfl, Int32.add_zero] <;> rfl)
  refine lt_C_partOf_79 x3 x4 _ σ _ (hb i hlt).1 (hb i hlt).2 (fun r hr => ?_)
  rw [Int32.add_assoc, nI_s]
  subst hr
  exact hn
set_option maxRecDepth 100000 in
theorem lt_C_partOf_6 {Post : MST → Prop} (r1 : Nat) (x2 : Int32) (x3 : Int32) (x4 : Int32) (c : Int32) (σ : MSto) (s : Int64) (hp : g_C_partOf_6 r1 x2 x3 x4 c σ s) (hq : ¬ q_C_partOf_6s r1 x2 x3 x4 c σ s = 1) (hn : ∀ r, t_C_partOf_6 r1 x2 x3 x4 c σ s = r → mW1 P_C_partOf (6, [some (mR 12 0), some (mR 9 r1), some (mI x2), some (mI x3), some (mI x4), some (mJ r), none, some (mI (c + 1)), none], [], σ, 0, 0) Post) : mW1 P_C_partOf (6, [some (mR 12 0), some (mR 9 r1), some (mI x2), some (mI x3), some (mI x4), some (mJ s), none, some (mI c), none], [], σ, 0, 0) Post := by
  unfold g_C_partOf_6 at hp
  refine mW1_eq (q_C_partOf_6 _ _ _ _ _ _ _) ?_
  refine mTr_if (fun h0 => ?_) (fun h0 => ?_)
  · skip
    exact absurd (if_pos h0) hq
  · skip
    have hp := hp h0
    refine mTr_if (fun h1 => ?_) (fun h1 => ?_)
    · skip
      exact mTr_k (hn s ((if_neg h0).trans (if_pos h1)))
    · skip
      have hp := hp h1
      refine mTr_g hp.1 ?_
      have hp := hp.2
      refine mTr_g hp.1 ?_
      have hp := hp.2
      refine mTr_g hp.1 ?_
      have hp := hp.2
      refine mTr_g hp ?_
      exact mTr_k (hn (s * (Int32.toInt64 (v_C_likenessOf (gI σ 7 (v_AL_get 14 0 c σ) 5) (v_C_wouldBe r1 (v_AL_get 14 0 c σ) x3 σ) (gI σ 21 0 (Int32.toNatClampNeg (gI σ 7 (v_AL_get 14 0 c σ) 3))) σ))) ((if_neg h0).trans (if_neg h1)))
theorem lp_C_partOf_6 {Post : MST → Prop} (r1 : Nat) (x2 : Int32) (x3 : Int32) (x4 : Int32) (c0 : Int32) (σ : MSto) (s0 : Int64) (N : Nat) (hb : ∀ i, i < N → g_C_partOf_6 r1 x2 x3 x4 (c0 + nI i) σ (f_C_partOf_6 r1 x2 x3 x4 c0 σ s0 i) ∧ ¬ q_C_partOf_6s r1 x2 x3 x4 (c0 + nI i) σ (f_C_partOf_6 r1 x2 x3 x4 c0 σ s0 i) = 1) (h : mW1 P_C_partOf (6, [some (mR 12 0), some (mR 9 r1), some (mI x2), some (mI x3), some (mI x4), some (mJ (f_C_partOf_6 r1 x2 x3 x4 c0 σ s0 N)), none, some (mI (c0 + nI N)), none], [], σ, 0, 0) Post) : mW1 P_C_partOf (6, [some (mR 12 0), some (mR 9 r1), some (mI x2), some (mI x3), some (mI x4), some (mJ s0), none, some (mI c0), none], [], σ, 0, 0) Post := by
  refine mW1_st (mW1_loop (fun i => (6, [some (mR 12 0), some (mR 9 r1), some (mI x2), some (mI x3), some (mI x4), some (mJ (f_C_partOf_6 r1 x2 x3 x4 c0 σ s0 i)), none, some (mI (c0 + nI i)), none], [], σ, 0, 0)) N (fun i hlt hn => ?_) h) (by rw [show nI 0 = 0 from rfl, Int32.add_zero] <;> rfl)
  refine lt_C_partOf_6 r1 x2 x3 x4 _ σ _ (hb i hlt).1 (hb i hlt).2 (fun r hr => ?_)
  rw [Int32.add_assoc, nI_s]
  subst hr
  exact hn
set_option maxRecDepth 100000 in
set_option maxHeartbeats 4000000 in
theorem d_C_partOf (a1 : Nat) (a2 : Int32) (a3 : Int32) (a4 : Int32) (σ : MSto) (hp : p_C_partOf a1 a2 a3 a4 σ) : mW1 P_C_partOf (0, [some (mR 12 0), some (mR 9 a1), some (mI a2), some (mI a3), some (mI a4), none, none, none, none], [], σ, 0, 0) (mF [128] [mJ (v_C_partOf a1 a2 a3 a4 σ)] σ 0 0) := by
  refine mW1_eq (q_C_partOf_e _ _ _ _ _) ?_
  unfold p_C_partOf at hp
  refine mTr_k (lp_C_partOf_6 a1 a2 a3 a4 0 σ 1 (n_C_partOf_6 a1 a2 a3 a4 0 σ 1) hp.1 ?_)
  have hp := hp.2
  refine mW1_eq (q_C_partOf_6 _ _ _ _ _ _ _) ?_
  refine mTr_if (fun h0 => ?_) (fun h0 => ?_)
  · skip
    have hp := hp.1 h0
    refine mTr_k (lp_C_partOf_79 a3 a4 0 σ (f_C_partOf_6 a1 a2 a3 a4 0 σ 1 (n_C_partOf_6 a1 a2 a3 a4 0 σ 1)) (n_C_partOf_79 a3 a4 0 σ (f_C_partOf_6 a1 a2 a3 a4 0 σ 1 (n_C_partOf_6 a1 a2 a3 a4 0 σ 1))) hp.1 ?_)
    have hp := hp.2
    refine mW1_eq (q_C_partOf_79 _ _ _ _ _) ?_
    refine mTr_if (fun h1 => ?_) (fun h1 => ?_)
    · skip
      exact mTr_e (by decide) (congrArg (fun z => [mJ z]) (Eq.symm (rfl))) rfl (by decide) (by decide)
    · skip
      have hp := hp h1
      exact hp.elim
  · skip
    have hp := hp.2 h0
    exact hp.elim
theorem li_C_499 : mLink "ClothWithMan" 499 E_Pp_fitTo := ⟨tw_4_133, tw_1_24, ⟨by decide, by decide⟩, by decide +kernel, Or.inl tw_4_130, (fun h => by cases h), (fun _ => ⟨tw_4_131, tw_4_132, TX4, 3, rfl⟩), (fun h => by cases h)⟩

theorem li_C_315 : mLink "ClothWithMan" 315 E_C_wouldBe := ⟨tw_4_107, tw_1_1, ⟨by decide, by decide⟩, by decide +kernel, Or.inl tw_4_104, (fun h => by cases h), (fun _ => ⟨tw_4_106, tw_0_29, TX11, 20, rfl⟩), (fun h => by cases h)⟩






theorem tk_C_partOf : ∀ pc i nx tg, T_C_partOf pc = some (i, nx, tg) → mOkB prog_1_method_92_code pc i nx tg = true := code_ok (N := 129) (fun k h => by unfold T_C_partOf; rw [h]; rfl) (by decide +kernel)
theorem ok_C_partOf (l : Launch) : mPOK l "ClothWithMan" prog_1_method_92_code P_C_partOf := by
  refine ⟨tk_C_partOf, ?_, ?_, ?_, (fun pc i nx tg kd _ h => by cases h), ?_, ?_, fun pc en h => by cases h⟩
  · intro x ci f ty fin h
    exact mLook_all (Q := fun x v => mFOK "ClothWithMan" x v.1 v.2.1 v.2.2.1 v.2.2.2 ∧ (v.2.2.2 = true → pIni P_C_partOf = true → (Cond.fieldLink "ClothWithMan" x (((mCl[v.1]?).getD ("", fun _ => ("", "", "", false), 0)).2.1 v.2.1).1 (((mCl[v.1]?).getD ("", fun _ => ("", "", "", false), 0)).2.1 v.2.1).2.1 (((mCl[v.1]?).getD ("", fun _ => ("", "", "", false), 0)).2.1 v.2.1).2.2.1 ∈ lw_tbl ∧ (((mCl[v.1]?).getD ("", fun _ => ("", "", "", false), 0)).2.1 v.2.1).1 = "ClothWithMan"))) (fcC ⟨fo_C_27, fun h1 h2 => by cases h2⟩ (fcC ⟨fo_C_33, fun h1 h2 => by cases h2⟩ (fcC ⟨fo_C_40, fun h1 h2 => by cases h2⟩ (fcC ⟨fo_C_195, fun h1 h2 => by cases h2⟩ (fcC ⟨fo_C_201, fun h1 h2 => by cases h1⟩ fcN))))) x (ci, f, ty, fin) h
  · intro x
    have hh := mLook_all (l := ([] : List (Nat × (Int32 ⊕ Int64)))) (Q := fun x (v : Int32 ⊕ Int64) => (∀ w, v = .inl w → Cond.constant "ClothWithMan" x w ∈ lw_tbl) ∧ (∀ w, v = .inr w → Cond.constantLong "ClothWithMan" x w ∈ lw_tbl)) fcN x
    exact ⟨fun w h => (hh _ h).1 w rfl, fun w h => (hh _ h).2 w rfl⟩
  · exact fun x en h => mLook_all (Q := fun x en => mLink "ClothWithMan" x en ∧ mCtr l en ∧ (en.1.1 = 2 → en.2.2.2.2.2.2 = none)) (fcC ⟨li_C_132, c_AL_size l, (fun h => by cases h)⟩ (fcC ⟨li_C_183, c_AL_get l, (fun h => by cases h)⟩ (fcC ⟨li_C_210, c_C_likenessOf l, (fun h => by cases h)⟩ (fcC ⟨li_C_281, c_C_pieceCount l, (fun h => by cases h)⟩ (fcC ⟨li_C_284, c_C_has l, (fun h => by cases h)⟩ (fcC ⟨li_C_315, c_C_wouldBe l, (fun h => by cases h)⟩ (fcC ⟨li_C_499, c_Pp_fitTo l, (fun h => by cases h)⟩ fcN))))))) x en h
  · exact fun x kd h => mLook_all (Q := fun x kd => (kd = 95 ∧ Cond.fieldLink "ClothWithMan" x "ClothWithMan" "LIKENESSES" "[I" ∈ lw_tbl) ∨ (kd = 96 ∧ Cond.fieldLink "ClothWithMan" x "ClothWithMan" "APART_BOUNDS" "[I" ∈ lw_tbl)) fcN x kd h
  · exact fun x ci h => mLook_all (Q := fun x ci => ci ≠ 0 ∧ ∃ (C : String) (T : u_T) (N : Nat), mCl[ci]? = some (C, T, N) ∧ Cond.classLink "ClothWithMan" x C ∈ lw_tbl ∧ Cond.instantiable C N ∈ lw_tbl) (fcC ⟨by decide, "ClothWithMan$Piece", TX6, 6, rfl, tw_3_6, tw_3_7⟩ (fcC ⟨by decide, "ClothWithMan$Paper", TX4, 3, rfl, tw_4_60, tw_4_61⟩ fcN)) x ci h
set_option maxRecDepth 100000 in
theorem c_C_partOf (l : Launch) : mCtr l E_C_partOf := mCtr_of (P := P_C_partOf) (own := "ClothWithMan") mLay_ok rfl (by decide +kernel) rfl (ok_C_partOf l) (fun h => by cases h) (fun as σ pr rv σ' hF hpr hlv => by
  unfold E_C_partOf S_C_partOf at hF
  simp only [] at hF
  split at hF
  · cases hF
    obtain ⟨n, pcF, c1, s1, g1, g2, g3, g4⟩ := mF_inv (d_C_partOf _ _ _ _ σ (hpr _ rfl))
    exact ⟨Nat.le_of_ble_eq_true rfl, (fun v h => by cases h; trivial), n, pcF, c1, s1, g1, mEnd_of (i := .lreturn) (P := P_C_partOf) (rets := [128]) rfl g2, g3, g4⟩
  · cases hF
    exact (hpr _ rfl).elim)
/-! ClothWithMan.greatestStory(II)I -/
noncomputable def t_C_greatestStory_41 (x1 : Int32) (x2 : Int32) (x3 : Int32) (x4 : Int64) (x6 : Int32) (r7 : Nat) (c : Int32) (σ : MSto) (s : Int64) : Int64 := (if (v_St_lastYear r7 σ) < c then s else (s + (v_C_partOf r7 x1 c x2 σ)))
noncomputable def q_C_greatestStory_41s (x1 : Int32) (x2 : Int32) (x3 : Int32) (x4 : Int64) (x6 : Int32) (r7 : Nat) (c : Int32) (σ : MSto) (s : Int64) : Nat := (if (v_St_lastYear r7 σ) < c then 1 else 0)
def g_C_greatestStory_41 (x1 : Int32) (x2 : Int32) (x3 : Int32) (x4 : Int64) (x6 : Int32) (r7 : Nat) (c : Int32) (σ : MSto) (s : Int64) : Prop := (¬ ((v_St_lastYear r7 σ) < c) → (p_C_partOf r7 x1 c x2 σ))
noncomputable def f_C_greatestStory_41 (x1 : Int32) (x2 : Int32) (x3 : Int32) (x4 : Int64) (x6 : Int32) (r7 : Nat) (c0 : Int32) (σ : MSto) (s0 : Int64) (n : Nat) : Int64 := nfold (fun i s => t_C_greatestStory_41 x1 x2 x3 x4 x6 r7 (c0 + nI i) σ s) s0 n
noncomputable def n_C_greatestStory_41 (x1 : Int32) (x2 : Int32) (x3 : Int32) (x4 : Int64) (x6 : Int32) (r7 : Nat) (c0 : Int32) (σ : MSto) (s0 : Int64) : Nat := ((v_St_lastYear r7 σ).toNatClampNeg + 1 - c0.toNatClampNeg)
noncomputable def t_C_greatestStory_8 (x1 : Int32) (x2 : Int32) (c : Int32) (s : Int32 × Int64 × MSto) : Int32 × Int64 × MSto := (if (v_C_storyCount (s.2.2)) ≤ c then s else (if (v_St_hasTerm (v_AL_get 15 0 c (s.2.2)) 1 (s.2.2)) = 0 then (if (lg_cmp (gJ (sJ (s.2.2) 28 0 (Int32.toNatClampNeg c) (((f_C_greatestStory_41 x1 x2 (s.1) (s.2.1) c (v_AL_get 15 0 c (s.2.2)) (v_St_firstYear (v_AL_get 15 0 c (s.2.2)) (s.2.2)) (s.2.2) 0 (n_C_greatestStory_41 x1 x2 (s.1) (s.2.1) c (v_AL_get 15 0 c (s.2.2)) (v_St_firstYear (v_AL_get 15 0 c (s.2.2)) (s.2.2)) (s.2.2) 0)) * (Int32.toInt64 1)) * (Int32.toInt64 (gI (s.2.2) 9 (v_AL_get 15 0 c (s.2.2)) 1)))) 28 0 (Int32.toNatClampNeg c)) (s.2.1)) ≤ 0 then ((s.1), (s.2.1), (sJ (s.2.2) 28 0 (Int32.toNatClampNeg c) (((f_C_greatestStory_41 x1 x2 (s.1) (s.2.1) c (v_AL_get 15 0 c (s.2.2)) (v_St_firstYear (v_AL_get 15 0 c (s.2.2)) (s.2.2)) (s.2.2) 0 (n_C_greatestStory_41 x1 x2 (s.1) (s.2.1) c (v_AL_get 15 0 c (s.2.2)) (v_St_firstYear (v_AL_get 15 0 c (s.2.2)) (s.2.2)) (s.2.2) 0)) * (Int32.toInt64 1)) * (Int32.toInt64 (gI (s.2.2) 9 (v_AL_get 15 0 c (s.2.2)) 1))))) else (c, (gJ (sJ (s.2.2) 28 0 (Int32.toNatClampNeg c) (((f_C_greatestStory_41 x1 x2 (s.1) (s.2.1) c (v_AL_get 15 0 c (s.2.2)) (v_St_firstYear (v_AL_get 15 0 c (s.2.2)) (s.2.2)) (s.2.2) 0 (n_C_greatestStory_41 x1 x2 (s.1) (s.2.1) c (v_AL_get 15 0 c (s.2.2)) (v_St_firstYear (v_AL_get 15 0 c (s.2.2)) (s.2.2)) (s.2.2) 0)) * (Int32.toInt64 1)) * (Int32.toInt64 (gI (s.2.2) 9 (v_AL_get 15 0 c (s.2.2)) 1)))) 28 0 (Int32.toNatClampNeg c)), (sJ (s.2.2) 28 0 (Int32.toNatClampNeg c) (((f_C_greatestStory_41 x1 x2 (s.1) (s.2.1) c (v_AL_get 15 0 c (s.2.2)) (v_St_firstYear (v_AL_get 15 0 c (s.2.2)) (s.2.2)) (s.2.2) 0 (n_C_greatestStory_41 x1 x2 (s.1) (s.2.1) c (v_AL_get 15 0 c (s.2.2)) (v_St_firstYear (v_AL_get 15 0 c (s.2.2)) (s.2.2)) (s.2.2) 0)) * (Int32.toInt64 1)) * (Int32.toInt64 (gI (s.2.2) 9 (v_AL_get 15 0 c (s.2.2)) 1)))))) else (if (lg_cmp (gJ (sJ (s.2.2) 28 0 (Int32.toNatClampNeg c) (((f_C_greatestStory_41 x1 x2 (s.1) (s.2.1) c (v_AL_get 15 0 c (s.2.2)) (v_St_firstYear (v_AL_get 15 0 c (s.2.2)) (s.2.2)) (s.2.2) 0 (n_C_greatestStory_41 x1 x2 (s.1) (s.2.1) c (v_AL_get 15 0 c (s.2.2)) (v_St_firstYear (v_AL_get 15 0 c (s.2.2)) (s.2.2)) (s.2.2) 0)) * (Int32.toInt64 200)) * (Int32.toInt64 (gI (s.2.2) 9 (v_AL_get 15 0 c (s.2.2)) 1)))) 28 0 (Int32.toNatClampNeg c)) (s.2.1)) ≤ 0 then ((s.1), (s.2.1), (sJ (s.2.2) 28 0 (Int32.toNatClampNeg c) (((f_C_greatestStory_41 x1 x2 (s.1) (s.2.1) c (v_AL_get 15 0 c (s.2.2)) (v_St_firstYear (v_AL_get 15 0 c (s.2.2)) (s.2.2)) (s.2.2) 0 (n_C_greatestStory_41 x1 x2 (s.1) (s.2.1) c (v_AL_get 15 0 c (s.2.2)) (v_St_firstYear (v_AL_get 15 0 c (s.2.2)) (s.2.2)) (s.2.2) 0)) * (Int32.toInt64 200)) * (Int32.toInt64 (gI (s.2.2) 9 (v_AL_get 15 0 c (s.2.2)) 1))))) else (c, (gJ (sJ (s.2.2) 28 0 (Int32.toNatClampNeg c) (((f_C_greatestStory_41 x1 x2 (s.1) (s.2.1) c (v_AL_get 15 0 c (s.2.2)) (v_St_firstYear (v_AL_get 15 0 c (s.2.2)) (s.2.2)) (s.2.2) 0 (n_C_greatestStory_41 x1 x2 (s.1) (s.2.1) c (v_AL_get 15 0 c (s.2.2)) (v_St_firstYear (v_AL_get 15 0 c (s.2.2)) (s.2.2)) (s.2.2) 0)) * (Int32.toInt64 200)) * (Int32.toInt64 (gI (s.2.2) 9 (v_AL_get 15 0 c (s.2.2)) 1)))) 28 0 (Int32.toNatClampNeg c)), (sJ (s.2.2) 28 0 (Int32.toNatClampNeg c) (((f_C_greatestStory_41 x1 x2 (s.1) (s.2.1) c (v_AL_get 15 0 c (s.2.2)) (v_St_firstYear (v_AL_get 15 0 c (s.2.2)) (s.2.2)) (s.2.2) 0 (n_C_greatestStory_41 x1 x2 (s.1) (s.2.1) c (v_AL_get 15 0 c (s.2.2)) (v_St_firstYear (v_AL_get 15 0 c (s.2.2)) (s.2.2)) (s.2.2) 0)) * (Int32.toInt64 200)) * (Int32.toInt64 (gI (s.2.2) 9 (v_AL_get 15 0 c (s.2.2)) 1))))))))
noncomputable def q_C_greatestStory_8s (x1 : Int32) (x2 : Int32) (c : Int32) (s : Int32 × Int64 × MSto) : Nat := (if (v_C_storyCount (s.2.2)) ≤ c then 1 else 0)
def g_C_greatestStory_8 (x1 : Int32) (x2 : Int32) (c : Int32) (s : Int32 × Int64 × MSto) : Prop := (¬ ((v_C_storyCount (s.2.2)) ≤ c) → ((p_AL_get 15 0 c (s.2.2)) ∧ ((∀ i, i < (n_C_greatestStory_41 x1 x2 (s.1) (s.2.1) c (v_AL_get 15 0 c (s.2.2)) (v_St_firstYear (v_AL_get 15 0 c (s.2.2)) (s.2.2)) (s.2.2) 0) → g_C_greatestStory_41 x1 x2 (s.1) (s.2.1) c (v_AL_get 15 0 c (s.2.2)) ((v_St_firstYear (v_AL_get 15 0 c (s.2.2)) (s.2.2)) + nI i) (s.2.2) (f_C_greatestStory_41 x1 x2 (s.1) (s.2.1) c (v_AL_get 15 0 c (s.2.2)) (v_St_firstYear (v_AL_get 15 0 c (s.2.2)) (s.2.2)) (s.2.2) 0 i) ∧ ¬ q_C_greatestStory_41s x1 x2 (s.1) (s.2.1) c (v_AL_get 15 0 c (s.2.2)) ((v_St_firstYear (v_AL_get 15 0 c (s.2.2)) (s.2.2)) + nI i) (s.2.2) (f_C_greatestStory_41 x1 x2 (s.1) (s.2.1) c (v_AL_get 15 0 c (s.2.2)) (v_St_firstYear (v_AL_get 15 0 c (s.2.2)) (s.2.2)) (s.2.2) 0 i) = 1) ∧ ((((v_St_lastYear (v_AL_get 15 0 c (s.2.2)) (s.2.2)) < ((v_St_firstYear (v_AL_get 15 0 c (s.2.2)) (s.2.2)) + nI (n_C_greatestStory_41 x1 x2 (s.1) (s.2.1) c (v_AL_get 15 0 c (s.2.2)) (v_St_firstYear (v_AL_get 15 0 c (s.2.2)) (s.2.2)) (s.2.2) 0))) → ((((v_St_hasTerm (v_AL_get 15 0 c (s.2.2)) 1 (s.2.2)) = 0) → ((vp_in c 6) ∧ ((vp_in c 6) ∧ (¬ ((lg_cmp (gJ (sJ (s.2.2) 28 0 (Int32.toNatClampNeg c) (((f_C_greatestStory_41 x1 x2 (s.1) (s.2.1) c (v_AL_get 15 0 c (s.2.2)) (v_St_firstYear (v_AL_get 15 0 c (s.2.2)) (s.2.2)) (s.2.2) 0 (n_C_greatestStory_41 x1 x2 (s.1) (s.2.1) c (v_AL_get 15 0 c (s.2.2)) (v_St_firstYear (v_AL_get 15 0 c (s.2.2)) (s.2.2)) (s.2.2) 0)) * (Int32.toInt64 1)) * (Int32.toInt64 (gI (s.2.2) 9 (v_AL_get 15 0 c (s.2.2)) 1)))) 28 0 (Int32.toNatClampNeg c)) (s.2.1)) ≤ 0) → (vp_in c 6))))) ∧ (¬ ((v_St_hasTerm (v_AL_get 15 0 c (s.2.2)) 1 (s.2.2)) = 0) → ((vp_in c 6) ∧ ((vp_in c 6) ∧ (¬ ((lg_cmp (gJ (sJ (s.2.2) 28 0 (Int32.toNatClampNeg c) (((f_C_greatestStory_41 x1 x2 (s.1) (s.2.1) c (v_AL_get 15 0 c (s.2.2)) (v_St_firstYear (v_AL_get 15 0 c (s.2.2)) (s.2.2)) (s.2.2) 0 (n_C_greatestStory_41 x1 x2 (s.1) (s.2.1) c (v_AL_get 15 0 c (s.2.2)) (v_St_firstYear (v_AL_get 15 0 c (s.2.2)) (s.2.2)) (s.2.2) 0)) * (Int32.toInt64 200)) * (Int32.toInt64 (gI (s.2.2) 9 (v_AL_get 15 0 c (s.2.2)) 1)))) 28 0 (Int32.toNatClampNeg c)) (s.2.1)) ≤ 0) → (vp_in c 6))))))) ∧ (¬ ((v_St_lastYear (v_AL_get 15 0 c (s.2.2)) (s.2.2)) < ((v_St_firstYear (v_AL_get 15 0 c (s.2.2)) (s.2.2)) + nI (n_C_greatestStory_41 x1 x2 (s.1) (s.2.1) c (v_AL_get 15 0 c (s.2.2)) (v_St_firstYear (v_AL_get 15 0 c (s.2.2)) (s.2.2)) (s.2.2) 0))) → False)))))
noncomputable def f_C_greatestStory_8 (x1 : Int32) (x2 : Int32) (c0 : Int32) (s0 : Int32 × Int64 × MSto) (n : Nat) : Int32 × Int64 × MSto := nfold (fun i s => t_C_greatestStory_8 x1 x2 (c0 + nI i) s) s0 n
noncomputable def n_C_greatestStory_8 (x1 : Int32) (x2 : Int32) (c0 : Int32) (s0 : Int32 × Int64 × MSto) : Nat := (v_C_storyCount (s0.2.2)).toNatClampNeg
noncomputable def v_C_greatestStory (a1 : Int32) (a2 : Int32) (σ : MSto) : Int32 := ((f_C_greatestStory_8 a1 a2 0 ((-1), 0, σ) (n_C_greatestStory_8 a1 a2 0 ((-1), 0, σ))).1)
def p_C_greatestStory (a1 : Int32) (a2 : Int32) (σ : MSto) : Prop := ((∀ i, i < (n_C_greatestStory_8 a1 a2 0 ((-1), 0, σ)) → g_C_greatestStory_8 a1 a2 (0 + nI i) (f_C_greatestStory_8 a1 a2 0 ((-1), 0, σ) i) ∧ ¬ q_C_greatestStory_8s a1 a2 (0 + nI i) (f_C_greatestStory_8 a1 a2 0 ((-1), 0, σ) i) = 1) ∧ (¬ ((v_C_storyCount ((f_C_greatestStory_8 a1 a2 0 ((-1), 0, σ) (n_C_greatestStory_8 a1 a2 0 ((-1), 0, σ))).2.2)) ≤ (0 + nI (n_C_greatestStory_8 a1 a2 0 ((-1), 0, σ)))) → False))
noncomputable def e_C_greatestStory (a1 : Int32) (a2 : Int32) (σ : MSto) : MSto := ((f_C_greatestStory_8 a1 a2 0 ((-1), 0, σ) (n_C_greatestStory_8 a1 a2 0 ((-1), 0, σ))).2.2)
noncomputable def S_C_greatestStory : List MV → MSto → Option Prop × Option MV × MSto := fun as σ => match as with
  | [.inr (.inr (some (12, 0))), .inl a0, .inl a1] => (some (p_C_greatestStory a0 a1 σ), some (mI (v_C_greatestStory a0 a1 σ)), e_C_greatestStory a0 a1 σ)
  | _ => (some False, none, σ)
noncomputable def E_C_greatestStory : MEnt := ((1, 2, 12), (10, 227, 0, 0), S_C_greatestStory, ((⟨"ClothWithMan", "greatestStory", "(II)I"⟩ : MethodName), prog_1_method_93_code, 11, (some .int)))

def T_C_greatestStory : Nat → Option (Instr × Nat × List Nat) := fun k => bif Nat.blt k 143 then (bif Nat.blt k 74 then (bif Nat.blt k 34 then (bif Nat.blt k 14 then (bif Nat.blt k 5 then (bif Nat.blt k 2 then (bif Nat.blt k 1 then (bif Nat.beq k 0 then some (.iconst (-1), 1, []) else none) else (bif Nat.beq k 1 then some (.istore_n 3, 2, []) else none)) else (bif Nat.blt k 3 then (bif Nat.beq k 2 then some (.lconst 0, 3, []) else none) else (bif Nat.beq k 3 then some (.lstore 4, 5, []) else none))) else (bif Nat.blt k 8 then (bif Nat.blt k 6 then (bif Nat.beq k 5 then some (.iconst 0, 6, []) else none) else (bif Nat.beq k 6 then some (.istore 6, 8, []) else none)) else (bif Nat.blt k 10 then (bif Nat.beq k 8 then some (.iload 6, 10, []) else none) else (bif Nat.blt k 11 then (bif Nat.beq k 10 then some (.aload_n 0, 11, []) else none) else (bif Nat.beq k 11 then some (.invokevirtual 330, 14, []) else none))))) else (bif Nat.blt k 23 then (bif Nat.blt k 18 then (bif Nat.blt k 17 then (bif Nat.beq k 14 then some (.if_icmp .ge 127, 17, [141]) else none) else (bif Nat.beq k 17 then some (.aload_n 0, 18, []) else none)) else (bif Nat.blt k 21 then (bif Nat.beq k 18 then some (.getfield 37, 21, []) else none) else (bif Nat.beq k 21 then some (.iload 6, 23, []) else none))) else (bif Nat.blt k 29 then (bif Nat.blt k 26 then (bif Nat.beq k 23 then some (.invokevirtual 183, 26, []) else none) else (bif Nat.beq k 26 then some (.checkcast 294, 29, []) else none)) else (bif Nat.blt k 31 then (bif Nat.beq k 29 then some (.astore 7, 31, []) else none) else (bif Nat.blt k 32 then (bif Nat.beq k 31 then some (.lconst 0, 32, []) else none) else (bif Nat.beq k 32 then some (.lstore 8, 34, []) else none)))))) else (bif Nat.blt k 54 then (bif Nat.blt k 43 then (bif Nat.blt k 39 then (bif Nat.blt k 36 then (bif Nat.beq k 34 then some (.aload 7, 36, []) else none) else (bif Nat.beq k 36 then some (.invokevirtual 333, 39, []) else none)) else (bif Nat.blt k 41 then (bif Nat.beq k 39 then some (.istore 10, 41, []) else none) else (bif Nat.beq k 41 then some (.iload 10, 43, []) else none))) else (bif Nat.blt k 48 then (bif Nat.blt k 45 then (bif Nat.beq k 43 then some (.aload 7, 45, []) else none) else (bif Nat.beq k 45 then some (.invokevirtual 336, 48, []) else none)) else (bif Nat.blt k 51 then (bif Nat.beq k 48 then some (.if_icmp .gt 24, 51, [72]) else none) else (bif Nat.blt k 53 then (bif Nat.beq k 51 then some (.lload 8, 53, []) else none) else (bif Nat.beq k 53 then some (.aload_n 0, 54, []) else none))))) else (bif Nat.blt k 63 then (bif Nat.blt k 57 then (bif Nat.blt k 56 then (bif Nat.beq k 54 then some (.aload 7, 56, []) else none) else (bif Nat.beq k 56 then some (.iload_n 1, 57, []) else none)) else (bif Nat.blt k 59 then (bif Nat.beq k 57 then some (.iload 10, 59, []) else none) else (bif Nat.blt k 60 then (bif Nat.beq k 59 then some (.iload_n 2, 60, []) else none) else (bif Nat.beq k 60 then some (.invokevirtual 339, 63, []) else none)))) else (bif Nat.blt k 66 then (bif Nat.blt k 64 then (bif Nat.beq k 63 then some (.ladd, 64, []) else none) else (bif Nat.beq k 64 then some (.lstore 8, 66, []) else none)) else (bif Nat.blt k 69 then (bif Nat.beq k 66 then some (.iinc 10 1, 69, []) else none) else (bif Nat.blt k 72 then (bif Nat.beq k 69 then some (.goto (-28), 72, [41]) else none) else (bif Nat.beq k 72 then some (.aload 7, 74, []) else none))))))) else (bif Nat.blt k 109 then (bif Nat.blt k 94 then (bif Nat.blt k 84 then (bif Nat.blt k 78 then (bif Nat.blt k 75 then (bif Nat.beq k 74 then some (.iconst 1, 75, []) else none) else (bif Nat.beq k 75 then some (.invokevirtual 476, 78, []) else none)) else (bif Nat.blt k 81 then (bif Nat.beq k 78 then some (.ifCond .eq 9, 81, [87]) else none) else (bif Nat.beq k 81 then some (.sipush 200, 84, []) else none))) else (bif Nat.blt k 88 then (bif Nat.blt k 87 then (bif Nat.beq k 84 then some (.goto 4, 87, [88]) else none) else (bif Nat.beq k 87 then some (.iconst 1, 88, []) else none)) else (bif Nat.blt k 90 then (bif Nat.beq k 88 then some (.istore 10, 90, []) else none) else (bif Nat.blt k 91 then (bif Nat.beq k 90 then some (.aload_n 0, 91, []) else none) else (bif Nat.beq k 91 then some (.getfield 83, 94, []) else none))))) else (bif Nat.blt k 101 then (bif Nat.blt k 98 then (bif Nat.blt k 96 then (bif Nat.beq k 94 then some (.iload 6, 96, []) else none) else (bif Nat.beq k 96 then some (.lload 8, 98, []) else none)) else (bif Nat.blt k 100 then (bif Nat.beq k 98 then some (.iload 10, 100, []) else none) else (bif Nat.beq k 100 then some (.i2l, 101, []) else none))) else (bif Nat.blt k 104 then (bif Nat.blt k 102 then (bif Nat.beq k 101 then some (.lmul, 102, []) else none) else (bif Nat.beq k 102 then some (.aload 7, 104, []) else none)) else (bif Nat.blt k 107 then (bif Nat.beq k 104 then some (.getfield 310, 107, []) else none) else (bif Nat.blt k 108 then (bif Nat.beq k 107 then some (.i2l, 108, []) else none) else (bif Nat.beq k 108 then some (.lmul, 109, []) else none)))))) else (bif Nat.blt k 125 then (bif Nat.blt k 116 then (bif Nat.blt k 111 then (bif Nat.blt k 110 then (bif Nat.beq k 109 then some (.lastore, 110, []) else none) else (bif Nat.beq k 110 then some (.aload_n 0, 111, []) else none)) else (bif Nat.blt k 114 then (bif Nat.beq k 111 then some (.getfield 83, 114, []) else none) else (bif Nat.beq k 114 then some (.iload 6, 116, []) else none))) else (bif Nat.blt k 119 then (bif Nat.blt k 117 then (bif Nat.beq k 116 then some (.laload, 117, []) else none) else (bif Nat.beq k 117 then some (.lload 4, 119, []) else none)) else (bif Nat.blt k 120 then (bif Nat.beq k 119 then some (.lcmp, 120, []) else none) else (bif Nat.blt k 123 then (bif Nat.beq k 120 then some (.ifCond .le 15, 123, [135]) else none) else (bif Nat.beq k 123 then some (.iload 6, 125, []) else none))))) else (bif Nat.blt k 133 then (bif Nat.blt k 127 then (bif Nat.blt k 126 then (bif Nat.beq k 125 then some (.istore_n 3, 126, []) else none) else (bif Nat.beq k 126 then some (.aload_n 0, 127, []) else none)) else (bif Nat.blt k 130 then (bif Nat.beq k 127 then some (.getfield 83, 130, []) else none) else (bif Nat.blt k 132 then (bif Nat.beq k 130 then some (.iload 6, 132, []) else none) else (bif Nat.beq k 132 then some (.laload, 133, []) else none)))) else (bif Nat.blt k 138 then (bif Nat.blt k 135 then (bif Nat.beq k 133 then some (.lstore 4, 135, []) else none) else (bif Nat.beq k 135 then some (.iinc 6 1, 138, []) else none)) else (bif Nat.blt k 141 then (bif Nat.beq k 138 then some (.goto (-130), 141, [8]) else none) else (bif Nat.blt k 142 then (bif Nat.beq k 141 then some (.iload_n 3, 142, []) else none) else (bif Nat.beq k 142 then some (.ireturn, 143, []) else none)))))))) else none
noncomputable def P_C_greatestStory : MP := (T_C_greatestStory, (fun k => mLook k [(37, (12, 5, (.object "java/util/ArrayList"), true)), (83, (12, 15, (.array .long), true)), (310, (9, 1, .int, false))]), (fun k => mLook k []), (fun k => mLook k [(183, E_AL_get), (330, E_C_storyCount), (333, E_St_firstYear), (336, E_St_lastYear), (339, E_C_partOf), (476, E_St_hasTerm)]), (fun k => mLook k []), (fun k => mLook k []), (fun k => mLook k [(294, 9)]), (fun k => mLook k [(8, [true, true, true, true, true, false, true, false, false, false, false]), (41, [true, true, true, true, true, false, true, true, true, false, true])]), (fun k => [142].any (Nat.beq k)), (10, 227, 0, 0), false, (fun _ => none))
set_option maxRecDepth 100000 in
set_option maxHeartbeats 4000000 in
theorem q_C_greatestStory_e (a1 : Int32) (a2 : Int32) (σ : MSto) (n : Nat) : mexe KT P_C_greatestStory (n + 1) (0, [some (mR 12 0), some (mI a1), some (mI a2), none, none, none, none, none, none, none, none], [], σ, 0, 0) = mexe KT P_C_greatestStory n (8, [some (mR 12 0), some (mI a1), some (mI a2), some (mI (-1)), some (mJ 0), none, some (mI 0), none, none, none, none], [], σ, 0, 0) := rfl
set_option maxRecDepth 100000 in
set_option maxHeartbeats 4000000 in
theorem q_C_greatestStory_8 (x1 : Int32) (x2 : Int32) (x3 : Int32) (x4 : Int64) (x6 : Int32) (σ : MSto) (n : Nat) : mexe KT P_C_greatestStory (n + 1) (8, [some (mR 12 0), some (mI x1), some (mI x2), some (mI x3), some (mJ x4), none, some (mI x6), none, none, none, none], [], σ, 0, 0) = mIf ((v_C_storyCount σ) ≤ x6) (some (142, [], [(mI x3)], σ, 0, 0)) (mG (p_AL_get 15 0 x6 σ) (mexe KT P_C_greatestStory n (41, [some (mR 12 0), some (mI x1), some (mI x2), some (mI x3), some (mJ x4), none, some (mI x6), some (mR 9 (v_AL_get 15 0 x6 σ)), some (mJ 0), none, some (mI (v_St_firstYear (v_AL_get 15 0 x6 σ) σ))], [], σ, 0, 0))) := rfl
set_option maxRecDepth 100000 in
set_option maxHeartbeats 4000000 in
theorem q_C_greatestStory_41 (x1 : Int32) (x2 : Int32) (x3 : Int32) (x4 : Int64) (x6 : Int32) (r7 : Nat) (x8 : Int64) (x10 : Int32) (σ : MSto) (n : Nat) : mexe KT P_C_greatestStory (n + 1) (41, [some (mR 12 0), some (mI x1), some (mI x2), some (mI x3), some (mJ x4), none, some (mI x6), some (mR 9 r7), some (mJ x8), none, some (mI x10)], [], σ, 0, 0) = mIf ((v_St_lastYear r7 σ) < x10) (mIf ((v_St_hasTerm r7 1 σ) = 0) (mG (vp_in x6 6) (mG (vp_in x6 6) (mIf ((lg_cmp (gJ (sJ σ 28 0 (Int32.toNatClampNeg x6) ((x8 * (Int32.toInt64 1)) * (Int32.toInt64 (gI σ 9 r7 1)))) 28 0 (Int32.toNatClampNeg x6)) x4) ≤ 0) (mexe KT P_C_greatestStory n (8, [some (mR 12 0), some (mI x1), some (mI x2), some (mI x3), some (mJ x4), none, some (mI (x6 + 1)), none, none, none, none], [], (sJ σ 28 0 (Int32.toNatClampNeg x6) ((x8 * (Int32.toInt64 1)) * (Int32.toInt64 (gI σ 9 r7 1)))), 0, 0)) (mG (vp_in x6 6) (mexe KT P_C_greatestStory n (8, [some (mR 12 0), some (mI x1), some (mI x2), some (mI x6), some (mJ (gJ (sJ σ 28 0 (Int32.toNatClampNeg x6) ((x8 * (Int32.toInt64 1)) * (Int32.toInt64 (gI σ 9 r7 1)))) 28 0 (Int32.toNatClampNeg x6))), none, some (mI (x6 + 1)), none, none, none, none], [], (sJ σ 28 0 (Int32.toNatClampNeg x6) ((x8 * (Int32.toInt64 1)) * (Int32.toInt64 (gI σ 9 r7 1)))), 0, 0)))))) (mG (vp_in x6 6) (mG (vp_in x6 6) (mIf ((lg_cmp (gJ (sJ σ 28 0 (Int32.toNatClampNeg x6) ((x8 * (Int32.toInt64 200)) * (Int32.toInt64 (gI σ 9 r7 1)))) 28 0 (Int32.toNatClampNeg x6)) x4) ≤ 0) (mexe KT P_C_greatestStory n (8, [some (mR 12 0), some (mI x1), some (mI x2), some (mI x3), some (mJ x4), none, some (mI (x6 + 1)), none, none, none, none], [], (sJ σ 28 0 (Int32.toNatClampNeg x6) ((x8 * (Int32.toInt64 200)) * (Int32.toInt64 (gI σ 9 r7 1)))), 0, 0)) (mG (vp_in x6 6) (mexe KT P_C_greatestStory n (8, [some (mR 12 0), some (mI x1), some (mI x2), some (mI x6), some (mJ (gJ (sJ σ 28 0 (Int32.toNatClampNeg x6) ((x8 * (Int32.toInt64 200)) * (Int32.toInt64 (gI σ 9 r7 1)))) 28 0 (Int32.toNatClampNeg x6))), none, some (mI (x6 + 1)), none, none, none, none], [], (sJ σ 28 0 (Int32.toNatClampNeg x6) ((x8 * (Int32.toInt64 200)) * (Int32.toInt64 (gI σ 9 r7 1)))), 0, 0))))))) (mG (p_C_partOf r7 x1 x10 x2 σ) (mexe KT P_C_greatestStory n (41, [some (mR 12 0), some (mI x1), some (mI x2), some (mI x3), some (mJ x4), none, some (mI x6), some (mR 9 r7), some (mJ (x8 + (v_C_partOf r7 x1 x10 x2 σ))), none, some (mI (x10 + 1))], [], σ, 0, 0))) := rfl
set_option maxRecDepth 100000 in
theorem lt_C_greatestStory_41 {Post : MST → Prop} (x1 : Int32) (x2 : Int32) (x3 : Int32) (x4 : Int64) (x6 : Int32) (r7 : Nat) (c : Int32) (σ : MSto) (s : Int64) (hp : g_C_greatestStory_41 x1 x2 x3 x4 x6 r7 c σ s) (hq : ¬ q_C_greatestStory_41s x1 x2 x3 x4 x6 r7 c σ s = 1) (hn : ∀ r, t_C_greatestStory_41 x1 x2 x3 x4 x6 r7 c σ s = r → mW1 P_C_greatestStory (41, [some (mR 12 0), some (mI x1), some (mI x2), some (mI x3), some (mJ x4), none, some (mI x6), some (mR 9 r7), some (mJ r), none, some (mI (c + 1))], [], σ, 0, 0) Post) : mW1 P_C_greatestStory (41, [some (mR 12 0), some (mI x1), some (mI x2), some (mI x3), some (mJ x4), none, some (mI x6), some (mR 9 r7), some (mJ s), none, some (mI c)], [], σ, 0, 0) Post := by
  unfold g_C_greatestStory_41 at hp
  refine mW1_eq (q_C_greatestStory_41 _ _ _ _ _ _ _ _ _) ?_
  refine mTr_if (fun h0 => ?_) (fun h0 => ?_)
  · skip
    exact absurd (if_pos h0) hq
  · skip
    have hp := hp h0
    refine mTr_g hp ?_
    exact mTr_k (hn (s + (v_C_partOf r7 x1 c x2 σ)) (if_neg h0))
theorem lp_C_greatestStory_41 {Post : MST → Prop} (x1 : Int32) (x2 : Int32) (x3 : Int32) (x4 : Int64) (x6 : Int32) (r7 : Nat) (c0 : Int32) (σ : MSto) (s0 : Int64) (N : Nat) (hb : ∀ i, i < N → g_C_greatestStory_41 x1 x2 x3 x4 x6 r7 (c0 + nI i) σ (f_C_greatestStory_41 x1 x2 x3 x4 x6 r7 c0 σ s0 i) ∧ ¬ q_C_greatestStory_41s x1 x2 x3 x4 x6 r7 (c0 + nI i) σ (f_C_greatestStory_41 x1 x2 x3 x4 x6 r7 c0 σ s0 i) = 1) (h : mW1 P_C_greatestStory (41, [some (mR 12 0), some (mI x1), some (mI x2), some (mI x3), some (mJ x4), none, some (mI x6), some (mR 9 r7), some (mJ (f_C_greatestStory_41 x1 x2 x3 x4 x6 r7 c0 σ s0 N)), none, some (mI (c0 + nI N))], [], σ, 0, 0) Post) : mW1 P_C_greatestStory (41, [some (mR 12 0), some (mI x1), some (mI x2), some (mI x3), some (mJ x4), none, some (mI x6), some (mR 9 r7), some (mJ s0), none, some (mI c0)], [], σ, 0, 0) Post := by
  refine mW1_st (mW1_loop (fun i => (41, [some (mR 12 0), some (mI x1), some (mI x2), some (mI x3), some (mJ x4), none, some (mI x6), some (mR 9 r7), some (mJ (f_C_greatestStory_41 x1 x2 x3 x4 x6 r7 c0 σ s0 i)), none, some (mI (c0 + nI i))], [], σ, 0, 0)) N (fun i hlt hn => ?_) h) (by rw [show nI 0 = 0 from rfl, Int32.add_zero] <;> rfl)
  refine lt_C_greatestStory_41 x1 x2 x3 x4 x6 r7 _ σ _ (hb i hlt).1 (hb i hlt).2 (fun r hr => ?_)
  rw [Int32.add_assoc, nI_s]
  subst hr
  exact hn
set_option maxRecDepth 100000 in
theorem lt_C_greatestStory_8 {Post : MST → Prop} (x1 : Int32) (x2 : Int32) (c : Int32) (s : Int32 × Int64 × MSto) (hp : g_C_greatestStory_8 x1 x2 c s) (hq : ¬ q_C_greatestStory_8s x1 x2 c s = 1) (hn : ∀ (r1 : Int32) (r2 : Int64) (r3 : MSto), t_C_greatestStory_8 x1 x2 c s = (r1, r2, r3) → mW1 P_C_greatestStory (8, [some (mR 12 0), some (mI x1), some (mI x2), some (mI r1), some (mJ r2), none, some (mI (c + 1)), none, none, none, none], [], r3, 0, 0) Post) : mW1 P_C_greatestStory (8, [some (mR 12 0), some (mI x1), some (mI x2), some (mI (s.1)), some (mJ (s.2.1)), none, some (mI c), none, none, none, none], [], (s.2.2), 0, 0) Post := by
  unfold g_C_greatestStory_8 at hp
  refine mW1_eq (q_C_greatestStory_8 _ _ _ _ _ _) ?_
  refine mTr_if (fun h0 => ?_) (fun h0 => ?_)
  · skip
    exact absurd (if_pos h0) hq
  · skip
    have hp := hp h0
    refine mTr_g hp.1 ?_
    have hp := hp.2
    refine mTr_k (lp_C_greatestStory_41 x1 x2 (s.1) (s.2.1) c (v_AL_get 15 0 c (s.2.2)) (v_St_firstYear (v_AL_get 15 0 c (s.2.2)) (s.2.2)) (s.2.2) 0 (n_C_greatestStory_41 x1 x2 (s.1) (s.2.1) c (v_AL_get 15 0 c (s.2.2)) (v_St_firstYear (v_AL_get 15 0 c (s.2.2)) (s.2.2)) (s.2.2) 0) hp.1 ?_)
    have hp := hp.2
    refine mW1_eq (q_C_greatestStory_41 _ _ _ _ _ _ _ _ _) ?_
    refine mTr_if (fun h1 => ?_) (fun h1 => ?_)
    · skip
      have hp := hp.1 h1
      refine mTr_if (fun h2 => ?_) (fun h2 => ?_)
      · skip
        have hp := hp.1 h2
        refine mTr_g hp.1 ?_
        have hp := hp.2
        refine mTr_g hp.1 ?_
        have hp := hp.2
        refine mTr_if (fun h3 => ?_) (fun h3 => ?_)
        · skip
          exact mTr_k (hn (s.1) (s.2.1) (sJ (s.2.2) 28 0 (Int32.toNatClampNeg c) (((f_C_greatestStory_41 x1 x2 (s.1) (s.2.1) c (v_AL_get 15 0 c (s.2.2)) (v_St_firstYear (v_AL_get 15 0 c (s.2.2)) (s.2.2)) (s.2.2) 0 (n_C_greatestStory_41 x1 x2 (s.1) (s.2.1) c (v_AL_get 15 0 c (s.2.2)) (v_St_firstYear (v_AL_get 15 0 c (s.2.2)) (s.2.2)) (s.2.2) 0)) * (Int32.toInt64 1)) * (Int32.toInt64 (gI (s.2.2) 9 (v_AL_get 15 0 c (s.2.2)) 1)))) ((if_neg h0).trans ((if_pos h2).trans (if_pos h3))))
        · skip
          have hp := hp h3
          refine mTr_g hp ?_
          exact mTr_k (hn c (gJ (sJ (s.2.2) 28 0 (Int32.toNatClampNeg c) (((f_C_greatestStory_41 x1 x2 (s.1) (s.2.1) c (v_AL_get 15 0 c (s.2.2)) (v_St_firstYear (v_AL_get 15 0 c (s.2.2)) (s.2.2)) (s.2.2) 0 (n_C_greatestStory_41 x1 x2 (s.1) (s.2.1) c (v_AL_get 15 0 c (s.2.2)) (v_St_firstYear (v_AL_get 15 0 c (s.2.2)) (s.2.2)) (s.2.2) 0)) * (Int32.toInt64 1)) * (Int32.toInt64 (gI (s.2.2) 9 (v_AL_get 15 0 c (s.2.2)) 1)))) 28 0 (Int32.toNatClampNeg c)) (sJ (s.2.2) 28 0 (Int32.toNatClampNeg c) (((f_C_greatestStory_41 x1 x2 (s.1) (s.2.1) c (v_AL_get 15 0 c (s.2.2)) (v_St_firstYear (v_AL_get 15 0 c (s.2.2)) (s.2.2)) (s.2.2) 0 (n_C_greatestStory_41 x1 x2 (s.1) (s.2.1) c (v_AL_get 15 0 c (s.2.2)) (v_St_firstYear (v_AL_get 15 0 c (s.2.2)) (s.2.2)) (s.2.2) 0)) * (Int32.toInt64 1)) * (Int32.toInt64 (gI (s.2.2) 9 (v_AL_get 15 0 c (s.2.2)) 1)))) ((if_neg h0).trans ((if_pos h2).trans (if_neg h3))))
      · skip
        have hp := hp.2 h2
        refine mTr_g hp.1 ?_
        have hp := hp.2
        refine mTr_g hp.1 ?_
        have hp := hp.2
        refine mTr_if (fun h3 => ?_) (fun h3 => ?_)
        · skip
          exact mTr_k (hn (s.1) (s.2.1) (sJ (s.2.2) 28 0 (Int32.toNatClampNeg c) (((f_C_greatestStory_41 x1 x2 (s.1) (s.2.1) c (v_AL_get 15 0 c (s.2.2)) (v_St_firstYear (v_AL_get 15 0 c (s.2.2)) (s.2.2)) (s.2.2) 0 (n_C_greatestStory_41 x1 x2 (s.1) (s.2.1) c (v_AL_get 15 0 c (s.2.2)) (v_St_firstYear (v_AL_get 15 0 c (s.2.2)) (s.2.2)) (s.2.2) 0)) * (Int32.toInt64 200)) * (Int32.toInt64 (gI (s.2.2) 9 (v_AL_get 15 0 c (s.2.2)) 1)))) ((if_neg h0).trans ((if_neg h2).trans (if_pos h3))))
        · skip
          have hp := hp h3
          refine mTr_g hp ?_
          exact mTr_k (hn c (gJ (sJ (s.2.2) 28 0 (Int32.toNatClampNeg c) (((f_C_greatestStory_41 x1 x2 (s.1) (s.2.1) c (v_AL_get 15 0 c (s.2.2)) (v_St_firstYear (v_AL_get 15 0 c (s.2.2)) (s.2.2)) (s.2.2) 0 (n_C_greatestStory_41 x1 x2 (s.1) (s.2.1) c (v_AL_get 15 0 c (s.2.2)) (v_St_firstYear (v_AL_get 15 0 c (s.2.2)) (s.2.2)) (s.2.2) 0)) * (Int32.toInt64 200)) * (Int32.toInt64 (gI (s.2.2) 9 (v_AL_get 15 0 c (s.2.2)) 1)))) 28 0 (Int32.toNatClampNeg c)) (sJ (s.2.2) 28 0 (Int32.toNatClampNeg c) (((f_C_greatestStory_41 x1 x2 (s.1) (s.2.1) c (v_AL_get 15 0 c (s.2.2)) (v_St_firstYear (v_AL_get 15 0 c (s.2.2)) (s.2.2)) (s.2.2) 0 (n_C_greatestStory_41 x1 x2 (s.1) (s.2.1) c (v_AL_get 15 0 c (s.2.2)) (v_St_firstYear (v_AL_get 15 0 c (s.2.2)) (s.2.2)) (s.2.2) 0)) * (Int32.toInt64 200)) * (Int32.toInt64 (gI (s.2.2) 9 (v_AL_get 15 0 c (s.2.2)) 1)))) ((if_neg h0).trans ((if_neg h2).trans (if_neg h3))))
    · skip
      have hp := hp.2 h1
      exact hp.elim
theorem lp_C_greatestStory_8 {Post : MST → Prop} (x1 : Int32) (x2 : Int32) (c0 : Int32) (s0 : Int32 × Int64 × MSto) (N : Nat) (hb : ∀ i, i < N → g_C_greatestStory_8 x1 x2 (c0 + nI i) (f_C_greatestStory_8 x1 x2 c0 s0 i) ∧ ¬ q_C_greatestStory_8s x1 x2 (c0 + nI i) (f_C_greatestStory_8 x1 x2 c0 s0 i) = 1) (h : mW1 P_C_greatestStory (8, [some (mR 12 0), some (mI x1), some (mI x2), some (mI ((f_C_greatestStory_8 x1 x2 c0 s0 N).1)), some (mJ ((f_C_greatestStory_8 x1 x2 c0 s0 N).2.1)), none, some (mI (c0 + nI N)), none, none, none, none], [], ((f_C_greatestStory_8 x1 x2 c0 s0 N).2.2), 0, 0) Post) : mW1 P_C_greatestStory (8, [some (mR 12 0), some (mI x1), some (mI x2), some (mI (s0.1)), some (mJ (s0.2.1)), none, some (mI c0), none, none, none, none], [], (s0.2.2), 0, 0) Post := by
  refine mW1_st (mW1_loop (fun i => (8, [some (mR 12 0), some (mI x1), some (mI x2), some (mI ((f_C_greatestStory_8 x1 x2 c0 s0 i).1)), some (mJ ((f_C_greatestStory_8 x1 x2 c0 s0 i).2.1)), none, some (mI (c0 + nI i)), none, none, none, none], [], ((f_C_greatestStory_8 x1 x2 c0 s0 i).2.2), 0, 0)) N (fun i hlt hn => ?_) h) (by rw [show nI 0 = 0 from rfl, Int32.add_zero] <;> rfl)
  refine lt_C_greatestStory_8 x1 x2 _ _ (hb i hlt).1 (hb i hlt).2 (fun r1 r2 r3 hr => ?_)
  rw [Int32.add_assoc, nI_s]
  have e : f_C_greatestStory_8 x1 x2 c0 s0 (i + 1) = (r1, r2, r3) := hr
  try dsimp only at hn
  rw [e] at hn
  exact hn
set_option maxRecDepth 100000 in
set_option maxHeartbeats 4000000 in
theorem d_C_greatestStory (a1 : Int32) (a2 : Int32) (σ : MSto) (hp : p_C_greatestStory a1 a2 σ) : mW1 P_C_greatestStory (0, [some (mR 12 0), some (mI a1), some (mI a2), none, none, none, none, none, none, none, none], [], σ, 0, 0) (mF [142] [mI (v_C_greatestStory a1 a2 σ)] (e_C_greatestStory a1 a2 σ) 0 0) := by
  refine mW1_eq (q_C_greatestStory_e _ _ _) ?_
  unfold p_C_greatestStory at hp
  refine mTr_k (lp_C_greatestStory_8 a1 a2 0 ((-1), 0, σ) (n_C_greatestStory_8 a1 a2 0 ((-1), 0, σ)) hp.1 ?_)
  have hp := hp.2
  refine mW1_eq (q_C_greatestStory_8 _ _ _ _ _ _) ?_
  refine mTr_if (fun h0 => ?_) (fun h0 => ?_)
  · skip
    exact mTr_e (by decide) (congrArg (fun z => [mI z]) (Eq.symm (rfl))) (Eq.symm (rfl)) (by decide) (by decide)
  · skip
    have hp := hp h0
    exact hp.elim

theorem li_C_339 : mLink "ClothWithMan" 339 E_C_partOf := ⟨tw_4_103, tw_1_1, ⟨by decide, by decide⟩, by decide +kernel, Or.inl tw_4_100, (fun h => by cases h), (fun _ => ⟨tw_4_102, tw_0_28, TX11, 20, rfl⟩), (fun h => by cases h)⟩

theorem li_C_336 : mLink "ClothWithMan" 336 E_St_lastYear := ⟨tw_4_99, tw_1_23, ⟨by decide, by decide⟩, by decide +kernel, Or.inl tw_4_96, (fun h => by cases h), (fun _ => ⟨tw_4_97, tw_4_98, TX8, 9, rfl⟩), (fun h => by cases h)⟩

theorem li_C_333 : mLink "ClothWithMan" 333 E_St_firstYear := ⟨tw_4_95, tw_1_23, ⟨by decide, by decide⟩, by decide +kernel, Or.inl tw_4_92, (fun h => by cases h), (fun _ => ⟨tw_4_93, tw_4_94, TX8, 9, rfl⟩), (fun h => by cases h)⟩



theorem tk_C_greatestStory : ∀ pc i nx tg, T_C_greatestStory pc = some (i, nx, tg) → mOkB prog_1_method_93_code pc i nx tg = true := code_ok (N := 143) (fun k h => by unfold T_C_greatestStory; rw [h]; rfl) (by decide +kernel)
theorem ok_C_greatestStory (l : Launch) : mPOK l "ClothWithMan" prog_1_method_93_code P_C_greatestStory := by
  refine ⟨tk_C_greatestStory, ?_, ?_, ?_, (fun pc i nx tg kd _ h => by cases h), ?_, ?_, fun pc en h => by cases h⟩
  · intro x ci f ty fin h
    exact mLook_all (Q := fun x v => mFOK "ClothWithMan" x v.1 v.2.1 v.2.2.1 v.2.2.2 ∧ (v.2.2.2 = true → pIni P_C_greatestStory = true → (Cond.fieldLink "ClothWithMan" x (((mCl[v.1]?).getD ("", fun _ => ("", "", "", false), 0)).2.1 v.2.1).1 (((mCl[v.1]?).getD ("", fun _ => ("", "", "", false), 0)).2.1 v.2.1).2.1 (((mCl[v.1]?).getD ("", fun _ => ("", "", "", false), 0)).2.1 v.2.1).2.2.1 ∈ lw_tbl ∧ (((mCl[v.1]?).getD ("", fun _ => ("", "", "", false), 0)).2.1 v.2.1).1 = "ClothWithMan"))) (fcC ⟨fo_C_37, fun h1 h2 => by cases h2⟩ (fcC ⟨fo_C_83, fun h1 h2 => by cases h2⟩ (fcC ⟨fo_C_310, fun h1 h2 => by cases h1⟩ fcN))) x (ci, f, ty, fin) h
  · intro x
    have hh := mLook_all (l := ([] : List (Nat × (Int32 ⊕ Int64)))) (Q := fun x (v : Int32 ⊕ Int64) => (∀ w, v = .inl w → Cond.constant "ClothWithMan" x w ∈ lw_tbl) ∧ (∀ w, v = .inr w → Cond.constantLong "ClothWithMan" x w ∈ lw_tbl)) fcN x
    exact ⟨fun w h => (hh _ h).1 w rfl, fun w h => (hh _ h).2 w rfl⟩
  · exact fun x en h => mLook_all (Q := fun x en => mLink "ClothWithMan" x en ∧ mCtr l en ∧ (en.1.1 = 2 → en.2.2.2.2.2.2 = none)) (fcC ⟨li_C_183, c_AL_get l, (fun h => by cases h)⟩ (fcC ⟨li_C_330, c_C_storyCount l, (fun h => by cases h)⟩ (fcC ⟨li_C_333, c_St_firstYear l, (fun h => by cases h)⟩ (fcC ⟨li_C_336, c_St_lastYear l, (fun h => by cases h)⟩ (fcC ⟨li_C_339, c_C_partOf l, (fun h => by cases h)⟩ (fcC ⟨li_C_476, c_St_hasTerm l, (fun h => by cases h)⟩ fcN)))))) x en h
  · exact fun x kd h => mLook_all (Q := fun x kd => (kd = 95 ∧ Cond.fieldLink "ClothWithMan" x "ClothWithMan" "LIKENESSES" "[I" ∈ lw_tbl) ∨ (kd = 96 ∧ Cond.fieldLink "ClothWithMan" x "ClothWithMan" "APART_BOUNDS" "[I" ∈ lw_tbl)) fcN x kd h
  · exact fun x ci h => mLook_all (Q := fun x ci => ci ≠ 0 ∧ ∃ (C : String) (T : u_T) (N : Nat), mCl[ci]? = some (C, T, N) ∧ Cond.classLink "ClothWithMan" x C ∈ lw_tbl ∧ Cond.instantiable C N ∈ lw_tbl) (fcC ⟨by decide, "ClothWithMan$Story", TX8, 9, rfl, tw_3_215, tw_3_216⟩ fcN) x ci h
set_option maxRecDepth 100000 in
theorem c_C_greatestStory (l : Launch) : mCtr l E_C_greatestStory := mCtr_of (P := P_C_greatestStory) (own := "ClothWithMan") mLay_ok rfl (by decide +kernel) rfl (ok_C_greatestStory l) (fun h => by cases h) (fun as σ pr rv σ' hF hpr hlv => by
  unfold E_C_greatestStory S_C_greatestStory at hF
  simp only [] at hF
  split at hF
  · cases hF
    obtain ⟨n, pcF, c1, s1, g1, g2, g3, g4⟩ := mF_inv (d_C_greatestStory _ _ σ (hpr _ rfl))
    exact ⟨Nat.le_of_ble_eq_true rfl, (fun v h => by cases h; trivial), n, pcF, c1, s1, g1, ⟨mEnd_of (i := .ireturn) (P := P_C_greatestStory) (rets := [142]) rfl g2, rfl⟩, g3, g4⟩
  · cases hF
    exact (hpr _ rfl).elim)
/-! ClothWithMan.allPairs()I -/
noncomputable def v_C_allPairs  (σ : MSto) : Int32 := (((1 : Int32) <<< ((((v_C_storyCount σ) * ((v_C_storyCount σ) - 1)) / 2) &&& 31)) - 1)
noncomputable def S_C_allPairs : List MV → MSto → Option Prop × Option MV × MSto := fun as σ => match as with
  | [.inr (.inr (some (12, 0)))] => (none, some (mI (v_C_allPairs σ)), σ)
  | _ => (some False, none, σ)
noncomputable def E_C_allPairs : MEnt := ((1, 0, 12), (2, 41, 0, 0), S_C_allPairs, ((⟨"ClothWithMan", "allPairs", "()I"⟩ : MethodName), prog_1_method_94_code, 2, (some .int)))

def T_C_allPairs : Nat → Option (Instr × Nat × List Nat) := fun k => bif Nat.blt k 17 then (bif Nat.blt k 9 then (bif Nat.blt k 5 then (bif Nat.blt k 1 then (bif Nat.beq k 0 then some (.aload_n 0, 1, []) else none) else (bif Nat.blt k 4 then (bif Nat.beq k 1 then some (.invokevirtual 330, 4, []) else none) else (bif Nat.beq k 4 then some (.istore_n 1, 5, []) else none))) else (bif Nat.blt k 7 then (bif Nat.blt k 6 then (bif Nat.beq k 5 then some (.iconst 1, 6, []) else none) else (bif Nat.beq k 6 then some (.iload_n 1, 7, []) else none)) else (bif Nat.blt k 8 then (bif Nat.beq k 7 then some (.iload_n 1, 8, []) else none) else (bif Nat.beq k 8 then some (.iconst 1, 9, []) else none)))) else (bif Nat.blt k 13 then (bif Nat.blt k 11 then (bif Nat.blt k 10 then (bif Nat.beq k 9 then some (.isub, 10, []) else none) else (bif Nat.beq k 10 then some (.imul, 11, []) else none)) else (bif Nat.blt k 12 then (bif Nat.beq k 11 then some (.iconst 2, 12, []) else none) else (bif Nat.beq k 12 then some (.idiv, 13, []) else none))) else (bif Nat.blt k 15 then (bif Nat.blt k 14 then (bif Nat.beq k 13 then some (.ishl, 14, []) else none) else (bif Nat.beq k 14 then some (.iconst 1, 15, []) else none)) else (bif Nat.blt k 16 then (bif Nat.beq k 15 then some (.isub, 16, []) else none) else (bif Nat.beq k 16 then some (.ireturn, 17, []) else none))))) else none
noncomputable def P_C_allPairs : MP := (T_C_allPairs, (fun k => mLook k []), (fun k => mLook k []), (fun k => mLook k [(330, E_C_storyCount)]), (fun k => mLook k []), (fun k => mLook k []), (fun k => mLook k []), (fun k => mLook k []), (fun k => [16].any (Nat.beq k)), (2, 41, 0, 0), false, (fun _ => none))
set_option maxRecDepth 100000 in
set_option maxHeartbeats 4000000 in
theorem q_C_allPairs_e  (σ : MSto) (n : Nat) : mexe KT P_C_allPairs (n + 1) (0, [some (mR 12 0), none], [], σ, 0, 0) = mG (¬ (2 : Int32) = 0) (some (16, [], [(mI (((1 : Int32) <<< ((((v_C_storyCount σ) * ((v_C_storyCount σ) - 1)) / 2) &&& 31)) - 1))], σ, 0, 0)) := rfl
set_option maxRecDepth 100000 in
set_option maxHeartbeats 4000000 in
theorem d_C_allPairs  (σ : MSto) : mW1 P_C_allPairs (0, [some (mR 12 0), none], [], σ, 0, 0) (mF [16] [mI (v_C_allPairs σ)] σ 0 0) := by
  refine mW1_eq (q_C_allPairs_e  _) ?_
  refine mTr_g (by decide) ?_
  exact mTr_e (by decide) (congrArg (fun z => [mI z]) (Eq.symm (rfl))) rfl (by decide) (by decide)

theorem tk_C_allPairs : ∀ pc i nx tg, T_C_allPairs pc = some (i, nx, tg) → mOkB prog_1_method_94_code pc i nx tg = true := code_ok (N := 17) (fun k h => by unfold T_C_allPairs; rw [h]; rfl) (by decide +kernel)
theorem ok_C_allPairs (l : Launch) : mPOK l "ClothWithMan" prog_1_method_94_code P_C_allPairs := by
  refine ⟨tk_C_allPairs, ?_, ?_, ?_, (fun pc i nx tg kd _ h => by cases h), ?_, ?_, fun pc en h => by cases h⟩
  · intro x ci f ty fin h
    exact mLook_all (Q := fun x v => mFOK "ClothWithMan" x v.1 v.2.1 v.2.2.1 v.2.2.2 ∧ (v.2.2.2 = true → pIni P_C_allPairs = true → (Cond.fieldLink "ClothWithMan" x (((mCl[v.1]?).getD ("", fun _ => ("", "", "", false), 0)).2.1 v.2.1).1 (((mCl[v.1]?).getD ("", fun _ => ("", "", "", false), 0)).2.1 v.2.1).2.1 (((mCl[v.1]?).getD ("", fun _ => ("", "", "", false), 0)).2.1 v.2.1).2.2.1 ∈ lw_tbl ∧ (((mCl[v.1]?).getD ("", fun _ => ("", "", "", false), 0)).2.1 v.2.1).1 = "ClothWithMan"))) fcN x (ci, f, ty, fin) h
  · intro x
    have hh := mLook_all (l := ([] : List (Nat × (Int32 ⊕ Int64)))) (Q := fun x (v : Int32 ⊕ Int64) => (∀ w, v = .inl w → Cond.constant "ClothWithMan" x w ∈ lw_tbl) ∧ (∀ w, v = .inr w → Cond.constantLong "ClothWithMan" x w ∈ lw_tbl)) fcN x
    exact ⟨fun w h => (hh _ h).1 w rfl, fun w h => (hh _ h).2 w rfl⟩
  · exact fun x en h => mLook_all (Q := fun x en => mLink "ClothWithMan" x en ∧ mCtr l en ∧ (en.1.1 = 2 → en.2.2.2.2.2.2 = none)) (fcC ⟨li_C_330, c_C_storyCount l, (fun h => by cases h)⟩ fcN) x en h
  · exact fun x kd h => mLook_all (Q := fun x kd => (kd = 95 ∧ Cond.fieldLink "ClothWithMan" x "ClothWithMan" "LIKENESSES" "[I" ∈ lw_tbl) ∨ (kd = 96 ∧ Cond.fieldLink "ClothWithMan" x "ClothWithMan" "APART_BOUNDS" "[I" ∈ lw_tbl)) fcN x kd h
  · exact fun x ci h => mLook_all (Q := fun x ci => ci ≠ 0 ∧ ∃ (C : String) (T : u_T) (N : Nat), mCl[ci]? = some (C, T, N) ∧ Cond.classLink "ClothWithMan" x C ∈ lw_tbl ∧ Cond.instantiable C N ∈ lw_tbl) fcN x ci h
set_option maxRecDepth 100000 in
theorem c_C_allPairs (l : Launch) : mCtr l E_C_allPairs := mCtr_of (P := P_C_allPairs) (own := "ClothWithMan") mLay_ok rfl (by decide +kernel) rfl (ok_C_allPairs l) (fun h => by cases h) (fun as σ pr rv σ' hF hpr hlv => by
  unfold E_C_allPairs S_C_allPairs at hF
  simp only [] at hF
  split at hF
  · cases hF
    obtain ⟨n, pcF, c1, s1, g1, g2, g3, g4⟩ := mF_inv (d_C_allPairs σ)
    exact ⟨Nat.le_of_ble_eq_true rfl, (fun v h => by cases h; trivial), n, pcF, c1, s1, g1, ⟨mEnd_of (i := .ireturn) (P := P_C_allPairs) (rets := [16]) rfl g2, rfl⟩, g3, g4⟩
  · cases hF
    exact (hpr _ rfl).elim)
/-! ClothWithMan.layBares(IIII)V -/
noncomputable def t_C_layBares_3 (x1 : Int32) (x2 : Int32) (x3 : Int32) (x4 : Int32) (c : Int32) (s : MSto) : MSto := (if (v_C_storyCount s) ≤ c then s else (sI s 29 0 (Int32.toNatClampNeg c) (v_C_bareOf (v_AL_get 15 0 c s) x1 x2 x3 x4 s)))
noncomputable def q_C_layBares_3s (x1 : Int32) (x2 : Int32) (x3 : Int32) (x4 : Int32) (c : Int32) (s : MSto) : Nat := (if (v_C_storyCount s) ≤ c then 1 else 0)
def g_C_layBares_3 (x1 : Int32) (x2 : Int32) (x3 : Int32) (x4 : Int32) (c : Int32) (s : MSto) : Prop := (¬ ((v_C_storyCount s) ≤ c) → ((p_AL_get 15 0 c s) ∧ ((p_C_bareOf (v_AL_get 15 0 c s) x1 x2 x3 x4 s) ∧ (vp_in c 6))))
noncomputable def f_C_layBares_3 (x1 : Int32) (x2 : Int32) (x3 : Int32) (x4 : Int32) (c0 : Int32) (s0 : MSto) (n : Nat) : MSto := nfold (fun i s => t_C_layBares_3 x1 x2 x3 x4 (c0 + nI i) s) s0 n
noncomputable def n_C_layBares_3 (x1 : Int32) (x2 : Int32) (x3 : Int32) (x4 : Int32) (c0 : Int32) (s0 : MSto) : Nat := (v_C_storyCount s0).toNatClampNeg
def p_C_layBares (a1 : Int32) (a2 : Int32) (a3 : Int32) (a4 : Int32) (σ : MSto) : Prop := ((∀ i, i < (n_C_layBares_3 a1 a2 a3 a4 0 σ) → g_C_layBares_3 a1 a2 a3 a4 (0 + nI i) (f_C_layBares_3 a1 a2 a3 a4 0 σ i) ∧ ¬ q_C_layBares_3s a1 a2 a3 a4 (0 + nI i) (f_C_layBares_3 a1 a2 a3 a4 0 σ i) = 1) ∧ (¬ ((v_C_storyCount (f_C_layBares_3 a1 a2 a3 a4 0 σ (n_C_layBares_3 a1 a2 a3 a4 0 σ))) ≤ (0 + nI (n_C_layBares_3 a1 a2 a3 a4 0 σ))) → False))
noncomputable def e_C_layBares (a1 : Int32) (a2 : Int32) (a3 : Int32) (a4 : Int32) (σ : MSto) : MSto := (f_C_layBares_3 a1 a2 a3 a4 0 σ (n_C_layBares_3 a1 a2 a3 a4 0 σ))
noncomputable def S_C_layBares : List MV → MSto → Option Prop × Option MV × MSto := fun as σ => match as with
  | [.inr (.inr (some (12, 0))), .inl a0, .inl a1, .inl a2, .inl a3] => (some (p_C_layBares a0 a1 a2 a3 σ), none, e_C_layBares a0 a1 a2 a3 σ)
  | _ => (some False, none, σ)
noncomputable def E_C_layBares : MEnt := ((1, 4, 12), (8, 176, 0, 0), S_C_layBares, ((⟨"ClothWithMan", "layBares", "(IIII)V"⟩ : MethodName), prog_1_method_95_code, 6, none))

def T_C_layBares : Nat → Option (Instr × Nat × List Nat) := fun k => bif Nat.blt k 47 then (bif Nat.blt k 23 then (bif Nat.blt k 12 then (bif Nat.blt k 5 then (bif Nat.blt k 1 then (bif Nat.beq k 0 then some (.iconst 0, 1, []) else none) else (bif Nat.blt k 3 then (bif Nat.beq k 1 then some (.istore 5, 3, []) else none) else (bif Nat.beq k 3 then some (.iload 5, 5, []) else none))) else (bif Nat.blt k 6 then (bif Nat.beq k 5 then some (.aload_n 0, 6, []) else none) else (bif Nat.blt k 9 then (bif Nat.beq k 6 then some (.invokevirtual 330, 9, []) else none) else (bif Nat.beq k 9 then some (.if_icmp .ge 37, 12, [46]) else none)))) else (bif Nat.blt k 18 then (bif Nat.blt k 13 then (bif Nat.beq k 12 then some (.aload_n 0, 13, []) else none) else (bif Nat.blt k 16 then (bif Nat.beq k 13 then some (.getfield 86, 16, []) else none) else (bif Nat.beq k 16 then some (.iload 5, 18, []) else none))) else (bif Nat.blt k 19 then (bif Nat.beq k 18 then some (.aload_n 0, 19, []) else none) else (bif Nat.blt k 20 then (bif Nat.beq k 19 then some (.aload_n 0, 20, []) else none) else (bif Nat.beq k 20 then some (.getfield 37, 23, []) else none))))) else (bif Nat.blt k 34 then (bif Nat.blt k 31 then (bif Nat.blt k 25 then (bif Nat.beq k 23 then some (.iload 5, 25, []) else none) else (bif Nat.blt k 28 then (bif Nat.beq k 25 then some (.invokevirtual 183, 28, []) else none) else (bif Nat.beq k 28 then some (.checkcast 294, 31, []) else none))) else (bif Nat.blt k 32 then (bif Nat.beq k 31 then some (.iload_n 1, 32, []) else none) else (bif Nat.blt k 33 then (bif Nat.beq k 32 then some (.iload_n 2, 33, []) else none) else (bif Nat.beq k 33 then some (.iload_n 3, 34, []) else none)))) else (bif Nat.blt k 40 then (bif Nat.blt k 36 then (bif Nat.beq k 34 then some (.iload 4, 36, []) else none) else (bif Nat.blt k 39 then (bif Nat.beq k 36 then some (.invokevirtual 491, 39, []) else none) else (bif Nat.beq k 39 then some (.iastore, 40, []) else none))) else (bif Nat.blt k 43 then (bif Nat.beq k 40 then some (.iinc 5 1, 43, []) else none) else (bif Nat.blt k 46 then (bif Nat.beq k 43 then some (.goto (-40), 46, [3]) else none) else (bif Nat.beq k 46 then some (.return_, 47, []) else none)))))) else none
noncomputable def P_C_layBares : MP := (T_C_layBares, (fun k => mLook k [(37, (12, 5, (.object "java/util/ArrayList"), true)), (86, (12, 16, (.array .int), true))]), (fun k => mLook k []), (fun k => mLook k [(183, E_AL_get), (330, E_C_storyCount), (491, E_C_bareOf)]), (fun k => mLook k []), (fun k => mLook k []), (fun k => mLook k [(294, 9)]), (fun k => mLook k [(3, [true, true, true, true, true, true])]), (fun k => [46].any (Nat.beq k)), (8, 176, 0, 0), false, (fun _ => none))
set_option maxRecDepth 100000 in
set_option maxHeartbeats 4000000 in
theorem q_C_layBares_e (a1 : Int32) (a2 : Int32) (a3 : Int32) (a4 : Int32) (σ : MSto) (n : Nat) : mexe KT P_C_layBares (n + 1) (0, [some (mR 12 0), some (mI a1), some (mI a2), some (mI a3), some (mI a4), none], [], σ, 0, 0) = mexe KT P_C_layBares n (3, [some (mR 12 0), some (mI a1), some (mI a2), some (mI a3), some (mI a4), some (mI 0)], [], σ, 0, 0) := rfl
set_option maxRecDepth 100000 in
set_option maxHeartbeats 4000000 in
theorem q_C_layBares_3 (x1 : Int32) (x2 : Int32) (x3 : Int32) (x4 : Int32) (x5 : Int32) (σ : MSto) (n : Nat) : mexe KT P_C_layBares (n + 1) (3, [some (mR 12 0), some (mI x1), some (mI x2), some (mI x3), some (mI x4), some (mI x5)], [], σ, 0, 0) = mIf ((v_C_storyCount σ) ≤ x5) (some (46, [], [], σ, 0, 0)) (mG (p_AL_get 15 0 x5 σ) (mG (p_C_bareOf (v_AL_get 15 0 x5 σ) x1 x2 x3 x4 σ) (mG (vp_in x5 6) (mexe KT P_C_layBares n (3, [some (mR 12 0), some (mI x1), some (mI x2), some (mI x3), some (mI x4), some (mI (x5 + 1))], [], (sI σ 29 0 (Int32.toNatClampNeg x5) (v_C_bareOf (v_AL_get 15 0 x5 σ) x1 x2 x3 x4 σ)), 0, 0))))) := rfl
set_option maxRecDepth 100000 in
theorem lt_C_layBares_3 {Post : MST → Prop} (x1 : Int32) (x2 : Int32) (x3 : Int32) (x4 : Int32) (c : Int32) (s : MSto) (hp : g_C_layBares_3 x1 x2 x3 x4 c s) (hq : ¬ q_C_layBares_3s x1 x2 x3 x4 c s = 1) (hn : ∀ r, t_C_layBares_3 x1 x2 x3 x4 c s = r → mW1 P_C_layBares (3, [some (mR 12 0), some (mI x1), some (mI x2), some (mI x3), some (mI x4), some (mI (c + 1))], [], r, 0, 0) Post) : mW1 P_C_layBares (3, [some (mR 12 0), some (mI x1), some (mI x2), some (mI x3), some (mI x4), some (mI c)], [], s, 0, 0) Post := by
  unfold g_C_layBares_3 at hp
  refine mW1_eq (q_C_layBares_3 _ _ _ _ _ _) ?_
  refine mTr_if (fun h0 => ?_) (fun h0 => ?_)
  · skip
    exact absurd (if_pos h0) hq
  · skip
    have hp := hp h0
    refine mTr_g hp.1 ?_
    have hp := hp.2
    refine mTr_g hp.1 ?_
    have hp := hp.2
    refine mTr_g hp ?_
    exact mTr_k (hn (sI s 29 0 (Int32.toNatClampNeg c) (v_C_bareOf (v_AL_get 15 0 c s) x1 x2 x3 x4 s)) (if_neg h0))
theorem lp_C_layBares_3 {Post : MST → Prop} (x1 : Int32) (x2 : Int32) (x3 : Int32) (x4 : Int32) (c0 : Int32) (s0 : MSto) (N : Nat) (hb : ∀ i, i < N → g_C_layBares_3 x1 x2 x3 x4 (c0 + nI i) (f_C_layBares_3 x1 x2 x3 x4 c0 s0 i) ∧ ¬ q_C_layBares_3s x1 x2 x3 x4 (c0 + nI i) (f_C_layBares_3 x1 x2 x3 x4 c0 s0 i) = 1) (h : mW1 P_C_layBares (3, [some (mR 12 0), some (mI x1), some (mI x2), some (mI x3), some (mI x4), some (mI (c0 + nI N))], [], (f_C_layBares_3 x1 x2 x3 x4 c0 s0 N), 0, 0) Post) : mW1 P_C_layBares (3, [some (mR 12 0), some (mI x1), some (mI x2), some (mI x3), some (mI x4), some (mI c0)], [], s0, 0, 0) Post := by
  refine mW1_st (mW1_loop (fun i => (3, [some (mR 12 0), some (mI x1), some (mI x2), some (mI x3), some (mI x4), some (mI (c0 + nI i))], [], (f_C_layBares_3 x1 x2 x3 x4 c0 s0 i), 0, 0)) N (fun i hlt hn => ?_) h) (by rw [show nI 0 = 0 from rfl, Int32.add_zero] <;> rfl)
  refine lt_C_layBares_3 x1 x2 x3 x4 _ _ (hb i hlt).1 (hb i hlt).2 (fun r hr => ?_)
  rw [Int32.add_assoc, nI_s]
  subst hr
  exact hn
set_option maxRecDepth 100000 in
set_option maxHeartbeats 4000000 in
theorem d_C_layBares (a1 : Int32) (a2 : Int32) (a3 : Int32) (a4 : Int32) (σ : MSto) (hp : p_C_layBares a1 a2 a3 a4 σ) : mW1 P_C_layBares (0, [some (mR 12 0), some (mI a1), some (mI a2), some (mI a3), some (mI a4), none], [], σ, 0, 0) (mF [46] [] (e_C_layBares a1 a2 a3 a4 σ) 0 0) := by
  refine mW1_eq (q_C_layBares_e _ _ _ _ _) ?_
  unfold p_C_layBares at hp
  refine mTr_k (lp_C_layBares_3 a1 a2 a3 a4 0 σ (n_C_layBares_3 a1 a2 a3 a4 0 σ) hp.1 ?_)
  have hp := hp.2
  refine mW1_eq (q_C_layBares_3 _ _ _ _ _ _) ?_
  refine mTr_if (fun h0 => ?_) (fun h0 => ?_)
  · skip
    exact mTr_e (by decide) rfl (Eq.symm (rfl)) (by decide) (by decide)
  · skip
    have hp := hp h0
    exact hp.elim



theorem tk_C_layBares : ∀ pc i nx tg, T_C_layBares pc = some (i, nx, tg) → mOkB prog_1_method_95_code pc i nx tg = true := code_ok (N := 47) (fun k h => by unfold T_C_layBares; rw [h]; rfl) (by decide +kernel)
theorem ok_C_layBares (l : Launch) : mPOK l "ClothWithMan" prog_1_method_95_code P_C_layBares := by
  refine ⟨tk_C_layBares, ?_, ?_, ?_, (fun pc i nx tg kd _ h => by cases h), ?_, ?_, fun pc en h => by cases h⟩
  · intro x ci f ty fin h
    exact mLook_all (Q := fun x v => mFOK "ClothWithMan" x v.1 v.2.1 v.2.2.1 v.2.2.2 ∧ (v.2.2.2 = true → pIni P_C_layBares = true → (Cond.fieldLink "ClothWithMan" x (((mCl[v.1]?).getD ("", fun _ => ("", "", "", false), 0)).2.1 v.2.1).1 (((mCl[v.1]?).getD ("", fun _ => ("", "", "", false), 0)).2.1 v.2.1).2.1 (((mCl[v.1]?).getD ("", fun _ => ("", "", "", false), 0)).2.1 v.2.1).2.2.1 ∈ lw_tbl ∧ (((mCl[v.1]?).getD ("", fun _ => ("", "", "", false), 0)).2.1 v.2.1).1 = "ClothWithMan"))) (fcC ⟨fo_C_37, fun h1 h2 => by cases h2⟩ (fcC ⟨fo_C_86, fun h1 h2 => by cases h2⟩ fcN)) x (ci, f, ty, fin) h
  · intro x
    have hh := mLook_all (l := ([] : List (Nat × (Int32 ⊕ Int64)))) (Q := fun x (v : Int32 ⊕ Int64) => (∀ w, v = .inl w → Cond.constant "ClothWithMan" x w ∈ lw_tbl) ∧ (∀ w, v = .inr w → Cond.constantLong "ClothWithMan" x w ∈ lw_tbl)) fcN x
    exact ⟨fun w h => (hh _ h).1 w rfl, fun w h => (hh _ h).2 w rfl⟩
  · exact fun x en h => mLook_all (Q := fun x en => mLink "ClothWithMan" x en ∧ mCtr l en ∧ (en.1.1 = 2 → en.2.2.2.2.2.2 = none)) (fcC ⟨li_C_183, c_AL_get l, (fun h => by cases h)⟩ (fcC ⟨li_C_330, c_C_storyCount l, (fun h => by cases h)⟩ (fcC ⟨li_C_491, c_C_bareOf l, (fun h => by cases h)⟩ fcN))) x en h
  · exact fun x kd h => mLook_all (Q := fun x kd => (kd = 95 ∧ Cond.fieldLink "ClothWithMan" x "ClothWithMan" "LIKENESSES" "[I" ∈ lw_tbl) ∨ (kd = 96 ∧ Cond.fieldLink "ClothWithMan" x "ClothWithMan" "APART_BOUNDS" "[I" ∈ lw_tbl)) fcN x kd h
  · exact fun x ci h => mLook_all (Q := fun x ci => ci ≠ 0 ∧ ∃ (C : String) (T : u_T) (N : Nat), mCl[ci]? = some (C, T, N) ∧ Cond.classLink "ClothWithMan" x C ∈ lw_tbl ∧ Cond.instantiable C N ∈ lw_tbl) (fcC ⟨by decide, "ClothWithMan$Story", TX8, 9, rfl, tw_3_215, tw_3_216⟩ fcN) x ci h
set_option maxRecDepth 100000 in
theorem c_C_layBares (l : Launch) : mCtr l E_C_layBares := mCtr_of (P := P_C_layBares) (own := "ClothWithMan") mLay_ok rfl (by decide +kernel) rfl (ok_C_layBares l) (fun h => by cases h) (fun as σ pr rv σ' hF hpr hlv => by
  unfold E_C_layBares S_C_layBares at hF
  simp only [] at hF
  split at hF
  · cases hF
    obtain ⟨n, pcF, c1, s1, g1, g2, g3, g4⟩ := mF_inv (d_C_layBares _ _ _ _ σ (hpr _ rfl))
    exact ⟨Nat.le_of_ble_eq_true rfl, (fun v h => by cases h), n, pcF, c1, s1, g1, mEnd_of (i := .return_) (P := P_C_layBares) (rets := [46]) rfl g2, g3, g4⟩
  · cases hF
    exact (hpr _ rfl).elim)
/-! ClothWithMan.pairsPartedIn(I)I -/
noncomputable def t_C_pairsPartedIn_53 (x1 : Int32) (x4 : Int32) (x5 : Int32) (x6 : Int32) (c : Int32) (σ : MSto) (s : Int32 × Int32) : Int32 × Int32 := (if x4 ≤ c then s else (if (lg_cmp (v_C_gap (Int32.toInt64 x6) (Int32.toInt64 ((gI σ 29 0 (Int32.toNatClampNeg c)) + (v_C_houseAdds (v_AL_get 15 0 c σ) x1 σ))) σ) (Int32.toInt64 (2 * (gI σ 21 0 (Int32.toNatClampNeg x1))))) ≤ 0 then ((s.1), ((s.2) + 1)) else (((s.1) ||| ((1 : Int32) <<< ((s.2) &&& 31))), ((s.2) + 1))))
noncomputable def q_C_pairsPartedIn_53s (x1 : Int32) (x4 : Int32) (x5 : Int32) (x6 : Int32) (c : Int32) (σ : MSto) (s : Int32 × Int32) : Nat := (if x4 ≤ c then 1 else 0)
def g_C_pairsPartedIn_53 (x1 : Int32) (x4 : Int32) (x5 : Int32) (x6 : Int32) (c : Int32) (σ : MSto) (s : Int32 × Int32) : Prop := (¬ (x4 ≤ c) → ((vp_in c 6) ∧ ((p_AL_get 15 0 c σ) ∧ ((p_C_houseAdds (v_AL_get 15 0 c σ) x1 σ) ∧ (vp_in x1 6)))))
noncomputable def f_C_pairsPartedIn_53 (x1 : Int32) (x4 : Int32) (x5 : Int32) (x6 : Int32) (c0 : Int32) (σ : MSto) (s0 : Int32 × Int32) (n : Nat) : Int32 × Int32 := nfold (fun i s => t_C_pairsPartedIn_53 x1 x4 x5 x6 (c0 + nI i) σ s) s0 n
noncomputable def n_C_pairsPartedIn_53 (x1 : Int32) (x4 : Int32) (x5 : Int32) (x6 : Int32) (c0 : Int32) (σ : MSto) (s0 : Int32 × Int32) : Nat := (x4.toNatClampNeg - c0.toNatClampNeg)
noncomputable def t_C_pairsPartedIn_13 (x1 : Int32) (x4 : Int32) (c : Int32) (σ : MSto) (s : Int32 × Int32) : Int32 × Int32 := (if x4 ≤ c then s else (((f_C_pairsPartedIn_53 x1 x4 c ((gI σ 29 0 (Int32.toNatClampNeg c)) + (v_C_houseAdds (v_AL_get 15 0 c σ) x1 σ)) (c + 1) σ ((s.1), (s.2)) (n_C_pairsPartedIn_53 x1 x4 c ((gI σ 29 0 (Int32.toNatClampNeg c)) + (v_C_houseAdds (v_AL_get 15 0 c σ) x1 σ)) (c + 1) σ ((s.1), (s.2)))).1), ((f_C_pairsPartedIn_53 x1 x4 c ((gI σ 29 0 (Int32.toNatClampNeg c)) + (v_C_houseAdds (v_AL_get 15 0 c σ) x1 σ)) (c + 1) σ ((s.1), (s.2)) (n_C_pairsPartedIn_53 x1 x4 c ((gI σ 29 0 (Int32.toNatClampNeg c)) + (v_C_houseAdds (v_AL_get 15 0 c σ) x1 σ)) (c + 1) σ ((s.1), (s.2)))).2)))
noncomputable def q_C_pairsPartedIn_13s (x1 : Int32) (x4 : Int32) (c : Int32) (σ : MSto) (s : Int32 × Int32) : Nat := (if x4 ≤ c then 1 else 0)
def g_C_pairsPartedIn_13 (x1 : Int32) (x4 : Int32) (c : Int32) (σ : MSto) (s : Int32 × Int32) : Prop := (¬ (x4 ≤ c) → ((vp_in c 6) ∧ ((p_AL_get 15 0 c σ) ∧ ((p_C_houseAdds (v_AL_get 15 0 c σ) x1 σ) ∧ ((∀ i, i < (n_C_pairsPartedIn_53 x1 x4 c ((gI σ 29 0 (Int32.toNatClampNeg c)) + (v_C_houseAdds (v_AL_get 15 0 c σ) x1 σ)) (c + 1) σ ((s.1), (s.2))) → g_C_pairsPartedIn_53 x1 x4 c ((gI σ 29 0 (Int32.toNatClampNeg c)) + (v_C_houseAdds (v_AL_get 15 0 c σ) x1 σ)) ((c + 1) + nI i) σ (f_C_pairsPartedIn_53 x1 x4 c ((gI σ 29 0 (Int32.toNatClampNeg c)) + (v_C_houseAdds (v_AL_get 15 0 c σ) x1 σ)) (c + 1) σ ((s.1), (s.2)) i) ∧ ¬ q_C_pairsPartedIn_53s x1 x4 c ((gI σ 29 0 (Int32.toNatClampNeg c)) + (v_C_houseAdds (v_AL_get 15 0 c σ) x1 σ)) ((c + 1) + nI i) σ (f_C_pairsPartedIn_53 x1 x4 c ((gI σ 29 0 (Int32.toNatClampNeg c)) + (v_C_houseAdds (v_AL_get 15 0 c σ) x1 σ)) (c + 1) σ ((s.1), (s.2)) i) = 1) ∧ (¬ (x4 ≤ ((c + 1) + nI (n_C_pairsPartedIn_53 x1 x4 c ((gI σ 29 0 (Int32.toNatClampNeg c)) + (v_C_houseAdds (v_AL_get 15 0 c σ) x1 σ)) (c + 1) σ ((s.1), (s.2))))) → False))))))
noncomputable def f_C_pairsPartedIn_13 (x1 : Int32) (x4 : Int32) (c0 : Int32) (σ : MSto) (s0 : Int32 × Int32) (n : Nat) : Int32 × Int32 := nfold (fun i s => t_C_pairsPartedIn_13 x1 x4 (c0 + nI i) σ s) s0 n
noncomputable def n_C_pairsPartedIn_13 (x1 : Int32) (x4 : Int32) (c0 : Int32) (σ : MSto) (s0 : Int32 × Int32) : Nat := x4.toNatClampNeg
noncomputable def v_C_pairsPartedIn (a1 : Int32) (σ : MSto) : Int32 := ((f_C_pairsPartedIn_13 a1 (v_C_storyCount σ) 0 σ (0, 0) (n_C_pairsPartedIn_13 a1 (v_C_storyCount σ) 0 σ (0, 0))).1)
def p_C_pairsPartedIn (a1 : Int32) (σ : MSto) : Prop := ((∀ i, i < (n_C_pairsPartedIn_13 a1 (v_C_storyCount σ) 0 σ (0, 0)) → g_C_pairsPartedIn_13 a1 (v_C_storyCount σ) (0 + nI i) σ (f_C_pairsPartedIn_13 a1 (v_C_storyCount σ) 0 σ (0, 0) i) ∧ ¬ q_C_pairsPartedIn_13s a1 (v_C_storyCount σ) (0 + nI i) σ (f_C_pairsPartedIn_13 a1 (v_C_storyCount σ) 0 σ (0, 0) i) = 1) ∧ (¬ ((v_C_storyCount σ) ≤ (0 + nI (n_C_pairsPartedIn_13 a1 (v_C_storyCount σ) 0 σ (0, 0)))) → False))
noncomputable def S_C_pairsPartedIn : List MV → MSto → Option Prop × Option MV × MSto := fun as σ => match as with
  | [.inr (.inr (some (12, 0))), .inl a0] => (some (p_C_pairsPartedIn a0 σ), some (mI (v_C_pairsPartedIn a0 σ)), σ)
  | _ => (some False, none, σ)
noncomputable def E_C_pairsPartedIn : MEnt := ((1, 1, 12), (6, 121, 0, 0), S_C_pairsPartedIn, ((⟨"ClothWithMan", "pairsPartedIn", "(I)I"⟩ : MethodName), prog_1_method_96_code, 9, (some .int)))

def T_C_pairsPartedIn : Nat → Option (Instr × Nat × List Nat) := fun k => bif Nat.blt k 132 then (bif Nat.blt k 67 then (bif Nat.blt k 29 then (bif Nat.blt k 13 then (bif Nat.blt k 4 then (bif Nat.blt k 2 then (bif Nat.blt k 1 then (bif Nat.beq k 0 then some (.iconst 0, 1, []) else none) else (bif Nat.beq k 1 then some (.istore_n 2, 2, []) else none)) else (bif Nat.blt k 3 then (bif Nat.beq k 2 then some (.iconst 0, 3, []) else none) else (bif Nat.beq k 3 then some (.istore_n 3, 4, []) else none))) else (bif Nat.blt k 8 then (bif Nat.blt k 5 then (bif Nat.beq k 4 then some (.aload_n 0, 5, []) else none) else (bif Nat.beq k 5 then some (.invokevirtual 330, 8, []) else none)) else (bif Nat.blt k 10 then (bif Nat.beq k 8 then some (.istore 4, 10, []) else none) else (bif Nat.blt k 11 then (bif Nat.beq k 10 then some (.iconst 0, 11, []) else none) else (bif Nat.beq k 11 then some (.istore 5, 13, []) else none))))) else (bif Nat.blt k 21 then (bif Nat.blt k 17 then (bif Nat.blt k 15 then (bif Nat.beq k 13 then some (.iload 5, 15, []) else none) else (bif Nat.beq k 15 then some (.iload 4, 17, []) else none)) else (bif Nat.blt k 20 then (bif Nat.beq k 17 then some (.if_icmp .ge 113, 20, [130]) else none) else (bif Nat.beq k 20 then some (.aload_n 0, 21, []) else none))) else (bif Nat.blt k 26 then (bif Nat.blt k 24 then (bif Nat.beq k 21 then some (.getfield 86, 24, []) else none) else (bif Nat.beq k 24 then some (.iload 5, 26, []) else none)) else (bif Nat.blt k 27 then (bif Nat.beq k 26 then some (.iaload, 27, []) else none) else (bif Nat.blt k 28 then (bif Nat.beq k 27 then some (.aload_n 0, 28, []) else none) else (bif Nat.beq k 28 then some (.aload_n 0, 29, []) else none)))))) else (bif Nat.blt k 49 then (bif Nat.blt k 40 then (bif Nat.blt k 34 then (bif Nat.blt k 32 then (bif Nat.beq k 29 then some (.getfield 37, 32, []) else none) else (bif Nat.beq k 32 then some (.iload 5, 34, []) else none)) else (bif Nat.blt k 37 then (bif Nat.beq k 34 then some (.invokevirtual 183, 37, []) else none) else (bif Nat.beq k 37 then some (.checkcast 294, 40, []) else none))) else (bif Nat.blt k 44 then (bif Nat.blt k 41 then (bif Nat.beq k 40 then some (.iload_n 1, 41, []) else none) else (bif Nat.beq k 41 then some (.invokevirtual 495, 44, []) else none)) else (bif Nat.blt k 45 then (bif Nat.beq k 44 then some (.iadd, 45, []) else none) else (bif Nat.blt k 47 then (bif Nat.beq k 45 then some (.istore 6, 47, []) else none) else (bif Nat.beq k 47 then some (.iload 5, 49, []) else none))))) else (bif Nat.blt k 57 then (bif Nat.blt k 51 then (bif Nat.blt k 50 then (bif Nat.beq k 49 then some (.iconst 1, 50, []) else none) else (bif Nat.beq k 50 then some (.iadd, 51, []) else none)) else (bif Nat.blt k 53 then (bif Nat.beq k 51 then some (.istore 7, 53, []) else none) else (bif Nat.blt k 55 then (bif Nat.beq k 53 then some (.iload 7, 55, []) else none) else (bif Nat.beq k 55 then some (.iload 4, 57, []) else none)))) else (bif Nat.blt k 61 then (bif Nat.blt k 60 then (bif Nat.beq k 57 then some (.if_icmp .ge 67, 60, [124]) else none) else (bif Nat.beq k 60 then some (.aload_n 0, 61, []) else none)) else (bif Nat.blt k 64 then (bif Nat.beq k 61 then some (.getfield 86, 64, []) else none) else (bif Nat.blt k 66 then (bif Nat.beq k 64 then some (.iload 7, 66, []) else none) else (bif Nat.beq k 66 then some (.iaload, 67, []) else none))))))) else (bif Nat.blt k 101 then (bif Nat.blt k 85 then (bif Nat.blt k 74 then (bif Nat.blt k 69 then (bif Nat.blt k 68 then (bif Nat.beq k 67 then some (.aload_n 0, 68, []) else none) else (bif Nat.beq k 68 then some (.aload_n 0, 69, []) else none)) else (bif Nat.blt k 72 then (bif Nat.beq k 69 then some (.getfield 37, 72, []) else none) else (bif Nat.beq k 72 then some (.iload 7, 74, []) else none))) else (bif Nat.blt k 80 then (bif Nat.blt k 77 then (bif Nat.beq k 74 then some (.invokevirtual 183, 77, []) else none) else (bif Nat.beq k 77 then some (.checkcast 294, 80, []) else none)) else (bif Nat.blt k 81 then (bif Nat.beq k 80 then some (.iload_n 1, 81, []) else none) else (bif Nat.blt k 84 then (bif Nat.beq k 81 then some (.invokevirtual 495, 84, []) else none) else (bif Nat.beq k 84 then some (.iadd, 85, []) else none))))) else (bif Nat.blt k 92 then (bif Nat.blt k 89 then (bif Nat.blt k 87 then (bif Nat.beq k 85 then some (.istore 8, 87, []) else none) else (bif Nat.beq k 87 then some (.iload 6, 89, []) else none)) else (bif Nat.blt k 90 then (bif Nat.beq k 89 then some (.i2l, 90, []) else none) else (bif Nat.beq k 90 then some (.iload 8, 92, []) else none))) else (bif Nat.blt k 96 then (bif Nat.blt k 93 then (bif Nat.beq k 92 then some (.i2l, 93, []) else none) else (bif Nat.beq k 93 then some (.invokestatic 213, 96, []) else none)) else (bif Nat.blt k 97 then (bif Nat.beq k 96 then some (.iconst 2, 97, []) else none) else (bif Nat.blt k 98 then (bif Nat.beq k 97 then some (.aload_n 0, 98, []) else none) else (bif Nat.beq k 98 then some (.getfield 27, 101, []) else none)))))) else (bif Nat.blt k 112 then (bif Nat.blt k 105 then (bif Nat.blt k 103 then (bif Nat.blt k 102 then (bif Nat.beq k 101 then some (.iload_n 1, 102, []) else none) else (bif Nat.beq k 102 then some (.iaload, 103, []) else none)) else (bif Nat.blt k 104 then (bif Nat.beq k 103 then some (.imul, 104, []) else none) else (bif Nat.beq k 104 then some (.i2l, 105, []) else none))) else (bif Nat.blt k 109 then (bif Nat.blt k 106 then (bif Nat.beq k 105 then some (.lcmp, 106, []) else none) else (bif Nat.beq k 106 then some (.ifCond .le 9, 109, [115]) else none)) else (bif Nat.blt k 110 then (bif Nat.beq k 109 then some (.iload_n 2, 110, []) else none) else (bif Nat.blt k 111 then (bif Nat.beq k 110 then some (.iconst 1, 111, []) else none) else (bif Nat.beq k 111 then some (.iload_n 3, 112, []) else none))))) else (bif Nat.blt k 121 then (bif Nat.blt k 114 then (bif Nat.blt k 113 then (bif Nat.beq k 112 then some (.ishl, 113, []) else none) else (bif Nat.beq k 113 then some (.ior, 114, []) else none)) else (bif Nat.blt k 115 then (bif Nat.beq k 114 then some (.istore_n 2, 115, []) else none) else (bif Nat.blt k 118 then (bif Nat.beq k 115 then some (.iinc 3 1, 118, []) else none) else (bif Nat.beq k 118 then some (.iinc 7 1, 121, []) else none)))) else (bif Nat.blt k 127 then (bif Nat.blt k 124 then (bif Nat.beq k 121 then some (.goto (-68), 124, [53]) else none) else (bif Nat.beq k 124 then some (.iinc 5 1, 127, []) else none)) else (bif Nat.blt k 130 then (bif Nat.beq k 127 then some (.goto (-114), 130, [13]) else none) else (bif Nat.blt k 131 then (bif Nat.beq k 130 then some (.iload_n 2, 131, []) else none) else (bif Nat.beq k 131 then some (.ireturn, 132, []) else none)))))))) else none
noncomputable def P_C_pairsPartedIn : MP := (T_C_pairsPartedIn, (fun k => mLook k [(27, (12, 3, (.array .int), true)), (37, (12, 5, (.object "java/util/ArrayList"), true)), (86, (12, 16, (.array .int), true))]), (fun k => mLook k []), (fun k => mLook k [(183, E_AL_get), (213, E_C_gap), (330, E_C_storyCount), (495, E_C_houseAdds)]), (fun k => mLook k []), (fun k => mLook k []), (fun k => mLook k [(294, 9)]), (fun k => mLook k [(13, [true, true, true, true, true, true, false, false, false]), (53, [true, true, true, true, true, true, true, true, false])]), (fun k => [131].any (Nat.beq k)), (6, 121, 0, 0), false, (fun _ => none))
set_option maxRecDepth 100000 in
set_option maxHeartbeats 4000000 in
theorem q_C_pairsPartedIn_e (a1 : Int32) (σ : MSto) (n : Nat) : mexe KT P_C_pairsPartedIn (n + 1) (0, [some (mR 12 0), some (mI a1), none, none, none, none, none, none, none], [], σ, 0, 0) = mexe KT P_C_pairsPartedIn n (13, [some (mR 12 0), some (mI a1), some (mI 0), some (mI 0), some (mI (v_C_storyCount σ)), some (mI 0), none, none, none], [], σ, 0, 0) := rfl
set_option maxRecDepth 100000 in
set_option maxHeartbeats 4000000 in
theorem q_C_pairsPartedIn_13 (x1 : Int32) (x2 : Int32) (x3 : Int32) (x4 : Int32) (x5 : Int32) (σ : MSto) (n : Nat) : mexe KT P_C_pairsPartedIn (n + 1) (13, [some (mR 12 0), some (mI x1), some (mI x2), some (mI x3), some (mI x4), some (mI x5), none, none, none], [], σ, 0, 0) = mIf (x4 ≤ x5) (some (131, [], [(mI x2)], σ, 0, 0)) (mG (vp_in x5 6) (mG (p_AL_get 15 0 x5 σ) (mG (p_C_houseAdds (v_AL_get 15 0 x5 σ) x1 σ) (mexe KT P_C_pairsPartedIn n (53, [some (mR 12 0), some (mI x1), some (mI x2), some (mI x3), some (mI x4), some (mI x5), some (mI ((gI σ 29 0 (Int32.toNatClampNeg x5)) + (v_C_houseAdds (v_AL_get 15 0 x5 σ) x1 σ))), some (mI (x5 + 1)), none], [], σ, 0, 0))))) := rfl
set_option maxRecDepth 100000 in
set_option maxHeartbeats 4000000 in
theorem q_C_pairsPartedIn_53 (x1 : Int32) (x2 : Int32) (x3 : Int32) (x4 : Int32) (x5 : Int32) (x6 : Int32) (x7 : Int32) (σ : MSto) (n : Nat) : mexe KT P_C_pairsPartedIn (n + 1) (53, [some (mR 12 0), some (mI x1), some (mI x2), some (mI x3), some (mI x4), some (mI x5), some (mI x6), some (mI x7), none], [], σ, 0, 0) = mIf (x4 ≤ x7) (mexe KT P_C_pairsPartedIn n (13, [some (mR 12 0), some (mI x1), some (mI x2), some (mI x3), some (mI x4), some (mI (x5 + 1)), none, none, none], [], σ, 0, 0)) (mG (vp_in x7 6) (mG (p_AL_get 15 0 x7 σ) (mG (p_C_houseAdds (v_AL_get 15 0 x7 σ) x1 σ) (mG (vp_in x1 6) (mIf ((lg_cmp (v_C_gap (Int32.toInt64 x6) (Int32.toInt64 ((gI σ 29 0 (Int32.toNatClampNeg x7)) + (v_C_houseAdds (v_AL_get 15 0 x7 σ) x1 σ))) σ) (Int32.toInt64 (2 * (gI σ 21 0 (Int32.toNatClampNeg x1))))) ≤ 0) (mexe KT P_C_pairsPartedIn n (53, [some (mR 12 0), some (mI x1), some (mI x2), some (mI (x3 + 1)), some (mI x4), some (mI x5), some (mI x6), some (mI (x7 + 1)), none], [], σ, 0, 0)) (mexe KT P_C_pairsPartedIn n (53, [some (mR 12 0), some (mI x1), some (mI (x2 ||| ((1 : Int32) <<< (x3 &&& 31)))), some (mI (x3 + 1)), some (mI x4), some (mI x5), some (mI x6), some (mI (x7 + 1)), none], [], σ, 0, 0))))))) := rfl
set_option maxRecDepth 100000 in
theorem lt_C_pairsPartedIn_53 {Post : MST → Prop} (x1 : Int32) (x4 : Int32) (x5 : Int32) (x6 : Int32) (c : Int32) (σ : MSto) (s : Int32 × Int32) (hp : g_C_pairsPartedIn_53 x1 x4 x5 x6 c σ s) (hq : ¬ q_C_pairsPartedIn_53s x1 x4 x5 x6 c σ s = 1) (hn : ∀ (r1 : Int32) (r2 : Int32), t_C_pairsPartedIn_53 x1 x4 x5 x6 c σ s = (r1, r2) → mW1 P_C_pairsPartedIn (53, [some (mR 12 0), some (mI x1), some (mI r1), some (mI r2), some (mI x4), some (mI x5), some (mI x6), some (mI (c + 1)), none], [], σ, 0, 0) Post) : mW1 P_C_pairsPartedIn (53, [some (mR 12 0), some (mI x1), some (mI (s.1)), some (mI (s.2)), some (mI x4), some (mI x5), some (mI x6), some (mI c), none], [], σ, 0, 0) Post := by
  unfold g_C_pairsPartedIn_53 at hp
  refine mW1_eq (q_C_pairsPartedIn_53 _ _ _ _ _ _ _ _) ?_
  refine mTr_if (fun h0 => ?_) (fun h0 => ?_)
  · skip
    exact absurd (if_pos h0) hq
  · skip
    have hp := hp h0
    refine mTr_g hp.1 ?_
    have hp := hp.2
    refine mTr_g hp.1 ?_
    have hp := hp.2
    refine mTr_g hp.1 ?_
    have hp := hp.2
    refine mTr_g hp ?_
    refine mTr_if (fun h1 => ?_) (fun h1 => ?_)
    · skip
      exact mTr_k (hn (s.1) ((s.2) + 1) ((if_neg h0).trans (if_pos h1)))
    · skip
      exact mTr_k (hn ((s.1) ||| ((1 : Int32) <<< ((s.2) &&& 31))) ((s.2) + 1) ((if_neg h0).trans (if_neg h1)))
theorem lp_C_pairsPartedIn_53 {Post : MST → Prop} (x1 : Int32) (x4 : Int32) (x5 : Int32) (x6 : Int32) (c0 : Int32) (σ : MSto) (s0 : Int32 × Int32) (N : Nat) (hb : ∀ i, i < N → g_C_pairsPartedIn_53 x1 x4 x5 x6 (c0 + nI i) σ (f_C_pairsPartedIn_53 x1 x4 x5 x6 c0 σ s0 i) ∧ ¬ q_C_pairsPartedIn_53s x1 x4 x5 x6 (c0 + nI i) σ (f_C_pairsPartedIn_53 x1 x4 x5 x6 c0 σ s0 i) = 1) (h : mW1 P_C_pairsPartedIn (53, [some (mR 12 0), some (mI x1), some (mI ((f_C_pairsPartedIn_53 x1 x4 x5 x6 c0 σ s0 N).1)), some (mI ((f_C_pairsPartedIn_53 x1 x4 x5 x6 c0 σ s0 N).2)), some (mI x4), some (mI x5), some (mI x6), some (mI (c0 + nI N)), none], [], σ, 0, 0) Post) : mW1 P_C_pairsPartedIn (53, [some (mR 12 0), some (mI x1), some (mI (s0.1)), some (mI (s0.2)), some (mI x4), some (mI x5), some (mI x6), some (mI c0), none], [], σ, 0, 0) Post := by
  refine mW1_st (mW1_loop (fun i => (53, [some (mR 12 0), some (mI x1), some (mI ((f_C_pairsPartedIn_53 x1 x4 x5 x6 c0 σ s0 i).1)), some (mI ((f_C_pairsPartedIn_53 x1 x4 x5 x6 c0 σ s0 i).2)), some (mI x4), some (mI x5), some (mI x6), some (mI (c0 + nI i)), none], [], σ, 0, 0)) N (fun i hlt hn => ?_) h) (by rw [show nI 0 = 0 from rfl, Int32.add_zero] <;> rfl)
  refine lt_C_pairsPartedIn_53 x1 x4 x5 x6 _ σ _ (hb i hlt).1 (hb i hlt).2 (fun r1 r2 hr => ?_)
  rw [Int32.add_assoc, nI_s]
  have e : f_C_pairsPartedIn_53 x1 x4 x5 x6 c0 σ s0 (i + 1) = (r1, r2) := hr
  try dsimp only at hn
  rw [e] at hn
  exact hn
set_option maxRecDepth 100000 in
theorem lt_C_pairsPartedIn_13 {Post : MST → Prop} (x1 : Int32) (x4 : Int32) (c : Int32) (σ : MSto) (s : Int32 × Int32) (hp : g_C_pairsPartedIn_13 x1 x4 c σ s) (hq : ¬ q_C_pairsPartedIn_13s x1 x4 c σ s = 1) (hn : ∀ (r1 : Int32) (r2 : Int32), t_C_pairsPartedIn_13 x1 x4 c σ s = (r1, r2) → mW1 P_C_pairsPartedIn (13, [some (mR 12 0), some (mI x1), some (mI r1), some (mI r2), some (mI x4), some (mI (c + 1)), none, none, none], [], σ, 0, 0) Post) : mW1 P_C_pairsPartedIn (13, [some (mR 12 0), some (mI x1), some (mI (s.1)), some (mI (s.2)), some (mI x4), some (mI c), none, none, none], [], σ, 0, 0) Post := by
  unfold g_C_pairsPartedIn_13 at hp
  refine mW1_eq (q_C_pairsPartedIn_13 _ _ _ _ _ _) ?_
  refine mTr_if (fun h0 => ?_) (fun h0 => ?_)
  · skip
    exact absurd (if_pos h0) hq
  · skip
    have hp := hp h0
    refine mTr_g hp.1 ?_
    have hp := hp.2
    refine mTr_g hp.1 ?_
    have hp := hp.2
    refine mTr_g hp.1 ?_
    have hp := hp.2
    refine mTr_k (lp_C_pairsPartedIn_53 x1 x4 c ((gI σ 29 0 (Int32.toNatClampNeg c)) + (v_C_houseAdds (v_AL_get 15 0 c σ) x1 σ)) (c + 1) σ ((s.1), (s.2)) (n_C_pairsPartedIn_53 x1 x4 c ((gI σ 29 0 (Int32.toNatClampNeg c)) + (v_C_houseAdds (v_AL_get 15 0 c σ) x1 σ)) (c + 1) σ ((s.1), (s.2))) hp.1 ?_)
    have hp := hp.2
    refine mW1_eq (q_C_pairsPartedIn_53 _ _ _ _ _ _ _ _) ?_
    refine mTr_if (fun h1 => ?_) (fun h1 => ?_)
    · skip
      exact mTr_k (hn ((f_C_pairsPartedIn_53 x1 x4 c ((gI σ 29 0 (Int32.toNatClampNeg c)) + (v_C_houseAdds (v_AL_get 15 0 c σ) x1 σ)) (c + 1) σ ((s.1), (s.2)) (n_C_pairsPartedIn_53 x1 x4 c ((gI σ 29 0 (Int32.toNatClampNeg c)) + (v_C_houseAdds (v_AL_get 15 0 c σ) x1 σ)) (c + 1) σ ((s.1), (s.2)))).1) ((f_C_pairsPartedIn_53 x1 x4 c ((gI σ 29 0 (Int32.toNatClampNeg c)) + (v_C_houseAdds (v_AL_get 15 0 c σ) x1 σ)) (c + 1) σ ((s.1), (s.2)) (n_C_pairsPartedIn_53 x1 x4 c ((gI σ 29 0 (Int32.toNatClampNeg c)) + (v_C_houseAdds (v_AL_get 15 0 c σ) x1 σ)) (c + 1) σ ((s.1), (s.2)))).2) (if_neg h0))
    · skip
      have hp := hp h1
      exact hp.elim
theorem lp_C_pairsPartedIn_13 {Post : MST → Prop} (x1 : Int32) (x4 : Int32) (c0 : Int32) (σ : MSto) (s0 : Int32 × Int32) (N : Nat) (hb : ∀ i, i < N → g_C_pairsPartedIn_13 x1 x4 (c0 + nI i) σ (f_C_pairsPartedIn_13 x1 x4 c0 σ s0 i) ∧ ¬ q_C_pairsPartedIn_13s x1 x4 (c0 + nI i) σ (f_C_pairsPartedIn_13 x1 x4 c0 σ s0 i) = 1) (h : mW1 P_C_pairsPartedIn (13, [some (mR 12 0), some (mI x1), some (mI ((f_C_pairsPartedIn_13 x1 x4 c0 σ s0 N).1)), some (mI ((f_C_pairsPartedIn_13 x1 x4 c0 σ s0 N).2)), some (mI x4), some (mI (c0 + nI N)), none, none, none], [], σ, 0, 0) Post) : mW1 P_C_pairsPartedIn (13, [some (mR 12 0), some (mI x1), some (mI (s0.1)), some (mI (s0.2)), some (mI x4), some (mI c0), none, none, none], [], σ, 0, 0) Post := by
  refine mW1_st (mW1_loop (fun i => (13, [some (mR 12 0), some (mI x1), some (mI ((f_C_pairsPartedIn_13 x1 x4 c0 σ s0 i).1)), some (mI ((f_C_pairsPartedIn_13 x1 x4 c0 σ s0 i).2)), some (mI x4), some (mI (c0 + nI i)), none, none, none], [], σ, 0, 0)) N (fun i hlt hn => ?_) h) (by rw [show nI 0 = 0 from rfl, Int32.add_zero] <;> rfl)
  refine lt_C_pairsPartedIn_13 x1 x4 _ σ _ (hb i hlt).1 (hb i hlt).2 (fun r1 r2 hr => ?_)
  rw [Int32.add_assoc, nI_s]
  have e : f_C_pairsPartedIn_13 x1 x4 c0 σ s0 (i + 1) = (r1, r2) := hr
  try dsimp only at hn
  rw [e] at hn
  exact hn
set_option maxRecDepth 100000 in
set_option maxHeartbeats 4000000 in
theorem d_C_pairsPartedIn (a1 : Int32) (σ : MSto) (hp : p_C_pairsPartedIn a1 σ) : mW1 P_C_pairsPartedIn (0, [some (mR 12 0), some (mI a1), none, none, none, none, none, none, none], [], σ, 0, 0) (mF [131] [mI (v_C_pairsPartedIn a1 σ)] σ 0 0) := by
  refine mW1_eq (q_C_pairsPartedIn_e _ _) ?_
  unfold p_C_pairsPartedIn at hp
  refine mTr_k (lp_C_pairsPartedIn_13 a1 (v_C_storyCount σ) 0 σ (0, 0) (n_C_pairsPartedIn_13 a1 (v_C_storyCount σ) 0 σ (0, 0)) hp.1 ?_)
  have hp := hp.2
  refine mW1_eq (q_C_pairsPartedIn_13 _ _ _ _ _ _) ?_
  refine mTr_if (fun h0 => ?_) (fun h0 => ?_)
  · skip
    exact mTr_e (by decide) (congrArg (fun z => [mI z]) (Eq.symm (rfl))) rfl (by decide) (by decide)
  · skip
    have hp := hp h0
    exact hp.elim




theorem tk_C_pairsPartedIn : ∀ pc i nx tg, T_C_pairsPartedIn pc = some (i, nx, tg) → mOkB prog_1_method_96_code pc i nx tg = true := code_ok (N := 132) (fun k h => by unfold T_C_pairsPartedIn; rw [h]; rfl) (by decide +kernel)
theorem ok_C_pairsPartedIn (l : Launch) : mPOK l "ClothWithMan" prog_1_method_96_code P_C_pairsPartedIn := by
  refine ⟨tk_C_pairsPartedIn, ?_, ?_, ?_, (fun pc i nx tg kd _ h => by cases h), ?_, ?_, fun pc en h => by cases h⟩
  · intro x ci f ty fin h
    exact mLook_all (Q := fun x v => mFOK "ClothWithMan" x v.1 v.2.1 v.2.2.1 v.2.2.2 ∧ (v.2.2.2 = true → pIni P_C_pairsPartedIn = true → (Cond.fieldLink "ClothWithMan" x (((mCl[v.1]?).getD ("", fun _ => ("", "", "", false), 0)).2.1 v.2.1).1 (((mCl[v.1]?).getD ("", fun _ => ("", "", "", false), 0)).2.1 v.2.1).2.1 (((mCl[v.1]?).getD ("", fun _ => ("", "", "", false), 0)).2.1 v.2.1).2.2.1 ∈ lw_tbl ∧ (((mCl[v.1]?).getD ("", fun _ => ("", "", "", false), 0)).2.1 v.2.1).1 = "ClothWithMan"))) (fcC ⟨fo_C_27, fun h1 h2 => by cases h2⟩ (fcC ⟨fo_C_37, fun h1 h2 => by cases h2⟩ (fcC ⟨fo_C_86, fun h1 h2 => by cases h2⟩ fcN))) x (ci, f, ty, fin) h
  · intro x
    have hh := mLook_all (l := ([] : List (Nat × (Int32 ⊕ Int64)))) (Q := fun x (v : Int32 ⊕ Int64) => (∀ w, v = .inl w → Cond.constant "ClothWithMan" x w ∈ lw_tbl) ∧ (∀ w, v = .inr w → Cond.constantLong "ClothWithMan" x w ∈ lw_tbl)) fcN x
    exact ⟨fun w h => (hh _ h).1 w rfl, fun w h => (hh _ h).2 w rfl⟩
  · exact fun x en h => mLook_all (Q := fun x en => mLink "ClothWithMan" x en ∧ mCtr l en ∧ (en.1.1 = 2 → en.2.2.2.2.2.2 = none)) (fcC ⟨li_C_183, c_AL_get l, (fun h => by cases h)⟩ (fcC ⟨li_C_213, c_C_gap l, (fun h => by cases h)⟩ (fcC ⟨li_C_330, c_C_storyCount l, (fun h => by cases h)⟩ (fcC ⟨li_C_495, c_C_houseAdds l, (fun h => by cases h)⟩ fcN)))) x en h
  · exact fun x kd h => mLook_all (Q := fun x kd => (kd = 95 ∧ Cond.fieldLink "ClothWithMan" x "ClothWithMan" "LIKENESSES" "[I" ∈ lw_tbl) ∨ (kd = 96 ∧ Cond.fieldLink "ClothWithMan" x "ClothWithMan" "APART_BOUNDS" "[I" ∈ lw_tbl)) fcN x kd h
  · exact fun x ci h => mLook_all (Q := fun x ci => ci ≠ 0 ∧ ∃ (C : String) (T : u_T) (N : Nat), mCl[ci]? = some (C, T, N) ∧ Cond.classLink "ClothWithMan" x C ∈ lw_tbl ∧ Cond.instantiable C N ∈ lw_tbl) (fcC ⟨by decide, "ClothWithMan$Story", TX8, 9, rfl, tw_3_215, tw_3_216⟩ fcN) x ci h
set_option maxRecDepth 100000 in
theorem c_C_pairsPartedIn (l : Launch) : mCtr l E_C_pairsPartedIn := mCtr_of (P := P_C_pairsPartedIn) (own := "ClothWithMan") mLay_ok rfl (by decide +kernel) rfl (ok_C_pairsPartedIn l) (fun h => by cases h) (fun as σ pr rv σ' hF hpr hlv => by
  unfold E_C_pairsPartedIn S_C_pairsPartedIn at hF
  simp only [] at hF
  split at hF
  · cases hF
    obtain ⟨n, pcF, c1, s1, g1, g2, g3, g4⟩ := mF_inv (d_C_pairsPartedIn _ σ (hpr _ rfl))
    exact ⟨Nat.le_of_ble_eq_true rfl, (fun v h => by cases h; trivial), n, pcF, c1, s1, g1, ⟨mEnd_of (i := .ireturn) (P := P_C_pairsPartedIn) (rets := [131]) rfl g2, rfl⟩, g3, g4⟩
  · cases hF
    exact (hpr _ rfl).elim)
/-! ClothWithMan.pairsPartedBy(LClothWithMan$Piece;I)I -/
noncomputable def v_C_pairsPartedBy (a1 : Nat) (a2 : Int32) (σ : MSto) : Int32 := (v_C_pairsPartedIn (gI (e_C_layBares (gI σ 7 a1 0) (gI σ 7 a1 1) (gI σ 7 a1 2) a2 σ) 7 a1 3) (e_C_layBares (gI σ 7 a1 0) (gI σ 7 a1 1) (gI σ 7 a1 2) a2 σ))
def p_C_pairsPartedBy (a1 : Nat) (a2 : Int32) (σ : MSto) : Prop := ((p_C_layBares (gI σ 7 a1 0) (gI σ 7 a1 1) (gI σ 7 a1 2) a2 σ) ∧ (p_C_pairsPartedIn (gI (e_C_layBares (gI σ 7 a1 0) (gI σ 7 a1 1) (gI σ 7 a1 2) a2 σ) 7 a1 3) (e_C_layBares (gI σ 7 a1 0) (gI σ 7 a1 1) (gI σ 7 a1 2) a2 σ)))
noncomputable def e_C_pairsPartedBy (a1 : Nat) (a2 : Int32) (σ : MSto) : MSto := (e_C_layBares (gI σ 7 a1 0) (gI σ 7 a1 1) (gI σ 7 a1 2) a2 σ)
noncomputable def S_C_pairsPartedBy : List MV → MSto → Option Prop × Option MV × MSto := fun as σ => match as with
  | [.inr (.inr (some (12, 0))), .inr (.inr (some (7, a0))), .inl a1] => (some (p_C_pairsPartedBy a0 a1 σ), some (mI (v_C_pairsPartedBy a0 a1 σ)), e_C_pairsPartedBy a0 a1 σ)
  | _ => (some False, none, σ)
noncomputable def E_C_pairsPartedBy : MEnt := ((1, 2, 12), (9, 201, 0, 0), S_C_pairsPartedBy, ((⟨"ClothWithMan", "pairsPartedBy", "(LClothWithMan$Piece;I)I"⟩ : MethodName), prog_1_method_97_code, 3, (some .int)))

def T_C_pairsPartedBy : Nat → Option (Instr × Nat × List Nat) := fun k => bif Nat.blt k 26 then (bif Nat.blt k 13 then (bif Nat.blt k 5 then (bif Nat.blt k 1 then (bif Nat.beq k 0 then some (.aload_n 0, 1, []) else none) else (bif Nat.blt k 2 then (bif Nat.beq k 1 then some (.aload_n 1, 2, []) else none) else (bif Nat.beq k 2 then some (.getfield 436, 5, []) else none))) else (bif Nat.blt k 9 then (bif Nat.blt k 6 then (bif Nat.beq k 5 then some (.aload_n 1, 6, []) else none) else (bif Nat.beq k 6 then some (.getfield 439, 9, []) else none)) else (bif Nat.blt k 10 then (bif Nat.beq k 9 then some (.aload_n 1, 10, []) else none) else (bif Nat.beq k 10 then some (.getfield 442, 13, []) else none)))) else (bif Nat.blt k 18 then (bif Nat.blt k 14 then (bif Nat.beq k 13 then some (.iload_n 2, 14, []) else none) else (bif Nat.blt k 17 then (bif Nat.beq k 14 then some (.invokevirtual 362, 17, []) else none) else (bif Nat.beq k 17 then some (.aload_n 0, 18, []) else none))) else (bif Nat.blt k 22 then (bif Nat.blt k 19 then (bif Nat.beq k 18 then some (.aload_n 1, 19, []) else none) else (bif Nat.beq k 19 then some (.getfield 195, 22, []) else none)) else (bif Nat.blt k 25 then (bif Nat.beq k 22 then some (.invokevirtual 502, 25, []) else none) else (bif Nat.beq k 25 then some (.ireturn, 26, []) else none))))) else none
noncomputable def P_C_pairsPartedBy : MP := (T_C_pairsPartedBy, (fun k => mLook k [(195, (7, 3, .int, true)), (436, (7, 0, .int, true)), (439, (7, 1, .int, true)), (442, (7, 2, .int, true))]), (fun k => mLook k []), (fun k => mLook k [(362, E_C_layBares), (502, E_C_pairsPartedIn)]), (fun k => mLook k []), (fun k => mLook k []), (fun k => mLook k []), (fun k => mLook k []), (fun k => [25].any (Nat.beq k)), (9, 201, 0, 0), false, (fun _ => none))
set_option maxRecDepth 100000 in
set_option maxHeartbeats 4000000 in
theorem q_C_pairsPartedBy_e (a1 : Nat) (a2 : Int32) (σ : MSto) (n : Nat) : mexe KT P_C_pairsPartedBy (n + 1) (0, [some (mR 12 0), some (mR 7 a1), some (mI a2)], [], σ, 0, 0) = mG (p_C_layBares (gI σ 7 a1 0) (gI σ 7 a1 1) (gI σ 7 a1 2) a2 σ) (mG (p_C_pairsPartedIn (gI (e_C_layBares (gI σ 7 a1 0) (gI σ 7 a1 1) (gI σ 7 a1 2) a2 σ) 7 a1 3) (e_C_layBares (gI σ 7 a1 0) (gI σ 7 a1 1) (gI σ 7 a1 2) a2 σ)) (some (25, [], [(mI (v_C_pairsPartedIn (gI (e_C_layBares (gI σ 7 a1 0) (gI σ 7 a1 1) (gI σ 7 a1 2) a2 σ) 7 a1 3) (e_C_layBares (gI σ 7 a1 0) (gI σ 7 a1 1) (gI σ 7 a1 2) a2 σ)))], (e_C_layBares (gI σ 7 a1 0) (gI σ 7 a1 1) (gI σ 7 a1 2) a2 σ), 0, 0))) := rfl
set_option maxRecDepth 100000 in
set_option maxHeartbeats 4000000 in
theorem d_C_pairsPartedBy (a1 : Nat) (a2 : Int32) (σ : MSto) (hp : p_C_pairsPartedBy a1 a2 σ) : mW1 P_C_pairsPartedBy (0, [some (mR 12 0), some (mR 7 a1), some (mI a2)], [], σ, 0, 0) (mF [25] [mI (v_C_pairsPartedBy a1 a2 σ)] (e_C_pairsPartedBy a1 a2 σ) 0 0) := by
  refine mW1_eq (q_C_pairsPartedBy_e _ _ _) ?_
  unfold p_C_pairsPartedBy at hp
  refine mTr_g hp.1 ?_
  have hp := hp.2
  refine mTr_g hp ?_
  exact mTr_e (by decide) (congrArg (fun z => [mI z]) (Eq.symm (rfl))) (Eq.symm (rfl)) (by decide) (by decide)
theorem li_C_502 : mLink "ClothWithMan" 502 E_C_pairsPartedIn := ⟨tw_4_161, tw_1_1, ⟨by decide, by decide⟩, by decide +kernel, Or.inl tw_4_158, (fun h => by cases h), (fun _ => ⟨tw_4_160, tw_0_34, TX11, 20, rfl⟩), (fun h => by cases h)⟩

theorem li_C_362 : mLink "ClothWithMan" 362 E_C_layBares := ⟨tw_4_157, tw_1_1, ⟨by decide, by decide⟩, by decide +kernel, Or.inl tw_4_154, (fun h => by cases h), (fun _ => ⟨tw_4_156, tw_0_33, TX11, 20, rfl⟩), (fun h => by cases h)⟩

theorem tk_C_pairsPartedBy : ∀ pc i nx tg, T_C_pairsPartedBy pc = some (i, nx, tg) → mOkB prog_1_method_97_code pc i nx tg = true := code_ok (N := 26) (fun k h => by unfold T_C_pairsPartedBy; rw [h]; rfl) (by decide +kernel)
theorem ok_C_pairsPartedBy (l : Launch) : mPOK l "ClothWithMan" prog_1_method_97_code P_C_pairsPartedBy := by
  refine ⟨tk_C_pairsPartedBy, ?_, ?_, ?_, (fun pc i nx tg kd _ h => by cases h), ?_, ?_, fun pc en h => by cases h⟩
  · intro x ci f ty fin h
    exact mLook_all (Q := fun x v => mFOK "ClothWithMan" x v.1 v.2.1 v.2.2.1 v.2.2.2 ∧ (v.2.2.2 = true → pIni P_C_pairsPartedBy = true → (Cond.fieldLink "ClothWithMan" x (((mCl[v.1]?).getD ("", fun _ => ("", "", "", false), 0)).2.1 v.2.1).1 (((mCl[v.1]?).getD ("", fun _ => ("", "", "", false), 0)).2.1 v.2.1).2.1 (((mCl[v.1]?).getD ("", fun _ => ("", "", "", false), 0)).2.1 v.2.1).2.2.1 ∈ lw_tbl ∧ (((mCl[v.1]?).getD ("", fun _ => ("", "", "", false), 0)).2.1 v.2.1).1 = "ClothWithMan"))) (fcC ⟨fo_C_195, fun h1 h2 => by cases h2⟩ (fcC ⟨fo_C_436, fun h1 h2 => by cases h2⟩ (fcC ⟨fo_C_439, fun h1 h2 => by cases h2⟩ (fcC ⟨fo_C_442, fun h1 h2 => by cases h2⟩ fcN)))) x (ci, f, ty, fin) h
  · intro x
    have hh := mLook_all (l := ([] : List (Nat × (Int32 ⊕ Int64)))) (Q := fun x (v : Int32 ⊕ Int64) => (∀ w, v = .inl w → Cond.constant "ClothWithMan" x w ∈ lw_tbl) ∧ (∀ w, v = .inr w → Cond.constantLong "ClothWithMan" x w ∈ lw_tbl)) fcN x
    exact ⟨fun w h => (hh _ h).1 w rfl, fun w h => (hh _ h).2 w rfl⟩
  · exact fun x en h => mLook_all (Q := fun x en => mLink "ClothWithMan" x en ∧ mCtr l en ∧ (en.1.1 = 2 → en.2.2.2.2.2.2 = none)) (fcC ⟨li_C_362, c_C_layBares l, (fun h => by cases h)⟩ (fcC ⟨li_C_502, c_C_pairsPartedIn l, (fun h => by cases h)⟩ fcN)) x en h
  · exact fun x kd h => mLook_all (Q := fun x kd => (kd = 95 ∧ Cond.fieldLink "ClothWithMan" x "ClothWithMan" "LIKENESSES" "[I" ∈ lw_tbl) ∨ (kd = 96 ∧ Cond.fieldLink "ClothWithMan" x "ClothWithMan" "APART_BOUNDS" "[I" ∈ lw_tbl)) fcN x kd h
  · exact fun x ci h => mLook_all (Q := fun x ci => ci ≠ 0 ∧ ∃ (C : String) (T : u_T) (N : Nat), mCl[ci]? = some (C, T, N) ∧ Cond.classLink "ClothWithMan" x C ∈ lw_tbl ∧ Cond.instantiable C N ∈ lw_tbl) fcN x ci h
set_option maxRecDepth 100000 in
theorem c_C_pairsPartedBy (l : Launch) : mCtr l E_C_pairsPartedBy := mCtr_of (P := P_C_pairsPartedBy) (own := "ClothWithMan") mLay_ok rfl (by decide +kernel) rfl (ok_C_pairsPartedBy l) (fun h => by cases h) (fun as σ pr rv σ' hF hpr hlv => by
  unfold E_C_pairsPartedBy S_C_pairsPartedBy at hF
  simp only [] at hF
  split at hF
  · cases hF
    obtain ⟨n, pcF, c1, s1, g1, g2, g3, g4⟩ := mF_inv (d_C_pairsPartedBy _ _ σ (hpr _ rfl))
    exact ⟨Nat.le_of_ble_eq_true rfl, (fun v h => by cases h; trivial), n, pcF, c1, s1, g1, ⟨mEnd_of (i := .ireturn) (P := P_C_pairsPartedBy) (rets := [25]) rfl g2, rfl⟩, g3, g4⟩
  · cases hF
    exact (hpr _ rfl).elim)
/-! ClothWithMan.partedByAny(I)I -/
noncomputable def t_C_partedByAny_4 (x1 : Int32) (c : Int32) (σ : MSto) (s : Int32) : Int32 := (if 12 ≤ c then s else (if (v_C_has x1 c σ) = 0 then s else (s ||| (gI σ 30 0 (Int32.toNatClampNeg c)))))
noncomputable def q_C_partedByAny_4s (x1 : Int32) (c : Int32) (σ : MSto) (s : Int32) : Nat := (if 12 ≤ c then 1 else 0)
def g_C_partedByAny_4 (x1 : Int32) (c : Int32) (σ : MSto) (s : Int32) : Prop := (¬ (12 ≤ c) → (¬ ((v_C_has x1 c σ) = 0) → (vp_in c 12)))
noncomputable def f_C_partedByAny_4 (x1 : Int32) (c0 : Int32) (σ : MSto) (s0 : Int32) (n : Nat) : Int32 := nfold (fun i s => t_C_partedByAny_4 x1 (c0 + nI i) σ s) s0 n
noncomputable def n_C_partedByAny_4 (x1 : Int32) (c0 : Int32) (σ : MSto) (s0 : Int32) : Nat := 12
noncomputable def v_C_partedByAny (a1 : Int32) (σ : MSto) : Int32 := (f_C_partedByAny_4 a1 0 σ 0 (n_C_partedByAny_4 a1 0 σ 0))
def p_C_partedByAny (a1 : Int32) (σ : MSto) : Prop := ((∀ i, i < (n_C_partedByAny_4 a1 0 σ 0) → g_C_partedByAny_4 a1 (0 + nI i) σ (f_C_partedByAny_4 a1 0 σ 0 i) ∧ ¬ q_C_partedByAny_4s a1 (0 + nI i) σ (f_C_partedByAny_4 a1 0 σ 0 i) = 1) ∧ (¬ (12 ≤ (0 + nI (n_C_partedByAny_4 a1 0 σ 0))) → False))
noncomputable def S_C_partedByAny : List MV → MSto → Option Prop × Option MV × MSto := fun as σ => match as with
  | [.inr (.inr (some (12, 0))), .inl a0] => (some (p_C_partedByAny a0 σ), some (mI (v_C_partedByAny a0 σ)), σ)
  | _ => (some False, none, σ)
noncomputable def E_C_partedByAny : MEnt := ((1, 1, 12), (1, 21, 0, 0), S_C_partedByAny, ((⟨"ClothWithMan", "partedByAny", "(I)I"⟩ : MethodName), prog_1_method_98_code, 4, (some .int)))

def T_C_partedByAny : Nat → Option (Instr × Nat × List Nat) := fun k => bif Nat.blt k 35 then (bif Nat.blt k 18 then (bif Nat.blt k 5 then (bif Nat.blt k 2 then (bif Nat.blt k 1 then (bif Nat.beq k 0 then some (.iconst 0, 1, []) else none) else (bif Nat.beq k 1 then some (.istore_n 2, 2, []) else none)) else (bif Nat.blt k 3 then (bif Nat.beq k 2 then some (.iconst 0, 3, []) else none) else (bif Nat.blt k 4 then (bif Nat.beq k 3 then some (.istore_n 3, 4, []) else none) else (bif Nat.beq k 4 then some (.iload_n 3, 5, []) else none)))) else (bif Nat.blt k 11 then (bif Nat.blt k 7 then (bif Nat.beq k 5 then some (.bipush 12, 7, []) else none) else (bif Nat.blt k 10 then (bif Nat.beq k 7 then some (.if_icmp .ge 26, 10, [33]) else none) else (bif Nat.beq k 10 then some (.iload_n 1, 11, []) else none))) else (bif Nat.blt k 12 then (bif Nat.beq k 11 then some (.iload_n 3, 12, []) else none) else (bif Nat.blt k 15 then (bif Nat.beq k 12 then some (.invokestatic 284, 15, []) else none) else (bif Nat.beq k 15 then some (.ifCond .eq 12, 18, [27]) else none))))) else (bif Nat.blt k 25 then (bif Nat.blt k 20 then (bif Nat.blt k 19 then (bif Nat.beq k 18 then some (.iload_n 2, 19, []) else none) else (bif Nat.beq k 19 then some (.aload_n 0, 20, []) else none)) else (bif Nat.blt k 23 then (bif Nat.beq k 20 then some (.getfield 89, 23, []) else none) else (bif Nat.blt k 24 then (bif Nat.beq k 23 then some (.iload_n 3, 24, []) else none) else (bif Nat.beq k 24 then some (.iaload, 25, []) else none)))) else (bif Nat.blt k 30 then (bif Nat.blt k 26 then (bif Nat.beq k 25 then some (.ior, 26, []) else none) else (bif Nat.blt k 27 then (bif Nat.beq k 26 then some (.istore_n 2, 27, []) else none) else (bif Nat.beq k 27 then some (.iinc 3 1, 30, []) else none))) else (bif Nat.blt k 33 then (bif Nat.beq k 30 then some (.goto (-26), 33, [4]) else none) else (bif Nat.blt k 34 then (bif Nat.beq k 33 then some (.iload_n 2, 34, []) else none) else (bif Nat.beq k 34 then some (.ireturn, 35, []) else none)))))) else none
noncomputable def P_C_partedByAny : MP := (T_C_partedByAny, (fun k => mLook k [(89, (12, 17, (.array .int), true))]), (fun k => mLook k []), (fun k => mLook k [(284, E_C_has)]), (fun k => mLook k []), (fun k => mLook k []), (fun k => mLook k []), (fun k => mLook k [(4, [true, true, true, true])]), (fun k => [34].any (Nat.beq k)), (1, 21, 0, 0), false, (fun _ => none))
set_option maxRecDepth 100000 in
set_option maxHeartbeats 4000000 in
theorem q_C_partedByAny_e (a1 : Int32) (σ : MSto) (n : Nat) : mexe KT P_C_partedByAny (n + 1) (0, [some (mR 12 0), some (mI a1), none, none], [], σ, 0, 0) = mexe KT P_C_partedByAny n (4, [some (mR 12 0), some (mI a1), some (mI 0), some (mI 0)], [], σ, 0, 0) := rfl
set_option maxRecDepth 100000 in
set_option maxHeartbeats 4000000 in
theorem q_C_partedByAny_4 (x1 : Int32) (x2 : Int32) (x3 : Int32) (σ : MSto) (n : Nat) : mexe KT P_C_partedByAny (n + 1) (4, [some (mR 12 0), some (mI x1), some (mI x2), some (mI x3)], [], σ, 0, 0) = mIf (12 ≤ x3) (some (34, [], [(mI x2)], σ, 0, 0)) (mIf ((v_C_has x1 x3 σ) = 0) (mexe KT P_C_partedByAny n (4, [some (mR 12 0), some (mI x1), some (mI x2), some (mI (x3 + 1))], [], σ, 0, 0)) (mG (vp_in x3 12) (mexe KT P_C_partedByAny n (4, [some (mR 12 0), some (mI x1), some (mI (x2 ||| (gI σ 30 0 (Int32.toNatClampNeg x3)))), some (mI (x3 + 1))], [], σ, 0, 0)))) := rfl
set_option maxRecDepth 100000 in
theorem lt_C_partedByAny_4 {Post : MST → Prop} (x1 : Int32) (c : Int32) (σ : MSto) (s : Int32) (hp : g_C_partedByAny_4 x1 c σ s) (hq : ¬ q_C_partedByAny_4s x1 c σ s = 1) (hn : ∀ r, t_C_partedByAny_4 x1 c σ s = r → mW1 P_C_partedByAny (4, [some (mR 12 0), some (mI x1), some (mI r), some (mI (c + 1))], [], σ, 0, 0) Post) : mW1 P_C_partedByAny (4, [some (mR 12 0), some (mI x1), some (mI s), some (mI c)], [], σ, 0, 0) Post := by
  unfold g_C_partedByAny_4 at hp
  refine mW1_eq (q_C_partedByAny_4 _ _ _ _) ?_
  refine mTr_if (fun h0 => ?_) (fun h0 => ?_)
  · skip
    exact absurd (if_pos h0) hq
  · skip
    have hp := hp h0
    refine mTr_if (fun h1 => ?_) (fun h1 => ?_)
    · skip
      exact mTr_k (hn s ((if_neg h0).trans (if_pos h1)))
    · skip
      have hp := hp h1
      refine mTr_g hp ?_
      exact mTr_k (hn (s ||| (gI σ 30 0 (Int32.toNatClampNeg c))) ((if_neg h0).trans (if_neg h1)))
theorem lp_C_partedByAny_4 {Post : MST → Prop} (x1 : Int32) (c0 : Int32) (σ : MSto) (s0 : Int32) (N : Nat) (hb : ∀ i, i < N → g_C_partedByAny_4 x1 (c0 + nI i) σ (f_C_partedByAny_4 x1 c0 σ s0 i) ∧ ¬ q_C_partedByAny_4s x1 (c0 + nI i) σ (f_C_partedByAny_4 x1 c0 σ s0 i) = 1) (h : mW1 P_C_partedByAny (4, [some (mR 12 0), some (mI x1), some (mI (f_C_partedByAny_4 x1 c0 σ s0 N)), some (mI (c0 + nI N))], [], σ, 0, 0) Post) : mW1 P_C_partedByAny (4, [some (mR 12 0), some (mI x1), some (mI s0), some (mI c0)], [], σ, 0, 0) Post := by
  refine mW1_st (mW1_loop (fun i => (4, [some (mR 12 0), some (mI x1), some (mI (f_C_partedByAny_4 x1 c0 σ s0 i)), some (mI (c0 + nI i))], [], σ, 0, 0)) N (fun i hlt hn => ?_) h) (by rw [show nI 0 = 0 from rfl, Int32.add_zero] <;> rfl)
  refine lt_C_partedByAny_4 x1 _ σ _ (hb i hlt).1 (hb i hlt).2 (fun r hr => ?_)
  rw [Int32.add_assoc, nI_s]
  subst hr
  exact hn
set_option maxRecDepth 100000 in
set_option maxHeartbeats 4000000 in
theorem d_C_partedByAny (a1 : Int32) (σ : MSto) (hp : p_C_partedByAny a1 σ) : mW1 P_C_partedByAny (0, [some (mR 12 0), some (mI a1), none, none], [], σ, 0, 0) (mF [34] [mI (v_C_partedByAny a1 σ)] σ 0 0) := by
  refine mW1_eq (q_C_partedByAny_e _ _) ?_
  unfold p_C_partedByAny at hp
  refine mTr_k (lp_C_partedByAny_4 a1 0 σ 0 (n_C_partedByAny_4 a1 0 σ 0) hp.1 ?_)
  have hp := hp.2
  refine mW1_eq (q_C_partedByAny_4 _ _ _ _) ?_
  refine mTr_if (fun h0 => ?_) (fun h0 => ?_)
  · skip
    exact mTr_e (by decide) (congrArg (fun z => [mI z]) (Eq.symm (rfl))) rfl (by decide) (by decide)
  · skip
    have hp := hp h0
    exact hp.elim

theorem tk_C_partedByAny : ∀ pc i nx tg, T_C_partedByAny pc = some (i, nx, tg) → mOkB prog_1_method_98_code pc i nx tg = true := code_ok (N := 35) (fun k h => by unfold T_C_partedByAny; rw [h]; rfl) (by decide +kernel)
theorem ok_C_partedByAny (l : Launch) : mPOK l "ClothWithMan" prog_1_method_98_code P_C_partedByAny := by
  refine ⟨tk_C_partedByAny, ?_, ?_, ?_, (fun pc i nx tg kd _ h => by cases h), ?_, ?_, fun pc en h => by cases h⟩
  · intro x ci f ty fin h
    exact mLook_all (Q := fun x v => mFOK "ClothWithMan" x v.1 v.2.1 v.2.2.1 v.2.2.2 ∧ (v.2.2.2 = true → pIni P_C_partedByAny = true → (Cond.fieldLink "ClothWithMan" x (((mCl[v.1]?).getD ("", fun _ => ("", "", "", false), 0)).2.1 v.2.1).1 (((mCl[v.1]?).getD ("", fun _ => ("", "", "", false), 0)).2.1 v.2.1).2.1 (((mCl[v.1]?).getD ("", fun _ => ("", "", "", false), 0)).2.1 v.2.1).2.2.1 ∈ lw_tbl ∧ (((mCl[v.1]?).getD ("", fun _ => ("", "", "", false), 0)).2.1 v.2.1).1 = "ClothWithMan"))) (fcC ⟨fo_C_89, fun h1 h2 => by cases h2⟩ fcN) x (ci, f, ty, fin) h
  · intro x
    have hh := mLook_all (l := ([] : List (Nat × (Int32 ⊕ Int64)))) (Q := fun x (v : Int32 ⊕ Int64) => (∀ w, v = .inl w → Cond.constant "ClothWithMan" x w ∈ lw_tbl) ∧ (∀ w, v = .inr w → Cond.constantLong "ClothWithMan" x w ∈ lw_tbl)) fcN x
    exact ⟨fun w h => (hh _ h).1 w rfl, fun w h => (hh _ h).2 w rfl⟩
  · exact fun x en h => mLook_all (Q := fun x en => mLink "ClothWithMan" x en ∧ mCtr l en ∧ (en.1.1 = 2 → en.2.2.2.2.2.2 = none)) (fcC ⟨li_C_284, c_C_has l, (fun h => by cases h)⟩ fcN) x en h
  · exact fun x kd h => mLook_all (Q := fun x kd => (kd = 95 ∧ Cond.fieldLink "ClothWithMan" x "ClothWithMan" "LIKENESSES" "[I" ∈ lw_tbl) ∨ (kd = 96 ∧ Cond.fieldLink "ClothWithMan" x "ClothWithMan" "APART_BOUNDS" "[I" ∈ lw_tbl)) fcN x kd h
  · exact fun x ci h => mLook_all (Q := fun x ci => ci ≠ 0 ∧ ∃ (C : String) (T : u_T) (N : Nat), mCl[ci]? = some (C, T, N) ∧ Cond.classLink "ClothWithMan" x C ∈ lw_tbl ∧ Cond.instantiable C N ∈ lw_tbl) fcN x ci h
set_option maxRecDepth 100000 in
theorem c_C_partedByAny (l : Launch) : mCtr l E_C_partedByAny := mCtr_of (P := P_C_partedByAny) (own := "ClothWithMan") mLay_ok rfl (by decide +kernel) rfl (ok_C_partedByAny l) (fun h => by cases h) (fun as σ pr rv σ' hF hpr hlv => by
  unfold E_C_partedByAny S_C_partedByAny at hF
  simp only [] at hF
  split at hF
  · cases hF
    obtain ⟨n, pcF, c1, s1, g1, g2, g3, g4⟩ := mF_inv (d_C_partedByAny _ σ (hpr _ rfl))
    exact ⟨Nat.le_of_ble_eq_true rfl, (fun v h => by cases h; trivial), n, pcF, c1, s1, g1, ⟨mEnd_of (i := .ireturn) (P := P_C_partedByAny) (rets := [34]) rfl g2, rfl⟩, g3, g4⟩
  · cases hF
    exact (hpr _ rfl).elim)
/-! ClothWithMan.tellFirstPairOutside(I)V -/
noncomputable def t_C_tellFirstPairOutside_17 (x1 : Int32) (x3 : Int32) (c : Int32) (σ : MSto) (s : Int32) : Int32 := (if (v_C_storyCount σ) ≤ c then s else (if (v_C_has x1 s σ) = 0 then s else (s + 1)))
noncomputable def q_C_tellFirstPairOutside_17s (x1 : Int32) (x3 : Int32) (c : Int32) (σ : MSto) (s : Int32) : Nat := (if (v_C_storyCount σ) ≤ c then 1 else (if (v_C_has x1 s σ) = 0 then 1 else 0))
def g_C_tellFirstPairOutside_17 (x1 : Int32) (x3 : Int32) (c : Int32) (σ : MSto) (s : Int32) : Prop := True
noncomputable def f_C_tellFirstPairOutside_17 (x1 : Int32) (x3 : Int32) (c0 : Int32) (σ : MSto) (s0 : Int32) (n : Nat) : Int32 := nfold (fun i s => t_C_tellFirstPairOutside_17 x1 x3 (c0 + nI i) σ s) s0 n
noncomputable def n_C_tellFirstPairOutside_17 (x1 : Int32) (x3 : Int32) (c0 : Int32) (σ : MSto) (s0 : Int32) : Nat := leastN (fun i => q_C_tellFirstPairOutside_17s x1 x3 (c0 + nI i) σ (f_C_tellFirstPairOutside_17 x1 x3 c0 σ s0 i) = 1) 7
noncomputable def t_C_tellFirstPairOutside_4 (x1 : Int32) (c : Int32) (σ : MSto) (s : Int32) : Int32 := (if (v_C_storyCount σ) ≤ c then s else (if (v_C_storyCount σ) ≤ ((c + 1) + nI (n_C_tellFirstPairOutside_17 x1 c (c + 1) σ s)) then (f_C_tellFirstPairOutside_17 x1 c (c + 1) σ s (n_C_tellFirstPairOutside_17 x1 c (c + 1) σ s)) else s))
noncomputable def q_C_tellFirstPairOutside_4s (x1 : Int32) (c : Int32) (σ : MSto) (s : Int32) : Nat := (if (v_C_storyCount σ) ≤ c then 1 else (if (v_C_storyCount σ) ≤ ((c + 1) + nI (n_C_tellFirstPairOutside_17 x1 c (c + 1) σ s)) then 0 else 1))
def g_C_tellFirstPairOutside_4 (x1 : Int32) (c : Int32) (σ : MSto) (s : Int32) : Prop := (¬ ((v_C_storyCount σ) ≤ c) → ((∀ i, i < (n_C_tellFirstPairOutside_17 x1 c (c + 1) σ s) → g_C_tellFirstPairOutside_17 x1 c ((c + 1) + nI i) σ (f_C_tellFirstPairOutside_17 x1 c (c + 1) σ s i) ∧ ¬ q_C_tellFirstPairOutside_17s x1 c ((c + 1) + nI i) σ (f_C_tellFirstPairOutside_17 x1 c (c + 1) σ s i) = 1) ∧ (¬ ((v_C_storyCount σ) ≤ ((c + 1) + nI (n_C_tellFirstPairOutside_17 x1 c (c + 1) σ s))) → (¬ ((v_C_has x1 (f_C_tellFirstPairOutside_17 x1 c (c + 1) σ s (n_C_tellFirstPairOutside_17 x1 c (c + 1) σ s)) σ) = 0) → False))))
noncomputable def f_C_tellFirstPairOutside_4 (x1 : Int32) (c0 : Int32) (σ : MSto) (s0 : Int32) (n : Nat) : Int32 := nfold (fun i s => t_C_tellFirstPairOutside_4 x1 (c0 + nI i) σ s) s0 n
noncomputable def n_C_tellFirstPairOutside_4 (x1 : Int32) (c0 : Int32) (σ : MSto) (s0 : Int32) : Nat := leastN (fun i => q_C_tellFirstPairOutside_4s x1 (c0 + nI i) σ (f_C_tellFirstPairOutside_4 x1 c0 σ s0 i) = 1) 7
def p_C_tellFirstPairOutside (a1 : Int32) (σ : MSto) : Prop := ((∀ i, i < (n_C_tellFirstPairOutside_4 a1 0 σ 0) → g_C_tellFirstPairOutside_4 a1 (0 + nI i) σ (f_C_tellFirstPairOutside_4 a1 0 σ 0 i) ∧ ¬ q_C_tellFirstPairOutside_4s a1 (0 + nI i) σ (f_C_tellFirstPairOutside_4 a1 0 σ 0 i) = 1) ∧ (¬ ((v_C_storyCount σ) ≤ (0 + nI (n_C_tellFirstPairOutside_4 a1 0 σ 0))) → ((∀ i, i < (n_C_tellFirstPairOutside_17 a1 (0 + nI (n_C_tellFirstPairOutside_4 a1 0 σ 0)) ((0 + nI (n_C_tellFirstPairOutside_4 a1 0 σ 0)) + 1) σ (f_C_tellFirstPairOutside_4 a1 0 σ 0 (n_C_tellFirstPairOutside_4 a1 0 σ 0))) → g_C_tellFirstPairOutside_17 a1 (0 + nI (n_C_tellFirstPairOutside_4 a1 0 σ 0)) (((0 + nI (n_C_tellFirstPairOutside_4 a1 0 σ 0)) + 1) + nI i) σ (f_C_tellFirstPairOutside_17 a1 (0 + nI (n_C_tellFirstPairOutside_4 a1 0 σ 0)) ((0 + nI (n_C_tellFirstPairOutside_4 a1 0 σ 0)) + 1) σ (f_C_tellFirstPairOutside_4 a1 0 σ 0 (n_C_tellFirstPairOutside_4 a1 0 σ 0)) i) ∧ ¬ q_C_tellFirstPairOutside_17s a1 (0 + nI (n_C_tellFirstPairOutside_4 a1 0 σ 0)) (((0 + nI (n_C_tellFirstPairOutside_4 a1 0 σ 0)) + 1) + nI i) σ (f_C_tellFirstPairOutside_17 a1 (0 + nI (n_C_tellFirstPairOutside_4 a1 0 σ 0)) ((0 + nI (n_C_tellFirstPairOutside_4 a1 0 σ 0)) + 1) σ (f_C_tellFirstPairOutside_4 a1 0 σ 0 (n_C_tellFirstPairOutside_4 a1 0 σ 0)) i) = 1) ∧ ((((v_C_storyCount σ) ≤ (((0 + nI (n_C_tellFirstPairOutside_4 a1 0 σ 0)) + 1) + nI (n_C_tellFirstPairOutside_17 a1 (0 + nI (n_C_tellFirstPairOutside_4 a1 0 σ 0)) ((0 + nI (n_C_tellFirstPairOutside_4 a1 0 σ 0)) + 1) σ (f_C_tellFirstPairOutside_4 a1 0 σ 0 (n_C_tellFirstPairOutside_4 a1 0 σ 0))))) → False) ∧ (¬ ((v_C_storyCount σ) ≤ (((0 + nI (n_C_tellFirstPairOutside_4 a1 0 σ 0)) + 1) + nI (n_C_tellFirstPairOutside_17 a1 (0 + nI (n_C_tellFirstPairOutside_4 a1 0 σ 0)) ((0 + nI (n_C_tellFirstPairOutside_4 a1 0 σ 0)) + 1) σ (f_C_tellFirstPairOutside_4 a1 0 σ 0 (n_C_tellFirstPairOutside_4 a1 0 σ 0))))) → ((((v_C_has a1 (f_C_tellFirstPairOutside_17 a1 (0 + nI (n_C_tellFirstPairOutside_4 a1 0 σ 0)) ((0 + nI (n_C_tellFirstPairOutside_4 a1 0 σ 0)) + 1) σ (f_C_tellFirstPairOutside_4 a1 0 σ 0 (n_C_tellFirstPairOutside_4 a1 0 σ 0)) (n_C_tellFirstPairOutside_17 a1 (0 + nI (n_C_tellFirstPairOutside_4 a1 0 σ 0)) ((0 + nI (n_C_tellFirstPairOutside_4 a1 0 σ 0)) + 1) σ (f_C_tellFirstPairOutside_4 a1 0 σ 0 (n_C_tellFirstPairOutside_4 a1 0 σ 0)))) σ) = 0) → ((p_Ro_add (Int32.toInt64 (0 + nI (n_C_tellFirstPairOutside_4 a1 0 σ 0))) σ) ∧ (p_Ro_add (Int32.toInt64 (((0 + nI (n_C_tellFirstPairOutside_4 a1 0 σ 0)) + 1) + nI (n_C_tellFirstPairOutside_17 a1 (0 + nI (n_C_tellFirstPairOutside_4 a1 0 σ 0)) ((0 + nI (n_C_tellFirstPairOutside_4 a1 0 σ 0)) + 1) σ (f_C_tellFirstPairOutside_4 a1 0 σ 0 (n_C_tellFirstPairOutside_4 a1 0 σ 0))))) (e_Ro_add (Int32.toInt64 (0 + nI (n_C_tellFirstPairOutside_4 a1 0 σ 0))) σ)))) ∧ (¬ ((v_C_has a1 (f_C_tellFirstPairOutside_17 a1 (0 + nI (n_C_tellFirstPairOutside_4 a1 0 σ 0)) ((0 + nI (n_C_tellFirstPairOutside_4 a1 0 σ 0)) + 1) σ (f_C_tellFirstPairOutside_4 a1 0 σ 0 (n_C_tellFirstPairOutside_4 a1 0 σ 0)) (n_C_tellFirstPairOutside_17 a1 (0 + nI (n_C_tellFirstPairOutside_4 a1 0 σ 0)) ((0 + nI (n_C_tellFirstPairOutside_4 a1 0 σ 0)) + 1) σ (f_C_tellFirstPairOutside_4 a1 0 σ 0 (n_C_tellFirstPairOutside_4 a1 0 σ 0)))) σ) = 0) → False)))))))
noncomputable def e_C_tellFirstPairOutside (a1 : Int32) (σ : MSto) : MSto := (if (v_C_storyCount σ) ≤ (0 + nI (n_C_tellFirstPairOutside_4 a1 0 σ 0)) then σ else (e_Ro_add (Int32.toInt64 (((0 + nI (n_C_tellFirstPairOutside_4 a1 0 σ 0)) + 1) + nI (n_C_tellFirstPairOutside_17 a1 (0 + nI (n_C_tellFirstPairOutside_4 a1 0 σ 0)) ((0 + nI (n_C_tellFirstPairOutside_4 a1 0 σ 0)) + 1) σ (f_C_tellFirstPairOutside_4 a1 0 σ 0 (n_C_tellFirstPairOutside_4 a1 0 σ 0))))) (e_Ro_add (Int32.toInt64 (0 + nI (n_C_tellFirstPairOutside_4 a1 0 σ 0))) σ)))
noncomputable def S_C_tellFirstPairOutside : List MV → MSto → Option Prop × Option MV × MSto := fun as σ => match as with
  | [.inr (.inr (some (12, 0))), .inl a0] => (some (p_C_tellFirstPairOutside a0 σ), none, e_C_tellFirstPairOutside a0 σ)
  | _ => (some False, none, σ)
noncomputable def E_C_tellFirstPairOutside : MEnt := ((1, 1, 12), (2, 41, 0, 0), S_C_tellFirstPairOutside, ((⟨"ClothWithMan", "tellFirstPairOutside", "(I)V"⟩ : MethodName), prog_1_method_99_code, 5, none))

def T_C_tellFirstPairOutside : Nat → Option (Instr × Nat × List Nat) := fun k => bif Nat.blt k 70 then (bif Nat.blt k 28 then (bif Nat.blt k 13 then (bif Nat.blt k 4 then (bif Nat.blt k 2 then (bif Nat.blt k 1 then (bif Nat.beq k 0 then some (.iconst 0, 1, []) else none) else (bif Nat.beq k 1 then some (.istore_n 2, 2, []) else none)) else (bif Nat.blt k 3 then (bif Nat.beq k 2 then some (.iconst 0, 3, []) else none) else (bif Nat.beq k 3 then some (.istore_n 3, 4, []) else none))) else (bif Nat.blt k 6 then (bif Nat.blt k 5 then (bif Nat.beq k 4 then some (.iload_n 3, 5, []) else none) else (bif Nat.beq k 5 then some (.aload_n 0, 6, []) else none)) else (bif Nat.blt k 9 then (bif Nat.beq k 6 then some (.invokevirtual 330, 9, []) else none) else (bif Nat.blt k 12 then (bif Nat.beq k 9 then some (.if_icmp .ge 60, 12, [69]) else none) else (bif Nat.beq k 12 then some (.iload_n 3, 13, []) else none))))) else (bif Nat.blt k 19 then (bif Nat.blt k 15 then (bif Nat.blt k 14 then (bif Nat.beq k 13 then some (.iconst 1, 14, []) else none) else (bif Nat.beq k 14 then some (.iadd, 15, []) else none)) else (bif Nat.blt k 17 then (bif Nat.beq k 15 then some (.istore 4, 17, []) else none) else (bif Nat.beq k 17 then some (.iload 4, 19, []) else none))) else (bif Nat.blt k 23 then (bif Nat.blt k 20 then (bif Nat.beq k 19 then some (.aload_n 0, 20, []) else none) else (bif Nat.beq k 20 then some (.invokevirtual 330, 23, []) else none)) else (bif Nat.blt k 26 then (bif Nat.beq k 23 then some (.if_icmp .ge 40, 26, [63]) else none) else (bif Nat.blt k 27 then (bif Nat.beq k 26 then some (.iload_n 1, 27, []) else none) else (bif Nat.beq k 27 then some (.iload_n 2, 28, []) else none)))))) else (bif Nat.blt k 47 then (bif Nat.blt k 38 then (bif Nat.blt k 34 then (bif Nat.blt k 31 then (bif Nat.beq k 28 then some (.invokestatic 284, 31, []) else none) else (bif Nat.beq k 31 then some (.ifCond .ne 23, 34, [54]) else none)) else (bif Nat.blt k 35 then (bif Nat.beq k 34 then some (.aload_n 0, 35, []) else none) else (bif Nat.beq k 35 then some (.getfield 67, 38, []) else none))) else (bif Nat.blt k 40 then (bif Nat.blt k 39 then (bif Nat.beq k 38 then some (.iload_n 3, 39, []) else none) else (bif Nat.beq k 39 then some (.i2l, 40, []) else none)) else (bif Nat.blt k 43 then (bif Nat.beq k 40 then some (.invokevirtual 223, 43, []) else none) else (bif Nat.blt k 44 then (bif Nat.beq k 43 then some (.aload_n 0, 44, []) else none) else (bif Nat.beq k 44 then some (.getfield 67, 47, []) else none))))) else (bif Nat.blt k 57 then (bif Nat.blt k 50 then (bif Nat.blt k 49 then (bif Nat.beq k 47 then some (.iload 4, 49, []) else none) else (bif Nat.beq k 49 then some (.i2l, 50, []) else none)) else (bif Nat.blt k 53 then (bif Nat.beq k 50 then some (.invokevirtual 223, 53, []) else none) else (bif Nat.blt k 54 then (bif Nat.beq k 53 then some (.return_, 54, []) else none) else (bif Nat.beq k 54 then some (.iinc 2 1, 57, []) else none)))) else (bif Nat.blt k 63 then (bif Nat.blt k 60 then (bif Nat.beq k 57 then some (.iinc 4 1, 60, []) else none) else (bif Nat.beq k 60 then some (.goto (-43), 63, [17]) else none)) else (bif Nat.blt k 66 then (bif Nat.beq k 63 then some (.iinc 3 1, 66, []) else none) else (bif Nat.blt k 69 then (bif Nat.beq k 66 then some (.goto (-62), 69, [4]) else none) else (bif Nat.beq k 69 then some (.return_, 70, []) else none))))))) else none
noncomputable def P_C_tellFirstPairOutside : MP := (T_C_tellFirstPairOutside, (fun k => mLook k [(67, (12, 11, (.object "ClothWithMan$Row"), true))]), (fun k => mLook k []), (fun k => mLook k [(223, E_Ro_add), (284, E_C_has), (330, E_C_storyCount)]), (fun k => mLook k []), (fun k => mLook k []), (fun k => mLook k []), (fun k => mLook k [(4, [true, true, true, true, false]), (17, [true, true, true, true, true])]), (fun k => [53, 69].any (Nat.beq k)), (2, 41, 0, 0), false, (fun _ => none))
set_option maxRecDepth 100000 in
set_option maxHeartbeats 4000000 in
theorem q_C_tellFirstPairOutside_e (a1 : Int32) (σ : MSto) (n : Nat) : mexe KT P_C_tellFirstPairOutside (n + 1) (0, [some (mR 12 0), some (mI a1), none, none, none], [], σ, 0, 0) = mexe KT P_C_tellFirstPairOutside n (4, [some (mR 12 0), some (mI a1), some (mI 0), some (mI 0), none], [], σ, 0, 0) := rfl
set_option maxRecDepth 100000 in
set_option maxHeartbeats 4000000 in
theorem q_C_tellFirstPairOutside_4 (x1 : Int32) (x2 : Int32) (x3 : Int32) (σ : MSto) (n : Nat) : mexe KT P_C_tellFirstPairOutside (n + 1) (4, [some (mR 12 0), some (mI x1), some (mI x2), some (mI x3), none], [], σ, 0, 0) = mIf ((v_C_storyCount σ) ≤ x3) (some (69, [], [], σ, 0, 0)) (mexe KT P_C_tellFirstPairOutside n (17, [some (mR 12 0), some (mI x1), some (mI x2), some (mI x3), some (mI (x3 + 1))], [], σ, 0, 0)) := rfl
set_option maxRecDepth 100000 in
set_option maxHeartbeats 4000000 in
theorem q_C_tellFirstPairOutside_17 (x1 : Int32) (x2 : Int32) (x3 : Int32) (x4 : Int32) (σ : MSto) (n : Nat) : mexe KT P_C_tellFirstPairOutside (n + 1) (17, [some (mR 12 0), some (mI x1), some (mI x2), some (mI x3), some (mI x4)], [], σ, 0, 0) = mIf ((v_C_storyCount σ) ≤ x4) (mexe KT P_C_tellFirstPairOutside n (4, [some (mR 12 0), some (mI x1), some (mI x2), some (mI (x3 + 1)), none], [], σ, 0, 0)) (mIf ((v_C_has x1 x2 σ) = 0) (mG (p_Ro_add (Int32.toInt64 x3) σ) (mG (p_Ro_add (Int32.toInt64 x4) (e_Ro_add (Int32.toInt64 x3) σ)) (some (53, [], [], (e_Ro_add (Int32.toInt64 x4) (e_Ro_add (Int32.toInt64 x3) σ)), 0, 0)))) (mexe KT P_C_tellFirstPairOutside n (17, [some (mR 12 0), some (mI x1), some (mI (x2 + 1)), some (mI x3), some (mI (x4 + 1))], [], σ, 0, 0))) := rfl
set_option maxRecDepth 100000 in
theorem lt_C_tellFirstPairOutside_17 {Post : MST → Prop} (x1 : Int32) (x3 : Int32) (c : Int32) (σ : MSto) (s : Int32) (hp : g_C_tellFirstPairOutside_17 x1 x3 c σ s) (hq : ¬ q_C_tellFirstPairOutside_17s x1 x3 c σ s = 1) (hn : ∀ r, t_C_tellFirstPairOutside_17 x1 x3 c σ s = r → mW1 P_C_tellFirstPairOutside (17, [some (mR 12 0), some (mI x1), some (mI r), some (mI x3), some (mI (c + 1))], [], σ, 0, 0) Post) : mW1 P_C_tellFirstPairOutside (17, [some (mR 12 0), some (mI x1), some (mI s), some (mI x3), some (mI c)], [], σ, 0, 0) Post := by
  unfold g_C_tellFirstPairOutside_17 at hp
  refine mW1_eq (q_C_tellFirstPairOutside_17 _ _ _ _ _) ?_
  refine mTr_if (fun h0 => ?_) (fun h0 => ?_)
  · skip
    exact absurd (if_pos h0) hq
  · skip
    refine mTr_if (fun h1 => ?_) (fun h1 => ?_)
    · skip
      exact absurd ((if_neg h0).trans (if_pos h1)) hq
    · skip
      exact mTr_k (hn (s + 1) ((if_neg h0).trans (if_neg h1)))
theorem lp_C_tellFirstPairOutside_17 {Post : MST → Prop} (x1 : Int32) (x3 : Int32) (c0 : Int32) (σ : MSto) (s0 : Int32) (N : Nat) (hb : ∀ i, i < N → g_C_tellFirstPairOutside_17 x1 x3 (c0 + nI i) σ (f_C_tellFirstPairOutside_17 x1 x3 c0 σ s0 i) ∧ ¬ q_C_tellFirstPairOutside_17s x1 x3 (c0 + nI i) σ (f_C_tellFirstPairOutside_17 x1 x3 c0 σ s0 i) = 1) (h : mW1 P_C_tellFirstPairOutside (17, [some (mR 12 0), some (mI x1), some (mI (f_C_tellFirstPairOutside_17 x1 x3 c0 σ s0 N)), some (mI x3), some (mI (c0 + nI N))], [], σ, 0, 0) Post) : mW1 P_C_tellFirstPairOutside (17, [some (mR 12 0), some (mI x1), some (mI s0), some (mI x3), some (mI c0)], [], σ, 0, 0) Post := by
  refine mW1_st (mW1_loop (fun i => (17, [some (mR 12 0), some (mI x1), some (mI (f_C_tellFirstPairOutside_17 x1 x3 c0 σ s0 i)), some (mI x3), some (mI (c0 + nI i))], [], σ, 0, 0)) N (fun i hlt hn => ?_) h) (by rw [show nI 0 = 0 from rfl, Int32.add_zero] <;> rfl)
  refine lt_C_tellFirstPairOutside_17 x1 x3 _ σ _ (hb i hlt).1 (hb i hlt).2 (fun r hr => ?_)
  rw [Int32.add_assoc, nI_s]
  subst hr
  exact hn
set_option maxRecDepth 100000 in
theorem lt_C_tellFirstPairOutside_4 {Post : MST → Prop} (x1 : Int32) (c : Int32) (σ : MSto) (s : Int32) (hp : g_C_tellFirstPairOutside_4 x1 c σ s) (hq : ¬ q_C_tellFirstPairOutside_4s x1 c σ s = 1) (hn : ∀ r, t_C_tellFirstPairOutside_4 x1 c σ s = r → mW1 P_C_tellFirstPairOutside (4, [some (mR 12 0), some (mI x1), some (mI r), some (mI (c + 1)), none], [], σ, 0, 0) Post) : mW1 P_C_tellFirstPairOutside (4, [some (mR 12 0), some (mI x1), some (mI s), some (mI c), none], [], σ, 0, 0) Post := by
  unfold g_C_tellFirstPairOutside_4 at hp
  refine mW1_eq (q_C_tellFirstPairOutside_4 _ _ _ _) ?_
  refine mTr_if (fun h0 => ?_) (fun h0 => ?_)
  · skip
    exact absurd (if_pos h0) hq
  · skip
    have hp := hp h0
    refine mTr_k (lp_C_tellFirstPairOutside_17 x1 c (c + 1) σ s (n_C_tellFirstPairOutside_17 x1 c (c + 1) σ s) hp.1 ?_)
    have hp := hp.2
    refine mW1_eq (q_C_tellFirstPairOutside_17 _ _ _ _ _) ?_
    refine mTr_if (fun h1 => ?_) (fun h1 => ?_)
    · skip
      exact mTr_k (hn (f_C_tellFirstPairOutside_17 x1 c (c + 1) σ s (n_C_tellFirstPairOutside_17 x1 c (c + 1) σ s)) ((if_neg h0).trans (if_pos h1)))
    · skip
      have hp := hp h1
      refine mTr_if (fun h2 => ?_) (fun h2 => ?_)
      · skip
        exact absurd ((if_neg h0).trans (if_neg h1)) hq
      · skip
        have hp := hp h2
        exact hp.elim
theorem lp_C_tellFirstPairOutside_4 {Post : MST → Prop} (x1 : Int32) (c0 : Int32) (σ : MSto) (s0 : Int32) (N : Nat) (hb : ∀ i, i < N → g_C_tellFirstPairOutside_4 x1 (c0 + nI i) σ (f_C_tellFirstPairOutside_4 x1 c0 σ s0 i) ∧ ¬ q_C_tellFirstPairOutside_4s x1 (c0 + nI i) σ (f_C_tellFirstPairOutside_4 x1 c0 σ s0 i) = 1) (h : mW1 P_C_tellFirstPairOutside (4, [some (mR 12 0), some (mI x1), some (mI (f_C_tellFirstPairOutside_4 x1 c0 σ s0 N)), some (mI (c0 + nI N)), none], [], σ, 0, 0) Post) : mW1 P_C_tellFirstPairOutside (4, [some (mR 12 0), some (mI x1), some (mI s0), some (mI c0), none], [], σ, 0, 0) Post := by
  refine mW1_st (mW1_loop (fun i => (4, [some (mR 12 0), some (mI x1), some (mI (f_C_tellFirstPairOutside_4 x1 c0 σ s0 i)), some (mI (c0 + nI i)), none], [], σ, 0, 0)) N (fun i hlt hn => ?_) h) (by rw [show nI 0 = 0 from rfl, Int32.add_zero] <;> rfl)
  refine lt_C_tellFirstPairOutside_4 x1 _ σ _ (hb i hlt).1 (hb i hlt).2 (fun r hr => ?_)
  rw [Int32.add_assoc, nI_s]
  subst hr
  exact hn
set_option maxRecDepth 100000 in
set_option maxHeartbeats 4000000 in
theorem d_C_tellFirstPairOutside (a1 : Int32) (σ : MSto) (hp : p_C_tellFirstPairOutside a1 σ) : mW1 P_C_tellFirstPairOutside (0, [some (mR 12 0), some (mI a1), none, none, none], [], σ, 0, 0) (mF [53, 69] [] (e_C_tellFirstPairOutside a1 σ) 0 0) := by
  refine mW1_eq (q_C_tellFirstPairOutside_e _ _) ?_
  unfold p_C_tellFirstPairOutside at hp
  refine mTr_k (lp_C_tellFirstPairOutside_4 a1 0 σ 0 (n_C_tellFirstPairOutside_4 a1 0 σ 0) hp.1 ?_)
  have hp := hp.2
  refine mW1_eq (q_C_tellFirstPairOutside_4 _ _ _ _) ?_
  refine mTr_if (fun h0 => ?_) (fun h0 => ?_)
  · skip
    exact mTr_e (by decide) rfl (Eq.symm (if_pos h0)) (by decide) (by decide)
  · skip
    have hp := hp h0
    refine mTr_k (lp_C_tellFirstPairOutside_17 a1 (0 + nI (n_C_tellFirstPairOutside_4 a1 0 σ 0)) ((0 + nI (n_C_tellFirstPairOutside_4 a1 0 σ 0)) + 1) σ (f_C_tellFirstPairOutside_4 a1 0 σ 0 (n_C_tellFirstPairOutside_4 a1 0 σ 0)) (n_C_tellFirstPairOutside_17 a1 (0 + nI (n_C_tellFirstPairOutside_4 a1 0 σ 0)) ((0 + nI (n_C_tellFirstPairOutside_4 a1 0 σ 0)) + 1) σ (f_C_tellFirstPairOutside_4 a1 0 σ 0 (n_C_tellFirstPairOutside_4 a1 0 σ 0))) hp.1 ?_)
    have hp := hp.2
    refine mW1_eq (q_C_tellFirstPairOutside_17 _ _ _ _ _) ?_
    refine mTr_if (fun h1 => ?_) (fun h1 => ?_)
    · skip
      have hp := hp.1 h1
      exact hp.elim
    · skip
      have hp := hp.2 h1
      refine mTr_if (fun h2 => ?_) (fun h2 => ?_)
      · skip
        have hp := hp.1 h2
        refine mTr_g hp.1 ?_
        have hp := hp.2
        refine mTr_g hp ?_
        exact mTr_e (by decide) rfl (Eq.symm (if_neg h0)) (by decide) (by decide)
      · skip
        have hp := hp.2 h2
        exact hp.elim



theorem tk_C_tellFirstPairOutside : ∀ pc i nx tg, T_C_tellFirstPairOutside pc = some (i, nx, tg) → mOkB prog_1_method_99_code pc i nx tg = true := code_ok (N := 70) (fun k h => by unfold T_C_tellFirstPairOutside; rw [h]; rfl) (by decide +kernel)
theorem ok_C_tellFirstPairOutside (l : Launch) : mPOK l "ClothWithMan" prog_1_method_99_code P_C_tellFirstPairOutside := by
  refine ⟨tk_C_tellFirstPairOutside, ?_, ?_, ?_, (fun pc i nx tg kd _ h => by cases h), ?_, ?_, fun pc en h => by cases h⟩
  · intro x ci f ty fin h
    exact mLook_all (Q := fun x v => mFOK "ClothWithMan" x v.1 v.2.1 v.2.2.1 v.2.2.2 ∧ (v.2.2.2 = true → pIni P_C_tellFirstPairOutside = true → (Cond.fieldLink "ClothWithMan" x (((mCl[v.1]?).getD ("", fun _ => ("", "", "", false), 0)).2.1 v.2.1).1 (((mCl[v.1]?).getD ("", fun _ => ("", "", "", false), 0)).2.1 v.2.1).2.1 (((mCl[v.1]?).getD ("", fun _ => ("", "", "", false), 0)).2.1 v.2.1).2.2.1 ∈ lw_tbl ∧ (((mCl[v.1]?).getD ("", fun _ => ("", "", "", false), 0)).2.1 v.2.1).1 = "ClothWithMan"))) (fcC ⟨fo_C_67, fun h1 h2 => by cases h2⟩ fcN) x (ci, f, ty, fin) h
  · intro x
    have hh := mLook_all (l := ([] : List (Nat × (Int32 ⊕ Int64)))) (Q := fun x (v : Int32 ⊕ Int64) => (∀ w, v = .inl w → Cond.constant "ClothWithMan" x w ∈ lw_tbl) ∧ (∀ w, v = .inr w → Cond.constantLong "ClothWithMan" x w ∈ lw_tbl)) fcN x
    exact ⟨fun w h => (hh _ h).1 w rfl, fun w h => (hh _ h).2 w rfl⟩
  · exact fun x en h => mLook_all (Q := fun x en => mLink "ClothWithMan" x en ∧ mCtr l en ∧ (en.1.1 = 2 → en.2.2.2.2.2.2 = none)) (fcC ⟨li_C_223, c_Ro_add l, (fun h => by cases h)⟩ (fcC ⟨li_C_284, c_C_has l, (fun h => by cases h)⟩ (fcC ⟨li_C_330, c_C_storyCount l, (fun h => by cases h)⟩ fcN))) x en h
  · exact fun x kd h => mLook_all (Q := fun x kd => (kd = 95 ∧ Cond.fieldLink "ClothWithMan" x "ClothWithMan" "LIKENESSES" "[I" ∈ lw_tbl) ∨ (kd = 96 ∧ Cond.fieldLink "ClothWithMan" x "ClothWithMan" "APART_BOUNDS" "[I" ∈ lw_tbl)) fcN x kd h
  · exact fun x ci h => mLook_all (Q := fun x ci => ci ≠ 0 ∧ ∃ (C : String) (T : u_T) (N : Nat), mCl[ci]? = some (C, T, N) ∧ Cond.classLink "ClothWithMan" x C ∈ lw_tbl ∧ Cond.instantiable C N ∈ lw_tbl) fcN x ci h
set_option maxRecDepth 100000 in
theorem c_C_tellFirstPairOutside (l : Launch) : mCtr l E_C_tellFirstPairOutside := mCtr_of (P := P_C_tellFirstPairOutside) (own := "ClothWithMan") mLay_ok rfl (by decide +kernel) rfl (ok_C_tellFirstPairOutside l) (fun h => by cases h) (fun as σ pr rv σ' hF hpr hlv => by
  unfold E_C_tellFirstPairOutside S_C_tellFirstPairOutside at hF
  simp only [] at hF
  split at hF
  · cases hF
    obtain ⟨n, pcF, c1, s1, g1, g2, g3, g4⟩ := mF_inv (d_C_tellFirstPairOutside _ σ (hpr _ rfl))
    exact ⟨Nat.le_of_ble_eq_true rfl, (fun v h => by cases h), n, pcF, c1, s1, g1, mEnd_of (i := .return_) (P := P_C_tellFirstPairOutside) (rets := [53, 69]) rfl g2, g3, g4⟩
  · cases hF
    exact (hpr _ rfl).elim)
/-! ClothWithMan.bestHouse(IIII)I -/
noncomputable def tj_C_bestHouse_7j80 (x1 : Int32) (x2 : Int32) (x3 : Int32) (x5 : Int32) (x6 : Int32) (σ : MSto) (s : Int32 × MSto) : Int32 × MSto := (x5, σ)
noncomputable def qj_C_bestHouse_7j80 (x1 : Int32) (x2 : Int32) (x3 : Int32) (x5 : Int32) (x6 : Int32) (σ : MSto) : Nat := 0
noncomputable def t_C_bestHouse_7 (x1 : Int32) (x2 : Int32) (x3 : Int32) (c : Int32) (s : Int32 × MSto) : Int32 × MSto := (if 6 ≤ c then s else (if (v_In_bitCount (v_C_pairsPartedIn c (s.2)) (s.2)) ≤ (s.1) then (tj_C_bestHouse_7j80 x1 x2 x3 (s.1) c (s.2) s) else (tj_C_bestHouse_7j80 x1 x2 x3 (v_In_bitCount (v_C_pairsPartedIn c (s.2)) (s.2)) c (e_Ro_add (Int32.toInt64 c) (e_Ro_add (Int32.toInt64 x3) (e_Ro_add (Int32.toInt64 x2) (e_Ro_add (Int32.toInt64 x1) (e_Ro_clear (s.2)))))) s)))
noncomputable def q_C_bestHouse_7s (x1 : Int32) (x2 : Int32) (x3 : Int32) (c : Int32) (s : Int32 × MSto) : Nat := (if 6 ≤ c then 1 else 0)
def g_C_bestHouse_7 (x1 : Int32) (x2 : Int32) (x3 : Int32) (c : Int32) (s : Int32 × MSto) : Prop := (¬ (6 ≤ c) → ((p_C_pairsPartedIn c (s.2)) ∧ (¬ ((v_In_bitCount (v_C_pairsPartedIn c (s.2)) (s.2)) ≤ (s.1)) → ((p_Ro_add (Int32.toInt64 x1) (e_Ro_clear (s.2))) ∧ ((p_Ro_add (Int32.toInt64 x2) (e_Ro_add (Int32.toInt64 x1) (e_Ro_clear (s.2)))) ∧ ((p_Ro_add (Int32.toInt64 x3) (e_Ro_add (Int32.toInt64 x2) (e_Ro_add (Int32.toInt64 x1) (e_Ro_clear (s.2))))) ∧ (p_Ro_add (Int32.toInt64 c) (e_Ro_add (Int32.toInt64 x3) (e_Ro_add (Int32.toInt64 x2) (e_Ro_add (Int32.toInt64 x1) (e_Ro_clear (s.2))))))))))))
noncomputable def f_C_bestHouse_7 (x1 : Int32) (x2 : Int32) (x3 : Int32) (c0 : Int32) (s0 : Int32 × MSto) (n : Nat) : Int32 × MSto := nfold (fun i s => t_C_bestHouse_7 x1 x2 x3 (c0 + nI i) s) s0 n
noncomputable def n_C_bestHouse_7 (x1 : Int32) (x2 : Int32) (x3 : Int32) (c0 : Int32) (s0 : Int32 × MSto) : Nat := 6
noncomputable def v_C_bestHouse (a1 : Int32) (a2 : Int32) (a3 : Int32) (a4 : Int32) (σ : MSto) : Int32 := ((f_C_bestHouse_7 a1 a2 a3 0 (a4, σ) (n_C_bestHouse_7 a1 a2 a3 0 (a4, σ))).1)
def p_C_bestHouse (a1 : Int32) (a2 : Int32) (a3 : Int32) (a4 : Int32) (σ : MSto) : Prop := ((∀ i, i < (n_C_bestHouse_7 a1 a2 a3 0 (a4, σ)) → g_C_bestHouse_7 a1 a2 a3 (0 + nI i) (f_C_bestHouse_7 a1 a2 a3 0 (a4, σ) i) ∧ ¬ q_C_bestHouse_7s a1 a2 a3 (0 + nI i) (f_C_bestHouse_7 a1 a2 a3 0 (a4, σ) i) = 1) ∧ (¬ (6 ≤ (0 + nI (n_C_bestHouse_7 a1 a2 a3 0 (a4, σ)))) → False))
noncomputable def e_C_bestHouse (a1 : Int32) (a2 : Int32) (a3 : Int32) (a4 : Int32) (σ : MSto) : MSto := ((f_C_bestHouse_7 a1 a2 a3 0 (a4, σ) (n_C_bestHouse_7 a1 a2 a3 0 (a4, σ))).2)
noncomputable def S_C_bestHouse : List MV → MSto → Option Prop × Option MV × MSto := fun as σ => match as with
  | [.inr (.inr (some (12, 0))), .inl a0, .inl a1, .inl a2, .inl a3] => (some (p_C_bestHouse a0 a1 a2 a3 σ), some (mI (v_C_bestHouse a0 a1 a2 a3 σ)), e_C_bestHouse a0 a1 a2 a3 σ)
  | _ => (some False, none, σ)
noncomputable def E_C_bestHouse : MEnt := ((1, 4, 12), (7, 149, 0, 0), S_C_bestHouse, ((⟨"ClothWithMan", "bestHouse", "(IIII)I"⟩ : MethodName), prog_1_method_100_code, 8, (some .int)))

def T_C_bestHouse : Nat → Option (Instr × Nat × List Nat) := fun k => bif Nat.blt k 89 then (bif Nat.blt k 47 then (bif Nat.blt k 23 then (bif Nat.blt k 9 then (bif Nat.blt k 4 then (bif Nat.blt k 2 then (bif Nat.beq k 0 then some (.iload 4, 2, []) else none) else (bif Nat.beq k 2 then some (.istore 5, 4, []) else none)) else (bif Nat.blt k 5 then (bif Nat.beq k 4 then some (.iconst 0, 5, []) else none) else (bif Nat.blt k 7 then (bif Nat.beq k 5 then some (.istore 6, 7, []) else none) else (bif Nat.beq k 7 then some (.iload 6, 9, []) else none)))) else (bif Nat.blt k 15 then (bif Nat.blt k 11 then (bif Nat.beq k 9 then some (.bipush 6, 11, []) else none) else (bif Nat.blt k 14 then (bif Nat.beq k 11 then some (.if_icmp .ge 75, 14, [86]) else none) else (bif Nat.beq k 14 then some (.aload_n 0, 15, []) else none))) else (bif Nat.blt k 17 then (bif Nat.beq k 15 then some (.iload 6, 17, []) else none) else (bif Nat.blt k 20 then (bif Nat.beq k 17 then some (.invokevirtual 502, 20, []) else none) else (bif Nat.beq k 20 then some (.invokestatic 260, 23, []) else none))))) else (bif Nat.blt k 34 then (bif Nat.blt k 27 then (bif Nat.blt k 25 then (bif Nat.beq k 23 then some (.istore 7, 25, []) else none) else (bif Nat.beq k 25 then some (.iload 7, 27, []) else none)) else (bif Nat.blt k 29 then (bif Nat.beq k 27 then some (.iload 5, 29, []) else none) else (bif Nat.blt k 32 then (bif Nat.beq k 29 then some (.if_icmp .le 51, 32, [80]) else none) else (bif Nat.beq k 32 then some (.iload 7, 34, []) else none)))) else (bif Nat.blt k 40 then (bif Nat.blt k 36 then (bif Nat.beq k 34 then some (.istore 5, 36, []) else none) else (bif Nat.blt k 37 then (bif Nat.beq k 36 then some (.aload_n 0, 37, []) else none) else (bif Nat.beq k 37 then some (.getfield 67, 40, []) else none))) else (bif Nat.blt k 43 then (bif Nat.beq k 40 then some (.invokevirtual 217, 43, []) else none) else (bif Nat.blt k 44 then (bif Nat.beq k 43 then some (.aload_n 0, 44, []) else none) else (bif Nat.beq k 44 then some (.getfield 67, 47, []) else none)))))) else (bif Nat.blt k 66 then (bif Nat.blt k 56 then (bif Nat.blt k 49 then (bif Nat.blt k 48 then (bif Nat.beq k 47 then some (.iload_n 1, 48, []) else none) else (bif Nat.beq k 48 then some (.i2l, 49, []) else none)) else (bif Nat.blt k 52 then (bif Nat.beq k 49 then some (.invokevirtual 223, 52, []) else none) else (bif Nat.blt k 53 then (bif Nat.beq k 52 then some (.aload_n 0, 53, []) else none) else (bif Nat.beq k 53 then some (.getfield 67, 56, []) else none)))) else (bif Nat.blt k 61 then (bif Nat.blt k 57 then (bif Nat.beq k 56 then some (.iload_n 2, 57, []) else none) else (bif Nat.blt k 58 then (bif Nat.beq k 57 then some (.i2l, 58, []) else none) else (bif Nat.beq k 58 then some (.invokevirtual 223, 61, []) else none))) else (bif Nat.blt k 62 then (bif Nat.beq k 61 then some (.aload_n 0, 62, []) else none) else (bif Nat.blt k 65 then (bif Nat.beq k 62 then some (.getfield 67, 65, []) else none) else (bif Nat.beq k 65 then some (.iload_n 3, 66, []) else none))))) else (bif Nat.blt k 76 then (bif Nat.blt k 70 then (bif Nat.blt k 67 then (bif Nat.beq k 66 then some (.i2l, 67, []) else none) else (bif Nat.beq k 67 then some (.invokevirtual 223, 70, []) else none)) else (bif Nat.blt k 71 then (bif Nat.beq k 70 then some (.aload_n 0, 71, []) else none) else (bif Nat.blt k 74 then (bif Nat.beq k 71 then some (.getfield 67, 74, []) else none) else (bif Nat.beq k 74 then some (.iload 6, 76, []) else none)))) else (bif Nat.blt k 83 then (bif Nat.blt k 77 then (bif Nat.beq k 76 then some (.i2l, 77, []) else none) else (bif Nat.blt k 80 then (bif Nat.beq k 77 then some (.invokevirtual 223, 80, []) else none) else (bif Nat.beq k 80 then some (.iinc 6 1, 83, []) else none))) else (bif Nat.blt k 86 then (bif Nat.beq k 83 then some (.goto (-76), 86, [7]) else none) else (bif Nat.blt k 88 then (bif Nat.beq k 86 then some (.iload 5, 88, []) else none) else (bif Nat.beq k 88 then some (.ireturn, 89, []) else none))))))) else none
noncomputable def P_C_bestHouse : MP := (T_C_bestHouse, (fun k => mLook k [(67, (12, 11, (.object "ClothWithMan$Row"), true))]), (fun k => mLook k []), (fun k => mLook k [(217, E_Ro_clear), (223, E_Ro_add), (260, E_In_bitCount), (502, E_C_pairsPartedIn)]), (fun k => mLook k []), (fun k => mLook k []), (fun k => mLook k []), (fun k => mLook k [(7, [true, true, true, true, false, true, true, false]), (80, [true, true, true, true, false, true, true, false])]), (fun k => [88].any (Nat.beq k)), (7, 149, 0, 0), false, (fun _ => none))
set_option maxRecDepth 100000 in
set_option maxHeartbeats 4000000 in
theorem q_C_bestHouse_e (a1 : Int32) (a2 : Int32) (a3 : Int32) (a4 : Int32) (σ : MSto) (n : Nat) : mexe KT P_C_bestHouse (n + 1) (0, [some (mR 12 0), some (mI a1), some (mI a2), some (mI a3), some (mI a4), none, none, none], [], σ, 0, 0) = mexe KT P_C_bestHouse n (7, [some (mR 12 0), some (mI a1), some (mI a2), some (mI a3), none, some (mI a4), some (mI 0), none], [], σ, 0, 0) := rfl
set_option maxRecDepth 100000 in
set_option maxHeartbeats 4000000 in
theorem q_C_bestHouse_7 (x1 : Int32) (x2 : Int32) (x3 : Int32) (x5 : Int32) (x6 : Int32) (σ : MSto) (n : Nat) : mexe KT P_C_bestHouse (n + 1) (7, [some (mR 12 0), some (mI x1), some (mI x2), some (mI x3), none, some (mI x5), some (mI x6), none], [], σ, 0, 0) = mIf (6 ≤ x6) (some (88, [], [(mI x5)], σ, 0, 0)) (mG (p_C_pairsPartedIn x6 σ) (mIf ((v_In_bitCount (v_C_pairsPartedIn x6 σ) σ) ≤ x5) (mexe KT P_C_bestHouse n (80, [some (mR 12 0), some (mI x1), some (mI x2), some (mI x3), none, some (mI x5), some (mI x6), none], [], σ, 0, 0)) (mG (p_Ro_add (Int32.toInt64 x1) (e_Ro_clear σ)) (mG (p_Ro_add (Int32.toInt64 x2) (e_Ro_add (Int32.toInt64 x1) (e_Ro_clear σ))) (mG (p_Ro_add (Int32.toInt64 x3) (e_Ro_add (Int32.toInt64 x2) (e_Ro_add (Int32.toInt64 x1) (e_Ro_clear σ)))) (mG (p_Ro_add (Int32.toInt64 x6) (e_Ro_add (Int32.toInt64 x3) (e_Ro_add (Int32.toInt64 x2) (e_Ro_add (Int32.toInt64 x1) (e_Ro_clear σ))))) (mexe KT P_C_bestHouse n (80, [some (mR 12 0), some (mI x1), some (mI x2), some (mI x3), none, some (mI (v_In_bitCount (v_C_pairsPartedIn x6 σ) σ)), some (mI x6), none], [], (e_Ro_add (Int32.toInt64 x6) (e_Ro_add (Int32.toInt64 x3) (e_Ro_add (Int32.toInt64 x2) (e_Ro_add (Int32.toInt64 x1) (e_Ro_clear σ))))), 0, 0)))))))) := rfl
set_option maxRecDepth 100000 in
set_option maxHeartbeats 4000000 in
theorem q_C_bestHouse_80 (x1 : Int32) (x2 : Int32) (x3 : Int32) (x5 : Int32) (x6 : Int32) (σ : MSto) (n : Nat) : mexe KT P_C_bestHouse (n + 1) (80, [some (mR 12 0), some (mI x1), some (mI x2), some (mI x3), none, some (mI x5), some (mI x6), none], [], σ, 0, 0) = mexe KT P_C_bestHouse n (7, [some (mR 12 0), some (mI x1), some (mI x2), some (mI x3), none, some (mI x5), some (mI (x6 + 1)), none], [], σ, 0, 0) := rfl
set_option maxRecDepth 100000 in
theorem lj_C_bestHouse_7j80 {Post : MST → Prop} (x1 : Int32) (x2 : Int32) (x3 : Int32) (x5 : Int32) (x6 : Int32) (σ : MSto) (s : Int32 × MSto) (hq : ¬ 0 = 1) (hn : ∀ (r1 : Int32) (r2 : MSto), tj_C_bestHouse_7j80 x1 x2 x3 x5 x6 σ s = (r1, r2) → mW1 P_C_bestHouse (7, [some (mR 12 0), some (mI x1), some (mI x2), some (mI x3), none, some (mI r1), some (mI (x6 + 1)), none], [], r2, 0, 0) Post) : mW1 P_C_bestHouse (80, [some (mR 12 0), some (mI x1), some (mI x2), some (mI x3), none, some (mI x5), some (mI x6), none], [], σ, 0, 0) Post := by
  refine mW1_eq (q_C_bestHouse_80 _ _ _ _ _ _) ?_
  exact mTr_k (hn x5 σ (rfl))
set_option maxRecDepth 100000 in
theorem lt_C_bestHouse_7 {Post : MST → Prop} (x1 : Int32) (x2 : Int32) (x3 : Int32) (c : Int32) (s : Int32 × MSto) (hp : g_C_bestHouse_7 x1 x2 x3 c s) (hq : ¬ q_C_bestHouse_7s x1 x2 x3 c s = 1) (hn : ∀ (r1 : Int32) (r2 : MSto), t_C_bestHouse_7 x1 x2 x3 c s = (r1, r2) → mW1 P_C_bestHouse (7, [some (mR 12 0), some (mI x1), some (mI x2), some (mI x3), none, some (mI r1), some (mI (c + 1)), none], [], r2, 0, 0) Post) : mW1 P_C_bestHouse (7, [some (mR 12 0), some (mI x1), some (mI x2), some (mI x3), none, some (mI (s.1)), some (mI c), none], [], (s.2), 0, 0) Post := by
  unfold g_C_bestHouse_7 at hp
  refine mW1_eq (q_C_bestHouse_7 _ _ _ _ _ _) ?_
  refine mTr_if (fun h0 => ?_) (fun h0 => ?_)
  · skip
    exact absurd (if_pos h0) hq
  · skip
    have hp := hp h0
    refine mTr_g hp.1 ?_
    have hp := hp.2
    refine mTr_if (fun h1 => ?_) (fun h1 => ?_)
    · skip
      exact mTr_k (lj_C_bestHouse_7j80 x1 x2 x3 (s.1) c (s.2) s (fun z => hq ((if_neg h0).trans z)) (fun r1 r2 zr => hn r1 r2 (((if_neg h0).trans (if_pos h1)).trans zr)))
    · skip
      have hp := hp h1
      refine mTr_g hp.1 ?_
      have hp := hp.2
      refine mTr_g hp.1 ?_
      have hp := hp.2
      refine mTr_g hp.1 ?_
      have hp := hp.2
      refine mTr_g hp ?_
      exact mTr_k (lj_C_bestHouse_7j80 x1 x2 x3 (v_In_bitCount (v_C_pairsPartedIn c (s.2)) (s.2)) c (e_Ro_add (Int32.toInt64 c) (e_Ro_add (Int32.toInt64 x3) (e_Ro_add (Int32.toInt64 x2) (e_Ro_add (Int32.toInt64 x1) (e_Ro_clear (s.2)))))) s (fun z => hq ((if_neg h0).trans z)) (fun r1 r2 zr => hn r1 r2 (((if_neg h0).trans (if_neg h1)).trans zr)))
theorem lp_C_bestHouse_7 {Post : MST → Prop} (x1 : Int32) (x2 : Int32) (x3 : Int32) (c0 : Int32) (s0 : Int32 × MSto) (N : Nat) (hb : ∀ i, i < N → g_C_bestHouse_7 x1 x2 x3 (c0 + nI i) (f_C_bestHouse_7 x1 x2 x3 c0 s0 i) ∧ ¬ q_C_bestHouse_7s x1 x2 x3 (c0 + nI i) (f_C_bestHouse_7 x1 x2 x3 c0 s0 i) = 1) (h : mW1 P_C_bestHouse (7, [some (mR 12 0), some (mI x1), some (mI x2), some (mI x3), none, some (mI ((f_C_bestHouse_7 x1 x2 x3 c0 s0 N).1)), some (mI (c0 + nI N)), none], [], ((f_C_bestHouse_7 x1 x2 x3 c0 s0 N).2), 0, 0) Post) : mW1 P_C_bestHouse (7, [some (mR 12 0), some (mI x1), some (mI x2), some (mI x3), none, some (mI (s0.1)), some (mI c0), none], [], (s0.2), 0, 0) Post := by
  refine mW1_st (mW1_loop (fun i => (7, [some (mR 12 0), some (mI x1), some (mI x2), some (mI x3), none, some (mI ((f_C_bestHouse_7 x1 x2 x3 c0 s0 i).1)), some (mI (c0 + nI i)), none], [], ((f_C_bestHouse_7 x1 x2 x3 c0 s0 i).2), 0, 0)) N (fun i hlt hn => ?_) h) (by rw [show nI 0 = 0 from rfl, Int32.add_zero] <;> rfl)
  refine lt_C_bestHouse_7 x1 x2 x3 _ _ (hb i hlt).1 (hb i hlt).2 (fun r1 r2 hr => ?_)
  rw [Int32.add_assoc, nI_s]
  have e : f_C_bestHouse_7 x1 x2 x3 c0 s0 (i + 1) = (r1, r2) := hr
  try dsimp only at hn
  rw [e] at hn
  exact hn
set_option maxRecDepth 100000 in
set_option maxHeartbeats 4000000 in
theorem d_C_bestHouse (a1 : Int32) (a2 : Int32) (a3 : Int32) (a4 : Int32) (σ : MSto) (hp : p_C_bestHouse a1 a2 a3 a4 σ) : mW1 P_C_bestHouse (0, [some (mR 12 0), some (mI a1), some (mI a2), some (mI a3), some (mI a4), none, none, none], [], σ, 0, 0) (mF [88] [mI (v_C_bestHouse a1 a2 a3 a4 σ)] (e_C_bestHouse a1 a2 a3 a4 σ) 0 0) := by
  refine mW1_eq (q_C_bestHouse_e _ _ _ _ _) ?_
  unfold p_C_bestHouse at hp
  refine mTr_k (lp_C_bestHouse_7 a1 a2 a3 0 (a4, σ) (n_C_bestHouse_7 a1 a2 a3 0 (a4, σ)) hp.1 ?_)
  have hp := hp.2
  refine mW1_eq (q_C_bestHouse_7 _ _ _ _ _ _) ?_
  refine mTr_if (fun h0 => ?_) (fun h0 => ?_)
  · skip
    exact mTr_e (by decide) (congrArg (fun z => [mI z]) (Eq.symm (rfl))) (Eq.symm (rfl)) (by decide) (by decide)
  · skip
    have hp := hp h0
    exact hp.elim




theorem tk_C_bestHouse : ∀ pc i nx tg, T_C_bestHouse pc = some (i, nx, tg) → mOkB prog_1_method_100_code pc i nx tg = true := code_ok (N := 89) (fun k h => by unfold T_C_bestHouse; rw [h]; rfl) (by decide +kernel)
theorem ok_C_bestHouse (l : Launch) : mPOK l "ClothWithMan" prog_1_method_100_code P_C_bestHouse := by
  refine ⟨tk_C_bestHouse, ?_, ?_, ?_, (fun pc i nx tg kd _ h => by cases h), ?_, ?_, fun pc en h => by cases h⟩
  · intro x ci f ty fin h
    exact mLook_all (Q := fun x v => mFOK "ClothWithMan" x v.1 v.2.1 v.2.2.1 v.2.2.2 ∧ (v.2.2.2 = true → pIni P_C_bestHouse = true → (Cond.fieldLink "ClothWithMan" x (((mCl[v.1]?).getD ("", fun _ => ("", "", "", false), 0)).2.1 v.2.1).1 (((mCl[v.1]?).getD ("", fun _ => ("", "", "", false), 0)).2.1 v.2.1).2.1 (((mCl[v.1]?).getD ("", fun _ => ("", "", "", false), 0)).2.1 v.2.1).2.2.1 ∈ lw_tbl ∧ (((mCl[v.1]?).getD ("", fun _ => ("", "", "", false), 0)).2.1 v.2.1).1 = "ClothWithMan"))) (fcC ⟨fo_C_67, fun h1 h2 => by cases h2⟩ fcN) x (ci, f, ty, fin) h
  · intro x
    have hh := mLook_all (l := ([] : List (Nat × (Int32 ⊕ Int64)))) (Q := fun x (v : Int32 ⊕ Int64) => (∀ w, v = .inl w → Cond.constant "ClothWithMan" x w ∈ lw_tbl) ∧ (∀ w, v = .inr w → Cond.constantLong "ClothWithMan" x w ∈ lw_tbl)) fcN x
    exact ⟨fun w h => (hh _ h).1 w rfl, fun w h => (hh _ h).2 w rfl⟩
  · exact fun x en h => mLook_all (Q := fun x en => mLink "ClothWithMan" x en ∧ mCtr l en ∧ (en.1.1 = 2 → en.2.2.2.2.2.2 = none)) (fcC ⟨li_C_217, c_Ro_clear l, (fun h => by cases h)⟩ (fcC ⟨li_C_223, c_Ro_add l, (fun h => by cases h)⟩ (fcC ⟨li_C_260, c_In_bitCount l, (fun h => by cases h)⟩ (fcC ⟨li_C_502, c_C_pairsPartedIn l, (fun h => by cases h)⟩ fcN)))) x en h
  · exact fun x kd h => mLook_all (Q := fun x kd => (kd = 95 ∧ Cond.fieldLink "ClothWithMan" x "ClothWithMan" "LIKENESSES" "[I" ∈ lw_tbl) ∨ (kd = 96 ∧ Cond.fieldLink "ClothWithMan" x "ClothWithMan" "APART_BOUNDS" "[I" ∈ lw_tbl)) fcN x kd h
  · exact fun x ci h => mLook_all (Q := fun x ci => ci ≠ 0 ∧ ∃ (C : String) (T : u_T) (N : Nat), mCl[ci]? = some (C, T, N) ∧ Cond.classLink "ClothWithMan" x C ∈ lw_tbl ∧ Cond.instantiable C N ∈ lw_tbl) fcN x ci h
set_option maxRecDepth 100000 in
theorem c_C_bestHouse (l : Launch) : mCtr l E_C_bestHouse := mCtr_of (P := P_C_bestHouse) (own := "ClothWithMan") mLay_ok rfl (by decide +kernel) rfl (ok_C_bestHouse l) (fun h => by cases h) (fun as σ pr rv σ' hF hpr hlv => by
  unfold E_C_bestHouse S_C_bestHouse at hF
  simp only [] at hF
  split at hF
  · cases hF
    obtain ⟨n, pcF, c1, s1, g1, g2, g3, g4⟩ := mF_inv (d_C_bestHouse _ _ _ _ σ (hpr _ rfl))
    exact ⟨Nat.le_of_ble_eq_true rfl, (fun v h => by cases h; trivial), n, pcF, c1, s1, g1, ⟨mEnd_of (i := .ireturn) (P := P_C_bestHouse) (rets := [88]) rfl g2, rfl⟩, g3, g4⟩
  · cases hF
    exact (hpr _ rfl).elim)
/-! ClothWithMan.allLikes()I -/
noncomputable def t_C_allLikes_4  (c : Int32) (σ : MSto) (s : Int32) : Int32 := (if 6 ≤ c then s else (s + (gI σ 22 0 (Int32.toNatClampNeg c))))
noncomputable def q_C_allLikes_4s  (c : Int32) (σ : MSto) (s : Int32) : Nat := (if 6 ≤ c then 1 else 0)
def g_C_allLikes_4  (c : Int32) (σ : MSto) (s : Int32) : Prop := (¬ (6 ≤ c) → (vp_in c 6))
noncomputable def f_C_allLikes_4  (c0 : Int32) (σ : MSto) (s0 : Int32) (n : Nat) : Int32 := nfold (fun i s => t_C_allLikes_4 (c0 + nI i) σ s) s0 n
noncomputable def n_C_allLikes_4  (c0 : Int32) (σ : MSto) (s0 : Int32) : Nat := 6
noncomputable def v_C_allLikes  (σ : MSto) : Int32 := (f_C_allLikes_4 0 σ 0 (n_C_allLikes_4 0 σ 0))
def p_C_allLikes  (σ : MSto) : Prop := ((∀ i, i < (n_C_allLikes_4 0 σ 0) → g_C_allLikes_4 (0 + nI i) σ (f_C_allLikes_4 0 σ 0 i) ∧ ¬ q_C_allLikes_4s (0 + nI i) σ (f_C_allLikes_4 0 σ 0 i) = 1) ∧ (¬ (6 ≤ (0 + nI (n_C_allLikes_4 0 σ 0))) → False))
noncomputable def S_C_allLikes : List MV → MSto → Option Prop × Option MV × MSto := fun as σ => match as with
  | [.inr (.inr (some (12, 0)))] => (some (p_C_allLikes σ), some (mI (v_C_allLikes σ)), σ)
  | _ => (some False, none, σ)
noncomputable def E_C_allLikes : MEnt := ((1, 0, 12), (0, 0, 0, 0), S_C_allLikes, ((⟨"ClothWithMan", "allLikes", "()I"⟩ : MethodName), prog_1_method_101_code, 3, (some .int)))

def T_C_allLikes : Nat → Option (Instr × Nat × List Nat) := fun k => bif Nat.blt k 27 then (bif Nat.blt k 12 then (bif Nat.blt k 4 then (bif Nat.blt k 2 then (bif Nat.blt k 1 then (bif Nat.beq k 0 then some (.iconst 0, 1, []) else none) else (bif Nat.beq k 1 then some (.istore_n 1, 2, []) else none)) else (bif Nat.blt k 3 then (bif Nat.beq k 2 then some (.iconst 0, 3, []) else none) else (bif Nat.beq k 3 then some (.istore_n 2, 4, []) else none))) else (bif Nat.blt k 7 then (bif Nat.blt k 5 then (bif Nat.beq k 4 then some (.iload_n 2, 5, []) else none) else (bif Nat.beq k 5 then some (.bipush 6, 7, []) else none)) else (bif Nat.blt k 10 then (bif Nat.beq k 7 then some (.if_icmp .ge 18, 10, [25]) else none) else (bif Nat.blt k 11 then (bif Nat.beq k 10 then some (.iload_n 1, 11, []) else none) else (bif Nat.beq k 11 then some (.aload_n 0, 12, []) else none))))) else (bif Nat.blt k 18 then (bif Nat.blt k 16 then (bif Nat.blt k 15 then (bif Nat.beq k 12 then some (.getfield 43, 15, []) else none) else (bif Nat.beq k 15 then some (.iload_n 2, 16, []) else none)) else (bif Nat.blt k 17 then (bif Nat.beq k 16 then some (.iaload, 17, []) else none) else (bif Nat.beq k 17 then some (.iadd, 18, []) else none))) else (bif Nat.blt k 22 then (bif Nat.blt k 19 then (bif Nat.beq k 18 then some (.istore_n 1, 19, []) else none) else (bif Nat.beq k 19 then some (.iinc 2 1, 22, []) else none)) else (bif Nat.blt k 25 then (bif Nat.beq k 22 then some (.goto (-18), 25, [4]) else none) else (bif Nat.blt k 26 then (bif Nat.beq k 25 then some (.iload_n 1, 26, []) else none) else (bif Nat.beq k 26 then some (.ireturn, 27, []) else none)))))) else none
noncomputable def P_C_allLikes : MP := (T_C_allLikes, (fun k => mLook k [(43, (12, 7, (.array .int), true))]), (fun k => mLook k []), (fun k => mLook k []), (fun k => mLook k []), (fun k => mLook k []), (fun k => mLook k []), (fun k => mLook k [(4, [true, true, true])]), (fun k => [26].any (Nat.beq k)), (0, 0, 0, 0), false, (fun _ => none))
set_option maxRecDepth 100000 in
set_option maxHeartbeats 4000000 in
theorem q_C_allLikes_e  (σ : MSto) (n : Nat) : mexe KT P_C_allLikes (n + 1) (0, [some (mR 12 0), none, none], [], σ, 0, 0) = mexe KT P_C_allLikes n (4, [some (mR 12 0), some (mI 0), some (mI 0)], [], σ, 0, 0) := rfl
set_option maxRecDepth 100000 in
set_option maxHeartbeats 4000000 in
theorem q_C_allLikes_4 (x1 : Int32) (x2 : Int32) (σ : MSto) (n : Nat) : mexe KT P_C_allLikes (n + 1) (4, [some (mR 12 0), some (mI x1), some (mI x2)], [], σ, 0, 0) = mIf (6 ≤ x2) (some (26, [], [(mI x1)], σ, 0, 0)) (mG (vp_in x2 6) (mexe KT P_C_allLikes n (4, [some (mR 12 0), some (mI (x1 + (gI σ 22 0 (Int32.toNatClampNeg x2)))), some (mI (x2 + 1))], [], σ, 0, 0))) := rfl
set_option maxRecDepth 100000 in
theorem lt_C_allLikes_4 {Post : MST → Prop}  (c : Int32) (σ : MSto) (s : Int32) (hp : g_C_allLikes_4 c σ s) (hq : ¬ q_C_allLikes_4s c σ s = 1) (hn : ∀ r, t_C_allLikes_4 c σ s = r → mW1 P_C_allLikes (4, [some (mR 12 0), some (mI r), some (mI (c + 1))], [], σ, 0, 0) Post) : mW1 P_C_allLikes (4, [some (mR 12 0), some (mI s), some (mI c)], [], σ, 0, 0) Post := by
  unfold g_C_allLikes_4 at hp
  refine mW1_eq (q_C_allLikes_4 _ _ _) ?_
  refine mTr_if (fun h0 => ?_) (fun h0 => ?_)
  · skip
    exact absurd (if_pos h0) hq
  · skip
    have hp := hp h0
    refine mTr_g hp ?_
    exact mTr_k (hn (s + (gI σ 22 0 (Int32.toNatClampNeg c))) (if_neg h0))
theorem lp_C_allLikes_4 {Post : MST → Prop}  (c0 : Int32) (σ : MSto) (s0 : Int32) (N : Nat) (hb : ∀ i, i < N → g_C_allLikes_4 (c0 + nI i) σ (f_C_allLikes_4 c0 σ s0 i) ∧ ¬ q_C_allLikes_4s (c0 + nI i) σ (f_C_allLikes_4 c0 σ s0 i) = 1) (h : mW1 P_C_allLikes (4, [some (mR 12 0), some (mI (f_C_allLikes_4 c0 σ s0 N)), some (mI (c0 + nI N))], [], σ, 0, 0) Post) : mW1 P_C_allLikes (4, [some (mR 12 0), some (mI s0), some (mI c0)], [], σ, 0, 0) Post := by
  refine mW1_st (mW1_loop (fun i => (4, [some (mR 12 0), some (mI (f_C_allLikes_4 c0 σ s0 i)), some (mI (c0 + nI i))], [], σ, 0, 0)) N (fun i hlt hn => ?_) h) (by rw [show nI 0 = 0 from rfl, Int32.add_zero] <;> rfl)
  refine lt_C_allLikes_4 _ σ _ (hb i hlt).1 (hb i hlt).2 (fun r hr => ?_)
  rw [Int32.add_assoc, nI_s]
  subst hr
  exact hn
set_option maxRecDepth 100000 in
set_option maxHeartbeats 4000000 in
theorem d_C_allLikes  (σ : MSto) (hp : p_C_allLikes σ) : mW1 P_C_allLikes (0, [some (mR 12 0), none, none], [], σ, 0, 0) (mF [26] [mI (v_C_allLikes σ)] σ 0 0) := by
  refine mW1_eq (q_C_allLikes_e  _) ?_
  unfold p_C_allLikes at hp
  refine mTr_k (lp_C_allLikes_4 0 σ 0 (n_C_allLikes_4 0 σ 0) hp.1 ?_)
  have hp := hp.2
  refine mW1_eq (q_C_allLikes_4 _ _ _) ?_
  refine mTr_if (fun h0 => ?_) (fun h0 => ?_)
  · skip
    exact mTr_e (by decide) (congrArg (fun z => [mI z]) (Eq.symm (rfl))) rfl (by decide) (by decide)
  · skip
    have hp := hp h0
    exact hp.elim
theorem tk_C_allLikes : ∀ pc i nx tg, T_C_allLikes pc = some (i, nx, tg) → mOkB prog_1_method_101_code pc i nx tg = true := code_ok (N := 27) (fun k h => by unfold T_C_allLikes; rw [h]; rfl) (by decide +kernel)
theorem ok_C_allLikes (l : Launch) : mPOK l "ClothWithMan" prog_1_method_101_code P_C_allLikes := by
  refine ⟨tk_C_allLikes, ?_, ?_, ?_, (fun pc i nx tg kd _ h => by cases h), ?_, ?_, fun pc en h => by cases h⟩
  · intro x ci f ty fin h
    exact mLook_all (Q := fun x v => mFOK "ClothWithMan" x v.1 v.2.1 v.2.2.1 v.2.2.2 ∧ (v.2.2.2 = true → pIni P_C_allLikes = true → (Cond.fieldLink "ClothWithMan" x (((mCl[v.1]?).getD ("", fun _ => ("", "", "", false), 0)).2.1 v.2.1).1 (((mCl[v.1]?).getD ("", fun _ => ("", "", "", false), 0)).2.1 v.2.1).2.1 (((mCl[v.1]?).getD ("", fun _ => ("", "", "", false), 0)).2.1 v.2.1).2.2.1 ∈ lw_tbl ∧ (((mCl[v.1]?).getD ("", fun _ => ("", "", "", false), 0)).2.1 v.2.1).1 = "ClothWithMan"))) (fcC ⟨fo_C_43, fun h1 h2 => by cases h2⟩ fcN) x (ci, f, ty, fin) h
  · intro x
    have hh := mLook_all (l := ([] : List (Nat × (Int32 ⊕ Int64)))) (Q := fun x (v : Int32 ⊕ Int64) => (∀ w, v = .inl w → Cond.constant "ClothWithMan" x w ∈ lw_tbl) ∧ (∀ w, v = .inr w → Cond.constantLong "ClothWithMan" x w ∈ lw_tbl)) fcN x
    exact ⟨fun w h => (hh _ h).1 w rfl, fun w h => (hh _ h).2 w rfl⟩
  · exact fun x en h => mLook_all (Q := fun x en => mLink "ClothWithMan" x en ∧ mCtr l en ∧ (en.1.1 = 2 → en.2.2.2.2.2.2 = none)) fcN x en h
  · exact fun x kd h => mLook_all (Q := fun x kd => (kd = 95 ∧ Cond.fieldLink "ClothWithMan" x "ClothWithMan" "LIKENESSES" "[I" ∈ lw_tbl) ∨ (kd = 96 ∧ Cond.fieldLink "ClothWithMan" x "ClothWithMan" "APART_BOUNDS" "[I" ∈ lw_tbl)) fcN x kd h
  · exact fun x ci h => mLook_all (Q := fun x ci => ci ≠ 0 ∧ ∃ (C : String) (T : u_T) (N : Nat), mCl[ci]? = some (C, T, N) ∧ Cond.classLink "ClothWithMan" x C ∈ lw_tbl ∧ Cond.instantiable C N ∈ lw_tbl) fcN x ci h
set_option maxRecDepth 100000 in
theorem c_C_allLikes (l : Launch) : mCtr l E_C_allLikes := mCtr_of (P := P_C_allLikes) (own := "ClothWithMan") mLay_ok rfl (by decide +kernel) rfl (ok_C_allLikes l) (fun h => by cases h) (fun as σ pr rv σ' hF hpr hlv => by
  unfold E_C_allLikes S_C_allLikes at hF
  simp only [] at hF
  split at hF
  · cases hF
    obtain ⟨n, pcF, c1, s1, g1, g2, g3, g4⟩ := mF_inv (d_C_allLikes σ (hpr _ rfl))
    exact ⟨Nat.le_of_ble_eq_true rfl, (fun v h => by cases h; trivial), n, pcF, c1, s1, g1, ⟨mEnd_of (i := .ireturn) (P := P_C_allLikes) (rets := [26]) rfl g2, rfl⟩, g3, g4⟩
  · cases hF
    exact (hpr _ rfl).elim)
/-! ClothWithMan.openHows(II)I -/
noncomputable def t_C_openHows_5 (x1 : Int32) (x2 : Int32) (c : Int32) (σ : MSto) (s : Int32) : Int32 := (if 8 ≤ c then s else (mO (gR σ 23 0 (Int32.toNatClampNeg c)) (s) (fun z1 => (if (v_Ho_isOpen z1 x1 x2 σ) = 0 then s else (s ||| ((1 : Int32) <<< (c &&& 31)))))))
noncomputable def q_C_openHows_5s (x1 : Int32) (x2 : Int32) (c : Int32) (σ : MSto) (s : Int32) : Nat := (if 8 ≤ c then 1 else 0)
def g_C_openHows_5 (x1 : Int32) (x2 : Int32) (c : Int32) (σ : MSto) (s : Int32) : Prop := (¬ (8 ≤ c) → (vp_in c 8))
noncomputable def f_C_openHows_5 (x1 : Int32) (x2 : Int32) (c0 : Int32) (σ : MSto) (s0 : Int32) (n : Nat) : Int32 := nfold (fun i s => t_C_openHows_5 x1 x2 (c0 + nI i) σ s) s0 n
noncomputable def n_C_openHows_5 (x1 : Int32) (x2 : Int32) (c0 : Int32) (σ : MSto) (s0 : Int32) : Nat := 8
noncomputable def v_C_openHows (a1 : Int32) (a2 : Int32) (σ : MSto) : Int32 := (f_C_openHows_5 a1 a2 0 σ 0 (n_C_openHows_5 a1 a2 0 σ 0))
def p_C_openHows (a1 : Int32) (a2 : Int32) (σ : MSto) : Prop := ((∀ i, i < (n_C_openHows_5 a1 a2 0 σ 0) → g_C_openHows_5 a1 a2 (0 + nI i) σ (f_C_openHows_5 a1 a2 0 σ 0 i) ∧ ¬ q_C_openHows_5s a1 a2 (0 + nI i) σ (f_C_openHows_5 a1 a2 0 σ 0 i) = 1) ∧ (¬ (8 ≤ (0 + nI (n_C_openHows_5 a1 a2 0 σ 0))) → False))
noncomputable def S_C_openHows : List MV → MSto → Option Prop × Option MV × MSto := fun as σ => match as with
  | [.inr (.inr (some (12, 0))), .inl a0, .inl a1] => (some (p_C_openHows a0 a1 σ), some (mI (v_C_openHows a0 a1 σ)), σ)
  | _ => (some False, none, σ)
noncomputable def E_C_openHows : MEnt := ((1, 2, 12), (1, 22, 0, 0), S_C_openHows, ((⟨"ClothWithMan", "openHows", "(II)I"⟩ : MethodName), prog_1_method_102_code, 6, (some .int)))

def T_C_openHows : Nat → Option (Instr × Nat × List Nat) := fun k => bif Nat.blt k 51 then (bif Nat.blt k 26 then (bif Nat.blt k 12 then (bif Nat.blt k 3 then (bif Nat.blt k 1 then (bif Nat.beq k 0 then some (.iconst 0, 1, []) else none) else (bif Nat.blt k 2 then (bif Nat.beq k 1 then some (.istore_n 3, 2, []) else none) else (bif Nat.beq k 2 then some (.iconst 0, 3, []) else none))) else (bif Nat.blt k 7 then (bif Nat.blt k 5 then (bif Nat.beq k 3 then some (.istore 4, 5, []) else none) else (bif Nat.beq k 5 then some (.iload 4, 7, []) else none)) else (bif Nat.blt k 9 then (bif Nat.beq k 7 then some (.bipush 8, 9, []) else none) else (bif Nat.beq k 9 then some (.if_icmp .ge 40, 12, [49]) else none)))) else (bif Nat.blt k 18 then (bif Nat.blt k 13 then (bif Nat.beq k 12 then some (.aload_n 0, 13, []) else none) else (bif Nat.blt k 16 then (bif Nat.beq k 13 then some (.getfield 48, 16, []) else none) else (bif Nat.beq k 16 then some (.iload 4, 18, []) else none))) else (bif Nat.blt k 21 then (bif Nat.blt k 19 then (bif Nat.beq k 18 then some (.aaload, 19, []) else none) else (bif Nat.beq k 19 then some (.astore 5, 21, []) else none)) else (bif Nat.blt k 23 then (bif Nat.beq k 21 then some (.aload 5, 23, []) else none) else (bif Nat.beq k 23 then some (.ifnull 20, 26, [43]) else none))))) else (bif Nat.blt k 38 then (bif Nat.blt k 30 then (bif Nat.blt k 28 then (bif Nat.beq k 26 then some (.aload 5, 28, []) else none) else (bif Nat.blt k 29 then (bif Nat.beq k 28 then some (.iload_n 1, 29, []) else none) else (bif Nat.beq k 29 then some (.iload_n 2, 30, []) else none))) else (bif Nat.blt k 36 then (bif Nat.blt k 33 then (bif Nat.beq k 30 then some (.invokevirtual 505, 33, []) else none) else (bif Nat.beq k 33 then some (.ifCond .eq 10, 36, [43]) else none)) else (bif Nat.blt k 37 then (bif Nat.beq k 36 then some (.iload_n 3, 37, []) else none) else (bif Nat.beq k 37 then some (.iconst 1, 38, []) else none)))) else (bif Nat.blt k 43 then (bif Nat.blt k 41 then (bif Nat.blt k 40 then (bif Nat.beq k 38 then some (.iload 4, 40, []) else none) else (bif Nat.beq k 40 then some (.ishl, 41, []) else none)) else (bif Nat.blt k 42 then (bif Nat.beq k 41 then some (.ior, 42, []) else none) else (bif Nat.beq k 42 then some (.istore_n 3, 43, []) else none))) else (bif Nat.blt k 49 then (bif Nat.blt k 46 then (bif Nat.beq k 43 then some (.iinc 4 1, 46, []) else none) else (bif Nat.beq k 46 then some (.goto (-41), 49, [5]) else none)) else (bif Nat.blt k 50 then (bif Nat.beq k 49 then some (.iload_n 3, 50, []) else none) else (bif Nat.beq k 50 then some (.ireturn, 51, []) else none)))))) else none
noncomputable def P_C_openHows : MP := (T_C_openHows, (fun k => mLook k [(48, (12, 8, (.array (.object "ClothWithMan$How")), true))]), (fun k => mLook k []), (fun k => mLook k [(505, E_Ho_isOpen)]), (fun k => mLook k []), (fun k => mLook k []), (fun k => mLook k []), (fun k => mLook k [(5, [true, true, true, true, true, false])]), (fun k => [50].any (Nat.beq k)), (1, 22, 0, 0), false, (fun _ => none))
set_option maxRecDepth 100000 in
set_option maxHeartbeats 4000000 in
theorem q_C_openHows_e (a1 : Int32) (a2 : Int32) (σ : MSto) (n : Nat) : mexe KT P_C_openHows (n + 1) (0, [some (mR 12 0), some (mI a1), some (mI a2), none, none, none], [], σ, 0, 0) = mexe KT P_C_openHows n (5, [some (mR 12 0), some (mI a1), some (mI a2), some (mI 0), some (mI 0), none], [], σ, 0, 0) := rfl
set_option maxRecDepth 100000 in
set_option maxHeartbeats 4000000 in
theorem q_C_openHows_5 (x1 : Int32) (x2 : Int32) (x3 : Int32) (x4 : Int32) (σ : MSto) (n : Nat) : mexe KT P_C_openHows (n + 1) (5, [some (mR 12 0), some (mI x1), some (mI x2), some (mI x3), some (mI x4), none], [], σ, 0, 0) = mIf (8 ≤ x4) (some (50, [], [(mI x3)], σ, 0, 0)) (mG (vp_in x4 8) (mO (gR σ 23 0 (Int32.toNatClampNeg x4)) (mexe KT P_C_openHows n (5, [some (mR 12 0), some (mI x1), some (mI x2), some (mI x3), some (mI (x4 + 1)), none], [], σ, 0, 0)) (fun z1 => mIf ((v_Ho_isOpen z1 x1 x2 σ) = 0) (mexe KT P_C_openHows n (5, [some (mR 12 0), some (mI x1), some (mI x2), some (mI x3), some (mI (x4 + 1)), none], [], σ, 0, 0)) (mexe KT P_C_openHows n (5, [some (mR 12 0), some (mI x1), some (mI x2), some (mI (x3 ||| ((1 : Int32) <<< (x4 &&& 31)))), some (mI (x4 + 1)), none], [], σ, 0, 0))))) := rfl
set_option maxRecDepth 100000 in
theorem lt_C_openHows_5 {Post : MST → Prop} (x1 : Int32) (x2 : Int32) (c : Int32) (σ : MSto) (s : Int32) (hp : g_C_openHows_5 x1 x2 c σ s) (hq : ¬ q_C_openHows_5s x1 x2 c σ s = 1) (hn : ∀ r, t_C_openHows_5 x1 x2 c σ s = r → mW1 P_C_openHows (5, [some (mR 12 0), some (mI x1), some (mI x2), some (mI r), some (mI (c + 1)), none], [], σ, 0, 0) Post) : mW1 P_C_openHows (5, [some (mR 12 0), some (mI x1), some (mI x2), some (mI s), some (mI c), none], [], σ, 0, 0) Post := by
  unfold g_C_openHows_5 at hp
  refine mW1_eq (q_C_openHows_5 _ _ _ _ _) ?_
  refine mTr_if (fun h0 => ?_) (fun h0 => ?_)
  · skip
    exact absurd (if_pos h0) hq
  · skip
    have hp := hp h0
    refine mTr_g hp ?_
    refine mTr_o (fun h1 => ?_) (fun z1 h1 => ?_)
    · skip
      exact mTr_k (hn s ((if_neg h0).trans (mO_en h1)))
    · skip
      refine mTr_if (fun h2 => ?_) (fun h2 => ?_)
      · skip
        exact mTr_k (hn s ((if_neg h0).trans ((mO_es h1).trans (if_pos h2))))
      · skip
        exact mTr_k (hn (s ||| ((1 : Int32) <<< (c &&& 31))) ((if_neg h0).trans ((mO_es h1).trans (if_neg h2))))
theorem lp_C_openHows_5 {Post : MST → Prop} (x1 : Int32) (x2 : Int32) (c0 : Int32) (σ : MSto) (s0 : Int32) (N : Nat) (hb : ∀ i, i < N → g_C_openHows_5 x1 x2 (c0 + nI i) σ (f_C_openHows_5 x1 x2 c0 σ s0 i) ∧ ¬ q_C_openHows_5s x1 x2 (c0 + nI i) σ (f_C_openHows_5 x1 x2 c0 σ s0 i) = 1) (h : mW1 P_C_openHows (5, [some (mR 12 0), some (mI x1), some (mI x2), some (mI (f_C_openHows_5 x1 x2 c0 σ s0 N)), some (mI (c0 + nI N)), none], [], σ, 0, 0) Post) : mW1 P_C_openHows (5, [some (mR 12 0), some (mI x1), some (mI x2), some (mI s0), some (mI c0), none], [], σ, 0, 0) Post := by
  refine mW1_st (mW1_loop (fun i => (5, [some (mR 12 0), some (mI x1), some (mI x2), some (mI (f_C_openHows_5 x1 x2 c0 σ s0 i)), some (mI (c0 + nI i)), none], [], σ, 0, 0)) N (fun i hlt hn => ?_) h) (by rw [show nI 0 = 0 from rfl, Int32.add_zero] <;> rfl)
  refine lt_C_openHows_5 x1 x2 _ σ _ (hb i hlt).1 (hb i hlt).2 (fun r hr => ?_)
  rw [Int32.add_assoc, nI_s]
  subst hr
  exact hn
set_option maxRecDepth 100000 in
set_option maxHeartbeats 4000000 in
theorem d_C_openHows (a1 : Int32) (a2 : Int32) (σ : MSto) (hp : p_C_openHows a1 a2 σ) : mW1 P_C_openHows (0, [some (mR 12 0), some (mI a1), some (mI a2), none, none, none], [], σ, 0, 0) (mF [50] [mI (v_C_openHows a1 a2 σ)] σ 0 0) := by
  refine mW1_eq (q_C_openHows_e _ _ _) ?_
  unfold p_C_openHows at hp
  refine mTr_k (lp_C_openHows_5 a1 a2 0 σ 0 (n_C_openHows_5 a1 a2 0 σ 0) hp.1 ?_)
  have hp := hp.2
  refine mW1_eq (q_C_openHows_5 _ _ _ _ _) ?_
  refine mTr_if (fun h0 => ?_) (fun h0 => ?_)
  · skip
    exact mTr_e (by decide) (congrArg (fun z => [mI z]) (Eq.symm (rfl))) rfl (by decide) (by decide)
  · skip
    have hp := hp h0
    exact hp.elim
theorem li_C_505 : mLink "ClothWithMan" 505 E_Ho_isOpen := ⟨tw_4_236, tw_1_25, ⟨by decide, by decide⟩, by decide +kernel, Or.inl tw_4_233, (fun h => by cases h), (fun _ => ⟨tw_4_234, tw_4_235, TX2, 2, rfl⟩), (fun h => by cases h)⟩

theorem tk_C_openHows : ∀ pc i nx tg, T_C_openHows pc = some (i, nx, tg) → mOkB prog_1_method_102_code pc i nx tg = true := code_ok (N := 51) (fun k h => by unfold T_C_openHows; rw [h]; rfl) (by decide +kernel)
theorem ok_C_openHows (l : Launch) : mPOK l "ClothWithMan" prog_1_method_102_code P_C_openHows := by
  refine ⟨tk_C_openHows, ?_, ?_, ?_, (fun pc i nx tg kd _ h => by cases h), ?_, ?_, fun pc en h => by cases h⟩
  · intro x ci f ty fin h
    exact mLook_all (Q := fun x v => mFOK "ClothWithMan" x v.1 v.2.1 v.2.2.1 v.2.2.2 ∧ (v.2.2.2 = true → pIni P_C_openHows = true → (Cond.fieldLink "ClothWithMan" x (((mCl[v.1]?).getD ("", fun _ => ("", "", "", false), 0)).2.1 v.2.1).1 (((mCl[v.1]?).getD ("", fun _ => ("", "", "", false), 0)).2.1 v.2.1).2.1 (((mCl[v.1]?).getD ("", fun _ => ("", "", "", false), 0)).2.1 v.2.1).2.2.1 ∈ lw_tbl ∧ (((mCl[v.1]?).getD ("", fun _ => ("", "", "", false), 0)).2.1 v.2.1).1 = "ClothWithMan"))) (fcC ⟨fo_C_48, fun h1 h2 => by cases h2⟩ fcN) x (ci, f, ty, fin) h
  · intro x
    have hh := mLook_all (l := ([] : List (Nat × (Int32 ⊕ Int64)))) (Q := fun x (v : Int32 ⊕ Int64) => (∀ w, v = .inl w → Cond.constant "ClothWithMan" x w ∈ lw_tbl) ∧ (∀ w, v = .inr w → Cond.constantLong "ClothWithMan" x w ∈ lw_tbl)) fcN x
    exact ⟨fun w h => (hh _ h).1 w rfl, fun w h => (hh _ h).2 w rfl⟩
  · exact fun x en h => mLook_all (Q := fun x en => mLink "ClothWithMan" x en ∧ mCtr l en ∧ (en.1.1 = 2 → en.2.2.2.2.2.2 = none)) (fcC ⟨li_C_505, c_Ho_isOpen l, (fun h => by cases h)⟩ fcN) x en h
  · exact fun x kd h => mLook_all (Q := fun x kd => (kd = 95 ∧ Cond.fieldLink "ClothWithMan" x "ClothWithMan" "LIKENESSES" "[I" ∈ lw_tbl) ∨ (kd = 96 ∧ Cond.fieldLink "ClothWithMan" x "ClothWithMan" "APART_BOUNDS" "[I" ∈ lw_tbl)) fcN x kd h
  · exact fun x ci h => mLook_all (Q := fun x ci => ci ≠ 0 ∧ ∃ (C : String) (T : u_T) (N : Nat), mCl[ci]? = some (C, T, N) ∧ Cond.classLink "ClothWithMan" x C ∈ lw_tbl ∧ Cond.instantiable C N ∈ lw_tbl) fcN x ci h
set_option maxRecDepth 100000 in
theorem c_C_openHows (l : Launch) : mCtr l E_C_openHows := mCtr_of (P := P_C_openHows) (own := "ClothWithMan") mLay_ok rfl (by decide +kernel) rfl (ok_C_openHows l) (fun h => by cases h) (fun as σ pr rv σ' hF hpr hlv => by
  unfold E_C_openHows S_C_openHows at hF
  simp only [] at hF
  split at hF
  · cases hF
    obtain ⟨n, pcF, c1, s1, g1, g2, g3, g4⟩ := mF_inv (d_C_openHows _ _ σ (hpr _ rfl))
    exact ⟨Nat.le_of_ble_eq_true rfl, (fun v h => by cases h; trivial), n, pcF, c1, s1, g1, ⟨mEnd_of (i := .ireturn) (P := P_C_openHows) (rets := [50]) rfl g2, rfl⟩, g3, g4⟩
  · cases hF
    exact (hpr _ rfl).elim)
/-! ClothWithMan.papersAgainst(LClothWithMan$Story;)I -/
noncomputable def t_C_papersAgainst_17 (x2 : Int32) (c : Int32) (σ : MSto) (s : Int32) : Int32 := (if (v_AL_size 16 0 σ) ≤ c then s else (if 5 ≤ (v_Pp_fitTo (v_AL_get 16 0 c σ) x2 σ) then s else (s ||| ((1 : Int32) <<< (c &&& 31)))))
noncomputable def q_C_papersAgainst_17s (x2 : Int32) (c : Int32) (σ : MSto) (s : Int32) : Nat := (if (v_AL_size 16 0 σ) ≤ c then 1 else 0)
def g_C_papersAgainst_17 (x2 : Int32) (c : Int32) (σ : MSto) (s : Int32) : Prop := (¬ ((v_AL_size 16 0 σ) ≤ c) → (p_AL_get 16 0 c σ))
noncomputable def f_C_papersAgainst_17 (x2 : Int32) (c0 : Int32) (σ : MSto) (s0 : Int32) (n : Nat) : Int32 := nfold (fun i s => t_C_papersAgainst_17 x2 (c0 + nI i) σ s) s0 n
noncomputable def n_C_papersAgainst_17 (x2 : Int32) (c0 : Int32) (σ : MSto) (s0 : Int32) : Nat := (gI σ 16 0 2).toNatClampNeg
noncomputable def v_C_papersAgainst (a1 : Nat) (σ : MSto) : Int32 := (f_C_papersAgainst_17 (v_St_wovenIn a1 (gI σ 1 0 1) σ) 0 σ 0 (n_C_papersAgainst_17 (v_St_wovenIn a1 (gI σ 1 0 1) σ) 0 σ 0))
def p_C_papersAgainst (a1 : Nat) (σ : MSto) : Prop := ((∀ i, i < (n_C_papersAgainst_17 (v_St_wovenIn a1 (gI σ 1 0 1) σ) 0 σ 0) → g_C_papersAgainst_17 (v_St_wovenIn a1 (gI σ 1 0 1) σ) (0 + nI i) σ (f_C_papersAgainst_17 (v_St_wovenIn a1 (gI σ 1 0 1) σ) 0 σ 0 i) ∧ ¬ q_C_papersAgainst_17s (v_St_wovenIn a1 (gI σ 1 0 1) σ) (0 + nI i) σ (f_C_papersAgainst_17 (v_St_wovenIn a1 (gI σ 1 0 1) σ) 0 σ 0 i) = 1) ∧ (¬ ((v_AL_size 16 0 σ) ≤ (0 + nI (n_C_papersAgainst_17 (v_St_wovenIn a1 (gI σ 1 0 1) σ) 0 σ 0))) → False))
noncomputable def S_C_papersAgainst : List MV → MSto → Option Prop × Option MV × MSto := fun as σ => match as with
  | [.inr (.inr (some (12, 0))), .inr (.inr (some (9, a0)))] => (some (p_C_papersAgainst a0 σ), some (mI (v_C_papersAgainst a0 σ)), σ)
  | _ => (some False, none, σ)
noncomputable def E_C_papersAgainst : MEnt := ((1, 1, 12), (6, 121, 0, 0), S_C_papersAgainst, ((⟨"ClothWithMan", "papersAgainst", "(LClothWithMan$Story;)I"⟩ : MethodName), prog_1_method_103_code, 5, (some .int)))

def T_C_papersAgainst : Nat → Option (Instr × Nat × List Nat) := fun k => bif Nat.blt k 64 then (bif Nat.blt k 33 then (bif Nat.blt k 14 then (bif Nat.blt k 8 then (bif Nat.blt k 2 then (bif Nat.blt k 1 then (bif Nat.beq k 0 then some (.aload_n 1, 1, []) else none) else (bif Nat.beq k 1 then some (.aload_n 0, 2, []) else none)) else (bif Nat.blt k 5 then (bif Nat.beq k 2 then some (.getfield 19, 5, []) else none) else (bif Nat.beq k 5 then some (.getfield 122, 8, []) else none))) else (bif Nat.blt k 12 then (bif Nat.blt k 11 then (bif Nat.beq k 8 then some (.invokevirtual 470, 11, []) else none) else (bif Nat.beq k 11 then some (.istore_n 2, 12, []) else none)) else (bif Nat.blt k 13 then (bif Nat.beq k 12 then some (.iconst 0, 13, []) else none) else (bif Nat.beq k 13 then some (.istore_n 3, 14, []) else none)))) else (bif Nat.blt k 20 then (bif Nat.blt k 17 then (bif Nat.blt k 15 then (bif Nat.beq k 14 then some (.iconst 0, 15, []) else none) else (bif Nat.beq k 15 then some (.istore 4, 17, []) else none)) else (bif Nat.blt k 19 then (bif Nat.beq k 17 then some (.iload 4, 19, []) else none) else (bif Nat.beq k 19 then some (.aload_n 0, 20, []) else none))) else (bif Nat.blt k 26 then (bif Nat.blt k 23 then (bif Nat.beq k 20 then some (.getfield 40, 23, []) else none) else (bif Nat.beq k 23 then some (.invokevirtual 132, 26, []) else none)) else (bif Nat.blt k 29 then (bif Nat.beq k 26 then some (.if_icmp .ge 36, 29, [62]) else none) else (bif Nat.blt k 30 then (bif Nat.beq k 29 then some (.aload_n 0, 30, []) else none) else (bif Nat.beq k 30 then some (.getfield 40, 33, []) else none)))))) else (bif Nat.blt k 50 then (bif Nat.blt k 42 then (bif Nat.blt k 38 then (bif Nat.blt k 35 then (bif Nat.beq k 33 then some (.iload 4, 35, []) else none) else (bif Nat.beq k 35 then some (.invokevirtual 183, 38, []) else none)) else (bif Nat.blt k 41 then (bif Nat.beq k 38 then some (.checkcast 319, 41, []) else none) else (bif Nat.beq k 41 then some (.iload_n 2, 42, []) else none))) else (bif Nat.blt k 46 then (bif Nat.blt k 45 then (bif Nat.beq k 42 then some (.invokevirtual 499, 45, []) else none) else (bif Nat.beq k 45 then some (.iconst 5, 46, []) else none)) else (bif Nat.blt k 49 then (bif Nat.beq k 46 then some (.if_icmp .ge 10, 49, [56]) else none) else (bif Nat.beq k 49 then some (.iload_n 3, 50, []) else none)))) else (bif Nat.blt k 55 then (bif Nat.blt k 53 then (bif Nat.blt k 51 then (bif Nat.beq k 50 then some (.iconst 1, 51, []) else none) else (bif Nat.beq k 51 then some (.iload 4, 53, []) else none)) else (bif Nat.blt k 54 then (bif Nat.beq k 53 then some (.ishl, 54, []) else none) else (bif Nat.beq k 54 then some (.ior, 55, []) else none))) else (bif Nat.blt k 59 then (bif Nat.blt k 56 then (bif Nat.beq k 55 then some (.istore_n 3, 56, []) else none) else (bif Nat.beq k 56 then some (.iinc 4 1, 59, []) else none)) else (bif Nat.blt k 62 then (bif Nat.beq k 59 then some (.goto (-42), 62, [17]) else none) else (bif Nat.blt k 63 then (bif Nat.beq k 62 then some (.iload_n 3, 63, []) else none) else (bif Nat.beq k 63 then some (.ireturn, 64, []) else none))))))) else none
noncomputable def P_C_papersAgainst : MP := (T_C_papersAgainst, (fun k => mLook k [(19, (12, 1, (.object "ClothWithMan$Cloth"), true)), (40, (12, 6, (.object "java/util/ArrayList"), true)), (122, (1, 1, .int, false))]), (fun k => mLook k []), (fun k => mLook k [(132, E_AL_size), (183, E_AL_get), (470, E_St_wovenIn), (499, E_Pp_fitTo)]), (fun k => mLook k []), (fun k => mLook k []), (fun k => mLook k [(319, 5)]), (fun k => mLook k [(17, [true, false, true, true, true])]), (fun k => [63].any (Nat.beq k)), (6, 121, 0, 0), false, (fun _ => none))
set_option maxRecDepth 100000 in
set_option maxHeartbeats 4000000 in
theorem q_C_papersAgainst_e (a1 : Nat) (σ : MSto) (n : Nat) : mexe KT P_C_papersAgainst (n + 1) (0, [some (mR 12 0), some (mR 9 a1), none, none, none], [], σ, 0, 0) = mexe KT P_C_papersAgainst n (17, [some (mR 12 0), none, some (mI (v_St_wovenIn a1 (gI σ 1 0 1) σ)), some (mI 0), some (mI 0)], [], σ, 0, 0) := rfl
set_option maxRecDepth 100000 in
set_option maxHeartbeats 4000000 in
theorem q_C_papersAgainst_17 (x2 : Int32) (x3 : Int32) (x4 : Int32) (σ : MSto) (n : Nat) : mexe KT P_C_papersAgainst (n + 1) (17, [some (mR 12 0), none, some (mI x2), some (mI x3), some (mI x4)], [], σ, 0, 0) = mIf ((v_AL_size 16 0 σ) ≤ x4) (some (63, [], [(mI x3)], σ, 0, 0)) (mG (p_AL_get 16 0 x4 σ) (mIf (5 ≤ (v_Pp_fitTo (v_AL_get 16 0 x4 σ) x2 σ)) (mexe KT P_C_papersAgainst n (17, [some (mR 12 0), none, some (mI x2), some (mI x3), some (mI (x4 + 1))], [], σ, 0, 0)) (mexe KT P_C_papersAgainst n (17, [some (mR 12 0), none, some (mI x2), some (mI (x3 ||| ((1 : Int32) <<< (x4 &&& 31)))), some (mI (x4 + 1))], [], σ, 0, 0)))) := rfl
set_option maxRecDepth 100000 in
theorem lt_C_papersAgainst_17 {Post : MST → Prop} (x2 : Int32) (c : Int32) (σ : MSto) (s : Int32) (hp : g_C_papersAgainst_17 x2 c σ s) (hq : ¬ q_C_papersAgainst_17s x2 c σ s = 1) (hn : ∀ r, t_C_papersAgainst_17 x2 c σ s = r → mW1 P_C_papersAgainst (17, [some (mR 12 0), none, some (mI x2), some (mI r), some (mI (c + 1))], [], σ, 0, 0) Post) : mW1 P_C_papersAgainst (17, [some (mR 12 0), none, some (mI x2), some (mI s), some (mI c)], [], σ, 0, 0) Post := by
  unfold g_C_papersAgainst_17 at hp
  refine mW1_eq (q_C_papersAgainst_17 _ _ _ _) ?_
  refine mTr_if (fun h0 => ?_) (fun h0 => ?_)
  · skip
    exact absurd (if_pos h0) hq
  · skip
    have hp := hp h0
    refine mTr_g hp ?_
    refine mTr_if (fun h1 => ?_) (fun h1 => ?_)
    · skip
      exact mTr_k (hn s ((if_neg h0).trans (if_pos h1)))
    · skip
      exact mTr_k (hn (s ||| ((1 : Int32) <<< (c &&& 31))) ((if_neg h0).trans (if_neg h1)))
theorem lp_C_papersAgainst_17 {Post : MST → Prop} (x2 : Int32) (c0 : Int32) (σ : MSto) (s0 : Int32) (N : Nat) (hb : ∀ i, i < N → g_C_papersAgainst_17 x2 (c0 + nI i) σ (f_C_papersAgainst_17 x2 c0 σ s0 i) ∧ ¬ q_C_papersAgainst_17s x2 (c0 + nI i) σ (f_C_papersAgainst_17 x2 c0 σ s0 i) = 1) (h : mW1 P_C_papersAgainst (17, [some (mR 12 0), none, some (mI x2), some (mI (f_C_papersAgainst_17 x2 c0 σ s0 N)), some (mI (c0 + nI N))], [], σ, 0, 0) Post) : mW1 P_C_papersAgainst (17, [some (mR 12 0), none, some (mI x2), some (mI s0), some (mI c0)], [], σ, 0, 0) Post := by
  refine mW1_st (mW1_loop (fun i => (17, [some (mR 12 0), none, some (mI x2), some (mI (f_C_papersAgainst_17 x2 c0 σ s0 i)), some (mI (c0 + nI i))], [], σ, 0, 0)) N (fun i hlt hn => ?_) h) (by rw [show nI 0 = 0 from rfl, Int32.add_zero] <;> rfl)
  refine lt_C_papersAgainst_17 x2 _ σ _ (hb i hlt).1 (hb i hlt).2 (fun r hr => ?_)
  rw [Int32.add_assoc, nI_s]
  subst hr
  exact hn
set_option maxRecDepth 100000 in
set_option maxHeartbeats 4000000 in
theorem d_C_papersAgainst (a1 : Nat) (σ : MSto) (hp : p_C_papersAgainst a1 σ) : mW1 P_C_papersAgainst (0, [some (mR 12 0), some (mR 9 a1), none, none, none], [], σ, 0, 0) (mF [63] [mI (v_C_papersAgainst a1 σ)] σ 0 0) := by
  refine mW1_eq (q_C_papersAgainst_e _ _) ?_
  unfold p_C_papersAgainst at hp
  refine mTr_k (lp_C_papersAgainst_17 (v_St_wovenIn a1 (gI σ 1 0 1) σ) 0 σ 0 (n_C_papersAgainst_17 (v_St_wovenIn a1 (gI σ 1 0 1) σ) 0 σ 0) hp.1 ?_)
  have hp := hp.2
  refine mW1_eq (q_C_papersAgainst_17 _ _ _ _) ?_
  refine mTr_if (fun h0 => ?_) (fun h0 => ?_)
  · skip
    exact mTr_e (by decide) (congrArg (fun z => [mI z]) (Eq.symm (rfl))) rfl (by decide) (by decide)
  · skip
    have hp := hp h0
    exact hp.elim




theorem tk_C_papersAgainst : ∀ pc i nx tg, T_C_papersAgainst pc = some (i, nx, tg) → mOkB prog_1_method_103_code pc i nx tg = true := code_ok (N := 64) (fun k h => by unfold T_C_papersAgainst; rw [h]; rfl) (by decide +kernel)
theorem ok_C_papersAgainst (l : Launch) : mPOK l "ClothWithMan" prog_1_method_103_code P_C_papersAgainst := by
  refine ⟨tk_C_papersAgainst, ?_, ?_, ?_, (fun pc i nx tg kd _ h => by cases h), ?_, ?_, fun pc en h => by cases h⟩
  · intro x ci f ty fin h
    exact mLook_all (Q := fun x v => mFOK "ClothWithMan" x v.1 v.2.1 v.2.2.1 v.2.2.2 ∧ (v.2.2.2 = true → pIni P_C_papersAgainst = true → (Cond.fieldLink "ClothWithMan" x (((mCl[v.1]?).getD ("", fun _ => ("", "", "", false), 0)).2.1 v.2.1).1 (((mCl[v.1]?).getD ("", fun _ => ("", "", "", false), 0)).2.1 v.2.1).2.1 (((mCl[v.1]?).getD ("", fun _ => ("", "", "", false), 0)).2.1 v.2.1).2.2.1 ∈ lw_tbl ∧ (((mCl[v.1]?).getD ("", fun _ => ("", "", "", false), 0)).2.1 v.2.1).1 = "ClothWithMan"))) (fcC ⟨fo_C_19, fun h1 h2 => by cases h2⟩ (fcC ⟨fo_C_40, fun h1 h2 => by cases h2⟩ (fcC ⟨fo_C_122, fun h1 h2 => by cases h1⟩ fcN))) x (ci, f, ty, fin) h
  · intro x
    have hh := mLook_all (l := ([] : List (Nat × (Int32 ⊕ Int64)))) (Q := fun x (v : Int32 ⊕ Int64) => (∀ w, v = .inl w → Cond.constant "ClothWithMan" x w ∈ lw_tbl) ∧ (∀ w, v = .inr w → Cond.constantLong "ClothWithMan" x w ∈ lw_tbl)) fcN x
    exact ⟨fun w h => (hh _ h).1 w rfl, fun w h => (hh _ h).2 w rfl⟩
  · exact fun x en h => mLook_all (Q := fun x en => mLink "ClothWithMan" x en ∧ mCtr l en ∧ (en.1.1 = 2 → en.2.2.2.2.2.2 = none)) (fcC ⟨li_C_132, c_AL_size l, (fun h => by cases h)⟩ (fcC ⟨li_C_183, c_AL_get l, (fun h => by cases h)⟩ (fcC ⟨li_C_470, c_St_wovenIn l, (fun h => by cases h)⟩ (fcC ⟨li_C_499, c_Pp_fitTo l, (fun h => by cases h)⟩ fcN)))) x en h
  · exact fun x kd h => mLook_all (Q := fun x kd => (kd = 95 ∧ Cond.fieldLink "ClothWithMan" x "ClothWithMan" "LIKENESSES" "[I" ∈ lw_tbl) ∨ (kd = 96 ∧ Cond.fieldLink "ClothWithMan" x "ClothWithMan" "APART_BOUNDS" "[I" ∈ lw_tbl)) fcN x kd h
  · exact fun x ci h => mLook_all (Q := fun x ci => ci ≠ 0 ∧ ∃ (C : String) (T : u_T) (N : Nat), mCl[ci]? = some (C, T, N) ∧ Cond.classLink "ClothWithMan" x C ∈ lw_tbl ∧ Cond.instantiable C N ∈ lw_tbl) (fcC ⟨by decide, "ClothWithMan$Paper", TX4, 3, rfl, tw_4_60, tw_4_61⟩ fcN) x ci h
set_option maxRecDepth 100000 in
theorem c_C_papersAgainst (l : Launch) : mCtr l E_C_papersAgainst := mCtr_of (P := P_C_papersAgainst) (own := "ClothWithMan") mLay_ok rfl (by decide +kernel) rfl (ok_C_papersAgainst l) (fun h => by cases h) (fun as σ pr rv σ' hF hpr hlv => by
  unfold E_C_papersAgainst S_C_papersAgainst at hF
  simp only [] at hF
  split at hF
  · cases hF
    obtain ⟨n, pcF, c1, s1, g1, g2, g3, g4⟩ := mF_inv (d_C_papersAgainst _ σ (hpr _ rfl))
    exact ⟨Nat.le_of_ble_eq_true rfl, (fun v h => by cases h; trivial), n, pcF, c1, s1, g1, ⟨mEnd_of (i := .ireturn) (P := P_C_papersAgainst) (rets := [63]) rfl g2, rfl⟩, g3, g4⟩
  · cases hF
    exact (hpr _ rfl).elim)
/-! ClothWithMan.piecesAgainst(LClothWithMan$Story;)I -/
noncomputable def t_C_piecesAgainst_4 (r1 : Nat) (c : Int32) (σ : MSto) (s : Int32) : Int32 := (if (v_C_pieceCount σ) ≤ c then s else (if (gI σ 7 (v_AL_get 14 0 c σ) 4) = 0 then s else (if 32 ≤ (v_C_likenessOf (gI σ 7 (v_AL_get 14 0 c σ) 5) (v_C_wouldBe r1 (v_AL_get 14 0 c σ) (gI σ 1 0 1) σ) (gI σ 21 0 (Int32.toNatClampNeg (gI σ 7 (v_AL_get 14 0 c σ) 3))) σ) then s else (s ||| ((1 : Int32) <<< (c &&& 31))))))
noncomputable def q_C_piecesAgainst_4s (r1 : Nat) (c : Int32) (σ : MSto) (s : Int32) : Nat := (if (v_C_pieceCount σ) ≤ c then 1 else 0)
def g_C_piecesAgainst_4 (r1 : Nat) (c : Int32) (σ : MSto) (s : Int32) : Prop := (¬ ((v_C_pieceCount σ) ≤ c) → ((p_AL_get 14 0 c σ) ∧ ((p_C_wouldBe r1 (v_AL_get 14 0 c σ) (gI σ 1 0 1) σ) ∧ ((vp_in (gI σ 7 (v_AL_get 14 0 c σ) 3) 6) ∧ (p_C_likenessOf (gI σ 7 (v_AL_get 14 0 c σ) 5) (v_C_wouldBe r1 (v_AL_get 14 0 c σ) (gI σ 1 0 1) σ) (gI σ 21 0 (Int32.toNatClampNeg (gI σ 7 (v_AL_get 14 0 c σ) 3))) σ)))))
noncomputable def f_C_piecesAgainst_4 (r1 : Nat) (c0 : Int32) (σ : MSto) (s0 : Int32) (n : Nat) : Int32 := nfold (fun i s => t_C_piecesAgainst_4 r1 (c0 + nI i) σ s) s0 n
noncomputable def n_C_piecesAgainst_4 (r1 : Nat) (c0 : Int32) (σ : MSto) (s0 : Int32) : Nat := (v_C_pieceCount σ).toNatClampNeg
noncomputable def v_C_piecesAgainst (a1 : Nat) (σ : MSto) : Int32 := (f_C_piecesAgainst_4 a1 0 σ 0 (n_C_piecesAgainst_4 a1 0 σ 0))
def p_C_piecesAgainst (a1 : Nat) (σ : MSto) : Prop := ((∀ i, i < (n_C_piecesAgainst_4 a1 0 σ 0) → g_C_piecesAgainst_4 a1 (0 + nI i) σ (f_C_piecesAgainst_4 a1 0 σ 0 i) ∧ ¬ q_C_piecesAgainst_4s a1 (0 + nI i) σ (f_C_piecesAgainst_4 a1 0 σ 0 i) = 1) ∧ (¬ ((v_C_pieceCount σ) ≤ (0 + nI (n_C_piecesAgainst_4 a1 0 σ 0))) → False))
noncomputable def S_C_piecesAgainst : List MV → MSto → Option Prop × Option MV × MSto := fun as σ => match as with
  | [.inr (.inr (some (12, 0))), .inr (.inr (some (9, a0)))] => (some (p_C_piecesAgainst a0 σ), some (mI (v_C_piecesAgainst a0 σ)), σ)
  | _ => (some False, none, σ)
noncomputable def E_C_piecesAgainst : MEnt := ((1, 1, 12), (9, 199, 0, 0), S_C_piecesAgainst, ((⟨"ClothWithMan", "piecesAgainst", "(LClothWithMan$Story;)I"⟩ : MethodName), prog_1_method_104_code, 6, (some .int)))

def T_C_piecesAgainst : Nat → Option (Instr × Nat × List Nat) := fun k => bif Nat.blt k 88 then (bif Nat.blt k 44 then (bif Nat.blt k 17 then (bif Nat.blt k 5 then (bif Nat.blt k 2 then (bif Nat.blt k 1 then (bif Nat.beq k 0 then some (.iconst 0, 1, []) else none) else (bif Nat.beq k 1 then some (.istore_n 2, 2, []) else none)) else (bif Nat.blt k 3 then (bif Nat.beq k 2 then some (.iconst 0, 3, []) else none) else (bif Nat.blt k 4 then (bif Nat.beq k 3 then some (.istore_n 3, 4, []) else none) else (bif Nat.beq k 4 then some (.iload_n 3, 5, []) else none)))) else (bif Nat.blt k 12 then (bif Nat.blt k 6 then (bif Nat.beq k 5 then some (.aload_n 0, 6, []) else none) else (bif Nat.blt k 9 then (bif Nat.beq k 6 then some (.invokevirtual 281, 9, []) else none) else (bif Nat.beq k 9 then some (.if_icmp .ge 77, 12, [86]) else none))) else (bif Nat.blt k 13 then (bif Nat.beq k 12 then some (.aload_n 0, 13, []) else none) else (bif Nat.blt k 16 then (bif Nat.beq k 13 then some (.getfield 33, 16, []) else none) else (bif Nat.beq k 16 then some (.iload_n 3, 17, []) else none))))) else (bif Nat.blt k 31 then (bif Nat.blt k 25 then (bif Nat.blt k 20 then (bif Nat.beq k 17 then some (.invokevirtual 183, 20, []) else none) else (bif Nat.blt k 23 then (bif Nat.beq k 20 then some (.checkcast 168, 23, []) else none) else (bif Nat.beq k 23 then some (.astore 4, 25, []) else none))) else (bif Nat.blt k 27 then (bif Nat.beq k 25 then some (.aload 4, 27, []) else none) else (bif Nat.blt k 30 then (bif Nat.beq k 27 then some (.getfield 201, 30, []) else none) else (bif Nat.beq k 30 then some (.aload_n 0, 31, []) else none)))) else (bif Nat.blt k 35 then (bif Nat.blt k 32 then (bif Nat.beq k 31 then some (.aload_n 1, 32, []) else none) else (bif Nat.blt k 34 then (bif Nat.beq k 32 then some (.aload 4, 34, []) else none) else (bif Nat.beq k 34 then some (.aload_n 0, 35, []) else none))) else (bif Nat.blt k 38 then (bif Nat.beq k 35 then some (.getfield 19, 38, []) else none) else (bif Nat.blt k 41 then (bif Nat.beq k 38 then some (.getfield 122, 41, []) else none) else (bif Nat.beq k 41 then some (.invokevirtual 315, 44, []) else none)))))) else (bif Nat.blt k 69 then (bif Nat.blt k 54 then (bif Nat.blt k 48 then (bif Nat.blt k 45 then (bif Nat.beq k 44 then some (.aload_n 0, 45, []) else none) else (bif Nat.beq k 45 then some (.getfield 27, 48, []) else none)) else (bif Nat.blt k 50 then (bif Nat.beq k 48 then some (.aload 4, 50, []) else none) else (bif Nat.blt k 53 then (bif Nat.beq k 50 then some (.getfield 195, 53, []) else none) else (bif Nat.beq k 53 then some (.iaload, 54, []) else none)))) else (bif Nat.blt k 61 then (bif Nat.blt k 57 then (bif Nat.beq k 54 then some (.invokestatic 210, 57, []) else none) else (bif Nat.blt k 59 then (bif Nat.beq k 57 then some (.istore 5, 59, []) else none) else (bif Nat.beq k 59 then some (.aload 4, 61, []) else none))) else (bif Nat.blt k 64 then (bif Nat.beq k 61 then some (.getfield 204, 64, []) else none) else (bif Nat.blt k 67 then (bif Nat.beq k 64 then some (.ifCond .eq 16, 67, [80]) else none) else (bif Nat.beq k 67 then some (.iload 5, 69, []) else none))))) else (bif Nat.blt k 78 then (bif Nat.blt k 75 then (bif Nat.blt k 71 then (bif Nat.beq k 69 then some (.bipush 32, 71, []) else none) else (bif Nat.blt k 74 then (bif Nat.beq k 71 then some (.if_icmp .ge 9, 74, [80]) else none) else (bif Nat.beq k 74 then some (.iload_n 2, 75, []) else none))) else (bif Nat.blt k 76 then (bif Nat.beq k 75 then some (.iconst 1, 76, []) else none) else (bif Nat.blt k 77 then (bif Nat.beq k 76 then some (.iload_n 3, 77, []) else none) else (bif Nat.beq k 77 then some (.ishl, 78, []) else none)))) else (bif Nat.blt k 83 then (bif Nat.blt k 79 then (bif Nat.beq k 78 then some (.ior, 79, []) else none) else (bif Nat.blt k 80 then (bif Nat.beq k 79 then some (.istore_n 2, 80, []) else none) else (bif Nat.beq k 80 then some (.iinc 3 1, 83, []) else none))) else (bif Nat.blt k 86 then (bif Nat.beq k 83 then some (.goto (-79), 86, [4]) else none) else (bif Nat.blt k 87 then (bif Nat.beq k 86 then some (.iload_n 2, 87, []) else none) else (bif Nat.beq k 87 then some (.ireturn, 88, []) else none))))))) else none
noncomputable def P_C_piecesAgainst : MP := (T_C_piecesAgainst, (fun k => mLook k [(19, (12, 1, (.object "ClothWithMan$Cloth"), true)), (27, (12, 3, (.array .int), true)), (33, (12, 4, (.object "java/util/ArrayList"), true)), (122, (1, 1, .int, false)), (195, (7, 3, .int, true)), (201, (7, 5, .int, false)), (204, (7, 4, .boolean, false))]), (fun k => mLook k []), (fun k => mLook k [(183, E_AL_get), (210, E_C_likenessOf), (281, E_C_pieceCount), (315, E_C_wouldBe)]), (fun k => mLook k []), (fun k => mLook k []), (fun k => mLook k [(168, 7)]), (fun k => mLook k [(4, [true, true, true, true, false, false])]), (fun k => [87].any (Nat.beq k)), (9, 199, 0, 0), false, (fun _ => none))
set_option maxRecDepth 100000 in
set_option maxHeartbeats 4000000 in
theorem q_C_piecesAgainst_e (a1 : Nat) (σ : MSto) (n : Nat) : mexe KT P_C_piecesAgainst (n + 1) (0, [some (mR 12 0), some (mR 9 a1), none, none, none, none], [], σ, 0, 0) = mexe KT P_C_piecesAgainst n (4, [some (mR 12 0), some (mR 9 a1), some (mI 0), some (mI 0), none, none], [], σ, 0, 0) := rfl
set_option maxRecDepth 100000 in
set_option maxHeartbeats 4000000 in
theorem q_C_piecesAgainst_4 (r1 : Nat) (x2 : Int32) (x3 : Int32) (σ : MSto) (n : Nat) : mexe KT P_C_piecesAgainst (n + 1) (4, [some (mR 12 0), some (mR 9 r1), some (mI x2), some (mI x3), none, none], [], σ, 0, 0) = mIf ((v_C_pieceCount σ) ≤ x3) (some (87, [], [(mI x2)], σ, 0, 0)) (mG (p_AL_get 14 0 x3 σ) (mG (p_C_wouldBe r1 (v_AL_get 14 0 x3 σ) (gI σ 1 0 1) σ) (mG (vp_in (gI σ 7 (v_AL_get 14 0 x3 σ) 3) 6) (mG (p_C_likenessOf (gI σ 7 (v_AL_get 14 0 x3 σ) 5) (v_C_wouldBe r1 (v_AL_get 14 0 x3 σ) (gI σ 1 0 1) σ) (gI σ 21 0 (Int32.toNatClampNeg (gI σ 7 (v_AL_get 14 0 x3 σ) 3))) σ) (mIf ((gI σ 7 (v_AL_get 14 0 x3 σ) 4) = 0) (mexe KT P_C_piecesAgainst n (4, [some (mR 12 0), some (mR 9 r1), some (mI x2), some (mI (x3 + 1)), none, none], [], σ, 0, 0)) (mIf (32 ≤ (v_C_likenessOf (gI σ 7 (v_AL_get 14 0 x3 σ) 5) (v_C_wouldBe r1 (v_AL_get 14 0 x3 σ) (gI σ 1 0 1) σ) (gI σ 21 0 (Int32.toNatClampNeg (gI σ 7 (v_AL_get 14 0 x3 σ) 3))) σ)) (mexe KT P_C_piecesAgainst n (4, [some (mR 12 0), some (mR 9 r1), some (mI x2), some (mI (x3 + 1)), none, none], [], σ, 0, 0)) (mexe KT P_C_piecesAgainst n (4, [some (mR 12 0), some (mR 9 r1), some (mI (x2 ||| ((1 : Int32) <<< (x3 &&& 31)))), some (mI (x3 + 1)), none, none], [], σ, 0, 0)))))))) := rfl
set_option maxRecDepth 100000 in
theorem lt_C_piecesAgainst_4 {Post : MST → Prop} (r1 : Nat) (c : Int32) (σ : MSto) (s : Int32) (hp : g_C_piecesAgainst_4 r1 c σ s) (hq : ¬ q_C_piecesAgainst_4s r1 c σ s = 1) (hn : ∀ r, t_C_piecesAgainst_4 r1 c σ s = r → mW1 P_C_piecesAgainst (4, [some (mR 12 0), some (mR 9 r1), some (mI r), some (mI (c + 1)), none, none], [], σ, 0, 0) Post) : mW1 P_C_piecesAgainst (4, [some (mR 12 0), some (mR 9 r1), some (mI s), some (mI c), none, none], [], σ, 0, 0) Post := by
  unfold g_C_piecesAgainst_4 at hp
  refine mW1_eq (q_C_piecesAgainst_4 _ _ _ _) ?_
  refine mTr_if (fun h0 => ?_) (fun h0 => ?_)
  · skip
    exact absurd (if_pos h0) hq
  · skip
    have hp := hp h0
    refine mTr_g hp.1 ?_
    have hp := hp.2
    refine mTr_g hp.1 ?_
    have hp := hp.2
    refine mTr_g hp.1 ?_
    have hp := hp.2
    refine mTr_g hp ?_
    refine mTr_if (fun h1 => ?_) (fun h1 => ?_)
    · skip
      exact mTr_k (hn s ((if_neg h0).trans (if_pos h1)))
    · skip
      refine mTr_if (fun h2 => ?_) (fun h2 => ?_)
      · skip
        exact mTr_k (hn s ((if_neg h0).trans ((if_neg h1).trans (if_pos h2))))
      · skip
        exact mTr_k (hn (s ||| ((1 : Int32) <<< (c &&& 31))) ((if_neg h0).trans ((if_neg h1).trans (if_neg h2))))
theorem lp_C_piecesAgainst_4 {Post : MST → Prop} (r1 : Nat) (c0 : Int32) (σ : MSto) (s0 : Int32) (N : Nat) (hb : ∀ i, i < N → g_C_piecesAgainst_4 r1 (c0 + nI i) σ (f_C_piecesAgainst_4 r1 c0 σ s0 i) ∧ ¬ q_C_piecesAgainst_4s r1 (c0 + nI i) σ (f_C_piecesAgainst_4 r1 c0 σ s0 i) = 1) (h : mW1 P_C_piecesAgainst (4, [some (mR 12 0), some (mR 9 r1), some (mI (f_C_piecesAgainst_4 r1 c0 σ s0 N)), some (mI (c0 + nI N)), none, none], [], σ, 0, 0) Post) : mW1 P_C_piecesAgainst (4, [some (mR 12 0), some (mR 9 r1), some (mI s0), some (mI c0), none, none], [], σ, 0, 0) Post := by
  refine mW1_st (mW1_loop (fun i => (4, [some (mR 12 0), some (mR 9 r1), some (mI (f_C_piecesAgainst_4 r1 c0 σ s0 i)), some (mI (c0 + nI i)), none, none], [], σ, 0, 0)) N (fun i hlt hn => ?_) h) (by rw [show nI 0 = 0 from rfl, Int32.add_zero] <;> rfl)
  refine lt_C_piecesAgainst_4 r1 _ σ _ (hb i hlt).1 (hb i hlt).2 (fun r hr => ?_)
  rw [Int32.add_assoc, nI_s]
  subst hr
  exact hn
set_option maxRecDepth 100000 in
set_option maxHeartbeats 4000000 in
theorem d_C_piecesAgainst (a1 : Nat) (σ : MSto) (hp : p_C_piecesAgainst a1 σ) : mW1 P_C_piecesAgainst (0, [some (mR 12 0), some (mR 9 a1), none, none, none, none], [], σ, 0, 0) (mF [87] [mI (v_C_piecesAgainst a1 σ)] σ 0 0) := by
  refine mW1_eq (q_C_piecesAgainst_e _ _) ?_
  unfold p_C_piecesAgainst at hp
  refine mTr_k (lp_C_piecesAgainst_4 a1 0 σ 0 (n_C_piecesAgainst_4 a1 0 σ 0) hp.1 ?_)
  have hp := hp.2
  refine mW1_eq (q_C_piecesAgainst_4 _ _ _ _) ?_
  refine mTr_if (fun h0 => ?_) (fun h0 => ?_)
  · skip
    exact mTr_e (by decide) (congrArg (fun z => [mI z]) (Eq.symm (rfl))) rfl (by decide) (by decide)
  · skip
    have hp := hp h0
    exact hp.elim




theorem tk_C_piecesAgainst : ∀ pc i nx tg, T_C_piecesAgainst pc = some (i, nx, tg) → mOkB prog_1_method_104_code pc i nx tg = true := code_ok (N := 88) (fun k h => by unfold T_C_piecesAgainst; rw [h]; rfl) (by decide +kernel)
theorem ok_C_piecesAgainst (l : Launch) : mPOK l "ClothWithMan" prog_1_method_104_code P_C_piecesAgainst := by
  refine ⟨tk_C_piecesAgainst, ?_, ?_, ?_, (fun pc i nx tg kd _ h => by cases h), ?_, ?_, fun pc en h => by cases h⟩
  · intro x ci f ty fin h
    exact mLook_all (Q := fun x v => mFOK "ClothWithMan" x v.1 v.2.1 v.2.2.1 v.2.2.2 ∧ (v.2.2.2 = true → pIni P_C_piecesAgainst = true → (Cond.fieldLink "ClothWithMan" x (((mCl[v.1]?).getD ("", fun _ => ("", "", "", false), 0)).2.1 v.2.1).1 (((mCl[v.1]?).getD ("", fun _ => ("", "", "", false), 0)).2.1 v.2.1).2.1 (((mCl[v.1]?).getD ("", fun _ => ("", "", "", false), 0)).2.1 v.2.1).2.2.1 ∈ lw_tbl ∧ (((mCl[v.1]?).getD ("", fun _ => ("", "", "", false), 0)).2.1 v.2.1).1 = "ClothWithMan"))) (fcC ⟨fo_C_19, fun h1 h2 => by cases h2⟩ (fcC ⟨fo_C_27, fun h1 h2 => by cases h2⟩ (fcC ⟨fo_C_33, fun h1 h2 => by cases h2⟩ (fcC ⟨fo_C_122, fun h1 h2 => by cases h1⟩ (fcC ⟨fo_C_195, fun h1 h2 => by cases h2⟩ (fcC ⟨fo_C_201, fun h1 h2 => by cases h1⟩ (fcC ⟨fo_C_204, fun h1 h2 => by cases h1⟩ fcN))))))) x (ci, f, ty, fin) h
  · intro x
    have hh := mLook_all (l := ([] : List (Nat × (Int32 ⊕ Int64)))) (Q := fun x (v : Int32 ⊕ Int64) => (∀ w, v = .inl w → Cond.constant "ClothWithMan" x w ∈ lw_tbl) ∧ (∀ w, v = .inr w → Cond.constantLong "ClothWithMan" x w ∈ lw_tbl)) fcN x
    exact ⟨fun w h => (hh _ h).1 w rfl, fun w h => (hh _ h).2 w rfl⟩
  · exact fun x en h => mLook_all (Q := fun x en => mLink "ClothWithMan" x en ∧ mCtr l en ∧ (en.1.1 = 2 → en.2.2.2.2.2.2 = none)) (fcC ⟨li_C_183, c_AL_get l, (fun h => by cases h)⟩ (fcC ⟨li_C_210, c_C_likenessOf l, (fun h => by cases h)⟩ (fcC ⟨li_C_281, c_C_pieceCount l, (fun h => by cases h)⟩ (fcC ⟨li_C_315, c_C_wouldBe l, (fun h => by cases h)⟩ fcN)))) x en h
  · exact fun x kd h => mLook_all (Q := fun x kd => (kd = 95 ∧ Cond.fieldLink "ClothWithMan" x "ClothWithMan" "LIKENESSES" "[I" ∈ lw_tbl) ∨ (kd = 96 ∧ Cond.fieldLink "ClothWithMan" x "ClothWithMan" "APART_BOUNDS" "[I" ∈ lw_tbl)) fcN x kd h
  · exact fun x ci h => mLook_all (Q := fun x ci => ci ≠ 0 ∧ ∃ (C : String) (T : u_T) (N : Nat), mCl[ci]? = some (C, T, N) ∧ Cond.classLink "ClothWithMan" x C ∈ lw_tbl ∧ Cond.instantiable C N ∈ lw_tbl) (fcC ⟨by decide, "ClothWithMan$Piece", TX6, 6, rfl, tw_3_6, tw_3_7⟩ fcN) x ci h
set_option maxRecDepth 100000 in
theorem c_C_piecesAgainst (l : Launch) : mCtr l E_C_piecesAgainst := mCtr_of (P := P_C_piecesAgainst) (own := "ClothWithMan") mLay_ok rfl (by decide +kernel) rfl (ok_C_piecesAgainst l) (fun h => by cases h) (fun as σ pr rv σ' hF hpr hlv => by
  unfold E_C_piecesAgainst S_C_piecesAgainst at hF
  simp only [] at hF
  split at hF
  · cases hF
    obtain ⟨n, pcF, c1, s1, g1, g2, g3, g4⟩ := mF_inv (d_C_piecesAgainst _ σ (hpr _ rfl))
    exact ⟨Nat.le_of_ble_eq_true rfl, (fun v h => by cases h; trivial), n, pcF, c1, s1, g1, ⟨mEnd_of (i := .ireturn) (P := P_C_piecesAgainst) (rets := [87]) rfl g2, rfl⟩, g3, g4⟩
  · cases hF
    exact (hpr _ rfl).elim)

