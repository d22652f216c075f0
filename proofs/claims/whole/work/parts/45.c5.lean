/-! ClothWithMan.story()I -/
noncomputable def v_C_story  (σ : MSto) : Int32 := (if (v_AL_size 15 0 σ) < 6 then (if (v_Te_isRight (e_Te_cut 0 (e_St_read (gN σ 9) (e_St_init (gN σ 9) (sNew σ 9))))) = 0 then ((-1) - (gI (e_Te_cut 0 (e_St_read (gN σ 9) (e_St_init (gN σ 9) (sNew σ 9)))) 10 0 4)) else ((v_AL_size 15 0 (e_AL_add 15 0 9 (gN σ 9) (e_Te_cut 0 (e_St_read (gN σ 9) (e_St_init (gN σ 9) (sNew σ 9)))))) - 1)) else (-100))
def p_C_story  (σ : MSto) : Prop := (((v_AL_size 15 0 σ) < 6) → ((p_St_read (gN σ 9) (e_St_init (gN σ 9) (sNew σ 9))) ∧ (¬ ((v_Te_isRight (e_Te_cut 0 (e_St_read (gN σ 9) (e_St_init (gN σ 9) (sNew σ 9))))) = 0) → (p_AL_add 15 0 9 (gN σ 9) (e_Te_cut 0 (e_St_read (gN σ 9) (e_St_init (gN σ 9) (sNew σ 9))))))))
noncomputable def e_C_story  (σ : MSto) : MSto := (if (v_AL_size 15 0 σ) < 6 then (if (v_Te_isRight (e_Te_cut 0 (e_St_read (gN σ 9) (e_St_init (gN σ 9) (sNew σ 9))))) = 0 then (e_Te_cut 0 (e_St_read (gN σ 9) (e_St_init (gN σ 9) (sNew σ 9)))) else (e_AL_add 15 0 9 (gN σ 9) (e_Te_cut 0 (e_St_read (gN σ 9) (e_St_init (gN σ 9) (sNew σ 9)))))) else (e_Te_cut 0 σ))
noncomputable def S_C_story : List MV → MSto → Option Prop × Option MV × MSto := fun as σ => match as with
  | [.inr (.inr (some (12, 0)))] => (some (p_C_story σ), some (mI (v_C_story σ)), e_C_story σ)
  | _ => (some False, none, σ)
noncomputable def E_C_story : MEnt := ((1, 0, 12), (11, 271, 2, 27), S_C_story, ((⟨"ClothWithMan", "story", "()I"⟩ : MethodName), prog_1_method_29_code, 2, (some .int)))

def T_C_story : Nat → Option (Instr × Nat × List Nat) := fun k => bif Nat.blt k 88 then (bif Nat.blt k 45 then (bif Nat.blt k 23 then (bif Nat.blt k 12 then (bif Nat.blt k 4 then (bif Nat.blt k 1 then (bif Nat.beq k 0 then some (.aload_n 0, 1, []) else none) else (bif Nat.beq k 1 then some (.getfield 37, 4, []) else none)) else (bif Nat.blt k 7 then (bif Nat.beq k 4 then some (.invokevirtual 132, 7, []) else none) else (bif Nat.blt k 9 then (bif Nat.beq k 7 then some (.bipush 6, 9, []) else none) else (bif Nat.beq k 9 then some (.if_icmp .lt 15, 12, [24]) else none)))) else (bif Nat.blt k 17 then (bif Nat.blt k 13 then (bif Nat.beq k 12 then some (.aload_n 0, 13, []) else none) else (bif Nat.blt k 16 then (bif Nat.beq k 13 then some (.getfield 10, 16, []) else none) else (bif Nat.beq k 16 then some (.iconst 0, 17, []) else none))) else (bif Nat.blt k 20 then (bif Nat.beq k 17 then some (.invokevirtual 102, 20, []) else none) else (bif Nat.blt k 21 then (bif Nat.beq k 20 then some (.pop, 21, []) else none) else (bif Nat.beq k 21 then some (.bipush (-100), 23, []) else none))))) else (bif Nat.blt k 33 then (bif Nat.blt k 28 then (bif Nat.blt k 24 then (bif Nat.beq k 23 then some (.ireturn, 24, []) else none) else (bif Nat.blt k 27 then (bif Nat.beq k 24 then some (.new 294, 27, []) else none) else (bif Nat.beq k 27 then some (.dup, 28, []) else none))) else (bif Nat.blt k 31 then (bif Nat.beq k 28 then some (.invokespecial 296, 31, []) else none) else (bif Nat.blt k 32 then (bif Nat.beq k 31 then some (.astore_n 1, 32, []) else none) else (bif Nat.beq k 32 then some (.aload_n 1, 33, []) else none)))) else (bif Nat.blt k 40 then (bif Nat.blt k 34 then (bif Nat.beq k 33 then some (.aload_n 0, 34, []) else none) else (bif Nat.blt k 37 then (bif Nat.beq k 34 then some (.getfield 10, 37, []) else none) else (bif Nat.beq k 37 then some (.invokevirtual 297, 40, []) else none))) else (bif Nat.blt k 41 then (bif Nat.beq k 40 then some (.aload_n 0, 41, []) else none) else (bif Nat.blt k 44 then (bif Nat.beq k 41 then some (.getfield 10, 44, []) else none) else (bif Nat.beq k 44 then some (.iconst 0, 45, []) else none)))))) else (bif Nat.blt k 68 then (bif Nat.blt k 56 then (bif Nat.blt k 49 then (bif Nat.blt k 48 then (bif Nat.beq k 45 then some (.invokevirtual 102, 48, []) else none) else (bif Nat.beq k 48 then some (.pop, 49, []) else none)) else (bif Nat.blt k 50 then (bif Nat.beq k 49 then some (.aload_n 0, 50, []) else none) else (bif Nat.blt k 53 then (bif Nat.beq k 50 then some (.getfield 10, 53, []) else none) else (bif Nat.beq k 53 then some (.invokevirtual 300, 56, []) else none)))) else (bif Nat.blt k 61 then (bif Nat.blt k 59 then (bif Nat.beq k 56 then some (.ifCond .ne 13, 59, [69]) else none) else (bif Nat.blt k 60 then (bif Nat.beq k 59 then some (.iconst (-1), 60, []) else none) else (bif Nat.beq k 60 then some (.aload_n 0, 61, []) else none))) else (bif Nat.blt k 64 then (bif Nat.beq k 61 then some (.getfield 10, 64, []) else none) else (bif Nat.blt k 67 then (bif Nat.beq k 64 then some (.getfield 304, 67, []) else none) else (bif Nat.beq k 67 then some (.isub, 68, []) else none))))) else (bif Nat.blt k 78 then (bif Nat.blt k 73 then (bif Nat.blt k 69 then (bif Nat.beq k 68 then some (.ireturn, 69, []) else none) else (bif Nat.blt k 70 then (bif Nat.beq k 69 then some (.aload_n 0, 70, []) else none) else (bif Nat.beq k 70 then some (.getfield 37, 73, []) else none))) else (bif Nat.blt k 74 then (bif Nat.beq k 73 then some (.aload_n 1, 74, []) else none) else (bif Nat.blt k 77 then (bif Nat.beq k 74 then some (.invokevirtual 141, 77, []) else none) else (bif Nat.beq k 77 then some (.pop, 78, []) else none)))) else (bif Nat.blt k 85 then (bif Nat.blt k 79 then (bif Nat.beq k 78 then some (.aload_n 0, 79, []) else none) else (bif Nat.blt k 82 then (bif Nat.beq k 79 then some (.getfield 37, 82, []) else none) else (bif Nat.beq k 82 then some (.invokevirtual 132, 85, []) else none))) else (bif Nat.blt k 86 then (bif Nat.beq k 85 then some (.iconst 1, 86, []) else none) else (bif Nat.blt k 87 then (bif Nat.beq k 86 then some (.isub, 87, []) else none) else (bif Nat.beq k 87 then some (.ireturn, 88, []) else none))))))) else none
noncomputable def P_C_story : MP := (T_C_story, (fun k => mLook k [(10, (12, 0, (.object "ClothWithMan$Text"), true)), (37, (12, 5, (.object "java/util/ArrayList"), true)), (304, (10, 4, .int, false))]), (fun k => mLook k []), (fun k => mLook k [(102, E_Te_cut), (132, E_AL_size), (141, E_AL_add), (296, E_St_init), (297, E_St_read), (300, E_Te_isRight)]), (fun k => mLook k [(24, 9)]), (fun k => mLook k []), (fun k => mLook k []), (fun k => mLook k []), (fun k => [23, 68, 87].any (Nat.beq k)), (11, 271, 2, 27), false, (fun _ => none))
set_option maxRecDepth 100000 in
set_option maxHeartbeats 4000000 in
theorem q_C_story_e  (σ : MSto) (n : Nat) : mexe KT P_C_story (n + 1) (0, [some (mR 12 0), none], [], σ, 0, 0) = mIf ((v_AL_size 15 0 σ) < 6) (mG (p_St_read (gN σ 9) (e_St_init (gN σ 9) (sNew σ 9))) (mIf ((v_Te_isRight (e_Te_cut 0 (e_St_read (gN σ 9) (e_St_init (gN σ 9) (sNew σ 9))))) = 0) (some (68, [], [(mI ((-1) - (gI (e_Te_cut 0 (e_St_read (gN σ 9) (e_St_init (gN σ 9) (sNew σ 9)))) 10 0 4)))], (e_Te_cut 0 (e_St_read (gN σ 9) (e_St_init (gN σ 9) (sNew σ 9)))), 1, 9)) (mG (p_AL_add 15 0 9 (gN σ 9) (e_Te_cut 0 (e_St_read (gN σ 9) (e_St_init (gN σ 9) (sNew σ 9))))) (some (87, [], [(mI ((v_AL_size 15 0 (e_AL_add 15 0 9 (gN σ 9) (e_Te_cut 0 (e_St_read (gN σ 9) (e_St_init (gN σ 9) (sNew σ 9)))))) - 1))], (e_AL_add 15 0 9 (gN σ 9) (e_Te_cut 0 (e_St_read (gN σ 9) (e_St_init (gN σ 9) (sNew σ 9))))), 2, 27))))) (some (23, [], [(mI (-100))], (e_Te_cut 0 σ), 0, 0)) := rfl
set_option maxRecDepth 100000 in
set_option maxHeartbeats 4000000 in
theorem d_C_story  (σ : MSto) (hp : p_C_story σ) : mW1 P_C_story (0, [some (mR 12 0), none], [], σ, 0, 0) (mF [23, 68, 87] [mI (v_C_story σ)] (e_C_story σ) 2 27) := by
  refine mW1_eq (q_C_story_e  _) ?_
  unfold p_C_story at hp
  refine mTr_if (fun h0 => ?_) (fun h0 => ?_)
  · skip
    have hp := hp h0
    refine mTr_g hp.1 ?_
    have hp := hp.2
    refine mTr_if (fun h1 => ?_) (fun h1 => ?_)
    · skip
      exact mTr_e (by decide) (congrArg (fun z => [mI z]) (Eq.symm ((if_pos h0).trans (if_pos h1)))) (Eq.symm ((if_pos h0).trans (if_pos h1))) (by decide) (by decide)
    · skip
      have hp := hp h1
      refine mTr_g hp ?_
      exact mTr_e (by decide) (congrArg (fun z => [mI z]) (Eq.symm ((if_pos h0).trans (if_neg h1)))) (Eq.symm ((if_pos h0).trans (if_neg h1))) (by decide) (by decide)
  · skip
    exact mTr_e (by decide) (congrArg (fun z => [mI z]) (Eq.symm (if_neg h0))) (Eq.symm (if_neg h0)) (by decide) (by decide)
theorem li_C_300 : mLink "ClothWithMan" 300 E_Te_isRight := ⟨tw_2_59, tw_1_2, ⟨by decide, by decide⟩, by decide +kernel, Or.inl tw_4_43, (fun h => by cases h), (fun _ => ⟨tw_2_57, tw_2_58, TX9, 5, rfl⟩), (fun h => by cases h)⟩

theorem li_C_297 : mLink "ClothWithMan" 297 E_St_read := ⟨tw_4_18, tw_1_23, ⟨by decide, by decide⟩, by decide +kernel, Or.inl tw_4_15, (fun h => by cases h), (fun _ => ⟨tw_4_16, tw_4_17, TX8, 9, rfl⟩), (fun h => by cases h)⟩

theorem li_C_296 : mLink "ClothWithMan" 296 E_St_init := ⟨tw_3_219, tw_1_23, ⟨by decide, by decide⟩, by decide +kernel, Or.inr ⟨_, tw_3_217⟩, (fun h => by cases h), (fun h => by cases h), (fun _ => ⟨tw_3_218, rfl⟩)⟩




theorem tk_C_story : ∀ pc i nx tg, T_C_story pc = some (i, nx, tg) → mOkB prog_1_method_29_code pc i nx tg = true := code_ok (N := 88) (fun k h => by unfold T_C_story; rw [h]; rfl) (by decide +kernel)
theorem al_C_story : ∀ pc i nx tg kd, pCode P_C_story pc = some (i, nx, tg) → pAlc P_C_story pc = some kd → match i with
    | .new x => mAOK "ClothWithMan" x kd
    | .newarray t => mNAOK t kd
    | .anewarray x => mAAOK "ClothWithMan" x kd
    | .invokespecial x => Cond.methodLink "ClothWithMan" x Lib.objectInit ∈ lw_tbl
    | _ => True := by
  intro pc i nx tg kd h1 h2
  have h3 := mLook_mem h2
  simp only [List.mem_cons, Prod.mk.injEq, List.not_mem_nil, or_false] at h3
  rcases h3 with ⟨rfl, rfl⟩
  · have e : T_C_story 24 = some (i, nx, tg) := h1
    cases e
    exact ⟨9, _, "ClothWithMan$Story", TX8, rfl, by decide, rfl, tw_3_215, tw_3_216, tw_1_23, (lt_s (lt_s (lt_s (lt_s (lt_s (lt_s (lt_s (lt_s (lt_s lt_0 ⟨.int, by decide +kernel, Or.inl ⟨rfl, rfl⟩⟩) ⟨.int, by decide +kernel, Or.inl ⟨rfl, rfl⟩⟩) ⟨.int, by decide +kernel, Or.inl ⟨rfl, rfl⟩⟩) ⟨.int, by decide +kernel, Or.inl ⟨rfl, rfl⟩⟩) ⟨.int, by decide +kernel, Or.inl ⟨rfl, rfl⟩⟩) ⟨.int, by decide +kernel, Or.inl ⟨rfl, rfl⟩⟩) ⟨.int, by decide +kernel, Or.inl ⟨rfl, rfl⟩⟩) ⟨.int, by decide +kernel, Or.inl ⟨rfl, rfl⟩⟩) ⟨.int, by decide +kernel, Or.inl ⟨rfl, rfl⟩⟩)⟩

theorem ok_C_story (l : Launch) : mPOK l "ClothWithMan" prog_1_method_29_code P_C_story := by
  refine ⟨tk_C_story, ?_, ?_, ?_, al_C_story, ?_, ?_, fun pc en h => by cases h⟩
  · intro x ci f ty fin h
    exact mLook_all (Q := fun x v => mFOK "ClothWithMan" x v.1 v.2.1 v.2.2.1 v.2.2.2 ∧ (v.2.2.2 = true → pIni P_C_story = true → (Cond.fieldLink "ClothWithMan" x (((mCl[v.1]?).getD ("", fun _ => ("", "", "", false), 0)).2.1 v.2.1).1 (((mCl[v.1]?).getD ("", fun _ => ("", "", "", false), 0)).2.1 v.2.1).2.1 (((mCl[v.1]?).getD ("", fun _ => ("", "", "", false), 0)).2.1 v.2.1).2.2.1 ∈ lw_tbl ∧ (((mCl[v.1]?).getD ("", fun _ => ("", "", "", false), 0)).2.1 v.2.1).1 = "ClothWithMan"))) (fcC ⟨fo_C_10, fun h1 h2 => by cases h2⟩ (fcC ⟨fo_C_37, fun h1 h2 => by cases h2⟩ (fcC ⟨fo_C_304, fun h1 h2 => by cases h1⟩ fcN))) x (ci, f, ty, fin) h
  · intro x
    have hh := mLook_all (l := ([] : List (Nat × (Int32 ⊕ Int64)))) (Q := fun x (v : Int32 ⊕ Int64) => (∀ w, v = .inl w → Cond.constant "ClothWithMan" x w ∈ lw_tbl) ∧ (∀ w, v = .inr w → Cond.constantLong "ClothWithMan" x w ∈ lw_tbl)) fcN x
    exact ⟨fun w h => (hh _ h).1 w rfl, fun w h => (hh _ h).2 w rfl⟩
  · exact fun x en h => mLook_all (Q := fun x en => mLink "ClothWithMan" x en ∧ mCtr l en ∧ (en.1.1 = 2 → en.2.2.2.2.2.2 = none)) (fcC ⟨li_C_102, c_Te_cut l, (fun h => by cases h)⟩ (fcC ⟨li_C_132, c_AL_size l, (fun h => by cases h)⟩ (fcC ⟨li_C_141, c_AL_add l, (fun h => by cases h)⟩ (fcC ⟨li_C_296, c_St_init l, (fun _ => rfl)⟩ (fcC ⟨li_C_297, c_St_read l, (fun h => by cases h)⟩ (fcC ⟨li_C_300, c_Te_isRight l, (fun h => by cases h)⟩ fcN)))))) x en h
  · exact fun x kd h => mLook_all (Q := fun x kd => (kd = 95 ∧ Cond.fieldLink "ClothWithMan" x "ClothWithMan" "LIKENESSES" "[I" ∈ lw_tbl) ∨ (kd = 96 ∧ Cond.fieldLink "ClothWithMan" x "ClothWithMan" "APART_BOUNDS" "[I" ∈ lw_tbl)) fcN x kd h
  · exact fun x ci h => mLook_all (Q := fun x ci => ci ≠ 0 ∧ ∃ (C : String) (T : u_T) (N : Nat), mCl[ci]? = some (C, T, N) ∧ Cond.classLink "ClothWithMan" x C ∈ lw_tbl ∧ Cond.instantiable C N ∈ lw_tbl) fcN x ci h
set_option maxRecDepth 100000 in
theorem c_C_story (l : Launch) : mCtr l E_C_story := mCtr_of (P := P_C_story) (own := "ClothWithMan") mLay_ok rfl (by decide +kernel) rfl (ok_C_story l) (fun h => by cases h) (fun as σ pr rv σ' hF hpr hlv => by
  unfold E_C_story S_C_story at hF
  simp only [] at hF
  split at hF
  · cases hF
    obtain ⟨n, pcF, c1, s1, g1, g2, g3, g4⟩ := mF_inv (d_C_story σ (hpr _ rfl))
    exact ⟨Nat.le_of_ble_eq_true rfl, (fun v h => by cases h; trivial), n, pcF, c1, s1, g1, ⟨mEnd_of (i := .ireturn) (P := P_C_story) (rets := [23, 68, 87]) rfl g2, rfl⟩, g3, g4⟩
  · cases hF
    exact (hpr _ rfl).elim)
/-! ClothWithMan.faith(II)I -/
noncomputable def v_C_faith (a1 : Int32) (a2 : Int32) (σ : MSto) : Int32 := (if (v_C_isStory a1 σ) = 0 then (-1) else (if (v_C_isIn a2 0 9 σ) = 0 then (-1) else (gI σ 9 (v_AL_get 15 0 a1 σ) 1)))
def p_C_faith (a1 : Int32) (a2 : Int32) (σ : MSto) : Prop := (¬ ((v_C_isStory a1 σ) = 0) → (¬ ((v_C_isIn a2 0 9 σ) = 0) → (p_AL_get 15 0 a1 σ)))
noncomputable def e_C_faith (a1 : Int32) (a2 : Int32) (σ : MSto) : MSto := (if (v_C_isStory a1 σ) = 0 then σ else (if (v_C_isIn a2 0 9 σ) = 0 then σ else (sI σ 9 (v_AL_get 15 0 a1 σ) 1 a2)))
noncomputable def S_C_faith : List MV → MSto → Option Prop × Option MV × MSto := fun as σ => match as with
  | [.inr (.inr (some (12, 0))), .inl a0, .inl a1] => (some (p_C_faith a0 a1 σ), some (mI (v_C_faith a0 a1 σ)), e_C_faith a0 a1 σ)
  | _ => (some False, none, σ)
noncomputable def E_C_faith : MEnt := ((1, 2, 12), (6, 121, 0, 0), S_C_faith, ((⟨"ClothWithMan", "faith", "(II)I"⟩ : MethodName), prog_1_method_30_code, 5, (some .int)))

def T_C_faith : Nat → Option (Instr × Nat × List Nat) := fun k => bif Nat.blt k 46 then (bif Nat.blt k 21 then (bif Nat.blt k 10 then (bif Nat.blt k 5 then (bif Nat.blt k 1 then (bif Nat.beq k 0 then some (.aload_n 0, 1, []) else none) else (bif Nat.blt k 2 then (bif Nat.beq k 1 then some (.iload_n 1, 2, []) else none) else (bif Nat.beq k 2 then some (.invokevirtual 307, 5, []) else none))) else (bif Nat.blt k 8 then (bif Nat.beq k 5 then some (.ifCond .eq 13, 8, [18]) else none) else (bif Nat.blt k 9 then (bif Nat.beq k 8 then some (.iload_n 2, 9, []) else none) else (bif Nat.beq k 9 then some (.iconst 0, 10, []) else none)))) else (bif Nat.blt k 18 then (bif Nat.blt k 12 then (bif Nat.beq k 10 then some (.bipush 9, 12, []) else none) else (bif Nat.blt k 15 then (bif Nat.beq k 12 then some (.invokestatic 145, 15, []) else none) else (bif Nat.beq k 15 then some (.ifCond .ne 5, 18, [20]) else none))) else (bif Nat.blt k 19 then (bif Nat.beq k 18 then some (.iconst (-1), 19, []) else none) else (bif Nat.blt k 20 then (bif Nat.beq k 19 then some (.ireturn, 20, []) else none) else (bif Nat.beq k 20 then some (.aload_n 0, 21, []) else none))))) else (bif Nat.blt k 33 then (bif Nat.blt k 28 then (bif Nat.blt k 24 then (bif Nat.beq k 21 then some (.getfield 37, 24, []) else none) else (bif Nat.blt k 25 then (bif Nat.beq k 24 then some (.iload_n 1, 25, []) else none) else (bif Nat.beq k 25 then some (.invokevirtual 183, 28, []) else none))) else (bif Nat.blt k 31 then (bif Nat.beq k 28 then some (.checkcast 294, 31, []) else none) else (bif Nat.blt k 32 then (bif Nat.beq k 31 then some (.astore_n 3, 32, []) else none) else (bif Nat.beq k 32 then some (.aload_n 3, 33, []) else none)))) else (bif Nat.blt k 39 then (bif Nat.blt k 36 then (bif Nat.beq k 33 then some (.getfield 310, 36, []) else none) else (bif Nat.blt k 38 then (bif Nat.beq k 36 then some (.istore 4, 38, []) else none) else (bif Nat.beq k 38 then some (.aload_n 3, 39, []) else none))) else (bif Nat.blt k 43 then (bif Nat.blt k 40 then (bif Nat.beq k 39 then some (.iload_n 2, 40, []) else none) else (bif Nat.beq k 40 then some (.putfield 310, 43, []) else none)) else (bif Nat.blt k 45 then (bif Nat.beq k 43 then some (.iload 4, 45, []) else none) else (bif Nat.beq k 45 then some (.ireturn, 46, []) else none)))))) else none
noncomputable def P_C_faith : MP := (T_C_faith, (fun k => mLook k [(37, (12, 5, (.object "java/util/ArrayList"), true)), (310, (9, 1, .int, false))]), (fun k => mLook k []), (fun k => mLook k [(145, E_C_isIn), (183, E_AL_get), (307, E_C_isStory)]), (fun k => mLook k []), (fun k => mLook k []), (fun k => mLook k [(294, 9)]), (fun k => mLook k []), (fun k => [19, 45].any (Nat.beq k)), (6, 121, 0, 0), false, (fun _ => none))
set_option maxRecDepth 100000 in
set_option maxHeartbeats 4000000 in
theorem q_C_faith_e (a1 : Int32) (a2 : Int32) (σ : MSto) (n : Nat) : mexe KT P_C_faith (n + 1) (0, [some (mR 12 0), some (mI a1), some (mI a2), none, none], [], σ, 0, 0) = mIf ((v_C_isStory a1 σ) = 0) (some (19, [], [(mI (-1))], σ, 0, 0)) (mIf ((v_C_isIn a2 0 9 σ) = 0) (some (19, [], [(mI (-1))], σ, 0, 0)) (mG (p_AL_get 15 0 a1 σ) (some (45, [], [(mI (gI σ 9 (v_AL_get 15 0 a1 σ) 1))], (sI σ 9 (v_AL_get 15 0 a1 σ) 1 a2), 0, 0)))) := rfl
set_option maxRecDepth 100000 in
set_option maxHeartbeats 4000000 in
theorem d_C_faith (a1 : Int32) (a2 : Int32) (σ : MSto) (hp : p_C_faith a1 a2 σ) : mW1 P_C_faith (0, [some (mR 12 0), some (mI a1), some (mI a2), none, none], [], σ, 0, 0) (mF [19, 45] [mI (v_C_faith a1 a2 σ)] (e_C_faith a1 a2 σ) 0 0) := by
  refine mW1_eq (q_C_faith_e _ _ _) ?_
  unfold p_C_faith at hp
  refine mTr_if (fun h0 => ?_) (fun h0 => ?_)
  · skip
    exact mTr_e (by decide) (congrArg (fun z => [mI z]) (Eq.symm (if_pos h0))) (Eq.symm (if_pos h0)) (by decide) (by decide)
  · skip
    have hp := hp h0
    refine mTr_if (fun h1 => ?_) (fun h1 => ?_)
    · skip
      exact mTr_e (by decide) (congrArg (fun z => [mI z]) (Eq.symm ((if_neg h0).trans (if_pos h1)))) (Eq.symm ((if_neg h0).trans (if_pos h1))) (by decide) (by decide)
    · skip
      have hp := hp h1
      refine mTr_g hp ?_
      exact mTr_e (by decide) (congrArg (fun z => [mI z]) (Eq.symm ((if_neg h0).trans (if_neg h1)))) (Eq.symm ((if_neg h0).trans (if_neg h1))) (by decide) (by decide)
theorem li_C_307 : mLink "ClothWithMan" 307 E_C_isStory := ⟨tw_4_51, tw_1_1, ⟨by decide, by decide⟩, by decide +kernel, Or.inl tw_4_48, (fun h => by cases h), (fun _ => ⟨tw_4_50, tw_0_24, TX11, 20, rfl⟩), (fun h => by cases h)⟩



theorem tk_C_faith : ∀ pc i nx tg, T_C_faith pc = some (i, nx, tg) → mOkB prog_1_method_30_code pc i nx tg = true := code_ok (N := 46) (fun k h => by unfold T_C_faith; rw [h]; rfl) (by decide +kernel)
theorem ok_C_faith (l : Launch) : mPOK l "ClothWithMan" prog_1_method_30_code P_C_faith := by
  refine ⟨tk_C_faith, ?_, ?_, ?_, (fun pc i nx tg kd _ h => by cases h), ?_, ?_, fun pc en h => by cases h⟩
  · intro x ci f ty fin h
    exact mLook_all (Q := fun x v => mFOK "ClothWithMan" x v.1 v.2.1 v.2.2.1 v.2.2.2 ∧ (v.2.2.2 = true → pIni P_C_faith = true → (Cond.fieldLink "ClothWithMan" x (((mCl[v.1]?).getD ("", fun _ => ("", "", "", false), 0)).2.1 v.2.1).1 (((mCl[v.1]?).getD ("", fun _ => ("", "", "", false), 0)).2.1 v.2.1).2.1 (((mCl[v.1]?).getD ("", fun _ => ("", "", "", false), 0)).2.1 v.2.1).2.2.1 ∈ lw_tbl ∧ (((mCl[v.1]?).getD ("", fun _ => ("", "", "", false), 0)).2.1 v.2.1).1 = "ClothWithMan"))) (fcC ⟨fo_C_37, fun h1 h2 => by cases h2⟩ (fcC ⟨fo_C_310, fun h1 h2 => by cases h1⟩ fcN)) x (ci, f, ty, fin) h
  · intro x
    have hh := mLook_all (l := ([] : List (Nat × (Int32 ⊕ Int64)))) (Q := fun x (v : Int32 ⊕ Int64) => (∀ w, v = .inl w → Cond.constant "ClothWithMan" x w ∈ lw_tbl) ∧ (∀ w, v = .inr w → Cond.constantLong "ClothWithMan" x w ∈ lw_tbl)) fcN x
    exact ⟨fun w h => (hh _ h).1 w rfl, fun w h => (hh _ h).2 w rfl⟩
  · exact fun x en h => mLook_all (Q := fun x en => mLink "ClothWithMan" x en ∧ mCtr l en ∧ (en.1.1 = 2 → en.2.2.2.2.2.2 = none)) (fcC ⟨li_C_145, c_C_isIn l, (fun h => by cases h)⟩ (fcC ⟨li_C_183, c_AL_get l, (fun h => by cases h)⟩ (fcC ⟨li_C_307, c_C_isStory l, (fun h => by cases h)⟩ fcN))) x en h
  · exact fun x kd h => mLook_all (Q := fun x kd => (kd = 95 ∧ Cond.fieldLink "ClothWithMan" x "ClothWithMan" "LIKENESSES" "[I" ∈ lw_tbl) ∨ (kd = 96 ∧ Cond.fieldLink "ClothWithMan" x "ClothWithMan" "APART_BOUNDS" "[I" ∈ lw_tbl)) fcN x kd h
  · exact fun x ci h => mLook_all (Q := fun x ci => ci ≠ 0 ∧ ∃ (C : String) (T : u_T) (N : Nat), mCl[ci]? = some (C, T, N) ∧ Cond.classLink "ClothWithMan" x C ∈ lw_tbl ∧ Cond.instantiable C N ∈ lw_tbl) (fcC ⟨by decide, "ClothWithMan$Story", TX8, 9, rfl, tw_3_215, tw_3_216⟩ fcN) x ci h
set_option maxRecDepth 100000 in
theorem c_C_faith (l : Launch) : mCtr l E_C_faith := mCtr_of (P := P_C_faith) (own := "ClothWithMan") mLay_ok rfl (by decide +kernel) rfl (ok_C_faith l) (fun h => by cases h) (fun as σ pr rv σ' hF hpr hlv => by
  unfold E_C_faith S_C_faith at hF
  simp only [] at hF
  split at hF
  · cases hF
    obtain ⟨n, pcF, c1, s1, g1, g2, g3, g4⟩ := mF_inv (d_C_faith _ _ σ (hpr _ rfl))
    exact ⟨Nat.le_of_ble_eq_true rfl, (fun v h => by cases h; trivial), n, pcF, c1, s1, g1, ⟨mEnd_of (i := .ireturn) (P := P_C_faith) (rets := [19, 45]) rfl g2, rfl⟩, g3, g4⟩
  · cases hF
    exact (hpr _ rfl).elim)
/-! ClothWithMan.would(III)I -/
noncomputable def v_C_would (a1 : Int32) (a2 : Int32) (a3 : Int32) (σ : MSto) : Int32 := (v_C_wouldBe (v_AL_get 15 0 a1 σ) (v_AL_get 14 0 a2 σ) a3 σ)
def p_C_would (a1 : Int32) (a2 : Int32) (a3 : Int32) (σ : MSto) : Prop := ((((v_C_isStory a1 σ) = 0) → False) ∧ (¬ ((v_C_isStory a1 σ) = 0) → ((((v_C_isPiece a2 σ) = 0) → False) ∧ (¬ ((v_C_isPiece a2 σ) = 0) → ((((v_C_isYear a3 σ) = 0) → False) ∧ (¬ ((v_C_isYear a3 σ) = 0) → ((p_AL_get 15 0 a1 σ) ∧ ((p_AL_get 14 0 a2 σ) ∧ (p_C_wouldBe (v_AL_get 15 0 a1 σ) (v_AL_get 14 0 a2 σ) a3 σ)))))))))
noncomputable def S_C_would : List MV → MSto → Option Prop × Option MV × MSto := fun as σ => match as with
  | [.inr (.inr (some (12, 0))), .inl a0, .inl a1, .inl a2] => (some (p_C_would a0 a1 a2 σ), some (mI (v_C_would a0 a1 a2 σ)), σ)
  | _ => (some False, none, σ)
noncomputable def E_C_would : MEnt := ((1, 3, 12), (9, 199, 0, 0), S_C_would, ((⟨"ClothWithMan", "would", "(III)I"⟩ : MethodName), prog_1_method_31_code, 4, (some .int)))

def T_C_would : Nat → Option (Instr × Nat × List Nat) := fun k => bif Nat.blt k 62 then (bif Nat.blt k 33 then (bif Nat.blt k 13 then (bif Nat.blt k 5 then (bif Nat.blt k 1 then (bif Nat.beq k 0 then some (.aload_n 0, 1, []) else none) else (bif Nat.blt k 2 then (bif Nat.beq k 1 then some (.iload_n 1, 2, []) else none) else (bif Nat.beq k 2 then some (.invokevirtual 307, 5, []) else none))) else (bif Nat.blt k 9 then (bif Nat.blt k 8 then (bif Nat.beq k 5 then some (.ifCond .eq 18, 8, [23]) else none) else (bif Nat.beq k 8 then some (.aload_n 0, 9, []) else none)) else (bif Nat.blt k 10 then (bif Nat.beq k 9 then some (.iload_n 2, 10, []) else none) else (bif Nat.beq k 10 then some (.invokevirtual 173, 13, []) else none)))) else (bif Nat.blt k 23 then (bif Nat.blt k 17 then (bif Nat.blt k 16 then (bif Nat.beq k 13 then some (.ifCond .eq 10, 16, [23]) else none) else (bif Nat.beq k 16 then some (.iload_n 3, 17, []) else none)) else (bif Nat.blt k 20 then (bif Nat.beq k 17 then some (.invokestatic 116, 20, []) else none) else (bif Nat.beq k 20 then some (.ifCond .ne 14, 23, [34]) else none))) else (bif Nat.blt k 27 then (bif Nat.blt k 26 then (bif Nat.beq k 23 then some (.new 176, 26, []) else none) else (bif Nat.beq k 26 then some (.dup, 27, []) else none)) else (bif Nat.blt k 30 then (bif Nat.beq k 27 then some (.ldc_w 313, 30, []) else none) else (bif Nat.beq k 30 then some (.invokespecial 180, 33, []) else none))))) else (bif Nat.blt k 46 then (bif Nat.blt k 36 then (bif Nat.blt k 34 then (bif Nat.beq k 33 then some (.athrow, 34, []) else none) else (bif Nat.blt k 35 then (bif Nat.beq k 34 then some (.aload_n 0, 35, []) else none) else (bif Nat.beq k 35 then some (.aload_n 0, 36, []) else none))) else (bif Nat.blt k 40 then (bif Nat.blt k 39 then (bif Nat.beq k 36 then some (.getfield 37, 39, []) else none) else (bif Nat.beq k 39 then some (.iload_n 1, 40, []) else none)) else (bif Nat.blt k 43 then (bif Nat.beq k 40 then some (.invokevirtual 183, 43, []) else none) else (bif Nat.beq k 43 then some (.checkcast 294, 46, []) else none)))) else (bif Nat.blt k 54 then (bif Nat.blt k 50 then (bif Nat.blt k 47 then (bif Nat.beq k 46 then some (.aload_n 0, 47, []) else none) else (bif Nat.beq k 47 then some (.getfield 33, 50, []) else none)) else (bif Nat.blt k 51 then (bif Nat.beq k 50 then some (.iload_n 2, 51, []) else none) else (bif Nat.beq k 51 then some (.invokevirtual 183, 54, []) else none))) else (bif Nat.blt k 58 then (bif Nat.blt k 57 then (bif Nat.beq k 54 then some (.checkcast 168, 57, []) else none) else (bif Nat.beq k 57 then some (.iload_n 3, 58, []) else none)) else (bif Nat.blt k 61 then (bif Nat.beq k 58 then some (.invokevirtual 315, 61, []) else none) else (bif Nat.beq k 61 then some (.ireturn, 62, []) else none)))))) else none
noncomputable def P_C_would : MP := (T_C_would, (fun k => mLook k [(33, (12, 4, (.object "java/util/ArrayList"), true)), (37, (12, 5, (.object "java/util/ArrayList"), true))]), (fun k => mLook k []), (fun k => mLook k [(116, E_C_isYear), (173, E_C_isPiece), (183, E_AL_get), (307, E_C_isStory), (315, E_C_wouldBe)]), (fun k => mLook k []), (fun k => mLook k []), (fun k => mLook k [(168, 7), (294, 9)]), (fun k => mLook k []), (fun k => [33, 61].any (Nat.beq k)), (9, 199, 0, 0), false, (fun _ => none))
set_option maxRecDepth 100000 in
set_option maxHeartbeats 4000000 in
theorem q_C_would_e (a1 : Int32) (a2 : Int32) (a3 : Int32) (σ : MSto) (n : Nat) : mexe KT P_C_would (n + 1) (0, [some (mR 12 0), some (mI a1), some (mI a2), some (mI a3)], [], σ, 0, 0) = mIf ((v_C_isStory a1 σ) = 0) (none) (mIf ((v_C_isPiece a2 σ) = 0) (none) (mIf ((v_C_isYear a3 σ) = 0) (none) (mG (p_AL_get 15 0 a1 σ) (mG (p_AL_get 14 0 a2 σ) (mG (p_C_wouldBe (v_AL_get 15 0 a1 σ) (v_AL_get 14 0 a2 σ) a3 σ) (some (61, [], [(mI (v_C_wouldBe (v_AL_get 15 0 a1 σ) (v_AL_get 14 0 a2 σ) a3 σ))], σ, 0, 0))))))) := rfl
set_option maxRecDepth 100000 in
set_option maxHeartbeats 4000000 in
theorem d_C_would (a1 : Int32) (a2 : Int32) (a3 : Int32) (σ : MSto) (hp : p_C_would a1 a2 a3 σ) : mW1 P_C_would (0, [some (mR 12 0), some (mI a1), some (mI a2), some (mI a3)], [], σ, 0, 0) (mF [61] [mI (v_C_would a1 a2 a3 σ)] σ 0 0) := by
  refine mW1_eq (q_C_would_e _ _ _ _) ?_
  unfold p_C_would at hp
  refine mTr_if (fun h0 => ?_) (fun h0 => ?_)
  · skip
    have hp := hp.1 h0
    exact hp.elim
  · skip
    have hp := hp.2 h0
    refine mTr_if (fun h1 => ?_) (fun h1 => ?_)
    · skip
      have hp := hp.1 h1
      exact hp.elim
    · skip
      have hp := hp.2 h1
      refine mTr_if (fun h2 => ?_) (fun h2 => ?_)
      · skip
        have hp := hp.1 h2
        exact hp.elim
      · skip
        have hp := hp.2 h2
        refine mTr_g hp.1 ?_
        have hp := hp.2
        refine mTr_g hp.1 ?_
        have hp := hp.2
        refine mTr_g hp ?_
        exact mTr_e (by decide) (congrArg (fun z => [mI z]) (Eq.symm (rfl))) rfl (by decide) (by decide)





theorem tk_C_would : ∀ pc i nx tg, T_C_would pc = some (i, nx, tg) → mOkB prog_1_method_31_code pc i nx tg = true := code_ok (N := 62) (fun k h => by unfold T_C_would; rw [h]; rfl) (by decide +kernel)
theorem ok_C_would (l : Launch) : mPOK l "ClothWithMan" prog_1_method_31_code P_C_would := by
  refine ⟨tk_C_would, ?_, ?_, ?_, (fun pc i nx tg kd _ h => by cases h), ?_, ?_, fun pc en h => by cases h⟩
  · intro x ci f ty fin h
    exact mLook_all (Q := fun x v => mFOK "ClothWithMan" x v.1 v.2.1 v.2.2.1 v.2.2.2 ∧ (v.2.2.2 = true → pIni P_C_would = true → (Cond.fieldLink "ClothWithMan" x (((mCl[v.1]?).getD ("", fun _ => ("", "", "", false), 0)).2.1 v.2.1).1 (((mCl[v.1]?).getD ("", fun _ => ("", "", "", false), 0)).2.1 v.2.1).2.1 (((mCl[v.1]?).getD ("", fun _ => ("", "", "", false), 0)).2.1 v.2.1).2.2.1 ∈ lw_tbl ∧ (((mCl[v.1]?).getD ("", fun _ => ("", "", "", false), 0)).2.1 v.2.1).1 = "ClothWithMan"))) (fcC ⟨fo_C_33, fun h1 h2 => by cases h2⟩ (fcC ⟨fo_C_37, fun h1 h2 => by cases h2⟩ fcN)) x (ci, f, ty, fin) h
  · intro x
    have hh := mLook_all (l := ([] : List (Nat × (Int32 ⊕ Int64)))) (Q := fun x (v : Int32 ⊕ Int64) => (∀ w, v = .inl w → Cond.constant "ClothWithMan" x w ∈ lw_tbl) ∧ (∀ w, v = .inr w → Cond.constantLong "ClothWithMan" x w ∈ lw_tbl)) fcN x
    exact ⟨fun w h => (hh _ h).1 w rfl, fun w h => (hh _ h).2 w rfl⟩
  · exact fun x en h => mLook_all (Q := fun x en => mLink "ClothWithMan" x en ∧ mCtr l en ∧ (en.1.1 = 2 → en.2.2.2.2.2.2 = none)) (fcC ⟨li_C_116, c_C_isYear l, (fun h => by cases h)⟩ (fcC ⟨li_C_173, c_C_isPiece l, (fun h => by cases h)⟩ (fcC ⟨li_C_183, c_AL_get l, (fun h => by cases h)⟩ (fcC ⟨li_C_307, c_C_isStory l, (fun h => by cases h)⟩ (fcC ⟨li_C_315, c_C_wouldBe l, (fun h => by cases h)⟩ fcN))))) x en h
  · exact fun x kd h => mLook_all (Q := fun x kd => (kd = 95 ∧ Cond.fieldLink "ClothWithMan" x "ClothWithMan" "LIKENESSES" "[I" ∈ lw_tbl) ∨ (kd = 96 ∧ Cond.fieldLink "ClothWithMan" x "ClothWithMan" "APART_BOUNDS" "[I" ∈ lw_tbl)) fcN x kd h
  · exact fun x ci h => mLook_all (Q := fun x ci => ci ≠ 0 ∧ ∃ (C : String) (T : u_T) (N : Nat), mCl[ci]? = some (C, T, N) ∧ Cond.classLink "ClothWithMan" x C ∈ lw_tbl ∧ Cond.instantiable C N ∈ lw_tbl) (fcC ⟨by decide, "ClothWithMan$Piece", TX6, 6, rfl, tw_3_6, tw_3_7⟩ (fcC ⟨by decide, "ClothWithMan$Story", TX8, 9, rfl, tw_3_215, tw_3_216⟩ fcN)) x ci h
set_option maxRecDepth 100000 in
theorem c_C_would (l : Launch) : mCtr l E_C_would := mCtr_of (P := P_C_would) (own := "ClothWithMan") mLay_ok rfl (by decide +kernel) rfl (ok_C_would l) (fun h => by cases h) (fun as σ pr rv σ' hF hpr hlv => by
  unfold E_C_would S_C_would at hF
  simp only [] at hF
  split at hF
  · cases hF
    obtain ⟨n, pcF, c1, s1, g1, g2, g3, g4⟩ := mF_inv (d_C_would _ _ _ σ (hpr _ rfl))
    exact ⟨Nat.le_of_ble_eq_true rfl, (fun v h => by cases h; trivial), n, pcF, c1, s1, g1, ⟨mEnd_of (i := .ireturn) (P := P_C_would) (rets := [61]) rfl g2, rfl⟩, g3, g4⟩
  · cases hF
    exact (hpr _ rfl).elim)
/-! ClothWithMan.paper(IZI)I -/
noncomputable def v_C_paper (a1 : Int32) (a2 : Int32) (a3 : Int32) (σ : MSto) : Int32 := (if (v_C_isYear a1 σ) = 0 then (-1) else (if (v_C_isIn a3 1 9 σ) = 0 then (-1) else (if (v_AL_size 16 0 σ) < 4 then ((v_AL_size 16 0 (e_AL_add 16 0 5 (gN σ 5) (e_Pp_init (gN σ 5) a1 a2 a3 (sNew σ 5)))) - 1) else (-1))))
def p_C_paper (a1 : Int32) (a2 : Int32) (a3 : Int32) (σ : MSto) : Prop := (¬ ((v_C_isYear a1 σ) = 0) → (¬ ((v_C_isIn a3 1 9 σ) = 0) → (((v_AL_size 16 0 σ) < 4) → ((p_Pp_init (gN σ 5) a1 a2 a3 (sNew σ 5)) ∧ (p_AL_add 16 0 5 (gN σ 5) (e_Pp_init (gN σ 5) a1 a2 a3 (sNew σ 5)))))))
noncomputable def e_C_paper (a1 : Int32) (a2 : Int32) (a3 : Int32) (σ : MSto) : MSto := (if (v_C_isYear a1 σ) = 0 then σ else (if (v_C_isIn a3 1 9 σ) = 0 then σ else (if (v_AL_size 16 0 σ) < 4 then (e_AL_add 16 0 5 (gN σ 5) (e_Pp_init (gN σ 5) a1 a2 a3 (sNew σ 5))) else σ)))
noncomputable def S_C_paper : List MV → MSto → Option Prop × Option MV × MSto := fun as σ => match as with
  | [.inr (.inr (some (12, 0))), .inl a0, .inl a1, .inl a2] => (some (p_C_paper a0 a1 a2 σ), some (mI (v_C_paper a0 a1 a2 σ)), e_C_paper a0 a1 a2 σ)
  | _ => (some False, none, σ)
noncomputable def E_C_paper : MEnt := ((1, 3, 12), (11, 271, 2, 21), S_C_paper, ((⟨"ClothWithMan", "paper", "(IZI)I"⟩ : MethodName), prog_1_method_32_code, 4, (some .int)))

def T_C_paper : Nat → Option (Instr × Nat × List Nat) := fun k => bif Nat.blt k 58 then (bif Nat.blt k 30 then (bif Nat.blt k 14 then (bif Nat.blt k 7 then (bif Nat.blt k 1 then (bif Nat.beq k 0 then some (.iload_n 1, 1, []) else none) else (bif Nat.blt k 4 then (bif Nat.beq k 1 then some (.invokestatic 116, 4, []) else none) else (bif Nat.beq k 4 then some (.ifCond .eq 24, 7, [28]) else none))) else (bif Nat.blt k 9 then (bif Nat.blt k 8 then (bif Nat.beq k 7 then some (.iload_n 3, 8, []) else none) else (bif Nat.beq k 8 then some (.iconst 1, 9, []) else none)) else (bif Nat.blt k 11 then (bif Nat.beq k 9 then some (.bipush 9, 11, []) else none) else (bif Nat.beq k 11 then some (.invokestatic 145, 14, []) else none)))) else (bif Nat.blt k 24 then (bif Nat.blt k 18 then (bif Nat.blt k 17 then (bif Nat.beq k 14 then some (.ifCond .eq 14, 17, [28]) else none) else (bif Nat.beq k 17 then some (.aload_n 0, 18, []) else none)) else (bif Nat.blt k 21 then (bif Nat.beq k 18 then some (.getfield 40, 21, []) else none) else (bif Nat.beq k 21 then some (.invokevirtual 132, 24, []) else none))) else (bif Nat.blt k 28 then (bif Nat.blt k 25 then (bif Nat.beq k 24 then some (.iconst 4, 25, []) else none) else (bif Nat.beq k 25 then some (.if_icmp .lt 5, 28, [30]) else none)) else (bif Nat.blt k 29 then (bif Nat.beq k 28 then some (.iconst (-1), 29, []) else none) else (bif Nat.beq k 29 then some (.ireturn, 30, []) else none))))) else (bif Nat.blt k 44 then (bif Nat.blt k 38 then (bif Nat.blt k 34 then (bif Nat.blt k 31 then (bif Nat.beq k 30 then some (.aload_n 0, 31, []) else none) else (bif Nat.beq k 31 then some (.getfield 40, 34, []) else none)) else (bif Nat.blt k 37 then (bif Nat.beq k 34 then some (.new 319, 37, []) else none) else (bif Nat.beq k 37 then some (.dup, 38, []) else none))) else (bif Nat.blt k 40 then (bif Nat.blt k 39 then (bif Nat.beq k 38 then some (.iload_n 1, 39, []) else none) else (bif Nat.beq k 39 then some (.iload_n 2, 40, []) else none)) else (bif Nat.blt k 41 then (bif Nat.beq k 40 then some (.iload_n 3, 41, []) else none) else (bif Nat.beq k 41 then some (.invokespecial 321, 44, []) else none)))) else (bif Nat.blt k 52 then (bif Nat.blt k 48 then (bif Nat.blt k 47 then (bif Nat.beq k 44 then some (.invokevirtual 141, 47, []) else none) else (bif Nat.beq k 47 then some (.pop, 48, []) else none)) else (bif Nat.blt k 49 then (bif Nat.beq k 48 then some (.aload_n 0, 49, []) else none) else (bif Nat.beq k 49 then some (.getfield 40, 52, []) else none))) else (bif Nat.blt k 56 then (bif Nat.blt k 55 then (bif Nat.beq k 52 then some (.invokevirtual 132, 55, []) else none) else (bif Nat.beq k 55 then some (.iconst 1, 56, []) else none)) else (bif Nat.blt k 57 then (bif Nat.beq k 56 then some (.isub, 57, []) else none) else (bif Nat.beq k 57 then some (.ireturn, 58, []) else none)))))) else none
noncomputable def P_C_paper : MP := (T_C_paper, (fun k => mLook k [(40, (12, 6, (.object "java/util/ArrayList"), true))]), (fun k => mLook k []), (fun k => mLook k [(116, E_C_isYear), (132, E_AL_size), (141, E_AL_add), (145, E_C_isIn), (321, E_Pp_init)]), (fun k => mLook k [(34, 5)]), (fun k => mLook k []), (fun k => mLook k []), (fun k => mLook k []), (fun k => [29, 57].any (Nat.beq k)), (11, 271, 2, 21), false, (fun _ => none))
set_option maxRecDepth 100000 in
set_option maxHeartbeats 4000000 in
theorem q_C_paper_e (a1 : Int32) (a2 : Int32) (a3 : Int32) (σ : MSto) (n : Nat) : mexe KT P_C_paper (n + 1) (0, [some (mR 12 0), some (mI a1), some (mI a2), some (mI a3)], [], σ, 0, 0) = mIf ((v_C_isYear a1 σ) = 0) (some (29, [], [(mI (-1))], σ, 0, 0)) (mIf ((v_C_isIn a3 1 9 σ) = 0) (some (29, [], [(mI (-1))], σ, 0, 0)) (mIf ((v_AL_size 16 0 σ) < 4) (mG (p_Pp_init (gN σ 5) a1 a2 a3 (sNew σ 5)) (mG (p_AL_add 16 0 5 (gN σ 5) (e_Pp_init (gN σ 5) a1 a2 a3 (sNew σ 5))) (some (57, [], [(mI ((v_AL_size 16 0 (e_AL_add 16 0 5 (gN σ 5) (e_Pp_init (gN σ 5) a1 a2 a3 (sNew σ 5)))) - 1))], (e_AL_add 16 0 5 (gN σ 5) (e_Pp_init (gN σ 5) a1 a2 a3 (sNew σ 5))), 2, 21)))) (some (29, [], [(mI (-1))], σ, 0, 0)))) := rfl
set_option maxRecDepth 100000 in
set_option maxHeartbeats 4000000 in
theorem d_C_paper (a1 : Int32) (a2 : Int32) (a3 : Int32) (σ : MSto) (hp : p_C_paper a1 a2 a3 σ) : mW1 P_C_paper (0, [some (mR 12 0), some (mI a1), some (mI a2), some (mI a3)], [], σ, 0, 0) (mF [29, 57] [mI (v_C_paper a1 a2 a3 σ)] (e_C_paper a1 a2 a3 σ) 2 21) := by
  refine mW1_eq (q_C_paper_e _ _ _ _) ?_
  unfold p_C_paper at hp
  refine mTr_if (fun h0 => ?_) (fun h0 => ?_)
  · skip
    exact mTr_e (by decide) (congrArg (fun z => [mI z]) (Eq.symm (if_pos h0))) (Eq.symm (if_pos h0)) (by decide) (by decide)
  · skip
    have hp := hp h0
    refine mTr_if (fun h1 => ?_) (fun h1 => ?_)
    · skip
      exact mTr_e (by decide) (congrArg (fun z => [mI z]) (Eq.symm ((if_neg h0).trans (if_pos h1)))) (Eq.symm ((if_neg h0).trans (if_pos h1))) (by decide) (by decide)
    · skip
      have hp := hp h1
      refine mTr_if (fun h2 => ?_) (fun h2 => ?_)
      · skip
        have hp := hp h2
        refine mTr_g hp.1 ?_
        have hp := hp.2
        refine mTr_g hp ?_
        exact mTr_e (by decide) (congrArg (fun z => [mI z]) (Eq.symm ((if_neg h0).trans ((if_neg h1).trans (if_pos h2))))) (Eq.symm ((if_neg h0).trans ((if_neg h1).trans (if_pos h2)))) (by decide) (by decide)
      · skip
        exact mTr_e (by decide) (congrArg (fun z => [mI z]) (Eq.symm ((if_neg h0).trans ((if_neg h1).trans (if_neg h2))))) (Eq.symm ((if_neg h0).trans ((if_neg h1).trans (if_neg h2)))) (by decide) (by decide)
theorem li_C_321 : mLink "ClothWithMan" 321 E_Pp_init := ⟨tw_4_64, tw_1_24, ⟨by decide, by decide⟩, by decide +kernel, Or.inl tw_4_62, (fun h => by cases h), (fun h => by cases h), (fun _ => ⟨tw_4_63, rfl⟩)⟩





theorem tk_C_paper : ∀ pc i nx tg, T_C_paper pc = some (i, nx, tg) → mOkB prog_1_method_32_code pc i nx tg = true := code_ok (N := 58) (fun k h => by unfold T_C_paper; rw [h]; rfl) (by decide +kernel)
theorem al_C_paper : ∀ pc i nx tg kd, pCode P_C_paper pc = some (i, nx, tg) → pAlc P_C_paper pc = some kd → match i with
    | .new x => mAOK "ClothWithMan" x kd
    | .newarray t => mNAOK t kd
    | .anewarray x => mAAOK "ClothWithMan" x kd
    | .invokespecial x => Cond.methodLink "ClothWithMan" x Lib.objectInit ∈ lw_tbl
    | _ => True := by
  intro pc i nx tg kd h1 h2
  have h3 := mLook_mem h2
  simp only [List.mem_cons, Prod.mk.injEq, List.not_mem_nil, or_false] at h3
  rcases h3 with ⟨rfl, rfl⟩
  · have e : T_C_paper 34 = some (i, nx, tg) := h1
    cases e
    exact ⟨5, _, "ClothWithMan$Paper", TX4, rfl, by decide, rfl, tw_4_60, tw_4_61, tw_1_24, (lt_s (lt_s (lt_s lt_0 ⟨.int, by decide +kernel, Or.inl ⟨rfl, rfl⟩⟩) ⟨.boolean, by decide +kernel, Or.inl ⟨rfl, rfl⟩⟩) ⟨.int, by decide +kernel, Or.inl ⟨rfl, rfl⟩⟩)⟩

theorem ok_C_paper (l : Launch) : mPOK l "ClothWithMan" prog_1_method_32_code P_C_paper := by
  refine ⟨tk_C_paper, ?_, ?_, ?_, al_C_paper, ?_, ?_, fun pc en h => by cases h⟩
  · intro x ci f ty fin h
    exact mLook_all (Q := fun x v => mFOK "ClothWithMan" x v.1 v.2.1 v.2.2.1 v.2.2.2 ∧ (v.2.2.2 = true → pIni P_C_paper = true → (Cond.fieldLink "ClothWithMan" x (((mCl[v.1]?).getD ("", fun _ => ("", "", "", false), 0)).2.1 v.2.1).1 (((mCl[v.1]?).getD ("", fun _ => ("", "", "", false), 0)).2.1 v.2.1).2.1 (((mCl[v.1]?).getD ("", fun _ => ("", "", "", false), 0)).2.1 v.2.1).2.2.1 ∈ lw_tbl ∧ (((mCl[v.1]?).getD ("", fun _ => ("", "", "", false), 0)).2.1 v.2.1).1 = "ClothWithMan"))) (fcC ⟨fo_C_40, fun h1 h2 => by cases h2⟩ fcN) x (ci, f, ty, fin) h
  · intro x
    have hh := mLook_all (l := ([] : List (Nat × (Int32 ⊕ Int64)))) (Q := fun x (v : Int32 ⊕ Int64) => (∀ w, v = .inl w → Cond.constant "ClothWithMan" x w ∈ lw_tbl) ∧ (∀ w, v = .inr w → Cond.constantLong "ClothWithMan" x w ∈ lw_tbl)) fcN x
    exact ⟨fun w h => (hh _ h).1 w rfl, fun w h => (hh _ h).2 w rfl⟩
  · exact fun x en h => mLook_all (Q := fun x en => mLink "ClothWithMan" x en ∧ mCtr l en ∧ (en.1.1 = 2 → en.2.2.2.2.2.2 = none)) (fcC ⟨li_C_116, c_C_isYear l, (fun h => by cases h)⟩ (fcC ⟨li_C_132, c_AL_size l, (fun h => by cases h)⟩ (fcC ⟨li_C_141, c_AL_add l, (fun h => by cases h)⟩ (fcC ⟨li_C_145, c_C_isIn l, (fun h => by cases h)⟩ (fcC ⟨li_C_321, c_Pp_init l, (fun _ => rfl)⟩ fcN))))) x en h
  · exact fun x kd h => mLook_all (Q := fun x kd => (kd = 95 ∧ Cond.fieldLink "ClothWithMan" x "ClothWithMan" "LIKENESSES" "[I" ∈ lw_tbl) ∨ (kd = 96 ∧ Cond.fieldLink "ClothWithMan" x "ClothWithMan" "APART_BOUNDS" "[I" ∈ lw_tbl)) fcN x kd h
  · exact fun x ci h => mLook_all (Q := fun x ci => ci ≠ 0 ∧ ∃ (C : String) (T : u_T) (N : Nat), mCl[ci]? = some (C, T, N) ∧ Cond.classLink "ClothWithMan" x C ∈ lw_tbl ∧ Cond.instantiable C N ∈ lw_tbl) fcN x ci h
set_option maxRecDepth 100000 in
theorem c_C_paper (l : Launch) : mCtr l E_C_paper := mCtr_of (P := P_C_paper) (own := "ClothWithMan") mLay_ok rfl (by decide +kernel) rfl (ok_C_paper l) (fun h => by cases h) (fun as σ pr rv σ' hF hpr hlv => by
  unfold E_C_paper S_C_paper at hF
  simp only [] at hF
  split at hF
  · cases hF
    obtain ⟨n, pcF, c1, s1, g1, g2, g3, g4⟩ := mF_inv (d_C_paper _ _ _ σ (hpr _ rfl))
    exact ⟨Nat.le_of_ble_eq_true rfl, (fun v h => by cases h; trivial), n, pcF, c1, s1, g1, ⟨mEnd_of (i := .ireturn) (P := P_C_paper) (rets := [29, 57]) rfl g2, rfl⟩, g3, g4⟩
  · cases hF
    exact (hpr _ rfl).elim)
/-! ClothWithMan.odds(I)I -/
noncomputable def t_C_odds_65 (x2 : Int32) (x3 : Int64) (c : Int32) (s : MSto) : MSto := (if (v_C_storyCount s) ≤ c then s else (e_Ro_addFraction (gJ s 28 0 (Int32.toNatClampNeg c)) x3 s))
noncomputable def q_C_odds_65s (x2 : Int32) (x3 : Int64) (c : Int32) (s : MSto) : Nat := (if (v_C_storyCount s) ≤ c then 1 else 0)
def g_C_odds_65 (x2 : Int32) (x3 : Int64) (c : Int32) (s : MSto) : Prop := (¬ ((v_C_storyCount s) ≤ c) → ((vp_in c 6) ∧ (p_Ro_addFraction (gJ s 28 0 (Int32.toNatClampNeg c)) x3 s)))
noncomputable def f_C_odds_65 (x2 : Int32) (x3 : Int64) (c0 : Int32) (s0 : MSto) (n : Nat) : MSto := nfold (fun i s => t_C_odds_65 x2 x3 (c0 + nI i) s) s0 n
noncomputable def n_C_odds_65 (x2 : Int32) (x3 : Int64) (c0 : Int32) (s0 : MSto) : Nat := (v_C_storyCount s0).toNatClampNeg
noncomputable def t_C_odds_30 (x2 : Int32) (c : Int32) (σ : MSto) (s : Int64) : Int64 := (if (v_C_storyCount σ) ≤ c then s else (s + (gJ σ 28 0 (Int32.toNatClampNeg c))))
noncomputable def q_C_odds_30s (x2 : Int32) (c : Int32) (σ : MSto) (s : Int64) : Nat := (if (v_C_storyCount σ) ≤ c then 1 else 0)
def g_C_odds_30 (x2 : Int32) (c : Int32) (σ : MSto) (s : Int64) : Prop := (¬ ((v_C_storyCount σ) ≤ c) → (vp_in c 6))
noncomputable def f_C_odds_30 (x2 : Int32) (c0 : Int32) (σ : MSto) (s0 : Int64) (n : Nat) : Int64 := nfold (fun i s => t_C_odds_30 x2 (c0 + nI i) σ s) s0 n
noncomputable def n_C_odds_30 (x2 : Int32) (c0 : Int32) (σ : MSto) (s0 : Int64) : Nat := (v_C_storyCount σ).toNatClampNeg
noncomputable def v_C_odds (a1 : Int32) (σ : MSto) : Int32 := (if (v_C_areForStories a1 σ) = 0 then (-1) else (if (v_C_greatestStory a1 (-1) σ) = (-1) then (-2) else (v_C_greatestStory a1 (-1) σ)))
def p_C_odds (a1 : Int32) (σ : MSto) : Prop := ((p_C_areForStories a1 σ) ∧ (¬ ((v_C_areForStories a1 σ) = 0) → ((p_C_greatestStory a1 (-1) σ) ∧ (¬ ((v_C_greatestStory a1 (-1) σ) = (-1)) → ((∀ i, i < (n_C_odds_30 (v_C_greatestStory a1 (-1) σ) 0 (e_C_greatestStory a1 (-1) σ) 0) → g_C_odds_30 (v_C_greatestStory a1 (-1) σ) (0 + nI i) (e_C_greatestStory a1 (-1) σ) (f_C_odds_30 (v_C_greatestStory a1 (-1) σ) 0 (e_C_greatestStory a1 (-1) σ) 0 i) ∧ ¬ q_C_odds_30s (v_C_greatestStory a1 (-1) σ) (0 + nI i) (e_C_greatestStory a1 (-1) σ) (f_C_odds_30 (v_C_greatestStory a1 (-1) σ) 0 (e_C_greatestStory a1 (-1) σ) 0 i) = 1) ∧ ((((v_C_storyCount (e_C_greatestStory a1 (-1) σ)) ≤ (0 + nI (n_C_odds_30 (v_C_greatestStory a1 (-1) σ) 0 (e_C_greatestStory a1 (-1) σ) 0))) → ((∀ i, i < (n_C_odds_65 (v_C_greatestStory a1 (-1) σ) (f_C_odds_30 (v_C_greatestStory a1 (-1) σ) 0 (e_C_greatestStory a1 (-1) σ) 0 (n_C_odds_30 (v_C_greatestStory a1 (-1) σ) 0 (e_C_greatestStory a1 (-1) σ) 0)) 0 (e_Ro_clear (e_C_greatestStory a1 (-1) σ))) → g_C_odds_65 (v_C_greatestStory a1 (-1) σ) (f_C_odds_30 (v_C_greatestStory a1 (-1) σ) 0 (e_C_greatestStory a1 (-1) σ) 0 (n_C_odds_30 (v_C_greatestStory a1 (-1) σ) 0 (e_C_greatestStory a1 (-1) σ) 0)) (0 + nI i) (f_C_odds_65 (v_C_greatestStory a1 (-1) σ) (f_C_odds_30 (v_C_greatestStory a1 (-1) σ) 0 (e_C_greatestStory a1 (-1) σ) 0 (n_C_odds_30 (v_C_greatestStory a1 (-1) σ) 0 (e_C_greatestStory a1 (-1) σ) 0)) 0 (e_Ro_clear (e_C_greatestStory a1 (-1) σ)) i) ∧ ¬ q_C_odds_65s (v_C_greatestStory a1 (-1) σ) (f_C_odds_30 (v_C_greatestStory a1 (-1) σ) 0 (e_C_greatestStory a1 (-1) σ) 0 (n_C_odds_30 (v_C_greatestStory a1 (-1) σ) 0 (e_C_greatestStory a1 (-1) σ) 0)) (0 + nI i) (f_C_odds_65 (v_C_greatestStory a1 (-1) σ) (f_C_odds_30 (v_C_greatestStory a1 (-1) σ) 0 (e_C_greatestStory a1 (-1) σ) 0 (n_C_odds_30 (v_C_greatestStory a1 (-1) σ) 0 (e_C_greatestStory a1 (-1) σ) 0)) 0 (e_Ro_clear (e_C_greatestStory a1 (-1) σ)) i) = 1) ∧ (¬ ((v_C_storyCount (f_C_odds_65 (v_C_greatestStory a1 (-1) σ) (f_C_odds_30 (v_C_greatestStory a1 (-1) σ) 0 (e_C_greatestStory a1 (-1) σ) 0 (n_C_odds_30 (v_C_greatestStory a1 (-1) σ) 0 (e_C_greatestStory a1 (-1) σ) 0)) 0 (e_Ro_clear (e_C_greatestStory a1 (-1) σ)) (n_C_odds_65 (v_C_greatestStory a1 (-1) σ) (f_C_odds_30 (v_C_greatestStory a1 (-1) σ) 0 (e_C_greatestStory a1 (-1) σ) 0 (n_C_odds_30 (v_C_greatestStory a1 (-1) σ) 0 (e_C_greatestStory a1 (-1) σ) 0)) 0 (e_Ro_clear (e_C_greatestStory a1 (-1) σ))))) ≤ (0 + nI (n_C_odds_65 (v_C_greatestStory a1 (-1) σ) (f_C_odds_30 (v_C_greatestStory a1 (-1) σ) 0 (e_C_greatestStory a1 (-1) σ) 0 (n_C_odds_30 (v_C_greatestStory a1 (-1) σ) 0 (e_C_greatestStory a1 (-1) σ) 0)) 0 (e_Ro_clear (e_C_greatestStory a1 (-1) σ))))) → False))) ∧ (¬ ((v_C_storyCount (e_C_greatestStory a1 (-1) σ)) ≤ (0 + nI (n_C_odds_30 (v_C_greatestStory a1 (-1) σ) 0 (e_C_greatestStory a1 (-1) σ) 0))) → False)))))))
noncomputable def e_C_odds (a1 : Int32) (σ : MSto) : MSto := (if (v_C_areForStories a1 σ) = 0 then σ else (if (v_C_greatestStory a1 (-1) σ) = (-1) then (e_C_greatestStory a1 (-1) σ) else (f_C_odds_65 (v_C_greatestStory a1 (-1) σ) (f_C_odds_30 (v_C_greatestStory a1 (-1) σ) 0 (e_C_greatestStory a1 (-1) σ) 0 (n_C_odds_30 (v_C_greatestStory a1 (-1) σ) 0 (e_C_greatestStory a1 (-1) σ) 0)) 0 (e_Ro_clear (e_C_greatestStory a1 (-1) σ)) (n_C_odds_65 (v_C_greatestStory a1 (-1) σ) (f_C_odds_30 (v_C_greatestStory a1 (-1) σ) 0 (e_C_greatestStory a1 (-1) σ) 0 (n_C_odds_30 (v_C_greatestStory a1 (-1) σ) 0 (e_C_greatestStory a1 (-1) σ) 0)) 0 (e_Ro_clear (e_C_greatestStory a1 (-1) σ))))))
noncomputable def S_C_odds : List MV → MSto → Option Prop × Option MV × MSto := fun as σ => match as with
  | [.inr (.inr (some (12, 0))), .inl a0] => (some (p_C_odds a0 σ), some (mI (v_C_odds a0 σ)), e_C_odds a0 σ)
  | _ => (some False, none, σ)
noncomputable def E_C_odds : MEnt := ((1, 1, 12), (11, 257, 0, 0), S_C_odds, ((⟨"ClothWithMan", "odds", "(I)I"⟩ : MethodName), prog_1_method_33_code, 6, (some .int)))

def T_C_odds : Nat → Option (Instr × Nat × List Nat) := fun k => bif Nat.blt k 97 then (bif Nat.blt k 44 then (bif Nat.blt k 19 then (bif Nat.blt k 10 then (bif Nat.blt k 5 then (bif Nat.blt k 1 then (bif Nat.beq k 0 then some (.aload_n 0, 1, []) else none) else (bif Nat.blt k 2 then (bif Nat.beq k 1 then some (.iload_n 1, 2, []) else none) else (bif Nat.beq k 2 then some (.invokevirtual 324, 5, []) else none))) else (bif Nat.blt k 8 then (bif Nat.beq k 5 then some (.ifCond .ne 5, 8, [10]) else none) else (bif Nat.blt k 9 then (bif Nat.beq k 8 then some (.iconst (-1), 9, []) else none) else (bif Nat.beq k 9 then some (.ireturn, 10, []) else none)))) else (bif Nat.blt k 13 then (bif Nat.blt k 11 then (bif Nat.beq k 10 then some (.aload_n 0, 11, []) else none) else (bif Nat.blt k 12 then (bif Nat.beq k 11 then some (.iload_n 1, 12, []) else none) else (bif Nat.beq k 12 then some (.iconst (-1), 13, []) else none))) else (bif Nat.blt k 17 then (bif Nat.blt k 16 then (bif Nat.beq k 13 then some (.invokevirtual 327, 16, []) else none) else (bif Nat.beq k 16 then some (.istore_n 2, 17, []) else none)) else (bif Nat.blt k 18 then (bif Nat.beq k 17 then some (.iload_n 2, 18, []) else none) else (bif Nat.beq k 18 then some (.iconst (-1), 19, []) else none))))) else (bif Nat.blt k 30 then (bif Nat.blt k 25 then (bif Nat.blt k 22 then (bif Nat.beq k 19 then some (.if_icmp .ne 6, 22, [25]) else none) else (bif Nat.blt k 24 then (bif Nat.beq k 22 then some (.bipush (-2), 24, []) else none) else (bif Nat.beq k 24 then some (.ireturn, 25, []) else none))) else (bif Nat.blt k 27 then (bif Nat.blt k 26 then (bif Nat.beq k 25 then some (.lconst 0, 26, []) else none) else (bif Nat.beq k 26 then some (.lstore_n 3, 27, []) else none)) else (bif Nat.blt k 28 then (bif Nat.beq k 27 then some (.iconst 0, 28, []) else none) else (bif Nat.beq k 28 then some (.istore 5, 30, []) else none)))) else (bif Nat.blt k 36 then (bif Nat.blt k 32 then (bif Nat.beq k 30 then some (.iload 5, 32, []) else none) else (bif Nat.blt k 33 then (bif Nat.beq k 32 then some (.aload_n 0, 33, []) else none) else (bif Nat.beq k 33 then some (.invokevirtual 330, 36, []) else none))) else (bif Nat.blt k 40 then (bif Nat.blt k 39 then (bif Nat.beq k 36 then some (.if_icmp .ge 19, 39, [55]) else none) else (bif Nat.beq k 39 then some (.lload_n 3, 40, []) else none)) else (bif Nat.blt k 41 then (bif Nat.beq k 40 then some (.aload_n 0, 41, []) else none) else (bif Nat.beq k 41 then some (.getfield 83, 44, []) else none)))))) else (bif Nat.blt k 68 then (bif Nat.blt k 55 then (bif Nat.blt k 48 then (bif Nat.blt k 46 then (bif Nat.beq k 44 then some (.iload 5, 46, []) else none) else (bif Nat.blt k 47 then (bif Nat.beq k 46 then some (.laload, 47, []) else none) else (bif Nat.beq k 47 then some (.ladd, 48, []) else none))) else (bif Nat.blt k 49 then (bif Nat.beq k 48 then some (.lstore_n 3, 49, []) else none) else (bif Nat.blt k 52 then (bif Nat.beq k 49 then some (.iinc 5 1, 52, []) else none) else (bif Nat.beq k 52 then some (.goto (-22), 55, [30]) else none)))) else (bif Nat.blt k 62 then (bif Nat.blt k 56 then (bif Nat.beq k 55 then some (.aload_n 0, 56, []) else none) else (bif Nat.blt k 59 then (bif Nat.beq k 56 then some (.getfield 67, 59, []) else none) else (bif Nat.beq k 59 then some (.invokevirtual 217, 62, []) else none))) else (bif Nat.blt k 65 then (bif Nat.blt k 63 then (bif Nat.beq k 62 then some (.iconst 0, 63, []) else none) else (bif Nat.beq k 63 then some (.istore 5, 65, []) else none)) else (bif Nat.blt k 67 then (bif Nat.beq k 65 then some (.iload 5, 67, []) else none) else (bif Nat.beq k 67 then some (.aload_n 0, 68, []) else none))))) else (bif Nat.blt k 84 then (bif Nat.blt k 75 then (bif Nat.blt k 71 then (bif Nat.beq k 68 then some (.invokevirtual 330, 71, []) else none) else (bif Nat.blt k 74 then (bif Nat.beq k 71 then some (.if_icmp .ge 24, 74, [95]) else none) else (bif Nat.beq k 74 then some (.aload_n 0, 75, []) else none))) else (bif Nat.blt k 79 then (bif Nat.blt k 78 then (bif Nat.beq k 75 then some (.getfield 67, 78, []) else none) else (bif Nat.beq k 78 then some (.aload_n 0, 79, []) else none)) else (bif Nat.blt k 82 then (bif Nat.beq k 79 then some (.getfield 83, 82, []) else none) else (bif Nat.beq k 82 then some (.iload 5, 84, []) else none)))) else (bif Nat.blt k 89 then (bif Nat.blt k 85 then (bif Nat.beq k 84 then some (.laload, 85, []) else none) else (bif Nat.blt k 86 then (bif Nat.beq k 85 then some (.lload_n 3, 86, []) else none) else (bif Nat.beq k 86 then some (.invokevirtual 242, 89, []) else none))) else (bif Nat.blt k 95 then (bif Nat.blt k 92 then (bif Nat.beq k 89 then some (.iinc 5 1, 92, []) else none) else (bif Nat.beq k 92 then some (.goto (-27), 95, [65]) else none)) else (bif Nat.blt k 96 then (bif Nat.beq k 95 then some (.iload_n 2, 96, []) else none) else (bif Nat.beq k 96 then some (.ireturn, 97, []) else none))))))) else none
noncomputable def P_C_odds : MP := (T_C_odds, (fun k => mLook k [(67, (12, 11, (.object "ClothWithMan$Row"), true)), (83, (12, 15, (.array .long), true))]), (fun k => mLook k []), (fun k => mLook k [(217, E_Ro_clear), (242, E_Ro_addFraction), (324, E_C_areForStories), (327, E_C_greatestStory), (330, E_C_storyCount)]), (fun k => mLook k []), (fun k => mLook k []), (fun k => mLook k []), (fun k => mLook k [(30, [true, false, true, true, false, true]), (65, [true, false, true, true, false, true])]), (fun k => [9, 24, 96].any (Nat.beq k)), (11, 257, 0, 0), false, (fun _ => none))
set_option maxRecDepth 100000 in
set_option maxHeartbeats 4000000 in
theorem q_C_odds_e (a1 : Int32) (σ : MSto) (n : Nat) : mexe KT P_C_odds (n + 1) (0, [some (mR 12 0), some (mI a1), none, none, none, none], [], σ, 0, 0) = mG (p_C_areForStories a1 σ) (mIf ((v_C_areForStories a1 σ) = 0) (some (9, [], [(mI (-1))], σ, 0, 0)) (mG (p_C_greatestStory a1 (-1) σ) (mIf ((v_C_greatestStory a1 (-1) σ) = (-1)) (some (24, [], [(mI (-2))], (e_C_greatestStory a1 (-1) σ), 0, 0)) (mexe KT P_C_odds n (30, [some (mR 12 0), none, some (mI (v_C_greatestStory a1 (-1) σ)), some (mJ 0), none, some (mI 0)], [], (e_C_greatestStory a1 (-1) σ), 0, 0))))) := rfl
set_option maxRecDepth 100000 in
set_option maxHeartbeats 4000000 in
theorem q_C_odds_30 (x2 : Int32) (x3 : Int64) (x5 : Int32) (σ : MSto) (n : Nat) : mexe KT P_C_odds (n + 1) (30, [some (mR 12 0), none, some (mI x2), some (mJ x3), none, some (mI x5)], [], σ, 0, 0) = mIf ((v_C_storyCount σ) ≤ x5) (mexe KT P_C_odds n (65, [some (mR 12 0), none, some (mI x2), some (mJ x3), none, some (mI 0)], [], (e_Ro_clear σ), 0, 0)) (mG (vp_in x5 6) (mexe KT P_C_odds n (30, [some (mR 12 0), none, some (mI x2), some (mJ (x3 + (gJ σ 28 0 (Int32.toNatClampNeg x5)))), none, some (mI (x5 + 1))], [], σ, 0, 0))) := rfl
set_option maxRecDepth 100000 in
set_option maxHeartbeats 4000000 in
theorem q_C_odds_65 (x2 : Int32) (x3 : Int64) (x5 : Int32) (σ : MSto) (n : Nat) : mexe KT P_C_odds (n + 1) (65, [some (mR 12 0), none, some (mI x2), some (mJ x3), none, some (mI x5)], [], σ, 0, 0) = mIf ((v_C_storyCount σ) ≤ x5) (some (96, [], [(mI x2)], σ, 0, 0)) (mG (vp_in x5 6) (mG (p_Ro_addFraction (gJ σ 28 0 (Int32.toNatClampNeg x5)) x3 σ) (mexe KT P_C_odds n (65, [some (mR 12 0), none, some (mI x2), some (mJ x3), none, some (mI (x5 + 1))], [], (e_Ro_addFraction (gJ σ 28 0 (Int32.toNatClampNeg x5)) x3 σ), 0, 0)))) := rfl
set_option maxRecDepth 100000 in
theorem lt_C_odds_65 {Post : MST → Prop} (x2 : Int32) (x3 : Int64) (c : Int32) (s : MSto) (hp : g_C_odds_65 x2 x3 c s) (hq : ¬ q_C_odds_65s x2 x3 c s = 1) (hn : ∀ r, t_C_odds_65 x2 x3 c s = r → mW1 P_C_odds (65, [some (mR 12 0), none, some (mI x2), some (mJ x3), none, some (mI (c + 1))], [], r, 0, 0) Post) : mW1 P_C_odds (65, [some (mR 12 0), none, some (mI x2), some (mJ x3), none, some (mI c)], [], s, 0, 0) Post := by
  unfold g_C_odds_65 at hp
  refine mW1_eq (q_C_odds_65 _ _ _ _) ?_
  refine mTr_if (fun h0 => ?_) (fun h0 => ?_)
  · skip
    exact absurd (if_pos h0) hq
  · skip
    have hp := hp h0
    refine mTr_g hp.1 ?_
    have hp := hp.2
    refine mTr_g hp ?_
    exact mTr_k (hn (e_Ro_addFraction (gJ s 28 0 (Int32.toNatClampNeg c)) x3 s) (if_neg h0))
theorem lp_C_odds_65 {Post : MST → Prop} (x2 : Int32) (x3 : Int64) (c0 : Int32) (s0 : MSto) (N : Nat) (hb : ∀ i, i < N → g_C_odds_65 x2 x3 (c0 + nI i) (f_C_odds_65 x2 x3 c0 s0 i) ∧ ¬ q_C_odds_65s x2 x3 (c0 + nI i) (f_C_odds_65 x2 x3 c0 s0 i) = 1) (h : mW1 P_C_odds (65, [some (mR 12 0), none, some (mI x2), some (mJ x3), none, some (mI (c0 + nI N))], [], (f_C_odds_65 x2 x3 c0 s0 N), 0, 0) Post) : mW1 P_C_odds (65, [some (mR 12 0), none, some (mI x2), some (mJ x3), none, some (mI c0)], [], s0, 0, 0) Post := by
  refine mW1_st (mW1_loop (fun i => (65, [some (mR 12 0), none, some (mI x2), some (mJ x3), none, some (mI (c0 + nI i))], [], (f_C_odds_65 x2 x3 c0 s0 i), 0, 0)) N (fun i hlt hn => ?_) h) (by rw [show nI 0 = 0 from rfl, Int32.add_zero] <;> rfl)
  refine lt_C_odds_65 x2 x3 _ _ (hb i hlt).1 (hb i hlt).2 (fun r hr => ?_)
  rw [Int32.add_assoc, nI_s]
  subst hr
  exact hn
set_option maxRecDepth 100000 in
theorem lt_C_odds_30 {Post : MST → Prop} (x2 : Int32) (c : Int32) (σ : MSto) (s : Int64) (hp : g_C_odds_30 x2 c σ s) (hq : ¬ q_C_odds_30s x2 c σ s = 1) (hn : ∀ r, t_C_odds_30 x2 c σ s = r → mW1 P_C_odds (30, [some (mR 12 0), none, some (mI x2), some (mJ r), none, some (mI (c + 1))], [], σ, 0, 0) Post) : mW1 P_C_odds (30, [some (mR 12 0), none, some (mI x2), some (mJ s), none, some (mI c)], [], σ, 0, 0) Post := by
  unfold g_C_odds_30 at hp
  refine mW1_eq (q_C_odds_30 _ _ _ _) ?_
  refine mTr_if (fun h0 => ?_) (fun h0 => ?_)
  · skip
    exact absurd (if_pos h0) hq
  · skip
    have hp := hp h0
    refine mTr_g hp ?_
    exact mTr_k (hn (s + (gJ σ 28 0 (Int32.toNatClampNeg c))) (if_neg h0))
theorem lp_C_odds_30 {Post : MST → Prop} (x2 : Int32) (c0 : Int32) (σ : MSto) (s0 : Int64) (N : Nat) (hb : ∀ i, i < N → g_C_odds_30 x2 (c0 + nI i) σ (f_C_odds_30 x2 c0 σ s0 i) ∧ ¬ q_C_odds_30s x2 (c0 + nI i) σ (f_C_odds_30 x2 c0 σ s0 i) = 1) (h : mW1 P_C_odds (30, [some (mR 12 0), none, some (mI x2), some (mJ (f_C_odds_30 x2 c0 σ s0 N)), none, some (mI (c0 + nI N))], [], σ, 0, 0) Post) : mW1 P_C_odds (30, [some (mR 12 0), none, some (mI x2), some (mJ s0), none, some (mI c0)], [], σ, 0, 0) Post := by
  refine mW1_st (mW1_loop (fun i => (30, [some (mR 12 0), none, some (mI x2), some (mJ (f_C_odds_30 x2 c0 σ s0 i)), none, some (mI (c0 + nI i))], [], σ, 0, 0)) N (fun i hlt hn => ?_) h) (by rw [show nI 0 = 0 from rfl, Int32.add_zero] <;> rfl)
  refine lt_C_odds_30 x2 _ σ _ (hb i hlt).1 (hb i hlt).2 (fun r hr => ?_)
  rw [Int32.add_assoc, nI_s]
  subst hr
  exact hn
set_option maxRecDepth 100000 in
set_option maxHeartbeats 4000000 in
theorem d_C_odds (a1 : Int32) (σ : MSto) (hp : p_C_odds a1 σ) : mW1 P_C_odds (0, [some (mR 12 0), some (mI a1), none, none, none, none], [], σ, 0, 0) (mF [9, 24, 96] [mI (v_C_odds a1 σ)] (e_C_odds a1 σ) 0 0) := by
  refine mW1_eq (q_C_odds_e _ _) ?_
  unfold p_C_odds at hp
  refine mTr_g hp.1 ?_
  have hp := hp.2
  refine mTr_if (fun h0 => ?_) (fun h0 => ?_)
  · skip
    exact mTr_e (by decide) (congrArg (fun z => [mI z]) (Eq.symm (if_pos h0))) (Eq.symm (if_pos h0)) (by decide) (by decide)
  · skip
    have hp := hp h0
    refine mTr_g hp.1 ?_
    have hp := hp.2
    refine mTr_if (fun h1 => ?_) (fun h1 => ?_)
    · skip
      exact mTr_e (by decide) (congrArg (fun z => [mI z]) (Eq.symm ((if_neg h0).trans (if_pos h1)))) (Eq.symm ((if_neg h0).trans (if_pos h1))) (by decide) (by decide)
    · skip
      have hp := hp h1
      refine mTr_k (lp_C_odds_30 (v_C_greatestStory a1 (-1) σ) 0 (e_C_greatestStory a1 (-1) σ) 0 (n_C_odds_30 (v_C_greatestStory a1 (-1) σ) 0 (e_C_greatestStory a1 (-1) σ) 0) hp.1 ?_)
      have hp := hp.2
      refine mW1_eq (q_C_odds_30 _ _ _ _) ?_
      refine mTr_if (fun h2 => ?_) (fun h2 => ?_)
      · skip
        have hp := hp.1 h2
        refine mTr_k (lp_C_odds_65 (v_C_greatestStory a1 (-1) σ) (f_C_odds_30 (v_C_greatestStory a1 (-1) σ) 0 (e_C_greatestStory a1 (-1) σ) 0 (n_C_odds_30 (v_C_greatestStory a1 (-1) σ) 0 (e_C_greatestStory a1 (-1) σ) 0)) 0 (e_Ro_clear (e_C_greatestStory a1 (-1) σ)) (n_C_odds_65 (v_C_greatestStory a1 (-1) σ) (f_C_odds_30 (v_C_greatestStory a1 (-1) σ) 0 (e_C_greatestStory a1 (-1) σ) 0 (n_C_odds_30 (v_C_greatestStory a1 (-1) σ) 0 (e_C_greatestStory a1 (-1) σ) 0)) 0 (e_Ro_clear (e_C_greatestStory a1 (-1) σ))) hp.1 ?_)
        have hp := hp.2
        refine mW1_eq (q_C_odds_65 _ _ _ _) ?_
        refine mTr_if (fun h3 => ?_) (fun h3 => ?_)
        · skip
          exact mTr_e (by decide) (congrArg (fun z => [mI z]) (Eq.symm ((if_neg h0).trans (if_neg h1)))) (Eq.symm ((if_neg h0).trans (if_neg h1))) (by decide) (by decide)
        · skip
          have hp := hp h3
          exact hp.elim
      · skip
        have hp := hp.2 h2
        exact hp.elim

theorem li_C_327 : mLink "ClothWithMan" 327 E_C_greatestStory := ⟨tw_4_91, tw_1_1, ⟨by decide, by decide⟩, by decide +kernel, Or.inl tw_4_88, (fun h => by cases h), (fun _ => ⟨tw_4_90, tw_0_27, TX11, 20, rfl⟩), (fun h => by cases h)⟩

theorem li_C_324 : mLink "ClothWithMan" 324 E_C_areForStories := ⟨tw_4_83, tw_1_1, ⟨by decide, by decide⟩, by decide +kernel, Or.inl tw_4_80, (fun h => by cases h), (fun _ => ⟨tw_4_82, tw_0_26, TX11, 20, rfl⟩), (fun h => by cases h)⟩



theorem tk_C_odds : ∀ pc i nx tg, T_C_odds pc = some (i, nx, tg) → mOkB prog_1_method_33_code pc i nx tg = true := code_ok (N := 97) (fun k h => by unfold T_C_odds; rw [h]; rfl) (by decide +kernel)
theorem ok_C_odds (l : Launch) : mPOK l "ClothWithMan" prog_1_method_33_code P_C_odds := by
  refine ⟨tk_C_odds, ?_, ?_, ?_, (fun pc i nx tg kd _ h => by cases h), ?_, ?_, fun pc en h => by cases h⟩
  · intro x ci f ty fin h
    exact mLook_all (Q := fun x v => mFOK "ClothWithMan" x v.1 v.2.1 v.2.2.1 v.2.2.2 ∧ (v.2.2.2 = true → pIni P_C_odds = true → (Cond.fieldLink "ClothWithMan" x (((mCl[v.1]?).getD ("", fun _ => ("", "", "", false), 0)).2.1 v.2.1).1 (((mCl[v.1]?).getD ("", fun _ => ("", "", "", false), 0)).2.1 v.2.1).2.1 (((mCl[v.1]?).getD ("", fun _ => ("", "", "", false), 0)).2.1 v.2.1).2.2.1 ∈ lw_tbl ∧ (((mCl[v.1]?).getD ("", fun _ => ("", "", "", false), 0)).2.1 v.2.1).1 = "ClothWithMan"))) (fcC ⟨fo_C_67, fun h1 h2 => by cases h2⟩ (fcC ⟨fo_C_83, fun h1 h2 => by cases h2⟩ fcN)) x (ci, f, ty, fin) h
  · intro x
    have hh := mLook_all (l := ([] : List (Nat × (Int32 ⊕ Int64)))) (Q := fun x (v : Int32 ⊕ Int64) => (∀ w, v = .inl w → Cond.constant "ClothWithMan" x w ∈ lw_tbl) ∧ (∀ w, v = .inr w → Cond.constantLong "ClothWithMan" x w ∈ lw_tbl)) fcN x
    exact ⟨fun w h => (hh _ h).1 w rfl, fun w h => (hh _ h).2 w rfl⟩
  · exact fun x en h => mLook_all (Q := fun x en => mLink "ClothWithMan" x en ∧ mCtr l en ∧ (en.1.1 = 2 → en.2.2.2.2.2.2 = none)) (fcC ⟨li_C_217, c_Ro_clear l, (fun h => by cases h)⟩ (fcC ⟨li_C_242, c_Ro_addFraction l, (fun h => by cases h)⟩ (fcC ⟨li_C_324, c_C_areForStories l, (fun h => by cases h)⟩ (fcC ⟨li_C_327, c_C_greatestStory l, (fun h => by cases h)⟩ (fcC ⟨li_C_330, c_C_storyCount l, (fun h => by cases h)⟩ fcN))))) x en h
  · exact fun x kd h => mLook_all (Q := fun x kd => (kd = 95 ∧ Cond.fieldLink "ClothWithMan" x "ClothWithMan" "LIKENESSES" "[I" ∈ lw_tbl) ∨ (kd = 96 ∧ Cond.fieldLink "ClothWithMan" x "ClothWithMan" "APART_BOUNDS" "[I" ∈ lw_tbl)) fcN x kd h
  · exact fun x ci h => mLook_all (Q := fun x ci => ci ≠ 0 ∧ ∃ (C : String) (T : u_T) (N : Nat), mCl[ci]? = some (C, T, N) ∧ Cond.classLink "ClothWithMan" x C ∈ lw_tbl ∧ Cond.instantiable C N ∈ lw_tbl) fcN x ci h
set_option maxRecDepth 100000 in
theorem c_C_odds (l : Launch) : mCtr l E_C_odds := mCtr_of (P := P_C_odds) (own := "ClothWithMan") mLay_ok rfl (by decide +kernel) rfl (ok_C_odds l) (fun h => by cases h) (fun as σ pr rv σ' hF hpr hlv => by
  unfold E_C_odds S_C_odds at hF
  simp only [] at hF
  split at hF
  · cases hF
    obtain ⟨n, pcF, c1, s1, g1, g2, g3, g4⟩ := mF_inv (d_C_odds _ σ (hpr _ rfl))
    exact ⟨Nat.le_of_ble_eq_true rfl, (fun v h => by cases h; trivial), n, pcF, c1, s1, g1, ⟨mEnd_of (i := .ireturn) (P := P_C_odds) (rets := [9, 24, 96]) rfl g2, rfl⟩, g3, g4⟩
  · cases hF
    exact (hpr _ rfl).elim)
/-! ClothWithMan.when(II)I -/
noncomputable def t_C_when_45 (x2 : Int32) (r3 : Nat) (c : Int32) (σ : MSto) (s : Int32 × Int64) : Int32 × Int64 := (if (v_St_lastYear r3 σ) < c then s else (if (lg_cmp (v_C_partOf r3 x2 c (-1) σ) (s.2)) ≤ 0 then ((s.1), (s.2)) else (c, (v_C_partOf r3 x2 c (-1) σ))))
noncomputable def q_C_when_45s (x2 : Int32) (r3 : Nat) (c : Int32) (σ : MSto) (s : Int32 × Int64) : Nat := (if (v_St_lastYear r3 σ) < c then 1 else 0)
def g_C_when_45 (x2 : Int32) (r3 : Nat) (c : Int32) (σ : MSto) (s : Int32 × Int64) : Prop := (¬ ((v_St_lastYear r3 σ) < c) → (p_C_partOf r3 x2 c (-1) σ))
noncomputable def f_C_when_45 (x2 : Int32) (r3 : Nat) (c0 : Int32) (σ : MSto) (s0 : Int32 × Int64) (n : Nat) : Int32 × Int64 := nfold (fun i s => t_C_when_45 x2 r3 (c0 + nI i) σ s) s0 n
noncomputable def n_C_when_45 (x2 : Int32) (r3 : Nat) (c0 : Int32) (σ : MSto) (s0 : Int32 × Int64) : Nat := ((v_St_lastYear r3 σ).toNatClampNeg + 1 - c0.toNatClampNeg)
noncomputable def v_C_when (a1 : Int32) (a2 : Int32) (σ : MSto) : Int32 := (if (v_C_isStory a1 σ) = 0 then (-1) else (if (v_C_areCounted a2 1 4 σ) = 0 then (-1) else ((f_C_when_45 a2 (v_AL_get 15 0 a1 σ) (v_St_firstYear (v_AL_get 15 0 a1 σ) σ) σ ((-2), 0) (n_C_when_45 a2 (v_AL_get 15 0 a1 σ) (v_St_firstYear (v_AL_get 15 0 a1 σ) σ) σ ((-2), 0))).1)))
def p_C_when (a1 : Int32) (a2 : Int32) (σ : MSto) : Prop := (¬ ((v_C_isStory a1 σ) = 0) → ((p_C_areCounted a2 1 4 σ) ∧ (¬ ((v_C_areCounted a2 1 4 σ) = 0) → ((p_AL_get 15 0 a1 σ) ∧ ((∀ i, i < (n_C_when_45 a2 (v_AL_get 15 0 a1 σ) (v_St_firstYear (v_AL_get 15 0 a1 σ) σ) σ ((-2), 0)) → g_C_when_45 a2 (v_AL_get 15 0 a1 σ) ((v_St_firstYear (v_AL_get 15 0 a1 σ) σ) + nI i) σ (f_C_when_45 a2 (v_AL_get 15 0 a1 σ) (v_St_firstYear (v_AL_get 15 0 a1 σ) σ) σ ((-2), 0) i) ∧ ¬ q_C_when_45s a2 (v_AL_get 15 0 a1 σ) ((v_St_firstYear (v_AL_get 15 0 a1 σ) σ) + nI i) σ (f_C_when_45 a2 (v_AL_get 15 0 a1 σ) (v_St_firstYear (v_AL_get 15 0 a1 σ) σ) σ ((-2), 0) i) = 1) ∧ (¬ ((v_St_lastYear (v_AL_get 15 0 a1 σ) σ) < ((v_St_firstYear (v_AL_get 15 0 a1 σ) σ) + nI (n_C_when_45 a2 (v_AL_get 15 0 a1 σ) (v_St_firstYear (v_AL_get 15 0 a1 σ) σ) σ ((-2), 0)))) → False))))))
noncomputable def S_C_when : List MV → MSto → Option Prop × Option MV × MSto := fun as σ => match as with
  | [.inr (.inr (some (12, 0))), .inl a0, .inl a1] => (some (p_C_when a0 a1 σ), some (mI (v_C_when a0 a1 σ)), σ)
  | _ => (some False, none, σ)
noncomputable def E_C_when : MEnt := ((1, 2, 12), (10, 227, 0, 0), S_C_when, ((⟨"ClothWithMan", "when", "(II)I"⟩ : MethodName), prog_1_method_34_code, 10, (some .int)))

def T_C_when : Nat → Option (Instr × Nat × List Nat) := fun k => bif Nat.blt k 90 then (bif Nat.blt k 43 then (bif Nat.blt k 20 then (bif Nat.blt k 10 then (bif Nat.blt k 5 then (bif Nat.blt k 1 then (bif Nat.beq k 0 then some (.aload_n 0, 1, []) else none) else (bif Nat.blt k 2 then (bif Nat.beq k 1 then some (.iload_n 1, 2, []) else none) else (bif Nat.beq k 2 then some (.invokevirtual 307, 5, []) else none))) else (bif Nat.blt k 8 then (bif Nat.beq k 5 then some (.ifCond .eq 13, 8, [18]) else none) else (bif Nat.blt k 9 then (bif Nat.beq k 8 then some (.aload_n 0, 9, []) else none) else (bif Nat.beq k 9 then some (.iload_n 2, 10, []) else none)))) else (bif Nat.blt k 15 then (bif Nat.blt k 11 then (bif Nat.beq k 10 then some (.iconst 1, 11, []) else none) else (bif Nat.blt k 12 then (bif Nat.beq k 11 then some (.iconst 4, 12, []) else none) else (bif Nat.beq k 12 then some (.invokevirtual 229, 15, []) else none))) else (bif Nat.blt k 18 then (bif Nat.beq k 15 then some (.ifCond .ne 5, 18, [20]) else none) else (bif Nat.blt k 19 then (bif Nat.beq k 18 then some (.iconst (-1), 19, []) else none) else (bif Nat.beq k 19 then some (.ireturn, 20, []) else none))))) else (bif Nat.blt k 32 then (bif Nat.blt k 25 then (bif Nat.blt k 21 then (bif Nat.beq k 20 then some (.aload_n 0, 21, []) else none) else (bif Nat.blt k 24 then (bif Nat.beq k 21 then some (.getfield 37, 24, []) else none) else (bif Nat.beq k 24 then some (.iload_n 1, 25, []) else none))) else (bif Nat.blt k 28 then (bif Nat.beq k 25 then some (.invokevirtual 183, 28, []) else none) else (bif Nat.blt k 31 then (bif Nat.beq k 28 then some (.checkcast 294, 31, []) else none) else (bif Nat.beq k 31 then some (.astore_n 3, 32, []) else none)))) else (bif Nat.blt k 37 then (bif Nat.blt k 34 then (bif Nat.beq k 32 then some (.bipush (-2), 34, []) else none) else (bif Nat.blt k 36 then (bif Nat.beq k 34 then some (.istore 4, 36, []) else none) else (bif Nat.beq k 36 then some (.lconst 0, 37, []) else none))) else (bif Nat.blt k 39 then (bif Nat.beq k 37 then some (.lstore 5, 39, []) else none) else (bif Nat.blt k 40 then (bif Nat.beq k 39 then some (.aload_n 3, 40, []) else none) else (bif Nat.beq k 40 then some (.invokevirtual 333, 43, []) else none)))))) else (bif Nat.blt k 65 then (bif Nat.blt k 55 then (bif Nat.blt k 48 then (bif Nat.blt k 45 then (bif Nat.beq k 43 then some (.istore 7, 45, []) else none) else (bif Nat.blt k 47 then (bif Nat.beq k 45 then some (.iload 7, 47, []) else none) else (bif Nat.beq k 47 then some (.aload_n 3, 48, []) else none))) else (bif Nat.blt k 51 then (bif Nat.beq k 48 then some (.invokevirtual 336, 51, []) else none) else (bif Nat.blt k 54 then (bif Nat.beq k 51 then some (.if_icmp .gt 36, 54, [87]) else none) else (bif Nat.beq k 54 then some (.aload_n 0, 55, []) else none)))) else (bif Nat.blt k 59 then (bif Nat.blt k 56 then (bif Nat.beq k 55 then some (.aload_n 3, 56, []) else none) else (bif Nat.blt k 57 then (bif Nat.beq k 56 then some (.iload_n 2, 57, []) else none) else (bif Nat.beq k 57 then some (.iload 7, 59, []) else none))) else (bif Nat.blt k 60 then (bif Nat.beq k 59 then some (.iconst (-1), 60, []) else none) else (bif Nat.blt k 63 then (bif Nat.beq k 60 then some (.invokevirtual 339, 63, []) else none) else (bif Nat.beq k 63 then some (.lstore 8, 65, []) else none))))) else (bif Nat.blt k 77 then (bif Nat.blt k 70 then (bif Nat.blt k 67 then (bif Nat.beq k 65 then some (.lload 8, 67, []) else none) else (bif Nat.blt k 69 then (bif Nat.beq k 67 then some (.lload 5, 69, []) else none) else (bif Nat.beq k 69 then some (.lcmp, 70, []) else none))) else (bif Nat.blt k 73 then (bif Nat.beq k 70 then some (.ifCond .le 11, 73, [81]) else none) else (bif Nat.blt k 75 then (bif Nat.beq k 73 then some (.iload 7, 75, []) else none) else (bif Nat.beq k 75 then some (.istore 4, 77, []) else none)))) else (bif Nat.blt k 84 then (bif Nat.blt k 79 then (bif Nat.beq k 77 then some (.lload 8, 79, []) else none) else (bif Nat.blt k 81 then (bif Nat.beq k 79 then some (.lstore 5, 81, []) else none) else (bif Nat.beq k 81 then some (.iinc 7 1, 84, []) else none))) else (bif Nat.blt k 87 then (bif Nat.beq k 84 then some (.goto (-39), 87, [45]) else none) else (bif Nat.blt k 89 then (bif Nat.beq k 87 then some (.iload 4, 89, []) else none) else (bif Nat.beq k 89 then some (.ireturn, 90, []) else none))))))) else none
noncomputable def P_C_when : MP := (T_C_when, (fun k => mLook k [(37, (12, 5, (.object "java/util/ArrayList"), true))]), (fun k => mLook k []), (fun k => mLook k [(183, E_AL_get), (229, E_C_areCounted), (307, E_C_isStory), (333, E_St_firstYear), (336, E_St_lastYear), (339, E_C_partOf)]), (fun k => mLook k []), (fun k => mLook k []), (fun k => mLook k [(294, 9)]), (fun k => mLook k [(45, [true, false, true, true, true, true, false, true, false, false])]), (fun k => [19, 89].any (Nat.beq k)), (10, 227, 0, 0), false, (fun _ => none))
set_option maxRecDepth 100000 in
set_option maxHeartbeats 4000000 in
theorem q_C_when_e (a1 : Int32) (a2 : Int32) (σ : MSto) (n : Nat) : mexe KT P_C_when (n + 1) (0, [some (mR 12 0), some (mI a1), some (mI a2), none, none, none, none, none, none, none], [], σ, 0, 0) = mIf ((v_C_isStory a1 σ) = 0) (some (19, [], [(mI (-1))], σ, 0, 0)) (mG (p_C_areCounted a2 1 4 σ) (mIf ((v_C_areCounted a2 1 4 σ) = 0) (some (19, [], [(mI (-1))], σ, 0, 0)) (mG (p_AL_get 15 0 a1 σ) (mexe KT P_C_when n (45, [some (mR 12 0), none, some (mI a2), some (mR 9 (v_AL_get 15 0 a1 σ)), some (mI (-2)), some (mJ 0), none, some (mI (v_St_firstYear (v_AL_get 15 0 a1 σ) σ)), none, none], [], σ, 0, 0))))) := rfl
set_option maxRecDepth 100000 in
set_option maxHeartbeats 4000000 in
theorem q_C_when_45 (x2 : Int32) (r3 : Nat) (x4 : Int32) (x5 : Int64) (x7 : Int32) (σ : MSto) (n : Nat) : mexe KT P_C_when (n + 1) (45, [some (mR 12 0), none, some (mI x2), some (mR 9 r3), some (mI x4), some (mJ x5), none, some (mI x7), none, none], [], σ, 0, 0) = mIf ((v_St_lastYear r3 σ) < x7) (some (89, [], [(mI x4)], σ, 0, 0)) (mG (p_C_partOf r3 x2 x7 (-1) σ) (mIf ((lg_cmp (v_C_partOf r3 x2 x7 (-1) σ) x5) ≤ 0) (mexe KT P_C_when n (45, [some (mR 12 0), none, some (mI x2), some (mR 9 r3), some (mI x4), some (mJ x5), none, some (mI (x7 + 1)), none, none], [], σ, 0, 0)) (mexe KT P_C_when n (45, [some (mR 12 0), none, some (mI x2), some (mR 9 r3), some (mI x7), some (mJ (v_C_partOf r3 x2 x7 (-1) σ)), none, some (mI (x7 + 1)), none, none], [], σ, 0, 0)))) := rfl
set_option maxRecDepth 100000 in
theorem lt_C_when_45 {Post : MST → Prop} (x2 : Int32) (r3 : Nat) (c : Int32) (σ : MSto) (s : Int32 × Int64) (hp : g_C_when_45 x2 r3 c σ s) (hq : ¬ q_C_when_45s x2 r3 c σ s = 1) (hn : ∀ (r1 : Int32) (r2 : Int64), t_C_when_45 x2 r3 c σ s = (r1, r2) → mW1 P_C_when (45, [some (mR 12 0), none, some (mI x2), some (mR 9 r3), some (mI r1), some (mJ r2), none, some (mI (c + 1)), none, none], [], σ, 0, 0) Post) : mW1 P_C_when (45, [some (mR 12 0), none, some (mI x2), some (mR 9 r3), some (mI (s.1)), some (mJ (s.2)), none, some (mI c), none, none], [], σ, 0, 0) Post := by
  unfold g_C_when_45 at hp
  refine mW1_eq (q_C_when_45 _ _ _ _ _ _) ?_
  refine mTr_if (fun h0 => ?_) (fun h0 => ?_)
  · skip
    exact absurd (if_pos h0) hq
  · skip
    have hp := hp h0
    refine mTr_g hp ?_
    refine mTr_if (fun h1 => ?_) (fun h1 => ?_)
    · skip
      exact mTr_k (hn (s.1) (s.2) ((if_neg h0).trans (if_pos h1)))
    · skip
      exact mTr_k (hn c (v_C_partOf r3 x2 c (-1) σ) ((if_neg h0).trans (if_neg h1)))
theorem lp_C_when_45 {Post : MST → Prop} (x2 : Int32) (r3 : Nat) (c0 : Int32) (σ : MSto) (s0 : Int32 × Int64) (N : Nat) (hb : ∀ i, i < N → g_C_when_45 x2 r3 (c0 + nI i) σ (f_C_when_45 x2 r3 c0 σ s0 i) ∧ ¬ q_C_when_45s x2 r3 (c0 + nI i) σ (f_C_when_45 x2 r3 c0 σ s0 i) = 1) (h : mW1 P_C_when (45, [some (mR 12 0), none, some (mI x2), some (mR 9 r3), some (mI ((f_C_when_45 x2 r3 c0 σ s0 N).1)), some (mJ ((f_C_when_45 x2 r3 c0 σ s0 N).2)), none, some (mI (c0 + nI N)), none, none], [], σ, 0, 0) Post) : mW1 P_C_when (45, [some (mR 12 0), none, some (mI x2), some (mR 9 r3), some (mI (s0.1)), some (mJ (s0.2)), none, some (mI c0), none, none], [], σ, 0, 0) Post := by
  refine mW1_st (mW1_loop (fun i => (45, [some (mR 12 0), none, some (mI x2), some (mR 9 r3), some (mI ((f_C_when_45 x2 r3 c0 σ s0 i).1)), some (mJ ((f_C_when_45 x2 r3 c0 σ s0 i).2)), none, some (mI (c0 + nI i)), none, none], [], σ, 0, 0)) N (fun i hlt hn => ?_) h) (by rw [show nI 0 = 0 from rfl, Int32.add_zero] <;> rfl)
  refine lt_C_when_45 x2 r3 _ σ _ (hb i hlt).1 (hb i hlt).2 (fun r1 r2 hr => ?_)
  rw [Int32.add_assoc, nI_s]
  have e : f_C_when_45 x2 r3 c0 σ s0 (i + 1) = (r1, r2) := hr
  try dsimp only at hn
  rw [e] at hn
  exact hn
set_option maxRecDepth 100000 in
set_option maxHeartbeats 4000000 in
theorem d_C_when (a1 : Int32) (a2 : Int32) (σ : MSto) (hp : p_C_when a1 a2 σ) : mW1 P_C_when (0, [some (mR 12 0), some (mI a1), some (mI a2), none, none, none, none, none, none, none], [], σ, 0, 0) (mF [19, 89] [mI (v_C_when a1 a2 σ)] σ 0 0) := by
  refine mW1_eq (q_C_when_e _ _ _) ?_
  unfold p_C_when at hp
  refine mTr_if (fun h0 => ?_) (fun h0 => ?_)
  · skip
    exact mTr_e (by decide) (congrArg (fun z => [mI z]) (Eq.symm (if_pos h0))) rfl (by decide) (by decide)
  · skip
    have hp := hp h0
    refine mTr_g hp.1 ?_
    have hp := hp.2
    refine mTr_if (fun h1 => ?_) (fun h1 => ?_)
    · skip
      exact mTr_e (by decide) (congrArg (fun z => [mI z]) (Eq.symm ((if_neg h0).trans (if_pos h1)))) rfl (by decide) (by decide)
    · skip
      have hp := hp h1
      refine mTr_g hp.1 ?_
      have hp := hp.2
      refine mTr_k (lp_C_when_45 a2 (v_AL_get 15 0 a1 σ) (v_St_firstYear (v_AL_get 15 0 a1 σ) σ) σ ((-2), 0) (n_C_when_45 a2 (v_AL_get 15 0 a1 σ) (v_St_firstYear (v_AL_get 15 0 a1 σ) σ) σ ((-2), 0)) hp.1 ?_)
      have hp := hp.2
      refine mW1_eq (q_C_when_45 _ _ _ _ _ _) ?_
      refine mTr_if (fun h2 => ?_) (fun h2 => ?_)
      · skip
        exact mTr_e (by decide) (congrArg (fun z => [mI z]) (Eq.symm ((if_neg h0).trans (if_neg h1)))) rfl (by decide) (by decide)
      · skip
        have hp := hp h2
        exact hp.elim






theorem tk_C_when : ∀ pc i nx tg, T_C_when pc = some (i, nx, tg) → mOkB prog_1_method_34_code pc i nx tg = true := code_ok (N := 90) (fun k h => by unfold T_C_when; rw [h]; rfl) (by decide +kernel)
theorem ok_C_when (l : Launch) : mPOK l "ClothWithMan" prog_1_method_34_code P_C_when := by
  refine ⟨tk_C_when, ?_, ?_, ?_, (fun pc i nx tg kd _ h => by cases h), ?_, ?_, fun pc en h => by cases h⟩
  · intro x ci f ty fin h
    exact mLook_all (Q := fun x v => mFOK "ClothWithMan" x v.1 v.2.1 v.2.2.1 v.2.2.2 ∧ (v.2.2.2 = true → pIni P_C_when = true → (Cond.fieldLink "ClothWithMan" x (((mCl[v.1]?).getD ("", fun _ => ("", "", "", false), 0)).2.1 v.2.1).1 (((mCl[v.1]?).getD ("", fun _ => ("", "", "", false), 0)).2.1 v.2.1).2.1 (((mCl[v.1]?).getD ("", fun _ => ("", "", "", false), 0)).2.1 v.2.1).2.2.1 ∈ lw_tbl ∧ (((mCl[v.1]?).getD ("", fun _ => ("", "", "", false), 0)).2.1 v.2.1).1 = "ClothWithMan"))) (fcC ⟨fo_C_37, fun h1 h2 => by cases h2⟩ fcN) x (ci, f, ty, fin) h
  · intro x
    have hh := mLook_all (l := ([] : List (Nat × (Int32 ⊕ Int64)))) (Q := fun x (v : Int32 ⊕ Int64) => (∀ w, v = .inl w → Cond.constant "ClothWithMan" x w ∈ lw_tbl) ∧ (∀ w, v = .inr w → Cond.constantLong "ClothWithMan" x w ∈ lw_tbl)) fcN x
    exact ⟨fun w h => (hh _ h).1 w rfl, fun w h => (hh _ h).2 w rfl⟩
  · exact fun x en h => mLook_all (Q := fun x en => mLink "ClothWithMan" x en ∧ mCtr l en ∧ (en.1.1 = 2 → en.2.2.2.2.2.2 = none)) (fcC ⟨li_C_183, c_AL_get l, (fun h => by cases h)⟩ (fcC ⟨li_C_229, c_C_areCounted l, (fun h => by cases h)⟩ (fcC ⟨li_C_307, c_C_isStory l, (fun h => by cases h)⟩ (fcC ⟨li_C_333, c_St_firstYear l, (fun h => by cases h)⟩ (fcC ⟨li_C_336, c_St_lastYear l, (fun h => by cases h)⟩ (fcC ⟨li_C_339, c_C_partOf l, (fun h => by cases h)⟩ fcN)))))) x en h
  · exact fun x kd h => mLook_all (Q := fun x kd => (kd = 95 ∧ Cond.fieldLink "ClothWithMan" x "ClothWithMan" "LIKENESSES" "[I" ∈ lw_tbl) ∨ (kd = 96 ∧ Cond.fieldLink "ClothWithMan" x "ClothWithMan" "APART_BOUNDS" "[I" ∈ lw_tbl)) fcN x kd h
  · exact fun x ci h => mLook_all (Q := fun x ci => ci ≠ 0 ∧ ∃ (C : String) (T : u_T) (N : Nat), mCl[ci]? = some (C, T, N) ∧ Cond.classLink "ClothWithMan" x C ∈ lw_tbl ∧ Cond.instantiable C N ∈ lw_tbl) (fcC ⟨by decide, "ClothWithMan$Story", TX8, 9, rfl, tw_3_215, tw_3_216⟩ fcN) x ci h
set_option maxRecDepth 100000 in
theorem c_C_when (l : Launch) : mCtr l E_C_when := mCtr_of (P := P_C_when) (own := "ClothWithMan") mLay_ok rfl (by decide +kernel) rfl (ok_C_when l) (fun h => by cases h) (fun as σ pr rv σ' hF hpr hlv => by
  unfold E_C_when S_C_when at hF
  simp only [] at hF
  split at hF
  · cases hF
    obtain ⟨n, pcF, c1, s1, g1, g2, g3, g4⟩ := mF_inv (d_C_when _ _ σ (hpr _ rfl))
    exact ⟨Nat.le_of_ble_eq_true rfl, (fun v h => by cases h; trivial), n, pcF, c1, s1, g1, ⟨mEnd_of (i := .ireturn) (P := P_C_when) (rets := [19, 89]) rfl g2, rfl⟩, g3, g4⟩
  · cases hF
    exact (hpr _ rfl).elim)
/-! ClothWithMan.first(I)I -/
noncomputable def t_C_first_27 (x1 : Int32) (x2 : Int32) (c : Int32) (s : MSto) : MSto := (if (v_AL_size 16 0 s) ≤ c then s else (if (v_C_greatestStory x1 c s) = (-1) then (e_C_greatestStory x1 c s) else (if (v_C_greatestStory x1 c s) = x2 then (e_C_greatestStory x1 c s) else s)))
noncomputable def q_C_first_27s (x1 : Int32) (x2 : Int32) (c : Int32) (s : MSto) : Nat := (if (v_AL_size 16 0 s) ≤ c then 1 else (if (v_C_greatestStory x1 c s) = (-1) then 0 else (if (v_C_greatestStory x1 c s) = x2 then 0 else 1)))
def g_C_first_27 (x1 : Int32) (x2 : Int32) (c : Int32) (s : MSto) : Prop := (¬ ((v_AL_size 16 0 s) ≤ c) → (p_C_greatestStory x1 c s))
noncomputable def f_C_first_27 (x1 : Int32) (x2 : Int32) (c0 : Int32) (s0 : MSto) (n : Nat) : MSto := nfold (fun i s => t_C_first_27 x1 x2 (c0 + nI i) s) s0 n
noncomputable def n_C_first_27 (x1 : Int32) (x2 : Int32) (c0 : Int32) (s0 : MSto) : Nat := leastN (fun i => q_C_first_27s x1 x2 (c0 + nI i) (f_C_first_27 x1 x2 c0 s0 i) = 1) 5
noncomputable def v_C_first (a1 : Int32) (σ : MSto) : Int32 := (if (v_C_areForStories a1 σ) = 0 then (-1) else (if (v_C_greatestStory a1 (-1) σ) = (-1) then (-2) else (if (v_AL_size 16 0 (f_C_first_27 a1 (v_C_greatestStory a1 (-1) σ) 0 (e_C_greatestStory a1 (-1) σ) (n_C_first_27 a1 (v_C_greatestStory a1 (-1) σ) 0 (e_C_greatestStory a1 (-1) σ)))) ≤ (0 + nI (n_C_first_27 a1 (v_C_greatestStory a1 (-1) σ) 0 (e_C_greatestStory a1 (-1) σ))) then (-2) else (0 + nI (n_C_first_27 a1 (v_C_greatestStory a1 (-1) σ) 0 (e_C_greatestStory a1 (-1) σ))))))
def p_C_first (a1 : Int32) (σ : MSto) : Prop := ((p_C_areForStories a1 σ) ∧ (¬ ((v_C_areForStories a1 σ) = 0) → ((p_C_greatestStory a1 (-1) σ) ∧ (¬ ((v_C_greatestStory a1 (-1) σ) = (-1)) → ((∀ i, i < (n_C_first_27 a1 (v_C_greatestStory a1 (-1) σ) 0 (e_C_greatestStory a1 (-1) σ)) → g_C_first_27 a1 (v_C_greatestStory a1 (-1) σ) (0 + nI i) (f_C_first_27 a1 (v_C_greatestStory a1 (-1) σ) 0 (e_C_greatestStory a1 (-1) σ) i) ∧ ¬ q_C_first_27s a1 (v_C_greatestStory a1 (-1) σ) (0 + nI i) (f_C_first_27 a1 (v_C_greatestStory a1 (-1) σ) 0 (e_C_greatestStory a1 (-1) σ) i) = 1) ∧ (¬ ((v_AL_size 16 0 (f_C_first_27 a1 (v_C_greatestStory a1 (-1) σ) 0 (e_C_greatestStory a1 (-1) σ) (n_C_first_27 a1 (v_C_greatestStory a1 (-1) σ) 0 (e_C_greatestStory a1 (-1) σ)))) ≤ (0 + nI (n_C_first_27 a1 (v_C_greatestStory a1 (-1) σ) 0 (e_C_greatestStory a1 (-1) σ)))) → ((p_C_greatestStory a1 (0 + nI (n_C_first_27 a1 (v_C_greatestStory a1 (-1) σ) 0 (e_C_greatestStory a1 (-1) σ))) (f_C_first_27 a1 (v_C_greatestStory a1 (-1) σ) 0 (e_C_greatestStory a1 (-1) σ) (n_C_first_27 a1 (v_C_greatestStory a1 (-1) σ) 0 (e_C_greatestStory a1 (-1) σ)))) ∧ ((((v_C_greatestStory a1 (0 + nI (n_C_first_27 a1 (v_C_greatestStory a1 (-1) σ) 0 (e_C_greatestStory a1 (-1) σ))) (f_C_first_27 a1 (v_C_greatestStory a1 (-1) σ) 0 (e_C_greatestStory a1 (-1) σ) (n_C_first_27 a1 (v_C_greatestStory a1 (-1) σ) 0 (e_C_greatestStory a1 (-1) σ)))) = (-1)) → False) ∧ (¬ ((v_C_greatestStory a1 (0 + nI (n_C_first_27 a1 (v_C_greatestStory a1 (-1) σ) 0 (e_C_greatestStory a1 (-1) σ))) (f_C_first_27 a1 (v_C_greatestStory a1 (-1) σ) 0 (e_C_greatestStory a1 (-1) σ) (n_C_first_27 a1 (v_C_greatestStory a1 (-1) σ) 0 (e_C_greatestStory a1 (-1) σ)))) = (-1)) → ((((v_C_greatestStory a1 (0 + nI (n_C_first_27 a1 (v_C_greatestStory a1 (-1) σ) 0 (e_C_greatestStory a1 (-1) σ))) (f_C_first_27 a1 (v_C_greatestStory a1 (-1) σ) 0 (e_C_greatestStory a1 (-1) σ) (n_C_first_27 a1 (v_C_greatestStory a1 (-1) σ) 0 (e_C_greatestStory a1 (-1) σ)))) = (v_C_greatestStory a1 (-1) σ)) → False) ∧ (¬ ((v_C_greatestStory a1 (0 + nI (n_C_first_27 a1 (v_C_greatestStory a1 (-1) σ) 0 (e_C_greatestStory a1 (-1) σ))) (f_C_first_27 a1 (v_C_greatestStory a1 (-1) σ) 0 (e_C_greatestStory a1 (-1) σ) (n_C_first_27 a1 (v_C_greatestStory a1 (-1) σ) 0 (e_C_greatestStory a1 (-1) σ)))) = (v_C_greatestStory a1 (-1) σ)) → (p_Ro_add (Int32.toInt64 (v_C_greatestStory a1 (0 + nI (n_C_first_27 a1 (v_C_greatestStory a1 (-1) σ) 0 (e_C_greatestStory a1 (-1) σ))) (f_C_first_27 a1 (v_C_greatestStory a1 (-1) σ) 0 (e_C_greatestStory a1 (-1) σ) (n_C_first_27 a1 (v_C_greatestStory a1 (-1) σ) 0 (e_C_greatestStory a1 (-1) σ))))) (e_Ro_clear (e_C_greatestStory a1 (0 + nI (n_C_first_27 a1 (v_C_greatestStory a1 (-1) σ) 0 (e_C_greatestStory a1 (-1) σ))) (f_C_first_27 a1 (v_C_greatestStory a1 (-1) σ) 0 (e_C_greatestStory a1 (-1) σ) (n_C_first_27 a1 (v_C_greatestStory a1 (-1) σ) 0 (e_C_greatestStory a1 (-1) σ)))))))))))))))))
noncomputable def e_C_first (a1 : Int32) (σ : MSto) : MSto := (if (v_C_areForStories a1 σ) = 0 then σ else (if (v_C_greatestStory a1 (-1) σ) = (-1) then (e_C_greatestStory a1 (-1) σ) else (if (v_AL_size 16 0 (f_C_first_27 a1 (v_C_greatestStory a1 (-1) σ) 0 (e_C_greatestStory a1 (-1) σ) (n_C_first_27 a1 (v_C_greatestStory a1 (-1) σ) 0 (e_C_greatestStory a1 (-1) σ)))) ≤ (0 + nI (n_C_first_27 a1 (v_C_greatestStory a1 (-1) σ) 0 (e_C_greatestStory a1 (-1) σ))) then (f_C_first_27 a1 (v_C_greatestStory a1 (-1) σ) 0 (e_C_greatestStory a1 (-1) σ) (n_C_first_27 a1 (v_C_greatestStory a1 (-1) σ) 0 (e_C_greatestStory a1 (-1) σ))) else (e_Ro_add (Int32.toInt64 (v_C_greatestStory a1 (0 + nI (n_C_first_27 a1 (v_C_greatestStory a1 (-1) σ) 0 (e_C_greatestStory a1 (-1) σ))) (f_C_first_27 a1 (v_C_greatestStory a1 (-1) σ) 0 (e_C_greatestStory a1 (-1) σ) (n_C_first_27 a1 (v_C_greatestStory a1 (-1) σ) 0 (e_C_greatestStory a1 (-1) σ))))) (e_Ro_clear (e_C_greatestStory a1 (0 + nI (n_C_first_27 a1 (v_C_greatestStory a1 (-1) σ) 0 (e_C_greatestStory a1 (-1) σ))) (f_C_first_27 a1 (v_C_greatestStory a1 (-1) σ) 0 (e_C_greatestStory a1 (-1) σ) (n_C_first_27 a1 (v_C_greatestStory a1 (-1) σ) 0 (e_C_greatestStory a1 (-1) σ)))))))))
noncomputable def S_C_first : List MV → MSto → Option Prop × Option MV × MSto := fun as σ => match as with
  | [.inr (.inr (some (12, 0))), .inl a0] => (some (p_C_first a0 σ), some (mI (v_C_first a0 σ)), e_C_first a0 σ)
  | _ => (some False, none, σ)
noncomputable def E_C_first : MEnt := ((1, 1, 12), (11, 257, 0, 0), S_C_first, ((⟨"ClothWithMan", "first", "(I)I"⟩ : MethodName), prog_1_method_35_code, 5, (some .int)))

def T_C_first : Nat → Option (Instr × Nat × List Nat) := fun k => bif Nat.blt k 86 then (bif Nat.blt k 39 then (bif Nat.blt k 18 then (bif Nat.blt k 10 then (bif Nat.blt k 5 then (bif Nat.blt k 1 then (bif Nat.beq k 0 then some (.aload_n 0, 1, []) else none) else (bif Nat.blt k 2 then (bif Nat.beq k 1 then some (.iload_n 1, 2, []) else none) else (bif Nat.beq k 2 then some (.invokevirtual 324, 5, []) else none))) else (bif Nat.blt k 8 then (bif Nat.beq k 5 then some (.ifCond .ne 5, 8, [10]) else none) else (bif Nat.blt k 9 then (bif Nat.beq k 8 then some (.iconst (-1), 9, []) else none) else (bif Nat.beq k 9 then some (.ireturn, 10, []) else none)))) else (bif Nat.blt k 13 then (bif Nat.blt k 11 then (bif Nat.beq k 10 then some (.aload_n 0, 11, []) else none) else (bif Nat.blt k 12 then (bif Nat.beq k 11 then some (.iload_n 1, 12, []) else none) else (bif Nat.beq k 12 then some (.iconst (-1), 13, []) else none))) else (bif Nat.blt k 16 then (bif Nat.beq k 13 then some (.invokevirtual 327, 16, []) else none) else (bif Nat.blt k 17 then (bif Nat.beq k 16 then some (.istore_n 2, 17, []) else none) else (bif Nat.beq k 17 then some (.iload_n 2, 18, []) else none))))) else (bif Nat.blt k 27 then (bif Nat.blt k 24 then (bif Nat.blt k 19 then (bif Nat.beq k 18 then some (.iconst (-1), 19, []) else none) else (bif Nat.blt k 22 then (bif Nat.beq k 19 then some (.if_icmp .ne 6, 22, [25]) else none) else (bif Nat.beq k 22 then some (.bipush (-2), 24, []) else none))) else (bif Nat.blt k 25 then (bif Nat.beq k 24 then some (.ireturn, 25, []) else none) else (bif Nat.blt k 26 then (bif Nat.beq k 25 then some (.iconst 0, 26, []) else none) else (bif Nat.beq k 26 then some (.istore_n 3, 27, []) else none)))) else (bif Nat.blt k 32 then (bif Nat.blt k 28 then (bif Nat.beq k 27 then some (.iload_n 3, 28, []) else none) else (bif Nat.blt k 29 then (bif Nat.beq k 28 then some (.aload_n 0, 29, []) else none) else (bif Nat.beq k 29 then some (.getfield 40, 32, []) else none))) else (bif Nat.blt k 35 then (bif Nat.beq k 32 then some (.invokevirtual 132, 35, []) else none) else (bif Nat.blt k 38 then (bif Nat.beq k 35 then some (.if_icmp .ge 48, 38, [83]) else none) else (bif Nat.beq k 38 then some (.aload_n 0, 39, []) else none)))))) else (bif Nat.blt k 62 then (bif Nat.blt k 49 then (bif Nat.blt k 44 then (bif Nat.blt k 40 then (bif Nat.beq k 39 then some (.iload_n 1, 40, []) else none) else (bif Nat.blt k 41 then (bif Nat.beq k 40 then some (.iload_n 3, 41, []) else none) else (bif Nat.beq k 41 then some (.invokevirtual 327, 44, []) else none))) else (bif Nat.blt k 46 then (bif Nat.beq k 44 then some (.istore 4, 46, []) else none) else (bif Nat.blt k 48 then (bif Nat.beq k 46 then some (.iload 4, 48, []) else none) else (bif Nat.beq k 48 then some (.iconst (-1), 49, []) else none)))) else (bif Nat.blt k 55 then (bif Nat.blt k 52 then (bif Nat.beq k 49 then some (.if_icmp .eq 28, 52, [77]) else none) else (bif Nat.blt k 54 then (bif Nat.beq k 52 then some (.iload 4, 54, []) else none) else (bif Nat.beq k 54 then some (.iload_n 2, 55, []) else none))) else (bif Nat.blt k 58 then (bif Nat.beq k 55 then some (.if_icmp .eq 22, 58, [77]) else none) else (bif Nat.blt k 59 then (bif Nat.beq k 58 then some (.aload_n 0, 59, []) else none) else (bif Nat.beq k 59 then some (.getfield 67, 62, []) else none))))) else (bif Nat.blt k 75 then (bif Nat.blt k 69 then (bif Nat.blt k 65 then (bif Nat.beq k 62 then some (.invokevirtual 217, 65, []) else none) else (bif Nat.blt k 66 then (bif Nat.beq k 65 then some (.aload_n 0, 66, []) else none) else (bif Nat.beq k 66 then some (.getfield 67, 69, []) else none))) else (bif Nat.blt k 71 then (bif Nat.beq k 69 then some (.iload 4, 71, []) else none) else (bif Nat.blt k 72 then (bif Nat.beq k 71 then some (.i2l, 72, []) else none) else (bif Nat.beq k 72 then some (.invokevirtual 223, 75, []) else none)))) else (bif Nat.blt k 80 then (bif Nat.blt k 76 then (bif Nat.beq k 75 then some (.iload_n 3, 76, []) else none) else (bif Nat.blt k 77 then (bif Nat.beq k 76 then some (.ireturn, 77, []) else none) else (bif Nat.beq k 77 then some (.iinc 3 1, 80, []) else none))) else (bif Nat.blt k 83 then (bif Nat.beq k 80 then some (.goto (-53), 83, [27]) else none) else (bif Nat.blt k 85 then (bif Nat.beq k 83 then some (.bipush (-2), 85, []) else none) else (bif Nat.beq k 85 then some (.ireturn, 86, []) else none))))))) else none
noncomputable def P_C_first : MP := (T_C_first, (fun k => mLook k [(40, (12, 6, (.object "java/util/ArrayList"), true)), (67, (12, 11, (.object "ClothWithMan$Row"), true))]), (fun k => mLook k []), (fun k => mLook k [(132, E_AL_size), (217, E_Ro_clear), (223, E_Ro_add), (324, E_C_areForStories), (327, E_C_greatestStory)]), (fun k => mLook k []), (fun k => mLook k []), (fun k => mLook k []), (fun k => mLook k [(27, [true, true, true, true, false])]), (fun k => [9, 24, 76, 85].any (Nat.beq k)), (11, 257, 0, 0), false, (fun _ => none))
set_option maxRecDepth 100000 in
set_option maxHeartbeats 4000000 in
theorem q_C_first_e (a1 : Int32) (σ : MSto) (n : Nat) : mexe KT P_C_first (n + 1) (0, [some (mR 12 0), some (mI a1), none, none, none], [], σ, 0, 0) = mG (p_C_areForStories a1 σ) (mIf ((v_C_areForStories a1 σ) = 0) (some (9, [], [(mI (-1))], σ, 0, 0)) (mG (p_C_greatestStory a1 (-1) σ) (mIf ((v_C_greatestStory a1 (-1) σ) = (-1)) (some (24, [], [(mI (-2))], (e_C_greatestStory a1 (-1) σ), 0, 0)) (mexe KT P_C_first n (27, [some (mR 12 0), some (mI a1), some (mI (v_C_greatestStory a1 (-1) σ)), some (mI 0), none], [], (e_C_greatestStory a1 (-1) σ), 0, 0))))) := rfl
set_option maxRecDepth 100000 in
set_option maxHeartbeats 4000000 in
theorem q_C_first_27 (x1 : Int32) (x2 : Int32) (x3 : Int32) (σ : MSto) (n : Nat) : mexe KT P_C_first (n + 1) (27, [some (mR 12 0), some (mI x1), some (mI x2), some (mI x3), none], [], σ, 0, 0) = mIf ((v_AL_size 16 0 σ) ≤ x3) (some (85, [], [(mI (-2))], σ, 0, 0)) (mG (p_C_greatestStory x1 x3 σ) (mIf ((v_C_greatestStory x1 x3 σ) = (-1)) (mexe KT P_C_first n (27, [some (mR 12 0), some (mI x1), some (mI x2), some (mI (x3 + 1)), none], [], (e_C_greatestStory x1 x3 σ), 0, 0)) (mIf ((v_C_greatestStory x1 x3 σ) = x2) (mexe KT P_C_first n (27, [some (mR 12 0), some (mI x1), some (mI x2), some (mI (x3 + 1)), none], [], (e_C_greatestStory x1 x3 σ), 0, 0)) (mG (p_Ro_add (Int32.toInt64 (v_C_greatestStory x1 x3 σ)) (e_Ro_clear (e_C_greatestStory x1 x3 σ))) (some (76, [], [(mI x3)], (e_Ro_add (Int32.toInt64 (v_C_greatestStory x1 x3 σ)) (e_Ro_clear (e_C_greatestStory x1 x3 σ))), 0, 0)))))) := rfl
set_option maxRecDepth 100000 in
theorem lt_C_first_27 {Post : MST → Prop} (x1 : Int32) (x2 : Int32) (c : Int32) (s : MSto) (hp : g_C_first_27 x1 x2 c s) (hq : ¬ q_C_first_27s x1 x2 c s = 1) (hn : ∀ r, t_C_first_27 x1 x2 c s = r → mW1 P_C_first (27, [some (mR 12 0), some (mI x1), some (mI x2), some (mI (c + 1)), none], [], r, 0, 0) Post) : mW1 P_C_first (27, [some (mR 12 0), some (mI x1), some (mI x2), some (mI c), none], [], s, 0, 0) Post := by
  unfold g_C_first_27 at hp
  refine mW1_eq (q_C_first_27 _ _ _ _) ?_
  refine mTr_if (fun h0 => ?_) (fun h0 => ?_)
  · skip
    exact absurd (if_pos h0) hq
  · skip
    have hp := hp h0
    refine mTr_g hp ?_
    refine mTr_if (fun h1 => ?_) (fun h1 => ?_)
    · skip
      exact mTr_k (hn (e_C_greatestStory x1 c s) ((if_neg h0).trans (if_pos h1)))
    · skip
      refine mTr_if (fun h2 => ?_) (fun h2 => ?_)
      · skip
        exact mTr_k (hn (e_C_greatestStory x1 c s) ((if_neg h0).trans ((if_neg h1).trans (if_pos h2))))
      · skip
        exact absurd ((if_neg h0).trans ((if_neg h1).trans (if_neg h2))) hq
theorem lp_C_first_27 {Post : MST → Prop} (x1 : Int32) (x2 : Int32) (c0 : Int32) (s0 : MSto) (N : Nat) (hb : ∀ i, i < N → g_C_first_27 x1 x2 (c0 + nI i) (f_C_first_27 x1 x2 c0 s0 i) ∧ ¬ q_C_first_27s x1 x2 (c0 + nI i) (f_C_first_27 x1 x2 c0 s0 i) = 1) (h : mW1 P_C_first (27, [some (mR 12 0), some (mI x1), some (mI x2), some (mI (c0 + nI N)), none], [], (f_C_first_27 x1 x2 c0 s0 N), 0, 0) Post) : mW1 P_C_first (27, [some (mR 12 0), some (mI x1), some (mI x2), some (mI c0), none], [], s0, 0, 0) Post := by
  refine mW1_st (mW1_loop (fun i => (27, [some (mR 12 0), some (mI x1), some (mI x2), some (mI (c0 + nI i)), none], [], (f_C_first_27 x1 x2 c0 s0 i), 0, 0)) N (fun i hlt hn => ?_) h) (by rw [show nI 0 = 0 from rfl, Int32.add_zero] <;> rfl)
  refine lt_C_first_27 x1 x2 _ _ (hb i hlt).1 (hb i hlt).2 (fun r hr => ?_)
  rw [Int32.add_assoc, nI_s]
  subst hr
  exact hn
set_option maxRecDepth 100000 in
set_option maxHeartbeats 4000000 in
theorem d_C_first (a1 : Int32) (σ : MSto) (hp : p_C_first a1 σ) : mW1 P_C_first (0, [some (mR 12 0), some (mI a1), none, none, none], [], σ, 0, 0) (mF [9, 24, 76, 85] [mI (v_C_first a1 σ)] (e_C_first a1 σ) 0 0) := by
  refine mW1_eq (q_C_first_e _ _) ?_
  unfold p_C_first at hp
  refine mTr_g hp.1 ?_
  have hp := hp.2
  refine mTr_if (fun h0 => ?_) (fun h0 => ?_)
  · skip
    exact mTr_e (by decide) (congrArg (fun z => [mI z]) (Eq.symm (if_pos h0))) (Eq.symm (if_pos h0)) (by decide) (by decide)
  · skip
    have hp := hp h0
    refine mTr_g hp.1 ?_
    have hp := hp.2
    refine mTr_if (fun h1 => ?_) (fun h1 => ?_)
    · skip
      exact mTr_e (by decide) (congrArg (fun z => [mI z]) (Eq.symm ((if_neg h0).trans (if_pos h1)))) (Eq.symm ((if_neg h0).trans (if_pos h1))) (by decide) (by decide)
    · skip
      have hp := hp h1
      refine mTr_k (lp_C_first_27 a1 (v_C_greatestStory a1 (-1) σ) 0 (e_C_greatestStory a1 (-1) σ) (n_C_first_27 a1 (v_C_greatestStory a1 (-1) σ) 0 (e_C_greatestStory a1 (-1) σ)) hp.1 ?_)
      have hp := hp.2
      refine mW1_eq (q_C_first_27 _ _ _ _) ?_
      refine mTr_if (fun h2 => ?_) (fun h2 => ?_)
      · skip
        exact mTr_e (by decide) (congrArg (fun z => [mI z]) (Eq.symm ((if_neg h0).trans ((if_neg h1).trans (if_pos h2))))) (Eq.symm ((if_neg h0).trans ((if_neg h1).trans (if_pos h2)))) (by decide) (by decide)
      · skip
        have hp := hp h2
        refine mTr_g hp.1 ?_
        have hp := hp.2
        refine mTr_if (fun h3 => ?_) (fun h3 => ?_)
        · skip
          have hp := hp.1 h3
          exact hp.elim
        · skip
          have hp := hp.2 h3
          refine mTr_if (fun h4 => ?_) (fun h4 => ?_)
          · skip
            have hp := hp.1 h4
            exact hp.elim
          · skip
            have hp := hp.2 h4
            refine mTr_g hp ?_
            exact mTr_e (by decide) (congrArg (fun z => [mI z]) (Eq.symm ((if_neg h0).trans ((if_neg h1).trans (if_neg h2))))) (Eq.symm ((if_neg h0).trans ((if_neg h1).trans (if_neg h2)))) (by decide) (by decide)





theorem tk_C_first : ∀ pc i nx tg, T_C_first pc = some (i, nx, tg) → mOkB prog_1_method_35_code pc i nx tg = true := code_ok (N := 86) (fun k h => by unfold T_C_first; rw [h]; rfl) (by decide +kernel)
theorem ok_C_first (l : Launch) : mPOK l "ClothWithMan" prog_1_method_35_code P_C_first := by
  refine ⟨tk_C_first, ?_, ?_, ?_, (fun pc i nx tg kd _ h => by cases h), ?_, ?_, fun pc en h => by cases h⟩
  · intro x ci f ty fin h
    exact mLook_all (Q := fun x v => mFOK "ClothWithMan" x v.1 v.2.1 v.2.2.1 v.2.2.2 ∧ (v.2.2.2 = true → pIni P_C_first = true → (Cond.fieldLink "ClothWithMan" x (((mCl[v.1]?).getD ("", fun _ => ("", "", "", false), 0)).2.1 v.2.1).1 (((mCl[v.1]?).getD ("", fun _ => ("", "", "", false), 0)).2.1 v.2.1).2.1 (((mCl[v.1]?).getD ("", fun _ => ("", "", "", false), 0)).2.1 v.2.1).2.2.1 ∈ lw_tbl ∧ (((mCl[v.1]?).getD ("", fun _ => ("", "", "", false), 0)).2.1 v.2.1).1 = "ClothWithMan"))) (fcC ⟨fo_C_40, fun h1 h2 => by cases h2⟩ (fcC ⟨fo_C_67, fun h1 h2 => by cases h2⟩ fcN)) x (ci, f, ty, fin) h
  · intro x
    have hh := mLook_all (l := ([] : List (Nat × (Int32 ⊕ Int64)))) (Q := fun x (v : Int32 ⊕ Int64) => (∀ w, v = .inl w → Cond.constant "ClothWithMan" x w ∈ lw_tbl) ∧ (∀ w, v = .inr w → Cond.constantLong "ClothWithMan" x w ∈ lw_tbl)) fcN x
    exact ⟨fun w h => (hh _ h).1 w rfl, fun w h => (hh _ h).2 w rfl⟩
  · exact fun x en h => mLook_all (Q := fun x en => mLink "ClothWithMan" x en ∧ mCtr l en ∧ (en.1.1 = 2 → en.2.2.2.2.2.2 = none)) (fcC ⟨li_C_132, c_AL_size l, (fun h => by cases h)⟩ (fcC ⟨li_C_217, c_Ro_clear l, (fun h => by cases h)⟩ (fcC ⟨li_C_223, c_Ro_add l, (fun h => by cases h)⟩ (fcC ⟨li_C_324, c_C_areForStories l, (fun h => by cases h)⟩ (fcC ⟨li_C_327, c_C_greatestStory l, (fun h => by cases h)⟩ fcN))))) x en h
  · exact fun x kd h => mLook_all (Q := fun x kd => (kd = 95 ∧ Cond.fieldLink "ClothWithMan" x "ClothWithMan" "LIKENESSES" "[I" ∈ lw_tbl) ∨ (kd = 96 ∧ Cond.fieldLink "ClothWithMan" x "ClothWithMan" "APART_BOUNDS" "[I" ∈ lw_tbl)) fcN x kd h
  · exact fun x ci h => mLook_all (Q := fun x ci => ci ≠ 0 ∧ ∃ (C : String) (T : u_T) (N : Nat), mCl[ci]? = some (C, T, N) ∧ Cond.classLink "ClothWithMan" x C ∈ lw_tbl ∧ Cond.instantiable C N ∈ lw_tbl) fcN x ci h
set_option maxRecDepth 100000 in
theorem c_C_first (l : Launch) : mCtr l E_C_first := mCtr_of (P := P_C_first) (own := "ClothWithMan") mLay_ok rfl (by decide +kernel) rfl (ok_C_first l) (fun h => by cases h) (fun as σ pr rv σ' hF hpr hlv => by
  unfold E_C_first S_C_first at hF
  simp only [] at hF
  split at hF
  · cases hF
    obtain ⟨n, pcF, c1, s1, g1, g2, g3, g4⟩ := mF_inv (d_C_first _ σ (hpr _ rfl))
    exact ⟨Nat.le_of_ble_eq_true rfl, (fun v h => by cases h; trivial), n, pcF, c1, s1, g1, ⟨mEnd_of (i := .ireturn) (P := P_C_first) (rets := [9, 24, 76, 85]) rfl g2, rfl⟩, g3, g4⟩
  · cases hF
    exact (hpr _ rfl).elim)
/-! ClothWithMan.needs(I)I -/
noncomputable def v_C_needs (a1 : Int32) (σ : MSto) : Int32 := (if (v_C_isStory a1 σ) = 0 then (-1) else (v_In_bitCount (gI σ 9 (v_AL_get 15 0 a1 σ) 0) (e_Ro_add (Int32.toInt64 (gI σ 9 (v_AL_get 15 0 a1 σ) 0)) (e_Ro_clear σ))))
def p_C_needs (a1 : Int32) (σ : MSto) : Prop := (¬ ((v_C_isStory a1 σ) = 0) → ((p_AL_get 15 0 a1 σ) ∧ (p_Ro_add (Int32.toInt64 (gI σ 9 (v_AL_get 15 0 a1 σ) 0)) (e_Ro_clear σ))))
noncomputable def e_C_needs (a1 : Int32) (σ : MSto) : MSto := (if (v_C_isStory a1 σ) = 0 then σ else (e_Ro_add (Int32.toInt64 (gI σ 9 (v_AL_get 15 0 a1 σ) 0)) (e_Ro_clear σ)))
noncomputable def S_C_needs : List MV → MSto → Option Prop × Option MV × MSto := fun as σ => match as with
  | [.inr (.inr (some (12, 0))), .inl a0] => (some (p_C_needs a0 σ), some (mI (v_C_needs a0 σ)), e_C_needs a0 σ)
  | _ => (some False, none, σ)
noncomputable def E_C_needs : MEnt := ((1, 1, 12), (6, 121, 0, 0), S_C_needs, ((⟨"ClothWithMan", "needs", "(I)I"⟩ : MethodName), prog_1_method_36_code, 3, (some .int)))

def T_C_needs : Nat → Option (Instr × Nat × List Nat) := fun k => bif Nat.blt k 46 then (bif Nat.blt k 24 then (bif Nat.blt k 10 then (bif Nat.blt k 5 then (bif Nat.blt k 1 then (bif Nat.beq k 0 then some (.aload_n 0, 1, []) else none) else (bif Nat.blt k 2 then (bif Nat.beq k 1 then some (.iload_n 1, 2, []) else none) else (bif Nat.beq k 2 then some (.invokevirtual 307, 5, []) else none))) else (bif Nat.blt k 8 then (bif Nat.beq k 5 then some (.ifCond .ne 5, 8, [10]) else none) else (bif Nat.blt k 9 then (bif Nat.beq k 8 then some (.iconst (-1), 9, []) else none) else (bif Nat.beq k 9 then some (.ireturn, 10, []) else none)))) else (bif Nat.blt k 15 then (bif Nat.blt k 11 then (bif Nat.beq k 10 then some (.aload_n 0, 11, []) else none) else (bif Nat.blt k 14 then (bif Nat.beq k 11 then some (.getfield 37, 14, []) else none) else (bif Nat.beq k 14 then some (.iload_n 1, 15, []) else none))) else (bif Nat.blt k 18 then (bif Nat.beq k 15 then some (.invokevirtual 183, 18, []) else none) else (bif Nat.blt k 21 then (bif Nat.beq k 18 then some (.checkcast 294, 21, []) else none) else (bif Nat.beq k 21 then some (.getfield 343, 24, []) else none))))) else (bif Nat.blt k 36 then (bif Nat.blt k 29 then (bif Nat.blt k 25 then (bif Nat.beq k 24 then some (.istore_n 2, 25, []) else none) else (bif Nat.blt k 26 then (bif Nat.beq k 25 then some (.aload_n 0, 26, []) else none) else (bif Nat.beq k 26 then some (.getfield 67, 29, []) else none))) else (bif Nat.blt k 32 then (bif Nat.beq k 29 then some (.invokevirtual 217, 32, []) else none) else (bif Nat.blt k 33 then (bif Nat.beq k 32 then some (.aload_n 0, 33, []) else none) else (bif Nat.beq k 33 then some (.getfield 67, 36, []) else none)))) else (bif Nat.blt k 41 then (bif Nat.blt k 37 then (bif Nat.beq k 36 then some (.iload_n 2, 37, []) else none) else (bif Nat.blt k 38 then (bif Nat.beq k 37 then some (.i2l, 38, []) else none) else (bif Nat.beq k 38 then some (.invokevirtual 223, 41, []) else none))) else (bif Nat.blt k 42 then (bif Nat.beq k 41 then some (.iload_n 2, 42, []) else none) else (bif Nat.blt k 45 then (bif Nat.beq k 42 then some (.invokestatic 260, 45, []) else none) else (bif Nat.beq k 45 then some (.ireturn, 46, []) else none)))))) else none
noncomputable def P_C_needs : MP := (T_C_needs, (fun k => mLook k [(37, (12, 5, (.object "java/util/ArrayList"), true)), (67, (12, 11, (.object "ClothWithMan$Row"), true)), (343, (9, 0, .int, false))]), (fun k => mLook k []), (fun k => mLook k [(183, E_AL_get), (217, E_Ro_clear), (223, E_Ro_add), (260, E_In_bitCount), (307, E_C_isStory)]), (fun k => mLook k []), (fun k => mLook k []), (fun k => mLook k [(294, 9)]), (fun k => mLook k []), (fun k => [9, 45].any (Nat.beq k)), (6, 121, 0, 0), false, (fun _ => none))
set_option maxRecDepth 100000 in
set_option maxHeartbeats 4000000 in
theorem q_C_needs_e (a1 : Int32) (σ : MSto) (n : Nat) : mexe KT P_C_needs (n + 1) (0, [some (mR 12 0), some (mI a1), none], [], σ, 0, 0) = mIf ((v_C_isStory a1 σ) = 0) (some (9, [], [(mI (-1))], σ, 0, 0)) (mG (p_AL_get 15 0 a1 σ) (mG (p_Ro_add (Int32.toInt64 (gI σ 9 (v_AL_get 15 0 a1 σ) 0)) (e_Ro_clear σ)) (some (45, [], [(mI (v_In_bitCount (gI σ 9 (v_AL_get 15 0 a1 σ) 0) (e_Ro_add (Int32.toInt64 (gI σ 9 (v_AL_get 15 0 a1 σ) 0)) (e_Ro_clear σ))))], (e_Ro_add (Int32.toInt64 (gI σ 9 (v_AL_get 15 0 a1 σ) 0)) (e_Ro_clear σ)), 0, 0)))) := rfl
set_option maxRecDepth 100000 in
set_option maxHeartbeats 4000000 in
theorem d_C_needs (a1 : Int32) (σ : MSto) (hp : p_C_needs a1 σ) : mW1 P_C_needs (0, [some (mR 12 0), some (mI a1), none], [], σ, 0, 0) (mF [9, 45] [mI (v_C_needs a1 σ)] (e_C_needs a1 σ) 0 0) := by
  refine mW1_eq (q_C_needs_e _ _) ?_
  unfold p_C_needs at hp
  refine mTr_if (fun h0 => ?_) (fun h0 => ?_)
  · skip
    exact mTr_e (by decide) (congrArg (fun z => [mI z]) (Eq.symm (if_pos h0))) (Eq.symm (if_pos h0)) (by decide) (by decide)
  · skip
    have hp := hp h0
    refine mTr_g hp.1 ?_
    have hp := hp.2
    refine mTr_g hp ?_
    exact mTr_e (by decide) (congrArg (fun z => [mI z]) (Eq.symm (if_neg h0))) (Eq.symm (if_neg h0)) (by decide) (by decide)





theorem tk_C_needs : ∀ pc i nx tg, T_C_needs pc = some (i, nx, tg) → mOkB prog_1_method_36_code pc i nx tg = true := code_ok (N := 46) (fun k h => by unfold T_C_needs; rw [h]; rfl) (by decide +kernel)
theorem ok_C_needs (l : Launch) : mPOK l "ClothWithMan" prog_1_method_36_code P_C_needs := by
  refine ⟨tk_C_needs, ?_, ?_, ?_, (fun pc i nx tg kd _ h => by cases h), ?_, ?_, fun pc en h => by cases h⟩
  · intro x ci f ty fin h
    exact mLook_all (Q := fun x v => mFOK "ClothWithMan" x v.1 v.2.1 v.2.2.1 v.2.2.2 ∧ (v.2.2.2 = true → pIni P_C_needs = true → (Cond.fieldLink "ClothWithMan" x (((mCl[v.1]?).getD ("", fun _ => ("", "", "", false), 0)).2.1 v.2.1).1 (((mCl[v.1]?).getD ("", fun _ => ("", "", "", false), 0)).2.1 v.2.1).2.1 (((mCl[v.1]?).getD ("", fun _ => ("", "", "", false), 0)).2.1 v.2.1).2.2.1 ∈ lw_tbl ∧ (((mCl[v.1]?).getD ("", fun _ => ("", "", "", false), 0)).2.1 v.2.1).1 = "ClothWithMan"))) (fcC ⟨fo_C_37, fun h1 h2 => by cases h2⟩ (fcC ⟨fo_C_67, fun h1 h2 => by cases h2⟩ (fcC ⟨fo_C_343, fun h1 h2 => by cases h1⟩ fcN))) x (ci, f, ty, fin) h
  · intro x
    have hh := mLook_all (l := ([] : List (Nat × (Int32 ⊕ Int64)))) (Q := fun x (v : Int32 ⊕ Int64) => (∀ w, v = .inl w → Cond.constant "ClothWithMan" x w ∈ lw_tbl) ∧ (∀ w, v = .inr w → Cond.constantLong "ClothWithMan" x w ∈ lw_tbl)) fcN x
    exact ⟨fun w h => (hh _ h).1 w rfl, fun w h => (hh _ h).2 w rfl⟩
  · exact fun x en h => mLook_all (Q := fun x en => mLink "ClothWithMan" x en ∧ mCtr l en ∧ (en.1.1 = 2 → en.2.2.2.2.2.2 = none)) (fcC ⟨li_C_183, c_AL_get l, (fun h => by cases h)⟩ (fcC ⟨li_C_217, c_Ro_clear l, (fun h => by cases h)⟩ (fcC ⟨li_C_223, c_Ro_add l, (fun h => by cases h)⟩ (fcC ⟨li_C_260, c_In_bitCount l, (fun h => by cases h)⟩ (fcC ⟨li_C_307, c_C_isStory l, (fun h => by cases h)⟩ fcN))))) x en h
  · exact fun x kd h => mLook_all (Q := fun x kd => (kd = 95 ∧ Cond.fieldLink "ClothWithMan" x "ClothWithMan" "LIKENESSES" "[I" ∈ lw_tbl) ∨ (kd = 96 ∧ Cond.fieldLink "ClothWithMan" x "ClothWithMan" "APART_BOUNDS" "[I" ∈ lw_tbl)) fcN x kd h
  · exact fun x ci h => mLook_all (Q := fun x ci => ci ≠ 0 ∧ ∃ (C : String) (T : u_T) (N : Nat), mCl[ci]? = some (C, T, N) ∧ Cond.classLink "ClothWithMan" x C ∈ lw_tbl ∧ Cond.instantiable C N ∈ lw_tbl) (fcC ⟨by decide, "ClothWithMan$Story", TX8, 9, rfl, tw_3_215, tw_3_216⟩ fcN) x ci h
set_option maxRecDepth 100000 in
theorem c_C_needs (l : Launch) : mCtr l E_C_needs := mCtr_of (P := P_C_needs) (own := "ClothWithMan") mLay_ok rfl (by decide +kernel) rfl (ok_C_needs l) (fun h => by cases h) (fun as σ pr rv σ' hF hpr hlv => by
  unfold E_C_needs S_C_needs at hF
  simp only [] at hF
  split at hF
  · cases hF
    obtain ⟨n, pcF, c1, s1, g1, g2, g3, g4⟩ := mF_inv (d_C_needs _ σ (hpr _ rfl))
    exact ⟨Nat.le_of_ble_eq_true rfl, (fun v h => by cases h; trivial), n, pcF, c1, s1, g1, ⟨mEnd_of (i := .ireturn) (P := P_C_needs) (rets := [9, 45]) rfl g2, rfl⟩, g3, g4⟩
  · cases hF
    exact (hpr _ rfl).elim)
/-! ClothWithMan.parts(II)I -/
noncomputable def vj_C_parts_j46 (x3 : Int32) (σ : MSto) : Int32 := (v_In_bitCount x3 σ)
noncomputable def ej_C_parts_j46 (x3 : Int32) (σ : MSto) : MSto := σ
noncomputable def v_C_parts (a1 : Int32) (a2 : Int32) (σ : MSto) : Int32 := (if (v_C_isPiece a1 σ) = 0 then (-1) else (if (v_C_isYear a2 σ) = 0 then (-1) else (vj_C_parts_j46 (v_C_pairsPartedBy (v_AL_get 14 0 a1 σ) a2 σ) (e_C_tellFirstPairOutside (v_C_pairsPartedBy (v_AL_get 14 0 a1 σ) a2 σ) (e_Ro_clear (e_C_pairsPartedBy (v_AL_get 14 0 a1 σ) a2 σ))))))
def p_C_parts (a1 : Int32) (a2 : Int32) (σ : MSto) : Prop := (¬ ((v_C_isPiece a1 σ) = 0) → (¬ ((v_C_isYear a2 σ) = 0) → ((p_AL_get 14 0 a1 σ) ∧ ((p_C_pairsPartedBy (v_AL_get 14 0 a1 σ) a2 σ) ∧ (p_C_tellFirstPairOutside (v_C_pairsPartedBy (v_AL_get 14 0 a1 σ) a2 σ) (e_Ro_clear (e_C_pairsPartedBy (v_AL_get 14 0 a1 σ) a2 σ)))))))
noncomputable def e_C_parts (a1 : Int32) (a2 : Int32) (σ : MSto) : MSto := (if (v_C_isPiece a1 σ) = 0 then σ else (if (v_C_isYear a2 σ) = 0 then σ else (ej_C_parts_j46 (v_C_pairsPartedBy (v_AL_get 14 0 a1 σ) a2 σ) (e_C_tellFirstPairOutside (v_C_pairsPartedBy (v_AL_get 14 0 a1 σ) a2 σ) (e_Ro_clear (e_C_pairsPartedBy (v_AL_get 14 0 a1 σ) a2 σ))))))
noncomputable def S_C_parts : List MV → MSto → Option Prop × Option MV × MSto := fun as σ => match as with
  | [.inr (.inr (some (12, 0))), .inl a0, .inl a1] => (some (p_C_parts a0 a1 σ), some (mI (v_C_parts a0 a1 σ)), e_C_parts a0 a1 σ)
  | _ => (some False, none, σ)
noncomputable def E_C_parts : MEnt := ((1, 2, 12), (10, 223, 0, 0), S_C_parts, ((⟨"ClothWithMan", "parts", "(II)I"⟩ : MethodName), prog_1_method_37_code, 4, (some .int)))

def T_C_parts : Nat → Option (Instr × Nat × List Nat) := fun k => bif Nat.blt k 51 then (bif Nat.blt k 23 then (bif Nat.blt k 12 then (bif Nat.blt k 5 then (bif Nat.blt k 1 then (bif Nat.beq k 0 then some (.aload_n 0, 1, []) else none) else (bif Nat.blt k 2 then (bif Nat.beq k 1 then some (.iload_n 1, 2, []) else none) else (bif Nat.beq k 2 then some (.invokevirtual 173, 5, []) else none))) else (bif Nat.blt k 8 then (bif Nat.beq k 5 then some (.ifCond .eq 10, 8, [15]) else none) else (bif Nat.blt k 9 then (bif Nat.beq k 8 then some (.iload_n 2, 9, []) else none) else (bif Nat.beq k 9 then some (.invokestatic 116, 12, []) else none)))) else (bif Nat.blt k 17 then (bif Nat.blt k 15 then (bif Nat.beq k 12 then some (.ifCond .ne 5, 15, [17]) else none) else (bif Nat.blt k 16 then (bif Nat.beq k 15 then some (.iconst (-1), 16, []) else none) else (bif Nat.beq k 16 then some (.ireturn, 17, []) else none))) else (bif Nat.blt k 19 then (bif Nat.blt k 18 then (bif Nat.beq k 17 then some (.aload_n 0, 18, []) else none) else (bif Nat.beq k 18 then some (.aload_n 0, 19, []) else none)) else (bif Nat.blt k 22 then (bif Nat.beq k 19 then some (.getfield 33, 22, []) else none) else (bif Nat.beq k 22 then some (.iload_n 1, 23, []) else none))))) else (bif Nat.blt k 38 then (bif Nat.blt k 30 then (bif Nat.blt k 26 then (bif Nat.beq k 23 then some (.invokevirtual 183, 26, []) else none) else (bif Nat.blt k 29 then (bif Nat.beq k 26 then some (.checkcast 168, 29, []) else none) else (bif Nat.beq k 29 then some (.iload_n 2, 30, []) else none))) else (bif Nat.blt k 34 then (bif Nat.blt k 33 then (bif Nat.beq k 30 then some (.invokevirtual 346, 33, []) else none) else (bif Nat.beq k 33 then some (.istore_n 3, 34, []) else none)) else (bif Nat.blt k 35 then (bif Nat.beq k 34 then some (.aload_n 0, 35, []) else none) else (bif Nat.beq k 35 then some (.getfield 67, 38, []) else none)))) else (bif Nat.blt k 43 then (bif Nat.blt k 41 then (bif Nat.beq k 38 then some (.invokevirtual 217, 41, []) else none) else (bif Nat.blt k 42 then (bif Nat.beq k 41 then some (.aload_n 0, 42, []) else none) else (bif Nat.beq k 42 then some (.iload_n 3, 43, []) else none))) else (bif Nat.blt k 47 then (bif Nat.blt k 46 then (bif Nat.beq k 43 then some (.invokevirtual 350, 46, []) else none) else (bif Nat.beq k 46 then some (.iload_n 3, 47, []) else none)) else (bif Nat.blt k 50 then (bif Nat.beq k 47 then some (.invokestatic 260, 50, []) else none) else (bif Nat.beq k 50 then some (.ireturn, 51, []) else none)))))) else none
noncomputable def P_C_parts : MP := (T_C_parts, (fun k => mLook k [(33, (12, 4, (.object "java/util/ArrayList"), true)), (67, (12, 11, (.object "ClothWithMan$Row"), true))]), (fun k => mLook k []), (fun k => mLook k [(116, E_C_isYear), (173, E_C_isPiece), (183, E_AL_get), (217, E_Ro_clear), (260, E_In_bitCount), (346, E_C_pairsPartedBy), (350, E_C_tellFirstPairOutside)]), (fun k => mLook k []), (fun k => mLook k []), (fun k => mLook k [(168, 7)]), (fun k => mLook k [(46, [false, false, false, true])]), (fun k => [16, 50].any (Nat.beq k)), (10, 223, 0, 0), false, (fun _ => none))
set_option maxRecDepth 100000 in
set_option maxHeartbeats 4000000 in
theorem q_C_parts_e (a1 : Int32) (a2 : Int32) (σ : MSto) (n : Nat) : mexe KT P_C_parts (n + 1) (0, [some (mR 12 0), some (mI a1), some (mI a2), none], [], σ, 0, 0) = mIf ((v_C_isPiece a1 σ) = 0) (some (16, [], [(mI (-1))], σ, 0, 0)) (mIf ((v_C_isYear a2 σ) = 0) (some (16, [], [(mI (-1))], σ, 0, 0)) (mG (p_AL_get 14 0 a1 σ) (mG (p_C_pairsPartedBy (v_AL_get 14 0 a1 σ) a2 σ) (mG (p_C_tellFirstPairOutside (v_C_pairsPartedBy (v_AL_get 14 0 a1 σ) a2 σ) (e_Ro_clear (e_C_pairsPartedBy (v_AL_get 14 0 a1 σ) a2 σ))) (mexe KT P_C_parts n (46, [none, none, none, some (mI (v_C_pairsPartedBy (v_AL_get 14 0 a1 σ) a2 σ))], [], (e_C_tellFirstPairOutside (v_C_pairsPartedBy (v_AL_get 14 0 a1 σ) a2 σ) (e_Ro_clear (e_C_pairsPartedBy (v_AL_get 14 0 a1 σ) a2 σ))), 0, 0)))))) := rfl
set_option maxRecDepth 100000 in
set_option maxHeartbeats 4000000 in
theorem q_C_parts_46 (x3 : Int32) (σ : MSto) (n : Nat) : mexe KT P_C_parts (n + 1) (46, [none, none, none, some (mI x3)], [], σ, 0, 0) = some (50, [], [(mI (v_In_bitCount x3 σ))], σ, 0, 0) := rfl
set_option maxRecDepth 100000 in
theorem lj_C_parts_j46 (x3 : Int32) (σ : MSto) : mW1 P_C_parts (46, [none, none, none, some (mI x3)], [], σ, 0, 0) (mF [16, 50] [mI (vj_C_parts_j46 x3 σ)] (ej_C_parts_j46 x3 σ) 0 0) := by
  refine mW1_eq (q_C_parts_46 _ _) ?_
  exact mTr_e (by decide) (congrArg (fun z => [mI z]) (Eq.symm (rfl))) (Eq.symm (rfl)) (by decide) (by decide)
set_option maxRecDepth 100000 in
set_option maxHeartbeats 4000000 in
theorem d_C_parts (a1 : Int32) (a2 : Int32) (σ : MSto) (hp : p_C_parts a1 a2 σ) : mW1 P_C_parts (0, [some (mR 12 0), some (mI a1), some (mI a2), none], [], σ, 0, 0) (mF [16, 50] [mI (v_C_parts a1 a2 σ)] (e_C_parts a1 a2 σ) 0 0) := by
  refine mW1_eq (q_C_parts_e _ _ _) ?_
  unfold p_C_parts at hp
  refine mTr_if (fun h0 => ?_) (fun h0 => ?_)
  · skip
    exact mTr_e (by decide) (congrArg (fun z => [mI z]) (Eq.symm (if_pos h0))) (Eq.symm (if_pos h0)) (by decide) (by decide)
  · skip
    have hp := hp h0
    refine mTr_if (fun h1 => ?_) (fun h1 => ?_)
    · skip
      exact mTr_e (by decide) (congrArg (fun z => [mI z]) (Eq.symm ((if_neg h0).trans (if_pos h1)))) (Eq.symm ((if_neg h0).trans (if_pos h1))) (by decide) (by decide)
    · skip
      have hp := hp h1
      refine mTr_g hp.1 ?_
      have hp := hp.2
      refine mTr_g hp.1 ?_
      have hp := hp.2
      refine mTr_g hp ?_
      exact mTr_k (mF_cI ((if_neg h0).trans (if_neg h1)) ((if_neg h0).trans (if_neg h1)) (lj_C_parts_j46 (v_C_pairsPartedBy (v_AL_get 14 0 a1 σ) a2 σ) (e_C_tellFirstPairOutside (v_C_pairsPartedBy (v_AL_get 14 0 a1 σ) a2 σ) (e_Ro_clear (e_C_pairsPartedBy (v_AL_get 14 0 a1 σ) a2 σ)))))
theorem li_C_350 : mLink "ClothWithMan" 350 E_C_tellFirstPairOutside := ⟨tw_4_165, tw_1_1, ⟨by decide, by decide⟩, by decide +kernel, Or.inl tw_4_162, (fun h => by cases h), (fun _ => ⟨tw_4_164, tw_0_35, TX11, 20, rfl⟩), (fun h => by cases h)⟩

theorem li_C_346 : mLink "ClothWithMan" 346 E_C_pairsPartedBy := ⟨tw_4_153, tw_1_1, ⟨by decide, by decide⟩, by decide +kernel, Or.inl tw_4_150, (fun h => by cases h), (fun _ => ⟨tw_4_152, tw_0_32, TX11, 20, rfl⟩), (fun h => by cases h)⟩






theorem tk_C_parts : ∀ pc i nx tg, T_C_parts pc = some (i, nx, tg) → mOkB prog_1_method_37_code pc i nx tg = true := code_ok (N := 51) (fun k h => by unfold T_C_parts; rw [h]; rfl) (by decide +kernel)
theorem ok_C_parts (l : Launch) : mPOK l "ClothWithMan" prog_1_method_37_code P_C_parts := by
  refine ⟨tk_C_parts, ?_, ?_, ?_, (fun pc i nx tg kd _ h => by cases h), ?_, ?_, fun pc en h => by cases h⟩
  · intro x ci f ty fin h
    exact mLook_all (Q := fun x v => mFOK "ClothWithMan" x v.1 v.2.1 v.2.2.1 v.2.2.2 ∧ (v.2.2.2 = true → pIni P_C_parts = true → (Cond.fieldLink "ClothWithMan" x (((mCl[v.1]?).getD ("", fun _ => ("", "", "", false), 0)).2.1 v.2.1).1 (((mCl[v.1]?).getD ("", fun _ => ("", "", "", false), 0)).2.1 v.2.1).2.1 (((mCl[v.1]?).getD ("", fun _ => ("", "", "", false), 0)).2.1 v.2.1).2.2.1 ∈ lw_tbl ∧ (((mCl[v.1]?).getD ("", fun _ => ("", "", "", false), 0)).2.1 v.2.1).1 = "ClothWithMan"))) (fcC ⟨fo_C_33, fun h1 h2 => by cases h2⟩ (fcC ⟨fo_C_67, fun h1 h2 => by cases h2⟩ fcN)) x (ci, f, ty, fin) h
  · intro x
    have hh := mLook_all (l := ([] : List (Nat × (Int32 ⊕ Int64)))) (Q := fun x (v : Int32 ⊕ Int64) => (∀ w, v = .inl w → Cond.constant "ClothWithMan" x w ∈ lw_tbl) ∧ (∀ w, v = .inr w → Cond.constantLong "ClothWithMan" x w ∈ lw_tbl)) fcN x
    exact ⟨fun w h => (hh _ h).1 w rfl, fun w h => (hh _ h).2 w rfl⟩
  · exact fun x en h => mLook_all (Q := fun x en => mLink "ClothWithMan" x en ∧ mCtr l en ∧ (en.1.1 = 2 → en.2.2.2.2.2.2 = none)) (fcC ⟨li_C_116, c_C_isYear l, (fun h => by cases h)⟩ (fcC ⟨li_C_173, c_C_isPiece l, (fun h => by cases h)⟩ (fcC ⟨li_C_183, c_AL_get l, (fun h => by cases h)⟩ (fcC ⟨li_C_217, c_Ro_clear l, (fun h => by cases h)⟩ (fcC ⟨li_C_260, c_In_bitCount l, (fun h => by cases h)⟩ (fcC ⟨li_C_346, c_C_pairsPartedBy l, (fun h => by cases h)⟩ (fcC ⟨li_C_350, c_C_tellFirstPairOutside l, (fun h => by cases h)⟩ fcN))))))) x en h
  · exact fun x kd h => mLook_all (Q := fun x kd => (kd = 95 ∧ Cond.fieldLink "ClothWithMan" x "ClothWithMan" "LIKENESSES" "[I" ∈ lw_tbl) ∨ (kd = 96 ∧ Cond.fieldLink "ClothWithMan" x "ClothWithMan" "APART_BOUNDS" "[I" ∈ lw_tbl)) fcN x kd h
  · exact fun x ci h => mLook_all (Q := fun x ci => ci ≠ 0 ∧ ∃ (C : String) (T : u_T) (N : Nat), mCl[ci]? = some (C, T, N) ∧ Cond.classLink "ClothWithMan" x C ∈ lw_tbl ∧ Cond.instantiable C N ∈ lw_tbl) (fcC ⟨by decide, "ClothWithMan$Piece", TX6, 6, rfl, tw_3_6, tw_3_7⟩ fcN) x ci h
set_option maxRecDepth 100000 in
theorem c_C_parts (l : Launch) : mCtr l E_C_parts := mCtr_of (P := P_C_parts) (own := "ClothWithMan") mLay_ok rfl (by decide +kernel) rfl (ok_C_parts l) (fun h => by cases h) (fun as σ pr rv σ' hF hpr hlv => by
  unfold E_C_parts S_C_parts at hF
  simp only [] at hF
  split at hF
  · cases hF
    obtain ⟨n, pcF, c1, s1, g1, g2, g3, g4⟩ := mF_inv (d_C_parts _ _ σ (hpr _ rfl))
    exact ⟨Nat.le_of_ble_eq_true rfl, (fun v h => by cases h; trivial), n, pcF, c1, s1, g1, ⟨mEnd_of (i := .ireturn) (P := P_C_parts) (rets := [16, 50]) rfl g2, rfl⟩, g3, g4⟩
  · cases hF
    exact (hpr _ rfl).elim)
/-! ClothWithMan.next(I)I -/
noncomputable def t_C_next_27 (x1 : Int32) (c : Int32) (s : Int32 × Int32 × MSto) : Int32 × Int32 × MSto := (if (v_C_pieceCount (s.2.2)) ≤ c then s else (if (gI (s.2.2) 7 (v_AL_get 14 0 c (s.2.2)) 4) = 0 then (if (v_In_bitCount (v_C_pairsPartedBy (v_AL_get 14 0 c (s.2.2)) x1 (s.2.2)) (e_C_pairsPartedBy (v_AL_get 14 0 c (s.2.2)) x1 (s.2.2))) ≤ (s.2.1) then ((s.1), (s.2.1), (e_C_pairsPartedBy (v_AL_get 14 0 c (s.2.2)) x1 (s.2.2))) else (c, (v_In_bitCount (v_C_pairsPartedBy (v_AL_get 14 0 c (s.2.2)) x1 (s.2.2)) (e_C_pairsPartedBy (v_AL_get 14 0 c (s.2.2)) x1 (s.2.2))), (e_C_pairsPartedBy (v_AL_get 14 0 c (s.2.2)) x1 (s.2.2)))) else (if ((-1) : Int32) ≤ (s.2.1) then ((s.1), (s.2.1), (s.2.2)) else (c, (-1), (s.2.2)))))
noncomputable def q_C_next_27s (x1 : Int32) (c : Int32) (s : Int32 × Int32 × MSto) : Nat := (if (v_C_pieceCount (s.2.2)) ≤ c then 1 else 0)
def g_C_next_27 (x1 : Int32) (c : Int32) (s : Int32 × Int32 × MSto) : Prop := (¬ ((v_C_pieceCount (s.2.2)) ≤ c) → ((p_AL_get 14 0 c (s.2.2)) ∧ (((gI (s.2.2) 7 (v_AL_get 14 0 c (s.2.2)) 4) = 0) → (p_C_pairsPartedBy (v_AL_get 14 0 c (s.2.2)) x1 (s.2.2)))))
noncomputable def f_C_next_27 (x1 : Int32) (c0 : Int32) (s0 : Int32 × Int32 × MSto) (n : Nat) : Int32 × Int32 × MSto := nfold (fun i s => t_C_next_27 x1 (c0 + nI i) s) s0 n
noncomputable def n_C_next_27 (x1 : Int32) (c0 : Int32) (s0 : Int32 × Int32 × MSto) : Nat := (v_C_pieceCount (s0.2.2)).toNatClampNeg
noncomputable def v_C_next (a1 : Int32) (σ : MSto) : Int32 := (if (v_C_isYear a1 σ) = 0 then (-1) else (if (v_AL_isEmpty 15 0 σ) = 0 then ((f_C_next_27 a1 0 ((-2), (-1), σ) (n_C_next_27 a1 0 ((-2), (-1), σ))).1) else (-1)))
def p_C_next (a1 : Int32) (σ : MSto) : Prop := (¬ ((v_C_isYear a1 σ) = 0) → (((v_AL_isEmpty 15 0 σ) = 0) → ((∀ i, i < (n_C_next_27 a1 0 ((-2), (-1), σ)) → g_C_next_27 a1 (0 + nI i) (f_C_next_27 a1 0 ((-2), (-1), σ) i) ∧ ¬ q_C_next_27s a1 (0 + nI i) (f_C_next_27 a1 0 ((-2), (-1), σ) i) = 1) ∧ ((((v_C_pieceCount ((f_C_next_27 a1 0 ((-2), (-1), σ) (n_C_next_27 a1 0 ((-2), (-1), σ))).2.2)) ≤ (0 + nI (n_C_next_27 a1 0 ((-2), (-1), σ)))) → (¬ (((f_C_next_27 a1 0 ((-2), (-1), σ) (n_C_next_27 a1 0 ((-2), (-1), σ))).1) = (-2)) → (p_Ro_add (Int32.toInt64 ((f_C_next_27 a1 0 ((-2), (-1), σ) (n_C_next_27 a1 0 ((-2), (-1), σ))).2.1)) (e_Ro_clear ((f_C_next_27 a1 0 ((-2), (-1), σ) (n_C_next_27 a1 0 ((-2), (-1), σ))).2.2))))) ∧ (¬ ((v_C_pieceCount ((f_C_next_27 a1 0 ((-2), (-1), σ) (n_C_next_27 a1 0 ((-2), (-1), σ))).2.2)) ≤ (0 + nI (n_C_next_27 a1 0 ((-2), (-1), σ)))) → False)))))
noncomputable def e_C_next (a1 : Int32) (σ : MSto) : MSto := (if (v_C_isYear a1 σ) = 0 then σ else (if (v_AL_isEmpty 15 0 σ) = 0 then (if ((f_C_next_27 a1 0 ((-2), (-1), σ) (n_C_next_27 a1 0 ((-2), (-1), σ))).1) = (-2) then ((f_C_next_27 a1 0 ((-2), (-1), σ) (n_C_next_27 a1 0 ((-2), (-1), σ))).2.2) else (e_Ro_add (Int32.toInt64 ((f_C_next_27 a1 0 ((-2), (-1), σ) (n_C_next_27 a1 0 ((-2), (-1), σ))).2.1)) (e_Ro_clear ((f_C_next_27 a1 0 ((-2), (-1), σ) (n_C_next_27 a1 0 ((-2), (-1), σ))).2.2)))) else σ))
noncomputable def S_C_next : List MV → MSto → Option Prop × Option MV × MSto := fun as σ => match as with
  | [.inr (.inr (some (12, 0))), .inl a0] => (some (p_C_next a0 σ), some (mI (v_C_next a0 σ)), e_C_next a0 σ)
  | _ => (some False, none, σ)
noncomputable def E_C_next : MEnt := ((1, 1, 12), (10, 223, 0, 0), S_C_next, ((⟨"ClothWithMan", "next", "(I)I"⟩ : MethodName), prog_1_method_38_code, 7, (some .int)))

def T_C_next : Nat → Option (Instr × Nat × List Nat) := fun k => bif Nat.blt k 116 then (bif Nat.blt k 59 then (bif Nat.blt k 25 then (bif Nat.blt k 17 then (bif Nat.blt k 7 then (bif Nat.blt k 1 then (bif Nat.beq k 0 then some (.iload_n 1, 1, []) else none) else (bif Nat.blt k 4 then (bif Nat.beq k 1 then some (.invokestatic 116, 4, []) else none) else (bif Nat.beq k 4 then some (.ifCond .eq 13, 7, [17]) else none))) else (bif Nat.blt k 11 then (bif Nat.blt k 8 then (bif Nat.beq k 7 then some (.aload_n 0, 8, []) else none) else (bif Nat.beq k 8 then some (.getfield 37, 11, []) else none)) else (bif Nat.blt k 14 then (bif Nat.beq k 11 then some (.invokevirtual 353, 14, []) else none) else (bif Nat.beq k 14 then some (.ifCond .eq 5, 17, [19]) else none)))) else (bif Nat.blt k 21 then (bif Nat.blt k 18 then (bif Nat.beq k 17 then some (.iconst (-1), 18, []) else none) else (bif Nat.blt k 19 then (bif Nat.beq k 18 then some (.ireturn, 19, []) else none) else (bif Nat.beq k 19 then some (.bipush (-2), 21, []) else none))) else (bif Nat.blt k 23 then (bif Nat.blt k 22 then (bif Nat.beq k 21 then some (.istore_n 2, 22, []) else none) else (bif Nat.beq k 22 then some (.iconst (-1), 23, []) else none)) else (bif Nat.blt k 24 then (bif Nat.beq k 23 then some (.istore_n 3, 24, []) else none) else (bif Nat.beq k 24 then some (.iconst 0, 25, []) else none))))) else (bif Nat.blt k 40 then (bif Nat.blt k 30 then (bif Nat.blt k 27 then (bif Nat.beq k 25 then some (.istore 4, 27, []) else none) else (bif Nat.blt k 29 then (bif Nat.beq k 27 then some (.iload 4, 29, []) else none) else (bif Nat.beq k 29 then some (.aload_n 0, 30, []) else none))) else (bif Nat.blt k 36 then (bif Nat.blt k 33 then (bif Nat.beq k 30 then some (.invokevirtual 281, 33, []) else none) else (bif Nat.beq k 33 then some (.if_icmp .ge 59, 36, [92]) else none)) else (bif Nat.blt k 37 then (bif Nat.beq k 36 then some (.aload_n 0, 37, []) else none) else (bif Nat.beq k 37 then some (.getfield 33, 40, []) else none)))) else (bif Nat.blt k 50 then (bif Nat.blt k 45 then (bif Nat.blt k 42 then (bif Nat.beq k 40 then some (.iload 4, 42, []) else none) else (bif Nat.beq k 42 then some (.invokevirtual 183, 45, []) else none)) else (bif Nat.blt k 48 then (bif Nat.beq k 45 then some (.checkcast 168, 48, []) else none) else (bif Nat.beq k 48 then some (.astore 5, 50, []) else none))) else (bif Nat.blt k 55 then (bif Nat.blt k 52 then (bif Nat.beq k 50 then some (.aload 5, 52, []) else none) else (bif Nat.beq k 52 then some (.getfield 204, 55, []) else none)) else (bif Nat.blt k 58 then (bif Nat.beq k 55 then some (.ifCond .eq 7, 58, [62]) else none) else (bif Nat.beq k 58 then some (.iconst (-1), 59, []) else none)))))) else (bif Nat.blt k 86 then (bif Nat.blt k 74 then (bif Nat.blt k 65 then (bif Nat.blt k 62 then (bif Nat.beq k 59 then some (.goto 13, 62, [72]) else none) else (bif Nat.blt k 63 then (bif Nat.beq k 62 then some (.aload_n 0, 63, []) else none) else (bif Nat.beq k 63 then some (.aload 5, 65, []) else none))) else (bif Nat.blt k 69 then (bif Nat.blt k 66 then (bif Nat.beq k 65 then some (.iload_n 1, 66, []) else none) else (bif Nat.beq k 66 then some (.invokevirtual 346, 69, []) else none)) else (bif Nat.blt k 72 then (bif Nat.beq k 69 then some (.invokestatic 260, 72, []) else none) else (bif Nat.beq k 72 then some (.istore 6, 74, []) else none)))) else (bif Nat.blt k 80 then (bif Nat.blt k 76 then (bif Nat.beq k 74 then some (.iload 6, 76, []) else none) else (bif Nat.blt k 77 then (bif Nat.beq k 76 then some (.iload_n 3, 77, []) else none) else (bif Nat.beq k 77 then some (.if_icmp .le 9, 80, [86]) else none))) else (bif Nat.blt k 83 then (bif Nat.blt k 82 then (bif Nat.beq k 80 then some (.iload 4, 82, []) else none) else (bif Nat.beq k 82 then some (.istore_n 2, 83, []) else none)) else (bif Nat.blt k 85 then (bif Nat.beq k 83 then some (.iload 6, 85, []) else none) else (bif Nat.beq k 85 then some (.istore_n 3, 86, []) else none))))) else (bif Nat.blt k 102 then (bif Nat.blt k 93 then (bif Nat.blt k 89 then (bif Nat.beq k 86 then some (.iinc 4 1, 89, []) else none) else (bif Nat.blt k 92 then (bif Nat.beq k 89 then some (.goto (-62), 92, [27]) else none) else (bif Nat.beq k 92 then some (.iload_n 2, 93, []) else none))) else (bif Nat.blt k 98 then (bif Nat.blt k 95 then (bif Nat.beq k 93 then some (.bipush (-2), 95, []) else none) else (bif Nat.beq k 95 then some (.if_icmp .eq 19, 98, [114]) else none)) else (bif Nat.blt k 99 then (bif Nat.beq k 98 then some (.aload_n 0, 99, []) else none) else (bif Nat.beq k 99 then some (.getfield 67, 102, []) else none)))) else (bif Nat.blt k 110 then (bif Nat.blt k 106 then (bif Nat.blt k 105 then (bif Nat.beq k 102 then some (.invokevirtual 217, 105, []) else none) else (bif Nat.beq k 105 then some (.aload_n 0, 106, []) else none)) else (bif Nat.blt k 109 then (bif Nat.beq k 106 then some (.getfield 67, 109, []) else none) else (bif Nat.beq k 109 then some (.iload_n 3, 110, []) else none))) else (bif Nat.blt k 114 then (bif Nat.blt k 111 then (bif Nat.beq k 110 then some (.i2l, 111, []) else none) else (bif Nat.beq k 111 then some (.invokevirtual 223, 114, []) else none)) else (bif Nat.blt k 115 then (bif Nat.beq k 114 then some (.iload_n 2, 115, []) else none) else (bif Nat.beq k 115 then some (.ireturn, 116, []) else none))))))) else none
noncomputable def P_C_next : MP := (T_C_next, (fun k => mLook k [(33, (12, 4, (.object "java/util/ArrayList"), true)), (37, (12, 5, (.object "java/util/ArrayList"), true)), (67, (12, 11, (.object "ClothWithMan$Row"), true)), (204, (7, 4, .boolean, false))]), (fun k => mLook k []), (fun k => mLook k [(116, E_C_isYear), (183, E_AL_get), (217, E_Ro_clear), (223, E_Ro_add), (260, E_In_bitCount), (281, E_C_pieceCount), (346, E_C_pairsPartedBy), (353, E_AL_isEmpty)]), (fun k => mLook k []), (fun k => mLook k []), (fun k => mLook k [(168, 7)]), (fun k => mLook k [(27, [true, true, true, true, true, false, false])]), (fun k => [18, 115].any (Nat.beq k)), (10, 223, 0, 0), false, (fun _ => none))
set_option maxRecDepth 100000 in
set_option maxHeartbeats 4000000 in
theorem q_C_next_e (a1 : Int32) (σ : MSto) (n : Nat) : mexe KT P_C_next (n + 1) (0, [some (mR 12 0), some (mI a1), none, none, none, none, none], [], σ, 0, 0) = mIf ((v_C_isYear a1 σ) = 0) (some (18, [], [(mI (-1))], σ, 0, 0)) (mIf ((v_AL_isEmpty 15 0 σ) = 0) (mexe KT P_C_next n (27, [some (mR 12 0), some (mI a1), some (mI (-2)), some (mI (-1)), some (mI 0), none, none], [], σ, 0, 0)) (some (18, [], [(mI (-1))], σ, 0, 0))) := rfl
set_option maxRecDepth 100000 in
set_option maxHeartbeats 4000000 in
theorem q_C_next_27 (x1 : Int32) (x2 : Int32) (x3 : Int32) (x4 : Int32) (σ : MSto) (n : Nat) : mexe KT P_C_next (n + 1) (27, [some (mR 12 0), some (mI x1), some (mI x2), some (mI x3), some (mI x4), none, none], [], σ, 0, 0) = mIf ((v_C_pieceCount σ) ≤ x4) (mIf (x2 = (-2)) (some (115, [], [(mI x2)], σ, 0, 0)) (mG (p_Ro_add (Int32.toInt64 x3) (e_Ro_clear σ)) (some (115, [], [(mI x2)], (e_Ro_add (Int32.toInt64 x3) (e_Ro_clear σ)), 0, 0)))) (mG (p_AL_get 14 0 x4 σ) (mIf ((gI σ 7 (v_AL_get 14 0 x4 σ) 4) = 0) (mG (p_C_pairsPartedBy (v_AL_get 14 0 x4 σ) x1 σ) (mIf ((v_In_bitCount (v_C_pairsPartedBy (v_AL_get 14 0 x4 σ) x1 σ) (e_C_pairsPartedBy (v_AL_get 14 0 x4 σ) x1 σ)) ≤ x3) (mexe KT P_C_next n (27, [some (mR 12 0), some (mI x1), some (mI x2), some (mI x3), some (mI (x4 + 1)), none, none], [], (e_C_pairsPartedBy (v_AL_get 14 0 x4 σ) x1 σ), 0, 0)) (mexe KT P_C_next n (27, [some (mR 12 0), some (mI x1), some (mI x4), some (mI (v_In_bitCount (v_C_pairsPartedBy (v_AL_get 14 0 x4 σ) x1 σ) (e_C_pairsPartedBy (v_AL_get 14 0 x4 σ) x1 σ))), some (mI (x4 + 1)), none, none], [], (e_C_pairsPartedBy (v_AL_get 14 0 x4 σ) x1 σ), 0, 0)))) (mIf (((-1) : Int32) ≤ x3) (mexe KT P_C_next n (27, [some (mR 12 0), some (mI x1), some (mI x2), some (mI x3), some (mI (x4 + 1)), none, none], [], σ, 0, 0)) (mexe KT P_C_next n (27, [some (mR 12 0), some (mI x1), some (mI x4), some (mI (-1)), some (mI (x4 + 1)), none, none], [], σ, 0, 0))))) := rfl
set_option maxRecDepth 100000 in
theorem lt_C_next_27 {Post : MST → Prop} (x1 : Int32) (c : Int32) (s : Int32 × Int32 × MSto) (hp : g_C_next_27 x1 c s) (hq : ¬ q_C_next_27s x1 c s = 1) (hn : ∀ (r1 : Int32) (r2 : Int32) (r3 : MSto), t_C_next_27 x1 c s = (r1, r2, r3) → mW1 P_C_next (27, [some (mR 12 0), some (mI x1), some (mI r1), some (mI r2), some (mI (c + 1)), none, none], [], r3, 0, 0) Post) : mW1 P_C_next (27, [some (mR 12 0), some (mI x1), some (mI (s.1)), some (mI (s.2.1)), some (mI c), none, none], [], (s.2.2), 0, 0) Post := by
  unfold g_C_next_27 at hp
  refine mW1_eq (q_C_next_27 _ _ _ _ _) ?_
  refine mTr_if (fun h0 => ?_) (fun h0 => ?_)
  · skip
    exact absurd (if_pos h0) hq
  · skip
    have hp := hp h0
    refine mTr_g hp.1 ?_
    have hp := hp.2
    refine mTr_if (fun h1 => ?_) (fun h1 => ?_)
    · skip
      have hp := hp h1
      refine mTr_g hp ?_
      refine mTr_if (fun h2 => ?_) (fun h2 => ?_)
      · skip
        exact mTr_k (hn (s.1) (s.2.1) (e_C_pairsPartedBy (v_AL_get 14 0 c (s.2.2)) x1 (s.2.2)) ((if_neg h0).trans ((if_pos h1).trans (if_pos h2))))
      · skip
        exact mTr_k (hn c (v_In_bitCount (v_C_pairsPartedBy (v_AL_get 14 0 c (s.2.2)) x1 (s.2.2)) (e_C_pairsPartedBy (v_AL_get 14 0 c (s.2.2)) x1 (s.2.2))) (e_C_pairsPartedBy (v_AL_get 14 0 c (s.2.2)) x1 (s.2.2)) ((if_neg h0).trans ((if_pos h1).trans (if_neg h2))))
    · skip
      refine mTr_if (fun h2 => ?_) (fun h2 => ?_)
      · skip
        exact mTr_k (hn (s.1) (s.2.1) (s.2.2) ((if_neg h0).trans ((if_neg h1).trans (if_pos h2))))
      · skip
        exact mTr_k (hn c (-1) (s.2.2) ((if_neg h0).trans ((if_neg h1).trans (if_neg h2))))
theorem lp_C_next_27 {Post : MST → Prop} (x1 : Int32) (c0 : Int32) (s0 : Int32 × Int32 × MSto) (N : Nat) (hb : ∀ i, i < N → g_C_next_27 x1 (c0 + nI i) (f_C_next_27 x1 c0 s0 i) ∧ ¬ q_C_next_27s x1 (c0 + nI i) (f_C_next_27 x1 c0 s0 i) = 1) (h : mW1 P_C_next (27, [some (mR 12 0), some (mI x1), some (mI ((f_C_next_27 x1 c0 s0 N).1)), some (mI ((f_C_next_27 x1 c0 s0 N).2.1)), some (mI (c0 + nI N)), none, none], [], ((f_C_next_27 x1 c0 s0 N).2.2), 0, 0) Post) : mW1 P_C_next (27, [some (mR 12 0), some (mI x1), some (mI (s0.1)), some (mI (s0.2.1)), some (mI c0), none, none], [], (s0.2.2), 0, 0) Post := by
  refine mW1_st (mW1_loop (fun i => (27, [some (mR 12 0), some (mI x1), some (mI ((f_C_next_27 x1 c0 s0 i).1)), some (mI ((f_C_next_27 x1 c0 s0 i).2.1)), some (mI (c0 + nI i)), none, none], [], ((f_C_next_27 x1 c0 s0 i).2.2), 0, 0)) N (fun i hlt hn => ?_) h) (by rw [show nI 0 = 0 from rfl, Int32.add_zero] <;> rfl)
  refine lt_C_next_27 x1 _ _ (hb i hlt).1 (hb i hlt).2 (fun r1 r2 r3 hr => ?_)
  rw [Int32.add_assoc, nI_s]
  have e : f_C_next_27 x1 c0 s0 (i + 1) = (r1, r2, r3) := hr
  try dsimp only at hn
  rw [e] at hn
  exact hn
set_option maxRecDepth 100000 in
set_option maxHeartbeats 4000000 in
theorem d_C_next (a1 : Int32) (σ : MSto) (hp : p_C_next a1 σ) : mW1 P_C_next (0, [some (mR 12 0), some (mI a1), none, none, none, none, none], [], σ, 0, 0) (mF [18, 115] [mI (v_C_next a1 σ)] (e_C_next a1 σ) 0 0) := by
  refine mW1_eq (q_C_next_e _ _) ?_
  unfold p_C_next at hp
  refine mTr_if (fun h0 => ?_) (fun h0 => ?_)
  · skip
    exact mTr_e (by decide) (congrArg (fun z => [mI z]) (Eq.symm (if_pos h0))) (Eq.symm (if_pos h0)) (by decide) (by decide)
  · skip
    have hp := hp h0
    refine mTr_if (fun h1 => ?_) (fun h1 => ?_)
    · skip
      have hp := hp h1
      refine mTr_k (lp_C_next_27 a1 0 ((-2), (-1), σ) (n_C_next_27 a1 0 ((-2), (-1), σ)) hp.1 ?_)
      have hp := hp.2
      refine mW1_eq (q_C_next_27 _ _ _ _ _) ?_
      refine mTr_if (fun h2 => ?_) (fun h2 => ?_)
      · skip
        have hp := hp.1 h2
        refine mTr_if (fun h3 => ?_) (fun h3 => ?_)
        · skip
          exact mTr_e (by decide) (congrArg (fun z => [mI z]) (Eq.symm ((if_neg h0).trans (if_pos h1)))) (Eq.symm ((if_neg h0).trans ((if_pos h1).trans (if_pos h3)))) (by decide) (by decide)
        · skip
          have hp := hp h3
          refine mTr_g hp ?_
          exact mTr_e (by decide) (congrArg (fun z => [mI z]) (Eq.symm ((if_neg h0).trans (if_pos h1)))) (Eq.symm ((if_neg h0).trans ((if_pos h1).trans (if_neg h3)))) (by decide) (by decide)
      · skip
        have hp := hp.2 h2
        exact hp.elim
    · skip
      exact mTr_e (by decide) (congrArg (fun z => [mI z]) (Eq.symm ((if_neg h0).trans (if_neg h1)))) (Eq.symm ((if_neg h0).trans (if_neg h1))) (by decide) (by decide)








theorem tk_C_next : ∀ pc i nx tg, T_C_next pc = some (i, nx, tg) → mOkB prog_1_method_38_code pc i nx tg = true := code_ok (N := 116) (fun k h => by unfold T_C_next; rw [h]; rfl) (by decide +kernel)
theorem ok_C_next (l : Launch) : mPOK l "ClothWithMan" prog_1_method_38_code P_C_next := by
  refine ⟨tk_C_next, ?_, ?_, ?_, (fun pc i nx tg kd _ h => by cases h), ?_, ?_, fun pc en h => by cases h⟩
  · intro x ci f ty fin h
    exact mLook_all (Q := fun x v => mFOK "ClothWithMan" x v.1 v.2.1 v.2.2.1 v.2.2.2 ∧ (v.2.2.2 = true → pIni P_C_next = true → (Cond.fieldLink "ClothWithMan" x (((mCl[v.1]?).getD ("", fun _ => ("", "", "", false), 0)).2.1 v.2.1).1 (((mCl[v.1]?).getD ("", fun _ => ("", "", "", false), 0)).2.1 v.2.1).2.1 (((mCl[v.1]?).getD ("", fun _ => ("", "", "", false), 0)).2.1 v.2.1).2.2.1 ∈ lw_tbl ∧ (((mCl[v.1]?).getD ("", fun _ => ("", "", "", false), 0)).2.1 v.2.1).1 = "ClothWithMan"))) (fcC ⟨fo_C_33, fun h1 h2 => by cases h2⟩ (fcC ⟨fo_C_37, fun h1 h2 => by cases h2⟩ (fcC ⟨fo_C_67, fun h1 h2 => by cases h2⟩ (fcC ⟨fo_C_204, fun h1 h2 => by cases h1⟩ fcN)))) x (ci, f, ty, fin) h
  · intro x
    have hh := mLook_all (l := ([] : List (Nat × (Int32 ⊕ Int64)))) (Q := fun x (v : Int32 ⊕ Int64) => (∀ w, v = .inl w → Cond.constant "ClothWithMan" x w ∈ lw_tbl) ∧ (∀ w, v = .inr w → Cond.constantLong "ClothWithMan" x w ∈ lw_tbl)) fcN x
    exact ⟨fun w h => (hh _ h).1 w rfl, fun w h => (hh _ h).2 w rfl⟩
  · exact fun x en h => mLook_all (Q := fun x en => mLink "ClothWithMan" x en ∧ mCtr l en ∧ (en.1.1 = 2 → en.2.2.2.2.2.2 = none)) (fcC ⟨li_C_116, c_C_isYear l, (fun h => by cases h)⟩ (fcC ⟨li_C_183, c_AL_get l, (fun h => by cases h)⟩ (fcC ⟨li_C_217, c_Ro_clear l, (fun h => by cases h)⟩ (fcC ⟨li_C_223, c_Ro_add l, (fun h => by cases h)⟩ (fcC ⟨li_C_260, c_In_bitCount l, (fun h => by cases h)⟩ (fcC ⟨li_C_281, c_C_pieceCount l, (fun h => by cases h)⟩ (fcC ⟨li_C_346, c_C_pairsPartedBy l, (fun h => by cases h)⟩ (fcC ⟨li_C_353, c_AL_isEmpty l, (fun h => by cases h)⟩ fcN)))))))) x en h
  · exact fun x kd h => mLook_all (Q := fun x kd => (kd = 95 ∧ Cond.fieldLink "ClothWithMan" x "ClothWithMan" "LIKENESSES" "[I" ∈ lw_tbl) ∨ (kd = 96 ∧ Cond.fieldLink "ClothWithMan" x "ClothWithMan" "APART_BOUNDS" "[I" ∈ lw_tbl)) fcN x kd h
  · exact fun x ci h => mLook_all (Q := fun x ci => ci ≠ 0 ∧ ∃ (C : String) (T : u_T) (N : Nat), mCl[ci]? = some (C, T, N) ∧ Cond.classLink "ClothWithMan" x C ∈ lw_tbl ∧ Cond.instantiable C N ∈ lw_tbl) (fcC ⟨by decide, "ClothWithMan$Piece", TX6, 6, rfl, tw_3_6, tw_3_7⟩ fcN) x ci h
set_option maxRecDepth 100000 in
theorem c_C_next (l : Launch) : mCtr l E_C_next := mCtr_of (P := P_C_next) (own := "ClothWithMan") mLay_ok rfl (by decide +kernel) rfl (ok_C_next l) (fun h => by cases h) (fun as σ pr rv σ' hF hpr hlv => by
  unfold E_C_next S_C_next at hF
  simp only [] at hF
  split at hF
  · cases hF
    obtain ⟨n, pcF, c1, s1, g1, g2, g3, g4⟩ := mF_inv (d_C_next _ σ (hpr _ rfl))
    exact ⟨Nat.le_of_ble_eq_true rfl, (fun v h => by cases h; trivial), n, pcF, c1, s1, g1, ⟨mEnd_of (i := .ireturn) (P := P_C_next) (rets := [18, 115]) rfl g2, rfl⟩, g3, g4⟩
  · cases hF
    exact (hpr _ rfl).elim)
/-! ClothWithMan.fewest(I)I -/
noncomputable def t_C_fewest_54 (x2 : Int32) (c : Int32) (σ : MSto) (s : Int32) : Int32 := (if ((1 : Int32) <<< (x2 &&& 31)) ≤ c then s else (if s = (-1) then (if (v_C_partedByAny c σ) = (v_C_allPairs σ) then c else s) else (if (v_In_bitCount s σ) ≤ (v_In_bitCount c σ) then s else (if (v_C_partedByAny c σ) = (v_C_allPairs σ) then c else s))))
noncomputable def q_C_fewest_54s (x2 : Int32) (c : Int32) (σ : MSto) (s : Int32) : Nat := (if ((1 : Int32) <<< (x2 &&& 31)) ≤ c then 1 else 0)
def g_C_fewest_54 (x2 : Int32) (c : Int32) (σ : MSto) (s : Int32) : Prop := (¬ (((1 : Int32) <<< (x2 &&& 31)) ≤ c) → (((s = (-1)) → (p_C_partedByAny c σ)) ∧ (¬ (s = (-1)) → (¬ ((v_In_bitCount s σ) ≤ (v_In_bitCount c σ)) → (p_C_partedByAny c σ)))))
noncomputable def f_C_fewest_54 (x2 : Int32) (c0 : Int32) (σ : MSto) (s0 : Int32) (n : Nat) : Int32 := nfold (fun i s => t_C_fewest_54 x2 (c0 + nI i) σ s) s0 n
noncomputable def n_C_fewest_54 (x2 : Int32) (c0 : Int32) (σ : MSto) (s0 : Int32) : Nat := 2^x2.toNatClampNeg
noncomputable def tj_C_fewest_16j43 (x1 : Int32) (x2 : Int32) (x3 : Int32) (σ : MSto) (s : MSto) : MSto := σ
noncomputable def qj_C_fewest_16j43 (x1 : Int32) (x2 : Int32) (x3 : Int32) (σ : MSto) : Nat := 0
noncomputable def t_C_fewest_16 (x1 : Int32) (x2 : Int32) (c : Int32) (s : MSto) : MSto := (if x2 ≤ c then s else (tj_C_fewest_16j43 x1 x2 c (sI (e_C_pairsPartedBy (v_AL_get 14 0 c s) x1 s) 30 0 (Int32.toNatClampNeg c) (v_C_pairsPartedBy (v_AL_get 14 0 c s) x1 s)) s))
noncomputable def q_C_fewest_16s (x1 : Int32) (x2 : Int32) (c : Int32) (s : MSto) : Nat := (if x2 ≤ c then 1 else 0)
def g_C_fewest_16 (x1 : Int32) (x2 : Int32) (c : Int32) (s : MSto) : Prop := (¬ (x2 ≤ c) → ((p_AL_get 14 0 c s) ∧ ((p_C_pairsPartedBy (v_AL_get 14 0 c s) x1 s) ∧ (vp_in c 12))))
noncomputable def f_C_fewest_16 (x1 : Int32) (x2 : Int32) (c0 : Int32) (s0 : MSto) (n : Nat) : MSto := nfold (fun i s => t_C_fewest_16 x1 x2 (c0 + nI i) s) s0 n
noncomputable def n_C_fewest_16 (x1 : Int32) (x2 : Int32) (c0 : Int32) (s0 : MSto) : Nat := x2.toNatClampNeg
noncomputable def v_C_fewest (a1 : Int32) (σ : MSto) : Int32 := (if (v_C_isYear a1 σ) = 0 then (-1) else (if (f_C_fewest_54 (v_C_pieceCount σ) 0 (f_C_fewest_16 a1 (v_C_pieceCount σ) 0 σ (n_C_fewest_16 a1 (v_C_pieceCount σ) 0 σ)) (-1) (n_C_fewest_54 (v_C_pieceCount σ) 0 (f_C_fewest_16 a1 (v_C_pieceCount σ) 0 σ (n_C_fewest_16 a1 (v_C_pieceCount σ) 0 σ)) (-1))) = (-1) then (-2) else (v_In_bitCount (f_C_fewest_54 (v_C_pieceCount σ) 0 (f_C_fewest_16 a1 (v_C_pieceCount σ) 0 σ (n_C_fewest_16 a1 (v_C_pieceCount σ) 0 σ)) (-1) (n_C_fewest_54 (v_C_pieceCount σ) 0 (f_C_fewest_16 a1 (v_C_pieceCount σ) 0 σ (n_C_fewest_16 a1 (v_C_pieceCount σ) 0 σ)) (-1))) (e_Ro_add (Int32.toInt64 (f_C_fewest_54 (v_C_pieceCount σ) 0 (f_C_fewest_16 a1 (v_C_pieceCount σ) 0 σ (n_C_fewest_16 a1 (v_C_pieceCount σ) 0 σ)) (-1) (n_C_fewest_54 (v_C_pieceCount σ) 0 (f_C_fewest_16 a1 (v_C_pieceCount σ) 0 σ (n_C_fewest_16 a1 (v_C_pieceCount σ) 0 σ)) (-1)))) (e_Ro_clear (f_C_fewest_16 a1 (v_C_pieceCount σ) 0 σ (n_C_fewest_16 a1 (v_C_pieceCount σ) 0 σ)))))))
def p_C_fewest (a1 : Int32) (σ : MSto) : Prop := (¬ ((v_C_isYear a1 σ) = 0) → ((∀ i, i < (n_C_fewest_16 a1 (v_C_pieceCount σ) 0 σ) → g_C_fewest_16 a1 (v_C_pieceCount σ) (0 + nI i) (f_C_fewest_16 a1 (v_C_pieceCount σ) 0 σ i) ∧ ¬ q_C_fewest_16s a1 (v_C_pieceCount σ) (0 + nI i) (f_C_fewest_16 a1 (v_C_pieceCount σ) 0 σ i) = 1) ∧ ((((v_C_pieceCount σ) ≤ (0 + nI (n_C_fewest_16 a1 (v_C_pieceCount σ) 0 σ))) → ((∀ i, i < (n_C_fewest_54 (v_C_pieceCount σ) 0 (f_C_fewest_16 a1 (v_C_pieceCount σ) 0 σ (n_C_fewest_16 a1 (v_C_pieceCount σ) 0 σ)) (-1)) → g_C_fewest_54 (v_C_pieceCount σ) (0 + nI i) (f_C_fewest_16 a1 (v_C_pieceCount σ) 0 σ (n_C_fewest_16 a1 (v_C_pieceCount σ) 0 σ)) (f_C_fewest_54 (v_C_pieceCount σ) 0 (f_C_fewest_16 a1 (v_C_pieceCount σ) 0 σ (n_C_fewest_16 a1 (v_C_pieceCount σ) 0 σ)) (-1) i) ∧ ¬ q_C_fewest_54s (v_C_pieceCount σ) (0 + nI i) (f_C_fewest_16 a1 (v_C_pieceCount σ) 0 σ (n_C_fewest_16 a1 (v_C_pieceCount σ) 0 σ)) (f_C_fewest_54 (v_C_pieceCount σ) 0 (f_C_fewest_16 a1 (v_C_pieceCount σ) 0 σ (n_C_fewest_16 a1 (v_C_pieceCount σ) 0 σ)) (-1) i) = 1) ∧ (((((1 : Int32) <<< ((v_C_pieceCount σ) &&& 31)) ≤ (0 + nI (n_C_fewest_54 (v_C_pieceCount σ) 0 (f_C_fewest_16 a1 (v_C_pieceCount σ) 0 σ (n_C_fewest_16 a1 (v_C_pieceCount σ) 0 σ)) (-1)))) → (¬ ((f_C_fewest_54 (v_C_pieceCount σ) 0 (f_C_fewest_16 a1 (v_C_pieceCount σ) 0 σ (n_C_fewest_16 a1 (v_C_pieceCount σ) 0 σ)) (-1) (n_C_fewest_54 (v_C_pieceCount σ) 0 (f_C_fewest_16 a1 (v_C_pieceCount σ) 0 σ (n_C_fewest_16 a1 (v_C_pieceCount σ) 0 σ)) (-1))) = (-1)) → (p_Ro_add (Int32.toInt64 (f_C_fewest_54 (v_C_pieceCount σ) 0 (f_C_fewest_16 a1 (v_C_pieceCount σ) 0 σ (n_C_fewest_16 a1 (v_C_pieceCount σ) 0 σ)) (-1) (n_C_fewest_54 (v_C_pieceCount σ) 0 (f_C_fewest_16 a1 (v_C_pieceCount σ) 0 σ (n_C_fewest_16 a1 (v_C_pieceCount σ) 0 σ)) (-1)))) (e_Ro_clear (f_C_fewest_16 a1 (v_C_pieceCount σ) 0 σ (n_C_fewest_16 a1 (v_C_pieceCount σ) 0 σ)))))) ∧ (¬ (((1 : Int32) <<< ((v_C_pieceCount σ) &&& 31)) ≤ (0 + nI (n_C_fewest_54 (v_C_pieceCount σ) 0 (f_C_fewest_16 a1 (v_C_pieceCount σ) 0 σ (n_C_fewest_16 a1 (v_C_pieceCount σ) 0 σ)) (-1)))) → False)))) ∧ (¬ ((v_C_pieceCount σ) ≤ (0 + nI (n_C_fewest_16 a1 (v_C_pieceCount σ) 0 σ))) → False))))
noncomputable def e_C_fewest (a1 : Int32) (σ : MSto) : MSto := (if (v_C_isYear a1 σ) = 0 then σ else (if (f_C_fewest_54 (v_C_pieceCount σ) 0 (f_C_fewest_16 a1 (v_C_pieceCount σ) 0 σ (n_C_fewest_16 a1 (v_C_pieceCount σ) 0 σ)) (-1) (n_C_fewest_54 (v_C_pieceCount σ) 0 (f_C_fewest_16 a1 (v_C_pieceCount σ) 0 σ (n_C_fewest_16 a1 (v_C_pieceCount σ) 0 σ)) (-1))) = (-1) then (f_C_fewest_16 a1 (v_C_pieceCount σ) 0 σ (n_C_fewest_16 a1 (v_C_pieceCount σ) 0 σ)) else (e_Ro_add (Int32.toInt64 (f_C_fewest_54 (v_C_pieceCount σ) 0 (f_C_fewest_16 a1 (v_C_pieceCount σ) 0 σ (n_C_fewest_16 a1 (v_C_pieceCount σ) 0 σ)) (-1) (n_C_fewest_54 (v_C_pieceCount σ) 0 (f_C_fewest_16 a1 (v_C_pieceCount σ) 0 σ (n_C_fewest_16 a1 (v_C_pieceCount σ) 0 σ)) (-1)))) (e_Ro_clear (f_C_fewest_16 a1 (v_C_pieceCount σ) 0 σ (n_C_fewest_16 a1 (v_C_pieceCount σ) 0 σ))))))
noncomputable def S_C_fewest : List MV → MSto → Option Prop × Option MV × MSto := fun as σ => match as with
  | [.inr (.inr (some (12, 0))), .inl a0] => (some (p_C_fewest a0 σ), some (mI (v_C_fewest a0 σ)), e_C_fewest a0 σ)
  | _ => (some False, none, σ)
noncomputable def E_C_fewest : MEnt := ((1, 1, 12), (10, 223, 0, 0), S_C_fewest, ((⟨"ClothWithMan", "fewest", "(I)I"⟩ : MethodName), prog_1_method_39_code, 6, (some .int)))

def T_C_fewest : Nat → Option (Instr × Nat × List Nat) := fun k => bif Nat.blt k 142 then (bif Nat.blt k 64 then (bif Nat.blt k 31 then (bif Nat.blt k 15 then (bif Nat.blt k 8 then (bif Nat.blt k 4 then (bif Nat.blt k 1 then (bif Nat.beq k 0 then some (.iload_n 1, 1, []) else none) else (bif Nat.beq k 1 then some (.invokestatic 116, 4, []) else none)) else (bif Nat.blt k 7 then (bif Nat.beq k 4 then some (.ifCond .ne 5, 7, [9]) else none) else (bif Nat.beq k 7 then some (.iconst (-1), 8, []) else none))) else (bif Nat.blt k 10 then (bif Nat.blt k 9 then (bif Nat.beq k 8 then some (.ireturn, 9, []) else none) else (bif Nat.beq k 9 then some (.aload_n 0, 10, []) else none)) else (bif Nat.blt k 13 then (bif Nat.beq k 10 then some (.invokevirtual 281, 13, []) else none) else (bif Nat.blt k 14 then (bif Nat.beq k 13 then some (.istore_n 2, 14, []) else none) else (bif Nat.beq k 14 then some (.iconst 0, 15, []) else none))))) else (bif Nat.blt k 22 then (bif Nat.blt k 17 then (bif Nat.blt k 16 then (bif Nat.beq k 15 then some (.istore_n 3, 16, []) else none) else (bif Nat.beq k 16 then some (.iload_n 3, 17, []) else none)) else (bif Nat.blt k 18 then (bif Nat.beq k 17 then some (.iload_n 2, 18, []) else none) else (bif Nat.blt k 21 then (bif Nat.beq k 18 then some (.if_icmp .ge 31, 21, [49]) else none) else (bif Nat.beq k 21 then some (.aload_n 0, 22, []) else none)))) else (bif Nat.blt k 26 then (bif Nat.blt k 25 then (bif Nat.beq k 22 then some (.getfield 89, 25, []) else none) else (bif Nat.beq k 25 then some (.iload_n 3, 26, []) else none)) else (bif Nat.blt k 27 then (bif Nat.beq k 26 then some (.aload_n 0, 27, []) else none) else (bif Nat.blt k 28 then (bif Nat.beq k 27 then some (.aload_n 0, 28, []) else none) else (bif Nat.beq k 28 then some (.getfield 33, 31, []) else none)))))) else (bif Nat.blt k 50 then (bif Nat.blt k 39 then (bif Nat.blt k 35 then (bif Nat.blt k 32 then (bif Nat.beq k 31 then some (.iload_n 3, 32, []) else none) else (bif Nat.beq k 32 then some (.invokevirtual 183, 35, []) else none)) else (bif Nat.blt k 38 then (bif Nat.beq k 35 then some (.checkcast 168, 38, []) else none) else (bif Nat.beq k 38 then some (.iload_n 1, 39, []) else none))) else (bif Nat.blt k 43 then (bif Nat.blt k 42 then (bif Nat.beq k 39 then some (.invokevirtual 346, 42, []) else none) else (bif Nat.beq k 42 then some (.iastore, 43, []) else none)) else (bif Nat.blt k 46 then (bif Nat.beq k 43 then some (.iinc 3 1, 46, []) else none) else (bif Nat.blt k 49 then (bif Nat.beq k 46 then some (.goto (-30), 49, [16]) else none) else (bif Nat.beq k 49 then some (.iconst (-1), 50, []) else none))))) else (bif Nat.blt k 57 then (bif Nat.blt k 52 then (bif Nat.blt k 51 then (bif Nat.beq k 50 then some (.istore_n 3, 51, []) else none) else (bif Nat.beq k 51 then some (.iconst 0, 52, []) else none)) else (bif Nat.blt k 54 then (bif Nat.beq k 52 then some (.istore 4, 54, []) else none) else (bif Nat.blt k 56 then (bif Nat.beq k 54 then some (.iload 4, 56, []) else none) else (bif Nat.beq k 56 then some (.iconst 1, 57, []) else none)))) else (bif Nat.blt k 59 then (bif Nat.blt k 58 then (bif Nat.beq k 57 then some (.iload_n 2, 58, []) else none) else (bif Nat.beq k 58 then some (.ishl, 59, []) else none)) else (bif Nat.blt k 62 then (bif Nat.beq k 59 then some (.if_icmp .ge 54, 62, [113]) else none) else (bif Nat.blt k 63 then (bif Nat.beq k 62 then some (.iload_n 3, 63, []) else none) else (bif Nat.beq k 63 then some (.iconst (-1), 64, []) else none))))))) else (bif Nat.blt k 106 then (bif Nat.blt k 84 then (bif Nat.blt k 73 then (bif Nat.blt k 69 then (bif Nat.blt k 67 then (bif Nat.beq k 64 then some (.if_icmp .eq 15, 67, [79]) else none) else (bif Nat.beq k 67 then some (.iload 4, 69, []) else none)) else (bif Nat.blt k 72 then (bif Nat.beq k 69 then some (.invokestatic 260, 72, []) else none) else (bif Nat.beq k 72 then some (.iload_n 3, 73, []) else none))) else (bif Nat.blt k 79 then (bif Nat.blt k 76 then (bif Nat.beq k 73 then some (.invokestatic 260, 76, []) else none) else (bif Nat.beq k 76 then some (.if_icmp .ge 7, 79, [83]) else none)) else (bif Nat.blt k 80 then (bif Nat.beq k 79 then some (.iconst 1, 80, []) else none) else (bif Nat.blt k 83 then (bif Nat.beq k 80 then some (.goto 4, 83, [84]) else none) else (bif Nat.beq k 83 then some (.iconst 0, 84, []) else none))))) else (bif Nat.blt k 94 then (bif Nat.blt k 88 then (bif Nat.blt k 86 then (bif Nat.beq k 84 then some (.istore 5, 86, []) else none) else (bif Nat.beq k 86 then some (.iload 5, 88, []) else none)) else (bif Nat.blt k 91 then (bif Nat.beq k 88 then some (.ifCond .eq 19, 91, [107]) else none) else (bif Nat.blt k 92 then (bif Nat.beq k 91 then some (.aload_n 0, 92, []) else none) else (bif Nat.beq k 92 then some (.iload 4, 94, []) else none)))) else (bif Nat.blt k 98 then (bif Nat.blt k 97 then (bif Nat.beq k 94 then some (.invokevirtual 356, 97, []) else none) else (bif Nat.beq k 97 then some (.aload_n 0, 98, []) else none)) else (bif Nat.blt k 101 then (bif Nat.beq k 98 then some (.invokevirtual 359, 101, []) else none) else (bif Nat.blt k 104 then (bif Nat.beq k 101 then some (.if_icmp .ne 6, 104, [107]) else none) else (bif Nat.beq k 104 then some (.iload 4, 106, []) else none)))))) else (bif Nat.blt k 122 then (bif Nat.blt k 114 then (bif Nat.blt k 110 then (bif Nat.blt k 107 then (bif Nat.beq k 106 then some (.istore_n 3, 107, []) else none) else (bif Nat.beq k 107 then some (.iinc 4 1, 110, []) else none)) else (bif Nat.blt k 113 then (bif Nat.beq k 110 then some (.goto (-56), 113, [54]) else none) else (bif Nat.beq k 113 then some (.iload_n 3, 114, []) else none))) else (bif Nat.blt k 118 then (bif Nat.blt k 115 then (bif Nat.beq k 114 then some (.iconst (-1), 115, []) else none) else (bif Nat.beq k 115 then some (.if_icmp .ne 6, 118, [121]) else none)) else (bif Nat.blt k 120 then (bif Nat.beq k 118 then some (.bipush (-2), 120, []) else none) else (bif Nat.blt k 121 then (bif Nat.beq k 120 then some (.ireturn, 121, []) else none) else (bif Nat.beq k 121 then some (.aload_n 0, 122, []) else none))))) else (bif Nat.blt k 133 then (bif Nat.blt k 128 then (bif Nat.blt k 125 then (bif Nat.beq k 122 then some (.getfield 67, 125, []) else none) else (bif Nat.beq k 125 then some (.invokevirtual 217, 128, []) else none)) else (bif Nat.blt k 129 then (bif Nat.beq k 128 then some (.aload_n 0, 129, []) else none) else (bif Nat.blt k 132 then (bif Nat.beq k 129 then some (.getfield 67, 132, []) else none) else (bif Nat.beq k 132 then some (.iload_n 3, 133, []) else none)))) else (bif Nat.blt k 137 then (bif Nat.blt k 134 then (bif Nat.beq k 133 then some (.i2l, 134, []) else none) else (bif Nat.beq k 134 then some (.invokevirtual 223, 137, []) else none)) else (bif Nat.blt k 138 then (bif Nat.beq k 137 then some (.iload_n 3, 138, []) else none) else (bif Nat.blt k 141 then (bif Nat.beq k 138 then some (.invokestatic 260, 141, []) else none) else (bif Nat.beq k 141 then some (.ireturn, 142, []) else none)))))))) else none
noncomputable def P_C_fewest : MP := (T_C_fewest, (fun k => mLook k [(33, (12, 4, (.object "java/util/ArrayList"), true)), (67, (12, 11, (.object "ClothWithMan$Row"), true)), (89, (12, 17, (.array .int), true))]), (fun k => mLook k []), (fun k => mLook k [(116, E_C_isYear), (183, E_AL_get), (217, E_Ro_clear), (223, E_Ro_add), (260, E_In_bitCount), (281, E_C_pieceCount), (346, E_C_pairsPartedBy), (356, E_C_partedByAny), (359, E_C_allPairs)]), (fun k => mLook k []), (fun k => mLook k []), (fun k => mLook k [(168, 7)]), (fun k => mLook k [(16, [true, true, true, true, false, false]), (43, [true, true, true, true, false, false]), (54, [true, false, true, true, true, false])]), (fun k => [8, 120, 141].any (Nat.beq k)), (10, 223, 0, 0), false, (fun _ => none))
set_option maxRecDepth 100000 in
set_option maxHeartbeats 4000000 in
theorem q_C_fewest_e (a1 : Int32) (σ : MSto) (n : Nat) : mexe KT P_C_fewest (n + 1) (0, [some (mR 12 0), some (mI a1), none, none, none, none], [], σ, 0, 0) = mIf ((v_C_isYear a1 σ) = 0) (some (8, [], [(mI (-1))], σ, 0, 0)) (mexe KT P_C_fewest n (16, [some (mR 12 0), some (mI a1), some (mI (v_C_pieceCount σ)), some (mI 0), none, none], [], σ, 0, 0)) := rfl
set_option maxRecDepth 100000 in
set_option maxHeartbeats 4000000 in
theorem q_C_fewest_16 (x1 : Int32) (x2 : Int32) (x3 : Int32) (σ : MSto) (n : Nat) : mexe KT P_C_fewest (n + 1) (16, [some (mR 12 0), some (mI x1), some (mI x2), some (mI x3), none, none], [], σ, 0, 0) = mIf (x2 ≤ x3) (mexe KT P_C_fewest n (54, [some (mR 12 0), none, some (mI x2), some (mI (-1)), some (mI 0), none], [], σ, 0, 0)) (mG (p_AL_get 14 0 x3 σ) (mG (p_C_pairsPartedBy (v_AL_get 14 0 x3 σ) x1 σ) (mG (vp_in x3 12) (mexe KT P_C_fewest n (43, [some (mR 12 0), some (mI x1), some (mI x2), some (mI x3), none, none], [], (sI (e_C_pairsPartedBy (v_AL_get 14 0 x3 σ) x1 σ) 30 0 (Int32.toNatClampNeg x3) (v_C_pairsPartedBy (v_AL_get 14 0 x3 σ) x1 σ)), 0, 0))))) := rfl
set_option maxRecDepth 100000 in
set_option maxHeartbeats 4000000 in
theorem q_C_fewest_43 (x1 : Int32) (x2 : Int32) (x3 : Int32) (σ : MSto) (n : Nat) : mexe KT P_C_fewest (n + 1) (43, [some (mR 12 0), some (mI x1), some (mI x2), some (mI x3), none, none], [], σ, 0, 0) = mexe KT P_C_fewest n (16, [some (mR 12 0), some (mI x1), some (mI x2), some (mI (x3 + 1)), none, none], [], σ, 0, 0) := rfl
set_option maxRecDepth 100000 in
set_option maxHeartbeats 4000000 in
theorem q_C_fewest_54 (x2 : Int32) (x3 : Int32) (x4 : Int32) (σ : MSto) (n : Nat) : mexe KT P_C_fewest (n + 1) (54, [some (mR 12 0), none, some (mI x2), some (mI x3), some (mI x4), none], [], σ, 0, 0) = mIf (((1 : Int32) <<< (x2 &&& 31)) ≤ x4) (mIf (x3 = (-1)) (some (120, [], [(mI (-2))], σ, 0, 0)) (mG (p_Ro_add (Int32.toInt64 x3) (e_Ro_clear σ)) (some (141, [], [(mI (v_In_bitCount x3 (e_Ro_add (Int32.toInt64 x3) (e_Ro_clear σ))))], (e_Ro_add (Int32.toInt64 x3) (e_Ro_clear σ)), 0, 0)))) (mIf (x3 = (-1)) (mIf ((1 : Int32) = 0) (mexe KT P_C_fewest n (54, [some (mR 12 0), none, some (mI x2), some (mI x3), some (mI (x4 + 1)), none], [], σ, 0, 0)) (mG (p_C_partedByAny x4 σ) (mIf ((v_C_partedByAny x4 σ) = (v_C_allPairs σ)) (mexe KT P_C_fewest n (54, [some (mR 12 0), none, some (mI x2), some (mI x4), some (mI (x4 + 1)), none], [], σ, 0, 0)) (mexe KT P_C_fewest n (54, [some (mR 12 0), none, some (mI x2), some (mI x3), some (mI (x4 + 1)), none], [], σ, 0, 0))))) (mIf ((v_In_bitCount x3 σ) ≤ (v_In_bitCount x4 σ)) (mIf ((0 : Int32) = 0) (mexe KT P_C_fewest n (54, [some (mR 12 0), none, some (mI x2), some (mI x3), some (mI (x4 + 1)), none], [], σ, 0, 0)) (mG (p_C_partedByAny x4 σ) (mIf ((v_C_partedByAny x4 σ) = (v_C_allPairs σ)) (mexe KT P_C_fewest n (54, [some (mR 12 0), none, some (mI x2), some (mI x4), some (mI (x4 + 1)), none], [], σ, 0, 0)) (mexe KT P_C_fewest n (54, [some (mR 12 0), none, some (mI x2), some (mI x3), some (mI (x4 + 1)), none], [], σ, 0, 0))))) (mIf ((1 : Int32) = 0) (mexe KT P_C_fewest n (54, [some (mR 12 0), none, some (mI x2), some (mI x3), some (mI (x4 + 1)), none], [], σ, 0, 0)) (mG (p_C_partedByAny x4 σ) (mIf ((v_C_partedByAny x4 σ) = (v_C_allPairs σ)) (mexe KT P_C_fewest n (54, [some (mR 12 0), none, some (mI x2), some (mI x4), some (mI (x4 + 1)), none], [], σ, 0, 0)) (mexe KT P_C_fewest n (54, [some (mR 12 0), none, some (mI x2), some (mI x3), some (mI (x4 + 1)), none], [], σ, 0, 0))))))) := rfl
set_option maxRecDepth 100000 in
theorem lt_C_fewest_54 {Post : MST → Prop} (x2 : Int32) (c : Int32) (σ : MSto) (s : Int32) (hp : g_C_fewest_54 x2 c σ s) (hq : ¬ q_C_fewest_54s x2 c σ s = 1) (hn : ∀ r, t_C_fewest_54 x2 c σ s = r → mW1 P_C_fewest (54, [some (mR 12 0), none, some (mI x2), some (mI r), some (mI (c + 1)), none], [], σ, 0, 0) Post) : mW1 P_C_fewest (54, [some (mR 12 0), none, some (mI x2), some (mI s), some (mI c), none], [], σ, 0, 0) Post := by
  unfold g_C_fewest_54 at hp
  refine mW1_eq (q_C_fewest_54 _ _ _ _) ?_
  refine mTr_if (fun h0 => ?_) (fun h0 => ?_)
  · skip
    exact absurd (if_pos h0) hq
  · skip
    have hp := hp h0
    refine mTr_if (fun h1 => ?_) (fun h1 => ?_)
    · skip
      have hp := hp.1 h1
      refine mTr_f (by decide) ?_
      refine mTr_g hp ?_
      refine mTr_if (fun h2 => ?_) (fun h2 => ?_)
      · skip
        exact mTr_k (hn c ((if_neg h0).trans ((if_pos h1).trans (if_pos h2))))
      · skip
        exact mTr_k (hn s ((if_neg h0).trans ((if_pos h1).trans (if_neg h2))))
    · skip
      have hp := hp.2 h1
      refine mTr_if (fun h2 => ?_) (fun h2 => ?_)
      · skip
        refine mTr_t (by decide) ?_
        exact mTr_k (hn s ((if_neg h0).trans ((if_neg h1).trans (if_pos h2))))
      · skip
        have hp := hp h2
        refine mTr_f (by decide) ?_
        refine mTr_g hp ?_
        refine mTr_if (fun h3 => ?_) (fun h3 => ?_)
        · skip
          exact mTr_k (hn c ((if_neg h0).trans ((if_neg h1).trans ((if_neg h2).trans (if_pos h3)))))
        · skip
          exact mTr_k (hn s ((if_neg h0).trans ((if_neg h1).trans ((if_neg h2).trans (if_neg h3)))))
theorem lp_C_fewest_54 {Post : MST → Prop} (x2 : Int32) (c0 : Int32) (σ : MSto) (s0 : Int32) (N : Nat) (hb : ∀ i, i < N → g_C_fewest_54 x2 (c0 + nI i) σ (f_C_fewest_54 x2 c0 σ s0 i) ∧ ¬ q_C_fewest_54s x2 (c0 + nI i) σ (f_C_fewest_54 x2 c0 σ s0 i) = 1) (h : mW1 P_C_fewest (54, [some (mR 12 0), none, some (mI x2), some (mI (f_C_fewest_54 x2 c0 σ s0 N)), some (mI (c0 + nI N)), none], [], σ, 0, 0) Post) : mW1 P_C_fewest (54, [some (mR 12 0), none, some (mI x2), some (mI s0), some (mI c0), none], [], σ, 0, 0) Post := by
  refine mW1_st (mW1_loop (fun i => (54, [some (mR 12 0), none, some (mI x2), some (mI (f_C_fewest_54 x2 c0 σ s0 i)), some (mI (c0 + nI i)), none], [], σ, 0, 0)) N (fun i hlt hn => ?_) h) (by rw [show nI 0 = 0 from rfl, Int32.add_zero] <;> rfl)
  refine lt_C_fewest_54 x2 _ σ _ (hb i hlt).1 (hb i hlt).2 (fun r hr => ?_)
  rw [Int32.add_assoc, nI_s]
  subst hr
  exact hn
set_option maxRecDepth 100000 in
theorem lj_C_fewest_16j43 {Post : MST → Prop} (x1 : Int32) (x2 : Int32) (x3 : Int32) (σ : MSto) (s : MSto) (hq : ¬ 0 = 1) (hn : ∀ r, tj_C_fewest_16j43 x1 x2 x3 σ s = r → mW1 P_C_fewest (16, [some (mR 12 0), some (mI x1), some (mI x2), some (mI (x3 + 1)), none, none], [], r, 0, 0) Post) : mW1 P_C_fewest (43, [some (mR 12 0), some (mI x1), some (mI x2), some (mI x3), none, none], [], σ, 0, 0) Post := by
  refine mW1_eq (q_C_fewest_43 _ _ _ _) ?_
  exact mTr_k (hn σ (rfl))
set_option maxRecDepth 100000 in
theorem lt_C_fewest_16 {Post : MST → Prop} (x1 : Int32) (x2 : Int32) (c : Int32) (s : MSto) (hp : g_C_fewest_16 x1 x2 c s) (hq : ¬ q_C_fewest_16s x1 x2 c s = 1) (hn : ∀ r, t_C_fewest_16 x1 x2 c s = r → mW1 P_C_fewest (16, [some (mR 12 0), some (mI x1), some (mI x2), some (mI (c + 1)), none, none], [], r, 0, 0) Post) : mW1 P_C_fewest (16, [some (mR 12 0), some (mI x1), some (mI x2), some (mI c), none, none], [], s, 0, 0) Post := by
  unfold g_C_fewest_16 at hp
  refine mW1_eq (q_C_fewest_16 _ _ _ _) ?_
  refine mTr_if (fun h0 => ?_) (fun h0 => ?_)
  · skip
    exact absurd (if_pos h0) hq
  · skip
    have hp := hp h0
    refine mTr_g hp.1 ?_
    have hp := hp.2
    refine mTr_g hp.1 ?_
    have hp := hp.2
    refine mTr_g hp ?_
    exact mTr_k (lj_C_fewest_16j43 x1 x2 c (sI (e_C_pairsPartedBy (v_AL_get 14 0 c s) x1 s) 30 0 (Int32.toNatClampNeg c) (v_C_pairsPartedBy (v_AL_get 14 0 c s) x1 s)) s (fun z => hq ((if_neg h0).trans z)) (fun r zr => hn r ((if_neg h0).trans zr)))
theorem lp_C_fewest_16 {Post : MST → Prop} (x1 : Int32) (x2 : Int32) (c0 : Int32) (s0 : MSto) (N : Nat) (hb : ∀ i, i < N → g_C_fewest_16 x1 x2 (c0 + nI i) (f_C_fewest_16 x1 x2 c0 s0 i) ∧ ¬ q_C_fewest_16s x1 x2 (c0 + nI i) (f_C_fewest_16 x1 x2 c0 s0 i) = 1) (h : mW1 P_C_fewest (16, [some (mR 12 0), some (mI x1), some (mI x2), some (mI (c0 + nI N)), none, none], [], (f_C_fewest_16 x1 x2 c0 s0 N), 0, 0) Post) : mW1 P_C_fewest (16, [some (mR 12 0), some (mI x1), some (mI x2), some (mI c0), none, none], [], s0, 0, 0) Post := by
  refine mW1_st (mW1_loop (fun i => (16, [some (mR 12 0), some (mI x1), some (mI x2), some (mI (c0 + nI i)), none, none], [], (f_C_fewest_16 x1 x2 c0 s0 i), 0, 0)) N (fun i hlt hn => ?_) h) (by rw [show nI 0 = 0 from rfl, Int32.add_zero] <;> rfl)
  refine lt_C_fewest_16 x1 x2 _ _ (hb i hlt).1 (hb i hlt).2 (fun r hr => ?_)
  rw [Int32.add_assoc, nI_s]
  subst hr
  exact hn
set_option maxRecDepth 100000 in
set_option maxHeartbeats 4000000 in
theorem d_C_fewest (a1 : Int32) (σ : MSto) (hp : p_C_fewest a1 σ) : mW1 P_C_fewest (0, [some (mR 12 0), some (mI a1), none, none, none, none], [], σ, 0, 0) (mF [8, 120, 141] [mI (v_C_fewest a1 σ)] (e_C_fewest a1 σ) 0 0) := by
  refine mW1_eq (q_C_fewest_e _ _) ?_
  unfold p_C_fewest at hp
  refine mTr_if (fun h0 => ?_) (fun h0 => ?_)
  · skip
    exact mTr_e (by decide) (congrArg (fun z => [mI z]) (Eq.symm (if_pos h0))) (Eq.symm (if_pos h0)) (by decide) (by decide)
  · skip
    have hp := hp h0
    refine mTr_k (lp_C_fewest_16 a1 (v_C_pieceCount σ) 0 σ (n_C_fewest_16 a1 (v_C_pieceCount σ) 0 σ) hp.1 ?_)
    have hp := hp.2
    refine mW1_eq (q_C_fewest_16 _ _ _ _) ?_
    refine mTr_if (fun h1 => ?_) (fun h1 => ?_)
    · skip
      have hp := hp.1 h1
      refine mTr_k (lp_C_fewest_54 (v_C_pieceCount σ) 0 (f_C_fewest_16 a1 (v_C_pieceCount σ) 0 σ (n_C_fewest_16 a1 (v_C_pieceCount σ) 0 σ)) (-1) (n_C_fewest_54 (v_C_pieceCount σ) 0 (f_C_fewest_16 a1 (v_C_pieceCount σ) 0 σ (n_C_fewest_16 a1 (v_C_pieceCount σ) 0 σ)) (-1)) hp.1 ?_)
      have hp := hp.2
      refine mW1_eq (q_C_fewest_54 _ _ _ _) ?_
      refine mTr_if (fun h2 => ?_) (fun h2 => ?_)
      · skip
        have hp := hp.1 h2
        refine mTr_if (fun h3 => ?_) (fun h3 => ?_)
        · skip
          exact mTr_e (by decide) (congrArg (fun z => [mI z]) (Eq.symm ((if_neg h0).trans (if_pos h3)))) (Eq.symm ((if_neg h0).trans (if_pos h3))) (by decide) (by decide)
        · skip
          have hp := hp h3
          refine mTr_g hp ?_
          exact mTr_e (by decide) (congrArg (fun z => [mI z]) (Eq.symm ((if_neg h0).trans (if_neg h3)))) (Eq.symm ((if_neg h0).trans (if_neg h3))) (by decide) (by decide)
      · skip
        have hp := hp.2 h2
        exact hp.elim
    · skip
      have hp := hp.2 h1
      exact hp.elim
theorem li_C_359 : mLink "ClothWithMan" 359 E_C_allPairs := ⟨tw_4_181, tw_1_1, ⟨by decide, by decide⟩, by decide +kernel, Or.inl tw_4_178, (fun h => by cases h), (fun _ => ⟨tw_4_180, tw_0_37, TX11, 20, rfl⟩), (fun h => by cases h)⟩

theorem li_C_356 : mLink "ClothWithMan" 356 E_C_partedByAny := ⟨tw_4_177, tw_1_1, ⟨by decide, by decide⟩, by decide +kernel, Or.inl tw_4_174, (fun h => by cases h), (fun _ => ⟨tw_4_176, tw_0_36, TX11, 20, rfl⟩), (fun h => by cases h)⟩








theorem tk_C_fewest : ∀ pc i nx tg, T_C_fewest pc = some (i, nx, tg) → mOkB prog_1_method_39_code pc i nx tg = true := code_ok (N := 142) (fun k h => by unfold T_C_fewest; rw [h]; rfl) (by decide +kernel)
theorem ok_C_fewest (l : Launch) : mPOK l "ClothWithMan" prog_1_method_39_code P_C_fewest := by
  refine ⟨tk_C_fewest, ?_, ?_, ?_, (fun pc i nx tg kd _ h => by cases h), ?_, ?_, fun pc en h => by cases h⟩
  · intro x ci f ty fin h
    exact mLook_all (Q := fun x v => mFOK "ClothWithMan" x v.1 v.2.1 v.2.2.1 v.2.2.2 ∧ (v.2.2.2 = true → pIni P_C_fewest = true → (Cond.fieldLink "ClothWithMan" x (((mCl[v.1]?).getD ("", fun _ => ("", "", "", false), 0)).2.1 v.2.1).1 (((mCl[v.1]?).getD ("", fun _ => ("", "", "", false), 0)).2.1 v.2.1).2.1 (((mCl[v.1]?).getD ("", fun _ => ("", "", "", false), 0)).2.1 v.2.1).2.2.1 ∈ lw_tbl ∧ (((mCl[v.1]?).getD ("", fun _ => ("", "", "", false), 0)).2.1 v.2.1).1 = "ClothWithMan"))) (fcC ⟨fo_C_33, fun h1 h2 => by cases h2⟩ (fcC ⟨fo_C_67, fun h1 h2 => by cases h2⟩ (fcC ⟨fo_C_89, fun h1 h2 => by cases h2⟩ fcN))) x (ci, f, ty, fin) h
  · intro x
    have hh := mLook_all (l := ([] : List (Nat × (Int32 ⊕ Int64)))) (Q := fun x (v : Int32 ⊕ Int64) => (∀ w, v = .inl w → Cond.constant "ClothWithMan" x w ∈ lw_tbl) ∧ (∀ w, v = .inr w → Cond.constantLong "ClothWithMan" x w ∈ lw_tbl)) fcN x
    exact ⟨fun w h => (hh _ h).1 w rfl, fun w h => (hh _ h).2 w rfl⟩
  · exact fun x en h => mLook_all (Q := fun x en => mLink "ClothWithMan" x en ∧ mCtr l en ∧ (en.1.1 = 2 → en.2.2.2.2.2.2 = none)) (fcC ⟨li_C_116, c_C_isYear l, (fun h => by cases h)⟩ (fcC ⟨li_C_183, c_AL_get l, (fun h => by cases h)⟩ (fcC ⟨li_C_217, c_Ro_clear l, (fun h => by cases h)⟩ (fcC ⟨li_C_223, c_Ro_add l, (fun h => by cases h)⟩ (fcC ⟨li_C_260, c_In_bitCount l, (fun h => by cases h)⟩ (fcC ⟨li_C_281, c_C_pieceCount l, (fun h => by cases h)⟩ (fcC ⟨li_C_346, c_C_pairsPartedBy l, (fun h => by cases h)⟩ (fcC ⟨li_C_356, c_C_partedByAny l, (fun h => by cases h)⟩ (fcC ⟨li_C_359, c_C_allPairs l, (fun h => by cases h)⟩ fcN))))))))) x en h
  · exact fun x kd h => mLook_all (Q := fun x kd => (kd = 95 ∧ Cond.fieldLink "ClothWithMan" x "ClothWithMan" "LIKENESSES" "[I" ∈ lw_tbl) ∨ (kd = 96 ∧ Cond.fieldLink "ClothWithMan" x "ClothWithMan" "APART_BOUNDS" "[I" ∈ lw_tbl)) fcN x kd h
  · exact fun x ci h => mLook_all (Q := fun x ci => ci ≠ 0 ∧ ∃ (C : String) (T : u_T) (N : Nat), mCl[ci]? = some (C, T, N) ∧ Cond.classLink "ClothWithMan" x C ∈ lw_tbl ∧ Cond.instantiable C N ∈ lw_tbl) (fcC ⟨by decide, "ClothWithMan$Piece", TX6, 6, rfl, tw_3_6, tw_3_7⟩ fcN) x ci h
set_option maxRecDepth 100000 in
theorem c_C_fewest (l : Launch) : mCtr l E_C_fewest := mCtr_of (P := P_C_fewest) (own := "ClothWithMan") mLay_ok rfl (by decide +kernel) rfl (ok_C_fewest l) (fun h => by cases h) (fun as σ pr rv σ' hF hpr hlv => by
  unfold E_C_fewest S_C_fewest at hF
  simp only [] at hF
  split at hF
  · cases hF
    obtain ⟨n, pcF, c1, s1, g1, g2, g3, g4⟩ := mF_inv (d_C_fewest _ σ (hpr _ rfl))
    exact ⟨Nat.le_of_ble_eq_true rfl, (fun v h => by cases h; trivial), n, pcF, c1, s1, g1, ⟨mEnd_of (i := .ireturn) (P := P_C_fewest) (rets := [8, 120, 141]) rfl g2, rfl⟩, g3, g4⟩
  · cases hF
    exact (hpr _ rfl).elim)
/-! ClothWithMan.like(I)I -/
noncomputable def v_C_like (a1 : Int32) (σ : MSto) : Int32 := (if (v_C_isIn a1 0 5 σ) = 0 then (-1) else (if (v_C_allLikes σ) < 9 then ((v_C_allLikes σ) + 1) else (-1)))
def p_C_like (a1 : Int32) (σ : MSto) : Prop := ((p_C_allLikes σ) ∧ (¬ ((v_C_isIn a1 0 5 σ) = 0) → (((v_C_allLikes σ) < 9) → ((vp_in a1 6) ∧ (vp_in a1 6)))))
noncomputable def e_C_like (a1 : Int32) (σ : MSto) : MSto := (if (v_C_isIn a1 0 5 σ) = 0 then σ else (if (v_C_allLikes σ) < 9 then (sI σ 22 0 (Int32.toNatClampNeg a1) ((gI σ 22 0 (Int32.toNatClampNeg a1)) + 1)) else σ))
noncomputable def S_C_like : List MV → MSto → Option Prop × Option MV × MSto := fun as σ => match as with
  | [.inr (.inr (some (12, 0))), .inl a0] => (some (p_C_like a0 σ), some (mI (v_C_like a0 σ)), e_C_like a0 σ)
  | _ => (some False, none, σ)
noncomputable def E_C_like : MEnt := ((1, 1, 12), (1, 22, 0, 0), S_C_like, ((⟨"ClothWithMan", "like", "(I)I"⟩ : MethodName), prog_1_method_41_code, 3, (some .int)))

def T_C_like : Nat → Option (Instr × Nat × List Nat) := fun k => bif Nat.blt k 36 then (bif Nat.blt k 21 then (bif Nat.blt k 8 then (bif Nat.blt k 5 then (bif Nat.blt k 1 then (bif Nat.beq k 0 then some (.aload_n 0, 1, []) else none) else (bif Nat.blt k 4 then (bif Nat.beq k 1 then some (.invokevirtual 369, 4, []) else none) else (bif Nat.beq k 4 then some (.istore_n 2, 5, []) else none))) else (bif Nat.blt k 6 then (bif Nat.beq k 5 then some (.iload_n 1, 6, []) else none) else (bif Nat.blt k 7 then (bif Nat.beq k 6 then some (.iconst 0, 7, []) else none) else (bif Nat.beq k 7 then some (.iconst 5, 8, []) else none)))) else (bif Nat.blt k 15 then (bif Nat.blt k 11 then (bif Nat.beq k 8 then some (.invokestatic 145, 11, []) else none) else (bif Nat.blt k 14 then (bif Nat.beq k 11 then some (.ifCond .eq 9, 14, [20]) else none) else (bif Nat.beq k 14 then some (.iload_n 2, 15, []) else none))) else (bif Nat.blt k 17 then (bif Nat.beq k 15 then some (.bipush 9, 17, []) else none) else (bif Nat.blt k 20 then (bif Nat.beq k 17 then some (.if_icmp .lt 5, 20, [22]) else none) else (bif Nat.beq k 20 then some (.iconst (-1), 21, []) else none))))) else (bif Nat.blt k 29 then (bif Nat.blt k 26 then (bif Nat.blt k 22 then (bif Nat.beq k 21 then some (.ireturn, 22, []) else none) else (bif Nat.blt k 23 then (bif Nat.beq k 22 then some (.aload_n 0, 23, []) else none) else (bif Nat.beq k 23 then some (.getfield 43, 26, []) else none))) else (bif Nat.blt k 27 then (bif Nat.beq k 26 then some (.iload_n 1, 27, []) else none) else (bif Nat.blt k 28 then (bif Nat.beq k 27 then some (.dup2, 28, []) else none) else (bif Nat.beq k 28 then some (.iaload, 29, []) else none)))) else (bif Nat.blt k 32 then (bif Nat.blt k 30 then (bif Nat.beq k 29 then some (.iconst 1, 30, []) else none) else (bif Nat.blt k 31 then (bif Nat.beq k 30 then some (.iadd, 31, []) else none) else (bif Nat.beq k 31 then some (.iastore, 32, []) else none))) else (bif Nat.blt k 34 then (bif Nat.blt k 33 then (bif Nat.beq k 32 then some (.iload_n 2, 33, []) else none) else (bif Nat.beq k 33 then some (.iconst 1, 34, []) else none)) else (bif Nat.blt k 35 then (bif Nat.beq k 34 then some (.iadd, 35, []) else none) else (bif Nat.beq k 35 then some (.ireturn, 36, []) else none)))))) else none
noncomputable def P_C_like : MP := (T_C_like, (fun k => mLook k [(43, (12, 7, (.array .int), true))]), (fun k => mLook k []), (fun k => mLook k [(145, E_C_isIn), (369, E_C_allLikes)]), (fun k => mLook k []), (fun k => mLook k []), (fun k => mLook k []), (fun k => mLook k []), (fun k => [21, 35].any (Nat.beq k)), (1, 22, 0, 0), false, (fun _ => none))
set_option maxRecDepth 100000 in
set_option maxHeartbeats 4000000 in
theorem q_C_like_e (a1 : Int32) (σ : MSto) (n : Nat) : mexe KT P_C_like (n + 1) (0, [some (mR 12 0), some (mI a1), none], [], σ, 0, 0) = mG (p_C_allLikes σ) (mIf ((v_C_isIn a1 0 5 σ) = 0) (some (21, [], [(mI (-1))], σ, 0, 0)) (mIf ((v_C_allLikes σ) < 9) (mG (vp_in a1 6) (mG (vp_in a1 6) (some (35, [], [(mI ((v_C_allLikes σ) + 1))], (sI σ 22 0 (Int32.toNatClampNeg a1) ((gI σ 22 0 (Int32.toNatClampNeg a1)) + 1)), 0, 0)))) (some (21, [], [(mI (-1))], σ, 0, 0)))) := rfl
set_option maxRecDepth 100000 in
set_option maxHeartbeats 4000000 in
theorem d_C_like (a1 : Int32) (σ : MSto) (hp : p_C_like a1 σ) : mW1 P_C_like (0, [some (mR 12 0), some (mI a1), none], [], σ, 0, 0) (mF [21, 35] [mI (v_C_like a1 σ)] (e_C_like a1 σ) 0 0) := by
  refine mW1_eq (q_C_like_e _ _) ?_
  unfold p_C_like at hp
  refine mTr_g hp.1 ?_
  have hp := hp.2
  refine mTr_if (fun h0 => ?_) (fun h0 => ?_)
  · skip
    exact mTr_e (by decide) (congrArg (fun z => [mI z]) (Eq.symm (if_pos h0))) (Eq.symm (if_pos h0)) (by decide) (by decide)
  · skip
    have hp := hp h0
    refine mTr_if (fun h1 => ?_) (fun h1 => ?_)
    · skip
      have hp := hp h1
      refine mTr_g hp.1 ?_
      have hp := hp.2
      refine mTr_g hp ?_
      exact mTr_e (by decide) (congrArg (fun z => [mI z]) (Eq.symm ((if_neg h0).trans (if_pos h1)))) (Eq.symm ((if_neg h0).trans (if_pos h1))) (by decide) (by decide)
    · skip
      exact mTr_e (by decide) (congrArg (fun z => [mI z]) (Eq.symm ((if_neg h0).trans (if_neg h1)))) (Eq.symm ((if_neg h0).trans (if_neg h1))) (by decide) (by decide)
theorem li_C_369 : mLink "ClothWithMan" 369 E_C_allLikes := ⟨tw_4_197, tw_1_1, ⟨by decide, by decide⟩, by decide +kernel, Or.inl tw_4_194, (fun h => by cases h), (fun _ => ⟨tw_4_196, tw_0_39, TX11, 20, rfl⟩), (fun h => by cases h)⟩


theorem tk_C_like : ∀ pc i nx tg, T_C_like pc = some (i, nx, tg) → mOkB prog_1_method_41_code pc i nx tg = true := code_ok (N := 36) (fun k h => by unfold T_C_like; rw [h]; rfl) (by decide +kernel)
theorem ok_C_like (l : Launch) : mPOK l "ClothWithMan" prog_1_method_41_code P_C_like := by
  refine ⟨tk_C_like, ?_, ?_, ?_, (fun pc i nx tg kd _ h => by cases h), ?_, ?_, fun pc en h => by cases h⟩
  · intro x ci f ty fin h
    exact mLook_all (Q := fun x v => mFOK "ClothWithMan" x v.1 v.2.1 v.2.2.1 v.2.2.2 ∧ (v.2.2.2 = true → pIni P_C_like = true → (Cond.fieldLink "ClothWithMan" x (((mCl[v.1]?).getD ("", fun _ => ("", "", "", false), 0)).2.1 v.2.1).1 (((mCl[v.1]?).getD ("", fun _ => ("", "", "", false), 0)).2.1 v.2.1).2.1 (((mCl[v.1]?).getD ("", fun _ => ("", "", "", false), 0)).2.1 v.2.1).2.2.1 ∈ lw_tbl ∧ (((mCl[v.1]?).getD ("", fun _ => ("", "", "", false), 0)).2.1 v.2.1).1 = "ClothWithMan"))) (fcC ⟨fo_C_43, fun h1 h2 => by cases h2⟩ fcN) x (ci, f, ty, fin) h
  · intro x
    have hh := mLook_all (l := ([] : List (Nat × (Int32 ⊕ Int64)))) (Q := fun x (v : Int32 ⊕ Int64) => (∀ w, v = .inl w → Cond.constant "ClothWithMan" x w ∈ lw_tbl) ∧ (∀ w, v = .inr w → Cond.constantLong "ClothWithMan" x w ∈ lw_tbl)) fcN x
    exact ⟨fun w h => (hh _ h).1 w rfl, fun w h => (hh _ h).2 w rfl⟩
  · exact fun x en h => mLook_all (Q := fun x en => mLink "ClothWithMan" x en ∧ mCtr l en ∧ (en.1.1 = 2 → en.2.2.2.2.2.2 = none)) (fcC ⟨li_C_145, c_C_isIn l, (fun h => by cases h)⟩ (fcC ⟨li_C_369, c_C_allLikes l, (fun h => by cases h)⟩ fcN)) x en h
  · exact fun x kd h => mLook_all (Q := fun x kd => (kd = 95 ∧ Cond.fieldLink "ClothWithMan" x "ClothWithMan" "LIKENESSES" "[I" ∈ lw_tbl) ∨ (kd = 96 ∧ Cond.fieldLink "ClothWithMan" x "ClothWithMan" "APART_BOUNDS" "[I" ∈ lw_tbl)) fcN x kd h
  · exact fun x ci h => mLook_all (Q := fun x ci => ci ≠ 0 ∧ ∃ (C : String) (T : u_T) (N : Nat), mCl[ci]? = some (C, T, N) ∧ Cond.classLink "ClothWithMan" x C ∈ lw_tbl ∧ Cond.instantiable C N ∈ lw_tbl) fcN x ci h
set_option maxRecDepth 100000 in
theorem c_C_like (l : Launch) : mCtr l E_C_like := mCtr_of (P := P_C_like) (own := "ClothWithMan") mLay_ok rfl (by decide +kernel) rfl (ok_C_like l) (fun h => by cases h) (fun as σ pr rv σ' hF hpr hlv => by
  unfold E_C_like S_C_like at hF
  simp only [] at hF
  split at hF
  · cases hF
    obtain ⟨n, pcF, c1, s1, g1, g2, g3, g4⟩ := mF_inv (d_C_like _ σ (hpr _ rfl))
    exact ⟨Nat.le_of_ble_eq_true rfl, (fun v h => by cases h; trivial), n, pcF, c1, s1, g1, ⟨mEnd_of (i := .ireturn) (P := P_C_like) (rets := [21, 35]) rfl g2, rfl⟩, g3, g4⟩
  · cases hF
    exact (hpr _ rfl).elim)
/-! ClothWithMan.knew(II)I -/
noncomputable def t_C_knew_44 (x2 : Int32) (x3 : Int32) (x4 : Int32) (c : Int32) (σ : MSto) (s : Int64 × Int64) : Int64 × Int64 := (if x2 ≤ c then s else (((s.1) * (Int32.toInt64 (v_Ma_max 0 (x4 - c) σ))), ((s.2) * (Int32.toInt64 (x3 - c)))))
noncomputable def q_C_knew_44s (x2 : Int32) (x3 : Int32) (x4 : Int32) (c : Int32) (σ : MSto) (s : Int64 × Int64) : Nat := (if x2 ≤ c then 1 else 0)
def g_C_knew_44 (x2 : Int32) (x3 : Int32) (x4 : Int32) (c : Int32) (σ : MSto) (s : Int64 × Int64) : Prop := True
noncomputable def f_C_knew_44 (x2 : Int32) (x3 : Int32) (x4 : Int32) (c0 : Int32) (σ : MSto) (s0 : Int64 × Int64) (n : Nat) : Int64 × Int64 := nfold (fun i s => t_C_knew_44 x2 x3 x4 (c0 + nI i) σ s) s0 n
noncomputable def n_C_knew_44 (x2 : Int32) (x3 : Int32) (x4 : Int32) (c0 : Int32) (σ : MSto) (s0 : Int64 × Int64) : Nat := x2.toNatClampNeg
noncomputable def v_C_knew (a1 : Int32) (a2 : Int32) (σ : MSto) : Int32 := (if (v_C_isIn a1 0 5 σ) = 0 then (-1) else (if (v_C_isIn a2 0 (v_C_allLikes σ) σ) = 0 then (-1) else 0))
def p_C_knew (a1 : Int32) (a2 : Int32) (σ : MSto) : Prop := ((p_C_allLikes σ) ∧ (¬ ((v_C_isIn a1 0 5 σ) = 0) → (¬ ((v_C_isIn a2 0 (v_C_allLikes σ) σ) = 0) → ((vp_in a1 6) ∧ ((∀ i, i < (n_C_knew_44 a2 (v_C_allLikes σ) ((v_C_allLikes σ) - (gI σ 22 0 (Int32.toNatClampNeg a1))) 0 σ (1, 1)) → g_C_knew_44 a2 (v_C_allLikes σ) ((v_C_allLikes σ) - (gI σ 22 0 (Int32.toNatClampNeg a1))) (0 + nI i) σ (f_C_knew_44 a2 (v_C_allLikes σ) ((v_C_allLikes σ) - (gI σ 22 0 (Int32.toNatClampNeg a1))) 0 σ (1, 1) i) ∧ ¬ q_C_knew_44s a2 (v_C_allLikes σ) ((v_C_allLikes σ) - (gI σ 22 0 (Int32.toNatClampNeg a1))) (0 + nI i) σ (f_C_knew_44 a2 (v_C_allLikes σ) ((v_C_allLikes σ) - (gI σ 22 0 (Int32.toNatClampNeg a1))) 0 σ (1, 1) i) = 1) ∧ (((a2 ≤ (0 + nI (n_C_knew_44 a2 (v_C_allLikes σ) ((v_C_allLikes σ) - (gI σ 22 0 (Int32.toNatClampNeg a1))) 0 σ (1, 1)))) → (p_Ro_addFraction ((f_C_knew_44 a2 (v_C_allLikes σ) ((v_C_allLikes σ) - (gI σ 22 0 (Int32.toNatClampNeg a1))) 0 σ (1, 1) (n_C_knew_44 a2 (v_C_allLikes σ) ((v_C_allLikes σ) - (gI σ 22 0 (Int32.toNatClampNeg a1))) 0 σ (1, 1))).1) ((f_C_knew_44 a2 (v_C_allLikes σ) ((v_C_allLikes σ) - (gI σ 22 0 (Int32.toNatClampNeg a1))) 0 σ (1, 1) (n_C_knew_44 a2 (v_C_allLikes σ) ((v_C_allLikes σ) - (gI σ 22 0 (Int32.toNatClampNeg a1))) 0 σ (1, 1))).2) (e_Ro_clear σ))) ∧ (¬ (a2 ≤ (0 + nI (n_C_knew_44 a2 (v_C_allLikes σ) ((v_C_allLikes σ) - (gI σ 22 0 (Int32.toNatClampNeg a1))) 0 σ (1, 1)))) → False)))))))
noncomputable def e_C_knew (a1 : Int32) (a2 : Int32) (σ : MSto) : MSto := (if (v_C_isIn a1 0 5 σ) = 0 then σ else (if (v_C_isIn a2 0 (v_C_allLikes σ) σ) = 0 then σ else (e_Ro_addFraction ((f_C_knew_44 a2 (v_C_allLikes σ) ((v_C_allLikes σ) - (gI σ 22 0 (Int32.toNatClampNeg a1))) 0 σ (1, 1) (n_C_knew_44 a2 (v_C_allLikes σ) ((v_C_allLikes σ) - (gI σ 22 0 (Int32.toNatClampNeg a1))) 0 σ (1, 1))).1) ((f_C_knew_44 a2 (v_C_allLikes σ) ((v_C_allLikes σ) - (gI σ 22 0 (Int32.toNatClampNeg a1))) 0 σ (1, 1) (n_C_knew_44 a2 (v_C_allLikes σ) ((v_C_allLikes σ) - (gI σ 22 0 (Int32.toNatClampNeg a1))) 0 σ (1, 1))).2) (e_Ro_clear σ))))
noncomputable def S_C_knew : List MV → MSto → Option Prop × Option MV × MSto := fun as σ => match as with
  | [.inr (.inr (some (12, 0))), .inl a0, .inl a1] => (some (p_C_knew a0 a1 σ), some (mI (v_C_knew a0 a1 σ)), e_C_knew a0 a1 σ)
  | _ => (some False, none, σ)
noncomputable def E_C_knew : MEnt := ((1, 2, 12), (2, 56, 0, 0), S_C_knew, ((⟨"ClothWithMan", "knew", "(II)I"⟩ : MethodName), prog_1_method_42_code, 10, (some .int)))

def T_C_knew : Nat → Option (Instr × Nat × List Nat) := fun k => bif Nat.blt k 101 then (bif Nat.blt k 46 then (bif Nat.blt k 24 then (bif Nat.blt k 11 then (bif Nat.blt k 5 then (bif Nat.blt k 1 then (bif Nat.beq k 0 then some (.aload_n 0, 1, []) else none) else (bif Nat.blt k 4 then (bif Nat.beq k 1 then some (.invokevirtual 369, 4, []) else none) else (bif Nat.beq k 4 then some (.istore_n 3, 5, []) else none))) else (bif Nat.blt k 7 then (bif Nat.blt k 6 then (bif Nat.beq k 5 then some (.iload_n 1, 6, []) else none) else (bif Nat.beq k 6 then some (.iconst 0, 7, []) else none)) else (bif Nat.blt k 8 then (bif Nat.beq k 7 then some (.iconst 5, 8, []) else none) else (bif Nat.beq k 8 then some (.invokestatic 145, 11, []) else none)))) else (bif Nat.blt k 16 then (bif Nat.blt k 14 then (bif Nat.beq k 11 then some (.ifCond .eq 12, 14, [23]) else none) else (bif Nat.blt k 15 then (bif Nat.beq k 14 then some (.iload_n 2, 15, []) else none) else (bif Nat.beq k 15 then some (.iconst 0, 16, []) else none))) else (bif Nat.blt k 20 then (bif Nat.blt k 17 then (bif Nat.beq k 16 then some (.iload_n 3, 17, []) else none) else (bif Nat.beq k 17 then some (.invokestatic 145, 20, []) else none)) else (bif Nat.blt k 23 then (bif Nat.beq k 20 then some (.ifCond .ne 5, 23, [25]) else none) else (bif Nat.beq k 23 then some (.iconst (-1), 24, []) else none))))) else (bif Nat.blt k 33 then (bif Nat.blt k 27 then (bif Nat.blt k 25 then (bif Nat.beq k 24 then some (.ireturn, 25, []) else none) else (bif Nat.blt k 26 then (bif Nat.beq k 25 then some (.iload_n 3, 26, []) else none) else (bif Nat.beq k 26 then some (.aload_n 0, 27, []) else none))) else (bif Nat.blt k 31 then (bif Nat.blt k 30 then (bif Nat.beq k 27 then some (.getfield 43, 30, []) else none) else (bif Nat.beq k 30 then some (.iload_n 1, 31, []) else none)) else (bif Nat.blt k 32 then (bif Nat.beq k 31 then some (.iaload, 32, []) else none) else (bif Nat.beq k 32 then some (.isub, 33, []) else none)))) else (bif Nat.blt k 39 then (bif Nat.blt k 36 then (bif Nat.blt k 35 then (bif Nat.beq k 33 then some (.istore 4, 35, []) else none) else (bif Nat.beq k 35 then some (.lconst 1, 36, []) else none)) else (bif Nat.blt k 38 then (bif Nat.beq k 36 then some (.lstore 5, 38, []) else none) else (bif Nat.beq k 38 then some (.lconst 1, 39, []) else none))) else (bif Nat.blt k 42 then (bif Nat.blt k 41 then (bif Nat.beq k 39 then some (.lstore 7, 41, []) else none) else (bif Nat.beq k 41 then some (.iconst 0, 42, []) else none)) else (bif Nat.blt k 44 then (bif Nat.beq k 42 then some (.istore 9, 44, []) else none) else (bif Nat.beq k 44 then some (.iload 9, 46, []) else none)))))) else (bif Nat.blt k 71 then (bif Nat.blt k 58 then (bif Nat.blt k 52 then (bif Nat.blt k 47 then (bif Nat.beq k 46 then some (.iload_n 2, 47, []) else none) else (bif Nat.blt k 50 then (bif Nat.beq k 47 then some (.if_icmp .ge 34, 50, [81]) else none) else (bif Nat.beq k 50 then some (.lload 5, 52, []) else none))) else (bif Nat.blt k 55 then (bif Nat.blt k 53 then (bif Nat.beq k 52 then some (.iconst 0, 53, []) else none) else (bif Nat.beq k 53 then some (.iload 4, 55, []) else none)) else (bif Nat.blt k 57 then (bif Nat.beq k 55 then some (.iload 9, 57, []) else none) else (bif Nat.beq k 57 then some (.isub, 58, []) else none)))) else (bif Nat.blt k 65 then (bif Nat.blt k 62 then (bif Nat.blt k 61 then (bif Nat.beq k 58 then some (.invokestatic 372, 61, []) else none) else (bif Nat.beq k 61 then some (.i2l, 62, []) else none)) else (bif Nat.blt k 63 then (bif Nat.beq k 62 then some (.lmul, 63, []) else none) else (bif Nat.beq k 63 then some (.lstore 5, 65, []) else none))) else (bif Nat.blt k 68 then (bif Nat.blt k 67 then (bif Nat.beq k 65 then some (.lload 7, 67, []) else none) else (bif Nat.beq k 67 then some (.iload_n 3, 68, []) else none)) else (bif Nat.blt k 70 then (bif Nat.beq k 68 then some (.iload 9, 70, []) else none) else (bif Nat.beq k 70 then some (.isub, 71, []) else none))))) else (bif Nat.blt k 85 then (bif Nat.blt k 75 then (bif Nat.blt k 72 then (bif Nat.beq k 71 then some (.i2l, 72, []) else none) else (bif Nat.blt k 73 then (bif Nat.beq k 72 then some (.lmul, 73, []) else none) else (bif Nat.beq k 73 then some (.lstore 7, 75, []) else none))) else (bif Nat.blt k 81 then (bif Nat.blt k 78 then (bif Nat.beq k 75 then some (.iinc 9 1, 78, []) else none) else (bif Nat.beq k 78 then some (.goto (-34), 81, [44]) else none)) else (bif Nat.blt k 82 then (bif Nat.beq k 81 then some (.aload_n 0, 82, []) else none) else (bif Nat.beq k 82 then some (.getfield 67, 85, []) else none)))) else (bif Nat.blt k 94 then (bif Nat.blt k 89 then (bif Nat.blt k 88 then (bif Nat.beq k 85 then some (.invokevirtual 217, 88, []) else none) else (bif Nat.beq k 88 then some (.aload_n 0, 89, []) else none)) else (bif Nat.blt k 92 then (bif Nat.beq k 89 then some (.getfield 67, 92, []) else none) else (bif Nat.beq k 92 then some (.lload 5, 94, []) else none))) else (bif Nat.blt k 99 then (bif Nat.blt k 96 then (bif Nat.beq k 94 then some (.lload 7, 96, []) else none) else (bif Nat.beq k 96 then some (.invokevirtual 242, 99, []) else none)) else (bif Nat.blt k 100 then (bif Nat.beq k 99 then some (.iconst 0, 100, []) else none) else (bif Nat.beq k 100 then some (.ireturn, 101, []) else none))))))) else none
noncomputable def P_C_knew : MP := (T_C_knew, (fun k => mLook k [(43, (12, 7, (.array .int), true)), (67, (12, 11, (.object "ClothWithMan$Row"), true))]), (fun k => mLook k []), (fun k => mLook k [(145, E_C_isIn), (217, E_Ro_clear), (242, E_Ro_addFraction), (369, E_C_allLikes), (372, E_Ma_max)]), (fun k => mLook k []), (fun k => mLook k []), (fun k => mLook k []), (fun k => mLook k [(44, [true, false, true, true, true, true, false, true, false, true])]), (fun k => [24, 100].any (Nat.beq k)), (2, 56, 0, 0), false, (fun _ => none))
set_option maxRecDepth 100000 in
set_option maxHeartbeats 4000000 in
theorem q_C_knew_e (a1 : Int32) (a2 : Int32) (σ : MSto) (n : Nat) : mexe KT P_C_knew (n + 1) (0, [some (mR 12 0), some (mI a1), some (mI a2), none, none, none, none, none, none, none], [], σ, 0, 0) = mG (p_C_allLikes σ) (mIf ((v_C_isIn a1 0 5 σ) = 0) (some (24, [], [(mI (-1))], σ, 0, 0)) (mIf ((v_C_isIn a2 0 (v_C_allLikes σ) σ) = 0) (some (24, [], [(mI (-1))], σ, 0, 0)) (mG (vp_in a1 6) (mexe KT P_C_knew n (44, [some (mR 12 0), none, some (mI a2), some (mI (v_C_allLikes σ)), some (mI ((v_C_allLikes σ) - (gI σ 22 0 (Int32.toNatClampNeg a1)))), some (mJ 1), none, some (mJ 1), none, some (mI 0)], [], σ, 0, 0))))) := rfl
set_option maxRecDepth 100000 in
set_option maxHeartbeats 4000000 in
theorem q_C_knew_44 (x2 : Int32) (x3 : Int32) (x4 : Int32) (x5 : Int64) (x7 : Int64) (x9 : Int32) (σ : MSto) (n : Nat) : mexe KT P_C_knew (n + 1) (44, [some (mR 12 0), none, some (mI x2), some (mI x3), some (mI x4), some (mJ x5), none, some (mJ x7), none, some (mI x9)], [], σ, 0, 0) = mIf (x2 ≤ x9) (mG (p_Ro_addFraction x5 x7 (e_Ro_clear σ)) (some (100, [], [(mI 0)], (e_Ro_addFraction x5 x7 (e_Ro_clear σ)), 0, 0))) (mexe KT P_C_knew n (44, [some (mR 12 0), none, some (mI x2), some (mI x3), some (mI x4), some (mJ (x5 * (Int32.toInt64 (v_Ma_max 0 (x4 - x9) σ)))), none, some (mJ (x7 * (Int32.toInt64 (x3 - x9)))), none, some (mI (x9 + 1))], [], σ, 0, 0)) := rfl
set_option maxRecDepth 100000 in
theorem lt_C_knew_44 {Post : MST → Prop} (x2 : Int32) (x3 : Int32) (x4 : Int32) (c : Int32) (σ : MSto) (s : Int64 × Int64) (hp : g_C_knew_44 x2 x3 x4 c σ s) (hq : ¬ q_C_knew_44s x2 x3 x4 c σ s = 1) (hn : ∀ (r1 : Int64) (r2 : Int64), t_C_knew_44 x2 x3 x4 c σ s = (r1, r2) → mW1 P_C_knew (44, [some (mR 12 0), none, some (mI x2), some (mI x3), some (mI x4), some (mJ r1), none, some (mJ r2), none, some (mI (c + 1))], [], σ, 0, 0) Post) : mW1 P_C_knew (44, [some (mR 12 0), none, some (mI x2), some (mI x3), some (mI x4), some (mJ (s.1)), none, some (mJ (s.2)), none, some (mI c)], [], σ, 0, 0) Post := by
  unfold g_C_knew_44 at hp
  refine mW1_eq (q_C_knew_44 _ _ _ _ _ _ _) ?_
  refine mTr_if (fun h0 => ?_) (fun h0 => ?_)
  · skip
    exact absurd (if_pos h0) hq
  · skip
    exact mTr_k (hn ((s.1) * (Int32.toInt64 (v_Ma_max 0 (x4 - c) σ))) ((s.2) * (Int32.toInt64 (x3 - c))) (if_neg h0))
theorem lp_C_knew_44 {Post : MST → Prop} (x2 : Int32) (x3 : Int32) (x4 : Int32) (c0 : Int32) (σ : MSto) (s0 : Int64 × Int64) (N : Nat) (hb : ∀ i, i < N → g_C_knew_44 x2 x3 x4 (c0 + nI i) σ (f_C_knew_44 x2 x3 x4 c0 σ s0 i) ∧ ¬ q_C_knew_44s x2 x3 x4 (c0 + nI i) σ (f_C_knew_44 x2 x3 x4 c0 σ s0 i) = 1) (h : mW1 P_C_knew (44, [some (mR 12 0), none, some (mI x2), some (mI x3), some (mI x4), some (mJ ((f_C_knew_44 x2 x3 x4 c0 σ s0 N).1)), none, some (mJ ((f_C_knew_44 x2 x3 x4 c0 σ s0 N).2)), none, some (mI (c0 + nI N))], [], σ, 0, 0) Post) : mW1 P_C_knew (44, [some (mR 12 0), none, some (mI x2), some (mI x3), some (mI x4), some (mJ (s0.1)), none, some (mJ (s0.2)), none, some (mI c0)], [], σ, 0, 0) Post := by
  refine mW1_st (mW1_loop (fun i => (44, [some (mR 12 0), none, some (mI x2), some (mI x3), some (mI x4), some (mJ ((f_C_knew_44 x2 x3 x4 c0 σ s0 i).1)), none, some (mJ ((f_C_knew_44 x2 x3 x4 c0 σ s0 i).2)), none, some (mI (c0 + nI i))], [], σ, 0, 0)) N (fun i hlt hn => ?_) h) (by rw [show nI 0 = 0 from rfl, Int32.add_zero] <;> rfl)
  refine lt_C_knew_44 x2 x3 x4 _ σ _ (hb i hlt).1 (hb i hlt).2 (fun r1 r2 hr => ?_)
  rw [Int32.add_assoc, nI_s]
  have e : f_C_knew_44 x2 x3 x4 c0 σ s0 (i + 1) = (r1, r2) := hr
  try dsimp only at hn
  rw [e] at hn
  exact hn
set_option maxRecDepth 100000 in
set_option maxHeartbeats 4000000 in
theorem d_C_knew (a1 : Int32) (a2 : Int32) (σ : MSto) (hp : p_C_knew a1 a2 σ) : mW1 P_C_knew (0, [some (mR 12 0), some (mI a1), some (mI a2), none, none, none, none, none, none, none], [], σ, 0, 0) (mF [24, 100] [mI (v_C_knew a1 a2 σ)] (e_C_knew a1 a2 σ) 0 0) := by
  refine mW1_eq (q_C_knew_e _ _ _) ?_
  unfold p_C_knew at hp
  refine mTr_g hp.1 ?_
  have hp := hp.2
  refine mTr_if (fun h0 => ?_) (fun h0 => ?_)
  · skip
    exact mTr_e (by decide) (congrArg (fun z => [mI z]) (Eq.symm (if_pos h0))) (Eq.symm (if_pos h0)) (by decide) (by decide)
  · skip
    have hp := hp h0
    refine mTr_if (fun h1 => ?_) (fun h1 => ?_)
    · skip
      exact mTr_e (by decide) (congrArg (fun z => [mI z]) (Eq.symm ((if_neg h0).trans (if_pos h1)))) (Eq.symm ((if_neg h0).trans (if_pos h1))) (by decide) (by decide)
    · skip
      have hp := hp h1
      refine mTr_g hp.1 ?_
      have hp := hp.2
      refine mTr_k (lp_C_knew_44 a2 (v_C_allLikes σ) ((v_C_allLikes σ) - (gI σ 22 0 (Int32.toNatClampNeg a1))) 0 σ (1, 1) (n_C_knew_44 a2 (v_C_allLikes σ) ((v_C_allLikes σ) - (gI σ 22 0 (Int32.toNatClampNeg a1))) 0 σ (1, 1)) hp.1 ?_)
      have hp := hp.2
      refine mW1_eq (q_C_knew_44 _ _ _ _ _ _ _) ?_
      refine mTr_if (fun h2 => ?_) (fun h2 => ?_)
      · skip
        have hp := hp.1 h2
        refine mTr_g hp ?_
        exact mTr_e (by decide) (congrArg (fun z => [mI z]) (Eq.symm ((if_neg h0).trans (if_neg h1)))) (Eq.symm ((if_neg h0).trans (if_neg h1))) (by decide) (by decide)
      · skip
        have hp := hp.2 h2
        exact hp.elim





theorem tk_C_knew : ∀ pc i nx tg, T_C_knew pc = some (i, nx, tg) → mOkB prog_1_method_42_code pc i nx tg = true := code_ok (N := 101) (fun k h => by unfold T_C_knew; rw [h]; rfl) (by decide +kernel)
theorem ok_C_knew (l : Launch) : mPOK l "ClothWithMan" prog_1_method_42_code P_C_knew := by
  refine ⟨tk_C_knew, ?_, ?_, ?_, (fun pc i nx tg kd _ h => by cases h), ?_, ?_, fun pc en h => by cases h⟩
  · intro x ci f ty fin h
    exact mLook_all (Q := fun x v => mFOK "ClothWithMan" x v.1 v.2.1 v.2.2.1 v.2.2.2 ∧ (v.2.2.2 = true → pIni P_C_knew = true → (Cond.fieldLink "ClothWithMan" x (((mCl[v.1]?).getD ("", fun _ => ("", "", "", false), 0)).2.1 v.2.1).1 (((mCl[v.1]?).getD ("", fun _ => ("", "", "", false), 0)).2.1 v.2.1).2.1 (((mCl[v.1]?).getD ("", fun _ => ("", "", "", false), 0)).2.1 v.2.1).2.2.1 ∈ lw_tbl ∧ (((mCl[v.1]?).getD ("", fun _ => ("", "", "", false), 0)).2.1 v.2.1).1 = "ClothWithMan"))) (fcC ⟨fo_C_43, fun h1 h2 => by cases h2⟩ (fcC ⟨fo_C_67, fun h1 h2 => by cases h2⟩ fcN)) x (ci, f, ty, fin) h
  · intro x
    have hh := mLook_all (l := ([] : List (Nat × (Int32 ⊕ Int64)))) (Q := fun x (v : Int32 ⊕ Int64) => (∀ w, v = .inl w → Cond.constant "ClothWithMan" x w ∈ lw_tbl) ∧ (∀ w, v = .inr w → Cond.constantLong "ClothWithMan" x w ∈ lw_tbl)) fcN x
    exact ⟨fun w h => (hh _ h).1 w rfl, fun w h => (hh _ h).2 w rfl⟩
  · exact fun x en h => mLook_all (Q := fun x en => mLink "ClothWithMan" x en ∧ mCtr l en ∧ (en.1.1 = 2 → en.2.2.2.2.2.2 = none)) (fcC ⟨li_C_145, c_C_isIn l, (fun h => by cases h)⟩ (fcC ⟨li_C_217, c_Ro_clear l, (fun h => by cases h)⟩ (fcC ⟨li_C_242, c_Ro_addFraction l, (fun h => by cases h)⟩ (fcC ⟨li_C_369, c_C_allLikes l, (fun h => by cases h)⟩ (fcC ⟨li_C_372, c_Ma_max l, (fun h => by cases h)⟩ fcN))))) x en h
  · exact fun x kd h => mLook_all (Q := fun x kd => (kd = 95 ∧ Cond.fieldLink "ClothWithMan" x "ClothWithMan" "LIKENESSES" "[I" ∈ lw_tbl) ∨ (kd = 96 ∧ Cond.fieldLink "ClothWithMan" x "ClothWithMan" "APART_BOUNDS" "[I" ∈ lw_tbl)) fcN x kd h
  · exact fun x ci h => mLook_all (Q := fun x ci => ci ≠ 0 ∧ ∃ (C : String) (T : u_T) (N : Nat), mCl[ci]? = some (C, T, N) ∧ Cond.classLink "ClothWithMan" x C ∈ lw_tbl ∧ Cond.instantiable C N ∈ lw_tbl) fcN x ci h
set_option maxRecDepth 100000 in
theorem c_C_knew (l : Launch) : mCtr l E_C_knew := mCtr_of (P := P_C_knew) (own := "ClothWithMan") mLay_ok rfl (by decide +kernel) rfl (ok_C_knew l) (fun h => by cases h) (fun as σ pr rv σ' hF hpr hlv => by
  unfold E_C_knew S_C_knew at hF
  simp only [] at hF
  split at hF
  · cases hF
    obtain ⟨n, pcF, c1, s1, g1, g2, g3, g4⟩ := mF_inv (d_C_knew _ _ σ (hpr _ rfl))
    exact ⟨Nat.le_of_ble_eq_true rfl, (fun v h => by cases h; trivial), n, pcF, c1, s1, g1, ⟨mEnd_of (i := .ireturn) (P := P_C_knew) (rets := [24, 100]) rfl g2, rfl⟩, g3, g4⟩
  · cases hF
    exact (hpr _ rfl).elim)
/-! ClothWithMan.how(III)Z -/
def b_C_how (a1 : Int32) (a2 : Int32) (a3 : Int32) (σ : MSto) : Prop := (if (v_C_isIn a1 0 7 σ) = 0 then False else (if (v_C_areMarks a2 a3 σ) = 0 then False else True))
noncomputable def v_C_how (a1 : Int32) (a2 : Int32) (a3 : Int32) (σ : MSto) : Int32 := bI (b_C_how a1 a2 a3 σ)
def p_C_how (a1 : Int32) (a2 : Int32) (a3 : Int32) (σ : MSto) : Prop := (¬ ((v_C_isIn a1 0 7 σ) = 0) → (¬ ((v_C_areMarks a2 a3 σ) = 0) → (vp_in a1 8)))
noncomputable def e_C_how (a1 : Int32) (a2 : Int32) (a3 : Int32) (σ : MSto) : MSto := (if (v_C_isIn a1 0 7 σ) = 0 then σ else (if (v_C_areMarks a2 a3 σ) = 0 then σ else (sR (e_Ho_init (gN σ 3) a2 a3 (sNew σ 3)) 23 0 (Int32.toNatClampNeg a1) (some (gN σ 3)))))
noncomputable def S_C_how : List MV → MSto → Option Prop × Option MV × MSto := fun as σ => match as with
  | [.inr (.inr (some (12, 0))), .inl a0, .inl a1, .inl a2] => (some (p_C_how a0 a1 a2 σ), some (mI (v_C_how a0 a1 a2 σ)), e_C_how a0 a1 a2 σ)
  | _ => (some False, none, σ)
noncomputable def E_C_how : MEnt := ((1, 3, 12), (2, 43, 1, 2), S_C_how, ((⟨"ClothWithMan", "how", "(III)Z"⟩ : MethodName), prog_1_method_43_code, 4, (some .boolean)))

def T_C_how : Nat → Option (Instr × Nat × List Nat) := fun k => bif Nat.blt k 37 then (bif Nat.blt k 20 then (bif Nat.blt k 10 then (bif Nat.blt k 2 then (bif Nat.blt k 1 then (bif Nat.beq k 0 then some (.iload_n 1, 1, []) else none) else (bif Nat.beq k 1 then some (.iconst 0, 2, []) else none)) else (bif Nat.blt k 4 then (bif Nat.beq k 2 then some (.bipush 7, 4, []) else none) else (bif Nat.blt k 7 then (bif Nat.beq k 4 then some (.invokestatic 145, 7, []) else none) else (bif Nat.beq k 7 then some (.ifCond .eq 11, 10, [18]) else none)))) else (bif Nat.blt k 15 then (bif Nat.blt k 11 then (bif Nat.beq k 10 then some (.iload_n 2, 11, []) else none) else (bif Nat.blt k 12 then (bif Nat.beq k 11 then some (.iload_n 3, 12, []) else none) else (bif Nat.beq k 12 then some (.invokestatic 375, 15, []) else none))) else (bif Nat.blt k 18 then (bif Nat.beq k 15 then some (.ifCond .ne 5, 18, [20]) else none) else (bif Nat.blt k 19 then (bif Nat.beq k 18 then some (.iconst 0, 19, []) else none) else (bif Nat.beq k 19 then some (.ireturn, 20, []) else none))))) else (bif Nat.blt k 29 then (bif Nat.blt k 24 then (bif Nat.blt k 21 then (bif Nat.beq k 20 then some (.aload_n 0, 21, []) else none) else (bif Nat.beq k 21 then some (.getfield 48, 24, []) else none)) else (bif Nat.blt k 25 then (bif Nat.beq k 24 then some (.iload_n 1, 25, []) else none) else (bif Nat.blt k 28 then (bif Nat.beq k 25 then some (.new 46, 28, []) else none) else (bif Nat.beq k 28 then some (.dup, 29, []) else none)))) else (bif Nat.blt k 34 then (bif Nat.blt k 30 then (bif Nat.beq k 29 then some (.iload_n 2, 30, []) else none) else (bif Nat.blt k 31 then (bif Nat.beq k 30 then some (.iload_n 3, 31, []) else none) else (bif Nat.beq k 31 then some (.invokespecial 378, 34, []) else none))) else (bif Nat.blt k 35 then (bif Nat.beq k 34 then some (.aastore, 35, []) else none) else (bif Nat.blt k 36 then (bif Nat.beq k 35 then some (.iconst 1, 36, []) else none) else (bif Nat.beq k 36 then some (.ireturn, 37, []) else none)))))) else none
noncomputable def P_C_how : MP := (T_C_how, (fun k => mLook k [(48, (12, 8, (.array (.object "ClothWithMan$How")), true))]), (fun k => mLook k []), (fun k => mLook k [(145, E_C_isIn), (375, E_C_areMarks), (378, E_Ho_init)]), (fun k => mLook k [(25, 3)]), (fun k => mLook k []), (fun k => mLook k []), (fun k => mLook k []), (fun k => [19, 36].any (Nat.beq k)), (2, 43, 1, 2), false, (fun _ => none))
set_option maxRecDepth 100000 in
set_option maxHeartbeats 4000000 in
theorem q_C_how_e (a1 : Int32) (a2 : Int32) (a3 : Int32) (σ : MSto) (n : Nat) : mexe KT P_C_how (n + 1) (0, [some (mR 12 0), some (mI a1), some (mI a2), some (mI a3)], [], σ, 0, 0) = mIf ((v_C_isIn a1 0 7 σ) = 0) (some (19, [], [(mI 0)], σ, 0, 0)) (mIf ((v_C_areMarks a2 a3 σ) = 0) (some (19, [], [(mI 0)], σ, 0, 0)) (mG (vp_in a1 8) (some (36, [], [(mI 1)], (sR (e_Ho_init (gN σ 3) a2 a3 (sNew σ 3)) 23 0 (Int32.toNatClampNeg a1) (some (gN σ 3))), 1, 2)))) := rfl
set_option maxRecDepth 100000 in
set_option maxHeartbeats 4000000 in
theorem d_C_how (a1 : Int32) (a2 : Int32) (a3 : Int32) (σ : MSto) (hp : p_C_how a1 a2 a3 σ) : mW1 P_C_how (0, [some (mR 12 0), some (mI a1), some (mI a2), some (mI a3)], [], σ, 0, 0) (mF [19, 36] [mI (v_C_how a1 a2 a3 σ)] (e_C_how a1 a2 a3 σ) 1 2) := by
  refine mW1_eq (q_C_how_e _ _ _ _) ?_
  unfold p_C_how at hp
  unfold v_C_how
  refine mTr_if (fun h0 => ?_) (fun h0 => ?_)
  · skip
    exact mTr_e (by decide) (bI_F (if_pos h0)) (Eq.symm (if_pos h0)) (by decide) (by decide)
  · skip
    have hp := hp h0
    refine mTr_if (fun h1 => ?_) (fun h1 => ?_)
    · skip
      exact mTr_e (by decide) (bI_F ((if_neg h0).trans (if_pos h1))) (Eq.symm ((if_neg h0).trans (if_pos h1))) (by decide) (by decide)
    · skip
      have hp := hp h1
      refine mTr_g hp ?_
      exact mTr_e (by decide) (bI_T ((if_neg h0).trans (if_neg h1))) (Eq.symm ((if_neg h0).trans (if_neg h1))) (by decide) (by decide)
theorem li_C_378 : mLink "ClothWithMan" 378 E_Ho_init := ⟨tw_4_212, tw_1_25, ⟨by decide, by decide⟩, by decide +kernel, Or.inl tw_4_210, (fun h => by cases h), (fun h => by cases h), (fun _ => ⟨tw_4_211, rfl⟩)⟩

theorem li_C_375 : mLink "ClothWithMan" 375 E_C_areMarks := ⟨tw_4_208, tw_1_1, ⟨by decide, by decide⟩, by decide +kernel, Or.inl tw_4_206, (fun _ => tw_4_207), (fun h => by cases h), (fun h => by cases h)⟩


theorem tk_C_how : ∀ pc i nx tg, T_C_how pc = some (i, nx, tg) → mOkB prog_1_method_43_code pc i nx tg = true := code_ok (N := 37) (fun k h => by unfold T_C_how; rw [h]; rfl) (by decide +kernel)
theorem al_C_how : ∀ pc i nx tg kd, pCode P_C_how pc = some (i, nx, tg) → pAlc P_C_how pc = some kd → match i with
    | .new x => mAOK "ClothWithMan" x kd
    | .newarray t => mNAOK t kd
    | .anewarray x => mAAOK "ClothWithMan" x kd
    | .invokespecial x => Cond.methodLink "ClothWithMan" x Lib.objectInit ∈ lw_tbl
    | _ => True := by
  intro pc i nx tg kd h1 h2
  have h3 := mLook_mem h2
  simp only [List.mem_cons, Prod.mk.injEq, List.not_mem_nil, or_false] at h3
  rcases h3 with ⟨rfl, rfl⟩
  · have e : T_C_how 25 = some (i, nx, tg) := h1
    cases e
    exact ⟨3, _, "ClothWithMan$How", TX2, rfl, by decide, rfl, tw_1_140, tw_4_209, tw_1_25, (lt_s (lt_s lt_0 ⟨.int, by decide +kernel, Or.inl ⟨rfl, rfl⟩⟩) ⟨.int, by decide +kernel, Or.inl ⟨rfl, rfl⟩⟩)⟩

theorem ok_C_how (l : Launch) : mPOK l "ClothWithMan" prog_1_method_43_code P_C_how := by
  refine ⟨tk_C_how, ?_, ?_, ?_, al_C_how, ?_, ?_, fun pc en h => by cases h⟩
  · intro x ci f ty fin h
    exact mLook_all (Q := fun x v => mFOK "ClothWithMan" x v.1 v.2.1 v.2.2.1 v.2.2.2 ∧ (v.2.2.2 = true → pIni P_C_how = true → (Cond.fieldLink "ClothWithMan" x (((mCl[v.1]?).getD ("", fun _ => ("", "", "", false), 0)).2.1 v.2.1).1 (((mCl[v.1]?).getD ("", fun _ => ("", "", "", false), 0)).2.1 v.2.1).2.1 (((mCl[v.1]?).getD ("", fun _ => ("", "", "", false), 0)).2.1 v.2.1).2.2.1 ∈ lw_tbl ∧ (((mCl[v.1]?).getD ("", fun _ => ("", "", "", false), 0)).2.1 v.2.1).1 = "ClothWithMan"))) (fcC ⟨fo_C_48, fun h1 h2 => by cases h2⟩ fcN) x (ci, f, ty, fin) h
  · intro x
    have hh := mLook_all (l := ([] : List (Nat × (Int32 ⊕ Int64)))) (Q := fun x (v : Int32 ⊕ Int64) => (∀ w, v = .inl w → Cond.constant "ClothWithMan" x w ∈ lw_tbl) ∧ (∀ w, v = .inr w → Cond.constantLong "ClothWithMan" x w ∈ lw_tbl)) fcN x
    exact ⟨fun w h => (hh _ h).1 w rfl, fun w h => (hh _ h).2 w rfl⟩
  · exact fun x en h => mLook_all (Q := fun x en => mLink "ClothWithMan" x en ∧ mCtr l en ∧ (en.1.1 = 2 → en.2.2.2.2.2.2 = none)) (fcC ⟨li_C_145, c_C_isIn l, (fun h => by cases h)⟩ (fcC ⟨li_C_375, c_C_areMarks l, (fun h => by cases h)⟩ (fcC ⟨li_C_378, c_Ho_init l, (fun _ => rfl)⟩ fcN))) x en h
  · exact fun x kd h => mLook_all (Q := fun x kd => (kd = 95 ∧ Cond.fieldLink "ClothWithMan" x "ClothWithMan" "LIKENESSES" "[I" ∈ lw_tbl) ∨ (kd = 96 ∧ Cond.fieldLink "ClothWithMan" x "ClothWithMan" "APART_BOUNDS" "[I" ∈ lw_tbl)) fcN x kd h
  · exact fun x ci h => mLook_all (Q := fun x ci => ci ≠ 0 ∧ ∃ (C : String) (T : u_T) (N : Nat), mCl[ci]? = some (C, T, N) ∧ Cond.classLink "ClothWithMan" x C ∈ lw_tbl ∧ Cond.instantiable C N ∈ lw_tbl) fcN x ci h
set_option maxRecDepth 100000 in
theorem c_C_how (l : Launch) : mCtr l E_C_how := mCtr_of (P := P_C_how) (own := "ClothWithMan") mLay_ok rfl (by decide +kernel) rfl (ok_C_how l) (fun h => by cases h) (fun as σ pr rv σ' hF hpr hlv => by
  unfold E_C_how S_C_how at hF
  simp only [] at hF
  split at hF
  · cases hF
    obtain ⟨n, pcF, c1, s1, g1, g2, g3, g4⟩ := mF_inv (d_C_how _ _ _ σ (hpr _ rfl))
    exact ⟨Nat.le_of_ble_eq_true rfl, (fun v h => by cases h; trivial), n, pcF, c1, s1, g1, ⟨mEnd_of (i := .ireturn) (P := P_C_how) (rets := [19, 36]) rfl g2, bI_narrow _⟩, g3, g4⟩
  · cases hF
    exact (hpr _ rfl).elim)
/-! ClothWithMan.open(II)I -/
noncomputable def t_C_open_15 (x1 : Int32) (x2 : Int32) (c : Int32) (σ : MSto) (s : Int32) : Int32 := (if 8 ≤ c then s else (mO (gR σ 23 0 (Int32.toNatClampNeg c)) (s) (fun z1 => (if (v_Ho_isAllKnown z1 x1 x2 σ) = 0 then s else (s ||| ((1 : Int32) <<< (c &&& 31)))))))
noncomputable def q_C_open_15s (x1 : Int32) (x2 : Int32) (c : Int32) (σ : MSto) (s : Int32) : Nat := (if 8 ≤ c then 1 else 0)
def g_C_open_15 (x1 : Int32) (x2 : Int32) (c : Int32) (σ : MSto) (s : Int32) : Prop := (¬ (8 ≤ c) → (vp_in c 8))
noncomputable def f_C_open_15 (x1 : Int32) (x2 : Int32) (c0 : Int32) (σ : MSto) (s0 : Int32) (n : Nat) : Int32 := nfold (fun i s => t_C_open_15 x1 x2 (c0 + nI i) σ s) s0 n
noncomputable def n_C_open_15 (x1 : Int32) (x2 : Int32) (c0 : Int32) (σ : MSto) (s0 : Int32) : Nat := 8
noncomputable def v_C_open (a1 : Int32) (a2 : Int32) (σ : MSto) : Int32 := (if (v_C_areMarks a1 a2 σ) = 0 then (-1) else (v_C_openHows a1 a2 (e_Ro_add (Int32.toInt64 (f_C_open_15 a1 a2 0 σ 0 (n_C_open_15 a1 a2 0 σ 0))) (e_Ro_clear σ))))
def p_C_open (a1 : Int32) (a2 : Int32) (σ : MSto) : Prop := (¬ ((v_C_areMarks a1 a2 σ) = 0) → ((∀ i, i < (n_C_open_15 a1 a2 0 σ 0) → g_C_open_15 a1 a2 (0 + nI i) σ (f_C_open_15 a1 a2 0 σ 0 i) ∧ ¬ q_C_open_15s a1 a2 (0 + nI i) σ (f_C_open_15 a1 a2 0 σ 0 i) = 1) ∧ (((8 ≤ (0 + nI (n_C_open_15 a1 a2 0 σ 0))) → ((p_Ro_add (Int32.toInt64 (f_C_open_15 a1 a2 0 σ 0 (n_C_open_15 a1 a2 0 σ 0))) (e_Ro_clear σ)) ∧ (p_C_openHows a1 a2 (e_Ro_add (Int32.toInt64 (f_C_open_15 a1 a2 0 σ 0 (n_C_open_15 a1 a2 0 σ 0))) (e_Ro_clear σ))))) ∧ (¬ (8 ≤ (0 + nI (n_C_open_15 a1 a2 0 σ 0))) → False))))
noncomputable def e_C_open (a1 : Int32) (a2 : Int32) (σ : MSto) : MSto := (if (v_C_areMarks a1 a2 σ) = 0 then σ else (e_Ro_add (Int32.toInt64 (f_C_open_15 a1 a2 0 σ 0 (n_C_open_15 a1 a2 0 σ 0))) (e_Ro_clear σ)))
noncomputable def S_C_open : List MV → MSto → Option Prop × Option MV × MSto := fun as σ => match as with
  | [.inr (.inr (some (12, 0))), .inl a0, .inl a1] => (some (p_C_open a0 a1 σ), some (mI (v_C_open a0 a1 σ)), e_C_open a0 a1 σ)
  | _ => (some False, none, σ)
noncomputable def E_C_open : MEnt := ((1, 2, 12), (2, 47, 0, 0), S_C_open, ((⟨"ClothWithMan", "open", "(II)I"⟩ : MethodName), prog_1_method_44_code, 6, (some .int)))

def T_C_open : Nat → Option (Instr × Nat × List Nat) := fun k => bif Nat.blt k 82 then (bif Nat.blt k 40 then (bif Nat.blt k 17 then (bif Nat.blt k 9 then (bif Nat.blt k 2 then (bif Nat.blt k 1 then (bif Nat.beq k 0 then some (.iload_n 1, 1, []) else none) else (bif Nat.beq k 1 then some (.iload_n 2, 2, []) else none)) else (bif Nat.blt k 5 then (bif Nat.beq k 2 then some (.invokestatic 375, 5, []) else none) else (bif Nat.blt k 8 then (bif Nat.beq k 5 then some (.ifCond .ne 5, 8, [10]) else none) else (bif Nat.beq k 8 then some (.iconst (-1), 9, []) else none)))) else (bif Nat.blt k 12 then (bif Nat.blt k 10 then (bif Nat.beq k 9 then some (.ireturn, 10, []) else none) else (bif Nat.blt k 11 then (bif Nat.beq k 10 then some (.iconst 0, 11, []) else none) else (bif Nat.beq k 11 then some (.istore_n 3, 12, []) else none))) else (bif Nat.blt k 13 then (bif Nat.beq k 12 then some (.iconst 0, 13, []) else none) else (bif Nat.blt k 15 then (bif Nat.beq k 13 then some (.istore 4, 15, []) else none) else (bif Nat.beq k 15 then some (.iload 4, 17, []) else none))))) else (bif Nat.blt k 29 then (bif Nat.blt k 23 then (bif Nat.blt k 19 then (bif Nat.beq k 17 then some (.bipush 8, 19, []) else none) else (bif Nat.blt k 22 then (bif Nat.beq k 19 then some (.if_icmp .ge 40, 22, [59]) else none) else (bif Nat.beq k 22 then some (.aload_n 0, 23, []) else none))) else (bif Nat.blt k 26 then (bif Nat.beq k 23 then some (.getfield 48, 26, []) else none) else (bif Nat.blt k 28 then (bif Nat.beq k 26 then some (.iload 4, 28, []) else none) else (bif Nat.beq k 28 then some (.aaload, 29, []) else none)))) else (bif Nat.blt k 36 then (bif Nat.blt k 31 then (bif Nat.beq k 29 then some (.astore 5, 31, []) else none) else (bif Nat.blt k 33 then (bif Nat.beq k 31 then some (.aload 5, 33, []) else none) else (bif Nat.beq k 33 then some (.ifnull 20, 36, [53]) else none))) else (bif Nat.blt k 38 then (bif Nat.beq k 36 then some (.aload 5, 38, []) else none) else (bif Nat.blt k 39 then (bif Nat.beq k 38 then some (.iload_n 1, 39, []) else none) else (bif Nat.beq k 39 then some (.iload_n 2, 40, []) else none)))))) else (bif Nat.blt k 60 then (bif Nat.blt k 50 then (bif Nat.blt k 46 then (bif Nat.blt k 43 then (bif Nat.beq k 40 then some (.invokevirtual 381, 43, []) else none) else (bif Nat.beq k 43 then some (.ifCond .eq 10, 46, [53]) else none)) else (bif Nat.blt k 47 then (bif Nat.beq k 46 then some (.iload_n 3, 47, []) else none) else (bif Nat.blt k 48 then (bif Nat.beq k 47 then some (.iconst 1, 48, []) else none) else (bif Nat.beq k 48 then some (.iload 4, 50, []) else none)))) else (bif Nat.blt k 53 then (bif Nat.blt k 51 then (bif Nat.beq k 50 then some (.ishl, 51, []) else none) else (bif Nat.blt k 52 then (bif Nat.beq k 51 then some (.ior, 52, []) else none) else (bif Nat.beq k 52 then some (.istore_n 3, 53, []) else none))) else (bif Nat.blt k 56 then (bif Nat.beq k 53 then some (.iinc 4 1, 56, []) else none) else (bif Nat.blt k 59 then (bif Nat.beq k 56 then some (.goto (-41), 59, [15]) else none) else (bif Nat.beq k 59 then some (.aload_n 0, 60, []) else none))))) else (bif Nat.blt k 72 then (bif Nat.blt k 67 then (bif Nat.blt k 63 then (bif Nat.beq k 60 then some (.getfield 67, 63, []) else none) else (bif Nat.blt k 66 then (bif Nat.beq k 63 then some (.invokevirtual 217, 66, []) else none) else (bif Nat.beq k 66 then some (.aload_n 0, 67, []) else none))) else (bif Nat.blt k 70 then (bif Nat.beq k 67 then some (.getfield 67, 70, []) else none) else (bif Nat.blt k 71 then (bif Nat.beq k 70 then some (.iload_n 3, 71, []) else none) else (bif Nat.beq k 71 then some (.i2l, 72, []) else none)))) else (bif Nat.blt k 77 then (bif Nat.blt k 75 then (bif Nat.beq k 72 then some (.invokevirtual 223, 75, []) else none) else (bif Nat.blt k 76 then (bif Nat.beq k 75 then some (.aload_n 0, 76, []) else none) else (bif Nat.beq k 76 then some (.iload_n 1, 77, []) else none))) else (bif Nat.blt k 78 then (bif Nat.beq k 77 then some (.iload_n 2, 78, []) else none) else (bif Nat.blt k 81 then (bif Nat.beq k 78 then some (.invokevirtual 384, 81, []) else none) else (bif Nat.beq k 81 then some (.ireturn, 82, []) else none))))))) else none
noncomputable def P_C_open : MP := (T_C_open, (fun k => mLook k [(48, (12, 8, (.array (.object "ClothWithMan$How")), true)), (67, (12, 11, (.object "ClothWithMan$Row"), true))]), (fun k => mLook k []), (fun k => mLook k [(217, E_Ro_clear), (223, E_Ro_add), (375, E_C_areMarks), (381, E_Ho_isAllKnown), (384, E_C_openHows)]), (fun k => mLook k []), (fun k => mLook k []), (fun k => mLook k []), (fun k => mLook k [(15, [true, true, true, true, true, false])]), (fun k => [9, 81].any (Nat.beq k)), (2, 47, 0, 0), false, (fun _ => none))
set_option maxRecDepth 100000 in
set_option maxHeartbeats 4000000 in
theorem q_C_open_e (a1 : Int32) (a2 : Int32) (σ : MSto) (n : Nat) : mexe KT P_C_open (n + 1) (0, [some (mR 12 0), some (mI a1), some (mI a2), none, none, none], [], σ, 0, 0) = mIf ((v_C_areMarks a1 a2 σ) = 0) (some (9, [], [(mI (-1))], σ, 0, 0)) (mexe KT P_C_open n (15, [some (mR 12 0), some (mI a1), some (mI a2), some (mI 0), some (mI 0), none], [], σ, 0, 0)) := rfl
set_option maxRecDepth 100000 in
set_option maxHeartbeats 4000000 in
theorem q_C_open_15 (x1 : Int32) (x2 : Int32) (x3 : Int32) (x4 : Int32) (σ : MSto) (n : Nat) : mexe KT P_C_open (n + 1) (15, [some (mR 12 0), some (mI x1), some (mI x2), some (mI x3), some (mI x4), none], [], σ, 0, 0) = mIf (8 ≤ x4) (mG (p_Ro_add (Int32.toInt64 x3) (e_Ro_clear σ)) (mG (p_C_openHows x1 x2 (e_Ro_add (Int32.toInt64 x3) (e_Ro_clear σ))) (some (81, [], [(mI (v_C_openHows x1 x2 (e_Ro_add (Int32.toInt64 x3) (e_Ro_clear σ))))], (e_Ro_add (Int32.toInt64 x3) (e_Ro_clear σ)), 0, 0)))) (mG (vp_in x4 8) (mO (gR σ 23 0 (Int32.toNatClampNeg x4)) (mexe KT P_C_open n (15, [some (mR 12 0), some (mI x1), some (mI x2), some (mI x3), some (mI (x4 + 1)), none], [], σ, 0, 0)) (fun z1 => mIf ((v_Ho_isAllKnown z1 x1 x2 σ) = 0) (mexe KT P_C_open n (15, [some (mR 12 0), some (mI x1), some (mI x2), some (mI x3), some (mI (x4 + 1)), none], [], σ, 0, 0)) (mexe KT P_C_open n (15, [some (mR 12 0), some (mI x1), some (mI x2), some (mI (x3 ||| ((1 : Int32) <<< (x4 &&& 31)))), some (mI (x4 + 1)), none], [], σ, 0, 0))))) := rfl
set_option maxRecDepth 100000 in
theorem lt_C_open_15 {Post : MST → Prop} (x1 : Int32) (x2 : Int32) (c : Int32) (σ : MSto) (s : Int32) (hp : g_C_open_15 x1 x2 c σ s) (hq : ¬ q_C_open_15s x1 x2 c σ s = 1) (hn : ∀ r, t_C_open_15 x1 x2 c σ s = r → mW1 P_C_open (15, [some (mR 12 0), some (mI x1), some (mI x2), some (mI r), some (mI (c + 1)), none], [], σ, 0, 0) Post) : mW1 P_C_open (15, [some (mR 12 0), some (mI x1), some (mI x2), some (mI s), some (mI c), none], [], σ, 0, 0) Post := by
  unfold g_C_open_15 at hp
  refine mW1_eq (q_C_open_15 _ _ _ _ _) ?_
  refine mTr_if (fun h0 => ?_) (fun h0 => ?_)
  · skip
    exact absurd (if_pos h0) hq
  · skip
    have hp := hp h0
    refine mTr_g hp ?_
    refine mTr_o (fun h1 => ?_) (fun z1 h1 => ?_)
    · skip
      exact mTr_k (hn s ((if_neg h0).trans (mO_en h1)))
    · skip
      refine mTr_if (fun h2 => ?_) (fun h2 => ?_)
      · skip
        exact mTr_k (hn s ((if_neg h0).trans ((mO_es h1).trans (if_pos h2))))
      · skip
        exact mTr_k (hn (s ||| ((1 : Int32) <<< (c &&& 31))) ((if_neg h0).trans ((mO_es h1).trans (if_neg h2))))
theorem lp_C_open_15 {Post : MST → Prop} (x1 : Int32) (x2 : Int32) (c0 : Int32) (σ : MSto) (s0 : Int32) (N : Nat) (hb : ∀ i, i < N → g_C_open_15 x1 x2 (c0 + nI i) σ (f_C_open_15 x1 x2 c0 σ s0 i) ∧ ¬ q_C_open_15s x1 x2 (c0 + nI i) σ (f_C_open_15 x1 x2 c0 σ s0 i) = 1) (h : mW1 P_C_open (15, [some (mR 12 0), some (mI x1), some (mI x2), some (mI (f_C_open_15 x1 x2 c0 σ s0 N)), some (mI (c0 + nI N)), none], [], σ, 0, 0) Post) : mW1 P_C_open (15, [some (mR 12 0), some (mI x1), some (mI x2), some (mI s0), some (mI c0), none], [], σ, 0, 0) Post := by
  refine mW1_st (mW1_loop (fun i => (15, [some (mR 12 0), some (mI x1), some (mI x2), some (mI (f_C_open_15 x1 x2 c0 σ s0 i)), some (mI (c0 + nI i)), none], [], σ, 0, 0)) N (fun i hlt hn => ?_) h) (by rw [show nI 0 = 0 from rfl, Int32.add_zero] <;> rfl)
  refine lt_C_open_15 x1 x2 _ σ _ (hb i hlt).1 (hb i hlt).2 (fun r hr => ?_)
  rw [Int32.add_assoc, nI_s]
  subst hr
  exact hn
set_option maxRecDepth 100000 in
set_option maxHeartbeats 4000000 in
theorem d_C_open (a1 : Int32) (a2 : Int32) (σ : MSto) (hp : p_C_open a1 a2 σ) : mW1 P_C_open (0, [some (mR 12 0), some (mI a1), some (mI a2), none, none, none], [], σ, 0, 0) (mF [9, 81] [mI (v_C_open a1 a2 σ)] (e_C_open a1 a2 σ) 0 0) := by
  refine mW1_eq (q_C_open_e _ _ _) ?_
  unfold p_C_open at hp
  refine mTr_if (fun h0 => ?_) (fun h0 => ?_)
  · skip
    exact mTr_e (by decide) (congrArg (fun z => [mI z]) (Eq.symm (if_pos h0))) (Eq.symm (if_pos h0)) (by decide) (by decide)
  · skip
    have hp := hp h0
    refine mTr_k (lp_C_open_15 a1 a2 0 σ 0 (n_C_open_15 a1 a2 0 σ 0) hp.1 ?_)
    have hp := hp.2
    refine mW1_eq (q_C_open_15 _ _ _ _ _) ?_
    refine mTr_if (fun h1 => ?_) (fun h1 => ?_)
    · skip
      have hp := hp.1 h1
      refine mTr_g hp.1 ?_
      have hp := hp.2
      refine mTr_g hp ?_
      exact mTr_e (by decide) (congrArg (fun z => [mI z]) (Eq.symm (if_neg h0))) (Eq.symm (if_neg h0)) (by decide) (by decide)
    · skip
      have hp := hp.2 h1
      exact hp.elim
theorem li_C_384 : mLink "ClothWithMan" 384 E_C_openHows := ⟨tw_4_232, tw_1_1, ⟨by decide, by decide⟩, by decide +kernel, Or.inl tw_4_229, (fun h => by cases h), (fun _ => ⟨tw_4_231, tw_0_40, TX11, 20, rfl⟩), (fun h => by cases h)⟩

theorem li_C_381 : mLink "ClothWithMan" 381 E_Ho_isAllKnown := ⟨tw_4_228, tw_1_25, ⟨by decide, by decide⟩, by decide +kernel, Or.inl tw_4_225, (fun h => by cases h), (fun _ => ⟨tw_4_226, tw_4_227, TX2, 2, rfl⟩), (fun h => by cases h)⟩




theorem tk_C_open : ∀ pc i nx tg, T_C_open pc = some (i, nx, tg) → mOkB prog_1_method_44_code pc i nx tg = true := code_ok (N := 82) (fun k h => by unfold T_C_open; rw [h]; rfl) (by decide +kernel)
theorem ok_C_open (l : Launch) : mPOK l "ClothWithMan" prog_1_method_44_code P_C_open := by
  refine ⟨tk_C_open, ?_, ?_, ?_, (fun pc i nx tg kd _ h => by cases h), ?_, ?_, fun pc en h => by cases h⟩
  · intro x ci f ty fin h
    exact mLook_all (Q := fun x v => mFOK "ClothWithMan" x v.1 v.2.1 v.2.2.1 v.2.2.2 ∧ (v.2.2.2 = true → pIni P_C_open = true → (Cond.fieldLink "ClothWithMan" x (((mCl[v.1]?).getD ("", fun _ => ("", "", "", false), 0)).2.1 v.2.1).1 (((mCl[v.1]?).getD ("", fun _ => ("", "", "", false), 0)).2.1 v.2.1).2.1 (((mCl[v.1]?).getD ("", fun _ => ("", "", "", false), 0)).2.1 v.2.1).2.2.1 ∈ lw_tbl ∧ (((mCl[v.1]?).getD ("", fun _ => ("", "", "", false), 0)).2.1 v.2.1).1 = "ClothWithMan"))) (fcC ⟨fo_C_48, fun h1 h2 => by cases h2⟩ (fcC ⟨fo_C_67, fun h1 h2 => by cases h2⟩ fcN)) x (ci, f, ty, fin) h
  · intro x
    have hh := mLook_all (l := ([] : List (Nat × (Int32 ⊕ Int64)))) (Q := fun x (v : Int32 ⊕ Int64) => (∀ w, v = .inl w → Cond.constant "ClothWithMan" x w ∈ lw_tbl) ∧ (∀ w, v = .inr w → Cond.constantLong "ClothWithMan" x w ∈ lw_tbl)) fcN x
    exact ⟨fun w h => (hh _ h).1 w rfl, fun w h => (hh _ h).2 w rfl⟩
  · exact fun x en h => mLook_all (Q := fun x en => mLink "ClothWithMan" x en ∧ mCtr l en ∧ (en.1.1 = 2 → en.2.2.2.2.2.2 = none)) (fcC ⟨li_C_217, c_Ro_clear l, (fun h => by cases h)⟩ (fcC ⟨li_C_223, c_Ro_add l, (fun h => by cases h)⟩ (fcC ⟨li_C_375, c_C_areMarks l, (fun h => by cases h)⟩ (fcC ⟨li_C_381, c_Ho_isAllKnown l, (fun h => by cases h)⟩ (fcC ⟨li_C_384, c_C_openHows l, (fun h => by cases h)⟩ fcN))))) x en h
  · exact fun x kd h => mLook_all (Q := fun x kd => (kd = 95 ∧ Cond.fieldLink "ClothWithMan" x "ClothWithMan" "LIKENESSES" "[I" ∈ lw_tbl) ∨ (kd = 96 ∧ Cond.fieldLink "ClothWithMan" x "ClothWithMan" "APART_BOUNDS" "[I" ∈ lw_tbl)) fcN x kd h
  · exact fun x ci h => mLook_all (Q := fun x ci => ci ≠ 0 ∧ ∃ (C : String) (T : u_T) (N : Nat), mCl[ci]? = some (C, T, N) ∧ Cond.classLink "ClothWithMan" x C ∈ lw_tbl ∧ Cond.instantiable C N ∈ lw_tbl) fcN x ci h
set_option maxRecDepth 100000 in
theorem c_C_open (l : Launch) : mCtr l E_C_open := mCtr_of (P := P_C_open) (own := "ClothWithMan") mLay_ok rfl (by decide +kernel) rfl (ok_C_open l) (fun h => by cases h) (fun as σ pr rv σ' hF hpr hlv => by
  unfold E_C_open S_C_open at hF
  simp only [] at hF
  split at hF
  · cases hF
    obtain ⟨n, pcF, c1, s1, g1, g2, g3, g4⟩ := mF_inv (d_C_open _ _ σ (hpr _ rfl))
    exact ⟨Nat.le_of_ble_eq_true rfl, (fun v h => by cases h; trivial), n, pcF, c1, s1, g1, ⟨mEnd_of (i := .ireturn) (P := P_C_open) (rets := [9, 81]) rfl g2, rfl⟩, g3, g4⟩
  · cases hF
    exact (hpr _ rfl).elim)
/-! ClothWithMan.look(II)I -/
noncomputable def t_C_look_20 (x1 : Int32) (x2 : Int32) (c : Int32) (σ : MSto) (s : Int32 × Int32) : Int32 × Int32 := (if 8 ≤ c then s else (if (v_C_has (x1 ||| x2) c σ) = 0 then (if (s.2) ≤ (v_Ma_max (v_In_bitCount (v_C_openHows (x1 ||| ((1 : Int32) <<< (c &&& 31))) x2 σ) σ) (v_In_bitCount (v_C_openHows x1 (x2 ||| ((1 : Int32) <<< (c &&& 31))) σ) σ) σ) then ((s.1), (s.2)) else (c, (v_Ma_max (v_In_bitCount (v_C_openHows (x1 ||| ((1 : Int32) <<< (c &&& 31))) x2 σ) σ) (v_In_bitCount (v_C_openHows x1 (x2 ||| ((1 : Int32) <<< (c &&& 31))) σ) σ) σ))) else ((s.1), (s.2))))
noncomputable def q_C_look_20s (x1 : Int32) (x2 : Int32) (c : Int32) (σ : MSto) (s : Int32 × Int32) : Nat := (if 8 ≤ c then 1 else 0)
def g_C_look_20 (x1 : Int32) (x2 : Int32) (c : Int32) (σ : MSto) (s : Int32 × Int32) : Prop := (¬ (8 ≤ c) → (((v_C_has (x1 ||| x2) c σ) = 0) → ((p_C_openHows (x1 ||| ((1 : Int32) <<< (c &&& 31))) x2 σ) ∧ (p_C_openHows x1 (x2 ||| ((1 : Int32) <<< (c &&& 31))) σ))))
noncomputable def f_C_look_20 (x1 : Int32) (x2 : Int32) (c0 : Int32) (σ : MSto) (s0 : Int32 × Int32) (n : Nat) : Int32 × Int32 := nfold (fun i s => t_C_look_20 x1 x2 (c0 + nI i) σ s) s0 n
noncomputable def n_C_look_20 (x1 : Int32) (x2 : Int32) (c0 : Int32) (σ : MSto) (s0 : Int32 × Int32) : Nat := 8
noncomputable def v_C_look (a1 : Int32) (a2 : Int32) (σ : MSto) : Int32 := (if (v_C_areMarks a1 a2 σ) = 0 then (-1) else ((f_C_look_20 a1 a2 0 σ ((-2), 9) (n_C_look_20 a1 a2 0 σ ((-2), 9))).1))
def p_C_look (a1 : Int32) (a2 : Int32) (σ : MSto) : Prop := (¬ ((v_C_areMarks a1 a2 σ) = 0) → ((∀ i, i < (n_C_look_20 a1 a2 0 σ ((-2), 9)) → g_C_look_20 a1 a2 (0 + nI i) σ (f_C_look_20 a1 a2 0 σ ((-2), 9) i) ∧ ¬ q_C_look_20s a1 a2 (0 + nI i) σ (f_C_look_20 a1 a2 0 σ ((-2), 9) i) = 1) ∧ (((8 ≤ (0 + nI (n_C_look_20 a1 a2 0 σ ((-2), 9)))) → (¬ (((f_C_look_20 a1 a2 0 σ ((-2), 9) (n_C_look_20 a1 a2 0 σ ((-2), 9))).1) = (-2)) → (p_Ro_add (Int32.toInt64 ((f_C_look_20 a1 a2 0 σ ((-2), 9) (n_C_look_20 a1 a2 0 σ ((-2), 9))).2)) (e_Ro_clear σ)))) ∧ (¬ (8 ≤ (0 + nI (n_C_look_20 a1 a2 0 σ ((-2), 9)))) → False))))
noncomputable def e_C_look (a1 : Int32) (a2 : Int32) (σ : MSto) : MSto := (if (v_C_areMarks a1 a2 σ) = 0 then σ else (if ((f_C_look_20 a1 a2 0 σ ((-2), 9) (n_C_look_20 a1 a2 0 σ ((-2), 9))).1) = (-2) then σ else (e_Ro_add (Int32.toInt64 ((f_C_look_20 a1 a2 0 σ ((-2), 9) (n_C_look_20 a1 a2 0 σ ((-2), 9))).2)) (e_Ro_clear σ))))
noncomputable def S_C_look : List MV → MSto → Option Prop × Option MV × MSto := fun as σ => match as with
  | [.inr (.inr (some (12, 0))), .inl a0, .inl a1] => (some (p_C_look a0 a1 σ), some (mI (v_C_look a0 a1 σ)), e_C_look a0 a1 σ)
  | _ => (some False, none, σ)
noncomputable def E_C_look : MEnt := ((1, 2, 12), (2, 47, 0, 0), S_C_look, ((⟨"ClothWithMan", "look", "(II)I"⟩ : MethodName), prog_1_method_45_code, 7, (some .int)))

def T_C_look : Nat → Option (Instr × Nat × List Nat) := fun k => bif Nat.blt k 119 then (bif Nat.blt k 56 then (bif Nat.blt k 28 then (bif Nat.blt k 13 then (bif Nat.blt k 8 then (bif Nat.blt k 2 then (bif Nat.blt k 1 then (bif Nat.beq k 0 then some (.iload_n 1, 1, []) else none) else (bif Nat.beq k 1 then some (.iload_n 2, 2, []) else none)) else (bif Nat.blt k 5 then (bif Nat.beq k 2 then some (.invokestatic 375, 5, []) else none) else (bif Nat.beq k 5 then some (.ifCond .ne 5, 8, [10]) else none))) else (bif Nat.blt k 10 then (bif Nat.blt k 9 then (bif Nat.beq k 8 then some (.iconst (-1), 9, []) else none) else (bif Nat.beq k 9 then some (.ireturn, 10, []) else none)) else (bif Nat.blt k 12 then (bif Nat.beq k 10 then some (.bipush (-2), 12, []) else none) else (bif Nat.beq k 12 then some (.istore_n 3, 13, []) else none)))) else (bif Nat.blt k 20 then (bif Nat.blt k 17 then (bif Nat.blt k 15 then (bif Nat.beq k 13 then some (.bipush 9, 15, []) else none) else (bif Nat.beq k 15 then some (.istore 4, 17, []) else none)) else (bif Nat.blt k 18 then (bif Nat.beq k 17 then some (.iconst 0, 18, []) else none) else (bif Nat.beq k 18 then some (.istore 5, 20, []) else none))) else (bif Nat.blt k 24 then (bif Nat.blt k 22 then (bif Nat.beq k 20 then some (.iload 5, 22, []) else none) else (bif Nat.beq k 22 then some (.bipush 8, 24, []) else none)) else (bif Nat.blt k 27 then (bif Nat.beq k 24 then some (.if_icmp .ge 70, 27, [94]) else none) else (bif Nat.beq k 27 then some (.iload_n 1, 28, []) else none))))) else (bif Nat.blt k 43 then (bif Nat.blt k 35 then (bif Nat.blt k 30 then (bif Nat.blt k 29 then (bif Nat.beq k 28 then some (.iload_n 2, 29, []) else none) else (bif Nat.beq k 29 then some (.ior, 30, []) else none)) else (bif Nat.blt k 32 then (bif Nat.beq k 30 then some (.iload 5, 32, []) else none) else (bif Nat.beq k 32 then some (.invokestatic 284, 35, []) else none))) else (bif Nat.blt k 41 then (bif Nat.blt k 38 then (bif Nat.beq k 35 then some (.ifCond .eq 6, 38, [41]) else none) else (bif Nat.beq k 38 then some (.goto 50, 41, [88]) else none)) else (bif Nat.blt k 42 then (bif Nat.beq k 41 then some (.aload_n 0, 42, []) else none) else (bif Nat.beq k 42 then some (.iload_n 1, 43, []) else none)))) else (bif Nat.blt k 48 then (bif Nat.blt k 46 then (bif Nat.blt k 44 then (bif Nat.beq k 43 then some (.iconst 1, 44, []) else none) else (bif Nat.beq k 44 then some (.iload 5, 46, []) else none)) else (bif Nat.blt k 47 then (bif Nat.beq k 46 then some (.ishl, 47, []) else none) else (bif Nat.beq k 47 then some (.ior, 48, []) else none))) else (bif Nat.blt k 52 then (bif Nat.blt k 49 then (bif Nat.beq k 48 then some (.iload_n 2, 49, []) else none) else (bif Nat.beq k 49 then some (.invokevirtual 384, 52, []) else none)) else (bif Nat.blt k 55 then (bif Nat.beq k 52 then some (.invokestatic 260, 55, []) else none) else (bif Nat.beq k 55 then some (.aload_n 0, 56, []) else none)))))) else (bif Nat.blt k 86 then (bif Nat.blt k 69 then (bif Nat.blt k 61 then (bif Nat.blt k 58 then (bif Nat.blt k 57 then (bif Nat.beq k 56 then some (.iload_n 1, 57, []) else none) else (bif Nat.beq k 57 then some (.iload_n 2, 58, []) else none)) else (bif Nat.blt k 59 then (bif Nat.beq k 58 then some (.iconst 1, 59, []) else none) else (bif Nat.beq k 59 then some (.iload 5, 61, []) else none))) else (bif Nat.blt k 63 then (bif Nat.blt k 62 then (bif Nat.beq k 61 then some (.ishl, 62, []) else none) else (bif Nat.beq k 62 then some (.ior, 63, []) else none)) else (bif Nat.blt k 66 then (bif Nat.beq k 63 then some (.invokevirtual 384, 66, []) else none) else (bif Nat.beq k 66 then some (.invokestatic 260, 69, []) else none)))) else (bif Nat.blt k 78 then (bif Nat.blt k 74 then (bif Nat.blt k 72 then (bif Nat.beq k 69 then some (.invokestatic 372, 72, []) else none) else (bif Nat.beq k 72 then some (.istore 6, 74, []) else none)) else (bif Nat.blt k 76 then (bif Nat.beq k 74 then some (.iload 6, 76, []) else none) else (bif Nat.beq k 76 then some (.iload 4, 78, []) else none))) else (bif Nat.blt k 83 then (bif Nat.blt k 81 then (bif Nat.beq k 78 then some (.if_icmp .ge 10, 81, [88]) else none) else (bif Nat.beq k 81 then some (.iload 5, 83, []) else none)) else (bif Nat.blt k 84 then (bif Nat.beq k 83 then some (.istore_n 3, 84, []) else none) else (bif Nat.beq k 84 then some (.iload 6, 86, []) else none))))) else (bif Nat.blt k 104 then (bif Nat.blt k 95 then (bif Nat.blt k 91 then (bif Nat.blt k 88 then (bif Nat.beq k 86 then some (.istore 4, 88, []) else none) else (bif Nat.beq k 88 then some (.iinc 5 1, 91, []) else none)) else (bif Nat.blt k 94 then (bif Nat.beq k 91 then some (.goto (-71), 94, [20]) else none) else (bif Nat.beq k 94 then some (.iload_n 3, 95, []) else none))) else (bif Nat.blt k 100 then (bif Nat.blt k 97 then (bif Nat.beq k 95 then some (.bipush (-2), 97, []) else none) else (bif Nat.beq k 97 then some (.if_icmp .eq 20, 100, [117]) else none)) else (bif Nat.blt k 101 then (bif Nat.beq k 100 then some (.aload_n 0, 101, []) else none) else (bif Nat.beq k 101 then some (.getfield 67, 104, []) else none)))) else (bif Nat.blt k 113 then (bif Nat.blt k 108 then (bif Nat.blt k 107 then (bif Nat.beq k 104 then some (.invokevirtual 217, 107, []) else none) else (bif Nat.beq k 107 then some (.aload_n 0, 108, []) else none)) else (bif Nat.blt k 111 then (bif Nat.beq k 108 then some (.getfield 67, 111, []) else none) else (bif Nat.beq k 111 then some (.iload 4, 113, []) else none))) else (bif Nat.blt k 117 then (bif Nat.blt k 114 then (bif Nat.beq k 113 then some (.i2l, 114, []) else none) else (bif Nat.beq k 114 then some (.invokevirtual 223, 117, []) else none)) else (bif Nat.blt k 118 then (bif Nat.beq k 117 then some (.iload_n 3, 118, []) else none) else (bif Nat.beq k 118 then some (.ireturn, 119, []) else none))))))) else none
noncomputable def P_C_look : MP := (T_C_look, (fun k => mLook k [(67, (12, 11, (.object "ClothWithMan$Row"), true))]), (fun k => mLook k []), (fun k => mLook k [(217, E_Ro_clear), (223, E_Ro_add), (260, E_In_bitCount), (284, E_C_has), (372, E_Ma_max), (375, E_C_areMarks), (384, E_C_openHows)]), (fun k => mLook k []), (fun k => mLook k []), (fun k => mLook k []), (fun k => mLook k [(20, [true, true, true, true, true, true, false])]), (fun k => [9, 118].any (Nat.beq k)), (2, 47, 0, 0), false, (fun _ => none))
set_option maxRecDepth 100000 in
set_option maxHeartbeats 4000000 in
theorem q_C_look_e (a1 : Int32) (a2 : Int32) (σ : MSto) (n : Nat) : mexe KT P_C_look (n + 1) (0, [some (mR 12 0), some (mI a1), some (mI a2), none, none, none, none], [], σ, 0, 0) = mIf ((v_C_areMarks a1 a2 σ) = 0) (some (9, [], [(mI (-1))], σ, 0, 0)) (mexe KT P_C_look n (20, [some (mR 12 0), some (mI a1), some (mI a2), some (mI (-2)), some (mI 9), some (mI 0), none], [], σ, 0, 0)) := rfl
set_option maxRecDepth 100000 in
set_option maxHeartbeats 4000000 in
theorem q_C_look_20 (x1 : Int32) (x2 : Int32) (x3 : Int32) (x4 : Int32) (x5 : Int32) (σ : MSto) (n : Nat) : mexe KT P_C_look (n + 1) (20, [some (mR 12 0), some (mI x1), some (mI x2), some (mI x3), some (mI x4), some (mI x5), none], [], σ, 0, 0) = mIf (8 ≤ x5) (mIf (x3 = (-2)) (some (118, [], [(mI x3)], σ, 0, 0)) (mG (p_Ro_add (Int32.toInt64 x4) (e_Ro_clear σ)) (some (118, [], [(mI x3)], (e_Ro_add (Int32.toInt64 x4) (e_Ro_clear σ)), 0, 0)))) (mIf ((v_C_has (x1 ||| x2) x5 σ) = 0) (mG (p_C_openHows (x1 ||| ((1 : Int32) <<< (x5 &&& 31))) x2 σ) (mG (p_C_openHows x1 (x2 ||| ((1 : Int32) <<< (x5 &&& 31))) σ) (mIf (x4 ≤ (v_Ma_max (v_In_bitCount (v_C_openHows (x1 ||| ((1 : Int32) <<< (x5 &&& 31))) x2 σ) σ) (v_In_bitCount (v_C_openHows x1 (x2 ||| ((1 : Int32) <<< (x5 &&& 31))) σ) σ) σ)) (mexe KT P_C_look n (20, [some (mR 12 0), some (mI x1), some (mI x2), some (mI x3), some (mI x4), some (mI (x5 + 1)), none], [], σ, 0, 0)) (mexe KT P_C_look n (20, [some (mR 12 0), some (mI x1), some (mI x2), some (mI x5), some (mI (v_Ma_max (v_In_bitCount (v_C_openHows (x1 ||| ((1 : Int32) <<< (x5 &&& 31))) x2 σ) σ) (v_In_bitCount (v_C_openHows x1 (x2 ||| ((1 : Int32) <<< (x5 &&& 31))) σ) σ) σ)), some (mI (x5 + 1)), none], [], σ, 0, 0))))) (mexe KT P_C_look n (20, [some (mR 12 0), some (mI x1), some (mI x2), some (mI x3), some (mI x4), some (mI (x5 + 1)), none], [], σ, 0, 0))) := rfl
set_option maxRecDepth 100000 in
theorem lt_C_look_20 {Post : MST → Prop} (x1 : Int32) (x2 : Int32) (c : Int32) (σ : MSto) (s : Int32 × Int32) (hp : g_C_look_20 x1 x2 c σ s) (hq : ¬ q_C_look_20s x1 x2 c σ s = 1) (hn : ∀ (r1 : Int32) (r2 : Int32), t_C_look_20 x1 x2 c σ s = (r1, r2) → mW1 P_C_look (20, [some (mR 12 0), some (mI x1), some (mI x2), some (mI r1), some (mI r2), some (mI (c + 1)), none], [], σ, 0, 0) Post) : mW1 P_C_look (20, [some (mR 12 0), some (mI x1), some (mI x2), some (mI (s.1)), some (mI (s.2)), some (mI c), none], [], σ, 0, 0) Post := by
  unfold g_C_look_20 at hp
  refine mW1_eq (q_C_look_20 _ _ _ _ _ _) ?_
  refine mTr_if (fun h0 => ?_) (fun h0 => ?_)
  · skip
    exact absurd (if_pos h0) hq
  · skip
    have hp := hp h0
    refine mTr_if (fun h1 => ?_) (fun h1 => ?_)
    · skip
      have hp := hp h1
      refine mTr_g hp.1 ?_
      have hp := hp.2
      refine mTr_g hp ?_
      refine mTr_if (fun h2 => ?_) (fun h2 => ?_)
      · skip
        exact mTr_k (hn (s.1) (s.2) ((if_neg h0).trans ((if_pos h1).trans (if_pos h2))))
      · skip
        exact mTr_k (hn c (v_Ma_max (v_In_bitCount (v_C_openHows (x1 ||| ((1 : Int32) <<< (c &&& 31))) x2 σ) σ) (v_In_bitCount (v_C_openHows x1 (x2 ||| ((1 : Int32) <<< (c &&& 31))) σ) σ) σ) ((if_neg h0).trans ((if_pos h1).trans (if_neg h2))))
    · skip
      exact mTr_k (hn (s.1) (s.2) ((if_neg h0).trans (if_neg h1)))
theorem lp_C_look_20 {Post : MST → Prop} (x1 : Int32) (x2 : Int32) (c0 : Int32) (σ : MSto) (s0 : Int32 × Int32) (N : Nat) (hb : ∀ i, i < N → g_C_look_20 x1 x2 (c0 + nI i) σ (f_C_look_20 x1 x2 c0 σ s0 i) ∧ ¬ q_C_look_20s x1 x2 (c0 + nI i) σ (f_C_look_20 x1 x2 c0 σ s0 i) = 1) (h : mW1 P_C_look (20, [some (mR 12 0), some (mI x1), some (mI x2), some (mI ((f_C_look_20 x1 x2 c0 σ s0 N).1)), some (mI ((f_C_look_20 x1 x2 c0 σ s0 N).2)), some (mI (c0 + nI N)), none], [], σ, 0, 0) Post) : mW1 P_C_look (20, [some (mR 12 0), some (mI x1), some (mI x2), some (mI (s0.1)), some (mI (s0.2)), some (mI c0), none], [], σ, 0, 0) Post := by
  refine mW1_st (mW1_loop (fun i => (20, [some (mR 12 0), some (mI x1), some (mI x2), some (mI ((f_C_look_20 x1 x2 c0 σ s0 i).1)), some (mI ((f_C_look_20 x1 x2 c0 σ s0 i).2)), some (mI (c0 + nI i)), none], [], σ, 0, 0)) N (fun i hlt hn => ?_) h) (by rw [show nI 0 = 0 from rfl, Int32.add_zero] <;> rfl)
  refine lt_C_look_20 x1 x2 _ σ _ (hb i hlt).1 (hb i hlt).2 (fun r1 r2 hr => ?_)
  rw [Int32.add_assoc, nI_s]
  have e : f_C_look_20 x1 x2 c0 σ s0 (i + 1) = (r1, r2) := hr
  try dsimp only at hn
  rw [e] at hn
  exact hn
set_option maxRecDepth 100000 in
set_option maxHeartbeats 4000000 in
theorem d_C_look (a1 : Int32) (a2 : Int32) (σ : MSto) (hp : p_C_look a1 a2 σ) : mW1 P_C_look (0, [some (mR 12 0), some (mI a1), some (mI a2), none, none, none, none], [], σ, 0, 0) (mF [9, 118] [mI (v_C_look a1 a2 σ)] (e_C_look a1 a2 σ) 0 0) := by
  refine mW1_eq (q_C_look_e _ _ _) ?_
  unfold p_C_look at hp
  refine mTr_if (fun h0 => ?_) (fun h0 => ?_)
  · skip
    exact mTr_e (by decide) (congrArg (fun z => [mI z]) (Eq.symm (if_pos h0))) (Eq.symm (if_pos h0)) (by decide) (by decide)
  · skip
    have hp := hp h0
    refine mTr_k (lp_C_look_20 a1 a2 0 σ ((-2), 9) (n_C_look_20 a1 a2 0 σ ((-2), 9)) hp.1 ?_)
    have hp := hp.2
    refine mW1_eq (q_C_look_20 _ _ _ _ _ _) ?_
    refine mTr_if (fun h1 => ?_) (fun h1 => ?_)
    · skip
      have hp := hp.1 h1
      refine mTr_if (fun h2 => ?_) (fun h2 => ?_)
      · skip
        exact mTr_e (by decide) (congrArg (fun z => [mI z]) (Eq.symm (if_neg h0))) (Eq.symm ((if_neg h0).trans (if_pos h2))) (by decide) (by decide)
      · skip
        have hp := hp h2
        refine mTr_g hp ?_
        exact mTr_e (by decide) (congrArg (fun z => [mI z]) (Eq.symm (if_neg h0))) (Eq.symm ((if_neg h0).trans (if_neg h2))) (by decide) (by decide)
    · skip
      have hp := hp.2 h1
      exact hp.elim







theorem tk_C_look : ∀ pc i nx tg, T_C_look pc = some (i, nx, tg) → mOkB prog_1_method_45_code pc i nx tg = true := code_ok (N := 119) (fun k h => by unfold T_C_look; rw [h]; rfl) (by decide +kernel)
theorem ok_C_look (l : Launch) : mPOK l "ClothWithMan" prog_1_method_45_code P_C_look := by
  refine ⟨tk_C_look, ?_, ?_, ?_, (fun pc i nx tg kd _ h => by cases h), ?_, ?_, fun pc en h => by cases h⟩
  · intro x ci f ty fin h
    exact mLook_all (Q := fun x v => mFOK "ClothWithMan" x v.1 v.2.1 v.2.2.1 v.2.2.2 ∧ (v.2.2.2 = true → pIni P_C_look = true → (Cond.fieldLink "ClothWithMan" x (((mCl[v.1]?).getD ("", fun _ => ("", "", "", false), 0)).2.1 v.2.1).1 (((mCl[v.1]?).getD ("", fun _ => ("", "", "", false), 0)).2.1 v.2.1).2.1 (((mCl[v.1]?).getD ("", fun _ => ("", "", "", false), 0)).2.1 v.2.1).2.2.1 ∈ lw_tbl ∧ (((mCl[v.1]?).getD ("", fun _ => ("", "", "", false), 0)).2.1 v.2.1).1 = "ClothWithMan"))) (fcC ⟨fo_C_67, fun h1 h2 => by cases h2⟩ fcN) x (ci, f, ty, fin) h
  · intro x
    have hh := mLook_all (l := ([] : List (Nat × (Int32 ⊕ Int64)))) (Q := fun x (v : Int32 ⊕ Int64) => (∀ w, v = .inl w → Cond.constant "ClothWithMan" x w ∈ lw_tbl) ∧ (∀ w, v = .inr w → Cond.constantLong "ClothWithMan" x w ∈ lw_tbl)) fcN x
    exact ⟨fun w h => (hh _ h).1 w rfl, fun w h => (hh _ h).2 w rfl⟩
  · exact fun x en h => mLook_all (Q := fun x en => mLink "ClothWithMan" x en ∧ mCtr l en ∧ (en.1.1 = 2 → en.2.2.2.2.2.2 = none)) (fcC ⟨li_C_217, c_Ro_clear l, (fun h => by cases h)⟩ (fcC ⟨li_C_223, c_Ro_add l, (fun h => by cases h)⟩ (fcC ⟨li_C_260, c_In_bitCount l, (fun h => by cases h)⟩ (fcC ⟨li_C_284, c_C_has l, (fun h => by cases h)⟩ (fcC ⟨li_C_372, c_Ma_max l, (fun h => by cases h)⟩ (fcC ⟨li_C_375, c_C_areMarks l, (fun h => by cases h)⟩ (fcC ⟨li_C_384, c_C_openHows l, (fun h => by cases h)⟩ fcN))))))) x en h
  · exact fun x kd h => mLook_all (Q := fun x kd => (kd = 95 ∧ Cond.fieldLink "ClothWithMan" x "ClothWithMan" "LIKENESSES" "[I" ∈ lw_tbl) ∨ (kd = 96 ∧ Cond.fieldLink "ClothWithMan" x "ClothWithMan" "APART_BOUNDS" "[I" ∈ lw_tbl)) fcN x kd h
  · exact fun x ci h => mLook_all (Q := fun x ci => ci ≠ 0 ∧ ∃ (C : String) (T : u_T) (N : Nat), mCl[ci]? = some (C, T, N) ∧ Cond.classLink "ClothWithMan" x C ∈ lw_tbl ∧ Cond.instantiable C N ∈ lw_tbl) fcN x ci h
set_option maxRecDepth 100000 in
theorem c_C_look (l : Launch) : mCtr l E_C_look := mCtr_of (P := P_C_look) (own := "ClothWithMan") mLay_ok rfl (by decide +kernel) rfl (ok_C_look l) (fun h => by cases h) (fun as σ pr rv σ' hF hpr hlv => by
  unfold E_C_look S_C_look at hF
  simp only [] at hF
  split at hF
  · cases hF
    obtain ⟨n, pcF, c1, s1, g1, g2, g3, g4⟩ := mF_inv (d_C_look _ _ σ (hpr _ rfl))
    exact ⟨Nat.le_of_ble_eq_true rfl, (fun v h => by cases h; trivial), n, pcF, c1, s1, g1, ⟨mEnd_of (i := .ireturn) (P := P_C_look) (rets := [9, 118]) rfl g2, rfl⟩, g3, g4⟩
  · cases hF
    exact (hpr _ rfl).elim)
/-! ClothWithMan.wanted(IIII)Z -/
def b_C_wanted (a1 : Int32) (a2 : Int32) (a3 : Int32) (a4 : Int32) (σ : MSto) : Prop := (if (v_C_isIn a1 0 7 σ) = 0 then False else (if (v_C_isStory a2 σ) = 0 then False else (if (v_C_isIn a3 0 15 σ) = 0 then False else (if (v_C_isIn a4 0 4095 σ) = 0 then False else True))))
noncomputable def v_C_wanted (a1 : Int32) (a2 : Int32) (a3 : Int32) (a4 : Int32) (σ : MSto) : Int32 := bI (b_C_wanted a1 a2 a3 a4 σ)
def p_C_wanted (a1 : Int32) (a2 : Int32) (a3 : Int32) (a4 : Int32) (σ : MSto) : Prop := (¬ ((v_C_isIn a1 0 7 σ) = 0) → (¬ ((v_C_isStory a2 σ) = 0) → (¬ ((v_C_isIn a3 0 15 σ) = 0) → (¬ ((v_C_isIn a4 0 4095 σ) = 0) → (vp_in a1 8)))))
noncomputable def e_C_wanted (a1 : Int32) (a2 : Int32) (a3 : Int32) (a4 : Int32) (σ : MSto) : MSto := (if (v_C_isIn a1 0 7 σ) = 0 then σ else (if (v_C_isStory a2 σ) = 0 then σ else (if (v_C_isIn a3 0 15 σ) = 0 then σ else (if (v_C_isIn a4 0 4095 σ) = 0 then σ else (sR (e_Wa_init (gN σ 11) a2 a3 a4 (sNew σ 11)) 24 0 (Int32.toNatClampNeg a1) (some (gN σ 11)))))))
noncomputable def S_C_wanted : List MV → MSto → Option Prop × Option MV × MSto := fun as σ => match as with
  | [.inr (.inr (some (12, 0))), .inl a0, .inl a1, .inl a2, .inl a3] => (some (p_C_wanted a0 a1 a2 a3 σ), some (mI (v_C_wanted a0 a1 a2 a3 σ)), e_C_wanted a0 a1 a2 a3 σ)
  | _ => (some False, none, σ)
noncomputable def E_C_wanted : MEnt := ((1, 4, 12), (3, 62, 1, 3), S_C_wanted, ((⟨"ClothWithMan", "wanted", "(IIII)Z"⟩ : MethodName), prog_1_method_46_code, 5, (some .boolean)))

def T_C_wanted : Nat → Option (Instr × Nat × List Nat) := fun k => bif Nat.blt k 61 then (bif Nat.blt k 31 then (bif Nat.blt k 15 then (bif Nat.blt k 7 then (bif Nat.blt k 2 then (bif Nat.blt k 1 then (bif Nat.beq k 0 then some (.iload_n 1, 1, []) else none) else (bif Nat.beq k 1 then some (.iconst 0, 2, []) else none)) else (bif Nat.blt k 4 then (bif Nat.beq k 2 then some (.bipush 7, 4, []) else none) else (bif Nat.beq k 4 then some (.invokestatic 145, 7, []) else none))) else (bif Nat.blt k 11 then (bif Nat.blt k 10 then (bif Nat.beq k 7 then some (.ifCond .eq 33, 10, [40]) else none) else (bif Nat.beq k 10 then some (.aload_n 0, 11, []) else none)) else (bif Nat.blt k 12 then (bif Nat.beq k 11 then some (.iload_n 2, 12, []) else none) else (bif Nat.beq k 12 then some (.invokevirtual 307, 15, []) else none)))) else (bif Nat.blt k 22 then (bif Nat.blt k 19 then (bif Nat.blt k 18 then (bif Nat.beq k 15 then some (.ifCond .eq 25, 18, [40]) else none) else (bif Nat.beq k 18 then some (.iload_n 3, 19, []) else none)) else (bif Nat.blt k 20 then (bif Nat.beq k 19 then some (.iconst 0, 20, []) else none) else (bif Nat.beq k 20 then some (.bipush 15, 22, []) else none))) else (bif Nat.blt k 28 then (bif Nat.blt k 25 then (bif Nat.beq k 22 then some (.invokestatic 145, 25, []) else none) else (bif Nat.beq k 25 then some (.ifCond .eq 15, 28, [40]) else none)) else (bif Nat.blt k 30 then (bif Nat.beq k 28 then some (.iload 4, 30, []) else none) else (bif Nat.beq k 30 then some (.iconst 0, 31, []) else none))))) else (bif Nat.blt k 47 then (bif Nat.blt k 41 then (bif Nat.blt k 37 then (bif Nat.blt k 34 then (bif Nat.beq k 31 then some (.sipush 4095, 34, []) else none) else (bif Nat.beq k 34 then some (.invokestatic 145, 37, []) else none)) else (bif Nat.blt k 40 then (bif Nat.beq k 37 then some (.ifCond .ne 5, 40, [42]) else none) else (bif Nat.beq k 40 then some (.iconst 0, 41, []) else none))) else (bif Nat.blt k 43 then (bif Nat.blt k 42 then (bif Nat.beq k 41 then some (.ireturn, 42, []) else none) else (bif Nat.beq k 42 then some (.aload_n 0, 43, []) else none)) else (bif Nat.blt k 46 then (bif Nat.beq k 43 then some (.getfield 54, 46, []) else none) else (bif Nat.beq k 46 then some (.iload_n 1, 47, []) else none)))) else (bif Nat.blt k 53 then (bif Nat.blt k 51 then (bif Nat.blt k 50 then (bif Nat.beq k 47 then some (.new 52, 50, []) else none) else (bif Nat.beq k 50 then some (.dup, 51, []) else none)) else (bif Nat.blt k 52 then (bif Nat.beq k 51 then some (.iload_n 2, 52, []) else none) else (bif Nat.beq k 52 then some (.iload_n 3, 53, []) else none))) else (bif Nat.blt k 58 then (bif Nat.blt k 55 then (bif Nat.beq k 53 then some (.iload 4, 55, []) else none) else (bif Nat.beq k 55 then some (.invokespecial 387, 58, []) else none)) else (bif Nat.blt k 59 then (bif Nat.beq k 58 then some (.aastore, 59, []) else none) else (bif Nat.blt k 60 then (bif Nat.beq k 59 then some (.iconst 1, 60, []) else none) else (bif Nat.beq k 60 then some (.ireturn, 61, []) else none))))))) else none
noncomputable def P_C_wanted : MP := (T_C_wanted, (fun k => mLook k [(54, (12, 9, (.array (.object "ClothWithMan$Want")), true))]), (fun k => mLook k []), (fun k => mLook k [(145, E_C_isIn), (307, E_C_isStory), (387, E_Wa_init)]), (fun k => mLook k [(47, 11)]), (fun k => mLook k []), (fun k => mLook k []), (fun k => mLook k []), (fun k => [41, 60].any (Nat.beq k)), (3, 62, 1, 3), false, (fun _ => none))
set_option maxRecDepth 100000 in
set_option maxHeartbeats 4000000 in
theorem q_C_wanted_e (a1 : Int32) (a2 : Int32) (a3 : Int32) (a4 : Int32) (σ : MSto) (n : Nat) : mexe KT P_C_wanted (n + 1) (0, [some (mR 12 0), some (mI a1), some (mI a2), some (mI a3), some (mI a4)], [], σ, 0, 0) = mIf ((v_C_isIn a1 0 7 σ) = 0) (some (41, [], [(mI 0)], σ, 0, 0)) (mIf ((v_C_isStory a2 σ) = 0) (some (41, [], [(mI 0)], σ, 0, 0)) (mIf ((v_C_isIn a3 0 15 σ) = 0) (some (41, [], [(mI 0)], σ, 0, 0)) (mIf ((v_C_isIn a4 0 4095 σ) = 0) (some (41, [], [(mI 0)], σ, 0, 0)) (mG (vp_in a1 8) (some (60, [], [(mI 1)], (sR (e_Wa_init (gN σ 11) a2 a3 a4 (sNew σ 11)) 24 0 (Int32.toNatClampNeg a1) (some (gN σ 11))), 1, 3)))))) := rfl
set_option maxRecDepth 100000 in
set_option maxHeartbeats 4000000 in
theorem d_C_wanted (a1 : Int32) (a2 : Int32) (a3 : Int32) (a4 : Int32) (σ : MSto) (hp : p_C_wanted a1 a2 a3 a4 σ) : mW1 P_C_wanted (0, [some (mR 12 0), some (mI a1), some (mI a2), some (mI a3), some (mI a4)], [], σ, 0, 0) (mF [41, 60] [mI (v_C_wanted a1 a2 a3 a4 σ)] (e_C_wanted a1 a2 a3 a4 σ) 1 3) := by
  refine mW1_eq (q_C_wanted_e _ _ _ _ _) ?_
  unfold p_C_wanted at hp
  unfold v_C_wanted
  refine mTr_if (fun h0 => ?_) (fun h0 => ?_)
  · skip
    exact mTr_e (by decide) (bI_F (if_pos h0)) (Eq.symm (if_pos h0)) (by decide) (by decide)
  · skip
    have hp := hp h0
    refine mTr_if (fun h1 => ?_) (fun h1 => ?_)
    · skip
      exact mTr_e (by decide) (bI_F ((if_neg h0).trans (if_pos h1))) (Eq.symm ((if_neg h0).trans (if_pos h1))) (by decide) (by decide)
    · skip
      have hp := hp h1
      refine mTr_if (fun h2 => ?_) (fun h2 => ?_)
      · skip
        exact mTr_e (by decide) (bI_F ((if_neg h0).trans ((if_neg h1).trans (if_pos h2)))) (Eq.symm ((if_neg h0).trans ((if_neg h1).trans (if_pos h2)))) (by decide) (by decide)
      · skip
        have hp := hp h2
        refine mTr_if (fun h3 => ?_) (fun h3 => ?_)
        · skip
          exact mTr_e (by decide) (bI_F ((if_neg h0).trans ((if_neg h1).trans ((if_neg h2).trans (if_pos h3))))) (Eq.symm ((if_neg h0).trans ((if_neg h1).trans ((if_neg h2).trans (if_pos h3))))) (by decide) (by decide)
        · skip
          have hp := hp h3
          refine mTr_g hp ?_
          exact mTr_e (by decide) (bI_T ((if_neg h0).trans ((if_neg h1).trans ((if_neg h2).trans (if_neg h3))))) (Eq.symm ((if_neg h0).trans ((if_neg h1).trans ((if_neg h2).trans (if_neg h3))))) (by decide) (by decide)
theorem li_C_387 : mLink "ClothWithMan" 387 E_Wa_init := ⟨tw_5_8, tw_1_26, ⟨by decide, by decide⟩, by decide +kernel, Or.inl tw_5_6, (fun h => by cases h), (fun h => by cases h), (fun _ => ⟨tw_5_7, rfl⟩)⟩



theorem tk_C_wanted : ∀ pc i nx tg, T_C_wanted pc = some (i, nx, tg) → mOkB prog_1_method_46_code pc i nx tg = true := code_ok (N := 61) (fun k h => by unfold T_C_wanted; rw [h]; rfl) (by decide +kernel)
theorem al_C_wanted : ∀ pc i nx tg kd, pCode P_C_wanted pc = some (i, nx, tg) → pAlc P_C_wanted pc = some kd → match i with
    | .new x => mAOK "ClothWithMan" x kd
    | .newarray t => mNAOK t kd
    | .anewarray x => mAAOK "ClothWithMan" x kd
    | .invokespecial x => Cond.methodLink "ClothWithMan" x Lib.objectInit ∈ lw_tbl
    | _ => True := by
  intro pc i nx tg kd h1 h2
  have h3 := mLook_mem h2
  simp only [List.mem_cons, Prod.mk.injEq, List.not_mem_nil, or_false] at h3
  rcases h3 with ⟨rfl, rfl⟩
  · have e : T_C_wanted 47 = some (i, nx, tg) := h1
    cases e
    exact ⟨11, _, "ClothWithMan$Want", TX10, rfl, by decide, rfl, tw_1_142, tw_5_5, tw_1_26, (lt_s (lt_s (lt_s lt_0 ⟨.int, by decide +kernel, Or.inl ⟨rfl, rfl⟩⟩) ⟨.int, by decide +kernel, Or.inl ⟨rfl, rfl⟩⟩) ⟨.int, by decide +kernel, Or.inl ⟨rfl, rfl⟩⟩)⟩

theorem ok_C_wanted (l : Launch) : mPOK l "ClothWithMan" prog_1_method_46_code P_C_wanted := by
  refine ⟨tk_C_wanted, ?_, ?_, ?_, al_C_wanted, ?_, ?_, fun pc en h => by cases h⟩
  · intro x ci f ty fin h
    exact mLook_all (Q := fun x v => mFOK "ClothWithMan" x v.1 v.2.1 v.2.2.1 v.2.2.2 ∧ (v.2.2.2 = true → pIni P_C_wanted = true → (Cond.fieldLink "ClothWithMan" x (((mCl[v.1]?).getD ("", fun _ => ("", "", "", false), 0)).2.1 v.2.1).1 (((mCl[v.1]?).getD ("", fun _ => ("", "", "", false), 0)).2.1 v.2.1).2.1 (((mCl[v.1]?).getD ("", fun _ => ("", "", "", false), 0)).2.1 v.2.1).2.2.1 ∈ lw_tbl ∧ (((mCl[v.1]?).getD ("", fun _ => ("", "", "", false), 0)).2.1 v.2.1).1 = "ClothWithMan"))) (fcC ⟨fo_C_54, fun h1 h2 => by cases h2⟩ fcN) x (ci, f, ty, fin) h
  · intro x
    have hh := mLook_all (l := ([] : List (Nat × (Int32 ⊕ Int64)))) (Q := fun x (v : Int32 ⊕ Int64) => (∀ w, v = .inl w → Cond.constant "ClothWithMan" x w ∈ lw_tbl) ∧ (∀ w, v = .inr w → Cond.constantLong "ClothWithMan" x w ∈ lw_tbl)) fcN x
    exact ⟨fun w h => (hh _ h).1 w rfl, fun w h => (hh _ h).2 w rfl⟩
  · exact fun x en h => mLook_all (Q := fun x en => mLink "ClothWithMan" x en ∧ mCtr l en ∧ (en.1.1 = 2 → en.2.2.2.2.2.2 = none)) (fcC ⟨li_C_145, c_C_isIn l, (fun h => by cases h)⟩ (fcC ⟨li_C_307, c_C_isStory l, (fun h => by cases h)⟩ (fcC ⟨li_C_387, c_Wa_init l, (fun _ => rfl)⟩ fcN))) x en h
  · exact fun x kd h => mLook_all (Q := fun x kd => (kd = 95 ∧ Cond.fieldLink "ClothWithMan" x "ClothWithMan" "LIKENESSES" "[I" ∈ lw_tbl) ∨ (kd = 96 ∧ Cond.fieldLink "ClothWithMan" x "ClothWithMan" "APART_BOUNDS" "[I" ∈ lw_tbl)) fcN x kd h
  · exact fun x ci h => mLook_all (Q := fun x ci => ci ≠ 0 ∧ ∃ (C : String) (T : u_T) (N : Nat), mCl[ci]? = some (C, T, N) ∧ Cond.classLink "ClothWithMan" x C ∈ lw_tbl ∧ Cond.instantiable C N ∈ lw_tbl) fcN x ci h
set_option maxRecDepth 100000 in
theorem c_C_wanted (l : Launch) : mCtr l E_C_wanted := mCtr_of (P := P_C_wanted) (own := "ClothWithMan") mLay_ok rfl (by decide +kernel) rfl (ok_C_wanted l) (fun h => by cases h) (fun as σ pr rv σ' hF hpr hlv => by
  unfold E_C_wanted S_C_wanted at hF
  simp only [] at hF
  split at hF
  · cases hF
    obtain ⟨n, pcF, c1, s1, g1, g2, g3, g4⟩ := mF_inv (d_C_wanted _ _ _ _ σ (hpr _ rfl))
    exact ⟨Nat.le_of_ble_eq_true rfl, (fun v h => by cases h; trivial), n, pcF, c1, s1, g1, ⟨mEnd_of (i := .ireturn) (P := P_C_wanted) (rets := [41, 60]) rfl g2, bI_narrow _⟩, g3, g4⟩
  · cases hF
    exact (hpr _ rfl).elim)
/-! ClothWithMan.omits(I)I -/
noncomputable def vj_C_omits_j98 (x4 : Int32) (x5 : Int32) (σ : MSto) : Int32 := ((v_In_bitCount x4 (e_Ro_add (Int32.toInt64 x5) σ)) + (v_In_bitCount x5 (e_Ro_add (Int32.toInt64 x5) σ)))
noncomputable def ej_C_omits_j98 (x4 : Int32) (x5 : Int32) (σ : MSto) : MSto := (e_Ro_add (Int32.toInt64 x5) σ)
def gj_C_omits_j98 (x4 : Int32) (x5 : Int32) (σ : MSto) : Prop := (p_Ro_add (Int32.toInt64 x5) σ)
noncomputable def v_C_omits (a1 : Int32) (σ : MSto) : Int32 := (if (v_C_isIn a1 0 7 σ) = 0 then (-1) else (mO (gR σ 24 0 (Int32.toNatClampNeg a1)) ((-1)) (fun z1 => (if (v_C_isStory (gI σ 11 z1 0) σ) = 0 then (-1) else (vj_C_omits_j98 ((v_C_papersAgainst (v_AL_get 15 0 (gI σ 11 z1 0) σ) σ) &&& ((gI σ 11 z1 1) ^^^ (-1))) ((v_C_piecesAgainst (v_AL_get 15 0 (gI σ 11 z1 0) σ) σ) &&& ((gI σ 11 z1 2) ^^^ (-1))) (e_Ro_add (Int32.toInt64 ((v_C_papersAgainst (v_AL_get 15 0 (gI σ 11 z1 0) σ) σ) &&& ((gI σ 11 z1 1) ^^^ (-1)))) (e_Ro_clear σ)))))))
def p_C_omits (a1 : Int32) (σ : MSto) : Prop := (¬ ((v_C_isIn a1 0 7 σ) = 0) → ((vp_in a1 8) ∧ (∀ z1, (gR σ 24 0 (Int32.toNatClampNeg a1)) = some z1 → (¬ ((v_C_isStory (gI σ 11 z1 0) σ) = 0) → ((p_AL_get 15 0 (gI σ 11 z1 0) σ) ∧ ((p_C_papersAgainst (v_AL_get 15 0 (gI σ 11 z1 0) σ) σ) ∧ ((p_C_piecesAgainst (v_AL_get 15 0 (gI σ 11 z1 0) σ) σ) ∧ ((p_Ro_add (Int32.toInt64 ((v_C_papersAgainst (v_AL_get 15 0 (gI σ 11 z1 0) σ) σ) &&& ((gI σ 11 z1 1) ^^^ (-1)))) (e_Ro_clear σ)) ∧ (gj_C_omits_j98 ((v_C_papersAgainst (v_AL_get 15 0 (gI σ 11 z1 0) σ) σ) &&& ((gI σ 11 z1 1) ^^^ (-1))) ((v_C_piecesAgainst (v_AL_get 15 0 (gI σ 11 z1 0) σ) σ) &&& ((gI σ 11 z1 2) ^^^ (-1))) (e_Ro_add (Int32.toInt64 ((v_C_papersAgainst (v_AL_get 15 0 (gI σ 11 z1 0) σ) σ) &&& ((gI σ 11 z1 1) ^^^ (-1)))) (e_Ro_clear σ)))))))))))
noncomputable def e_C_omits (a1 : Int32) (σ : MSto) : MSto := (if (v_C_isIn a1 0 7 σ) = 0 then σ else (mO (gR σ 24 0 (Int32.toNatClampNeg a1)) (σ) (fun z1 => (if (v_C_isStory (gI σ 11 z1 0) σ) = 0 then σ else (ej_C_omits_j98 ((v_C_papersAgainst (v_AL_get 15 0 (gI σ 11 z1 0) σ) σ) &&& ((gI σ 11 z1 1) ^^^ (-1))) ((v_C_piecesAgainst (v_AL_get 15 0 (gI σ 11 z1 0) σ) σ) &&& ((gI σ 11 z1 2) ^^^ (-1))) (e_Ro_add (Int32.toInt64 ((v_C_papersAgainst (v_AL_get 15 0 (gI σ 11 z1 0) σ) σ) &&& ((gI σ 11 z1 1) ^^^ (-1)))) (e_Ro_clear σ)))))))
noncomputable def S_C_omits : List MV → MSto → Option Prop × Option MV × MSto := fun as σ => match as with
  | [.inr (.inr (some (12, 0))), .inl a0] => (some (p_C_omits a0 σ), some (mI (v_C_omits a0 σ)), e_C_omits a0 σ)
  | _ => (some False, none, σ)
noncomputable def E_C_omits : MEnt := ((1, 1, 12), (10, 224, 0, 0), S_C_omits, ((⟨"ClothWithMan", "omits", "(I)I"⟩ : MethodName), prog_1_method_47_code, 6, (some .int)))

def T_C_omits : Nat → Option (Instr × Nat × List Nat) := fun k => bif Nat.blt k 120 then (bif Nat.blt k 59 then (bif Nat.blt k 27 then (bif Nat.blt k 15 then (bif Nat.blt k 7 then (bif Nat.blt k 2 then (bif Nat.blt k 1 then (bif Nat.beq k 0 then some (.iload_n 1, 1, []) else none) else (bif Nat.beq k 1 then some (.iconst 0, 2, []) else none)) else (bif Nat.blt k 4 then (bif Nat.beq k 2 then some (.bipush 7, 4, []) else none) else (bif Nat.beq k 4 then some (.invokestatic 145, 7, []) else none))) else (bif Nat.blt k 11 then (bif Nat.blt k 10 then (bif Nat.beq k 7 then some (.ifCond .eq 12, 10, [19]) else none) else (bif Nat.beq k 10 then some (.aload_n 0, 11, []) else none)) else (bif Nat.blt k 14 then (bif Nat.beq k 11 then some (.getfield 54, 14, []) else none) else (bif Nat.beq k 14 then some (.iload_n 1, 15, []) else none)))) else (bif Nat.blt k 21 then (bif Nat.blt k 19 then (bif Nat.blt k 16 then (bif Nat.beq k 15 then some (.aaload, 16, []) else none) else (bif Nat.beq k 16 then some (.goto 4, 19, [20]) else none)) else (bif Nat.blt k 20 then (bif Nat.beq k 19 then some (.aconst_null, 20, []) else none) else (bif Nat.beq k 20 then some (.astore_n 2, 21, []) else none))) else (bif Nat.blt k 25 then (bif Nat.blt k 22 then (bif Nat.beq k 21 then some (.aload_n 2, 22, []) else none) else (bif Nat.beq k 22 then some (.ifnull 14, 25, [36]) else none)) else (bif Nat.blt k 26 then (bif Nat.beq k 25 then some (.aload_n 0, 26, []) else none) else (bif Nat.beq k 26 then some (.aload_n 2, 27, []) else none))))) else (bif Nat.blt k 43 then (bif Nat.blt k 37 then (bif Nat.blt k 33 then (bif Nat.blt k 30 then (bif Nat.beq k 27 then some (.getfield 390, 30, []) else none) else (bif Nat.beq k 30 then some (.invokevirtual 307, 33, []) else none)) else (bif Nat.blt k 36 then (bif Nat.beq k 33 then some (.ifCond .ne 5, 36, [38]) else none) else (bif Nat.beq k 36 then some (.iconst (-1), 37, []) else none))) else (bif Nat.blt k 39 then (bif Nat.blt k 38 then (bif Nat.beq k 37 then some (.ireturn, 38, []) else none) else (bif Nat.beq k 38 then some (.aload_n 0, 39, []) else none)) else (bif Nat.blt k 42 then (bif Nat.beq k 39 then some (.getfield 37, 42, []) else none) else (bif Nat.beq k 42 then some (.aload_n 2, 43, []) else none)))) else (bif Nat.blt k 53 then (bif Nat.blt k 49 then (bif Nat.blt k 46 then (bif Nat.beq k 43 then some (.getfield 390, 46, []) else none) else (bif Nat.beq k 46 then some (.invokevirtual 183, 49, []) else none)) else (bif Nat.blt k 52 then (bif Nat.beq k 49 then some (.checkcast 294, 52, []) else none) else (bif Nat.beq k 52 then some (.astore_n 3, 53, []) else none))) else (bif Nat.blt k 55 then (bif Nat.blt k 54 then (bif Nat.beq k 53 then some (.aload_n 0, 54, []) else none) else (bif Nat.beq k 54 then some (.aload_n 3, 55, []) else none)) else (bif Nat.blt k 58 then (bif Nat.beq k 55 then some (.invokevirtual 393, 58, []) else none) else (bif Nat.beq k 58 then some (.aload_n 2, 59, []) else none)))))) else (bif Nat.blt k 85 then (bif Nat.blt k 72 then (bif Nat.blt k 65 then (bif Nat.blt k 63 then (bif Nat.blt k 62 then (bif Nat.beq k 59 then some (.getfield 397, 62, []) else none) else (bif Nat.beq k 62 then some (.iconst (-1), 63, []) else none)) else (bif Nat.blt k 64 then (bif Nat.beq k 63 then some (.ixor, 64, []) else none) else (bif Nat.beq k 64 then some (.iand, 65, []) else none))) else (bif Nat.blt k 68 then (bif Nat.blt k 67 then (bif Nat.beq k 65 then some (.istore 4, 67, []) else none) else (bif Nat.beq k 67 then some (.aload_n 0, 68, []) else none)) else (bif Nat.blt k 69 then (bif Nat.beq k 68 then some (.aload_n 3, 69, []) else none) else (bif Nat.beq k 69 then some (.invokevirtual 400, 72, []) else none)))) else (bif Nat.blt k 78 then (bif Nat.blt k 76 then (bif Nat.blt k 73 then (bif Nat.beq k 72 then some (.aload_n 2, 73, []) else none) else (bif Nat.beq k 73 then some (.getfield 403, 76, []) else none)) else (bif Nat.blt k 77 then (bif Nat.beq k 76 then some (.iconst (-1), 77, []) else none) else (bif Nat.beq k 77 then some (.ixor, 78, []) else none))) else (bif Nat.blt k 81 then (bif Nat.blt k 79 then (bif Nat.beq k 78 then some (.iand, 79, []) else none) else (bif Nat.beq k 79 then some (.istore 5, 81, []) else none)) else (bif Nat.blt k 82 then (bif Nat.beq k 81 then some (.aload_n 0, 82, []) else none) else (bif Nat.beq k 82 then some (.getfield 67, 85, []) else none))))) else (bif Nat.blt k 102 then (bif Nat.blt k 94 then (bif Nat.blt k 89 then (bif Nat.blt k 88 then (bif Nat.beq k 85 then some (.invokevirtual 217, 88, []) else none) else (bif Nat.beq k 88 then some (.aload_n 0, 89, []) else none)) else (bif Nat.blt k 92 then (bif Nat.beq k 89 then some (.getfield 67, 92, []) else none) else (bif Nat.beq k 92 then some (.iload 4, 94, []) else none))) else (bif Nat.blt k 98 then (bif Nat.blt k 95 then (bif Nat.beq k 94 then some (.i2l, 95, []) else none) else (bif Nat.beq k 95 then some (.invokevirtual 223, 98, []) else none)) else (bif Nat.blt k 99 then (bif Nat.beq k 98 then some (.aload_n 0, 99, []) else none) else (bif Nat.beq k 99 then some (.getfield 67, 102, []) else none)))) else (bif Nat.blt k 110 then (bif Nat.blt k 105 then (bif Nat.blt k 104 then (bif Nat.beq k 102 then some (.iload 5, 104, []) else none) else (bif Nat.beq k 104 then some (.i2l, 105, []) else none)) else (bif Nat.blt k 108 then (bif Nat.beq k 105 then some (.invokevirtual 223, 108, []) else none) else (bif Nat.beq k 108 then some (.iload 4, 110, []) else none))) else (bif Nat.blt k 115 then (bif Nat.blt k 113 then (bif Nat.beq k 110 then some (.invokestatic 260, 113, []) else none) else (bif Nat.beq k 113 then some (.iload 5, 115, []) else none)) else (bif Nat.blt k 118 then (bif Nat.beq k 115 then some (.invokestatic 260, 118, []) else none) else (bif Nat.blt k 119 then (bif Nat.beq k 118 then some (.iadd, 119, []) else none) else (bif Nat.beq k 119 then some (.ireturn, 120, []) else none)))))))) else none
noncomputable def P_C_omits : MP := (T_C_omits, (fun k => mLook k [(37, (12, 5, (.object "java/util/ArrayList"), true)), (54, (12, 9, (.array (.object "ClothWithMan$Want")), true)), (67, (12, 11, (.object "ClothWithMan$Row"), true)), (390, (11, 0, .int, true)), (397, (11, 1, .int, true)), (403, (11, 2, .int, true))]), (fun k => mLook k []), (fun k => mLook k [(145, E_C_isIn), (183, E_AL_get), (217, E_Ro_clear), (223, E_Ro_add), (260, E_In_bitCount), (307, E_C_isStory), (393, E_C_papersAgainst), (400, E_C_piecesAgainst)]), (fun k => mLook k []), (fun k => mLook k []), (fun k => mLook k [(294, 9)]), (fun k => mLook k [(98, [true, false, false, false, true, true])]), (fun k => [37, 119].any (Nat.beq k)), (10, 224, 0, 0), false, (fun _ => none))
set_option maxRecDepth 100000 in
set_option maxHeartbeats 4000000 in
theorem q_C_omits_e (a1 : Int32) (σ : MSto) (n : Nat) : mexe KT P_C_omits (n + 1) (0, [some (mR 12 0), some (mI a1), none, none, none, none], [], σ, 0, 0) = mIf ((v_C_isIn a1 0 7 σ) = 0) (some (37, [], [(mI (-1))], σ, 0, 0)) (mG (vp_in a1 8) (mO (gR σ 24 0 (Int32.toNatClampNeg a1)) (some (37, [], [(mI (-1))], σ, 0, 0)) (fun z1 => mIf ((v_C_isStory (gI σ 11 z1 0) σ) = 0) (some (37, [], [(mI (-1))], σ, 0, 0)) (mG (p_AL_get 15 0 (gI σ 11 z1 0) σ) (mG (p_C_papersAgainst (v_AL_get 15 0 (gI σ 11 z1 0) σ) σ) (mG (p_C_piecesAgainst (v_AL_get 15 0 (gI σ 11 z1 0) σ) σ) (mG (p_Ro_add (Int32.toInt64 ((v_C_papersAgainst (v_AL_get 15 0 (gI σ 11 z1 0) σ) σ) &&& ((gI σ 11 z1 1) ^^^ (-1)))) (e_Ro_clear σ)) (mexe KT P_C_omits n (98, [some (mR 12 0), none, none, none, some (mI ((v_C_papersAgainst (v_AL_get 15 0 (gI σ 11 z1 0) σ) σ) &&& ((gI σ 11 z1 1) ^^^ (-1)))), some (mI ((v_C_piecesAgainst (v_AL_get 15 0 (gI σ 11 z1 0) σ) σ) &&& ((gI σ 11 z1 2) ^^^ (-1))))], [], (e_Ro_add (Int32.toInt64 ((v_C_papersAgainst (v_AL_get 15 0 (gI σ 11 z1 0) σ) σ) &&& ((gI σ 11 z1 1) ^^^ (-1)))) (e_Ro_clear σ)), 0, 0))))))))) := rfl
set_option maxRecDepth 100000 in
set_option maxHeartbeats 4000000 in
theorem q_C_omits_98 (x4 : Int32) (x5 : Int32) (σ : MSto) (n : Nat) : mexe KT P_C_omits (n + 1) (98, [some (mR 12 0), none, none, none, some (mI x4), some (mI x5)], [], σ, 0, 0) = mG (p_Ro_add (Int32.toInt64 x5) σ) (some (119, [], [(mI ((v_In_bitCount x4 (e_Ro_add (Int32.toInt64 x5) σ)) + (v_In_bitCount x5 (e_Ro_add (Int32.toInt64 x5) σ))))], (e_Ro_add (Int32.toInt64 x5) σ), 0, 0)) := rfl
set_option maxRecDepth 100000 in
theorem lj_C_omits_j98 (x4 : Int32) (x5 : Int32) (σ : MSto) (hp : gj_C_omits_j98 x4 x5 σ) : mW1 P_C_omits (98, [some (mR 12 0), none, none, none, some (mI x4), some (mI x5)], [], σ, 0, 0) (mF [37, 119] [mI (vj_C_omits_j98 x4 x5 σ)] (ej_C_omits_j98 x4 x5 σ) 0 0) := by
  unfold gj_C_omits_j98 at hp
  refine mW1_eq (q_C_omits_98 _ _ _) ?_
  refine mTr_g hp ?_
  exact mTr_e (by decide) (congrArg (fun z => [mI z]) (Eq.symm (rfl))) (Eq.symm (rfl)) (by decide) (by decide)
set_option maxRecDepth 100000 in
set_option maxHeartbeats 4000000 in
theorem d_C_omits (a1 : Int32) (σ : MSto) (hp : p_C_omits a1 σ) : mW1 P_C_omits (0, [some (mR 12 0), some (mI a1), none, none, none, none], [], σ, 0, 0) (mF [37, 119] [mI (v_C_omits a1 σ)] (e_C_omits a1 σ) 0 0) := by
  refine mW1_eq (q_C_omits_e _ _) ?_
  unfold p_C_omits at hp
  refine mTr_if (fun h0 => ?_) (fun h0 => ?_)
  · skip
    exact mTr_e (by decide) (congrArg (fun z => [mI z]) (Eq.symm (if_pos h0))) (Eq.symm (if_pos h0)) (by decide) (by decide)
  · skip
    have hp := hp h0
    refine mTr_g hp.1 ?_
    have hp := hp.2
    refine mTr_o (fun h1 => ?_) (fun z1 h1 => ?_)
    · skip
      exact mTr_e (by decide) (congrArg (fun z => [mI z]) (Eq.symm ((if_neg h0).trans (mO_en h1)))) (Eq.symm ((if_neg h0).trans (mO_en h1))) (by decide) (by decide)
    · skip
      have hp := hp z1 h1
      refine mTr_if (fun h2 => ?_) (fun h2 => ?_)
      · skip
        exact mTr_e (by decide) (congrArg (fun z => [mI z]) (Eq.symm ((if_neg h0).trans ((mO_es h1).trans (if_pos h2))))) (Eq.symm ((if_neg h0).trans ((mO_es h1).trans (if_pos h2)))) (by decide) (by decide)
      · skip
        have hp := hp h2
        refine mTr_g hp.1 ?_
        have hp := hp.2
        refine mTr_g hp.1 ?_
        have hp := hp.2
        refine mTr_g hp.1 ?_
        have hp := hp.2
        refine mTr_g hp.1 ?_
        have hp := hp.2
        exact mTr_k (mF_cI ((if_neg h0).trans ((mO_es h1).trans (if_neg h2))) ((if_neg h0).trans ((mO_es h1).trans (if_neg h2))) (lj_C_omits_j98 ((v_C_papersAgainst (v_AL_get 15 0 (gI σ 11 z1 0) σ) σ) &&& ((gI σ 11 z1 1) ^^^ (-1))) ((v_C_piecesAgainst (v_AL_get 15 0 (gI σ 11 z1 0) σ) σ) &&& ((gI σ 11 z1 2) ^^^ (-1))) (e_Ro_add (Int32.toInt64 ((v_C_papersAgainst (v_AL_get 15 0 (gI σ 11 z1 0) σ) σ) &&& ((gI σ 11 z1 1) ^^^ (-1)))) (e_Ro_clear σ)) hp))
theorem li_C_400 : mLink "ClothWithMan" 400 E_C_piecesAgainst := ⟨tw_5_34, tw_1_1, ⟨by decide, by decide⟩, by decide +kernel, Or.inl tw_5_31, (fun h => by cases h), (fun _ => ⟨tw_5_33, tw_0_42, TX11, 20, rfl⟩), (fun h => by cases h)⟩

theorem li_C_393 : mLink "ClothWithMan" 393 E_C_papersAgainst := ⟨tw_5_30, tw_1_1, ⟨by decide, by decide⟩, by decide +kernel, Or.inl tw_5_27, (fun h => by cases h), (fun _ => ⟨tw_5_29, tw_0_41, TX11, 20, rfl⟩), (fun h => by cases h)⟩







theorem tk_C_omits : ∀ pc i nx tg, T_C_omits pc = some (i, nx, tg) → mOkB prog_1_method_47_code pc i nx tg = true := code_ok (N := 120) (fun k h => by unfold T_C_omits; rw [h]; rfl) (by decide +kernel)
theorem ok_C_omits (l : Launch) : mPOK l "ClothWithMan" prog_1_method_47_code P_C_omits := by
  refine ⟨tk_C_omits, ?_, ?_, ?_, (fun pc i nx tg kd _ h => by cases h), ?_, ?_, fun pc en h => by cases h⟩
  · intro x ci f ty fin h
    exact mLook_all (Q := fun x v => mFOK "ClothWithMan" x v.1 v.2.1 v.2.2.1 v.2.2.2 ∧ (v.2.2.2 = true → pIni P_C_omits = true → (Cond.fieldLink "ClothWithMan" x (((mCl[v.1]?).getD ("", fun _ => ("", "", "", false), 0)).2.1 v.2.1).1 (((mCl[v.1]?).getD ("", fun _ => ("", "", "", false), 0)).2.1 v.2.1).2.1 (((mCl[v.1]?).getD ("", fun _ => ("", "", "", false), 0)).2.1 v.2.1).2.2.1 ∈ lw_tbl ∧ (((mCl[v.1]?).getD ("", fun _ => ("", "", "", false), 0)).2.1 v.2.1).1 = "ClothWithMan"))) (fcC ⟨fo_C_37, fun h1 h2 => by cases h2⟩ (fcC ⟨fo_C_54, fun h1 h2 => by cases h2⟩ (fcC ⟨fo_C_67, fun h1 h2 => by cases h2⟩ (fcC ⟨fo_C_390, fun h1 h2 => by cases h2⟩ (fcC ⟨fo_C_397, fun h1 h2 => by cases h2⟩ (fcC ⟨fo_C_403, fun h1 h2 => by cases h2⟩ fcN)))))) x (ci, f, ty, fin) h
  · intro x
    have hh := mLook_all (l := ([] : List (Nat × (Int32 ⊕ Int64)))) (Q := fun x (v : Int32 ⊕ Int64) => (∀ w, v = .inl w → Cond.constant "ClothWithMan" x w ∈ lw_tbl) ∧ (∀ w, v = .inr w → Cond.constantLong "ClothWithMan" x w ∈ lw_tbl)) fcN x
    exact ⟨fun w h => (hh _ h).1 w rfl, fun w h => (hh _ h).2 w rfl⟩
  · exact fun x en h => mLook_all (Q := fun x en => mLink "ClothWithMan" x en ∧ mCtr l en ∧ (en.1.1 = 2 → en.2.2.2.2.2.2 = none)) (fcC ⟨li_C_145, c_C_isIn l, (fun h => by cases h)⟩ (fcC ⟨li_C_183, c_AL_get l, (fun h => by cases h)⟩ (fcC ⟨li_C_217, c_Ro_clear l, (fun h => by cases h)⟩ (fcC ⟨li_C_223, c_Ro_add l, (fun h => by cases h)⟩ (fcC ⟨li_C_260, c_In_bitCount l, (fun h => by cases h)⟩ (fcC ⟨li_C_307, c_C_isStory l, (fun h => by cases h)⟩ (fcC ⟨li_C_393, c_C_papersAgainst l, (fun h => by cases h)⟩ (fcC ⟨li_C_400, c_C_piecesAgainst l, (fun h => by cases h)⟩ fcN)))))))) x en h
  · exact fun x kd h => mLook_all (Q := fun x kd => (kd = 95 ∧ Cond.fieldLink "ClothWithMan" x "ClothWithMan" "LIKENESSES" "[I" ∈ lw_tbl) ∨ (kd = 96 ∧ Cond.fieldLink "ClothWithMan" x "ClothWithMan" "APART_BOUNDS" "[I" ∈ lw_tbl)) fcN x kd h
  · exact fun x ci h => mLook_all (Q := fun x ci => ci ≠ 0 ∧ ∃ (C : String) (T : u_T) (N : Nat), mCl[ci]? = some (C, T, N) ∧ Cond.classLink "ClothWithMan" x C ∈ lw_tbl ∧ Cond.instantiable C N ∈ lw_tbl) (fcC ⟨by decide, "ClothWithMan$Story", TX8, 9, rfl, tw_3_215, tw_3_216⟩ fcN) x ci h
set_option maxRecDepth 100000 in
theorem c_C_omits (l : Launch) : mCtr l E_C_omits := mCtr_of (P := P_C_omits) (own := "ClothWithMan") mLay_ok rfl (by decide +kernel) rfl (ok_C_omits l) (fun h => by cases h) (fun as σ pr rv σ' hF hpr hlv => by
  unfold E_C_omits S_C_omits at hF
  simp only [] at hF
  split at hF
  · cases hF
    obtain ⟨n, pcF, c1, s1, g1, g2, g3, g4⟩ := mF_inv (d_C_omits _ σ (hpr _ rfl))
    exact ⟨Nat.le_of_ble_eq_true rfl, (fun v h => by cases h; trivial), n, pcF, c1, s1, g1, ⟨mEnd_of (i := .ireturn) (P := P_C_omits) (rets := [37, 119]) rfl g2, rfl⟩, g3, g4⟩
  · cases hF
    exact (hpr _ rfl).elim)
/-! ClothWithMan.seed(I)I -/
noncomputable def v_C_seed (a1 : Int32) (σ : MSto) : Int32 := (gI σ 12 0 12)
noncomputable def e_C_seed (a1 : Int32) (σ : MSto) : MSto := (sI σ 12 0 12 a1)
noncomputable def S_C_seed : List MV → MSto → Option Prop × Option MV × MSto := fun as σ => match as with
  | [.inr (.inr (some (12, 0))), .inl a0] => (none, some (mI (v_C_seed a0 σ)), e_C_seed a0 σ)
  | _ => (some False, none, σ)
noncomputable def E_C_seed : MEnt := ((1, 1, 12), (0, 0, 0, 0), S_C_seed, ((⟨"ClothWithMan", "seed", "(I)I"⟩ : MethodName), prog_1_method_48_code, 3, (some .int)))

def T_C_seed : Nat → Option (Instr × Nat × List Nat) := fun k => bif Nat.blt k 12 then (bif Nat.blt k 6 then (bif Nat.blt k 4 then (bif Nat.blt k 1 then (bif Nat.beq k 0 then some (.aload_n 0, 1, []) else none) else (bif Nat.beq k 1 then some (.getfield 71, 4, []) else none)) else (bif Nat.blt k 5 then (bif Nat.beq k 4 then some (.istore_n 2, 5, []) else none) else (bif Nat.beq k 5 then some (.aload_n 0, 6, []) else none))) else (bif Nat.blt k 10 then (bif Nat.blt k 7 then (bif Nat.beq k 6 then some (.iload_n 1, 7, []) else none) else (bif Nat.beq k 7 then some (.putfield 71, 10, []) else none)) else (bif Nat.blt k 11 then (bif Nat.beq k 10 then some (.iload_n 2, 11, []) else none) else (bif Nat.beq k 11 then some (.ireturn, 12, []) else none)))) else none
noncomputable def P_C_seed : MP := (T_C_seed, (fun k => mLook k [(71, (12, 12, .int, false))]), (fun k => mLook k []), (fun k => mLook k []), (fun k => mLook k []), (fun k => mLook k []), (fun k => mLook k []), (fun k => mLook k []), (fun k => [11].any (Nat.beq k)), (0, 0, 0, 0), false, (fun _ => none))
set_option maxRecDepth 100000 in
set_option maxHeartbeats 4000000 in
theorem q_C_seed_e (a1 : Int32) (σ : MSto) (n : Nat) : mexe KT P_C_seed (n + 1) (0, [some (mR 12 0), some (mI a1), none], [], σ, 0, 0) = some (11, [], [(mI (gI σ 12 0 12))], (sI σ 12 0 12 a1), 0, 0) := rfl
set_option maxRecDepth 100000 in
set_option maxHeartbeats 4000000 in
theorem d_C_seed (a1 : Int32) (σ : MSto) : mW1 P_C_seed (0, [some (mR 12 0), some (mI a1), none], [], σ, 0, 0) (mF [11] [mI (v_C_seed a1 σ)] (e_C_seed a1 σ) 0 0) := by
  refine mW1_eq (q_C_seed_e _ _) ?_
  exact mTr_e (by decide) (congrArg (fun z => [mI z]) (Eq.symm (rfl))) (Eq.symm (rfl)) (by decide) (by decide)
theorem tk_C_seed : ∀ pc i nx tg, T_C_seed pc = some (i, nx, tg) → mOkB prog_1_method_48_code pc i nx tg = true := code_ok (N := 12) (fun k h => by unfold T_C_seed; rw [h]; rfl) (by decide +kernel)
theorem ok_C_seed (l : Launch) : mPOK l "ClothWithMan" prog_1_method_48_code P_C_seed := by
  refine ⟨tk_C_seed, ?_, ?_, ?_, (fun pc i nx tg kd _ h => by cases h), ?_, ?_, fun pc en h => by cases h⟩
  · intro x ci f ty fin h
    exact mLook_all (Q := fun x v => mFOK "ClothWithMan" x v.1 v.2.1 v.2.2.1 v.2.2.2 ∧ (v.2.2.2 = true → pIni P_C_seed = true → (Cond.fieldLink "ClothWithMan" x (((mCl[v.1]?).getD ("", fun _ => ("", "", "", false), 0)).2.1 v.2.1).1 (((mCl[v.1]?).getD ("", fun _ => ("", "", "", false), 0)).2.1 v.2.1).2.1 (((mCl[v.1]?).getD ("", fun _ => ("", "", "", false), 0)).2.1 v.2.1).2.2.1 ∈ lw_tbl ∧ (((mCl[v.1]?).getD ("", fun _ => ("", "", "", false), 0)).2.1 v.2.1).1 = "ClothWithMan"))) (fcC ⟨fo_C_71, fun h1 h2 => by cases h1⟩ fcN) x (ci, f, ty, fin) h
  · intro x
    have hh := mLook_all (l := ([] : List (Nat × (Int32 ⊕ Int64)))) (Q := fun x (v : Int32 ⊕ Int64) => (∀ w, v = .inl w → Cond.constant "ClothWithMan" x w ∈ lw_tbl) ∧ (∀ w, v = .inr w → Cond.constantLong "ClothWithMan" x w ∈ lw_tbl)) fcN x
    exact ⟨fun w h => (hh _ h).1 w rfl, fun w h => (hh _ h).2 w rfl⟩
  · exact fun x en h => mLook_all (Q := fun x en => mLink "ClothWithMan" x en ∧ mCtr l en ∧ (en.1.1 = 2 → en.2.2.2.2.2.2 = none)) fcN x en h
  · exact fun x kd h => mLook_all (Q := fun x kd => (kd = 95 ∧ Cond.fieldLink "ClothWithMan" x "ClothWithMan" "LIKENESSES" "[I" ∈ lw_tbl) ∨ (kd = 96 ∧ Cond.fieldLink "ClothWithMan" x "ClothWithMan" "APART_BOUNDS" "[I" ∈ lw_tbl)) fcN x kd h
  · exact fun x ci h => mLook_all (Q := fun x ci => ci ≠ 0 ∧ ∃ (C : String) (T : u_T) (N : Nat), mCl[ci]? = some (C, T, N) ∧ Cond.classLink "ClothWithMan" x C ∈ lw_tbl ∧ Cond.instantiable C N ∈ lw_tbl) fcN x ci h
set_option maxRecDepth 100000 in
theorem c_C_seed (l : Launch) : mCtr l E_C_seed := mCtr_of (P := P_C_seed) (own := "ClothWithMan") mLay_ok rfl (by decide +kernel) rfl (ok_C_seed l) (fun h => by cases h) (fun as σ pr rv σ' hF hpr hlv => by
  unfold E_C_seed S_C_seed at hF
  simp only [] at hF
  split at hF
  · cases hF
    obtain ⟨n, pcF, c1, s1, g1, g2, g3, g4⟩ := mF_inv (d_C_seed _ σ)
    exact ⟨Nat.le_of_ble_eq_true rfl, (fun v h => by cases h; trivial), n, pcF, c1, s1, g1, ⟨mEnd_of (i := .ireturn) (P := P_C_seed) (rets := [11]) rfl g2, rfl⟩, g3, g4⟩
  · cases hF
    exact (hpr _ rfl).elim)
/-! ClothWithMan.again(I)Z -/
noncomputable def t_C_again_100 (r2 : Nat) (c : Int32) (s : MSto) : MSto := (if (v_C_storyCount s) ≤ c then s else (sI s 9 (v_AL_get 15 0 c s) 1 (gI s 40 r2 (Int32.toNatClampNeg c))))
noncomputable def q_C_again_100s (r2 : Nat) (c : Int32) (s : MSto) : Nat := (if (v_C_storyCount s) ≤ c then 1 else 0)
def g_C_again_100 (r2 : Nat) (c : Int32) (s : MSto) : Prop := (¬ ((v_C_storyCount s) ≤ c) → ((p_AL_get 15 0 c s) ∧ (vp_in c 6)))
noncomputable def f_C_again_100 (r2 : Nat) (c0 : Int32) (s0 : MSto) (n : Nat) : MSto := nfold (fun i s => t_C_again_100 r2 (c0 + nI i) s) s0 n
noncomputable def n_C_again_100 (r2 : Nat) (c0 : Int32) (s0 : MSto) : Nat := (v_C_storyCount s0).toNatClampNeg
noncomputable def tj_C_again_47j92 (r2 : Nat) (x3 : Int32) (σ : MSto) (s : MSto) : MSto := σ
noncomputable def qj_C_again_47j92 (r2 : Nat) (x3 : Int32) (σ : MSto) : Nat := 0
noncomputable def t_C_again_47 (r2 : Nat) (c : Int32) (s : MSto) : MSto := (if (v_C_pieceCount s) ≤ c then s else (tj_C_again_47j92 r2 c (sI (sI s 7 (v_AL_get 14 0 c s) 5 (gI s 39 r2 (Int32.toNatClampNeg c))) 7 (v_AL_get 14 0 c s) 4 (v_C_has (gI (sI s 7 (v_AL_get 14 0 c s) 5 (gI s 39 r2 (Int32.toNatClampNeg c))) 4 r2 2) c (sI s 7 (v_AL_get 14 0 c s) 5 (gI s 39 r2 (Int32.toNatClampNeg c))))) s))
noncomputable def q_C_again_47s (r2 : Nat) (c : Int32) (s : MSto) : Nat := (if (v_C_pieceCount s) ≤ c then 1 else 0)
def g_C_again_47 (r2 : Nat) (c : Int32) (s : MSto) : Prop := (¬ ((v_C_pieceCount s) ≤ c) → ((p_AL_get 14 0 c s) ∧ ((vp_in c 12) ∧ (vp_nar .boolean (v_C_has (gI (sI s 7 (v_AL_get 14 0 c s) 5 (gI s 39 r2 (Int32.toNatClampNeg c))) 4 r2 2) c (sI s 7 (v_AL_get 14 0 c s) 5 (gI s 39 r2 (Int32.toNatClampNeg c)))) = (v_C_has (gI (sI s 7 (v_AL_get 14 0 c s) 5 (gI s 39 r2 (Int32.toNatClampNeg c))) 4 r2 2) c (sI s 7 (v_AL_get 14 0 c s) 5 (gI s 39 r2 (Int32.toNatClampNeg c))))))))
noncomputable def f_C_again_47 (r2 : Nat) (c0 : Int32) (s0 : MSto) (n : Nat) : MSto := nfold (fun i s => t_C_again_47 r2 (c0 + nI i) s) s0 n
noncomputable def n_C_again_47 (r2 : Nat) (c0 : Int32) (s0 : MSto) : Nat := (v_C_pieceCount s0).toNatClampNeg
def b_C_again (a1 : Int32) (σ : MSto) : Prop := (if (v_C_isIn a1 0 2 σ) = 0 then False else (mO (gR σ 25 0 (Int32.toNatClampNeg a1)) (False) (fun z1 => True)))
noncomputable def v_C_again (a1 : Int32) (σ : MSto) : Int32 := bI (b_C_again a1 σ)
def p_C_again (a1 : Int32) (σ : MSto) : Prop := (¬ ((v_C_isIn a1 0 2 σ) = 0) → ((vp_in a1 3) ∧ (∀ z1, (gR σ 25 0 (Int32.toNatClampNeg a1)) = some z1 → ((∀ i, i < (n_C_again_47 z1 0 (sI (sI σ 1 0 1 (gI σ 4 z1 0)) 12 0 12 (gI (sI σ 1 0 1 (gI σ 4 z1 0)) 4 z1 1))) → g_C_again_47 z1 (0 + nI i) (f_C_again_47 z1 0 (sI (sI σ 1 0 1 (gI σ 4 z1 0)) 12 0 12 (gI (sI σ 1 0 1 (gI σ 4 z1 0)) 4 z1 1)) i) ∧ ¬ q_C_again_47s z1 (0 + nI i) (f_C_again_47 z1 0 (sI (sI σ 1 0 1 (gI σ 4 z1 0)) 12 0 12 (gI (sI σ 1 0 1 (gI σ 4 z1 0)) 4 z1 1)) i) = 1) ∧ ((((v_C_pieceCount (f_C_again_47 z1 0 (sI (sI σ 1 0 1 (gI σ 4 z1 0)) 12 0 12 (gI (sI σ 1 0 1 (gI σ 4 z1 0)) 4 z1 1)) (n_C_again_47 z1 0 (sI (sI σ 1 0 1 (gI σ 4 z1 0)) 12 0 12 (gI (sI σ 1 0 1 (gI σ 4 z1 0)) 4 z1 1))))) ≤ (0 + nI (n_C_again_47 z1 0 (sI (sI σ 1 0 1 (gI σ 4 z1 0)) 12 0 12 (gI (sI σ 1 0 1 (gI σ 4 z1 0)) 4 z1 1))))) → ((∀ i, i < (n_C_again_100 z1 0 (f_C_again_47 z1 0 (sI (sI σ 1 0 1 (gI σ 4 z1 0)) 12 0 12 (gI (sI σ 1 0 1 (gI σ 4 z1 0)) 4 z1 1)) (n_C_again_47 z1 0 (sI (sI σ 1 0 1 (gI σ 4 z1 0)) 12 0 12 (gI (sI σ 1 0 1 (gI σ 4 z1 0)) 4 z1 1))))) → g_C_again_100 z1 (0 + nI i) (f_C_again_100 z1 0 (f_C_again_47 z1 0 (sI (sI σ 1 0 1 (gI σ 4 z1 0)) 12 0 12 (gI (sI σ 1 0 1 (gI σ 4 z1 0)) 4 z1 1)) (n_C_again_47 z1 0 (sI (sI σ 1 0 1 (gI σ 4 z1 0)) 12 0 12 (gI (sI σ 1 0 1 (gI σ 4 z1 0)) 4 z1 1)))) i) ∧ ¬ q_C_again_100s z1 (0 + nI i) (f_C_again_100 z1 0 (f_C_again_47 z1 0 (sI (sI σ 1 0 1 (gI σ 4 z1 0)) 12 0 12 (gI (sI σ 1 0 1 (gI σ 4 z1 0)) 4 z1 1)) (n_C_again_47 z1 0 (sI (sI σ 1 0 1 (gI σ 4 z1 0)) 12 0 12 (gI (sI σ 1 0 1 (gI σ 4 z1 0)) 4 z1 1)))) i) = 1) ∧ (¬ ((v_C_storyCount (f_C_again_100 z1 0 (f_C_again_47 z1 0 (sI (sI σ 1 0 1 (gI σ 4 z1 0)) 12 0 12 (gI (sI σ 1 0 1 (gI σ 4 z1 0)) 4 z1 1)) (n_C_again_47 z1 0 (sI (sI σ 1 0 1 (gI σ 4 z1 0)) 12 0 12 (gI (sI σ 1 0 1 (gI σ 4 z1 0)) 4 z1 1)))) (n_C_again_100 z1 0 (f_C_again_47 z1 0 (sI (sI σ 1 0 1 (gI σ 4 z1 0)) 12 0 12 (gI (sI σ 1 0 1 (gI σ 4 z1 0)) 4 z1 1)) (n_C_again_47 z1 0 (sI (sI σ 1 0 1 (gI σ 4 z1 0)) 12 0 12 (gI (sI σ 1 0 1 (gI σ 4 z1 0)) 4 z1 1))))))) ≤ (0 + nI (n_C_again_100 z1 0 (f_C_again_47 z1 0 (sI (sI σ 1 0 1 (gI σ 4 z1 0)) 12 0 12 (gI (sI σ 1 0 1 (gI σ 4 z1 0)) 4 z1 1)) (n_C_again_47 z1 0 (sI (sI σ 1 0 1 (gI σ 4 z1 0)) 12 0 12 (gI (sI σ 1 0 1 (gI σ 4 z1 0)) 4 z1 1))))))) → False))) ∧ (¬ ((v_C_pieceCount (f_C_again_47 z1 0 (sI (sI σ 1 0 1 (gI σ 4 z1 0)) 12 0 12 (gI (sI σ 1 0 1 (gI σ 4 z1 0)) 4 z1 1)) (n_C_again_47 z1 0 (sI (sI σ 1 0 1 (gI σ 4 z1 0)) 12 0 12 (gI (sI σ 1 0 1 (gI σ 4 z1 0)) 4 z1 1))))) ≤ (0 + nI (n_C_again_47 z1 0 (sI (sI σ 1 0 1 (gI σ 4 z1 0)) 12 0 12 (gI (sI σ 1 0 1 (gI σ 4 z1 0)) 4 z1 1))))) → False))))))
noncomputable def e_C_again (a1 : Int32) (σ : MSto) : MSto := (if (v_C_isIn a1 0 2 σ) = 0 then σ else (mO (gR σ 25 0 (Int32.toNatClampNeg a1)) (σ) (fun z1 => (f_C_again_100 z1 0 (f_C_again_47 z1 0 (sI (sI σ 1 0 1 (gI σ 4 z1 0)) 12 0 12 (gI (sI σ 1 0 1 (gI σ 4 z1 0)) 4 z1 1)) (n_C_again_47 z1 0 (sI (sI σ 1 0 1 (gI σ 4 z1 0)) 12 0 12 (gI (sI σ 1 0 1 (gI σ 4 z1 0)) 4 z1 1)))) (n_C_again_100 z1 0 (f_C_again_47 z1 0 (sI (sI σ 1 0 1 (gI σ 4 z1 0)) 12 0 12 (gI (sI σ 1 0 1 (gI σ 4 z1 0)) 4 z1 1)) (n_C_again_47 z1 0 (sI (sI σ 1 0 1 (gI σ 4 z1 0)) 12 0 12 (gI (sI σ 1 0 1 (gI σ 4 z1 0)) 4 z1 1)))))))))
noncomputable def S_C_again : List MV → MSto → Option Prop × Option MV × MSto := fun as σ => match as with
  | [.inr (.inr (some (12, 0))), .inl a0] => (some (p_C_again a0 σ), some (mI (v_C_again a0 σ)), e_C_again a0 σ)
  | _ => (some False, none, σ)
noncomputable def E_C_again : MEnt := ((1, 1, 12), (6, 121, 0, 0), S_C_again, ((⟨"ClothWithMan", "again", "(I)Z"⟩ : MethodName), prog_1_method_50_code, 5, (some .boolean)))

def T_C_again : Nat → Option (Instr × Nat × List Nat) := fun k => bif Nat.blt k 136 then (bif Nat.blt k 63 then (bif Nat.blt k 27 then (bif Nat.blt k 14 then (bif Nat.blt k 6 then (bif Nat.blt k 2 then (bif Nat.blt k 1 then (bif Nat.beq k 0 then some (.iload_n 1, 1, []) else none) else (bif Nat.beq k 1 then some (.iconst 0, 2, []) else none)) else (bif Nat.blt k 3 then (bif Nat.beq k 2 then some (.iconst 2, 3, []) else none) else (bif Nat.beq k 3 then some (.invokestatic 145, 6, []) else none))) else (bif Nat.blt k 10 then (bif Nat.blt k 9 then (bif Nat.beq k 6 then some (.ifCond .eq 12, 9, [18]) else none) else (bif Nat.beq k 9 then some (.aload_n 0, 10, []) else none)) else (bif Nat.blt k 13 then (bif Nat.beq k 10 then some (.getfield 60, 13, []) else none) else (bif Nat.beq k 13 then some (.iload_n 1, 14, []) else none)))) else (bif Nat.blt k 20 then (bif Nat.blt k 18 then (bif Nat.blt k 15 then (bif Nat.beq k 14 then some (.aaload, 15, []) else none) else (bif Nat.beq k 15 then some (.goto 4, 18, [19]) else none)) else (bif Nat.blt k 19 then (bif Nat.beq k 18 then some (.aconst_null, 19, []) else none) else (bif Nat.beq k 19 then some (.astore_n 2, 20, []) else none))) else (bif Nat.blt k 24 then (bif Nat.blt k 21 then (bif Nat.beq k 20 then some (.aload_n 2, 21, []) else none) else (bif Nat.beq k 21 then some (.ifnonnull 5, 24, [26]) else none)) else (bif Nat.blt k 25 then (bif Nat.beq k 24 then some (.iconst 0, 25, []) else none) else (bif Nat.blt k 26 then (bif Nat.beq k 25 then some (.ireturn, 26, []) else none) else (bif Nat.beq k 26 then some (.aload_n 0, 27, []) else none)))))) else (bif Nat.blt k 46 then (bif Nat.blt k 37 then (bif Nat.blt k 31 then (bif Nat.blt k 30 then (bif Nat.beq k 27 then some (.getfield 19, 30, []) else none) else (bif Nat.beq k 30 then some (.aload_n 2, 31, []) else none)) else (bif Nat.blt k 34 then (bif Nat.beq k 31 then some (.getfield 407, 34, []) else none) else (bif Nat.beq k 34 then some (.putfield 122, 37, []) else none))) else (bif Nat.blt k 39 then (bif Nat.blt k 38 then (bif Nat.beq k 37 then some (.aload_n 0, 38, []) else none) else (bif Nat.beq k 38 then some (.aload_n 2, 39, []) else none)) else (bif Nat.blt k 42 then (bif Nat.beq k 39 then some (.getfield 408, 42, []) else none) else (bif Nat.blt k 45 then (bif Nat.beq k 42 then some (.putfield 71, 45, []) else none) else (bif Nat.beq k 45 then some (.iconst 0, 46, []) else none))))) else (bif Nat.blt k 52 then (bif Nat.blt k 48 then (bif Nat.blt k 47 then (bif Nat.beq k 46 then some (.istore_n 3, 47, []) else none) else (bif Nat.beq k 47 then some (.iload_n 3, 48, []) else none)) else (bif Nat.blt k 49 then (bif Nat.beq k 48 then some (.aload_n 0, 49, []) else none) else (bif Nat.beq k 49 then some (.invokevirtual 281, 52, []) else none))) else (bif Nat.blt k 56 then (bif Nat.blt k 55 then (bif Nat.beq k 52 then some (.if_icmp .ge 46, 55, [98]) else none) else (bif Nat.beq k 55 then some (.aload_n 0, 56, []) else none)) else (bif Nat.blt k 59 then (bif Nat.beq k 56 then some (.getfield 33, 59, []) else none) else (bif Nat.blt k 60 then (bif Nat.beq k 59 then some (.iload_n 3, 60, []) else none) else (bif Nat.beq k 60 then some (.invokevirtual 183, 63, []) else none))))))) else (bif Nat.blt k 100 then (bif Nat.blt k 81 then (bif Nat.blt k 71 then (bif Nat.blt k 68 then (bif Nat.blt k 66 then (bif Nat.beq k 63 then some (.checkcast 168, 66, []) else none) else (bif Nat.beq k 66 then some (.astore 4, 68, []) else none)) else (bif Nat.blt k 70 then (bif Nat.beq k 68 then some (.aload 4, 70, []) else none) else (bif Nat.beq k 70 then some (.aload_n 2, 71, []) else none))) else (bif Nat.blt k 75 then (bif Nat.blt k 74 then (bif Nat.beq k 71 then some (.getfield 415, 74, []) else none) else (bif Nat.beq k 74 then some (.iload_n 3, 75, []) else none)) else (bif Nat.blt k 76 then (bif Nat.beq k 75 then some (.iaload, 76, []) else none) else (bif Nat.blt k 79 then (bif Nat.beq k 76 then some (.putfield 201, 79, []) else none) else (bif Nat.beq k 79 then some (.aload 4, 81, []) else none))))) else (bif Nat.blt k 89 then (bif Nat.blt k 85 then (bif Nat.blt k 82 then (bif Nat.beq k 81 then some (.aload_n 2, 82, []) else none) else (bif Nat.beq k 82 then some (.getfield 412, 85, []) else none)) else (bif Nat.blt k 86 then (bif Nat.beq k 85 then some (.iload_n 3, 86, []) else none) else (bif Nat.beq k 86 then some (.invokestatic 284, 89, []) else none))) else (bif Nat.blt k 95 then (bif Nat.blt k 92 then (bif Nat.beq k 89 then some (.putfield 204, 92, []) else none) else (bif Nat.beq k 92 then some (.iinc 3 1, 95, []) else none)) else (bif Nat.blt k 98 then (bif Nat.beq k 95 then some (.goto (-48), 98, [47]) else none) else (bif Nat.blt k 99 then (bif Nat.beq k 98 then some (.iconst 0, 99, []) else none) else (bif Nat.beq k 99 then some (.istore_n 3, 100, []) else none)))))) else (bif Nat.blt k 119 then (bif Nat.blt k 108 then (bif Nat.blt k 102 then (bif Nat.blt k 101 then (bif Nat.beq k 100 then some (.iload_n 3, 101, []) else none) else (bif Nat.beq k 101 then some (.aload_n 0, 102, []) else none)) else (bif Nat.blt k 105 then (bif Nat.beq k 102 then some (.invokevirtual 330, 105, []) else none) else (bif Nat.beq k 105 then some (.if_icmp .ge 29, 108, [134]) else none))) else (bif Nat.blt k 112 then (bif Nat.blt k 109 then (bif Nat.beq k 108 then some (.aload_n 0, 109, []) else none) else (bif Nat.beq k 109 then some (.getfield 37, 112, []) else none)) else (bif Nat.blt k 113 then (bif Nat.beq k 112 then some (.iload_n 3, 113, []) else none) else (bif Nat.blt k 116 then (bif Nat.beq k 113 then some (.invokevirtual 183, 116, []) else none) else (bif Nat.beq k 116 then some (.checkcast 294, 119, []) else none))))) else (bif Nat.blt k 125 then (bif Nat.blt k 123 then (bif Nat.blt k 120 then (bif Nat.beq k 119 then some (.aload_n 2, 120, []) else none) else (bif Nat.beq k 120 then some (.getfield 417, 123, []) else none)) else (bif Nat.blt k 124 then (bif Nat.beq k 123 then some (.iload_n 3, 124, []) else none) else (bif Nat.beq k 124 then some (.iaload, 125, []) else none))) else (bif Nat.blt k 131 then (bif Nat.blt k 128 then (bif Nat.beq k 125 then some (.putfield 310, 128, []) else none) else (bif Nat.beq k 128 then some (.iinc 3 1, 131, []) else none)) else (bif Nat.blt k 134 then (bif Nat.beq k 131 then some (.goto (-31), 134, [100]) else none) else (bif Nat.blt k 135 then (bif Nat.beq k 134 then some (.iconst 1, 135, []) else none) else (bif Nat.beq k 135 then some (.ireturn, 136, []) else none)))))))) else none
noncomputable def P_C_again : MP := (T_C_again, (fun k => mLook k [(19, (12, 1, (.object "ClothWithMan$Cloth"), true)), (33, (12, 4, (.object "java/util/ArrayList"), true)), (37, (12, 5, (.object "java/util/ArrayList"), true)), (60, (12, 10, (.array (.object "ClothWithMan$Kept")), true)), (71, (12, 12, .int, false)), (122, (1, 1, .int, false)), (201, (7, 5, .int, false)), (204, (7, 4, .boolean, false)), (310, (9, 1, .int, false)), (407, (4, 0, .int, false)), (408, (4, 1, .int, false)), (412, (4, 2, .int, false)), (415, (4, 3, (.array .int), true)), (417, (4, 4, (.array .int), true))]), (fun k => mLook k []), (fun k => mLook k [(145, E_C_isIn), (183, E_AL_get), (281, E_C_pieceCount), (284, E_C_has), (330, E_C_storyCount)]), (fun k => mLook k []), (fun k => mLook k []), (fun k => mLook k [(168, 7), (294, 9)]), (fun k => mLook k [(47, [true, false, true, true, false]), (92, [true, false, true, true, false]), (100, [true, false, true, true, false])]), (fun k => [25, 135].any (Nat.beq k)), (6, 121, 0, 0), false, (fun _ => none))
set_option maxRecDepth 100000 in
set_option maxHeartbeats 4000000 in
theorem q_C_again_e (a1 : Int32) (σ : MSto) (n : Nat) : mexe KT P_C_again (n + 1) (0, [some (mR 12 0), some (mI a1), none, none, none], [], σ, 0, 0) = mIf ((v_C_isIn a1 0 2 σ) = 0) (some (25, [], [(mI 0)], σ, 0, 0)) (mG (vp_in a1 3) (mO (gR σ 25 0 (Int32.toNatClampNeg a1)) (some (25, [], [(mI 0)], σ, 0, 0)) (fun z1 => mexe KT P_C_again n (47, [some (mR 12 0), none, some (mR 4 z1), some (mI 0), none], [], (sI (sI σ 1 0 1 (gI σ 4 z1 0)) 12 0 12 (gI (sI σ 1 0 1 (gI σ 4 z1 0)) 4 z1 1)), 0, 0)))) := rfl
set_option maxRecDepth 100000 in
set_option maxHeartbeats 4000000 in
theorem q_C_again_47 (r2 : Nat) (x3 : Int32) (σ : MSto) (n : Nat) : mexe KT P_C_again (n + 1) (47, [some (mR 12 0), none, some (mR 4 r2), some (mI x3), none], [], σ, 0, 0) = mIf ((v_C_pieceCount σ) ≤ x3) (mexe KT P_C_again n (100, [some (mR 12 0), none, some (mR 4 r2), some (mI 0), none], [], σ, 0, 0)) (mG (p_AL_get 14 0 x3 σ) (mG (vp_in x3 12) (mG (vp_nar .boolean (v_C_has (gI (sI σ 7 (v_AL_get 14 0 x3 σ) 5 (gI σ 39 r2 (Int32.toNatClampNeg x3))) 4 r2 2) x3 (sI σ 7 (v_AL_get 14 0 x3 σ) 5 (gI σ 39 r2 (Int32.toNatClampNeg x3)))) = (v_C_has (gI (sI σ 7 (v_AL_get 14 0 x3 σ) 5 (gI σ 39 r2 (Int32.toNatClampNeg x3))) 4 r2 2) x3 (sI σ 7 (v_AL_get 14 0 x3 σ) 5 (gI σ 39 r2 (Int32.toNatClampNeg x3))))) (mexe KT P_C_again n (92, [some (mR 12 0), none, some (mR 4 r2), some (mI x3), none], [], (sI (sI σ 7 (v_AL_get 14 0 x3 σ) 5 (gI σ 39 r2 (Int32.toNatClampNeg x3))) 7 (v_AL_get 14 0 x3 σ) 4 (v_C_has (gI (sI σ 7 (v_AL_get 14 0 x3 σ) 5 (gI σ 39 r2 (Int32.toNatClampNeg x3))) 4 r2 2) x3 (sI σ 7 (v_AL_get 14 0 x3 σ) 5 (gI σ 39 r2 (Int32.toNatClampNeg x3))))), 0, 0))))) := rfl
set_option maxRecDepth 100000 in
set_option maxHeartbeats 4000000 in
theorem q_C_again_92 (r2 : Nat) (x3 : Int32) (σ : MSto) (n : Nat) : mexe KT P_C_again (n + 1) (92, [some (mR 12 0), none, some (mR 4 r2), some (mI x3), none], [], σ, 0, 0) = mexe KT P_C_again n (47, [some (mR 12 0), none, some (mR 4 r2), some (mI (x3 + 1)), none], [], σ, 0, 0) := rfl
set_option maxRecDepth 100000 in
set_option maxHeartbeats 4000000 in
theorem q_C_again_100 (r2 : Nat) (x3 : Int32) (σ : MSto) (n : Nat) : mexe KT P_C_again (n + 1) (100, [some (mR 12 0), none, some (mR 4 r2), some (mI x3), none], [], σ, 0, 0) = mIf ((v_C_storyCount σ) ≤ x3) (some (135, [], [(mI 1)], σ, 0, 0)) (mG (p_AL_get 15 0 x3 σ) (mG (vp_in x3 6) (mexe KT P_C_again n (100, [some (mR 12 0), none, some (mR 4 r2), some (mI (x3 + 1)), none], [], (sI σ 9 (v_AL_get 15 0 x3 σ) 1 (gI σ 40 r2 (Int32.toNatClampNeg x3))), 0, 0)))) := rfl
set_option maxRecDepth 100000 in
theorem lt_C_again_100 {Post : MST → Prop} (r2 : Nat) (c : Int32) (s : MSto) (hp : g_C_again_100 r2 c s) (hq : ¬ q_C_again_100s r2 c s = 1) (hn : ∀ r, t_C_again_100 r2 c s = r → mW1 P_C_again (100, [some (mR 12 0), none, some (mR 4 r2), some (mI (c + 1)), none], [], r, 0, 0) Post) : mW1 P_C_again (100, [some (mR 12 0), none, some (mR 4 r2), some (mI c), none], [], s, 0, 0) Post := by
  unfold g_C_again_100 at hp
  refine mW1_eq (q_C_again_100 _ _ _) ?_
  refine mTr_if (fun h0 => ?_) (fun h0 => ?_)
  · skip
    exact absurd (if_pos h0) hq
  · skip
    have hp := hp h0
    refine mTr_g hp.1 ?_
    have hp := hp.2
    refine mTr_g hp ?_
    exact mTr_k (hn (sI s 9 (v_AL_get 15 0 c s) 1 (gI s 40 r2 (Int32.toNatClampNeg c))) (if_neg h0))
theorem lp_C_again_100 {Post : MST → Prop} (r2 : Nat) (c0 : Int32) (s0 : MSto) (N : Nat) (hb : ∀ i, i < N → g_C_again_100 r2 (c0 + nI i) (f_C_again_100 r2 c0 s0 i) ∧ ¬ q_C_again_100s r2 (c0 + nI i) (f_C_again_100 r2 c0 s0 i) = 1) (h : mW1 P_C_again (100, [some (mR 12 0), none, some (mR 4 r2), some (mI (c0 + nI N)), none], [], (f_C_again_100 r2 c0 s0 N), 0, 0) Post) : mW1 P_C_again (100, [some (mR 12 0), none, some (mR 4 r2), some (mI c0), none], [], s0, 0, 0) Post := by
  refine mW1_st (mW1_loop (fun i => (100, [some (mR 12 0), none, some (mR 4 r2), some (mI (c0 + nI i)), none], [], (f_C_again_100 r2 c0 s0 i), 0, 0)) N (fun i hlt hn => ?_) h) (by rw [show nI 0 = 0 from rfl, Int32.add_zero] <;> rfl)
  refine lt_C_again_100 r2 _ _ (hb i hlt).1 (hb i hlt).2 (fun r hr => ?_)
  rw [Int32.add_assoc, nI_s]
  subst hr
  exact hn
set_option maxRecDepth 100000 in
theorem lj_C_again_47j92 {Post : MST → Prop} (r2 : Nat) (x3 : Int32) (σ : MSto) (s : MSto) (hq : ¬ 0 = 1) (hn : ∀ r, tj_C_again_47j92 r2 x3 σ s = r → mW1 P_C_again (47, [some (mR 12 0), none, some (mR 4 r2), some (mI (x3 + 1)), none], [], r, 0, 0) Post) : mW1 P_C_again (92, [some (mR 12 0), none, some (mR 4 r2), some (mI x3), none], [], σ, 0, 0) Post := by
  refine mW1_eq (q_C_again_92 _ _ _) ?_
  exact mTr_k (hn σ (rfl))
set_option maxRecDepth 100000 in
theorem lt_C_again_47 {Post : MST → Prop} (r2 : Nat) (c : Int32) (s : MSto) (hp : g_C_again_47 r2 c s) (hq : ¬ q_C_again_47s r2 c s = 1) (hn : ∀ r, t_C_again_47 r2 c s = r → mW1 P_C_again (47, [some (mR 12 0), none, some (mR 4 r2), some (mI (c + 1)), none], [], r, 0, 0) Post) : mW1 P_C_again (47, [some (mR 12 0), none, some (mR 4 r2), some (mI c), none], [], s, 0, 0) Post := by
  unfold g_C_again_47 at hp
  refine mW1_eq (q_C_again_47 _ _ _) ?_
  refine mTr_if (fun h0 => ?_) (fun h0 => ?_)
  · skip
    exact absurd (if_pos h0) hq
  · skip
    have hp := hp h0
    refine mTr_g hp.1 ?_
    have hp := hp.2
    refine mTr_g hp.1 ?_
    have hp := hp.2
    refine mTr_g hp ?_
    exact mTr_k (lj_C_again_47j92 r2 c (sI (sI s 7 (v_AL_get 14 0 c s) 5 (gI s 39 r2 (Int32.toNatClampNeg c))) 7 (v_AL_get 14 0 c s) 4 (v_C_has (gI (sI s 7 (v_AL_get 14 0 c s) 5 (gI s 39 r2 (Int32.toNatClampNeg c))) 4 r2 2) c (sI s 7 (v_AL_get 14 0 c s) 5 (gI s 39 r2 (Int32.toNatClampNeg c))))) s (fun z => hq ((if_neg h0).trans z)) (fun r zr => hn r ((if_neg h0).trans zr)))
theorem lp_C_again_47 {Post : MST → Prop} (r2 : Nat) (c0 : Int32) (s0 : MSto) (N : Nat) (hb : ∀ i, i < N → g_C_again_47 r2 (c0 + nI i) (f_C_again_47 r2 c0 s0 i) ∧ ¬ q_C_again_47s r2 (c0 + nI i) (f_C_again_47 r2 c0 s0 i) = 1) (h : mW1 P_C_again (47, [some (mR 12 0), none, some (mR 4 r2), some (mI (c0 + nI N)), none], [], (f_C_again_47 r2 c0 s0 N), 0, 0) Post) : mW1 P_C_again (47, [some (mR 12 0), none, some (mR 4 r2), some (mI c0), none], [], s0, 0, 0) Post := by
  refine mW1_st (mW1_loop (fun i => (47, [some (mR 12 0), none, some (mR 4 r2), some (mI (c0 + nI i)), none], [], (f_C_again_47 r2 c0 s0 i), 0, 0)) N (fun i hlt hn => ?_) h) (by rw [show nI 0 = 0 from rfl, Int32.add_zero] <;> rfl)
  refine lt_C_again_47 r2 _ _ (hb i hlt).1 (hb i hlt).2 (fun r hr => ?_)
  rw [Int32.add_assoc, nI_s]
  subst hr
  exact hn
set_option maxRecDepth 100000 in
set_option maxHeartbeats 4000000 in
theorem d_C_again (a1 : Int32) (σ : MSto) (hp : p_C_again a1 σ) : mW1 P_C_again (0, [some (mR 12 0), some (mI a1), none, none, none], [], σ, 0, 0) (mF [25, 135] [mI (v_C_again a1 σ)] (e_C_again a1 σ) 0 0) := by
  refine mW1_eq (q_C_again_e _ _) ?_
  unfold p_C_again at hp
  unfold v_C_again
  refine mTr_if (fun h0 => ?_) (fun h0 => ?_)
  · skip
    exact mTr_e (by decide) (bI_F (if_pos h0)) (Eq.symm (if_pos h0)) (by decide) (by decide)
  · skip
    have hp := hp h0
    refine mTr_g hp.1 ?_
    have hp := hp.2
    refine mTr_o (fun h1 => ?_) (fun z1 h1 => ?_)
    · skip
      exact mTr_e (by decide) (bI_F ((if_neg h0).trans (mO_en h1))) (Eq.symm ((if_neg h0).trans (mO_en h1))) (by decide) (by decide)
    · skip
      have hp := hp z1 h1
      refine mTr_k (lp_C_again_47 z1 0 (sI (sI σ 1 0 1 (gI σ 4 z1 0)) 12 0 12 (gI (sI σ 1 0 1 (gI σ 4 z1 0)) 4 z1 1)) (n_C_again_47 z1 0 (sI (sI σ 1 0 1 (gI σ 4 z1 0)) 12 0 12 (gI (sI σ 1 0 1 (gI σ 4 z1 0)) 4 z1 1))) hp.1 ?_)
      have hp := hp.2
      refine mW1_eq (q_C_again_47 _ _ _) ?_
      refine mTr_if (fun h2 => ?_) (fun h2 => ?_)
      · skip
        have hp := hp.1 h2
        refine mTr_k (lp_C_again_100 z1 0 (f_C_again_47 z1 0 (sI (sI σ 1 0 1 (gI σ 4 z1 0)) 12 0 12 (gI (sI σ 1 0 1 (gI σ 4 z1 0)) 4 z1 1)) (n_C_again_47 z1 0 (sI (sI σ 1 0 1 (gI σ 4 z1 0)) 12 0 12 (gI (sI σ 1 0 1 (gI σ 4 z1 0)) 4 z1 1)))) (n_C_again_100 z1 0 (f_C_again_47 z1 0 (sI (sI σ 1 0 1 (gI σ 4 z1 0)) 12 0 12 (gI (sI σ 1 0 1 (gI σ 4 z1 0)) 4 z1 1)) (n_C_again_47 z1 0 (sI (sI σ 1 0 1 (gI σ 4 z1 0)) 12 0 12 (gI (sI σ 1 0 1 (gI σ 4 z1 0)) 4 z1 1))))) hp.1 ?_)
        have hp := hp.2
        refine mW1_eq (q_C_again_100 _ _ _) ?_
        refine mTr_if (fun h3 => ?_) (fun h3 => ?_)
        · skip
          exact mTr_e (by decide) (bI_T ((if_neg h0).trans (mO_es h1))) (Eq.symm ((if_neg h0).trans (mO_es h1))) (by decide) (by decide)
        · skip
          have hp := hp h3
          exact hp.elim
      · skip
        have hp := hp.2 h2
        exact hp.elim





theorem tk_C_again : ∀ pc i nx tg, T_C_again pc = some (i, nx, tg) → mOkB prog_1_method_50_code pc i nx tg = true := code_ok (N := 136) (fun k h => by unfold T_C_again; rw [h]; rfl) (by decide +kernel)
theorem ok_C_again (l : Launch) : mPOK l "ClothWithMan" prog_1_method_50_code P_C_again := by
  refine ⟨tk_C_again, ?_, ?_, ?_, (fun pc i nx tg kd _ h => by cases h), ?_, ?_, fun pc en h => by cases h⟩
  · intro x ci f ty fin h
    exact mLook_all (Q := fun x v => mFOK "ClothWithMan" x v.1 v.2.1 v.2.2.1 v.2.2.2 ∧ (v.2.2.2 = true → pIni P_C_again = true → (Cond.fieldLink "ClothWithMan" x (((mCl[v.1]?).getD ("", fun _ => ("", "", "", false), 0)).2.1 v.2.1).1 (((mCl[v.1]?).getD ("", fun _ => ("", "", "", false), 0)).2.1 v.2.1).2.1 (((mCl[v.1]?).getD ("", fun _ => ("", "", "", false), 0)).2.1 v.2.1).2.2.1 ∈ lw_tbl ∧ (((mCl[v.1]?).getD ("", fun _ => ("", "", "", false), 0)).2.1 v.2.1).1 = "ClothWithMan"))) (fcC ⟨fo_C_19, fun h1 h2 => by cases h2⟩ (fcC ⟨fo_C_33, fun h1 h2 => by cases h2⟩ (fcC ⟨fo_C_37, fun h1 h2 => by cases h2⟩ (fcC ⟨fo_C_60, fun h1 h2 => by cases h2⟩ (fcC ⟨fo_C_71, fun h1 h2 => by cases h1⟩ (fcC ⟨fo_C_122, fun h1 h2 => by cases h1⟩ (fcC ⟨fo_C_201, fun h1 h2 => by cases h1⟩ (fcC ⟨fo_C_204, fun h1 h2 => by cases h1⟩ (fcC ⟨fo_C_310, fun h1 h2 => by cases h1⟩ (fcC ⟨fo_C_407, fun h1 h2 => by cases h1⟩ (fcC ⟨fo_C_408, fun h1 h2 => by cases h1⟩ (fcC ⟨fo_C_412, fun h1 h2 => by cases h1⟩ (fcC ⟨fo_C_415, fun h1 h2 => by cases h2⟩ (fcC ⟨fo_C_417, fun h1 h2 => by cases h2⟩ fcN)))))))))))))) x (ci, f, ty, fin) h
  · intro x
    have hh := mLook_all (l := ([] : List (Nat × (Int32 ⊕ Int64)))) (Q := fun x (v : Int32 ⊕ Int64) => (∀ w, v = .inl w → Cond.constant "ClothWithMan" x w ∈ lw_tbl) ∧ (∀ w, v = .inr w → Cond.constantLong "ClothWithMan" x w ∈ lw_tbl)) fcN x
    exact ⟨fun w h => (hh _ h).1 w rfl, fun w h => (hh _ h).2 w rfl⟩
  · exact fun x en h => mLook_all (Q := fun x en => mLink "ClothWithMan" x en ∧ mCtr l en ∧ (en.1.1 = 2 → en.2.2.2.2.2.2 = none)) (fcC ⟨li_C_145, c_C_isIn l, (fun h => by cases h)⟩ (fcC ⟨li_C_183, c_AL_get l, (fun h => by cases h)⟩ (fcC ⟨li_C_281, c_C_pieceCount l, (fun h => by cases h)⟩ (fcC ⟨li_C_284, c_C_has l, (fun h => by cases h)⟩ (fcC ⟨li_C_330, c_C_storyCount l, (fun h => by cases h)⟩ fcN))))) x en h
  · exact fun x kd h => mLook_all (Q := fun x kd => (kd = 95 ∧ Cond.fieldLink "ClothWithMan" x "ClothWithMan" "LIKENESSES" "[I" ∈ lw_tbl) ∨ (kd = 96 ∧ Cond.fieldLink "ClothWithMan" x "ClothWithMan" "APART_BOUNDS" "[I" ∈ lw_tbl)) fcN x kd h
  · exact fun x ci h => mLook_all (Q := fun x ci => ci ≠ 0 ∧ ∃ (C : String) (T : u_T) (N : Nat), mCl[ci]? = some (C, T, N) ∧ Cond.classLink "ClothWithMan" x C ∈ lw_tbl ∧ Cond.instantiable C N ∈ lw_tbl) (fcC ⟨by decide, "ClothWithMan$Piece", TX6, 6, rfl, tw_3_6, tw_3_7⟩ (fcC ⟨by decide, "ClothWithMan$Story", TX8, 9, rfl, tw_3_215, tw_3_216⟩ fcN)) x ci h
set_option maxRecDepth 100000 in
theorem c_C_again (l : Launch) : mCtr l E_C_again := mCtr_of (P := P_C_again) (own := "ClothWithMan") mLay_ok rfl (by decide +kernel) rfl (ok_C_again l) (fun h => by cases h) (fun as σ pr rv σ' hF hpr hlv => by
  unfold E_C_again S_C_again at hF
  simp only [] at hF
  split at hF
  · cases hF
    obtain ⟨n, pcF, c1, s1, g1, g2, g3, g4⟩ := mF_inv (d_C_again _ σ (hpr _ rfl))
    exact ⟨Nat.le_of_ble_eq_true rfl, (fun v h => by cases h; trivial), n, pcF, c1, s1, g1, ⟨mEnd_of (i := .ireturn) (P := P_C_again) (rets := [25, 135]) rfl g2, bI_narrow _⟩, g3, g4⟩
  · cases hF
    exact (hpr _ rfl).elim)
/-! ClothWithMan.told(I)I -/
noncomputable def v_C_told (a1 : Int32) (σ : MSto) : Int32 := (if a1 = 0 then (gI σ 2 0 1) else (if a1 = 1 then (v_AL_size 17 0 σ) else (if a1 = 2 then (v_AL_size 18 0 σ) else (if a1 = 3 then (v_AL_size 14 0 σ) else (if a1 = 4 then (v_C_countedBits σ) else (if a1 = 5 then (v_AL_size 15 0 σ) else (if a1 = 6 then (v_AL_size 16 0 σ) else (if a1 = 7 then (v_C_allLikes σ) else (if a1 = 8 then (gI σ 8 0 1) else (if a1 = 9 then (gI σ 10 0 1) else (if a1 = 10 then (gI σ 1 0 1) else (-1))))))))))))
def p_C_told (a1 : Int32) (σ : MSto) : Prop := (¬ (a1 = 0) → (¬ (a1 = 1) → (¬ (a1 = 2) → (¬ (a1 = 3) → (((a1 = 4) → (p_C_countedBits σ)) ∧ (¬ (a1 = 4) → (¬ (a1 = 5) → (¬ (a1 = 6) → ((a1 = 7) → (p_C_allLikes σ))))))))))
noncomputable def S_C_told : List MV → MSto → Option Prop × Option MV × MSto := fun as σ => match as with
  | [.inr (.inr (some (12, 0))), .inl a0] => (some (p_C_told a0 σ), some (mI (v_C_told a0 σ)), σ)
  | _ => (some False, none, σ)
noncomputable def E_C_told : MEnt := ((1, 1, 12), (7, 143, 0, 0), S_C_told, ((⟨"ClothWithMan", "told", "(I)I"⟩ : MethodName), prog_1_method_51_code, 2, (some .int)))

def T_C_told : Nat → Option (Instr × Nat × List Nat) := fun k => bif Nat.blt k 153 then (bif Nat.blt k 106 then (bif Nat.blt k 82 then (bif Nat.blt k 70 then (bif Nat.blt k 61 then (bif Nat.blt k 1 then (bif Nat.beq k 0 then some (.iload_n 1, 1, []) else none) else (bif Nat.blt k 60 then (bif Nat.beq k 1 then some (.tableswitch 150 0 10 #[59, 70, 81, 92, 100, 105, 113, 121, 126, 134, 142], 60, [151, 60, 71, 82, 93, 101, 106, 114, 122, 127, 135, 143]) else none) else (bif Nat.beq k 60 then some (.aload_n 0, 61, []) else none))) else (bif Nat.blt k 64 then (bif Nat.beq k 61 then some (.getfield 19, 64, []) else none) else (bif Nat.blt k 67 then (bif Nat.beq k 64 then some (.getfield 106, 67, []) else none) else (bif Nat.beq k 67 then some (.getfield 420, 70, []) else none)))) else (bif Nat.blt k 75 then (bif Nat.blt k 71 then (bif Nat.beq k 70 then some (.ireturn, 71, []) else none) else (bif Nat.blt k 72 then (bif Nat.beq k 71 then some (.aload_n 0, 72, []) else none) else (bif Nat.beq k 72 then some (.getfield 19, 75, []) else none))) else (bif Nat.blt k 78 then (bif Nat.beq k 75 then some (.getfield 129, 78, []) else none) else (bif Nat.blt k 81 then (bif Nat.beq k 78 then some (.invokevirtual 132, 81, []) else none) else (bif Nat.beq k 81 then some (.ireturn, 82, []) else none))))) else (bif Nat.blt k 94 then (bif Nat.blt k 89 then (bif Nat.blt k 83 then (bif Nat.beq k 82 then some (.aload_n 0, 83, []) else none) else (bif Nat.blt k 86 then (bif Nat.beq k 83 then some (.getfield 19, 86, []) else none) else (bif Nat.beq k 86 then some (.getfield 148, 89, []) else none))) else (bif Nat.blt k 92 then (bif Nat.beq k 89 then some (.invokevirtual 132, 92, []) else none) else (bif Nat.blt k 93 then (bif Nat.beq k 92 then some (.ireturn, 93, []) else none) else (bif Nat.beq k 93 then some (.aload_n 0, 94, []) else none)))) else (bif Nat.blt k 101 then (bif Nat.blt k 97 then (bif Nat.beq k 94 then some (.getfield 33, 97, []) else none) else (bif Nat.blt k 100 then (bif Nat.beq k 97 then some (.invokevirtual 132, 100, []) else none) else (bif Nat.beq k 100 then some (.ireturn, 101, []) else none))) else (bif Nat.blt k 102 then (bif Nat.beq k 101 then some (.aload_n 0, 102, []) else none) else (bif Nat.blt k 105 then (bif Nat.beq k 102 then some (.invokevirtual 409, 105, []) else none) else (bif Nat.beq k 105 then some (.ireturn, 106, []) else none)))))) else (bif Nat.blt k 128 then (bif Nat.blt k 118 then (bif Nat.blt k 113 then (bif Nat.blt k 107 then (bif Nat.beq k 106 then some (.aload_n 0, 107, []) else none) else (bif Nat.blt k 110 then (bif Nat.beq k 107 then some (.getfield 37, 110, []) else none) else (bif Nat.beq k 110 then some (.invokevirtual 132, 113, []) else none))) else (bif Nat.blt k 114 then (bif Nat.beq k 113 then some (.ireturn, 114, []) else none) else (bif Nat.blt k 115 then (bif Nat.beq k 114 then some (.aload_n 0, 115, []) else none) else (bif Nat.beq k 115 then some (.getfield 40, 118, []) else none)))) else (bif Nat.blt k 123 then (bif Nat.blt k 121 then (bif Nat.beq k 118 then some (.invokevirtual 132, 121, []) else none) else (bif Nat.blt k 122 then (bif Nat.beq k 121 then some (.ireturn, 122, []) else none) else (bif Nat.beq k 122 then some (.aload_n 0, 123, []) else none))) else (bif Nat.blt k 126 then (bif Nat.beq k 123 then some (.invokevirtual 369, 126, []) else none) else (bif Nat.blt k 127 then (bif Nat.beq k 126 then some (.ireturn, 127, []) else none) else (bif Nat.beq k 127 then some (.aload_n 0, 128, []) else none))))) else (bif Nat.blt k 142 then (bif Nat.blt k 135 then (bif Nat.blt k 131 then (bif Nat.beq k 128 then some (.getfield 67, 131, []) else none) else (bif Nat.blt k 134 then (bif Nat.beq k 131 then some (.getfield 423, 134, []) else none) else (bif Nat.beq k 134 then some (.ireturn, 135, []) else none))) else (bif Nat.blt k 136 then (bif Nat.beq k 135 then some (.aload_n 0, 136, []) else none) else (bif Nat.blt k 139 then (bif Nat.beq k 136 then some (.getfield 10, 139, []) else none) else (bif Nat.beq k 139 then some (.getfield 425, 142, []) else none)))) else (bif Nat.blt k 147 then (bif Nat.blt k 143 then (bif Nat.beq k 142 then some (.ireturn, 143, []) else none) else (bif Nat.blt k 144 then (bif Nat.beq k 143 then some (.aload_n 0, 144, []) else none) else (bif Nat.beq k 144 then some (.getfield 19, 147, []) else none))) else (bif Nat.blt k 151 then (bif Nat.blt k 150 then (bif Nat.beq k 147 then some (.getfield 122, 150, []) else none) else (bif Nat.beq k 150 then some (.ireturn, 151, []) else none)) else (bif Nat.blt k 152 then (bif Nat.beq k 151 then some (.iconst (-1), 152, []) else none) else (bif Nat.beq k 152 then some (.ireturn, 153, []) else none))))))) else none
noncomputable def P_C_told : MP := (T_C_told, (fun k => mLook k [(10, (12, 0, (.object "ClothWithMan$Text"), true)), (19, (12, 1, (.object "ClothWithMan$Cloth"), true)), (33, (12, 4, (.object "java/util/ArrayList"), true)), (37, (12, 5, (.object "java/util/ArrayList"), true)), (40, (12, 6, (.object "java/util/ArrayList"), true)), (67, (12, 11, (.object "ClothWithMan$Row"), true)), (106, (1, 0, (.object "ClothWithMan$Curve"), true)), (122, (1, 1, .int, false)), (129, (1, 2, (.object "java/util/ArrayList"), true)), (148, (1, 3, (.object "java/util/ArrayList"), true)), (420, (2, 1, .int, false)), (423, (8, 1, .int, false)), (425, (10, 1, .int, false))]), (fun k => mLook k []), (fun k => mLook k [(132, E_AL_size), (369, E_C_allLikes), (409, E_C_countedBits)]), (fun k => mLook k []), (fun k => mLook k []), (fun k => mLook k []), (fun k => mLook k []), (fun k => [70, 81, 92, 100, 105, 113, 121, 126, 134, 142, 150, 152].any (Nat.beq k)), (7, 143, 0, 0), false, (fun _ => none))
set_option maxRecDepth 100000 in
set_option maxHeartbeats 4000000 in
theorem q_C_told_e (a1 : Int32) (σ : MSto) (n : Nat) : mexe KT P_C_told (n + 1) (0, [some (mR 12 0), some (mI a1)], [], σ, 0, 0) = mIf (a1 = 0) (some (70, [], [(mI (gI σ 2 0 1))], σ, 0, 0)) (mIf (a1 = 1) (some (81, [], [(mI (v_AL_size 17 0 σ))], σ, 0, 0)) (mIf (a1 = 2) (some (92, [], [(mI (v_AL_size 18 0 σ))], σ, 0, 0)) (mIf (a1 = 3) (some (100, [], [(mI (v_AL_size 14 0 σ))], σ, 0, 0)) (mIf (a1 = 4) (mG (p_C_countedBits σ) (some (105, [], [(mI (v_C_countedBits σ))], σ, 0, 0))) (mIf (a1 = 5) (some (113, [], [(mI (v_AL_size 15 0 σ))], σ, 0, 0)) (mIf (a1 = 6) (some (121, [], [(mI (v_AL_size 16 0 σ))], σ, 0, 0)) (mIf (a1 = 7) (mG (p_C_allLikes σ) (some (126, [], [(mI (v_C_allLikes σ))], σ, 0, 0))) (mIf (a1 = 8) (some (134, [], [(mI (gI σ 8 0 1))], σ, 0, 0)) (mIf (a1 = 9) (some (142, [], [(mI (gI σ 10 0 1))], σ, 0, 0)) (mIf (a1 = 10) (some (150, [], [(mI (gI σ 1 0 1))], σ, 0, 0)) (some (152, [], [(mI (-1))], σ, 0, 0)))))))))))) := rfl
set_option maxRecDepth 100000 in
set_option maxHeartbeats 4000000 in
theorem d_C_told (a1 : Int32) (σ : MSto) (hp : p_C_told a1 σ) : mW1 P_C_told (0, [some (mR 12 0), some (mI a1)], [], σ, 0, 0) (mF [70, 81, 92, 100, 105, 113, 121, 126, 134, 142, 150, 152] [mI (v_C_told a1 σ)] σ 0 0) := by
  refine mW1_eq (q_C_told_e _ _) ?_
  unfold p_C_told at hp
  refine mTr_if (fun h0 => ?_) (fun h0 => ?_)
  · skip
    exact mTr_e (by decide) (congrArg (fun z => [mI z]) (Eq.symm (if_pos h0))) rfl (by decide) (by decide)
  · skip
    have hp := hp h0
    refine mTr_if (fun h1 => ?_) (fun h1 => ?_)
    · skip
      exact mTr_e (by decide) (congrArg (fun z => [mI z]) (Eq.symm ((if_neg h0).trans (if_pos h1)))) rfl (by decide) (by decide)
    · skip
      have hp := hp h1
      refine mTr_if (fun h2 => ?_) (fun h2 => ?_)
      · skip
        exact mTr_e (by decide) (congrArg (fun z => [mI z]) (Eq.symm ((if_neg h0).trans ((if_neg h1).trans (if_pos h2))))) rfl (by decide) (by decide)
      · skip
        have hp := hp h2
        refine mTr_if (fun h3 => ?_) (fun h3 => ?_)
        · skip
          exact mTr_e (by decide) (congrArg (fun z => [mI z]) (Eq.symm ((if_neg h0).trans ((if_neg h1).trans ((if_neg h2).trans (if_pos h3)))))) rfl (by decide) (by decide)
        · skip
          have hp := hp h3
          refine mTr_if (fun h4 => ?_) (fun h4 => ?_)
          · skip
            have hp := hp.1 h4
            refine mTr_g hp ?_
            exact mTr_e (by decide) (congrArg (fun z => [mI z]) (Eq.symm ((if_neg h0).trans ((if_neg h1).trans ((if_neg h2).trans ((if_neg h3).trans (if_pos h4))))))) rfl (by decide) (by decide)
          · skip
            have hp := hp.2 h4
            refine mTr_if (fun h5 => ?_) (fun h5 => ?_)
            · skip
              exact mTr_e (by decide) (congrArg (fun z => [mI z]) (Eq.symm ((if_neg h0).trans ((if_neg h1).trans ((if_neg h2).trans ((if_neg h3).trans ((if_neg h4).trans (if_pos h5)))))))) rfl (by decide) (by decide)
            · skip
              have hp := hp h5
              refine mTr_if (fun h6 => ?_) (fun h6 => ?_)
              · skip
                exact mTr_e (by decide) (congrArg (fun z => [mI z]) (Eq.symm ((if_neg h0).trans ((if_neg h1).trans ((if_neg h2).trans ((if_neg h3).trans ((if_neg h4).trans ((if_neg h5).trans (if_pos h6))))))))) rfl (by decide) (by decide)
              · skip
                have hp := hp h6
                refine mTr_if (fun h7 => ?_) (fun h7 => ?_)
                · skip
                  have hp := hp h7
                  refine mTr_g hp ?_
                  exact mTr_e (by decide) (congrArg (fun z => [mI z]) (Eq.symm ((if_neg h0).trans ((if_neg h1).trans ((if_neg h2).trans ((if_neg h3).trans ((if_neg h4).trans ((if_neg h5).trans ((if_neg h6).trans (if_pos h7)))))))))) rfl (by decide) (by decide)
                · skip
                  refine mTr_if (fun h8 => ?_) (fun h8 => ?_)
                  · skip
                    exact mTr_e (by decide) (congrArg (fun z => [mI z]) (Eq.symm ((if_neg h0).trans ((if_neg h1).trans ((if_neg h2).trans ((if_neg h3).trans ((if_neg h4).trans ((if_neg h5).trans ((if_neg h6).trans ((if_neg h7).trans (if_pos h8))))))))))) rfl (by decide) (by decide)
                  · skip
                    refine mTr_if (fun h9 => ?_) (fun h9 => ?_)
                    · skip
                      exact mTr_e (by decide) (congrArg (fun z => [mI z]) (Eq.symm ((if_neg h0).trans ((if_neg h1).trans ((if_neg h2).trans ((if_neg h3).trans ((if_neg h4).trans ((if_neg h5).trans ((if_neg h6).trans ((if_neg h7).trans ((if_neg h8).trans (if_pos h9)))))))))))) rfl (by decide) (by decide)
                    · skip
                      refine mTr_if (fun h10 => ?_) (fun h10 => ?_)
                      · skip
                        exact mTr_e (by decide) (congrArg (fun z => [mI z]) (Eq.symm ((if_neg h0).trans ((if_neg h1).trans ((if_neg h2).trans ((if_neg h3).trans ((if_neg h4).trans ((if_neg h5).trans ((if_neg h6).trans ((if_neg h7).trans ((if_neg h8).trans ((if_neg h9).trans (if_pos h10))))))))))))) rfl (by decide) (by decide)
                      · skip
                        exact mTr_e (by decide) (congrArg (fun z => [mI z]) (Eq.symm ((if_neg h0).trans ((if_neg h1).trans ((if_neg h2).trans ((if_neg h3).trans ((if_neg h4).trans ((if_neg h5).trans ((if_neg h6).trans ((if_neg h7).trans ((if_neg h8).trans ((if_neg h9).trans (if_neg h10))))))))))))) rfl (by decide) (by decide)



theorem tk_C_told : ∀ pc i nx tg, T_C_told pc = some (i, nx, tg) → mOkB prog_1_method_51_code pc i nx tg = true := code_ok (N := 153) (fun k h => by unfold T_C_told; rw [h]; rfl) (by decide +kernel)
theorem ok_C_told (l : Launch) : mPOK l "ClothWithMan" prog_1_method_51_code P_C_told := by
  refine ⟨tk_C_told, ?_, ?_, ?_, (fun pc i nx tg kd _ h => by cases h), ?_, ?_, fun pc en h => by cases h⟩
  · intro x ci f ty fin h
    exact mLook_all (Q := fun x v => mFOK "ClothWithMan" x v.1 v.2.1 v.2.2.1 v.2.2.2 ∧ (v.2.2.2 = true → pIni P_C_told = true → (Cond.fieldLink "ClothWithMan" x (((mCl[v.1]?).getD ("", fun _ => ("", "", "", false), 0)).2.1 v.2.1).1 (((mCl[v.1]?).getD ("", fun _ => ("", "", "", false), 0)).2.1 v.2.1).2.1 (((mCl[v.1]?).getD ("", fun _ => ("", "", "", false), 0)).2.1 v.2.1).2.2.1 ∈ lw_tbl ∧ (((mCl[v.1]?).getD ("", fun _ => ("", "", "", false), 0)).2.1 v.2.1).1 = "ClothWithMan"))) (fcC ⟨fo_C_10, fun h1 h2 => by cases h2⟩ (fcC ⟨fo_C_19, fun h1 h2 => by cases h2⟩ (fcC ⟨fo_C_33, fun h1 h2 => by cases h2⟩ (fcC ⟨fo_C_37, fun h1 h2 => by cases h2⟩ (fcC ⟨fo_C_40, fun h1 h2 => by cases h2⟩ (fcC ⟨fo_C_67, fun h1 h2 => by cases h2⟩ (fcC ⟨fo_C_106, fun h1 h2 => by cases h2⟩ (fcC ⟨fo_C_122, fun h1 h2 => by cases h1⟩ (fcC ⟨fo_C_129, fun h1 h2 => by cases h2⟩ (fcC ⟨fo_C_148, fun h1 h2 => by cases h2⟩ (fcC ⟨fo_C_420, fun h1 h2 => by cases h1⟩ (fcC ⟨fo_C_423, fun h1 h2 => by cases h1⟩ (fcC ⟨fo_C_425, fun h1 h2 => by cases h1⟩ fcN))))))))))))) x (ci, f, ty, fin) h
  · intro x
    have hh := mLook_all (l := ([] : List (Nat × (Int32 ⊕ Int64)))) (Q := fun x (v : Int32 ⊕ Int64) => (∀ w, v = .inl w → Cond.constant "ClothWithMan" x w ∈ lw_tbl) ∧ (∀ w, v = .inr w → Cond.constantLong "ClothWithMan" x w ∈ lw_tbl)) fcN x
    exact ⟨fun w h => (hh _ h).1 w rfl, fun w h => (hh _ h).2 w rfl⟩
  · exact fun x en h => mLook_all (Q := fun x en => mLink "ClothWithMan" x en ∧ mCtr l en ∧ (en.1.1 = 2 → en.2.2.2.2.2.2 = none)) (fcC ⟨li_C_132, c_AL_size l, (fun h => by cases h)⟩ (fcC ⟨li_C_369, c_C_allLikes l, (fun h => by cases h)⟩ (fcC ⟨li_C_409, c_C_countedBits l, (fun h => by cases h)⟩ fcN))) x en h
  · exact fun x kd h => mLook_all (Q := fun x kd => (kd = 95 ∧ Cond.fieldLink "ClothWithMan" x "ClothWithMan" "LIKENESSES" "[I" ∈ lw_tbl) ∨ (kd = 96 ∧ Cond.fieldLink "ClothWithMan" x "ClothWithMan" "APART_BOUNDS" "[I" ∈ lw_tbl)) fcN x kd h
  · exact fun x ci h => mLook_all (Q := fun x ci => ci ≠ 0 ∧ ∃ (C : String) (T : u_T) (N : Nat), mCl[ci]? = some (C, T, N) ∧ Cond.classLink "ClothWithMan" x C ∈ lw_tbl ∧ Cond.instantiable C N ∈ lw_tbl) fcN x ci h
set_option maxRecDepth 100000 in
theorem c_C_told (l : Launch) : mCtr l E_C_told := mCtr_of (P := P_C_told) (own := "ClothWithMan") mLay_ok rfl (by decide +kernel) rfl (ok_C_told l) (fun h => by cases h) (fun as σ pr rv σ' hF hpr hlv => by
  unfold E_C_told S_C_told at hF
  simp only [] at hF
  split at hF
  · cases hF
    obtain ⟨n, pcF, c1, s1, g1, g2, g3, g4⟩ := mF_inv (d_C_told _ σ (hpr _ rfl))
    exact ⟨Nat.le_of_ble_eq_true rfl, (fun v h => by cases h; trivial), n, pcF, c1, s1, g1, ⟨mEnd_of (i := .ireturn) (P := P_C_told) (rets := [70, 81, 92, 100, 105, 113, 121, 126, 134, 142, 150, 152]) rfl g2, rfl⟩, g3, g4⟩
  · cases hF
    exact (hpr _ rfl).elim)
/-! ClothWithMan.row(I)J -/
noncomputable def v_C_row (a1 : Int32) (σ : MSto) : Int64 := (gJ σ 38 0 (Int32.toNatClampNeg a1))
def p_C_row (a1 : Int32) (σ : MSto) : Prop := (((a1 < 0) → False) ∧ (¬ (a1 < 0) → (((a1 < (gI σ 8 0 1)) → (vp_in a1 20)) ∧ (¬ (a1 < (gI σ 8 0 1)) → False))))
noncomputable def S_C_row : List MV → MSto → Option Prop × Option MV × MSto := fun as σ => match as with
  | [.inr (.inr (some (12, 0))), .inl a0] => (some (p_C_row a0 σ), some (mJ (v_C_row a0 σ)), σ)
  | _ => (some False, none, σ)
noncomputable def E_C_row : MEnt := ((1, 1, 12), (0, 0, 0, 0), S_C_row, ((⟨"ClothWithMan", "row", "(I)J"⟩ : MethodName), prog_1_method_52_code, 2, (some .long)))

def T_C_row : Nat → Option (Instr × Nat × List Nat) := fun k => bif Nat.blt k 36 then (bif Nat.blt k 19 then (bif Nat.blt k 6 then (bif Nat.blt k 4 then (bif Nat.blt k 1 then (bif Nat.beq k 0 then some (.iload_n 1, 1, []) else none) else (bif Nat.beq k 1 then some (.ifCond .lt 14, 4, [15]) else none)) else (bif Nat.blt k 5 then (bif Nat.beq k 4 then some (.iload_n 1, 5, []) else none) else (bif Nat.beq k 5 then some (.aload_n 0, 6, []) else none))) else (bif Nat.blt k 12 then (bif Nat.blt k 9 then (bif Nat.beq k 6 then some (.getfield 67, 9, []) else none) else (bif Nat.beq k 9 then some (.getfield 423, 12, []) else none)) else (bif Nat.blt k 15 then (bif Nat.beq k 12 then some (.if_icmp .lt 14, 15, [26]) else none) else (bif Nat.blt k 18 then (bif Nat.beq k 15 then some (.new 176, 18, []) else none) else (bif Nat.beq k 18 then some (.dup, 19, []) else none))))) else (bif Nat.blt k 27 then (bif Nat.blt k 25 then (bif Nat.blt k 22 then (bif Nat.beq k 19 then some (.ldc_w 428, 22, []) else none) else (bif Nat.beq k 22 then some (.invokespecial 180, 25, []) else none)) else (bif Nat.blt k 26 then (bif Nat.beq k 25 then some (.athrow, 26, []) else none) else (bif Nat.beq k 26 then some (.aload_n 0, 27, []) else none))) else (bif Nat.blt k 33 then (bif Nat.blt k 30 then (bif Nat.beq k 27 then some (.getfield 67, 30, []) else none) else (bif Nat.beq k 30 then some (.getfield 430, 33, []) else none)) else (bif Nat.blt k 34 then (bif Nat.beq k 33 then some (.iload_n 1, 34, []) else none) else (bif Nat.blt k 35 then (bif Nat.beq k 34 then some (.laload, 35, []) else none) else (bif Nat.beq k 35 then some (.lreturn, 36, []) else none)))))) else none
noncomputable def P_C_row : MP := (T_C_row, (fun k => mLook k [(67, (12, 11, (.object "ClothWithMan$Row"), true)), (423, (8, 1, .int, false)), (430, (8, 0, (.array .long), true))]), (fun k => mLook k []), (fun k => mLook k []), (fun k => mLook k []), (fun k => mLook k []), (fun k => mLook k []), (fun k => mLook k []), (fun k => [25, 35].any (Nat.beq k)), (0, 0, 0, 0), false, (fun _ => none))
set_option maxRecDepth 100000 in
set_option maxHeartbeats 4000000 in
theorem q_C_row_e (a1 : Int32) (σ : MSto) (n : Nat) : mexe KT P_C_row (n + 1) (0, [some (mR 12 0), some (mI a1)], [], σ, 0, 0) = mIf (a1 < 0) (none) (mIf (a1 < (gI σ 8 0 1)) (mG (vp_in a1 20) (some (35, [], [(mJ (gJ σ 38 0 (Int32.toNatClampNeg a1)))], σ, 0, 0))) (none)) := rfl
set_option maxRecDepth 100000 in
set_option maxHeartbeats 4000000 in
theorem d_C_row (a1 : Int32) (σ : MSto) (hp : p_C_row a1 σ) : mW1 P_C_row (0, [some (mR 12 0), some (mI a1)], [], σ, 0, 0) (mF [35] [mJ (v_C_row a1 σ)] σ 0 0) := by
  refine mW1_eq (q_C_row_e _ _) ?_
  unfold p_C_row at hp
  refine mTr_if (fun h0 => ?_) (fun h0 => ?_)
  · skip
    have hp := hp.1 h0
    exact hp.elim
  · skip
    have hp := hp.2 h0
    refine mTr_if (fun h1 => ?_) (fun h1 => ?_)
    · skip
      have hp := hp.1 h1
      refine mTr_g hp ?_
      exact mTr_e (by decide) (congrArg (fun z => [mJ z]) (Eq.symm (rfl))) rfl (by decide) (by decide)
    · skip
      have hp := hp.2 h1
      exact hp.elim
theorem tk_C_row : ∀ pc i nx tg, T_C_row pc = some (i, nx, tg) → mOkB prog_1_method_52_code pc i nx tg = true := code_ok (N := 36) (fun k h => by unfold T_C_row; rw [h]; rfl) (by decide +kernel)
theorem ok_C_row (l : Launch) : mPOK l "ClothWithMan" prog_1_method_52_code P_C_row := by
  refine ⟨tk_C_row, ?_, ?_, ?_, (fun pc i nx tg kd _ h => by cases h), ?_, ?_, fun pc en h => by cases h⟩
  · intro x ci f ty fin h
    exact mLook_all (Q := fun x v => mFOK "ClothWithMan" x v.1 v.2.1 v.2.2.1 v.2.2.2 ∧ (v.2.2.2 = true → pIni P_C_row = true → (Cond.fieldLink "ClothWithMan" x (((mCl[v.1]?).getD ("", fun _ => ("", "", "", false), 0)).2.1 v.2.1).1 (((mCl[v.1]?).getD ("", fun _ => ("", "", "", false), 0)).2.1 v.2.1).2.1 (((mCl[v.1]?).getD ("", fun _ => ("", "", "", false), 0)).2.1 v.2.1).2.2.1 ∈ lw_tbl ∧ (((mCl[v.1]?).getD ("", fun _ => ("", "", "", false), 0)).2.1 v.2.1).1 = "ClothWithMan"))) (fcC ⟨fo_C_67, fun h1 h2 => by cases h2⟩ (fcC ⟨fo_C_423, fun h1 h2 => by cases h1⟩ (fcC ⟨fo_C_430, fun h1 h2 => by cases h2⟩ fcN))) x (ci, f, ty, fin) h
  · intro x
    have hh := mLook_all (l := ([] : List (Nat × (Int32 ⊕ Int64)))) (Q := fun x (v : Int32 ⊕ Int64) => (∀ w, v = .inl w → Cond.constant "ClothWithMan" x w ∈ lw_tbl) ∧ (∀ w, v = .inr w → Cond.constantLong "ClothWithMan" x w ∈ lw_tbl)) fcN x
    exact ⟨fun w h => (hh _ h).1 w rfl, fun w h => (hh _ h).2 w rfl⟩
  · exact fun x en h => mLook_all (Q := fun x en => mLink "ClothWithMan" x en ∧ mCtr l en ∧ (en.1.1 = 2 → en.2.2.2.2.2.2 = none)) fcN x en h
  · exact fun x kd h => mLook_all (Q := fun x kd => (kd = 95 ∧ Cond.fieldLink "ClothWithMan" x "ClothWithMan" "LIKENESSES" "[I" ∈ lw_tbl) ∨ (kd = 96 ∧ Cond.fieldLink "ClothWithMan" x "ClothWithMan" "APART_BOUNDS" "[I" ∈ lw_tbl)) fcN x kd h
  · exact fun x ci h => mLook_all (Q := fun x ci => ci ≠ 0 ∧ ∃ (C : String) (T : u_T) (N : Nat), mCl[ci]? = some (C, T, N) ∧ Cond.classLink "ClothWithMan" x C ∈ lw_tbl ∧ Cond.instantiable C N ∈ lw_tbl) fcN x ci h
set_option maxRecDepth 100000 in
theorem c_C_row (l : Launch) : mCtr l E_C_row := mCtr_of (P := P_C_row) (own := "ClothWithMan") mLay_ok rfl (by decide +kernel) rfl (ok_C_row l) (fun h => by cases h) (fun as σ pr rv σ' hF hpr hlv => by
  unfold E_C_row S_C_row at hF
  simp only [] at hF
  split at hF
  · cases hF
    obtain ⟨n, pcF, c1, s1, g1, g2, g3, g4⟩ := mF_inv (d_C_row _ σ (hpr _ rfl))
    exact ⟨Nat.le_of_ble_eq_true rfl, (fun v h => by cases h; trivial), n, pcF, c1, s1, g1, mEnd_of (i := .lreturn) (P := P_C_row) (rets := [35]) rfl g2, g3, g4⟩
  · cases hF
    exact (hpr _ rfl).elim)

