/-! java/lang/Math.abs(J)J -/
def v_Ma_absJ (a : Int64) (σ : MSto) : Int64 := if 0 ≤ a then a else -a
noncomputable def S_Ma_absJ : List MV → MSto → Option Prop × Option MV × MSto := fun as σ => match as with
  | [.inr (.inl a0)] => (none, some (mJ (v_Ma_absJ a0 σ)), σ)
  | _ => (some False, none, σ)
noncomputable def E_Ma_absJ : MEnt := ((0, 1, 0), (0, 0, 0, 0), S_Ma_absJ, ((⟨"java/lang/Math", "abs", "(J)J"⟩ : MethodName), prog_20_method_61_code, 2, (some .long)))

def T_Ma_absJ : Nat → Option (Instr × Nat × List Nat) := fun k => bif Nat.blt k 13 then (bif Nat.blt k 6 then (bif Nat.blt k 2 then (bif Nat.blt k 1 then (bif Nat.beq k 0 then some (.lload_n 0, 1, []) else none) else (bif Nat.beq k 1 then some (.lconst 0, 2, []) else none)) else (bif Nat.blt k 3 then (bif Nat.beq k 2 then some (.lcmp, 3, []) else none) else (bif Nat.beq k 3 then some (.ifCond .ge 8, 6, [11]) else none))) else (bif Nat.blt k 8 then (bif Nat.blt k 7 then (bif Nat.beq k 6 then some (.lload_n 0, 7, []) else none) else (bif Nat.beq k 7 then some (.lneg, 8, []) else none)) else (bif Nat.blt k 11 then (bif Nat.beq k 8 then some (.goto 4, 11, [12]) else none) else (bif Nat.blt k 12 then (bif Nat.beq k 11 then some (.lload_n 0, 12, []) else none) else (bif Nat.beq k 12 then some (.lreturn, 13, []) else none))))) else none
noncomputable def P_Ma_absJ : MP := (T_Ma_absJ, (fun k => mLook k []), (fun k => mLook k []), (fun k => mLook k []), (fun k => mLook k []), (fun k => mLook k []), (fun k => mLook k []), (fun k => mLook k []), (fun k => [12].any (Nat.beq k)), (0, 0, 0, 0), false, (fun _ => none))
set_option maxRecDepth 100000 in
set_option maxHeartbeats 4000000 in
theorem q_Ma_absJ_e (a0 : Int64) (σ : MSto) (n : Nat) : mexe KT P_Ma_absJ (n + 1) (0, [some (mJ a0), none], [], σ, 0, 0) = mIf (0 ≤ (lg_cmp a0 0)) (some (12, [], [(mJ a0)], σ, 0, 0)) (some (12, [], [(mJ (-a0))], σ, 0, 0)) := rfl
set_option maxRecDepth 100000 in
set_option maxHeartbeats 4000000 in
theorem d_Ma_absJ (a0 : Int64) (σ : MSto) : mW1 P_Ma_absJ (0, [some (mJ a0), none], [], σ, 0, 0) (mF [12] [mJ (v_Ma_absJ a0 σ)] σ 0 0) := by
  refine mW1_eq (q_Ma_absJ_e _ _) ?_
  unfold v_Ma_absJ
  refine mTr_if (fun h => ?_) (fun h => ?_)
  · exact mTr_e (by decide) (by rw [if_pos (cmp_ge.mp h)]) rfl (by decide) (by decide)
  · exact mTr_e (by decide) (by rw [if_neg (fun q => h (cmp_ge.mpr q))]) rfl (by decide) (by decide)
theorem tk_Ma_absJ : ∀ pc i nx tg, T_Ma_absJ pc = some (i, nx, tg) → mOkB prog_20_method_61_code pc i nx tg = true := code_ok (N := 13) (fun k h => by unfold T_Ma_absJ; rw [h]; rfl) (by decide +kernel)
theorem ok_Ma_absJ (l : Launch) : mPOK l "java/lang/Math" prog_20_method_61_code P_Ma_absJ := by
  refine ⟨tk_Ma_absJ, ?_, ?_, ?_, (fun pc i nx tg kd _ h => by cases h), ?_, ?_, fun pc en h => by cases h⟩
  · intro x ci f ty fin h
    exact mLook_all (Q := fun x v => mFOK "java/lang/Math" x v.1 v.2.1 v.2.2.1 v.2.2.2 ∧ (v.2.2.2 = true → pIni P_Ma_absJ = true → (Cond.fieldLink "java/lang/Math" x (((mCl[v.1]?).getD ("", fun _ => ("", "", "", false), 0)).2.1 v.2.1).1 (((mCl[v.1]?).getD ("", fun _ => ("", "", "", false), 0)).2.1 v.2.1).2.1 (((mCl[v.1]?).getD ("", fun _ => ("", "", "", false), 0)).2.1 v.2.1).2.2.1 ∈ lw_tbl ∧ (((mCl[v.1]?).getD ("", fun _ => ("", "", "", false), 0)).2.1 v.2.1).1 = "java/lang/Math"))) fcN x (ci, f, ty, fin) h
  · intro x
    have hh := mLook_all (l := ([] : List (Nat × (Int32 ⊕ Int64)))) (Q := fun x (v : Int32 ⊕ Int64) => (∀ w, v = .inl w → Cond.constant "java/lang/Math" x w ∈ lw_tbl) ∧ (∀ w, v = .inr w → Cond.constantLong "java/lang/Math" x w ∈ lw_tbl)) fcN x
    exact ⟨fun w h => (hh _ h).1 w rfl, fun w h => (hh _ h).2 w rfl⟩
  · exact fun x en h => mLook_all (Q := fun x en => mLink "java/lang/Math" x en ∧ mCtr l en ∧ (en.1.1 = 2 → en.2.2.2.2.2.2 = none)) fcN x en h
  · exact fun x kd h => mLook_all (Q := fun x kd => (kd = 95 ∧ Cond.fieldLink "java/lang/Math" x "ClothWithMan" "LIKENESSES" "[I" ∈ lw_tbl) ∨ (kd = 96 ∧ Cond.fieldLink "java/lang/Math" x "ClothWithMan" "APART_BOUNDS" "[I" ∈ lw_tbl)) fcN x kd h
  · exact fun x ci h => mLook_all (Q := fun x ci => ci ≠ 0 ∧ ∃ (C : String) (T : u_T) (N : Nat), mCl[ci]? = some (C, T, N) ∧ Cond.classLink "java/lang/Math" x C ∈ lw_tbl ∧ Cond.instantiable C N ∈ lw_tbl) fcN x ci h
set_option maxRecDepth 100000 in
theorem c_Ma_absJ (l : Launch) : mCtr l E_Ma_absJ := mCtr_of (P := P_Ma_absJ) (own := "java/lang/Math") mLay_ok rfl (by decide +kernel) rfl (ok_Ma_absJ l) (fun h => by cases h) (fun as σ pr rv σ' hF hpr hlv => by
  unfold E_Ma_absJ S_Ma_absJ at hF
  simp only [] at hF
  split at hF
  · cases hF
    obtain ⟨n, pcF, c1, s1, g1, g2, g3, g4⟩ := mF_inv (d_Ma_absJ _ σ)
    exact ⟨Nat.le_of_ble_eq_true rfl, (fun v h => by cases h; trivial), n, pcF, c1, s1, g1, mEnd_of (i := .lreturn) (P := P_Ma_absJ) (rets := [12]) rfl g2, g3, g4⟩
  · cases hF
    exact (hpr _ rfl).elim)
/-! java/lang/Math.max(II)I -/
def v_Ma_max (a b : Int32) (σ : MSto) : Int32 := if a < b then b else a
noncomputable def S_Ma_max : List MV → MSto → Option Prop × Option MV × MSto := fun as σ => match as with
  | [.inl a0, .inl a1] => (none, some (mI (v_Ma_max a0 a1 σ)), σ)
  | _ => (some False, none, σ)
noncomputable def E_Ma_max : MEnt := ((0, 2, 0), (0, 0, 0, 0), S_Ma_max, ((⟨"java/lang/Math", "max", "(II)I"⟩ : MethodName), prog_20_method_65_code, 2, (some .int)))

def T_Ma_max : Nat → Option (Instr × Nat × List Nat) := fun k => bif Nat.blt k 11 then (bif Nat.blt k 5 then (bif Nat.blt k 1 then (bif Nat.beq k 0 then some (.iload_n 0, 1, []) else none) else (bif Nat.blt k 2 then (bif Nat.beq k 1 then some (.iload_n 1, 2, []) else none) else (bif Nat.beq k 2 then some (.if_icmp .lt 7, 5, [9]) else none))) else (bif Nat.blt k 9 then (bif Nat.blt k 6 then (bif Nat.beq k 5 then some (.iload_n 0, 6, []) else none) else (bif Nat.beq k 6 then some (.goto 4, 9, [10]) else none)) else (bif Nat.blt k 10 then (bif Nat.beq k 9 then some (.iload_n 1, 10, []) else none) else (bif Nat.beq k 10 then some (.ireturn, 11, []) else none)))) else none
noncomputable def P_Ma_max : MP := (T_Ma_max, (fun k => mLook k []), (fun k => mLook k []), (fun k => mLook k []), (fun k => mLook k []), (fun k => mLook k []), (fun k => mLook k []), (fun k => mLook k []), (fun k => [10].any (Nat.beq k)), (0, 0, 0, 0), false, (fun _ => none))
set_option maxRecDepth 100000 in
set_option maxHeartbeats 4000000 in
theorem q_Ma_max_e (a0 : Int32) (a1 : Int32) (σ : MSto) (n : Nat) : mexe KT P_Ma_max (n + 1) (0, [some (mI a0), some (mI a1)], [], σ, 0, 0) = mIf (a0 < a1) (some (10, [], [(mI a1)], σ, 0, 0)) (some (10, [], [(mI a0)], σ, 0, 0)) := rfl
set_option maxRecDepth 100000 in
set_option maxHeartbeats 4000000 in
theorem d_Ma_max (a0 : Int32) (a1 : Int32) (σ : MSto) : mW1 P_Ma_max (0, [some (mI a0), some (mI a1)], [], σ, 0, 0) (mF [10] [mI (v_Ma_max a0 a1 σ)] σ 0 0) := by
  refine mW1_eq (q_Ma_max_e _ _ _) ?_
  unfold v_Ma_max
  refine mTr_if (fun h => ?_) (fun h => ?_)
  · exact mTr_e (by decide) (by rw [if_pos h]) rfl (by decide) (by decide)
  · exact mTr_e (by decide) (by rw [if_neg h]) rfl (by decide) (by decide)
theorem tk_Ma_max : ∀ pc i nx tg, T_Ma_max pc = some (i, nx, tg) → mOkB prog_20_method_65_code pc i nx tg = true := code_ok (N := 11) (fun k h => by unfold T_Ma_max; rw [h]; rfl) (by decide +kernel)
theorem ok_Ma_max (l : Launch) : mPOK l "java/lang/Math" prog_20_method_65_code P_Ma_max := by
  refine ⟨tk_Ma_max, ?_, ?_, ?_, (fun pc i nx tg kd _ h => by cases h), ?_, ?_, fun pc en h => by cases h⟩
  · intro x ci f ty fin h
    exact mLook_all (Q := fun x v => mFOK "java/lang/Math" x v.1 v.2.1 v.2.2.1 v.2.2.2 ∧ (v.2.2.2 = true → pIni P_Ma_max = true → (Cond.fieldLink "java/lang/Math" x (((mCl[v.1]?).getD ("", fun _ => ("", "", "", false), 0)).2.1 v.2.1).1 (((mCl[v.1]?).getD ("", fun _ => ("", "", "", false), 0)).2.1 v.2.1).2.1 (((mCl[v.1]?).getD ("", fun _ => ("", "", "", false), 0)).2.1 v.2.1).2.2.1 ∈ lw_tbl ∧ (((mCl[v.1]?).getD ("", fun _ => ("", "", "", false), 0)).2.1 v.2.1).1 = "java/lang/Math"))) fcN x (ci, f, ty, fin) h
  · intro x
    have hh := mLook_all (l := ([] : List (Nat × (Int32 ⊕ Int64)))) (Q := fun x (v : Int32 ⊕ Int64) => (∀ w, v = .inl w → Cond.constant "java/lang/Math" x w ∈ lw_tbl) ∧ (∀ w, v = .inr w → Cond.constantLong "java/lang/Math" x w ∈ lw_tbl)) fcN x
    exact ⟨fun w h => (hh _ h).1 w rfl, fun w h => (hh _ h).2 w rfl⟩
  · exact fun x en h => mLook_all (Q := fun x en => mLink "java/lang/Math" x en ∧ mCtr l en ∧ (en.1.1 = 2 → en.2.2.2.2.2.2 = none)) fcN x en h
  · exact fun x kd h => mLook_all (Q := fun x kd => (kd = 95 ∧ Cond.fieldLink "java/lang/Math" x "ClothWithMan" "LIKENESSES" "[I" ∈ lw_tbl) ∨ (kd = 96 ∧ Cond.fieldLink "java/lang/Math" x "ClothWithMan" "APART_BOUNDS" "[I" ∈ lw_tbl)) fcN x kd h
  · exact fun x ci h => mLook_all (Q := fun x ci => ci ≠ 0 ∧ ∃ (C : String) (T : u_T) (N : Nat), mCl[ci]? = some (C, T, N) ∧ Cond.classLink "java/lang/Math" x C ∈ lw_tbl ∧ Cond.instantiable C N ∈ lw_tbl) fcN x ci h
set_option maxRecDepth 100000 in
theorem c_Ma_max (l : Launch) : mCtr l E_Ma_max := mCtr_of (P := P_Ma_max) (own := "java/lang/Math") mLay_ok rfl (by decide +kernel) rfl (ok_Ma_max l) (fun h => by cases h) (fun as σ pr rv σ' hF hpr hlv => by
  unfold E_Ma_max S_Ma_max at hF
  simp only [] at hF
  split at hF
  · cases hF
    obtain ⟨n, pcF, c1, s1, g1, g2, g3, g4⟩ := mF_inv (d_Ma_max _ _ σ)
    exact ⟨Nat.le_of_ble_eq_true rfl, (fun v h => by cases h; trivial), n, pcF, c1, s1, g1, ⟨mEnd_of (i := .ireturn) (P := P_Ma_max) (rets := [10]) rfl g2, rfl⟩, g3, g4⟩
  · cases hF
    exact (hpr _ rfl).elim)
/-! java/lang/Math.min(II)I -/
def v_Ma_min (a b : Int32) (σ : MSto) : Int32 := if b < a then b else a
noncomputable def S_Ma_min : List MV → MSto → Option Prop × Option MV × MSto := fun as σ => match as with
  | [.inl a0, .inl a1] => (none, some (mI (v_Ma_min a0 a1 σ)), σ)
  | _ => (some False, none, σ)
noncomputable def E_Ma_min : MEnt := ((0, 2, 0), (0, 0, 0, 0), S_Ma_min, ((⟨"java/lang/Math", "min", "(II)I"⟩ : MethodName), prog_20_method_69_code, 2, (some .int)))

def T_Ma_min : Nat → Option (Instr × Nat × List Nat) := fun k => bif Nat.blt k 11 then (bif Nat.blt k 5 then (bif Nat.blt k 1 then (bif Nat.beq k 0 then some (.iload_n 0, 1, []) else none) else (bif Nat.blt k 2 then (bif Nat.beq k 1 then some (.iload_n 1, 2, []) else none) else (bif Nat.beq k 2 then some (.if_icmp .gt 7, 5, [9]) else none))) else (bif Nat.blt k 9 then (bif Nat.blt k 6 then (bif Nat.beq k 5 then some (.iload_n 0, 6, []) else none) else (bif Nat.beq k 6 then some (.goto 4, 9, [10]) else none)) else (bif Nat.blt k 10 then (bif Nat.beq k 9 then some (.iload_n 1, 10, []) else none) else (bif Nat.beq k 10 then some (.ireturn, 11, []) else none)))) else none
noncomputable def P_Ma_min : MP := (T_Ma_min, (fun k => mLook k []), (fun k => mLook k []), (fun k => mLook k []), (fun k => mLook k []), (fun k => mLook k []), (fun k => mLook k []), (fun k => mLook k []), (fun k => [10].any (Nat.beq k)), (0, 0, 0, 0), false, (fun _ => none))
set_option maxRecDepth 100000 in
set_option maxHeartbeats 4000000 in
theorem q_Ma_min_e (a0 : Int32) (a1 : Int32) (σ : MSto) (n : Nat) : mexe KT P_Ma_min (n + 1) (0, [some (mI a0), some (mI a1)], [], σ, 0, 0) = mIf (a1 < a0) (some (10, [], [(mI a1)], σ, 0, 0)) (some (10, [], [(mI a0)], σ, 0, 0)) := rfl
set_option maxRecDepth 100000 in
set_option maxHeartbeats 4000000 in
theorem d_Ma_min (a0 : Int32) (a1 : Int32) (σ : MSto) : mW1 P_Ma_min (0, [some (mI a0), some (mI a1)], [], σ, 0, 0) (mF [10] [mI (v_Ma_min a0 a1 σ)] σ 0 0) := by
  refine mW1_eq (q_Ma_min_e _ _ _) ?_
  unfold v_Ma_min
  refine mTr_if (fun h => ?_) (fun h => ?_)
  · exact mTr_e (by decide) (by rw [if_pos h]) rfl (by decide) (by decide)
  · exact mTr_e (by decide) (by rw [if_neg h]) rfl (by decide) (by decide)
theorem tk_Ma_min : ∀ pc i nx tg, T_Ma_min pc = some (i, nx, tg) → mOkB prog_20_method_69_code pc i nx tg = true := code_ok (N := 11) (fun k h => by unfold T_Ma_min; rw [h]; rfl) (by decide +kernel)
theorem ok_Ma_min (l : Launch) : mPOK l "java/lang/Math" prog_20_method_69_code P_Ma_min := by
  refine ⟨tk_Ma_min, ?_, ?_, ?_, (fun pc i nx tg kd _ h => by cases h), ?_, ?_, fun pc en h => by cases h⟩
  · intro x ci f ty fin h
    exact mLook_all (Q := fun x v => mFOK "java/lang/Math" x v.1 v.2.1 v.2.2.1 v.2.2.2 ∧ (v.2.2.2 = true → pIni P_Ma_min = true → (Cond.fieldLink "java/lang/Math" x (((mCl[v.1]?).getD ("", fun _ => ("", "", "", false), 0)).2.1 v.2.1).1 (((mCl[v.1]?).getD ("", fun _ => ("", "", "", false), 0)).2.1 v.2.1).2.1 (((mCl[v.1]?).getD ("", fun _ => ("", "", "", false), 0)).2.1 v.2.1).2.2.1 ∈ lw_tbl ∧ (((mCl[v.1]?).getD ("", fun _ => ("", "", "", false), 0)).2.1 v.2.1).1 = "java/lang/Math"))) fcN x (ci, f, ty, fin) h
  · intro x
    have hh := mLook_all (l := ([] : List (Nat × (Int32 ⊕ Int64)))) (Q := fun x (v : Int32 ⊕ Int64) => (∀ w, v = .inl w → Cond.constant "java/lang/Math" x w ∈ lw_tbl) ∧ (∀ w, v = .inr w → Cond.constantLong "java/lang/Math" x w ∈ lw_tbl)) fcN x
    exact ⟨fun w h => (hh _ h).1 w rfl, fun w h => (hh _ h).2 w rfl⟩
  · exact fun x en h => mLook_all (Q := fun x en => mLink "java/lang/Math" x en ∧ mCtr l en ∧ (en.1.1 = 2 → en.2.2.2.2.2.2 = none)) fcN x en h
  · exact fun x kd h => mLook_all (Q := fun x kd => (kd = 95 ∧ Cond.fieldLink "java/lang/Math" x "ClothWithMan" "LIKENESSES" "[I" ∈ lw_tbl) ∨ (kd = 96 ∧ Cond.fieldLink "java/lang/Math" x "ClothWithMan" "APART_BOUNDS" "[I" ∈ lw_tbl)) fcN x kd h
  · exact fun x ci h => mLook_all (Q := fun x ci => ci ≠ 0 ∧ ∃ (C : String) (T : u_T) (N : Nat), mCl[ci]? = some (C, T, N) ∧ Cond.classLink "java/lang/Math" x C ∈ lw_tbl ∧ Cond.instantiable C N ∈ lw_tbl) fcN x ci h
set_option maxRecDepth 100000 in
theorem c_Ma_min (l : Launch) : mCtr l E_Ma_min := mCtr_of (P := P_Ma_min) (own := "java/lang/Math") mLay_ok rfl (by decide +kernel) rfl (ok_Ma_min l) (fun h => by cases h) (fun as σ pr rv σ' hF hpr hlv => by
  unfold E_Ma_min S_Ma_min at hF
  simp only [] at hF
  split at hF
  · cases hF
    obtain ⟨n, pcF, c1, s1, g1, g2, g3, g4⟩ := mF_inv (d_Ma_min _ _ σ)
    exact ⟨Nat.le_of_ble_eq_true rfl, (fun v h => by cases h; trivial), n, pcF, c1, s1, g1, ⟨mEnd_of (i := .ireturn) (P := P_Ma_min) (rets := [10]) rfl g2, rfl⟩, g3, g4⟩
  · cases hF
    exact (hpr _ rfl).elim)
/-! java/lang/Integer.bitCount(I)I -/
noncomputable def v_In_bitCount (a0 : Int32) (σ : MSto) : Int32 := ((((((((a0 - ((Int32.toUInt32 a0 >>> (Int32.toUInt32 1 &&& Int32.toUInt32 31)).toInt32 &&& 1431655765)) &&& 858993459) + ((Int32.toUInt32 (a0 - ((Int32.toUInt32 a0 >>> (Int32.toUInt32 1 &&& Int32.toUInt32 31)).toInt32 &&& 1431655765)) >>> (Int32.toUInt32 2 &&& Int32.toUInt32 31)).toInt32 &&& 858993459)) + (Int32.toUInt32 (((a0 - ((Int32.toUInt32 a0 >>> (Int32.toUInt32 1 &&& Int32.toUInt32 31)).toInt32 &&& 1431655765)) &&& 858993459) + ((Int32.toUInt32 (a0 - ((Int32.toUInt32 a0 >>> (Int32.toUInt32 1 &&& Int32.toUInt32 31)).toInt32 &&& 1431655765)) >>> (Int32.toUInt32 2 &&& Int32.toUInt32 31)).toInt32 &&& 858993459)) >>> (Int32.toUInt32 4 &&& Int32.toUInt32 31)).toInt32) &&& 252645135) + (Int32.toUInt32 (((((a0 - ((Int32.toUInt32 a0 >>> (Int32.toUInt32 1 &&& Int32.toUInt32 31)).toInt32 &&& 1431655765)) &&& 858993459) + ((Int32.toUInt32 (a0 - ((Int32.toUInt32 a0 >>> (Int32.toUInt32 1 &&& Int32.toUInt32 31)).toInt32 &&& 1431655765)) >>> (Int32.toUInt32 2 &&& Int32.toUInt32 31)).toInt32 &&& 858993459)) + (Int32.toUInt32 (((a0 - ((Int32.toUInt32 a0 >>> (Int32.toUInt32 1 &&& Int32.toUInt32 31)).toInt32 &&& 1431655765)) &&& 858993459) + ((Int32.toUInt32 (a0 - ((Int32.toUInt32 a0 >>> (Int32.toUInt32 1 &&& Int32.toUInt32 31)).toInt32 &&& 1431655765)) >>> (Int32.toUInt32 2 &&& Int32.toUInt32 31)).toInt32 &&& 858993459)) >>> (Int32.toUInt32 4 &&& Int32.toUInt32 31)).toInt32) &&& 252645135) >>> (Int32.toUInt32 8 &&& Int32.toUInt32 31)).toInt32) + (Int32.toUInt32 ((((((a0 - ((Int32.toUInt32 a0 >>> (Int32.toUInt32 1 &&& Int32.toUInt32 31)).toInt32 &&& 1431655765)) &&& 858993459) + ((Int32.toUInt32 (a0 - ((Int32.toUInt32 a0 >>> (Int32.toUInt32 1 &&& Int32.toUInt32 31)).toInt32 &&& 1431655765)) >>> (Int32.toUInt32 2 &&& Int32.toUInt32 31)).toInt32 &&& 858993459)) + (Int32.toUInt32 (((a0 - ((Int32.toUInt32 a0 >>> (Int32.toUInt32 1 &&& Int32.toUInt32 31)).toInt32 &&& 1431655765)) &&& 858993459) + ((Int32.toUInt32 (a0 - ((Int32.toUInt32 a0 >>> (Int32.toUInt32 1 &&& Int32.toUInt32 31)).toInt32 &&& 1431655765)) >>> (Int32.toUInt32 2 &&& Int32.toUInt32 31)).toInt32 &&& 858993459)) >>> (Int32.toUInt32 4 &&& Int32.toUInt32 31)).toInt32) &&& 252645135) + (Int32.toUInt32 (((((a0 - ((Int32.toUInt32 a0 >>> (Int32.toUInt32 1 &&& Int32.toUInt32 31)).toInt32 &&& 1431655765)) &&& 858993459) + ((Int32.toUInt32 (a0 - ((Int32.toUInt32 a0 >>> (Int32.toUInt32 1 &&& Int32.toUInt32 31)).toInt32 &&& 1431655765)) >>> (Int32.toUInt32 2 &&& Int32.toUInt32 31)).toInt32 &&& 858993459)) + (Int32.toUInt32 (((a0 - ((Int32.toUInt32 a0 >>> (Int32.toUInt32 1 &&& Int32.toUInt32 31)).toInt32 &&& 1431655765)) &&& 858993459) + ((Int32.toUInt32 (a0 - ((Int32.toUInt32 a0 >>> (Int32.toUInt32 1 &&& Int32.toUInt32 31)).toInt32 &&& 1431655765)) >>> (Int32.toUInt32 2 &&& Int32.toUInt32 31)).toInt32 &&& 858993459)) >>> (Int32.toUInt32 4 &&& Int32.toUInt32 31)).toInt32) &&& 252645135) >>> (Int32.toUInt32 8 &&& Int32.toUInt32 31)).toInt32) >>> (Int32.toUInt32 16 &&& Int32.toUInt32 31)).toInt32) &&& 63)
noncomputable def S_In_bitCount : List MV → MSto → Option Prop × Option MV × MSto := fun as σ => match as with
  | [.inl a0] => (none, some (mI (v_In_bitCount a0 σ)), σ)
  | _ => (some False, none, σ)
noncomputable def E_In_bitCount : MEnt := ((0, 1, 0), (0, 0, 0, 0), S_In_bitCount, ((⟨"java/lang/Integer", "bitCount", "(I)I"⟩ : MethodName), prog_18_method_49_code, 1, (some .int)))

def T_In_bitCount : Nat → Option (Instr × Nat × List Nat) := fun k => bif Nat.blt k 53 then (bif Nat.blt k 27 then (bif Nat.blt k 14 then (bif Nat.blt k 7 then (bif Nat.blt k 2 then (bif Nat.blt k 1 then (bif Nat.beq k 0 then some (.iload_n 0, 1, []) else none) else (bif Nat.beq k 1 then some (.iload_n 0, 2, []) else none)) else (bif Nat.blt k 3 then (bif Nat.beq k 2 then some (.iconst 1, 3, []) else none) else (bif Nat.blt k 4 then (bif Nat.beq k 3 then some (.iushr, 4, []) else none) else (bif Nat.beq k 4 then some (.ldc_w 265, 7, []) else none)))) else (bif Nat.blt k 9 then (bif Nat.blt k 8 then (bif Nat.beq k 7 then some (.iand, 8, []) else none) else (bif Nat.beq k 8 then some (.isub, 9, []) else none)) else (bif Nat.blt k 10 then (bif Nat.beq k 9 then some (.istore_n 0, 10, []) else none) else (bif Nat.blt k 11 then (bif Nat.beq k 10 then some (.iload_n 0, 11, []) else none) else (bif Nat.beq k 11 then some (.ldc_w 266, 14, []) else none))))) else (bif Nat.blt k 21 then (bif Nat.blt k 16 then (bif Nat.blt k 15 then (bif Nat.beq k 14 then some (.iand, 15, []) else none) else (bif Nat.beq k 15 then some (.iload_n 0, 16, []) else none)) else (bif Nat.blt k 17 then (bif Nat.beq k 16 then some (.iconst 2, 17, []) else none) else (bif Nat.blt k 18 then (bif Nat.beq k 17 then some (.iushr, 18, []) else none) else (bif Nat.beq k 18 then some (.ldc_w 266, 21, []) else none)))) else (bif Nat.blt k 24 then (bif Nat.blt k 22 then (bif Nat.beq k 21 then some (.iand, 22, []) else none) else (bif Nat.blt k 23 then (bif Nat.beq k 22 then some (.iadd, 23, []) else none) else (bif Nat.beq k 23 then some (.istore_n 0, 24, []) else none))) else (bif Nat.blt k 25 then (bif Nat.beq k 24 then some (.iload_n 0, 25, []) else none) else (bif Nat.blt k 26 then (bif Nat.beq k 25 then some (.iload_n 0, 26, []) else none) else (bif Nat.beq k 26 then some (.iconst 4, 27, []) else none)))))) else (bif Nat.blt k 40 then (bif Nat.blt k 34 then (bif Nat.blt k 29 then (bif Nat.blt k 28 then (bif Nat.beq k 27 then some (.iushr, 28, []) else none) else (bif Nat.beq k 28 then some (.iadd, 29, []) else none)) else (bif Nat.blt k 32 then (bif Nat.beq k 29 then some (.ldc_w 267, 32, []) else none) else (bif Nat.blt k 33 then (bif Nat.beq k 32 then some (.iand, 33, []) else none) else (bif Nat.beq k 33 then some (.istore_n 0, 34, []) else none)))) else (bif Nat.blt k 36 then (bif Nat.blt k 35 then (bif Nat.beq k 34 then some (.iload_n 0, 35, []) else none) else (bif Nat.beq k 35 then some (.iload_n 0, 36, []) else none)) else (bif Nat.blt k 38 then (bif Nat.beq k 36 then some (.bipush 8, 38, []) else none) else (bif Nat.blt k 39 then (bif Nat.beq k 38 then some (.iushr, 39, []) else none) else (bif Nat.beq k 39 then some (.iadd, 40, []) else none))))) else (bif Nat.blt k 46 then (bif Nat.blt k 42 then (bif Nat.blt k 41 then (bif Nat.beq k 40 then some (.istore_n 0, 41, []) else none) else (bif Nat.beq k 41 then some (.iload_n 0, 42, []) else none)) else (bif Nat.blt k 43 then (bif Nat.beq k 42 then some (.iload_n 0, 43, []) else none) else (bif Nat.blt k 45 then (bif Nat.beq k 43 then some (.bipush 16, 45, []) else none) else (bif Nat.beq k 45 then some (.iushr, 46, []) else none)))) else (bif Nat.blt k 49 then (bif Nat.blt k 47 then (bif Nat.beq k 46 then some (.iadd, 47, []) else none) else (bif Nat.blt k 48 then (bif Nat.beq k 47 then some (.istore_n 0, 48, []) else none) else (bif Nat.beq k 48 then some (.iload_n 0, 49, []) else none))) else (bif Nat.blt k 51 then (bif Nat.beq k 49 then some (.bipush 63, 51, []) else none) else (bif Nat.blt k 52 then (bif Nat.beq k 51 then some (.iand, 52, []) else none) else (bif Nat.beq k 52 then some (.ireturn, 53, []) else none))))))) else none
noncomputable def P_In_bitCount : MP := (T_In_bitCount, (fun k => mLook k []), (fun k => mLook k [(265, .inl 1431655765), (266, .inl 858993459), (267, .inl 252645135)]), (fun k => mLook k []), (fun k => mLook k []), (fun k => mLook k []), (fun k => mLook k []), (fun k => mLook k []), (fun k => [52].any (Nat.beq k)), (0, 0, 0, 0), false, (fun _ => none))
set_option maxRecDepth 100000 in
set_option maxHeartbeats 4000000 in
theorem q_In_bitCount_e (a0 : Int32) (σ : MSto) (n : Nat) : mexe KT P_In_bitCount (n + 1) (0, [some (mI a0)], [], σ, 0, 0) = some (52, [], [(mI ((((((((a0 - ((Int32.toUInt32 a0 >>> (Int32.toUInt32 1 &&& Int32.toUInt32 31)).toInt32 &&& 1431655765)) &&& 858993459) + ((Int32.toUInt32 (a0 - ((Int32.toUInt32 a0 >>> (Int32.toUInt32 1 &&& Int32.toUInt32 31)).toInt32 &&& 1431655765)) >>> (Int32.toUInt32 2 &&& Int32.toUInt32 31)).toInt32 &&& 858993459)) + (Int32.toUInt32 (((a0 - ((Int32.toUInt32 a0 >>> (Int32.toUInt32 1 &&& Int32.toUInt32 31)).toInt32 &&& 1431655765)) &&& 858993459) + ((Int32.toUInt32 (a0 - ((Int32.toUInt32 a0 >>> (Int32.toUInt32 1 &&& Int32.toUInt32 31)).toInt32 &&& 1431655765)) >>> (Int32.toUInt32 2 &&& Int32.toUInt32 31)).toInt32 &&& 858993459)) >>> (Int32.toUInt32 4 &&& Int32.toUInt32 31)).toInt32) &&& 252645135) + (Int32.toUInt32 (((((a0 - ((Int32.toUInt32 a0 >>> (Int32.toUInt32 1 &&& Int32.toUInt32 31)).toInt32 &&& 1431655765)) &&& 858993459) + ((Int32.toUInt32 (a0 - ((Int32.toUInt32 a0 >>> (Int32.toUInt32 1 &&& Int32.toUInt32 31)).toInt32 &&& 1431655765)) >>> (Int32.toUInt32 2 &&& Int32.toUInt32 31)).toInt32 &&& 858993459)) + (Int32.toUInt32 (((a0 - ((Int32.toUInt32 a0 >>> (Int32.toUInt32 1 &&& Int32.toUInt32 31)).toInt32 &&& 1431655765)) &&& 858993459) + ((Int32.toUInt32 (a0 - ((Int32.toUInt32 a0 >>> (Int32.toUInt32 1 &&& Int32.toUInt32 31)).toInt32 &&& 1431655765)) >>> (Int32.toUInt32 2 &&& Int32.toUInt32 31)).toInt32 &&& 858993459)) >>> (Int32.toUInt32 4 &&& Int32.toUInt32 31)).toInt32) &&& 252645135) >>> (Int32.toUInt32 8 &&& Int32.toUInt32 31)).toInt32) + (Int32.toUInt32 ((((((a0 - ((Int32.toUInt32 a0 >>> (Int32.toUInt32 1 &&& Int32.toUInt32 31)).toInt32 &&& 1431655765)) &&& 858993459) + ((Int32.toUInt32 (a0 - ((Int32.toUInt32 a0 >>> (Int32.toUInt32 1 &&& Int32.toUInt32 31)).toInt32 &&& 1431655765)) >>> (Int32.toUInt32 2 &&& Int32.toUInt32 31)).toInt32 &&& 858993459)) + (Int32.toUInt32 (((a0 - ((Int32.toUInt32 a0 >>> (Int32.toUInt32 1 &&& Int32.toUInt32 31)).toInt32 &&& 1431655765)) &&& 858993459) + ((Int32.toUInt32 (a0 - ((Int32.toUInt32 a0 >>> (Int32.toUInt32 1 &&& Int32.toUInt32 31)).toInt32 &&& 1431655765)) >>> (Int32.toUInt32 2 &&& Int32.toUInt32 31)).toInt32 &&& 858993459)) >>> (Int32.toUInt32 4 &&& Int32.toUInt32 31)).toInt32) &&& 252645135) + (Int32.toUInt32 (((((a0 - ((Int32.toUInt32 a0 >>> (Int32.toUInt32 1 &&& Int32.toUInt32 31)).toInt32 &&& 1431655765)) &&& 858993459) + ((Int32.toUInt32 (a0 - ((Int32.toUInt32 a0 >>> (Int32.toUInt32 1 &&& Int32.toUInt32 31)).toInt32 &&& 1431655765)) >>> (Int32.toUInt32 2 &&& Int32.toUInt32 31)).toInt32 &&& 858993459)) + (Int32.toUInt32 (((a0 - ((Int32.toUInt32 a0 >>> (Int32.toUInt32 1 &&& Int32.toUInt32 31)).toInt32 &&& 1431655765)) &&& 858993459) + ((Int32.toUInt32 (a0 - ((Int32.toUInt32 a0 >>> (Int32.toUInt32 1 &&& Int32.toUInt32 31)).toInt32 &&& 1431655765)) >>> (Int32.toUInt32 2 &&& Int32.toUInt32 31)).toInt32 &&& 858993459)) >>> (Int32.toUInt32 4 &&& Int32.toUInt32 31)).toInt32) &&& 252645135) >>> (Int32.toUInt32 8 &&& Int32.toUInt32 31)).toInt32) >>> (Int32.toUInt32 16 &&& Int32.toUInt32 31)).toInt32) &&& 63))], σ, 0, 0) := rfl
set_option maxRecDepth 100000 in
set_option maxHeartbeats 4000000 in
theorem d_In_bitCount (a0 : Int32) (σ : MSto) : mW1 P_In_bitCount (0, [some (mI a0)], [], σ, 0, 0) (mF [52] [mI (v_In_bitCount a0 σ)] σ 0 0) := by
  refine mW1_eq (q_In_bitCount_e _ _) ?_
  exact mTr_e (by decide) (congrArg (fun z => [mI z]) (Eq.symm (rfl))) rfl (by decide) (by decide)
theorem tk_In_bitCount : ∀ pc i nx tg, T_In_bitCount pc = some (i, nx, tg) → mOkB prog_18_method_49_code pc i nx tg = true := code_ok (N := 53) (fun k h => by unfold T_In_bitCount; rw [h]; rfl) (by decide +kernel)
theorem ok_In_bitCount (l : Launch) : mPOK l "java/lang/Integer" prog_18_method_49_code P_In_bitCount := by
  refine ⟨tk_In_bitCount, ?_, ?_, ?_, (fun pc i nx tg kd _ h => by cases h), ?_, ?_, fun pc en h => by cases h⟩
  · intro x ci f ty fin h
    exact mLook_all (Q := fun x v => mFOK "java/lang/Integer" x v.1 v.2.1 v.2.2.1 v.2.2.2 ∧ (v.2.2.2 = true → pIni P_In_bitCount = true → (Cond.fieldLink "java/lang/Integer" x (((mCl[v.1]?).getD ("", fun _ => ("", "", "", false), 0)).2.1 v.2.1).1 (((mCl[v.1]?).getD ("", fun _ => ("", "", "", false), 0)).2.1 v.2.1).2.1 (((mCl[v.1]?).getD ("", fun _ => ("", "", "", false), 0)).2.1 v.2.1).2.2.1 ∈ lw_tbl ∧ (((mCl[v.1]?).getD ("", fun _ => ("", "", "", false), 0)).2.1 v.2.1).1 = "java/lang/Integer"))) fcN x (ci, f, ty, fin) h
  · intro x
    have hh := mLook_all (l := ([(265, .inl 1431655765), (266, .inl 858993459), (267, .inl 252645135)] : List (Nat × (Int32 ⊕ Int64)))) (Q := fun x (v : Int32 ⊕ Int64) => (∀ w, v = .inl w → Cond.constant "java/lang/Integer" x w ∈ lw_tbl) ∧ (∀ w, v = .inr w → Cond.constantLong "java/lang/Integer" x w ∈ lw_tbl)) (fcC ⟨(fun v h => by cases h; exact tw_3_105), fun v h => by cases h⟩ (fcC ⟨(fun v h => by cases h; exact tw_3_106), fun v h => by cases h⟩ (fcC ⟨(fun v h => by cases h; exact tw_3_107), fun v h => by cases h⟩ fcN))) x
    exact ⟨fun w h => (hh _ h).1 w rfl, fun w h => (hh _ h).2 w rfl⟩
  · exact fun x en h => mLook_all (Q := fun x en => mLink "java/lang/Integer" x en ∧ mCtr l en ∧ (en.1.1 = 2 → en.2.2.2.2.2.2 = none)) fcN x en h
  · exact fun x kd h => mLook_all (Q := fun x kd => (kd = 95 ∧ Cond.fieldLink "java/lang/Integer" x "ClothWithMan" "LIKENESSES" "[I" ∈ lw_tbl) ∨ (kd = 96 ∧ Cond.fieldLink "java/lang/Integer" x "ClothWithMan" "APART_BOUNDS" "[I" ∈ lw_tbl)) fcN x kd h
  · exact fun x ci h => mLook_all (Q := fun x ci => ci ≠ 0 ∧ ∃ (C : String) (T : u_T) (N : Nat), mCl[ci]? = some (C, T, N) ∧ Cond.classLink "java/lang/Integer" x C ∈ lw_tbl ∧ Cond.instantiable C N ∈ lw_tbl) fcN x ci h
set_option maxRecDepth 100000 in
theorem c_In_bitCount (l : Launch) : mCtr l E_In_bitCount := mCtr_of (P := P_In_bitCount) (own := "java/lang/Integer") mLay_ok rfl (by decide +kernel) rfl (ok_In_bitCount l) (fun h => by cases h) (fun as σ pr rv σ' hF hpr hlv => by
  unfold E_In_bitCount S_In_bitCount at hF
  simp only [] at hF
  split at hF
  · cases hF
    obtain ⟨n, pcF, c1, s1, g1, g2, g3, g4⟩ := mF_inv (d_In_bitCount _ σ)
    exact ⟨Nat.le_of_ble_eq_true rfl, (fun v h => by cases h; trivial), n, pcF, c1, s1, g1, ⟨mEnd_of (i := .ireturn) (P := P_In_bitCount) (rets := [52]) rfl g2, rfl⟩, g3, g4⟩
  · cases hF
    exact (hpr _ rfl).elim)

