/-! ClothWithManModel.common(JJ)J -/
def v_M_common (a b : Int64) (σ : MSto) : Int64 := lN (Nat.gcd a.toInt.natAbs b.toInt.natAbs)
def p_M_common (a b : Int64) (σ : MSto) : Prop := -9223372036854775808 < a.toInt ∧ -9223372036854775808 < b.toInt
noncomputable def S_M_common : List MV → MSto → Option Prop × Option MV × MSto := fun as σ => match as with
  | [.inr (.inl a0), .inr (.inl a1)] => (some (p_M_common a0 a1 σ), some (mJ (v_M_common a0 a1 σ)), σ)
  | _ => (some False, none, σ)
noncomputable def E_M_common : MEnt := ((0, 2, 13), (1, 21, 0, 0), S_M_common, ((⟨"ClothWithManModel", "common", "(JJ)J"⟩ : MethodName), prog_14_method_6_code, 10, (some .long)))

def T_M_common : Nat → Option (Instr × Nat × List Nat) := fun k => bif Nat.blt k 40 then (bif Nat.blt k 19 then (bif Nat.blt k 10 then (bif Nat.blt k 4 then (bif Nat.blt k 1 then (bif Nat.beq k 0 then some (.lload_n 0, 1, []) else none) else (bif Nat.beq k 1 then some (.invokestatic 167, 4, []) else none)) else (bif Nat.blt k 6 then (bif Nat.beq k 4 then some (.lstore 4, 6, []) else none) else (bif Nat.blt k 7 then (bif Nat.beq k 6 then some (.lload_n 2, 7, []) else none) else (bif Nat.beq k 7 then some (.invokestatic 167, 10, []) else none)))) else (bif Nat.blt k 14 then (bif Nat.blt k 12 then (bif Nat.beq k 10 then some (.lstore 6, 12, []) else none) else (bif Nat.beq k 12 then some (.lload 6, 14, []) else none)) else (bif Nat.blt k 15 then (bif Nat.beq k 14 then some (.lconst 0, 15, []) else none) else (bif Nat.blt k 16 then (bif Nat.beq k 15 then some (.lcmp, 16, []) else none) else (bif Nat.beq k 16 then some (.ifCond .eq 21, 19, [37]) else none))))) else (bif Nat.blt k 28 then (bif Nat.blt k 23 then (bif Nat.blt k 21 then (bif Nat.beq k 19 then some (.lload 4, 21, []) else none) else (bif Nat.beq k 21 then some (.lload 6, 23, []) else none)) else (bif Nat.blt k 24 then (bif Nat.beq k 23 then some (.lrem, 24, []) else none) else (bif Nat.blt k 26 then (bif Nat.beq k 24 then some (.lstore 8, 26, []) else none) else (bif Nat.beq k 26 then some (.lload 6, 28, []) else none)))) else (bif Nat.blt k 34 then (bif Nat.blt k 30 then (bif Nat.beq k 28 then some (.lstore 4, 30, []) else none) else (bif Nat.blt k 32 then (bif Nat.beq k 30 then some (.lload 8, 32, []) else none) else (bif Nat.beq k 32 then some (.lstore 6, 34, []) else none))) else (bif Nat.blt k 37 then (bif Nat.beq k 34 then some (.goto (-22), 37, [12]) else none) else (bif Nat.blt k 39 then (bif Nat.beq k 37 then some (.lload 4, 39, []) else none) else (bif Nat.beq k 39 then some (.lreturn, 40, []) else none)))))) else none
noncomputable def P_M_common : MP := (T_M_common, (fun k => mLook k []), (fun k => mLook k []), (fun k => mLook k [(167, E_Ma_absJ)]), (fun k => mLook k []), (fun k => mLook k []), (fun k => mLook k []), (fun k => mLook k [(12, [false, false, false, false, true, false, true, false, false, false])]), (fun k => [39].any (Nat.beq k)), (1, 21, 0, 0), false, (fun _ => none))
set_option maxRecDepth 100000 in
set_option maxHeartbeats 4000000 in
theorem q_M_common_e (a0 : Int64) (a2 : Int64) (σ : MSto) (n : Nat) : mexe KT P_M_common (n + 1) (0, [some (mJ a0), none, some (mJ a2), none, none, none, none, none, none, none], [], σ, 0, 0) = mexe KT P_M_common n (12, [none, none, none, none, some (mJ (v_Ma_absJ a0 σ)), none, some (mJ (v_Ma_absJ a2 σ)), none, none, none], [], σ, 0, 0) := rfl
set_option maxRecDepth 100000 in
set_option maxHeartbeats 4000000 in
theorem q_M_common_12 (x4 : Int64) (x6 : Int64) (σ : MSto) (n : Nat) : mexe KT P_M_common (n + 1) (12, [none, none, none, none, some (mJ x4), none, some (mJ x6), none, none, none], [], σ, 0, 0) = mIf ((lg_cmp x6 0) = 0) (some (39, [], [(mJ x4)], σ, 0, 0)) (mG (¬ (x6 : Int64) = 0) (mexe KT P_M_common n (12, [none, none, none, none, some (mJ x6), none, some (mJ (x4 - x4 / x6 * x6)), none, none, none], [], σ, 0, 0))) := rfl
set_option maxRecDepth 100000 in
set_option maxHeartbeats 4000000 in
theorem d_M_common (a0 : Int64) (a2 : Int64) (σ : MSto) (hp : p_M_common a0 a2 σ) : mW1 P_M_common (0, [some (mJ a0), none, some (mJ a2), none, none, none, none, none, none, none], [], σ, 0, 0) (mF [39] [mJ (v_M_common a0 a2 σ)] σ 0 0) := by
  obtain ⟨ha, hb⟩ := hp
  refine mW1_eq (q_M_common_e _ _ _) ?_
  try simp only [bI_0]
  have e1 : v_Ma_absJ a0 σ = lN a0.toInt.natAbs := ab_lN ha
  have e2 : v_Ma_absJ a2 σ = lN a2.toInt.natAbs := ab_lN hb
  have r1 := fb_rngL a0
  have r2 := fb_rngL a2
  rw [e1, e2]
  refine mTr_k (mW1_loopD (ι := Nat × Nat) (fun s => (12, [none, none, none, none, some (mJ (lN s.1)), none, some (mJ (lN s.2)), none, none, none], [], σ, 0, 0)) (fun s => s.1 < 2 ^ 63 ∧ s.2 < 2 ^ 63 ∧ Nat.gcd s.1 s.2 = Nat.gcd a0.toInt.natAbs a2.toInt.natAbs) (fun s => s.2) (fun s hs hn => ?_) (a0.toInt.natAbs, a2.toInt.natAbs) ⟨by show a0.toInt.natAbs < _; omega, by show a2.toInt.natAbs < _; omega, rfl⟩)
  obtain ⟨x, y⟩ := s
  obtain ⟨h1, h2, h3⟩ := hs
  dsimp only at h1 h2 h3 ⊢
  refine mW1_eq (q_M_common_12 _ _ _) ?_
  refine mTr_if (fun g => ?_) (fun g => ?_)
  · have : y = 0 := (fb_lN_inj h2 (by omega)).mp (cmp_eq.mp g)
    subst this
    refine mTr_e (by decide) ?_ rfl (by decide) (by decide)
    unfold v_M_common
    rw [← h3, Nat.gcd_zero_right]
  · have hy : 0 < y := Nat.pos_of_ne_zero (fun e => g (cmp_eq.mpr (by rw [e]; rfl)))
    refine mTr_g (fun e => ?_) ?_
    · have := (fb_lN_inj h2 (by omega)).mp (show lN y = lN 0 from e)
      omega
    · rw [pk_lRem h1 hy h2]
      have hm := Nat.mod_lt x hy
      exact hn (y, x % y) ⟨h2, by show x % y < _; omega, by rw [← h3]; show Nat.gcd y (x % y) = Nat.gcd x y; rw [Nat.gcd_comm x y, Nat.gcd_rec y x, Nat.gcd_comm]⟩ hm

theorem tk_M_common : ∀ pc i nx tg, T_M_common pc = some (i, nx, tg) → mOkB prog_14_method_6_code pc i nx tg = true := code_ok (N := 40) (fun k h => by unfold T_M_common; rw [h]; rfl) (by decide +kernel)
theorem ok_M_common (l : Launch) : mPOK l "ClothWithManModel" prog_14_method_6_code P_M_common := by
  refine ⟨tk_M_common, ?_, ?_, ?_, (fun pc i nx tg kd _ h => by cases h), ?_, ?_, fun pc en h => by cases h⟩
  · intro x ci f ty fin h
    exact mLook_all (Q := fun x v => mFOK "ClothWithManModel" x v.1 v.2.1 v.2.2.1 v.2.2.2 ∧ (v.2.2.2 = true → pIni P_M_common = true → (Cond.fieldLink "ClothWithManModel" x (((mCl[v.1]?).getD ("", fun _ => ("", "", "", false), 0)).2.1 v.2.1).1 (((mCl[v.1]?).getD ("", fun _ => ("", "", "", false), 0)).2.1 v.2.1).2.1 (((mCl[v.1]?).getD ("", fun _ => ("", "", "", false), 0)).2.1 v.2.1).2.2.1 ∈ lw_tbl ∧ (((mCl[v.1]?).getD ("", fun _ => ("", "", "", false), 0)).2.1 v.2.1).1 = "ClothWithManModel"))) fcN x (ci, f, ty, fin) h
  · intro x
    have hh := mLook_all (l := ([] : List (Nat × (Int32 ⊕ Int64)))) (Q := fun x (v : Int32 ⊕ Int64) => (∀ w, v = .inl w → Cond.constant "ClothWithManModel" x w ∈ lw_tbl) ∧ (∀ w, v = .inr w → Cond.constantLong "ClothWithManModel" x w ∈ lw_tbl)) fcN x
    exact ⟨fun w h => (hh _ h).1 w rfl, fun w h => (hh _ h).2 w rfl⟩
  · exact fun x en h => mLook_all (Q := fun x en => mLink "ClothWithManModel" x en ∧ mCtr l en ∧ (en.1.1 = 2 → en.2.2.2.2.2.2 = none)) (fcC ⟨li_M_167, c_Ma_absJ l, (fun h => by cases h)⟩ fcN) x en h
  · exact fun x kd h => mLook_all (Q := fun x kd => (kd = 95 ∧ Cond.fieldLink "ClothWithManModel" x "ClothWithMan" "LIKENESSES" "[I" ∈ lw_tbl) ∨ (kd = 96 ∧ Cond.fieldLink "ClothWithManModel" x "ClothWithMan" "APART_BOUNDS" "[I" ∈ lw_tbl)) fcN x kd h
  · exact fun x ci h => mLook_all (Q := fun x ci => ci ≠ 0 ∧ ∃ (C : String) (T : u_T) (N : Nat), mCl[ci]? = some (C, T, N) ∧ Cond.classLink "ClothWithManModel" x C ∈ lw_tbl ∧ Cond.instantiable C N ∈ lw_tbl) fcN x ci h
set_option maxRecDepth 100000 in
theorem c_M_common (l : Launch) : mCtr l E_M_common := mCtr_of (P := P_M_common) (own := "ClothWithManModel") mLay_ok rfl (by decide +kernel) rfl (ok_M_common l) (fun h => by cases h) (fun as σ pr rv σ' hF hpr hlv => by
  unfold E_M_common S_M_common at hF
  simp only [] at hF
  split at hF
  · cases hF
    obtain ⟨n, pcF, c1, s1, g1, g2, g3, g4⟩ := mF_inv (d_M_common _ _ σ (hpr _ rfl))
    exact ⟨Nat.le_of_ble_eq_true rfl, (fun v h => by cases h; trivial), n, pcF, c1, s1, g1, mEnd_of (i := .lreturn) (P := P_M_common) (rets := [39]) rfl g2, g3, g4⟩
  · cases hF
    exact (hpr _ rfl).elim)
/-! ClothWithManModel.tellPart(JJ)V -/
def p_M_tellPart (a1 : Int64) (a3 : Int64) (σ : MSto) : Prop := ((p_M_common a1 a3 σ) ∧ ((¬ ((v_M_common a1 a3 σ) : Int64) = 0) ∧ ((p_M_tell (a1 / (v_M_common a1 a3 σ)) σ) ∧ ((¬ ((v_M_common a1 a3 σ) : Int64) = 0) ∧ (p_M_tell (a3 / (v_M_common a1 a3 σ)) (e_M_tell (a1 / (v_M_common a1 a3 σ)) σ))))))
noncomputable def e_M_tellPart (a1 : Int64) (a3 : Int64) (σ : MSto) : MSto := (e_M_tell (a3 / (v_M_common a1 a3 σ)) (e_M_tell (a1 / (v_M_common a1 a3 σ)) σ))
noncomputable def S_M_tellPart : List MV → MSto → Option Prop × Option MV × MSto := fun as σ => match as with
  | [.inr (.inr (some (13, 0))), .inr (.inl a0), .inr (.inl a1)] => (some (p_M_tellPart a0 a1 σ), none, e_M_tellPart a0 a1 σ)
  | _ => (some False, none, σ)
noncomputable def E_M_tellPart : MEnt := ((1, 2, 13), (2, 50, 0, 0), S_M_tellPart, ((⟨"ClothWithManModel", "tellPart", "(JJ)V"⟩ : MethodName), prog_14_method_7_code, 7, none))

def T_M_tellPart : Nat → Option (Instr × Nat × List Nat) := fun k => bif Nat.blt k 24 then (bif Nat.blt k 11 then (bif Nat.blt k 5 then (bif Nat.blt k 1 then (bif Nat.beq k 0 then some (.lload_n 1, 1, []) else none) else (bif Nat.blt k 2 then (bif Nat.beq k 1 then some (.lload_n 3, 2, []) else none) else (bif Nat.beq k 2 then some (.invokestatic 173, 5, []) else none))) else (bif Nat.blt k 8 then (bif Nat.blt k 7 then (bif Nat.beq k 5 then some (.lstore 5, 7, []) else none) else (bif Nat.beq k 7 then some (.aload_n 0, 8, []) else none)) else (bif Nat.blt k 9 then (bif Nat.beq k 8 then some (.lload_n 1, 9, []) else none) else (bif Nat.beq k 9 then some (.lload 5, 11, []) else none)))) else (bif Nat.blt k 17 then (bif Nat.blt k 15 then (bif Nat.blt k 12 then (bif Nat.beq k 11 then some (.ldiv, 12, []) else none) else (bif Nat.beq k 12 then some (.invokevirtual 177, 15, []) else none)) else (bif Nat.blt k 16 then (bif Nat.beq k 15 then some (.aload_n 0, 16, []) else none) else (bif Nat.beq k 16 then some (.lload_n 3, 17, []) else none))) else (bif Nat.blt k 20 then (bif Nat.blt k 19 then (bif Nat.beq k 17 then some (.lload 5, 19, []) else none) else (bif Nat.beq k 19 then some (.ldiv, 20, []) else none)) else (bif Nat.blt k 23 then (bif Nat.beq k 20 then some (.invokevirtual 177, 23, []) else none) else (bif Nat.beq k 23 then some (.return_, 24, []) else none))))) else none
noncomputable def P_M_tellPart : MP := (T_M_tellPart, (fun k => mLook k []), (fun k => mLook k []), (fun k => mLook k [(173, E_M_common), (177, E_M_tell)]), (fun k => mLook k []), (fun k => mLook k []), (fun k => mLook k []), (fun k => mLook k []), (fun k => [23].any (Nat.beq k)), (2, 50, 0, 0), false, (fun _ => none))
set_option maxRecDepth 100000 in
set_option maxHeartbeats 4000000 in
theorem q_M_tellPart_e (a1 : Int64) (a3 : Int64) (σ : MSto) (n : Nat) : mexe KT P_M_tellPart (n + 1) (0, [some (mR 13 0), some (mJ a1), none, some (mJ a3), none, none, none], [], σ, 0, 0) = mG (p_M_common a1 a3 σ) (mG (¬ ((v_M_common a1 a3 σ) : Int64) = 0) (mG (p_M_tell (a1 / (v_M_common a1 a3 σ)) σ) (mG (¬ ((v_M_common a1 a3 σ) : Int64) = 0) (mG (p_M_tell (a3 / (v_M_common a1 a3 σ)) (e_M_tell (a1 / (v_M_common a1 a3 σ)) σ)) (some (23, [], [], (e_M_tell (a3 / (v_M_common a1 a3 σ)) (e_M_tell (a1 / (v_M_common a1 a3 σ)) σ)), 0, 0)))))) := rfl
set_option maxRecDepth 100000 in
set_option maxHeartbeats 4000000 in
theorem d_M_tellPart (a1 : Int64) (a3 : Int64) (σ : MSto) (hp : p_M_tellPart a1 a3 σ) : mW1 P_M_tellPart (0, [some (mR 13 0), some (mJ a1), none, some (mJ a3), none, none, none], [], σ, 0, 0) (mF [23] [] (e_M_tellPart a1 a3 σ) 0 0) := by
  refine mW1_eq (q_M_tellPart_e _ _ _) ?_
  unfold p_M_tellPart at hp
  refine mTr_g hp.1 ?_
  have hp := hp.2
  refine mTr_g hp.1 ?_
  have hp := hp.2
  refine mTr_g hp.1 ?_
  have hp := hp.2
  refine mTr_g hp.1 ?_
  have hp := hp.2
  refine mTr_g hp ?_
  exact mTr_e (by decide) rfl (Eq.symm (rfl)) (by decide) (by decide)
theorem li_M_177 : mLink "ClothWithManModel" 177 E_M_tell := ⟨tw_7_87, tw_1_9, ⟨by decide, by decide⟩, by decide +kernel, Or.inl tw_7_84, (fun h => by cases h), (fun _ => ⟨tw_7_86, tw_0_60, TX12, 71, rfl⟩), (fun h => by cases h)⟩

theorem li_M_173 : mLink "ClothWithManModel" 173 E_M_common := ⟨tw_7_118, tw_1_9, ⟨by decide, by decide⟩, by decide +kernel, Or.inl tw_7_116, (fun _ => tw_7_117), (fun h => by cases h), (fun h => by cases h)⟩

theorem tk_M_tellPart : ∀ pc i nx tg, T_M_tellPart pc = some (i, nx, tg) → mOkB prog_14_method_7_code pc i nx tg = true := code_ok (N := 24) (fun k h => by unfold T_M_tellPart; rw [h]; rfl) (by decide +kernel)
theorem ok_M_tellPart (l : Launch) : mPOK l "ClothWithManModel" prog_14_method_7_code P_M_tellPart := by
  refine ⟨tk_M_tellPart, ?_, ?_, ?_, (fun pc i nx tg kd _ h => by cases h), ?_, ?_, fun pc en h => by cases h⟩
  · intro x ci f ty fin h
    exact mLook_all (Q := fun x v => mFOK "ClothWithManModel" x v.1 v.2.1 v.2.2.1 v.2.2.2 ∧ (v.2.2.2 = true → pIni P_M_tellPart = true → (Cond.fieldLink "ClothWithManModel" x (((mCl[v.1]?).getD ("", fun _ => ("", "", "", false), 0)).2.1 v.2.1).1 (((mCl[v.1]?).getD ("", fun _ => ("", "", "", false), 0)).2.1 v.2.1).2.1 (((mCl[v.1]?).getD ("", fun _ => ("", "", "", false), 0)).2.1 v.2.1).2.2.1 ∈ lw_tbl ∧ (((mCl[v.1]?).getD ("", fun _ => ("", "", "", false), 0)).2.1 v.2.1).1 = "ClothWithManModel"))) fcN x (ci, f, ty, fin) h
  · intro x
    have hh := mLook_all (l := ([] : List (Nat × (Int32 ⊕ Int64)))) (Q := fun x (v : Int32 ⊕ Int64) => (∀ w, v = .inl w → Cond.constant "ClothWithManModel" x w ∈ lw_tbl) ∧ (∀ w, v = .inr w → Cond.constantLong "ClothWithManModel" x w ∈ lw_tbl)) fcN x
    exact ⟨fun w h => (hh _ h).1 w rfl, fun w h => (hh _ h).2 w rfl⟩
  · exact fun x en h => mLook_all (Q := fun x en => mLink "ClothWithManModel" x en ∧ mCtr l en ∧ (en.1.1 = 2 → en.2.2.2.2.2.2 = none)) (fcC ⟨li_M_173, c_M_common l, (fun h => by cases h)⟩ (fcC ⟨li_M_177, c_M_tell l, (fun h => by cases h)⟩ fcN)) x en h
  · exact fun x kd h => mLook_all (Q := fun x kd => (kd = 95 ∧ Cond.fieldLink "ClothWithManModel" x "ClothWithMan" "LIKENESSES" "[I" ∈ lw_tbl) ∨ (kd = 96 ∧ Cond.fieldLink "ClothWithManModel" x "ClothWithMan" "APART_BOUNDS" "[I" ∈ lw_tbl)) fcN x kd h
  · exact fun x ci h => mLook_all (Q := fun x ci => ci ≠ 0 ∧ ∃ (C : String) (T : u_T) (N : Nat), mCl[ci]? = some (C, T, N) ∧ Cond.classLink "ClothWithManModel" x C ∈ lw_tbl ∧ Cond.instantiable C N ∈ lw_tbl) fcN x ci h
set_option maxRecDepth 100000 in
theorem c_M_tellPart (l : Launch) : mCtr l E_M_tellPart := mCtr_of (P := P_M_tellPart) (own := "ClothWithManModel") mLay_ok rfl (by decide +kernel) rfl (ok_M_tellPart l) (fun h => by cases h) (fun as σ pr rv σ' hF hpr hlv => by
  unfold E_M_tellPart S_M_tellPart at hF
  simp only [] at hF
  split at hF
  · cases hF
    obtain ⟨n, pcF, c1, s1, g1, g2, g3, g4⟩ := mF_inv (d_M_tellPart _ _ σ (hpr _ rfl))
    exact ⟨Nat.le_of_ble_eq_true rfl, (fun v h => by cases h), n, pcF, c1, s1, g1, mEnd_of (i := .return_) (P := P_M_tellPart) (rets := [23]) rfl g2, g3, g4⟩
  · cases hF
    exact (hpr _ rfl).elim)
/-! ClothWithManModel.isLess(JJJJ)Z -/
noncomputable def v_M_isLess (a b c d : Int64) (σ : MSto) : Int32 := bI (a.toInt * d.toInt < c.toInt * b.toInt)
def p_M_isLess (a b c d : Int64) (σ : MSto) : Prop := 0 ≤ a.toInt ∧ 0 < b.toInt ∧ 0 ≤ c.toInt ∧ 0 < d.toInt
theorem less_lo {p q r s : Nat} (hq : 0 < q) (hs : 0 < s) (h : p / q < r / s) : p * s < r * q := by
  have h1 : p < (p / q + 1) * q := by
    have := Nat.div_add_mod p q
    have := Nat.mod_lt p hq
    rw [Nat.add_mul, Nat.one_mul, Nat.mul_comm]; omega
  have h2 : (p / q + 1) * q ≤ r / s * q := Nat.mul_le_mul_right q h
  have h3 : r / s * s ≤ r := Nat.div_mul_le_self r s
  calc p * s < (r / s * q) * s := Nat.mul_lt_mul_of_pos_right (by omega) hs
    _ = (r / s * s) * q := by rw [Nat.mul_right_comm]
    _ ≤ r * q := Nat.mul_le_mul_right q h3
theorem less_eq {p q r s : Nat} (h : p / q = r / s) : p * s < r * q ↔ (p % q) * s < (r % s) * q := by
  have h1 : p = q * (p / q) + p % q := (Nat.div_add_mod p q).symm
  have h2 : r = s * (p / q) + r % s := by rw [h]; exact (Nat.div_add_mod r s).symm
  have e1 : p * s = q * (p / q) * s + (p % q) * s := by rw [← Nat.add_mul, ← h1]
  have e2 : r * q = s * (p / q) * q + (r % s) * q := by rw [← Nat.add_mul, ← h2]
  have e3 : q * (p / q) * s = s * (p / q) * q := by rw [Nat.mul_right_comm, Nat.mul_comm q s, Nat.mul_right_comm]
  omega
noncomputable def S_M_isLess : List MV → MSto → Option Prop × Option MV × MSto := fun as σ => match as with
  | [.inr (.inl a0), .inr (.inl a1), .inr (.inl a2), .inr (.inl a3)] => (some (p_M_isLess a0 a1 a2 a3 σ), some (mI (v_M_isLess a0 a1 a2 a3 σ)), σ)
  | _ => (some False, none, σ)
noncomputable def E_M_isLess : MEnt := ((0, 4, 13), (0, 0, 0, 0), S_M_isLess, ((⟨"ClothWithManModel", "isLess", "(JJJJ)Z"⟩ : MethodName), prog_14_method_65_code, 18, (some .boolean)))

def T_M_isLess : Nat → Option (Instr × Nat × List Nat) := fun k => bif Nat.blt k 105 then (bif Nat.blt k 52 then (bif Nat.blt k 25 then (bif Nat.blt k 12 then (bif Nat.blt k 4 then (bif Nat.blt k 1 then (bif Nat.beq k 0 then some (.lload_n 0, 1, []) else none) else (bif Nat.blt k 3 then (bif Nat.beq k 1 then some (.lstore 8, 3, []) else none) else (bif Nat.beq k 3 then some (.lload_n 2, 4, []) else none))) else (bif Nat.blt k 8 then (bif Nat.blt k 6 then (bif Nat.beq k 4 then some (.lstore 10, 6, []) else none) else (bif Nat.beq k 6 then some (.lload 4, 8, []) else none)) else (bif Nat.blt k 10 then (bif Nat.beq k 8 then some (.lstore 12, 10, []) else none) else (bif Nat.beq k 10 then some (.lload 6, 12, []) else none)))) else (bif Nat.blt k 19 then (bif Nat.blt k 16 then (bif Nat.blt k 14 then (bif Nat.beq k 12 then some (.lstore 14, 14, []) else none) else (bif Nat.beq k 14 then some (.lload 8, 16, []) else none)) else (bif Nat.blt k 18 then (bif Nat.beq k 16 then some (.lload 10, 18, []) else none) else (bif Nat.beq k 18 then some (.ldiv, 19, []) else none))) else (bif Nat.blt k 23 then (bif Nat.blt k 21 then (bif Nat.beq k 19 then some (.lload 12, 21, []) else none) else (bif Nat.beq k 21 then some (.lload 14, 23, []) else none)) else (bif Nat.blt k 24 then (bif Nat.beq k 23 then some (.ldiv, 24, []) else none) else (bif Nat.beq k 24 then some (.lcmp, 25, []) else none))))) else (bif Nat.blt k 38 then (bif Nat.blt k 32 then (bif Nat.blt k 28 then (bif Nat.beq k 25 then some (.ifCond .eq 23, 28, [48]) else none) else (bif Nat.blt k 30 then (bif Nat.beq k 28 then some (.lload 8, 30, []) else none) else (bif Nat.beq k 30 then some (.lload 10, 32, []) else none))) else (bif Nat.blt k 35 then (bif Nat.blt k 33 then (bif Nat.beq k 32 then some (.ldiv, 33, []) else none) else (bif Nat.beq k 33 then some (.lload 12, 35, []) else none)) else (bif Nat.blt k 37 then (bif Nat.beq k 35 then some (.lload 14, 37, []) else none) else (bif Nat.beq k 37 then some (.ldiv, 38, []) else none)))) else (bif Nat.blt k 46 then (bif Nat.blt k 42 then (bif Nat.blt k 39 then (bif Nat.beq k 38 then some (.lcmp, 39, []) else none) else (bif Nat.beq k 39 then some (.ifCond .ge 7, 42, [46]) else none)) else (bif Nat.blt k 43 then (bif Nat.beq k 42 then some (.iconst 1, 43, []) else none) else (bif Nat.beq k 43 then some (.goto 4, 46, [47]) else none))) else (bif Nat.blt k 48 then (bif Nat.blt k 47 then (bif Nat.beq k 46 then some (.iconst 0, 47, []) else none) else (bif Nat.beq k 47 then some (.ireturn, 48, []) else none)) else (bif Nat.blt k 50 then (bif Nat.beq k 48 then some (.lload 8, 50, []) else none) else (bif Nat.beq k 50 then some (.lload 10, 52, []) else none)))))) else (bif Nat.blt k 75 then (bif Nat.blt k 64 then (bif Nat.blt k 57 then (bif Nat.blt k 53 then (bif Nat.beq k 52 then some (.lrem, 53, []) else none) else (bif Nat.blt k 55 then (bif Nat.beq k 53 then some (.lstore 8, 55, []) else none) else (bif Nat.beq k 55 then some (.lload 12, 57, []) else none))) else (bif Nat.blt k 60 then (bif Nat.blt k 59 then (bif Nat.beq k 57 then some (.lload 14, 59, []) else none) else (bif Nat.beq k 59 then some (.lrem, 60, []) else none)) else (bif Nat.blt k 62 then (bif Nat.beq k 60 then some (.lstore 12, 62, []) else none) else (bif Nat.beq k 62 then some (.lload 12, 64, []) else none)))) else (bif Nat.blt k 70 then (bif Nat.blt k 66 then (bif Nat.blt k 65 then (bif Nat.beq k 64 then some (.lconst 0, 65, []) else none) else (bif Nat.beq k 65 then some (.lcmp, 66, []) else none)) else (bif Nat.blt k 69 then (bif Nat.beq k 66 then some (.ifCond .ne 5, 69, [71]) else none) else (bif Nat.beq k 69 then some (.iconst 0, 70, []) else none))) else (bif Nat.blt k 73 then (bif Nat.blt k 71 then (bif Nat.beq k 70 then some (.ireturn, 71, []) else none) else (bif Nat.beq k 71 then some (.lload 8, 73, []) else none)) else (bif Nat.blt k 74 then (bif Nat.beq k 73 then some (.lconst 0, 74, []) else none) else (bif Nat.beq k 74 then some (.lcmp, 75, []) else none))))) else (bif Nat.blt k 90 then (bif Nat.blt k 82 then (bif Nat.blt k 79 then (bif Nat.blt k 78 then (bif Nat.beq k 75 then some (.ifCond .ne 5, 78, [80]) else none) else (bif Nat.beq k 78 then some (.iconst 1, 79, []) else none)) else (bif Nat.blt k 80 then (bif Nat.beq k 79 then some (.ireturn, 80, []) else none) else (bif Nat.beq k 80 then some (.lload 8, 82, []) else none))) else (bif Nat.blt k 86 then (bif Nat.blt k 84 then (bif Nat.beq k 82 then some (.lstore 16, 84, []) else none) else (bif Nat.beq k 84 then some (.lload 14, 86, []) else none)) else (bif Nat.blt k 88 then (bif Nat.beq k 86 then some (.lstore 8, 88, []) else none) else (bif Nat.beq k 88 then some (.lload 16, 90, []) else none)))) else (bif Nat.blt k 98 then (bif Nat.blt k 94 then (bif Nat.blt k 92 then (bif Nat.beq k 90 then some (.lstore 14, 92, []) else none) else (bif Nat.beq k 92 then some (.lload 10, 94, []) else none)) else (bif Nat.blt k 96 then (bif Nat.beq k 94 then some (.lstore 16, 96, []) else none) else (bif Nat.beq k 96 then some (.lload 12, 98, []) else none))) else (bif Nat.blt k 102 then (bif Nat.blt k 100 then (bif Nat.beq k 98 then some (.lstore 10, 100, []) else none) else (bif Nat.beq k 100 then some (.lload 16, 102, []) else none)) else (bif Nat.blt k 104 then (bif Nat.beq k 102 then some (.lstore 12, 104, []) else none) else (bif Nat.beq k 104 then some (.goto (-90), 107, [14]) else none))))))) else none
noncomputable def P_M_isLess : MP := (T_M_isLess, (fun k => mLook k []), (fun k => mLook k []), (fun k => mLook k []), (fun k => mLook k []), (fun k => mLook k []), (fun k => mLook k []), (fun k => mLook k [(14, [false, false, false, false, false, false, false, false, true, false, true, false, true, false, true, false, false, false])]), (fun k => [47, 70, 79].any (Nat.beq k)), (0, 0, 0, 0), false, (fun _ => none))
set_option maxRecDepth 100000 in
set_option maxHeartbeats 4000000 in
theorem q_M_isLess_e (a0 : Int64) (a2 : Int64) (a4 : Int64) (a6 : Int64) (σ : MSto) (n : Nat) : mexe KT P_M_isLess (n + 1) (0, [some (mJ a0), none, some (mJ a2), none, some (mJ a4), none, some (mJ a6), none, none, none, none, none, none, none, none, none, none, none], [], σ, 0, 0) = mexe KT P_M_isLess n (14, [none, none, none, none, none, none, none, none, some (mJ a0), none, some (mJ a2), none, some (mJ a4), none, some (mJ a6), none, none, none], [], σ, 0, 0) := rfl
set_option maxRecDepth 100000 in
set_option maxHeartbeats 4000000 in
theorem q_M_isLess_14 (x8 : Int64) (x10 : Int64) (x12 : Int64) (x14 : Int64) (σ : MSto) (n : Nat) : mexe KT P_M_isLess (n + 1) (14, [none, none, none, none, none, none, none, none, some (mJ x8), none, some (mJ x10), none, some (mJ x12), none, some (mJ x14), none, none, none], [], σ, 0, 0) = mG (¬ (x10 : Int64) = 0) (mG (¬ (x14 : Int64) = 0) (mIf ((lg_cmp (x8 / x10) (x12 / x14)) = 0) (mG (¬ (x10 : Int64) = 0) (mG (¬ (x14 : Int64) = 0) (mIf ((lg_cmp (x12 - x12 / x14 * x14) 0) = 0) (some (70, [], [(mI 0)], σ, 0, 0)) (mIf ((lg_cmp (x8 - x8 / x10 * x10) 0) = 0) (some (79, [], [(mI 1)], σ, 0, 0)) (mexe KT P_M_isLess n (14, [none, none, none, none, none, none, none, none, some (mJ x14), none, some (mJ (x12 - x12 / x14 * x14)), none, some (mJ x10), none, some (mJ (x8 - x8 / x10 * x10)), none, none, none], [], σ, 0, 0)))))) (mG (¬ (x10 : Int64) = 0) (mG (¬ (x14 : Int64) = 0) (mIf (0 ≤ (lg_cmp (x8 / x10) (x12 / x14))) (some (47, [], [(mI 0)], σ, 0, 0)) (some (47, [], [(mI 1)], σ, 0, 0))))))) := rfl
set_option maxRecDepth 100000 in
set_option maxHeartbeats 4000000 in
theorem d_M_isLess (a0 : Int64) (a2 : Int64) (a4 : Int64) (a6 : Int64) (σ : MSto) (hp : p_M_isLess a0 a2 a4 a6 σ) : mW1 P_M_isLess (0, [some (mJ a0), none, some (mJ a2), none, some (mJ a4), none, some (mJ a6), none, none, none, none, none, none, none, none, none, none, none], [], σ, 0, 0) (mF [47, 70, 79] [mI (v_M_isLess a0 a2 a4 a6 σ)] σ 0 0) := by
  obtain ⟨ha, hb, hc, hd⟩ := hp
  have r1 := fb_rngL a0
  have r2 := fb_rngL a2
  have r3 := fb_rngL a4
  have r4 := fb_rngL a6
  have n1 : ∃ n : Nat, a0 = lN n ∧ (n : Int) = a0.toInt := ⟨a0.toInt.toNat, by rw [← Int64.toInt_inj, pk_lT (by omega)]; omega, by omega⟩
  have n2 : ∃ n : Nat, a2 = lN n ∧ (n : Int) = a2.toInt := ⟨a2.toInt.toNat, by rw [← Int64.toInt_inj, pk_lT (by omega)]; omega, by omega⟩
  have n3 : ∃ n : Nat, a4 = lN n ∧ (n : Int) = a4.toInt := ⟨a4.toInt.toNat, by rw [← Int64.toInt_inj, pk_lT (by omega)]; omega, by omega⟩
  have n4 : ∃ n : Nat, a6 = lN n ∧ (n : Int) = a6.toInt := ⟨a6.toInt.toNat, by rw [← Int64.toInt_inj, pk_lT (by omega)]; omega, by omega⟩
  obtain ⟨p, e1, f1⟩ := n1
  obtain ⟨q, e2, f2⟩ := n2
  obtain ⟨r, e3, f3⟩ := n3
  obtain ⟨s, e4, f4⟩ := n4
  have hv : v_M_isLess a0 a2 a4 a6 σ = bI (p * s < r * q) := by
    unfold v_M_isLess
    rw [← f1, ← f2, ← f3, ← f4]
    refine bI_congr ?_
    constructor
    · intro h; exact Int.ofNat_lt.mp (by rw [Int.natCast_mul, Int.natCast_mul]; exact h)
    · intro h; have := Int.ofNat_lt.mpr h; rw [Int.natCast_mul, Int.natCast_mul] at this; exact this
  rw [hv, e1, e2, e3, e4]
  refine mW1_eq (q_M_isLess_e _ _ _ _ _) ?_
  try simp only [bI_0]
  refine mTr_k (mW1_loopD (ι := Nat × Nat × Nat × Nat) (fun t => (14, [none, none, none, none, none, none, none, none, some (mJ (lN t.1)), none, some (mJ (lN t.2.1)), none, some (mJ (lN t.2.2.1)), none, some (mJ (lN t.2.2.2)), none, none, none], [], σ, 0, 0)) (fun t => t.1 < 2 ^ 63 ∧ t.2.1 < 2 ^ 63 ∧ t.2.2.1 < 2 ^ 63 ∧ t.2.2.2 < 2 ^ 63 ∧ 0 < t.2.1 ∧ 0 < t.2.2.2 ∧ (t.1 * t.2.2.2 < t.2.2.1 * t.2.1 ↔ p * s < r * q)) (fun t => t.2.1 + t.2.2.2) (fun t ht hn => ?_) (p, q, r, s) ⟨by show p < _; omega, by show q < _; omega, by show r < _; omega, by show s < _; omega, by show 0 < q; omega, by show 0 < s; omega, Iff.rfl⟩)
  obtain ⟨x, y, z, w⟩ := t
  obtain ⟨h1, h2, h3, h4, h5, h6, h7⟩ := ht
  dsimp only at h1 h2 h3 h4 h5 h6 h7 ⊢
  refine mW1_eq (q_M_isLess_14 _ _ _ _ _) ?_
  have zy : ¬ lN y = 0 := fun e => by have := (fb_lN_inj h2 (by omega)).mp (show lN y = lN 0 from e); omega
  have zw : ¬ lN w = 0 := fun e => by have := (fb_lN_inj h4 (by omega)).mp (show lN w = lN 0 from e); omega
  have q1 : x / y < 2 ^ 63 := Nat.lt_of_le_of_lt (Nat.div_le_self _ _) h1
  have q2 : z / w < 2 ^ 63 := Nat.lt_of_le_of_lt (Nat.div_le_self _ _) h3
  have m1 := Nat.mod_lt x h5
  have m2 := Nat.mod_lt z h6
  rw [pk_lRem h1 h5 h2, pk_lRem h3 h6 h4, pk_lDiv h1 h5 h2, pk_lDiv h3 h6 h4]
  refine mTr_g zy (mTr_g zw ?_)
  refine mTr_if (fun g => ?_) (fun g => ?_)
  · have ge : x / y = z / w := (fb_lN_inj q1 q2).mp (cmp_eq.mp g)
    have LE := less_eq ge
    refine mTr_g zy (mTr_g zw ?_)
    refine mTr_if (fun g2 => ?_) (fun g2 => ?_)
    · have e0 : z % w = 0 := (fb_lN_inj (by omega) (by omega)).mp (show lN (z % w) = lN 0 from cmp_eq.mp g2)
      refine mTr_e (by decide) ?_ rfl (by decide) (by decide)
      rw [bI_f (fun h => ?_)]
      rw [← h7, LE, e0] at h
      omega
    · have p0 : 0 < z % w := Nat.pos_of_ne_zero (fun e => g2 (cmp_eq.mpr (by rw [e]; rfl)))
      refine mTr_if (fun g3 => ?_) (fun g3 => ?_)
      · have e0 : x % y = 0 := (fb_lN_inj (by omega) (by omega)).mp (show lN (x % y) = lN 0 from cmp_eq.mp g3)
        refine mTr_e (by decide) ?_ rfl (by decide) (by decide)
        rw [bI_t]
        rw [← h7, LE, e0, Nat.zero_mul]
        exact Nat.mul_pos p0 h5
      · have p1 : 0 < x % y := Nat.pos_of_ne_zero (fun e => g3 (cmp_eq.mpr (by rw [e]; rfl)))
        refine hn (w, z % w, y, x % y) ⟨h4, by show z % w < _; omega, h2, by show x % y < _; omega, p0, p1, ?_⟩ (by show z % w + x % y < y + w; omega)
        rw [← h7, LE]
        show w * (x % y) < y * (z % w) ↔ _
        rw [Nat.mul_comm w, Nat.mul_comm y]
  · have gn : x / y ≠ z / w := fun e => g (cmp_eq.mpr (by rw [e]))
    refine mTr_g zy (mTr_g zw ?_)
    refine mTr_if (fun g2 => ?_) (fun g2 => ?_)
    · have gl : z / w ≤ x / y := (pk_lLE q2 q1).mp (cmp_ge.mp g2)
      refine mTr_e (by decide) ?_ rfl (by decide) (by decide)
      rw [bI_f (fun h => ?_)]
      have := less_lo h6 h5 (show z / w < x / y by omega)
      rw [← h7] at h
      omega
    · have gl : ¬ z / w ≤ x / y := fun h => g2 (cmp_ge.mpr ((pk_lLE q2 q1).mpr h))
      refine mTr_e (by decide) ?_ rfl (by decide) (by decide)
      rw [bI_t]
      rw [← h7]
      exact less_lo h5 h6 (by omega)
theorem tk_M_isLess : ∀ pc i nx tg, T_M_isLess pc = some (i, nx, tg) → mOkB prog_14_method_65_code pc i nx tg = true := code_ok (N := 105) (fun k h => by unfold T_M_isLess; rw [h]; rfl) (by decide +kernel)
theorem ok_M_isLess (l : Launch) : mPOK l "ClothWithManModel" prog_14_method_65_code P_M_isLess := by
  refine ⟨tk_M_isLess, ?_, ?_, ?_, (fun pc i nx tg kd _ h => by cases h), ?_, ?_, fun pc en h => by cases h⟩
  · intro x ci f ty fin h
    exact mLook_all (Q := fun x v => mFOK "ClothWithManModel" x v.1 v.2.1 v.2.2.1 v.2.2.2 ∧ (v.2.2.2 = true → pIni P_M_isLess = true → (Cond.fieldLink "ClothWithManModel" x (((mCl[v.1]?).getD ("", fun _ => ("", "", "", false), 0)).2.1 v.2.1).1 (((mCl[v.1]?).getD ("", fun _ => ("", "", "", false), 0)).2.1 v.2.1).2.1 (((mCl[v.1]?).getD ("", fun _ => ("", "", "", false), 0)).2.1 v.2.1).2.2.1 ∈ lw_tbl ∧ (((mCl[v.1]?).getD ("", fun _ => ("", "", "", false), 0)).2.1 v.2.1).1 = "ClothWithManModel"))) fcN x (ci, f, ty, fin) h
  · intro x
    have hh := mLook_all (l := ([] : List (Nat × (Int32 ⊕ Int64)))) (Q := fun x (v : Int32 ⊕ Int64) => (∀ w, v = .inl w → Cond.constant "ClothWithManModel" x w ∈ lw_tbl) ∧ (∀ w, v = .inr w → Cond.constantLong "ClothWithManModel" x w ∈ lw_tbl)) fcN x
    exact ⟨fun w h => (hh _ h).1 w rfl, fun w h => (hh _ h).2 w rfl⟩
  · exact fun x en h => mLook_all (Q := fun x en => mLink "ClothWithManModel" x en ∧ mCtr l en ∧ (en.1.1 = 2 → en.2.2.2.2.2.2 = none)) fcN x en h
  · exact fun x kd h => mLook_all (Q := fun x kd => (kd = 95 ∧ Cond.fieldLink "ClothWithManModel" x "ClothWithMan" "LIKENESSES" "[I" ∈ lw_tbl) ∨ (kd = 96 ∧ Cond.fieldLink "ClothWithManModel" x "ClothWithMan" "APART_BOUNDS" "[I" ∈ lw_tbl)) fcN x kd h
  · exact fun x ci h => mLook_all (Q := fun x ci => ci ≠ 0 ∧ ∃ (C : String) (T : u_T) (N : Nat), mCl[ci]? = some (C, T, N) ∧ Cond.classLink "ClothWithManModel" x C ∈ lw_tbl ∧ Cond.instantiable C N ∈ lw_tbl) fcN x ci h
set_option maxRecDepth 100000 in
theorem c_M_isLess (l : Launch) : mCtr l E_M_isLess := mCtr_of (P := P_M_isLess) (own := "ClothWithManModel") mLay_ok rfl (by decide +kernel) rfl (ok_M_isLess l) (fun h => by cases h) (fun as σ pr rv σ' hF hpr hlv => by
  unfold E_M_isLess S_M_isLess at hF
  simp only [] at hF
  split at hF
  · cases hF
    obtain ⟨n, pcF, c1, s1, g1, g2, g3, g4⟩ := mF_inv (d_M_isLess _ _ _ _ σ (hpr _ rfl))
    exact ⟨Nat.le_of_ble_eq_true rfl, (fun v h => by cases h; trivial), n, pcF, c1, s1, g1, ⟨mEnd_of (i := .ireturn) (P := P_M_isLess) (rets := [47, 70, 79]) rfl g2, bI_narrow _⟩, g3, g4⟩
  · cases hF
    exact (hpr _ rfl).elim)

