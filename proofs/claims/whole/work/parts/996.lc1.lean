/-! the law: cases -/
set_option maxRecDepth 100000 in
set_option maxHeartbeats 4000000 in
theorem q_L_846 (x4 : Int32) (σ : MSto) (k : MK) : mrun KT P_L k 600 (846, [some (mR 97 0), some (mR 12 0), some (mR 13 0), some (mR 98 0), some (mI x4), none, none, none], [], σ, 0, 0) = mG (vp_in (x4 + 1) (gI σ 97 1 0).toNatClampNeg) (mG (vp_in (x4 + 2) (gI σ 97 1 0).toNatClampNeg) (mG (p_C_count (gI σ 97 0 (Int32.toNatClampNeg (x4 + 1))) (gI σ 97 0 (Int32.toNatClampNeg (x4 + 2))) σ) (mG (vp_in (x4 + 1) (gI (e_C_count (gI σ 97 0 (Int32.toNatClampNeg (x4 + 1))) (gI σ 97 0 (Int32.toNatClampNeg (x4 + 2))) σ) 97 1 0).toNatClampNeg) (mG (vp_in (x4 + 2) (gI (e_C_count (gI σ 97 0 (Int32.toNatClampNeg (x4 + 1))) (gI σ 97 0 (Int32.toNatClampNeg (x4 + 2))) σ) 97 1 0).toNatClampNeg) (mG (p_M_count (gI (e_C_count (gI σ 97 0 (Int32.toNatClampNeg (x4 + 1))) (gI σ 97 0 (Int32.toNatClampNeg (x4 + 2))) σ) 97 0 (Int32.toNatClampNeg (x4 + 1))) (gI (e_C_count (gI σ 97 0 (Int32.toNatClampNeg (x4 + 1))) (gI σ 97 0 (Int32.toNatClampNeg (x4 + 2))) σ) 97 0 (Int32.toNatClampNeg (x4 + 2))) (e_C_count (gI σ 97 0 (Int32.toNatClampNeg (x4 + 1))) (gI σ 97 0 (Int32.toNatClampNeg (x4 + 2))) σ)) (mIf ((v_C_count (gI σ 97 0 (Int32.toNatClampNeg (x4 + 1))) (gI σ 97 0 (Int32.toNatClampNeg (x4 + 2))) σ) = (v_M_count (gI (e_C_count (gI σ 97 0 (Int32.toNatClampNeg (x4 + 1))) (gI σ 97 0 (Int32.toNatClampNeg (x4 + 2))) σ) 97 0 (Int32.toNatClampNeg (x4 + 1))) (gI (e_C_count (gI σ 97 0 (Int32.toNatClampNeg (x4 + 1))) (gI σ 97 0 (Int32.toNatClampNeg (x4 + 2))) σ) 97 0 (Int32.toNatClampNeg (x4 + 2))) (e_C_count (gI σ 97 0 (Int32.toNatClampNeg (x4 + 1))) (gI σ 97 0 (Int32.toNatClampNeg (x4 + 2))) σ))) (k (2235, [some (mR 97 0), some (mR 12 0), some (mR 13 0), some (mR 98 0), some (mI x4), none, none, none], [], (e_M_count (gI (e_C_count (gI σ 97 0 (Int32.toNatClampNeg (x4 + 1))) (gI σ 97 0 (Int32.toNatClampNeg (x4 + 2))) σ) 97 0 (Int32.toNatClampNeg (x4 + 1))) (gI (e_C_count (gI σ 97 0 (Int32.toNatClampNeg (x4 + 1))) (gI σ 97 0 (Int32.toNatClampNeg (x4 + 2))) σ) 97 0 (Int32.toNatClampNeg (x4 + 2))) (e_C_count (gI σ 97 0 (Int32.toNatClampNeg (x4 + 1))) (gI σ 97 0 (Int32.toNatClampNeg (x4 + 2))) σ)), 0, 0)) (none))))))) := rfl
theorem Lp_846 {L i : Nat} {σ : MSto} (hI : LInv L σ) (hL : L ≤ 3584) (hi : i + 7 ≤ L) : LGo L 846 i σ := by
  obtain ⟨hC, h104, hLn⟩ := hI
  have w1 := lvp (c := 1) hLn hL hi (by omega)
  have w2 := lvp (c := 2) hLn hL hi (by omega)
  have run := q_L_846 (nI i) σ (fun st => some st)
  have wC := w_C_count (gI σ 97 0 (Int32.toNatClampNeg (nI i + 1))) (gI σ 97 0 (Int32.toNatClampNeg (nI i + 2))) σ
  have n1 : gN (e_C_count (gI σ 97 0 (Int32.toNatClampNeg (nI i + 1))) (gI σ 97 0 (Int32.toNatClampNeg (nI i + 2))) σ) 104 = 0 := (wC.n (k := 104) rfl).trans h104
  have hC1 := Cpl.rt hC wC rfl
  have f1 : ∀ j, gI (e_C_count (gI σ 97 0 (Int32.toNatClampNeg (nI i + 1))) (gI σ 97 0 (Int32.toNatClampNeg (nI i + 2))) σ) 97 0 j = gI σ 97 0 j := fun j => wC.i rfl
  have f2 : gI (e_C_count (gI σ 97 0 (Int32.toNatClampNeg (nI i + 1))) (gI σ 97 0 (Int32.toNatClampNeg (nI i + 2))) σ) 97 1 0 = gI σ 97 1 0 := wC.i rfl
  obtain ⟨pC, pM, hv, hC2⟩ := T_count hC1 (gI σ 97 0 (Int32.toNatClampNeg (nI i + 1))) (gI σ 97 0 (Int32.toNatClampNeg (nI i + 2)))
  have wM := w_M_count (gI σ 97 0 (Int32.toNatClampNeg (nI i + 1))) (gI σ 97 0 (Int32.toNatClampNeg (nI i + 2))) (e_C_count (gI σ 97 0 (Int32.toNatClampNeg (nI i + 1))) (gI σ 97 0 (Int32.toNatClampNeg (nI i + 2))) σ)
  simp only [f1, f2, mG_t w1, mG_t w2, mG_t pC, mG_t pM, mIf_t hv] at run
  exact ⟨_, _, _, ⟨Cpl.lt hC2 wM rfl, (wM.n (k := 104) rfl).trans n1, ((wM.i (k := 97) rfl).trans f2).trans hLn⟩, by decide, by decide, run⟩

set_option maxRecDepth 100000 in
set_option maxHeartbeats 4000000 in
theorem q_L_995 (x4 : Int32) (σ : MSto) (k : MK) : mrun KT P_L k 600 (995, [some (mR 97 0), some (mR 12 0), some (mR 13 0), some (mR 98 0), some (mI x4), none, none, none], [], σ, 0, 0) = mG (vp_in (x4 + 1) (gI σ 97 1 0).toNatClampNeg) (mG (vp_in (x4 + 2) (gI σ 97 1 0).toNatClampNeg) (mG (vp_in (x4 + 3) (gI σ 97 1 0).toNatClampNeg) (mG (p_C_likeness (gI σ 97 0 (Int32.toNatClampNeg (x4 + 1))) (gI σ 97 0 (Int32.toNatClampNeg (x4 + 2))) (gI σ 97 0 (Int32.toNatClampNeg (x4 + 3))) σ) (mG (vp_in (x4 + 1) (gI σ 97 1 0).toNatClampNeg) (mG (vp_in (x4 + 2) (gI σ 97 1 0).toNatClampNeg) (mG (vp_in (x4 + 3) (gI σ 97 1 0).toNatClampNeg) (mG (p_M_likeness (gI σ 97 0 (Int32.toNatClampNeg (x4 + 1))) (gI σ 97 0 (Int32.toNatClampNeg (x4 + 2))) (gI σ 97 0 (Int32.toNatClampNeg (x4 + 3))) σ) (mIf ((v_C_likeness (gI σ 97 0 (Int32.toNatClampNeg (x4 + 1))) (gI σ 97 0 (Int32.toNatClampNeg (x4 + 2))) (gI σ 97 0 (Int32.toNatClampNeg (x4 + 3))) σ) = (v_M_likeness (gI σ 97 0 (Int32.toNatClampNeg (x4 + 1))) (gI σ 97 0 (Int32.toNatClampNeg (x4 + 2))) (gI σ 97 0 (Int32.toNatClampNeg (x4 + 3))) σ)) (k (2235, [some (mR 97 0), some (mR 12 0), some (mR 13 0), some (mR 98 0), some (mI x4), none, none, none], [], (e_M_likeness (gI σ 97 0 (Int32.toNatClampNeg (x4 + 1))) (gI σ 97 0 (Int32.toNatClampNeg (x4 + 2))) (gI σ 97 0 (Int32.toNatClampNeg (x4 + 3))) σ), 0, 0)) (none))))))))) := rfl
theorem Lp_995 {L i : Nat} {σ : MSto} (hI : LInv L σ) (hL : L ≤ 3584) (hi : i + 7 ≤ L) : LGo L 995 i σ := by
  obtain ⟨hC, h104, hLn⟩ := hI
  have w1 := lvp (c := 1) hLn hL hi (by omega)
  have w2 := lvp (c := 2) hLn hL hi (by omega)
  have w3 := lvp (c := 3) hLn hL hi (by omega)
  have run := q_L_995 (nI i) σ (fun st => some st)
  have hC1 := hC
  have f2 : gI σ 97 1 0 = gI σ 97 1 0 := rfl
  have n1 := h104
  obtain ⟨pC, pM, hv, hC2⟩ := T_likeness hC1 (gI σ 97 0 (Int32.toNatClampNeg (nI i + 1))) (gI σ 97 0 (Int32.toNatClampNeg (nI i + 2))) (gI σ 97 0 (Int32.toNatClampNeg (nI i + 3)))
  have wM := w_M_likeness (gI σ 97 0 (Int32.toNatClampNeg (nI i + 1))) (gI σ 97 0 (Int32.toNatClampNeg (nI i + 2))) (gI σ 97 0 (Int32.toNatClampNeg (nI i + 3))) σ
  simp only [mG_t w1, mG_t w2, mG_t w3, mG_t pC, mG_t pM, mIf_t hv] at run
  exact ⟨_, _, _, ⟨Cpl.lt hC2 wM rfl, (wM.n (k := 104) rfl).trans n1, ((wM.i (k := 97) rfl).trans f2).trans hLn⟩, by decide, by decide, run⟩

set_option maxRecDepth 100000 in
set_option maxHeartbeats 4000000 in
theorem q_L_1044 (x4 : Int32) (σ : MSto) (k : MK) : mrun KT P_L k 600 (1044, [some (mR 97 0), some (mR 12 0), some (mR 13 0), some (mR 98 0), some (mI x4), none, none, none], [], σ, 0, 0) = mG (vp_in (x4 + 1) (gI σ 97 1 0).toNatClampNeg) (mG (vp_in (x4 + 2) (gI σ 97 1 0).toNatClampNeg) (mG (p_C_years (gI σ 97 0 (Int32.toNatClampNeg (x4 + 1))) (gI σ 97 0 (Int32.toNatClampNeg (x4 + 2))) σ) (mG (vp_in (x4 + 1) (gI (e_C_years (gI σ 97 0 (Int32.toNatClampNeg (x4 + 1))) (gI σ 97 0 (Int32.toNatClampNeg (x4 + 2))) σ) 97 1 0).toNatClampNeg) (mG (vp_in (x4 + 2) (gI (e_C_years (gI σ 97 0 (Int32.toNatClampNeg (x4 + 1))) (gI σ 97 0 (Int32.toNatClampNeg (x4 + 2))) σ) 97 1 0).toNatClampNeg) (mG (p_M_years (gI (e_C_years (gI σ 97 0 (Int32.toNatClampNeg (x4 + 1))) (gI σ 97 0 (Int32.toNatClampNeg (x4 + 2))) σ) 97 0 (Int32.toNatClampNeg (x4 + 1))) (gI (e_C_years (gI σ 97 0 (Int32.toNatClampNeg (x4 + 1))) (gI σ 97 0 (Int32.toNatClampNeg (x4 + 2))) σ) 97 0 (Int32.toNatClampNeg (x4 + 2))) (e_C_years (gI σ 97 0 (Int32.toNatClampNeg (x4 + 1))) (gI σ 97 0 (Int32.toNatClampNeg (x4 + 2))) σ)) (mIf ((v_C_years (gI σ 97 0 (Int32.toNatClampNeg (x4 + 1))) (gI σ 97 0 (Int32.toNatClampNeg (x4 + 2))) σ) = (v_M_years (gI (e_C_years (gI σ 97 0 (Int32.toNatClampNeg (x4 + 1))) (gI σ 97 0 (Int32.toNatClampNeg (x4 + 2))) σ) 97 0 (Int32.toNatClampNeg (x4 + 1))) (gI (e_C_years (gI σ 97 0 (Int32.toNatClampNeg (x4 + 1))) (gI σ 97 0 (Int32.toNatClampNeg (x4 + 2))) σ) 97 0 (Int32.toNatClampNeg (x4 + 2))) (e_C_years (gI σ 97 0 (Int32.toNatClampNeg (x4 + 1))) (gI σ 97 0 (Int32.toNatClampNeg (x4 + 2))) σ))) (k (2235, [some (mR 97 0), some (mR 12 0), some (mR 13 0), some (mR 98 0), some (mI x4), none, none, none], [], (e_M_years (gI (e_C_years (gI σ 97 0 (Int32.toNatClampNeg (x4 + 1))) (gI σ 97 0 (Int32.toNatClampNeg (x4 + 2))) σ) 97 0 (Int32.toNatClampNeg (x4 + 1))) (gI (e_C_years (gI σ 97 0 (Int32.toNatClampNeg (x4 + 1))) (gI σ 97 0 (Int32.toNatClampNeg (x4 + 2))) σ) 97 0 (Int32.toNatClampNeg (x4 + 2))) (e_C_years (gI σ 97 0 (Int32.toNatClampNeg (x4 + 1))) (gI σ 97 0 (Int32.toNatClampNeg (x4 + 2))) σ)), 0, 0)) (none))))))) := rfl
theorem Lp_1044 {L i : Nat} {σ : MSto} (hI : LInv L σ) (hL : L ≤ 3584) (hi : i + 7 ≤ L) : LGo L 1044 i σ := by
  obtain ⟨hC, h104, hLn⟩ := hI
  have w1 := lvp (c := 1) hLn hL hi (by omega)
  have w2 := lvp (c := 2) hLn hL hi (by omega)
  have run := q_L_1044 (nI i) σ (fun st => some st)
  have wC := w_C_years (gI σ 97 0 (Int32.toNatClampNeg (nI i + 1))) (gI σ 97 0 (Int32.toNatClampNeg (nI i + 2))) σ
  have n1 : gN (e_C_years (gI σ 97 0 (Int32.toNatClampNeg (nI i + 1))) (gI σ 97 0 (Int32.toNatClampNeg (nI i + 2))) σ) 104 = 0 := (wC.n (k := 104) rfl).trans h104
  have hC1 := Cpl.rt hC wC rfl
  have f1 : ∀ j, gI (e_C_years (gI σ 97 0 (Int32.toNatClampNeg (nI i + 1))) (gI σ 97 0 (Int32.toNatClampNeg (nI i + 2))) σ) 97 0 j = gI σ 97 0 j := fun j => wC.i rfl
  have f2 : gI (e_C_years (gI σ 97 0 (Int32.toNatClampNeg (nI i + 1))) (gI σ 97 0 (Int32.toNatClampNeg (nI i + 2))) σ) 97 1 0 = gI σ 97 1 0 := wC.i rfl
  obtain ⟨pC, pM, hv, hC2⟩ := T_years hC1 (gI σ 97 0 (Int32.toNatClampNeg (nI i + 1))) (gI σ 97 0 (Int32.toNatClampNeg (nI i + 2)))
  have wM := w_M_years (gI σ 97 0 (Int32.toNatClampNeg (nI i + 1))) (gI σ 97 0 (Int32.toNatClampNeg (nI i + 2))) (e_C_years (gI σ 97 0 (Int32.toNatClampNeg (nI i + 1))) (gI σ 97 0 (Int32.toNatClampNeg (nI i + 2))) σ)
  simp only [f1, f2, mG_t w1, mG_t w2, mG_t pC, mG_t pM, mIf_t hv] at run
  exact ⟨_, _, _, ⟨Cpl.lt hC2 wM rfl, (wM.n (k := 104) rfl).trans n1, ((wM.i (k := 97) rfl).trans f2).trans hLn⟩, by decide, by decide, run⟩

set_option maxRecDepth 100000 in
set_option maxHeartbeats 4000000 in
theorem q_L_1081 (x4 : Int32) (σ : MSto) (k : MK) : mrun KT P_L k 600 (1081, [some (mR 97 0), some (mR 12 0), some (mR 13 0), some (mR 98 0), some (mI x4), none, none, none], [], σ, 0, 0) = mG (vp_in (x4 + 1) (gI σ 97 1 0).toNatClampNeg) (mG (p_C_likely (gI σ 97 0 (Int32.toNatClampNeg (x4 + 1))) σ) (mG (vp_in (x4 + 1) (gI (e_C_likely (gI σ 97 0 (Int32.toNatClampNeg (x4 + 1))) σ) 97 1 0).toNatClampNeg) (mG (p_M_likely (gI (e_C_likely (gI σ 97 0 (Int32.toNatClampNeg (x4 + 1))) σ) 97 0 (Int32.toNatClampNeg (x4 + 1))) (e_C_likely (gI σ 97 0 (Int32.toNatClampNeg (x4 + 1))) σ)) (mIf ((v_C_likely (gI σ 97 0 (Int32.toNatClampNeg (x4 + 1))) σ) = (v_M_likely (gI (e_C_likely (gI σ 97 0 (Int32.toNatClampNeg (x4 + 1))) σ) 97 0 (Int32.toNatClampNeg (x4 + 1))) (e_C_likely (gI σ 97 0 (Int32.toNatClampNeg (x4 + 1))) σ))) (k (2235, [some (mR 97 0), some (mR 12 0), some (mR 13 0), some (mR 98 0), some (mI x4), none, none, none], [], (e_M_likely (gI (e_C_likely (gI σ 97 0 (Int32.toNatClampNeg (x4 + 1))) σ) 97 0 (Int32.toNatClampNeg (x4 + 1))) (e_C_likely (gI σ 97 0 (Int32.toNatClampNeg (x4 + 1))) σ)), 0, 0)) (none))))) := rfl
theorem Lp_1081 {L i : Nat} {σ : MSto} (hI : LInv L σ) (hL : L ≤ 3584) (hi : i + 7 ≤ L) : LGo L 1081 i σ := by
  obtain ⟨hC, h104, hLn⟩ := hI
  have w1 := lvp (c := 1) hLn hL hi (by omega)
  have run := q_L_1081 (nI i) σ (fun st => some st)
  have wC := w_C_likely (gI σ 97 0 (Int32.toNatClampNeg (nI i + 1))) σ
  have n1 : gN (e_C_likely (gI σ 97 0 (Int32.toNatClampNeg (nI i + 1))) σ) 104 = 0 := (wC.n (k := 104) rfl).trans h104
  have hC1 := Cpl.rt hC wC rfl
  have f1 : ∀ j, gI (e_C_likely (gI σ 97 0 (Int32.toNatClampNeg (nI i + 1))) σ) 97 0 j = gI σ 97 0 j := fun j => wC.i rfl
  have f2 : gI (e_C_likely (gI σ 97 0 (Int32.toNatClampNeg (nI i + 1))) σ) 97 1 0 = gI σ 97 1 0 := wC.i rfl
  obtain ⟨pC, pM, hv, hC2⟩ := T_likely hC1 (gI σ 97 0 (Int32.toNatClampNeg (nI i + 1)))
  have wM := w_M_likely (gI σ 97 0 (Int32.toNatClampNeg (nI i + 1))) (e_C_likely (gI σ 97 0 (Int32.toNatClampNeg (nI i + 1))) σ)
  simp only [f1, f2, mG_t w1, mG_t pC, mG_t pM, mIf_t hv] at run
  exact ⟨_, _, _, ⟨Cpl.lt hC2 wM rfl, (wM.n (k := 104) rfl).trans n1, ((wM.i (k := 97) rfl).trans f2).trans hLn⟩, by decide, by decide, run⟩

set_option maxRecDepth 100000 in
set_option maxHeartbeats 4000000 in
theorem q_L_1106 (x4 : Int32) (σ : MSto) (k : MK) : mrun KT P_L k 600 (1106, [some (mR 97 0), some (mR 12 0), some (mR 13 0), some (mR 98 0), some (mI x4), none, none, none], [], σ, 0, 0) = mG (vp_in (x4 + 1) (gI σ 97 1 0).toNatClampNeg) (mG (vp_in (x4 + 2) (gI σ 97 1 0).toNatClampNeg) (mG (p_C_within (gI σ 97 0 (Int32.toNatClampNeg (x4 + 1))) (gI σ 97 0 (Int32.toNatClampNeg (x4 + 2))) σ) (mG (vp_in (x4 + 1) (gI (e_C_within (gI σ 97 0 (Int32.toNatClampNeg (x4 + 1))) (gI σ 97 0 (Int32.toNatClampNeg (x4 + 2))) σ) 97 1 0).toNatClampNeg) (mG (vp_in (x4 + 2) (gI (e_C_within (gI σ 97 0 (Int32.toNatClampNeg (x4 + 1))) (gI σ 97 0 (Int32.toNatClampNeg (x4 + 2))) σ) 97 1 0).toNatClampNeg) (mG (p_M_within (gI (e_C_within (gI σ 97 0 (Int32.toNatClampNeg (x4 + 1))) (gI σ 97 0 (Int32.toNatClampNeg (x4 + 2))) σ) 97 0 (Int32.toNatClampNeg (x4 + 1))) (gI (e_C_within (gI σ 97 0 (Int32.toNatClampNeg (x4 + 1))) (gI σ 97 0 (Int32.toNatClampNeg (x4 + 2))) σ) 97 0 (Int32.toNatClampNeg (x4 + 2))) (e_C_within (gI σ 97 0 (Int32.toNatClampNeg (x4 + 1))) (gI σ 97 0 (Int32.toNatClampNeg (x4 + 2))) σ)) (mIf ((v_C_within (gI σ 97 0 (Int32.toNatClampNeg (x4 + 1))) (gI σ 97 0 (Int32.toNatClampNeg (x4 + 2))) σ) = (v_M_within (gI (e_C_within (gI σ 97 0 (Int32.toNatClampNeg (x4 + 1))) (gI σ 97 0 (Int32.toNatClampNeg (x4 + 2))) σ) 97 0 (Int32.toNatClampNeg (x4 + 1))) (gI (e_C_within (gI σ 97 0 (Int32.toNatClampNeg (x4 + 1))) (gI σ 97 0 (Int32.toNatClampNeg (x4 + 2))) σ) 97 0 (Int32.toNatClampNeg (x4 + 2))) (e_C_within (gI σ 97 0 (Int32.toNatClampNeg (x4 + 1))) (gI σ 97 0 (Int32.toNatClampNeg (x4 + 2))) σ))) (k (2235, [some (mR 97 0), some (mR 12 0), some (mR 13 0), some (mR 98 0), some (mI x4), none, none, none], [], (e_M_within (gI (e_C_within (gI σ 97 0 (Int32.toNatClampNeg (x4 + 1))) (gI σ 97 0 (Int32.toNatClampNeg (x4 + 2))) σ) 97 0 (Int32.toNatClampNeg (x4 + 1))) (gI (e_C_within (gI σ 97 0 (Int32.toNatClampNeg (x4 + 1))) (gI σ 97 0 (Int32.toNatClampNeg (x4 + 2))) σ) 97 0 (Int32.toNatClampNeg (x4 + 2))) (e_C_within (gI σ 97 0 (Int32.toNatClampNeg (x4 + 1))) (gI σ 97 0 (Int32.toNatClampNeg (x4 + 2))) σ)), 0, 0)) (none))))))) := rfl
theorem Lp_1106 {L i : Nat} {σ : MSto} (hI : LInv L σ) (hL : L ≤ 3584) (hi : i + 7 ≤ L) : LGo L 1106 i σ := by
  obtain ⟨hC, h104, hLn⟩ := hI
  have w1 := lvp (c := 1) hLn hL hi (by omega)
  have w2 := lvp (c := 2) hLn hL hi (by omega)
  have run := q_L_1106 (nI i) σ (fun st => some st)
  have wC := w_C_within (gI σ 97 0 (Int32.toNatClampNeg (nI i + 1))) (gI σ 97 0 (Int32.toNatClampNeg (nI i + 2))) σ
  have n1 : gN (e_C_within (gI σ 97 0 (Int32.toNatClampNeg (nI i + 1))) (gI σ 97 0 (Int32.toNatClampNeg (nI i + 2))) σ) 104 = 0 := (wC.n (k := 104) rfl).trans h104
  have hC1 := Cpl.rt hC wC rfl
  have f1 : ∀ j, gI (e_C_within (gI σ 97 0 (Int32.toNatClampNeg (nI i + 1))) (gI σ 97 0 (Int32.toNatClampNeg (nI i + 2))) σ) 97 0 j = gI σ 97 0 j := fun j => wC.i rfl
  have f2 : gI (e_C_within (gI σ 97 0 (Int32.toNatClampNeg (nI i + 1))) (gI σ 97 0 (Int32.toNatClampNeg (nI i + 2))) σ) 97 1 0 = gI σ 97 1 0 := wC.i rfl
  obtain ⟨pC, pM, hv, hC2⟩ := T_within hC1 (gI σ 97 0 (Int32.toNatClampNeg (nI i + 1))) (gI σ 97 0 (Int32.toNatClampNeg (nI i + 2)))
  have wM := w_M_within (gI σ 97 0 (Int32.toNatClampNeg (nI i + 1))) (gI σ 97 0 (Int32.toNatClampNeg (nI i + 2))) (e_C_within (gI σ 97 0 (Int32.toNatClampNeg (nI i + 1))) (gI σ 97 0 (Int32.toNatClampNeg (nI i + 2))) σ)
  simp only [f1, f2, mG_t w1, mG_t w2, mG_t pC, mG_t pM, mIf_t hv] at run
  exact ⟨_, _, _, ⟨Cpl.lt hC2 wM rfl, (wM.n (k := 104) rfl).trans n1, ((wM.i (k := 97) rfl).trans f2).trans hLn⟩, by decide, by decide, run⟩

set_option maxRecDepth 100000 in
set_option maxHeartbeats 4000000 in
theorem q_L_1143 (x4 : Int32) (σ : MSto) (k : MK) : mrun KT P_L k 600 (1143, [some (mR 97 0), some (mR 12 0), some (mR 13 0), some (mR 98 0), some (mI x4), none, none, none], [], σ, 0, 0) = mG (vp_in (x4 + 1) (gI σ 97 1 0).toNatClampNeg) (mG (vp_in (x4 + 2) (gI σ 97 1 0).toNatClampNeg) (mG (vp_in (x4 + 3) (gI σ 97 1 0).toNatClampNeg) (mG (p_C_between (gI σ 97 0 (Int32.toNatClampNeg (x4 + 1))) (gI σ 97 0 (Int32.toNatClampNeg (x4 + 2))) (gI σ 97 0 (Int32.toNatClampNeg (x4 + 3))) σ) (mG (vp_in (x4 + 1) (gI (e_C_between (gI σ 97 0 (Int32.toNatClampNeg (x4 + 1))) (gI σ 97 0 (Int32.toNatClampNeg (x4 + 2))) (gI σ 97 0 (Int32.toNatClampNeg (x4 + 3))) σ) 97 1 0).toNatClampNeg) (mG (vp_in (x4 + 2) (gI (e_C_between (gI σ 97 0 (Int32.toNatClampNeg (x4 + 1))) (gI σ 97 0 (Int32.toNatClampNeg (x4 + 2))) (gI σ 97 0 (Int32.toNatClampNeg (x4 + 3))) σ) 97 1 0).toNatClampNeg) (mG (vp_in (x4 + 3) (gI (e_C_between (gI σ 97 0 (Int32.toNatClampNeg (x4 + 1))) (gI σ 97 0 (Int32.toNatClampNeg (x4 + 2))) (gI σ 97 0 (Int32.toNatClampNeg (x4 + 3))) σ) 97 1 0).toNatClampNeg) (mG (p_M_between (gI (e_C_between (gI σ 97 0 (Int32.toNatClampNeg (x4 + 1))) (gI σ 97 0 (Int32.toNatClampNeg (x4 + 2))) (gI σ 97 0 (Int32.toNatClampNeg (x4 + 3))) σ) 97 0 (Int32.toNatClampNeg (x4 + 1))) (gI (e_C_between (gI σ 97 0 (Int32.toNatClampNeg (x4 + 1))) (gI σ 97 0 (Int32.toNatClampNeg (x4 + 2))) (gI σ 97 0 (Int32.toNatClampNeg (x4 + 3))) σ) 97 0 (Int32.toNatClampNeg (x4 + 2))) (gI (e_C_between (gI σ 97 0 (Int32.toNatClampNeg (x4 + 1))) (gI σ 97 0 (Int32.toNatClampNeg (x4 + 2))) (gI σ 97 0 (Int32.toNatClampNeg (x4 + 3))) σ) 97 0 (Int32.toNatClampNeg (x4 + 3))) (e_C_between (gI σ 97 0 (Int32.toNatClampNeg (x4 + 1))) (gI σ 97 0 (Int32.toNatClampNeg (x4 + 2))) (gI σ 97 0 (Int32.toNatClampNeg (x4 + 3))) σ)) (mIf ((v_C_between (gI σ 97 0 (Int32.toNatClampNeg (x4 + 1))) (gI σ 97 0 (Int32.toNatClampNeg (x4 + 2))) (gI σ 97 0 (Int32.toNatClampNeg (x4 + 3))) σ) = (v_M_between (gI (e_C_between (gI σ 97 0 (Int32.toNatClampNeg (x4 + 1))) (gI σ 97 0 (Int32.toNatClampNeg (x4 + 2))) (gI σ 97 0 (Int32.toNatClampNeg (x4 + 3))) σ) 97 0 (Int32.toNatClampNeg (x4 + 1))) (gI (e_C_between (gI σ 97 0 (Int32.toNatClampNeg (x4 + 1))) (gI σ 97 0 (Int32.toNatClampNeg (x4 + 2))) (gI σ 97 0 (Int32.toNatClampNeg (x4 + 3))) σ) 97 0 (Int32.toNatClampNeg (x4 + 2))) (gI (e_C_between (gI σ 97 0 (Int32.toNatClampNeg (x4 + 1))) (gI σ 97 0 (Int32.toNatClampNeg (x4 + 2))) (gI σ 97 0 (Int32.toNatClampNeg (x4 + 3))) σ) 97 0 (Int32.toNatClampNeg (x4 + 3))) (e_C_between (gI σ 97 0 (Int32.toNatClampNeg (x4 + 1))) (gI σ 97 0 (Int32.toNatClampNeg (x4 + 2))) (gI σ 97 0 (Int32.toNatClampNeg (x4 + 3))) σ))) (k (2235, [some (mR 97 0), some (mR 12 0), some (mR 13 0), some (mR 98 0), some (mI x4), none, none, none], [], (e_M_between (gI (e_C_between (gI σ 97 0 (Int32.toNatClampNeg (x4 + 1))) (gI σ 97 0 (Int32.toNatClampNeg (x4 + 2))) (gI σ 97 0 (Int32.toNatClampNeg (x4 + 3))) σ) 97 0 (Int32.toNatClampNeg (x4 + 1))) (gI (e_C_between (gI σ 97 0 (Int32.toNatClampNeg (x4 + 1))) (gI σ 97 0 (Int32.toNatClampNeg (x4 + 2))) (gI σ 97 0 (Int32.toNatClampNeg (x4 + 3))) σ) 97 0 (Int32.toNatClampNeg (x4 + 2))) (gI (e_C_between (gI σ 97 0 (Int32.toNatClampNeg (x4 + 1))) (gI σ 97 0 (Int32.toNatClampNeg (x4 + 2))) (gI σ 97 0 (Int32.toNatClampNeg (x4 + 3))) σ) 97 0 (Int32.toNatClampNeg (x4 + 3))) (e_C_between (gI σ 97 0 (Int32.toNatClampNeg (x4 + 1))) (gI σ 97 0 (Int32.toNatClampNeg (x4 + 2))) (gI σ 97 0 (Int32.toNatClampNeg (x4 + 3))) σ)), 0, 0)) (none))))))))) := rfl
theorem Lp_1143 {L i : Nat} {σ : MSto} (hI : LInv L σ) (hL : L ≤ 3584) (hi : i + 7 ≤ L) : LGo L 1143 i σ := by
  obtain ⟨hC, h104, hLn⟩ := hI
  have w1 := lvp (c := 1) hLn hL hi (by omega)
  have w2 := lvp (c := 2) hLn hL hi (by omega)
  have w3 := lvp (c := 3) hLn hL hi (by omega)
  have run := q_L_1143 (nI i) σ (fun st => some st)
  have wC := w_C_between (gI σ 97 0 (Int32.toNatClampNeg (nI i + 1))) (gI σ 97 0 (Int32.toNatClampNeg (nI i + 2))) (gI σ 97 0 (Int32.toNatClampNeg (nI i + 3))) σ
  have n1 : gN (e_C_between (gI σ 97 0 (Int32.toNatClampNeg (nI i + 1))) (gI σ 97 0 (Int32.toNatClampNeg (nI i + 2))) (gI σ 97 0 (Int32.toNatClampNeg (nI i + 3))) σ) 104 = 0 := (wC.n (k := 104) rfl).trans h104
  have hC1 := Cpl.rt hC wC rfl
  have f1 : ∀ j, gI (e_C_between (gI σ 97 0 (Int32.toNatClampNeg (nI i + 1))) (gI σ 97 0 (Int32.toNatClampNeg (nI i + 2))) (gI σ 97 0 (Int32.toNatClampNeg (nI i + 3))) σ) 97 0 j = gI σ 97 0 j := fun j => wC.i rfl
  have f2 : gI (e_C_between (gI σ 97 0 (Int32.toNatClampNeg (nI i + 1))) (gI σ 97 0 (Int32.toNatClampNeg (nI i + 2))) (gI σ 97 0 (Int32.toNatClampNeg (nI i + 3))) σ) 97 1 0 = gI σ 97 1 0 := wC.i rfl
  obtain ⟨pC, pM, hv, hC2⟩ := T_between hC1 (gI σ 97 0 (Int32.toNatClampNeg (nI i + 1))) (gI σ 97 0 (Int32.toNatClampNeg (nI i + 2))) (gI σ 97 0 (Int32.toNatClampNeg (nI i + 3)))
  have wM := w_M_between (gI σ 97 0 (Int32.toNatClampNeg (nI i + 1))) (gI σ 97 0 (Int32.toNatClampNeg (nI i + 2))) (gI σ 97 0 (Int32.toNatClampNeg (nI i + 3))) (e_C_between (gI σ 97 0 (Int32.toNatClampNeg (nI i + 1))) (gI σ 97 0 (Int32.toNatClampNeg (nI i + 2))) (gI σ 97 0 (Int32.toNatClampNeg (nI i + 3))) σ)
  simp only [f1, f2, mG_t w1, mG_t w2, mG_t w3, mG_t pC, mG_t pM, mIf_t hv] at run
  exact ⟨_, _, _, ⟨Cpl.lt hC2 wM rfl, (wM.n (k := 104) rfl).trans n1, ((wM.i (k := 97) rfl).trans f2).trans hLn⟩, by decide, by decide, run⟩

set_option maxRecDepth 100000 in
set_option maxHeartbeats 4000000 in
theorem q_L_1192 (x4 : Int32) (σ : MSto) (k : MK) : mrun KT P_L k 600 (1192, [some (mR 97 0), some (mR 12 0), some (mR 13 0), some (mR 98 0), some (mI x4), none, none, none], [], σ, 0, 0) = mG (vp_in (x4 + 1) (gI σ 97 1 0).toNatClampNeg) (mG (p_C_apart (gI σ 97 0 (Int32.toNatClampNeg (x4 + 1))) σ) (mG (vp_in (x4 + 1) (gI (e_C_apart (gI σ 97 0 (Int32.toNatClampNeg (x4 + 1))) σ) 97 1 0).toNatClampNeg) (mG (p_M_apart (gI (e_C_apart (gI σ 97 0 (Int32.toNatClampNeg (x4 + 1))) σ) 97 0 (Int32.toNatClampNeg (x4 + 1))) (e_C_apart (gI σ 97 0 (Int32.toNatClampNeg (x4 + 1))) σ)) (mIf ((v_C_apart (gI σ 97 0 (Int32.toNatClampNeg (x4 + 1))) σ) = (v_M_apart (gI (e_C_apart (gI σ 97 0 (Int32.toNatClampNeg (x4 + 1))) σ) 97 0 (Int32.toNatClampNeg (x4 + 1))) (e_C_apart (gI σ 97 0 (Int32.toNatClampNeg (x4 + 1))) σ))) (k (2235, [some (mR 97 0), some (mR 12 0), some (mR 13 0), some (mR 98 0), some (mI x4), none, none, none], [], (e_M_apart (gI (e_C_apart (gI σ 97 0 (Int32.toNatClampNeg (x4 + 1))) σ) 97 0 (Int32.toNatClampNeg (x4 + 1))) (e_C_apart (gI σ 97 0 (Int32.toNatClampNeg (x4 + 1))) σ)), 0, 0)) (none))))) := rfl
theorem Lp_1192 {L i : Nat} {σ : MSto} (hI : LInv L σ) (hL : L ≤ 3584) (hi : i + 7 ≤ L) : LGo L 1192 i σ := by
  obtain ⟨hC, h104, hLn⟩ := hI
  have w1 := lvp (c := 1) hLn hL hi (by omega)
  have run := q_L_1192 (nI i) σ (fun st => some st)
  have wC := w_C_apart (gI σ 97 0 (Int32.toNatClampNeg (nI i + 1))) σ
  have n1 : gN (e_C_apart (gI σ 97 0 (Int32.toNatClampNeg (nI i + 1))) σ) 104 = 0 := (wC.n (k := 104) rfl).trans h104
  have hC1 := Cpl.rt hC wC rfl
  have f1 : ∀ j, gI (e_C_apart (gI σ 97 0 (Int32.toNatClampNeg (nI i + 1))) σ) 97 0 j = gI σ 97 0 j := fun j => wC.i rfl
  have f2 : gI (e_C_apart (gI σ 97 0 (Int32.toNatClampNeg (nI i + 1))) σ) 97 1 0 = gI σ 97 1 0 := wC.i rfl
  obtain ⟨pC, pM, hv, hC2⟩ := T_apart hC1 (gI σ 97 0 (Int32.toNatClampNeg (nI i + 1)))
  have wM := w_M_apart (gI σ 97 0 (Int32.toNatClampNeg (nI i + 1))) (e_C_apart (gI σ 97 0 (Int32.toNatClampNeg (nI i + 1))) σ)
  simp only [f1, f2, mG_t w1, mG_t pC, mG_t pM, mIf_t hv] at run
  exact ⟨_, _, _, ⟨Cpl.lt hC2 wM rfl, (wM.n (k := 104) rfl).trans n1, ((wM.i (k := 97) rfl).trans f2).trans hLn⟩, by decide, by decide, run⟩

set_option maxRecDepth 100000 in
set_option maxHeartbeats 4000000 in
theorem q_L_1217 (x4 : Int32) (σ : MSto) (k : MK) : mrun KT P_L k 600 (1217, [some (mR 97 0), some (mR 12 0), some (mR 13 0), some (mR 98 0), some (mI x4), none, none, none], [], σ, 0, 0) = mG (vp_in (x4 + 1) (gI σ 97 1 0).toNatClampNeg) (mG (p_C_slope (gI σ 97 0 (Int32.toNatClampNeg (x4 + 1))) σ) (mG (vp_in (x4 + 1) (gI (e_C_slope (gI σ 97 0 (Int32.toNatClampNeg (x4 + 1))) σ) 97 1 0).toNatClampNeg) (mG (p_M_slope (gI (e_C_slope (gI σ 97 0 (Int32.toNatClampNeg (x4 + 1))) σ) 97 0 (Int32.toNatClampNeg (x4 + 1))) (e_C_slope (gI σ 97 0 (Int32.toNatClampNeg (x4 + 1))) σ)) (mIf ((v_C_slope (gI σ 97 0 (Int32.toNatClampNeg (x4 + 1))) σ) = (v_M_slope (gI (e_C_slope (gI σ 97 0 (Int32.toNatClampNeg (x4 + 1))) σ) 97 0 (Int32.toNatClampNeg (x4 + 1))) (e_C_slope (gI σ 97 0 (Int32.toNatClampNeg (x4 + 1))) σ))) (k (2235, [some (mR 97 0), some (mR 12 0), some (mR 13 0), some (mR 98 0), some (mI x4), none, none, none], [], (e_M_slope (gI (e_C_slope (gI σ 97 0 (Int32.toNatClampNeg (x4 + 1))) σ) 97 0 (Int32.toNatClampNeg (x4 + 1))) (e_C_slope (gI σ 97 0 (Int32.toNatClampNeg (x4 + 1))) σ)), 0, 0)) (none))))) := rfl
theorem Lp_1217 {L i : Nat} {σ : MSto} (hI : LInv L σ) (hL : L ≤ 3584) (hi : i + 7 ≤ L) : LGo L 1217 i σ := by
  obtain ⟨hC, h104, hLn⟩ := hI
  have w1 := lvp (c := 1) hLn hL hi (by omega)
  have run := q_L_1217 (nI i) σ (fun st => some st)
  have wC := w_C_slope (gI σ 97 0 (Int32.toNatClampNeg (nI i + 1))) σ
  have n1 : gN (e_C_slope (gI σ 97 0 (Int32.toNatClampNeg (nI i + 1))) σ) 104 = 0 := (wC.n (k := 104) rfl).trans h104
  have hC1 := Cpl.rt hC wC rfl
  have f1 : ∀ j, gI (e_C_slope (gI σ 97 0 (Int32.toNatClampNeg (nI i + 1))) σ) 97 0 j = gI σ 97 0 j := fun j => wC.i rfl
  have f2 : gI (e_C_slope (gI σ 97 0 (Int32.toNatClampNeg (nI i + 1))) σ) 97 1 0 = gI σ 97 1 0 := wC.i rfl
  obtain ⟨pC, pM, hv, hC2⟩ := T_slope hC1 (gI σ 97 0 (Int32.toNatClampNeg (nI i + 1)))
  have wM := w_M_slope (gI σ 97 0 (Int32.toNatClampNeg (nI i + 1))) (e_C_slope (gI σ 97 0 (Int32.toNatClampNeg (nI i + 1))) σ)
  simp only [f1, f2, mG_t w1, mG_t pC, mG_t pM, mIf_t hv] at run
  exact ⟨_, _, _, ⟨Cpl.lt hC2 wM rfl, (wM.n (k := 104) rfl).trans n1, ((wM.i (k := 97) rfl).trans f2).trans hLn⟩, by decide, by decide, run⟩

set_option maxRecDepth 100000 in
set_option maxHeartbeats 4000000 in
theorem q_L_1242 (x4 : Int32) (σ : MSto) (k : MK) : mrun KT P_L k 600 (1242, [some (mR 97 0), some (mR 12 0), some (mR 13 0), some (mR 98 0), some (mI x4), none, none, none], [], σ, 0, 0) = mG (vp_in (x4 + 1) (gI σ 97 1 0).toNatClampNeg) (mG (p_C_lot (gI σ 97 0 (Int32.toNatClampNeg (x4 + 1))) σ) (mG (vp_in (x4 + 1) (gI (e_C_lot (gI σ 97 0 (Int32.toNatClampNeg (x4 + 1))) σ) 97 1 0).toNatClampNeg) (mG (p_M_lot (gI (e_C_lot (gI σ 97 0 (Int32.toNatClampNeg (x4 + 1))) σ) 97 0 (Int32.toNatClampNeg (x4 + 1))) (e_C_lot (gI σ 97 0 (Int32.toNatClampNeg (x4 + 1))) σ)) (mIf ((v_C_lot (gI σ 97 0 (Int32.toNatClampNeg (x4 + 1))) σ) = (v_M_lot (gI (e_C_lot (gI σ 97 0 (Int32.toNatClampNeg (x4 + 1))) σ) 97 0 (Int32.toNatClampNeg (x4 + 1))) (e_C_lot (gI σ 97 0 (Int32.toNatClampNeg (x4 + 1))) σ))) (k (2235, [some (mR 97 0), some (mR 12 0), some (mR 13 0), some (mR 98 0), some (mI x4), none, none, none], [], (e_M_lot (gI (e_C_lot (gI σ 97 0 (Int32.toNatClampNeg (x4 + 1))) σ) 97 0 (Int32.toNatClampNeg (x4 + 1))) (e_C_lot (gI σ 97 0 (Int32.toNatClampNeg (x4 + 1))) σ)), 0, 0)) (none))))) := rfl
theorem Lp_1242 {L i : Nat} {σ : MSto} (hI : LInv L σ) (hL : L ≤ 3584) (hi : i + 7 ≤ L) : LGo L 1242 i σ := by
  obtain ⟨hC, h104, hLn⟩ := hI
  have w1 := lvp (c := 1) hLn hL hi (by omega)
  have run := q_L_1242 (nI i) σ (fun st => some st)
  have wC := w_C_lot (gI σ 97 0 (Int32.toNatClampNeg (nI i + 1))) σ
  have n1 : gN (e_C_lot (gI σ 97 0 (Int32.toNatClampNeg (nI i + 1))) σ) 104 = 0 := (wC.n (k := 104) rfl).trans h104
  have hC1 := Cpl.rt hC wC rfl
  have f1 : ∀ j, gI (e_C_lot (gI σ 97 0 (Int32.toNatClampNeg (nI i + 1))) σ) 97 0 j = gI σ 97 0 j := fun j => wC.i rfl
  have f2 : gI (e_C_lot (gI σ 97 0 (Int32.toNatClampNeg (nI i + 1))) σ) 97 1 0 = gI σ 97 1 0 := wC.i rfl
  obtain ⟨pC, pM, hv, hC2⟩ := T_lot hC1 (gI σ 97 0 (Int32.toNatClampNeg (nI i + 1)))
  have wM := w_M_lot (gI σ 97 0 (Int32.toNatClampNeg (nI i + 1))) (e_C_lot (gI σ 97 0 (Int32.toNatClampNeg (nI i + 1))) σ)
  simp only [f1, f2, mG_t w1, mG_t pC, mG_t pM, mIf_t hv] at run
  exact ⟨_, _, _, ⟨Cpl.lt hC2 wM rfl, (wM.n (k := 104) rfl).trans n1, ((wM.i (k := 97) rfl).trans f2).trans hLn⟩, by decide, by decide, run⟩

set_option maxRecDepth 100000 in
set_option maxHeartbeats 4000000 in
theorem q_L_1267 (x4 : Int32) (σ : MSto) (k : MK) : mrun KT P_L k 600 (1267, [some (mR 97 0), some (mR 12 0), some (mR 13 0), some (mR 98 0), some (mI x4), none, none, none], [], σ, 0, 0) = mG (vp_in (x4 + 1) (gI σ 97 1 0).toNatClampNeg) (mG (p_C_odd (gI σ 97 0 (Int32.toNatClampNeg (x4 + 1))) σ) (mG (vp_in (x4 + 1) (gI (e_C_odd (gI σ 97 0 (Int32.toNatClampNeg (x4 + 1))) σ) 97 1 0).toNatClampNeg) (mG (p_M_odd (gI (e_C_odd (gI σ 97 0 (Int32.toNatClampNeg (x4 + 1))) σ) 97 0 (Int32.toNatClampNeg (x4 + 1))) (e_C_odd (gI σ 97 0 (Int32.toNatClampNeg (x4 + 1))) σ)) (mIf ((v_C_odd (gI σ 97 0 (Int32.toNatClampNeg (x4 + 1))) σ) = (v_M_odd (gI (e_C_odd (gI σ 97 0 (Int32.toNatClampNeg (x4 + 1))) σ) 97 0 (Int32.toNatClampNeg (x4 + 1))) (e_C_odd (gI σ 97 0 (Int32.toNatClampNeg (x4 + 1))) σ))) (k (2235, [some (mR 97 0), some (mR 12 0), some (mR 13 0), some (mR 98 0), some (mI x4), none, none, none], [], (e_M_odd (gI (e_C_odd (gI σ 97 0 (Int32.toNatClampNeg (x4 + 1))) σ) 97 0 (Int32.toNatClampNeg (x4 + 1))) (e_C_odd (gI σ 97 0 (Int32.toNatClampNeg (x4 + 1))) σ)), 0, 0)) (none))))) := rfl
theorem Lp_1267 {L i : Nat} {σ : MSto} (hI : LInv L σ) (hL : L ≤ 3584) (hi : i + 7 ≤ L) : LGo L 1267 i σ := by
  obtain ⟨hC, h104, hLn⟩ := hI
  have w1 := lvp (c := 1) hLn hL hi (by omega)
  have run := q_L_1267 (nI i) σ (fun st => some st)
  have wC := w_C_odd (gI σ 97 0 (Int32.toNatClampNeg (nI i + 1))) σ
  have n1 : gN (e_C_odd (gI σ 97 0 (Int32.toNatClampNeg (nI i + 1))) σ) 104 = 0 := (wC.n (k := 104) rfl).trans h104
  have hC1 := Cpl.rt hC wC rfl
  have f1 : ∀ j, gI (e_C_odd (gI σ 97 0 (Int32.toNatClampNeg (nI i + 1))) σ) 97 0 j = gI σ 97 0 j := fun j => wC.i rfl
  have f2 : gI (e_C_odd (gI σ 97 0 (Int32.toNatClampNeg (nI i + 1))) σ) 97 1 0 = gI σ 97 1 0 := wC.i rfl
  obtain ⟨pC, pM, hv, hC2⟩ := T_odd hC1 (gI σ 97 0 (Int32.toNatClampNeg (nI i + 1)))
  have wM := w_M_odd (gI σ 97 0 (Int32.toNatClampNeg (nI i + 1))) (e_C_odd (gI σ 97 0 (Int32.toNatClampNeg (nI i + 1))) σ)
  simp only [f1, f2, mG_t w1, mG_t pC, mG_t pM, mIf_t hv] at run
  exact ⟨_, _, _, ⟨Cpl.lt hC2 wM rfl, (wM.n (k := 104) rfl).trans n1, ((wM.i (k := 97) rfl).trans f2).trans hLn⟩, by decide, by decide, run⟩

set_option maxRecDepth 100000 in
set_option maxHeartbeats 4000000 in
theorem q_L_1292 (x4 : Int32) (σ : MSto) (k : MK) : mrun KT P_L k 600 (1292, [some (mR 97 0), some (mR 12 0), some (mR 13 0), some (mR 98 0), some (mI x4), none, none, none], [], σ, 0, 0) = mG (vp_in (x4 + 1) (gI σ 97 1 0).toNatClampNeg) (mG (vp_in (x4 + 2) (gI σ 97 1 0).toNatClampNeg) (mG (vp_in (x4 + 3) (gI σ 97 1 0).toNatClampNeg) (mG (p_C_younger (gI σ 97 0 (Int32.toNatClampNeg (x4 + 1))) (gI σ 97 0 (Int32.toNatClampNeg (x4 + 2))) (gI σ 97 0 (Int32.toNatClampNeg (x4 + 3))) σ) (mG (vp_in (x4 + 1) (gI σ 97 1 0).toNatClampNeg) (mG (vp_in (x4 + 2) (gI σ 97 1 0).toNatClampNeg) (mG (vp_in (x4 + 3) (gI σ 97 1 0).toNatClampNeg) (mG (p_M_younger (gI σ 97 0 (Int32.toNatClampNeg (x4 + 1))) (gI σ 97 0 (Int32.toNatClampNeg (x4 + 2))) (gI σ 97 0 (Int32.toNatClampNeg (x4 + 3))) σ) (mIf ((v_C_younger (gI σ 97 0 (Int32.toNatClampNeg (x4 + 1))) (gI σ 97 0 (Int32.toNatClampNeg (x4 + 2))) (gI σ 97 0 (Int32.toNatClampNeg (x4 + 3))) σ) = (v_M_younger (gI σ 97 0 (Int32.toNatClampNeg (x4 + 1))) (gI σ 97 0 (Int32.toNatClampNeg (x4 + 2))) (gI σ 97 0 (Int32.toNatClampNeg (x4 + 3))) σ)) (k (2235, [some (mR 97 0), some (mR 12 0), some (mR 13 0), some (mR 98 0), some (mI x4), none, none, none], [], (e_M_younger (gI σ 97 0 (Int32.toNatClampNeg (x4 + 1))) (gI σ 97 0 (Int32.toNatClampNeg (x4 + 2))) (gI σ 97 0 (Int32.toNatClampNeg (x4 + 3))) σ), 0, 0)) (none))))))))) := rfl
theorem Lp_1292 {L i : Nat} {σ : MSto} (hI : LInv L σ) (hL : L ≤ 3584) (hi : i + 7 ≤ L) : LGo L 1292 i σ := by
  obtain ⟨hC, h104, hLn⟩ := hI
  have w1 := lvp (c := 1) hLn hL hi (by omega)
  have w2 := lvp (c := 2) hLn hL hi (by omega)
  have w3 := lvp (c := 3) hLn hL hi (by omega)
  have run := q_L_1292 (nI i) σ (fun st => some st)
  have hC1 := hC
  have f2 : gI σ 97 1 0 = gI σ 97 1 0 := rfl
  have n1 := h104
  obtain ⟨pC, pM, hv, hC2⟩ := T_younger hC1 (gI σ 97 0 (Int32.toNatClampNeg (nI i + 1))) (gI σ 97 0 (Int32.toNatClampNeg (nI i + 2))) (gI σ 97 0 (Int32.toNatClampNeg (nI i + 3)))
  have wM := w_M_younger (gI σ 97 0 (Int32.toNatClampNeg (nI i + 1))) (gI σ 97 0 (Int32.toNatClampNeg (nI i + 2))) (gI σ 97 0 (Int32.toNatClampNeg (nI i + 3))) σ
  simp only [mG_t w1, mG_t w2, mG_t w3, mG_t pC, mG_t pM, mIf_t hv] at run
  exact ⟨_, _, _, ⟨Cpl.lt hC2 wM rfl, (wM.n (k := 104) rfl).trans n1, ((wM.i (k := 97) rfl).trans f2).trans hLn⟩, by decide, by decide, run⟩

set_option maxRecDepth 100000 in
set_option maxHeartbeats 4000000 in
theorem q_L_1341 (x4 : Int32) (σ : MSto) (k : MK) : mrun KT P_L k 600 (1341, [some (mR 97 0), some (mR 12 0), some (mR 13 0), some (mR 98 0), some (mI x4), none, none, none], [], σ, 0, 0) = mG (vp_in (x4 + 1) (gI σ 97 1 0).toNatClampNeg) (mG (vp_in (x4 + 2) (gI σ 97 1 0).toNatClampNeg) (mG (vp_in (x4 + 3) (gI σ 97 1 0).toNatClampNeg) (mG (p_C_must (gI σ 97 0 (Int32.toNatClampNeg (x4 + 1))) (gI σ 97 0 (Int32.toNatClampNeg (x4 + 2))) (gI σ 97 0 (Int32.toNatClampNeg (x4 + 3))) σ) (mG (vp_in (x4 + 1) (gI (e_C_must (gI σ 97 0 (Int32.toNatClampNeg (x4 + 1))) (gI σ 97 0 (Int32.toNatClampNeg (x4 + 2))) (gI σ 97 0 (Int32.toNatClampNeg (x4 + 3))) σ) 97 1 0).toNatClampNeg) (mG (vp_in (x4 + 2) (gI (e_C_must (gI σ 97 0 (Int32.toNatClampNeg (x4 + 1))) (gI σ 97 0 (Int32.toNatClampNeg (x4 + 2))) (gI σ 97 0 (Int32.toNatClampNeg (x4 + 3))) σ) 97 1 0).toNatClampNeg) (mG (vp_in (x4 + 3) (gI (e_C_must (gI σ 97 0 (Int32.toNatClampNeg (x4 + 1))) (gI σ 97 0 (Int32.toNatClampNeg (x4 + 2))) (gI σ 97 0 (Int32.toNatClampNeg (x4 + 3))) σ) 97 1 0).toNatClampNeg) (mG (p_M_must (gI (e_C_must (gI σ 97 0 (Int32.toNatClampNeg (x4 + 1))) (gI σ 97 0 (Int32.toNatClampNeg (x4 + 2))) (gI σ 97 0 (Int32.toNatClampNeg (x4 + 3))) σ) 97 0 (Int32.toNatClampNeg (x4 + 1))) (gI (e_C_must (gI σ 97 0 (Int32.toNatClampNeg (x4 + 1))) (gI σ 97 0 (Int32.toNatClampNeg (x4 + 2))) (gI σ 97 0 (Int32.toNatClampNeg (x4 + 3))) σ) 97 0 (Int32.toNatClampNeg (x4 + 2))) (gI (e_C_must (gI σ 97 0 (Int32.toNatClampNeg (x4 + 1))) (gI σ 97 0 (Int32.toNatClampNeg (x4 + 2))) (gI σ 97 0 (Int32.toNatClampNeg (x4 + 3))) σ) 97 0 (Int32.toNatClampNeg (x4 + 3))) (e_C_must (gI σ 97 0 (Int32.toNatClampNeg (x4 + 1))) (gI σ 97 0 (Int32.toNatClampNeg (x4 + 2))) (gI σ 97 0 (Int32.toNatClampNeg (x4 + 3))) σ)) (mIf ((v_C_must (gI σ 97 0 (Int32.toNatClampNeg (x4 + 1))) (gI σ 97 0 (Int32.toNatClampNeg (x4 + 2))) (gI σ 97 0 (Int32.toNatClampNeg (x4 + 3))) σ) = (v_M_must (gI (e_C_must (gI σ 97 0 (Int32.toNatClampNeg (x4 + 1))) (gI σ 97 0 (Int32.toNatClampNeg (x4 + 2))) (gI σ 97 0 (Int32.toNatClampNeg (x4 + 3))) σ) 97 0 (Int32.toNatClampNeg (x4 + 1))) (gI (e_C_must (gI σ 97 0 (Int32.toNatClampNeg (x4 + 1))) (gI σ 97 0 (Int32.toNatClampNeg (x4 + 2))) (gI σ 97 0 (Int32.toNatClampNeg (x4 + 3))) σ) 97 0 (Int32.toNatClampNeg (x4 + 2))) (gI (e_C_must (gI σ 97 0 (Int32.toNatClampNeg (x4 + 1))) (gI σ 97 0 (Int32.toNatClampNeg (x4 + 2))) (gI σ 97 0 (Int32.toNatClampNeg (x4 + 3))) σ) 97 0 (Int32.toNatClampNeg (x4 + 3))) (e_C_must (gI σ 97 0 (Int32.toNatClampNeg (x4 + 1))) (gI σ 97 0 (Int32.toNatClampNeg (x4 + 2))) (gI σ 97 0 (Int32.toNatClampNeg (x4 + 3))) σ))) (k (2235, [some (mR 97 0), some (mR 12 0), some (mR 13 0), some (mR 98 0), some (mI x4), none, none, none], [], (e_M_must (gI (e_C_must (gI σ 97 0 (Int32.toNatClampNeg (x4 + 1))) (gI σ 97 0 (Int32.toNatClampNeg (x4 + 2))) (gI σ 97 0 (Int32.toNatClampNeg (x4 + 3))) σ) 97 0 (Int32.toNatClampNeg (x4 + 1))) (gI (e_C_must (gI σ 97 0 (Int32.toNatClampNeg (x4 + 1))) (gI σ 97 0 (Int32.toNatClampNeg (x4 + 2))) (gI σ 97 0 (Int32.toNatClampNeg (x4 + 3))) σ) 97 0 (Int32.toNatClampNeg (x4 + 2))) (gI (e_C_must (gI σ 97 0 (Int32.toNatClampNeg (x4 + 1))) (gI σ 97 0 (Int32.toNatClampNeg (x4 + 2))) (gI σ 97 0 (Int32.toNatClampNeg (x4 + 3))) σ) 97 0 (Int32.toNatClampNeg (x4 + 3))) (e_C_must (gI σ 97 0 (Int32.toNatClampNeg (x4 + 1))) (gI σ 97 0 (Int32.toNatClampNeg (x4 + 2))) (gI σ 97 0 (Int32.toNatClampNeg (x4 + 3))) σ)), 0, 0)) (none))))))))) := rfl
theorem Lp_1341 {L i : Nat} {σ : MSto} (hI : LInv L σ) (hL : L ≤ 3584) (hi : i + 7 ≤ L) : LGo L 1341 i σ := by
  obtain ⟨hC, h104, hLn⟩ := hI
  have w1 := lvp (c := 1) hLn hL hi (by omega)
  have w2 := lvp (c := 2) hLn hL hi (by omega)
  have w3 := lvp (c := 3) hLn hL hi (by omega)
  have run := q_L_1341 (nI i) σ (fun st => some st)
  have wC := w_C_must (gI σ 97 0 (Int32.toNatClampNeg (nI i + 1))) (gI σ 97 0 (Int32.toNatClampNeg (nI i + 2))) (gI σ 97 0 (Int32.toNatClampNeg (nI i + 3))) σ
  have n1 : gN (e_C_must (gI σ 97 0 (Int32.toNatClampNeg (nI i + 1))) (gI σ 97 0 (Int32.toNatClampNeg (nI i + 2))) (gI σ 97 0 (Int32.toNatClampNeg (nI i + 3))) σ) 104 = 0 := (wC.n (k := 104) rfl).trans h104
  have hC1 := Cpl.rt hC wC rfl
  have f1 : ∀ j, gI (e_C_must (gI σ 97 0 (Int32.toNatClampNeg (nI i + 1))) (gI σ 97 0 (Int32.toNatClampNeg (nI i + 2))) (gI σ 97 0 (Int32.toNatClampNeg (nI i + 3))) σ) 97 0 j = gI σ 97 0 j := fun j => wC.i rfl
  have f2 : gI (e_C_must (gI σ 97 0 (Int32.toNatClampNeg (nI i + 1))) (gI σ 97 0 (Int32.toNatClampNeg (nI i + 2))) (gI σ 97 0 (Int32.toNatClampNeg (nI i + 3))) σ) 97 1 0 = gI σ 97 1 0 := wC.i rfl
  obtain ⟨pC, pM, hv, hC2⟩ := T_must hC1 (gI σ 97 0 (Int32.toNatClampNeg (nI i + 1))) (gI σ 97 0 (Int32.toNatClampNeg (nI i + 2))) (gI σ 97 0 (Int32.toNatClampNeg (nI i + 3)))
  have wM := w_M_must (gI σ 97 0 (Int32.toNatClampNeg (nI i + 1))) (gI σ 97 0 (Int32.toNatClampNeg (nI i + 2))) (gI σ 97 0 (Int32.toNatClampNeg (nI i + 3))) (e_C_must (gI σ 97 0 (Int32.toNatClampNeg (nI i + 1))) (gI σ 97 0 (Int32.toNatClampNeg (nI i + 2))) (gI σ 97 0 (Int32.toNatClampNeg (nI i + 3))) σ)
  simp only [f1, f2, mG_t w1, mG_t w2, mG_t w3, mG_t pC, mG_t pM, mIf_t hv] at run
  exact ⟨_, _, _, ⟨Cpl.lt hC2 wM rfl, (wM.n (k := 104) rfl).trans n1, ((wM.i (k := 97) rfl).trans f2).trans hLn⟩, by decide, by decide, run⟩


