/-! the law: cases -/
set_option maxRecDepth 100000 in
set_option maxHeartbeats 4000000 in
theorem q_L_1834 (x4 : Int32) (σ : MSto) (k : MK) : mrun KT P_L k 600 (1834, [some (mR 97 0), some (mR 12 0), some (mR 13 0), some (mR 98 0), some (mI x4), none, none, none], [], σ, 0, 0) = mG (vp_in (x4 + 1) (gI σ 97 1 0).toNatClampNeg) (mG (vp_in (x4 + 2) (gI σ 97 1 0).toNatClampNeg) (mG (p_C_knew (gI σ 97 0 (Int32.toNatClampNeg (x4 + 1))) (gI σ 97 0 (Int32.toNatClampNeg (x4 + 2))) σ) (mG (vp_in (x4 + 1) (gI (e_C_knew (gI σ 97 0 (Int32.toNatClampNeg (x4 + 1))) (gI σ 97 0 (Int32.toNatClampNeg (x4 + 2))) σ) 97 1 0).toNatClampNeg) (mG (vp_in (x4 + 2) (gI (e_C_knew (gI σ 97 0 (Int32.toNatClampNeg (x4 + 1))) (gI σ 97 0 (Int32.toNatClampNeg (x4 + 2))) σ) 97 1 0).toNatClampNeg) (mG (p_M_knew (gI (e_C_knew (gI σ 97 0 (Int32.toNatClampNeg (x4 + 1))) (gI σ 97 0 (Int32.toNatClampNeg (x4 + 2))) σ) 97 0 (Int32.toNatClampNeg (x4 + 1))) (gI (e_C_knew (gI σ 97 0 (Int32.toNatClampNeg (x4 + 1))) (gI σ 97 0 (Int32.toNatClampNeg (x4 + 2))) σ) 97 0 (Int32.toNatClampNeg (x4 + 2))) (e_C_knew (gI σ 97 0 (Int32.toNatClampNeg (x4 + 1))) (gI σ 97 0 (Int32.toNatClampNeg (x4 + 2))) σ)) (mIf ((v_C_knew (gI σ 97 0 (Int32.toNatClampNeg (x4 + 1))) (gI σ 97 0 (Int32.toNatClampNeg (x4 + 2))) σ) = (v_M_knew (gI (e_C_knew (gI σ 97 0 (Int32.toNatClampNeg (x4 + 1))) (gI σ 97 0 (Int32.toNatClampNeg (x4 + 2))) σ) 97 0 (Int32.toNatClampNeg (x4 + 1))) (gI (e_C_knew (gI σ 97 0 (Int32.toNatClampNeg (x4 + 1))) (gI σ 97 0 (Int32.toNatClampNeg (x4 + 2))) σ) 97 0 (Int32.toNatClampNeg (x4 + 2))) (e_C_knew (gI σ 97 0 (Int32.toNatClampNeg (x4 + 1))) (gI σ 97 0 (Int32.toNatClampNeg (x4 + 2))) σ))) (k (2235, [some (mR 97 0), some (mR 12 0), some (mR 13 0), some (mR 98 0), some (mI x4), none, none, none], [], (e_M_knew (gI (e_C_knew (gI σ 97 0 (Int32.toNatClampNeg (x4 + 1))) (gI σ 97 0 (Int32.toNatClampNeg (x4 + 2))) σ) 97 0 (Int32.toNatClampNeg (x4 + 1))) (gI (e_C_knew (gI σ 97 0 (Int32.toNatClampNeg (x4 + 1))) (gI σ 97 0 (Int32.toNatClampNeg (x4 + 2))) σ) 97 0 (Int32.toNatClampNeg (x4 + 2))) (e_C_knew (gI σ 97 0 (Int32.toNatClampNeg (x4 + 1))) (gI σ 97 0 (Int32.toNatClampNeg (x4 + 2))) σ)), 0, 0)) (none))))))) := rfl
theorem Lp_1834 {L i : Nat} {σ : MSto} (hI : LInv L σ) (hL : L ≤ 3584) (hi : i + 7 ≤ L) : LGo L 1834 i σ := by
  obtain ⟨hC, h104, hLn⟩ := hI
  have w1 := lvp (c := 1) hLn hL hi (by omega)
  have w2 := lvp (c := 2) hLn hL hi (by omega)
  have run := q_L_1834 (nI i) σ (fun st => some st)
  have wC := w_C_knew (gI σ 97 0 (Int32.toNatClampNeg (nI i + 1))) (gI σ 97 0 (Int32.toNatClampNeg (nI i + 2))) σ
  have n1 : gN (e_C_knew (gI σ 97 0 (Int32.toNatClampNeg (nI i + 1))) (gI σ 97 0 (Int32.toNatClampNeg (nI i + 2))) σ) 104 = 0 := (wC.n (k := 104) rfl).trans h104
  have hC1 := Cpl.rt hC wC rfl
  have f1 : ∀ j, gI (e_C_knew (gI σ 97 0 (Int32.toNatClampNeg (nI i + 1))) (gI σ 97 0 (Int32.toNatClampNeg (nI i + 2))) σ) 97 0 j = gI σ 97 0 j := fun j => wC.i rfl
  have f2 : gI (e_C_knew (gI σ 97 0 (Int32.toNatClampNeg (nI i + 1))) (gI σ 97 0 (Int32.toNatClampNeg (nI i + 2))) σ) 97 1 0 = gI σ 97 1 0 := wC.i rfl
  obtain ⟨pC, pM, hv, hC2⟩ := T_knew hC1 (gI σ 97 0 (Int32.toNatClampNeg (nI i + 1))) (gI σ 97 0 (Int32.toNatClampNeg (nI i + 2)))
  have wM := w_M_knew (gI σ 97 0 (Int32.toNatClampNeg (nI i + 1))) (gI σ 97 0 (Int32.toNatClampNeg (nI i + 2))) (e_C_knew (gI σ 97 0 (Int32.toNatClampNeg (nI i + 1))) (gI σ 97 0 (Int32.toNatClampNeg (nI i + 2))) σ)
  simp only [f1, f2, mG_t w1, mG_t w2, mG_t pC, mG_t pM, mIf_t hv] at run
  exact ⟨_, _, _, ⟨Cpl.lt hC2 wM rfl, (wM.n (k := 104) rfl).trans n1, ((wM.i (k := 97) rfl).trans f2).trans hLn⟩, by decide, by decide, run⟩

set_option maxRecDepth 100000 in
set_option maxHeartbeats 4000000 in
theorem q_L_1871 (x4 : Int32) (σ : MSto) (k : MK) : mrun KT P_L k 600 (1871, [some (mR 97 0), some (mR 12 0), some (mR 13 0), some (mR 98 0), some (mI x4), none, none, none], [], σ, 0, 0) = mG (vp_in (x4 + 1) (gI σ 97 1 0).toNatClampNeg) (mG (vp_in (x4 + 2) (gI σ 97 1 0).toNatClampNeg) (mG (vp_in (x4 + 3) (gI σ 97 1 0).toNatClampNeg) (mG (p_C_how (gI σ 97 0 (Int32.toNatClampNeg (x4 + 1))) (gI σ 97 0 (Int32.toNatClampNeg (x4 + 2))) (gI σ 97 0 (Int32.toNatClampNeg (x4 + 3))) σ) (mG (vp_in (x4 + 1) (gI (e_C_how (gI σ 97 0 (Int32.toNatClampNeg (x4 + 1))) (gI σ 97 0 (Int32.toNatClampNeg (x4 + 2))) (gI σ 97 0 (Int32.toNatClampNeg (x4 + 3))) σ) 97 1 0).toNatClampNeg) (mG (vp_in (x4 + 2) (gI (e_C_how (gI σ 97 0 (Int32.toNatClampNeg (x4 + 1))) (gI σ 97 0 (Int32.toNatClampNeg (x4 + 2))) (gI σ 97 0 (Int32.toNatClampNeg (x4 + 3))) σ) 97 1 0).toNatClampNeg) (mG (vp_in (x4 + 3) (gI (e_C_how (gI σ 97 0 (Int32.toNatClampNeg (x4 + 1))) (gI σ 97 0 (Int32.toNatClampNeg (x4 + 2))) (gI σ 97 0 (Int32.toNatClampNeg (x4 + 3))) σ) 97 1 0).toNatClampNeg) (mG (p_M_how (gI (e_C_how (gI σ 97 0 (Int32.toNatClampNeg (x4 + 1))) (gI σ 97 0 (Int32.toNatClampNeg (x4 + 2))) (gI σ 97 0 (Int32.toNatClampNeg (x4 + 3))) σ) 97 0 (Int32.toNatClampNeg (x4 + 1))) (gI (e_C_how (gI σ 97 0 (Int32.toNatClampNeg (x4 + 1))) (gI σ 97 0 (Int32.toNatClampNeg (x4 + 2))) (gI σ 97 0 (Int32.toNatClampNeg (x4 + 3))) σ) 97 0 (Int32.toNatClampNeg (x4 + 2))) (gI (e_C_how (gI σ 97 0 (Int32.toNatClampNeg (x4 + 1))) (gI σ 97 0 (Int32.toNatClampNeg (x4 + 2))) (gI σ 97 0 (Int32.toNatClampNeg (x4 + 3))) σ) 97 0 (Int32.toNatClampNeg (x4 + 3))) (e_C_how (gI σ 97 0 (Int32.toNatClampNeg (x4 + 1))) (gI σ 97 0 (Int32.toNatClampNeg (x4 + 2))) (gI σ 97 0 (Int32.toNatClampNeg (x4 + 3))) σ)) (mIf ((v_C_how (gI σ 97 0 (Int32.toNatClampNeg (x4 + 1))) (gI σ 97 0 (Int32.toNatClampNeg (x4 + 2))) (gI σ 97 0 (Int32.toNatClampNeg (x4 + 3))) σ) = (v_M_how (gI (e_C_how (gI σ 97 0 (Int32.toNatClampNeg (x4 + 1))) (gI σ 97 0 (Int32.toNatClampNeg (x4 + 2))) (gI σ 97 0 (Int32.toNatClampNeg (x4 + 3))) σ) 97 0 (Int32.toNatClampNeg (x4 + 1))) (gI (e_C_how (gI σ 97 0 (Int32.toNatClampNeg (x4 + 1))) (gI σ 97 0 (Int32.toNatClampNeg (x4 + 2))) (gI σ 97 0 (Int32.toNatClampNeg (x4 + 3))) σ) 97 0 (Int32.toNatClampNeg (x4 + 2))) (gI (e_C_how (gI σ 97 0 (Int32.toNatClampNeg (x4 + 1))) (gI σ 97 0 (Int32.toNatClampNeg (x4 + 2))) (gI σ 97 0 (Int32.toNatClampNeg (x4 + 3))) σ) 97 0 (Int32.toNatClampNeg (x4 + 3))) (e_C_how (gI σ 97 0 (Int32.toNatClampNeg (x4 + 1))) (gI σ 97 0 (Int32.toNatClampNeg (x4 + 2))) (gI σ 97 0 (Int32.toNatClampNeg (x4 + 3))) σ))) (k (2235, [some (mR 97 0), some (mR 12 0), some (mR 13 0), some (mR 98 0), some (mI x4), none, none, none], [], (e_M_how (gI (e_C_how (gI σ 97 0 (Int32.toNatClampNeg (x4 + 1))) (gI σ 97 0 (Int32.toNatClampNeg (x4 + 2))) (gI σ 97 0 (Int32.toNatClampNeg (x4 + 3))) σ) 97 0 (Int32.toNatClampNeg (x4 + 1))) (gI (e_C_how (gI σ 97 0 (Int32.toNatClampNeg (x4 + 1))) (gI σ 97 0 (Int32.toNatClampNeg (x4 + 2))) (gI σ 97 0 (Int32.toNatClampNeg (x4 + 3))) σ) 97 0 (Int32.toNatClampNeg (x4 + 2))) (gI (e_C_how (gI σ 97 0 (Int32.toNatClampNeg (x4 + 1))) (gI σ 97 0 (Int32.toNatClampNeg (x4 + 2))) (gI σ 97 0 (Int32.toNatClampNeg (x4 + 3))) σ) 97 0 (Int32.toNatClampNeg (x4 + 3))) (e_C_how (gI σ 97 0 (Int32.toNatClampNeg (x4 + 1))) (gI σ 97 0 (Int32.toNatClampNeg (x4 + 2))) (gI σ 97 0 (Int32.toNatClampNeg (x4 + 3))) σ)), 1, 2)) (none))))))))) := rfl
theorem Lp_1871 {L i : Nat} {σ : MSto} (hI : LInv L σ) (hL : L ≤ 3584) (hi : i + 7 ≤ L) : LGo L 1871 i σ := by
  obtain ⟨hC, h104, hLn⟩ := hI
  have w1 := lvp (c := 1) hLn hL hi (by omega)
  have w2 := lvp (c := 2) hLn hL hi (by omega)
  have w3 := lvp (c := 3) hLn hL hi (by omega)
  have run := q_L_1871 (nI i) σ (fun st => some st)
  have wC := w_C_how (gI σ 97 0 (Int32.toNatClampNeg (nI i + 1))) (gI σ 97 0 (Int32.toNatClampNeg (nI i + 2))) (gI σ 97 0 (Int32.toNatClampNeg (nI i + 3))) σ
  have n1 : gN (e_C_how (gI σ 97 0 (Int32.toNatClampNeg (nI i + 1))) (gI σ 97 0 (Int32.toNatClampNeg (nI i + 2))) (gI σ 97 0 (Int32.toNatClampNeg (nI i + 3))) σ) 104 = 0 := (wC.n (k := 104) rfl).trans h104
  have hC1 := Cpl.rt hC wC rfl
  have f1 : ∀ j, gI (e_C_how (gI σ 97 0 (Int32.toNatClampNeg (nI i + 1))) (gI σ 97 0 (Int32.toNatClampNeg (nI i + 2))) (gI σ 97 0 (Int32.toNatClampNeg (nI i + 3))) σ) 97 0 j = gI σ 97 0 j := fun j => wC.i rfl
  have f2 : gI (e_C_how (gI σ 97 0 (Int32.toNatClampNeg (nI i + 1))) (gI σ 97 0 (Int32.toNatClampNeg (nI i + 2))) (gI σ 97 0 (Int32.toNatClampNeg (nI i + 3))) σ) 97 1 0 = gI σ 97 1 0 := wC.i rfl
  obtain ⟨pC, pM, hv, hC2⟩ := T_how hC1 (gI σ 97 0 (Int32.toNatClampNeg (nI i + 1))) (gI σ 97 0 (Int32.toNatClampNeg (nI i + 2))) (gI σ 97 0 (Int32.toNatClampNeg (nI i + 3)))
  have wM := w_M_how (gI σ 97 0 (Int32.toNatClampNeg (nI i + 1))) (gI σ 97 0 (Int32.toNatClampNeg (nI i + 2))) (gI σ 97 0 (Int32.toNatClampNeg (nI i + 3))) (e_C_how (gI σ 97 0 (Int32.toNatClampNeg (nI i + 1))) (gI σ 97 0 (Int32.toNatClampNeg (nI i + 2))) (gI σ 97 0 (Int32.toNatClampNeg (nI i + 3))) σ)
  simp only [f1, f2, mG_t w1, mG_t w2, mG_t w3, mG_t pC, mG_t pM, mIf_t hv] at run
  exact ⟨_, _, _, ⟨Cpl.lt hC2 wM rfl, (wM.n (k := 104) rfl).trans n1, ((wM.i (k := 97) rfl).trans f2).trans hLn⟩, by decide, by decide, run⟩

set_option maxRecDepth 100000 in
set_option maxHeartbeats 4000000 in
theorem q_L_1920 (x4 : Int32) (σ : MSto) (k : MK) : mrun KT P_L k 600 (1920, [some (mR 97 0), some (mR 12 0), some (mR 13 0), some (mR 98 0), some (mI x4), none, none, none], [], σ, 0, 0) = mG (vp_in (x4 + 1) (gI σ 97 1 0).toNatClampNeg) (mG (vp_in (x4 + 2) (gI σ 97 1 0).toNatClampNeg) (mG (p_C_open (gI σ 97 0 (Int32.toNatClampNeg (x4 + 1))) (gI σ 97 0 (Int32.toNatClampNeg (x4 + 2))) σ) (mG (vp_in (x4 + 1) (gI (e_C_open (gI σ 97 0 (Int32.toNatClampNeg (x4 + 1))) (gI σ 97 0 (Int32.toNatClampNeg (x4 + 2))) σ) 97 1 0).toNatClampNeg) (mG (vp_in (x4 + 2) (gI (e_C_open (gI σ 97 0 (Int32.toNatClampNeg (x4 + 1))) (gI σ 97 0 (Int32.toNatClampNeg (x4 + 2))) σ) 97 1 0).toNatClampNeg) (mG (p_M_open (gI (e_C_open (gI σ 97 0 (Int32.toNatClampNeg (x4 + 1))) (gI σ 97 0 (Int32.toNatClampNeg (x4 + 2))) σ) 97 0 (Int32.toNatClampNeg (x4 + 1))) (gI (e_C_open (gI σ 97 0 (Int32.toNatClampNeg (x4 + 1))) (gI σ 97 0 (Int32.toNatClampNeg (x4 + 2))) σ) 97 0 (Int32.toNatClampNeg (x4 + 2))) (e_C_open (gI σ 97 0 (Int32.toNatClampNeg (x4 + 1))) (gI σ 97 0 (Int32.toNatClampNeg (x4 + 2))) σ)) (mIf ((v_C_open (gI σ 97 0 (Int32.toNatClampNeg (x4 + 1))) (gI σ 97 0 (Int32.toNatClampNeg (x4 + 2))) σ) = (v_M_open (gI (e_C_open (gI σ 97 0 (Int32.toNatClampNeg (x4 + 1))) (gI σ 97 0 (Int32.toNatClampNeg (x4 + 2))) σ) 97 0 (Int32.toNatClampNeg (x4 + 1))) (gI (e_C_open (gI σ 97 0 (Int32.toNatClampNeg (x4 + 1))) (gI σ 97 0 (Int32.toNatClampNeg (x4 + 2))) σ) 97 0 (Int32.toNatClampNeg (x4 + 2))) (e_C_open (gI σ 97 0 (Int32.toNatClampNeg (x4 + 1))) (gI σ 97 0 (Int32.toNatClampNeg (x4 + 2))) σ))) (k (2235, [some (mR 97 0), some (mR 12 0), some (mR 13 0), some (mR 98 0), some (mI x4), none, none, none], [], (e_M_open (gI (e_C_open (gI σ 97 0 (Int32.toNatClampNeg (x4 + 1))) (gI σ 97 0 (Int32.toNatClampNeg (x4 + 2))) σ) 97 0 (Int32.toNatClampNeg (x4 + 1))) (gI (e_C_open (gI σ 97 0 (Int32.toNatClampNeg (x4 + 1))) (gI σ 97 0 (Int32.toNatClampNeg (x4 + 2))) σ) 97 0 (Int32.toNatClampNeg (x4 + 2))) (e_C_open (gI σ 97 0 (Int32.toNatClampNeg (x4 + 1))) (gI σ 97 0 (Int32.toNatClampNeg (x4 + 2))) σ)), 0, 0)) (none))))))) := rfl
theorem Lp_1920 {L i : Nat} {σ : MSto} (hI : LInv L σ) (hL : L ≤ 3584) (hi : i + 7 ≤ L) : LGo L 1920 i σ := by
  obtain ⟨hC, h104, hLn⟩ := hI
  have w1 := lvp (c := 1) hLn hL hi (by omega)
  have w2 := lvp (c := 2) hLn hL hi (by omega)
  have run := q_L_1920 (nI i) σ (fun st => some st)
  have wC := w_C_open (gI σ 97 0 (Int32.toNatClampNeg (nI i + 1))) (gI σ 97 0 (Int32.toNatClampNeg (nI i + 2))) σ
  have n1 : gN (e_C_open (gI σ 97 0 (Int32.toNatClampNeg (nI i + 1))) (gI σ 97 0 (Int32.toNatClampNeg (nI i + 2))) σ) 104 = 0 := (wC.n (k := 104) rfl).trans h104
  have hC1 := Cpl.rt hC wC rfl
  have f1 : ∀ j, gI (e_C_open (gI σ 97 0 (Int32.toNatClampNeg (nI i + 1))) (gI σ 97 0 (Int32.toNatClampNeg (nI i + 2))) σ) 97 0 j = gI σ 97 0 j := fun j => wC.i rfl
  have f2 : gI (e_C_open (gI σ 97 0 (Int32.toNatClampNeg (nI i + 1))) (gI σ 97 0 (Int32.toNatClampNeg (nI i + 2))) σ) 97 1 0 = gI σ 97 1 0 := wC.i rfl
  obtain ⟨pC, pM, hv, hC2⟩ := T_open hC1 (gI σ 97 0 (Int32.toNatClampNeg (nI i + 1))) (gI σ 97 0 (Int32.toNatClampNeg (nI i + 2)))
  have wM := w_M_open (gI σ 97 0 (Int32.toNatClampNeg (nI i + 1))) (gI σ 97 0 (Int32.toNatClampNeg (nI i + 2))) (e_C_open (gI σ 97 0 (Int32.toNatClampNeg (nI i + 1))) (gI σ 97 0 (Int32.toNatClampNeg (nI i + 2))) σ)
  simp only [f1, f2, mG_t w1, mG_t w2, mG_t pC, mG_t pM, mIf_t hv] at run
  exact ⟨_, _, _, ⟨Cpl.lt hC2 wM rfl, (wM.n (k := 104) rfl).trans n1, ((wM.i (k := 97) rfl).trans f2).trans hLn⟩, by decide, by decide, run⟩

set_option maxRecDepth 100000 in
set_option maxHeartbeats 4000000 in
theorem q_L_1957 (x4 : Int32) (σ : MSto) (k : MK) : mrun KT P_L k 600 (1957, [some (mR 97 0), some (mR 12 0), some (mR 13 0), some (mR 98 0), some (mI x4), none, none, none], [], σ, 0, 0) = mG (vp_in (x4 + 1) (gI σ 97 1 0).toNatClampNeg) (mG (vp_in (x4 + 2) (gI σ 97 1 0).toNatClampNeg) (mG (p_C_look (gI σ 97 0 (Int32.toNatClampNeg (x4 + 1))) (gI σ 97 0 (Int32.toNatClampNeg (x4 + 2))) σ) (mG (vp_in (x4 + 1) (gI (e_C_look (gI σ 97 0 (Int32.toNatClampNeg (x4 + 1))) (gI σ 97 0 (Int32.toNatClampNeg (x4 + 2))) σ) 97 1 0).toNatClampNeg) (mG (vp_in (x4 + 2) (gI (e_C_look (gI σ 97 0 (Int32.toNatClampNeg (x4 + 1))) (gI σ 97 0 (Int32.toNatClampNeg (x4 + 2))) σ) 97 1 0).toNatClampNeg) (mG (p_M_look (gI (e_C_look (gI σ 97 0 (Int32.toNatClampNeg (x4 + 1))) (gI σ 97 0 (Int32.toNatClampNeg (x4 + 2))) σ) 97 0 (Int32.toNatClampNeg (x4 + 1))) (gI (e_C_look (gI σ 97 0 (Int32.toNatClampNeg (x4 + 1))) (gI σ 97 0 (Int32.toNatClampNeg (x4 + 2))) σ) 97 0 (Int32.toNatClampNeg (x4 + 2))) (e_C_look (gI σ 97 0 (Int32.toNatClampNeg (x4 + 1))) (gI σ 97 0 (Int32.toNatClampNeg (x4 + 2))) σ)) (mIf ((v_C_look (gI σ 97 0 (Int32.toNatClampNeg (x4 + 1))) (gI σ 97 0 (Int32.toNatClampNeg (x4 + 2))) σ) = (v_M_look (gI (e_C_look (gI σ 97 0 (Int32.toNatClampNeg (x4 + 1))) (gI σ 97 0 (Int32.toNatClampNeg (x4 + 2))) σ) 97 0 (Int32.toNatClampNeg (x4 + 1))) (gI (e_C_look (gI σ 97 0 (Int32.toNatClampNeg (x4 + 1))) (gI σ 97 0 (Int32.toNatClampNeg (x4 + 2))) σ) 97 0 (Int32.toNatClampNeg (x4 + 2))) (e_C_look (gI σ 97 0 (Int32.toNatClampNeg (x4 + 1))) (gI σ 97 0 (Int32.toNatClampNeg (x4 + 2))) σ))) (k (2235, [some (mR 97 0), some (mR 12 0), some (mR 13 0), some (mR 98 0), some (mI x4), none, none, none], [], (e_M_look (gI (e_C_look (gI σ 97 0 (Int32.toNatClampNeg (x4 + 1))) (gI σ 97 0 (Int32.toNatClampNeg (x4 + 2))) σ) 97 0 (Int32.toNatClampNeg (x4 + 1))) (gI (e_C_look (gI σ 97 0 (Int32.toNatClampNeg (x4 + 1))) (gI σ 97 0 (Int32.toNatClampNeg (x4 + 2))) σ) 97 0 (Int32.toNatClampNeg (x4 + 2))) (e_C_look (gI σ 97 0 (Int32.toNatClampNeg (x4 + 1))) (gI σ 97 0 (Int32.toNatClampNeg (x4 + 2))) σ)), 0, 0)) (none))))))) := rfl
theorem Lp_1957 {L i : Nat} {σ : MSto} (hI : LInv L σ) (hL : L ≤ 3584) (hi : i + 7 ≤ L) : LGo L 1957 i σ := by
  obtain ⟨hC, h104, hLn⟩ := hI
  have w1 := lvp (c := 1) hLn hL hi (by omega)
  have w2 := lvp (c := 2) hLn hL hi (by omega)
  have run := q_L_1957 (nI i) σ (fun st => some st)
  have wC := w_C_look (gI σ 97 0 (Int32.toNatClampNeg (nI i + 1))) (gI σ 97 0 (Int32.toNatClampNeg (nI i + 2))) σ
  have n1 : gN (e_C_look (gI σ 97 0 (Int32.toNatClampNeg (nI i + 1))) (gI σ 97 0 (Int32.toNatClampNeg (nI i + 2))) σ) 104 = 0 := (wC.n (k := 104) rfl).trans h104
  have hC1 := Cpl.rt hC wC rfl
  have f1 : ∀ j, gI (e_C_look (gI σ 97 0 (Int32.toNatClampNeg (nI i + 1))) (gI σ 97 0 (Int32.toNatClampNeg (nI i + 2))) σ) 97 0 j = gI σ 97 0 j := fun j => wC.i rfl
  have f2 : gI (e_C_look (gI σ 97 0 (Int32.toNatClampNeg (nI i + 1))) (gI σ 97 0 (Int32.toNatClampNeg (nI i + 2))) σ) 97 1 0 = gI σ 97 1 0 := wC.i rfl
  obtain ⟨pC, pM, hv, hC2⟩ := T_look hC1 (gI σ 97 0 (Int32.toNatClampNeg (nI i + 1))) (gI σ 97 0 (Int32.toNatClampNeg (nI i + 2)))
  have wM := w_M_look (gI σ 97 0 (Int32.toNatClampNeg (nI i + 1))) (gI σ 97 0 (Int32.toNatClampNeg (nI i + 2))) (e_C_look (gI σ 97 0 (Int32.toNatClampNeg (nI i + 1))) (gI σ 97 0 (Int32.toNatClampNeg (nI i + 2))) σ)
  simp only [f1, f2, mG_t w1, mG_t w2, mG_t pC, mG_t pM, mIf_t hv] at run
  exact ⟨_, _, _, ⟨Cpl.lt hC2 wM rfl, (wM.n (k := 104) rfl).trans n1, ((wM.i (k := 97) rfl).trans f2).trans hLn⟩, by decide, by decide, run⟩

set_option maxRecDepth 100000 in
set_option maxHeartbeats 4000000 in
theorem q_L_1994 (x4 : Int32) (σ : MSto) (k : MK) : mrun KT P_L k 600 (1994, [some (mR 97 0), some (mR 12 0), some (mR 13 0), some (mR 98 0), some (mI x4), none, none, none], [], σ, 0, 0) = mG (vp_in (x4 + 1) (gI σ 97 1 0).toNatClampNeg) (mG (vp_in (x4 + 2) (gI σ 97 1 0).toNatClampNeg) (mG (vp_in (x4 + 3) (gI σ 97 1 0).toNatClampNeg) (mG (vp_in (x4 + 4) (gI σ 97 1 0).toNatClampNeg) (mG (p_C_wanted (gI σ 97 0 (Int32.toNatClampNeg (x4 + 1))) (gI σ 97 0 (Int32.toNatClampNeg (x4 + 2))) (gI σ 97 0 (Int32.toNatClampNeg (x4 + 3))) (gI σ 97 0 (Int32.toNatClampNeg (x4 + 4))) σ) (mG (vp_in (x4 + 1) (gI (e_C_wanted (gI σ 97 0 (Int32.toNatClampNeg (x4 + 1))) (gI σ 97 0 (Int32.toNatClampNeg (x4 + 2))) (gI σ 97 0 (Int32.toNatClampNeg (x4 + 3))) (gI σ 97 0 (Int32.toNatClampNeg (x4 + 4))) σ) 97 1 0).toNatClampNeg) (mG (vp_in (x4 + 2) (gI (e_C_wanted (gI σ 97 0 (Int32.toNatClampNeg (x4 + 1))) (gI σ 97 0 (Int32.toNatClampNeg (x4 + 2))) (gI σ 97 0 (Int32.toNatClampNeg (x4 + 3))) (gI σ 97 0 (Int32.toNatClampNeg (x4 + 4))) σ) 97 1 0).toNatClampNeg) (mG (vp_in (x4 + 3) (gI (e_C_wanted (gI σ 97 0 (Int32.toNatClampNeg (x4 + 1))) (gI σ 97 0 (Int32.toNatClampNeg (x4 + 2))) (gI σ 97 0 (Int32.toNatClampNeg (x4 + 3))) (gI σ 97 0 (Int32.toNatClampNeg (x4 + 4))) σ) 97 1 0).toNatClampNeg) (mG (vp_in (x4 + 4) (gI (e_C_wanted (gI σ 97 0 (Int32.toNatClampNeg (x4 + 1))) (gI σ 97 0 (Int32.toNatClampNeg (x4 + 2))) (gI σ 97 0 (Int32.toNatClampNeg (x4 + 3))) (gI σ 97 0 (Int32.toNatClampNeg (x4 + 4))) σ) 97 1 0).toNatClampNeg) (mG (p_M_wanted (gI (e_C_wanted (gI σ 97 0 (Int32.toNatClampNeg (x4 + 1))) (gI σ 97 0 (Int32.toNatClampNeg (x4 + 2))) (gI σ 97 0 (Int32.toNatClampNeg (x4 + 3))) (gI σ 97 0 (Int32.toNatClampNeg (x4 + 4))) σ) 97 0 (Int32.toNatClampNeg (x4 + 1))) (gI (e_C_wanted (gI σ 97 0 (Int32.toNatClampNeg (x4 + 1))) (gI σ 97 0 (Int32.toNatClampNeg (x4 + 2))) (gI σ 97 0 (Int32.toNatClampNeg (x4 + 3))) (gI σ 97 0 (Int32.toNatClampNeg (x4 + 4))) σ) 97 0 (Int32.toNatClampNeg (x4 + 2))) (gI (e_C_wanted (gI σ 97 0 (Int32.toNatClampNeg (x4 + 1))) (gI σ 97 0 (Int32.toNatClampNeg (x4 + 2))) (gI σ 97 0 (Int32.toNatClampNeg (x4 + 3))) (gI σ 97 0 (Int32.toNatClampNeg (x4 + 4))) σ) 97 0 (Int32.toNatClampNeg (x4 + 3))) (gI (e_C_wanted (gI σ 97 0 (Int32.toNatClampNeg (x4 + 1))) (gI σ 97 0 (Int32.toNatClampNeg (x4 + 2))) (gI σ 97 0 (Int32.toNatClampNeg (x4 + 3))) (gI σ 97 0 (Int32.toNatClampNeg (x4 + 4))) σ) 97 0 (Int32.toNatClampNeg (x4 + 4))) (e_C_wanted (gI σ 97 0 (Int32.toNatClampNeg (x4 + 1))) (gI σ 97 0 (Int32.toNatClampNeg (x4 + 2))) (gI σ 97 0 (Int32.toNatClampNeg (x4 + 3))) (gI σ 97 0 (Int32.toNatClampNeg (x4 + 4))) σ)) (mIf ((v_C_wanted (gI σ 97 0 (Int32.toNatClampNeg (x4 + 1))) (gI σ 97 0 (Int32.toNatClampNeg (x4 + 2))) (gI σ 97 0 (Int32.toNatClampNeg (x4 + 3))) (gI σ 97 0 (Int32.toNatClampNeg (x4 + 4))) σ) = (v_M_wanted (gI (e_C_wanted (gI σ 97 0 (Int32.toNatClampNeg (x4 + 1))) (gI σ 97 0 (Int32.toNatClampNeg (x4 + 2))) (gI σ 97 0 (Int32.toNatClampNeg (x4 + 3))) (gI σ 97 0 (Int32.toNatClampNeg (x4 + 4))) σ) 97 0 (Int32.toNatClampNeg (x4 + 1))) (gI (e_C_wanted (gI σ 97 0 (Int32.toNatClampNeg (x4 + 1))) (gI σ 97 0 (Int32.toNatClampNeg (x4 + 2))) (gI σ 97 0 (Int32.toNatClampNeg (x4 + 3))) (gI σ 97 0 (Int32.toNatClampNeg (x4 + 4))) σ) 97 0 (Int32.toNatClampNeg (x4 + 2))) (gI (e_C_wanted (gI σ 97 0 (Int32.toNatClampNeg (x4 + 1))) (gI σ 97 0 (Int32.toNatClampNeg (x4 + 2))) (gI σ 97 0 (Int32.toNatClampNeg (x4 + 3))) (gI σ 97 0 (Int32.toNatClampNeg (x4 + 4))) σ) 97 0 (Int32.toNatClampNeg (x4 + 3))) (gI (e_C_wanted (gI σ 97 0 (Int32.toNatClampNeg (x4 + 1))) (gI σ 97 0 (Int32.toNatClampNeg (x4 + 2))) (gI σ 97 0 (Int32.toNatClampNeg (x4 + 3))) (gI σ 97 0 (Int32.toNatClampNeg (x4 + 4))) σ) 97 0 (Int32.toNatClampNeg (x4 + 4))) (e_C_wanted (gI σ 97 0 (Int32.toNatClampNeg (x4 + 1))) (gI σ 97 0 (Int32.toNatClampNeg (x4 + 2))) (gI σ 97 0 (Int32.toNatClampNeg (x4 + 3))) (gI σ 97 0 (Int32.toNatClampNeg (x4 + 4))) σ))) (k (2235, [some (mR 97 0), some (mR 12 0), some (mR 13 0), some (mR 98 0), some (mI x4), none, none, none], [], (e_M_wanted (gI (e_C_wanted (gI σ 97 0 (Int32.toNatClampNeg (x4 + 1))) (gI σ 97 0 (Int32.toNatClampNeg (x4 + 2))) (gI σ 97 0 (Int32.toNatClampNeg (x4 + 3))) (gI σ 97 0 (Int32.toNatClampNeg (x4 + 4))) σ) 97 0 (Int32.toNatClampNeg (x4 + 1))) (gI (e_C_wanted (gI σ 97 0 (Int32.toNatClampNeg (x4 + 1))) (gI σ 97 0 (Int32.toNatClampNeg (x4 + 2))) (gI σ 97 0 (Int32.toNatClampNeg (x4 + 3))) (gI σ 97 0 (Int32.toNatClampNeg (x4 + 4))) σ) 97 0 (Int32.toNatClampNeg (x4 + 2))) (gI (e_C_wanted (gI σ 97 0 (Int32.toNatClampNeg (x4 + 1))) (gI σ 97 0 (Int32.toNatClampNeg (x4 + 2))) (gI σ 97 0 (Int32.toNatClampNeg (x4 + 3))) (gI σ 97 0 (Int32.toNatClampNeg (x4 + 4))) σ) 97 0 (Int32.toNatClampNeg (x4 + 3))) (gI (e_C_wanted (gI σ 97 0 (Int32.toNatClampNeg (x4 + 1))) (gI σ 97 0 (Int32.toNatClampNeg (x4 + 2))) (gI σ 97 0 (Int32.toNatClampNeg (x4 + 3))) (gI σ 97 0 (Int32.toNatClampNeg (x4 + 4))) σ) 97 0 (Int32.toNatClampNeg (x4 + 4))) (e_C_wanted (gI σ 97 0 (Int32.toNatClampNeg (x4 + 1))) (gI σ 97 0 (Int32.toNatClampNeg (x4 + 2))) (gI σ 97 0 (Int32.toNatClampNeg (x4 + 3))) (gI σ 97 0 (Int32.toNatClampNeg (x4 + 4))) σ)), 1, 3)) (none))))))))))) := rfl
theorem Lp_1994 {L i : Nat} {σ : MSto} (hI : LInv L σ) (hL : L ≤ 3584) (hi : i + 7 ≤ L) : LGo L 1994 i σ := by
  obtain ⟨hC, h104, hLn⟩ := hI
  have w1 := lvp (c := 1) hLn hL hi (by omega)
  have w2 := lvp (c := 2) hLn hL hi (by omega)
  have w3 := lvp (c := 3) hLn hL hi (by omega)
  have w4 := lvp (c := 4) hLn hL hi (by omega)
  have run := q_L_1994 (nI i) σ (fun st => some st)
  have wC := w_C_wanted (gI σ 97 0 (Int32.toNatClampNeg (nI i + 1))) (gI σ 97 0 (Int32.toNatClampNeg (nI i + 2))) (gI σ 97 0 (Int32.toNatClampNeg (nI i + 3))) (gI σ 97 0 (Int32.toNatClampNeg (nI i + 4))) σ
  have n1 : gN (e_C_wanted (gI σ 97 0 (Int32.toNatClampNeg (nI i + 1))) (gI σ 97 0 (Int32.toNatClampNeg (nI i + 2))) (gI σ 97 0 (Int32.toNatClampNeg (nI i + 3))) (gI σ 97 0 (Int32.toNatClampNeg (nI i + 4))) σ) 104 = 0 := (wC.n (k := 104) rfl).trans h104
  have hC1 := Cpl.rt hC wC rfl
  have f1 : ∀ j, gI (e_C_wanted (gI σ 97 0 (Int32.toNatClampNeg (nI i + 1))) (gI σ 97 0 (Int32.toNatClampNeg (nI i + 2))) (gI σ 97 0 (Int32.toNatClampNeg (nI i + 3))) (gI σ 97 0 (Int32.toNatClampNeg (nI i + 4))) σ) 97 0 j = gI σ 97 0 j := fun j => wC.i rfl
  have f2 : gI (e_C_wanted (gI σ 97 0 (Int32.toNatClampNeg (nI i + 1))) (gI σ 97 0 (Int32.toNatClampNeg (nI i + 2))) (gI σ 97 0 (Int32.toNatClampNeg (nI i + 3))) (gI σ 97 0 (Int32.toNatClampNeg (nI i + 4))) σ) 97 1 0 = gI σ 97 1 0 := wC.i rfl
  obtain ⟨pC, pM, hv, hC2⟩ := T_wanted hC1 (gI σ 97 0 (Int32.toNatClampNeg (nI i + 1))) (gI σ 97 0 (Int32.toNatClampNeg (nI i + 2))) (gI σ 97 0 (Int32.toNatClampNeg (nI i + 3))) (gI σ 97 0 (Int32.toNatClampNeg (nI i + 4)))
  have wM := w_M_wanted (gI σ 97 0 (Int32.toNatClampNeg (nI i + 1))) (gI σ 97 0 (Int32.toNatClampNeg (nI i + 2))) (gI σ 97 0 (Int32.toNatClampNeg (nI i + 3))) (gI σ 97 0 (Int32.toNatClampNeg (nI i + 4))) (e_C_wanted (gI σ 97 0 (Int32.toNatClampNeg (nI i + 1))) (gI σ 97 0 (Int32.toNatClampNeg (nI i + 2))) (gI σ 97 0 (Int32.toNatClampNeg (nI i + 3))) (gI σ 97 0 (Int32.toNatClampNeg (nI i + 4))) σ)
  simp only [f1, f2, mG_t w1, mG_t w2, mG_t w3, mG_t w4, mG_t pC, mG_t pM, mIf_t hv] at run
  exact ⟨_, _, _, ⟨Cpl.lt hC2 wM rfl, (wM.n (k := 104) rfl).trans n1, ((wM.i (k := 97) rfl).trans f2).trans hLn⟩, by decide, by decide, run⟩

set_option maxRecDepth 100000 in
set_option maxHeartbeats 4000000 in
theorem q_L_2055 (x4 : Int32) (σ : MSto) (k : MK) : mrun KT P_L k 600 (2055, [some (mR 97 0), some (mR 12 0), some (mR 13 0), some (mR 98 0), some (mI x4), none, none, none], [], σ, 0, 0) = mG (vp_in (x4 + 1) (gI σ 97 1 0).toNatClampNeg) (mG (p_C_omits (gI σ 97 0 (Int32.toNatClampNeg (x4 + 1))) σ) (mG (vp_in (x4 + 1) (gI (e_C_omits (gI σ 97 0 (Int32.toNatClampNeg (x4 + 1))) σ) 97 1 0).toNatClampNeg) (mG (p_M_omits (gI (e_C_omits (gI σ 97 0 (Int32.toNatClampNeg (x4 + 1))) σ) 97 0 (Int32.toNatClampNeg (x4 + 1))) (e_C_omits (gI σ 97 0 (Int32.toNatClampNeg (x4 + 1))) σ)) (mIf ((v_C_omits (gI σ 97 0 (Int32.toNatClampNeg (x4 + 1))) σ) = (v_M_omits (gI (e_C_omits (gI σ 97 0 (Int32.toNatClampNeg (x4 + 1))) σ) 97 0 (Int32.toNatClampNeg (x4 + 1))) (e_C_omits (gI σ 97 0 (Int32.toNatClampNeg (x4 + 1))) σ))) (k (2235, [some (mR 97 0), some (mR 12 0), some (mR 13 0), some (mR 98 0), some (mI x4), none, none, none], [], (e_M_omits (gI (e_C_omits (gI σ 97 0 (Int32.toNatClampNeg (x4 + 1))) σ) 97 0 (Int32.toNatClampNeg (x4 + 1))) (e_C_omits (gI σ 97 0 (Int32.toNatClampNeg (x4 + 1))) σ)), 0, 0)) (none))))) := rfl
theorem Lp_2055 {L i : Nat} {σ : MSto} (hI : LInv L σ) (hL : L ≤ 3584) (hi : i + 7 ≤ L) : LGo L 2055 i σ := by
  obtain ⟨hC, h104, hLn⟩ := hI
  have w1 := lvp (c := 1) hLn hL hi (by omega)
  have run := q_L_2055 (nI i) σ (fun st => some st)
  have wC := w_C_omits (gI σ 97 0 (Int32.toNatClampNeg (nI i + 1))) σ
  have n1 : gN (e_C_omits (gI σ 97 0 (Int32.toNatClampNeg (nI i + 1))) σ) 104 = 0 := (wC.n (k := 104) rfl).trans h104
  have hC1 := Cpl.rt hC wC rfl
  have f1 : ∀ j, gI (e_C_omits (gI σ 97 0 (Int32.toNatClampNeg (nI i + 1))) σ) 97 0 j = gI σ 97 0 j := fun j => wC.i rfl
  have f2 : gI (e_C_omits (gI σ 97 0 (Int32.toNatClampNeg (nI i + 1))) σ) 97 1 0 = gI σ 97 1 0 := wC.i rfl
  obtain ⟨pC, pM, hv, hC2⟩ := T_omits hC1 (gI σ 97 0 (Int32.toNatClampNeg (nI i + 1)))
  have wM := w_M_omits (gI σ 97 0 (Int32.toNatClampNeg (nI i + 1))) (e_C_omits (gI σ 97 0 (Int32.toNatClampNeg (nI i + 1))) σ)
  simp only [f1, f2, mG_t w1, mG_t pC, mG_t pM, mIf_t hv] at run
  exact ⟨_, _, _, ⟨Cpl.lt hC2 wM rfl, (wM.n (k := 104) rfl).trans n1, ((wM.i (k := 97) rfl).trans f2).trans hLn⟩, by decide, by decide, run⟩

set_option maxRecDepth 100000 in
set_option maxHeartbeats 4000000 in
theorem q_L_2080 (x4 : Int32) (σ : MSto) (k : MK) : mrun KT P_L k 600 (2080, [some (mR 97 0), some (mR 12 0), some (mR 13 0), some (mR 98 0), some (mI x4), none, none, none], [], σ, 0, 0) = mG (vp_in (x4 + 1) (gI σ 97 1 0).toNatClampNeg) (mG (vp_in (x4 + 1) (gI (e_C_seed (gI σ 97 0 (Int32.toNatClampNeg (x4 + 1))) σ) 97 1 0).toNatClampNeg) (mIf ((v_C_seed (gI σ 97 0 (Int32.toNatClampNeg (x4 + 1))) σ) = (v_M_seed (gI (e_C_seed (gI σ 97 0 (Int32.toNatClampNeg (x4 + 1))) σ) 97 0 (Int32.toNatClampNeg (x4 + 1))) (e_C_seed (gI σ 97 0 (Int32.toNatClampNeg (x4 + 1))) σ))) (k (2235, [some (mR 97 0), some (mR 12 0), some (mR 13 0), some (mR 98 0), some (mI x4), none, none, none], [], (e_M_seed (gI (e_C_seed (gI σ 97 0 (Int32.toNatClampNeg (x4 + 1))) σ) 97 0 (Int32.toNatClampNeg (x4 + 1))) (e_C_seed (gI σ 97 0 (Int32.toNatClampNeg (x4 + 1))) σ)), 0, 0)) (none))) := rfl
theorem Lp_2080 {L i : Nat} {σ : MSto} (hI : LInv L σ) (hL : L ≤ 3584) (hi : i + 7 ≤ L) : LGo L 2080 i σ := by
  obtain ⟨hC, h104, hLn⟩ := hI
  have w1 := lvp (c := 1) hLn hL hi (by omega)
  have run := q_L_2080 (nI i) σ (fun st => some st)
  have wC := w_C_seed (gI σ 97 0 (Int32.toNatClampNeg (nI i + 1))) σ
  have n1 : gN (e_C_seed (gI σ 97 0 (Int32.toNatClampNeg (nI i + 1))) σ) 104 = 0 := (wC.n (k := 104) rfl).trans h104
  have hC1 := Cpl.rt hC wC rfl
  have f1 : ∀ j, gI (e_C_seed (gI σ 97 0 (Int32.toNatClampNeg (nI i + 1))) σ) 97 0 j = gI σ 97 0 j := fun j => wC.i rfl
  have f2 : gI (e_C_seed (gI σ 97 0 (Int32.toNatClampNeg (nI i + 1))) σ) 97 1 0 = gI σ 97 1 0 := wC.i rfl
  obtain ⟨hv, hC2⟩ := T_seed hC1 (gI σ 97 0 (Int32.toNatClampNeg (nI i + 1)))
  have wM := w_M_seed (gI σ 97 0 (Int32.toNatClampNeg (nI i + 1))) (e_C_seed (gI σ 97 0 (Int32.toNatClampNeg (nI i + 1))) σ)
  simp only [f1, f2, mG_t w1, mIf_t hv] at run
  exact ⟨_, _, _, ⟨Cpl.lt hC2 wM rfl, (wM.n (k := 104) rfl).trans n1, ((wM.i (k := 97) rfl).trans f2).trans hLn⟩, by decide, by decide, run⟩

set_option maxRecDepth 100000 in
set_option maxHeartbeats 4000000 in
theorem q_L_2105 (x4 : Int32) (σ : MSto) (k : MK) : mrun KT P_L k 600 (2105, [some (mR 97 0), some (mR 12 0), some (mR 13 0), some (mR 98 0), some (mI x4), none, none, none], [], σ, 0, 0) = mG (vp_in (x4 + 1) (gI σ 97 1 0).toNatClampNeg) (mG (p_C_keep (gI σ 97 0 (Int32.toNatClampNeg (x4 + 1))) σ) (mG (vp_in (x4 + 1) (gI (e_C_keep (gI σ 97 0 (Int32.toNatClampNeg (x4 + 1))) σ) 97 1 0).toNatClampNeg) (mG (p_M_keep (gI (e_C_keep (gI σ 97 0 (Int32.toNatClampNeg (x4 + 1))) σ) 97 0 (Int32.toNatClampNeg (x4 + 1))) (e_C_keep (gI σ 97 0 (Int32.toNatClampNeg (x4 + 1))) σ)) (mIf ((v_C_keep (gI σ 97 0 (Int32.toNatClampNeg (x4 + 1))) σ) = (v_M_keep (gI (e_C_keep (gI σ 97 0 (Int32.toNatClampNeg (x4 + 1))) σ) 97 0 (Int32.toNatClampNeg (x4 + 1))) (e_C_keep (gI σ 97 0 (Int32.toNatClampNeg (x4 + 1))) σ))) (k (2235, [some (mR 97 0), some (mR 12 0), some (mR 13 0), some (mR 98 0), some (mI x4), none, none, none], [], (e_M_keep (gI (e_C_keep (gI σ 97 0 (Int32.toNatClampNeg (x4 + 1))) σ) 97 0 (Int32.toNatClampNeg (x4 + 1))) (e_C_keep (gI σ 97 0 (Int32.toNatClampNeg (x4 + 1))) σ)), 3, 23)) (none))))) := rfl
theorem Lp_2105 {L i : Nat} {σ : MSto} (hI : LInv L σ) (hL : L ≤ 3584) (hi : i + 7 ≤ L) : LGo L 2105 i σ := by
  obtain ⟨hC, h104, hLn⟩ := hI
  have w1 := lvp (c := 1) hLn hL hi (by omega)
  have run := q_L_2105 (nI i) σ (fun st => some st)
  have wC := (w_C_keep hC h104 (gI σ 97 0 (Int32.toNatClampNeg (nI i + 1)))).1
  have n1 := (w_C_keep hC h104 (gI σ 97 0 (Int32.toNatClampNeg (nI i + 1)))).2
  have hC1 := Cpl.rt hC wC rfl
  have f1 : ∀ j, gI (e_C_keep (gI σ 97 0 (Int32.toNatClampNeg (nI i + 1))) σ) 97 0 j = gI σ 97 0 j := fun j => wC.i rfl
  have f2 : gI (e_C_keep (gI σ 97 0 (Int32.toNatClampNeg (nI i + 1))) σ) 97 1 0 = gI σ 97 1 0 := wC.i rfl
  obtain ⟨pC, pM, hv, hC2⟩ := T_keepX hC1 h104 (gI σ 97 0 (Int32.toNatClampNeg (nI i + 1)))
  have wM := w_M_keep (gI σ 97 0 (Int32.toNatClampNeg (nI i + 1))) (e_C_keep (gI σ 97 0 (Int32.toNatClampNeg (nI i + 1))) σ)
  simp only [f1, f2, mG_t w1, mG_t pC, mG_t pM, mIf_t hv] at run
  exact ⟨_, _, _, ⟨Cpl.lt hC2 wM rfl, (wM.n (k := 104) rfl).trans n1, ((wM.i (k := 97) rfl).trans f2).trans hLn⟩, by decide, by decide, run⟩

set_option maxRecDepth 100000 in
set_option maxHeartbeats 4000000 in
theorem q_L_2130 (x4 : Int32) (σ : MSto) (k : MK) : mrun KT P_L k 600 (2130, [some (mR 97 0), some (mR 12 0), some (mR 13 0), some (mR 98 0), some (mI x4), none, none, none], [], σ, 0, 0) = mG (vp_in (x4 + 1) (gI σ 97 1 0).toNatClampNeg) (mG (p_C_again (gI σ 97 0 (Int32.toNatClampNeg (x4 + 1))) σ) (mG (vp_in (x4 + 1) (gI (e_C_again (gI σ 97 0 (Int32.toNatClampNeg (x4 + 1))) σ) 97 1 0).toNatClampNeg) (mG (p_M_again (gI (e_C_again (gI σ 97 0 (Int32.toNatClampNeg (x4 + 1))) σ) 97 0 (Int32.toNatClampNeg (x4 + 1))) (e_C_again (gI σ 97 0 (Int32.toNatClampNeg (x4 + 1))) σ)) (mIf ((v_C_again (gI σ 97 0 (Int32.toNatClampNeg (x4 + 1))) σ) = (v_M_again (gI (e_C_again (gI σ 97 0 (Int32.toNatClampNeg (x4 + 1))) σ) 97 0 (Int32.toNatClampNeg (x4 + 1))) (e_C_again (gI σ 97 0 (Int32.toNatClampNeg (x4 + 1))) σ))) (k (2235, [some (mR 97 0), some (mR 12 0), some (mR 13 0), some (mR 98 0), some (mI x4), none, none, none], [], (e_M_again (gI (e_C_again (gI σ 97 0 (Int32.toNatClampNeg (x4 + 1))) σ) 97 0 (Int32.toNatClampNeg (x4 + 1))) (e_C_again (gI σ 97 0 (Int32.toNatClampNeg (x4 + 1))) σ)), 0, 0)) (none))))) := rfl
theorem Lp_2130 {L i : Nat} {σ : MSto} (hI : LInv L σ) (hL : L ≤ 3584) (hi : i + 7 ≤ L) : LGo L 2130 i σ := by
  obtain ⟨hC, h104, hLn⟩ := hI
  have w1 := lvp (c := 1) hLn hL hi (by omega)
  have run := q_L_2130 (nI i) σ (fun st => some st)
  have wC := w_C_again (gI σ 97 0 (Int32.toNatClampNeg (nI i + 1))) σ
  have n1 : gN (e_C_again (gI σ 97 0 (Int32.toNatClampNeg (nI i + 1))) σ) 104 = 0 := (wC.n (k := 104) rfl).trans h104
  have hC1 := Cpl.rt hC wC rfl
  have f1 : ∀ j, gI (e_C_again (gI σ 97 0 (Int32.toNatClampNeg (nI i + 1))) σ) 97 0 j = gI σ 97 0 j := fun j => wC.i rfl
  have f2 : gI (e_C_again (gI σ 97 0 (Int32.toNatClampNeg (nI i + 1))) σ) 97 1 0 = gI σ 97 1 0 := wC.i rfl
  obtain ⟨pC, pM, hv, hC2⟩ := T_again hC1 (gI σ 97 0 (Int32.toNatClampNeg (nI i + 1)))
  have wM := w_M_again (gI σ 97 0 (Int32.toNatClampNeg (nI i + 1))) (e_C_again (gI σ 97 0 (Int32.toNatClampNeg (nI i + 1))) σ)
  simp only [f1, f2, mG_t w1, mG_t pC, mG_t pM, mIf_t hv] at run
  exact ⟨_, _, _, ⟨Cpl.lt hC2 wM rfl, (wM.n (k := 104) rfl).trans n1, ((wM.i (k := 97) rfl).trans f2).trans hLn⟩, by decide, by decide, run⟩

set_option maxRecDepth 100000 in
set_option maxHeartbeats 4000000 in
theorem q_L_2155 (x4 : Int32) (σ : MSto) (k : MK) : mrun KT P_L k 600 (2155, [some (mR 97 0), some (mR 12 0), some (mR 13 0), some (mR 98 0), some (mI x4), none, none, none], [], σ, 0, 0) = mG (vp_in (x4 + 1) (gI σ 97 1 0).toNatClampNeg) (mG (p_C_told (gI σ 97 0 (Int32.toNatClampNeg (x4 + 1))) σ) (mG (vp_in (x4 + 1) (gI σ 97 1 0).toNatClampNeg) (mIf ((v_C_told (gI σ 97 0 (Int32.toNatClampNeg (x4 + 1))) σ) = (v_M_told (gI σ 97 0 (Int32.toNatClampNeg (x4 + 1))) σ)) (k (2235, [some (mR 97 0), some (mR 12 0), some (mR 13 0), some (mR 98 0), some (mI x4), none, none, none], [], (e_M_told (gI σ 97 0 (Int32.toNatClampNeg (x4 + 1))) σ), 0, 0)) (none)))) := rfl
theorem Lp_2155 {L i : Nat} {σ : MSto} (hI : LInv L σ) (hL : L ≤ 3584) (hi : i + 7 ≤ L) : LGo L 2155 i σ := by
  obtain ⟨hC, h104, hLn⟩ := hI
  have w1 := lvp (c := 1) hLn hL hi (by omega)
  have run := q_L_2155 (nI i) σ (fun st => some st)
  have hC1 := hC
  have f2 : gI σ 97 1 0 = gI σ 97 1 0 := rfl
  have n1 := h104
  obtain ⟨pC, hv, hC2⟩ := T_told hC1 (gI σ 97 0 (Int32.toNatClampNeg (nI i + 1)))
  have wM := w_M_told (gI σ 97 0 (Int32.toNatClampNeg (nI i + 1))) σ
  simp only [mG_t w1, mG_t pC, mIf_t hv] at run
  exact ⟨_, _, _, ⟨Cpl.lt hC2 wM rfl, (wM.n (k := 104) rfl).trans n1, ((wM.i (k := 97) rfl).trans f2).trans hLn⟩, by decide, by decide, run⟩


