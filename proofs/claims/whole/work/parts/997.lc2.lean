/-! the law: cases -/
set_option maxRecDepth 100000 in
set_option maxHeartbeats 4000000 in
theorem q_L_1390 (x4 : Int32) (σ : MSto) (k : MK) : mrun KT P_L k 600 (1390, [some (mR 97 0), some (mR 12 0), some (mR 13 0), some (mR 98 0), some (mI x4), none, none, none], [], σ, 0, 0) = mG (p_C_story σ) (mG (p_M_story (e_C_story σ)) (mIf ((v_C_story σ) = (v_M_story (e_C_story σ))) (k (2235, [some (mR 97 0), some (mR 12 0), some (mR 13 0), some (mR 98 0), some (mI x4), none, none, none], [], (e_M_story (e_C_story σ)), 2, 27)) (none))) := rfl
theorem Lp_1390 {L i : Nat} {σ : MSto} (hI : LInv L σ) (hL : L ≤ 3584) (hi : i + 7 ≤ L) : LGo L 1390 i σ := by
  obtain ⟨hC, h104, hLn⟩ := hI
  have run := q_L_1390 (nI i) σ (fun st => some st)
  have wC := w_C_story σ
  have n1 : gN (e_C_story σ) 104 = 0 := (wC.n (k := 104) rfl).trans h104
  have hC1 := Cpl.rt hC wC rfl
  have f1 : ∀ j, gI (e_C_story σ) 97 0 j = gI σ 97 0 j := fun j => wC.i rfl
  have f2 : gI (e_C_story σ) 97 1 0 = gI σ 97 1 0 := wC.i rfl
  obtain ⟨pC, pM, hv, hC2⟩ := T_story hC1
  have wM := w_M_story (e_C_story σ)
  simp only [f1, f2, mG_t pC, mG_t pM, mIf_t hv] at run
  exact ⟨_, _, _, ⟨Cpl.lt hC2 wM rfl, (wM.n (k := 104) rfl).trans n1, ((wM.i (k := 97) rfl).trans f2).trans hLn⟩, by decide, by decide, run⟩

set_option maxRecDepth 100000 in
set_option maxHeartbeats 4000000 in
theorem q_L_1403 (x4 : Int32) (σ : MSto) (k : MK) : mrun KT P_L k 600 (1403, [some (mR 97 0), some (mR 12 0), some (mR 13 0), some (mR 98 0), some (mI x4), none, none, none], [], σ, 0, 0) = mG (vp_in (x4 + 1) (gI σ 97 1 0).toNatClampNeg) (mG (vp_in (x4 + 2) (gI σ 97 1 0).toNatClampNeg) (mG (p_C_faith (gI σ 97 0 (Int32.toNatClampNeg (x4 + 1))) (gI σ 97 0 (Int32.toNatClampNeg (x4 + 2))) σ) (mG (vp_in (x4 + 1) (gI (e_C_faith (gI σ 97 0 (Int32.toNatClampNeg (x4 + 1))) (gI σ 97 0 (Int32.toNatClampNeg (x4 + 2))) σ) 97 1 0).toNatClampNeg) (mG (vp_in (x4 + 2) (gI (e_C_faith (gI σ 97 0 (Int32.toNatClampNeg (x4 + 1))) (gI σ 97 0 (Int32.toNatClampNeg (x4 + 2))) σ) 97 1 0).toNatClampNeg) (mG (p_M_faith (gI (e_C_faith (gI σ 97 0 (Int32.toNatClampNeg (x4 + 1))) (gI σ 97 0 (Int32.toNatClampNeg (x4 + 2))) σ) 97 0 (Int32.toNatClampNeg (x4 + 1))) (gI (e_C_faith (gI σ 97 0 (Int32.toNatClampNeg (x4 + 1))) (gI σ 97 0 (Int32.toNatClampNeg (x4 + 2))) σ) 97 0 (Int32.toNatClampNeg (x4 + 2))) (e_C_faith (gI σ 97 0 (Int32.toNatClampNeg (x4 + 1))) (gI σ 97 0 (Int32.toNatClampNeg (x4 + 2))) σ)) (mIf ((v_C_faith (gI σ 97 0 (Int32.toNatClampNeg (x4 + 1))) (gI σ 97 0 (Int32.toNatClampNeg (x4 + 2))) σ) = (v_M_faith (gI (e_C_faith (gI σ 97 0 (Int32.toNatClampNeg (x4 + 1))) (gI σ 97 0 (Int32.toNatClampNeg (x4 + 2))) σ) 97 0 (Int32.toNatClampNeg (x4 + 1))) (gI (e_C_faith (gI σ 97 0 (Int32.toNatClampNeg (x4 + 1))) (gI σ 97 0 (Int32.toNatClampNeg (x4 + 2))) σ) 97 0 (Int32.toNatClampNeg (x4 + 2))) (e_C_faith (gI σ 97 0 (Int32.toNatClampNeg (x4 + 1))) (gI σ 97 0 (Int32.toNatClampNeg (x4 + 2))) σ))) (k (2235, [some (mR 97 0), some (mR 12 0), some (mR 13 0), some (mR 98 0), some (mI x4), none, none, none], [], (e_M_faith (gI (e_C_faith (gI σ 97 0 (Int32.toNatClampNeg (x4 + 1))) (gI σ 97 0 (Int32.toNatClampNeg (x4 + 2))) σ) 97 0 (Int32.toNatClampNeg (x4 + 1))) (gI (e_C_faith (gI σ 97 0 (Int32.toNatClampNeg (x4 + 1))) (gI σ 97 0 (Int32.toNatClampNeg (x4 + 2))) σ) 97 0 (Int32.toNatClampNeg (x4 + 2))) (e_C_faith (gI σ 97 0 (Int32.toNatClampNeg (x4 + 1))) (gI σ 97 0 (Int32.toNatClampNeg (x4 + 2))) σ)), 0, 0)) (none))))))) := rfl
theorem Lp_1403 {L i : Nat} {σ : MSto} (hI : LInv L σ) (hL : L ≤ 3584) (hi : i + 7 ≤ L) : LGo L 1403 i σ := by
  obtain ⟨hC, h104, hLn⟩ := hI
  have w1 := lvp (c := 1) hLn hL hi (by omega)
  have w2 := lvp (c := 2) hLn hL hi (by omega)
  have run := q_L_1403 (nI i) σ (fun st => some st)
  have wC := w_C_faith (gI σ 97 0 (Int32.toNatClampNeg (nI i + 1))) (gI σ 97 0 (Int32.toNatClampNeg (nI i + 2))) σ
  have n1 : gN (e_C_faith (gI σ 97 0 (Int32.toNatClampNeg (nI i + 1))) (gI σ 97 0 (Int32.toNatClampNeg (nI i + 2))) σ) 104 = 0 := (wC.n (k := 104) rfl).trans h104
  have hC1 := Cpl.rt hC wC rfl
  have f1 : ∀ j, gI (e_C_faith (gI σ 97 0 (Int32.toNatClampNeg (nI i + 1))) (gI σ 97 0 (Int32.toNatClampNeg (nI i + 2))) σ) 97 0 j = gI σ 97 0 j := fun j => wC.i rfl
  have f2 : gI (e_C_faith (gI σ 97 0 (Int32.toNatClampNeg (nI i + 1))) (gI σ 97 0 (Int32.toNatClampNeg (nI i + 2))) σ) 97 1 0 = gI σ 97 1 0 := wC.i rfl
  obtain ⟨pC, pM, hv, hC2⟩ := T_faith hC1 (gI σ 97 0 (Int32.toNatClampNeg (nI i + 1))) (gI σ 97 0 (Int32.toNatClampNeg (nI i + 2)))
  have wM := w_M_faith (gI σ 97 0 (Int32.toNatClampNeg (nI i + 1))) (gI σ 97 0 (Int32.toNatClampNeg (nI i + 2))) (e_C_faith (gI σ 97 0 (Int32.toNatClampNeg (nI i + 1))) (gI σ 97 0 (Int32.toNatClampNeg (nI i + 2))) σ)
  simp only [f1, f2, mG_t w1, mG_t w2, mG_t pC, mG_t pM, mIf_t hv] at run
  exact ⟨_, _, _, ⟨Cpl.lt hC2 wM rfl, (wM.n (k := 104) rfl).trans n1, ((wM.i (k := 97) rfl).trans f2).trans hLn⟩, by decide, by decide, run⟩

set_option maxRecDepth 100000 in
set_option maxHeartbeats 4000000 in
theorem q_L_1520 (x4 : Int32) (σ : MSto) (k : MK) : mrun KT P_L k 600 (1520, [some (mR 97 0), some (mR 12 0), some (mR 13 0), some (mR 98 0), some (mI x4), none, none, none], [], σ, 0, 0) = mG (vp_in (x4 + 1) (gI σ 97 1 0).toNatClampNeg) (mG (vp_in (x4 + 2) (gI σ 97 1 0).toNatClampNeg) (mIf ((gI σ 97 0 (Int32.toNatClampNeg (x4 + 2))) = 0) (mG (vp_in (x4 + 3) (gI σ 97 1 0).toNatClampNeg) (mG (p_C_paper (gI σ 97 0 (Int32.toNatClampNeg (x4 + 1))) 0 (gI σ 97 0 (Int32.toNatClampNeg (x4 + 3))) σ) (mG (vp_in (x4 + 1) (gI (e_C_paper (gI σ 97 0 (Int32.toNatClampNeg (x4 + 1))) 0 (gI σ 97 0 (Int32.toNatClampNeg (x4 + 3))) σ) 97 1 0).toNatClampNeg) (mG (vp_in (x4 + 2) (gI (e_C_paper (gI σ 97 0 (Int32.toNatClampNeg (x4 + 1))) 0 (gI σ 97 0 (Int32.toNatClampNeg (x4 + 3))) σ) 97 1 0).toNatClampNeg) (mIf ((gI (e_C_paper (gI σ 97 0 (Int32.toNatClampNeg (x4 + 1))) 0 (gI σ 97 0 (Int32.toNatClampNeg (x4 + 3))) σ) 97 0 (Int32.toNatClampNeg (x4 + 2))) = 0) (mG (vp_in (x4 + 3) (gI (e_C_paper (gI σ 97 0 (Int32.toNatClampNeg (x4 + 1))) 0 (gI σ 97 0 (Int32.toNatClampNeg (x4 + 3))) σ) 97 1 0).toNatClampNeg) (mG (p_M_paper (gI (e_C_paper (gI σ 97 0 (Int32.toNatClampNeg (x4 + 1))) 0 (gI σ 97 0 (Int32.toNatClampNeg (x4 + 3))) σ) 97 0 (Int32.toNatClampNeg (x4 + 1))) 0 (gI (e_C_paper (gI σ 97 0 (Int32.toNatClampNeg (x4 + 1))) 0 (gI σ 97 0 (Int32.toNatClampNeg (x4 + 3))) σ) 97 0 (Int32.toNatClampNeg (x4 + 3))) (e_C_paper (gI σ 97 0 (Int32.toNatClampNeg (x4 + 1))) 0 (gI σ 97 0 (Int32.toNatClampNeg (x4 + 3))) σ)) (mIf ((v_C_paper (gI σ 97 0 (Int32.toNatClampNeg (x4 + 1))) 0 (gI σ 97 0 (Int32.toNatClampNeg (x4 + 3))) σ) = (v_M_paper (gI (e_C_paper (gI σ 97 0 (Int32.toNatClampNeg (x4 + 1))) 0 (gI σ 97 0 (Int32.toNatClampNeg (x4 + 3))) σ) 97 0 (Int32.toNatClampNeg (x4 + 1))) 0 (gI (e_C_paper (gI σ 97 0 (Int32.toNatClampNeg (x4 + 1))) 0 (gI σ 97 0 (Int32.toNatClampNeg (x4 + 3))) σ) 97 0 (Int32.toNatClampNeg (x4 + 3))) (e_C_paper (gI σ 97 0 (Int32.toNatClampNeg (x4 + 1))) 0 (gI σ 97 0 (Int32.toNatClampNeg (x4 + 3))) σ))) (k (2235, [some (mR 97 0), some (mR 12 0), some (mR 13 0), some (mR 98 0), some (mI x4), none, none, none], [], (e_M_paper (gI (e_C_paper (gI σ 97 0 (Int32.toNatClampNeg (x4 + 1))) 0 (gI σ 97 0 (Int32.toNatClampNeg (x4 + 3))) σ) 97 0 (Int32.toNatClampNeg (x4 + 1))) 0 (gI (e_C_paper (gI σ 97 0 (Int32.toNatClampNeg (x4 + 1))) 0 (gI σ 97 0 (Int32.toNatClampNeg (x4 + 3))) σ) 97 0 (Int32.toNatClampNeg (x4 + 3))) (e_C_paper (gI σ 97 0 (Int32.toNatClampNeg (x4 + 1))) 0 (gI σ 97 0 (Int32.toNatClampNeg (x4 + 3))) σ)), 2, 21)) (none)))) (mG (vp_in (x4 + 3) (gI (e_C_paper (gI σ 97 0 (Int32.toNatClampNeg (x4 + 1))) 0 (gI σ 97 0 (Int32.toNatClampNeg (x4 + 3))) σ) 97 1 0).toNatClampNeg) (mG (p_M_paper (gI (e_C_paper (gI σ 97 0 (Int32.toNatClampNeg (x4 + 1))) 0 (gI σ 97 0 (Int32.toNatClampNeg (x4 + 3))) σ) 97 0 (Int32.toNatClampNeg (x4 + 1))) 1 (gI (e_C_paper (gI σ 97 0 (Int32.toNatClampNeg (x4 + 1))) 0 (gI σ 97 0 (Int32.toNatClampNeg (x4 + 3))) σ) 97 0 (Int32.toNatClampNeg (x4 + 3))) (e_C_paper (gI σ 97 0 (Int32.toNatClampNeg (x4 + 1))) 0 (gI σ 97 0 (Int32.toNatClampNeg (x4 + 3))) σ)) (mIf ((v_C_paper (gI σ 97 0 (Int32.toNatClampNeg (x4 + 1))) 0 (gI σ 97 0 (Int32.toNatClampNeg (x4 + 3))) σ) = (v_M_paper (gI (e_C_paper (gI σ 97 0 (Int32.toNatClampNeg (x4 + 1))) 0 (gI σ 97 0 (Int32.toNatClampNeg (x4 + 3))) σ) 97 0 (Int32.toNatClampNeg (x4 + 1))) 1 (gI (e_C_paper (gI σ 97 0 (Int32.toNatClampNeg (x4 + 1))) 0 (gI σ 97 0 (Int32.toNatClampNeg (x4 + 3))) σ) 97 0 (Int32.toNatClampNeg (x4 + 3))) (e_C_paper (gI σ 97 0 (Int32.toNatClampNeg (x4 + 1))) 0 (gI σ 97 0 (Int32.toNatClampNeg (x4 + 3))) σ))) (k (2235, [some (mR 97 0), some (mR 12 0), some (mR 13 0), some (mR 98 0), some (mI x4), none, none, none], [], (e_M_paper (gI (e_C_paper (gI σ 97 0 (Int32.toNatClampNeg (x4 + 1))) 0 (gI σ 97 0 (Int32.toNatClampNeg (x4 + 3))) σ) 97 0 (Int32.toNatClampNeg (x4 + 1))) 1 (gI (e_C_paper (gI σ 97 0 (Int32.toNatClampNeg (x4 + 1))) 0 (gI σ 97 0 (Int32.toNatClampNeg (x4 + 3))) σ) 97 0 (Int32.toNatClampNeg (x4 + 3))) (e_C_paper (gI σ 97 0 (Int32.toNatClampNeg (x4 + 1))) 0 (gI σ 97 0 (Int32.toNatClampNeg (x4 + 3))) σ)), 2, 21)) (none))))))))) (mG (vp_in (x4 + 3) (gI σ 97 1 0).toNatClampNeg) (mG (p_C_paper (gI σ 97 0 (Int32.toNatClampNeg (x4 + 1))) 1 (gI σ 97 0 (Int32.toNatClampNeg (x4 + 3))) σ) (mG (vp_in (x4 + 1) (gI (e_C_paper (gI σ 97 0 (Int32.toNatClampNeg (x4 + 1))) 1 (gI σ 97 0 (Int32.toNatClampNeg (x4 + 3))) σ) 97 1 0).toNatClampNeg) (mG (vp_in (x4 + 2) (gI (e_C_paper (gI σ 97 0 (Int32.toNatClampNeg (x4 + 1))) 1 (gI σ 97 0 (Int32.toNatClampNeg (x4 + 3))) σ) 97 1 0).toNatClampNeg) (mIf ((gI (e_C_paper (gI σ 97 0 (Int32.toNatClampNeg (x4 + 1))) 1 (gI σ 97 0 (Int32.toNatClampNeg (x4 + 3))) σ) 97 0 (Int32.toNatClampNeg (x4 + 2))) = 0) (mG (vp_in (x4 + 3) (gI (e_C_paper (gI σ 97 0 (Int32.toNatClampNeg (x4 + 1))) 1 (gI σ 97 0 (Int32.toNatClampNeg (x4 + 3))) σ) 97 1 0).toNatClampNeg) (mG (p_M_paper (gI (e_C_paper (gI σ 97 0 (Int32.toNatClampNeg (x4 + 1))) 1 (gI σ 97 0 (Int32.toNatClampNeg (x4 + 3))) σ) 97 0 (Int32.toNatClampNeg (x4 + 1))) 0 (gI (e_C_paper (gI σ 97 0 (Int32.toNatClampNeg (x4 + 1))) 1 (gI σ 97 0 (Int32.toNatClampNeg (x4 + 3))) σ) 97 0 (Int32.toNatClampNeg (x4 + 3))) (e_C_paper (gI σ 97 0 (Int32.toNatClampNeg (x4 + 1))) 1 (gI σ 97 0 (Int32.toNatClampNeg (x4 + 3))) σ)) (mIf ((v_C_paper (gI σ 97 0 (Int32.toNatClampNeg (x4 + 1))) 1 (gI σ 97 0 (Int32.toNatClampNeg (x4 + 3))) σ) = (v_M_paper (gI (e_C_paper (gI σ 97 0 (Int32.toNatClampNeg (x4 + 1))) 1 (gI σ 97 0 (Int32.toNatClampNeg (x4 + 3))) σ) 97 0 (Int32.toNatClampNeg (x4 + 1))) 0 (gI (e_C_paper (gI σ 97 0 (Int32.toNatClampNeg (x4 + 1))) 1 (gI σ 97 0 (Int32.toNatClampNeg (x4 + 3))) σ) 97 0 (Int32.toNatClampNeg (x4 + 3))) (e_C_paper (gI σ 97 0 (Int32.toNatClampNeg (x4 + 1))) 1 (gI σ 97 0 (Int32.toNatClampNeg (x4 + 3))) σ))) (k (2235, [some (mR 97 0), some (mR 12 0), some (mR 13 0), some (mR 98 0), some (mI x4), none, none, none], [], (e_M_paper (gI (e_C_paper (gI σ 97 0 (Int32.toNatClampNeg (x4 + 1))) 1 (gI σ 97 0 (Int32.toNatClampNeg (x4 + 3))) σ) 97 0 (Int32.toNatClampNeg (x4 + 1))) 0 (gI (e_C_paper (gI σ 97 0 (Int32.toNatClampNeg (x4 + 1))) 1 (gI σ 97 0 (Int32.toNatClampNeg (x4 + 3))) σ) 97 0 (Int32.toNatClampNeg (x4 + 3))) (e_C_paper (gI σ 97 0 (Int32.toNatClampNeg (x4 + 1))) 1 (gI σ 97 0 (Int32.toNatClampNeg (x4 + 3))) σ)), 2, 21)) (none)))) (mG (vp_in (x4 + 3) (gI (e_C_paper (gI σ 97 0 (Int32.toNatClampNeg (x4 + 1))) 1 (gI σ 97 0 (Int32.toNatClampNeg (x4 + 3))) σ) 97 1 0).toNatClampNeg) (mG (p_M_paper (gI (e_C_paper (gI σ 97 0 (Int32.toNatClampNeg (x4 + 1))) 1 (gI σ 97 0 (Int32.toNatClampNeg (x4 + 3))) σ) 97 0 (Int32.toNatClampNeg (x4 + 1))) 1 (gI (e_C_paper (gI σ 97 0 (Int32.toNatClampNeg (x4 + 1))) 1 (gI σ 97 0 (Int32.toNatClampNeg (x4 + 3))) σ) 97 0 (Int32.toNatClampNeg (x4 + 3))) (e_C_paper (gI σ 97 0 (Int32.toNatClampNeg (x4 + 1))) 1 (gI σ 97 0 (Int32.toNatClampNeg (x4 + 3))) σ)) (mIf ((v_C_paper (gI σ 97 0 (Int32.toNatClampNeg (x4 + 1))) 1 (gI σ 97 0 (Int32.toNatClampNeg (x4 + 3))) σ) = (v_M_paper (gI (e_C_paper (gI σ 97 0 (Int32.toNatClampNeg (x4 + 1))) 1 (gI σ 97 0 (Int32.toNatClampNeg (x4 + 3))) σ) 97 0 (Int32.toNatClampNeg (x4 + 1))) 1 (gI (e_C_paper (gI σ 97 0 (Int32.toNatClampNeg (x4 + 1))) 1 (gI σ 97 0 (Int32.toNatClampNeg (x4 + 3))) σ) 97 0 (Int32.toNatClampNeg (x4 + 3))) (e_C_paper (gI σ 97 0 (Int32.toNatClampNeg (x4 + 1))) 1 (gI σ 97 0 (Int32.toNatClampNeg (x4 + 3))) σ))) (k (2235, [some (mR 97 0), some (mR 12 0), some (mR 13 0), some (mR 98 0), some (mI x4), none, none, none], [], (e_M_paper (gI (e_C_paper (gI σ 97 0 (Int32.toNatClampNeg (x4 + 1))) 1 (gI σ 97 0 (Int32.toNatClampNeg (x4 + 3))) σ) 97 0 (Int32.toNatClampNeg (x4 + 1))) 1 (gI (e_C_paper (gI σ 97 0 (Int32.toNatClampNeg (x4 + 1))) 1 (gI σ 97 0 (Int32.toNatClampNeg (x4 + 3))) σ) 97 0 (Int32.toNatClampNeg (x4 + 3))) (e_C_paper (gI σ 97 0 (Int32.toNatClampNeg (x4 + 1))) 1 (gI σ 97 0 (Int32.toNatClampNeg (x4 + 3))) σ)), 2, 21)) (none))))))))))) := rfl
theorem Lp_1520 {L i : Nat} {σ : MSto} (hI : LInv L σ) (hL : L ≤ 3584) (hi : i + 7 ≤ L) : LGo L 1520 i σ := by
  obtain ⟨hC, h104, hLn⟩ := hI
  have w1 := lvp (c := 1) hLn hL hi (by omega)
  have w2 := lvp (c := 2) hLn hL hi (by omega)
  have w3 := lvp (c := 3) hLn hL hi (by omega)
  have run := q_L_1520 (nI i) σ (fun st => some st)
  by_cases hz : (gI σ 97 0 (Int32.toNatClampNeg (nI i + 2))) = 0
  · skip
    have wC := w_C_paper (gI σ 97 0 (Int32.toNatClampNeg (nI i + 1))) 0 (gI σ 97 0 (Int32.toNatClampNeg (nI i + 3))) σ
    have n1 : gN (e_C_paper (gI σ 97 0 (Int32.toNatClampNeg (nI i + 1))) 0 (gI σ 97 0 (Int32.toNatClampNeg (nI i + 3))) σ) 104 = 0 := (wC.n (k := 104) rfl).trans h104
    have hC1 := Cpl.rt hC wC rfl
    have f1 : ∀ j, gI (e_C_paper (gI σ 97 0 (Int32.toNatClampNeg (nI i + 1))) 0 (gI σ 97 0 (Int32.toNatClampNeg (nI i + 3))) σ) 97 0 j = gI σ 97 0 j := fun j => wC.i rfl
    have f2 : gI (e_C_paper (gI σ 97 0 (Int32.toNatClampNeg (nI i + 1))) 0 (gI σ 97 0 (Int32.toNatClampNeg (nI i + 3))) σ) 97 1 0 = gI σ 97 1 0 := wC.i rfl
    obtain ⟨pC, pM, hv, hC2⟩ := T_paper hC1 (gI σ 97 0 (Int32.toNatClampNeg (nI i + 1))) 0 (gI σ 97 0 (Int32.toNatClampNeg (nI i + 3))) (Or.inl rfl)
    have wM := w_M_paper (gI σ 97 0 (Int32.toNatClampNeg (nI i + 1))) 0 (gI σ 97 0 (Int32.toNatClampNeg (nI i + 3))) (e_C_paper (gI σ 97 0 (Int32.toNatClampNeg (nI i + 1))) 0 (gI σ 97 0 (Int32.toNatClampNeg (nI i + 3))) σ)
    simp only [f1, f2, mG_t w1, mG_t w2, mG_t w3, mG_t pC, mG_t pM, mIf_t hv, mIf_t hz] at run
    exact ⟨_, _, _, ⟨Cpl.lt hC2 wM rfl, (wM.n (k := 104) rfl).trans n1, ((wM.i (k := 97) rfl).trans f2).trans hLn⟩, by decide, by decide, run⟩
  · skip
    have wC := w_C_paper (gI σ 97 0 (Int32.toNatClampNeg (nI i + 1))) 1 (gI σ 97 0 (Int32.toNatClampNeg (nI i + 3))) σ
    have n1 : gN (e_C_paper (gI σ 97 0 (Int32.toNatClampNeg (nI i + 1))) 1 (gI σ 97 0 (Int32.toNatClampNeg (nI i + 3))) σ) 104 = 0 := (wC.n (k := 104) rfl).trans h104
    have hC1 := Cpl.rt hC wC rfl
    have f1 : ∀ j, gI (e_C_paper (gI σ 97 0 (Int32.toNatClampNeg (nI i + 1))) 1 (gI σ 97 0 (Int32.toNatClampNeg (nI i + 3))) σ) 97 0 j = gI σ 97 0 j := fun j => wC.i rfl
    have f2 : gI (e_C_paper (gI σ 97 0 (Int32.toNatClampNeg (nI i + 1))) 1 (gI σ 97 0 (Int32.toNatClampNeg (nI i + 3))) σ) 97 1 0 = gI σ 97 1 0 := wC.i rfl
    obtain ⟨pC, pM, hv, hC2⟩ := T_paper hC1 (gI σ 97 0 (Int32.toNatClampNeg (nI i + 1))) 1 (gI σ 97 0 (Int32.toNatClampNeg (nI i + 3))) (Or.inr rfl)
    have wM := w_M_paper (gI σ 97 0 (Int32.toNatClampNeg (nI i + 1))) 1 (gI σ 97 0 (Int32.toNatClampNeg (nI i + 3))) (e_C_paper (gI σ 97 0 (Int32.toNatClampNeg (nI i + 1))) 1 (gI σ 97 0 (Int32.toNatClampNeg (nI i + 3))) σ)
    simp only [f1, f2, mG_t w1, mG_t w2, mG_t w3, mG_t pC, mG_t pM, mIf_t hv, mIf_f hz] at run
    exact ⟨_, _, _, ⟨Cpl.lt hC2 wM rfl, (wM.n (k := 104) rfl).trans n1, ((wM.i (k := 97) rfl).trans f2).trans hLn⟩, by decide, by decide, run⟩

set_option maxRecDepth 100000 in
set_option maxHeartbeats 4000000 in
theorem q_L_1585 (x4 : Int32) (σ : MSto) (k : MK) : mrun KT P_L k 600 (1585, [some (mR 97 0), some (mR 12 0), some (mR 13 0), some (mR 98 0), some (mI x4), none, none, none], [], σ, 0, 0) = mG (vp_in (x4 + 1) (gI σ 97 1 0).toNatClampNeg) (mG (p_C_odds (gI σ 97 0 (Int32.toNatClampNeg (x4 + 1))) σ) (mG (vp_in (x4 + 1) (gI (e_C_odds (gI σ 97 0 (Int32.toNatClampNeg (x4 + 1))) σ) 97 1 0).toNatClampNeg) (mG (p_M_odds (gI (e_C_odds (gI σ 97 0 (Int32.toNatClampNeg (x4 + 1))) σ) 97 0 (Int32.toNatClampNeg (x4 + 1))) (e_C_odds (gI σ 97 0 (Int32.toNatClampNeg (x4 + 1))) σ)) (mIf ((v_C_odds (gI σ 97 0 (Int32.toNatClampNeg (x4 + 1))) σ) = (v_M_odds (gI (e_C_odds (gI σ 97 0 (Int32.toNatClampNeg (x4 + 1))) σ) 97 0 (Int32.toNatClampNeg (x4 + 1))) (e_C_odds (gI σ 97 0 (Int32.toNatClampNeg (x4 + 1))) σ))) (k (2235, [some (mR 97 0), some (mR 12 0), some (mR 13 0), some (mR 98 0), some (mI x4), none, none, none], [], (e_M_odds (gI (e_C_odds (gI σ 97 0 (Int32.toNatClampNeg (x4 + 1))) σ) 97 0 (Int32.toNatClampNeg (x4 + 1))) (e_C_odds (gI σ 97 0 (Int32.toNatClampNeg (x4 + 1))) σ)), 0, 0)) (none))))) := rfl
theorem Lp_1585 {L i : Nat} {σ : MSto} (hI : LInv L σ) (hL : L ≤ 3584) (hi : i + 7 ≤ L) : LGo L 1585 i σ := by
  obtain ⟨hC, h104, hLn⟩ := hI
  have w1 := lvp (c := 1) hLn hL hi (by omega)
  have run := q_L_1585 (nI i) σ (fun st => some st)
  have wC := w_C_odds (gI σ 97 0 (Int32.toNatClampNeg (nI i + 1))) σ
  have n1 : gN (e_C_odds (gI σ 97 0 (Int32.toNatClampNeg (nI i + 1))) σ) 104 = 0 := (wC.n (k := 104) rfl).trans h104
  have hC1 := Cpl.rt hC wC rfl
  have f1 : ∀ j, gI (e_C_odds (gI σ 97 0 (Int32.toNatClampNeg (nI i + 1))) σ) 97 0 j = gI σ 97 0 j := fun j => wC.i rfl
  have f2 : gI (e_C_odds (gI σ 97 0 (Int32.toNatClampNeg (nI i + 1))) σ) 97 1 0 = gI σ 97 1 0 := wC.i rfl
  obtain ⟨pC, pM, hv, hC2⟩ := T_odds hC1 (gI σ 97 0 (Int32.toNatClampNeg (nI i + 1)))
  have wM := w_M_odds (gI σ 97 0 (Int32.toNatClampNeg (nI i + 1))) (e_C_odds (gI σ 97 0 (Int32.toNatClampNeg (nI i + 1))) σ)
  simp only [f1, f2, mG_t w1, mG_t pC, mG_t pM, mIf_t hv] at run
  exact ⟨_, _, _, ⟨Cpl.lt hC2 wM rfl, (wM.n (k := 104) rfl).trans n1, ((wM.i (k := 97) rfl).trans f2).trans hLn⟩, by decide, by decide, run⟩

set_option maxRecDepth 100000 in
set_option maxHeartbeats 4000000 in
theorem q_L_1610 (x4 : Int32) (σ : MSto) (k : MK) : mrun KT P_L k 600 (1610, [some (mR 97 0), some (mR 12 0), some (mR 13 0), some (mR 98 0), some (mI x4), none, none, none], [], σ, 0, 0) = mG (vp_in (x4 + 1) (gI σ 97 1 0).toNatClampNeg) (mG (vp_in (x4 + 2) (gI σ 97 1 0).toNatClampNeg) (mG (p_C_when (gI σ 97 0 (Int32.toNatClampNeg (x4 + 1))) (gI σ 97 0 (Int32.toNatClampNeg (x4 + 2))) σ) (mG (vp_in (x4 + 1) (gI σ 97 1 0).toNatClampNeg) (mG (vp_in (x4 + 2) (gI σ 97 1 0).toNatClampNeg) (mG (p_M_when (gI σ 97 0 (Int32.toNatClampNeg (x4 + 1))) (gI σ 97 0 (Int32.toNatClampNeg (x4 + 2))) σ) (mIf ((v_C_when (gI σ 97 0 (Int32.toNatClampNeg (x4 + 1))) (gI σ 97 0 (Int32.toNatClampNeg (x4 + 2))) σ) = (v_M_when (gI σ 97 0 (Int32.toNatClampNeg (x4 + 1))) (gI σ 97 0 (Int32.toNatClampNeg (x4 + 2))) σ)) (k (2235, [some (mR 97 0), some (mR 12 0), some (mR 13 0), some (mR 98 0), some (mI x4), none, none, none], [], (e_M_when (gI σ 97 0 (Int32.toNatClampNeg (x4 + 1))) (gI σ 97 0 (Int32.toNatClampNeg (x4 + 2))) σ), 0, 0)) (none))))))) := rfl
theorem Lp_1610 {L i : Nat} {σ : MSto} (hI : LInv L σ) (hL : L ≤ 3584) (hi : i + 7 ≤ L) : LGo L 1610 i σ := by
  obtain ⟨hC, h104, hLn⟩ := hI
  have w1 := lvp (c := 1) hLn hL hi (by omega)
  have w2 := lvp (c := 2) hLn hL hi (by omega)
  have run := q_L_1610 (nI i) σ (fun st => some st)
  have hC1 := hC
  have f2 : gI σ 97 1 0 = gI σ 97 1 0 := rfl
  have n1 := h104
  obtain ⟨pC, pM, hv, hC2⟩ := T_when hC1 (gI σ 97 0 (Int32.toNatClampNeg (nI i + 1))) (gI σ 97 0 (Int32.toNatClampNeg (nI i + 2)))
  have wM := w_M_when (gI σ 97 0 (Int32.toNatClampNeg (nI i + 1))) (gI σ 97 0 (Int32.toNatClampNeg (nI i + 2))) σ
  simp only [mG_t w1, mG_t w2, mG_t pC, mG_t pM, mIf_t hv] at run
  exact ⟨_, _, _, ⟨Cpl.lt hC2 wM rfl, (wM.n (k := 104) rfl).trans n1, ((wM.i (k := 97) rfl).trans f2).trans hLn⟩, by decide, by decide, run⟩

set_option maxRecDepth 100000 in
set_option maxHeartbeats 4000000 in
theorem q_L_1647 (x4 : Int32) (σ : MSto) (k : MK) : mrun KT P_L k 600 (1647, [some (mR 97 0), some (mR 12 0), some (mR 13 0), some (mR 98 0), some (mI x4), none, none, none], [], σ, 0, 0) = mG (vp_in (x4 + 1) (gI σ 97 1 0).toNatClampNeg) (mG (p_C_first (gI σ 97 0 (Int32.toNatClampNeg (x4 + 1))) σ) (mG (vp_in (x4 + 1) (gI (e_C_first (gI σ 97 0 (Int32.toNatClampNeg (x4 + 1))) σ) 97 1 0).toNatClampNeg) (mG (p_M_first (gI (e_C_first (gI σ 97 0 (Int32.toNatClampNeg (x4 + 1))) σ) 97 0 (Int32.toNatClampNeg (x4 + 1))) (e_C_first (gI σ 97 0 (Int32.toNatClampNeg (x4 + 1))) σ)) (mIf ((v_C_first (gI σ 97 0 (Int32.toNatClampNeg (x4 + 1))) σ) = (v_M_first (gI (e_C_first (gI σ 97 0 (Int32.toNatClampNeg (x4 + 1))) σ) 97 0 (Int32.toNatClampNeg (x4 + 1))) (e_C_first (gI σ 97 0 (Int32.toNatClampNeg (x4 + 1))) σ))) (k (2235, [some (mR 97 0), some (mR 12 0), some (mR 13 0), some (mR 98 0), some (mI x4), none, none, none], [], (e_M_first (gI (e_C_first (gI σ 97 0 (Int32.toNatClampNeg (x4 + 1))) σ) 97 0 (Int32.toNatClampNeg (x4 + 1))) (e_C_first (gI σ 97 0 (Int32.toNatClampNeg (x4 + 1))) σ)), 0, 0)) (none))))) := rfl
theorem Lp_1647 {L i : Nat} {σ : MSto} (hI : LInv L σ) (hL : L ≤ 3584) (hi : i + 7 ≤ L) : LGo L 1647 i σ := by
  obtain ⟨hC, h104, hLn⟩ := hI
  have w1 := lvp (c := 1) hLn hL hi (by omega)
  have run := q_L_1647 (nI i) σ (fun st => some st)
  have wC := w_C_first (gI σ 97 0 (Int32.toNatClampNeg (nI i + 1))) σ
  have n1 : gN (e_C_first (gI σ 97 0 (Int32.toNatClampNeg (nI i + 1))) σ) 104 = 0 := (wC.n (k := 104) rfl).trans h104
  have hC1 := Cpl.rt hC wC rfl
  have f1 : ∀ j, gI (e_C_first (gI σ 97 0 (Int32.toNatClampNeg (nI i + 1))) σ) 97 0 j = gI σ 97 0 j := fun j => wC.i rfl
  have f2 : gI (e_C_first (gI σ 97 0 (Int32.toNatClampNeg (nI i + 1))) σ) 97 1 0 = gI σ 97 1 0 := wC.i rfl
  obtain ⟨pC, pM, hv, hC2⟩ := T_first hC1 (gI σ 97 0 (Int32.toNatClampNeg (nI i + 1)))
  have wM := w_M_first (gI σ 97 0 (Int32.toNatClampNeg (nI i + 1))) (e_C_first (gI σ 97 0 (Int32.toNatClampNeg (nI i + 1))) σ)
  simp only [f1, f2, mG_t w1, mG_t pC, mG_t pM, mIf_t hv] at run
  exact ⟨_, _, _, ⟨Cpl.lt hC2 wM rfl, (wM.n (k := 104) rfl).trans n1, ((wM.i (k := 97) rfl).trans f2).trans hLn⟩, by decide, by decide, run⟩

set_option maxRecDepth 100000 in
set_option maxHeartbeats 4000000 in
theorem q_L_1672 (x4 : Int32) (σ : MSto) (k : MK) : mrun KT P_L k 600 (1672, [some (mR 97 0), some (mR 12 0), some (mR 13 0), some (mR 98 0), some (mI x4), none, none, none], [], σ, 0, 0) = mG (vp_in (x4 + 1) (gI σ 97 1 0).toNatClampNeg) (mG (p_C_needs (gI σ 97 0 (Int32.toNatClampNeg (x4 + 1))) σ) (mG (vp_in (x4 + 1) (gI (e_C_needs (gI σ 97 0 (Int32.toNatClampNeg (x4 + 1))) σ) 97 1 0).toNatClampNeg) (mG (p_M_needs (gI (e_C_needs (gI σ 97 0 (Int32.toNatClampNeg (x4 + 1))) σ) 97 0 (Int32.toNatClampNeg (x4 + 1))) (e_C_needs (gI σ 97 0 (Int32.toNatClampNeg (x4 + 1))) σ)) (mIf ((v_C_needs (gI σ 97 0 (Int32.toNatClampNeg (x4 + 1))) σ) = (v_M_needs (gI (e_C_needs (gI σ 97 0 (Int32.toNatClampNeg (x4 + 1))) σ) 97 0 (Int32.toNatClampNeg (x4 + 1))) (e_C_needs (gI σ 97 0 (Int32.toNatClampNeg (x4 + 1))) σ))) (k (2235, [some (mR 97 0), some (mR 12 0), some (mR 13 0), some (mR 98 0), some (mI x4), none, none, none], [], (e_M_needs (gI (e_C_needs (gI σ 97 0 (Int32.toNatClampNeg (x4 + 1))) σ) 97 0 (Int32.toNatClampNeg (x4 + 1))) (e_C_needs (gI σ 97 0 (Int32.toNatClampNeg (x4 + 1))) σ)), 0, 0)) (none))))) := rfl
theorem Lp_1672 {L i : Nat} {σ : MSto} (hI : LInv L σ) (hL : L ≤ 3584) (hi : i + 7 ≤ L) : LGo L 1672 i σ := by
  obtain ⟨hC, h104, hLn⟩ := hI
  have w1 := lvp (c := 1) hLn hL hi (by omega)
  have run := q_L_1672 (nI i) σ (fun st => some st)
  have wC := w_C_needs (gI σ 97 0 (Int32.toNatClampNeg (nI i + 1))) σ
  have n1 : gN (e_C_needs (gI σ 97 0 (Int32.toNatClampNeg (nI i + 1))) σ) 104 = 0 := (wC.n (k := 104) rfl).trans h104
  have hC1 := Cpl.rt hC wC rfl
  have f1 : ∀ j, gI (e_C_needs (gI σ 97 0 (Int32.toNatClampNeg (nI i + 1))) σ) 97 0 j = gI σ 97 0 j := fun j => wC.i rfl
  have f2 : gI (e_C_needs (gI σ 97 0 (Int32.toNatClampNeg (nI i + 1))) σ) 97 1 0 = gI σ 97 1 0 := wC.i rfl
  obtain ⟨pC, pM, hv, hC2⟩ := T_needs hC1 (gI σ 97 0 (Int32.toNatClampNeg (nI i + 1)))
  have wM := w_M_needs (gI σ 97 0 (Int32.toNatClampNeg (nI i + 1))) (e_C_needs (gI σ 97 0 (Int32.toNatClampNeg (nI i + 1))) σ)
  simp only [f1, f2, mG_t w1, mG_t pC, mG_t pM, mIf_t hv] at run
  exact ⟨_, _, _, ⟨Cpl.lt hC2 wM rfl, (wM.n (k := 104) rfl).trans n1, ((wM.i (k := 97) rfl).trans f2).trans hLn⟩, by decide, by decide, run⟩

set_option maxRecDepth 100000 in
set_option maxHeartbeats 4000000 in
theorem q_L_1697 (x4 : Int32) (σ : MSto) (k : MK) : mrun KT P_L k 600 (1697, [some (mR 97 0), some (mR 12 0), some (mR 13 0), some (mR 98 0), some (mI x4), none, none, none], [], σ, 0, 0) = mG (vp_in (x4 + 1) (gI σ 97 1 0).toNatClampNeg) (mG (vp_in (x4 + 2) (gI σ 97 1 0).toNatClampNeg) (mG (p_C_parts (gI σ 97 0 (Int32.toNatClampNeg (x4 + 1))) (gI σ 97 0 (Int32.toNatClampNeg (x4 + 2))) σ) (mG (vp_in (x4 + 1) (gI (e_C_parts (gI σ 97 0 (Int32.toNatClampNeg (x4 + 1))) (gI σ 97 0 (Int32.toNatClampNeg (x4 + 2))) σ) 97 1 0).toNatClampNeg) (mG (vp_in (x4 + 2) (gI (e_C_parts (gI σ 97 0 (Int32.toNatClampNeg (x4 + 1))) (gI σ 97 0 (Int32.toNatClampNeg (x4 + 2))) σ) 97 1 0).toNatClampNeg) (mG (p_M_parts (gI (e_C_parts (gI σ 97 0 (Int32.toNatClampNeg (x4 + 1))) (gI σ 97 0 (Int32.toNatClampNeg (x4 + 2))) σ) 97 0 (Int32.toNatClampNeg (x4 + 1))) (gI (e_C_parts (gI σ 97 0 (Int32.toNatClampNeg (x4 + 1))) (gI σ 97 0 (Int32.toNatClampNeg (x4 + 2))) σ) 97 0 (Int32.toNatClampNeg (x4 + 2))) (e_C_parts (gI σ 97 0 (Int32.toNatClampNeg (x4 + 1))) (gI σ 97 0 (Int32.toNatClampNeg (x4 + 2))) σ)) (mIf ((v_C_parts (gI σ 97 0 (Int32.toNatClampNeg (x4 + 1))) (gI σ 97 0 (Int32.toNatClampNeg (x4 + 2))) σ) = (v_M_parts (gI (e_C_parts (gI σ 97 0 (Int32.toNatClampNeg (x4 + 1))) (gI σ 97 0 (Int32.toNatClampNeg (x4 + 2))) σ) 97 0 (Int32.toNatClampNeg (x4 + 1))) (gI (e_C_parts (gI σ 97 0 (Int32.toNatClampNeg (x4 + 1))) (gI σ 97 0 (Int32.toNatClampNeg (x4 + 2))) σ) 97 0 (Int32.toNatClampNeg (x4 + 2))) (e_C_parts (gI σ 97 0 (Int32.toNatClampNeg (x4 + 1))) (gI σ 97 0 (Int32.toNatClampNeg (x4 + 2))) σ))) (k (2235, [some (mR 97 0), some (mR 12 0), some (mR 13 0), some (mR 98 0), some (mI x4), none, none, none], [], (e_M_parts (gI (e_C_parts (gI σ 97 0 (Int32.toNatClampNeg (x4 + 1))) (gI σ 97 0 (Int32.toNatClampNeg (x4 + 2))) σ) 97 0 (Int32.toNatClampNeg (x4 + 1))) (gI (e_C_parts (gI σ 97 0 (Int32.toNatClampNeg (x4 + 1))) (gI σ 97 0 (Int32.toNatClampNeg (x4 + 2))) σ) 97 0 (Int32.toNatClampNeg (x4 + 2))) (e_C_parts (gI σ 97 0 (Int32.toNatClampNeg (x4 + 1))) (gI σ 97 0 (Int32.toNatClampNeg (x4 + 2))) σ)), 0, 0)) (none))))))) := rfl
theorem Lp_1697 {L i : Nat} {σ : MSto} (hI : LInv L σ) (hL : L ≤ 3584) (hi : i + 7 ≤ L) : LGo L 1697 i σ := by
  obtain ⟨hC, h104, hLn⟩ := hI
  have w1 := lvp (c := 1) hLn hL hi (by omega)
  have w2 := lvp (c := 2) hLn hL hi (by omega)
  have run := q_L_1697 (nI i) σ (fun st => some st)
  have wC := w_C_parts (gI σ 97 0 (Int32.toNatClampNeg (nI i + 1))) (gI σ 97 0 (Int32.toNatClampNeg (nI i + 2))) σ
  have n1 : gN (e_C_parts (gI σ 97 0 (Int32.toNatClampNeg (nI i + 1))) (gI σ 97 0 (Int32.toNatClampNeg (nI i + 2))) σ) 104 = 0 := (wC.n (k := 104) rfl).trans h104
  have hC1 := Cpl.rt hC wC rfl
  have f1 : ∀ j, gI (e_C_parts (gI σ 97 0 (Int32.toNatClampNeg (nI i + 1))) (gI σ 97 0 (Int32.toNatClampNeg (nI i + 2))) σ) 97 0 j = gI σ 97 0 j := fun j => wC.i rfl
  have f2 : gI (e_C_parts (gI σ 97 0 (Int32.toNatClampNeg (nI i + 1))) (gI σ 97 0 (Int32.toNatClampNeg (nI i + 2))) σ) 97 1 0 = gI σ 97 1 0 := wC.i rfl
  obtain ⟨pC, pM, hv, hC2⟩ := T_parts hC1 (gI σ 97 0 (Int32.toNatClampNeg (nI i + 1))) (gI σ 97 0 (Int32.toNatClampNeg (nI i + 2)))
  have wM := w_M_parts (gI σ 97 0 (Int32.toNatClampNeg (nI i + 1))) (gI σ 97 0 (Int32.toNatClampNeg (nI i + 2))) (e_C_parts (gI σ 97 0 (Int32.toNatClampNeg (nI i + 1))) (gI σ 97 0 (Int32.toNatClampNeg (nI i + 2))) σ)
  simp only [f1, f2, mG_t w1, mG_t w2, mG_t pC, mG_t pM, mIf_t hv] at run
  exact ⟨_, _, _, ⟨Cpl.lt hC2 wM rfl, (wM.n (k := 104) rfl).trans n1, ((wM.i (k := 97) rfl).trans f2).trans hLn⟩, by decide, by decide, run⟩

set_option maxRecDepth 100000 in
set_option maxHeartbeats 4000000 in
theorem q_L_1734 (x4 : Int32) (σ : MSto) (k : MK) : mrun KT P_L k 600 (1734, [some (mR 97 0), some (mR 12 0), some (mR 13 0), some (mR 98 0), some (mI x4), none, none, none], [], σ, 0, 0) = mG (vp_in (x4 + 1) (gI σ 97 1 0).toNatClampNeg) (mG (p_C_next (gI σ 97 0 (Int32.toNatClampNeg (x4 + 1))) σ) (mG (vp_in (x4 + 1) (gI (e_C_next (gI σ 97 0 (Int32.toNatClampNeg (x4 + 1))) σ) 97 1 0).toNatClampNeg) (mG (p_M_next (gI (e_C_next (gI σ 97 0 (Int32.toNatClampNeg (x4 + 1))) σ) 97 0 (Int32.toNatClampNeg (x4 + 1))) (e_C_next (gI σ 97 0 (Int32.toNatClampNeg (x4 + 1))) σ)) (mIf ((v_C_next (gI σ 97 0 (Int32.toNatClampNeg (x4 + 1))) σ) = (v_M_next (gI (e_C_next (gI σ 97 0 (Int32.toNatClampNeg (x4 + 1))) σ) 97 0 (Int32.toNatClampNeg (x4 + 1))) (e_C_next (gI σ 97 0 (Int32.toNatClampNeg (x4 + 1))) σ))) (k (2235, [some (mR 97 0), some (mR 12 0), some (mR 13 0), some (mR 98 0), some (mI x4), none, none, none], [], (e_M_next (gI (e_C_next (gI σ 97 0 (Int32.toNatClampNeg (x4 + 1))) σ) 97 0 (Int32.toNatClampNeg (x4 + 1))) (e_C_next (gI σ 97 0 (Int32.toNatClampNeg (x4 + 1))) σ)), 0, 0)) (none))))) := rfl
theorem Lp_1734 {L i : Nat} {σ : MSto} (hI : LInv L σ) (hL : L ≤ 3584) (hi : i + 7 ≤ L) : LGo L 1734 i σ := by
  obtain ⟨hC, h104, hLn⟩ := hI
  have w1 := lvp (c := 1) hLn hL hi (by omega)
  have run := q_L_1734 (nI i) σ (fun st => some st)
  have wC := w_C_next (gI σ 97 0 (Int32.toNatClampNeg (nI i + 1))) σ
  have n1 : gN (e_C_next (gI σ 97 0 (Int32.toNatClampNeg (nI i + 1))) σ) 104 = 0 := (wC.n (k := 104) rfl).trans h104
  have hC1 := Cpl.rt hC wC rfl
  have f1 : ∀ j, gI (e_C_next (gI σ 97 0 (Int32.toNatClampNeg (nI i + 1))) σ) 97 0 j = gI σ 97 0 j := fun j => wC.i rfl
  have f2 : gI (e_C_next (gI σ 97 0 (Int32.toNatClampNeg (nI i + 1))) σ) 97 1 0 = gI σ 97 1 0 := wC.i rfl
  obtain ⟨pC, pM, hv, hC2⟩ := T_next hC1 (gI σ 97 0 (Int32.toNatClampNeg (nI i + 1)))
  have wM := w_M_next (gI σ 97 0 (Int32.toNatClampNeg (nI i + 1))) (e_C_next (gI σ 97 0 (Int32.toNatClampNeg (nI i + 1))) σ)
  simp only [f1, f2, mG_t w1, mG_t pC, mG_t pM, mIf_t hv] at run
  exact ⟨_, _, _, ⟨Cpl.lt hC2 wM rfl, (wM.n (k := 104) rfl).trans n1, ((wM.i (k := 97) rfl).trans f2).trans hLn⟩, by decide, by decide, run⟩

set_option maxRecDepth 100000 in
set_option maxHeartbeats 4000000 in
theorem q_L_1759 (x4 : Int32) (σ : MSto) (k : MK) : mrun KT P_L k 600 (1759, [some (mR 97 0), some (mR 12 0), some (mR 13 0), some (mR 98 0), some (mI x4), none, none, none], [], σ, 0, 0) = mG (vp_in (x4 + 1) (gI σ 97 1 0).toNatClampNeg) (mG (p_C_fewest (gI σ 97 0 (Int32.toNatClampNeg (x4 + 1))) σ) (mG (vp_in (x4 + 1) (gI (e_C_fewest (gI σ 97 0 (Int32.toNatClampNeg (x4 + 1))) σ) 97 1 0).toNatClampNeg) (mG (p_M_fewest (gI (e_C_fewest (gI σ 97 0 (Int32.toNatClampNeg (x4 + 1))) σ) 97 0 (Int32.toNatClampNeg (x4 + 1))) (e_C_fewest (gI σ 97 0 (Int32.toNatClampNeg (x4 + 1))) σ)) (mIf ((v_C_fewest (gI σ 97 0 (Int32.toNatClampNeg (x4 + 1))) σ) = (v_M_fewest (gI (e_C_fewest (gI σ 97 0 (Int32.toNatClampNeg (x4 + 1))) σ) 97 0 (Int32.toNatClampNeg (x4 + 1))) (e_C_fewest (gI σ 97 0 (Int32.toNatClampNeg (x4 + 1))) σ))) (k (2235, [some (mR 97 0), some (mR 12 0), some (mR 13 0), some (mR 98 0), some (mI x4), none, none, none], [], (e_M_fewest (gI (e_C_fewest (gI σ 97 0 (Int32.toNatClampNeg (x4 + 1))) σ) 97 0 (Int32.toNatClampNeg (x4 + 1))) (e_C_fewest (gI σ 97 0 (Int32.toNatClampNeg (x4 + 1))) σ)), 0, 0)) (none))))) := rfl
theorem Lp_1759 {L i : Nat} {σ : MSto} (hI : LInv L σ) (hL : L ≤ 3584) (hi : i + 7 ≤ L) : LGo L 1759 i σ := by
  obtain ⟨hC, h104, hLn⟩ := hI
  have w1 := lvp (c := 1) hLn hL hi (by omega)
  have run := q_L_1759 (nI i) σ (fun st => some st)
  have wC := w_C_fewest (gI σ 97 0 (Int32.toNatClampNeg (nI i + 1))) σ
  have n1 : gN (e_C_fewest (gI σ 97 0 (Int32.toNatClampNeg (nI i + 1))) σ) 104 = 0 := (wC.n (k := 104) rfl).trans h104
  have hC1 := Cpl.rt hC wC rfl
  have f1 : ∀ j, gI (e_C_fewest (gI σ 97 0 (Int32.toNatClampNeg (nI i + 1))) σ) 97 0 j = gI σ 97 0 j := fun j => wC.i rfl
  have f2 : gI (e_C_fewest (gI σ 97 0 (Int32.toNatClampNeg (nI i + 1))) σ) 97 1 0 = gI σ 97 1 0 := wC.i rfl
  obtain ⟨pC, pM, hv, hC2⟩ := T_fewest hC1 (gI σ 97 0 (Int32.toNatClampNeg (nI i + 1)))
  have wM := w_M_fewest (gI σ 97 0 (Int32.toNatClampNeg (nI i + 1))) (e_C_fewest (gI σ 97 0 (Int32.toNatClampNeg (nI i + 1))) σ)
  simp only [f1, f2, mG_t w1, mG_t pC, mG_t pM, mIf_t hv] at run
  exact ⟨_, _, _, ⟨Cpl.lt hC2 wM rfl, (wM.n (k := 104) rfl).trans n1, ((wM.i (k := 97) rfl).trans f2).trans hLn⟩, by decide, by decide, run⟩

set_option maxRecDepth 100000 in
set_option maxHeartbeats 4000000 in
theorem q_L_1784 (x4 : Int32) (σ : MSto) (k : MK) : mrun KT P_L k 600 (1784, [some (mR 97 0), some (mR 12 0), some (mR 13 0), some (mR 98 0), some (mI x4), none, none, none], [], σ, 0, 0) = mG (vp_in (x4 + 1) (gI σ 97 1 0).toNatClampNeg) (mG (p_C_where (gI σ 97 0 (Int32.toNatClampNeg (x4 + 1))) σ) (mG (vp_in (x4 + 1) (gI (e_C_where (gI σ 97 0 (Int32.toNatClampNeg (x4 + 1))) σ) 97 1 0).toNatClampNeg) (mG (p_M_where (gI (e_C_where (gI σ 97 0 (Int32.toNatClampNeg (x4 + 1))) σ) 97 0 (Int32.toNatClampNeg (x4 + 1))) (e_C_where (gI σ 97 0 (Int32.toNatClampNeg (x4 + 1))) σ)) (mIf ((v_C_where (gI σ 97 0 (Int32.toNatClampNeg (x4 + 1))) σ) = (v_M_where (gI (e_C_where (gI σ 97 0 (Int32.toNatClampNeg (x4 + 1))) σ) 97 0 (Int32.toNatClampNeg (x4 + 1))) (e_C_where (gI σ 97 0 (Int32.toNatClampNeg (x4 + 1))) σ))) (k (2235, [some (mR 97 0), some (mR 12 0), some (mR 13 0), some (mR 98 0), some (mI x4), none, none, none], [], (e_M_where (gI (e_C_where (gI σ 97 0 (Int32.toNatClampNeg (x4 + 1))) σ) 97 0 (Int32.toNatClampNeg (x4 + 1))) (e_C_where (gI σ 97 0 (Int32.toNatClampNeg (x4 + 1))) σ)), 0, 0)) (none))))) := rfl
theorem Lp_1784 {L i : Nat} {σ : MSto} (hI : LInv L σ) (hL : L ≤ 3584) (hi : i + 7 ≤ L) : LGo L 1784 i σ := by
  obtain ⟨hC, h104, hLn⟩ := hI
  have w1 := lvp (c := 1) hLn hL hi (by omega)
  have run := q_L_1784 (nI i) σ (fun st => some st)
  have wC := w_C_where (gI σ 97 0 (Int32.toNatClampNeg (nI i + 1))) σ
  have n1 : gN (e_C_where (gI σ 97 0 (Int32.toNatClampNeg (nI i + 1))) σ) 104 = 0 := (wC.n (k := 104) rfl).trans h104
  have hC1 := Cpl.rt hC wC rfl
  have f1 : ∀ j, gI (e_C_where (gI σ 97 0 (Int32.toNatClampNeg (nI i + 1))) σ) 97 0 j = gI σ 97 0 j := fun j => wC.i rfl
  have f2 : gI (e_C_where (gI σ 97 0 (Int32.toNatClampNeg (nI i + 1))) σ) 97 1 0 = gI σ 97 1 0 := wC.i rfl
  obtain ⟨pC, pM, hv, hC2⟩ := T_where hC1 (gI σ 97 0 (Int32.toNatClampNeg (nI i + 1)))
  have wM := w_M_where (gI σ 97 0 (Int32.toNatClampNeg (nI i + 1))) (e_C_where (gI σ 97 0 (Int32.toNatClampNeg (nI i + 1))) σ)
  simp only [f1, f2, mG_t w1, mG_t pC, mG_t pM, mIf_t hv] at run
  exact ⟨_, _, _, ⟨Cpl.lt hC2 wM rfl, (wM.n (k := 104) rfl).trans n1, ((wM.i (k := 97) rfl).trans f2).trans hLn⟩, by decide, by decide, run⟩

set_option maxRecDepth 100000 in
set_option maxHeartbeats 4000000 in
theorem q_L_1809 (x4 : Int32) (σ : MSto) (k : MK) : mrun KT P_L k 600 (1809, [some (mR 97 0), some (mR 12 0), some (mR 13 0), some (mR 98 0), some (mI x4), none, none, none], [], σ, 0, 0) = mG (vp_in (x4 + 1) (gI σ 97 1 0).toNatClampNeg) (mG (p_C_like (gI σ 97 0 (Int32.toNatClampNeg (x4 + 1))) σ) (mG (vp_in (x4 + 1) (gI (e_C_like (gI σ 97 0 (Int32.toNatClampNeg (x4 + 1))) σ) 97 1 0).toNatClampNeg) (mG (p_M_like (gI (e_C_like (gI σ 97 0 (Int32.toNatClampNeg (x4 + 1))) σ) 97 0 (Int32.toNatClampNeg (x4 + 1))) (e_C_like (gI σ 97 0 (Int32.toNatClampNeg (x4 + 1))) σ)) (mIf ((v_C_like (gI σ 97 0 (Int32.toNatClampNeg (x4 + 1))) σ) = (v_M_like (gI (e_C_like (gI σ 97 0 (Int32.toNatClampNeg (x4 + 1))) σ) 97 0 (Int32.toNatClampNeg (x4 + 1))) (e_C_like (gI σ 97 0 (Int32.toNatClampNeg (x4 + 1))) σ))) (k (2235, [some (mR 97 0), some (mR 12 0), some (mR 13 0), some (mR 98 0), some (mI x4), none, none, none], [], (e_M_like (gI (e_C_like (gI σ 97 0 (Int32.toNatClampNeg (x4 + 1))) σ) 97 0 (Int32.toNatClampNeg (x4 + 1))) (e_C_like (gI σ 97 0 (Int32.toNatClampNeg (x4 + 1))) σ)), 0, 0)) (none))))) := rfl
theorem Lp_1809 {L i : Nat} {σ : MSto} (hI : LInv L σ) (hL : L ≤ 3584) (hi : i + 7 ≤ L) : LGo L 1809 i σ := by
  obtain ⟨hC, h104, hLn⟩ := hI
  have w1 := lvp (c := 1) hLn hL hi (by omega)
  have run := q_L_1809 (nI i) σ (fun st => some st)
  have wC := w_C_like (gI σ 97 0 (Int32.toNatClampNeg (nI i + 1))) σ
  have n1 : gN (e_C_like (gI σ 97 0 (Int32.toNatClampNeg (nI i + 1))) σ) 104 = 0 := (wC.n (k := 104) rfl).trans h104
  have hC1 := Cpl.rt hC wC rfl
  have f1 : ∀ j, gI (e_C_like (gI σ 97 0 (Int32.toNatClampNeg (nI i + 1))) σ) 97 0 j = gI σ 97 0 j := fun j => wC.i rfl
  have f2 : gI (e_C_like (gI σ 97 0 (Int32.toNatClampNeg (nI i + 1))) σ) 97 1 0 = gI σ 97 1 0 := wC.i rfl
  obtain ⟨pC, pM, hv, hC2⟩ := T_like hC1 (gI σ 97 0 (Int32.toNatClampNeg (nI i + 1)))
  have wM := w_M_like (gI σ 97 0 (Int32.toNatClampNeg (nI i + 1))) (e_C_like (gI σ 97 0 (Int32.toNatClampNeg (nI i + 1))) σ)
  simp only [f1, f2, mG_t w1, mG_t pC, mG_t pM, mIf_t hv] at run
  exact ⟨_, _, _, ⟨Cpl.lt hC2 wM rfl, (wM.n (k := 104) rfl).trans n1, ((wM.i (k := 97) rfl).trans f2).trans hLn⟩, by decide, by decide, run⟩


