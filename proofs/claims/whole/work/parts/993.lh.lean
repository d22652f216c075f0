/-! the law's cases that go by a helper -/
set_option maxRecDepth 100000 in
set_option maxHeartbeats 4000000 in
theorem q_L_790 (x4 : Int32) (σ : MSto) (k : MK) : mrun KT P_L k 600 (790, [some (mR 97 0), some (mR 12 0), some (mR 13 0), some (mR 98 0), some (mI x4), none, none, none], [], σ, 0, 0) = mG (vp_in (x4 + 1) (gI σ 97 1 0).toNatClampNeg) (k (798, [some (mR 97 0), some (mR 12 0), some (mR 13 0), some (mR 98 0), some (mI x4), none, none, none], [(mR 98 0), (mI (gI σ 97 0 (Int32.toNatClampNeg (x4 + 1)))), (mR 12 0)], σ, 0, 0)) := rfl
set_option maxRecDepth 100000 in
set_option maxHeartbeats 4000000 in
theorem q_L_801 (x4 : Int32) (y0 : Int32) (σ : MSto) (k : MK) : mrun KT P_L k 600 (801, [some (mR 97 0), some (mR 12 0), some (mR 13 0), some (mR 98 0), some (mI x4), none, none, none], [(mI y0)], σ, 0, 0) = mG (vp_in (x4 + 1) (gI σ 97 1 0).toNatClampNeg) (mG (p_M_truth (gI σ 97 0 (Int32.toNatClampNeg (x4 + 1))) σ) (mIf ((v_M_thrown (e_M_truth (gI σ 97 0 (Int32.toNatClampNeg (x4 + 1))) σ)) = y0) (mIf (y0 = 0) (mG (vp_in 0 1) (mIf ((lg_cmp (gJ (e_M_truth (gI σ 97 0 (Int32.toNatClampNeg (x4 + 1))) σ) 98 0 (Int32.toNatClampNeg 0)) (Int32.toInt64 (v_M_truth (gI σ 97 0 (Int32.toNatClampNeg (x4 + 1))) σ))) = 0) (k (2235, [some (mR 97 0), some (mR 12 0), some (mR 13 0), some (mR 98 0), some (mI x4), none, none, none], [], (e_M_truth (gI σ 97 0 (Int32.toNatClampNeg (x4 + 1))) σ), 0, 0)) (none))) (k (2235, [some (mR 97 0), some (mR 12 0), some (mR 13 0), some (mR 98 0), some (mI x4), none, none, none], [], (e_M_truth (gI σ 97 0 (Int32.toNatClampNeg (x4 + 1))) σ), 0, 0))) (none))) := rfl
theorem Lh_790 {l : Launch} (hfl : l.stackTraces = false) {L i : Nat} (hL : L ≤ 3584) (hi : i + 7 ≤ L) : LTurn l L 790 i := by
  intro p e R s m args below meth c Q D A eb tL tB c0 s0 ad0 σ0 σ X hR1 hR2 hc hs hI hk
  obtain ⟨hC, h104, hLn⟩ := hI
  have w1 := lvp (c := 1) hLn hL hi (by omega)
  have runA := q_L_790 (nI i) σ (fun st => some st)
  simp only [mG_t w1] at runA
  have mid : mWP p l e R s m args below meth c Q 8 D A eb tL tB ad0 σ0 c0 s0 (798, LH i, [mR 98 0, mI (gI σ 97 0 (Int32.toNatClampNeg (nI i + 1))), mR 12 0], σ, 0, 0) := by
    obtain ⟨pM0, hCx, ⟨hx, ht⟩ | ⟨hno, hp, -, -⟩⟩ := T_truth hC (gI σ 97 0 (Int32.toNatClampNeg (nI i + 1)))
    · refine mWP_callH (as := [mR 12 0, mI (gI σ 97 0 (Int32.toNatClampNeg (nI i + 1))), mR 98 0]) X hR1 hR2 hc hs (fun hlv => hX_truth l hlv (thr_truth hfl (fun v hv => hlv v (by rcases List.mem_cons.mp hv with h | h; exact h ▸ List.mem_cons_self; rw [List.mem_cons] ; exact Or.inr (List.mem_append_left [mR 98 0] h))) hx)) tw_5_76 tw_1_0 tw_5_74 tw_5_75 ⟨by decide, by decide⟩ (N := 3) (by decide +kernel) rfl (by decide) (by decide +kernel) ?_
      have wM := w_M_truth (gI σ 97 0 (Int32.toNatClampNeg (nI i + 1))) σ
      have ht2 : v_M_thrown (e_M_truth (gI σ 97 0 (Int32.toNatClampNeg (nI i + 1))) σ) = 1 := ht
      obtain ⟨y0, hy0⟩ : ∃ y : Int32, y = 1 := ⟨_, rfl⟩
      rw [← hy0]
      have runB := q_L_801 (nI i) y0 σ (fun st => some st)
      simp only [mG_t w1, mG_t pM0, mIf_t (ht2.trans hy0.symm), mIf_f (show ¬ y0 = 0 by rw [hy0]; decide)] at runB
      have hend := hk _ 1 6 (⟨Cpl.lt hCx wM rfl, (wM.n (k := 104) rfl).trans h104, (wM.i (k := 97) rfl).trans hLn⟩) (by decide) (by decide)
      exact s_run X mLay_ok (hRm_L hR1 hR2 (by omega) (by omega)) (ok_L l) hend (fun st h => by cases h; exact hend) 600 _ runB
    · refine mWP_callH (as := [mR 12 0, mI (gI σ 97 0 (Int32.toNatClampNeg (nI i + 1))), mR 98 0]) X hR1 hR2 hc hs (fun hlv => hO_truth l hlv hp) tw_5_76 tw_1_0 tw_5_74 tw_5_75 ⟨by decide, by decide⟩ (N := 3) (by decide +kernel) rfl (by decide) (by decide +kernel) ?_
      have wS : agO [98000] σ (sJ σ 98 0 0 (Int32.toInt64 (v_C_truth (gI σ 97 0 (Int32.toNatClampNeg (nI i + 1))) σ))) := agO_sJ rfl (agO_refl [98000] σ)
      obtain ⟨σ1, hσ1⟩ : ∃ z, z = (sJ σ 98 0 0 (Int32.toInt64 (v_C_truth (gI σ 97 0 (Int32.toNatClampNeg (nI i + 1))) σ))) := ⟨_, rfl⟩
      have hj1 : gJ σ1 98 0 0 = (Int32.toInt64 (v_C_truth (gI σ 97 0 (Int32.toNatClampNeg (nI i + 1))) σ)) := by rw [hσ1]; rfl
      rw [← hσ1] at wS ⊢
      have f1 : ∀ j, gI σ1 97 0 j = gI σ 97 0 j := fun j => wS.i rfl
      have f2 : gI σ1 97 1 0 = gI σ 97 1 0 := wS.i rfl
      have hC1 : Cpl σ σ1 := Cpl.rt hC wS rfl
      obtain ⟨pM, hC2, ⟨hx, -⟩ | ⟨-, -, hv, ht⟩⟩ := T_truth hC1 (gI σ 97 0 (Int32.toNatClampNeg (nI i + 1)))
      · exact absurd hx hno
      · have wM := w_M_truth (gI σ 97 0 (Int32.toNatClampNeg (nI i + 1))) σ1
        have ht2 : v_M_thrown (e_M_truth (gI σ 97 0 (Int32.toNatClampNeg (nI i + 1))) σ1) = 0 := ht
        have hcm : lg_cmp (gJ (e_M_truth (gI σ 97 0 (Int32.toNatClampNeg (nI i + 1))) σ1) 98 0 0) (Int32.toInt64 (v_M_truth (gI σ 97 0 (Int32.toNatClampNeg (nI i + 1))) σ1)) = 0 := by
          rw [wM.j (k := 98) rfl, hj1, hv]
          exact cmp_eq.mpr rfl
        have v01 : vp_in 0 1 := by unfold vp_in; decide
        obtain ⟨y0, hy0⟩ : ∃ y : Int32, y = 0 := ⟨_, rfl⟩
        rw [← hy0]
        have runB := q_L_801 (nI i) y0 σ1 (fun st => some st)
        simp only [f1, f2, mG_t w1, mG_t pM, mIf_t (ht2.trans hy0.symm), mIf_t hy0, mG_t v01, show Int32.toNatClampNeg 0 = 0 from rfl, mIf_t hcm] at runB
        have hend := hk _ 1 6 (⟨Cpl.lt hC2 (agO.step (agO.step (agO_refl [98000, 13053] _) wS rfl) wM rfl) rfl, (wM.n (k := 104) rfl).trans ((wS.n (k := 104) rfl).trans h104), (wM.i (k := 97) rfl).trans (f2.trans hLn)⟩) (by decide) (by decide)
        exact s_run X mLay_ok (hRm_L hR1 hR2 (by omega) (by omega)) (ok_L l) hend (fun st h => by cases h; exact hend) 600 _ runB
  exact s_run X mLay_ok (hRm_L hR1 hR2 (by omega) (by omega)) (ok_L l) mid (fun st h => by cases h; exact mid) 600 _ runA

set_option maxRecDepth 100000 in
set_option maxHeartbeats 4000000 in
theorem q_L_883 (x4 : Int32) (σ : MSto) (k : MK) : mrun KT P_L k 600 (883, [some (mR 97 0), some (mR 12 0), some (mR 13 0), some (mR 98 0), some (mI x4), none, none, none], [], σ, 0, 0) = mG (vp_in (x4 + 1) (gI σ 97 1 0).toNatClampNeg) (k (891, [some (mR 97 0), some (mR 12 0), some (mR 13 0), some (mR 98 0), some (mI x4), none, none, none], [(mR 98 0), (mI (gI σ 97 0 (Int32.toNatClampNeg (x4 + 1)))), (mR 12 0)], σ, 0, 0)) := rfl
set_option maxRecDepth 100000 in
set_option maxHeartbeats 4000000 in
theorem q_L_894 (x4 : Int32) (y0 : Int32) (σ : MSto) (k : MK) : mrun KT P_L k 600 (894, [some (mR 97 0), some (mR 12 0), some (mR 13 0), some (mR 98 0), some (mI x4), none, none, none], [(mI y0)], σ, 0, 0) = mG (vp_in (x4 + 1) (gI σ 97 1 0).toNatClampNeg) (mG (p_M_draw (gI σ 97 0 (Int32.toNatClampNeg (x4 + 1))) σ) (mIf ((v_M_thrown (e_M_draw (gI σ 97 0 (Int32.toNatClampNeg (x4 + 1))) σ)) = y0) (mIf (y0 = 0) (mG (vp_in 0 1) (mIf ((lg_cmp (gJ (e_M_draw (gI σ 97 0 (Int32.toNatClampNeg (x4 + 1))) σ) 98 0 (Int32.toNatClampNeg 0)) (Int32.toInt64 (v_M_draw (gI σ 97 0 (Int32.toNatClampNeg (x4 + 1))) σ))) = 0) (k (2235, [some (mR 97 0), some (mR 12 0), some (mR 13 0), some (mR 98 0), some (mI x4), none, none, none], [], (e_M_draw (gI σ 97 0 (Int32.toNatClampNeg (x4 + 1))) σ), 0, 0)) (none))) (k (2235, [some (mR 97 0), some (mR 12 0), some (mR 13 0), some (mR 98 0), some (mI x4), none, none, none], [], (e_M_draw (gI σ 97 0 (Int32.toNatClampNeg (x4 + 1))) σ), 0, 0))) (none))) := rfl
theorem Lh_883 {l : Launch} (hfl : l.stackTraces = false) {L i : Nat} (hL : L ≤ 3584) (hi : i + 7 ≤ L) : LTurn l L 883 i := by
  intro p e R s m args below meth c Q D A eb tL tB c0 s0 ad0 σ0 σ X hR1 hR2 hc hs hI hk
  obtain ⟨hC, h104, hLn⟩ := hI
  have w1 := lvp (c := 1) hLn hL hi (by omega)
  have runA := q_L_883 (nI i) σ (fun st => some st)
  simp only [mG_t w1] at runA
  have mid : mWP p l e R s m args below meth c Q 8 D A eb tL tB ad0 σ0 c0 s0 (891, LH i, [mR 98 0, mI (gI σ 97 0 (Int32.toNatClampNeg (nI i + 1))), mR 12 0], σ, 0, 0) := by
    obtain ⟨pM0, ⟨hx, hCx, ht⟩ | ⟨hno, hp, -, -, -⟩⟩ := T_draw hC (gI σ 97 0 (Int32.toNatClampNeg (nI i + 1)))
    · refine mWP_callH (as := [mR 12 0, mI (gI σ 97 0 (Int32.toNatClampNeg (nI i + 1))), mR 98 0]) X hR1 hR2 hc hs (fun hlv => hX_draw l hlv (thr_draw hfl (fun v hv => hlv v (by rcases List.mem_cons.mp hv with h | h; exact h ▸ List.mem_cons_self; rw [List.mem_cons] ; exact Or.inr (List.mem_append_left [mR 98 0] h))) hx)) tw_5_154 tw_1_0 tw_5_152 tw_5_153 ⟨by decide, by decide⟩ (N := 3) (by decide +kernel) rfl (by decide) (by decide +kernel) ?_
      have wM := w_M_draw (gI σ 97 0 (Int32.toNatClampNeg (nI i + 1))) σ
      have ht2 : v_M_thrown (e_M_draw (gI σ 97 0 (Int32.toNatClampNeg (nI i + 1))) σ) = 1 := ht
      obtain ⟨y0, hy0⟩ : ∃ y : Int32, y = 1 := ⟨_, rfl⟩
      rw [← hy0]
      have runB := q_L_894 (nI i) y0 σ (fun st => some st)
      simp only [mG_t w1, mG_t pM0, mIf_t (ht2.trans hy0.symm), mIf_f (show ¬ y0 = 0 by rw [hy0]; decide)] at runB
      have hend := hk _ 1 6 (⟨Cpl.lt hCx wM rfl, (wM.n (k := 104) rfl).trans h104, (wM.i (k := 97) rfl).trans hLn⟩) (by decide) (by decide)
      exact s_run X mLay_ok (hRm_L hR1 hR2 (by omega) (by omega)) (ok_L l) hend (fun st h => by cases h; exact hend) 600 _ runB
    · refine mWP_callH (as := [mR 12 0, mI (gI σ 97 0 (Int32.toNatClampNeg (nI i + 1))), mR 98 0]) X hR1 hR2 hc hs (fun hlv => hO_draw l hlv hp) tw_5_154 tw_1_0 tw_5_152 tw_5_153 ⟨by decide, by decide⟩ (N := 3) (by decide +kernel) rfl (by decide) (by decide +kernel) ?_
      have wS : agO [7005, 7006, 12013, 98000] σ (sJ (e_C_draw (gI σ 97 0 (Int32.toNatClampNeg (nI i + 1))) σ) 98 0 0 (Int32.toInt64 (v_C_draw (gI σ 97 0 (Int32.toNatClampNeg (nI i + 1))) σ))) := agO_sJ rfl (agO.step (agO_refl [7005, 7006, 12013, 98000] σ) (w_C_draw (gI σ 97 0 (Int32.toNatClampNeg (nI i + 1))) σ) rfl)
      obtain ⟨σ1, hσ1⟩ : ∃ z, z = (sJ (e_C_draw (gI σ 97 0 (Int32.toNatClampNeg (nI i + 1))) σ) 98 0 0 (Int32.toInt64 (v_C_draw (gI σ 97 0 (Int32.toNatClampNeg (nI i + 1))) σ))) := ⟨_, rfl⟩
      have hj1 : gJ σ1 98 0 0 = (Int32.toInt64 (v_C_draw (gI σ 97 0 (Int32.toNatClampNeg (nI i + 1))) σ)) := by rw [hσ1]; rfl
      have wD : agO [98000] (e_C_draw (gI σ 97 0 (Int32.toNatClampNeg (nI i + 1))) σ) σ1 := by rw [hσ1]; exact agO_sJ rfl (agO_refl [98000] (e_C_draw (gI σ 97 0 (Int32.toNatClampNeg (nI i + 1))) σ))
      rw [← hσ1] at wS ⊢
      have f1 : ∀ j, gI σ1 97 0 j = gI σ 97 0 j := fun j => wS.i rfl
      have f2 : gI σ1 97 1 0 = gI σ 97 1 0 := wS.i rfl
      have hC1 : Cpl σ σ1 := Cpl.rt hC wS rfl
      obtain ⟨pM, ⟨hx, -, -⟩ | ⟨-, -, hv, ht, hC2⟩⟩ := T_draw hC1 (gI σ 97 0 (Int32.toNatClampNeg (nI i + 1)))
      · exact absurd hx hno
      · have wM := w_M_draw (gI σ 97 0 (Int32.toNatClampNeg (nI i + 1))) σ1
        have ht2 : v_M_thrown (e_M_draw (gI σ 97 0 (Int32.toNatClampNeg (nI i + 1))) σ1) = 0 := ht
        have hcm : lg_cmp (gJ (e_M_draw (gI σ 97 0 (Int32.toNatClampNeg (nI i + 1))) σ1) 98 0 0) (Int32.toInt64 (v_M_draw (gI σ 97 0 (Int32.toNatClampNeg (nI i + 1))) σ1)) = 0 := by
          rw [wM.j (k := 98) rfl, hj1, hv]
          exact cmp_eq.mpr rfl
        have v01 : vp_in 0 1 := by unfold vp_in; decide
        obtain ⟨y0, hy0⟩ : ∃ y : Int32, y = 0 := ⟨_, rfl⟩
        rw [← hy0]
        have runB := q_L_894 (nI i) y0 σ1 (fun st => some st)
        simp only [f1, f2, mG_t w1, mG_t pM, mIf_t (ht2.trans hy0.symm), mIf_t hy0, mG_t v01, show Int32.toNatClampNeg 0 = 0 from rfl, mIf_t hcm] at runB
        have hend := hk _ 1 6 (⟨Cpl.lt hC2 (agO.step (agO.step (agO_refl [98000, 13016, 13041, 13053, 51000] _) wD rfl) wM rfl) rfl, (wM.n (k := 104) rfl).trans ((wS.n (k := 104) rfl).trans h104), (wM.i (k := 97) rfl).trans (f2.trans hLn)⟩) (by decide) (by decide)
        exact s_run X mLay_ok (hRm_L hR1 hR2 (by omega) (by omega)) (ok_L l) hend (fun st h => by cases h; exact hend) 600 _ runB
  exact s_run X mLay_ok (hRm_L hR1 hR2 (by omega) (by omega)) (ok_L l) mid (fun st h => by cases h; exact mid) 600 _ runA

set_option maxRecDepth 100000 in
set_option maxHeartbeats 4000000 in
theorem q_L_939 (x4 : Int32) (σ : MSto) (k : MK) : mrun KT P_L k 600 (939, [some (mR 97 0), some (mR 12 0), some (mR 13 0), some (mR 98 0), some (mI x4), none, none, none], [], σ, 0, 0) = mG (vp_in (x4 + 1) (gI σ 97 1 0).toNatClampNeg) (k (947, [some (mR 97 0), some (mR 12 0), some (mR 13 0), some (mR 98 0), some (mI x4), none, none, none], [(mR 98 0), (mI (gI σ 97 0 (Int32.toNatClampNeg (x4 + 1)))), (mR 12 0)], σ, 0, 0)) := rfl
set_option maxRecDepth 100000 in
set_option maxHeartbeats 4000000 in
theorem q_L_950 (x4 : Int32) (y0 : Int32) (σ : MSto) (k : MK) : mrun KT P_L k 600 (950, [some (mR 97 0), some (mR 12 0), some (mR 13 0), some (mR 98 0), some (mI x4), none, none, none], [(mI y0)], σ, 0, 0) = mG (vp_in (x4 + 1) (gI σ 97 1 0).toNatClampNeg) (mG (p_M_counted (gI σ 97 0 (Int32.toNatClampNeg (x4 + 1))) σ) (mIf ((v_M_thrown (e_M_counted (gI σ 97 0 (Int32.toNatClampNeg (x4 + 1))) σ)) = y0) (mIf (y0 = 0) (mG (vp_in 0 1) (mIf ((lg_cmp (gJ (e_M_counted (gI σ 97 0 (Int32.toNatClampNeg (x4 + 1))) σ) 98 0 (Int32.toNatClampNeg 0)) (Int32.toInt64 (v_M_counted (gI σ 97 0 (Int32.toNatClampNeg (x4 + 1))) σ))) = 0) (k (2235, [some (mR 97 0), some (mR 12 0), some (mR 13 0), some (mR 98 0), some (mI x4), none, none, none], [], (e_M_counted (gI σ 97 0 (Int32.toNatClampNeg (x4 + 1))) σ), 0, 0)) (none))) (k (2235, [some (mR 97 0), some (mR 12 0), some (mR 13 0), some (mR 98 0), some (mI x4), none, none, none], [], (e_M_counted (gI σ 97 0 (Int32.toNatClampNeg (x4 + 1))) σ), 0, 0))) (none))) := rfl
theorem Lh_939 {l : Launch} (hfl : l.stackTraces = false) {L i : Nat} (hL : L ≤ 3584) (hi : i + 7 ≤ L) : LTurn l L 939 i := by
  intro p e R s m args below meth c Q D A eb tL tB c0 s0 ad0 σ0 σ X hR1 hR2 hc hs hI hk
  obtain ⟨hC, h104, hLn⟩ := hI
  have w1 := lvp (c := 1) hLn hL hi (by omega)
  have runA := q_L_939 (nI i) σ (fun st => some st)
  simp only [mG_t w1] at runA
  have mid : mWP p l e R s m args below meth c Q 8 D A eb tL tB ad0 σ0 c0 s0 (947, LH i, [mR 98 0, mI (gI σ 97 0 (Int32.toNatClampNeg (nI i + 1))), mR 12 0], σ, 0, 0) := by
    obtain ⟨pM0, hCx, ⟨hx, ht⟩ | ⟨hno, hp, -, -⟩⟩ := T_counted hC (gI σ 97 0 (Int32.toNatClampNeg (nI i + 1)))
    · refine mWP_callH (as := [mR 12 0, mI (gI σ 97 0 (Int32.toNatClampNeg (nI i + 1))), mR 98 0]) X hR1 hR2 hc hs (fun hlv => hX_counted l hlv (thr_counted hfl (fun v hv => hlv v (by rcases List.mem_cons.mp hv with h | h; exact h ▸ List.mem_cons_self; rw [List.mem_cons] ; exact Or.inr (List.mem_append_left [mR 98 0] h))) hx)) tw_5_166 tw_1_0 tw_5_164 tw_5_165 ⟨by decide, by decide⟩ (N := 3) (by decide +kernel) rfl (by decide) (by decide +kernel) ?_
      have wM := w_M_counted (gI σ 97 0 (Int32.toNatClampNeg (nI i + 1))) σ
      have ht2 : v_M_thrown (e_M_counted (gI σ 97 0 (Int32.toNatClampNeg (nI i + 1))) σ) = 1 := ht
      obtain ⟨y0, hy0⟩ : ∃ y : Int32, y = 1 := ⟨_, rfl⟩
      rw [← hy0]
      have runB := q_L_950 (nI i) y0 σ (fun st => some st)
      simp only [mG_t w1, mG_t pM0, mIf_t (ht2.trans hy0.symm), mIf_f (show ¬ y0 = 0 by rw [hy0]; decide)] at runB
      have hend := hk _ 1 6 (⟨Cpl.lt hCx wM rfl, (wM.n (k := 104) rfl).trans h104, (wM.i (k := 97) rfl).trans hLn⟩) (by decide) (by decide)
      exact s_run X mLay_ok (hRm_L hR1 hR2 (by omega) (by omega)) (ok_L l) hend (fun st h => by cases h; exact hend) 600 _ runB
    · refine mWP_callH (as := [mR 12 0, mI (gI σ 97 0 (Int32.toNatClampNeg (nI i + 1))), mR 98 0]) X hR1 hR2 hc hs (fun hlv => hO_counted l hlv hp) tw_5_166 tw_1_0 tw_5_164 tw_5_165 ⟨by decide, by decide⟩ (N := 3) (by decide +kernel) rfl (by decide) (by decide +kernel) ?_
      have wS : agO [98000] σ (sJ σ 98 0 0 (Int32.toInt64 (v_C_counted (gI σ 97 0 (Int32.toNatClampNeg (nI i + 1))) σ))) := agO_sJ rfl (agO_refl [98000] σ)
      obtain ⟨σ1, hσ1⟩ : ∃ z, z = (sJ σ 98 0 0 (Int32.toInt64 (v_C_counted (gI σ 97 0 (Int32.toNatClampNeg (nI i + 1))) σ))) := ⟨_, rfl⟩
      have hj1 : gJ σ1 98 0 0 = (Int32.toInt64 (v_C_counted (gI σ 97 0 (Int32.toNatClampNeg (nI i + 1))) σ)) := by rw [hσ1]; rfl
      rw [← hσ1] at wS ⊢
      have f1 : ∀ j, gI σ1 97 0 j = gI σ 97 0 j := fun j => wS.i rfl
      have f2 : gI σ1 97 1 0 = gI σ 97 1 0 := wS.i rfl
      have hC1 : Cpl σ σ1 := Cpl.rt hC wS rfl
      obtain ⟨pM, hC2, ⟨hx, -⟩ | ⟨-, -, hv, ht⟩⟩ := T_counted hC1 (gI σ 97 0 (Int32.toNatClampNeg (nI i + 1)))
      · (exfalso; unfold p_C_counted at hp; rcases hx with hx | ⟨-, -, hx⟩; exact hno hx; exact absurd hx (by grind))
      · have wM := w_M_counted (gI σ 97 0 (Int32.toNatClampNeg (nI i + 1))) σ1
        have ht2 : v_M_thrown (e_M_counted (gI σ 97 0 (Int32.toNatClampNeg (nI i + 1))) σ1) = 0 := ht
        have hcm : lg_cmp (gJ (e_M_counted (gI σ 97 0 (Int32.toNatClampNeg (nI i + 1))) σ1) 98 0 0) (Int32.toInt64 (v_M_counted (gI σ 97 0 (Int32.toNatClampNeg (nI i + 1))) σ1)) = 0 := by
          rw [wM.j (k := 98) rfl, hj1, hv]
          exact cmp_eq.mpr rfl
        have v01 : vp_in 0 1 := by unfold vp_in; decide
        obtain ⟨y0, hy0⟩ : ∃ y : Int32, y = 0 := ⟨_, rfl⟩
        rw [← hy0]
        have runB := q_L_950 (nI i) y0 σ1 (fun st => some st)
        simp only [f1, f2, mG_t w1, mG_t pM, mIf_t (ht2.trans hy0.symm), mIf_t hy0, mG_t v01, show Int32.toNatClampNeg 0 = 0 from rfl, mIf_t hcm] at runB
        have hend := hk _ 1 6 (⟨Cpl.lt hC2 (agO.step (agO.step (agO_refl [98000, 13053] _) wS rfl) wM rfl) rfl, (wM.n (k := 104) rfl).trans ((wS.n (k := 104) rfl).trans h104), (wM.i (k := 97) rfl).trans (f2.trans hLn)⟩) (by decide) (by decide)
        exact s_run X mLay_ok (hRm_L hR1 hR2 (by omega) (by omega)) (ok_L l) hend (fun st h => by cases h; exact hend) 600 _ runB
  exact s_run X mLay_ok (hRm_L hR1 hR2 (by omega) (by omega)) (ok_L l) mid (fun st h => by cases h; exact mid) 600 _ runA

set_option maxRecDepth 100000 in
set_option maxHeartbeats 4000000 in
theorem q_L_1440 (x4 : Int32) (σ : MSto) (k : MK) : mrun KT P_L k 600 (1440, [some (mR 97 0), some (mR 12 0), some (mR 13 0), some (mR 98 0), some (mI x4), none, none, none], [], σ, 0, 0) = mG (vp_in (x4 + 1) (gI σ 97 1 0).toNatClampNeg) (mG (vp_in (x4 + 2) (gI σ 97 1 0).toNatClampNeg) (mG (vp_in (x4 + 3) (gI σ 97 1 0).toNatClampNeg) (k (1460, [some (mR 97 0), some (mR 12 0), some (mR 13 0), some (mR 98 0), some (mI x4), none, none, none], [(mR 98 0), (mI (gI σ 97 0 (Int32.toNatClampNeg (x4 + 3)))), (mI (gI σ 97 0 (Int32.toNatClampNeg (x4 + 2)))), (mI (gI σ 97 0 (Int32.toNatClampNeg (x4 + 1)))), (mR 12 0)], σ, 0, 0)))) := rfl
set_option maxRecDepth 100000 in
set_option maxHeartbeats 4000000 in
theorem q_L_1463 (x4 : Int32) (y0 : Int32) (σ : MSto) (k : MK) : mrun KT P_L k 600 (1463, [some (mR 97 0), some (mR 12 0), some (mR 13 0), some (mR 98 0), some (mI x4), none, none, none], [(mI y0)], σ, 0, 0) = mG (vp_in (x4 + 1) (gI σ 97 1 0).toNatClampNeg) (mG (vp_in (x4 + 2) (gI σ 97 1 0).toNatClampNeg) (mG (vp_in (x4 + 3) (gI σ 97 1 0).toNatClampNeg) (mG (p_M_would (gI σ 97 0 (Int32.toNatClampNeg (x4 + 1))) (gI σ 97 0 (Int32.toNatClampNeg (x4 + 2))) (gI σ 97 0 (Int32.toNatClampNeg (x4 + 3))) σ) (mIf ((v_M_thrown (e_M_would (gI σ 97 0 (Int32.toNatClampNeg (x4 + 1))) (gI σ 97 0 (Int32.toNatClampNeg (x4 + 2))) (gI σ 97 0 (Int32.toNatClampNeg (x4 + 3))) σ)) = y0) (mIf (y0 = 0) (mG (vp_in 0 1) (mIf ((lg_cmp (gJ (e_M_would (gI σ 97 0 (Int32.toNatClampNeg (x4 + 1))) (gI σ 97 0 (Int32.toNatClampNeg (x4 + 2))) (gI σ 97 0 (Int32.toNatClampNeg (x4 + 3))) σ) 98 0 (Int32.toNatClampNeg 0)) (Int32.toInt64 (v_M_would (gI σ 97 0 (Int32.toNatClampNeg (x4 + 1))) (gI σ 97 0 (Int32.toNatClampNeg (x4 + 2))) (gI σ 97 0 (Int32.toNatClampNeg (x4 + 3))) σ))) = 0) (k (2235, [some (mR 97 0), some (mR 12 0), some (mR 13 0), some (mR 98 0), some (mI x4), none, none, none], [], (e_M_would (gI σ 97 0 (Int32.toNatClampNeg (x4 + 1))) (gI σ 97 0 (Int32.toNatClampNeg (x4 + 2))) (gI σ 97 0 (Int32.toNatClampNeg (x4 + 3))) σ), 0, 0)) (none))) (k (2235, [some (mR 97 0), some (mR 12 0), some (mR 13 0), some (mR 98 0), some (mI x4), none, none, none], [], (e_M_would (gI σ 97 0 (Int32.toNatClampNeg (x4 + 1))) (gI σ 97 0 (Int32.toNatClampNeg (x4 + 2))) (gI σ 97 0 (Int32.toNatClampNeg (x4 + 3))) σ), 0, 0))) (none))))) := rfl
theorem Lh_1440 {l : Launch} (hfl : l.stackTraces = false) {L i : Nat} (hL : L ≤ 3584) (hi : i + 7 ≤ L) : LTurn l L 1440 i := by
  intro p e R s m args below meth c Q D A eb tL tB c0 s0 ad0 σ0 σ X hR1 hR2 hc hs hI hk
  obtain ⟨hC, h104, hLn⟩ := hI
  have w1 := lvp (c := 1) hLn hL hi (by omega)
  have w2 := lvp (c := 2) hLn hL hi (by omega)
  have w3 := lvp (c := 3) hLn hL hi (by omega)
  have runA := q_L_1440 (nI i) σ (fun st => some st)
  simp only [mG_t w1, mG_t w2, mG_t w3] at runA
  have mid : mWP p l e R s m args below meth c Q 8 D A eb tL tB ad0 σ0 c0 s0 (1460, LH i, [mR 98 0, mI (gI σ 97 0 (Int32.toNatClampNeg (nI i + 3))), mI (gI σ 97 0 (Int32.toNatClampNeg (nI i + 2))), mI (gI σ 97 0 (Int32.toNatClampNeg (nI i + 1))), mR 12 0], σ, 0, 0) := by
    obtain ⟨pM0, hCx, ⟨hx, ht⟩ | ⟨hn1, hn2, hn3, hp, -, -⟩⟩ := T_would hC (gI σ 97 0 (Int32.toNatClampNeg (nI i + 1))) (gI σ 97 0 (Int32.toNatClampNeg (nI i + 2))) (gI σ 97 0 (Int32.toNatClampNeg (nI i + 3)))
    · refine mWP_callH (as := [mR 12 0, mI (gI σ 97 0 (Int32.toNatClampNeg (nI i + 1))), mI (gI σ 97 0 (Int32.toNatClampNeg (nI i + 2))), mI (gI σ 97 0 (Int32.toNatClampNeg (nI i + 3))), mR 98 0]) X hR1 hR2 hc hs (fun hlv => hX_would l hlv (thr_would hfl (fun v hv => hlv v (by rcases List.mem_cons.mp hv with h | h; exact h ▸ List.mem_cons_self; rw [List.mem_cons] ; exact Or.inr (List.mem_append_left [mR 98 0] h))) hx)) tw_5_174 tw_1_0 tw_5_172 tw_5_173 ⟨by decide, by decide⟩ (N := 5) (by decide +kernel) rfl (by decide) (by decide +kernel) ?_
      have wM := w_M_would (gI σ 97 0 (Int32.toNatClampNeg (nI i + 1))) (gI σ 97 0 (Int32.toNatClampNeg (nI i + 2))) (gI σ 97 0 (Int32.toNatClampNeg (nI i + 3))) σ
      have ht2 : v_M_thrown (e_M_would (gI σ 97 0 (Int32.toNatClampNeg (nI i + 1))) (gI σ 97 0 (Int32.toNatClampNeg (nI i + 2))) (gI σ 97 0 (Int32.toNatClampNeg (nI i + 3))) σ) = 1 := ht
      obtain ⟨y0, hy0⟩ : ∃ y : Int32, y = 1 := ⟨_, rfl⟩
      rw [← hy0]
      have runB := q_L_1463 (nI i) y0 σ (fun st => some st)
      simp only [mG_t w1, mG_t w2, mG_t w3, mG_t pM0, mIf_t (ht2.trans hy0.symm), mIf_f (show ¬ y0 = 0 by rw [hy0]; decide)] at runB
      have hend := hk _ 1 6 (⟨Cpl.lt hCx wM rfl, (wM.n (k := 104) rfl).trans h104, (wM.i (k := 97) rfl).trans hLn⟩) (by decide) (by decide)
      exact s_run X mLay_ok (hRm_L hR1 hR2 (by omega) (by omega)) (ok_L l) hend (fun st h => by cases h; exact hend) 600 _ runB
    · refine mWP_callH (as := [mR 12 0, mI (gI σ 97 0 (Int32.toNatClampNeg (nI i + 1))), mI (gI σ 97 0 (Int32.toNatClampNeg (nI i + 2))), mI (gI σ 97 0 (Int32.toNatClampNeg (nI i + 3))), mR 98 0]) X hR1 hR2 hc hs (fun hlv => hO_would l hlv hp) tw_5_174 tw_1_0 tw_5_172 tw_5_173 ⟨by decide, by decide⟩ (N := 5) (by decide +kernel) rfl (by decide) (by decide +kernel) ?_
      have wS : agO [98000] σ (sJ σ 98 0 0 (Int32.toInt64 (v_C_would (gI σ 97 0 (Int32.toNatClampNeg (nI i + 1))) (gI σ 97 0 (Int32.toNatClampNeg (nI i + 2))) (gI σ 97 0 (Int32.toNatClampNeg (nI i + 3))) σ))) := agO_sJ rfl (agO_refl [98000] σ)
      obtain ⟨σ1, hσ1⟩ : ∃ z, z = (sJ σ 98 0 0 (Int32.toInt64 (v_C_would (gI σ 97 0 (Int32.toNatClampNeg (nI i + 1))) (gI σ 97 0 (Int32.toNatClampNeg (nI i + 2))) (gI σ 97 0 (Int32.toNatClampNeg (nI i + 3))) σ))) := ⟨_, rfl⟩
      have hj1 : gJ σ1 98 0 0 = (Int32.toInt64 (v_C_would (gI σ 97 0 (Int32.toNatClampNeg (nI i + 1))) (gI σ 97 0 (Int32.toNatClampNeg (nI i + 2))) (gI σ 97 0 (Int32.toNatClampNeg (nI i + 3))) σ)) := by rw [hσ1]; rfl
      rw [← hσ1] at wS ⊢
      have f1 : ∀ j, gI σ1 97 0 j = gI σ 97 0 j := fun j => wS.i rfl
      have f2 : gI σ1 97 1 0 = gI σ 97 1 0 := wS.i rfl
      have hC1 : Cpl σ σ1 := Cpl.rt hC wS rfl
      obtain ⟨pM, hC2, ⟨hx, -⟩ | ⟨-, -, -, -, hv, ht⟩⟩ := T_would hC1 (gI σ 97 0 (Int32.toNatClampNeg (nI i + 1))) (gI σ 97 0 (Int32.toNatClampNeg (nI i + 2))) (gI σ 97 0 (Int32.toNatClampNeg (nI i + 3)))
      · (exfalso; rcases hx with hx | ⟨-, hx | ⟨-, hx⟩⟩; exact hn1 hx; exact hn2 hx; exact hn3 hx)
      · have wM := w_M_would (gI σ 97 0 (Int32.toNatClampNeg (nI i + 1))) (gI σ 97 0 (Int32.toNatClampNeg (nI i + 2))) (gI σ 97 0 (Int32.toNatClampNeg (nI i + 3))) σ1
        have ht2 : v_M_thrown (e_M_would (gI σ 97 0 (Int32.toNatClampNeg (nI i + 1))) (gI σ 97 0 (Int32.toNatClampNeg (nI i + 2))) (gI σ 97 0 (Int32.toNatClampNeg (nI i + 3))) σ1) = 0 := ht
        have hcm : lg_cmp (gJ (e_M_would (gI σ 97 0 (Int32.toNatClampNeg (nI i + 1))) (gI σ 97 0 (Int32.toNatClampNeg (nI i + 2))) (gI σ 97 0 (Int32.toNatClampNeg (nI i + 3))) σ1) 98 0 0) (Int32.toInt64 (v_M_would (gI σ 97 0 (Int32.toNatClampNeg (nI i + 1))) (gI σ 97 0 (Int32.toNatClampNeg (nI i + 2))) (gI σ 97 0 (Int32.toNatClampNeg (nI i + 3))) σ1)) = 0 := by
          rw [wM.j (k := 98) rfl, hj1, hv]
          exact cmp_eq.mpr rfl
        have v01 : vp_in 0 1 := by unfold vp_in; decide
        obtain ⟨y0, hy0⟩ : ∃ y : Int32, y = 0 := ⟨_, rfl⟩
        rw [← hy0]
        have runB := q_L_1463 (nI i) y0 σ1 (fun st => some st)
        simp only [f1, f2, mG_t w1, mG_t w2, mG_t w3, mG_t pM, mIf_t (ht2.trans hy0.symm), mIf_t hy0, mG_t v01, show Int32.toNatClampNeg 0 = 0 from rfl, mIf_t hcm] at runB
        have hend := hk _ 1 6 (⟨Cpl.lt hC2 (agO.step (agO.step (agO_refl [98000, 13053] _) wS rfl) wM rfl) rfl, (wM.n (k := 104) rfl).trans ((wS.n (k := 104) rfl).trans h104), (wM.i (k := 97) rfl).trans (f2.trans hLn)⟩) (by decide) (by decide)
        exact s_run X mLay_ok (hRm_L hR1 hR2 (by omega) (by omega)) (ok_L l) hend (fun st h => by cases h; exact hend) 600 _ runB
  exact s_run X mLay_ok (hRm_L hR1 hR2 (by omega) (by omega)) (ok_L l) mid (fun st h => by cases h; exact mid) 600 _ runA

set_option maxRecDepth 100000 in
set_option maxHeartbeats 4000000 in
theorem q_L_2180 (x4 : Int32) (σ : MSto) (k : MK) : mrun KT P_L k 600 (2180, [some (mR 97 0), some (mR 12 0), some (mR 13 0), some (mR 98 0), some (mI x4), none, none, none], [], σ, 0, 0) = mG (vp_in (x4 + 1) (gI σ 97 1 0).toNatClampNeg) (k (2188, [some (mR 97 0), some (mR 12 0), some (mR 13 0), some (mR 98 0), some (mI x4), none, none, none], [(mR 98 0), (mI (gI σ 97 0 (Int32.toNatClampNeg (x4 + 1)))), (mR 12 0)], σ, 0, 0)) := rfl
set_option maxRecDepth 100000 in
set_option maxHeartbeats 4000000 in
theorem q_L_2191 (x4 : Int32) (y0 : Int32) (σ : MSto) (k : MK) : mrun KT P_L k 600 (2191, [some (mR 97 0), some (mR 12 0), some (mR 13 0), some (mR 98 0), some (mI x4), none, none, none], [(mI y0)], σ, 0, 0) = mG (vp_in (x4 + 1) (gI σ 97 1 0).toNatClampNeg) (mG (p_M_row (gI σ 97 0 (Int32.toNatClampNeg (x4 + 1))) σ) (mIf ((v_M_thrown (e_M_row (gI σ 97 0 (Int32.toNatClampNeg (x4 + 1))) σ)) = y0) (mIf (y0 = 0) (mG (vp_in 0 1) (mIf ((lg_cmp (gJ (e_M_row (gI σ 97 0 (Int32.toNatClampNeg (x4 + 1))) σ) 98 0 (Int32.toNatClampNeg 0)) (v_M_row (gI σ 97 0 (Int32.toNatClampNeg (x4 + 1))) σ)) = 0) (k (2235, [some (mR 97 0), some (mR 12 0), some (mR 13 0), some (mR 98 0), some (mI x4), none, none, none], [], (e_M_row (gI σ 97 0 (Int32.toNatClampNeg (x4 + 1))) σ), 0, 0)) (none))) (k (2235, [some (mR 97 0), some (mR 12 0), some (mR 13 0), some (mR 98 0), some (mI x4), none, none, none], [], (e_M_row (gI σ 97 0 (Int32.toNatClampNeg (x4 + 1))) σ), 0, 0))) (none))) := rfl
theorem Lh_2180 {l : Launch} (hfl : l.stackTraces = false) {L i : Nat} (hL : L ≤ 3584) (hi : i + 7 ≤ L) : LTurn l L 2180 i := by
  intro p e R s m args below meth c Q D A eb tL tB c0 s0 ad0 σ0 σ X hR1 hR2 hc hs hI hk
  obtain ⟨hC, h104, hLn⟩ := hI
  have w1 := lvp (c := 1) hLn hL hi (by omega)
  have runA := q_L_2180 (nI i) σ (fun st => some st)
  simp only [mG_t w1] at runA
  have mid : mWP p l e R s m args below meth c Q 8 D A eb tL tB ad0 σ0 c0 s0 (2188, LH i, [mR 98 0, mI (gI σ 97 0 (Int32.toNatClampNeg (nI i + 1))), mR 12 0], σ, 0, 0) := by
    obtain ⟨pM0, hCx, ⟨hx, ht⟩ | ⟨hn1, hn2, hp, -, -⟩⟩ := T_row hC (gI σ 97 0 (Int32.toNatClampNeg (nI i + 1)))
    · refine mWP_callH (as := [mR 12 0, mI (gI σ 97 0 (Int32.toNatClampNeg (nI i + 1))), mR 98 0]) X hR1 hR2 hc hs (fun hlv => hX_row l hlv (thr_row hfl (fun v hv => hlv v (by rcases List.mem_cons.mp hv with h | h; exact h ▸ List.mem_cons_self; rw [List.mem_cons] ; exact Or.inr (List.mem_append_left [mR 98 0] h))) hx)) tw_5_182 tw_1_0 tw_5_180 tw_5_181 ⟨by decide, by decide⟩ (N := 3) (by decide +kernel) rfl (by decide) (by decide +kernel) ?_
      have wM := w_M_row (gI σ 97 0 (Int32.toNatClampNeg (nI i + 1))) σ
      have ht2 : v_M_thrown (e_M_row (gI σ 97 0 (Int32.toNatClampNeg (nI i + 1))) σ) = 1 := ht
      obtain ⟨y0, hy0⟩ : ∃ y : Int32, y = 1 := ⟨_, rfl⟩
      rw [← hy0]
      have runB := q_L_2191 (nI i) y0 σ (fun st => some st)
      simp only [mG_t w1, mG_t pM0, mIf_t (ht2.trans hy0.symm), mIf_f (show ¬ y0 = 0 by rw [hy0]; decide)] at runB
      have hend := hk _ 1 6 (⟨Cpl.lt hCx wM rfl, (wM.n (k := 104) rfl).trans h104, (wM.i (k := 97) rfl).trans hLn⟩) (by decide) (by decide)
      exact s_run X mLay_ok (hRm_L hR1 hR2 (by omega) (by omega)) (ok_L l) hend (fun st h => by cases h; exact hend) 600 _ runB
    · refine mWP_callH (as := [mR 12 0, mI (gI σ 97 0 (Int32.toNatClampNeg (nI i + 1))), mR 98 0]) X hR1 hR2 hc hs (fun hlv => hO_row l hlv hp) tw_5_182 tw_1_0 tw_5_180 tw_5_181 ⟨by decide, by decide⟩ (N := 3) (by decide +kernel) rfl (by decide) (by decide +kernel) ?_
      have wS : agO [98000] σ (sJ σ 98 0 0 (v_C_row (gI σ 97 0 (Int32.toNatClampNeg (nI i + 1))) σ)) := agO_sJ rfl (agO_refl [98000] σ)
      obtain ⟨σ1, hσ1⟩ : ∃ z, z = (sJ σ 98 0 0 (v_C_row (gI σ 97 0 (Int32.toNatClampNeg (nI i + 1))) σ)) := ⟨_, rfl⟩
      have hj1 : gJ σ1 98 0 0 = (v_C_row (gI σ 97 0 (Int32.toNatClampNeg (nI i + 1))) σ) := by rw [hσ1]; rfl
      rw [← hσ1] at wS ⊢
      have f1 : ∀ j, gI σ1 97 0 j = gI σ 97 0 j := fun j => wS.i rfl
      have f2 : gI σ1 97 1 0 = gI σ 97 1 0 := wS.i rfl
      have hC1 : Cpl σ σ1 := Cpl.rt hC wS rfl
      obtain ⟨pM, hC2, ⟨hx, -⟩ | ⟨-, -, -, hv, ht⟩⟩ := T_row hC1 (gI σ 97 0 (Int32.toNatClampNeg (nI i + 1)))
      · (exfalso; rcases hx with hx | ⟨-, hx⟩; exact hn1 hx; exact hx hn2)
      · have wM := w_M_row (gI σ 97 0 (Int32.toNatClampNeg (nI i + 1))) σ1
        have ht2 : v_M_thrown (e_M_row (gI σ 97 0 (Int32.toNatClampNeg (nI i + 1))) σ1) = 0 := ht
        have hcm : lg_cmp (gJ (e_M_row (gI σ 97 0 (Int32.toNatClampNeg (nI i + 1))) σ1) 98 0 0) (v_M_row (gI σ 97 0 (Int32.toNatClampNeg (nI i + 1))) σ1) = 0 := by
          rw [wM.j (k := 98) rfl, hj1, hv]
          exact cmp_eq.mpr rfl
        have v01 : vp_in 0 1 := by unfold vp_in; decide
        obtain ⟨y0, hy0⟩ : ∃ y : Int32, y = 0 := ⟨_, rfl⟩
        rw [← hy0]
        have runB := q_L_2191 (nI i) y0 σ1 (fun st => some st)
        simp only [f1, f2, mG_t w1, mG_t pM, mIf_t (ht2.trans hy0.symm), mIf_t hy0, mG_t v01, show Int32.toNatClampNeg 0 = 0 from rfl, mIf_t hcm] at runB
        have hend := hk _ 1 6 (⟨Cpl.lt hC2 (agO.step (agO.step (agO_refl [98000, 13053] _) wS rfl) wM rfl) rfl, (wM.n (k := 104) rfl).trans ((wS.n (k := 104) rfl).trans h104), (wM.i (k := 97) rfl).trans (f2.trans hLn)⟩) (by decide) (by decide)
        exact s_run X mLay_ok (hRm_L hR1 hR2 (by omega) (by omega)) (ok_L l) hend (fun st h => by cases h; exact hend) 600 _ runB
  exact s_run X mLay_ok (hRm_L hR1 hR2 (by omega) (by omega)) (ok_L l) mid (fun st h => by cases h; exact mid) 600 _ runA


