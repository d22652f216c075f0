/-! the law's cases -/
set_option maxRecDepth 100000 in
set_option maxHeartbeats 4000000 in
theorem q3_260a (x4 : Int32) (σ : MSto) : mrun KT (P3_L 270 280) (fun st => some st) 600 (260, [some (mR 97 0), some (mR 12 0), some (mR 13 0), some (mR 98 0), some (mI x4), none, none, none], [], σ, 0, 0) = mG (vp_in (x4 + 1) (gI σ 97 1 0).toNatClampNeg) (mG (p_C_sign (gI σ 97 0 (Int32.toNatClampNeg (x4 + 1))) σ) (some (270, [some (mR 97 0), some (mR 12 0), some (mR 13 0), some (mR 98 0), some (mI x4), none, none, none], [(mI (v_C_sign (gI σ 97 0 (Int32.toNatClampNeg (x4 + 1))) σ))], (e_C_sign (gI σ 97 0 (Int32.toNatClampNeg (x4 + 1))) σ), 0, 0))) := rfl
set_option maxRecDepth 100000 in
set_option maxHeartbeats 4000000 in
theorem q3_260b (x4 y0 : Int32) (σ : MSto) : mrun KT (P3_L 270 280) (fun st => some st) 600 (270, [some (mR 97 0), some (mR 12 0), some (mR 13 0), some (mR 98 0), some (mI x4), none, none, none], [(mI y0)], σ, 0, 0) = mG (vp_in (x4 + 1) (gI σ 97 1 0).toNatClampNeg) (mG (p_M_sign (gI σ 97 0 (Int32.toNatClampNeg (x4 + 1))) σ) (some (280, [some (mR 97 0), some (mR 12 0), some (mR 13 0), some (mR 98 0), some (mI x4), none, none, none], [(mI (v_M_sign (gI σ 97 0 (Int32.toNatClampNeg (x4 + 1))) σ)), (mI y0)], (e_M_sign (gI σ 97 0 (Int32.toNatClampNeg (x4 + 1))) σ), 0, 0))) := rfl
set_option maxRecDepth 100000 in
set_option maxHeartbeats 4000000 in
theorem q3_260c (x4 y0 y1 : Int32) (σ : MSto) : mrun KT (P3_L 270 280) (fun st => some st) 600 (280, [some (mR 97 0), some (mR 12 0), some (mR 13 0), some (mR 98 0), some (mI x4), none, none, none], [(mI y1), (mI y0)], σ, 0, 0) = mIf (y0 = y1) (some (2235, [some (mR 97 0), some (mR 12 0), some (mR 13 0), some (mR 98 0), some (mI x4), none, none, none], [], σ, 0, 0)) (none) := rfl
theorem Ly_260 {l : Launch} {L i : Nat} (hL : L ≤ 3584) (hi : i + 7 ≤ L) : LTurn l L 260 i := by
  intro p e R s m args below meth c Q D A eb tL tB c0 s0 ad0 σ0 σ X hR1 hR2 hc hs hI hk
  obtain ⟨hC, h104, hLn⟩ := hI
  have w1 := lvp (c := 1) hLn hL hi (by omega)
  have wC := w_C_sign (gI σ 97 0 (Int32.toNatClampNeg (nI i + 1))) σ
  have n1 : gN (e_C_sign (gI σ 97 0 (Int32.toNatClampNeg (nI i + 1))) σ) 104 = 0 := (wC.n (k := 104) rfl).trans h104
  have hC1 := Cpl.rt hC wC rfl
  have f1 : ∀ j, gI (e_C_sign (gI σ 97 0 (Int32.toNatClampNeg (nI i + 1))) σ) 97 0 j = gI σ 97 0 j := fun j => wC.i rfl
  have f2 : gI (e_C_sign (gI σ 97 0 (Int32.toNatClampNeg (nI i + 1))) σ) 97 1 0 = gI σ 97 1 0 := wC.i rfl
  obtain ⟨pC, pM, hv, hC2⟩ := T_sign hC1 (gI σ 97 0 (Int32.toNatClampNeg (nI i + 1)))
  have wM := w_M_sign (gI σ 97 0 (Int32.toNatClampNeg (nI i + 1))) (e_C_sign (gI σ 97 0 (Int32.toNatClampNeg (nI i + 1))) σ)
  have runA := q3_260a (nI i) σ
  simp only [mG_t w1, mG_t pC] at runA
  have runB := q3_260b (nI i) (v_C_sign (gI σ 97 0 (Int32.toNatClampNeg (nI i + 1))) σ) (e_C_sign (gI σ 97 0 (Int32.toNatClampNeg (nI i + 1))) σ)
  simp only [f1, f2, mG_t w1, mG_t pM] at runB
  have runD := q3_260c (nI i) (v_C_sign (gI σ 97 0 (Int32.toNatClampNeg (nI i + 1))) σ) (v_M_sign (gI σ 97 0 (Int32.toNatClampNeg (nI i + 1))) (e_C_sign (gI σ 97 0 (Int32.toNatClampNeg (nI i + 1))) σ)) (e_M_sign (gI σ 97 0 (Int32.toNatClampNeg (nI i + 1))) (e_C_sign (gI σ 97 0 (Int32.toNatClampNeg (nI i + 1))) σ))
  rw [mIf_t hv] at runD
  have hend := hk _ 0 0 ⟨Cpl.lt hC2 wM rfl, (wM.n (k := 104) rfl).trans n1, ((wM.i (k := 97) rfl).trans f2).trans hLn⟩ (by decide) (by decide)
  have hRm : mRoomOK R (P3_L 270 280) (c0 + 0) (s0 + 0) := hRm_3 hR1 hR2 (by omega) (by omega)
  have hRm0 : mRoomOK R (P3_L 270 280) c0 s0 := hRm_3 hR1 hR2 (by omega) (by omega)
  have h1 := s_run3 X hRm hend runD
  have h2 := s_run3 X hRm h1 runB
  have h2a : mWP p l e R s m args below meth c Q 8 D A eb tL tB ad0 σ0 c0 s0 (270, LH i, [mI (v_C_sign (gI σ 97 0 (Int32.toNatClampNeg (nI i + 1))) σ)], (e_C_sign (gI σ 97 0 (Int32.toNatClampNeg (nI i + 1))) σ), 0, 0) := h2
  have h3 := s_run3 X hRm0 h2a runA
  exact h3

set_option maxRecDepth 100000 in
set_option maxHeartbeats 4000000 in
theorem q3_285a (x4 : Int32) (σ : MSto) : mrun KT (P3_L 295 305) (fun st => some st) 600 (285, [some (mR 97 0), some (mR 12 0), some (mR 13 0), some (mR 98 0), some (mI x4), none, none, none], [], σ, 0, 0) = mG (vp_in (x4 + 1) (gI σ 97 1 0).toNatClampNeg) (some (295, [some (mR 97 0), some (mR 12 0), some (mR 13 0), some (mR 98 0), some (mI x4), none, none, none], [(mI (v_C_end (gI σ 97 0 (Int32.toNatClampNeg (x4 + 1))) σ))], (e_C_end (gI σ 97 0 (Int32.toNatClampNeg (x4 + 1))) σ), 0, 0)) := rfl
set_option maxRecDepth 100000 in
set_option maxHeartbeats 4000000 in
theorem q3_285b (x4 y0 : Int32) (σ : MSto) : mrun KT (P3_L 295 305) (fun st => some st) 600 (295, [some (mR 97 0), some (mR 12 0), some (mR 13 0), some (mR 98 0), some (mI x4), none, none, none], [(mI y0)], σ, 0, 0) = mG (vp_in (x4 + 1) (gI σ 97 1 0).toNatClampNeg) (some (305, [some (mR 97 0), some (mR 12 0), some (mR 13 0), some (mR 98 0), some (mI x4), none, none, none], [(mI (v_M_end (gI σ 97 0 (Int32.toNatClampNeg (x4 + 1))) σ)), (mI y0)], (e_M_end (gI σ 97 0 (Int32.toNatClampNeg (x4 + 1))) σ), 0, 0)) := rfl
set_option maxRecDepth 100000 in
set_option maxHeartbeats 4000000 in
theorem q3_285c (x4 y0 y1 : Int32) (σ : MSto) : mrun KT (P3_L 295 305) (fun st => some st) 600 (305, [some (mR 97 0), some (mR 12 0), some (mR 13 0), some (mR 98 0), some (mI x4), none, none, none], [(mI y1), (mI y0)], σ, 0, 0) = mIf (y0 = y1) (some (2235, [some (mR 97 0), some (mR 12 0), some (mR 13 0), some (mR 98 0), some (mI x4), none, none, none], [], σ, 0, 0)) (none) := rfl
theorem Ly_285 {l : Launch} {L i : Nat} (hL : L ≤ 3584) (hi : i + 7 ≤ L) : LTurn l L 285 i := by
  intro p e R s m args below meth c Q D A eb tL tB c0 s0 ad0 σ0 σ X hR1 hR2 hc hs hI hk
  obtain ⟨hC, h104, hLn⟩ := hI
  have w1 := lvp (c := 1) hLn hL hi (by omega)
  have wC := w_C_end (gI σ 97 0 (Int32.toNatClampNeg (nI i + 1))) σ
  have n1 : gN (e_C_end (gI σ 97 0 (Int32.toNatClampNeg (nI i + 1))) σ) 104 = 0 := (wC.n (k := 104) rfl).trans h104
  have hC1 := Cpl.rt hC wC rfl
  have f1 : ∀ j, gI (e_C_end (gI σ 97 0 (Int32.toNatClampNeg (nI i + 1))) σ) 97 0 j = gI σ 97 0 j := fun j => wC.i rfl
  have f2 : gI (e_C_end (gI σ 97 0 (Int32.toNatClampNeg (nI i + 1))) σ) 97 1 0 = gI σ 97 1 0 := wC.i rfl
  obtain ⟨hv, hC2⟩ := T_end hC1 (gI σ 97 0 (Int32.toNatClampNeg (nI i + 1)))
  have wM := w_M_end (gI σ 97 0 (Int32.toNatClampNeg (nI i + 1))) (e_C_end (gI σ 97 0 (Int32.toNatClampNeg (nI i + 1))) σ)
  have runA := q3_285a (nI i) σ
  simp only [mG_t w1] at runA
  have runB := q3_285b (nI i) (v_C_end (gI σ 97 0 (Int32.toNatClampNeg (nI i + 1))) σ) (e_C_end (gI σ 97 0 (Int32.toNatClampNeg (nI i + 1))) σ)
  simp only [f1, f2, mG_t w1] at runB
  have runD := q3_285c (nI i) (v_C_end (gI σ 97 0 (Int32.toNatClampNeg (nI i + 1))) σ) (v_M_end (gI σ 97 0 (Int32.toNatClampNeg (nI i + 1))) (e_C_end (gI σ 97 0 (Int32.toNatClampNeg (nI i + 1))) σ)) (e_M_end (gI σ 97 0 (Int32.toNatClampNeg (nI i + 1))) (e_C_end (gI σ 97 0 (Int32.toNatClampNeg (nI i + 1))) σ))
  rw [mIf_t hv] at runD
  have hend := hk _ 0 0 ⟨Cpl.lt hC2 wM rfl, (wM.n (k := 104) rfl).trans n1, ((wM.i (k := 97) rfl).trans f2).trans hLn⟩ (by decide) (by decide)
  have hRm : mRoomOK R (P3_L 295 305) (c0 + 0) (s0 + 0) := hRm_3 hR1 hR2 (by omega) (by omega)
  have hRm0 : mRoomOK R (P3_L 295 305) c0 s0 := hRm_3 hR1 hR2 (by omega) (by omega)
  have h1 := s_run3 X hRm hend runD
  have h2 := s_run3 X hRm h1 runB
  have h2a : mWP p l e R s m args below meth c Q 8 D A eb tL tB ad0 σ0 c0 s0 (295, LH i, [mI (v_C_end (gI σ 97 0 (Int32.toNatClampNeg (nI i + 1))) σ)], (e_C_end (gI σ 97 0 (Int32.toNatClampNeg (nI i + 1))) σ), 0, 0) := h2
  have h3 := s_run3 X hRm0 h2a runA
  exact h3

set_option maxRecDepth 100000 in
set_option maxHeartbeats 4000000 in
theorem q3_310a (x4 : Int32) (σ : MSto) : mrun KT (P3_L 314 318) (fun st => some st) 600 (310, [some (mR 97 0), some (mR 12 0), some (mR 13 0), some (mR 98 0), some (mI x4), none, none, none], [], σ, 0, 0) = mG (p_C_curve σ) (some (314, [some (mR 97 0), some (mR 12 0), some (mR 13 0), some (mR 98 0), some (mI x4), none, none, none], [(mI (v_C_curve σ))], (e_C_curve σ), 0, 0)) := rfl
set_option maxRecDepth 100000 in
set_option maxHeartbeats 4000000 in
theorem q3_310b (x4 y0 : Int32) (σ : MSto) : mrun KT (P3_L 314 318) (fun st => some st) 600 (314, [some (mR 97 0), some (mR 12 0), some (mR 13 0), some (mR 98 0), some (mI x4), none, none, none], [(mI y0)], σ, 0, 0) = mG (p_M_curve σ) (some (318, [some (mR 97 0), some (mR 12 0), some (mR 13 0), some (mR 98 0), some (mI x4), none, none, none], [(mI (v_M_curve σ)), (mI y0)], (e_M_curve σ), 0, 0)) := rfl
set_option maxRecDepth 100000 in
set_option maxHeartbeats 4000000 in
theorem q3_310c (x4 y0 y1 : Int32) (σ : MSto) : mrun KT (P3_L 314 318) (fun st => some st) 600 (318, [some (mR 97 0), some (mR 12 0), some (mR 13 0), some (mR 98 0), some (mI x4), none, none, none], [(mI y1), (mI y0)], σ, 0, 0) = mIf (y0 = y1) (some (2235, [some (mR 97 0), some (mR 12 0), some (mR 13 0), some (mR 98 0), some (mI x4), none, none, none], [], σ, 0, 0)) (none) := rfl
theorem Ly_310 {l : Launch} {L i : Nat} (hL : L ≤ 3584) (hi : i + 7 ≤ L) : LTurn l L 310 i := by
  intro p e R s m args below meth c Q D A eb tL tB c0 s0 ad0 σ0 σ X hR1 hR2 hc hs hI hk
  obtain ⟨hC, h104, hLn⟩ := hI
  have wC := w_C_curve σ
  have n1 : gN (e_C_curve σ) 104 = 0 := (wC.n (k := 104) rfl).trans h104
  have hC1 := Cpl.rt hC wC rfl
  have f1 : ∀ j, gI (e_C_curve σ) 97 0 j = gI σ 97 0 j := fun j => wC.i rfl
  have f2 : gI (e_C_curve σ) 97 1 0 = gI σ 97 1 0 := wC.i rfl
  obtain ⟨pC, pM, hv, hC2⟩ := T_curve hC1
  have wM := w_M_curve (e_C_curve σ)
  have runA := q3_310a (nI i) σ
  simp only [mG_t pC] at runA
  have runB := q3_310b (nI i) (v_C_curve σ) (e_C_curve σ)
  simp only [f1, f2, mG_t pM] at runB
  have runD := q3_310c (nI i) (v_C_curve σ) (v_M_curve (e_C_curve σ)) (e_M_curve (e_C_curve σ))
  rw [mIf_t hv] at runD
  have hend := hk _ 0 0 ⟨Cpl.lt hC2 wM rfl, (wM.n (k := 104) rfl).trans n1, ((wM.i (k := 97) rfl).trans f2).trans hLn⟩ (by decide) (by decide)
  have hRm : mRoomOK R (P3_L 314 318) (c0 + 0) (s0 + 0) := hRm_3 hR1 hR2 (by omega) (by omega)
  have hRm0 : mRoomOK R (P3_L 314 318) c0 s0 := hRm_3 hR1 hR2 (by omega) (by omega)
  have h1 := s_run3 X hRm hend runD
  have h2 := s_run3 X hRm h1 runB
  have h2a : mWP p l e R s m args below meth c Q 8 D A eb tL tB ad0 σ0 c0 s0 (314, LH i, [mI (v_C_curve σ)], (e_C_curve σ), 0, 0) := h2
  have h3 := s_run3 X hRm0 h2a runA
  exact h3

set_option maxRecDepth 100000 in
set_option maxHeartbeats 4000000 in
theorem q3_323a (x4 : Int32) (σ : MSto) : mrun KT (P3_L 333 343) (fun st => some st) 600 (323, [some (mR 97 0), some (mR 12 0), some (mR 13 0), some (mR 98 0), some (mI x4), none, none, none], [], σ, 0, 0) = mG (vp_in (x4 + 1) (gI σ 97 1 0).toNatClampNeg) (mG (p_C_value (gI σ 97 0 (Int32.toNatClampNeg (x4 + 1))) σ) (some (333, [some (mR 97 0), some (mR 12 0), some (mR 13 0), some (mR 98 0), some (mI x4), none, none, none], [(mI (v_C_value (gI σ 97 0 (Int32.toNatClampNeg (x4 + 1))) σ))], σ, 0, 0))) := rfl
set_option maxRecDepth 100000 in
set_option maxHeartbeats 4000000 in
theorem q3_323b (x4 y0 : Int32) (σ : MSto) : mrun KT (P3_L 333 343) (fun st => some st) 600 (333, [some (mR 97 0), some (mR 12 0), some (mR 13 0), some (mR 98 0), some (mI x4), none, none, none], [(mI y0)], σ, 0, 0) = mG (vp_in (x4 + 1) (gI σ 97 1 0).toNatClampNeg) (some (343, [some (mR 97 0), some (mR 12 0), some (mR 13 0), some (mR 98 0), some (mI x4), none, none, none], [(mI (v_M_value (gI σ 97 0 (Int32.toNatClampNeg (x4 + 1))) σ)), (mI y0)], (e_M_value (gI σ 97 0 (Int32.toNatClampNeg (x4 + 1))) σ), 0, 0)) := rfl
set_option maxRecDepth 100000 in
set_option maxHeartbeats 4000000 in
theorem q3_323c (x4 y0 y1 : Int32) (σ : MSto) : mrun KT (P3_L 333 343) (fun st => some st) 600 (343, [some (mR 97 0), some (mR 12 0), some (mR 13 0), some (mR 98 0), some (mI x4), none, none, none], [(mI y1), (mI y0)], σ, 0, 0) = mIf (y0 = y1) (some (2235, [some (mR 97 0), some (mR 12 0), some (mR 13 0), some (mR 98 0), some (mI x4), none, none, none], [], σ, 0, 0)) (none) := rfl
theorem Ly_323 {l : Launch} {L i : Nat} (hL : L ≤ 3584) (hi : i + 7 ≤ L) : LTurn l L 323 i := by
  intro p e R s m args below meth c Q D A eb tL tB c0 s0 ad0 σ0 σ X hR1 hR2 hc hs hI hk
  obtain ⟨hC, h104, hLn⟩ := hI
  have w1 := lvp (c := 1) hLn hL hi (by omega)
  have hC1 := hC
  have f2 : gI σ 97 1 0 = gI σ 97 1 0 := rfl
  have n1 := h104
  obtain ⟨pC, hv, hC2⟩ := T_value hC1 (gI σ 97 0 (Int32.toNatClampNeg (nI i + 1)))
  have wM := w_M_value (gI σ 97 0 (Int32.toNatClampNeg (nI i + 1))) σ
  have runA := q3_323a (nI i) σ
  simp only [mG_t w1, mG_t pC] at runA
  have runB := q3_323b (nI i) (v_C_value (gI σ 97 0 (Int32.toNatClampNeg (nI i + 1))) σ) σ
  simp only [mG_t w1] at runB
  have runD := q3_323c (nI i) (v_C_value (gI σ 97 0 (Int32.toNatClampNeg (nI i + 1))) σ) (v_M_value (gI σ 97 0 (Int32.toNatClampNeg (nI i + 1))) σ) (e_M_value (gI σ 97 0 (Int32.toNatClampNeg (nI i + 1))) σ)
  rw [mIf_t hv] at runD
  have hend := hk _ 0 0 ⟨Cpl.lt hC2 wM rfl, (wM.n (k := 104) rfl).trans n1, ((wM.i (k := 97) rfl).trans f2).trans hLn⟩ (by decide) (by decide)
  have hRm : mRoomOK R (P3_L 333 343) (c0 + 0) (s0 + 0) := hRm_3 hR1 hR2 (by omega) (by omega)
  have hRm0 : mRoomOK R (P3_L 333 343) c0 s0 := hRm_3 hR1 hR2 (by omega) (by omega)
  have h1 := s_run3 X hRm hend runD
  have h2 := s_run3 X hRm h1 runB
  have h2a : mWP p l e R s m args below meth c Q 8 D A eb tL tB ad0 σ0 c0 s0 (333, LH i, [mI (v_C_value (gI σ 97 0 (Int32.toNatClampNeg (nI i + 1))) σ)], σ, 0, 0) := h2
  have h3 := s_run3 X hRm0 h2a runA
  exact h3

set_option maxRecDepth 100000 in
set_option maxHeartbeats 4000000 in
theorem q3_348a (x4 : Int32) (σ : MSto) : mrun KT (P3_L 358 368) (fun st => some st) 600 (348, [some (mR 97 0), some (mR 12 0), some (mR 13 0), some (mR 98 0), some (mI x4), none, none, none], [], σ, 0, 0) = mG (vp_in (x4 + 1) (gI σ 97 1 0).toNatClampNeg) (some (358, [some (mR 97 0), some (mR 12 0), some (mR 13 0), some (mR 98 0), some (mI x4), none, none, none], [(mI (v_C_woven (gI σ 97 0 (Int32.toNatClampNeg (x4 + 1))) σ))], (e_C_woven (gI σ 97 0 (Int32.toNatClampNeg (x4 + 1))) σ), 0, 0)) := rfl
set_option maxRecDepth 100000 in
set_option maxHeartbeats 4000000 in
theorem q3_348b (x4 y0 : Int32) (σ : MSto) : mrun KT (P3_L 358 368) (fun st => some st) 600 (358, [some (mR 97 0), some (mR 12 0), some (mR 13 0), some (mR 98 0), some (mI x4), none, none, none], [(mI y0)], σ, 0, 0) = mG (vp_in (x4 + 1) (gI σ 97 1 0).toNatClampNeg) (some (368, [some (mR 97 0), some (mR 12 0), some (mR 13 0), some (mR 98 0), some (mI x4), none, none, none], [(mI (v_M_woven (gI σ 97 0 (Int32.toNatClampNeg (x4 + 1))) σ)), (mI y0)], (e_M_woven (gI σ 97 0 (Int32.toNatClampNeg (x4 + 1))) σ), 0, 0)) := rfl
set_option maxRecDepth 100000 in
set_option maxHeartbeats 4000000 in
theorem q3_348c (x4 y0 y1 : Int32) (σ : MSto) : mrun KT (P3_L 358 368) (fun st => some st) 600 (368, [some (mR 97 0), some (mR 12 0), some (mR 13 0), some (mR 98 0), some (mI x4), none, none, none], [(mI y1), (mI y0)], σ, 0, 0) = mIf (y0 = y1) (some (2235, [some (mR 97 0), some (mR 12 0), some (mR 13 0), some (mR 98 0), some (mI x4), none, none, none], [], σ, 0, 0)) (none) := rfl
theorem Ly_348 {l : Launch} {L i : Nat} (hL : L ≤ 3584) (hi : i + 7 ≤ L) : LTurn l L 348 i := by
  intro p e R s m args below meth c Q D A eb tL tB c0 s0 ad0 σ0 σ X hR1 hR2 hc hs hI hk
  obtain ⟨hC, h104, hLn⟩ := hI
  have w1 := lvp (c := 1) hLn hL hi (by omega)
  have wC := w_C_woven (gI σ 97 0 (Int32.toNatClampNeg (nI i + 1))) σ
  have n1 : gN (e_C_woven (gI σ 97 0 (Int32.toNatClampNeg (nI i + 1))) σ) 104 = 0 := (wC.n (k := 104) rfl).trans h104
  have hC1 := Cpl.rt hC wC rfl
  have f1 : ∀ j, gI (e_C_woven (gI σ 97 0 (Int32.toNatClampNeg (nI i + 1))) σ) 97 0 j = gI σ 97 0 j := fun j => wC.i rfl
  have f2 : gI (e_C_woven (gI σ 97 0 (Int32.toNatClampNeg (nI i + 1))) σ) 97 1 0 = gI σ 97 1 0 := wC.i rfl
  obtain ⟨hv, hC2⟩ := T_woven hC1 (gI σ 97 0 (Int32.toNatClampNeg (nI i + 1)))
  have wM := w_M_woven (gI σ 97 0 (Int32.toNatClampNeg (nI i + 1))) (e_C_woven (gI σ 97 0 (Int32.toNatClampNeg (nI i + 1))) σ)
  have runA := q3_348a (nI i) σ
  simp only [mG_t w1] at runA
  have runB := q3_348b (nI i) (v_C_woven (gI σ 97 0 (Int32.toNatClampNeg (nI i + 1))) σ) (e_C_woven (gI σ 97 0 (Int32.toNatClampNeg (nI i + 1))) σ)
  simp only [f1, f2, mG_t w1] at runB
  have runD := q3_348c (nI i) (v_C_woven (gI σ 97 0 (Int32.toNatClampNeg (nI i + 1))) σ) (v_M_woven (gI σ 97 0 (Int32.toNatClampNeg (nI i + 1))) (e_C_woven (gI σ 97 0 (Int32.toNatClampNeg (nI i + 1))) σ)) (e_M_woven (gI σ 97 0 (Int32.toNatClampNeg (nI i + 1))) (e_C_woven (gI σ 97 0 (Int32.toNatClampNeg (nI i + 1))) σ))
  rw [mIf_t hv] at runD
  have hend := hk _ 0 0 ⟨Cpl.lt hC2 wM rfl, (wM.n (k := 104) rfl).trans n1, ((wM.i (k := 97) rfl).trans f2).trans hLn⟩ (by decide) (by decide)
  have hRm : mRoomOK R (P3_L 358 368) (c0 + 0) (s0 + 0) := hRm_3 hR1 hR2 (by omega) (by omega)
  have hRm0 : mRoomOK R (P3_L 358 368) c0 s0 := hRm_3 hR1 hR2 (by omega) (by omega)
  have h1 := s_run3 X hRm hend runD
  have h2 := s_run3 X hRm h1 runB
  have h2a : mWP p l e R s m args below meth c Q 8 D A eb tL tB ad0 σ0 c0 s0 (358, LH i, [mI (v_C_woven (gI σ 97 0 (Int32.toNatClampNeg (nI i + 1))) σ)], (e_C_woven (gI σ 97 0 (Int32.toNatClampNeg (nI i + 1))) σ), 0, 0) := h2
  have h3 := s_run3 X hRm0 h2a runA
  exact h3

set_option maxRecDepth 100000 in
set_option maxHeartbeats 4000000 in
theorem q3_373a (x4 : Int32) (σ : MSto) : mrun KT (P3_L 407 441) (fun st => some st) 600 (373, [some (mR 97 0), some (mR 12 0), some (mR 13 0), some (mR 98 0), some (mI x4), none, none, none], [], σ, 0, 0) = mG (vp_in (x4 + 1) (gI σ 97 1 0).toNatClampNeg) (mG (vp_in (x4 + 2) (gI σ 97 1 0).toNatClampNeg) (mG (vp_in (x4 + 3) (gI σ 97 1 0).toNatClampNeg) (mG (vp_in (x4 + 4) (gI σ 97 1 0).toNatClampNeg) (mG (vp_in (x4 + 5) (gI σ 97 1 0).toNatClampNeg) (mG (p_C_mend (gI σ 97 0 (Int32.toNatClampNeg (x4 + 1))) (gI σ 97 0 (Int32.toNatClampNeg (x4 + 2))) (gI σ 97 0 (Int32.toNatClampNeg (x4 + 3))) (gI σ 97 0 (Int32.toNatClampNeg (x4 + 4))) (gI σ 97 0 (Int32.toNatClampNeg (x4 + 5))) σ) (some (407, [some (mR 97 0), some (mR 12 0), some (mR 13 0), some (mR 98 0), some (mI x4), none, none, none], [(mI (v_C_mend (gI σ 97 0 (Int32.toNatClampNeg (x4 + 1))) (gI σ 97 0 (Int32.toNatClampNeg (x4 + 2))) (gI σ 97 0 (Int32.toNatClampNeg (x4 + 3))) (gI σ 97 0 (Int32.toNatClampNeg (x4 + 4))) (gI σ 97 0 (Int32.toNatClampNeg (x4 + 5))) σ))], (e_C_mend (gI σ 97 0 (Int32.toNatClampNeg (x4 + 1))) (gI σ 97 0 (Int32.toNatClampNeg (x4 + 2))) (gI σ 97 0 (Int32.toNatClampNeg (x4 + 3))) (gI σ 97 0 (Int32.toNatClampNeg (x4 + 4))) (gI σ 97 0 (Int32.toNatClampNeg (x4 + 5))) σ), 2, 24))))))) := rfl
set_option maxRecDepth 100000 in
set_option maxHeartbeats 4000000 in
theorem q3_373b (x4 y0 : Int32) (σ : MSto) : mrun KT (P3_L 407 441) (fun st => some st) 600 (407, [some (mR 97 0), some (mR 12 0), some (mR 13 0), some (mR 98 0), some (mI x4), none, none, none], [(mI y0)], σ, 0, 0) = mG (vp_in (x4 + 1) (gI σ 97 1 0).toNatClampNeg) (mG (vp_in (x4 + 2) (gI σ 97 1 0).toNatClampNeg) (mG (vp_in (x4 + 3) (gI σ 97 1 0).toNatClampNeg) (mG (vp_in (x4 + 4) (gI σ 97 1 0).toNatClampNeg) (mG (vp_in (x4 + 5) (gI σ 97 1 0).toNatClampNeg) (mG (p_M_mend (gI σ 97 0 (Int32.toNatClampNeg (x4 + 1))) (gI σ 97 0 (Int32.toNatClampNeg (x4 + 2))) (gI σ 97 0 (Int32.toNatClampNeg (x4 + 3))) (gI σ 97 0 (Int32.toNatClampNeg (x4 + 4))) (gI σ 97 0 (Int32.toNatClampNeg (x4 + 5))) σ) (some (441, [some (mR 97 0), some (mR 12 0), some (mR 13 0), some (mR 98 0), some (mI x4), none, none, none], [(mI (v_M_mend (gI σ 97 0 (Int32.toNatClampNeg (x4 + 1))) (gI σ 97 0 (Int32.toNatClampNeg (x4 + 2))) (gI σ 97 0 (Int32.toNatClampNeg (x4 + 3))) (gI σ 97 0 (Int32.toNatClampNeg (x4 + 4))) (gI σ 97 0 (Int32.toNatClampNeg (x4 + 5))) σ)), (mI y0)], (e_M_mend (gI σ 97 0 (Int32.toNatClampNeg (x4 + 1))) (gI σ 97 0 (Int32.toNatClampNeg (x4 + 2))) (gI σ 97 0 (Int32.toNatClampNeg (x4 + 3))) (gI σ 97 0 (Int32.toNatClampNeg (x4 + 4))) (gI σ 97 0 (Int32.toNatClampNeg (x4 + 5))) σ), 0, 0))))))) := rfl
set_option maxRecDepth 100000 in
set_option maxHeartbeats 4000000 in
theorem q3_373c (x4 y0 y1 : Int32) (σ : MSto) : mrun KT (P3_L 407 441) (fun st => some st) 600 (441, [some (mR 97 0), some (mR 12 0), some (mR 13 0), some (mR 98 0), some (mI x4), none, none, none], [(mI y1), (mI y0)], σ, 0, 0) = mIf (y0 = y1) (some (2235, [some (mR 97 0), some (mR 12 0), some (mR 13 0), some (mR 98 0), some (mI x4), none, none, none], [], σ, 0, 0)) (none) := rfl
theorem Ly_373 {l : Launch} {L i : Nat} (hL : L ≤ 3584) (hi : i + 7 ≤ L) : LTurn l L 373 i := by
  intro p e R s m args below meth c Q D A eb tL tB c0 s0 ad0 σ0 σ X hR1 hR2 hc hs hI hk
  obtain ⟨hC, h104, hLn⟩ := hI
  have w1 := lvp (c := 1) hLn hL hi (by omega)
  have w2 := lvp (c := 2) hLn hL hi (by omega)
  have w3 := lvp (c := 3) hLn hL hi (by omega)
  have w4 := lvp (c := 4) hLn hL hi (by omega)
  have w5 := lvp (c := 5) hLn hL hi (by omega)
  have wC := w_C_mend (gI σ 97 0 (Int32.toNatClampNeg (nI i + 1))) (gI σ 97 0 (Int32.toNatClampNeg (nI i + 2))) (gI σ 97 0 (Int32.toNatClampNeg (nI i + 3))) (gI σ 97 0 (Int32.toNatClampNeg (nI i + 4))) (gI σ 97 0 (Int32.toNatClampNeg (nI i + 5))) σ
  have n1 : gN (e_C_mend (gI σ 97 0 (Int32.toNatClampNeg (nI i + 1))) (gI σ 97 0 (Int32.toNatClampNeg (nI i + 2))) (gI σ 97 0 (Int32.toNatClampNeg (nI i + 3))) (gI σ 97 0 (Int32.toNatClampNeg (nI i + 4))) (gI σ 97 0 (Int32.toNatClampNeg (nI i + 5))) σ) 104 = 0 := (wC.n (k := 104) rfl).trans h104
  have hC1 := Cpl.rt hC wC rfl
  have f1 : ∀ j, gI (e_C_mend (gI σ 97 0 (Int32.toNatClampNeg (nI i + 1))) (gI σ 97 0 (Int32.toNatClampNeg (nI i + 2))) (gI σ 97 0 (Int32.toNatClampNeg (nI i + 3))) (gI σ 97 0 (Int32.toNatClampNeg (nI i + 4))) (gI σ 97 0 (Int32.toNatClampNeg (nI i + 5))) σ) 97 0 j = gI σ 97 0 j := fun j => wC.i rfl
  have f2 : gI (e_C_mend (gI σ 97 0 (Int32.toNatClampNeg (nI i + 1))) (gI σ 97 0 (Int32.toNatClampNeg (nI i + 2))) (gI σ 97 0 (Int32.toNatClampNeg (nI i + 3))) (gI σ 97 0 (Int32.toNatClampNeg (nI i + 4))) (gI σ 97 0 (Int32.toNatClampNeg (nI i + 5))) σ) 97 1 0 = gI σ 97 1 0 := wC.i rfl
  obtain ⟨pC, pM, hv, hC2⟩ := T_mend hC1 (gI σ 97 0 (Int32.toNatClampNeg (nI i + 1))) (gI σ 97 0 (Int32.toNatClampNeg (nI i + 2))) (gI σ 97 0 (Int32.toNatClampNeg (nI i + 3))) (gI σ 97 0 (Int32.toNatClampNeg (nI i + 4))) (gI σ 97 0 (Int32.toNatClampNeg (nI i + 5)))
  have wM := w_M_mend (gI σ 97 0 (Int32.toNatClampNeg (nI i + 1))) (gI σ 97 0 (Int32.toNatClampNeg (nI i + 2))) (gI σ 97 0 (Int32.toNatClampNeg (nI i + 3))) (gI σ 97 0 (Int32.toNatClampNeg (nI i + 4))) (gI σ 97 0 (Int32.toNatClampNeg (nI i + 5))) (e_C_mend (gI σ 97 0 (Int32.toNatClampNeg (nI i + 1))) (gI σ 97 0 (Int32.toNatClampNeg (nI i + 2))) (gI σ 97 0 (Int32.toNatClampNeg (nI i + 3))) (gI σ 97 0 (Int32.toNatClampNeg (nI i + 4))) (gI σ 97 0 (Int32.toNatClampNeg (nI i + 5))) σ)
  have runA := q3_373a (nI i) σ
  simp only [mG_t w1, mG_t w2, mG_t w3, mG_t w4, mG_t w5, mG_t pC] at runA
  have runB := q3_373b (nI i) (v_C_mend (gI σ 97 0 (Int32.toNatClampNeg (nI i + 1))) (gI σ 97 0 (Int32.toNatClampNeg (nI i + 2))) (gI σ 97 0 (Int32.toNatClampNeg (nI i + 3))) (gI σ 97 0 (Int32.toNatClampNeg (nI i + 4))) (gI σ 97 0 (Int32.toNatClampNeg (nI i + 5))) σ) (e_C_mend (gI σ 97 0 (Int32.toNatClampNeg (nI i + 1))) (gI σ 97 0 (Int32.toNatClampNeg (nI i + 2))) (gI σ 97 0 (Int32.toNatClampNeg (nI i + 3))) (gI σ 97 0 (Int32.toNatClampNeg (nI i + 4))) (gI σ 97 0 (Int32.toNatClampNeg (nI i + 5))) σ)
  simp only [f1, f2, mG_t w1, mG_t w2, mG_t w3, mG_t w4, mG_t w5, mG_t pM] at runB
  have runD := q3_373c (nI i) (v_C_mend (gI σ 97 0 (Int32.toNatClampNeg (nI i + 1))) (gI σ 97 0 (Int32.toNatClampNeg (nI i + 2))) (gI σ 97 0 (Int32.toNatClampNeg (nI i + 3))) (gI σ 97 0 (Int32.toNatClampNeg (nI i + 4))) (gI σ 97 0 (Int32.toNatClampNeg (nI i + 5))) σ) (v_M_mend (gI σ 97 0 (Int32.toNatClampNeg (nI i + 1))) (gI σ 97 0 (Int32.toNatClampNeg (nI i + 2))) (gI σ 97 0 (Int32.toNatClampNeg (nI i + 3))) (gI σ 97 0 (Int32.toNatClampNeg (nI i + 4))) (gI σ 97 0 (Int32.toNatClampNeg (nI i + 5))) (e_C_mend (gI σ 97 0 (Int32.toNatClampNeg (nI i + 1))) (gI σ 97 0 (Int32.toNatClampNeg (nI i + 2))) (gI σ 97 0 (Int32.toNatClampNeg (nI i + 3))) (gI σ 97 0 (Int32.toNatClampNeg (nI i + 4))) (gI σ 97 0 (Int32.toNatClampNeg (nI i + 5))) σ)) (e_M_mend (gI σ 97 0 (Int32.toNatClampNeg (nI i + 1))) (gI σ 97 0 (Int32.toNatClampNeg (nI i + 2))) (gI σ 97 0 (Int32.toNatClampNeg (nI i + 3))) (gI σ 97 0 (Int32.toNatClampNeg (nI i + 4))) (gI σ 97 0 (Int32.toNatClampNeg (nI i + 5))) (e_C_mend (gI σ 97 0 (Int32.toNatClampNeg (nI i + 1))) (gI σ 97 0 (Int32.toNatClampNeg (nI i + 2))) (gI σ 97 0 (Int32.toNatClampNeg (nI i + 3))) (gI σ 97 0 (Int32.toNatClampNeg (nI i + 4))) (gI σ 97 0 (Int32.toNatClampNeg (nI i + 5))) σ))
  rw [mIf_t hv] at runD
  have hend := hk _ 2 24 ⟨Cpl.lt hC2 wM rfl, (wM.n (k := 104) rfl).trans n1, ((wM.i (k := 97) rfl).trans f2).trans hLn⟩ (by decide) (by decide)
  have hRm : mRoomOK R (P3_L 407 441) (c0 + 2) (s0 + 24) := hRm_3 hR1 hR2 (by omega) (by omega)
  have hRm0 : mRoomOK R (P3_L 407 441) c0 s0 := hRm_3 hR1 hR2 (by omega) (by omega)
  have h1 := s_run3 X hRm hend runD
  have h2 := s_run3 X hRm h1 runB
  have h2a : mWP p l e R s m args below meth c Q 8 D A eb tL tB ad0 σ0 c0 s0 (407, LH i, [mI (v_C_mend (gI σ 97 0 (Int32.toNatClampNeg (nI i + 1))) (gI σ 97 0 (Int32.toNatClampNeg (nI i + 2))) (gI σ 97 0 (Int32.toNatClampNeg (nI i + 3))) (gI σ 97 0 (Int32.toNatClampNeg (nI i + 4))) (gI σ 97 0 (Int32.toNatClampNeg (nI i + 5))) σ)], (e_C_mend (gI σ 97 0 (Int32.toNatClampNeg (nI i + 1))) (gI σ 97 0 (Int32.toNatClampNeg (nI i + 2))) (gI σ 97 0 (Int32.toNatClampNeg (nI i + 3))) (gI σ 97 0 (Int32.toNatClampNeg (nI i + 4))) (gI σ 97 0 (Int32.toNatClampNeg (nI i + 5))) σ), 2, 24) := h2
  have h3 := s_run3 X hRm0 h2a runA
  exact h3

set_option maxRecDepth 100000 in
set_option maxHeartbeats 4000000 in
theorem q3_446a (x4 : Int32) (σ : MSto) : mrun KT (P3_L 487 528) (fun st => some st) 600 (446, [some (mR 97 0), some (mR 12 0), some (mR 13 0), some (mR 98 0), some (mI x4), none, none, none], [], σ, 0, 0) = mG (vp_in (x4 + 1) (gI σ 97 1 0).toNatClampNeg) (mG (vp_in (x4 + 2) (gI σ 97 1 0).toNatClampNeg) (mG (vp_in (x4 + 3) (gI σ 97 1 0).toNatClampNeg) (mG (vp_in (x4 + 4) (gI σ 97 1 0).toNatClampNeg) (mG (vp_in (x4 + 5) (gI σ 97 1 0).toNatClampNeg) (mG (vp_in (x4 + 6) (gI σ 97 1 0).toNatClampNeg) (mG (p_C_stuff (gI σ 97 0 (Int32.toNatClampNeg (x4 + 1))) (gI σ 97 0 (Int32.toNatClampNeg (x4 + 2))) (gI σ 97 0 (Int32.toNatClampNeg (x4 + 3))) (gI σ 97 0 (Int32.toNatClampNeg (x4 + 4))) (gI σ 97 0 (Int32.toNatClampNeg (x4 + 5))) (gI σ 97 0 (Int32.toNatClampNeg (x4 + 6))) σ) (some (487, [some (mR 97 0), some (mR 12 0), some (mR 13 0), some (mR 98 0), some (mI x4), none, none, none], [(mI (v_C_stuff (gI σ 97 0 (Int32.toNatClampNeg (x4 + 1))) (gI σ 97 0 (Int32.toNatClampNeg (x4 + 2))) (gI σ 97 0 (Int32.toNatClampNeg (x4 + 3))) (gI σ 97 0 (Int32.toNatClampNeg (x4 + 4))) (gI σ 97 0 (Int32.toNatClampNeg (x4 + 5))) (gI σ 97 0 (Int32.toNatClampNeg (x4 + 6))) σ))], (e_C_stuff (gI σ 97 0 (Int32.toNatClampNeg (x4 + 1))) (gI σ 97 0 (Int32.toNatClampNeg (x4 + 2))) (gI σ 97 0 (Int32.toNatClampNeg (x4 + 3))) (gI σ 97 0 (Int32.toNatClampNeg (x4 + 4))) (gI σ 97 0 (Int32.toNatClampNeg (x4 + 5))) (gI σ 97 0 (Int32.toNatClampNeg (x4 + 6))) σ), 2, 24)))))))) := rfl
set_option maxRecDepth 100000 in
set_option maxHeartbeats 4000000 in
theorem q3_446b (x4 y0 : Int32) (σ : MSto) : mrun KT (P3_L 487 528) (fun st => some st) 600 (487, [some (mR 97 0), some (mR 12 0), some (mR 13 0), some (mR 98 0), some (mI x4), none, none, none], [(mI y0)], σ, 0, 0) = mG (vp_in (x4 + 1) (gI σ 97 1 0).toNatClampNeg) (mG (vp_in (x4 + 2) (gI σ 97 1 0).toNatClampNeg) (mG (vp_in (x4 + 3) (gI σ 97 1 0).toNatClampNeg) (mG (vp_in (x4 + 4) (gI σ 97 1 0).toNatClampNeg) (mG (vp_in (x4 + 5) (gI σ 97 1 0).toNatClampNeg) (mG (vp_in (x4 + 6) (gI σ 97 1 0).toNatClampNeg) (mG (p_M_stuff (gI σ 97 0 (Int32.toNatClampNeg (x4 + 1))) (gI σ 97 0 (Int32.toNatClampNeg (x4 + 2))) (gI σ 97 0 (Int32.toNatClampNeg (x4 + 3))) (gI σ 97 0 (Int32.toNatClampNeg (x4 + 4))) (gI σ 97 0 (Int32.toNatClampNeg (x4 + 5))) (gI σ 97 0 (Int32.toNatClampNeg (x4 + 6))) σ) (some (528, [some (mR 97 0), some (mR 12 0), some (mR 13 0), some (mR 98 0), some (mI x4), none, none, none], [(mI (v_M_stuff (gI σ 97 0 (Int32.toNatClampNeg (x4 + 1))) (gI σ 97 0 (Int32.toNatClampNeg (x4 + 2))) (gI σ 97 0 (Int32.toNatClampNeg (x4 + 3))) (gI σ 97 0 (Int32.toNatClampNeg (x4 + 4))) (gI σ 97 0 (Int32.toNatClampNeg (x4 + 5))) (gI σ 97 0 (Int32.toNatClampNeg (x4 + 6))) σ)), (mI y0)], (e_M_stuff (gI σ 97 0 (Int32.toNatClampNeg (x4 + 1))) (gI σ 97 0 (Int32.toNatClampNeg (x4 + 2))) (gI σ 97 0 (Int32.toNatClampNeg (x4 + 3))) (gI σ 97 0 (Int32.toNatClampNeg (x4 + 4))) (gI σ 97 0 (Int32.toNatClampNeg (x4 + 5))) (gI σ 97 0 (Int32.toNatClampNeg (x4 + 6))) σ), 0, 0)))))))) := rfl
set_option maxRecDepth 100000 in
set_option maxHeartbeats 4000000 in
theorem q3_446c (x4 y0 y1 : Int32) (σ : MSto) : mrun KT (P3_L 487 528) (fun st => some st) 600 (528, [some (mR 97 0), some (mR 12 0), some (mR 13 0), some (mR 98 0), some (mI x4), none, none, none], [(mI y1), (mI y0)], σ, 0, 0) = mIf (y0 = y1) (some (2235, [some (mR 97 0), some (mR 12 0), some (mR 13 0), some (mR 98 0), some (mI x4), none, none, none], [], σ, 0, 0)) (none) := rfl
theorem Ly_446 {l : Launch} {L i : Nat} (hL : L ≤ 3584) (hi : i + 7 ≤ L) : LTurn l L 446 i := by
  intro p e R s m args below meth c Q D A eb tL tB c0 s0 ad0 σ0 σ X hR1 hR2 hc hs hI hk
  obtain ⟨hC, h104, hLn⟩ := hI
  have w1 := lvp (c := 1) hLn hL hi (by omega)
  have w2 := lvp (c := 2) hLn hL hi (by omega)
  have w3 := lvp (c := 3) hLn hL hi (by omega)
  have w4 := lvp (c := 4) hLn hL hi (by omega)
  have w5 := lvp (c := 5) hLn hL hi (by omega)
  have w6 := lvp (c := 6) hLn hL hi (by omega)
  have wC := w_C_stuff (gI σ 97 0 (Int32.toNatClampNeg (nI i + 1))) (gI σ 97 0 (Int32.toNatClampNeg (nI i + 2))) (gI σ 97 0 (Int32.toNatClampNeg (nI i + 3))) (gI σ 97 0 (Int32.toNatClampNeg (nI i + 4))) (gI σ 97 0 (Int32.toNatClampNeg (nI i + 5))) (gI σ 97 0 (Int32.toNatClampNeg (nI i + 6))) σ
  have n1 : gN (e_C_stuff (gI σ 97 0 (Int32.toNatClampNeg (nI i + 1))) (gI σ 97 0 (Int32.toNatClampNeg (nI i + 2))) (gI σ 97 0 (Int32.toNatClampNeg (nI i + 3))) (gI σ 97 0 (Int32.toNatClampNeg (nI i + 4))) (gI σ 97 0 (Int32.toNatClampNeg (nI i + 5))) (gI σ 97 0 (Int32.toNatClampNeg (nI i + 6))) σ) 104 = 0 := (wC.n (k := 104) rfl).trans h104
  have hC1 := Cpl.rt hC wC rfl
  have f1 : ∀ j, gI (e_C_stuff (gI σ 97 0 (Int32.toNatClampNeg (nI i + 1))) (gI σ 97 0 (Int32.toNatClampNeg (nI i + 2))) (gI σ 97 0 (Int32.toNatClampNeg (nI i + 3))) (gI σ 97 0 (Int32.toNatClampNeg (nI i + 4))) (gI σ 97 0 (Int32.toNatClampNeg (nI i + 5))) (gI σ 97 0 (Int32.toNatClampNeg (nI i + 6))) σ) 97 0 j = gI σ 97 0 j := fun j => wC.i rfl
  have f2 : gI (e_C_stuff (gI σ 97 0 (Int32.toNatClampNeg (nI i + 1))) (gI σ 97 0 (Int32.toNatClampNeg (nI i + 2))) (gI σ 97 0 (Int32.toNatClampNeg (nI i + 3))) (gI σ 97 0 (Int32.toNatClampNeg (nI i + 4))) (gI σ 97 0 (Int32.toNatClampNeg (nI i + 5))) (gI σ 97 0 (Int32.toNatClampNeg (nI i + 6))) σ) 97 1 0 = gI σ 97 1 0 := wC.i rfl
  obtain ⟨pC, pM, hv, hC2⟩ := T_stuff hC1 (gI σ 97 0 (Int32.toNatClampNeg (nI i + 1))) (gI σ 97 0 (Int32.toNatClampNeg (nI i + 2))) (gI σ 97 0 (Int32.toNatClampNeg (nI i + 3))) (gI σ 97 0 (Int32.toNatClampNeg (nI i + 4))) (gI σ 97 0 (Int32.toNatClampNeg (nI i + 5))) (gI σ 97 0 (Int32.toNatClampNeg (nI i + 6)))
  have wM := w_M_stuff (gI σ 97 0 (Int32.toNatClampNeg (nI i + 1))) (gI σ 97 0 (Int32.toNatClampNeg (nI i + 2))) (gI σ 97 0 (Int32.toNatClampNeg (nI i + 3))) (gI σ 97 0 (Int32.toNatClampNeg (nI i + 4))) (gI σ 97 0 (Int32.toNatClampNeg (nI i + 5))) (gI σ 97 0 (Int32.toNatClampNeg (nI i + 6))) (e_C_stuff (gI σ 97 0 (Int32.toNatClampNeg (nI i + 1))) (gI σ 97 0 (Int32.toNatClampNeg (nI i + 2))) (gI σ 97 0 (Int32.toNatClampNeg (nI i + 3))) (gI σ 97 0 (Int32.toNatClampNeg (nI i + 4))) (gI σ 97 0 (Int32.toNatClampNeg (nI i + 5))) (gI σ 97 0 (Int32.toNatClampNeg (nI i + 6))) σ)
  have runA := q3_446a (nI i) σ
  simp only [mG_t w1, mG_t w2, mG_t w3, mG_t w4, mG_t w5, mG_t w6, mG_t pC] at runA
  have runB := q3_446b (nI i) (v_C_stuff (gI σ 97 0 (Int32.toNatClampNeg (nI i + 1))) (gI σ 97 0 (Int32.toNatClampNeg (nI i + 2))) (gI σ 97 0 (Int32.toNatClampNeg (nI i + 3))) (gI σ 97 0 (Int32.toNatClampNeg (nI i + 4))) (gI σ 97 0 (Int32.toNatClampNeg (nI i + 5))) (gI σ 97 0 (Int32.toNatClampNeg (nI i + 6))) σ) (e_C_stuff (gI σ 97 0 (Int32.toNatClampNeg (nI i + 1))) (gI σ 97 0 (Int32.toNatClampNeg (nI i + 2))) (gI σ 97 0 (Int32.toNatClampNeg (nI i + 3))) (gI σ 97 0 (Int32.toNatClampNeg (nI i + 4))) (gI σ 97 0 (Int32.toNatClampNeg (nI i + 5))) (gI σ 97 0 (Int32.toNatClampNeg (nI i + 6))) σ)
  simp only [f1, f2, mG_t w1, mG_t w2, mG_t w3, mG_t w4, mG_t w5, mG_t w6, mG_t pM] at runB
  have runD := q3_446c (nI i) (v_C_stuff (gI σ 97 0 (Int32.toNatClampNeg (nI i + 1))) (gI σ 97 0 (Int32.toNatClampNeg (nI i + 2))) (gI σ 97 0 (Int32.toNatClampNeg (nI i + 3))) (gI σ 97 0 (Int32.toNatClampNeg (nI i + 4))) (gI σ 97 0 (Int32.toNatClampNeg (nI i + 5))) (gI σ 97 0 (Int32.toNatClampNeg (nI i + 6))) σ) (v_M_stuff (gI σ 97 0 (Int32.toNatClampNeg (nI i + 1))) (gI σ 97 0 (Int32.toNatClampNeg (nI i + 2))) (gI σ 97 0 (Int32.toNatClampNeg (nI i + 3))) (gI σ 97 0 (Int32.toNatClampNeg (nI i + 4))) (gI σ 97 0 (Int32.toNatClampNeg (nI i + 5))) (gI σ 97 0 (Int32.toNatClampNeg (nI i + 6))) (e_C_stuff (gI σ 97 0 (Int32.toNatClampNeg (nI i + 1))) (gI σ 97 0 (Int32.toNatClampNeg (nI i + 2))) (gI σ 97 0 (Int32.toNatClampNeg (nI i + 3))) (gI σ 97 0 (Int32.toNatClampNeg (nI i + 4))) (gI σ 97 0 (Int32.toNatClampNeg (nI i + 5))) (gI σ 97 0 (Int32.toNatClampNeg (nI i + 6))) σ)) (e_M_stuff (gI σ 97 0 (Int32.toNatClampNeg (nI i + 1))) (gI σ 97 0 (Int32.toNatClampNeg (nI i + 2))) (gI σ 97 0 (Int32.toNatClampNeg (nI i + 3))) (gI σ 97 0 (Int32.toNatClampNeg (nI i + 4))) (gI σ 97 0 (Int32.toNatClampNeg (nI i + 5))) (gI σ 97 0 (Int32.toNatClampNeg (nI i + 6))) (e_C_stuff (gI σ 97 0 (Int32.toNatClampNeg (nI i + 1))) (gI σ 97 0 (Int32.toNatClampNeg (nI i + 2))) (gI σ 97 0 (Int32.toNatClampNeg (nI i + 3))) (gI σ 97 0 (Int32.toNatClampNeg (nI i + 4))) (gI σ 97 0 (Int32.toNatClampNeg (nI i + 5))) (gI σ 97 0 (Int32.toNatClampNeg (nI i + 6))) σ))
  rw [mIf_t hv] at runD
  have hend := hk _ 2 24 ⟨Cpl.lt hC2 wM rfl, (wM.n (k := 104) rfl).trans n1, ((wM.i (k := 97) rfl).trans f2).trans hLn⟩ (by decide) (by decide)
  have hRm : mRoomOK R (P3_L 487 528) (c0 + 2) (s0 + 24) := hRm_3 hR1 hR2 (by omega) (by omega)
  have hRm0 : mRoomOK R (P3_L 487 528) c0 s0 := hRm_3 hR1 hR2 (by omega) (by omega)
  have h1 := s_run3 X hRm hend runD
  have h2 := s_run3 X hRm h1 runB
  have h2a : mWP p l e R s m args below meth c Q 8 D A eb tL tB ad0 σ0 c0 s0 (487, LH i, [mI (v_C_stuff (gI σ 97 0 (Int32.toNatClampNeg (nI i + 1))) (gI σ 97 0 (Int32.toNatClampNeg (nI i + 2))) (gI σ 97 0 (Int32.toNatClampNeg (nI i + 3))) (gI σ 97 0 (Int32.toNatClampNeg (nI i + 4))) (gI σ 97 0 (Int32.toNatClampNeg (nI i + 5))) (gI σ 97 0 (Int32.toNatClampNeg (nI i + 6))) σ)], (e_C_stuff (gI σ 97 0 (Int32.toNatClampNeg (nI i + 1))) (gI σ 97 0 (Int32.toNatClampNeg (nI i + 2))) (gI σ 97 0 (Int32.toNatClampNeg (nI i + 3))) (gI σ 97 0 (Int32.toNatClampNeg (nI i + 4))) (gI σ 97 0 (Int32.toNatClampNeg (nI i + 5))) (gI σ 97 0 (Int32.toNatClampNeg (nI i + 6))) σ), 2, 24) := h2
  have h3 := s_run3 X hRm0 h2a runA
  exact h3

set_option maxRecDepth 100000 in
set_option maxHeartbeats 4000000 in
theorem q3_533a (x4 : Int32) (σ : MSto) : mrun KT (P3_L 549 565) (fun st => some st) 600 (533, [some (mR 97 0), some (mR 12 0), some (mR 13 0), some (mR 98 0), some (mI x4), none, none, none], [], σ, 0, 0) = mG (vp_in (x4 + 1) (gI σ 97 1 0).toNatClampNeg) (mG (vp_in (x4 + 2) (gI σ 97 1 0).toNatClampNeg) (mG (p_C_way (gI σ 97 0 (Int32.toNatClampNeg (x4 + 1))) (gI σ 97 0 (Int32.toNatClampNeg (x4 + 2))) σ) (some (549, [some (mR 97 0), some (mR 12 0), some (mR 13 0), some (mR 98 0), some (mI x4), none, none, none], [(mI (v_C_way (gI σ 97 0 (Int32.toNatClampNeg (x4 + 1))) (gI σ 97 0 (Int32.toNatClampNeg (x4 + 2))) σ))], (e_C_way (gI σ 97 0 (Int32.toNatClampNeg (x4 + 1))) (gI σ 97 0 (Int32.toNatClampNeg (x4 + 2))) σ), 0, 0)))) := rfl
set_option maxRecDepth 100000 in
set_option maxHeartbeats 4000000 in
theorem q3_533b (x4 y0 : Int32) (σ : MSto) : mrun KT (P3_L 549 565) (fun st => some st) 600 (549, [some (mR 97 0), some (mR 12 0), some (mR 13 0), some (mR 98 0), some (mI x4), none, none, none], [(mI y0)], σ, 0, 0) = mG (vp_in (x4 + 1) (gI σ 97 1 0).toNatClampNeg) (mG (vp_in (x4 + 2) (gI σ 97 1 0).toNatClampNeg) (mG (p_M_way (gI σ 97 0 (Int32.toNatClampNeg (x4 + 1))) (gI σ 97 0 (Int32.toNatClampNeg (x4 + 2))) σ) (some (565, [some (mR 97 0), some (mR 12 0), some (mR 13 0), some (mR 98 0), some (mI x4), none, none, none], [(mI (v_M_way (gI σ 97 0 (Int32.toNatClampNeg (x4 + 1))) (gI σ 97 0 (Int32.toNatClampNeg (x4 + 2))) σ)), (mI y0)], (e_M_way (gI σ 97 0 (Int32.toNatClampNeg (x4 + 1))) (gI σ 97 0 (Int32.toNatClampNeg (x4 + 2))) σ), 0, 0)))) := rfl
set_option maxRecDepth 100000 in
set_option maxHeartbeats 4000000 in
theorem q3_533c (x4 y0 y1 : Int32) (σ : MSto) : mrun KT (P3_L 549 565) (fun st => some st) 600 (565, [some (mR 97 0), some (mR 12 0), some (mR 13 0), some (mR 98 0), some (mI x4), none, none, none], [(mI y1), (mI y0)], σ, 0, 0) = mIf (y0 = y1) (some (2235, [some (mR 97 0), some (mR 12 0), some (mR 13 0), some (mR 98 0), some (mI x4), none, none, none], [], σ, 0, 0)) (none) := rfl
theorem Ly_533 {l : Launch} {L i : Nat} (hL : L ≤ 3584) (hi : i + 7 ≤ L) : LTurn l L 533 i := by
  intro p e R s m args below meth c Q D A eb tL tB c0 s0 ad0 σ0 σ X hR1 hR2 hc hs hI hk
  obtain ⟨hC, h104, hLn⟩ := hI
  have w1 := lvp (c := 1) hLn hL hi (by omega)
  have w2 := lvp (c := 2) hLn hL hi (by omega)
  have wC := w_C_way (gI σ 97 0 (Int32.toNatClampNeg (nI i + 1))) (gI σ 97 0 (Int32.toNatClampNeg (nI i + 2))) σ
  have n1 : gN (e_C_way (gI σ 97 0 (Int32.toNatClampNeg (nI i + 1))) (gI σ 97 0 (Int32.toNatClampNeg (nI i + 2))) σ) 104 = 0 := (wC.n (k := 104) rfl).trans h104
  have hC1 := Cpl.rt hC wC rfl
  have f1 : ∀ j, gI (e_C_way (gI σ 97 0 (Int32.toNatClampNeg (nI i + 1))) (gI σ 97 0 (Int32.toNatClampNeg (nI i + 2))) σ) 97 0 j = gI σ 97 0 j := fun j => wC.i rfl
  have f2 : gI (e_C_way (gI σ 97 0 (Int32.toNatClampNeg (nI i + 1))) (gI σ 97 0 (Int32.toNatClampNeg (nI i + 2))) σ) 97 1 0 = gI σ 97 1 0 := wC.i rfl
  obtain ⟨pC, pM, hv, hC2⟩ := T_way hC1 (gI σ 97 0 (Int32.toNatClampNeg (nI i + 1))) (gI σ 97 0 (Int32.toNatClampNeg (nI i + 2)))
  have wM := w_M_way (gI σ 97 0 (Int32.toNatClampNeg (nI i + 1))) (gI σ 97 0 (Int32.toNatClampNeg (nI i + 2))) (e_C_way (gI σ 97 0 (Int32.toNatClampNeg (nI i + 1))) (gI σ 97 0 (Int32.toNatClampNeg (nI i + 2))) σ)
  have runA := q3_533a (nI i) σ
  simp only [mG_t w1, mG_t w2, mG_t pC] at runA
  have runB := q3_533b (nI i) (v_C_way (gI σ 97 0 (Int32.toNatClampNeg (nI i + 1))) (gI σ 97 0 (Int32.toNatClampNeg (nI i + 2))) σ) (e_C_way (gI σ 97 0 (Int32.toNatClampNeg (nI i + 1))) (gI σ 97 0 (Int32.toNatClampNeg (nI i + 2))) σ)
  simp only [f1, f2, mG_t w1, mG_t w2, mG_t pM] at runB
  have runD := q3_533c (nI i) (v_C_way (gI σ 97 0 (Int32.toNatClampNeg (nI i + 1))) (gI σ 97 0 (Int32.toNatClampNeg (nI i + 2))) σ) (v_M_way (gI σ 97 0 (Int32.toNatClampNeg (nI i + 1))) (gI σ 97 0 (Int32.toNatClampNeg (nI i + 2))) (e_C_way (gI σ 97 0 (Int32.toNatClampNeg (nI i + 1))) (gI σ 97 0 (Int32.toNatClampNeg (nI i + 2))) σ)) (e_M_way (gI σ 97 0 (Int32.toNatClampNeg (nI i + 1))) (gI σ 97 0 (Int32.toNatClampNeg (nI i + 2))) (e_C_way (gI σ 97 0 (Int32.toNatClampNeg (nI i + 1))) (gI σ 97 0 (Int32.toNatClampNeg (nI i + 2))) σ))
  rw [mIf_t hv] at runD
  have hend := hk _ 0 0 ⟨Cpl.lt hC2 wM rfl, (wM.n (k := 104) rfl).trans n1, ((wM.i (k := 97) rfl).trans f2).trans hLn⟩ (by decide) (by decide)
  have hRm : mRoomOK R (P3_L 549 565) (c0 + 0) (s0 + 0) := hRm_3 hR1 hR2 (by omega) (by omega)
  have hRm0 : mRoomOK R (P3_L 549 565) c0 s0 := hRm_3 hR1 hR2 (by omega) (by omega)
  have h1 := s_run3 X hRm hend runD
  have h2 := s_run3 X hRm h1 runB
  have h2a : mWP p l e R s m args below meth c Q 8 D A eb tL tB ad0 σ0 c0 s0 (549, LH i, [mI (v_C_way (gI σ 97 0 (Int32.toNatClampNeg (nI i + 1))) (gI σ 97 0 (Int32.toNatClampNeg (nI i + 2))) σ)], (e_C_way (gI σ 97 0 (Int32.toNatClampNeg (nI i + 1))) (gI σ 97 0 (Int32.toNatClampNeg (nI i + 2))) σ), 0, 0) := h2
  have h3 := s_run3 X hRm0 h2a runA
  exact h3

set_option maxRecDepth 100000 in
set_option maxHeartbeats 4000000 in
theorem q3_570a (x4 : Int32) (σ : MSto) : mrun KT (P3_L 592 614) (fun st => some st) 600 (570, [some (mR 97 0), some (mR 12 0), some (mR 13 0), some (mR 98 0), some (mI x4), none, none, none], [], σ, 0, 0) = mG (vp_in (x4 + 1) (gI σ 97 1 0).toNatClampNeg) (mG (vp_in (x4 + 2) (gI σ 97 1 0).toNatClampNeg) (mG (vp_in (x4 + 3) (gI σ 97 1 0).toNatClampNeg) (mG (p_C_house (gI σ 97 0 (Int32.toNatClampNeg (x4 + 1))) (gI σ 97 0 (Int32.toNatClampNeg (x4 + 2))) (gI σ 97 0 (Int32.toNatClampNeg (x4 + 3))) σ) (some (592, [some (mR 97 0), some (mR 12 0), some (mR 13 0), some (mR 98 0), some (mI x4), none, none, none], [(mI (v_C_house (gI σ 97 0 (Int32.toNatClampNeg (x4 + 1))) (gI σ 97 0 (Int32.toNatClampNeg (x4 + 2))) (gI σ 97 0 (Int32.toNatClampNeg (x4 + 3))) σ))], (e_C_house (gI σ 97 0 (Int32.toNatClampNeg (x4 + 1))) (gI σ 97 0 (Int32.toNatClampNeg (x4 + 2))) (gI σ 97 0 (Int32.toNatClampNeg (x4 + 3))) σ), 0, 0))))) := rfl
set_option maxRecDepth 100000 in
set_option maxHeartbeats 4000000 in
theorem q3_570b (x4 y0 : Int32) (σ : MSto) : mrun KT (P3_L 592 614) (fun st => some st) 600 (592, [some (mR 97 0), some (mR 12 0), some (mR 13 0), some (mR 98 0), some (mI x4), none, none, none], [(mI y0)], σ, 0, 0) = mG (vp_in (x4 + 1) (gI σ 97 1 0).toNatClampNeg) (mG (vp_in (x4 + 2) (gI σ 97 1 0).toNatClampNeg) (mG (vp_in (x4 + 3) (gI σ 97 1 0).toNatClampNeg) (mG (p_M_house (gI σ 97 0 (Int32.toNatClampNeg (x4 + 1))) (gI σ 97 0 (Int32.toNatClampNeg (x4 + 2))) (gI σ 97 0 (Int32.toNatClampNeg (x4 + 3))) σ) (some (614, [some (mR 97 0), some (mR 12 0), some (mR 13 0), some (mR 98 0), some (mI x4), none, none, none], [(mI (v_M_house (gI σ 97 0 (Int32.toNatClampNeg (x4 + 1))) (gI σ 97 0 (Int32.toNatClampNeg (x4 + 2))) (gI σ 97 0 (Int32.toNatClampNeg (x4 + 3))) σ)), (mI y0)], (e_M_house (gI σ 97 0 (Int32.toNatClampNeg (x4 + 1))) (gI σ 97 0 (Int32.toNatClampNeg (x4 + 2))) (gI σ 97 0 (Int32.toNatClampNeg (x4 + 3))) σ), 0, 0))))) := rfl
set_option maxRecDepth 100000 in
set_option maxHeartbeats 4000000 in
theorem q3_570c (x4 y0 y1 : Int32) (σ : MSto) : mrun KT (P3_L 592 614) (fun st => some st) 600 (614, [some (mR 97 0), some (mR 12 0), some (mR 13 0), some (mR 98 0), some (mI x4), none, none, none], [(mI y1), (mI y0)], σ, 0, 0) = mIf (y0 = y1) (some (2235, [some (mR 97 0), some (mR 12 0), some (mR 13 0), some (mR 98 0), some (mI x4), none, none, none], [], σ, 0, 0)) (none) := rfl
theorem Ly_570 {l : Launch} {L i : Nat} (hL : L ≤ 3584) (hi : i + 7 ≤ L) : LTurn l L 570 i := by
  intro p e R s m args below meth c Q D A eb tL tB c0 s0 ad0 σ0 σ X hR1 hR2 hc hs hI hk
  obtain ⟨hC, h104, hLn⟩ := hI
  have w1 := lvp (c := 1) hLn hL hi (by omega)
  have w2 := lvp (c := 2) hLn hL hi (by omega)
  have w3 := lvp (c := 3) hLn hL hi (by omega)
  have wC := w_C_house (gI σ 97 0 (Int32.toNatClampNeg (nI i + 1))) (gI σ 97 0 (Int32.toNatClampNeg (nI i + 2))) (gI σ 97 0 (Int32.toNatClampNeg (nI i + 3))) σ
  have n1 : gN (e_C_house (gI σ 97 0 (Int32.toNatClampNeg (nI i + 1))) (gI σ 97 0 (Int32.toNatClampNeg (nI i + 2))) (gI σ 97 0 (Int32.toNatClampNeg (nI i + 3))) σ) 104 = 0 := (wC.n (k := 104) rfl).trans h104
  have hC1 := Cpl.rt hC wC rfl
  have f1 : ∀ j, gI (e_C_house (gI σ 97 0 (Int32.toNatClampNeg (nI i + 1))) (gI σ 97 0 (Int32.toNatClampNeg (nI i + 2))) (gI σ 97 0 (Int32.toNatClampNeg (nI i + 3))) σ) 97 0 j = gI σ 97 0 j := fun j => wC.i rfl
  have f2 : gI (e_C_house (gI σ 97 0 (Int32.toNatClampNeg (nI i + 1))) (gI σ 97 0 (Int32.toNatClampNeg (nI i + 2))) (gI σ 97 0 (Int32.toNatClampNeg (nI i + 3))) σ) 97 1 0 = gI σ 97 1 0 := wC.i rfl
  obtain ⟨pC, pM, hv, hC2⟩ := T_house hC1 (gI σ 97 0 (Int32.toNatClampNeg (nI i + 1))) (gI σ 97 0 (Int32.toNatClampNeg (nI i + 2))) (gI σ 97 0 (Int32.toNatClampNeg (nI i + 3)))
  have wM := w_M_house (gI σ 97 0 (Int32.toNatClampNeg (nI i + 1))) (gI σ 97 0 (Int32.toNatClampNeg (nI i + 2))) (gI σ 97 0 (Int32.toNatClampNeg (nI i + 3))) (e_C_house (gI σ 97 0 (Int32.toNatClampNeg (nI i + 1))) (gI σ 97 0 (Int32.toNatClampNeg (nI i + 2))) (gI σ 97 0 (Int32.toNatClampNeg (nI i + 3))) σ)
  have runA := q3_570a (nI i) σ
  simp only [mG_t w1, mG_t w2, mG_t w3, mG_t pC] at runA
  have runB := q3_570b (nI i) (v_C_house (gI σ 97 0 (Int32.toNatClampNeg (nI i + 1))) (gI σ 97 0 (Int32.toNatClampNeg (nI i + 2))) (gI σ 97 0 (Int32.toNatClampNeg (nI i + 3))) σ) (e_C_house (gI σ 97 0 (Int32.toNatClampNeg (nI i + 1))) (gI σ 97 0 (Int32.toNatClampNeg (nI i + 2))) (gI σ 97 0 (Int32.toNatClampNeg (nI i + 3))) σ)
  simp only [f1, f2, mG_t w1, mG_t w2, mG_t w3, mG_t pM] at runB
  have runD := q3_570c (nI i) (v_C_house (gI σ 97 0 (Int32.toNatClampNeg (nI i + 1))) (gI σ 97 0 (Int32.toNatClampNeg (nI i + 2))) (gI σ 97 0 (Int32.toNatClampNeg (nI i + 3))) σ) (v_M_house (gI σ 97 0 (Int32.toNatClampNeg (nI i + 1))) (gI σ 97 0 (Int32.toNatClampNeg (nI i + 2))) (gI σ 97 0 (Int32.toNatClampNeg (nI i + 3))) (e_C_house (gI σ 97 0 (Int32.toNatClampNeg (nI i + 1))) (gI σ 97 0 (Int32.toNatClampNeg (nI i + 2))) (gI σ 97 0 (Int32.toNatClampNeg (nI i + 3))) σ)) (e_M_house (gI σ 97 0 (Int32.toNatClampNeg (nI i + 1))) (gI σ 97 0 (Int32.toNatClampNeg (nI i + 2))) (gI σ 97 0 (Int32.toNatClampNeg (nI i + 3))) (e_C_house (gI σ 97 0 (Int32.toNatClampNeg (nI i + 1))) (gI σ 97 0 (Int32.toNatClampNeg (nI i + 2))) (gI σ 97 0 (Int32.toNatClampNeg (nI i + 3))) σ))
  rw [mIf_t hv] at runD
  have hend := hk _ 0 0 ⟨Cpl.lt hC2 wM rfl, (wM.n (k := 104) rfl).trans n1, ((wM.i (k := 97) rfl).trans f2).trans hLn⟩ (by decide) (by decide)
  have hRm : mRoomOK R (P3_L 592 614) (c0 + 0) (s0 + 0) := hRm_3 hR1 hR2 (by omega) (by omega)
  have hRm0 : mRoomOK R (P3_L 592 614) c0 s0 := hRm_3 hR1 hR2 (by omega) (by omega)
  have h1 := s_run3 X hRm hend runD
  have h2 := s_run3 X hRm h1 runB
  have h2a : mWP p l e R s m args below meth c Q 8 D A eb tL tB ad0 σ0 c0 s0 (592, LH i, [mI (v_C_house (gI σ 97 0 (Int32.toNatClampNeg (nI i + 1))) (gI σ 97 0 (Int32.toNatClampNeg (nI i + 2))) (gI σ 97 0 (Int32.toNatClampNeg (nI i + 3))) σ)], (e_C_house (gI σ 97 0 (Int32.toNatClampNeg (nI i + 1))) (gI σ 97 0 (Int32.toNatClampNeg (nI i + 2))) (gI σ 97 0 (Int32.toNatClampNeg (nI i + 3))) σ), 0, 0) := h2
  have h3 := s_run3 X hRm0 h2a runA
  exact h3

set_option maxRecDepth 100000 in
set_option maxHeartbeats 4000000 in
theorem q3_619a (x4 : Int32) (σ : MSto) : mrun KT (P3_L 647 675) (fun st => some st) 600 (619, [some (mR 97 0), some (mR 12 0), some (mR 13 0), some (mR 98 0), some (mI x4), none, none, none], [], σ, 0, 0) = mG (vp_in (x4 + 1) (gI σ 97 1 0).toNatClampNeg) (mG (vp_in (x4 + 2) (gI σ 97 1 0).toNatClampNeg) (mG (vp_in (x4 + 3) (gI σ 97 1 0).toNatClampNeg) (mG (vp_in (x4 + 4) (gI σ 97 1 0).toNatClampNeg) (mG (p_C_sheet (gI σ 97 0 (Int32.toNatClampNeg (x4 + 1))) (gI σ 97 0 (Int32.toNatClampNeg (x4 + 2))) (gI σ 97 0 (Int32.toNatClampNeg (x4 + 3))) (gI σ 97 0 (Int32.toNatClampNeg (x4 + 4))) σ) (some (647, [some (mR 97 0), some (mR 12 0), some (mR 13 0), some (mR 98 0), some (mI x4), none, none, none], [(mI (v_C_sheet (gI σ 97 0 (Int32.toNatClampNeg (x4 + 1))) (gI σ 97 0 (Int32.toNatClampNeg (x4 + 2))) (gI σ 97 0 (Int32.toNatClampNeg (x4 + 3))) (gI σ 97 0 (Int32.toNatClampNeg (x4 + 4))) σ))], (e_C_sheet (gI σ 97 0 (Int32.toNatClampNeg (x4 + 1))) (gI σ 97 0 (Int32.toNatClampNeg (x4 + 2))) (gI σ 97 0 (Int32.toNatClampNeg (x4 + 3))) (gI σ 97 0 (Int32.toNatClampNeg (x4 + 4))) σ), 0, 0)))))) := rfl
set_option maxRecDepth 100000 in
set_option maxHeartbeats 4000000 in
theorem q3_619b (x4 y0 : Int32) (σ : MSto) : mrun KT (P3_L 647 675) (fun st => some st) 600 (647, [some (mR 97 0), some (mR 12 0), some (mR 13 0), some (mR 98 0), some (mI x4), none, none, none], [(mI y0)], σ, 0, 0) = mG (vp_in (x4 + 1) (gI σ 97 1 0).toNatClampNeg) (mG (vp_in (x4 + 2) (gI σ 97 1 0).toNatClampNeg) (mG (vp_in (x4 + 3) (gI σ 97 1 0).toNatClampNeg) (mG (vp_in (x4 + 4) (gI σ 97 1 0).toNatClampNeg) (mG (p_M_sheet (gI σ 97 0 (Int32.toNatClampNeg (x4 + 1))) (gI σ 97 0 (Int32.toNatClampNeg (x4 + 2))) (gI σ 97 0 (Int32.toNatClampNeg (x4 + 3))) (gI σ 97 0 (Int32.toNatClampNeg (x4 + 4))) σ) (some (675, [some (mR 97 0), some (mR 12 0), some (mR 13 0), some (mR 98 0), some (mI x4), none, none, none], [(mI (v_M_sheet (gI σ 97 0 (Int32.toNatClampNeg (x4 + 1))) (gI σ 97 0 (Int32.toNatClampNeg (x4 + 2))) (gI σ 97 0 (Int32.toNatClampNeg (x4 + 3))) (gI σ 97 0 (Int32.toNatClampNeg (x4 + 4))) σ)), (mI y0)], (e_M_sheet (gI σ 97 0 (Int32.toNatClampNeg (x4 + 1))) (gI σ 97 0 (Int32.toNatClampNeg (x4 + 2))) (gI σ 97 0 (Int32.toNatClampNeg (x4 + 3))) (gI σ 97 0 (Int32.toNatClampNeg (x4 + 4))) σ), 0, 0)))))) := rfl
set_option maxRecDepth 100000 in
set_option maxHeartbeats 4000000 in
theorem q3_619c (x4 y0 y1 : Int32) (σ : MSto) : mrun KT (P3_L 647 675) (fun st => some st) 600 (675, [some (mR 97 0), some (mR 12 0), some (mR 13 0), some (mR 98 0), some (mI x4), none, none, none], [(mI y1), (mI y0)], σ, 0, 0) = mIf (y0 = y1) (some (2235, [some (mR 97 0), some (mR 12 0), some (mR 13 0), some (mR 98 0), some (mI x4), none, none, none], [], σ, 0, 0)) (none) := rfl
theorem Ly_619 {l : Launch} {L i : Nat} (hL : L ≤ 3584) (hi : i + 7 ≤ L) : LTurn l L 619 i := by
  intro p e R s m args below meth c Q D A eb tL tB c0 s0 ad0 σ0 σ X hR1 hR2 hc hs hI hk
  obtain ⟨hC, h104, hLn⟩ := hI
  have w1 := lvp (c := 1) hLn hL hi (by omega)
  have w2 := lvp (c := 2) hLn hL hi (by omega)
  have w3 := lvp (c := 3) hLn hL hi (by omega)
  have w4 := lvp (c := 4) hLn hL hi (by omega)
  have wC := w_C_sheet (gI σ 97 0 (Int32.toNatClampNeg (nI i + 1))) (gI σ 97 0 (Int32.toNatClampNeg (nI i + 2))) (gI σ 97 0 (Int32.toNatClampNeg (nI i + 3))) (gI σ 97 0 (Int32.toNatClampNeg (nI i + 4))) σ
  have n1 : gN (e_C_sheet (gI σ 97 0 (Int32.toNatClampNeg (nI i + 1))) (gI σ 97 0 (Int32.toNatClampNeg (nI i + 2))) (gI σ 97 0 (Int32.toNatClampNeg (nI i + 3))) (gI σ 97 0 (Int32.toNatClampNeg (nI i + 4))) σ) 104 = 0 := (wC.n (k := 104) rfl).trans h104
  have hC1 := Cpl.rt hC wC rfl
  have f1 : ∀ j, gI (e_C_sheet (gI σ 97 0 (Int32.toNatClampNeg (nI i + 1))) (gI σ 97 0 (Int32.toNatClampNeg (nI i + 2))) (gI σ 97 0 (Int32.toNatClampNeg (nI i + 3))) (gI σ 97 0 (Int32.toNatClampNeg (nI i + 4))) σ) 97 0 j = gI σ 97 0 j := fun j => wC.i rfl
  have f2 : gI (e_C_sheet (gI σ 97 0 (Int32.toNatClampNeg (nI i + 1))) (gI σ 97 0 (Int32.toNatClampNeg (nI i + 2))) (gI σ 97 0 (Int32.toNatClampNeg (nI i + 3))) (gI σ 97 0 (Int32.toNatClampNeg (nI i + 4))) σ) 97 1 0 = gI σ 97 1 0 := wC.i rfl
  obtain ⟨pC, pM, hv, hC2⟩ := T_sheet hC1 (gI σ 97 0 (Int32.toNatClampNeg (nI i + 1))) (gI σ 97 0 (Int32.toNatClampNeg (nI i + 2))) (gI σ 97 0 (Int32.toNatClampNeg (nI i + 3))) (gI σ 97 0 (Int32.toNatClampNeg (nI i + 4)))
  have wM := w_M_sheet (gI σ 97 0 (Int32.toNatClampNeg (nI i + 1))) (gI σ 97 0 (Int32.toNatClampNeg (nI i + 2))) (gI σ 97 0 (Int32.toNatClampNeg (nI i + 3))) (gI σ 97 0 (Int32.toNatClampNeg (nI i + 4))) (e_C_sheet (gI σ 97 0 (Int32.toNatClampNeg (nI i + 1))) (gI σ 97 0 (Int32.toNatClampNeg (nI i + 2))) (gI σ 97 0 (Int32.toNatClampNeg (nI i + 3))) (gI σ 97 0 (Int32.toNatClampNeg (nI i + 4))) σ)
  have runA := q3_619a (nI i) σ
  simp only [mG_t w1, mG_t w2, mG_t w3, mG_t w4, mG_t pC] at runA
  have runB := q3_619b (nI i) (v_C_sheet (gI σ 97 0 (Int32.toNatClampNeg (nI i + 1))) (gI σ 97 0 (Int32.toNatClampNeg (nI i + 2))) (gI σ 97 0 (Int32.toNatClampNeg (nI i + 3))) (gI σ 97 0 (Int32.toNatClampNeg (nI i + 4))) σ) (e_C_sheet (gI σ 97 0 (Int32.toNatClampNeg (nI i + 1))) (gI σ 97 0 (Int32.toNatClampNeg (nI i + 2))) (gI σ 97 0 (Int32.toNatClampNeg (nI i + 3))) (gI σ 97 0 (Int32.toNatClampNeg (nI i + 4))) σ)
  simp only [f1, f2, mG_t w1, mG_t w2, mG_t w3, mG_t w4, mG_t pM] at runB
  have runD := q3_619c (nI i) (v_C_sheet (gI σ 97 0 (Int32.toNatClampNeg (nI i + 1))) (gI σ 97 0 (Int32.toNatClampNeg (nI i + 2))) (gI σ 97 0 (Int32.toNatClampNeg (nI i + 3))) (gI σ 97 0 (Int32.toNatClampNeg (nI i + 4))) σ) (v_M_sheet (gI σ 97 0 (Int32.toNatClampNeg (nI i + 1))) (gI σ 97 0 (Int32.toNatClampNeg (nI i + 2))) (gI σ 97 0 (Int32.toNatClampNeg (nI i + 3))) (gI σ 97 0 (Int32.toNatClampNeg (nI i + 4))) (e_C_sheet (gI σ 97 0 (Int32.toNatClampNeg (nI i + 1))) (gI σ 97 0 (Int32.toNatClampNeg (nI i + 2))) (gI σ 97 0 (Int32.toNatClampNeg (nI i + 3))) (gI σ 97 0 (Int32.toNatClampNeg (nI i + 4))) σ)) (e_M_sheet (gI σ 97 0 (Int32.toNatClampNeg (nI i + 1))) (gI σ 97 0 (Int32.toNatClampNeg (nI i + 2))) (gI σ 97 0 (Int32.toNatClampNeg (nI i + 3))) (gI σ 97 0 (Int32.toNatClampNeg (nI i + 4))) (e_C_sheet (gI σ 97 0 (Int32.toNatClampNeg (nI i + 1))) (gI σ 97 0 (Int32.toNatClampNeg (nI i + 2))) (gI σ 97 0 (Int32.toNatClampNeg (nI i + 3))) (gI σ 97 0 (Int32.toNatClampNeg (nI i + 4))) σ))
  rw [mIf_t hv] at runD
  have hend := hk _ 0 0 ⟨Cpl.lt hC2 wM rfl, (wM.n (k := 104) rfl).trans n1, ((wM.i (k := 97) rfl).trans f2).trans hLn⟩ (by decide) (by decide)
  have hRm : mRoomOK R (P3_L 647 675) (c0 + 0) (s0 + 0) := hRm_3 hR1 hR2 (by omega) (by omega)
  have hRm0 : mRoomOK R (P3_L 647 675) c0 s0 := hRm_3 hR1 hR2 (by omega) (by omega)
  have h1 := s_run3 X hRm hend runD
  have h2 := s_run3 X hRm h1 runB
  have h2a : mWP p l e R s m args below meth c Q 8 D A eb tL tB ad0 σ0 c0 s0 (647, LH i, [mI (v_C_sheet (gI σ 97 0 (Int32.toNatClampNeg (nI i + 1))) (gI σ 97 0 (Int32.toNatClampNeg (nI i + 2))) (gI σ 97 0 (Int32.toNatClampNeg (nI i + 3))) (gI σ 97 0 (Int32.toNatClampNeg (nI i + 4))) σ)], (e_C_sheet (gI σ 97 0 (Int32.toNatClampNeg (nI i + 1))) (gI σ 97 0 (Int32.toNatClampNeg (nI i + 2))) (gI σ 97 0 (Int32.toNatClampNeg (nI i + 3))) (gI σ 97 0 (Int32.toNatClampNeg (nI i + 4))) σ), 0, 0) := h2
  have h3 := s_run3 X hRm0 h2a runA
  exact h3

set_option maxRecDepth 100000 in
set_option maxHeartbeats 4000000 in
theorem q3_680a (x4 : Int32) (σ : MSto) : mrun KT (P3_L 702 724) (fun st => some st) 600 (680, [some (mR 97 0), some (mR 12 0), some (mR 13 0), some (mR 98 0), some (mI x4), none, none, none], [], σ, 0, 0) = mG (vp_in (x4 + 1) (gI σ 97 1 0).toNatClampNeg) (mG (vp_in (x4 + 2) (gI σ 97 1 0).toNatClampNeg) (mG (vp_in (x4 + 3) (gI σ 97 1 0).toNatClampNeg) (mG (p_C_thread (gI σ 97 0 (Int32.toNatClampNeg (x4 + 1))) (gI σ 97 0 (Int32.toNatClampNeg (x4 + 2))) (gI σ 97 0 (Int32.toNatClampNeg (x4 + 3))) σ) (some (702, [some (mR 97 0), some (mR 12 0), some (mR 13 0), some (mR 98 0), some (mI x4), none, none, none], [(mI (v_C_thread (gI σ 97 0 (Int32.toNatClampNeg (x4 + 1))) (gI σ 97 0 (Int32.toNatClampNeg (x4 + 2))) (gI σ 97 0 (Int32.toNatClampNeg (x4 + 3))) σ))], σ, 0, 0))))) := rfl
set_option maxRecDepth 100000 in
set_option maxHeartbeats 4000000 in
theorem q3_680b (x4 y0 : Int32) (σ : MSto) : mrun KT (P3_L 702 724) (fun st => some st) 600 (702, [some (mR 97 0), some (mR 12 0), some (mR 13 0), some (mR 98 0), some (mI x4), none, none, none], [(mI y0)], σ, 0, 0) = mG (vp_in (x4 + 1) (gI σ 97 1 0).toNatClampNeg) (mG (vp_in (x4 + 2) (gI σ 97 1 0).toNatClampNeg) (mG (vp_in (x4 + 3) (gI σ 97 1 0).toNatClampNeg) (mG (p_M_thread (gI σ 97 0 (Int32.toNatClampNeg (x4 + 1))) (gI σ 97 0 (Int32.toNatClampNeg (x4 + 2))) (gI σ 97 0 (Int32.toNatClampNeg (x4 + 3))) σ) (some (724, [some (mR 97 0), some (mR 12 0), some (mR 13 0), some (mR 98 0), some (mI x4), none, none, none], [(mI (v_M_thread (gI σ 97 0 (Int32.toNatClampNeg (x4 + 1))) (gI σ 97 0 (Int32.toNatClampNeg (x4 + 2))) (gI σ 97 0 (Int32.toNatClampNeg (x4 + 3))) σ)), (mI y0)], (e_M_thread (gI σ 97 0 (Int32.toNatClampNeg (x4 + 1))) (gI σ 97 0 (Int32.toNatClampNeg (x4 + 2))) (gI σ 97 0 (Int32.toNatClampNeg (x4 + 3))) σ), 0, 0))))) := rfl
set_option maxRecDepth 100000 in
set_option maxHeartbeats 4000000 in
theorem q3_680c (x4 y0 y1 : Int32) (σ : MSto) : mrun KT (P3_L 702 724) (fun st => some st) 600 (724, [some (mR 97 0), some (mR 12 0), some (mR 13 0), some (mR 98 0), some (mI x4), none, none, none], [(mI y1), (mI y0)], σ, 0, 0) = mIf (y0 = y1) (some (2235, [some (mR 97 0), some (mR 12 0), some (mR 13 0), some (mR 98 0), some (mI x4), none, none, none], [], σ, 0, 0)) (none) := rfl
theorem Ly_680 {l : Launch} {L i : Nat} (hL : L ≤ 3584) (hi : i + 7 ≤ L) : LTurn l L 680 i := by
  intro p e R s m args below meth c Q D A eb tL tB c0 s0 ad0 σ0 σ X hR1 hR2 hc hs hI hk
  obtain ⟨hC, h104, hLn⟩ := hI
  have w1 := lvp (c := 1) hLn hL hi (by omega)
  have w2 := lvp (c := 2) hLn hL hi (by omega)
  have w3 := lvp (c := 3) hLn hL hi (by omega)
  have hC1 := hC
  have f2 : gI σ 97 1 0 = gI σ 97 1 0 := rfl
  have n1 := h104
  obtain ⟨pC, pM, hv, hC2⟩ := T_thread hC1 (gI σ 97 0 (Int32.toNatClampNeg (nI i + 1))) (gI σ 97 0 (Int32.toNatClampNeg (nI i + 2))) (gI σ 97 0 (Int32.toNatClampNeg (nI i + 3)))
  have wM := w_M_thread (gI σ 97 0 (Int32.toNatClampNeg (nI i + 1))) (gI σ 97 0 (Int32.toNatClampNeg (nI i + 2))) (gI σ 97 0 (Int32.toNatClampNeg (nI i + 3))) σ
  have runA := q3_680a (nI i) σ
  simp only [mG_t w1, mG_t w2, mG_t w3, mG_t pC] at runA
  have runB := q3_680b (nI i) (v_C_thread (gI σ 97 0 (Int32.toNatClampNeg (nI i + 1))) (gI σ 97 0 (Int32.toNatClampNeg (nI i + 2))) (gI σ 97 0 (Int32.toNatClampNeg (nI i + 3))) σ) σ
  simp only [mG_t w1, mG_t w2, mG_t w3, mG_t pM] at runB
  have runD := q3_680c (nI i) (v_C_thread (gI σ 97 0 (Int32.toNatClampNeg (nI i + 1))) (gI σ 97 0 (Int32.toNatClampNeg (nI i + 2))) (gI σ 97 0 (Int32.toNatClampNeg (nI i + 3))) σ) (v_M_thread (gI σ 97 0 (Int32.toNatClampNeg (nI i + 1))) (gI σ 97 0 (Int32.toNatClampNeg (nI i + 2))) (gI σ 97 0 (Int32.toNatClampNeg (nI i + 3))) σ) (e_M_thread (gI σ 97 0 (Int32.toNatClampNeg (nI i + 1))) (gI σ 97 0 (Int32.toNatClampNeg (nI i + 2))) (gI σ 97 0 (Int32.toNatClampNeg (nI i + 3))) σ)
  rw [mIf_t hv] at runD
  have hend := hk _ 0 0 ⟨Cpl.lt hC2 wM rfl, (wM.n (k := 104) rfl).trans n1, ((wM.i (k := 97) rfl).trans f2).trans hLn⟩ (by decide) (by decide)
  have hRm : mRoomOK R (P3_L 702 724) (c0 + 0) (s0 + 0) := hRm_3 hR1 hR2 (by omega) (by omega)
  have hRm0 : mRoomOK R (P3_L 702 724) c0 s0 := hRm_3 hR1 hR2 (by omega) (by omega)
  have h1 := s_run3 X hRm hend runD
  have h2 := s_run3 X hRm h1 runB
  have h2a : mWP p l e R s m args below meth c Q 8 D A eb tL tB ad0 σ0 c0 s0 (702, LH i, [mI (v_C_thread (gI σ 97 0 (Int32.toNatClampNeg (nI i + 1))) (gI σ 97 0 (Int32.toNatClampNeg (nI i + 2))) (gI σ 97 0 (Int32.toNatClampNeg (nI i + 3))) σ)], σ, 0, 0) := h2
  have h3 := s_run3 X hRm0 h2a runA
  exact h3

set_option maxRecDepth 100000 in
set_option maxHeartbeats 4000000 in
theorem q3_729a (x4 : Int32) (σ : MSto) : mrun KT (P3_L 757 785) (fun st => some st) 600 (729, [some (mR 97 0), some (mR 12 0), some (mR 13 0), some (mR 98 0), some (mI x4), none, none, none], [], σ, 0, 0) = mG (vp_in (x4 + 1) (gI σ 97 1 0).toNatClampNeg) (mG (vp_in (x4 + 2) (gI σ 97 1 0).toNatClampNeg) (mG (vp_in (x4 + 3) (gI σ 97 1 0).toNatClampNeg) (mG (vp_in (x4 + 4) (gI σ 97 1 0).toNatClampNeg) (mG (p_C_piece (gI σ 97 0 (Int32.toNatClampNeg (x4 + 1))) (gI σ 97 0 (Int32.toNatClampNeg (x4 + 2))) (gI σ 97 0 (Int32.toNatClampNeg (x4 + 3))) (gI σ 97 0 (Int32.toNatClampNeg (x4 + 4))) σ) (some (757, [some (mR 97 0), some (mR 12 0), some (mR 13 0), some (mR 98 0), some (mI x4), none, none, none], [(mI (v_C_piece (gI σ 97 0 (Int32.toNatClampNeg (x4 + 1))) (gI σ 97 0 (Int32.toNatClampNeg (x4 + 2))) (gI σ 97 0 (Int32.toNatClampNeg (x4 + 3))) (gI σ 97 0 (Int32.toNatClampNeg (x4 + 4))) σ))], (e_C_piece (gI σ 97 0 (Int32.toNatClampNeg (x4 + 1))) (gI σ 97 0 (Int32.toNatClampNeg (x4 + 2))) (gI σ 97 0 (Int32.toNatClampNeg (x4 + 3))) (gI σ 97 0 (Int32.toNatClampNeg (x4 + 4))) σ), 2, 24)))))) := rfl
set_option maxRecDepth 100000 in
set_option maxHeartbeats 4000000 in
theorem q3_729b (x4 y0 : Int32) (σ : MSto) : mrun KT (P3_L 757 785) (fun st => some st) 600 (757, [some (mR 97 0), some (mR 12 0), some (mR 13 0), some (mR 98 0), some (mI x4), none, none, none], [(mI y0)], σ, 0, 0) = mG (vp_in (x4 + 1) (gI σ 97 1 0).toNatClampNeg) (mG (vp_in (x4 + 2) (gI σ 97 1 0).toNatClampNeg) (mG (vp_in (x4 + 3) (gI σ 97 1 0).toNatClampNeg) (mG (vp_in (x4 + 4) (gI σ 97 1 0).toNatClampNeg) (mG (p_M_piece (gI σ 97 0 (Int32.toNatClampNeg (x4 + 1))) (gI σ 97 0 (Int32.toNatClampNeg (x4 + 2))) (gI σ 97 0 (Int32.toNatClampNeg (x4 + 3))) (gI σ 97 0 (Int32.toNatClampNeg (x4 + 4))) σ) (some (785, [some (mR 97 0), some (mR 12 0), some (mR 13 0), some (mR 98 0), some (mI x4), none, none, none], [(mI (v_M_piece (gI σ 97 0 (Int32.toNatClampNeg (x4 + 1))) (gI σ 97 0 (Int32.toNatClampNeg (x4 + 2))) (gI σ 97 0 (Int32.toNatClampNeg (x4 + 3))) (gI σ 97 0 (Int32.toNatClampNeg (x4 + 4))) σ)), (mI y0)], (e_M_piece (gI σ 97 0 (Int32.toNatClampNeg (x4 + 1))) (gI σ 97 0 (Int32.toNatClampNeg (x4 + 2))) (gI σ 97 0 (Int32.toNatClampNeg (x4 + 3))) (gI σ 97 0 (Int32.toNatClampNeg (x4 + 4))) σ), 0, 0)))))) := rfl
set_option maxRecDepth 100000 in
set_option maxHeartbeats 4000000 in
theorem q3_729c (x4 y0 y1 : Int32) (σ : MSto) : mrun KT (P3_L 757 785) (fun st => some st) 600 (785, [some (mR 97 0), some (mR 12 0), some (mR 13 0), some (mR 98 0), some (mI x4), none, none, none], [(mI y1), (mI y0)], σ, 0, 0) = mIf (y0 = y1) (some (2235, [some (mR 97 0), some (mR 12 0), some (mR 13 0), some (mR 98 0), some (mI x4), none, none, none], [], σ, 0, 0)) (none) := rfl
theorem Ly_729 {l : Launch} {L i : Nat} (hL : L ≤ 3584) (hi : i + 7 ≤ L) : LTurn l L 729 i := by
  intro p e R s m args below meth c Q D A eb tL tB c0 s0 ad0 σ0 σ X hR1 hR2 hc hs hI hk
  obtain ⟨hC, h104, hLn⟩ := hI
  have w1 := lvp (c := 1) hLn hL hi (by omega)
  have w2 := lvp (c := 2) hLn hL hi (by omega)
  have w3 := lvp (c := 3) hLn hL hi (by omega)
  have w4 := lvp (c := 4) hLn hL hi (by omega)
  have wC := w_C_piece (gI σ 97 0 (Int32.toNatClampNeg (nI i + 1))) (gI σ 97 0 (Int32.toNatClampNeg (nI i + 2))) (gI σ 97 0 (Int32.toNatClampNeg (nI i + 3))) (gI σ 97 0 (Int32.toNatClampNeg (nI i + 4))) σ
  have n1 : gN (e_C_piece (gI σ 97 0 (Int32.toNatClampNeg (nI i + 1))) (gI σ 97 0 (Int32.toNatClampNeg (nI i + 2))) (gI σ 97 0 (Int32.toNatClampNeg (nI i + 3))) (gI σ 97 0 (Int32.toNatClampNeg (nI i + 4))) σ) 104 = 0 := (wC.n (k := 104) rfl).trans h104
  have hC1 := Cpl.rt hC wC rfl
  have f1 : ∀ j, gI (e_C_piece (gI σ 97 0 (Int32.toNatClampNeg (nI i + 1))) (gI σ 97 0 (Int32.toNatClampNeg (nI i + 2))) (gI σ 97 0 (Int32.toNatClampNeg (nI i + 3))) (gI σ 97 0 (Int32.toNatClampNeg (nI i + 4))) σ) 97 0 j = gI σ 97 0 j := fun j => wC.i rfl
  have f2 : gI (e_C_piece (gI σ 97 0 (Int32.toNatClampNeg (nI i + 1))) (gI σ 97 0 (Int32.toNatClampNeg (nI i + 2))) (gI σ 97 0 (Int32.toNatClampNeg (nI i + 3))) (gI σ 97 0 (Int32.toNatClampNeg (nI i + 4))) σ) 97 1 0 = gI σ 97 1 0 := wC.i rfl
  obtain ⟨pC, pM, hv, hC2⟩ := T_piece hC1 (gI σ 97 0 (Int32.toNatClampNeg (nI i + 1))) (gI σ 97 0 (Int32.toNatClampNeg (nI i + 2))) (gI σ 97 0 (Int32.toNatClampNeg (nI i + 3))) (gI σ 97 0 (Int32.toNatClampNeg (nI i + 4)))
  have wM := w_M_piece (gI σ 97 0 (Int32.toNatClampNeg (nI i + 1))) (gI σ 97 0 (Int32.toNatClampNeg (nI i + 2))) (gI σ 97 0 (Int32.toNatClampNeg (nI i + 3))) (gI σ 97 0 (Int32.toNatClampNeg (nI i + 4))) (e_C_piece (gI σ 97 0 (Int32.toNatClampNeg (nI i + 1))) (gI σ 97 0 (Int32.toNatClampNeg (nI i + 2))) (gI σ 97 0 (Int32.toNatClampNeg (nI i + 3))) (gI σ 97 0 (Int32.toNatClampNeg (nI i + 4))) σ)
  have runA := q3_729a (nI i) σ
  simp only [mG_t w1, mG_t w2, mG_t w3, mG_t w4, mG_t pC] at runA
  have runB := q3_729b (nI i) (v_C_piece (gI σ 97 0 (Int32.toNatClampNeg (nI i + 1))) (gI σ 97 0 (Int32.toNatClampNeg (nI i + 2))) (gI σ 97 0 (Int32.toNatClampNeg (nI i + 3))) (gI σ 97 0 (Int32.toNatClampNeg (nI i + 4))) σ) (e_C_piece (gI σ 97 0 (Int32.toNatClampNeg (nI i + 1))) (gI σ 97 0 (Int32.toNatClampNeg (nI i + 2))) (gI σ 97 0 (Int32.toNatClampNeg (nI i + 3))) (gI σ 97 0 (Int32.toNatClampNeg (nI i + 4))) σ)
  simp only [f1, f2, mG_t w1, mG_t w2, mG_t w3, mG_t w4, mG_t pM] at runB
  have runD := q3_729c (nI i) (v_C_piece (gI σ 97 0 (Int32.toNatClampNeg (nI i + 1))) (gI σ 97 0 (Int32.toNatClampNeg (nI i + 2))) (gI σ 97 0 (Int32.toNatClampNeg (nI i + 3))) (gI σ 97 0 (Int32.toNatClampNeg (nI i + 4))) σ) (v_M_piece (gI σ 97 0 (Int32.toNatClampNeg (nI i + 1))) (gI σ 97 0 (Int32.toNatClampNeg (nI i + 2))) (gI σ 97 0 (Int32.toNatClampNeg (nI i + 3))) (gI σ 97 0 (Int32.toNatClampNeg (nI i + 4))) (e_C_piece (gI σ 97 0 (Int32.toNatClampNeg (nI i + 1))) (gI σ 97 0 (Int32.toNatClampNeg (nI i + 2))) (gI σ 97 0 (Int32.toNatClampNeg (nI i + 3))) (gI σ 97 0 (Int32.toNatClampNeg (nI i + 4))) σ)) (e_M_piece (gI σ 97 0 (Int32.toNatClampNeg (nI i + 1))) (gI σ 97 0 (Int32.toNatClampNeg (nI i + 2))) (gI σ 97 0 (Int32.toNatClampNeg (nI i + 3))) (gI σ 97 0 (Int32.toNatClampNeg (nI i + 4))) (e_C_piece (gI σ 97 0 (Int32.toNatClampNeg (nI i + 1))) (gI σ 97 0 (Int32.toNatClampNeg (nI i + 2))) (gI σ 97 0 (Int32.toNatClampNeg (nI i + 3))) (gI σ 97 0 (Int32.toNatClampNeg (nI i + 4))) σ))
  rw [mIf_t hv] at runD
  have hend := hk _ 2 24 ⟨Cpl.lt hC2 wM rfl, (wM.n (k := 104) rfl).trans n1, ((wM.i (k := 97) rfl).trans f2).trans hLn⟩ (by decide) (by decide)
  have hRm : mRoomOK R (P3_L 757 785) (c0 + 2) (s0 + 24) := hRm_3 hR1 hR2 (by omega) (by omega)
  have hRm0 : mRoomOK R (P3_L 757 785) c0 s0 := hRm_3 hR1 hR2 (by omega) (by omega)
  have h1 := s_run3 X hRm hend runD
  have h2 := s_run3 X hRm h1 runB
  have h2a : mWP p l e R s m args below meth c Q 8 D A eb tL tB ad0 σ0 c0 s0 (757, LH i, [mI (v_C_piece (gI σ 97 0 (Int32.toNatClampNeg (nI i + 1))) (gI σ 97 0 (Int32.toNatClampNeg (nI i + 2))) (gI σ 97 0 (Int32.toNatClampNeg (nI i + 3))) (gI σ 97 0 (Int32.toNatClampNeg (nI i + 4))) σ)], (e_C_piece (gI σ 97 0 (Int32.toNatClampNeg (nI i + 1))) (gI σ 97 0 (Int32.toNatClampNeg (nI i + 2))) (gI σ 97 0 (Int32.toNatClampNeg (nI i + 3))) (gI σ 97 0 (Int32.toNatClampNeg (nI i + 4))) σ), 2, 24) := h2
  have h3 := s_run3 X hRm0 h2a runA
  exact h3

set_option maxRecDepth 100000 in
set_option maxHeartbeats 4000000 in
theorem q3_846a (x4 : Int32) (σ : MSto) : mrun KT (P3_L 862 878) (fun st => some st) 600 (846, [some (mR 97 0), some (mR 12 0), some (mR 13 0), some (mR 98 0), some (mI x4), none, none, none], [], σ, 0, 0) = mG (vp_in (x4 + 1) (gI σ 97 1 0).toNatClampNeg) (mG (vp_in (x4 + 2) (gI σ 97 1 0).toNatClampNeg) (mG (p_C_count (gI σ 97 0 (Int32.toNatClampNeg (x4 + 1))) (gI σ 97 0 (Int32.toNatClampNeg (x4 + 2))) σ) (some (862, [some (mR 97 0), some (mR 12 0), some (mR 13 0), some (mR 98 0), some (mI x4), none, none, none], [(mI (v_C_count (gI σ 97 0 (Int32.toNatClampNeg (x4 + 1))) (gI σ 97 0 (Int32.toNatClampNeg (x4 + 2))) σ))], (e_C_count (gI σ 97 0 (Int32.toNatClampNeg (x4 + 1))) (gI σ 97 0 (Int32.toNatClampNeg (x4 + 2))) σ), 0, 0)))) := rfl
set_option maxRecDepth 100000 in
set_option maxHeartbeats 4000000 in
theorem q3_846b (x4 y0 : Int32) (σ : MSto) : mrun KT (P3_L 862 878) (fun st => some st) 600 (862, [some (mR 97 0), some (mR 12 0), some (mR 13 0), some (mR 98 0), some (mI x4), none, none, none], [(mI y0)], σ, 0, 0) = mG (vp_in (x4 + 1) (gI σ 97 1 0).toNatClampNeg) (mG (vp_in (x4 + 2) (gI σ 97 1 0).toNatClampNeg) (mG (p_M_count (gI σ 97 0 (Int32.toNatClampNeg (x4 + 1))) (gI σ 97 0 (Int32.toNatClampNeg (x4 + 2))) σ) (some (878, [some (mR 97 0), some (mR 12 0), some (mR 13 0), some (mR 98 0), some (mI x4), none, none, none], [(mI (v_M_count (gI σ 97 0 (Int32.toNatClampNeg (x4 + 1))) (gI σ 97 0 (Int32.toNatClampNeg (x4 + 2))) σ)), (mI y0)], (e_M_count (gI σ 97 0 (Int32.toNatClampNeg (x4 + 1))) (gI σ 97 0 (Int32.toNatClampNeg (x4 + 2))) σ), 0, 0)))) := rfl
set_option maxRecDepth 100000 in
set_option maxHeartbeats 4000000 in
theorem q3_846c (x4 y0 y1 : Int32) (σ : MSto) : mrun KT (P3_L 862 878) (fun st => some st) 600 (878, [some (mR 97 0), some (mR 12 0), some (mR 13 0), some (mR 98 0), some (mI x4), none, none, none], [(mI y1), (mI y0)], σ, 0, 0) = mIf (y0 = y1) (some (2235, [some (mR 97 0), some (mR 12 0), some (mR 13 0), some (mR 98 0), some (mI x4), none, none, none], [], σ, 0, 0)) (none) := rfl
theorem Ly_846 {l : Launch} {L i : Nat} (hL : L ≤ 3584) (hi : i + 7 ≤ L) : LTurn l L 846 i := by
  intro p e R s m args below meth c Q D A eb tL tB c0 s0 ad0 σ0 σ X hR1 hR2 hc hs hI hk
  obtain ⟨hC, h104, hLn⟩ := hI
  have w1 := lvp (c := 1) hLn hL hi (by omega)
  have w2 := lvp (c := 2) hLn hL hi (by omega)
  have wC := w_C_count (gI σ 97 0 (Int32.toNatClampNeg (nI i + 1))) (gI σ 97 0 (Int32.toNatClampNeg (nI i + 2))) σ
  have n1 : gN (e_C_count (gI σ 97 0 (Int32.toNatClampNeg (nI i + 1))) (gI σ 97 0 (Int32.toNatClampNeg (nI i + 2))) σ) 104 = 0 := (wC.n (k := 104) rfl).trans h104
  have hC1 := Cpl.rt hC wC rfl
  have f1 : ∀ j, gI (e_C_count (gI σ 97 0 (Int32.toNatClampNeg (nI i + 1))) (gI σ 97 0 (Int32.toNatClampNeg (nI i + 2))) σ) 97 0 j = gI σ 97 0 j := fun j => wC.i rfl
  have f2 : gI (e_C_count (gI σ 97 0 (Int32.toNatClampNeg (nI i + 1))) (gI σ 97 0 (Int32.toNatClampNeg (nI i + 2))) σ) 97 1 0 = gI σ 97 1 0 := wC.i rfl
  obtain ⟨pC, pM, hv, hC2⟩ := T_count hC1 (gI σ 97 0 (Int32.toNatClampNeg (nI i + 1))) (gI σ 97 0 (Int32.toNatClampNeg (nI i + 2)))
  have wM := w_M_count (gI σ 97 0 (Int32.toNatClampNeg (nI i + 1))) (gI σ 97 0 (Int32.toNatClampNeg (nI i + 2))) (e_C_count (gI σ 97 0 (Int32.toNatClampNeg (nI i + 1))) (gI σ 97 0 (Int32.toNatClampNeg (nI i + 2))) σ)
  have runA := q3_846a (nI i) σ
  simp only [mG_t w1, mG_t w2, mG_t pC] at runA
  have runB := q3_846b (nI i) (v_C_count (gI σ 97 0 (Int32.toNatClampNeg (nI i + 1))) (gI σ 97 0 (Int32.toNatClampNeg (nI i + 2))) σ) (e_C_count (gI σ 97 0 (Int32.toNatClampNeg (nI i + 1))) (gI σ 97 0 (Int32.toNatClampNeg (nI i + 2))) σ)
  simp only [f1, f2, mG_t w1, mG_t w2, mG_t pM] at runB
  have runD := q3_846c (nI i) (v_C_count (gI σ 97 0 (Int32.toNatClampNeg (nI i + 1))) (gI σ 97 0 (Int32.toNatClampNeg (nI i + 2))) σ) (v_M_count (gI σ 97 0 (Int32.toNatClampNeg (nI i + 1))) (gI σ 97 0 (Int32.toNatClampNeg (nI i + 2))) (e_C_count (gI σ 97 0 (Int32.toNatClampNeg (nI i + 1))) (gI σ 97 0 (Int32.toNatClampNeg (nI i + 2))) σ)) (e_M_count (gI σ 97 0 (Int32.toNatClampNeg (nI i + 1))) (gI σ 97 0 (Int32.toNatClampNeg (nI i + 2))) (e_C_count (gI σ 97 0 (Int32.toNatClampNeg (nI i + 1))) (gI σ 97 0 (Int32.toNatClampNeg (nI i + 2))) σ))
  rw [mIf_t hv] at runD
  have hend := hk _ 0 0 ⟨Cpl.lt hC2 wM rfl, (wM.n (k := 104) rfl).trans n1, ((wM.i (k := 97) rfl).trans f2).trans hLn⟩ (by decide) (by decide)
  have hRm : mRoomOK R (P3_L 862 878) (c0 + 0) (s0 + 0) := hRm_3 hR1 hR2 (by omega) (by omega)
  have hRm0 : mRoomOK R (P3_L 862 878) c0 s0 := hRm_3 hR1 hR2 (by omega) (by omega)
  have h1 := s_run3 X hRm hend runD
  have h2 := s_run3 X hRm h1 runB
  have h2a : mWP p l e R s m args below meth c Q 8 D A eb tL tB ad0 σ0 c0 s0 (862, LH i, [mI (v_C_count (gI σ 97 0 (Int32.toNatClampNeg (nI i + 1))) (gI σ 97 0 (Int32.toNatClampNeg (nI i + 2))) σ)], (e_C_count (gI σ 97 0 (Int32.toNatClampNeg (nI i + 1))) (gI σ 97 0 (Int32.toNatClampNeg (nI i + 2))) σ), 0, 0) := h2
  have h3 := s_run3 X hRm0 h2a runA
  exact h3

set_option maxRecDepth 100000 in
set_option maxHeartbeats 4000000 in
theorem q3_995a (x4 : Int32) (σ : MSto) : mrun KT (P3_L 1017 1039) (fun st => some st) 600 (995, [some (mR 97 0), some (mR 12 0), some (mR 13 0), some (mR 98 0), some (mI x4), none, none, none], [], σ, 0, 0) = mG (vp_in (x4 + 1) (gI σ 97 1 0).toNatClampNeg) (mG (vp_in (x4 + 2) (gI σ 97 1 0).toNatClampNeg) (mG (vp_in (x4 + 3) (gI σ 97 1 0).toNatClampNeg) (mG (p_C_likeness (gI σ 97 0 (Int32.toNatClampNeg (x4 + 1))) (gI σ 97 0 (Int32.toNatClampNeg (x4 + 2))) (gI σ 97 0 (Int32.toNatClampNeg (x4 + 3))) σ) (some (1017, [some (mR 97 0), some (mR 12 0), some (mR 13 0), some (mR 98 0), some (mI x4), none, none, none], [(mI (v_C_likeness (gI σ 97 0 (Int32.toNatClampNeg (x4 + 1))) (gI σ 97 0 (Int32.toNatClampNeg (x4 + 2))) (gI σ 97 0 (Int32.toNatClampNeg (x4 + 3))) σ))], σ, 0, 0))))) := rfl
set_option maxRecDepth 100000 in
set_option maxHeartbeats 4000000 in
theorem q3_995b (x4 y0 : Int32) (σ : MSto) : mrun KT (P3_L 1017 1039) (fun st => some st) 600 (1017, [some (mR 97 0), some (mR 12 0), some (mR 13 0), some (mR 98 0), some (mI x4), none, none, none], [(mI y0)], σ, 0, 0) = mG (vp_in (x4 + 1) (gI σ 97 1 0).toNatClampNeg) (mG (vp_in (x4 + 2) (gI σ 97 1 0).toNatClampNeg) (mG (vp_in (x4 + 3) (gI σ 97 1 0).toNatClampNeg) (mG (p_M_likeness (gI σ 97 0 (Int32.toNatClampNeg (x4 + 1))) (gI σ 97 0 (Int32.toNatClampNeg (x4 + 2))) (gI σ 97 0 (Int32.toNatClampNeg (x4 + 3))) σ) (some (1039, [some (mR 97 0), some (mR 12 0), some (mR 13 0), some (mR 98 0), some (mI x4), none, none, none], [(mI (v_M_likeness (gI σ 97 0 (Int32.toNatClampNeg (x4 + 1))) (gI σ 97 0 (Int32.toNatClampNeg (x4 + 2))) (gI σ 97 0 (Int32.toNatClampNeg (x4 + 3))) σ)), (mI y0)], (e_M_likeness (gI σ 97 0 (Int32.toNatClampNeg (x4 + 1))) (gI σ 97 0 (Int32.toNatClampNeg (x4 + 2))) (gI σ 97 0 (Int32.toNatClampNeg (x4 + 3))) σ), 0, 0))))) := rfl
set_option maxRecDepth 100000 in
set_option maxHeartbeats 4000000 in
theorem q3_995c (x4 y0 y1 : Int32) (σ : MSto) : mrun KT (P3_L 1017 1039) (fun st => some st) 600 (1039, [some (mR 97 0), some (mR 12 0), some (mR 13 0), some (mR 98 0), some (mI x4), none, none, none], [(mI y1), (mI y0)], σ, 0, 0) = mIf (y0 = y1) (some (2235, [some (mR 97 0), some (mR 12 0), some (mR 13 0), some (mR 98 0), some (mI x4), none, none, none], [], σ, 0, 0)) (none) := rfl
theorem Ly_995 {l : Launch} {L i : Nat} (hL : L ≤ 3584) (hi : i + 7 ≤ L) : LTurn l L 995 i := by
  intro p e R s m args below meth c Q D A eb tL tB c0 s0 ad0 σ0 σ X hR1 hR2 hc hs hI hk
  obtain ⟨hC, h104, hLn⟩ := hI
  have w1 := lvp (c := 1) hLn hL hi (by omega)
  have w2 := lvp (c := 2) hLn hL hi (by omega)
  have w3 := lvp (c := 3) hLn hL hi (by omega)
  have hC1 := hC
  have f2 : gI σ 97 1 0 = gI σ 97 1 0 := rfl
  have n1 := h104
  obtain ⟨pC, pM, hv, hC2⟩ := T_likeness hC1 (gI σ 97 0 (Int32.toNatClampNeg (nI i + 1))) (gI σ 97 0 (Int32.toNatClampNeg (nI i + 2))) (gI σ 97 0 (Int32.toNatClampNeg (nI i + 3)))
  have wM := w_M_likeness (gI σ 97 0 (Int32.toNatClampNeg (nI i + 1))) (gI σ 97 0 (Int32.toNatClampNeg (nI i + 2))) (gI σ 97 0 (Int32.toNatClampNeg (nI i + 3))) σ
  have runA := q3_995a (nI i) σ
  simp only [mG_t w1, mG_t w2, mG_t w3, mG_t pC] at runA
  have runB := q3_995b (nI i) (v_C_likeness (gI σ 97 0 (Int32.toNatClampNeg (nI i + 1))) (gI σ 97 0 (Int32.toNatClampNeg (nI i + 2))) (gI σ 97 0 (Int32.toNatClampNeg (nI i + 3))) σ) σ
  simp only [mG_t w1, mG_t w2, mG_t w3, mG_t pM] at runB
  have runD := q3_995c (nI i) (v_C_likeness (gI σ 97 0 (Int32.toNatClampNeg (nI i + 1))) (gI σ 97 0 (Int32.toNatClampNeg (nI i + 2))) (gI σ 97 0 (Int32.toNatClampNeg (nI i + 3))) σ) (v_M_likeness (gI σ 97 0 (Int32.toNatClampNeg (nI i + 1))) (gI σ 97 0 (Int32.toNatClampNeg (nI i + 2))) (gI σ 97 0 (Int32.toNatClampNeg (nI i + 3))) σ) (e_M_likeness (gI σ 97 0 (Int32.toNatClampNeg (nI i + 1))) (gI σ 97 0 (Int32.toNatClampNeg (nI i + 2))) (gI σ 97 0 (Int32.toNatClampNeg (nI i + 3))) σ)
  rw [mIf_t hv] at runD
  have hend := hk _ 0 0 ⟨Cpl.lt hC2 wM rfl, (wM.n (k := 104) rfl).trans n1, ((wM.i (k := 97) rfl).trans f2).trans hLn⟩ (by decide) (by decide)
  have hRm : mRoomOK R (P3_L 1017 1039) (c0 + 0) (s0 + 0) := hRm_3 hR1 hR2 (by omega) (by omega)
  have hRm0 : mRoomOK R (P3_L 1017 1039) c0 s0 := hRm_3 hR1 hR2 (by omega) (by omega)
  have h1 := s_run3 X hRm hend runD
  have h2 := s_run3 X hRm h1 runB
  have h2a : mWP p l e R s m args below meth c Q 8 D A eb tL tB ad0 σ0 c0 s0 (1017, LH i, [mI (v_C_likeness (gI σ 97 0 (Int32.toNatClampNeg (nI i + 1))) (gI σ 97 0 (Int32.toNatClampNeg (nI i + 2))) (gI σ 97 0 (Int32.toNatClampNeg (nI i + 3))) σ)], σ, 0, 0) := h2
  have h3 := s_run3 X hRm0 h2a runA
  exact h3

set_option maxRecDepth 100000 in
set_option maxHeartbeats 4000000 in
theorem q3_1044a (x4 : Int32) (σ : MSto) : mrun KT (P3_L 1060 1076) (fun st => some st) 600 (1044, [some (mR 97 0), some (mR 12 0), some (mR 13 0), some (mR 98 0), some (mI x4), none, none, none], [], σ, 0, 0) = mG (vp_in (x4 + 1) (gI σ 97 1 0).toNatClampNeg) (mG (vp_in (x4 + 2) (gI σ 97 1 0).toNatClampNeg) (mG (p_C_years (gI σ 97 0 (Int32.toNatClampNeg (x4 + 1))) (gI σ 97 0 (Int32.toNatClampNeg (x4 + 2))) σ) (some (1060, [some (mR 97 0), some (mR 12 0), some (mR 13 0), some (mR 98 0), some (mI x4), none, none, none], [(mI (v_C_years (gI σ 97 0 (Int32.toNatClampNeg (x4 + 1))) (gI σ 97 0 (Int32.toNatClampNeg (x4 + 2))) σ))], (e_C_years (gI σ 97 0 (Int32.toNatClampNeg (x4 + 1))) (gI σ 97 0 (Int32.toNatClampNeg (x4 + 2))) σ), 0, 0)))) := rfl
set_option maxRecDepth 100000 in
set_option maxHeartbeats 4000000 in
theorem q3_1044b (x4 y0 : Int32) (σ : MSto) : mrun KT (P3_L 1060 1076) (fun st => some st) 600 (1060, [some (mR 97 0), some (mR 12 0), some (mR 13 0), some (mR 98 0), some (mI x4), none, none, none], [(mI y0)], σ, 0, 0) = mG (vp_in (x4 + 1) (gI σ 97 1 0).toNatClampNeg) (mG (vp_in (x4 + 2) (gI σ 97 1 0).toNatClampNeg) (mG (p_M_years (gI σ 97 0 (Int32.toNatClampNeg (x4 + 1))) (gI σ 97 0 (Int32.toNatClampNeg (x4 + 2))) σ) (some (1076, [some (mR 97 0), some (mR 12 0), some (mR 13 0), some (mR 98 0), some (mI x4), none, none, none], [(mI (v_M_years (gI σ 97 0 (Int32.toNatClampNeg (x4 + 1))) (gI σ 97 0 (Int32.toNatClampNeg (x4 + 2))) σ)), (mI y0)], (e_M_years (gI σ 97 0 (Int32.toNatClampNeg (x4 + 1))) (gI σ 97 0 (Int32.toNatClampNeg (x4 + 2))) σ), 0, 0)))) := rfl
set_option maxRecDepth 100000 in
set_option maxHeartbeats 4000000 in
theorem q3_1044c (x4 y0 y1 : Int32) (σ : MSto) : mrun KT (P3_L 1060 1076) (fun st => some st) 600 (1076, [some (mR 97 0), some (mR 12 0), some (mR 13 0), some (mR 98 0), some (mI x4), none, none, none], [(mI y1), (mI y0)], σ, 0, 0) = mIf (y0 = y1) (some (2235, [some (mR 97 0), some (mR 12 0), some (mR 13 0), some (mR 98 0), some (mI x4), none, none, none], [], σ, 0, 0)) (none) := rfl
theorem Ly_1044 {l : Launch} {L i : Nat} (hL : L ≤ 3584) (hi : i + 7 ≤ L) : LTurn l L 1044 i := by
  intro p e R s m args below meth c Q D A eb tL tB c0 s0 ad0 σ0 σ X hR1 hR2 hc hs hI hk
  obtain ⟨hC, h104, hLn⟩ := hI
  have w1 := lvp (c := 1) hLn hL hi (by omega)
  have w2 := lvp (c := 2) hLn hL hi (by omega)
  have wC := w_C_years (gI σ 97 0 (Int32.toNatClampNeg (nI i + 1))) (gI σ 97 0 (Int32.toNatClampNeg (nI i + 2))) σ
  have n1 : gN (e_C_years (gI σ 97 0 (Int32.toNatClampNeg (nI i + 1))) (gI σ 97 0 (Int32.toNatClampNeg (nI i + 2))) σ) 104 = 0 := (wC.n (k := 104) rfl).trans h104
  have hC1 := Cpl.rt hC wC rfl
  have f1 : ∀ j, gI (e_C_years (gI σ 97 0 (Int32.toNatClampNeg (nI i + 1))) (gI σ 97 0 (Int32.toNatClampNeg (nI i + 2))) σ) 97 0 j = gI σ 97 0 j := fun j => wC.i rfl
  have f2 : gI (e_C_years (gI σ 97 0 (Int32.toNatClampNeg (nI i + 1))) (gI σ 97 0 (Int32.toNatClampNeg (nI i + 2))) σ) 97 1 0 = gI σ 97 1 0 := wC.i rfl
  obtain ⟨pC, pM, hv, hC2⟩ := T_years hC1 (gI σ 97 0 (Int32.toNatClampNeg (nI i + 1))) (gI σ 97 0 (Int32.toNatClampNeg (nI i + 2)))
  have wM := w_M_years (gI σ 97 0 (Int32.toNatClampNeg (nI i + 1))) (gI σ 97 0 (Int32.toNatClampNeg (nI i + 2))) (e_C_years (gI σ 97 0 (Int32.toNatClampNeg (nI i + 1))) (gI σ 97 0 (Int32.toNatClampNeg (nI i + 2))) σ)
  have runA := q3_1044a (nI i) σ
  simp only [mG_t w1, mG_t w2, mG_t pC] at runA
  have runB := q3_1044b (nI i) (v_C_years (gI σ 97 0 (Int32.toNatClampNeg (nI i + 1))) (gI σ 97 0 (Int32.toNatClampNeg (nI i + 2))) σ) (e_C_years (gI σ 97 0 (Int32.toNatClampNeg (nI i + 1))) (gI σ 97 0 (Int32.toNatClampNeg (nI i + 2))) σ)
  simp only [f1, f2, mG_t w1, mG_t w2, mG_t pM] at runB
  have runD := q3_1044c (nI i) (v_C_years (gI σ 97 0 (Int32.toNatClampNeg (nI i + 1))) (gI σ 97 0 (Int32.toNatClampNeg (nI i + 2))) σ) (v_M_years (gI σ 97 0 (Int32.toNatClampNeg (nI i + 1))) (gI σ 97 0 (Int32.toNatClampNeg (nI i + 2))) (e_C_years (gI σ 97 0 (Int32.toNatClampNeg (nI i + 1))) (gI σ 97 0 (Int32.toNatClampNeg (nI i + 2))) σ)) (e_M_years (gI σ 97 0 (Int32.toNatClampNeg (nI i + 1))) (gI σ 97 0 (Int32.toNatClampNeg (nI i + 2))) (e_C_years (gI σ 97 0 (Int32.toNatClampNeg (nI i + 1))) (gI σ 97 0 (Int32.toNatClampNeg (nI i + 2))) σ))
  rw [mIf_t hv] at runD
  have hend := hk _ 0 0 ⟨Cpl.lt hC2 wM rfl, (wM.n (k := 104) rfl).trans n1, ((wM.i (k := 97) rfl).trans f2).trans hLn⟩ (by decide) (by decide)
  have hRm : mRoomOK R (P3_L 1060 1076) (c0 + 0) (s0 + 0) := hRm_3 hR1 hR2 (by omega) (by omega)
  have hRm0 : mRoomOK R (P3_L 1060 1076) c0 s0 := hRm_3 hR1 hR2 (by omega) (by omega)
  have h1 := s_run3 X hRm hend runD
  have h2 := s_run3 X hRm h1 runB
  have h2a : mWP p l e R s m args below meth c Q 8 D A eb tL tB ad0 σ0 c0 s0 (1060, LH i, [mI (v_C_years (gI σ 97 0 (Int32.toNatClampNeg (nI i + 1))) (gI σ 97 0 (Int32.toNatClampNeg (nI i + 2))) σ)], (e_C_years (gI σ 97 0 (Int32.toNatClampNeg (nI i + 1))) (gI σ 97 0 (Int32.toNatClampNeg (nI i + 2))) σ), 0, 0) := h2
  have h3 := s_run3 X hRm0 h2a runA
  exact h3

set_option maxRecDepth 100000 in
set_option maxHeartbeats 4000000 in
theorem q3_1081a (x4 : Int32) (σ : MSto) : mrun KT (P3_L 1091 1101) (fun st => some st) 600 (1081, [some (mR 97 0), some (mR 12 0), some (mR 13 0), some (mR 98 0), some (mI x4), none, none, none], [], σ, 0, 0) = mG (vp_in (x4 + 1) (gI σ 97 1 0).toNatClampNeg) (mG (p_C_likely (gI σ 97 0 (Int32.toNatClampNeg (x4 + 1))) σ) (some (1091, [some (mR 97 0), some (mR 12 0), some (mR 13 0), some (mR 98 0), some (mI x4), none, none, none], [(mI (v_C_likely (gI σ 97 0 (Int32.toNatClampNeg (x4 + 1))) σ))], (e_C_likely (gI σ 97 0 (Int32.toNatClampNeg (x4 + 1))) σ), 0, 0))) := rfl
set_option maxRecDepth 100000 in
set_option maxHeartbeats 4000000 in
theorem q3_1081b (x4 y0 : Int32) (σ : MSto) : mrun KT (P3_L 1091 1101) (fun st => some st) 600 (1091, [some (mR 97 0), some (mR 12 0), some (mR 13 0), some (mR 98 0), some (mI x4), none, none, none], [(mI y0)], σ, 0, 0) = mG (vp_in (x4 + 1) (gI σ 97 1 0).toNatClampNeg) (mG (p_M_likely (gI σ 97 0 (Int32.toNatClampNeg (x4 + 1))) σ) (some (1101, [some (mR 97 0), some (mR 12 0), some (mR 13 0), some (mR 98 0), some (mI x4), none, none, none], [(mI (v_M_likely (gI σ 97 0 (Int32.toNatClampNeg (x4 + 1))) σ)), (mI y0)], (e_M_likely (gI σ 97 0 (Int32.toNatClampNeg (x4 + 1))) σ), 0, 0))) := rfl
set_option maxRecDepth 100000 in
set_option maxHeartbeats 4000000 in
theorem q3_1081c (x4 y0 y1 : Int32) (σ : MSto) : mrun KT (P3_L 1091 1101) (fun st => some st) 600 (1101, [some (mR 97 0), some (mR 12 0), some (mR 13 0), some (mR 98 0), some (mI x4), none, none, none], [(mI y1), (mI y0)], σ, 0, 0) = mIf (y0 = y1) (some (2235, [some (mR 97 0), some (mR 12 0), some (mR 13 0), some (mR 98 0), some (mI x4), none, none, none], [], σ, 0, 0)) (none) := rfl
theorem Ly_1081 {l : Launch} {L i : Nat} (hL : L ≤ 3584) (hi : i + 7 ≤ L) : LTurn l L 1081 i := by
  intro p e R s m args below meth c Q D A eb tL tB c0 s0 ad0 σ0 σ X hR1 hR2 hc hs hI hk
  obtain ⟨hC, h104, hLn⟩ := hI
  have w1 := lvp (c := 1) hLn hL hi (by omega)
  have wC := w_C_likely (gI σ 97 0 (Int32.toNatClampNeg (nI i + 1))) σ
  have n1 : gN (e_C_likely (gI σ 97 0 (Int32.toNatClampNeg (nI i + 1))) σ) 104 = 0 := (wC.n (k := 104) rfl).trans h104
  have hC1 := Cpl.rt hC wC rfl
  have f1 : ∀ j, gI (e_C_likely (gI σ 97 0 (Int32.toNatClampNeg (nI i + 1))) σ) 97 0 j = gI σ 97 0 j := fun j => wC.i rfl
  have f2 : gI (e_C_likely (gI σ 97 0 (Int32.toNatClampNeg (nI i + 1))) σ) 97 1 0 = gI σ 97 1 0 := wC.i rfl
  obtain ⟨pC, pM, hv, hC2⟩ := T_likely hC1 (gI σ 97 0 (Int32.toNatClampNeg (nI i + 1)))
  have wM := w_M_likely (gI σ 97 0 (Int32.toNatClampNeg (nI i + 1))) (e_C_likely (gI σ 97 0 (Int32.toNatClampNeg (nI i + 1))) σ)
  have runA := q3_1081a (nI i) σ
  simp only [mG_t w1, mG_t pC] at runA
  have runB := q3_1081b (nI i) (v_C_likely (gI σ 97 0 (Int32.toNatClampNeg (nI i + 1))) σ) (e_C_likely (gI σ 97 0 (Int32.toNatClampNeg (nI i + 1))) σ)
  simp only [f1, f2, mG_t w1, mG_t pM] at runB
  have runD := q3_1081c (nI i) (v_C_likely (gI σ 97 0 (Int32.toNatClampNeg (nI i + 1))) σ) (v_M_likely (gI σ 97 0 (Int32.toNatClampNeg (nI i + 1))) (e_C_likely (gI σ 97 0 (Int32.toNatClampNeg (nI i + 1))) σ)) (e_M_likely (gI σ 97 0 (Int32.toNatClampNeg (nI i + 1))) (e_C_likely (gI σ 97 0 (Int32.toNatClampNeg (nI i + 1))) σ))
  rw [mIf_t hv] at runD
  have hend := hk _ 0 0 ⟨Cpl.lt hC2 wM rfl, (wM.n (k := 104) rfl).trans n1, ((wM.i (k := 97) rfl).trans f2).trans hLn⟩ (by decide) (by decide)
  have hRm : mRoomOK R (P3_L 1091 1101) (c0 + 0) (s0 + 0) := hRm_3 hR1 hR2 (by omega) (by omega)
  have hRm0 : mRoomOK R (P3_L 1091 1101) c0 s0 := hRm_3 hR1 hR2 (by omega) (by omega)
  have h1 := s_run3 X hRm hend runD
  have h2 := s_run3 X hRm h1 runB
  have h2a : mWP p l e R s m args below meth c Q 8 D A eb tL tB ad0 σ0 c0 s0 (1091, LH i, [mI (v_C_likely (gI σ 97 0 (Int32.toNatClampNeg (nI i + 1))) σ)], (e_C_likely (gI σ 97 0 (Int32.toNatClampNeg (nI i + 1))) σ), 0, 0) := h2
  have h3 := s_run3 X hRm0 h2a runA
  exact h3


