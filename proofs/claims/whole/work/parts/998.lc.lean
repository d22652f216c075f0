/-! the law's cases -/
set_option maxRecDepth 100000 in
set_option maxHeartbeats 4000000 in
theorem q3_1697a (x4 : Int32) (σ : MSto) : mrun KT (P3_L 1713 1729) (fun st => some st) 600 (1697, [some (mR 97 0), some (mR 12 0), some (mR 13 0), some (mR 98 0), some (mI x4), none, none, none], [], σ, 0, 0) = mG (vp_in (x4 + 1) (gI σ 97 1 0).toNatClampNeg) (mG (vp_in (x4 + 2) (gI σ 97 1 0).toNatClampNeg) (mG (p_C_parts (gI σ 97 0 (Int32.toNatClampNeg (x4 + 1))) (gI σ 97 0 (Int32.toNatClampNeg (x4 + 2))) σ) (some (1713, [some (mR 97 0), some (mR 12 0), some (mR 13 0), some (mR 98 0), some (mI x4), none, none, none], [(mI (v_C_parts (gI σ 97 0 (Int32.toNatClampNeg (x4 + 1))) (gI σ 97 0 (Int32.toNatClampNeg (x4 + 2))) σ))], (e_C_parts (gI σ 97 0 (Int32.toNatClampNeg (x4 + 1))) (gI σ 97 0 (Int32.toNatClampNeg (x4 + 2))) σ), 0, 0)))) := rfl
set_option maxRecDepth 100000 in
set_option maxHeartbeats 4000000 in
theorem q3_1697b (x4 y0 : Int32) (σ : MSto) : mrun KT (P3_L 1713 1729) (fun st => some st) 600 (1713, [some (mR 97 0), some (mR 12 0), some (mR 13 0), some (mR 98 0), some (mI x4), none, none, none], [(mI y0)], σ, 0, 0) = mG (vp_in (x4 + 1) (gI σ 97 1 0).toNatClampNeg) (mG (vp_in (x4 + 2) (gI σ 97 1 0).toNatClampNeg) (mG (p_M_parts (gI σ 97 0 (Int32.toNatClampNeg (x4 + 1))) (gI σ 97 0 (Int32.toNatClampNeg (x4 + 2))) σ) (some (1729, [some (mR 97 0), some (mR 12 0), some (mR 13 0), some (mR 98 0), some (mI x4), none, none, none], [(mI (v_M_parts (gI σ 97 0 (Int32.toNatClampNeg (x4 + 1))) (gI σ 97 0 (Int32.toNatClampNeg (x4 + 2))) σ)), (mI y0)], (e_M_parts (gI σ 97 0 (Int32.toNatClampNeg (x4 + 1))) (gI σ 97 0 (Int32.toNatClampNeg (x4 + 2))) σ), 0, 0)))) := rfl
set_option maxRecDepth 100000 in
set_option maxHeartbeats 4000000 in
theorem q3_1697c (x4 y0 y1 : Int32) (σ : MSto) : mrun KT (P3_L 1713 1729) (fun st => some st) 600 (1729, [some (mR 97 0), some (mR 12 0), some (mR 13 0), some (mR 98 0), some (mI x4), none, none, none], [(mI y1), (mI y0)], σ, 0, 0) = mIf (y0 = y1) (some (2235, [some (mR 97 0), some (mR 12 0), some (mR 13 0), some (mR 98 0), some (mI x4), none, none, none], [], σ, 0, 0)) (none) := rfl
theorem Ly_1697 {l : Launch} {L i : Nat} (hL : L ≤ 3584) (hi : i + 7 ≤ L) : LTurn l L 1697 i := by
  intro p e R s m args below meth c Q D A eb tL tB c0 s0 ad0 σ0 σ X hR1 hR2 hc hs hI hk
  obtain ⟨hC, h104, hLn⟩ := hI
  have w1 := lvp (c := 1) hLn hL hi (by omega)
  have w2 := lvp (c := 2) hLn hL hi (by omega)
  have wC := w_C_parts (gI σ 97 0 (Int32.toNatClampNeg (nI i + 1))) (gI σ 97 0 (Int32.toNatClampNeg (nI i + 2))) σ
  have n1 : gN (e_C_parts (gI σ 97 0 (Int32.toNatClampNeg (nI i + 1))) (gI σ 97 0 (Int32.toNatClampNeg (nI i + 2))) σ) 104 = 0 := (wC.n (k := 104) rfl).trans h104
  have hC1 := Cpl.rt hC wC rfl
  have f1 : ∀ j, gI (e_C_parts (gI σ 97 0 (Int32.toNatClampNeg (nI i + 1))) (gI σ 97 0 (Int32.toNatClampNeg (nI i + 2))) σ) 97 0 j = gI σ 97 0 j := fun j => wC.i rfl
  have f2 : gI (e_C_parts (gI σ 97 0 (Int32.toNatClampNeg (nI i + 1))) (gI σ 97 0 (Int32.toNatClampNeg (nI i + 2))) σ) 97 1 0 = gI σ 97 1 0 := wC.i rfl
  obtain ⟨pC, pM, hv, hC2⟩ := T_parts hC1 (gI σ 97 0 (Int32.toNatClampNeg (nI i + 1))) (gI σ 97 0 (Int32.toNatClampNeg (nI i + 2)))
  have wM := w_M_parts (gI σ 97 0 (Int32.toNatClampNeg (nI i + 1))) (gI σ 97 0 (Int32.toNatClampNeg (nI i + 2))) (e_C_parts (gI σ 97 0 (Int32.toNatClampNeg (nI i + 1))) (gI σ 97 0 (Int32.toNatClampNeg (nI i + 2))) σ)
  have runA := q3_1697a (nI i) σ
  simp only [mG_t w1, mG_t w2, mG_t pC] at runA
  have runB := q3_1697b (nI i) (v_C_parts (gI σ 97 0 (Int32.toNatClampNeg (nI i + 1))) (gI σ 97 0 (Int32.toNatClampNeg (nI i + 2))) σ) (e_C_parts (gI σ 97 0 (Int32.toNatClampNeg (nI i + 1))) (gI σ 97 0 (Int32.toNatClampNeg (nI i + 2))) σ)
  simp only [f1, f2, mG_t w1, mG_t w2, mG_t pM] at runB
  have runD := q3_1697c (nI i) (v_C_parts (gI σ 97 0 (Int32.toNatClampNeg (nI i + 1))) (gI σ 97 0 (Int32.toNatClampNeg (nI i + 2))) σ) (v_M_parts (gI σ 97 0 (Int32.toNatClampNeg (nI i + 1))) (gI σ 97 0 (Int32.toNatClampNeg (nI i + 2))) (e_C_parts (gI σ 97 0 (Int32.toNatClampNeg (nI i + 1))) (gI σ 97 0 (Int32.toNatClampNeg (nI i + 2))) σ)) (e_M_parts (gI σ 97 0 (Int32.toNatClampNeg (nI i + 1))) (gI σ 97 0 (Int32.toNatClampNeg (nI i + 2))) (e_C_parts (gI σ 97 0 (Int32.toNatClampNeg (nI i + 1))) (gI σ 97 0 (Int32.toNatClampNeg (nI i + 2))) σ))
  rw [mIf_t hv] at runD
  have hend := hk _ 0 0 ⟨Cpl.lt hC2 wM rfl, (wM.n (k := 104) rfl).trans n1, ((wM.i (k := 97) rfl).trans f2).trans hLn⟩ (by decide) (by decide)
  have hRm : mRoomOK R (P3_L 1713 1729) (c0 + 0) (s0 + 0) := hRm_3 hR1 hR2 (by omega) (by omega)
  have hRm0 : mRoomOK R (P3_L 1713 1729) c0 s0 := hRm_3 hR1 hR2 (by omega) (by omega)
  have h1 := s_run3 X hRm hend runD
  have h2 := s_run3 X hRm h1 runB
  have h2a : mWP p l e R s m args below meth c Q 8 D A eb tL tB ad0 σ0 c0 s0 (1713, LH i, [mI (v_C_parts (gI σ 97 0 (Int32.toNatClampNeg (nI i + 1))) (gI σ 97 0 (Int32.toNatClampNeg (nI i + 2))) σ)], (e_C_parts (gI σ 97 0 (Int32.toNatClampNeg (nI i + 1))) (gI σ 97 0 (Int32.toNatClampNeg (nI i + 2))) σ), 0, 0) := h2
  have h3 := s_run3 X hRm0 h2a runA
  exact h3

set_option maxRecDepth 100000 in
set_option maxHeartbeats 4000000 in
theorem q3_1734a (x4 : Int32) (σ : MSto) : mrun KT (P3_L 1744 1754) (fun st => some st) 600 (1734, [some (mR 97 0), some (mR 12 0), some (mR 13 0), some (mR 98 0), some (mI x4), none, none, none], [], σ, 0, 0) = mG (vp_in (x4 + 1) (gI σ 97 1 0).toNatClampNeg) (mG (p_C_next (gI σ 97 0 (Int32.toNatClampNeg (x4 + 1))) σ) (some (1744, [some (mR 97 0), some (mR 12 0), some (mR 13 0), some (mR 98 0), some (mI x4), none, none, none], [(mI (v_C_next (gI σ 97 0 (Int32.toNatClampNeg (x4 + 1))) σ))], (e_C_next (gI σ 97 0 (Int32.toNatClampNeg (x4 + 1))) σ), 0, 0))) := rfl
set_option maxRecDepth 100000 in
set_option maxHeartbeats 4000000 in
theorem q3_1734b (x4 y0 : Int32) (σ : MSto) : mrun KT (P3_L 1744 1754) (fun st => some st) 600 (1744, [some (mR 97 0), some (mR 12 0), some (mR 13 0), some (mR 98 0), some (mI x4), none, none, none], [(mI y0)], σ, 0, 0) = mG (vp_in (x4 + 1) (gI σ 97 1 0).toNatClampNeg) (mG (p_M_next (gI σ 97 0 (Int32.toNatClampNeg (x4 + 1))) σ) (some (1754, [some (mR 97 0), some (mR 12 0), some (mR 13 0), some (mR 98 0), some (mI x4), none, none, none], [(mI (v_M_next (gI σ 97 0 (Int32.toNatClampNeg (x4 + 1))) σ)), (mI y0)], (e_M_next (gI σ 97 0 (Int32.toNatClampNeg (x4 + 1))) σ), 0, 0))) := rfl
set_option maxRecDepth 100000 in
set_option maxHeartbeats 4000000 in
theorem q3_1734c (x4 y0 y1 : Int32) (σ : MSto) : mrun KT (P3_L 1744 1754) (fun st => some st) 600 (1754, [some (mR 97 0), some (mR 12 0), some (mR 13 0), some (mR 98 0), some (mI x4), none, none, none], [(mI y1), (mI y0)], σ, 0, 0) = mIf (y0 = y1) (some (2235, [some (mR 97 0), some (mR 12 0), some (mR 13 0), some (mR 98 0), some (mI x4), none, none, none], [], σ, 0, 0)) (none) := rfl
theorem Ly_1734 {l : Launch} {L i : Nat} (hL : L ≤ 3584) (hi : i + 7 ≤ L) : LTurn l L 1734 i := by
  intro p e R s m args below meth c Q D A eb tL tB c0 s0 ad0 σ0 σ X hR1 hR2 hc hs hI hk
  obtain ⟨hC, h104, hLn⟩ := hI
  have w1 := lvp (c := 1) hLn hL hi (by omega)
  have wC := w_C_next (gI σ 97 0 (Int32.toNatClampNeg (nI i + 1))) σ
  have n1 : gN (e_C_next (gI σ 97 0 (Int32.toNatClampNeg (nI i + 1))) σ) 104 = 0 := (wC.n (k := 104) rfl).trans h104
  have hC1 := Cpl.rt hC wC rfl
  have f1 : ∀ j, gI (e_C_next (gI σ 97 0 (Int32.toNatClampNeg (nI i + 1))) σ) 97 0 j = gI σ 97 0 j := fun j => wC.i rfl
  have f2 : gI (e_C_next (gI σ 97 0 (Int32.toNatClampNeg (nI i + 1))) σ) 97 1 0 = gI σ 97 1 0 := wC.i rfl
  obtain ⟨pC, pM, hv, hC2⟩ := T_next hC1 (gI σ 97 0 (Int32.toNatClampNeg (nI i + 1)))
  have wM := w_M_next (gI σ 97 0 (Int32.toNatClampNeg (nI i + 1))) (e_C_next (gI σ 97 0 (Int32.toNatClampNeg (nI i + 1))) σ)
  have runA := q3_1734a (nI i) σ
  simp only [mG_t w1, mG_t pC] at runA
  have runB := q3_1734b (nI i) (v_C_next (gI σ 97 0 (Int32.toNatClampNeg (nI i + 1))) σ) (e_C_next (gI σ 97 0 (Int32.toNatClampNeg (nI i + 1))) σ)
  simp only [f1, f2, mG_t w1, mG_t pM] at runB
  have runD := q3_1734c (nI i) (v_C_next (gI σ 97 0 (Int32.toNatClampNeg (nI i + 1))) σ) (v_M_next (gI σ 97 0 (Int32.toNatClampNeg (nI i + 1))) (e_C_next (gI σ 97 0 (Int32.toNatClampNeg (nI i + 1))) σ)) (e_M_next (gI σ 97 0 (Int32.toNatClampNeg (nI i + 1))) (e_C_next (gI σ 97 0 (Int32.toNatClampNeg (nI i + 1))) σ))
  rw [mIf_t hv] at runD
  have hend := hk _ 0 0 ⟨Cpl.lt hC2 wM rfl, (wM.n (k := 104) rfl).trans n1, ((wM.i (k := 97) rfl).trans f2).trans hLn⟩ (by decide) (by decide)
  have hRm : mRoomOK R (P3_L 1744 1754) (c0 + 0) (s0 + 0) := hRm_3 hR1 hR2 (by omega) (by omega)
  have hRm0 : mRoomOK R (P3_L 1744 1754) c0 s0 := hRm_3 hR1 hR2 (by omega) (by omega)
  have h1 := s_run3 X hRm hend runD
  have h2 := s_run3 X hRm h1 runB
  have h2a : mWP p l e R s m args below meth c Q 8 D A eb tL tB ad0 σ0 c0 s0 (1744, LH i, [mI (v_C_next (gI σ 97 0 (Int32.toNatClampNeg (nI i + 1))) σ)], (e_C_next (gI σ 97 0 (Int32.toNatClampNeg (nI i + 1))) σ), 0, 0) := h2
  have h3 := s_run3 X hRm0 h2a runA
  exact h3

set_option maxRecDepth 100000 in
set_option maxHeartbeats 4000000 in
theorem q3_1759a (x4 : Int32) (σ : MSto) : mrun KT (P3_L 1769 1779) (fun st => some st) 600 (1759, [some (mR 97 0), some (mR 12 0), some (mR 13 0), some (mR 98 0), some (mI x4), none, none, none], [], σ, 0, 0) = mG (vp_in (x4 + 1) (gI σ 97 1 0).toNatClampNeg) (mG (p_C_fewest (gI σ 97 0 (Int32.toNatClampNeg (x4 + 1))) σ) (some (1769, [some (mR 97 0), some (mR 12 0), some (mR 13 0), some (mR 98 0), some (mI x4), none, none, none], [(mI (v_C_fewest (gI σ 97 0 (Int32.toNatClampNeg (x4 + 1))) σ))], (e_C_fewest (gI σ 97 0 (Int32.toNatClampNeg (x4 + 1))) σ), 0, 0))) := rfl
set_option maxRecDepth 100000 in
set_option maxHeartbeats 4000000 in
theorem q3_1759b (x4 y0 : Int32) (σ : MSto) : mrun KT (P3_L 1769 1779) (fun st => some st) 600 (1769, [some (mR 97 0), some (mR 12 0), some (mR 13 0), some (mR 98 0), some (mI x4), none, none, none], [(mI y0)], σ, 0, 0) = mG (vp_in (x4 + 1) (gI σ 97 1 0).toNatClampNeg) (mG (p_M_fewest (gI σ 97 0 (Int32.toNatClampNeg (x4 + 1))) σ) (some (1779, [some (mR 97 0), some (mR 12 0), some (mR 13 0), some (mR 98 0), some (mI x4), none, none, none], [(mI (v_M_fewest (gI σ 97 0 (Int32.toNatClampNeg (x4 + 1))) σ)), (mI y0)], (e_M_fewest (gI σ 97 0 (Int32.toNatClampNeg (x4 + 1))) σ), 0, 0))) := rfl
set_option maxRecDepth 100000 in
set_option maxHeartbeats 4000000 in
theorem q3_1759c (x4 y0 y1 : Int32) (σ : MSto) : mrun KT (P3_L 1769 1779) (fun st => some st) 600 (1779, [some (mR 97 0), some (mR 12 0), some (mR 13 0), some (mR 98 0), some (mI x4), none, none, none], [(mI y1), (mI y0)], σ, 0, 0) = mIf (y0 = y1) (some (2235, [some (mR 97 0), some (mR 12 0), some (mR 13 0), some (mR 98 0), some (mI x4), none, none, none], [], σ, 0, 0)) (none) := rfl
theorem Ly_1759 {l : Launch} {L i : Nat} (hL : L ≤ 3584) (hi : i + 7 ≤ L) : LTurn l L 1759 i := by
  intro p e R s m args below meth c Q D A eb tL tB c0 s0 ad0 σ0 σ X hR1 hR2 hc hs hI hk
  obtain ⟨hC, h104, hLn⟩ := hI
  have w1 := lvp (c := 1) hLn hL hi (by omega)
  have wC := w_C_fewest (gI σ 97 0 (Int32.toNatClampNeg (nI i + 1))) σ
  have n1 : gN (e_C_fewest (gI σ 97 0 (Int32.toNatClampNeg (nI i + 1))) σ) 104 = 0 := (wC.n (k := 104) rfl).trans h104
  have hC1 := Cpl.rt hC wC rfl
  have f1 : ∀ j, gI (e_C_fewest (gI σ 97 0 (Int32.toNatClampNeg (nI i + 1))) σ) 97 0 j = gI σ 97 0 j := fun j => wC.i rfl
  have f2 : gI (e_C_fewest (gI σ 97 0 (Int32.toNatClampNeg (nI i + 1))) σ) 97 1 0 = gI σ 97 1 0 := wC.i rfl
  obtain ⟨pC, pM, hv, hC2⟩ := T_fewest hC1 (gI σ 97 0 (Int32.toNatClampNeg (nI i + 1)))
  have wM := w_M_fewest (gI σ 97 0 (Int32.toNatClampNeg (nI i + 1))) (e_C_fewest (gI σ 97 0 (Int32.toNatClampNeg (nI i + 1))) σ)
  have runA := q3_1759a (nI i) σ
  simp only [mG_t w1, mG_t pC] at runA
  have runB := q3_1759b (nI i) (v_C_fewest (gI σ 97 0 (Int32.toNatClampNeg (nI i + 1))) σ) (e_C_fewest (gI σ 97 0 (Int32.toNatClampNeg (nI i + 1))) σ)
  simp only [f1, f2, mG_t w1, mG_t pM] at runB
  have runD := q3_1759c (nI i) (v_C_fewest (gI σ 97 0 (Int32.toNatClampNeg (nI i + 1))) σ) (v_M_fewest (gI σ 97 0 (Int32.toNatClampNeg (nI i + 1))) (e_C_fewest (gI σ 97 0 (Int32.toNatClampNeg (nI i + 1))) σ)) (e_M_fewest (gI σ 97 0 (Int32.toNatClampNeg (nI i + 1))) (e_C_fewest (gI σ 97 0 (Int32.toNatClampNeg (nI i + 1))) σ))
  rw [mIf_t hv] at runD
  have hend := hk _ 0 0 ⟨Cpl.lt hC2 wM rfl, (wM.n (k := 104) rfl).trans n1, ((wM.i (k := 97) rfl).trans f2).trans hLn⟩ (by decide) (by decide)
  have hRm : mRoomOK R (P3_L 1769 1779) (c0 + 0) (s0 + 0) := hRm_3 hR1 hR2 (by omega) (by omega)
  have hRm0 : mRoomOK R (P3_L 1769 1779) c0 s0 := hRm_3 hR1 hR2 (by omega) (by omega)
  have h1 := s_run3 X hRm hend runD
  have h2 := s_run3 X hRm h1 runB
  have h2a : mWP p l e R s m args below meth c Q 8 D A eb tL tB ad0 σ0 c0 s0 (1769, LH i, [mI (v_C_fewest (gI σ 97 0 (Int32.toNatClampNeg (nI i + 1))) σ)], (e_C_fewest (gI σ 97 0 (Int32.toNatClampNeg (nI i + 1))) σ), 0, 0) := h2
  have h3 := s_run3 X hRm0 h2a runA
  exact h3

set_option maxRecDepth 100000 in
set_option maxHeartbeats 4000000 in
theorem q3_1784a (x4 : Int32) (σ : MSto) : mrun KT (P3_L 1794 1804) (fun st => some st) 600 (1784, [some (mR 97 0), some (mR 12 0), some (mR 13 0), some (mR 98 0), some (mI x4), none, none, none], [], σ, 0, 0) = mG (vp_in (x4 + 1) (gI σ 97 1 0).toNatClampNeg) (mG (p_C_where (gI σ 97 0 (Int32.toNatClampNeg (x4 + 1))) σ) (some (1794, [some (mR 97 0), some (mR 12 0), some (mR 13 0), some (mR 98 0), some (mI x4), none, none, none], [(mI (v_C_where (gI σ 97 0 (Int32.toNatClampNeg (x4 + 1))) σ))], (e_C_where (gI σ 97 0 (Int32.toNatClampNeg (x4 + 1))) σ), 0, 0))) := rfl
set_option maxRecDepth 100000 in
set_option maxHeartbeats 4000000 in
theorem q3_1784b (x4 y0 : Int32) (σ : MSto) : mrun KT (P3_L 1794 1804) (fun st => some st) 600 (1794, [some (mR 97 0), some (mR 12 0), some (mR 13 0), some (mR 98 0), some (mI x4), none, none, none], [(mI y0)], σ, 0, 0) = mG (vp_in (x4 + 1) (gI σ 97 1 0).toNatClampNeg) (mG (p_M_where (gI σ 97 0 (Int32.toNatClampNeg (x4 + 1))) σ) (some (1804, [some (mR 97 0), some (mR 12 0), some (mR 13 0), some (mR 98 0), some (mI x4), none, none, none], [(mI (v_M_where (gI σ 97 0 (Int32.toNatClampNeg (x4 + 1))) σ)), (mI y0)], (e_M_where (gI σ 97 0 (Int32.toNatClampNeg (x4 + 1))) σ), 0, 0))) := rfl
set_option maxRecDepth 100000 in
set_option maxHeartbeats 4000000 in
theorem q3_1784c (x4 y0 y1 : Int32) (σ : MSto) : mrun KT (P3_L 1794 1804) (fun st => some st) 600 (1804, [some (mR 97 0), some (mR 12 0), some (mR 13 0), some (mR 98 0), some (mI x4), none, none, none], [(mI y1), (mI y0)], σ, 0, 0) = mIf (y0 = y1) (some (2235, [some (mR 97 0), some (mR 12 0), some (mR 13 0), some (mR 98 0), some (mI x4), none, none, none], [], σ, 0, 0)) (none) := rfl
theorem Ly_1784 {l : Launch} {L i : Nat} (hL : L ≤ 3584) (hi : i + 7 ≤ L) : LTurn l L 1784 i := by
  intro p e R s m args below meth c Q D A eb tL tB c0 s0 ad0 σ0 σ X hR1 hR2 hc hs hI hk
  obtain ⟨hC, h104, hLn⟩ := hI
  have w1 := lvp (c := 1) hLn hL hi (by omega)
  have wC := w_C_where (gI σ 97 0 (Int32.toNatClampNeg (nI i + 1))) σ
  have n1 : gN (e_C_where (gI σ 97 0 (Int32.toNatClampNeg (nI i + 1))) σ) 104 = 0 := (wC.n (k := 104) rfl).trans h104
  have hC1 := Cpl.rt hC wC rfl
  have f1 : ∀ j, gI (e_C_where (gI σ 97 0 (Int32.toNatClampNeg (nI i + 1))) σ) 97 0 j = gI σ 97 0 j := fun j => wC.i rfl
  have f2 : gI (e_C_where (gI σ 97 0 (Int32.toNatClampNeg (nI i + 1))) σ) 97 1 0 = gI σ 97 1 0 := wC.i rfl
  obtain ⟨pC, pM, hv, hC2⟩ := T_where hC1 (gI σ 97 0 (Int32.toNatClampNeg (nI i + 1)))
  have wM := w_M_where (gI σ 97 0 (Int32.toNatClampNeg (nI i + 1))) (e_C_where (gI σ 97 0 (Int32.toNatClampNeg (nI i + 1))) σ)
  have runA := q3_1784a (nI i) σ
  simp only [mG_t w1, mG_t pC] at runA
  have runB := q3_1784b (nI i) (v_C_where (gI σ 97 0 (Int32.toNatClampNeg (nI i + 1))) σ) (e_C_where (gI σ 97 0 (Int32.toNatClampNeg (nI i + 1))) σ)
  simp only [f1, f2, mG_t w1, mG_t pM] at runB
  have runD := q3_1784c (nI i) (v_C_where (gI σ 97 0 (Int32.toNatClampNeg (nI i + 1))) σ) (v_M_where (gI σ 97 0 (Int32.toNatClampNeg (nI i + 1))) (e_C_where (gI σ 97 0 (Int32.toNatClampNeg (nI i + 1))) σ)) (e_M_where (gI σ 97 0 (Int32.toNatClampNeg (nI i + 1))) (e_C_where (gI σ 97 0 (Int32.toNatClampNeg (nI i + 1))) σ))
  rw [mIf_t hv] at runD
  have hend := hk _ 0 0 ⟨Cpl.lt hC2 wM rfl, (wM.n (k := 104) rfl).trans n1, ((wM.i (k := 97) rfl).trans f2).trans hLn⟩ (by decide) (by decide)
  have hRm : mRoomOK R (P3_L 1794 1804) (c0 + 0) (s0 + 0) := hRm_3 hR1 hR2 (by omega) (by omega)
  have hRm0 : mRoomOK R (P3_L 1794 1804) c0 s0 := hRm_3 hR1 hR2 (by omega) (by omega)
  have h1 := s_run3 X hRm hend runD
  have h2 := s_run3 X hRm h1 runB
  have h2a : mWP p l e R s m args below meth c Q 8 D A eb tL tB ad0 σ0 c0 s0 (1794, LH i, [mI (v_C_where (gI σ 97 0 (Int32.toNatClampNeg (nI i + 1))) σ)], (e_C_where (gI σ 97 0 (Int32.toNatClampNeg (nI i + 1))) σ), 0, 0) := h2
  have h3 := s_run3 X hRm0 h2a runA
  exact h3

set_option maxRecDepth 100000 in
set_option maxHeartbeats 4000000 in
theorem q3_1809a (x4 : Int32) (σ : MSto) : mrun KT (P3_L 1819 1829) (fun st => some st) 600 (1809, [some (mR 97 0), some (mR 12 0), some (mR 13 0), some (mR 98 0), some (mI x4), none, none, none], [], σ, 0, 0) = mG (vp_in (x4 + 1) (gI σ 97 1 0).toNatClampNeg) (mG (p_C_like (gI σ 97 0 (Int32.toNatClampNeg (x4 + 1))) σ) (some (1819, [some (mR 97 0), some (mR 12 0), some (mR 13 0), some (mR 98 0), some (mI x4), none, none, none], [(mI (v_C_like (gI σ 97 0 (Int32.toNatClampNeg (x4 + 1))) σ))], (e_C_like (gI σ 97 0 (Int32.toNatClampNeg (x4 + 1))) σ), 0, 0))) := rfl
set_option maxRecDepth 100000 in
set_option maxHeartbeats 4000000 in
theorem q3_1809b (x4 y0 : Int32) (σ : MSto) : mrun KT (P3_L 1819 1829) (fun st => some st) 600 (1819, [some (mR 97 0), some (mR 12 0), some (mR 13 0), some (mR 98 0), some (mI x4), none, none, none], [(mI y0)], σ, 0, 0) = mG (vp_in (x4 + 1) (gI σ 97 1 0).toNatClampNeg) (mG (p_M_like (gI σ 97 0 (Int32.toNatClampNeg (x4 + 1))) σ) (some (1829, [some (mR 97 0), some (mR 12 0), some (mR 13 0), some (mR 98 0), some (mI x4), none, none, none], [(mI (v_M_like (gI σ 97 0 (Int32.toNatClampNeg (x4 + 1))) σ)), (mI y0)], (e_M_like (gI σ 97 0 (Int32.toNatClampNeg (x4 + 1))) σ), 0, 0))) := rfl
set_option maxRecDepth 100000 in
set_option maxHeartbeats 4000000 in
theorem q3_1809c (x4 y0 y1 : Int32) (σ : MSto) : mrun KT (P3_L 1819 1829) (fun st => some st) 600 (1829, [some (mR 97 0), some (mR 12 0), some (mR 13 0), some (mR 98 0), some (mI x4), none, none, none], [(mI y1), (mI y0)], σ, 0, 0) = mIf (y0 = y1) (some (2235, [some (mR 97 0), some (mR 12 0), some (mR 13 0), some (mR 98 0), some (mI x4), none, none, none], [], σ, 0, 0)) (none) := rfl
theorem Ly_1809 {l : Launch} {L i : Nat} (hL : L ≤ 3584) (hi : i + 7 ≤ L) : LTurn l L 1809 i := by
  intro p e R s m args below meth c Q D A eb tL tB c0 s0 ad0 σ0 σ X hR1 hR2 hc hs hI hk
  obtain ⟨hC, h104, hLn⟩ := hI
  have w1 := lvp (c := 1) hLn hL hi (by omega)
  have wC := w_C_like (gI σ 97 0 (Int32.toNatClampNeg (nI i + 1))) σ
  have n1 : gN (e_C_like (gI σ 97 0 (Int32.toNatClampNeg (nI i + 1))) σ) 104 = 0 := (wC.n (k := 104) rfl).trans h104
  have hC1 := Cpl.rt hC wC rfl
  have f1 : ∀ j, gI (e_C_like (gI σ 97 0 (Int32.toNatClampNeg (nI i + 1))) σ) 97 0 j = gI σ 97 0 j := fun j => wC.i rfl
  have f2 : gI (e_C_like (gI σ 97 0 (Int32.toNatClampNeg (nI i + 1))) σ) 97 1 0 = gI σ 97 1 0 := wC.i rfl
  obtain ⟨pC, pM, hv, hC2⟩ := T_like hC1 (gI σ 97 0 (Int32.toNatClampNeg (nI i + 1)))
  have wM := w_M_like (gI σ 97 0 (Int32.toNatClampNeg (nI i + 1))) (e_C_like (gI σ 97 0 (Int32.toNatClampNeg (nI i + 1))) σ)
  have runA := q3_1809a (nI i) σ
  simp only [mG_t w1, mG_t pC] at runA
  have runB := q3_1809b (nI i) (v_C_like (gI σ 97 0 (Int32.toNatClampNeg (nI i + 1))) σ) (e_C_like (gI σ 97 0 (Int32.toNatClampNeg (nI i + 1))) σ)
  simp only [f1, f2, mG_t w1, mG_t pM] at runB
  have runD := q3_1809c (nI i) (v_C_like (gI σ 97 0 (Int32.toNatClampNeg (nI i + 1))) σ) (v_M_like (gI σ 97 0 (Int32.toNatClampNeg (nI i + 1))) (e_C_like (gI σ 97 0 (Int32.toNatClampNeg (nI i + 1))) σ)) (e_M_like (gI σ 97 0 (Int32.toNatClampNeg (nI i + 1))) (e_C_like (gI σ 97 0 (Int32.toNatClampNeg (nI i + 1))) σ))
  rw [mIf_t hv] at runD
  have hend := hk _ 0 0 ⟨Cpl.lt hC2 wM rfl, (wM.n (k := 104) rfl).trans n1, ((wM.i (k := 97) rfl).trans f2).trans hLn⟩ (by decide) (by decide)
  have hRm : mRoomOK R (P3_L 1819 1829) (c0 + 0) (s0 + 0) := hRm_3 hR1 hR2 (by omega) (by omega)
  have hRm0 : mRoomOK R (P3_L 1819 1829) c0 s0 := hRm_3 hR1 hR2 (by omega) (by omega)
  have h1 := s_run3 X hRm hend runD
  have h2 := s_run3 X hRm h1 runB
  have h2a : mWP p l e R s m args below meth c Q 8 D A eb tL tB ad0 σ0 c0 s0 (1819, LH i, [mI (v_C_like (gI σ 97 0 (Int32.toNatClampNeg (nI i + 1))) σ)], (e_C_like (gI σ 97 0 (Int32.toNatClampNeg (nI i + 1))) σ), 0, 0) := h2
  have h3 := s_run3 X hRm0 h2a runA
  exact h3

set_option maxRecDepth 100000 in
set_option maxHeartbeats 4000000 in
theorem q3_1834a (x4 : Int32) (σ : MSto) : mrun KT (P3_L 1850 1866) (fun st => some st) 600 (1834, [some (mR 97 0), some (mR 12 0), some (mR 13 0), some (mR 98 0), some (mI x4), none, none, none], [], σ, 0, 0) = mG (vp_in (x4 + 1) (gI σ 97 1 0).toNatClampNeg) (mG (vp_in (x4 + 2) (gI σ 97 1 0).toNatClampNeg) (mG (p_C_knew (gI σ 97 0 (Int32.toNatClampNeg (x4 + 1))) (gI σ 97 0 (Int32.toNatClampNeg (x4 + 2))) σ) (some (1850, [some (mR 97 0), some (mR 12 0), some (mR 13 0), some (mR 98 0), some (mI x4), none, none, none], [(mI (v_C_knew (gI σ 97 0 (Int32.toNatClampNeg (x4 + 1))) (gI σ 97 0 (Int32.toNatClampNeg (x4 + 2))) σ))], (e_C_knew (gI σ 97 0 (Int32.toNatClampNeg (x4 + 1))) (gI σ 97 0 (Int32.toNatClampNeg (x4 + 2))) σ), 0, 0)))) := rfl
set_option maxRecDepth 100000 in
set_option maxHeartbeats 4000000 in
theorem q3_1834b (x4 y0 : Int32) (σ : MSto) : mrun KT (P3_L 1850 1866) (fun st => some st) 600 (1850, [some (mR 97 0), some (mR 12 0), some (mR 13 0), some (mR 98 0), some (mI x4), none, none, none], [(mI y0)], σ, 0, 0) = mG (vp_in (x4 + 1) (gI σ 97 1 0).toNatClampNeg) (mG (vp_in (x4 + 2) (gI σ 97 1 0).toNatClampNeg) (mG (p_M_knew (gI σ 97 0 (Int32.toNatClampNeg (x4 + 1))) (gI σ 97 0 (Int32.toNatClampNeg (x4 + 2))) σ) (some (1866, [some (mR 97 0), some (mR 12 0), some (mR 13 0), some (mR 98 0), some (mI x4), none, none, none], [(mI (v_M_knew (gI σ 97 0 (Int32.toNatClampNeg (x4 + 1))) (gI σ 97 0 (Int32.toNatClampNeg (x4 + 2))) σ)), (mI y0)], (e_M_knew (gI σ 97 0 (Int32.toNatClampNeg (x4 + 1))) (gI σ 97 0 (Int32.toNatClampNeg (x4 + 2))) σ), 0, 0)))) := rfl
set_option maxRecDepth 100000 in
set_option maxHeartbeats 4000000 in
theorem q3_1834c (x4 y0 y1 : Int32) (σ : MSto) : mrun KT (P3_L 1850 1866) (fun st => some st) 600 (1866, [some (mR 97 0), some (mR 12 0), some (mR 13 0), some (mR 98 0), some (mI x4), none, none, none], [(mI y1), (mI y0)], σ, 0, 0) = mIf (y0 = y1) (some (2235, [some (mR 97 0), some (mR 12 0), some (mR 13 0), some (mR 98 0), some (mI x4), none, none, none], [], σ, 0, 0)) (none) := rfl
theorem Ly_1834 {l : Launch} {L i : Nat} (hL : L ≤ 3584) (hi : i + 7 ≤ L) : LTurn l L 1834 i := by
  intro p e R s m args below meth c Q D A eb tL tB c0 s0 ad0 σ0 σ X hR1 hR2 hc hs hI hk
  obtain ⟨hC, h104, hLn⟩ := hI
  have w1 := lvp (c := 1) hLn hL hi (by omega)
  have w2 := lvp (c := 2) hLn hL hi (by omega)
  have wC := w_C_knew (gI σ 97 0 (Int32.toNatClampNeg (nI i + 1))) (gI σ 97 0 (Int32.toNatClampNeg (nI i + 2))) σ
  have n1 : gN (e_C_knew (gI σ 97 0 (Int32.toNatClampNeg (nI i + 1))) (gI σ 97 0 (Int32.toNatClampNeg (nI i + 2))) σ) 104 = 0 := (wC.n (k := 104) rfl).trans h104
  have hC1 := Cpl.rt hC wC rfl
  have f1 : ∀ j, gI (e_C_knew (gI σ 97 0 (Int32.toNatClampNeg (nI i + 1))) (gI σ 97 0 (Int32.toNatClampNeg (nI i + 2))) σ) 97 0 j = gI σ 97 0 j := fun j => wC.i rfl
  have f2 : gI (e_C_knew (gI σ 97 0 (Int32.toNatClampNeg (nI i + 1))) (gI σ 97 0 (Int32.toNatClampNeg (nI i + 2))) σ) 97 1 0 = gI σ 97 1 0 := wC.i rfl
  obtain ⟨pC, pM, hv, hC2⟩ := T_knew hC1 (gI σ 97 0 (Int32.toNatClampNeg (nI i + 1))) (gI σ 97 0 (Int32.toNatClampNeg (nI i + 2)))
  have wM := w_M_knew (gI σ 97 0 (Int32.toNatClampNeg (nI i + 1))) (gI σ 97 0 (Int32.toNatClampNeg (nI i + 2))) (e_C_knew (gI σ 97 0 (Int32.toNatClampNeg (nI i + 1))) (gI σ 97 0 (Int32.toNatClampNeg (nI i + 2))) σ)
  have runA := q3_1834a (nI i) σ
  simp only [mG_t w1, mG_t w2, mG_t pC] at runA
  have runB := q3_1834b (nI i) (v_C_knew (gI σ 97 0 (Int32.toNatClampNeg (nI i + 1))) (gI σ 97 0 (Int32.toNatClampNeg (nI i + 2))) σ) (e_C_knew (gI σ 97 0 (Int32.toNatClampNeg (nI i + 1))) (gI σ 97 0 (Int32.toNatClampNeg (nI i + 2))) σ)
  simp only [f1, f2, mG_t w1, mG_t w2, mG_t pM] at runB
  have runD := q3_1834c (nI i) (v_C_knew (gI σ 97 0 (Int32.toNatClampNeg (nI i + 1))) (gI σ 97 0 (Int32.toNatClampNeg (nI i + 2))) σ) (v_M_knew (gI σ 97 0 (Int32.toNatClampNeg (nI i + 1))) (gI σ 97 0 (Int32.toNatClampNeg (nI i + 2))) (e_C_knew (gI σ 97 0 (Int32.toNatClampNeg (nI i + 1))) (gI σ 97 0 (Int32.toNatClampNeg (nI i + 2))) σ)) (e_M_knew (gI σ 97 0 (Int32.toNatClampNeg (nI i + 1))) (gI σ 97 0 (Int32.toNatClampNeg (nI i + 2))) (e_C_knew (gI σ 97 0 (Int32.toNatClampNeg (nI i + 1))) (gI σ 97 0 (Int32.toNatClampNeg (nI i + 2))) σ))
  rw [mIf_t hv] at runD
  have hend := hk _ 0 0 ⟨Cpl.lt hC2 wM rfl, (wM.n (k := 104) rfl).trans n1, ((wM.i (k := 97) rfl).trans f2).trans hLn⟩ (by decide) (by decide)
  have hRm : mRoomOK R (P3_L 1850 1866) (c0 + 0) (s0 + 0) := hRm_3 hR1 hR2 (by omega) (by omega)
  have hRm0 : mRoomOK R (P3_L 1850 1866) c0 s0 := hRm_3 hR1 hR2 (by omega) (by omega)
  have h1 := s_run3 X hRm hend runD
  have h2 := s_run3 X hRm h1 runB
  have h2a : mWP p l e R s m args below meth c Q 8 D A eb tL tB ad0 σ0 c0 s0 (1850, LH i, [mI (v_C_knew (gI σ 97 0 (Int32.toNatClampNeg (nI i + 1))) (gI σ 97 0 (Int32.toNatClampNeg (nI i + 2))) σ)], (e_C_knew (gI σ 97 0 (Int32.toNatClampNeg (nI i + 1))) (gI σ 97 0 (Int32.toNatClampNeg (nI i + 2))) σ), 0, 0) := h2
  have h3 := s_run3 X hRm0 h2a runA
  exact h3

set_option maxRecDepth 100000 in
set_option maxHeartbeats 4000000 in
theorem q3_1871a (x4 : Int32) (σ : MSto) : mrun KT (P3_L 1893 1915) (fun st => some st) 600 (1871, [some (mR 97 0), some (mR 12 0), some (mR 13 0), some (mR 98 0), some (mI x4), none, none, none], [], σ, 0, 0) = mG (vp_in (x4 + 1) (gI σ 97 1 0).toNatClampNeg) (mG (vp_in (x4 + 2) (gI σ 97 1 0).toNatClampNeg) (mG (vp_in (x4 + 3) (gI σ 97 1 0).toNatClampNeg) (mG (p_C_how (gI σ 97 0 (Int32.toNatClampNeg (x4 + 1))) (gI σ 97 0 (Int32.toNatClampNeg (x4 + 2))) (gI σ 97 0 (Int32.toNatClampNeg (x4 + 3))) σ) (some (1893, [some (mR 97 0), some (mR 12 0), some (mR 13 0), some (mR 98 0), some (mI x4), none, none, none], [(mI (v_C_how (gI σ 97 0 (Int32.toNatClampNeg (x4 + 1))) (gI σ 97 0 (Int32.toNatClampNeg (x4 + 2))) (gI σ 97 0 (Int32.toNatClampNeg (x4 + 3))) σ))], (e_C_how (gI σ 97 0 (Int32.toNatClampNeg (x4 + 1))) (gI σ 97 0 (Int32.toNatClampNeg (x4 + 2))) (gI σ 97 0 (Int32.toNatClampNeg (x4 + 3))) σ), 1, 2))))) := rfl
set_option maxRecDepth 100000 in
set_option maxHeartbeats 4000000 in
theorem q3_1871b (x4 y0 : Int32) (σ : MSto) : mrun KT (P3_L 1893 1915) (fun st => some st) 600 (1893, [some (mR 97 0), some (mR 12 0), some (mR 13 0), some (mR 98 0), some (mI x4), none, none, none], [(mI y0)], σ, 0, 0) = mG (vp_in (x4 + 1) (gI σ 97 1 0).toNatClampNeg) (mG (vp_in (x4 + 2) (gI σ 97 1 0).toNatClampNeg) (mG (vp_in (x4 + 3) (gI σ 97 1 0).toNatClampNeg) (mG (p_M_how (gI σ 97 0 (Int32.toNatClampNeg (x4 + 1))) (gI σ 97 0 (Int32.toNatClampNeg (x4 + 2))) (gI σ 97 0 (Int32.toNatClampNeg (x4 + 3))) σ) (some (1915, [some (mR 97 0), some (mR 12 0), some (mR 13 0), some (mR 98 0), some (mI x4), none, none, none], [(mI (v_M_how (gI σ 97 0 (Int32.toNatClampNeg (x4 + 1))) (gI σ 97 0 (Int32.toNatClampNeg (x4 + 2))) (gI σ 97 0 (Int32.toNatClampNeg (x4 + 3))) σ)), (mI y0)], (e_M_how (gI σ 97 0 (Int32.toNatClampNeg (x4 + 1))) (gI σ 97 0 (Int32.toNatClampNeg (x4 + 2))) (gI σ 97 0 (Int32.toNatClampNeg (x4 + 3))) σ), 0, 0))))) := rfl
set_option maxRecDepth 100000 in
set_option maxHeartbeats 4000000 in
theorem q3_1871c (x4 y0 y1 : Int32) (σ : MSto) : mrun KT (P3_L 1893 1915) (fun st => some st) 600 (1915, [some (mR 97 0), some (mR 12 0), some (mR 13 0), some (mR 98 0), some (mI x4), none, none, none], [(mI y1), (mI y0)], σ, 0, 0) = mIf (y0 = y1) (some (2235, [some (mR 97 0), some (mR 12 0), some (mR 13 0), some (mR 98 0), some (mI x4), none, none, none], [], σ, 0, 0)) (none) := rfl
theorem Ly_1871 {l : Launch} {L i : Nat} (hL : L ≤ 3584) (hi : i + 7 ≤ L) : LTurn l L 1871 i := by
  intro p e R s m args below meth c Q D A eb tL tB c0 s0 ad0 σ0 σ X hR1 hR2 hc hs hI hk
  obtain ⟨hC, h104, hLn⟩ := hI
  have w1 := lvp (c := 1) hLn hL hi (by omega)
  have w2 := lvp (c := 2) hLn hL hi (by omega)
  have w3 := lvp (c := 3) hLn hL hi (by omega)
  have wC := w_C_how (gI σ 97 0 (Int32.toNatClampNeg (nI i + 1))) (gI σ 97 0 (Int32.toNatClampNeg (nI i + 2))) (gI σ 97 0 (Int32.toNatClampNeg (nI i + 3))) σ
  have n1 : gN (e_C_how (gI σ 97 0 (Int32.toNatClampNeg (nI i + 1))) (gI σ 97 0 (Int32.toNatClampNeg (nI i + 2))) (gI σ 97 0 (Int32.toNatClampNeg (nI i + 3))) σ) 104 = 0 := (wC.n (k := 104) rfl).trans h104
  have hC1 := Cpl.rt hC wC rfl
  have f1 : ∀ j, gI (e_C_how (gI σ 97 0 (Int32.toNatClampNeg (nI i + 1))) (gI σ 97 0 (Int32.toNatClampNeg (nI i + 2))) (gI σ 97 0 (Int32.toNatClampNeg (nI i + 3))) σ) 97 0 j = gI σ 97 0 j := fun j => wC.i rfl
  have f2 : gI (e_C_how (gI σ 97 0 (Int32.toNatClampNeg (nI i + 1))) (gI σ 97 0 (Int32.toNatClampNeg (nI i + 2))) (gI σ 97 0 (Int32.toNatClampNeg (nI i + 3))) σ) 97 1 0 = gI σ 97 1 0 := wC.i rfl
  obtain ⟨pC, pM, hv, hC2⟩ := T_how hC1 (gI σ 97 0 (Int32.toNatClampNeg (nI i + 1))) (gI σ 97 0 (Int32.toNatClampNeg (nI i + 2))) (gI σ 97 0 (Int32.toNatClampNeg (nI i + 3)))
  have wM := w_M_how (gI σ 97 0 (Int32.toNatClampNeg (nI i + 1))) (gI σ 97 0 (Int32.toNatClampNeg (nI i + 2))) (gI σ 97 0 (Int32.toNatClampNeg (nI i + 3))) (e_C_how (gI σ 97 0 (Int32.toNatClampNeg (nI i + 1))) (gI σ 97 0 (Int32.toNatClampNeg (nI i + 2))) (gI σ 97 0 (Int32.toNatClampNeg (nI i + 3))) σ)
  have runA := q3_1871a (nI i) σ
  simp only [mG_t w1, mG_t w2, mG_t w3, mG_t pC] at runA
  have runB := q3_1871b (nI i) (v_C_how (gI σ 97 0 (Int32.toNatClampNeg (nI i + 1))) (gI σ 97 0 (Int32.toNatClampNeg (nI i + 2))) (gI σ 97 0 (Int32.toNatClampNeg (nI i + 3))) σ) (e_C_how (gI σ 97 0 (Int32.toNatClampNeg (nI i + 1))) (gI σ 97 0 (Int32.toNatClampNeg (nI i + 2))) (gI σ 97 0 (Int32.toNatClampNeg (nI i + 3))) σ)
  simp only [f1, f2, mG_t w1, mG_t w2, mG_t w3, mG_t pM] at runB
  have runD := q3_1871c (nI i) (v_C_how (gI σ 97 0 (Int32.toNatClampNeg (nI i + 1))) (gI σ 97 0 (Int32.toNatClampNeg (nI i + 2))) (gI σ 97 0 (Int32.toNatClampNeg (nI i + 3))) σ) (v_M_how (gI σ 97 0 (Int32.toNatClampNeg (nI i + 1))) (gI σ 97 0 (Int32.toNatClampNeg (nI i + 2))) (gI σ 97 0 (Int32.toNatClampNeg (nI i + 3))) (e_C_how (gI σ 97 0 (Int32.toNatClampNeg (nI i + 1))) (gI σ 97 0 (Int32.toNatClampNeg (nI i + 2))) (gI σ 97 0 (Int32.toNatClampNeg (nI i + 3))) σ)) (e_M_how (gI σ 97 0 (Int32.toNatClampNeg (nI i + 1))) (gI σ 97 0 (Int32.toNatClampNeg (nI i + 2))) (gI σ 97 0 (Int32.toNatClampNeg (nI i + 3))) (e_C_how (gI σ 97 0 (Int32.toNatClampNeg (nI i + 1))) (gI σ 97 0 (Int32.toNatClampNeg (nI i + 2))) (gI σ 97 0 (Int32.toNatClampNeg (nI i + 3))) σ))
  rw [mIf_t hv] at runD
  have hend := hk _ 1 2 ⟨Cpl.lt hC2 wM rfl, (wM.n (k := 104) rfl).trans n1, ((wM.i (k := 97) rfl).trans f2).trans hLn⟩ (by decide) (by decide)
  have hRm : mRoomOK R (P3_L 1893 1915) (c0 + 1) (s0 + 2) := hRm_3 hR1 hR2 (by omega) (by omega)
  have hRm0 : mRoomOK R (P3_L 1893 1915) c0 s0 := hRm_3 hR1 hR2 (by omega) (by omega)
  have h1 := s_run3 X hRm hend runD
  have h2 := s_run3 X hRm h1 runB
  have h2a : mWP p l e R s m args below meth c Q 8 D A eb tL tB ad0 σ0 c0 s0 (1893, LH i, [mI (v_C_how (gI σ 97 0 (Int32.toNatClampNeg (nI i + 1))) (gI σ 97 0 (Int32.toNatClampNeg (nI i + 2))) (gI σ 97 0 (Int32.toNatClampNeg (nI i + 3))) σ)], (e_C_how (gI σ 97 0 (Int32.toNatClampNeg (nI i + 1))) (gI σ 97 0 (Int32.toNatClampNeg (nI i + 2))) (gI σ 97 0 (Int32.toNatClampNeg (nI i + 3))) σ), 1, 2) := h2
  have h3 := s_run3 X hRm0 h2a runA
  exact h3

set_option maxRecDepth 100000 in
set_option maxHeartbeats 4000000 in
theorem q3_1920a (x4 : Int32) (σ : MSto) : mrun KT (P3_L 1936 1952) (fun st => some st) 600 (1920, [some (mR 97 0), some (mR 12 0), some (mR 13 0), some (mR 98 0), some (mI x4), none, none, none], [], σ, 0, 0) = mG (vp_in (x4 + 1) (gI σ 97 1 0).toNatClampNeg) (mG (vp_in (x4 + 2) (gI σ 97 1 0).toNatClampNeg) (mG (p_C_open (gI σ 97 0 (Int32.toNatClampNeg (x4 + 1))) (gI σ 97 0 (Int32.toNatClampNeg (x4 + 2))) σ) (some (1936, [some (mR 97 0), some (mR 12 0), some (mR 13 0), some (mR 98 0), some (mI x4), none, none, none], [(mI (v_C_open (gI σ 97 0 (Int32.toNatClampNeg (x4 + 1))) (gI σ 97 0 (Int32.toNatClampNeg (x4 + 2))) σ))], (e_C_open (gI σ 97 0 (Int32.toNatClampNeg (x4 + 1))) (gI σ 97 0 (Int32.toNatClampNeg (x4 + 2))) σ), 0, 0)))) := rfl
set_option maxRecDepth 100000 in
set_option maxHeartbeats 4000000 in
theorem q3_1920b (x4 y0 : Int32) (σ : MSto) : mrun KT (P3_L 1936 1952) (fun st => some st) 600 (1936, [some (mR 97 0), some (mR 12 0), some (mR 13 0), some (mR 98 0), some (mI x4), none, none, none], [(mI y0)], σ, 0, 0) = mG (vp_in (x4 + 1) (gI σ 97 1 0).toNatClampNeg) (mG (vp_in (x4 + 2) (gI σ 97 1 0).toNatClampNeg) (mG (p_M_open (gI σ 97 0 (Int32.toNatClampNeg (x4 + 1))) (gI σ 97 0 (Int32.toNatClampNeg (x4 + 2))) σ) (some (1952, [some (mR 97 0), some (mR 12 0), some (mR 13 0), some (mR 98 0), some (mI x4), none, none, none], [(mI (v_M_open (gI σ 97 0 (Int32.toNatClampNeg (x4 + 1))) (gI σ 97 0 (Int32.toNatClampNeg (x4 + 2))) σ)), (mI y0)], (e_M_open (gI σ 97 0 (Int32.toNatClampNeg (x4 + 1))) (gI σ 97 0 (Int32.toNatClampNeg (x4 + 2))) σ), 0, 0)))) := rfl
set_option maxRecDepth 100000 in
set_option maxHeartbeats 4000000 in
theorem q3_1920c (x4 y0 y1 : Int32) (σ : MSto) : mrun KT (P3_L 1936 1952) (fun st => some st) 600 (1952, [some (mR 97 0), some (mR 12 0), some (mR 13 0), some (mR 98 0), some (mI x4), none, none, none], [(mI y1), (mI y0)], σ, 0, 0) = mIf (y0 = y1) (some (2235, [some (mR 97 0), some (mR 12 0), some (mR 13 0), some (mR 98 0), some (mI x4), none, none, none], [], σ, 0, 0)) (none) := rfl
theorem Ly_1920 {l : Launch} {L i : Nat} (hL : L ≤ 3584) (hi : i + 7 ≤ L) : LTurn l L 1920 i := by
  intro p e R s m args below meth c Q D A eb tL tB c0 s0 ad0 σ0 σ X hR1 hR2 hc hs hI hk
  obtain ⟨hC, h104, hLn⟩ := hI
  have w1 := lvp (c := 1) hLn hL hi (by omega)
  have w2 := lvp (c := 2) hLn hL hi (by omega)
  have wC := w_C_open (gI σ 97 0 (Int32.toNatClampNeg (nI i + 1))) (gI σ 97 0 (Int32.toNatClampNeg (nI i + 2))) σ
  have n1 : gN (e_C_open (gI σ 97 0 (Int32.toNatClampNeg (nI i + 1))) (gI σ 97 0 (Int32.toNatClampNeg (nI i + 2))) σ) 104 = 0 := (wC.n (k := 104) rfl).trans h104
  have hC1 := Cpl.rt hC wC rfl
  have f1 : ∀ j, gI (e_C_open (gI σ 97 0 (Int32.toNatClampNeg (nI i + 1))) (gI σ 97 0 (Int32.toNatClampNeg (nI i + 2))) σ) 97 0 j = gI σ 97 0 j := fun j => wC.i rfl
  have f2 : gI (e_C_open (gI σ 97 0 (Int32.toNatClampNeg (nI i + 1))) (gI σ 97 0 (Int32.toNatClampNeg (nI i + 2))) σ) 97 1 0 = gI σ 97 1 0 := wC.i rfl
  obtain ⟨pC, pM, hv, hC2⟩ := T_open hC1 (gI σ 97 0 (Int32.toNatClampNeg (nI i + 1))) (gI σ 97 0 (Int32.toNatClampNeg (nI i + 2)))
  have wM := w_M_open (gI σ 97 0 (Int32.toNatClampNeg (nI i + 1))) (gI σ 97 0 (Int32.toNatClampNeg (nI i + 2))) (e_C_open (gI σ 97 0 (Int32.toNatClampNeg (nI i + 1))) (gI σ 97 0 (Int32.toNatClampNeg (nI i + 2))) σ)
  have runA := q3_1920a (nI i) σ
  simp only [mG_t w1, mG_t w2, mG_t pC] at runA
  have runB := q3_1920b (nI i) (v_C_open (gI σ 97 0 (Int32.toNatClampNeg (nI i + 1))) (gI σ 97 0 (Int32.toNatClampNeg (nI i + 2))) σ) (e_C_open (gI σ 97 0 (Int32.toNatClampNeg (nI i + 1))) (gI σ 97 0 (Int32.toNatClampNeg (nI i + 2))) σ)
  simp only [f1, f2, mG_t w1, mG_t w2, mG_t pM] at runB
  have runD := q3_1920c (nI i) (v_C_open (gI σ 97 0 (Int32.toNatClampNeg (nI i + 1))) (gI σ 97 0 (Int32.toNatClampNeg (nI i + 2))) σ) (v_M_open (gI σ 97 0 (Int32.toNatClampNeg (nI i + 1))) (gI σ 97 0 (Int32.toNatClampNeg (nI i + 2))) (e_C_open (gI σ 97 0 (Int32.toNatClampNeg (nI i + 1))) (gI σ 97 0 (Int32.toNatClampNeg (nI i + 2))) σ)) (e_M_open (gI σ 97 0 (Int32.toNatClampNeg (nI i + 1))) (gI σ 97 0 (Int32.toNatClampNeg (nI i + 2))) (e_C_open (gI σ 97 0 (Int32.toNatClampNeg (nI i + 1))) (gI σ 97 0 (Int32.toNatClampNeg (nI i + 2))) σ))
  rw [mIf_t hv] at runD
  have hend := hk _ 0 0 ⟨Cpl.lt hC2 wM rfl, (wM.n (k := 104) rfl).trans n1, ((wM.i (k := 97) rfl).trans f2).trans hLn⟩ (by decide) (by decide)
  have hRm : mRoomOK R (P3_L 1936 1952) (c0 + 0) (s0 + 0) := hRm_3 hR1 hR2 (by omega) (by omega)
  have hRm0 : mRoomOK R (P3_L 1936 1952) c0 s0 := hRm_3 hR1 hR2 (by omega) (by omega)
  have h1 := s_run3 X hRm hend runD
  have h2 := s_run3 X hRm h1 runB
  have h2a : mWP p l e R s m args below meth c Q 8 D A eb tL tB ad0 σ0 c0 s0 (1936, LH i, [mI (v_C_open (gI σ 97 0 (Int32.toNatClampNeg (nI i + 1))) (gI σ 97 0 (Int32.toNatClampNeg (nI i + 2))) σ)], (e_C_open (gI σ 97 0 (Int32.toNatClampNeg (nI i + 1))) (gI σ 97 0 (Int32.toNatClampNeg (nI i + 2))) σ), 0, 0) := h2
  have h3 := s_run3 X hRm0 h2a runA
  exact h3

set_option maxRecDepth 100000 in
set_option maxHeartbeats 4000000 in
theorem q3_1957a (x4 : Int32) (σ : MSto) : mrun KT (P3_L 1973 1989) (fun st => some st) 600 (1957, [some (mR 97 0), some (mR 12 0), some (mR 13 0), some (mR 98 0), some (mI x4), none, none, none], [], σ, 0, 0) = mG (vp_in (x4 + 1) (gI σ 97 1 0).toNatClampNeg) (mG (vp_in (x4 + 2) (gI σ 97 1 0).toNatClampNeg) (mG (p_C_look (gI σ 97 0 (Int32.toNatClampNeg (x4 + 1))) (gI σ 97 0 (Int32.toNatClampNeg (x4 + 2))) σ) (some (1973, [some (mR 97 0), some (mR 12 0), some (mR 13 0), some (mR 98 0), some (mI x4), none, none, none], [(mI (v_C_look (gI σ 97 0 (Int32.toNatClampNeg (x4 + 1))) (gI σ 97 0 (Int32.toNatClampNeg (x4 + 2))) σ))], (e_C_look (gI σ 97 0 (Int32.toNatClampNeg (x4 + 1))) (gI σ 97 0 (Int32.toNatClampNeg (x4 + 2))) σ), 0, 0)))) := rfl
set_option maxRecDepth 100000 in
set_option maxHeartbeats 4000000 in
theorem q3_1957b (x4 y0 : Int32) (σ : MSto) : mrun KT (P3_L 1973 1989) (fun st => some st) 600 (1973, [some (mR 97 0), some (mR 12 0), some (mR 13 0), some (mR 98 0), some (mI x4), none, none, none], [(mI y0)], σ, 0, 0) = mG (vp_in (x4 + 1) (gI σ 97 1 0).toNatClampNeg) (mG (vp_in (x4 + 2) (gI σ 97 1 0).toNatClampNeg) (mG (p_M_look (gI σ 97 0 (Int32.toNatClampNeg (x4 + 1))) (gI σ 97 0 (Int32.toNatClampNeg (x4 + 2))) σ) (some (1989, [some (mR 97 0), some (mR 12 0), some (mR 13 0), some (mR 98 0), some (mI x4), none, none, none], [(mI (v_M_look (gI σ 97 0 (Int32.toNatClampNeg (x4 + 1))) (gI σ 97 0 (Int32.toNatClampNeg (x4 + 2))) σ)), (mI y0)], (e_M_look (gI σ 97 0 (Int32.toNatClampNeg (x4 + 1))) (gI σ 97 0 (Int32.toNatClampNeg (x4 + 2))) σ), 0, 0)))) := rfl
set_option maxRecDepth 100000 in
set_option maxHeartbeats 4000000 in
theorem q3_1957c (x4 y0 y1 : Int32) (σ : MSto) : mrun KT (P3_L 1973 1989) (fun st => some st) 600 (1989, [some (mR 97 0), some (mR 12 0), some (mR 13 0), some (mR 98 0), some (mI x4), none, none, none], [(mI y1), (mI y0)], σ, 0, 0) = mIf (y0 = y1) (some (2235, [some (mR 97 0), some (mR 12 0), some (mR 13 0), some (mR 98 0), some (mI x4), none, none, none], [], σ, 0, 0)) (none) := rfl
theorem Ly_1957 {l : Launch} {L i : Nat} (hL : L ≤ 3584) (hi : i + 7 ≤ L) : LTurn l L 1957 i := by
  intro p e R s m args below meth c Q D A eb tL tB c0 s0 ad0 σ0 σ X hR1 hR2 hc hs hI hk
  obtain ⟨hC, h104, hLn⟩ := hI
  have w1 := lvp (c := 1) hLn hL hi (by omega)
  have w2 := lvp (c := 2) hLn hL hi (by omega)
  have wC := w_C_look (gI σ 97 0 (Int32.toNatClampNeg (nI i + 1))) (gI σ 97 0 (Int32.toNatClampNeg (nI i + 2))) σ
  have n1 : gN (e_C_look (gI σ 97 0 (Int32.toNatClampNeg (nI i + 1))) (gI σ 97 0 (Int32.toNatClampNeg (nI i + 2))) σ) 104 = 0 := (wC.n (k := 104) rfl).trans h104
  have hC1 := Cpl.rt hC wC rfl
  have f1 : ∀ j, gI (e_C_look (gI σ 97 0 (Int32.toNatClampNeg (nI i + 1))) (gI σ 97 0 (Int32.toNatClampNeg (nI i + 2))) σ) 97 0 j = gI σ 97 0 j := fun j => wC.i rfl
  have f2 : gI (e_C_look (gI σ 97 0 (Int32.toNatClampNeg (nI i + 1))) (gI σ 97 0 (Int32.toNatClampNeg (nI i + 2))) σ) 97 1 0 = gI σ 97 1 0 := wC.i rfl
  obtain ⟨pC, pM, hv, hC2⟩ := T_look hC1 (gI σ 97 0 (Int32.toNatClampNeg (nI i + 1))) (gI σ 97 0 (Int32.toNatClampNeg (nI i + 2)))
  have wM := w_M_look (gI σ 97 0 (Int32.toNatClampNeg (nI i + 1))) (gI σ 97 0 (Int32.toNatClampNeg (nI i + 2))) (e_C_look (gI σ 97 0 (Int32.toNatClampNeg (nI i + 1))) (gI σ 97 0 (Int32.toNatClampNeg (nI i + 2))) σ)
  have runA := q3_1957a (nI i) σ
  simp only [mG_t w1, mG_t w2, mG_t pC] at runA
  have runB := q3_1957b (nI i) (v_C_look (gI σ 97 0 (Int32.toNatClampNeg (nI i + 1))) (gI σ 97 0 (Int32.toNatClampNeg (nI i + 2))) σ) (e_C_look (gI σ 97 0 (Int32.toNatClampNeg (nI i + 1))) (gI σ 97 0 (Int32.toNatClampNeg (nI i + 2))) σ)
  simp only [f1, f2, mG_t w1, mG_t w2, mG_t pM] at runB
  have runD := q3_1957c (nI i) (v_C_look (gI σ 97 0 (Int32.toNatClampNeg (nI i + 1))) (gI σ 97 0 (Int32.toNatClampNeg (nI i + 2))) σ) (v_M_look (gI σ 97 0 (Int32.toNatClampNeg (nI i + 1))) (gI σ 97 0 (Int32.toNatClampNeg (nI i + 2))) (e_C_look (gI σ 97 0 (Int32.toNatClampNeg (nI i + 1))) (gI σ 97 0 (Int32.toNatClampNeg (nI i + 2))) σ)) (e_M_look (gI σ 97 0 (Int32.toNatClampNeg (nI i + 1))) (gI σ 97 0 (Int32.toNatClampNeg (nI i + 2))) (e_C_look (gI σ 97 0 (Int32.toNatClampNeg (nI i + 1))) (gI σ 97 0 (Int32.toNatClampNeg (nI i + 2))) σ))
  rw [mIf_t hv] at runD
  have hend := hk _ 0 0 ⟨Cpl.lt hC2 wM rfl, (wM.n (k := 104) rfl).trans n1, ((wM.i (k := 97) rfl).trans f2).trans hLn⟩ (by decide) (by decide)
  have hRm : mRoomOK R (P3_L 1973 1989) (c0 + 0) (s0 + 0) := hRm_3 hR1 hR2 (by omega) (by omega)
  have hRm0 : mRoomOK R (P3_L 1973 1989) c0 s0 := hRm_3 hR1 hR2 (by omega) (by omega)
  have h1 := s_run3 X hRm hend runD
  have h2 := s_run3 X hRm h1 runB
  have h2a : mWP p l e R s m args below meth c Q 8 D A eb tL tB ad0 σ0 c0 s0 (1973, LH i, [mI (v_C_look (gI σ 97 0 (Int32.toNatClampNeg (nI i + 1))) (gI σ 97 0 (Int32.toNatClampNeg (nI i + 2))) σ)], (e_C_look (gI σ 97 0 (Int32.toNatClampNeg (nI i + 1))) (gI σ 97 0 (Int32.toNatClampNeg (nI i + 2))) σ), 0, 0) := h2
  have h3 := s_run3 X hRm0 h2a runA
  exact h3

set_option maxRecDepth 100000 in
set_option maxHeartbeats 4000000 in
theorem q3_1994a (x4 : Int32) (σ : MSto) : mrun KT (P3_L 2022 2050) (fun st => some st) 600 (1994, [some (mR 97 0), some (mR 12 0), some (mR 13 0), some (mR 98 0), some (mI x4), none, none, none], [], σ, 0, 0) = mG (vp_in (x4 + 1) (gI σ 97 1 0).toNatClampNeg) (mG (vp_in (x4 + 2) (gI σ 97 1 0).toNatClampNeg) (mG (vp_in (x4 + 3) (gI σ 97 1 0).toNatClampNeg) (mG (vp_in (x4 + 4) (gI σ 97 1 0).toNatClampNeg) (mG (p_C_wanted (gI σ 97 0 (Int32.toNatClampNeg (x4 + 1))) (gI σ 97 0 (Int32.toNatClampNeg (x4 + 2))) (gI σ 97 0 (Int32.toNatClampNeg (x4 + 3))) (gI σ 97 0 (Int32.toNatClampNeg (x4 + 4))) σ) (some (2022, [some (mR 97 0), some (mR 12 0), some (mR 13 0), some (mR 98 0), some (mI x4), none, none, none], [(mI (v_C_wanted (gI σ 97 0 (Int32.toNatClampNeg (x4 + 1))) (gI σ 97 0 (Int32.toNatClampNeg (x4 + 2))) (gI σ 97 0 (Int32.toNatClampNeg (x4 + 3))) (gI σ 97 0 (Int32.toNatClampNeg (x4 + 4))) σ))], (e_C_wanted (gI σ 97 0 (Int32.toNatClampNeg (x4 + 1))) (gI σ 97 0 (Int32.toNatClampNeg (x4 + 2))) (gI σ 97 0 (Int32.toNatClampNeg (x4 + 3))) (gI σ 97 0 (Int32.toNatClampNeg (x4 + 4))) σ), 1, 3)))))) := rfl
set_option maxRecDepth 100000 in
set_option maxHeartbeats 4000000 in
theorem q3_1994b (x4 y0 : Int32) (σ : MSto) : mrun KT (P3_L 2022 2050) (fun st => some st) 600 (2022, [some (mR 97 0), some (mR 12 0), some (mR 13 0), some (mR 98 0), some (mI x4), none, none, none], [(mI y0)], σ, 0, 0) = mG (vp_in (x4 + 1) (gI σ 97 1 0).toNatClampNeg) (mG (vp_in (x4 + 2) (gI σ 97 1 0).toNatClampNeg) (mG (vp_in (x4 + 3) (gI σ 97 1 0).toNatClampNeg) (mG (vp_in (x4 + 4) (gI σ 97 1 0).toNatClampNeg) (mG (p_M_wanted (gI σ 97 0 (Int32.toNatClampNeg (x4 + 1))) (gI σ 97 0 (Int32.toNatClampNeg (x4 + 2))) (gI σ 97 0 (Int32.toNatClampNeg (x4 + 3))) (gI σ 97 0 (Int32.toNatClampNeg (x4 + 4))) σ) (some (2050, [some (mR 97 0), some (mR 12 0), some (mR 13 0), some (mR 98 0), some (mI x4), none, none, none], [(mI (v_M_wanted (gI σ 97 0 (Int32.toNatClampNeg (x4 + 1))) (gI σ 97 0 (Int32.toNatClampNeg (x4 + 2))) (gI σ 97 0 (Int32.toNatClampNeg (x4 + 3))) (gI σ 97 0 (Int32.toNatClampNeg (x4 + 4))) σ)), (mI y0)], (e_M_wanted (gI σ 97 0 (Int32.toNatClampNeg (x4 + 1))) (gI σ 97 0 (Int32.toNatClampNeg (x4 + 2))) (gI σ 97 0 (Int32.toNatClampNeg (x4 + 3))) (gI σ 97 0 (Int32.toNatClampNeg (x4 + 4))) σ), 0, 0)))))) := rfl
set_option maxRecDepth 100000 in
set_option maxHeartbeats 4000000 in
theorem q3_1994c (x4 y0 y1 : Int32) (σ : MSto) : mrun KT (P3_L 2022 2050) (fun st => some st) 600 (2050, [some (mR 97 0), some (mR 12 0), some (mR 13 0), some (mR 98 0), some (mI x4), none, none, none], [(mI y1), (mI y0)], σ, 0, 0) = mIf (y0 = y1) (some (2235, [some (mR 97 0), some (mR 12 0), some (mR 13 0), some (mR 98 0), some (mI x4), none, none, none], [], σ, 0, 0)) (none) := rfl
theorem Ly_1994 {l : Launch} {L i : Nat} (hL : L ≤ 3584) (hi : i + 7 ≤ L) : LTurn l L 1994 i := by
  intro p e R s m args below meth c Q D A eb tL tB c0 s0 ad0 σ0 σ X hR1 hR2 hc hs hI hk
  obtain ⟨hC, h104, hLn⟩ := hI
  have w1 := lvp (c := 1) hLn hL hi (by omega)
  have w2 := lvp (c := 2) hLn hL hi (by omega)
  have w3 := lvp (c := 3) hLn hL hi (by omega)
  have w4 := lvp (c := 4) hLn hL hi (by omega)
  have wC := w_C_wanted (gI σ 97 0 (Int32.toNatClampNeg (nI i + 1))) (gI σ 97 0 (Int32.toNatClampNeg (nI i + 2))) (gI σ 97 0 (Int32.toNatClampNeg (nI i + 3))) (gI σ 97 0 (Int32.toNatClampNeg (nI i + 4))) σ
  have n1 : gN (e_C_wanted (gI σ 97 0 (Int32.toNatClampNeg (nI i + 1))) (gI σ 97 0 (Int32.toNatClampNeg (nI i + 2))) (gI σ 97 0 (Int32.toNatClampNeg (nI i + 3))) (gI σ 97 0 (Int32.toNatClampNeg (nI i + 4))) σ) 104 = 0 := (wC.n (k := 104) rfl).trans h104
  have hC1 := Cpl.rt hC wC rfl
  have f1 : ∀ j, gI (e_C_wanted (gI σ 97 0 (Int32.toNatClampNeg (nI i + 1))) (gI σ 97 0 (Int32.toNatClampNeg (nI i + 2))) (gI σ 97 0 (Int32.toNatClampNeg (nI i + 3))) (gI σ 97 0 (Int32.toNatClampNeg (nI i + 4))) σ) 97 0 j = gI σ 97 0 j := fun j => wC.i rfl
  have f2 : gI (e_C_wanted (gI σ 97 0 (Int32.toNatClampNeg (nI i + 1))) (gI σ 97 0 (Int32.toNatClampNeg (nI i + 2))) (gI σ 97 0 (Int32.toNatClampNeg (nI i + 3))) (gI σ 97 0 (Int32.toNatClampNeg (nI i + 4))) σ) 97 1 0 = gI σ 97 1 0 := wC.i rfl
  obtain ⟨pC, pM, hv, hC2⟩ := T_wanted hC1 (gI σ 97 0 (Int32.toNatClampNeg (nI i + 1))) (gI σ 97 0 (Int32.toNatClampNeg (nI i + 2))) (gI σ 97 0 (Int32.toNatClampNeg (nI i + 3))) (gI σ 97 0 (Int32.toNatClampNeg (nI i + 4)))
  have wM := w_M_wanted (gI σ 97 0 (Int32.toNatClampNeg (nI i + 1))) (gI σ 97 0 (Int32.toNatClampNeg (nI i + 2))) (gI σ 97 0 (Int32.toNatClampNeg (nI i + 3))) (gI σ 97 0 (Int32.toNatClampNeg (nI i + 4))) (e_C_wanted (gI σ 97 0 (Int32.toNatClampNeg (nI i + 1))) (gI σ 97 0 (Int32.toNatClampNeg (nI i + 2))) (gI σ 97 0 (Int32.toNatClampNeg (nI i + 3))) (gI σ 97 0 (Int32.toNatClampNeg (nI i + 4))) σ)
  have runA := q3_1994a (nI i) σ
  simp only [mG_t w1, mG_t w2, mG_t w3, mG_t w4, mG_t pC] at runA
  have runB := q3_1994b (nI i) (v_C_wanted (gI σ 97 0 (Int32.toNatClampNeg (nI i + 1))) (gI σ 97 0 (Int32.toNatClampNeg (nI i + 2))) (gI σ 97 0 (Int32.toNatClampNeg (nI i + 3))) (gI σ 97 0 (Int32.toNatClampNeg (nI i + 4))) σ) (e_C_wanted (gI σ 97 0 (Int32.toNatClampNeg (nI i + 1))) (gI σ 97 0 (Int32.toNatClampNeg (nI i + 2))) (gI σ 97 0 (Int32.toNatClampNeg (nI i + 3))) (gI σ 97 0 (Int32.toNatClampNeg (nI i + 4))) σ)
  simp only [f1, f2, mG_t w1, mG_t w2, mG_t w3, mG_t w4, mG_t pM] at runB
  have runD := q3_1994c (nI i) (v_C_wanted (gI σ 97 0 (Int32.toNatClampNeg (nI i + 1))) (gI σ 97 0 (Int32.toNatClampNeg (nI i + 2))) (gI σ 97 0 (Int32.toNatClampNeg (nI i + 3))) (gI σ 97 0 (Int32.toNatClampNeg (nI i + 4))) σ) (v_M_wanted (gI σ 97 0 (Int32.toNatClampNeg (nI i + 1))) (gI σ 97 0 (Int32.toNatClampNeg (nI i + 2))) (gI σ 97 0 (Int32.toNatClampNeg (nI i + 3))) (gI σ 97 0 (Int32.toNatClampNeg (nI i + 4))) (e_C_wanted (gI σ 97 0 (Int32.toNatClampNeg (nI i + 1))) (gI σ 97 0 (Int32.toNatClampNeg (nI i + 2))) (gI σ 97 0 (Int32.toNatClampNeg (nI i + 3))) (gI σ 97 0 (Int32.toNatClampNeg (nI i + 4))) σ)) (e_M_wanted (gI σ 97 0 (Int32.toNatClampNeg (nI i + 1))) (gI σ 97 0 (Int32.toNatClampNeg (nI i + 2))) (gI σ 97 0 (Int32.toNatClampNeg (nI i + 3))) (gI σ 97 0 (Int32.toNatClampNeg (nI i + 4))) (e_C_wanted (gI σ 97 0 (Int32.toNatClampNeg (nI i + 1))) (gI σ 97 0 (Int32.toNatClampNeg (nI i + 2))) (gI σ 97 0 (Int32.toNatClampNeg (nI i + 3))) (gI σ 97 0 (Int32.toNatClampNeg (nI i + 4))) σ))
  rw [mIf_t hv] at runD
  have hend := hk _ 1 3 ⟨Cpl.lt hC2 wM rfl, (wM.n (k := 104) rfl).trans n1, ((wM.i (k := 97) rfl).trans f2).trans hLn⟩ (by decide) (by decide)
  have hRm : mRoomOK R (P3_L 2022 2050) (c0 + 1) (s0 + 3) := hRm_3 hR1 hR2 (by omega) (by omega)
  have hRm0 : mRoomOK R (P3_L 2022 2050) c0 s0 := hRm_3 hR1 hR2 (by omega) (by omega)
  have h1 := s_run3 X hRm hend runD
  have h2 := s_run3 X hRm h1 runB
  have h2a : mWP p l e R s m args below meth c Q 8 D A eb tL tB ad0 σ0 c0 s0 (2022, LH i, [mI (v_C_wanted (gI σ 97 0 (Int32.toNatClampNeg (nI i + 1))) (gI σ 97 0 (Int32.toNatClampNeg (nI i + 2))) (gI σ 97 0 (Int32.toNatClampNeg (nI i + 3))) (gI σ 97 0 (Int32.toNatClampNeg (nI i + 4))) σ)], (e_C_wanted (gI σ 97 0 (Int32.toNatClampNeg (nI i + 1))) (gI σ 97 0 (Int32.toNatClampNeg (nI i + 2))) (gI σ 97 0 (Int32.toNatClampNeg (nI i + 3))) (gI σ 97 0 (Int32.toNatClampNeg (nI i + 4))) σ), 1, 3) := h2
  have h3 := s_run3 X hRm0 h2a runA
  exact h3

set_option maxRecDepth 100000 in
set_option maxHeartbeats 4000000 in
theorem q3_2055a (x4 : Int32) (σ : MSto) : mrun KT (P3_L 2065 2075) (fun st => some st) 600 (2055, [some (mR 97 0), some (mR 12 0), some (mR 13 0), some (mR 98 0), some (mI x4), none, none, none], [], σ, 0, 0) = mG (vp_in (x4 + 1) (gI σ 97 1 0).toNatClampNeg) (mG (p_C_omits (gI σ 97 0 (Int32.toNatClampNeg (x4 + 1))) σ) (some (2065, [some (mR 97 0), some (mR 12 0), some (mR 13 0), some (mR 98 0), some (mI x4), none, none, none], [(mI (v_C_omits (gI σ 97 0 (Int32.toNatClampNeg (x4 + 1))) σ))], (e_C_omits (gI σ 97 0 (Int32.toNatClampNeg (x4 + 1))) σ), 0, 0))) := rfl
set_option maxRecDepth 100000 in
set_option maxHeartbeats 4000000 in
theorem q3_2055b (x4 y0 : Int32) (σ : MSto) : mrun KT (P3_L 2065 2075) (fun st => some st) 600 (2065, [some (mR 97 0), some (mR 12 0), some (mR 13 0), some (mR 98 0), some (mI x4), none, none, none], [(mI y0)], σ, 0, 0) = mG (vp_in (x4 + 1) (gI σ 97 1 0).toNatClampNeg) (mG (p_M_omits (gI σ 97 0 (Int32.toNatClampNeg (x4 + 1))) σ) (some (2075, [some (mR 97 0), some (mR 12 0), some (mR 13 0), some (mR 98 0), some (mI x4), none, none, none], [(mI (v_M_omits (gI σ 97 0 (Int32.toNatClampNeg (x4 + 1))) σ)), (mI y0)], (e_M_omits (gI σ 97 0 (Int32.toNatClampNeg (x4 + 1))) σ), 0, 0))) := rfl
set_option maxRecDepth 100000 in
set_option maxHeartbeats 4000000 in
theorem q3_2055c (x4 y0 y1 : Int32) (σ : MSto) : mrun KT (P3_L 2065 2075) (fun st => some st) 600 (2075, [some (mR 97 0), some (mR 12 0), some (mR 13 0), some (mR 98 0), some (mI x4), none, none, none], [(mI y1), (mI y0)], σ, 0, 0) = mIf (y0 = y1) (some (2235, [some (mR 97 0), some (mR 12 0), some (mR 13 0), some (mR 98 0), some (mI x4), none, none, none], [], σ, 0, 0)) (none) := rfl
theorem Ly_2055 {l : Launch} {L i : Nat} (hL : L ≤ 3584) (hi : i + 7 ≤ L) : LTurn l L 2055 i := by
  intro p e R s m args below meth c Q D A eb tL tB c0 s0 ad0 σ0 σ X hR1 hR2 hc hs hI hk
  obtain ⟨hC, h104, hLn⟩ := hI
  have w1 := lvp (c := 1) hLn hL hi (by omega)
  have wC := w_C_omits (gI σ 97 0 (Int32.toNatClampNeg (nI i + 1))) σ
  have n1 : gN (e_C_omits (gI σ 97 0 (Int32.toNatClampNeg (nI i + 1))) σ) 104 = 0 := (wC.n (k := 104) rfl).trans h104
  have hC1 := Cpl.rt hC wC rfl
  have f1 : ∀ j, gI (e_C_omits (gI σ 97 0 (Int32.toNatClampNeg (nI i + 1))) σ) 97 0 j = gI σ 97 0 j := fun j => wC.i rfl
  have f2 : gI (e_C_omits (gI σ 97 0 (Int32.toNatClampNeg (nI i + 1))) σ) 97 1 0 = gI σ 97 1 0 := wC.i rfl
  obtain ⟨pC, pM, hv, hC2⟩ := T_omits hC1 (gI σ 97 0 (Int32.toNatClampNeg (nI i + 1)))
  have wM := w_M_omits (gI σ 97 0 (Int32.toNatClampNeg (nI i + 1))) (e_C_omits (gI σ 97 0 (Int32.toNatClampNeg (nI i + 1))) σ)
  have runA := q3_2055a (nI i) σ
  simp only [mG_t w1, mG_t pC] at runA
  have runB := q3_2055b (nI i) (v_C_omits (gI σ 97 0 (Int32.toNatClampNeg (nI i + 1))) σ) (e_C_omits (gI σ 97 0 (Int32.toNatClampNeg (nI i + 1))) σ)
  simp only [f1, f2, mG_t w1, mG_t pM] at runB
  have runD := q3_2055c (nI i) (v_C_omits (gI σ 97 0 (Int32.toNatClampNeg (nI i + 1))) σ) (v_M_omits (gI σ 97 0 (Int32.toNatClampNeg (nI i + 1))) (e_C_omits (gI σ 97 0 (Int32.toNatClampNeg (nI i + 1))) σ)) (e_M_omits (gI σ 97 0 (Int32.toNatClampNeg (nI i + 1))) (e_C_omits (gI σ 97 0 (Int32.toNatClampNeg (nI i + 1))) σ))
  rw [mIf_t hv] at runD
  have hend := hk _ 0 0 ⟨Cpl.lt hC2 wM rfl, (wM.n (k := 104) rfl).trans n1, ((wM.i (k := 97) rfl).trans f2).trans hLn⟩ (by decide) (by decide)
  have hRm : mRoomOK R (P3_L 2065 2075) (c0 + 0) (s0 + 0) := hRm_3 hR1 hR2 (by omega) (by omega)
  have hRm0 : mRoomOK R (P3_L 2065 2075) c0 s0 := hRm_3 hR1 hR2 (by omega) (by omega)
  have h1 := s_run3 X hRm hend runD
  have h2 := s_run3 X hRm h1 runB
  have h2a : mWP p l e R s m args below meth c Q 8 D A eb tL tB ad0 σ0 c0 s0 (2065, LH i, [mI (v_C_omits (gI σ 97 0 (Int32.toNatClampNeg (nI i + 1))) σ)], (e_C_omits (gI σ 97 0 (Int32.toNatClampNeg (nI i + 1))) σ), 0, 0) := h2
  have h3 := s_run3 X hRm0 h2a runA
  exact h3

set_option maxRecDepth 100000 in
set_option maxHeartbeats 4000000 in
theorem q3_2080a (x4 : Int32) (σ : MSto) : mrun KT (P3_L 2090 2100) (fun st => some st) 600 (2080, [some (mR 97 0), some (mR 12 0), some (mR 13 0), some (mR 98 0), some (mI x4), none, none, none], [], σ, 0, 0) = mG (vp_in (x4 + 1) (gI σ 97 1 0).toNatClampNeg) (some (2090, [some (mR 97 0), some (mR 12 0), some (mR 13 0), some (mR 98 0), some (mI x4), none, none, none], [(mI (v_C_seed (gI σ 97 0 (Int32.toNatClampNeg (x4 + 1))) σ))], (e_C_seed (gI σ 97 0 (Int32.toNatClampNeg (x4 + 1))) σ), 0, 0)) := rfl
set_option maxRecDepth 100000 in
set_option maxHeartbeats 4000000 in
theorem q3_2080b (x4 y0 : Int32) (σ : MSto) : mrun KT (P3_L 2090 2100) (fun st => some st) 600 (2090, [some (mR 97 0), some (mR 12 0), some (mR 13 0), some (mR 98 0), some (mI x4), none, none, none], [(mI y0)], σ, 0, 0) = mG (vp_in (x4 + 1) (gI σ 97 1 0).toNatClampNeg) (some (2100, [some (mR 97 0), some (mR 12 0), some (mR 13 0), some (mR 98 0), some (mI x4), none, none, none], [(mI (v_M_seed (gI σ 97 0 (Int32.toNatClampNeg (x4 + 1))) σ)), (mI y0)], (e_M_seed (gI σ 97 0 (Int32.toNatClampNeg (x4 + 1))) σ), 0, 0)) := rfl
set_option maxRecDepth 100000 in
set_option maxHeartbeats 4000000 in
theorem q3_2080c (x4 y0 y1 : Int32) (σ : MSto) : mrun KT (P3_L 2090 2100) (fun st => some st) 600 (2100, [some (mR 97 0), some (mR 12 0), some (mR 13 0), some (mR 98 0), some (mI x4), none, none, none], [(mI y1), (mI y0)], σ, 0, 0) = mIf (y0 = y1) (some (2235, [some (mR 97 0), some (mR 12 0), some (mR 13 0), some (mR 98 0), some (mI x4), none, none, none], [], σ, 0, 0)) (none) := rfl
theorem Ly_2080 {l : Launch} {L i : Nat} (hL : L ≤ 3584) (hi : i + 7 ≤ L) : LTurn l L 2080 i := by
  intro p e R s m args below meth c Q D A eb tL tB c0 s0 ad0 σ0 σ X hR1 hR2 hc hs hI hk
  obtain ⟨hC, h104, hLn⟩ := hI
  have w1 := lvp (c := 1) hLn hL hi (by omega)
  have wC := w_C_seed (gI σ 97 0 (Int32.toNatClampNeg (nI i + 1))) σ
  have n1 : gN (e_C_seed (gI σ 97 0 (Int32.toNatClampNeg (nI i + 1))) σ) 104 = 0 := (wC.n (k := 104) rfl).trans h104
  have hC1 := Cpl.rt hC wC rfl
  have f1 : ∀ j, gI (e_C_seed (gI σ 97 0 (Int32.toNatClampNeg (nI i + 1))) σ) 97 0 j = gI σ 97 0 j := fun j => wC.i rfl
  have f2 : gI (e_C_seed (gI σ 97 0 (Int32.toNatClampNeg (nI i + 1))) σ) 97 1 0 = gI σ 97 1 0 := wC.i rfl
  obtain ⟨hv, hC2⟩ := T_seed hC1 (gI σ 97 0 (Int32.toNatClampNeg (nI i + 1)))
  have wM := w_M_seed (gI σ 97 0 (Int32.toNatClampNeg (nI i + 1))) (e_C_seed (gI σ 97 0 (Int32.toNatClampNeg (nI i + 1))) σ)
  have runA := q3_2080a (nI i) σ
  simp only [mG_t w1] at runA
  have runB := q3_2080b (nI i) (v_C_seed (gI σ 97 0 (Int32.toNatClampNeg (nI i + 1))) σ) (e_C_seed (gI σ 97 0 (Int32.toNatClampNeg (nI i + 1))) σ)
  simp only [f1, f2, mG_t w1] at runB
  have runD := q3_2080c (nI i) (v_C_seed (gI σ 97 0 (Int32.toNatClampNeg (nI i + 1))) σ) (v_M_seed (gI σ 97 0 (Int32.toNatClampNeg (nI i + 1))) (e_C_seed (gI σ 97 0 (Int32.toNatClampNeg (nI i + 1))) σ)) (e_M_seed (gI σ 97 0 (Int32.toNatClampNeg (nI i + 1))) (e_C_seed (gI σ 97 0 (Int32.toNatClampNeg (nI i + 1))) σ))
  rw [mIf_t hv] at runD
  have hend := hk _ 0 0 ⟨Cpl.lt hC2 wM rfl, (wM.n (k := 104) rfl).trans n1, ((wM.i (k := 97) rfl).trans f2).trans hLn⟩ (by decide) (by decide)
  have hRm : mRoomOK R (P3_L 2090 2100) (c0 + 0) (s0 + 0) := hRm_3 hR1 hR2 (by omega) (by omega)
  have hRm0 : mRoomOK R (P3_L 2090 2100) c0 s0 := hRm_3 hR1 hR2 (by omega) (by omega)
  have h1 := s_run3 X hRm hend runD
  have h2 := s_run3 X hRm h1 runB
  have h2a : mWP p l e R s m args below meth c Q 8 D A eb tL tB ad0 σ0 c0 s0 (2090, LH i, [mI (v_C_seed (gI σ 97 0 (Int32.toNatClampNeg (nI i + 1))) σ)], (e_C_seed (gI σ 97 0 (Int32.toNatClampNeg (nI i + 1))) σ), 0, 0) := h2
  have h3 := s_run3 X hRm0 h2a runA
  exact h3

set_option maxRecDepth 100000 in
set_option maxHeartbeats 4000000 in
theorem q3_2105a (x4 : Int32) (σ : MSto) : mrun KT (P3_L 2115 2125) (fun st => some st) 600 (2105, [some (mR 97 0), some (mR 12 0), some (mR 13 0), some (mR 98 0), some (mI x4), none, none, none], [], σ, 0, 0) = mG (vp_in (x4 + 1) (gI σ 97 1 0).toNatClampNeg) (mG (p_C_keep (gI σ 97 0 (Int32.toNatClampNeg (x4 + 1))) σ) (some (2115, [some (mR 97 0), some (mR 12 0), some (mR 13 0), some (mR 98 0), some (mI x4), none, none, none], [(mI (v_C_keep (gI σ 97 0 (Int32.toNatClampNeg (x4 + 1))) σ))], (e_C_keep (gI σ 97 0 (Int32.toNatClampNeg (x4 + 1))) σ), 3, 23))) := rfl
set_option maxRecDepth 100000 in
set_option maxHeartbeats 4000000 in
theorem q3_2105b (x4 y0 : Int32) (σ : MSto) : mrun KT (P3_L 2115 2125) (fun st => some st) 600 (2115, [some (mR 97 0), some (mR 12 0), some (mR 13 0), some (mR 98 0), some (mI x4), none, none, none], [(mI y0)], σ, 0, 0) = mG (vp_in (x4 + 1) (gI σ 97 1 0).toNatClampNeg) (mG (p_M_keep (gI σ 97 0 (Int32.toNatClampNeg (x4 + 1))) σ) (some (2125, [some (mR 97 0), some (mR 12 0), some (mR 13 0), some (mR 98 0), some (mI x4), none, none, none], [(mI (v_M_keep (gI σ 97 0 (Int32.toNatClampNeg (x4 + 1))) σ)), (mI y0)], (e_M_keep (gI σ 97 0 (Int32.toNatClampNeg (x4 + 1))) σ), 0, 0))) := rfl
set_option maxRecDepth 100000 in
set_option maxHeartbeats 4000000 in
theorem q3_2105c (x4 y0 y1 : Int32) (σ : MSto) : mrun KT (P3_L 2115 2125) (fun st => some st) 600 (2125, [some (mR 97 0), some (mR 12 0), some (mR 13 0), some (mR 98 0), some (mI x4), none, none, none], [(mI y1), (mI y0)], σ, 0, 0) = mIf (y0 = y1) (some (2235, [some (mR 97 0), some (mR 12 0), some (mR 13 0), some (mR 98 0), some (mI x4), none, none, none], [], σ, 0, 0)) (none) := rfl
theorem Ly_2105 {l : Launch} {L i : Nat} (hL : L ≤ 3584) (hi : i + 7 ≤ L) : LTurn l L 2105 i := by
  intro p e R s m args below meth c Q D A eb tL tB c0 s0 ad0 σ0 σ X hR1 hR2 hc hs hI hk
  obtain ⟨hC, h104, hLn⟩ := hI
  have w1 := lvp (c := 1) hLn hL hi (by omega)
  have wC := (w_C_keep hC h104 (gI σ 97 0 (Int32.toNatClampNeg (nI i + 1)))).1
  have n1 := (w_C_keep hC h104 (gI σ 97 0 (Int32.toNatClampNeg (nI i + 1)))).2
  have hC1 := Cpl.rt hC wC rfl
  have f1 : ∀ j, gI (e_C_keep (gI σ 97 0 (Int32.toNatClampNeg (nI i + 1))) σ) 97 0 j = gI σ 97 0 j := fun j => wC.i rfl
  have f2 : gI (e_C_keep (gI σ 97 0 (Int32.toNatClampNeg (nI i + 1))) σ) 97 1 0 = gI σ 97 1 0 := wC.i rfl
  obtain ⟨pC, pM, hv, hC2⟩ := T_keepX hC1 h104 (gI σ 97 0 (Int32.toNatClampNeg (nI i + 1)))
  have wM := w_M_keep (gI σ 97 0 (Int32.toNatClampNeg (nI i + 1))) (e_C_keep (gI σ 97 0 (Int32.toNatClampNeg (nI i + 1))) σ)
  have runA := q3_2105a (nI i) σ
  simp only [mG_t w1, mG_t pC] at runA
  have runB := q3_2105b (nI i) (v_C_keep (gI σ 97 0 (Int32.toNatClampNeg (nI i + 1))) σ) (e_C_keep (gI σ 97 0 (Int32.toNatClampNeg (nI i + 1))) σ)
  simp only [f1, f2, mG_t w1, mG_t pM] at runB
  have runD := q3_2105c (nI i) (v_C_keep (gI σ 97 0 (Int32.toNatClampNeg (nI i + 1))) σ) (v_M_keep (gI σ 97 0 (Int32.toNatClampNeg (nI i + 1))) (e_C_keep (gI σ 97 0 (Int32.toNatClampNeg (nI i + 1))) σ)) (e_M_keep (gI σ 97 0 (Int32.toNatClampNeg (nI i + 1))) (e_C_keep (gI σ 97 0 (Int32.toNatClampNeg (nI i + 1))) σ))
  rw [mIf_t hv] at runD
  have hend := hk _ 3 23 ⟨Cpl.lt hC2 wM rfl, (wM.n (k := 104) rfl).trans n1, ((wM.i (k := 97) rfl).trans f2).trans hLn⟩ (by decide) (by decide)
  have hRm : mRoomOK R (P3_L 2115 2125) (c0 + 3) (s0 + 23) := hRm_3 hR1 hR2 (by omega) (by omega)
  have hRm0 : mRoomOK R (P3_L 2115 2125) c0 s0 := hRm_3 hR1 hR2 (by omega) (by omega)
  have h1 := s_run3 X hRm hend runD
  have h2 := s_run3 X hRm h1 runB
  have h2a : mWP p l e R s m args below meth c Q 8 D A eb tL tB ad0 σ0 c0 s0 (2115, LH i, [mI (v_C_keep (gI σ 97 0 (Int32.toNatClampNeg (nI i + 1))) σ)], (e_C_keep (gI σ 97 0 (Int32.toNatClampNeg (nI i + 1))) σ), 3, 23) := h2
  have h3 := s_run3 X hRm0 h2a runA
  exact h3

set_option maxRecDepth 100000 in
set_option maxHeartbeats 4000000 in
theorem q3_2130a (x4 : Int32) (σ : MSto) : mrun KT (P3_L 2140 2150) (fun st => some st) 600 (2130, [some (mR 97 0), some (mR 12 0), some (mR 13 0), some (mR 98 0), some (mI x4), none, none, none], [], σ, 0, 0) = mG (vp_in (x4 + 1) (gI σ 97 1 0).toNatClampNeg) (mG (p_C_again (gI σ 97 0 (Int32.toNatClampNeg (x4 + 1))) σ) (some (2140, [some (mR 97 0), some (mR 12 0), some (mR 13 0), some (mR 98 0), some (mI x4), none, none, none], [(mI (v_C_again (gI σ 97 0 (Int32.toNatClampNeg (x4 + 1))) σ))], (e_C_again (gI σ 97 0 (Int32.toNatClampNeg (x4 + 1))) σ), 0, 0))) := rfl
set_option maxRecDepth 100000 in
set_option maxHeartbeats 4000000 in
theorem q3_2130b (x4 y0 : Int32) (σ : MSto) : mrun KT (P3_L 2140 2150) (fun st => some st) 600 (2140, [some (mR 97 0), some (mR 12 0), some (mR 13 0), some (mR 98 0), some (mI x4), none, none, none], [(mI y0)], σ, 0, 0) = mG (vp_in (x4 + 1) (gI σ 97 1 0).toNatClampNeg) (mG (p_M_again (gI σ 97 0 (Int32.toNatClampNeg (x4 + 1))) σ) (some (2150, [some (mR 97 0), some (mR 12 0), some (mR 13 0), some (mR 98 0), some (mI x4), none, none, none], [(mI (v_M_again (gI σ 97 0 (Int32.toNatClampNeg (x4 + 1))) σ)), (mI y0)], (e_M_again (gI σ 97 0 (Int32.toNatClampNeg (x4 + 1))) σ), 0, 0))) := rfl
set_option maxRecDepth 100000 in
set_option maxHeartbeats 4000000 in
theorem q3_2130c (x4 y0 y1 : Int32) (σ : MSto) : mrun KT (P3_L 2140 2150) (fun st => some st) 600 (2150, [some (mR 97 0), some (mR 12 0), some (mR 13 0), some (mR 98 0), some (mI x4), none, none, none], [(mI y1), (mI y0)], σ, 0, 0) = mIf (y0 = y1) (some (2235, [some (mR 97 0), some (mR 12 0), some (mR 13 0), some (mR 98 0), some (mI x4), none, none, none], [], σ, 0, 0)) (none) := rfl
theorem Ly_2130 {l : Launch} {L i : Nat} (hL : L ≤ 3584) (hi : i + 7 ≤ L) : LTurn l L 2130 i := by
  intro p e R s m args below meth c Q D A eb tL tB c0 s0 ad0 σ0 σ X hR1 hR2 hc hs hI hk
  obtain ⟨hC, h104, hLn⟩ := hI
  have w1 := lvp (c := 1) hLn hL hi (by omega)
  have wC := w_C_again (gI σ 97 0 (Int32.toNatClampNeg (nI i + 1))) σ
  have n1 : gN (e_C_again (gI σ 97 0 (Int32.toNatClampNeg (nI i + 1))) σ) 104 = 0 := (wC.n (k := 104) rfl).trans h104
  have hC1 := Cpl.rt hC wC rfl
  have f1 : ∀ j, gI (e_C_again (gI σ 97 0 (Int32.toNatClampNeg (nI i + 1))) σ) 97 0 j = gI σ 97 0 j := fun j => wC.i rfl
  have f2 : gI (e_C_again (gI σ 97 0 (Int32.toNatClampNeg (nI i + 1))) σ) 97 1 0 = gI σ 97 1 0 := wC.i rfl
  obtain ⟨pC, pM, hv, hC2⟩ := T_again hC1 (gI σ 97 0 (Int32.toNatClampNeg (nI i + 1)))
  have wM := w_M_again (gI σ 97 0 (Int32.toNatClampNeg (nI i + 1))) (e_C_again (gI σ 97 0 (Int32.toNatClampNeg (nI i + 1))) σ)
  have runA := q3_2130a (nI i) σ
  simp only [mG_t w1, mG_t pC] at runA
  have runB := q3_2130b (nI i) (v_C_again (gI σ 97 0 (Int32.toNatClampNeg (nI i + 1))) σ) (e_C_again (gI σ 97 0 (Int32.toNatClampNeg (nI i + 1))) σ)
  simp only [f1, f2, mG_t w1, mG_t pM] at runB
  have runD := q3_2130c (nI i) (v_C_again (gI σ 97 0 (Int32.toNatClampNeg (nI i + 1))) σ) (v_M_again (gI σ 97 0 (Int32.toNatClampNeg (nI i + 1))) (e_C_again (gI σ 97 0 (Int32.toNatClampNeg (nI i + 1))) σ)) (e_M_again (gI σ 97 0 (Int32.toNatClampNeg (nI i + 1))) (e_C_again (gI σ 97 0 (Int32.toNatClampNeg (nI i + 1))) σ))
  rw [mIf_t hv] at runD
  have hend := hk _ 0 0 ⟨Cpl.lt hC2 wM rfl, (wM.n (k := 104) rfl).trans n1, ((wM.i (k := 97) rfl).trans f2).trans hLn⟩ (by decide) (by decide)
  have hRm : mRoomOK R (P3_L 2140 2150) (c0 + 0) (s0 + 0) := hRm_3 hR1 hR2 (by omega) (by omega)
  have hRm0 : mRoomOK R (P3_L 2140 2150) c0 s0 := hRm_3 hR1 hR2 (by omega) (by omega)
  have h1 := s_run3 X hRm hend runD
  have h2 := s_run3 X hRm h1 runB
  have h2a : mWP p l e R s m args below meth c Q 8 D A eb tL tB ad0 σ0 c0 s0 (2140, LH i, [mI (v_C_again (gI σ 97 0 (Int32.toNatClampNeg (nI i + 1))) σ)], (e_C_again (gI σ 97 0 (Int32.toNatClampNeg (nI i + 1))) σ), 0, 0) := h2
  have h3 := s_run3 X hRm0 h2a runA
  exact h3

set_option maxRecDepth 100000 in
set_option maxHeartbeats 4000000 in
theorem q3_2155a (x4 : Int32) (σ : MSto) : mrun KT (P3_L 2165 2175) (fun st => some st) 600 (2155, [some (mR 97 0), some (mR 12 0), some (mR 13 0), some (mR 98 0), some (mI x4), none, none, none], [], σ, 0, 0) = mG (vp_in (x4 + 1) (gI σ 97 1 0).toNatClampNeg) (mG (p_C_told (gI σ 97 0 (Int32.toNatClampNeg (x4 + 1))) σ) (some (2165, [some (mR 97 0), some (mR 12 0), some (mR 13 0), some (mR 98 0), some (mI x4), none, none, none], [(mI (v_C_told (gI σ 97 0 (Int32.toNatClampNeg (x4 + 1))) σ))], σ, 0, 0))) := rfl
set_option maxRecDepth 100000 in
set_option maxHeartbeats 4000000 in
theorem q3_2155b (x4 y0 : Int32) (σ : MSto) : mrun KT (P3_L 2165 2175) (fun st => some st) 600 (2165, [some (mR 97 0), some (mR 12 0), some (mR 13 0), some (mR 98 0), some (mI x4), none, none, none], [(mI y0)], σ, 0, 0) = mG (vp_in (x4 + 1) (gI σ 97 1 0).toNatClampNeg) (some (2175, [some (mR 97 0), some (mR 12 0), some (mR 13 0), some (mR 98 0), some (mI x4), none, none, none], [(mI (v_M_told (gI σ 97 0 (Int32.toNatClampNeg (x4 + 1))) σ)), (mI y0)], (e_M_told (gI σ 97 0 (Int32.toNatClampNeg (x4 + 1))) σ), 0, 0)) := rfl
set_option maxRecDepth 100000 in
set_option maxHeartbeats 4000000 in
theorem q3_2155c (x4 y0 y1 : Int32) (σ : MSto) : mrun KT (P3_L 2165 2175) (fun st => some st) 600 (2175, [some (mR 97 0), some (mR 12 0), some (mR 13 0), some (mR 98 0), some (mI x4), none, none, none], [(mI y1), (mI y0)], σ, 0, 0) = mIf (y0 = y1) (some (2235, [some (mR 97 0), some (mR 12 0), some (mR 13 0), some (mR 98 0), some (mI x4), none, none, none], [], σ, 0, 0)) (none) := rfl
theorem Ly_2155 {l : Launch} {L i : Nat} (hL : L ≤ 3584) (hi : i + 7 ≤ L) : LTurn l L 2155 i := by
  intro p e R s m args below meth c Q D A eb tL tB c0 s0 ad0 σ0 σ X hR1 hR2 hc hs hI hk
  obtain ⟨hC, h104, hLn⟩ := hI
  have w1 := lvp (c := 1) hLn hL hi (by omega)
  have hC1 := hC
  have f2 : gI σ 97 1 0 = gI σ 97 1 0 := rfl
  have n1 := h104
  obtain ⟨pC, hv, hC2⟩ := T_told hC1 (gI σ 97 0 (Int32.toNatClampNeg (nI i + 1)))
  have wM := w_M_told (gI σ 97 0 (Int32.toNatClampNeg (nI i + 1))) σ
  have runA := q3_2155a (nI i) σ
  simp only [mG_t w1, mG_t pC] at runA
  have runB := q3_2155b (nI i) (v_C_told (gI σ 97 0 (Int32.toNatClampNeg (nI i + 1))) σ) σ
  simp only [mG_t w1] at runB
  have runD := q3_2155c (nI i) (v_C_told (gI σ 97 0 (Int32.toNatClampNeg (nI i + 1))) σ) (v_M_told (gI σ 97 0 (Int32.toNatClampNeg (nI i + 1))) σ) (e_M_told (gI σ 97 0 (Int32.toNatClampNeg (nI i + 1))) σ)
  rw [mIf_t hv] at runD
  have hend := hk _ 0 0 ⟨Cpl.lt hC2 wM rfl, (wM.n (k := 104) rfl).trans n1, ((wM.i (k := 97) rfl).trans f2).trans hLn⟩ (by decide) (by decide)
  have hRm : mRoomOK R (P3_L 2165 2175) (c0 + 0) (s0 + 0) := hRm_3 hR1 hR2 (by omega) (by omega)
  have hRm0 : mRoomOK R (P3_L 2165 2175) c0 s0 := hRm_3 hR1 hR2 (by omega) (by omega)
  have h1 := s_run3 X hRm hend runD
  have h2 := s_run3 X hRm h1 runB
  have h2a : mWP p l e R s m args below meth c Q 8 D A eb tL tB ad0 σ0 c0 s0 (2165, LH i, [mI (v_C_told (gI σ 97 0 (Int32.toNatClampNeg (nI i + 1))) σ)], σ, 0, 0) := h2
  have h3 := s_run3 X hRm0 h2a runA
  exact h3


