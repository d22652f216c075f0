/-! the law's cases -/
set_option maxRecDepth 100000 in
set_option maxHeartbeats 4000000 in
theorem q3_1106a (x4 : Int32) (σ : MSto) : mrun KT (P3_L 1122 1138) (fun st => some st) 600 (1106, [some (mR 97 0), some (mR 12 0), some (mR 13 0), some (mR 98 0), some (mI x4), none, none, none], [], σ, 0, 0) = mG (vp_in (x4 + 1) (gI σ 97 1 0).toNatClampNeg) (mG (vp_in (x4 + 2) (gI σ 97 1 0).toNatClampNeg) (mG (p_C_within (gI σ 97 0 (Int32.toNatClampNeg (x4 + 1))) (gI σ 97 0 (Int32.toNatClampNeg (x4 + 2))) σ) (some (1122, [some (mR 97 0), some (mR 12 0), some (mR 13 0), some (mR 98 0), some (mI x4), none, none, none], [(mI (v_C_within (gI σ 97 0 (Int32.toNatClampNeg (x4 + 1))) (gI σ 97 0 (Int32.toNatClampNeg (x4 + 2))) σ))], (e_C_within (gI σ 97 0 (Int32.toNatClampNeg (x4 + 1))) (gI σ 97 0 (Int32.toNatClampNeg (x4 + 2))) σ), 0, 0)))) := rfl
set_option maxRecDepth 100000 in
set_option maxHeartbeats 4000000 in
theorem q3_1106b (x4 y0 : Int32) (σ : MSto) : mrun KT (P3_L 1122 1138) (fun st => some st) 600 (1122, [some (mR 97 0), some (mR 12 0), some (mR 13 0), some (mR 98 0), some (mI x4), none, none, none], [(mI y0)], σ, 0, 0) = mG (vp_in (x4 + 1) (gI σ 97 1 0).toNatClampNeg) (mG (vp_in (x4 + 2) (gI σ 97 1 0).toNatClampNeg) (mG (p_M_within (gI σ 97 0 (Int32.toNatClampNeg (x4 + 1))) (gI σ 97 0 (Int32.toNatClampNeg (x4 + 2))) σ) (some (1138, [some (mR 97 0), some (mR 12 0), some (mR 13 0), some (mR 98 0), some (mI x4), none, none, none], [(mI (v_M_within (gI σ 97 0 (Int32.toNatClampNeg (x4 + 1))) (gI σ 97 0 (Int32.toNatClampNeg (x4 + 2))) σ)), (mI y0)], (e_M_within (gI σ 97 0 (Int32.toNatClampNeg (x4 + 1))) (gI σ 97 0 (Int32.toNatClampNeg (x4 + 2))) σ), 0, 0)))) := rfl
set_option maxRecDepth 100000 in
set_option maxHeartbeats 4000000 in
theorem q3_1106c (x4 y0 y1 : Int32) (σ : MSto) : mrun KT (P3_L 1122 1138) (fun st => some st) 600 (1138, [some (mR 97 0), some (mR 12 0), some (mR 13 0), some (mR 98 0), some (mI x4), none, none, none], [(mI y1), (mI y0)], σ, 0, 0) = mIf (y0 = y1) (some (2235, [some (mR 97 0), some (mR 12 0), some (mR 13 0), some (mR 98 0), some (mI x4), none, none, none], [], σ, 0, 0)) (none) := rfl
theorem Ly_1106 {l : Launch} {L i : Nat} (hL : L ≤ 3584) (hi : i + 7 ≤ L) : LTurn l L 1106 i := by
  intro p e R s m args below meth c Q D A eb tL tB c0 s0 ad0 σ0 σ X hR1 hR2 hc hs hI hk
  obtain ⟨hC, h104, hLn⟩ := hI
  have w1 := lvp (c := 1) hLn hL hi (by omega)
  have w2 := lvp (c := 2) hLn hL hi (by omega)
  have wC := w_C_within (gI σ 97 0 (Int32.toNatClampNeg (nI i + 1))) (gI σ 97 0 (Int32.toNatClampNeg (nI i + 2))) σ
  have n1 : gN (e_C_within (gI σ 97 0 (Int32.toNatClampNeg (nI i + 1))) (gI σ 97 0 (Int32.toNatClampNeg (nI i + 2))) σ) 104 = 0 := (wC.n (k := 104) rfl).trans h104
  have hC1 := Cpl.rt hC wC rfl
  have f1 : ∀ j, gI (e_C_within (gI σ 97 0 (Int32.toNatClampNeg (nI i + 1))) (gI σ 97 0 (Int32.toNatClampNeg (nI i + 2))) σ) 97 0 j = gI σ 97 0 j := fun j => wC.i rfl
  have f2 : gI (e_C_within (gI σ 97 0 (Int32.toNatClampNeg (nI i + 1))) (gI σ 97 0 (Int32.toNatClampNeg (nI i + 2))) σ) 97 1 0 = gI σ 97 1 0 := wC.i rfl
  obtain ⟨pC, pM, hv, hC2⟩ := T_within hC1 (gI σ 97 0 (Int32.toNatClampNeg (nI i + 1))) (gI σ 97 0 (Int32.toNatClampNeg (nI i + 2)))
  have wM := w_M_within (gI σ 97 0 (Int32.toNatClampNeg (nI i + 1))) (gI σ 97 0 (Int32.toNatClampNeg (nI i + 2))) (e_C_within (gI σ 97 0 (Int32.toNatClampNeg (nI i + 1))) (gI σ 97 0 (Int32.toNatClampNeg (nI i + 2))) σ)
  have runA := q3_1106a (nI i) σ
  simp only [mG_t w1, mG_t w2, mG_t pC] at runA
  have runB := q3_1106b (nI i) (v_C_within (gI σ 97 0 (Int32.toNatClampNeg (nI i + 1))) (gI σ 97 0 (Int32.toNatClampNeg (nI i + 2))) σ) (e_C_within (gI σ 97 0 (Int32.toNatClampNeg (nI i + 1))) (gI σ 97 0 (Int32.toNatClampNeg (nI i + 2))) σ)
  simp only [f1, f2, mG_t w1, mG_t w2, mG_t pM] at runB
  have runD := q3_1106c (nI i) (v_C_within (gI σ 97 0 (Int32.toNatClampNeg (nI i + 1))) (gI σ 97 0 (Int32.toNatClampNeg (nI i + 2))) σ) (v_M_within (gI σ 97 0 (Int32.toNatClampNeg (nI i + 1))) (gI σ 97 0 (Int32.toNatClampNeg (nI i + 2))) (e_C_within (gI σ 97 0 (Int32.toNatClampNeg (nI i + 1))) (gI σ 97 0 (Int32.toNatClampNeg (nI i + 2))) σ)) (e_M_within (gI σ 97 0 (Int32.toNatClampNeg (nI i + 1))) (gI σ 97 0 (Int32.toNatClampNeg (nI i + 2))) (e_C_within (gI σ 97 0 (Int32.toNatClampNeg (nI i + 1))) (gI σ 97 0 (Int32.toNatClampNeg (nI i + 2))) σ))
  rw [mIf_t hv] at runD
  have hend := hk _ 0 0 ⟨Cpl.lt hC2 wM rfl, (wM.n (k := 104) rfl).trans n1, ((wM.i (k := 97) rfl).trans f2).trans hLn⟩ (by decide) (by decide)
  have hRm : mRoomOK R (P3_L 1122 1138) (c0 + 0) (s0 + 0) := hRm_3 hR1 hR2 (by omega) (by omega)
  have hRm0 : mRoomOK R (P3_L 1122 1138) c0 s0 := hRm_3 hR1 hR2 (by omega) (by omega)
  have h1 := s_run3 X hRm hend runD
  have h2 := s_run3 X hRm h1 runB
  have h2a : mWP p l e R s m args below meth c Q 8 D A eb tL tB ad0 σ0 c0 s0 (1122, LH i, [mI (v_C_within (gI σ 97 0 (Int32.toNatClampNeg (nI i + 1))) (gI σ 97 0 (Int32.toNatClampNeg (nI i + 2))) σ)], (e_C_within (gI σ 97 0 (Int32.toNatClampNeg (nI i + 1))) (gI σ 97 0 (Int32.toNatClampNeg (nI i + 2))) σ), 0, 0) := h2
  have h3 := s_run3 X hRm0 h2a runA
  exact h3

set_option maxRecDepth 100000 in
set_option maxHeartbeats 4000000 in
theorem q3_1143a (x4 : Int32) (σ : MSto) : mrun KT (P3_L 1165 1187) (fun st => some st) 600 (1143, [some (mR 97 0), some (mR 12 0), some (mR 13 0), some (mR 98 0), some (mI x4), none, none, none], [], σ, 0, 0) = mG (vp_in (x4 + 1) (gI σ 97 1 0).toNatClampNeg) (mG (vp_in (x4 + 2) (gI σ 97 1 0).toNatClampNeg) (mG (vp_in (x4 + 3) (gI σ 97 1 0).toNatClampNeg) (mG (p_C_between (gI σ 97 0 (Int32.toNatClampNeg (x4 + 1))) (gI σ 97 0 (Int32.toNatClampNeg (x4 + 2))) (gI σ 97 0 (Int32.toNatClampNeg (x4 + 3))) σ) (some (1165, [some (mR 97 0), some (mR 12 0), some (mR 13 0), some (mR 98 0), some (mI x4), none, none, none], [(mI (v_C_between (gI σ 97 0 (Int32.toNatClampNeg (x4 + 1))) (gI σ 97 0 (Int32.toNatClampNeg (x4 + 2))) (gI σ 97 0 (Int32.toNatClampNeg (x4 + 3))) σ))], (e_C_between (gI σ 97 0 (Int32.toNatClampNeg (x4 + 1))) (gI σ 97 0 (Int32.toNatClampNeg (x4 + 2))) (gI σ 97 0 (Int32.toNatClampNeg (x4 + 3))) σ), 0, 0))))) := rfl
set_option maxRecDepth 100000 in
set_option maxHeartbeats 4000000 in
theorem q3_1143b (x4 y0 : Int32) (σ : MSto) : mrun KT (P3_L 1165 1187) (fun st => some st) 600 (1165, [some (mR 97 0), some (mR 12 0), some (mR 13 0), some (mR 98 0), some (mI x4), none, none, none], [(mI y0)], σ, 0, 0) = mG (vp_in (x4 + 1) (gI σ 97 1 0).toNatClampNeg) (mG (vp_in (x4 + 2) (gI σ 97 1 0).toNatClampNeg) (mG (vp_in (x4 + 3) (gI σ 97 1 0).toNatClampNeg) (mG (p_M_between (gI σ 97 0 (Int32.toNatClampNeg (x4 + 1))) (gI σ 97 0 (Int32.toNatClampNeg (x4 + 2))) (gI σ 97 0 (Int32.toNatClampNeg (x4 + 3))) σ) (some (1187, [some (mR 97 0), some (mR 12 0), some (mR 13 0), some (mR 98 0), some (mI x4), none, none, none], [(mI (v_M_between (gI σ 97 0 (Int32.toNatClampNeg (x4 + 1))) (gI σ 97 0 (Int32.toNatClampNeg (x4 + 2))) (gI σ 97 0 (Int32.toNatClampNeg (x4 + 3))) σ)), (mI y0)], (e_M_between (gI σ 97 0 (Int32.toNatClampNeg (x4 + 1))) (gI σ 97 0 (Int32.toNatClampNeg (x4 + 2))) (gI σ 97 0 (Int32.toNatClampNeg (x4 + 3))) σ), 0, 0))))) := rfl
set_option maxRecDepth 100000 in
set_option maxHeartbeats 4000000 in
theorem q3_1143c (x4 y0 y1 : Int32) (σ : MSto) : mrun KT (P3_L 1165 1187) (fun st => some st) 600 (1187, [some (mR 97 0), some (mR 12 0), some (mR 13 0), some (mR 98 0), some (mI x4), none, none, none], [(mI y1), (mI y0)], σ, 0, 0) = mIf (y0 = y1) (some (2235, [some (mR 97 0), some (mR 12 0), some (mR 13 0), some (mR 98 0), some (mI x4), none, none, none], [], σ, 0, 0)) (none) := rfl
theorem Ly_1143 {l : Launch} {L i : Nat} (hL : L ≤ 3584) (hi : i + 7 ≤ L) : LTurn l L 1143 i := by
  intro p e R s m args below meth c Q D A eb tL tB c0 s0 ad0 σ0 σ X hR1 hR2 hc hs hI hk
  obtain ⟨hC, h104, hLn⟩ := hI
  have w1 := lvp (c := 1) hLn hL hi (by omega)
  have w2 := lvp (c := 2) hLn hL hi (by omega)
  have w3 := lvp (c := 3) hLn hL hi (by omega)
  have wC := w_C_between (gI σ 97 0 (Int32.toNatClampNeg (nI i + 1))) (gI σ 97 0 (Int32.toNatClampNeg (nI i + 2))) (gI σ 97 0 (Int32.toNatClampNeg (nI i + 3))) σ
  have n1 : gN (e_C_between (gI σ 97 0 (Int32.toNatClampNeg (nI i + 1))) (gI σ 97 0 (Int32.toNatClampNeg (nI i + 2))) (gI σ 97 0 (Int32.toNatClampNeg (nI i + 3))) σ) 104 = 0 := (wC.n (k := 104) rfl).trans h104
  have hC1 := Cpl.rt hC wC rfl
  have f1 : ∀ j, gI (e_C_between (gI σ 97 0 (Int32.toNatClampNeg (nI i + 1))) (gI σ 97 0 (Int32.toNatClampNeg (nI i + 2))) (gI σ 97 0 (Int32.toNatClampNeg (nI i + 3))) σ) 97 0 j = gI σ 97 0 j := fun j => wC.i rfl
  have f2 : gI (e_C_between (gI σ 97 0 (Int32.toNatClampNeg (nI i + 1))) (gI σ 97 0 (Int32.toNatClampNeg (nI i + 2))) (gI σ 97 0 (Int32.toNatClampNeg (nI i + 3))) σ) 97 1 0 = gI σ 97 1 0 := wC.i rfl
  obtain ⟨pC, pM, hv, hC2⟩ := T_between hC1 (gI σ 97 0 (Int32.toNatClampNeg (nI i + 1))) (gI σ 97 0 (Int32.toNatClampNeg (nI i + 2))) (gI σ 97 0 (Int32.toNatClampNeg (nI i + 3)))
  have wM := w_M_between (gI σ 97 0 (Int32.toNatClampNeg (nI i + 1))) (gI σ 97 0 (Int32.toNatClampNeg (nI i + 2))) (gI σ 97 0 (Int32.toNatClampNeg (nI i + 3))) (e_C_between (gI σ 97 0 (Int32.toNatClampNeg (nI i + 1))) (gI σ 97 0 (Int32.toNatClampNeg (nI i + 2))) (gI σ 97 0 (Int32.toNatClampNeg (nI i + 3))) σ)
  have runA := q3_1143a (nI i) σ
  simp only [mG_t w1, mG_t w2, mG_t w3, mG_t pC] at runA
  have runB := q3_1143b (nI i) (v_C_between (gI σ 97 0 (Int32.toNatClampNeg (nI i + 1))) (gI σ 97 0 (Int32.toNatClampNeg (nI i + 2))) (gI σ 97 0 (Int32.toNatClampNeg (nI i + 3))) σ) (e_C_between (gI σ 97 0 (Int32.toNatClampNeg (nI i + 1))) (gI σ 97 0 (Int32.toNatClampNeg (nI i + 2))) (gI σ 97 0 (Int32.toNatClampNeg (nI i + 3))) σ)
  simp only [f1, f2, mG_t w1, mG_t w2, mG_t w3, mG_t pM] at runB
  have runD := q3_1143c (nI i) (v_C_between (gI σ 97 0 (Int32.toNatClampNeg (nI i + 1))) (gI σ 97 0 (Int32.toNatClampNeg (nI i + 2))) (gI σ 97 0 (Int32.toNatClampNeg (nI i + 3))) σ) (v_M_between (gI σ 97 0 (Int32.toNatClampNeg (nI i + 1))) (gI σ 97 0 (Int32.toNatClampNeg (nI i + 2))) (gI σ 97 0 (Int32.toNatClampNeg (nI i + 3))) (e_C_between (gI σ 97 0 (Int32.toNatClampNeg (nI i + 1))) (gI σ 97 0 (Int32.toNatClampNeg (nI i + 2))) (gI σ 97 0 (Int32.toNatClampNeg (nI i + 3))) σ)) (e_M_between (gI σ 97 0 (Int32.toNatClampNeg (nI i + 1))) (gI σ 97 0 (Int32.toNatClampNeg (nI i + 2))) (gI σ 97 0 (Int32.toNatClampNeg (nI i + 3))) (e_C_between (gI σ 97 0 (Int32.toNatClampNeg (nI i + 1))) (gI σ 97 0 (Int32.toNatClampNeg (nI i + 2))) (gI σ 97 0 (Int32.toNatClampNeg (nI i + 3))) σ))
  rw [mIf_t hv] at runD
  have hend := hk _ 0 0 ⟨Cpl.lt hC2 wM rfl, (wM.n (k := 104) rfl).trans n1, ((wM.i (k := 97) rfl).trans f2).trans hLn⟩ (by decide) (by decide)
  have hRm : mRoomOK R (P3_L 1165 1187) (c0 + 0) (s0 + 0) := hRm_3 hR1 hR2 (by omega) (by omega)
  have hRm0 : mRoomOK R (P3_L 1165 1187) c0 s0 := hRm_3 hR1 hR2 (by omega) (by omega)
  have h1 := s_run3 X hRm hend runD
  have h2 := s_run3 X hRm h1 runB
  have h2a : mWP p l e R s m args below meth c Q 8 D A eb tL tB ad0 σ0 c0 s0 (1165, LH i, [mI (v_C_between (gI σ 97 0 (Int32.toNatClampNeg (nI i + 1))) (gI σ 97 0 (Int32.toNatClampNeg (nI i + 2))) (gI σ 97 0 (Int32.toNatClampNeg (nI i + 3))) σ)], (e_C_between (gI σ 97 0 (Int32.toNatClampNeg (nI i + 1))) (gI σ 97 0 (Int32.toNatClampNeg (nI i + 2))) (gI σ 97 0 (Int32.toNatClampNeg (nI i + 3))) σ), 0, 0) := h2
  have h3 := s_run3 X hRm0 h2a runA
  exact h3

set_option maxRecDepth 100000 in
set_option maxHeartbeats 4000000 in
theorem q3_1192a (x4 : Int32) (σ : MSto) : mrun KT (P3_L 1202 1212) (fun st => some st) 600 (1192, [some (mR 97 0), some (mR 12 0), some (mR 13 0), some (mR 98 0), some (mI x4), none, none, none], [], σ, 0, 0) = mG (vp_in (x4 + 1) (gI σ 97 1 0).toNatClampNeg) (mG (p_C_apart (gI σ 97 0 (Int32.toNatClampNeg (x4 + 1))) σ) (some (1202, [some (mR 97 0), some (mR 12 0), some (mR 13 0), some (mR 98 0), some (mI x4), none, none, none], [(mI (v_C_apart (gI σ 97 0 (Int32.toNatClampNeg (x4 + 1))) σ))], (e_C_apart (gI σ 97 0 (Int32.toNatClampNeg (x4 + 1))) σ), 0, 0))) := rfl
set_option maxRecDepth 100000 in
set_option maxHeartbeats 4000000 in
theorem q3_1192b (x4 y0 : Int32) (σ : MSto) : mrun KT (P3_L 1202 1212) (fun st => some st) 600 (1202, [some (mR 97 0), some (mR 12 0), some (mR 13 0), some (mR 98 0), some (mI x4), none, none, none], [(mI y0)], σ, 0, 0) = mG (vp_in (x4 + 1) (gI σ 97 1 0).toNatClampNeg) (mG (p_M_apart (gI σ 97 0 (Int32.toNatClampNeg (x4 + 1))) σ) (some (1212, [some (mR 97 0), some (mR 12 0), some (mR 13 0), some (mR 98 0), some (mI x4), none, none, none], [(mI (v_M_apart (gI σ 97 0 (Int32.toNatClampNeg (x4 + 1))) σ)), (mI y0)], (e_M_apart (gI σ 97 0 (Int32.toNatClampNeg (x4 + 1))) σ), 0, 0))) := rfl
set_option maxRecDepth 100000 in
set_option maxHeartbeats 4000000 in
theorem q3_1192c (x4 y0 y1 : Int32) (σ : MSto) : mrun KT (P3_L 1202 1212) (fun st => some st) 600 (1212, [some (mR 97 0), some (mR 12 0), some (mR 13 0), some (mR 98 0), some (mI x4), none, none, none], [(mI y1), (mI y0)], σ, 0, 0) = mIf (y0 = y1) (some (2235, [some (mR 97 0), some (mR 12 0), some (mR 13 0), some (mR 98 0), some (mI x4), none, none, none], [], σ, 0, 0)) (none) := rfl
theorem Ly_1192 {l : Launch} {L i : Nat} (hL : L ≤ 3584) (hi : i + 7 ≤ L) : LTurn l L 1192 i := by
  intro p e R s m args below meth c Q D A eb tL tB c0 s0 ad0 σ0 σ X hR1 hR2 hc hs hI hk
  obtain ⟨hC, h104, hLn⟩ := hI
  have w1 := lvp (c := 1) hLn hL hi (by omega)
  have wC := w_C_apart (gI σ 97 0 (Int32.toNatClampNeg (nI i + 1))) σ
  have n1 : gN (e_C_apart (gI σ 97 0 (Int32.toNatClampNeg (nI i + 1))) σ) 104 = 0 := (wC.n (k := 104) rfl).trans h104
  have hC1 := Cpl.rt hC wC rfl
  have f1 : ∀ j, gI (e_C_apart (gI σ 97 0 (Int32.toNatClampNeg (nI i + 1))) σ) 97 0 j = gI σ 97 0 j := fun j => wC.i rfl
  have f2 : gI (e_C_apart (gI σ 97 0 (Int32.toNatClampNeg (nI i + 1))) σ) 97 1 0 = gI σ 97 1 0 := wC.i rfl
  obtain ⟨pC, pM, hv, hC2⟩ := T_apart hC1 (gI σ 97 0 (Int32.toNatClampNeg (nI i + 1)))
  have wM := w_M_apart (gI σ 97 0 (Int32.toNatClampNeg (nI i + 1))) (e_C_apart (gI σ 97 0 (Int32.toNatClampNeg (nI i + 1))) σ)
  have runA := q3_1192a (nI i) σ
  simp only [mG_t w1, mG_t pC] at runA
  have runB := q3_1192b (nI i) (v_C_apart (gI σ 97 0 (Int32.toNatClampNeg (nI i + 1))) σ) (e_C_apart (gI σ 97 0 (Int32.toNatClampNeg (nI i + 1))) σ)
  simp only [f1, f2, mG_t w1, mG_t pM] at runB
  have runD := q3_1192c (nI i) (v_C_apart (gI σ 97 0 (Int32.toNatClampNeg (nI i + 1))) σ) (v_M_apart (gI σ 97 0 (Int32.toNatClampNeg (nI i + 1))) (e_C_apart (gI σ 97 0 (Int32.toNatClampNeg (nI i + 1))) σ)) (e_M_apart (gI σ 97 0 (Int32.toNatClampNeg (nI i + 1))) (e_C_apart (gI σ 97 0 (Int32.toNatClampNeg (nI i + 1))) σ))
  rw [mIf_t hv] at runD
  have hend := hk _ 0 0 ⟨Cpl.lt hC2 wM rfl, (wM.n (k := 104) rfl).trans n1, ((wM.i (k := 97) rfl).trans f2).trans hLn⟩ (by decide) (by decide)
  have hRm : mRoomOK R (P3_L 1202 1212) (c0 + 0) (s0 + 0) := hRm_3 hR1 hR2 (by omega) (by omega)
  have hRm0 : mRoomOK R (P3_L 1202 1212) c0 s0 := hRm_3 hR1 hR2 (by omega) (by omega)
  have h1 := s_run3 X hRm hend runD
  have h2 := s_run3 X hRm h1 runB
  have h2a : mWP p l e R s m args below meth c Q 8 D A eb tL tB ad0 σ0 c0 s0 (1202, LH i, [mI (v_C_apart (gI σ 97 0 (Int32.toNatClampNeg (nI i + 1))) σ)], (e_C_apart (gI σ 97 0 (Int32.toNatClampNeg (nI i + 1))) σ), 0, 0) := h2
  have h3 := s_run3 X hRm0 h2a runA
  exact h3

set_option maxRecDepth 100000 in
set_option maxHeartbeats 4000000 in
theorem q3_1217a (x4 : Int32) (σ : MSto) : mrun KT (P3_L 1227 1237) (fun st => some st) 600 (1217, [some (mR 97 0), some (mR 12 0), some (mR 13 0), some (mR 98 0), some (mI x4), none, none, none], [], σ, 0, 0) = mG (vp_in (x4 + 1) (gI σ 97 1 0).toNatClampNeg) (mG (p_C_slope (gI σ 97 0 (Int32.toNatClampNeg (x4 + 1))) σ) (some (1227, [some (mR 97 0), some (mR 12 0), some (mR 13 0), some (mR 98 0), some (mI x4), none, none, none], [(mI (v_C_slope (gI σ 97 0 (Int32.toNatClampNeg (x4 + 1))) σ))], (e_C_slope (gI σ 97 0 (Int32.toNatClampNeg (x4 + 1))) σ), 0, 0))) := rfl
set_option maxRecDepth 100000 in
set_option maxHeartbeats 4000000 in
theorem q3_1217b (x4 y0 : Int32) (σ : MSto) : mrun KT (P3_L 1227 1237) (fun st => some st) 600 (1227, [some (mR 97 0), some (mR 12 0), some (mR 13 0), some (mR 98 0), some (mI x4), none, none, none], [(mI y0)], σ, 0, 0) = mG (vp_in (x4 + 1) (gI σ 97 1 0).toNatClampNeg) (mG (p_M_slope (gI σ 97 0 (Int32.toNatClampNeg (x4 + 1))) σ) (some (1237, [some (mR 97 0), some (mR 12 0), some (mR 13 0), some (mR 98 0), some (mI x4), none, none, none], [(mI (v_M_slope (gI σ 97 0 (Int32.toNatClampNeg (x4 + 1))) σ)), (mI y0)], (e_M_slope (gI σ 97 0 (Int32.toNatClampNeg (x4 + 1))) σ), 0, 0))) := rfl
set_option maxRecDepth 100000 in
set_option maxHeartbeats 4000000 in
theorem q3_1217c (x4 y0 y1 : Int32) (σ : MSto) : mrun KT (P3_L 1227 1237) (fun st => some st) 600 (1237, [some (mR 97 0), some (mR 12 0), some (mR 13 0), some (mR 98 0), some (mI x4), none, none, none], [(mI y1), (mI y0)], σ, 0, 0) = mIf (y0 = y1) (some (2235, [some (mR 97 0), some (mR 12 0), some (mR 13 0), some (mR 98 0), some (mI x4), none, none, none], [], σ, 0, 0)) (none) := rfl
theorem Ly_1217 {l : Launch} {L i : Nat} (hL : L ≤ 3584) (hi : i + 7 ≤ L) : LTurn l L 1217 i := by
  intro p e R s m args below meth c Q D A eb tL tB c0 s0 ad0 σ0 σ X hR1 hR2 hc hs hI hk
  obtain ⟨hC, h104, hLn⟩ := hI
  have w1 := lvp (c := 1) hLn hL hi (by omega)
  have wC := w_C_slope (gI σ 97 0 (Int32.toNatClampNeg (nI i + 1))) σ
  have n1 : gN (e_C_slope (gI σ 97 0 (Int32.toNatClampNeg (nI i + 1))) σ) 104 = 0 := (wC.n (k := 104) rfl).trans h104
  have hC1 := Cpl.rt hC wC rfl
  have f1 : ∀ j, gI (e_C_slope (gI σ 97 0 (Int32.toNatClampNeg (nI i + 1))) σ) 97 0 j = gI σ 97 0 j := fun j => wC.i rfl
  have f2 : gI (e_C_slope (gI σ 97 0 (Int32.toNatClampNeg (nI i + 1))) σ) 97 1 0 = gI σ 97 1 0 := wC.i rfl
  obtain ⟨pC, pM, hv, hC2⟩ := T_slope hC1 (gI σ 97 0 (Int32.toNatClampNeg (nI i + 1)))
  have wM := w_M_slope (gI σ 97 0 (Int32.toNatClampNeg (nI i + 1))) (e_C_slope (gI σ 97 0 (Int32.toNatClampNeg (nI i + 1))) σ)
  have runA := q3_1217a (nI i) σ
  simp only [mG_t w1, mG_t pC] at runA
  have runB := q3_1217b (nI i) (v_C_slope (gI σ 97 0 (Int32.toNatClampNeg (nI i + 1))) σ) (e_C_slope (gI σ 97 0 (Int32.toNatClampNeg (nI i + 1))) σ)
  simp only [f1, f2, mG_t w1, mG_t pM] at runB
  have runD := q3_1217c (nI i) (v_C_slope (gI σ 97 0 (Int32.toNatClampNeg (nI i + 1))) σ) (v_M_slope (gI σ 97 0 (Int32.toNatClampNeg (nI i + 1))) (e_C_slope (gI σ 97 0 (Int32.toNatClampNeg (nI i + 1))) σ)) (e_M_slope (gI σ 97 0 (Int32.toNatClampNeg (nI i + 1))) (e_C_slope (gI σ 97 0 (Int32.toNatClampNeg (nI i + 1))) σ))
  rw [mIf_t hv] at runD
  have hend := hk _ 0 0 ⟨Cpl.lt hC2 wM rfl, (wM.n (k := 104) rfl).trans n1, ((wM.i (k := 97) rfl).trans f2).trans hLn⟩ (by decide) (by decide)
  have hRm : mRoomOK R (P3_L 1227 1237) (c0 + 0) (s0 + 0) := hRm_3 hR1 hR2 (by omega) (by omega)
  have hRm0 : mRoomOK R (P3_L 1227 1237) c0 s0 := hRm_3 hR1 hR2 (by omega) (by omega)
  have h1 := s_run3 X hRm hend runD
  have h2 := s_run3 X hRm h1 runB
  have h2a : mWP p l e R s m args below meth c Q 8 D A eb tL tB ad0 σ0 c0 s0 (1227, LH i, [mI (v_C_slope (gI σ 97 0 (Int32.toNatClampNeg (nI i + 1))) σ)], (e_C_slope (gI σ 97 0 (Int32.toNatClampNeg (nI i + 1))) σ), 0, 0) := h2
  have h3 := s_run3 X hRm0 h2a runA
  exact h3

set_option maxRecDepth 100000 in
set_option maxHeartbeats 4000000 in
theorem q3_1242a (x4 : Int32) (σ : MSto) : mrun KT (P3_L 1252 1262) (fun st => some st) 600 (1242, [some (mR 97 0), some (mR 12 0), some (mR 13 0), some (mR 98 0), some (mI x4), none, none, none], [], σ, 0, 0) = mG (vp_in (x4 + 1) (gI σ 97 1 0).toNatClampNeg) (mG (p_C_lot (gI σ 97 0 (Int32.toNatClampNeg (x4 + 1))) σ) (some (1252, [some (mR 97 0), some (mR 12 0), some (mR 13 0), some (mR 98 0), some (mI x4), none, none, none], [(mI (v_C_lot (gI σ 97 0 (Int32.toNatClampNeg (x4 + 1))) σ))], (e_C_lot (gI σ 97 0 (Int32.toNatClampNeg (x4 + 1))) σ), 0, 0))) := rfl
set_option maxRecDepth 100000 in
set_option maxHeartbeats 4000000 in
theorem q3_1242b (x4 y0 : Int32) (σ : MSto) : mrun KT (P3_L 1252 1262) (fun st => some st) 600 (1252, [some (mR 97 0), some (mR 12 0), some (mR 13 0), some (mR 98 0), some (mI x4), none, none, none], [(mI y0)], σ, 0, 0) = mG (vp_in (x4 + 1) (gI σ 97 1 0).toNatClampNeg) (mG (p_M_lot (gI σ 97 0 (Int32.toNatClampNeg (x4 + 1))) σ) (some (1262, [some (mR 97 0), some (mR 12 0), some (mR 13 0), some (mR 98 0), some (mI x4), none, none, none], [(mI (v_M_lot (gI σ 97 0 (Int32.toNatClampNeg (x4 + 1))) σ)), (mI y0)], (e_M_lot (gI σ 97 0 (Int32.toNatClampNeg (x4 + 1))) σ), 0, 0))) := rfl
set_option maxRecDepth 100000 in
set_option maxHeartbeats 4000000 in
theorem q3_1242c (x4 y0 y1 : Int32) (σ : MSto) : mrun KT (P3_L 1252 1262) (fun st => some st) 600 (1262, [some (mR 97 0), some (mR 12 0), some (mR 13 0), some (mR 98 0), some (mI x4), none, none, none], [(mI y1), (mI y0)], σ, 0, 0) = mIf (y0 = y1) (some (2235, [some (mR 97 0), some (mR 12 0), some (mR 13 0), some (mR 98 0), some (mI x4), none, none, none], [], σ, 0, 0)) (none) := rfl
theorem Ly_1242 {l : Launch} {L i : Nat} (hL : L ≤ 3584) (hi : i + 7 ≤ L) : LTurn l L 1242 i := by
  intro p e R s m args below meth c Q D A eb tL tB c0 s0 ad0 σ0 σ X hR1 hR2 hc hs hI hk
  obtain ⟨hC, h104, hLn⟩ := hI
  have w1 := lvp (c := 1) hLn hL hi (by omega)
  have wC := w_C_lot (gI σ 97 0 (Int32.toNatClampNeg (nI i + 1))) σ
  have n1 : gN (e_C_lot (gI σ 97 0 (Int32.toNatClampNeg (nI i + 1))) σ) 104 = 0 := (wC.n (k := 104) rfl).trans h104
  have hC1 := Cpl.rt hC wC rfl
  have f1 : ∀ j, gI (e_C_lot (gI σ 97 0 (Int32.toNatClampNeg (nI i + 1))) σ) 97 0 j = gI σ 97 0 j := fun j => wC.i rfl
  have f2 : gI (e_C_lot (gI σ 97 0 (Int32.toNatClampNeg (nI i + 1))) σ) 97 1 0 = gI σ 97 1 0 := wC.i rfl
  obtain ⟨pC, pM, hv, hC2⟩ := T_lot hC1 (gI σ 97 0 (Int32.toNatClampNeg (nI i + 1)))
  have wM := w_M_lot (gI σ 97 0 (Int32.toNatClampNeg (nI i + 1))) (e_C_lot (gI σ 97 0 (Int32.toNatClampNeg (nI i + 1))) σ)
  have runA := q3_1242a (nI i) σ
  simp only [mG_t w1, mG_t pC] at runA
  have runB := q3_1242b (nI i) (v_C_lot (gI σ 97 0 (Int32.toNatClampNeg (nI i + 1))) σ) (e_C_lot (gI σ 97 0 (Int32.toNatClampNeg (nI i + 1))) σ)
  simp only [f1, f2, mG_t w1, mG_t pM] at runB
  have runD := q3_1242c (nI i) (v_C_lot (gI σ 97 0 (Int32.toNatClampNeg (nI i + 1))) σ) (v_M_lot (gI σ 97 0 (Int32.toNatClampNeg (nI i + 1))) (e_C_lot (gI σ 97 0 (Int32.toNatClampNeg (nI i + 1))) σ)) (e_M_lot (gI σ 97 0 (Int32.toNatClampNeg (nI i + 1))) (e_C_lot (gI σ 97 0 (Int32.toNatClampNeg (nI i + 1))) σ))
  rw [mIf_t hv] at runD
  have hend := hk _ 0 0 ⟨Cpl.lt hC2 wM rfl, (wM.n (k := 104) rfl).trans n1, ((wM.i (k := 97) rfl).trans f2).trans hLn⟩ (by decide) (by decide)
  have hRm : mRoomOK R (P3_L 1252 1262) (c0 + 0) (s0 + 0) := hRm_3 hR1 hR2 (by omega) (by omega)
  have hRm0 : mRoomOK R (P3_L 1252 1262) c0 s0 := hRm_3 hR1 hR2 (by omega) (by omega)
  have h1 := s_run3 X hRm hend runD
  have h2 := s_run3 X hRm h1 runB
  have h2a : mWP p l e R s m args below meth c Q 8 D A eb tL tB ad0 σ0 c0 s0 (1252, LH i, [mI (v_C_lot (gI σ 97 0 (Int32.toNatClampNeg (nI i + 1))) σ)], (e_C_lot (gI σ 97 0 (Int32.toNatClampNeg (nI i + 1))) σ), 0, 0) := h2
  have h3 := s_run3 X hRm0 h2a runA
  exact h3

set_option maxRecDepth 100000 in
set_option maxHeartbeats 4000000 in
theorem q3_1267a (x4 : Int32) (σ : MSto) : mrun KT (P3_L 1277 1287) (fun st => some st) 600 (1267, [some (mR 97 0), some (mR 12 0), some (mR 13 0), some (mR 98 0), some (mI x4), none, none, none], [], σ, 0, 0) = mG (vp_in (x4 + 1) (gI σ 97 1 0).toNatClampNeg) (mG (p_C_odd (gI σ 97 0 (Int32.toNatClampNeg (x4 + 1))) σ) (some (1277, [some (mR 97 0), some (mR 12 0), some (mR 13 0), some (mR 98 0), some (mI x4), none, none, none], [(mI (v_C_odd (gI σ 97 0 (Int32.toNatClampNeg (x4 + 1))) σ))], (e_C_odd (gI σ 97 0 (Int32.toNatClampNeg (x4 + 1))) σ), 0, 0))) := rfl
set_option maxRecDepth 100000 in
set_option maxHeartbeats 4000000 in
theorem q3_1267b (x4 y0 : Int32) (σ : MSto) : mrun KT (P3_L 1277 1287) (fun st => some st) 600 (1277, [some (mR 97 0), some (mR 12 0), some (mR 13 0), some (mR 98 0), some (mI x4), none, none, none], [(mI y0)], σ, 0, 0) = mG (vp_in (x4 + 1) (gI σ 97 1 0).toNatClampNeg) (mG (p_M_odd (gI σ 97 0 (Int32.toNatClampNeg (x4 + 1))) σ) (some (1287, [some (mR 97 0), some (mR 12 0), some (mR 13 0), some (mR 98 0), some (mI x4), none, none, none], [(mI (v_M_odd (gI σ 97 0 (Int32.toNatClampNeg (x4 + 1))) σ)), (mI y0)], (e_M_odd (gI σ 97 0 (Int32.toNatClampNeg (x4 + 1))) σ), 0, 0))) := rfl
set_option maxRecDepth 100000 in
set_option maxHeartbeats 4000000 in
theorem q3_1267c (x4 y0 y1 : Int32) (σ : MSto) : mrun KT (P3_L 1277 1287) (fun st => some st) 600 (1287, [some (mR 97 0), some (mR 12 0), some (mR 13 0), some (mR 98 0), some (mI x4), none, none, none], [(mI y1), (mI y0)], σ, 0, 0) = mIf (y0 = y1) (some (2235, [some (mR 97 0), some (mR 12 0), some (mR 13 0), some (mR 98 0), some (mI x4), none, none, none], [], σ, 0, 0)) (none) := rfl
theorem Ly_1267 {l : Launch} {L i : Nat} (hL : L ≤ 3584) (hi : i + 7 ≤ L) : LTurn l L 1267 i := by
  intro p e R s m args below meth c Q D A eb tL tB c0 s0 ad0 σ0 σ X hR1 hR2 hc hs hI hk
  obtain ⟨hC, h104, hLn⟩ := hI
  have w1 := lvp (c := 1) hLn hL hi (by omega)
  have wC := w_C_odd (gI σ 97 0 (Int32.toNatClampNeg (nI i + 1))) σ
  have n1 : gN (e_C_odd (gI σ 97 0 (Int32.toNatClampNeg (nI i + 1))) σ) 104 = 0 := (wC.n (k := 104) rfl).trans h104
  have hC1 := Cpl.rt hC wC rfl
  have f1 : ∀ j, gI (e_C_odd (gI σ 97 0 (Int32.toNatClampNeg (nI i + 1))) σ) 97 0 j = gI σ 97 0 j := fun j => wC.i rfl
  have f2 : gI (e_C_odd (gI σ 97 0 (Int32.toNatClampNeg (nI i + 1))) σ) 97 1 0 = gI σ 97 1 0 := wC.i rfl
  obtain ⟨pC, pM, hv, hC2⟩ := T_odd hC1 (gI σ 97 0 (Int32.toNatClampNeg (nI i + 1)))
  have wM := w_M_odd (gI σ 97 0 (Int32.toNatClampNeg (nI i + 1))) (e_C_odd (gI σ 97 0 (Int32.toNatClampNeg (nI i + 1))) σ)
  have runA := q3_1267a (nI i) σ
  simp only [mG_t w1, mG_t pC] at runA
  have runB := q3_1267b (nI i) (v_C_odd (gI σ 97 0 (Int32.toNatClampNeg (nI i + 1))) σ) (e_C_odd (gI σ 97 0 (Int32.toNatClampNeg (nI i + 1))) σ)
  simp only [f1, f2, mG_t w1, mG_t pM] at runB
  have runD := q3_1267c (nI i) (v_C_odd (gI σ 97 0 (Int32.toNatClampNeg (nI i + 1))) σ) (v_M_odd (gI σ 97 0 (Int32.toNatClampNeg (nI i + 1))) (e_C_odd (gI σ 97 0 (Int32.toNatClampNeg (nI i + 1))) σ)) (e_M_odd (gI σ 97 0 (Int32.toNatClampNeg (nI i + 1))) (e_C_odd (gI σ 97 0 (Int32.toNatClampNeg (nI i + 1))) σ))
  rw [mIf_t hv] at runD
  have hend := hk _ 0 0 ⟨Cpl.lt hC2 wM rfl, (wM.n (k := 104) rfl).trans n1, ((wM.i (k := 97) rfl).trans f2).trans hLn⟩ (by decide) (by decide)
  have hRm : mRoomOK R (P3_L 1277 1287) (c0 + 0) (s0 + 0) := hRm_3 hR1 hR2 (by omega) (by omega)
  have hRm0 : mRoomOK R (P3_L 1277 1287) c0 s0 := hRm_3 hR1 hR2 (by omega) (by omega)
  have h1 := s_run3 X hRm hend runD
  have h2 := s_run3 X hRm h1 runB
  have h2a : mWP p l e R s m args below meth c Q 8 D A eb tL tB ad0 σ0 c0 s0 (1277, LH i, [mI (v_C_odd (gI σ 97 0 (Int32.toNatClampNeg (nI i + 1))) σ)], (e_C_odd (gI σ 97 0 (Int32.toNatClampNeg (nI i + 1))) σ), 0, 0) := h2
  have h3 := s_run3 X hRm0 h2a runA
  exact h3

set_option maxRecDepth 100000 in
set_option maxHeartbeats 4000000 in
theorem q3_1292a (x4 : Int32) (σ : MSto) : mrun KT (P3_L 1314 1336) (fun st => some st) 600 (1292, [some (mR 97 0), some (mR 12 0), some (mR 13 0), some (mR 98 0), some (mI x4), none, none, none], [], σ, 0, 0) = mG (vp_in (x4 + 1) (gI σ 97 1 0).toNatClampNeg) (mG (vp_in (x4 + 2) (gI σ 97 1 0).toNatClampNeg) (mG (vp_in (x4 + 3) (gI σ 97 1 0).toNatClampNeg) (mG (p_C_younger (gI σ 97 0 (Int32.toNatClampNeg (x4 + 1))) (gI σ 97 0 (Int32.toNatClampNeg (x4 + 2))) (gI σ 97 0 (Int32.toNatClampNeg (x4 + 3))) σ) (some (1314, [some (mR 97 0), some (mR 12 0), some (mR 13 0), some (mR 98 0), some (mI x4), none, none, none], [(mI (v_C_younger (gI σ 97 0 (Int32.toNatClampNeg (x4 + 1))) (gI σ 97 0 (Int32.toNatClampNeg (x4 + 2))) (gI σ 97 0 (Int32.toNatClampNeg (x4 + 3))) σ))], σ, 0, 0))))) := rfl
set_option maxRecDepth 100000 in
set_option maxHeartbeats 4000000 in
theorem q3_1292b (x4 y0 : Int32) (σ : MSto) : mrun KT (P3_L 1314 1336) (fun st => some st) 600 (1314, [some (mR 97 0), some (mR 12 0), some (mR 13 0), some (mR 98 0), some (mI x4), none, none, none], [(mI y0)], σ, 0, 0) = mG (vp_in (x4 + 1) (gI σ 97 1 0).toNatClampNeg) (mG (vp_in (x4 + 2) (gI σ 97 1 0).toNatClampNeg) (mG (vp_in (x4 + 3) (gI σ 97 1 0).toNatClampNeg) (mG (p_M_younger (gI σ 97 0 (Int32.toNatClampNeg (x4 + 1))) (gI σ 97 0 (Int32.toNatClampNeg (x4 + 2))) (gI σ 97 0 (Int32.toNatClampNeg (x4 + 3))) σ) (some (1336, [some (mR 97 0), some (mR 12 0), some (mR 13 0), some (mR 98 0), some (mI x4), none, none, none], [(mI (v_M_younger (gI σ 97 0 (Int32.toNatClampNeg (x4 + 1))) (gI σ 97 0 (Int32.toNatClampNeg (x4 + 2))) (gI σ 97 0 (Int32.toNatClampNeg (x4 + 3))) σ)), (mI y0)], (e_M_younger (gI σ 97 0 (Int32.toNatClampNeg (x4 + 1))) (gI σ 97 0 (Int32.toNatClampNeg (x4 + 2))) (gI σ 97 0 (Int32.toNatClampNeg (x4 + 3))) σ), 0, 0))))) := rfl
set_option maxRecDepth 100000 in
set_option maxHeartbeats 4000000 in
theorem q3_1292c (x4 y0 y1 : Int32) (σ : MSto) : mrun KT (P3_L 1314 1336) (fun st => some st) 600 (1336, [some (mR 97 0), some (mR 12 0), some (mR 13 0), some (mR 98 0), some (mI x4), none, none, none], [(mI y1), (mI y0)], σ, 0, 0) = mIf (y0 = y1) (some (2235, [some (mR 97 0), some (mR 12 0), some (mR 13 0), some (mR 98 0), some (mI x4), none, none, none], [], σ, 0, 0)) (none) := rfl
theorem Ly_1292 {l : Launch} {L i : Nat} (hL : L ≤ 3584) (hi : i + 7 ≤ L) : LTurn l L 1292 i := by
  intro p e R s m args below meth c Q D A eb tL tB c0 s0 ad0 σ0 σ X hR1 hR2 hc hs hI hk
  obtain ⟨hC, h104, hLn⟩ := hI
  have w1 := lvp (c := 1) hLn hL hi (by omega)
  have w2 := lvp (c := 2) hLn hL hi (by omega)
  have w3 := lvp (c := 3) hLn hL hi (by omega)
  have hC1 := hC
  have f2 : gI σ 97 1 0 = gI σ 97 1 0 := rfl
  have n1 := h104
  obtain ⟨pC, pM, hv, hC2⟩ := T_younger hC1 (gI σ 97 0 (Int32.toNatClampNeg (nI i + 1))) (gI σ 97 0 (Int32.toNatClampNeg (nI i + 2))) (gI σ 97 0 (Int32.toNatClampNeg (nI i + 3)))
  have wM := w_M_younger (gI σ 97 0 (Int32.toNatClampNeg (nI i + 1))) (gI σ 97 0 (Int32.toNatClampNeg (nI i + 2))) (gI σ 97 0 (Int32.toNatClampNeg (nI i + 3))) σ
  have runA := q3_1292a (nI i) σ
  simp only [mG_t w1, mG_t w2, mG_t w3, mG_t pC] at runA
  have runB := q3_1292b (nI i) (v_C_younger (gI σ 97 0 (Int32.toNatClampNeg (nI i + 1))) (gI σ 97 0 (Int32.toNatClampNeg (nI i + 2))) (gI σ 97 0 (Int32.toNatClampNeg (nI i + 3))) σ) σ
  simp only [mG_t w1, mG_t w2, mG_t w3, mG_t pM] at runB
  have runD := q3_1292c (nI i) (v_C_younger (gI σ 97 0 (Int32.toNatClampNeg (nI i + 1))) (gI σ 97 0 (Int32.toNatClampNeg (nI i + 2))) (gI σ 97 0 (Int32.toNatClampNeg (nI i + 3))) σ) (v_M_younger (gI σ 97 0 (Int32.toNatClampNeg (nI i + 1))) (gI σ 97 0 (Int32.toNatClampNeg (nI i + 2))) (gI σ 97 0 (Int32.toNatClampNeg (nI i + 3))) σ) (e_M_younger (gI σ 97 0 (Int32.toNatClampNeg (nI i + 1))) (gI σ 97 0 (Int32.toNatClampNeg (nI i + 2))) (gI σ 97 0 (Int32.toNatClampNeg (nI i + 3))) σ)
  rw [mIf_t hv] at runD
  have hend := hk _ 0 0 ⟨Cpl.lt hC2 wM rfl, (wM.n (k := 104) rfl).trans n1, ((wM.i (k := 97) rfl).trans f2).trans hLn⟩ (by decide) (by decide)
  have hRm : mRoomOK R (P3_L 1314 1336) (c0 + 0) (s0 + 0) := hRm_3 hR1 hR2 (by omega) (by omega)
  have hRm0 : mRoomOK R (P3_L 1314 1336) c0 s0 := hRm_3 hR1 hR2 (by omega) (by omega)
  have h1 := s_run3 X hRm hend runD
  have h2 := s_run3 X hRm h1 runB
  have h2a : mWP p l e R s m args below meth c Q 8 D A eb tL tB ad0 σ0 c0 s0 (1314, LH i, [mI (v_C_younger (gI σ 97 0 (Int32.toNatClampNeg (nI i + 1))) (gI σ 97 0 (Int32.toNatClampNeg (nI i + 2))) (gI σ 97 0 (Int32.toNatClampNeg (nI i + 3))) σ)], σ, 0, 0) := h2
  have h3 := s_run3 X hRm0 h2a runA
  exact h3

set_option maxRecDepth 100000 in
set_option maxHeartbeats 4000000 in
theorem q3_1341a (x4 : Int32) (σ : MSto) : mrun KT (P3_L 1363 1385) (fun st => some st) 600 (1341, [some (mR 97 0), some (mR 12 0), some (mR 13 0), some (mR 98 0), some (mI x4), none, none, none], [], σ, 0, 0) = mG (vp_in (x4 + 1) (gI σ 97 1 0).toNatClampNeg) (mG (vp_in (x4 + 2) (gI σ 97 1 0).toNatClampNeg) (mG (vp_in (x4 + 3) (gI σ 97 1 0).toNatClampNeg) (mG (p_C_must (gI σ 97 0 (Int32.toNatClampNeg (x4 + 1))) (gI σ 97 0 (Int32.toNatClampNeg (x4 + 2))) (gI σ 97 0 (Int32.toNatClampNeg (x4 + 3))) σ) (some (1363, [some (mR 97 0), some (mR 12 0), some (mR 13 0), some (mR 98 0), some (mI x4), none, none, none], [(mI (v_C_must (gI σ 97 0 (Int32.toNatClampNeg (x4 + 1))) (gI σ 97 0 (Int32.toNatClampNeg (x4 + 2))) (gI σ 97 0 (Int32.toNatClampNeg (x4 + 3))) σ))], (e_C_must (gI σ 97 0 (Int32.toNatClampNeg (x4 + 1))) (gI σ 97 0 (Int32.toNatClampNeg (x4 + 2))) (gI σ 97 0 (Int32.toNatClampNeg (x4 + 3))) σ), 0, 0))))) := rfl
set_option maxRecDepth 100000 in
set_option maxHeartbeats 4000000 in
theorem q3_1341b (x4 y0 : Int32) (σ : MSto) : mrun KT (P3_L 1363 1385) (fun st => some st) 600 (1363, [some (mR 97 0), some (mR 12 0), some (mR 13 0), some (mR 98 0), some (mI x4), none, none, none], [(mI y0)], σ, 0, 0) = mG (vp_in (x4 + 1) (gI σ 97 1 0).toNatClampNeg) (mG (vp_in (x4 + 2) (gI σ 97 1 0).toNatClampNeg) (mG (vp_in (x4 + 3) (gI σ 97 1 0).toNatClampNeg) (mG (p_M_must (gI σ 97 0 (Int32.toNatClampNeg (x4 + 1))) (gI σ 97 0 (Int32.toNatClampNeg (x4 + 2))) (gI σ 97 0 (Int32.toNatClampNeg (x4 + 3))) σ) (some (1385, [some (mR 97 0), some (mR 12 0), some (mR 13 0), some (mR 98 0), some (mI x4), none, none, none], [(mI (v_M_must (gI σ 97 0 (Int32.toNatClampNeg (x4 + 1))) (gI σ 97 0 (Int32.toNatClampNeg (x4 + 2))) (gI σ 97 0 (Int32.toNatClampNeg (x4 + 3))) σ)), (mI y0)], (e_M_must (gI σ 97 0 (Int32.toNatClampNeg (x4 + 1))) (gI σ 97 0 (Int32.toNatClampNeg (x4 + 2))) (gI σ 97 0 (Int32.toNatClampNeg (x4 + 3))) σ), 0, 0))))) := rfl
set_option maxRecDepth 100000 in
set_option maxHeartbeats 4000000 in
theorem q3_1341c (x4 y0 y1 : Int32) (σ : MSto) : mrun KT (P3_L 1363 1385) (fun st => some st) 600 (1385, [some (mR 97 0), some (mR 12 0), some (mR 13 0), some (mR 98 0), some (mI x4), none, none, none], [(mI y1), (mI y0)], σ, 0, 0) = mIf (y0 = y1) (some (2235, [some (mR 97 0), some (mR 12 0), some (mR 13 0), some (mR 98 0), some (mI x4), none, none, none], [], σ, 0, 0)) (none) := rfl
theorem Ly_1341 {l : Launch} {L i : Nat} (hL : L ≤ 3584) (hi : i + 7 ≤ L) : LTurn l L 1341 i := by
  intro p e R s m args below meth c Q D A eb tL tB c0 s0 ad0 σ0 σ X hR1 hR2 hc hs hI hk
  obtain ⟨hC, h104, hLn⟩ := hI
  have w1 := lvp (c := 1) hLn hL hi (by omega)
  have w2 := lvp (c := 2) hLn hL hi (by omega)
  have w3 := lvp (c := 3) hLn hL hi (by omega)
  have wC := w_C_must (gI σ 97 0 (Int32.toNatClampNeg (nI i + 1))) (gI σ 97 0 (Int32.toNatClampNeg (nI i + 2))) (gI σ 97 0 (Int32.toNatClampNeg (nI i + 3))) σ
  have n1 : gN (e_C_must (gI σ 97 0 (Int32.toNatClampNeg (nI i + 1))) (gI σ 97 0 (Int32.toNatClampNeg (nI i + 2))) (gI σ 97 0 (Int32.toNatClampNeg (nI i + 3))) σ) 104 = 0 := (wC.n (k := 104) rfl).trans h104
  have hC1 := Cpl.rt hC wC rfl
  have f1 : ∀ j, gI (e_C_must (gI σ 97 0 (Int32.toNatClampNeg (nI i + 1))) (gI σ 97 0 (Int32.toNatClampNeg (nI i + 2))) (gI σ 97 0 (Int32.toNatClampNeg (nI i + 3))) σ) 97 0 j = gI σ 97 0 j := fun j => wC.i rfl
  have f2 : gI (e_C_must (gI σ 97 0 (Int32.toNatClampNeg (nI i + 1))) (gI σ 97 0 (Int32.toNatClampNeg (nI i + 2))) (gI σ 97 0 (Int32.toNatClampNeg (nI i + 3))) σ) 97 1 0 = gI σ 97 1 0 := wC.i rfl
  obtain ⟨pC, pM, hv, hC2⟩ := T_must hC1 (gI σ 97 0 (Int32.toNatClampNeg (nI i + 1))) (gI σ 97 0 (Int32.toNatClampNeg (nI i + 2))) (gI σ 97 0 (Int32.toNatClampNeg (nI i + 3)))
  have wM := w_M_must (gI σ 97 0 (Int32.toNatClampNeg (nI i + 1))) (gI σ 97 0 (Int32.toNatClampNeg (nI i + 2))) (gI σ 97 0 (Int32.toNatClampNeg (nI i + 3))) (e_C_must (gI σ 97 0 (Int32.toNatClampNeg (nI i + 1))) (gI σ 97 0 (Int32.toNatClampNeg (nI i + 2))) (gI σ 97 0 (Int32.toNatClampNeg (nI i + 3))) σ)
  have runA := q3_1341a (nI i) σ
  simp only [mG_t w1, mG_t w2, mG_t w3, mG_t pC] at runA
  have runB := q3_1341b (nI i) (v_C_must (gI σ 97 0 (Int32.toNatClampNeg (nI i + 1))) (gI σ 97 0 (Int32.toNatClampNeg (nI i + 2))) (gI σ 97 0 (Int32.toNatClampNeg (nI i + 3))) σ) (e_C_must (gI σ 97 0 (Int32.toNatClampNeg (nI i + 1))) (gI σ 97 0 (Int32.toNatClampNeg (nI i + 2))) (gI σ 97 0 (Int32.toNatClampNeg (nI i + 3))) σ)
  simp only [f1, f2, mG_t w1, mG_t w2, mG_t w3, mG_t pM] at runB
  have runD := q3_1341c (nI i) (v_C_must (gI σ 97 0 (Int32.toNatClampNeg (nI i + 1))) (gI σ 97 0 (Int32.toNatClampNeg (nI i + 2))) (gI σ 97 0 (Int32.toNatClampNeg (nI i + 3))) σ) (v_M_must (gI σ 97 0 (Int32.toNatClampNeg (nI i + 1))) (gI σ 97 0 (Int32.toNatClampNeg (nI i + 2))) (gI σ 97 0 (Int32.toNatClampNeg (nI i + 3))) (e_C_must (gI σ 97 0 (Int32.toNatClampNeg (nI i + 1))) (gI σ 97 0 (Int32.toNatClampNeg (nI i + 2))) (gI σ 97 0 (Int32.toNatClampNeg (nI i + 3))) σ)) (e_M_must (gI σ 97 0 (Int32.toNatClampNeg (nI i + 1))) (gI σ 97 0 (Int32.toNatClampNeg (nI i + 2))) (gI σ 97 0 (Int32.toNatClampNeg (nI i + 3))) (e_C_must (gI σ 97 0 (Int32.toNatClampNeg (nI i + 1))) (gI σ 97 0 (Int32.toNatClampNeg (nI i + 2))) (gI σ 97 0 (Int32.toNatClampNeg (nI i + 3))) σ))
  rw [mIf_t hv] at runD
  have hend := hk _ 0 0 ⟨Cpl.lt hC2 wM rfl, (wM.n (k := 104) rfl).trans n1, ((wM.i (k := 97) rfl).trans f2).trans hLn⟩ (by decide) (by decide)
  have hRm : mRoomOK R (P3_L 1363 1385) (c0 + 0) (s0 + 0) := hRm_3 hR1 hR2 (by omega) (by omega)
  have hRm0 : mRoomOK R (P3_L 1363 1385) c0 s0 := hRm_3 hR1 hR2 (by omega) (by omega)
  have h1 := s_run3 X hRm hend runD
  have h2 := s_run3 X hRm h1 runB
  have h2a : mWP p l e R s m args below meth c Q 8 D A eb tL tB ad0 σ0 c0 s0 (1363, LH i, [mI (v_C_must (gI σ 97 0 (Int32.toNatClampNeg (nI i + 1))) (gI σ 97 0 (Int32.toNatClampNeg (nI i + 2))) (gI σ 97 0 (Int32.toNatClampNeg (nI i + 3))) σ)], (e_C_must (gI σ 97 0 (Int32.toNatClampNeg (nI i + 1))) (gI σ 97 0 (Int32.toNatClampNeg (nI i + 2))) (gI σ 97 0 (Int32.toNatClampNeg (nI i + 3))) σ), 0, 0) := h2
  have h3 := s_run3 X hRm0 h2a runA
  exact h3

set_option maxRecDepth 100000 in
set_option maxHeartbeats 4000000 in
theorem q3_1390a (x4 : Int32) (σ : MSto) : mrun KT (P3_L 1394 1398) (fun st => some st) 600 (1390, [some (mR 97 0), some (mR 12 0), some (mR 13 0), some (mR 98 0), some (mI x4), none, none, none], [], σ, 0, 0) = mG (p_C_story σ) (some (1394, [some (mR 97 0), some (mR 12 0), some (mR 13 0), some (mR 98 0), some (mI x4), none, none, none], [(mI (v_C_story σ))], (e_C_story σ), 2, 27)) := rfl
set_option maxRecDepth 100000 in
set_option maxHeartbeats 4000000 in
theorem q3_1390b (x4 y0 : Int32) (σ : MSto) : mrun KT (P3_L 1394 1398) (fun st => some st) 600 (1394, [some (mR 97 0), some (mR 12 0), some (mR 13 0), some (mR 98 0), some (mI x4), none, none, none], [(mI y0)], σ, 0, 0) = mG (p_M_story σ) (some (1398, [some (mR 97 0), some (mR 12 0), some (mR 13 0), some (mR 98 0), some (mI x4), none, none, none], [(mI (v_M_story σ)), (mI y0)], (e_M_story σ), 0, 0)) := rfl
set_option maxRecDepth 100000 in
set_option maxHeartbeats 4000000 in
theorem q3_1390c (x4 y0 y1 : Int32) (σ : MSto) : mrun KT (P3_L 1394 1398) (fun st => some st) 600 (1398, [some (mR 97 0), some (mR 12 0), some (mR 13 0), some (mR 98 0), some (mI x4), none, none, none], [(mI y1), (mI y0)], σ, 0, 0) = mIf (y0 = y1) (some (2235, [some (mR 97 0), some (mR 12 0), some (mR 13 0), some (mR 98 0), some (mI x4), none, none, none], [], σ, 0, 0)) (none) := rfl
theorem Ly_1390 {l : Launch} {L i : Nat} (hL : L ≤ 3584) (hi : i + 7 ≤ L) : LTurn l L 1390 i := by
  intro p e R s m args below meth c Q D A eb tL tB c0 s0 ad0 σ0 σ X hR1 hR2 hc hs hI hk
  obtain ⟨hC, h104, hLn⟩ := hI
  have wC := w_C_story σ
  have n1 : gN (e_C_story σ) 104 = 0 := (wC.n (k := 104) rfl).trans h104
  have hC1 := Cpl.rt hC wC rfl
  have f1 : ∀ j, gI (e_C_story σ) 97 0 j = gI σ 97 0 j := fun j => wC.i rfl
  have f2 : gI (e_C_story σ) 97 1 0 = gI σ 97 1 0 := wC.i rfl
  obtain ⟨pC, pM, hv, hC2⟩ := T_story hC1
  have wM := w_M_story (e_C_story σ)
  have runA := q3_1390a (nI i) σ
  simp only [mG_t pC] at runA
  have runB := q3_1390b (nI i) (v_C_story σ) (e_C_story σ)
  simp only [f1, f2, mG_t pM] at runB
  have runD := q3_1390c (nI i) (v_C_story σ) (v_M_story (e_C_story σ)) (e_M_story (e_C_story σ))
  rw [mIf_t hv] at runD
  have hend := hk _ 2 27 ⟨Cpl.lt hC2 wM rfl, (wM.n (k := 104) rfl).trans n1, ((wM.i (k := 97) rfl).trans f2).trans hLn⟩ (by decide) (by decide)
  have hRm : mRoomOK R (P3_L 1394 1398) (c0 + 2) (s0 + 27) := hRm_3 hR1 hR2 (by omega) (by omega)
  have hRm0 : mRoomOK R (P3_L 1394 1398) c0 s0 := hRm_3 hR1 hR2 (by omega) (by omega)
  have h1 := s_run3 X hRm hend runD
  have h2 := s_run3 X hRm h1 runB
  have h2a : mWP p l e R s m args below meth c Q 8 D A eb tL tB ad0 σ0 c0 s0 (1394, LH i, [mI (v_C_story σ)], (e_C_story σ), 2, 27) := h2
  have h3 := s_run3 X hRm0 h2a runA
  exact h3

set_option maxRecDepth 100000 in
set_option maxHeartbeats 4000000 in
theorem q3_1403a (x4 : Int32) (σ : MSto) : mrun KT (P3_L 1419 1435) (fun st => some st) 600 (1403, [some (mR 97 0), some (mR 12 0), some (mR 13 0), some (mR 98 0), some (mI x4), none, none, none], [], σ, 0, 0) = mG (vp_in (x4 + 1) (gI σ 97 1 0).toNatClampNeg) (mG (vp_in (x4 + 2) (gI σ 97 1 0).toNatClampNeg) (mG (p_C_faith (gI σ 97 0 (Int32.toNatClampNeg (x4 + 1))) (gI σ 97 0 (Int32.toNatClampNeg (x4 + 2))) σ) (some (1419, [some (mR 97 0), some (mR 12 0), some (mR 13 0), some (mR 98 0), some (mI x4), none, none, none], [(mI (v_C_faith (gI σ 97 0 (Int32.toNatClampNeg (x4 + 1))) (gI σ 97 0 (Int32.toNatClampNeg (x4 + 2))) σ))], (e_C_faith (gI σ 97 0 (Int32.toNatClampNeg (x4 + 1))) (gI σ 97 0 (Int32.toNatClampNeg (x4 + 2))) σ), 0, 0)))) := rfl
set_option maxRecDepth 100000 in
set_option maxHeartbeats 4000000 in
theorem q3_1403b (x4 y0 : Int32) (σ : MSto) : mrun KT (P3_L 1419 1435) (fun st => some st) 600 (1419, [some (mR 97 0), some (mR 12 0), some (mR 13 0), some (mR 98 0), some (mI x4), none, none, none], [(mI y0)], σ, 0, 0) = mG (vp_in (x4 + 1) (gI σ 97 1 0).toNatClampNeg) (mG (vp_in (x4 + 2) (gI σ 97 1 0).toNatClampNeg) (mG (p_M_faith (gI σ 97 0 (Int32.toNatClampNeg (x4 + 1))) (gI σ 97 0 (Int32.toNatClampNeg (x4 + 2))) σ) (some (1435, [some (mR 97 0), some (mR 12 0), some (mR 13 0), some (mR 98 0), some (mI x4), none, none, none], [(mI (v_M_faith (gI σ 97 0 (Int32.toNatClampNeg (x4 + 1))) (gI σ 97 0 (Int32.toNatClampNeg (x4 + 2))) σ)), (mI y0)], (e_M_faith (gI σ 97 0 (Int32.toNatClampNeg (x4 + 1))) (gI σ 97 0 (Int32.toNatClampNeg (x4 + 2))) σ), 0, 0)))) := rfl
set_option maxRecDepth 100000 in
set_option maxHeartbeats 4000000 in
theorem q3_1403c (x4 y0 y1 : Int32) (σ : MSto) : mrun KT (P3_L 1419 1435) (fun st => some st) 600 (1435, [some (mR 97 0), some (mR 12 0), some (mR 13 0), some (mR 98 0), some (mI x4), none, none, none], [(mI y1), (mI y0)], σ, 0, 0) = mIf (y0 = y1) (some (2235, [some (mR 97 0), some (mR 12 0), some (mR 13 0), some (mR 98 0), some (mI x4), none, none, none], [], σ, 0, 0)) (none) := rfl
theorem Ly_1403 {l : Launch} {L i : Nat} (hL : L ≤ 3584) (hi : i + 7 ≤ L) : LTurn l L 1403 i := by
  intro p e R s m args below meth c Q D A eb tL tB c0 s0 ad0 σ0 σ X hR1 hR2 hc hs hI hk
  obtain ⟨hC, h104, hLn⟩ := hI
  have w1 := lvp (c := 1) hLn hL hi (by omega)
  have w2 := lvp (c := 2) hLn hL hi (by omega)
  have wC := w_C_faith (gI σ 97 0 (Int32.toNatClampNeg (nI i + 1))) (gI σ 97 0 (Int32.toNatClampNeg (nI i + 2))) σ
  have n1 : gN (e_C_faith (gI σ 97 0 (Int32.toNatClampNeg (nI i + 1))) (gI σ 97 0 (Int32.toNatClampNeg (nI i + 2))) σ) 104 = 0 := (wC.n (k := 104) rfl).trans h104
  have hC1 := Cpl.rt hC wC rfl
  have f1 : ∀ j, gI (e_C_faith (gI σ 97 0 (Int32.toNatClampNeg (nI i + 1))) (gI σ 97 0 (Int32.toNatClampNeg (nI i + 2))) σ) 97 0 j = gI σ 97 0 j := fun j => wC.i rfl
  have f2 : gI (e_C_faith (gI σ 97 0 (Int32.toNatClampNeg (nI i + 1))) (gI σ 97 0 (Int32.toNatClampNeg (nI i + 2))) σ) 97 1 0 = gI σ 97 1 0 := wC.i rfl
  obtain ⟨pC, pM, hv, hC2⟩ := T_faith hC1 (gI σ 97 0 (Int32.toNatClampNeg (nI i + 1))) (gI σ 97 0 (Int32.toNatClampNeg (nI i + 2)))
  have wM := w_M_faith (gI σ 97 0 (Int32.toNatClampNeg (nI i + 1))) (gI σ 97 0 (Int32.toNatClampNeg (nI i + 2))) (e_C_faith (gI σ 97 0 (Int32.toNatClampNeg (nI i + 1))) (gI σ 97 0 (Int32.toNatClampNeg (nI i + 2))) σ)
  have runA := q3_1403a (nI i) σ
  simp only [mG_t w1, mG_t w2, mG_t pC] at runA
  have runB := q3_1403b (nI i) (v_C_faith (gI σ 97 0 (Int32.toNatClampNeg (nI i + 1))) (gI σ 97 0 (Int32.toNatClampNeg (nI i + 2))) σ) (e_C_faith (gI σ 97 0 (Int32.toNatClampNeg (nI i + 1))) (gI σ 97 0 (Int32.toNatClampNeg (nI i + 2))) σ)
  simp only [f1, f2, mG_t w1, mG_t w2, mG_t pM] at runB
  have runD := q3_1403c (nI i) (v_C_faith (gI σ 97 0 (Int32.toNatClampNeg (nI i + 1))) (gI σ 97 0 (Int32.toNatClampNeg (nI i + 2))) σ) (v_M_faith (gI σ 97 0 (Int32.toNatClampNeg (nI i + 1))) (gI σ 97 0 (Int32.toNatClampNeg (nI i + 2))) (e_C_faith (gI σ 97 0 (Int32.toNatClampNeg (nI i + 1))) (gI σ 97 0 (Int32.toNatClampNeg (nI i + 2))) σ)) (e_M_faith (gI σ 97 0 (Int32.toNatClampNeg (nI i + 1))) (gI σ 97 0 (Int32.toNatClampNeg (nI i + 2))) (e_C_faith (gI σ 97 0 (Int32.toNatClampNeg (nI i + 1))) (gI σ 97 0 (Int32.toNatClampNeg (nI i + 2))) σ))
  rw [mIf_t hv] at runD
  have hend := hk _ 0 0 ⟨Cpl.lt hC2 wM rfl, (wM.n (k := 104) rfl).trans n1, ((wM.i (k := 97) rfl).trans f2).trans hLn⟩ (by decide) (by decide)
  have hRm : mRoomOK R (P3_L 1419 1435) (c0 + 0) (s0 + 0) := hRm_3 hR1 hR2 (by omega) (by omega)
  have hRm0 : mRoomOK R (P3_L 1419 1435) c0 s0 := hRm_3 hR1 hR2 (by omega) (by omega)
  have h1 := s_run3 X hRm hend runD
  have h2 := s_run3 X hRm h1 runB
  have h2a : mWP p l e R s m args below meth c Q 8 D A eb tL tB ad0 σ0 c0 s0 (1419, LH i, [mI (v_C_faith (gI σ 97 0 (Int32.toNatClampNeg (nI i + 1))) (gI σ 97 0 (Int32.toNatClampNeg (nI i + 2))) σ)], (e_C_faith (gI σ 97 0 (Int32.toNatClampNeg (nI i + 1))) (gI σ 97 0 (Int32.toNatClampNeg (nI i + 2))) σ), 0, 0) := h2
  have h3 := s_run3 X hRm0 h2a runA
  exact h3

set_option maxRecDepth 100000 in
set_option maxHeartbeats 4000000 in
theorem q3_1520a (x4 : Int32) (σ : MSto) : mrun KT (P3_L 1550 1580) (fun st => some st) 600 (1520, [some (mR 97 0), some (mR 12 0), some (mR 13 0), some (mR 98 0), some (mI x4), none, none, none], [], σ, 0, 0) = mG (vp_in (x4 + 1) (gI σ 97 1 0).toNatClampNeg) (mG (vp_in (x4 + 2) (gI σ 97 1 0).toNatClampNeg) (mIf ((gI σ 97 0 (Int32.toNatClampNeg (x4 + 2))) = 0) (mG (vp_in (x4 + 3) (gI σ 97 1 0).toNatClampNeg) (mG (p_C_paper (gI σ 97 0 (Int32.toNatClampNeg (x4 + 1))) 0 (gI σ 97 0 (Int32.toNatClampNeg (x4 + 3))) σ) (some (1550, [some (mR 97 0), some (mR 12 0), some (mR 13 0), some (mR 98 0), some (mI x4), none, none, none], [(mI (v_C_paper (gI σ 97 0 (Int32.toNatClampNeg (x4 + 1))) 0 (gI σ 97 0 (Int32.toNatClampNeg (x4 + 3))) σ))], (e_C_paper (gI σ 97 0 (Int32.toNatClampNeg (x4 + 1))) 0 (gI σ 97 0 (Int32.toNatClampNeg (x4 + 3))) σ), 2, 21)))) (mG (vp_in (x4 + 3) (gI σ 97 1 0).toNatClampNeg) (mG (p_C_paper (gI σ 97 0 (Int32.toNatClampNeg (x4 + 1))) 1 (gI σ 97 0 (Int32.toNatClampNeg (x4 + 3))) σ) (some (1550, [some (mR 97 0), some (mR 12 0), some (mR 13 0), some (mR 98 0), some (mI x4), none, none, none], [(mI (v_C_paper (gI σ 97 0 (Int32.toNatClampNeg (x4 + 1))) 1 (gI σ 97 0 (Int32.toNatClampNeg (x4 + 3))) σ))], (e_C_paper (gI σ 97 0 (Int32.toNatClampNeg (x4 + 1))) 1 (gI σ 97 0 (Int32.toNatClampNeg (x4 + 3))) σ), 2, 21)))))) := rfl
set_option maxRecDepth 100000 in
set_option maxHeartbeats 4000000 in
theorem q3_1520b (x4 y0 : Int32) (σ : MSto) : mrun KT (P3_L 1550 1580) (fun st => some st) 600 (1550, [some (mR 97 0), some (mR 12 0), some (mR 13 0), some (mR 98 0), some (mI x4), none, none, none], [(mI y0)], σ, 0, 0) = mG (vp_in (x4 + 1) (gI σ 97 1 0).toNatClampNeg) (mG (vp_in (x4 + 2) (gI σ 97 1 0).toNatClampNeg) (mIf ((gI σ 97 0 (Int32.toNatClampNeg (x4 + 2))) = 0) (mG (vp_in (x4 + 3) (gI σ 97 1 0).toNatClampNeg) (mG (p_M_paper (gI σ 97 0 (Int32.toNatClampNeg (x4 + 1))) 0 (gI σ 97 0 (Int32.toNatClampNeg (x4 + 3))) σ) (some (1580, [some (mR 97 0), some (mR 12 0), some (mR 13 0), some (mR 98 0), some (mI x4), none, none, none], [(mI (v_M_paper (gI σ 97 0 (Int32.toNatClampNeg (x4 + 1))) 0 (gI σ 97 0 (Int32.toNatClampNeg (x4 + 3))) σ)), (mI y0)], (e_M_paper (gI σ 97 0 (Int32.toNatClampNeg (x4 + 1))) 0 (gI σ 97 0 (Int32.toNatClampNeg (x4 + 3))) σ), 0, 0)))) (mG (vp_in (x4 + 3) (gI σ 97 1 0).toNatClampNeg) (mG (p_M_paper (gI σ 97 0 (Int32.toNatClampNeg (x4 + 1))) 1 (gI σ 97 0 (Int32.toNatClampNeg (x4 + 3))) σ) (some (1580, [some (mR 97 0), some (mR 12 0), some (mR 13 0), some (mR 98 0), some (mI x4), none, none, none], [(mI (v_M_paper (gI σ 97 0 (Int32.toNatClampNeg (x4 + 1))) 1 (gI σ 97 0 (Int32.toNatClampNeg (x4 + 3))) σ)), (mI y0)], (e_M_paper (gI σ 97 0 (Int32.toNatClampNeg (x4 + 1))) 1 (gI σ 97 0 (Int32.toNatClampNeg (x4 + 3))) σ), 0, 0)))))) := rfl
set_option maxRecDepth 100000 in
set_option maxHeartbeats 4000000 in
theorem q3_1520c (x4 y0 y1 : Int32) (σ : MSto) : mrun KT (P3_L 1550 1580) (fun st => some st) 600 (1580, [some (mR 97 0), some (mR 12 0), some (mR 13 0), some (mR 98 0), some (mI x4), none, none, none], [(mI y1), (mI y0)], σ, 0, 0) = mIf (y0 = y1) (some (2235, [some (mR 97 0), some (mR 12 0), some (mR 13 0), some (mR 98 0), some (mI x4), none, none, none], [], σ, 0, 0)) (none) := rfl
theorem Ly_1520 {l : Launch} {L i : Nat} (hL : L ≤ 3584) (hi : i + 7 ≤ L) : LTurn l L 1520 i := by
  intro p e R s m args below meth c Q D A eb tL tB c0 s0 ad0 σ0 σ X hR1 hR2 hc hs hI hk
  obtain ⟨hC, h104, hLn⟩ := hI
  have w1 := lvp (c := 1) hLn hL hi (by omega)
  have w2 := lvp (c := 2) hLn hL hi (by omega)
  have w3 := lvp (c := 3) hLn hL hi (by omega)
  by_cases hz : (gI σ 97 0 (Int32.toNatClampNeg (nI i + 2))) = 0
  · skip
    have wC := w_C_paper (gI σ 97 0 (Int32.toNatClampNeg (nI i + 1))) 0 (gI σ 97 0 (Int32.toNatClampNeg (nI i + 3))) σ
    have n1 : gN (e_C_paper (gI σ 97 0 (Int32.toNatClampNeg (nI i + 1))) 0 (gI σ 97 0 (Int32.toNatClampNeg (nI i + 3))) σ) 104 = 0 := (wC.n (k := 104) rfl).trans h104
    have hC1 := Cpl.rt hC wC rfl
    have f1 : ∀ j, gI (e_C_paper (gI σ 97 0 (Int32.toNatClampNeg (nI i + 1))) 0 (gI σ 97 0 (Int32.toNatClampNeg (nI i + 3))) σ) 97 0 j = gI σ 97 0 j := fun j => wC.i rfl
    have f2 : gI (e_C_paper (gI σ 97 0 (Int32.toNatClampNeg (nI i + 1))) 0 (gI σ 97 0 (Int32.toNatClampNeg (nI i + 3))) σ) 97 1 0 = gI σ 97 1 0 := wC.i rfl
    obtain ⟨pC, pM, hv, hC2⟩ := T_paper hC1 (gI σ 97 0 (Int32.toNatClampNeg (nI i + 1))) 0 (gI σ 97 0 (Int32.toNatClampNeg (nI i + 3))) (Or.inl rfl)
    have wM := w_M_paper (gI σ 97 0 (Int32.toNatClampNeg (nI i + 1))) 0 (gI σ 97 0 (Int32.toNatClampNeg (nI i + 3))) (e_C_paper (gI σ 97 0 (Int32.toNatClampNeg (nI i + 1))) 0 (gI σ 97 0 (Int32.toNatClampNeg (nI i + 3))) σ)
    have runA := q3_1520a (nI i) σ
    simp only [mG_t w1, mG_t w2, mG_t w3, mG_t pC, mIf_t hz] at runA
    have runB := q3_1520b (nI i) (v_C_paper (gI σ 97 0 (Int32.toNatClampNeg (nI i + 1))) 0 (gI σ 97 0 (Int32.toNatClampNeg (nI i + 3))) σ) (e_C_paper (gI σ 97 0 (Int32.toNatClampNeg (nI i + 1))) 0 (gI σ 97 0 (Int32.toNatClampNeg (nI i + 3))) σ)
    simp only [f1, f2, mG_t w1, mG_t w2, mG_t w3, mG_t pM, mIf_t hz] at runB
    have runD := q3_1520c (nI i) (v_C_paper (gI σ 97 0 (Int32.toNatClampNeg (nI i + 1))) 0 (gI σ 97 0 (Int32.toNatClampNeg (nI i + 3))) σ) (v_M_paper (gI σ 97 0 (Int32.toNatClampNeg (nI i + 1))) 0 (gI σ 97 0 (Int32.toNatClampNeg (nI i + 3))) (e_C_paper (gI σ 97 0 (Int32.toNatClampNeg (nI i + 1))) 0 (gI σ 97 0 (Int32.toNatClampNeg (nI i + 3))) σ)) (e_M_paper (gI σ 97 0 (Int32.toNatClampNeg (nI i + 1))) 0 (gI σ 97 0 (Int32.toNatClampNeg (nI i + 3))) (e_C_paper (gI σ 97 0 (Int32.toNatClampNeg (nI i + 1))) 0 (gI σ 97 0 (Int32.toNatClampNeg (nI i + 3))) σ))
    rw [mIf_t hv] at runD
    have hend := hk _ 2 21 ⟨Cpl.lt hC2 wM rfl, (wM.n (k := 104) rfl).trans n1, ((wM.i (k := 97) rfl).trans f2).trans hLn⟩ (by decide) (by decide)
    have hRm : mRoomOK R (P3_L 1550 1580) (c0 + 2) (s0 + 21) := hRm_3 hR1 hR2 (by omega) (by omega)
    have hRm0 : mRoomOK R (P3_L 1550 1580) c0 s0 := hRm_3 hR1 hR2 (by omega) (by omega)
    have h1 := s_run3 X hRm hend runD
    have h2 := s_run3 X hRm h1 runB
    have h2a : mWP p l e R s m args below meth c Q 8 D A eb tL tB ad0 σ0 c0 s0 (1550, LH i, [mI (v_C_paper (gI σ 97 0 (Int32.toNatClampNeg (nI i + 1))) 0 (gI σ 97 0 (Int32.toNatClampNeg (nI i + 3))) σ)], (e_C_paper (gI σ 97 0 (Int32.toNatClampNeg (nI i + 1))) 0 (gI σ 97 0 (Int32.toNatClampNeg (nI i + 3))) σ), 2, 21) := h2
    have h3 := s_run3 X hRm0 h2a runA
    exact h3
  · skip
    have wC := w_C_paper (gI σ 97 0 (Int32.toNatClampNeg (nI i + 1))) 1 (gI σ 97 0 (Int32.toNatClampNeg (nI i + 3))) σ
    have n1 : gN (e_C_paper (gI σ 97 0 (Int32.toNatClampNeg (nI i + 1))) 1 (gI σ 97 0 (Int32.toNatClampNeg (nI i + 3))) σ) 104 = 0 := (wC.n (k := 104) rfl).trans h104
    have hC1 := Cpl.rt hC wC rfl
    have f1 : ∀ j, gI (e_C_paper (gI σ 97 0 (Int32.toNatClampNeg (nI i + 1))) 1 (gI σ 97 0 (Int32.toNatClampNeg (nI i + 3))) σ) 97 0 j = gI σ 97 0 j := fun j => wC.i rfl
    have f2 : gI (e_C_paper (gI σ 97 0 (Int32.toNatClampNeg (nI i + 1))) 1 (gI σ 97 0 (Int32.toNatClampNeg (nI i + 3))) σ) 97 1 0 = gI σ 97 1 0 := wC.i rfl
    obtain ⟨pC, pM, hv, hC2⟩ := T_paper hC1 (gI σ 97 0 (Int32.toNatClampNeg (nI i + 1))) 1 (gI σ 97 0 (Int32.toNatClampNeg (nI i + 3))) (Or.inr rfl)
    have wM := w_M_paper (gI σ 97 0 (Int32.toNatClampNeg (nI i + 1))) 1 (gI σ 97 0 (Int32.toNatClampNeg (nI i + 3))) (e_C_paper (gI σ 97 0 (Int32.toNatClampNeg (nI i + 1))) 1 (gI σ 97 0 (Int32.toNatClampNeg (nI i + 3))) σ)
    have runA := q3_1520a (nI i) σ
    simp only [mG_t w1, mG_t w2, mG_t w3, mG_t pC, mIf_f hz] at runA
    have runB := q3_1520b (nI i) (v_C_paper (gI σ 97 0 (Int32.toNatClampNeg (nI i + 1))) 1 (gI σ 97 0 (Int32.toNatClampNeg (nI i + 3))) σ) (e_C_paper (gI σ 97 0 (Int32.toNatClampNeg (nI i + 1))) 1 (gI σ 97 0 (Int32.toNatClampNeg (nI i + 3))) σ)
    simp only [f1, f2, mG_t w1, mG_t w2, mG_t w3, mG_t pM, mIf_f hz] at runB
    have runD := q3_1520c (nI i) (v_C_paper (gI σ 97 0 (Int32.toNatClampNeg (nI i + 1))) 1 (gI σ 97 0 (Int32.toNatClampNeg (nI i + 3))) σ) (v_M_paper (gI σ 97 0 (Int32.toNatClampNeg (nI i + 1))) 1 (gI σ 97 0 (Int32.toNatClampNeg (nI i + 3))) (e_C_paper (gI σ 97 0 (Int32.toNatClampNeg (nI i + 1))) 1 (gI σ 97 0 (Int32.toNatClampNeg (nI i + 3))) σ)) (e_M_paper (gI σ 97 0 (Int32.toNatClampNeg (nI i + 1))) 1 (gI σ 97 0 (Int32.toNatClampNeg (nI i + 3))) (e_C_paper (gI σ 97 0 (Int32.toNatClampNeg (nI i + 1))) 1 (gI σ 97 0 (Int32.toNatClampNeg (nI i + 3))) σ))
    rw [mIf_t hv] at runD
    have hend := hk _ 2 21 ⟨Cpl.lt hC2 wM rfl, (wM.n (k := 104) rfl).trans n1, ((wM.i (k := 97) rfl).trans f2).trans hLn⟩ (by decide) (by decide)
    have hRm : mRoomOK R (P3_L 1550 1580) (c0 + 2) (s0 + 21) := hRm_3 hR1 hR2 (by omega) (by omega)
    have hRm0 : mRoomOK R (P3_L 1550 1580) c0 s0 := hRm_3 hR1 hR2 (by omega) (by omega)
    have h1 := s_run3 X hRm hend runD
    have h2 := s_run3 X hRm h1 runB
    have h2a : mWP p l e R s m args below meth c Q 8 D A eb tL tB ad0 σ0 c0 s0 (1550, LH i, [mI (v_C_paper (gI σ 97 0 (Int32.toNatClampNeg (nI i + 1))) 1 (gI σ 97 0 (Int32.toNatClampNeg (nI i + 3))) σ)], (e_C_paper (gI σ 97 0 (Int32.toNatClampNeg (nI i + 1))) 1 (gI σ 97 0 (Int32.toNatClampNeg (nI i + 3))) σ), 2, 21) := h2
    have h3 := s_run3 X hRm0 h2a runA
    exact h3

set_option maxRecDepth 100000 in
set_option maxHeartbeats 4000000 in
theorem q3_1585a (x4 : Int32) (σ : MSto) : mrun KT (P3_L 1595 1605) (fun st => some st) 600 (1585, [some (mR 97 0), some (mR 12 0), some (mR 13 0), some (mR 98 0), some (mI x4), none, none, none], [], σ, 0, 0) = mG (vp_in (x4 + 1) (gI σ 97 1 0).toNatClampNeg) (mG (p_C_odds (gI σ 97 0 (Int32.toNatClampNeg (x4 + 1))) σ) (some (1595, [some (mR 97 0), some (mR 12 0), some (mR 13 0), some (mR 98 0), some (mI x4), none, none, none], [(mI (v_C_odds (gI σ 97 0 (Int32.toNatClampNeg (x4 + 1))) σ))], (e_C_odds (gI σ 97 0 (Int32.toNatClampNeg (x4 + 1))) σ), 0, 0))) := rfl
set_option maxRecDepth 100000 in
set_option maxHeartbeats 4000000 in
theorem q3_1585b (x4 y0 : Int32) (σ : MSto) : mrun KT (P3_L 1595 1605) (fun st => some st) 600 (1595, [some (mR 97 0), some (mR 12 0), some (mR 13 0), some (mR 98 0), some (mI x4), none, none, none], [(mI y0)], σ, 0, 0) = mG (vp_in (x4 + 1) (gI σ 97 1 0).toNatClampNeg) (mG (p_M_odds (gI σ 97 0 (Int32.toNatClampNeg (x4 + 1))) σ) (some (1605, [some (mR 97 0), some (mR 12 0), some (mR 13 0), some (mR 98 0), some (mI x4), none, none, none], [(mI (v_M_odds (gI σ 97 0 (Int32.toNatClampNeg (x4 + 1))) σ)), (mI y0)], (e_M_odds (gI σ 97 0 (Int32.toNatClampNeg (x4 + 1))) σ), 0, 0))) := rfl
set_option maxRecDepth 100000 in
set_option maxHeartbeats 4000000 in
theorem q3_1585c (x4 y0 y1 : Int32) (σ : MSto) : mrun KT (P3_L 1595 1605) (fun st => some st) 600 (1605, [some (mR 97 0), some (mR 12 0), some (mR 13 0), some (mR 98 0), some (mI x4), none, none, none], [(mI y1), (mI y0)], σ, 0, 0) = mIf (y0 = y1) (some (2235, [some (mR 97 0), some (mR 12 0), some (mR 13 0), some (mR 98 0), some (mI x4), none, none, none], [], σ, 0, 0)) (none) := rfl
theorem Ly_1585 {l : Launch} {L i : Nat} (hL : L ≤ 3584) (hi : i + 7 ≤ L) : LTurn l L 1585 i := by
  intro p e R s m args below meth c Q D A eb tL tB c0 s0 ad0 σ0 σ X hR1 hR2 hc hs hI hk
  obtain ⟨hC, h104, hLn⟩ := hI
  have w1 := lvp (c := 1) hLn hL hi (by omega)
  have wC := w_C_odds (gI σ 97 0 (Int32.toNatClampNeg (nI i + 1))) σ
  have n1 : gN (e_C_odds (gI σ 97 0 (Int32.toNatClampNeg (nI i + 1))) σ) 104 = 0 := (wC.n (k := 104) rfl).trans h104
  have hC1 := Cpl.rt hC wC rfl
  have f1 : ∀ j, gI (e_C_odds (gI σ 97 0 (Int32.toNatClampNeg (nI i + 1))) σ) 97 0 j = gI σ 97 0 j := fun j => wC.i rfl
  have f2 : gI (e_C_odds (gI σ 97 0 (Int32.toNatClampNeg (nI i + 1))) σ) 97 1 0 = gI σ 97 1 0 := wC.i rfl
  obtain ⟨pC, pM, hv, hC2⟩ := T_odds hC1 (gI σ 97 0 (Int32.toNatClampNeg (nI i + 1)))
  have wM := w_M_odds (gI σ 97 0 (Int32.toNatClampNeg (nI i + 1))) (e_C_odds (gI σ 97 0 (Int32.toNatClampNeg (nI i + 1))) σ)
  have runA := q3_1585a (nI i) σ
  simp only [mG_t w1, mG_t pC] at runA
  have runB := q3_1585b (nI i) (v_C_odds (gI σ 97 0 (Int32.toNatClampNeg (nI i + 1))) σ) (e_C_odds (gI σ 97 0 (Int32.toNatClampNeg (nI i + 1))) σ)
  simp only [f1, f2, mG_t w1, mG_t pM] at runB
  have runD := q3_1585c (nI i) (v_C_odds (gI σ 97 0 (Int32.toNatClampNeg (nI i + 1))) σ) (v_M_odds (gI σ 97 0 (Int32.toNatClampNeg (nI i + 1))) (e_C_odds (gI σ 97 0 (Int32.toNatClampNeg (nI i + 1))) σ)) (e_M_odds (gI σ 97 0 (Int32.toNatClampNeg (nI i + 1))) (e_C_odds (gI σ 97 0 (Int32.toNatClampNeg (nI i + 1))) σ))
  rw [mIf_t hv] at runD
  have hend := hk _ 0 0 ⟨Cpl.lt hC2 wM rfl, (wM.n (k := 104) rfl).trans n1, ((wM.i (k := 97) rfl).trans f2).trans hLn⟩ (by decide) (by decide)
  have hRm : mRoomOK R (P3_L 1595 1605) (c0 + 0) (s0 + 0) := hRm_3 hR1 hR2 (by omega) (by omega)
  have hRm0 : mRoomOK R (P3_L 1595 1605) c0 s0 := hRm_3 hR1 hR2 (by omega) (by omega)
  have h1 := s_run3 X hRm hend runD
  have h2 := s_run3 X hRm h1 runB
  have h2a : mWP p l e R s m args below meth c Q 8 D A eb tL tB ad0 σ0 c0 s0 (1595, LH i, [mI (v_C_odds (gI σ 97 0 (Int32.toNatClampNeg (nI i + 1))) σ)], (e_C_odds (gI σ 97 0 (Int32.toNatClampNeg (nI i + 1))) σ), 0, 0) := h2
  have h3 := s_run3 X hRm0 h2a runA
  exact h3

set_option maxRecDepth 100000 in
set_option maxHeartbeats 4000000 in
theorem q3_1610a (x4 : Int32) (σ : MSto) : mrun KT (P3_L 1626 1642) (fun st => some st) 600 (1610, [some (mR 97 0), some (mR 12 0), some (mR 13 0), some (mR 98 0), some (mI x4), none, none, none], [], σ, 0, 0) = mG (vp_in (x4 + 1) (gI σ 97 1 0).toNatClampNeg) (mG (vp_in (x4 + 2) (gI σ 97 1 0).toNatClampNeg) (mG (p_C_when (gI σ 97 0 (Int32.toNatClampNeg (x4 + 1))) (gI σ 97 0 (Int32.toNatClampNeg (x4 + 2))) σ) (some (1626, [some (mR 97 0), some (mR 12 0), some (mR 13 0), some (mR 98 0), some (mI x4), none, none, none], [(mI (v_C_when (gI σ 97 0 (Int32.toNatClampNeg (x4 + 1))) (gI σ 97 0 (Int32.toNatClampNeg (x4 + 2))) σ))], σ, 0, 0)))) := rfl
set_option maxRecDepth 100000 in
set_option maxHeartbeats 4000000 in
theorem q3_1610b (x4 y0 : Int32) (σ : MSto) : mrun KT (P3_L 1626 1642) (fun st => some st) 600 (1626, [some (mR 97 0), some (mR 12 0), some (mR 13 0), some (mR 98 0), some (mI x4), none, none, none], [(mI y0)], σ, 0, 0) = mG (vp_in (x4 + 1) (gI σ 97 1 0).toNatClampNeg) (mG (vp_in (x4 + 2) (gI σ 97 1 0).toNatClampNeg) (mG (p_M_when (gI σ 97 0 (Int32.toNatClampNeg (x4 + 1))) (gI σ 97 0 (Int32.toNatClampNeg (x4 + 2))) σ) (some (1642, [some (mR 97 0), some (mR 12 0), some (mR 13 0), some (mR 98 0), some (mI x4), none, none, none], [(mI (v_M_when (gI σ 97 0 (Int32.toNatClampNeg (x4 + 1))) (gI σ 97 0 (Int32.toNatClampNeg (x4 + 2))) σ)), (mI y0)], (e_M_when (gI σ 97 0 (Int32.toNatClampNeg (x4 + 1))) (gI σ 97 0 (Int32.toNatClampNeg (x4 + 2))) σ), 0, 0)))) := rfl
set_option maxRecDepth 100000 in
set_option maxHeartbeats 4000000 in
theorem q3_1610c (x4 y0 y1 : Int32) (σ : MSto) : mrun KT (P3_L 1626 1642) (fun st => some st) 600 (1642, [some (mR 97 0), some (mR 12 0), some (mR 13 0), some (mR 98 0), some (mI x4), none, none, none], [(mI y1), (mI y0)], σ, 0, 0) = mIf (y0 = y1) (some (2235, [some (mR 97 0), some (mR 12 0), some (mR 13 0), some (mR 98 0), some (mI x4), none, none, none], [], σ, 0, 0)) (none) := rfl
theorem Ly_1610 {l : Launch} {L i : Nat} (hL : L ≤ 3584) (hi : i + 7 ≤ L) : LTurn l L 1610 i := by
  intro p e R s m args below meth c Q D A eb tL tB c0 s0 ad0 σ0 σ X hR1 hR2 hc hs hI hk
  obtain ⟨hC, h104, hLn⟩ := hI
  have w1 := lvp (c := 1) hLn hL hi (by omega)
  have w2 := lvp (c := 2) hLn hL hi (by omega)
  have hC1 := hC
  have f2 : gI σ 97 1 0 = gI σ 97 1 0 := rfl
  have n1 := h104
  obtain ⟨pC, pM, hv, hC2⟩ := T_when hC1 (gI σ 97 0 (Int32.toNatClampNeg (nI i + 1))) (gI σ 97 0 (Int32.toNatClampNeg (nI i + 2)))
  have wM := w_M_when (gI σ 97 0 (Int32.toNatClampNeg (nI i + 1))) (gI σ 97 0 (Int32.toNatClampNeg (nI i + 2))) σ
  have runA := q3_1610a (nI i) σ
  simp only [mG_t w1, mG_t w2, mG_t pC] at runA
  have runB := q3_1610b (nI i) (v_C_when (gI σ 97 0 (Int32.toNatClampNeg (nI i + 1))) (gI σ 97 0 (Int32.toNatClampNeg (nI i + 2))) σ) σ
  simp only [mG_t w1, mG_t w2, mG_t pM] at runB
  have runD := q3_1610c (nI i) (v_C_when (gI σ 97 0 (Int32.toNatClampNeg (nI i + 1))) (gI σ 97 0 (Int32.toNatClampNeg (nI i + 2))) σ) (v_M_when (gI σ 97 0 (Int32.toNatClampNeg (nI i + 1))) (gI σ 97 0 (Int32.toNatClampNeg (nI i + 2))) σ) (e_M_when (gI σ 97 0 (Int32.toNatClampNeg (nI i + 1))) (gI σ 97 0 (Int32.toNatClampNeg (nI i + 2))) σ)
  rw [mIf_t hv] at runD
  have hend := hk _ 0 0 ⟨Cpl.lt hC2 wM rfl, (wM.n (k := 104) rfl).trans n1, ((wM.i (k := 97) rfl).trans f2).trans hLn⟩ (by decide) (by decide)
  have hRm : mRoomOK R (P3_L 1626 1642) (c0 + 0) (s0 + 0) := hRm_3 hR1 hR2 (by omega) (by omega)
  have hRm0 : mRoomOK R (P3_L 1626 1642) c0 s0 := hRm_3 hR1 hR2 (by omega) (by omega)
  have h1 := s_run3 X hRm hend runD
  have h2 := s_run3 X hRm h1 runB
  have h2a : mWP p l e R s m args below meth c Q 8 D A eb tL tB ad0 σ0 c0 s0 (1626, LH i, [mI (v_C_when (gI σ 97 0 (Int32.toNatClampNeg (nI i + 1))) (gI σ 97 0 (Int32.toNatClampNeg (nI i + 2))) σ)], σ, 0, 0) := h2
  have h3 := s_run3 X hRm0 h2a runA
  exact h3

set_option maxRecDepth 100000 in
set_option maxHeartbeats 4000000 in
theorem q3_1647a (x4 : Int32) (σ : MSto) : mrun KT (P3_L 1657 1667) (fun st => some st) 600 (1647, [some (mR 97 0), some (mR 12 0), some (mR 13 0), some (mR 98 0), some (mI x4), none, none, none], [], σ, 0, 0) = mG (vp_in (x4 + 1) (gI σ 97 1 0).toNatClampNeg) (mG (p_C_first (gI σ 97 0 (Int32.toNatClampNeg (x4 + 1))) σ) (some (1657, [some (mR 97 0), some (mR 12 0), some (mR 13 0), some (mR 98 0), some (mI x4), none, none, none], [(mI (v_C_first (gI σ 97 0 (Int32.toNatClampNeg (x4 + 1))) σ))], (e_C_first (gI σ 97 0 (Int32.toNatClampNeg (x4 + 1))) σ), 0, 0))) := rfl
set_option maxRecDepth 100000 in
set_option maxHeartbeats 4000000 in
theorem q3_1647b (x4 y0 : Int32) (σ : MSto) : mrun KT (P3_L 1657 1667) (fun st => some st) 600 (1657, [some (mR 97 0), some (mR 12 0), some (mR 13 0), some (mR 98 0), some (mI x4), none, none, none], [(mI y0)], σ, 0, 0) = mG (vp_in (x4 + 1) (gI σ 97 1 0).toNatClampNeg) (mG (p_M_first (gI σ 97 0 (Int32.toNatClampNeg (x4 + 1))) σ) (some (1667, [some (mR 97 0), some (mR 12 0), some (mR 13 0), some (mR 98 0), some (mI x4), none, none, none], [(mI (v_M_first (gI σ 97 0 (Int32.toNatClampNeg (x4 + 1))) σ)), (mI y0)], (e_M_first (gI σ 97 0 (Int32.toNatClampNeg (x4 + 1))) σ), 0, 0))) := rfl
set_option maxRecDepth 100000 in
set_option maxHeartbeats 4000000 in
theorem q3_1647c (x4 y0 y1 : Int32) (σ : MSto) : mrun KT (P3_L 1657 1667) (fun st => some st) 600 (1667, [some (mR 97 0), some (mR 12 0), some (mR 13 0), some (mR 98 0), some (mI x4), none, none, none], [(mI y1), (mI y0)], σ, 0, 0) = mIf (y0 = y1) (some (2235, [some (mR 97 0), some (mR 12 0), some (mR 13 0), some (mR 98 0), some (mI x4), none, none, none], [], σ, 0, 0)) (none) := rfl
theorem Ly_1647 {l : Launch} {L i : Nat} (hL : L ≤ 3584) (hi : i + 7 ≤ L) : LTurn l L 1647 i := by
  intro p e R s m args below meth c Q D A eb tL tB c0 s0 ad0 σ0 σ X hR1 hR2 hc hs hI hk
  obtain ⟨hC, h104, hLn⟩ := hI
  have w1 := lvp (c := 1) hLn hL hi (by omega)
  have wC := w_C_first (gI σ 97 0 (Int32.toNatClampNeg (nI i + 1))) σ
  have n1 : gN (e_C_first (gI σ 97 0 (Int32.toNatClampNeg (nI i + 1))) σ) 104 = 0 := (wC.n (k := 104) rfl).trans h104
  have hC1 := Cpl.rt hC wC rfl
  have f1 : ∀ j, gI (e_C_first (gI σ 97 0 (Int32.toNatClampNeg (nI i + 1))) σ) 97 0 j = gI σ 97 0 j := fun j => wC.i rfl
  have f2 : gI (e_C_first (gI σ 97 0 (Int32.toNatClampNeg (nI i + 1))) σ) 97 1 0 = gI σ 97 1 0 := wC.i rfl
  obtain ⟨pC, pM, hv, hC2⟩ := T_first hC1 (gI σ 97 0 (Int32.toNatClampNeg (nI i + 1)))
  have wM := w_M_first (gI σ 97 0 (Int32.toNatClampNeg (nI i + 1))) (e_C_first (gI σ 97 0 (Int32.toNatClampNeg (nI i + 1))) σ)
  have runA := q3_1647a (nI i) σ
  simp only [mG_t w1, mG_t pC] at runA
  have runB := q3_1647b (nI i) (v_C_first (gI σ 97 0 (Int32.toNatClampNeg (nI i + 1))) σ) (e_C_first (gI σ 97 0 (Int32.toNatClampNeg (nI i + 1))) σ)
  simp only [f1, f2, mG_t w1, mG_t pM] at runB
  have runD := q3_1647c (nI i) (v_C_first (gI σ 97 0 (Int32.toNatClampNeg (nI i + 1))) σ) (v_M_first (gI σ 97 0 (Int32.toNatClampNeg (nI i + 1))) (e_C_first (gI σ 97 0 (Int32.toNatClampNeg (nI i + 1))) σ)) (e_M_first (gI σ 97 0 (Int32.toNatClampNeg (nI i + 1))) (e_C_first (gI σ 97 0 (Int32.toNatClampNeg (nI i + 1))) σ))
  rw [mIf_t hv] at runD
  have hend := hk _ 0 0 ⟨Cpl.lt hC2 wM rfl, (wM.n (k := 104) rfl).trans n1, ((wM.i (k := 97) rfl).trans f2).trans hLn⟩ (by decide) (by decide)
  have hRm : mRoomOK R (P3_L 1657 1667) (c0 + 0) (s0 + 0) := hRm_3 hR1 hR2 (by omega) (by omega)
  have hRm0 : mRoomOK R (P3_L 1657 1667) c0 s0 := hRm_3 hR1 hR2 (by omega) (by omega)
  have h1 := s_run3 X hRm hend runD
  have h2 := s_run3 X hRm h1 runB
  have h2a : mWP p l e R s m args below meth c Q 8 D A eb tL tB ad0 σ0 c0 s0 (1657, LH i, [mI (v_C_first (gI σ 97 0 (Int32.toNatClampNeg (nI i + 1))) σ)], (e_C_first (gI σ 97 0 (Int32.toNatClampNeg (nI i + 1))) σ), 0, 0) := h2
  have h3 := s_run3 X hRm0 h2a runA
  exact h3

set_option maxRecDepth 100000 in
set_option maxHeartbeats 4000000 in
theorem q3_1672a (x4 : Int32) (σ : MSto) : mrun KT (P3_L 1682 1692) (fun st => some st) 600 (1672, [some (mR 97 0), some (mR 12 0), some (mR 13 0), some (mR 98 0), some (mI x4), none, none, none], [], σ, 0, 0) = mG (vp_in (x4 + 1) (gI σ 97 1 0).toNatClampNeg) (mG (p_C_needs (gI σ 97 0 (Int32.toNatClampNeg (x4 + 1))) σ) (some (1682, [some (mR 97 0), some (mR 12 0), some (mR 13 0), some (mR 98 0), some (mI x4), none, none, none], [(mI (v_C_needs (gI σ 97 0 (Int32.toNatClampNeg (x4 + 1))) σ))], (e_C_needs (gI σ 97 0 (Int32.toNatClampNeg (x4 + 1))) σ), 0, 0))) := rfl
set_option maxRecDepth 100000 in
set_option maxHeartbeats 4000000 in
theorem q3_1672b (x4 y0 : Int32) (σ : MSto) : mrun KT (P3_L 1682 1692) (fun st => some st) 600 (1682, [some (mR 97 0), some (mR 12 0), some (mR 13 0), some (mR 98 0), some (mI x4), none, none, none], [(mI y0)], σ, 0, 0) = mG (vp_in (x4 + 1) (gI σ 97 1 0).toNatClampNeg) (mG (p_M_needs (gI σ 97 0 (Int32.toNatClampNeg (x4 + 1))) σ) (some (1692, [some (mR 97 0), some (mR 12 0), some (mR 13 0), some (mR 98 0), some (mI x4), none, none, none], [(mI (v_M_needs (gI σ 97 0 (Int32.toNatClampNeg (x4 + 1))) σ)), (mI y0)], (e_M_needs (gI σ 97 0 (Int32.toNatClampNeg (x4 + 1))) σ), 0, 0))) := rfl
set_option maxRecDepth 100000 in
set_option maxHeartbeats 4000000 in
theorem q3_1672c (x4 y0 y1 : Int32) (σ : MSto) : mrun KT (P3_L 1682 1692) (fun st => some st) 600 (1692, [some (mR 97 0), some (mR 12 0), some (mR 13 0), some (mR 98 0), some (mI x4), none, none, none], [(mI y1), (mI y0)], σ, 0, 0) = mIf (y0 = y1) (some (2235, [some (mR 97 0), some (mR 12 0), some (mR 13 0), some (mR 98 0), some (mI x4), none, none, none], [], σ, 0, 0)) (none) := rfl
theorem Ly_1672 {l : Launch} {L i : Nat} (hL : L ≤ 3584) (hi : i + 7 ≤ L) : LTurn l L 1672 i := by
  intro p e R s m args below meth c Q D A eb tL tB c0 s0 ad0 σ0 σ X hR1 hR2 hc hs hI hk
  obtain ⟨hC, h104, hLn⟩ := hI
  have w1 := lvp (c := 1) hLn hL hi (by omega)
  have wC := w_C_needs (gI σ 97 0 (Int32.toNatClampNeg (nI i + 1))) σ
  have n1 : gN (e_C_needs (gI σ 97 0 (Int32.toNatClampNeg (nI i + 1))) σ) 104 = 0 := (wC.n (k := 104) rfl).trans h104
  have hC1 := Cpl.rt hC wC rfl
  have f1 : ∀ j, gI (e_C_needs (gI σ 97 0 (Int32.toNatClampNeg (nI i + 1))) σ) 97 0 j = gI σ 97 0 j := fun j => wC.i rfl
  have f2 : gI (e_C_needs (gI σ 97 0 (Int32.toNatClampNeg (nI i + 1))) σ) 97 1 0 = gI σ 97 1 0 := wC.i rfl
  obtain ⟨pC, pM, hv, hC2⟩ := T_needs hC1 (gI σ 97 0 (Int32.toNatClampNeg (nI i + 1)))
  have wM := w_M_needs (gI σ 97 0 (Int32.toNatClampNeg (nI i + 1))) (e_C_needs (gI σ 97 0 (Int32.toNatClampNeg (nI i + 1))) σ)
  have runA := q3_1672a (nI i) σ
  simp only [mG_t w1, mG_t pC] at runA
  have runB := q3_1672b (nI i) (v_C_needs (gI σ 97 0 (Int32.toNatClampNeg (nI i + 1))) σ) (e_C_needs (gI σ 97 0 (Int32.toNatClampNeg (nI i + 1))) σ)
  simp only [f1, f2, mG_t w1, mG_t pM] at runB
  have runD := q3_1672c (nI i) (v_C_needs (gI σ 97 0 (Int32.toNatClampNeg (nI i + 1))) σ) (v_M_needs (gI σ 97 0 (Int32.toNatClampNeg (nI i + 1))) (e_C_needs (gI σ 97 0 (Int32.toNatClampNeg (nI i + 1))) σ)) (e_M_needs (gI σ 97 0 (Int32.toNatClampNeg (nI i + 1))) (e_C_needs (gI σ 97 0 (Int32.toNatClampNeg (nI i + 1))) σ))
  rw [mIf_t hv] at runD
  have hend := hk _ 0 0 ⟨Cpl.lt hC2 wM rfl, (wM.n (k := 104) rfl).trans n1, ((wM.i (k := 97) rfl).trans f2).trans hLn⟩ (by decide) (by decide)
  have hRm : mRoomOK R (P3_L 1682 1692) (c0 + 0) (s0 + 0) := hRm_3 hR1 hR2 (by omega) (by omega)
  have hRm0 : mRoomOK R (P3_L 1682 1692) c0 s0 := hRm_3 hR1 hR2 (by omega) (by omega)
  have h1 := s_run3 X hRm hend runD
  have h2 := s_run3 X hRm h1 runB
  have h2a : mWP p l e R s m args below meth c Q 8 D A eb tL tB ad0 σ0 c0 s0 (1682, LH i, [mI (v_C_needs (gI σ 97 0 (Int32.toNatClampNeg (nI i + 1))) σ)], (e_C_needs (gI σ 97 0 (Int32.toNatClampNeg (nI i + 1))) σ), 0, 0) := h2
  have h3 := s_run3 X hRm0 h2a runA
  exact h3


