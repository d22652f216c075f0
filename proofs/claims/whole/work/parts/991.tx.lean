/-! what they throw, and when -/
noncomputable def PX_C_truth : MP := (T_C_truth, (fun k => mLook k [(33, (12, 4, (.object "java/util/ArrayList"), true))]), (fun k => mLook k []), (fun k => mLook k [(173, E_C_isPiece), (183, E_AL_get), (187, E_C_trueOf)]), (fun k => mLook k []), (fun k => mLook k []), (fun k => mLook k [(168, 7)]), (fun k => mLook k [(8, [false, false])]), (fun k => [17, 33].any (Nat.beq k)), (9, 195, 0, 0), false, (fun _ => none))
set_option maxRecDepth 100000 in
set_option maxHeartbeats 4000000 in
theorem qx_C_truth (a1 : Int32) (σ : MSto) : mrun KT PX_C_truth (fun st => some st) 600 (0, [some (mR 12 0), some (mI a1)], [], σ, 0, 0) = mIf ((v_C_isPiece a1 σ) = 0) (some (8, [none, none], [], σ, 0, 0)) (mG (p_AL_get 14 0 a1 σ) (mG (p_C_trueOf (v_AL_get 14 0 a1 σ) σ) (some (33, [], [(mI (v_C_trueOf (v_AL_get 14 0 a1 σ) σ))], σ, 0, 0)))) := rfl
theorem okx_C_truth (l : Launch) : mPOK l "ClothWithMan" E_C_truth.2.2.2.2.1 PX_C_truth := ok_C_truth l
theorem thr_truth {l : Launch} (hfl : l.stackTraces = false) {a1 : Int32} {σ : MSto} (hlv : ∀ v ∈ ([mR 12 0, mI a1] : List MV), mLive σ v) (h : v_C_isPiece a1 σ = 0) : mThr l E_C_truth [mR 12 0, mI a1] σ := by
  have run := qx_C_truth a1 σ
  rw [mIf_t h] at run
  exact mThr_of (P := PX_C_truth) (k := 6) hfl rfl (by decide +kernel) (okx_C_truth l) rfl (Nat.le_of_ble_eq_true rfl) (Nat.le_of_ble_eq_true rfl) rfl rfl (fun _ _ _ h => h.2.2.2.1) (by decide +kernel) (by decide +kernel) (Or.inl ⟨by decide +kernel, rfl⟩) (by decide +kernel) (by decide +kernel) hlv (Nat.le_of_ble_eq_true rfl) run
noncomputable def PX_C_draw : MP := (T_C_draw, (fun k => mLook k [(27, (12, 3, (.array .int), true)), (33, (12, 4, (.object "java/util/ArrayList"), true)), (195, (7, 3, .int, true)), (201, (7, 5, .int, false))]), (fun k => mLook k []), (fun k => mLook k [(173, E_C_isPiece), (183, E_AL_get), (187, E_C_trueOf), (191, E_Pi_tell), (198, E_C_lotOf)]), (fun k => mLook k []), (fun k => mLook k []), (fun k => mLook k [(168, 7)]), (fun k => mLook k [(61, [false, false, true, false]), (8, [false, false, false, false])]), (fun k => [17, 65].any (Nat.beq k)), (9, 195, 0, 0), false, (fun _ => none))
set_option maxRecDepth 100000 in
set_option maxHeartbeats 4000000 in
theorem qx_C_draw (a1 : Int32) (σ : MSto) : mrun KT PX_C_draw (fun st => some st) 600 (0, [some (mR 12 0), some (mI a1), none, none], [], σ, 0, 0) = mIf ((v_C_isPiece a1 σ) = 0) (some (8, [none, none, none, none], [], σ, 0, 0)) (mG (p_AL_get 14 0 a1 σ) (mG (vp_in (gI σ 7 (v_AL_get 14 0 a1 σ) 3) 6) (mG (p_C_trueOf (v_AL_get 14 0 a1 σ) σ) (mG (p_C_lotOf ((2 * (gI σ 21 0 (Int32.toNatClampNeg (gI σ 7 (v_AL_get 14 0 a1 σ) 3)))) + 1) σ) (mG (p_Pi_tell (v_AL_get 14 0 a1 σ) (((v_C_trueOf (v_AL_get 14 0 a1 σ) σ) + (v_C_lotOf ((2 * (gI σ 21 0 (Int32.toNatClampNeg (gI σ 7 (v_AL_get 14 0 a1 σ) 3)))) + 1) σ)) - (gI σ 21 0 (Int32.toNatClampNeg (gI σ 7 (v_AL_get 14 0 a1 σ) 3)))) (e_C_lotOf ((2 * (gI σ 21 0 (Int32.toNatClampNeg (gI σ 7 (v_AL_get 14 0 a1 σ) 3)))) + 1) σ)) (some (61, [none, none, some (mR 7 (v_AL_get 14 0 a1 σ)), none], [], (e_Pi_tell (v_AL_get 14 0 a1 σ) (((v_C_trueOf (v_AL_get 14 0 a1 σ) σ) + (v_C_lotOf ((2 * (gI σ 21 0 (Int32.toNatClampNeg (gI σ 7 (v_AL_get 14 0 a1 σ) 3)))) + 1) σ)) - (gI σ 21 0 (Int32.toNatClampNeg (gI σ 7 (v_AL_get 14 0 a1 σ) 3)))) (e_C_lotOf ((2 * (gI σ 21 0 (Int32.toNatClampNeg (gI σ 7 (v_AL_get 14 0 a1 σ) 3)))) + 1) σ)), 0, 0))))))) := rfl
theorem okx_C_draw (l : Launch) : mPOK l "ClothWithMan" E_C_draw.2.2.2.2.1 PX_C_draw := ok_C_draw l
theorem thr_draw {l : Launch} (hfl : l.stackTraces = false) {a1 : Int32} {σ : MSto} (hlv : ∀ v ∈ ([mR 12 0, mI a1] : List MV), mLive σ v) (h : v_C_isPiece a1 σ = 0) : mThr l E_C_draw [mR 12 0, mI a1] σ := by
  have run := qx_C_draw a1 σ
  rw [mIf_t h] at run
  exact mThr_of (P := PX_C_draw) (k := 6) hfl rfl (by decide +kernel) (okx_C_draw l) rfl (Nat.le_of_ble_eq_true rfl) (Nat.le_of_ble_eq_true rfl) rfl rfl (fun _ _ _ h => h.2.2.2.1) (by decide +kernel) (by decide +kernel) (Or.inl ⟨by decide +kernel, rfl⟩) (by decide +kernel) (by decide +kernel) hlv (Nat.le_of_ble_eq_true rfl) run
noncomputable def PX_C_counted : MP := (T_C_counted, (fun k => mLook k [(33, (12, 4, (.object "java/util/ArrayList"), true)), (201, (7, 5, .int, false)), (204, (7, 4, .boolean, false))]), (fun k => mLook k []), (fun k => mLook k [(173, E_C_isPiece), (183, E_AL_get)]), (fun k => mLook k []), (fun k => mLook k []), (fun k => mLook k [(168, 7)]), (fun k => mLook k [(8, [false, false, false]), (37, [false, false, false])]), (fun k => [17, 46, 51].any (Nat.beq k)), (6, 121, 0, 0), false, (fun _ => none))
set_option maxRecDepth 100000 in
set_option maxHeartbeats 4000000 in
theorem qx_C_counted (a1 : Int32) (σ : MSto) : mrun KT PX_C_counted (fun st => some st) 600 (0, [some (mR 12 0), some (mI a1), none], [], σ, 0, 0) = mIf ((v_C_isPiece a1 σ) = 0) (some (8, [none, none, none], [], σ, 0, 0)) (mG (p_AL_get 14 0 a1 σ) (mIf ((gI σ 7 (v_AL_get 14 0 a1 σ) 4) = 0) (some (37, [none, none, none], [], σ, 0, 0)) (some (51, [], [(mI (gI σ 7 (v_AL_get 14 0 a1 σ) 5))], σ, 0, 0)))) := rfl
theorem okx_C_counted (l : Launch) : mPOK l "ClothWithMan" E_C_counted.2.2.2.2.1 PX_C_counted := ok_C_counted l
theorem thr_counted1 {l : Launch} (hfl : l.stackTraces = false) {a1 : Int32} {σ : MSto} (hlv : ∀ v ∈ ([mR 12 0, mI a1] : List MV), mLive σ v) (h : v_C_isPiece a1 σ = 0) : mThr l E_C_counted [mR 12 0, mI a1] σ := by
  have run := qx_C_counted a1 σ
  rw [mIf_t h] at run
  exact mThr_of (P := PX_C_counted) (k := 6) hfl rfl (by decide +kernel) (okx_C_counted l) rfl (Nat.le_of_ble_eq_true rfl) (Nat.le_of_ble_eq_true rfl) rfl rfl (fun _ _ _ h => h.2.2.2.1) (by decide +kernel) (by decide +kernel) (Or.inl ⟨by decide +kernel, rfl⟩) (by decide +kernel) (by decide +kernel) hlv (Nat.le_of_ble_eq_true rfl) run
theorem thr_counted2 {l : Launch} (hfl : l.stackTraces = false) {a1 : Int32} {σ : MSto} (hlv : ∀ v ∈ ([mR 12 0, mI a1] : List MV), mLive σ v) (h : ¬ v_C_isPiece a1 σ = 0) (h2 : p_AL_get 14 0 a1 σ) (h3 : gI σ 7 (v_AL_get 14 0 a1 σ) 4 = 0) : mThr l E_C_counted [mR 12 0, mI a1] σ := by
  have run := qx_C_counted a1 σ
  rw [mIf_f h, mG_t h2, mIf_t h3] at run
  exact mThr_of (P := PX_C_counted) (k := 6) hfl rfl (by decide +kernel) (okx_C_counted l) rfl (Nat.le_of_ble_eq_true rfl) (Nat.le_of_ble_eq_true rfl) rfl rfl (fun _ _ _ h => h.2.2.2.2.1) (by decide +kernel) (by decide +kernel) (Or.inl ⟨by decide +kernel, rfl⟩) (by decide +kernel) (by decide +kernel) hlv (Nat.le_of_ble_eq_true rfl) run
theorem thr_counted {l : Launch} (hfl : l.stackTraces = false) {a1 : Int32} {σ : MSto} (hlv : ∀ v ∈ ([mR 12 0, mI a1] : List MV), mLive σ v) (h : v_C_isPiece a1 σ = 0 ∨ (¬ v_C_isPiece a1 σ = 0 ∧ p_AL_get 14 0 a1 σ ∧ gI σ 7 (v_AL_get 14 0 a1 σ) 4 = 0)) : mThr l E_C_counted [mR 12 0, mI a1] σ := by
  rcases h with h | ⟨h, h2, h3⟩
  · exact thr_counted1 hfl hlv h
  · exact thr_counted2 hfl hlv h h2 h3
noncomputable def PX_C_would : MP := (T_C_would, (fun k => mLook k [(33, (12, 4, (.object "java/util/ArrayList"), true)), (37, (12, 5, (.object "java/util/ArrayList"), true))]), (fun k => mLook k []), (fun k => mLook k [(116, E_C_isYear), (173, E_C_isPiece), (183, E_AL_get), (307, E_C_isStory), (315, E_C_wouldBe)]), (fun k => mLook k []), (fun k => mLook k []), (fun k => mLook k [(168, 7), (294, 9)]), (fun k => mLook k [(23, [false, false, false, false])]), (fun k => [33, 61].any (Nat.beq k)), (9, 199, 0, 0), false, (fun _ => none))
set_option maxRecDepth 100000 in
set_option maxHeartbeats 4000000 in
theorem qx_C_would (a1 : Int32) (a2 : Int32) (a3 : Int32) (σ : MSto) : mrun KT PX_C_would (fun st => some st) 600 (0, [some (mR 12 0), some (mI a1), some (mI a2), some (mI a3)], [], σ, 0, 0) = mIf ((v_C_isStory a1 σ) = 0) (some (23, [none, none, none, none], [], σ, 0, 0)) (mIf ((v_C_isPiece a2 σ) = 0) (some (23, [none, none, none, none], [], σ, 0, 0)) (mIf ((v_C_isYear a3 σ) = 0) (some (23, [none, none, none, none], [], σ, 0, 0)) (mG (p_AL_get 15 0 a1 σ) (mG (p_AL_get 14 0 a2 σ) (mG (p_C_wouldBe (v_AL_get 15 0 a1 σ) (v_AL_get 14 0 a2 σ) a3 σ) (some (61, [], [(mI (v_C_wouldBe (v_AL_get 15 0 a1 σ) (v_AL_get 14 0 a2 σ) a3 σ))], σ, 0, 0))))))) := rfl
theorem okx_C_would (l : Launch) : mPOK l "ClothWithMan" E_C_would.2.2.2.2.1 PX_C_would := ok_C_would l
theorem thr_would {l : Launch} (hfl : l.stackTraces = false) {a1 a2 a3 : Int32} {σ : MSto} (hlv : ∀ v ∈ ([mR 12 0, mI a1, mI a2, mI a3] : List MV), mLive σ v) (h : v_C_isStory a1 σ = 0 ∨ (¬ v_C_isStory a1 σ = 0 ∧ (v_C_isPiece a2 σ = 0 ∨ (¬ v_C_isPiece a2 σ = 0 ∧ v_C_isYear a3 σ = 0)))) : mThr l E_C_would [mR 12 0, mI a1, mI a2, mI a3] σ := by
  have run := qx_C_would a1 a2 a3 σ
  have run : mrun KT PX_C_would (fun st => some st) 600 (0, [some (mR 12 0), some (mI a1), some (mI a2), some (mI a3)], [], σ, 0, 0) = some (23, [none, none, none, none], [], σ, 0, 0) := by
    rw [run]
    rcases h with h | ⟨h, h2 | ⟨h2, h3⟩⟩
    · rw [mIf_t h]
    · rw [mIf_f h, mIf_t h2]
    · rw [mIf_f h, mIf_f h2, mIf_t h3]
  exact mThr_of (P := PX_C_would) (k := 7) hfl rfl (by decide +kernel) (okx_C_would l) rfl (Nat.le_of_ble_eq_true rfl) (Nat.le_of_ble_eq_true rfl) rfl rfl (fun _ _ _ h => h.2.2.2.2.2.1) (by decide +kernel) (by decide +kernel) (Or.inr ⟨by decide +kernel, rfl⟩) (by decide +kernel) (by decide +kernel) hlv (Nat.le_of_ble_eq_true rfl) run
noncomputable def PX_C_row : MP := (T_C_row, (fun k => mLook k [(67, (12, 11, (.object "ClothWithMan$Row"), true)), (423, (8, 1, .int, false)), (430, (8, 0, (.array .long), true))]), (fun k => mLook k []), (fun k => mLook k []), (fun k => mLook k []), (fun k => mLook k []), (fun k => mLook k []), (fun k => mLook k [(15, [false, false])]), (fun k => [25, 35].any (Nat.beq k)), (0, 0, 0, 0), false, (fun _ => none))
set_option maxRecDepth 100000 in
set_option maxHeartbeats 4000000 in
theorem qx_C_row (a1 : Int32) (σ : MSto) : mrun KT PX_C_row (fun st => some st) 600 (0, [some (mR 12 0), some (mI a1)], [], σ, 0, 0) = mIf (a1 < 0) (some (15, [none, none], [], σ, 0, 0)) (mIf (a1 < (gI σ 8 0 1)) (mG (vp_in a1 20) (some (35, [], [(mJ (gJ σ 38 0 (Int32.toNatClampNeg a1)))], σ, 0, 0))) (some (15, [none, none], [], σ, 0, 0))) := rfl
theorem okx_C_row (l : Launch) : mPOK l "ClothWithMan" E_C_row.2.2.2.2.1 PX_C_row := ok_C_row l
theorem thr_row {l : Launch} (hfl : l.stackTraces = false) {a1 : Int32} {σ : MSto} (hlv : ∀ v ∈ ([mR 12 0, mI a1] : List MV), mLive σ v) (h : a1 < 0 ∨ (¬ a1 < 0 ∧ ¬ a1 < gI σ 8 0 1)) : mThr l E_C_row [mR 12 0, mI a1] σ := by
  have run := qx_C_row a1 σ
  have run : mrun KT PX_C_row (fun st => some st) 600 (0, [some (mR 12 0), some (mI a1)], [], σ, 0, 0) = some (15, [none, none], [], σ, 0, 0) := by
    rw [run]
    rcases h with h | ⟨h, h2⟩
    · rw [mIf_t h]
    · rw [mIf_f h, mIf_f h2]
  exact mThr_of (P := PX_C_row) (k := 7) hfl rfl (by decide +kernel) (okx_C_row l) rfl (Nat.le_of_ble_eq_true rfl) (Nat.le_of_ble_eq_true rfl) rfl rfl (fun _ _ _ h => h.2.2.2.2.2.2) (by decide +kernel) (by decide +kernel) (Or.inr ⟨by decide +kernel, rfl⟩) (by decide +kernel) (by decide +kernel) hlv (Nat.le_of_ble_eq_true rfl) run

