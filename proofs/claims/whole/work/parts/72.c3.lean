theorem shl_nI : ∀ p, p < 12 → (1 : Int32) <<< (nI p &&& 31) = nI (2 ^ p) := by decide +kernel
theorem lost1 (τ : MSto) : gI (e_M_lost τ) 13 0 52 = 1 := rfl
/-- a piece is counted -/
theorem set_counted {σ τ : MSto} (h : Cpl σ τ) {p : Nat} (hp : p < nM τ 10) {v : Int32} (hv : rg v (-150) 2000) : Cpl (e_Pi_tell p v σ) (e_M_setCounted (nI p) v τ) := by
  have hP := h.P12
  have e0 : (nI p).toNatClampNeg = p := nI_cl (by omega)
  unfold e_Pi_tell e_M_setCounted
  rw [e0]
  obtain ⟨σb, eb⟩ : ∃ s, s = sI (sI σ 7 p 5 v) 7 p 4 1 := ⟨_, rfl⟩
  obtain ⟨τb, et⟩ : ∃ t, t = sI (sI τ 13 0 15 (gI τ 13 0 15 ||| ((1 : Int32) <<< (nI p &&& 31)))) 51 0 p v := ⟨_, rfl⟩
  rw [← eb, ← et]
  have wσ : agO [7005, 7006] σ σb := by rw [eb]; exact agO_sI rfl (agO_sI rfl (agO_refl _ σ))
  have wτ : agO [13016, 51000] τ τb := by rw [et]; exact agO_sI rfl (agO_sI rfl (agO_refl _ τ))
  have hB : gI τb 13 0 15 = gI τ 13 0 15 ||| ((1 : Int32) <<< (nI p &&& 31)) := by rw [et]; rfl
  have hb : ∀ q, q < 32 → bt (gI τb 13 0 15) q = (bt (gI τ 13 0 15) q || decide (q = p)) := fun q hq => by rw [hB, b_or, bt_shl1 (by omega) hq]
  have hN : ∀ q, gI τb 51 0 q = if q = p then v else gI τ 51 0 q := fun q => by rw [et]; exact gI_at _ 51 p q v
  have h4 : ∀ q, gI σb 7 q 4 = if q = p then 1 else gI σ 7 q 4 := fun q => by
    rw [eb]; simp only [gI_sI]
    by_cases z : q = p
    · simp [z]
    · simp [z]
  have h5 : ∀ q, gI σb 7 q 5 = if q = p then v else gI σ 7 q 5 := fun q => by
    rw [eb]; simp only [gI_sI]
    by_cases z : q = p
    · simp [z]
    · simp [z]
  have n10 : nM τb 10 = nM τ 10 := by rw [et]; rfl
  refine Cpl.upd h wσ wτ rfl (iM.upd h.m wτ (Or.inl rfl) (Or.inl rfl) (Or.inl rfl) (Or.inl rfl) (Or.inl rfl) (Or.inl rfl) (Or.inl rfl) (Or.inr ⟨fun q hq => ?_, ?_, fun q hq hz => ?_⟩) (Or.inl rfl) (Or.inl rfl) (Or.inl rfl) (Or.inl rfl) (Or.inl rfl) (Or.inl rfl)) (Or.inl rfl) (Or.inl rfl) (Or.inl rfl) (Or.inl rfl) (Or.inl rfl) (Or.inl rfl) (Or.inl rfl) (Or.inr fun q hq => ?_) (Or.inl rfl) (Or.inl rfl) (Or.inl rfl) (Or.inl rfl) (Or.inl rfl) (Or.inl rfl) (Or.inl rfl) (Or.inl rfl)
  · rw [hN]
    split
    · exact hv
    · exact h.m.n.1 q hq
  · obtain ⟨k, ek, hk⟩ := nat_rg (b := 4095) h.m.n.2.1 (by decide)
    rw [hB, ek, shl_nI p (by omega), fa_or]
    have hlt : k ||| 2 ^ p < 2 ^ 12 := Nat.or_lt_two_pow (by omega) (Nat.pow_lt_pow_right (by decide) (by omega))
    exact ⟨nI_pos' (by omega), nI_le (b := 4095) (by omega) (by decide)⟩
  · rw [n10] at hz
    have h0 := (sh_10 _ (by omega)).mp (h.m.n.2.2 q hq hz)
    rw [sh_10 _ (by omega), hb q (by omega), h0, decide_eq_false (by omega)]
    rfl
  · rw [n10] at hq
    rw [h4, h5, hN, sh_1 _ (by omega), hb q (by omega)]
    by_cases z : q = p
    · rw [if_pos z, if_pos z, if_pos z, decide_eq_true z, Bool.or_true, if_pos rfl]
      exact ⟨rfl, fun _ => rfl⟩
    · rw [if_neg z, if_neg z, if_neg z, decide_eq_false z, Bool.or_false, ← sh_1 _ (by omega)]
      exact h.n q hq
theorem T_count {σ τ : MSto} (h : Cpl σ τ) (a b : Int32) : p_C_count a b σ ∧ p_M_count a b τ ∧ v_C_count a b σ = v_M_count a b τ ∧ Cpl (e_C_count a b σ) (e_M_count a b τ) := by
  have h1 := h.e0
  unfold p_C_count p_M_count v_C_count v_M_count b_C_count b_M_count e_C_count e_M_count
  generalize sI τ 13 0 52 0 = τ1 at h1 ⊢
  simp only [cp_isPiece h1, cp_isIn, M_in]
  by_cases g : v_M_isPiece a τ1 = 0
  · simp only [if_pos g]
    exact ⟨fun q => absurd g q, fun q => absurd g q, trivial, h1⟩
  · by_cases g2 : -99 ≤ b ∧ b ≤ 1999
    · simp only [if_neg g, if_neg (bn g2)]
      obtain ⟨p, hp, rfl⟩ := pieceN h1 g
      have hP := h1.P12
      rw [al_v (by omega), h1.eP hp]
      exact ⟨fun _ _ => ⟨al_p h1.lP (by omega) hp, by unfold p_Pi_tell; rfl⟩, fun _ _ => nI_inb (by omega) (by decide), trivial, set_counted h1 hp ⟨Int32.le_trans (by decide) g2.1, Int32.le_trans g2.2 (by decide)⟩⟩
    · simp only [if_neg g, if_pos (bz g2)]
      exact ⟨fun _ q => absurd (bz g2) q, fun _ q => absurd (bz g2) q, trivial, h1⟩

