/-! the calls, one by one: what both ask holds, the answers are one, Cpl is kept -/
theorem Cpl.e0 {σ τ : MSto} (h : Cpl σ τ) : Cpl σ (sI τ 13 0 52 0) := h.mv (agO_refl [] σ) (agO_sI (W := [13053]) rfl (agO_refl _ τ)) rfl rfl
theorem M_in (a b c : Int32) (τ : MSto) : v_M_in a b c τ = bI (b ≤ a ∧ a ≤ c) := bI_congr Iff.rfl
theorem M_isYear (a : Int32) (τ : MSto) : v_M_isYear a τ = bI (0 ≤ a ∧ a ≤ 199) := bI_congr Iff.rfl
theorem M_isPlace (a b : Int32) (τ : MSto) : v_M_isPlace a b τ = bI ((0 ≤ a ∧ a ≤ 23) ∧ (0 ≤ b ∧ b ≤ 7)) := bI_congr Iff.rfl
theorem bz {q : Prop} (h : ¬ q) : bI q = 0 := bI_f h
theorem bn {q : Prop} (h : q) : ¬ bI q = 0 := bI_n0.mpr h
theorem T_value {σ τ : MSto} (h : Cpl σ τ) (a : Int32) : p_C_value a σ ∧ v_C_value a σ = v_M_value a τ ∧ Cpl σ (e_M_value a τ) := by
  refine ⟨fun _ => pc_at _ _, ?_, h.e0⟩
  unfold v_C_value v_M_value
  rw [cp_isYear]
  by_cases g : 0 ≤ a ∧ a ≤ 199
  · rw [if_neg (bn g), if_pos g, cp_at h g]; rfl
  · rw [if_pos (bz g), if_neg g]
theorem T_woven {σ τ : MSto} (h : Cpl σ τ) (a : Int32) : v_C_woven a σ = v_M_woven a τ ∧ Cpl (e_C_woven a σ) (e_M_woven a τ) := by
  have h1 := h.e0
  unfold v_C_woven v_M_woven e_C_woven e_M_woven
  show _ = (if _ then gI (sI τ 13 0 52 0) 13 0 2 else _) ∧ Cpl _ (if _ then sI (sI τ 13 0 52 0) 13 0 2 a else sI τ 13 0 52 0)
  generalize sI τ 13 0 52 0 = τ1 at h1 ⊢
  rw [cp_isYear]
  by_cases g : 0 ≤ a ∧ a ≤ 199
  · rw [if_neg (bn g), if_pos g, if_neg (bn g), if_pos g]
    have c := h1.m.c
    refine ⟨h1.b.2.1, Cpl.upd (W := [1002]) (V := [13003]) h1 (agO_sI rfl (agO_refl _ σ)) (agO_sI rfl (agO_refl _ τ1)) rfl (iM.upd (V := [13003]) h1.m (agO_sI rfl (agO_refl _ τ1)) (Or.inr ⟨c.1, c.2.1, c.2.2.1, c.2.2.2.1, c.2.2.2.2.1, c.2.2.2.2.2.1, g⟩) (Or.inl rfl) (Or.inl rfl) (Or.inl rfl) (Or.inl rfl) (Or.inl rfl) (Or.inl rfl) (Or.inl rfl) (Or.inl rfl) (Or.inl rfl) (Or.inl rfl) (Or.inl rfl) (Or.inl rfl) (Or.inl rfl)) (Or.inl rfl) (Or.inr ⟨h1.b.1, rfl, h1.b.2.2⟩) (Or.inl rfl) (Or.inl rfl) (Or.inl rfl) (Or.inl rfl) (Or.inl rfl) (Or.inl rfl) (Or.inl rfl) (Or.inl rfl) (Or.inl rfl) (Or.inl rfl) (Or.inl rfl) (Or.inl rfl) (Or.inl rfl) (Or.inl rfl)⟩
  · rw [if_pos (bz g), if_neg g, if_pos (bz g), if_neg g]
    exact ⟨rfl, h1⟩
/-- a store into an array, at a place from 0 on -/
theorem gI_at (σ : MSto) (k j w : Nat) (v : Int32) : gI (sI σ k 0 j v) k 0 w = if w = j then v else gI σ k 0 w := by
  rw [gI_sI]
  by_cases e : w = j
  · rw [if_pos ⟨rfl, rfl, e⟩, if_pos e]
  · rw [if_neg (fun q => e q.2.2), if_neg e]
theorem T_way {σ τ : MSto} (h : Cpl σ τ) (a b : Int32) : p_C_way a b σ ∧ p_M_way a b τ ∧ v_C_way a b σ = v_M_way a b τ ∧ Cpl (e_C_way a b σ) (e_M_way a b τ) := by
  have h1 := h.e0
  unfold p_C_way p_M_way v_C_way v_M_way e_C_way e_M_way
  generalize sI τ 13 0 52 0 = τ1 at h1 ⊢
  simp only [cp_isIn, M_in]
  by_cases g : 0 ≤ a ∧ a ≤ 3
  · by_cases g2 : 0 ≤ b ∧ b ≤ 100
    · simp only [if_neg (bn g), if_neg (bn g2)]
      obtain ⟨n, e, hn⟩ := nat_rg (b := 3) g (by decide)
      have vn : vp_in a 4 := way_in g
      refine ⟨fun _ _ => ⟨vn, vn⟩, fun _ _ => ⟨vn, vn⟩, ?_, ?_⟩
      · rw [e, nI_cl (by omega)]; exact h1.g n (by omega)
      · refine Cpl.upd (W := [34000]) (V := [44000]) h1 (agO_sI rfl (agO_refl _ σ)) (agO_sI rfl (agO_refl _ τ1)) rfl (iM.upd (V := [44000]) h1.m (agO_sI rfl (agO_refl _ τ1)) (Or.inl rfl) (Or.inl rfl) (Or.inl rfl) (Or.inl rfl) (Or.inr fun w hw => ?_) (Or.inl rfl) (Or.inl rfl) (Or.inl rfl) (Or.inl rfl) (Or.inl rfl) (Or.inl rfl) (Or.inl rfl) (Or.inl rfl) (Or.inl rfl)) (Or.inl rfl) (Or.inl rfl) (Or.inl rfl) (Or.inl rfl) (Or.inr fun w hw => ?_) (Or.inl rfl) (Or.inl rfl) (Or.inl rfl) (Or.inl rfl) (Or.inl rfl) (Or.inl rfl) (Or.inl rfl) (Or.inl rfl) (Or.inl rfl) (Or.inl rfl) (Or.inl rfl)
        · rw [gI_at]
          split
          · exact g2
          · exact h1.m.g w hw
        · rw [gI_at, gI_at]
          split
          · rfl
          · exact h1.g w hw
    · simp only [if_neg (bn g), if_pos (bz g2)]
      exact ⟨fun _ q => absurd (bz g2) q, fun _ q => absurd (bz g2) q, trivial, h1⟩
  · simp only [if_pos (bz g)]
    exact ⟨fun q => absurd (bz g) q, fun q => absurd (bz g) q, trivial, h1⟩
theorem T_house {σ τ : MSto} (h : Cpl σ τ) (a b c : Int32) : p_C_house a b c σ ∧ p_M_house a b c τ ∧ v_C_house a b c σ = v_M_house a b c τ ∧ Cpl (e_C_house a b c σ) (e_M_house a b c τ) := by
  have h1 := h.e0
  unfold p_C_house p_M_house v_C_house v_M_house b_C_house b_M_house e_C_house e_M_house
  generalize sI τ 13 0 52 0 = τ1 at h1 ⊢
  simp only [cp_isIn, cp_isSpan, M_in]
  by_cases g : 0 ≤ a ∧ a ≤ 5
  · by_cases g2 : -50 ≤ b ∧ b ≤ 50
    · by_cases g3 : 1 ≤ c ∧ c ≤ 60
      · simp only [if_neg (bn g), if_neg (bn g2), if_neg (bn g3)]
        have vn : vp_in a 6 := house_in g
        refine ⟨fun _ _ _ => ⟨vn, vn⟩, fun _ _ _ => ⟨vn, vn⟩, trivial, ?_⟩
        have wσ : agO [20000, 21000] σ (sI (sI σ 20 0 a.toNatClampNeg b) 21 0 a.toNatClampNeg c) := agO_sI rfl (agO_sI rfl (agO_refl _ σ))
        have wτ : agO [45000, 46000] τ1 (sI (sI τ1 45 0 a.toNatClampNeg b) 46 0 a.toNatClampNeg c) := agO_sI rfl (agO_sI rfl (agO_refl _ τ1))
        have e1 : ∀ x, gI (sI (sI σ 20 0 a.toNatClampNeg b) 21 0 a.toNatClampNeg c) 20 0 x = if x = a.toNatClampNeg then b else gI σ 20 0 x := fun x => gI_at σ 20 _ x b
        have e2 : ∀ x, gI (sI (sI σ 20 0 a.toNatClampNeg b) 21 0 a.toNatClampNeg c) 21 0 x = if x = a.toNatClampNeg then c else gI σ 21 0 x := fun x => gI_at _ 21 _ x c
        have e3 : ∀ x, gI (sI (sI τ1 45 0 a.toNatClampNeg b) 46 0 a.toNatClampNeg c) 45 0 x = if x = a.toNatClampNeg then b else gI τ1 45 0 x := fun x => gI_at τ1 45 _ x b
        have e4 : ∀ x, gI (sI (sI τ1 45 0 a.toNatClampNeg b) 46 0 a.toNatClampNeg c) 46 0 x = if x = a.toNatClampNeg then c else gI τ1 46 0 x := fun x => gI_at _ 46 _ x c
        refine Cpl.upd h1 wσ wτ rfl (iM.upd h1.m wτ (Or.inl rfl) (Or.inl rfl) (Or.inl rfl) (Or.inl rfl) (Or.inl rfl) (Or.inr fun x hx => ?_) (Or.inl rfl) (Or.inl rfl) (Or.inl rfl) (Or.inl rfl) (Or.inl rfl) (Or.inl rfl) (Or.inl rfl) (Or.inl rfl)) (Or.inl rfl) (Or.inl rfl) (Or.inl rfl) (Or.inl rfl) (Or.inl rfl) (Or.inr fun x hx => ?_) (Or.inl rfl) (Or.inl rfl) (Or.inl rfl) (Or.inl rfl) (Or.inl rfl) (Or.inl rfl) (Or.inl rfl) (Or.inl rfl) (Or.inl rfl) (Or.inl rfl)
        · rw [e3, e4]
          split
          · exact ⟨g2, g3⟩
          · exact h1.m.h x hx
        · rw [e1, e2, e3, e4]
          split
          · exact ⟨rfl, rfl⟩
          · exact h1.h x hx
      · simp only [if_neg (bn g), if_neg (bn g2), if_pos (bz g3)]
        exact ⟨fun _ _ q => absurd (bz g3) q, fun _ _ q => absurd (bz g3) q, trivial, h1⟩
    · simp only [if_neg (bn g), if_pos (bz g2)]
      exact ⟨fun _ q => absurd (bz g2) q, fun _ q => absurd (bz g2) q, trivial, h1⟩
  · simp only [if_pos (bz g)]
    exact ⟨fun q => absurd (bz g) q, fun q => absurd (bz g) q, trivial, h1⟩
theorem T_seed {σ τ : MSto} (h : Cpl σ τ) (a : Int32) : v_C_seed a σ = v_M_seed a τ ∧ Cpl (e_C_seed a σ) (e_M_seed a τ) := by
  have h1 := h.e0
  unfold v_C_seed v_M_seed e_C_seed e_M_seed
  generalize sI τ 13 0 52 0 = τ1 at h1 ⊢
  exact ⟨h1.b.2.2, Cpl.upd (W := [12013]) (V := [13041]) h1 (agO_sI rfl (agO_refl _ σ)) (agO_sI rfl (agO_refl _ τ1)) rfl (iM.upd (V := [13041]) h1.m (agO_sI rfl (agO_refl _ τ1)) (Or.inl rfl) (Or.inl rfl) (Or.inl rfl) (Or.inl rfl) (Or.inl rfl) (Or.inl rfl) (Or.inl rfl) (Or.inl rfl) (Or.inl rfl) (Or.inl rfl) (Or.inl rfl) (Or.inl rfl) (Or.inl rfl) (Or.inl rfl)) (Or.inl rfl) (Or.inr ⟨h1.b.1, h1.b.2.1, rfl⟩) (Or.inl rfl) (Or.inl rfl) (Or.inl rfl) (Or.inl rfl) (Or.inl rfl) (Or.inl rfl) (Or.inl rfl) (Or.inl rfl) (Or.inl rfl) (Or.inl rfl) (Or.inl rfl) (Or.inl rfl) (Or.inl rfl) (Or.inl rfl)⟩
theorem T_thread {σ τ : MSto} (h : Cpl σ τ) (a b c : Int32) : p_C_thread a b c σ ∧ p_M_thread a b c τ ∧ v_C_thread a b c σ = v_M_thread a b c τ ∧ Cpl σ (e_M_thread a b c τ) := by
  have h1 := h.e0
  unfold p_C_thread p_M_thread v_C_thread v_M_thread e_M_thread
  generalize sI τ 13 0 52 0 = τ1 at h1 ⊢
  simp only [cp_isSpot, M_in, M_isPlace]
  by_cases g : (0 ≤ a ∧ a ≤ 23) ∧ (0 ≤ b ∧ b ≤ 7)
  · by_cases g2 : 0 ≤ c ∧ c ≤ 3
    · have g3 : (0 ≤ a ∧ a ≤ 23) ∧ (0 ≤ b ∧ b ≤ 7) ∧ (0 ≤ c ∧ c ≤ 3) := ⟨g.1, g.2, g2⟩
      obtain ⟨q1, q2, q3⟩ := cp_threadAt h1 a b g2
      simp only [if_neg (bn g), if_neg (bn g2), if_neg (bn g3)]
      exact ⟨fun _ => q2, fun _ _ => q3, q1, h1⟩
    · have g3 : ¬ ((0 ≤ a ∧ a ≤ 23) ∧ (0 ≤ b ∧ b ≤ 7) ∧ (0 ≤ c ∧ c ≤ 3)) := fun q => g2 q.2.2
      simp only [if_neg (bn g), if_pos (bz g2), if_pos (bz g3)]
      exact ⟨fun q => absurd (bz g3) q, fun _ q => absurd (bz g2) q, trivial, h1⟩
  · have g3 : ¬ ((0 ≤ a ∧ a ≤ 23) ∧ (0 ≤ b ∧ b ≤ 7) ∧ (0 ≤ c ∧ c ≤ 3)) := fun q => g ⟨q.1, q.2.1⟩
    simp only [if_pos (bz g), if_pos (bz g3)]
    exact ⟨fun q => absurd (bz g3) q, fun q => absurd (bz g) q, trivial, h1⟩
theorem T_likeness {σ τ : MSto} (h : Cpl σ τ) (a b c : Int32) : p_C_likeness a b c σ ∧ p_M_likeness a b c τ ∧ v_C_likeness a b c σ = v_M_likeness a b c τ ∧ Cpl σ (e_M_likeness a b c τ) := by
  have h1 := h.e0
  unfold p_C_likeness p_M_likeness v_C_likeness v_M_likeness e_M_likeness
  generalize sI τ 13 0 52 0 = τ1 at h1 ⊢
  simp only [cp_isSpan, M_in]
  by_cases g : 1 ≤ c ∧ c ≤ 60
  · obtain ⟨q1, q2, q3⟩ := cp_likeness (τ := τ1) h1.a a b g
    simp only [if_neg (bn g)]
    exact ⟨fun _ => q2, fun _ => q3, q1, h1⟩
  · simp only [if_pos (bz g)]
    exact ⟨fun q => absurd (bz g) q, fun q => absurd (bz g) q, trivial, h1⟩

