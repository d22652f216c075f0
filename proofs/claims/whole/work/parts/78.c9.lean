/-! faith, like, how, wanted -/
theorem T_faith {σ τ : MSto} (h : Cpl σ τ) (a b : Int32) : p_C_faith a b σ ∧ p_M_faith a b τ ∧ v_C_faith a b σ = v_M_faith a b τ ∧ Cpl (e_C_faith a b σ) (e_M_faith a b τ) := by
  have h1 := h.e0
  unfold p_C_faith p_M_faith v_C_faith v_M_faith e_C_faith e_M_faith
  generalize sI τ 13 0 52 0 = τ1 at h1 ⊢
  simp only [cp_isStory h1, cp_isIn, M_in]
  by_cases g : v_M_isStory a τ1 = 0
  · simp only [if_pos g]
    exact ⟨fun q => absurd g q, fun q => absurd g q, trivial, h1⟩
  · by_cases g2 : 0 ≤ b ∧ b ≤ 9
    · simp only [if_neg g, if_neg (bn g2)]
      obtain ⟨s, hs, rfl⟩ := storyN h1 g
      have hS := h1.S6
      have vs : vp_in (nI s) 6 := nI_inb (by omega) (by decide)
      rw [al_v (by omega), nI_cl (by omega)]
      have kt := (h1.t.2.1 s hs).2.2
      refine ⟨fun _ _ => al_p h1.lS (by omega) hs, fun _ _ => ⟨vs, vs⟩, kt.2.1, ?_⟩
      have wσ : agO [9002] σ (sI σ 9 (eL σ 15 s) 1 b) := agO_sI rfl (agO_refl _ σ)
      have wτ : agO [60000] τ1 (sI τ1 60 0 s b) := agO_sI rfl (agO_refl _ τ1)
      have mF : ∀ x, gI (sI τ1 60 0 s b) 60 0 x = if x = s then b else gI τ1 60 0 x := fun x => gI_at τ1 60 s x b
      refine Cpl.upd h1 wσ wτ rfl (iM.upd h1.m wτ (Or.inl rfl) (Or.inl rfl) (Or.inl rfl) (Or.inl rfl) (Or.inl rfl) (Or.inl rfl) (Or.inl rfl) (Or.inl rfl) (Or.inr fun x hx => ?_) (Or.inl rfl) (Or.inl rfl) (Or.inl rfl) (Or.inl rfl) (Or.inl rfl)) (Or.inl rfl) (Or.inl rfl) (Or.inl rfl) (Or.inl rfl) (Or.inl rfl) (Or.inl rfl) (Or.inl rfl) (Or.inl rfl) (Or.inr ⟨h1.t.1, fun x hx => ?_, h1.t.2.2⟩) (Or.inl rfl) (Or.inl rfl) (Or.inl rfl) (Or.inl rfl) (Or.inl rfl) (Or.inl rfl) (Or.inl rfl)
      · have hx' : x < nM τ1 17 := hx
        obtain ⟨t0, t1, t2, t3, t4, t5, t6, t7⟩ := h1.m.t x hx'
        refine ⟨t0, t1, t2, t3, t4, t5, t6, ?_⟩
        rw [mF]
        split
        · exact g2
        · exact t7
      · have hx' : x < nM τ1 17 := hx
        obtain ⟨k1, k2, k3, k4, k5⟩ := h1.t.2.1 x hx'
        refine ⟨k1, k2, ?_⟩
        show kT1 (sI σ 9 (eL σ 15 s) 1 b) (sI τ1 60 0 s b) (eL σ 15 x) x
        have cf : ∀ f, f ≠ 1 → gI (sI σ 9 (eL σ 15 s) 1 b) 9 (eL σ 15 x) f = gI σ 9 (eL σ 15 x) f := fun f hf => by
          rw [gI_sI, if_neg (fun q => hf q.2.2)]
        unfold kT1
        rw [cf 0 (by decide), cf 2 (by decide), cf 3 (by decide), cf 4 (by decide), cf 5 (by decide), cf 6 (by decide), cf 7 (by decide), cf 8 (by decide), mF]
        refine ⟨k3, ?_, k5⟩
        rw [gI_sI]
        by_cases q : x = s
        · subst q; rw [if_pos ⟨rfl, rfl, rfl⟩, if_pos rfl]
        · rw [if_neg q, if_neg (fun z => q (h1.t.2.2 x s hx' hs z.2.1))]
          exact k4
    · simp only [if_neg g, if_pos (bz g2)]
      exact ⟨fun _ q => absurd (bz g2) q, fun _ q => absurd (bz g2) q, trivial, h1⟩
theorem T_like {σ τ : MSto} (h : Cpl σ τ) (a : Int32) : p_C_like a σ ∧ p_M_like a τ ∧ v_C_like a σ = v_M_like a τ ∧ Cpl (e_C_like a σ) (e_M_like a τ) := by
  have h1 := h.e0
  unfold p_C_like p_M_like v_C_like v_M_like e_C_like e_M_like
  generalize sI τ 13 0 52 0 = τ1 at h1 ⊢
  have hc := h1.m.c.2.2.2.2.2.1
  simp only [cp_allLikes h1, cp_isIn, M_in]
  by_cases g : 0 ≤ a ∧ a ≤ 5
  · simp only [if_neg (bn g)]
    obtain ⟨P, eP⟩ : ∃ P, P = nM τ1 31 := ⟨_, rfl⟩
    have hP := hc.2
    have hcP := hc.1
    rw [← eP] at hP hcP
    by_cases g5 : P = 9
    · have q1 : ¬ gI τ1 13 0 31 < 9 := by rw [hcP]; exact fun q => by have := (lt_nI (b := 9) (by omega) (by decide)).mp q; omega
      have q2 : gI τ1 13 0 31 = 9 := by rw [hcP, g5]; rfl
      simp only [if_neg q1, if_pos q2]
      exact ⟨⟨pc_allLikes σ, fun _ q => absurd q q1⟩, fun _ q => absurd q2 q, trivial, h1⟩
    · have q1 : gI τ1 13 0 31 < 9 := by rw [hcP]; exact (lt_nI (b := 9) (by omega) (by decide)).mpr (by omega)
      have q2 : ¬ gI τ1 13 0 31 = 9 := by rw [hcP]; exact fun q => g5 ((nI_eq (b := 9) (by omega) (by decide)).mp q)
      simp only [if_pos q1, if_neg q2]
      have va : vp_in a 6 := house_in g
      have v9 : vp_in (gI τ1 13 0 31) 9 := by rw [hcP]; exact nI_inb (by omega) (by decide)
      refine ⟨⟨pc_allLikes σ, fun _ _ => ⟨va, va⟩⟩, fun _ _ => v9, rfl, ?_⟩
      obtain ⟨n, e, hn⟩ := nat_rg (b := 5) g (by decide)
      show Cpl _ (sI (sI τ1 64 0 (gI τ1 13 0 31).toNatClampNeg a) 13 0 31 (gI τ1 13 0 31 + 1))
      rw [hcP, nI_cl (by omega), nI_s, e, nI_cl (by omega)]
      obtain ⟨τb, et⟩ : ∃ t, t = sI (sI τ1 64 0 P (nI n)) 13 0 31 (nI (P + 1)) := ⟨_, rfl⟩
      rw [← et]
      have wσ : agO [22000] σ (sI σ 22 0 n (gI σ 22 0 n + 1)) := agO_sI rfl (agO_refl _ σ)
      have wτ : agO [13032, 64000] τ1 τb := by rw [et]; exact agO_sI rfl (agO_sI rfl (agO_refl _ τ1))
      have nP : nM τb 31 = P + 1 := nM_set (by omega) (by rw [et]; rfl)
      have mL : ∀ x, gI τb 64 0 x = if x = P then nI n else gI τ1 64 0 x := fun x => by rw [et]; exact gI_at τ1 64 P x (nI n)
      have cc := h1.m.c
      have ctP : ∀ w, ctL τb w P = ctL τ1 w P := fun w => by
        unfold ctL
        exact fb_ct_cong (fun k hk => by rw [mL, if_neg (by omega)])
      refine Cpl.upd h1 wσ wτ rfl (iM.upd h1.m wτ (Or.inr ⟨?_, ?_, ?_, ?_, ?_, ⟨by rw [nP, et]; rfl, by omega⟩, ?_⟩) (Or.inl rfl) (Or.inl rfl) (Or.inl rfl) (Or.inl rfl) (Or.inl rfl) (Or.inl rfl) (Or.inl rfl) (Or.inl rfl) (Or.inl rfl) (Or.inr fun i hi => ?_) (Or.inl rfl) (Or.inl rfl) (Or.inl rfl)) (Or.inl rfl) (Or.inl rfl) (Or.inl rfl) (Or.inl rfl) (Or.inl rfl) (Or.inl rfl) (Or.inl rfl) (Or.inl rfl) (Or.inl rfl) (Or.inl rfl) (Or.inr fun w hw => ?_) (Or.inl rfl) (Or.inl rfl) (Or.inl rfl) (Or.inl rfl) (Or.inl rfl)
      · rw [et]; exact cc.1
      · rw [et]; exact cc.2.1
      · rw [et]; exact cc.2.2.1
      · rw [et]; exact cc.2.2.2.1
      · rw [et]; exact cc.2.2.2.2.1
      · rw [et]; exact cc.2.2.2.2.2.2
      · rw [nP] at hi
        rw [mL]
        split
        · rw [← e]; exact g
        · exact h1.m.l i (by omega)
      · rw [nP, ctL_s, ctP, mL, if_pos rfl, gI_at]
        have hw1 := h1.l w hw
        rw [← eP] at hw1
        by_cases q : w = n
        · subst q
          rw [if_pos rfl, if_pos rfl, hw1, nI_s]
        · rw [if_neg q, if_neg (fun z => q ((nI_eq (by omega) (by omega)).mp z).symm), hw1, Nat.add_zero]
  · simp only [if_pos (bz g)]
    exact ⟨⟨pc_allLikes σ, fun q => absurd (bz g) q⟩, fun q => absurd (bz g) q, trivial, h1⟩

