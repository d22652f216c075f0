theorem nar01 {b : Int32} (hb : b = 0 ∨ b = 1) : vp_nar .boolean b = b := by rcases hb with rfl | rfl <;> rfl
theorem T_paper {σ τ : MSto} (h : Cpl σ τ) (a b c : Int32) (hb : b = 0 ∨ b = 1) : p_C_paper a b c σ ∧ p_M_paper a b c τ ∧ v_C_paper a b c σ = v_M_paper a b c τ ∧ Cpl (e_C_paper a b c σ) (e_M_paper a b c τ) := by
  have h1 := h.e0
  unfold p_C_paper p_M_paper v_C_paper v_M_paper e_C_paper e_M_paper
  generalize sI τ 13 0 52 0 = τ1 at h1 ⊢
  have hc := h1.m.c.2.2.2.2.1.1
  have hP := h1.m.c.2.2.2.2.1.2
  obtain ⟨P, eP⟩ : ∃ P, P = nM τ1 27 := ⟨_, rfl⟩
  rw [← eP] at hc hP
  have hl : gI σ 16 0 2 = nI P := h1.q.1.trans hc
  simp only [cp_isYear, cp_isIn, M_in, M_isYear]
  by_cases g : 0 ≤ a ∧ a ≤ 199
  · by_cases g2 : 1 ≤ c ∧ c ≤ 9
    · simp only [if_neg (bn g), if_neg (bn g2)]
      have hsz : v_AL_size 16 0 σ = nI P := hl
      by_cases g5 : P = 4
      · have q1 : ¬ v_AL_size 16 0 σ < 4 := by rw [hsz]; exact fun q => by have := (lt_nI (b := 4) (by omega) (by decide)).mp q; omega
        have q2 : gI τ1 13 0 27 = 4 := by rw [hc, g5]; rfl
        simp only [if_neg q1, if_pos q2]
        exact ⟨fun _ _ q => absurd q q1, fun _ _ q => absurd q2 q, trivial, h1⟩
      · have q1 : v_AL_size 16 0 σ < 4 := by rw [hsz]; exact (lt_nI (b := 4) (by omega) (by decide)).mpr (by omega)
        have q2 : ¬ gI τ1 13 0 27 = 4 := by rw [hc]; exact fun q => g5 ((nI_eq (b := 4) (by omega) (by decide)).mp q)
        simp only [if_pos q1, if_neg q2]
        have hn := nar01 hb
        obtain ⟨σa, ea⟩ : ∃ s, s = e_Pp_init (gN σ 5) a b c (sNew σ 5) := ⟨_, rfl⟩
        rw [← ea]
        have hla : gI σa 16 0 2 = nI P := by rw [ea]; exact hl
        obtain ⟨σb, eb⟩ : ∃ s, s = e_AL_add 16 0 5 (gN σ 5) σa := ⟨_, rfl⟩
        rw [← eb]
        have vi : vp_in (gI τ1 13 0 27) 4 := by rw [hc]; exact nI_inb (by omega) (by decide)
        have eM : sI (sI (sI (sI τ1 61 0 (gI τ1 13 0 27).toNatClampNeg a) 62 0 (gI τ1 13 0 27).toNatClampNeg (vp_nar .boolean b)) 63 0 (gI τ1 13 0 27).toNatClampNeg c) 13 0 27 (gI τ1 13 0 27 + 1) = sI (sI (sI (sI τ1 61 0 P a) 62 0 P b) 63 0 P c) 13 0 27 (nI (P + 1)) := by
          rw [hc, nI_cl (by omega), nI_s, hn]
        refine ⟨fun _ _ _ => ⟨hn, pc_add hla (by omega)⟩, fun _ _ _ => ⟨vi, vi, vi⟩, ?_, ?_⟩
        · show gI σb 16 0 2 - 1 = (gI τ1 13 0 27 + 1) - 1
          rw [eb, sz_add hla, hc, nI_s]
        · show Cpl σb (sI (sI (sI (sI τ1 61 0 (gI τ1 13 0 27).toNatClampNeg a) 62 0 (gI τ1 13 0 27).toNatClampNeg (vp_nar .boolean b)) 63 0 (gI τ1 13 0 27).toNatClampNeg c) 13 0 27 (gI τ1 13 0 27 + 1))
          rw [eM]
          obtain ⟨τb, et⟩ : ∃ t, t = sI (sI (sI (sI τ1 61 0 P a) 62 0 P b) 63 0 P c) 13 0 27 (nI (P + 1)) := ⟨_, rfl⟩
          rw [← et]
          have wτ : agO [13028, 61000, 62000, 63000] τ1 τb := by rw [et]; exact agO_sI rfl (agO_sI rfl (agO_sI rfl (agO_sI rfl (agO_refl _ τ1))))
          have wσ : agO [5000, 5999, 16000] σ σb := by
            rw [eb, ea]
            exact agO.step (agO_sI rfl (agO_sI rfl (agO_sI rfl (agO_sNew (by decide) (by decide) (agO_refl _ σ))))) (w_AL_add16 0 5 _ _) rfl
          have nP : nM τb 27 = P + 1 := nM_set (by omega) (by rw [et]; rfl)
          have cI : ∀ p f, gI σb 5 p f = if p = gN σ 5 then (if f = 0 then a else if f = 1 then b else if f = 2 then c else 0) else gI σ 5 p f := by
            intro p f
            rw [eb]
            show gI σa 5 p f = _
            rw [ea]
            unfold e_Pp_init
            simp only [gI_sI, gI_sNew]
            by_cases q : p = gN σ 5
            · subst q
              by_cases f2 : f = 2
              · subst f2; simp
              · by_cases f1 : f = 1
                · subst f1; simp
                · by_cases f0 : f = 0
                  · subst f0; simp
                  · simp [f2, f1, f0]
            · simp [q]
          have cR : ∀ p, gR σb 16 0 p = if p = P then some (gN σ 5) else gR σ 16 0 p := fun p => by
            rw [eb, eL_add hla (by omega), ea]
            rfl
          have cN : gN σb 5 = gN σ 5 + 1 := by rw [eb, ea]; rfl
          have m1 : ∀ x, gI τb 61 0 x = if x = P then a else gI τ1 61 0 x := fun x => by rw [et]; exact gI_at τ1 61 P x a
          have m2 : ∀ x, gI τb 62 0 x = if x = P then b else gI τ1 62 0 x := fun x => by rw [et]; exact gI_at _ 62 P x b
          have m3 : ∀ x, gI τb 63 0 x = if x = P then c else gI τ1 63 0 x := fun x => by rw [et]; exact gI_at _ 63 P x c
          have cc := h1.m.c
          refine Cpl.upd h1 wσ wτ rfl (iM.upd h1.m wτ (Or.inr ⟨?_, ?_, ?_, ?_, ⟨by rw [nP, et]; rfl, by omega⟩, ?_, ?_⟩) (Or.inl rfl) (Or.inl rfl) (Or.inl rfl) (Or.inl rfl) (Or.inl rfl) (Or.inl rfl) (Or.inl rfl) (Or.inl rfl) (Or.inr fun i hi => ?_) (Or.inl rfl) (Or.inl rfl) (Or.inl rfl) (Or.inl rfl)) (Or.inl rfl) (Or.inl rfl) (Or.inl rfl) (Or.inl rfl) (Or.inl rfl) (Or.inl rfl) (Or.inl rfl) (Or.inl rfl) (Or.inl rfl) (Or.inr ⟨?_, fun i hi => ?_⟩) (Or.inl rfl) (Or.inl rfl) (Or.inl rfl) (Or.inl rfl) (Or.inl rfl) (Or.inl rfl)
          · rw [et]; exact cc.1
          · rw [et]; exact cc.2.1
          · rw [et]; exact cc.2.2.1
          · rw [et]; exact cc.2.2.2.1
          · rw [et]; exact cc.2.2.2.2.2.1
          · rw [et]; exact cc.2.2.2.2.2.2
          · rw [nP] at hi
            rw [m1, m2, m3]
            by_cases q : i = P
            · simp only [if_pos q]
              refine ⟨g, ?_, g2⟩
              rcases hb with rfl | rfl <;> exact ⟨by decide, by decide⟩
            · simp only [if_neg q]; exact h1.m.q i (by omega)
          · rw [eb, sz_add hla, et]; rfl
          · rw [nP] at hi
            by_cases q : i = P
            · have e1 := cR i
              rw [if_pos q] at e1
              rw [eL_of e1, e1, cN]
              refine ⟨rfl, by omega, ?_⟩
              rw [cI, cI, cI, m1, m2, m3]
              simp only [if_pos q]
              exact ⟨rfl, rfl, rfl⟩
            · have e1 := cR i
              rw [if_neg q] at e1
              obtain ⟨k1, k2, k3⟩ := h1.q.2 i (by omega)
              rw [k1] at e1
              rw [eL_of e1, e1, cN]
              refine ⟨rfl, by omega, ?_⟩
              rw [cI, cI, cI, m1, m2, m3]
              have : ¬ eL σ 16 i = gN σ 5 := by omega
              simp only [if_neg this, if_neg q]
              exact k3
    · simp only [if_neg (bn g), if_pos (bz g2)]
      exact ⟨fun _ q => absurd (bz g2) q, fun _ q => absurd (bz g2) q, trivial, h1⟩
  · simp only [if_pos (bz g)]
    exact ⟨fun q => absurd (bz g) q, fun q => absurd (bz g) q, trivial, h1⟩

