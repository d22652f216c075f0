theorem T_stuff {σ τ : MSto} (h : Cpl σ τ) (a b c d e f : Int32) : p_C_stuff a b c d e f σ ∧ p_M_stuff a b c d e f τ ∧ v_C_stuff a b c d e f σ = v_M_stuff a b c d e f τ ∧ Cpl (e_C_stuff a b c d e f σ) (e_M_stuff a b c d e f τ) := by
  have h1 := h.e0
  unfold p_C_stuff p_M_stuff v_C_stuff v_M_stuff e_C_stuff e_M_stuff
  generalize sI τ 13 0 52 0 = τ1 at h1 ⊢
  have hc := h1.m.c.2.1.1
  have hP := h1.m.c.2.1.2
  obtain ⟨P, eP⟩ : ∃ P, P = nM τ1 5 := ⟨_, rfl⟩
  rw [← eP] at hc hP
  have hl : gI σ 18 0 2 = nI P := h1.s.1.trans hc
  have hon := cp_isOn a b c d σ τ1
  by_cases g : v_M_isOn a b c d τ1 = 0
  · have gn : v_C_isPart a c 24 σ = 0 ∨ v_C_isPart b d 8 σ = 0 := by
      rcases Classical.em (v_C_isPart a c 24 σ = 0) with q | q
      · exact Or.inl q
      · exact Or.inr (Classical.byContradiction fun z => hon.mp ⟨q, z⟩ g)
    simp only [if_pos g]
    by_cases g1 : v_C_isPart a c 24 σ = 0
    · simp only [if_pos g1]
      exact ⟨fun q => absurd g1 q, fun q => absurd g q, trivial, h1⟩
    · have g2 : v_C_isPart b d 8 σ = 0 := gn.resolve_left g1
      simp only [if_neg g1, if_pos g2]
      exact ⟨fun _ q => absurd g2 q, fun q => absurd g q, trivial, h1⟩
  · obtain ⟨g1, g2⟩ := hon.mpr g
    simp only [if_neg g, if_neg g1, if_neg g2, cp_isYear, M_isYear, cp_isIn, M_in]
    by_cases g3 : 0 ≤ e ∧ e ≤ 199
    · by_cases g4 : 0 ≤ f ∧ f ≤ 90
      · simp only [if_neg (bn g3), if_neg (bn g4)]
        have hsz : v_AL_size 18 0 σ = nI P := hl
        by_cases g5 : P = 6
        · have q1 : ¬ v_AL_size 18 0 σ < 6 := by rw [hsz]; exact fun q => by have := (lt_nI (b := 6) (by omega) (by decide)).mp q; omega
          have q2 : gI τ1 13 0 5 = 6 := by rw [hc, g5]; rfl
          simp only [if_neg q1, if_pos q2]
          exact ⟨fun _ _ _ _ q => absurd q q1, fun _ _ _ q => absurd q2 q, trivial, h1⟩
        · have q1 : v_AL_size 18 0 σ < 6 := by rw [hsz]; exact (lt_nI (b := 6) (by omega) (by decide)).mpr (by omega)
          have q2 : ¬ gI τ1 13 0 5 = 6 := by rw [hc]; exact fun q => g5 ((nI_eq (b := 6) (by omega) (by decide)).mp q)
          simp only [if_pos q1, if_neg q2]
          have pcs := patch_cells σ a b c d e f
          obtain ⟨σa, ea⟩ : ∃ s, s = e_Pt_init (gN σ 6) a b c d e f (sNew σ 6) := ⟨_, rfl⟩
          rw [← ea] at pcs ⊢
          have hla : gI σa 18 0 2 = nI P := by rw [ea]; exact hl
          obtain ⟨σb, eb⟩ : ∃ s, s = e_AL_add 18 0 6 (gN σ 6) σa := ⟨_, rfl⟩
          rw [← eb]
          have i0 : (6 * gI τ1 13 0 5) = nI (6 * P) := by rw [hc]; exact nMul 6 P
          have vi : ∀ k, k < 6 → vp_in (nI (6 * P + k)) 36 := fun k hk => nI_inb (by omega) (by decide)
          have j1 : (6 * gI τ1 13 0 5) + 1 = nI (6 * P + 1) := by rw [i0]; exact nA _ 1
          have j2 : (6 * gI τ1 13 0 5) + 2 = nI (6 * P + 2) := by rw [i0]; exact nA _ 2
          have j3 : (6 * gI τ1 13 0 5) + 3 = nI (6 * P + 3) := by rw [i0]; exact nA _ 3
          have j4 : (6 * gI τ1 13 0 5) + 4 = nI (6 * P + 4) := by rw [i0]; exact nA _ 4
          have j5 : (6 * gI τ1 13 0 5) + 5 = nI (6 * P + 5) := by rw [i0]; exact nA _ 5
          have eM : sI (sI (sI (sI (sI (sI (sI τ1 43 0 (6 * gI τ1 13 0 5).toNatClampNeg a) 43 0 ((6 * gI τ1 13 0 5) + 1).toNatClampNeg b) 43 0 ((6 * gI τ1 13 0 5) + 2).toNatClampNeg c) 43 0 ((6 * gI τ1 13 0 5) + 3).toNatClampNeg d) 43 0 ((6 * gI τ1 13 0 5) + 4).toNatClampNeg e) 43 0 ((6 * gI τ1 13 0 5) + 5).toNatClampNeg f) 13 0 5 (gI τ1 13 0 5 + 1) = sI (sI (sI (sI (sI (sI (sI τ1 43 0 (6 * P) a) 43 0 (6 * P + 1) b) 43 0 (6 * P + 2) c) 43 0 (6 * P + 3) d) 43 0 (6 * P + 4) e) 43 0 (6 * P + 5) f) 13 0 5 (nI (P + 1)) := by
            rw [j1, j2, j3, j4, j5, i0, nI_cl (by omega), nI_cl (by omega), nI_cl (by omega), nI_cl (by omega), nI_cl (by omega), nI_cl (by omega), hc, nI_s]
          refine ⟨fun _ _ _ _ _ => pc_add hla (by omega), fun _ _ _ _ => ⟨by rw [i0]; exact vi 0 (by decide), by rw [j1]; exact vi 1 (by decide), by rw [j2]; exact vi 2 (by decide), by rw [j3]; exact vi 3 (by decide), by rw [j4]; exact vi 4 (by decide), by rw [j5]; exact vi 5 (by decide)⟩, ?_, ?_⟩
          · show gI σb 18 0 2 - 1 = (gI τ1 13 0 5 + 1) - 1
            rw [eb, sz_add hla, hc, nI_s]
          · show Cpl σb (sI (sI (sI (sI (sI (sI (sI τ1 43 0 (6 * gI τ1 13 0 5).toNatClampNeg a) 43 0 ((6 * gI τ1 13 0 5) + 1).toNatClampNeg b) 43 0 ((6 * gI τ1 13 0 5) + 2).toNatClampNeg c) 43 0 ((6 * gI τ1 13 0 5) + 3).toNatClampNeg d) 43 0 ((6 * gI τ1 13 0 5) + 4).toNatClampNeg e) 43 0 ((6 * gI τ1 13 0 5) + 5).toNatClampNeg f) 13 0 5 (gI τ1 13 0 5 + 1))
            rw [eM]
            obtain ⟨τb, et⟩ : ∃ t, t = sI (sI (sI (sI (sI (sI (sI τ1 43 0 (6 * P) a) 43 0 (6 * P + 1) b) 43 0 (6 * P + 2) c) 43 0 (6 * P + 3) d) 43 0 (6 * P + 4) e) 43 0 (6 * P + 5) f) 13 0 5 (nI (P + 1)) := ⟨_, rfl⟩
            rw [← et]
            have wτ : agO [13006, 43000] τ1 τb := by rw [et]; exact agO_sI rfl (agO_sI rfl (agO_sI rfl (agO_sI rfl (agO_sI rfl (agO_sI rfl (agO_sI rfl (agO_refl _ τ1)))))))
            have wσ : agO [6000, 6999, 18000] σ σb := by
              rw [eb, ea]
              exact agO.step (agO_sI rfl (agO_sI rfl (agO_sI rfl (agO_sI rfl (agO_sI rfl (agO_sI rfl (agO_sNew (by decide) (by decide) (agO_refl _ σ)))))))) (w_AL_add18 0 6 _ _) rfl
            have nP : nM τb 5 = P + 1 := nM_set (by omega) (by rw [et]; rfl)
            have cI : ∀ p g, gI σb 6 p g = if p = gN σ 6 then (if g = 0 then a else if g = 1 then b else if g = 2 then c else if g = 3 then d else if g = 4 then e else if g = 5 then f else 0) else gI σ 6 p g := fun p g => by
              rw [eb]; exact pcs p g
            have cR : ∀ p, gR σb 18 0 p = if p = P then some (gN σ 6) else gR σ 18 0 p := fun p => by
              rw [eb, eL_add hla (by omega), ea]
              rfl
            have cN : gN σb 6 = gN σ 6 + 1 := by rw [eb, ea]; rfl
            have lo : ∀ x, x < 6 * P → gI τb 43 0 x = gI τ1 43 0 x := fun x hx => by
              rw [et]
              show gI (sI (sI (sI (sI (sI (sI τ1 43 0 (6 * P) a) 43 0 (6 * P + 1) b) 43 0 (6 * P + 2) c) 43 0 (6 * P + 3) d) 43 0 (6 * P + 4) e) 43 0 (6 * P + 5) f) 43 0 x = _
              rw [gI_at2 _ _ _ _ _ (by omega), gI_at2 _ _ _ _ _ (by omega), gI_at2 _ _ _ _ _ (by omega), gI_at2 _ _ _ _ _ (by omega), gI_at2 _ _ _ _ _ (by omega), gI_at2 _ _ _ _ _ (by omega)]
            have m5 : gI τb 43 0 (6 * P + 5) = f := by
              rw [et]
              show gI (sI (sI (sI (sI (sI (sI τ1 43 0 (6 * P) a) 43 0 (6 * P + 1) b) 43 0 (6 * P + 2) c) 43 0 (6 * P + 3) d) 43 0 (6 * P + 4) e) 43 0 (6 * P + 5) f) 43 0 _ = _
              rw [gI_at1]
            have m4 : gI τb 43 0 (6 * P + 4) = e := by
              rw [et]
              show gI (sI (sI (sI (sI (sI (sI τ1 43 0 (6 * P) a) 43 0 (6 * P + 1) b) 43 0 (6 * P + 2) c) 43 0 (6 * P + 3) d) 43 0 (6 * P + 4) e) 43 0 (6 * P + 5) f) 43 0 _ = _
              rw [gI_at2 _ _ _ _ _ (by omega), gI_at1]
            have m3 : gI τb 43 0 (6 * P + 3) = d := by
              rw [et]
              show gI (sI (sI (sI (sI (sI (sI τ1 43 0 (6 * P) a) 43 0 (6 * P + 1) b) 43 0 (6 * P + 2) c) 43 0 (6 * P + 3) d) 43 0 (6 * P + 4) e) 43 0 (6 * P + 5) f) 43 0 _ = _
              rw [gI_at2 _ _ _ _ _ (by omega), gI_at2 _ _ _ _ _ (by omega), gI_at1]
            have m2 : gI τb 43 0 (6 * P + 2) = c := by
              rw [et]
              show gI (sI (sI (sI (sI (sI (sI τ1 43 0 (6 * P) a) 43 0 (6 * P + 1) b) 43 0 (6 * P + 2) c) 43 0 (6 * P + 3) d) 43 0 (6 * P + 4) e) 43 0 (6 * P + 5) f) 43 0 _ = _
              rw [gI_at2 _ _ _ _ _ (by omega), gI_at2 _ _ _ _ _ (by omega), gI_at2 _ _ _ _ _ (by omega), gI_at1]
            have m1 : gI τb 43 0 (6 * P + 1) = b := by
              rw [et]
              show gI (sI (sI (sI (sI (sI (sI τ1 43 0 (6 * P) a) 43 0 (6 * P + 1) b) 43 0 (6 * P + 2) c) 43 0 (6 * P + 3) d) 43 0 (6 * P + 4) e) 43 0 (6 * P + 5) f) 43 0 _ = _
              rw [gI_at2 _ _ _ _ _ (by omega), gI_at2 _ _ _ _ _ (by omega), gI_at2 _ _ _ _ _ (by omega), gI_at2 _ _ _ _ _ (by omega), gI_at1]
            have m0 : gI τb 43 0 (6 * P) = a := by
              rw [et]
              show gI (sI (sI (sI (sI (sI (sI τ1 43 0 (6 * P) a) 43 0 (6 * P + 1) b) 43 0 (6 * P + 2) c) 43 0 (6 * P + 3) d) 43 0 (6 * P + 4) e) 43 0 (6 * P + 5) f) 43 0 _ = _
              rw [gI_at2 _ _ _ _ _ (by omega), gI_at2 _ _ _ _ _ (by omega), gI_at2 _ _ _ _ _ (by omega), gI_at2 _ _ _ _ _ (by omega), gI_at2 _ _ _ _ _ (by omega), gI_at1]
            have cc := h1.m.c
            refine Cpl.upd h1 wσ wτ rfl (iM.upd h1.m wτ (Or.inr ⟨?_, ⟨by rw [nP, et]; rfl, by omega⟩, ?_, ?_, ?_, ?_, ?_⟩) (Or.inl rfl) (Or.inl rfl) (Or.inr fun i hi => ?_) (Or.inl rfl) (Or.inl rfl) (Or.inl rfl) (Or.inl rfl) (Or.inl rfl) (Or.inl rfl) (Or.inl rfl) (Or.inl rfl) (Or.inl rfl) (Or.inl rfl)) (Or.inl rfl) (Or.inl rfl) (Or.inr ⟨?_, fun i hi => ?_⟩) (Or.inr ⟨?_, fun i hi => ?_⟩) (Or.inl rfl) (Or.inl rfl) (Or.inl rfl) (Or.inl rfl) (Or.inl rfl) (Or.inl rfl) (Or.inl rfl) (Or.inl rfl) (Or.inl rfl) (Or.inl rfl) (Or.inl rfl) (Or.inl rfl)
            · rw [et]; exact cc.1
            · rw [et]; exact cc.2.2.1
            · rw [et]; exact cc.2.2.2.1
            · rw [et]; exact cc.2.2.2.2.1
            · rw [et]; exact cc.2.2.2.2.2.1
            · rw [et]; exact cc.2.2.2.2.2.2
            · rw [nP] at hi
              by_cases q : i = P
              · subst q; rw [m4, m5]; exact ⟨g3, g4⟩
              · rw [lo _ (by omega), lo _ (by omega)]; exact h1.m.s i (by omega)
            · rw [wσ.i rfl, wτ.i rfl]; exact h1.me.1
            · have n5 : nM τb 3 = nM τ1 3 := by unfold nM; rw [wτ.i rfl]
              rw [n5] at hi
              obtain ⟨k1, k2, k3⟩ := h1.me.2 i hi
              have e1 : gR σb 17 0 i = some (eL σ 17 i) := by rw [wσ.r rfl]; exact k1
              rw [eL_of e1, e1, cN, wτ.i rfl, wτ.i rfl, wτ.i rfl, wτ.i rfl, wτ.i rfl]
              refine ⟨rfl, by omega, ?_⟩
              rw [cI, cI, cI, cI, cI]
              have : ¬ eL σ 17 i = gN σ 6 := by omega
              simp only [if_neg this]
              exact k3
            · rw [eb, sz_add hla, et]; rfl
            · rw [nP] at hi
              by_cases q : i = P
              · subst q
                have e1 := cR i
                rw [if_pos rfl] at e1
                rw [eL_of e1, e1, cN]
                refine ⟨rfl, by omega, ?_⟩
                rw [cI, cI, cI, cI, cI, cI, m0, m1, m2, m3, m4, m5]
                simp
              · have e1 := cR i
                rw [if_neg q] at e1
                obtain ⟨k1, k2, k3⟩ := h1.s.2 i (by omega)
                rw [k1] at e1
                rw [eL_of e1, e1, cN, lo _ (by omega), lo _ (by omega), lo _ (by omega), lo _ (by omega), lo _ (by omega), lo _ (by omega)]
                refine ⟨rfl, by omega, ?_⟩
                rw [cI, cI, cI, cI, cI, cI]
                have : ¬ eL σ 18 i = gN σ 6 := by omega
                simp only [if_neg this]
                exact k3
      · simp only [if_neg (bn g3), if_pos (bz g4)]
        exact ⟨fun _ _ _ q => absurd (bz g4) q, fun _ _ q => absurd (bz g4) q, trivial, h1⟩
    · simp only [if_pos (bz g3)]
      exact ⟨fun _ _ q => absurd (bz g3) q, fun _ q => absurd (bz g3) q, trivial, h1⟩

