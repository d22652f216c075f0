theorem gI_at2 (σ : MSto) (k j w : Nat) (v : Int32) (h : w ≠ j) : gI (sI σ k 0 j v) k 0 w = gI σ k 0 w := by rw [gI_at, if_neg h]
theorem gI_at1 (σ : MSto) (k j : Nat) (v : Int32) : gI (sI σ k 0 j v) k 0 j = v := by rw [gI_at, if_pos rfl]
/-- a new patch -/
theorem patch_cells (σ : MSto) (a b c d e f : Int32) (p g : Nat) : gI (e_Pt_init (gN σ 6) a b c d e f (sNew σ 6)) 6 p g = if p = gN σ 6 then (if g = 0 then a else if g = 1 then b else if g = 2 then c else if g = 3 then d else if g = 4 then e else if g = 5 then f else 0) else gI σ 6 p g := by
  unfold e_Pt_init
  simp only [gI_sI, gI_sNew]
  by_cases q : p = gN σ 6
  · subst q
    by_cases f5 : g = 5
    · subst f5; simp
    · by_cases f4 : g = 4
      · subst f4; simp
      · by_cases f3 : g = 3
        · subst f3; simp
        · by_cases f2 : g = 2
          · subst f2; simp
          · by_cases f1 : g = 1
            · subst f1; simp
            · by_cases f0 : g = 0
              · subst f0; simp
              · simp [f5, f4, f3, f2, f1, f0]
  · simp [q]
theorem cp_isOn (x y w h : Int32) (σ τ : MSto) : (¬ v_C_isPart x w 24 σ = 0 ∧ ¬ v_C_isPart y h 8 σ = 0) ↔ ¬ v_M_isOn x y w h τ = 0 := by
  rw [cp_isPart, cp_isPart, v_M_isOn, bI_n0, bI_n0, bI_n0]
  rw [show (24 : Int32) - 1 = 23 from rfl, show (8 : Int32) - 1 = 7 from rfl]
  constructor
  · rintro ⟨⟨h1, h2⟩, h3, h4⟩; exact ⟨⟨h1, h3⟩, h2, h4⟩
  · rintro ⟨⟨h1, h3⟩, h2, h4⟩; exact ⟨⟨h1, h2⟩, h3, h4⟩
theorem eL_of {σ : MSto} {k i a : Nat} (h : gR σ k 0 i = some a) : eL σ k i = a := by unfold eL; rw [h]; rfl
theorem T_mend {σ τ : MSto} (h : Cpl σ τ) (a b c d e : Int32) : p_C_mend a b c d e σ ∧ p_M_mend a b c d e τ ∧ v_C_mend a b c d e σ = v_M_mend a b c d e τ ∧ Cpl (e_C_mend a b c d e σ) (e_M_mend a b c d e τ) := by
  have h1 := h.e0
  unfold p_C_mend p_M_mend v_C_mend v_M_mend e_C_mend e_M_mend
  generalize sI τ 13 0 52 0 = τ1 at h1 ⊢
  have hc := h1.m.c.1.1
  have hP := h1.m.c.1.2
  obtain ⟨P, eP⟩ : ∃ P, P = nM τ1 3 := ⟨_, rfl⟩
  rw [← eP] at hc hP
  have hl : gI σ 17 0 2 = nI P := h1.me.1.trans hc
  have hon := cp_isOn a b c d σ τ1
  by_cases g : v_M_isOn a b c d τ1 = 0
  · have gn : v_C_isPart a c 24 σ = 0 ∨ v_C_isPart b d 8 σ = 0 := by
      rcases Classical.em (v_C_isPart a c 24 σ = 0) with q | q
      · exact Or.inl q
      · exact Or.inr (Classical.byContradiction fun z => hon.mp ⟨q, z⟩ g)
    simp only [if_pos g]
    by_cases g1 : v_C_isPart a c 24 σ = 0
    · simp only [if_pos g1]
      exact ⟨fun q => absurd g1 q, fun q => absurd g q, trivial, h1⟩
    · have g2 : v_C_isPart b d 8 σ = 0 := gn.resolve_left g1
      simp only [if_neg g1, if_pos g2]
      exact ⟨fun _ q => absurd g2 q, fun q => absurd g q, trivial, h1⟩
  · obtain ⟨g1, g2⟩ := hon.mpr g
    simp only [if_neg g, if_neg g1, if_neg g2, cp_isYear, M_isYear]
    by_cases g3 : 0 ≤ e ∧ e ≤ 199
    · simp only [if_neg (bn g3)]
      have hsz : v_AL_size 17 0 σ = nI P := hl
      by_cases g5 : P = 6
      · have q1 : ¬ v_AL_size 17 0 σ < 6 := by rw [hsz]; exact fun q => by have := (lt_nI (b := 6) (by omega) (by decide)).mp q; omega
        have q2 : gI τ1 13 0 3 = 6 := by rw [hc, g5]; rfl
        simp only [if_neg q1, if_pos q2]
        exact ⟨fun _ _ _ q => absurd q q1, fun _ _ q => absurd q2 q, trivial, h1⟩
      · have q1 : v_AL_size 17 0 σ < 6 := by rw [hsz]; exact (lt_nI (b := 6) (by omega) (by decide)).mpr (by omega)
        have q2 : ¬ gI τ1 13 0 3 = 6 := by rw [hc]; exact fun q => g5 ((nI_eq (b := 6) (by omega) (by decide)).mp q)
        simp only [if_pos q1, if_neg q2]
        have pcs := patch_cells σ a b c d e 0
        obtain ⟨σa, ea⟩ : ∃ s, s = e_Pt_init (gN σ 6) a b c d e 0 (sNew σ 6) := ⟨_, rfl⟩
        rw [← ea] at pcs ⊢
        have hla : gI σa 17 0 2 = nI P := by rw [ea]; exact hl
        obtain ⟨σb, eb⟩ : ∃ s, s = e_AL_add 17 0 6 (gN σ 6) σa := ⟨_, rfl⟩
        rw [← eb]
        have i0 : (5 * gI τ1 13 0 3) = nI (5 * P) := by rw [hc]; exact nMul 5 P
        have vi : ∀ k, k < 5 → vp_in (nI (5 * P + k)) 30 := fun k hk => nI_inb (by omega) (by decide)
        have j1 : (5 * gI τ1 13 0 3) + 1 = nI (5 * P + 1) := by rw [i0]; exact nA _ 1
        have j2 : (5 * gI τ1 13 0 3) + 2 = nI (5 * P + 2) := by rw [i0]; exact nA _ 2
        have j3 : (5 * gI τ1 13 0 3) + 3 = nI (5 * P + 3) := by rw [i0]; exact nA _ 3
        have j4 : (5 * gI τ1 13 0 3) + 4 = nI (5 * P + 4) := by rw [i0]; exact nA _ 4
        have eM : sI (sI (sI (sI (sI (sI τ1 42 0 (5 * gI τ1 13 0 3).toNatClampNeg a) 42 0 ((5 * gI τ1 13 0 3) + 1).toNatClampNeg b) 42 0 ((5 * gI τ1 13 0 3) + 2).toNatClampNeg c) 42 0 ((5 * gI τ1 13 0 3) + 3).toNatClampNeg d) 42 0 ((5 * gI τ1 13 0 3) + 4).toNatClampNeg e) 13 0 3 (gI τ1 13 0 3 + 1) = sI (sI (sI (sI (sI (sI τ1 42 0 (5 * P) a) 42 0 (5 * P + 1) b) 42 0 (5 * P + 2) c) 42 0 (5 * P + 3) d) 42 0 (5 * P + 4) e) 13 0 3 (nI (P + 1)) := by
          rw [j1, j2, j3, j4, i0, nI_cl (by omega), nI_cl (by omega), nI_cl (by omega), nI_cl (by omega), nI_cl (by omega), hc, nI_s]
        refine ⟨fun _ _ _ _ => pc_add hla (by omega), fun _ _ _ => ⟨by rw [i0]; exact vi 0 (by decide), by rw [j1]; exact vi 1 (by decide), by rw [j2]; exact vi 2 (by decide), by rw [j3]; exact vi 3 (by decide), by rw [j4]; exact vi 4 (by decide)⟩, ?_, ?_⟩
        · show gI σb 17 0 2 - 1 = (gI τ1 13 0 3 + 1) - 1
          rw [eb, sz_add hla, hc, nI_s]
        · show Cpl σb (sI (sI (sI (sI (sI (sI τ1 42 0 (5 * gI τ1 13 0 3).toNatClampNeg a) 42 0 ((5 * gI τ1 13 0 3) + 1).toNatClampNeg b) 42 0 ((5 * gI τ1 13 0 3) + 2).toNatClampNeg c) 42 0 ((5 * gI τ1 13 0 3) + 3).toNatClampNeg d) 42 0 ((5 * gI τ1 13 0 3) + 4).toNatClampNeg e) 13 0 3 (gI τ1 13 0 3 + 1))
          rw [eM]
          obtain ⟨τb, et⟩ : ∃ t, t = sI (sI (sI (sI (sI (sI τ1 42 0 (5 * P) a) 42 0 (5 * P + 1) b) 42 0 (5 * P + 2) c) 42 0 (5 * P + 3) d) 42 0 (5 * P + 4) e) 13 0 3 (nI (P + 1)) := ⟨_, rfl⟩
          rw [← et]
          have wτ : agO [13004, 42000] τ1 τb := by rw [et]; exact agO_sI rfl (agO_sI rfl (agO_sI rfl (agO_sI rfl (agO_sI rfl (agO_sI rfl (agO_refl _ τ1))))))
          have wσ : agO [6000, 6999, 17000] σ σb := by
            rw [eb, ea]
            exact agO.step (agO_sI rfl (agO_sI rfl (agO_sI rfl (agO_sI rfl (agO_sI rfl (agO_sI rfl (agO_sNew (by decide) (by decide) (agO_refl _ σ)))))))) (w_AL_add17 0 6 _ _) rfl
          have nP : nM τb 3 = P + 1 := nM_set (by omega) (by rw [et]; rfl)
          have cI : ∀ p f, gI σb 6 p f = if p = gN σ 6 then (if f = 0 then a else if f = 1 then b else if f = 2 then c else if f = 3 then d else if f = 4 then e else if f = 5 then 0 else 0) else gI σ 6 p f := fun p f => by
            rw [eb]; exact pcs p f
          have cR : ∀ p, gR σb 17 0 p = if p = P then some (gN σ 6) else gR σ 17 0 p := fun p => by
            rw [eb, eL_add hla (by omega), ea]
            rfl
          have cN : gN σb 6 = gN σ 6 + 1 := by rw [eb, ea]; rfl
          have lo : ∀ x, x < 5 * P → gI τb 42 0 x = gI τ1 42 0 x := fun x hx => by
            rw [et]
            show gI (sI (sI (sI (sI (sI τ1 42 0 (5 * P) a) 42 0 (5 * P + 1) b) 42 0 (5 * P + 2) c) 42 0 (5 * P + 3) d) 42 0 (5 * P + 4) e) 42 0 x = _
            rw [gI_at2 _ _ _ _ _ (by omega), gI_at2 _ _ _ _ _ (by omega), gI_at2 _ _ _ _ _ (by omega), gI_at2 _ _ _ _ _ (by omega), gI_at2 _ _ _ _ _ (by omega)]
          have m4 : gI τb 42 0 (5 * P + 4) = e := by
            rw [et]
            exact gI_at1 _ _ _ _
          have m3 : gI τb 42 0 (5 * P + 3) = d := by
            rw [et]
            show gI (sI (sI (sI (sI (sI τ1 42 0 (5 * P) a) 42 0 (5 * P + 1) b) 42 0 (5 * P + 2) c) 42 0 (5 * P + 3) d) 42 0 (5 * P + 4) e) 42 0 _ = _
            rw [gI_at2 _ _ _ _ _ (by omega), gI_at1]
          have m2 : gI τb 42 0 (5 * P + 2) = c := by
            rw [et]
            show gI (sI (sI (sI (sI (sI τ1 42 0 (5 * P) a) 42 0 (5 * P + 1) b) 42 0 (5 * P + 2) c) 42 0 (5 * P + 3) d) 42 0 (5 * P + 4) e) 42 0 _ = _
            rw [gI_at2 _ _ _ _ _ (by omega), gI_at2 _ _ _ _ _ (by omega), gI_at1]
          have m1 : gI τb 42 0 (5 * P + 1) = b := by
            rw [et]
            show gI (sI (sI (sI (sI (sI τ1 42 0 (5 * P) a) 42 0 (5 * P + 1) b) 42 0 (5 * P + 2) c) 42 0 (5 * P + 3) d) 42 0 (5 * P + 4) e) 42 0 _ = _
            rw [gI_at2 _ _ _ _ _ (by omega), gI_at2 _ _ _ _ _ (by omega), gI_at2 _ _ _ _ _ (by omega), gI_at1]
          have m0 : gI τb 42 0 (5 * P) = a := by
            rw [et]
            show gI (sI (sI (sI (sI (sI τ1 42 0 (5 * P) a) 42 0 (5 * P + 1) b) 42 0 (5 * P + 2) c) 42 0 (5 * P + 3) d) 42 0 (5 * P + 4) e) 42 0 _ = _
            rw [gI_at2 _ _ _ _ _ (by omega), gI_at2 _ _ _ _ _ (by omega), gI_at2 _ _ _ _ _ (by omega), gI_at2 _ _ _ _ _ (by omega), gI_at1]
          have cc := h1.m.c
          refine Cpl.upd h1 wσ wτ rfl (iM.upd h1.m wτ (Or.inr ⟨⟨by rw [nP, et]; rfl, by omega⟩, ?_, ?_, ?_, ?_, ?_, ?_⟩) (Or.inl rfl) (Or.inr fun i hi => ?_) (Or.inl rfl) (Or.inl rfl) (Or.inl rfl) (Or.inl rfl) (Or.inl rfl) (Or.inl rfl) (Or.inl rfl) (Or.inl rfl) (Or.inl rfl) (Or.inl rfl) (Or.inl rfl)) (Or.inl rfl) (Or.inl rfl) (Or.inr ⟨?_, fun i hi => ?_⟩) (Or.inr ⟨?_, fun i hi => ?_⟩) (Or.inl rfl) (Or.inl rfl) (Or.inl rfl) (Or.inl rfl) (Or.inl rfl) (Or.inl rfl) (Or.inl rfl) (Or.inl rfl) (Or.inl rfl) (Or.inl rfl) (Or.inl rfl) (Or.inl rfl)
          · rw [et]; exact cc.2.1
          · rw [et]; exact cc.2.2.1
          · rw [et]; exact cc.2.2.2.1
          · rw [et]; exact cc.2.2.2.2.1
          · rw [et]; exact cc.2.2.2.2.2.1
          · rw [et]; exact cc.2.2.2.2.2.2
          · rw [nP] at hi
            by_cases q : i = P
            · subst q; rw [m4]; exact g3
            · rw [lo _ (by omega)]; exact h1.m.m i (by omega)
          · rw [eb, sz_add hla, et]; rfl
          · rw [nP] at hi
            by_cases q : i = P
            · subst q
              have e1 := cR i
              rw [if_pos rfl] at e1
              rw [eL_of e1, e1, cN]
              refine ⟨rfl, by omega, ?_⟩
              rw [cI, cI, cI, cI, cI, m0, m1, m2, m3, m4]
              simp
            · have e1 := cR i
              rw [if_neg q] at e1
              obtain ⟨k1, k2, k3⟩ := h1.me.2 i (by omega)
              rw [k1] at e1
              rw [eL_of e1, e1, cN, lo _ (by omega), lo _ (by omega), lo _ (by omega), lo _ (by omega), lo _ (by omega)]
              refine ⟨rfl, by omega, ?_⟩
              rw [cI, cI, cI, cI, cI]
              have : ¬ eL σ 17 i = gN σ 6 := by omega
              simp only [if_neg this]
              exact k3
          · rw [wσ.i rfl, wτ.i rfl]; exact h1.s.1
          · have n5 : nM τb 5 = nM τ1 5 := by unfold nM; rw [wτ.i rfl]
            rw [n5] at hi
            obtain ⟨k1, k2, k3⟩ := h1.s.2 i hi
            have e1 : gR σb 18 0 i = some (eL σ 18 i) := by rw [wσ.r rfl]; exact k1
            rw [eL_of e1, e1, cN, wτ.i rfl, wτ.i rfl, wτ.i rfl, wτ.i rfl, wτ.i rfl, wτ.i rfl]
            refine ⟨rfl, by omega, ?_⟩
            rw [cI, cI, cI, cI, cI, cI]
            have : ¬ eL σ 18 i = gN σ 6 := by omega
            simp only [if_neg this]
            exact k3
    · simp only [if_pos (bz g3)]
      exact ⟨fun _ _ q => absurd (bz g3) q, fun _ q => absurd (bz g3) q, trivial, h1⟩

