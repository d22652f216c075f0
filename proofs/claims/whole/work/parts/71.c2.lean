theorem nM_set {τ : MSto} {f : Nat} {n : Nat} (hn : n < 2 ^ 31) (h : gI τ 13 0 f = nI n) : nM τ f = n := by unfold nM; rw [h, nI_cl hn]
theorem lt_nI {n b : Nat} (hn : n < 2 ^ 31) (hb : b < 2 ^ 31) : nI n < nI b ↔ n < b := ltN hn hb
/-- a list grows by one -/
theorem eL_add {σ : MSto} {k k1 a n : Nat} (hs : gI σ k 0 2 = nI n) (hn : n < 2 ^ 31) (i : Nat) : gR (e_AL_add k 0 k1 a σ) k 0 i = if i = n then some a else gR σ k 0 i := by
  have e : gI (sI σ k 0 0 (gI σ k 0 0 + 1)) k 0 2 = gI σ k 0 2 := by
    rw [gI_sI, if_neg (fun q => by cases q.2.2)]
  unfold e_AL_add
  rw [gR_sI, gR_sR, hs, nI_cl hn]
  by_cases g : i = n
  · rw [if_pos ⟨rfl, rfl, g⟩, if_pos g]
  · rw [if_neg (fun q => g q.2.2), if_neg g]; rfl
theorem sz_add {σ : MSto} {k k1 a n : Nat} (hs : gI σ k 0 2 = nI n) : gI (e_AL_add k 0 k1 a σ) k 0 2 = nI (n + 1) := by
  unfold e_AL_add
  rw [gI_sI, if_pos ⟨rfl, rfl, rfl⟩, hs, nI_s]
theorem pc_add {σ : MSto} {k k1 a n : Nat} (hs : gI σ k 0 2 = nI n) (hn : n ≤ 12) : p_AL_add k 0 k1 a σ := by
  unfold p_AL_add
  rw [hs]
  exact ⟨nI_pos' (by omega), nI_le hn (by decide)⟩
theorem T_piece {σ τ : MSto} (h : Cpl σ τ) (a b c d : Int32) : p_C_piece a b c d σ ∧ p_M_piece a b c d τ ∧ v_C_piece a b c d σ = v_M_piece a b c d τ ∧ Cpl (e_C_piece a b c d σ) (e_M_piece a b c d τ) := by
  have h1 := h.e0
  unfold p_C_piece p_M_piece v_C_piece v_M_piece e_C_piece e_M_piece
  generalize sI τ 13 0 52 0 = τ1 at h1 ⊢
  have hc := h1.m.c.2.2.1.1
  have hP := h1.P12
  obtain ⟨P, eP⟩ : ∃ P, P = nM τ1 10 := ⟨_, rfl⟩
  rw [← eP] at hc hP
  have hl : gI σ 14 0 2 = nI P := h1.p.1.trans hc
  simp only [cp_isSpot, cp_isIn, M_in, M_isPlace]
  by_cases g : (0 ≤ a ∧ a ≤ 23) ∧ (0 ≤ b ∧ b ≤ 7)
  · by_cases g2 : 0 ≤ c ∧ c ≤ 3
    · have g3 : (0 ≤ a ∧ a ≤ 23) ∧ (0 ≤ b ∧ b ≤ 7) ∧ (0 ≤ c ∧ c ≤ 3) := ⟨g.1, g.2, g2⟩
      by_cases g4 : 0 ≤ d ∧ d ≤ 5
      · simp only [if_neg (bn g), if_neg (bn g2), if_neg (bn g3), if_neg (bn g4)]
        have hsz : v_AL_size 14 0 σ = nI P := hl
        by_cases g5 : P = 12
        · have q1 : ¬ v_AL_size 14 0 σ < 12 := by rw [hsz]; exact fun q => by have := (lt_nI (b := 12) (by omega) (by decide)).mp q; omega
          have q2 : gI τ1 13 0 10 = 12 := by rw [hc, g5]; rfl
          simp only [if_neg q1, if_pos q2]
          exact ⟨fun _ _ q => absurd q q1, fun _ _ _ q => absurd q2 q, trivial, h1⟩
        · have q1 : v_AL_size 14 0 σ < 12 := by rw [hsz]; exact (lt_nI (b := 12) (by omega) (by decide)).mpr (by omega)
          have q2 : ¬ gI τ1 13 0 10 = 12 := by rw [hc]; exact fun q => g5 ((nI_eq (b := 12) (by omega) (by decide)).mp q)
          simp only [if_pos q1, if_neg q2]
          have hN : gN σ 7 = P := h1.p.2.1.trans eP.symm
          obtain ⟨σa, ea⟩ : ∃ s, s = e_Pi_init (gN σ 7) a b c d (sNew σ 7) := ⟨_, rfl⟩
          rw [← ea, hN]
          rw [hN] at ea
          have hla : gI σa 14 0 2 = nI P := by rw [ea]; exact hl
          obtain ⟨σb, eb⟩ : ∃ s, s = e_AL_add 14 0 7 P σa := ⟨_, rfl⟩
          rw [← eb]
          have hvin : vp_in (gI τ1 13 0 10) 12 := by rw [hc]; exact nI_inb (by omega) (by decide)
          have eM : sI (sI (sI (sI (sI τ1 47 0 (gI τ1 13 0 10).toNatClampNeg a) 48 0 (gI τ1 13 0 10).toNatClampNeg b) 49 0 (gI τ1 13 0 10).toNatClampNeg c) 50 0 (gI τ1 13 0 10).toNatClampNeg d) 13 0 10 (gI τ1 13 0 10 + 1) = sI (sI (sI (sI (sI τ1 47 0 P a) 48 0 P b) 49 0 P c) 50 0 P d) 13 0 10 (nI (P + 1)) := by rw [hc, nI_cl (by omega), nI_s]
          refine ⟨fun _ _ _ => pc_add hla (by omega), fun _ _ _ _ => ⟨hvin, hvin, hvin, hvin⟩, ?_, ?_⟩
          · show gI σb 14 0 2 - 1 = (gI τ1 13 0 10 + 1) - 1
            rw [eb, sz_add hla, hc, nI_s]
          · show Cpl σb (sI (sI (sI (sI (sI τ1 47 0 (gI τ1 13 0 10).toNatClampNeg a) 48 0 (gI τ1 13 0 10).toNatClampNeg b) 49 0 (gI τ1 13 0 10).toNatClampNeg c) 50 0 (gI τ1 13 0 10).toNatClampNeg d) 13 0 10 (gI τ1 13 0 10 + 1))
            rw [eM]
            obtain ⟨τb, et⟩ : ∃ t, t = sI (sI (sI (sI (sI τ1 47 0 P a) 48 0 P b) 49 0 P c) 50 0 P d) 13 0 10 (nI (P + 1)) := ⟨_, rfl⟩
            rw [← et]
            have wτ : agO [13011, 47000, 48000, 49000, 50000] τ1 τb := by rw [et]; exact agO_sI rfl (agO_sI rfl (agO_sI rfl (agO_sI rfl (agO_sI rfl (agO_refl _ τ1)))))
            have wσ : agO [7000, 7999, 14000] σ σb := by
              rw [eb, ea]
              exact agO.step (agO_sI rfl (agO_sI rfl (agO_sI rfl (agO_sI rfl (agO_sNew (by decide) (by decide) (agO_refl _ σ)))))) (w_AL_add14 0 7 P _) rfl
            have nP : nM τb 10 = P + 1 := nM_set (by omega) (by rw [et]; rfl)
            -- the new piece's cells
            have cI : ∀ p f, gI σb 7 p f = if p = P then (if f = 0 then a else if f = 1 then b else if f = 2 then c else if f = 3 then d else 0) else gI σ 7 p f := by
              intro p f
              rw [eb]
              show gI σa 7 p f = _
              rw [ea]
              unfold e_Pi_init
              simp only [gI_sI, gI_sNew, hN]
              by_cases q : p = P
              · subst q
                by_cases f3 : f = 3
                · subst f3; simp
                · by_cases f2 : f = 2
                  · subst f2; simp
                  · by_cases f1 : f = 1
                    · subst f1; simp
                    · by_cases f0 : f = 0
                      · subst f0; simp
                      · simp [f3, f2, f1, f0]
              · simp [q]
            have cR : ∀ p, gR σb 14 0 p = if p = P then some P else gR σ 14 0 p := fun p => by
              rw [eb, eL_add hla (by omega), ea]
              rfl
            have mX : ∀ p, gI τb 47 0 p = if p = P then a else gI τ1 47 0 p := fun p => by rw [et]; exact gI_at τ1 47 P p a
            have mY : ∀ p, gI τb 48 0 p = if p = P then b else gI τ1 48 0 p := fun p => by rw [et]; exact gI_at _ 48 P p b
            have mW : ∀ p, gI τb 49 0 p = if p = P then c else gI τ1 49 0 p := fun p => by rw [et]; exact gI_at _ 49 P p c
            have mH : ∀ p, gI τb 50 0 p = if p = P then d else gI τ1 50 0 p := fun p => by rw [et]; exact gI_at _ 50 P p d
            have mB : gI τb 13 0 15 = gI τ1 13 0 15 := by rw [et]; rfl
            have mN : ∀ p, gI τb 51 0 p = gI τ1 51 0 p := fun p => by rw [et]; rfl
            have cc := h1.m.c
            refine Cpl.upd h1 wσ wτ rfl (iM.upd h1.m wτ (Or.inr ⟨?_, ?_, ?_, ?_, ?_, ?_, ?_⟩) (Or.inl rfl) (Or.inl rfl) (Or.inl rfl) (Or.inl rfl) (Or.inl rfl) (Or.inr fun p hp => ?_) (Or.inr ⟨fun p hp => ?_, ?_, fun p hp hq => ?_⟩) (Or.inl rfl) (Or.inl rfl) (Or.inl rfl) (Or.inl rfl) (Or.inl rfl) (Or.inr fun i hi hk => ?_)) (Or.inl rfl) (Or.inl rfl) (Or.inl rfl) (Or.inl rfl) (Or.inl rfl) (Or.inl rfl) (Or.inr ⟨?_, ?_, fun p hp => ?_⟩) (Or.inr fun p hp => ?_) (Or.inl rfl) (Or.inl rfl) (Or.inl rfl) (Or.inl rfl) (Or.inl rfl) (Or.inl rfl) (Or.inl rfl) (Or.inl rfl)
            · rw [et]; exact cc.1
            · rw [et]; exact cc.2.1
            · exact ⟨by rw [nP, et]; rfl, by omega⟩
            · rw [et]; exact cc.2.2.2.1
            · rw [et]; exact cc.2.2.2.2.1
            · rw [et]; exact cc.2.2.2.2.2.1
            · rw [et]; exact cc.2.2.2.2.2.2
            · rw [nP] at hp
              rw [mX, mY, mW, mH]
              by_cases q : p = P
              · simp only [if_pos q]; exact ⟨g.1, g.2, g2, g4⟩
              · simp only [if_neg q]; exact h1.m.p p (by omega)
            · rw [mN]; exact h1.m.n.1 p hp
            · rw [mB]; exact h1.m.n.2.1
            · rw [mB]; exact h1.m.n.2.2 p hp (by omega)
            · have := h1.m.k i hi (by rw [et] at hk; exact hk)
              obtain ⟨k1, k2, k3, k4, k5, k6⟩ := this
              rw [et]
              rw [← et]
              refine ⟨by rw [et]; exact k1, by rw [et]; exact k2, fun p hp => by rw [et]; exact k3 p hp, fun p hp hq => ?_, fun s hs hq => by rw [et]; exact k5 s hs (by rw [et] at hq; exact hq), by rw [et]; exact k6⟩
              have := k4 p hp (by omega)
              rw [et]; exact this
            · rw [eb, sz_add hla, et]; rfl
            · rw [nP, eb, ea]
              show gN σ 7 + 1 = P + 1
              rw [hN]
            · rw [nP] at hp
              rw [cR, cI, cI, cI, cI, mX, mY, mW, mH]
              by_cases q : p = P
              · simp only [if_pos q]; exact ⟨by rw [q], rfl, rfl, rfl, rfl⟩
              · simp only [if_neg q]; exact h1.p.2.2 p (by omega)
            · rw [nP] at hp
              rw [cI, cI, mB, mN]
              by_cases q : p = P
              · simp only [if_pos q]
                have hb := h1.m.n.2.2 p (by omega) (by omega)
                exact ⟨hb.symm, fun z => absurd rfl z⟩
              · simp only [if_neg q]; exact h1.n p (by omega)
      · simp only [if_neg (bn g), if_neg (bn g2), if_neg (bn g3), if_pos (bz g4)]
        exact ⟨fun _ q => absurd (bz g4) q, fun _ _ q => absurd (bz g4) q, trivial, h1⟩
    · have g3 : ¬ ((0 ≤ a ∧ a ≤ 23) ∧ (0 ≤ b ∧ b ≤ 7) ∧ (0 ≤ c ∧ c ≤ 3)) := fun q => g2 q.2.2
      simp only [if_neg (bn g), if_pos (bz g2), if_pos (bz g3)]
      exact ⟨fun q => absurd (bz g3) q, fun _ q => absurd (bz g2) q, trivial, h1⟩
  · have g3 : ¬ ((0 ≤ a ∧ a ≤ 23) ∧ (0 ≤ b ∧ b ≤ 7) ∧ (0 ≤ c ∧ c ≤ 3)) := fun q => g ⟨q.1, q.2.1⟩
    simp only [if_pos (bz g), if_pos (bz g3)]
    exact ⟨fun q => absurd (bz g3) q, fun q => absurd (bz g) q, trivial, h1⟩

