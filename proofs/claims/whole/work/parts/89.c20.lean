/-! stories: would, when, odds, first -/
theorem cp_wouldBe {σ τ : MSto} (h : Cpl σ τ) {s p : Nat} (hs : s < nM τ 17) (hp : p < nM τ 10) {y : Int32} (hy : rg y 0 199) : v_C_wouldBe (eL σ 15 s) p y σ = v_M_wouldOf (nI s) (nI p) y τ ∧ p_C_wouldBe (eL σ 15 s) p y σ ∧ p_M_wouldOf (nI s) (nI p) y τ := by
  have hP := h.P12
  have vp : vp_in (nI p) 12 := nI_inb (by omega) (by decide)
  obtain ⟨-, k1, k2, k3, k4⟩ := h.p.2.2 p hp
  obtain ⟨-, -, r3, r4⟩ := h.m.p p hp
  refine ⟨?_, ⟨pc_bare h _ _ _ (piece_c h hp), house_vin h hp⟩, ?_⟩
  · unfold v_C_wouldBe v_M_wouldOf
    rw [nI_cl (by omega), k1, k2, k3, k4]
    exact cp_would h hs _ _ r3 r4 hy
  · unfold p_M_wouldOf
    rw [nI_cl (by omega)]
    exact ⟨vp, vp, vp, vp, pM_would h.m hs _ _ r3 r4 hy⟩
theorem T_would {σ τ : MSto} (h : Cpl σ τ) (a b c : Int32) : p_M_would a b c τ ∧ Cpl σ (e_M_would a b c τ) ∧ (((v_C_isStory a σ = 0 ∨ (¬ v_C_isStory a σ = 0 ∧ (v_C_isPiece b σ = 0 ∨ (¬ v_C_isPiece b σ = 0 ∧ v_C_isYear c σ = 0)))) ∧ gI (e_M_would a b c τ) 13 0 52 = 1) ∨ (¬ v_C_isStory a σ = 0 ∧ ¬ v_C_isPiece b σ = 0 ∧ ¬ v_C_isYear c σ = 0 ∧ p_C_would a b c σ ∧ v_C_would a b c σ = v_M_would a b c τ ∧ gI (e_M_would a b c τ) 13 0 52 = 0)) := by
  have h1 := h.e0
  have hz : gI (sI τ 13 0 52 0) 13 0 52 = 0 := rfl
  unfold p_M_would e_M_would v_M_would p_C_would v_C_would
  generalize sI τ 13 0 52 0 = τ1 at h1 hz ⊢
  have hl := h1.mv (agO_refl [] σ) (w_M_lost τ1) rfl rfl
  simp only [cp_isStory h1, cp_isPiece h1, cp_isYear, M_isYear]
  by_cases g : v_M_isStory a τ1 = 0
  · simp only [if_pos g]
    exact ⟨fun q => absurd g q, hl, Or.inl ⟨Or.inl g, rfl⟩⟩
  · by_cases g1 : v_M_isPiece b τ1 = 0
    · simp only [if_neg g, if_pos g1]
      exact ⟨fun _ q => absurd g1 q, hl, Or.inl ⟨Or.inr ⟨g, Or.inl g1⟩, rfl⟩⟩
    · by_cases g2 : 0 ≤ c ∧ c ≤ 199
      · simp only [if_neg g, if_neg g1, if_neg (bn g2)]
        obtain ⟨s, hs, rfl⟩ := storyN h1 g
        obtain ⟨p, hp, rfl⟩ := pieceN h1 g1
        have hP := h1.P12
        have hS := h1.S6
        obtain ⟨q1, q2, q3⟩ := cp_wouldBe h1 hs hp g2
        rw [al_v (by omega), al_v (by omega), h1.eP hp]
        exact ⟨fun _ _ _ => q3, h1, Or.inr ⟨g, g1, bn g2, ⟨fun q => g q, fun _ => ⟨fun q => g1 q, fun _ => ⟨fun q => bn g2 q, fun _ => ⟨al_p h1.lS (by omega) hs, al_p h1.lP (by omega) hp, q2⟩⟩⟩⟩, q1, hz⟩⟩
      · simp only [if_neg g, if_neg g1, if_pos (bz g2)]
        exact ⟨fun _ _ q => absurd (bz g2) q, hl, Or.inl ⟨Or.inr ⟨g, Or.inr ⟨g1, bz g2⟩⟩, rfl⟩⟩
/-! how likely a year is to a story, as a number -/
noncomputable def lkN (τ : MSto) (s p : Nat) (y : Int32) : Nat := (v_M_likenessOf (gI τ 51 0 p).toInt64 (v_M_wouldOf (nI s) (nI p) y τ).toInt64 (v_M_spanOf (nI p) τ) τ).toInt.natAbs
theorem lkN_eq (τ : MSto) (s p : Nat) (y : Int32) : v_M_likenessOf (gI τ 51 0 p).toInt64 (v_M_wouldOf (nI s) (nI p) y τ).toInt64 (v_M_spanOf (nI p) τ) τ = nI (lkN τ s p y) ∧ lkN τ s p y ≤ 100 := by
  obtain ⟨L, e, hL⟩ := like_le (gI τ 51 0 p).toInt64 (v_M_wouldOf (nI s) (nI p) y τ).toInt64 (v_M_spanOf (nI p) τ) τ
  have : lkN τ s p y = L := by
    unfold lkN
    rw [e, nI_toInt (by omega)]
    rfl
  rw [this]
  exact ⟨e, hL⟩
noncomputable def pA (τ : MSto) (s k : Nat) (y : Int32) : Nat → Nat
  | 0 => 1
  | n + 1 => if k.testBit n = true then pA τ s k y n * lkN τ s n y else pA τ s k y n
theorem pA_s (τ : MSto) (s k : Nat) (y : Int32) (n : Nat) : pA τ s k y (n + 1) = if k.testBit n = true then pA τ s k y n * lkN τ s n y else pA τ s k y n := rfl
theorem pA_le (τ : MSto) (s k : Nat) (y : Int32) : ∀ n, pA τ s k y n ≤ 100 ^ fb_ct k.testBit n
  | 0 => Nat.le_refl 1
  | n + 1 => by
    have ih := pA_le τ s k y n
    rw [pA_s, fb_ct_succ]
    by_cases g : k.testBit n = true
    · rw [if_pos g, if_pos g, Nat.pow_succ]
      exact Nat.mul_le_mul ih (lkN_eq τ s n y).2
    · rw [if_neg g, if_neg g]; exact ih
theorem pA_0 (τ : MSto) (s k : Nat) (y : Int32) {m : Nat} (h : pA τ s k y m = 0) : ∀ n, m ≤ n → pA τ s k y n = 0
  | 0, q => by
    have : m = 0 := by omega
    subst this; exact h
  | n + 1, q => by
    by_cases e : m = n + 1
    · subst e; exact h
    · have ih := pA_0 τ s k y h n (by omega)
      rw [pA_s, ih, Nat.zero_mul]
      split <;> rfl
noncomputable def ftN (τ : MSto) (q : Nat) (y : Int32) : Nat := (v_M_fitOf (nI q) y τ).toInt.natAbs
theorem ftN_eq {τ : MSto} (hm : iM τ) {q : Nat} (hq : q < nM τ 27) (y : Int32) : v_M_fitOf (nI q) y τ = nI (ftN τ q y) ∧ 1 ≤ ftN τ q y ∧ ftN τ q y ≤ 9 := by
  have h4 := hm.c.2.2.2.2.1.2
  obtain ⟨t, et, h1, h9⟩ := rg_nat (hm.q q hq).2.2 (by decide)
  have e1 : (1 : Int32).toInt = 1 := rfl
  have e9 : (9 : Int32).toInt = 9 := rfl
  have e10 : (10 : Int32) - nI t = nI (10 - t) := pk_sub (a := 10) (by omega)
  have key : v_M_fitOf (nI q) y τ = nI t ∨ v_M_fitOf (nI q) y τ = nI (10 - t) := by
    unfold v_M_fitOf
    rw [nI_cl (by omega), et, e10]
    split
    · split
      · exact Or.inr rfl
      · exact Or.inl rfl
    · split
      · exact Or.inr rfl
      · exact Or.inl rfl
  rcases key with e | e
  · have : ftN τ q y = t := by unfold ftN; rw [e, nI_toInt (by omega)]; rfl
    rw [this]; exact ⟨e, by omega, by omega⟩
  · have : ftN τ q y = 10 - t := by unfold ftN; rw [e, nI_toInt (by omega)]; rfl
    rw [this]; exact ⟨e, by omega, by omega⟩
theorem cp_fit {σ τ : MSto} (h : Cpl σ τ) {q : Nat} (hq : q < nM τ 27) (y : Int32) : v_Pp_fitTo (eL σ 16 q) y σ = nI (ftN τ q y) := by
  rw [← (ftN_eq h.m hq y).1]
  have h4 := h.m.c.2.2.2.2.1.2
  obtain ⟨-, -, k0, k1, k2⟩ := h.q.2 q hq
  have hb := (h.m.q q hq).2.1
  obtain ⟨b, eb, hb1⟩ := nat_rg (b := 1) hb (by decide)
  unfold v_Pp_fitTo v_M_fitOf
  rw [nI_cl (by omega), k0, k1, k2, eb]
  have : b = 0 ∨ b = 1 := by omega
  rcases this with rfl | rfl
  · rw [if_pos (show nI 0 = 0 from rfl), if_pos (show nI 0 = 0 from rfl), if_neg (show ¬ nI 0 = 1 by decide)]
  · rw [if_neg (show ¬ nI 1 = 0 by decide), if_neg (show ¬ nI 1 = 0 by decide), if_pos (show nI 1 = 1 from rfl)]
    by_cases g : y ≤ gI τ 61 0 q
    · rw [if_pos g, if_neg (Int32.not_lt.mpr g)]
    · rw [if_neg g, if_pos (Int32.not_le.mp g)]
noncomputable def pB (τ : MSto) (y but : Int32) : Nat → Nat
  | 0 => 1
  | n + 1 => @ite _ (nI n = but) (Classical.propDecidable _) (pB τ y but n) (pB τ y but n * ftN τ n y)
theorem pB_s (τ : MSto) (y but : Int32) (n : Nat) : pB τ y but (n + 1) = @ite _ (nI n = but) (Classical.propDecidable _) (pB τ y but n) (pB τ y but n * ftN τ n y) := rfl
theorem pB_le {τ : MSto} (hm : iM τ) (y but : Int32) : ∀ n, n ≤ nM τ 27 → pB τ y but n ≤ 9 ^ n
  | 0, _ => Nat.le_refl 1
  | n + 1, hn => by
    have ih := pB_le hm y but n (by omega)
    rw [pB_s, Nat.pow_succ]
    by_cases g : nI n = but
    · rw [if_pos g]
      have : 9 ^ n * 1 ≤ 9 ^ n * 9 := Nat.mul_le_mul_left _ (by decide)
      omega
    · rw [if_neg g]
      exact Nat.mul_le_mul ih (ftN_eq hm (by omega) y).2.2
noncomputable def pN (τ : MSto) (s k : Nat) (y but : Int32) : Nat := pA τ s k y (nM τ 10) * pB τ y but (nM τ 27)
theorem pN_le {τ : MSto} (hm : iM τ) {k : Nat} (h4 : pop k ≤ 4) (s : Nat) (y but : Int32) : pN τ s k y but ≤ 656100000000 := by
  have hP : nM τ 10 ≤ 12 := hm.c.2.2.1.2
  have hQ : nM τ 27 ≤ 4 := hm.c.2.2.2.2.1.2
  have h1 : fb_ct k.testBit (nM τ 10) ≤ 4 := Nat.le_trans (fb_ct_mono _ (by omega)) h4
  have a1 := Nat.le_trans (pA_le τ s k y (nM τ 10)) (Nat.pow_le_pow_right (by decide) h1)
  have a2 := Nat.le_trans (pB_le hm y but (nM τ 27) (Nat.le_refl _)) (Nat.pow_le_pow_right (by decide) hQ)
  exact Nat.le_trans (Nat.mul_le_mul a1 a2) (by decide)
theorem C_pA {σ τ : MSto} (h : Cpl σ τ) {s k : Nat} (hs : s < nM τ 17) (hk : ∀ j, k.testBit j = true → j < nM τ 10 ∧ bt (gI τ 13 0 15) j = true) {y : Int32} (hy : rg y 0 199) (but : Int32) : ∀ n, n ≤ nM τ 10 → f_C_partOf_6 (eL σ 15 s) (nI k) y but 0 σ 1 n = lN (pA τ s k y n)
  | 0, _ => rfl
  | n + 1, hn => by
    have hP := h.P12
    show t_C_partOf_6 (eL σ 15 s) (nI k) y but (0 + nI n) σ (f_C_partOf_6 (eL σ 15 s) (nI k) y but 0 σ 1 n) = _
    rw [C_pA h hs hk hy but n (by omega), pA_s]
    unfold t_C_partOf_6
    rw [if_neg (ng_cnt (cp_pieceCount h) (by omega) (by omega : n < nM τ 10)), z_nI, hasC (by omega), al_v (by omega), h.eP (by omega)]
    by_cases g : k.testBit n = true
    · obtain ⟨e, hL⟩ := lkN_eq τ s n y
      rw [if_neg (bn g), if_pos g, cp_num h (by omega) (hk n g).2, (cp_wouldBe h hs (by omega) hy).1, cp_span h (by omega), (cp_likeness (τ := τ) h.a _ _ (spanOf_rg h.m (by omega))).1, e, nI_l (by omega), lN_mul]
    · rw [if_pos (bz g), if_neg g]
theorem cmp_z {n : Nat} (h : n < 2 ^ 63) : lg_cmp (lN n) 0 ≤ 0 ↔ n = 0 := by
  rw [show (0 : Int64) = lN 0 from rfl, cmp_leN h (by decide)]
  omega
theorem pA_63 (τ : MSto) {s k : Nat} (h4 : pop k ≤ 4) (y : Int32) {n : Nat} (hn : n ≤ 15) : pA τ s k y n < 2 ^ 63 := by
  have h1 : fb_ct k.testBit n ≤ 4 := Nat.le_trans (fb_ct_mono _ hn) h4
  exact Nat.lt_of_le_of_lt (Nat.le_trans (pA_le τ s k y n) (Nat.pow_le_pow_right (by decide) h1)) (by decide)
theorem M_pA {τ : MSto} (hm : iM τ) {s k : Nat} (h4 : pop k ≤ 4) (y but : Int32) : ∀ n, n ≤ nM τ 10 → f_M_partOf_6 (nI s) (nI k) y but 0 τ 1 n = lN (pA τ s k y n)
  | 0, _ => rfl
  | n + 1, hn => by
    have hP : nM τ 10 ≤ 12 := hm.c.2.2.1.2
    show t_M_partOf_6 (nI s) (nI k) y but (0 + nI n) τ (f_M_partOf_6 (nI s) (nI k) y but 0 τ 1 n) = _
    rw [M_pA hm h4 y but n (by omega)]
    have h63 := pA_63 τ (s := s) h4 y (n := n) (by omega)
    unfold t_M_partOf_6
    rw [if_neg (ng_cnt hm.c.2.2.1.1 (by omega) (by omega : n < nM τ 10)), z_nI, hasM (by omega), nI_cl (by omega)]
    by_cases z : pA τ s k y n = 0
    · rw [if_pos ((cmp_z h63).mpr z), z, pA_0 τ s k y z (n + 1) (by omega)]
    · rw [if_neg (fun q => z ((cmp_z h63).mp q)), pA_s]
      by_cases g : k.testBit n = true
      · obtain ⟨e, hL⟩ := lkN_eq τ s n y
        rw [if_neg (bn g), if_pos g, e, nI_l (by omega), lN_mul]
      · rw [if_pos (bz g), if_neg g]
theorem C_pB {σ τ : MSto} (h : Cpl σ τ) (y but : Int32) (V : Nat) : ∀ n, n ≤ nM τ 27 → f_C_partOf_79 y but 0 σ (lN V) n = lN (V * pB τ y but n)
  | 0, _ => by rw [show pB τ y but 0 = 1 from rfl, Nat.mul_one]; rfl
  | n + 1, hn => by
    have h4 := h.m.c.2.2.2.2.1.2
    show t_C_partOf_79 y but (0 + nI n) σ (f_C_partOf_79 y but 0 σ (lN V) n) = _
    rw [C_pB h y but V n (by omega), pB_s]
    obtain ⟨-, f1, f9⟩ := ftN_eq h.m (q := n) (by omega) y
    unfold t_C_partOf_79
    rw [if_neg (ng_cnt (N := v_AL_size 16 0 σ) h.lQ (by omega) (by omega : n < nM τ 27)), z_nI, al_v (by omega), cp_fit h (by omega), nI_l (by omega), lN_mul]
    by_cases g : nI n = but
    · rw [if_pos g, if_pos g]
    · rw [if_neg g, if_neg g, Nat.mul_assoc]
theorem M_pB {τ : MSto} (hm : iM τ) (y but : Int32) (V : Nat) : ∀ n, n ≤ nM τ 27 → f_M_partOf_72 y but 0 τ (lN V) n = lN (V * pB τ y but n)
  | 0, _ => by rw [show pB τ y but 0 = 1 from rfl, Nat.mul_one]; rfl
  | n + 1, hn => by
    have h4 := hm.c.2.2.2.2.1.2
    show t_M_partOf_72 y but (0 + nI n) τ (f_M_partOf_72 y but 0 τ (lN V) n) = _
    rw [M_pB hm y but V n (by omega), pB_s]
    obtain ⟨e, f1, f9⟩ := ftN_eq hm (q := n) (by omega) y
    unfold t_M_partOf_72
    rw [if_neg (ng_cnt hm.c.2.2.2.2.1.1 (by omega) (by omega : n < nM τ 27)), z_nI, e, nI_l (by omega), lN_mul]
    by_cases g : nI n = but
    · rw [if_pos g, if_pos g]
    · rw [if_neg g, if_neg g, Nat.mul_assoc]
theorem pM_fit {τ : MSto} (hm : iM τ) {q : Nat} (hq : q < nM τ 27) (y : Int32) : p_M_fitOf (nI q) y τ := by
  have h4 := hm.c.2.2.2.2.1.2
  have v : vp_in (nI q) 4 := nI_inb (by omega) (by decide)
  exact ⟨v, fun _ => ⟨v, fun _ => v, fun _ => v⟩, fun _ => ⟨v, fun _ => v, fun _ => v⟩⟩
/-- a part, both ways -/
theorem cp_partOf {σ τ : MSto} (h : Cpl σ τ) {s k : Nat} (hs : s < nM τ 17) (hk : ∀ j, k.testBit j = true → j < nM τ 10 ∧ bt (gI τ 13 0 15) j = true) (h4 : pop k ≤ 4) {y : Int32} (hy : rg y 0 199) (but : Int32) : v_C_partOf (eL σ 15 s) (nI k) y but σ = lN (pN τ s k y but) ∧ v_M_partOf (nI s) (nI k) y but τ = lN (pN τ s k y but) ∧ p_C_partOf (eL σ 15 s) (nI k) y but σ ∧ p_M_partOf (nI s) (nI k) y but τ := by
  have hP := h.P12
  have hQ := h.m.c.2.2.2.2.1.2
  have cP := h.m.c.2.2.1.1
  have cQ := h.m.c.2.2.2.2.1.1
  have nC6 : n_C_partOf_6 (eL σ 15 s) (nI k) y but 0 σ 1 = nM τ 10 := by unfold n_C_partOf_6; exact cp_pN h
  have eC6 := C_pA h hs hk hy but _ (Nat.le_refl _)
  have nC79 : ∀ V, n_C_partOf_79 y but 0 σ V = nM τ 27 := fun V => by unfold n_C_partOf_79; rw [h.lQ, nI_cl (by omega)]
  -- where the reference's first loop ends
  have hq : ∀ i, i ≤ nM τ 10 → (q_M_partOf_6s (nI s) (nI k) y but (0 + nI i) τ (f_M_partOf_6 (nI s) (nI k) y but 0 τ 1 i) = 1 ↔ (nM τ 10 ≤ i ∨ pA τ s k y i = 0)) := fun i hi => by
    rw [M_pA h.m h4 y but i hi]
    have h63 := pA_63 τ (s := s) h4 y (n := i) (by omega)
    unfold q_M_partOf_6s
    rw [z_nI, cP]
    by_cases g : nM τ 10 ≤ i
    · rw [if_pos (nI_le g (by omega))]
      exact ⟨fun _ => Or.inl g, fun _ => rfl⟩
    · rw [if_neg (nI_ge (by omega) (by omega))]
      by_cases z : pA τ s k y i = 0
      · rw [if_pos ((cmp_z h63).mpr z)]; exact ⟨fun _ => Or.inr z, fun _ => rfl⟩
      · rw [if_neg (fun q => z ((cmp_z h63).mp q))]
        exact ⟨fun q => absurd q (by decide), fun q => absurd q (fun w => w.elim g z)⟩
  obtain ⟨N, eN⟩ : ∃ N, N = n_M_partOf_6 (nI s) (nI k) y but 0 τ 1 := ⟨_, rfl⟩
  have hN : N ≤ nM τ 10 := by
    rcases Nat.lt_or_ge (nM τ 10) N with q | q
    · rw [eN] at q
      exact absurd ((hq _ (Nat.le_refl _)).mpr (Or.inl (Nat.le_refl _))) (leastN_on (P := fun i => q_M_partOf_6s (nI s) (nI k) y but (0 + nI i) τ (f_M_partOf_6 (nI s) (nI k) y but 0 τ 1 i) = 1) q)
    · exact q
  have offN : q_M_partOf_6s (nI s) (nI k) y but (0 + nI N) τ (f_M_partOf_6 (nI s) (nI k) y but 0 τ 1 N) = 1 := by
    have h13 : N < 13 := by omega
    rw [eN] at h13 ⊢
    exact leastN_off (P := fun i => q_M_partOf_6s (nI s) (nI k) y but (0 + nI i) τ (f_M_partOf_6 (nI s) (nI k) y but 0 τ 1 i) = 1) h13
  have onN : ∀ i, i < N → ¬ q_M_partOf_6s (nI s) (nI k) y but (0 + nI i) τ (f_M_partOf_6 (nI s) (nI k) y but 0 τ 1 i) = 1 := fun i hi => by
    rw [eN] at hi
    exact leastN_on (P := fun i => q_M_partOf_6s (nI s) (nI k) y but (0 + nI i) τ (f_M_partOf_6 (nI s) (nI k) y but 0 τ 1 i) = 1) hi
  have ex := (hq N hN).mp offN
  have eM6 : f_M_partOf_6 (nI s) (nI k) y but 0 τ 1 N = lN (pA τ s k y (nM τ 10)) := by
    rw [M_pA h.m h4 y but N hN]
    rcases ex with q | q
    · rw [show N = nM τ 10 by omega]
    · rw [q, pA_0 τ s k y q _ hN]
  have pM72 : (∀ i, i < n_M_partOf_72 y but 0 τ (lN (pA τ s k y (nM τ 10))) → g_M_partOf_72 y but (0 + nI i) τ (f_M_partOf_72 y but 0 τ (lN (pA τ s k y (nM τ 10))) i) ∧ ¬ q_M_partOf_72s y but (0 + nI i) τ (f_M_partOf_72 y but 0 τ (lN (pA τ s k y (nM τ 10))) i) = 1) ∧ (¬ gI τ 13 0 27 ≤ 0 + nI (n_M_partOf_72 y but 0 τ (lN (pA τ s k y (nM τ 10)))) → False) := by
    have nn : n_M_partOf_72 y but 0 τ (lN (pA τ s k y (nM τ 10))) = nM τ 27 := rfl
    rw [nn]
    exact ⟨fun i hi => ⟨fun _ _ => by rw [z_nI]; exact pM_fit h.m hi y, q_cnt cQ (by omega) hi⟩, fun q => q (e_cnt cQ)⟩
  refine ⟨?_, ?_, ?_, ?_⟩
  · unfold v_C_partOf
    rw [nC6, eC6, nC79]
    exact C_pB h y but _ _ (Nat.le_refl _)
  · unfold v_M_partOf
    rw [← eN, eM6]
    exact M_pB h.m y but _ _ (Nat.le_refl _)
  · unfold p_C_partOf
    rw [nC6, eC6, nC79]
    refine ⟨fun i hi => ⟨fun _ _ => ?_, q_cnt (cp_pieceCount h) (by omega) hi⟩, fun _ => ⟨fun i hi => ⟨fun _ _ => ?_, q_cnt (N := v_AL_size 16 0 σ) h.lQ (by omega) hi⟩, fun q => q (e_cnt (N := v_AL_size 16 0 σ) h.lQ)⟩, fun q => q (e_cnt (cp_pieceCount h))⟩
    · rw [z_nI, al_v (by omega), h.eP hi, cp_span h hi]
      exact ⟨al_p h.lP (by omega) hi, (cp_wouldBe h hs hi hy).2.1, house_vin h hi, (cp_likeness (τ := τ) h.a _ _ (spanOf_rg h.m hi)).2.1⟩
    · rw [z_nI]; exact al_p h.lQ (by omega) hi
  · unfold p_M_partOf
    rw [← eN, eM6]
    refine ⟨fun i hi => ⟨fun _ _ _ => ?_, onN i hi⟩, fun _ => pM72, fun c1 => ⟨fun _ => pM72, fun c2 => ?_⟩⟩
    · rw [z_nI, nI_cl (by omega)]
      exact ⟨nI_inb (by omega) (by decide), (cp_wouldBe h hs (by omega) hy).2.2, pc_spanOf h.m (by omega), (cp_likeness (σ := σ) h.a (gI τ 51 0 i) (v_M_wouldOf (nI s) (nI i) y τ) (spanOf_rg h.m (by omega))).2.2⟩
    · rcases ex with q | q
      · exact c1 (by rw [z_nI, cP]; exact nI_le q (by omega))
      · refine c2 ?_
        have z := pA_0 τ s k y q (nM τ 10) hN
        rw [z]; decide
theorem yr_rg {y : Nat} (h : y < 200) : rg (nI y) 0 199 := ⟨nI_pos' (by omega), nI_le (b := 199) (by omega) (by decide)⟩
/-! first and last years -/
theorem cp_years {σ τ : MSto} (h : Cpl σ τ) {s : Nat} (hs : s < nM τ 17) : (gI τ 59 0 s &&& 1 = 0 → v_St_firstYear (eL σ 15 s) σ = 0 ∧ v_St_lastYear (eL σ 15 s) σ = 199) ∧ (¬ gI τ 59 0 s &&& 1 = 0 → v_St_firstYear (eL σ 15 s) σ = gI τ 52 0 s ∧ v_St_lastYear (eL σ 15 s) σ = gI τ 52 0 s ∧ rg (gI τ 52 0 s) 0 199) := by
  unfold v_St_firstYear v_St_lastYear
  rw [cp_hasTerm h hs]
  constructor
  · intro g
    rw [if_pos (bz (fun q => q g)), if_pos (bz (fun q => q g))]
    exact ⟨rfl, rfl⟩
  · intro g
    rw [if_neg (bn g), if_neg (bn g), (h.t.2.1 s hs).2.2.2.2.1 g]
    exact ⟨rfl, rfl, (h.m.t s hs).2.1 g⟩
noncomputable def ywN (τ : MSto) (s k : Nat) (but : Int32) : Nat := if gI τ 59 0 s &&& 1 = 0 then fb_sm (fun y => pN τ s k (nI y) but) 200 else pN τ s k (gI τ 52 0 s) but * 200
theorem ywN_le {τ : MSto} (hm : iM τ) {k : Nat} (h4 : pop k ≤ 4) (s : Nat) (but : Int32) : ywN τ s k but ≤ 131220000000000 := by
  unfold ywN
  split
  · exact Nat.le_trans (fb_sm_bound (c := 656100000000) (fun y _ => pN_le hm h4 s (nI y) but)) (by decide)
  · have := pN_le hm h4 s (gI τ 52 0 s) but
    omega
theorem C_sumY {σ τ : MSto} (h : Cpl σ τ) {s k : Nat} (hs : s < nM τ 17) (hk : ∀ j, k.testBit j = true → j < nM τ 10 ∧ bt (gI τ 13 0 15) j = true) (h4 : pop k ≤ 4) (but : Int32) (x3 : Int32) (x4 : Int64) (x6 : Int32) : (gI τ 59 0 s &&& 1 = 0 → ∀ n, n ≤ 200 → f_C_greatestStory_41 (nI k) but x3 x4 x6 (eL σ 15 s) 0 σ 0 n = lN (fb_sm (fun y => pN τ s k (nI y) but) n)) ∧ (¬ gI τ 59 0 s &&& 1 = 0 → f_C_greatestStory_41 (nI k) but x3 x4 x6 (eL σ 15 s) (gI τ 52 0 s) σ 0 1 = lN (pN τ s k (gI τ 52 0 s) but)) := by
  obtain ⟨y1, y2⟩ := cp_years h hs
  constructor
  · intro g n
    induction n with
    | zero => exact fun _ => rfl
    | succ n ih =>
      intro hn
      show t_C_greatestStory_41 (nI k) but x3 x4 x6 (eL σ 15 s) (0 + nI n) σ (f_C_greatestStory_41 (nI k) but x3 x4 x6 (eL σ 15 s) 0 σ 0 n) = _
      rw [ih (by omega), fb_sm_succ]
      unfold t_C_greatestStory_41
      rw [(y1 g).2, z_nI, if_neg (show ¬ (199 : Int32) < nI n from nI_nlt (a := 199) (by omega) (by decide)), (cp_partOf h hs hk h4 (yr_rg (by omega)) but).1, lN_add]
  · intro g
    obtain ⟨-, e2, e3⟩ := y2 g
    show t_C_greatestStory_41 (nI k) but x3 x4 x6 (eL σ 15 s) (gI τ 52 0 s + nI 0) σ 0 = _
    unfold t_C_greatestStory_41
    rw [show gI τ 52 0 s + nI 0 = gI τ 52 0 s from Int32.add_zero _, e2, if_neg Int32.lt_irrefl, (cp_partOf h hs hk h4 e3 but).1]
    exact Int64.zero_add _
theorem M_storyW {σ τ : MSto} (h : Cpl σ τ) {s k : Nat} (hs : s < nM τ 17) (hk : ∀ j, k.testBit j = true → j < nM τ 10 ∧ bt (gI τ 13 0 15) j = true) (h4 : pop k ≤ 4) (but : Int32) : v_M_storyWeight (nI s) (nI k) but τ = lN (ywN τ s k but) ∧ p_M_storyWeight (nI s) (nI k) but τ := by
  have hS := h.S6
  obtain ⟨y1, y2⟩ := cp_years h hs
  have vs : vp_in (nI s) 6 := nI_inb (by omega) (by decide)
  have F : ∀ n, n ≤ 200 → f_M_storyWeight_33 (nI s) (nI k) but 0 τ 0 n = lN (fb_sm (fun y => pN τ s k (nI y) but) n) := by
    intro n
    induction n with
    | zero => exact fun _ => rfl
    | succ n ih =>
      intro hn
      show t_M_storyWeight_33 (nI s) (nI k) but (0 + nI n) τ (f_M_storyWeight_33 (nI s) (nI k) but 0 τ 0 n) = _
      rw [ih (by omega), fb_sm_succ]
      unfold t_M_storyWeight_33
      rw [if_neg (ng_cnt l200 (by decide) (by omega)), z_nI, (cp_partOf h hs hk h4 (yr_rg (by omega)) but).2.1, lN_add]
  unfold v_M_storyWeight p_M_storyWeight ywN
  rw [M_hasTerm (by omega), nI_cl (by omega)]
  by_cases g : gI τ 59 0 s &&& 1 = 0
  · rw [if_pos (bz (fun q => q g)), if_pos g]
    refine ⟨F 200 (by omega), vs, fun _ => ⟨fun i hi => ⟨fun _ => ?_, q_cnt l200 (by decide) hi⟩, fun q => q (e_cnt l200)⟩, fun q => absurd (bz (fun q => q g)) q⟩
    rw [z_nI]
    exact (cp_partOf h hs hk h4 (yr_rg hi) but).2.2.2
  · rw [if_neg (bn g), if_neg g]
    obtain ⟨-, -, e3⟩ := y2 g
    obtain ⟨-, q2, -, q4⟩ := cp_partOf h hs hk h4 e3 but
    refine ⟨?_, vs, fun q => absurd q (bn g), fun _ => ⟨vs, q4⟩⟩
    rw [q2, lit_lN 200, lN_mul]
noncomputable def gwN (τ : MSto) (k : Nat) (but : Int32) (s : Nat) : Nat := ywN τ s k but * (gI τ 60 0 s).toNatClampNeg
theorem faith_n {τ : MSto} (hm : iM τ) {s : Nat} (hs : s < nM τ 17) : gI τ 60 0 s = nI (gI τ 60 0 s).toNatClampNeg ∧ (gI τ 60 0 s).toNatClampNeg ≤ 9 := by
  obtain ⟨f, e, hf⟩ := nat_rg (b := 9) (hm.t s hs).2.2.2.2.2.2.2 (by decide)
  rw [e, nI_cl (by omega)]
  exact ⟨rfl, hf⟩
theorem gwN_le {τ : MSto} (hm : iM τ) {k : Nat} (h4 : pop k ≤ 4) (but : Int32) {s : Nat} (hs : s < nM τ 17) : gwN τ k but s ≤ 1180980000000000 := Nat.le_trans (Nat.mul_le_mul (ywN_le hm h4 s but) (faith_n hm hs).2) (by decide)
def gsR (σ τ : MSto) (W : Nat → Nat) (i : Nat) (x : Int32 × Int64 × MSto) (y : Int32 × MSto) : Prop :=
  agO [28000] σ x.2.2 ∧ agO [85000] τ y.2 ∧ (∀ j, j < i → gJ x.2.2 28 0 j = lN (W j) ∧ gJ y.2 85 0 j = lN (W j)) ∧ ((x.1 = -1 ∧ y.1 = -2 ∧ x.2.1 = 0) ∨ ∃ m, m < i ∧ x.1 = nI m ∧ y.1 = nI m ∧ x.2.1 = lN (W m) ∧ 0 < W m)
theorem gs_step {σ τ : MSto} (h : Cpl σ τ) {k : Nat} (hk : ∀ j, k.testBit j = true → j < nM τ 10 ∧ bt (gI τ 13 0 15) j = true) (h4 : pop k ≤ 4) (but : Int32) {i : Nat} (hi : i < nM τ 17) (x : Int32 × Int64 × MSto) (y : Int32 × MSto) (hr : gsR σ τ (gwN τ k but) i x y) : gsR σ τ (gwN τ k but) (i + 1) (t_C_greatestStory_8 (nI k) but (0 + nI i) x) (t_M_weighStories_6 (nI k) but (0 + nI i) y) ∧ (g_C_greatestStory_8 (nI k) but (0 + nI i) x ∧ ¬ q_C_greatestStory_8s (nI k) but (0 + nI i) x = 1) ∧ g_M_weighStories_6 (nI k) but (0 + nI i) y ∧ ¬ q_M_weighStories_6s (nI k) but (0 + nI i) y = 1 := by
  obtain ⟨b, gr, s⟩ := x
  obtain ⟨b', t⟩ := y
  obtain ⟨w1, w2, hA, hB⟩ := hr
  have w1 : agO [28000] σ s := w1
  have w2 : agO [85000] τ t := w2
  have hS := h.S6
  have hst : Cpl s t := h.mv w1 w2 rfl rfl
  have n17 : nM t 17 = nM τ 17 := by unfold nM; rw [w2.i rfl]
  have n10 : nM t 10 = nM τ 10 := by unfold nM; rw [w2.i rfl]
  have n27 : nM t 27 = nM τ 27 := by unfold nM; rw [w2.i rfl]
  have hs : i < nM t 17 := by rw [n17]; exact hi
  have hkt : ∀ j, k.testBit j = true → j < nM t 10 ∧ bt (gI t 13 0 15) j = true := fun j q => by rw [n10, w2.i rfl]; exact hk j q
  have cS : gI t 13 0 17 = nI (nM τ 17) := by rw [w2.i rfl]; exact h.m.c.2.2.2.1.1
  have hsC : v_C_storyCount s = nI (nM τ 17) := by rw [cp_storyCount hst, n17]
  -- the weights are those of the first store
  have eyw : ywN t i k but = ywN τ i k but := by
    have epN : ∀ y, pN t i k y but = pN τ i k y but := fun y => by
      have elk : ∀ p, lkN t i p y = lkN τ i p y := fun p => by
        have ew : v_M_wouldOf (nI i) (nI p) y t = v_M_wouldOf (nI i) (nI p) y τ := by
          unfold v_M_wouldOf
          rw [w2.i rfl, w2.i rfl, w2.i rfl, w2.i rfl, M_would (by omega), M_would (by omega)]
          have efs : ∀ v x y w, v_M_withStuff v x y w t = v_M_withStuff v x y w τ := fun v x y w => by
            unfold v_M_withStuff
            have n5 : nM t 5 = nM τ 5 := by unfold nM; rw [w2.i rfl]
            rw [n5]
            refine nfold_congr (fun i _ a => ?_)
            unfold t_M_stuff v_M_mixed
            rw [w2.i rfl, w2.i rfl, w2.i rfl, w2.i rfl, w2.i rfl, w2.i rfl, w2.i rfl, w2.i rfl]
          unfold coreW fromY offW v_M_mixed
          rw [efs]
          simp only [w2.i (k := 59) (i := 0) rfl, w2.i (k := 55) (i := 0) rfl, w2.i (k := 52) (i := 0) rfl, w2.i (k := 53) (i := 0) rfl, w2.i (k := 54) (i := 0) rfl, w2.i (k := 41) (i := 0) rfl, w2.i (k := 45) (i := 0) rfl, w2.i (k := 56) (i := 0) rfl, w2.i (k := 57) (i := 0) rfl, w2.i (k := 58) (i := 0) rfl]
        unfold lkN
        rw [ew]
        have esp : v_M_spanOf (nI p) t = v_M_spanOf (nI p) τ := by
          unfold v_M_spanOf
          rw [w2.i rfl, w2.i rfl]
        rw [esp, w2.i rfl]
        rfl
      have eft : ∀ q, ftN t q y = ftN τ q y := fun q => by
        unfold ftN v_M_fitOf
        rw [w2.i rfl, w2.i rfl, w2.i rfl]
      have epA : ∀ n, pA t i k y n = pA τ i k y n := by
        intro n
        induction n with
        | zero => rfl
        | succ n ih => rw [pA_s, pA_s, ih, elk]
      have epB : ∀ n, pB t y but n = pB τ y but n := by
        intro n
        induction n with
        | zero => rfl
        | succ n ih => rw [pB_s, pB_s, ih, eft]
      unfold pN
      rw [n10, n27, epA, epB]
    unfold ywN
    rw [w2.i rfl, w2.i rfl, epN, fb_sm_cong (g := fun y => pN τ i k (nI y) but) (fun y _ => epN _)]
  obtain ⟨ef, hf⟩ := faith_n h.m hi
  have hW := gwN_le h.m h4 but hi
  have hyw := ywN_le h.m h4 i but
  obtain ⟨F, eF⟩ : ∃ F, F = (gI τ 60 0 i).toNatClampNeg := ⟨_, rfl⟩
  have eW : gwN τ k but i = ywN τ i k but * F := by unfold gwN; rw [← eF]
  rw [← eF] at ef hf
  have vi : vp_in (nI i) 6 := nI_inb (by omega) (by decide)
  -- the class
  have fC : gI s 9 (eL s 15 i) 1 = nI F := by
    rw [(hst.t.2.1 i hs).2.2.2.1, w2.i rfl]; exact ef
  obtain ⟨y1, y2⟩ := cp_years hst hs
  have hw59 : gI t 59 0 i = gI τ 59 0 i := w2.i rfl
  obtain ⟨s1, s2⟩ := C_sumY hst hs hkt h4 but b gr (nI i)
  have c200 : (nI 200).toInt64 = lN 200 := nI_l (by decide)
  have hw : ∃ z : Int64, z = lN (gwN τ k but i) ∧ (∀ v : Int64 × MSto → Int32 × Int64 × MSto, True) := ⟨_, rfl, fun _ => trivial⟩
  have tC : t_C_greatestStory_8 (nI k) but (0 + nI i) (b, gr, s) = (if lg_cmp (lN (gwN τ k but i)) gr ≤ 0 then (b, gr, sJ s 28 0 i (lN (gwN τ k but i))) else (nI i, lN (gwN τ k but i), sJ s 28 0 i (lN (gwN τ k but i)))) ∧ g_C_greatestStory_8 (nI k) but (0 + nI i) (b, gr, s) := by
    unfold t_C_greatestStory_8 g_C_greatestStory_8
    rw [z_nI]
    show (if v_C_storyCount s ≤ nI i then _ else _) = _ ∧ (¬ v_C_storyCount s ≤ nI i → _)
    rw [hsC, if_neg (nI_ge hi (by omega)), nI_cl (by omega), al_v (by omega), cp_hasTerm hst hs, hw59]
    show (if bI (¬ gI τ 59 0 i &&& 1 = 0) = 0 then (if lg_cmp (gJ (sJ s 28 0 i (f_C_greatestStory_41 (nI k) but b gr (nI i) (eL s 15 i) (v_St_firstYear (eL s 15 i) s) s 0 (n_C_greatestStory_41 (nI k) but b gr (nI i) (eL s 15 i) (v_St_firstYear (eL s 15 i) s) s 0) * Int32.toInt64 1 * Int32.toInt64 (gI s 9 (eL s 15 i) 1))) 28 0 i) gr ≤ 0 then (b, gr, sJ s 28 0 i (f_C_greatestStory_41 (nI k) but b gr (nI i) (eL s 15 i) (v_St_firstYear (eL s 15 i) s) s 0 (n_C_greatestStory_41 (nI k) but b gr (nI i) (eL s 15 i) (v_St_firstYear (eL s 15 i) s) s 0) * Int32.toInt64 1 * Int32.toInt64 (gI s 9 (eL s 15 i) 1))) else (nI i, gJ (sJ s 28 0 i (f_C_greatestStory_41 (nI k) but b gr (nI i) (eL s 15 i) (v_St_firstYear (eL s 15 i) s) s 0 (n_C_greatestStory_41 (nI k) but b gr (nI i) (eL s 15 i) (v_St_firstYear (eL s 15 i) s) s 0) * Int32.toInt64 1 * Int32.toInt64 (gI s 9 (eL s 15 i) 1))) 28 0 i, sJ s 28 0 i (f_C_greatestStory_41 (nI k) but b gr (nI i) (eL s 15 i) (v_St_firstYear (eL s 15 i) s) s 0 (n_C_greatestStory_41 (nI k) but b gr (nI i) (eL s 15 i) (v_St_firstYear (eL s 15 i) s) s 0) * Int32.toInt64 1 * Int32.toInt64 (gI s 9 (eL s 15 i) 1)))) else (if lg_cmp (gJ (sJ s 28 0 i (f_C_greatestStory_41 (nI k) but b gr (nI i) (eL s 15 i) (v_St_firstYear (eL s 15 i) s) s 0 (n_C_greatestStory_41 (nI k) but b gr (nI i) (eL s 15 i) (v_St_firstYear (eL s 15 i) s) s 0) * Int32.toInt64 200 * Int32.toInt64 (gI s 9 (eL s 15 i) 1))) 28 0 i) gr ≤ 0 then (b, gr, sJ s 28 0 i (f_C_greatestStory_41 (nI k) but b gr (nI i) (eL s 15 i) (v_St_firstYear (eL s 15 i) s) s 0 (n_C_greatestStory_41 (nI k) but b gr (nI i) (eL s 15 i) (v_St_firstYear (eL s 15 i) s) s 0) * Int32.toInt64 200 * Int32.toInt64 (gI s 9 (eL s 15 i) 1))) else (nI i, gJ (sJ s 28 0 i (f_C_greatestStory_41 (nI k) but b gr (nI i) (eL s 15 i) (v_St_firstYear (eL s 15 i) s) s 0 (n_C_greatestStory_41 (nI k) but b gr (nI i) (eL s 15 i) (v_St_firstYear (eL s 15 i) s) s 0) * Int32.toInt64 200 * Int32.toInt64 (gI s 9 (eL s 15 i) 1))) 28 0 i, sJ s 28 0 i (f_C_greatestStory_41 (nI k) but b gr (nI i) (eL s 15 i) (v_St_firstYear (eL s 15 i) s) s 0 (n_C_greatestStory_41 (nI k) but b gr (nI i) (eL s 15 i) (v_St_firstYear (eL s 15 i) s) s 0) * Int32.toInt64 200 * Int32.toInt64 (gI s 9 (eL s 15 i) 1))))) = _ ∧ (¬ nI (nM τ 17) ≤ nI i → p_AL_get 15 0 (nI i) s ∧ (∀ j, j < n_C_greatestStory_41 (nI k) but b gr (nI i) (eL s 15 i) (v_St_firstYear (eL s 15 i) s) s 0 → g_C_greatestStory_41 (nI k) but b gr (nI i) (eL s 15 i) (v_St_firstYear (eL s 15 i) s + nI j) s (f_C_greatestStory_41 (nI k) but b gr (nI i) (eL s 15 i) (v_St_firstYear (eL s 15 i) s) s 0 j) ∧ ¬ q_C_greatestStory_41s (nI k) but b gr (nI i) (eL s 15 i) (v_St_firstYear (eL s 15 i) s + nI j) s (f_C_greatestStory_41 (nI k) but b gr (nI i) (eL s 15 i) (v_St_firstYear (eL s 15 i) s) s 0 j) = 1) ∧ (v_St_lastYear (eL s 15 i) s < v_St_firstYear (eL s 15 i) s + nI (n_C_greatestStory_41 (nI k) but b gr (nI i) (eL s 15 i) (v_St_firstYear (eL s 15 i) s) s 0) → (bI (¬ gI τ 59 0 i &&& 1 = 0) = 0 → vp_in (nI i) 6 ∧ vp_in (nI i) 6 ∧ (_ → vp_in (nI i) 6)) ∧ (¬ bI (¬ gI τ 59 0 i &&& 1 = 0) = 0 → vp_in (nI i) 6 ∧ vp_in (nI i) 6 ∧ (_ → vp_in (nI i) 6))) ∧ (¬ v_St_lastYear (eL s 15 i) s < v_St_firstYear (eL s 15 i) s + nI (n_C_greatestStory_41 (nI k) but b gr (nI i) (eL s 15 i) (v_St_firstYear (eL s 15 i) s) s 0) → False))
    rw [fC, nI_l (by omega)]
    have get := al_p hst.lS (by omega) hs
    have gv : ∀ v : Int64, gJ (sJ s 28 0 i v) 28 0 i = v := fun v => by rw [gJ_sJ, if_pos ⟨rfl, rfl, rfl⟩]
    by_cases g : gI τ 59 0 i &&& 1 = 0
    · have gt : gI t 59 0 i &&& 1 = 0 := by rw [hw59]; exact g
      obtain ⟨z1, z2⟩ := y1 gt
      have nn : n_C_greatestStory_41 (nI k) but b gr (nI i) (eL s 15 i) 0 s 0 = 200 := by
        unfold n_C_greatestStory_41
        rw [z2]; rfl
      have eT : f_C_greatestStory_41 (nI k) but b gr (nI i) (eL s 15 i) 0 s 0 200 * Int32.toInt64 1 * lN F = lN (gwN τ k but i) := by
        rw [s1 gt 200 (by omega), show Int32.toInt64 1 = lN 1 from rfl, lN_mul, lN_mul, eW, ← eyw, Nat.mul_one]
        unfold ywN
        rw [if_pos gt]
      rw [z1, nn, eT, z2, if_pos (bz (fun q => q g)), gv]
      refine ⟨rfl, fun _ => ⟨get, fun j hj => ⟨fun _ => ?_, ?_⟩, fun _ => ⟨fun _ => ⟨vi, vi, fun _ => vi⟩, fun _ => ⟨vi, vi, fun _ => vi⟩⟩, fun q => q (by decide)⟩⟩
      · rw [z_nI]; exact (cp_partOf hst hs hkt h4 (yr_rg hj) but).2.2.1
      · unfold q_C_greatestStory_41s
        rw [z2, z_nI, if_neg (show ¬ (199 : Int32) < nI j from nI_nlt (a := 199) (by omega) (by decide))]; decide
    · have gt : ¬ gI t 59 0 i &&& 1 = 0 := by rw [hw59]; exact g
      obtain ⟨z1, z2, z3⟩ := y2 gt
      obtain ⟨Y, eY, hY⟩ := nat_rg (b := 199) z3 (by decide)
      have nn : n_C_greatestStory_41 (nI k) but b gr (nI i) (eL s 15 i) (gI t 52 0 i) s 0 = 1 := by
        unfold n_C_greatestStory_41
        rw [z2]; omega
      have eT : f_C_greatestStory_41 (nI k) but b gr (nI i) (eL s 15 i) (gI t 52 0 i) s 0 1 * Int32.toInt64 200 * lN F = lN (gwN τ k but i) := by
        rw [s2 gt, show Int32.toInt64 200 = lN 200 from rfl, lN_mul, lN_mul, eW, ← eyw]
        unfold ywN
        rw [if_neg gt]
      rw [z1, nn, eT, z2, if_neg (bn g), gv]
      refine ⟨rfl, fun _ => ⟨get, fun j hj => ⟨fun _ => ?_, ?_⟩, fun _ => ⟨fun _ => ⟨vi, vi, fun _ => vi⟩, fun _ => ⟨vi, vi, fun _ => vi⟩⟩, fun q => q ?_⟩⟩
      · have : j = 0 := by omega
        subst this
        rw [show gI t 52 0 i + nI 0 = gI t 52 0 i from Int32.add_zero _]
        exact (cp_partOf hst hs hkt h4 z3 but).2.2.1
      · have : j = 0 := by omega
        subst this
        unfold q_C_greatestStory_41s
        rw [show gI t 52 0 i + nI 0 = gI t 52 0 i from Int32.add_zero _, z2, if_neg Int32.lt_irrefl]; decide
      · rw [eY, nI_add]; exact nI_lt (by omega) (by omega)
  -- the reference
  obtain ⟨m1, m2⟩ := M_storyW hst hs hkt h4 but
  have w60 : gI t 60 0 i = nI F := by rw [w2.i rfl]; exact ef
  have eTM : (gI t 60 0 i).toInt64 * v_M_storyWeight (nI i) (nI k) but t = lN (gwN τ k but i) := by
    rw [w60, nI_l (by omega), m1, lN_mul, eyw, eW, Nat.mul_comm]
  have hW63 : gwN τ k but i < 2 ^ 63 := by omega
  obtain ⟨t1, et1⟩ : ∃ t1, t1 = sJ t 85 0 i (lN (gwN τ k but i)) := ⟨_, rfl⟩
  have g85 : gJ t1 85 0 i = lN (gwN τ k but i) := by rw [et1, gJ_sJ, if_pos ⟨rfl, rfl, rfl⟩]
  have g85' : ∀ j, j < i → gJ t1 85 0 j = gJ t 85 0 j := fun j hj => by rw [et1, gJ_sJ, if_neg (fun q => by have := q.2.2; omega)]
  have tM : t_M_weighStories_6 (nI k) but (0 + nI i) (b', t) = (if 0 ≤ b' then (if lg_cmp (lN (gwN τ k but i)) (gJ t1 85 0 b'.toNatClampNeg) ≤ 0 then (b', t1) else (nI i, t1)) else (if lg_cmp (lN (gwN τ k but i)) 0 ≤ 0 then (b', t1) else (nI i, t1))) ∧ ((0 ≤ b' → vp_in b' 6) → g_M_weighStories_6 (nI k) but (0 + nI i) (b', t)) := by
    unfold t_M_weighStories_6 g_M_weighStories_6
    rw [z_nI]
    show (if gI t 13 0 17 ≤ nI i then _ else tj_M_weighStories_6j39 (nI k) but b' (nI i) (sJ t 85 0 (nI i).toNatClampNeg ((gI t 60 0 (nI i).toNatClampNeg).toInt64 * v_M_storyWeight (nI i) (nI k) but t)) (b', t)) = _ ∧ (_ → (¬ gI t 13 0 17 ≤ nI i → vp_in (nI i) 6 ∧ p_M_storyWeight (nI i) (nI k) but t ∧ vp_in (nI i) 6 ∧ gj_M_weighStories_6j39 (nI k) but b' (nI i) (sJ t 85 0 (nI i).toNatClampNeg ((gI t 60 0 (nI i).toNatClampNeg).toInt64 * v_M_storyWeight (nI i) (nI k) but t))))
    rw [cS, if_neg (nI_ge hi (by omega)), nI_cl (by omega), eTM, ← et1]
    refine ⟨?_, fun q _ => ⟨vi, m2, vi, vi, q⟩⟩
    unfold tj_M_weighStories_6j39
    rw [nI_cl (by omega), g85]
  have nqC : ¬ q_C_greatestStory_8s (nI k) but (0 + nI i) (b, gr, s) = 1 := by
    unfold q_C_greatestStory_8s
    show ¬ (if v_C_storyCount s ≤ 0 + nI i then (1 : Nat) else 0) = 1
    rw [hsC, z_nI, if_neg (nI_ge hi (by omega))]; decide
  have nqM : ¬ q_M_weighStories_6s (nI k) but (0 + nI i) (b', t) = 1 := by
    unfold q_M_weighStories_6s
    show ¬ (if gI t 13 0 17 ≤ 0 + nI i then (1 : Nat) else 0) = 1
    rw [cS, z_nI, if_neg (nI_ge hi (by omega))]; decide
  have aC : agO [28000] σ (sJ s 28 0 i (lN (gwN τ k but i))) := agO_sJ rfl w1
  have aM : agO [85000] τ t1 := by rw [et1]; exact agO_sJ rfl w2
  have hA' : ∀ j, j < i + 1 → gJ (sJ s 28 0 i (lN (gwN τ k but i))) 28 0 j = lN (gwN τ k but j) ∧ gJ t1 85 0 j = lN (gwN τ k but j) := fun j hj => by
    by_cases q : j = i
    · subst q
      exact ⟨by rw [gJ_sJ, if_pos ⟨rfl, rfl, rfl⟩], g85⟩
    · rw [gJ_sJ, if_neg (fun z => q z.2.2), g85' j (by omega)]
      exact hA j (by omega)
  rw [tC.1, tM.1]
  refine ⟨?_, ⟨tC.2, nqC⟩, tM.2 ?_, nqM⟩
  · rcases hB with ⟨e1, e2, e3⟩ | ⟨m, hm, e1, e2, e3, e4⟩
    · have e2' : b' = -2 := e2
      have e3' : gr = 0 := e3
      rw [e2', e3', if_neg (show ¬ (0 : Int32) ≤ -2 by decide)]
      by_cases q : gwN τ k but i = 0
      · rw [if_pos ((cmp_z hW63).mpr q), if_pos ((cmp_z hW63).mpr q)]
        exact ⟨aC, aM, hA', Or.inl ⟨e1, rfl, rfl⟩⟩
      · rw [if_neg (fun z => q ((cmp_z hW63).mp z)), if_neg (fun z => q ((cmp_z hW63).mp z))]
        exact ⟨aC, aM, hA', Or.inr ⟨i, by omega, rfl, rfl, rfl, by omega⟩⟩
    · have e1' : b = nI m := e1
      have e2' : b' = nI m := e2
      have e3' : gr = lN (gwN τ k but m) := e3
      rw [e1', e2', e3', if_pos (nI_pos' (by omega)), nI_cl (by omega), (hA' m (by omega)).2]
      by_cases q : lg_cmp (lN (gwN τ k but i)) (lN (gwN τ k but m)) ≤ 0
      · rw [if_pos q, if_pos q]
        exact ⟨aC, aM, hA', Or.inr ⟨m, by omega, rfl, rfl, rfl, e4⟩⟩
      · rw [if_neg q, if_neg q]
        refine ⟨aC, aM, hA', Or.inr ⟨i, by omega, rfl, rfl, rfl, ?_⟩⟩
        have hm63 : gwN τ k but m < 2 ^ 63 := by have := gwN_le h.m h4 but (s := m) (by omega); omega
        rw [cmp_leN hW63 hm63] at q
        omega
  · intro q
    rcases hB with ⟨e1, e2, e3⟩ | ⟨m, hm, e1, e2, e3, e4⟩
    · have e2' : b' = -2 := e2
      rw [e2'] at q; exact absurd q (by decide)
    · have e2' : b' = nI m := e2
      rw [e2']; exact nI_inb (by omega) (by decide)
/-- the greatest of the stories, both ways -/
theorem greatest {σ τ : MSto} (h : Cpl σ τ) {k : Nat} (hk : ∀ j, k.testBit j = true → j < nM τ 10 ∧ bt (gI τ 13 0 15) j = true) (h4 : pop k ≤ 4) (but : Int32) : ∃ W : Nat → Nat, (∀ j, j < nM τ 17 → W j ≤ 1180980000000000) ∧ p_C_greatestStory (nI k) but σ ∧ p_M_weighStories (nI k) but τ ∧ (∀ j, j < nM τ 17 → gJ (e_C_greatestStory (nI k) but σ) 28 0 j = lN (W j) ∧ gJ (e_M_weighStories (nI k) but τ) 85 0 j = lN (W j)) ∧ Cpl (e_C_greatestStory (nI k) but σ) (e_M_weighStories (nI k) but τ) ∧ ((v_C_greatestStory (nI k) but σ = -1 ∧ v_M_weighStories (nI k) but τ = -2) ∨ ∃ m, m < nM τ 17 ∧ v_C_greatestStory (nI k) but σ = nI m ∧ v_M_weighStories (nI k) but τ = nI m ∧ 0 < W m) := by
  have hS := h.S6
  obtain ⟨R, G⟩ := nfold3 (R := gsR σ τ (gwN τ k but)) (G := fun i x => g_C_greatestStory_8 (nI k) but (0 + nI i) x ∧ ¬ q_C_greatestStory_8s (nI k) but (0 + nI i) x = 1) (K := fun i y => g_M_weighStories_6 (nI k) but (0 + nI i) y ∧ ¬ q_M_weighStories_6s (nI k) but (0 + nI i) y = 1) (f := fun i s => t_C_greatestStory_8 (nI k) but (0 + nI i) s) (g := fun i s => t_M_weighStories_6 (nI k) but (0 + nI i) s) (a := ((-1), 0, σ)) (b := ((-2), τ)) (N := nM τ 17)
    ⟨agO_refl _ _, agO_refl _ _, fun j hj => absurd hj (by omega), Or.inl ⟨rfl, rfl, rfl⟩⟩ (fun i hi x y r => gs_step h hk h4 but hi x y r) (nM τ 17) (Nat.le_refl _)
  have nC : n_C_greatestStory_8 (nI k) but 0 ((-1), 0, σ) = nM τ 17 := by unfold n_C_greatestStory_8; exact cp_sN h
  have nM' : n_M_weighStories_6 (nI k) but 0 ((-2), τ) = nM τ 17 := rfl
  have R' : gsR σ τ (gwN τ k but) (nM τ 17) (f_C_greatestStory_8 (nI k) but 0 ((-1), 0, σ) (nM τ 17)) (f_M_weighStories_6 (nI k) but 0 ((-2), τ) (nM τ 17)) := R
  have G1 : ∀ i, i < nM τ 17 → g_C_greatestStory_8 (nI k) but (0 + nI i) (f_C_greatestStory_8 (nI k) but 0 ((-1), 0, σ) i) ∧ ¬ q_C_greatestStory_8s (nI k) but (0 + nI i) (f_C_greatestStory_8 (nI k) but 0 ((-1), 0, σ) i) = 1 := fun i hi => (G i hi).1
  have G2 : ∀ i, i < nM τ 17 → g_M_weighStories_6 (nI k) but (0 + nI i) (f_M_weighStories_6 (nI k) but 0 ((-2), τ) i) ∧ ¬ q_M_weighStories_6s (nI k) but (0 + nI i) (f_M_weighStories_6 (nI k) but 0 ((-2), τ) i) = 1 := fun i hi => (G i hi).2
  refine ⟨gwN τ k but, fun j hj => gwN_le h.m h4 but hj, ?_, ?_, ?_, h.mv (w_C_greatestStory _ _ σ) (w_M_weighStories _ _ τ) rfl rfl, ?_⟩
  · unfold p_C_greatestStory
    rw [nC]
    refine ⟨G1, fun q => q ?_⟩
    have hc : Cpl (f_C_greatestStory_8 (nI k) but 0 ((-1), 0, σ) (nM τ 17)).2.2 τ := h.mv R'.1 (agO_refl [] τ) rfl rfl
    rw [z_nI, cp_storyCount hc]
    exact Int32.le_refl _
  · unfold p_M_weighStories
    rw [nM']
    refine ⟨G2, fun q => q ?_⟩
    rw [R'.2.1.i rfl, z_nI, h.m.c.2.2.2.1.1]
    exact Int32.le_refl _
  · unfold e_C_greatestStory e_M_weighStories
    rw [nC, nM']
    exact R'.2.2.1
  · unfold v_C_greatestStory v_M_weighStories
    rw [nC, nM']
    rcases R'.2.2.2 with ⟨e1, e2, -⟩ | ⟨m, hm, e1, e2, -, e4⟩
    · exact Or.inl ⟨e1, e2⟩
    · exact Or.inr ⟨m, hm, e1, e2, e4⟩

