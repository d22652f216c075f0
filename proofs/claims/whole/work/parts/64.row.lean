/-! the row -/
theorem kR_clear (σ τ : MSto) : kR (e_Ro_clear σ) (sI τ 13 0 51 0) := by
  refine ⟨rfl, ⟨rfl, Nat.zero_le _⟩, fun j hj => ?_⟩
  have : nM (sI τ 13 0 51 0) 51 = 0 := rfl
  omega
theorem rN_clear (τ : MSto) : nM (sI τ 13 0 51 0) 51 = 0 := rfl
theorem kR.n {σ τ : MSto} (h : kR σ τ) : gI σ 8 0 1 = nI (nM τ 51) := h.1.trans h.2.1.1
theorem rN_tell {τ : MSto} (v : Int64) (hc : cM τ 51 20) : nM (e_M_tell v τ) 51 = nM τ 51 + 1 := by
  have e : gI (e_M_tell v τ) 13 0 51 = gI τ 13 0 51 + 1 := rfl
  unfold nM at *
  rw [e, hc.1]
  unfold nM
  rw [nI_s, nI_cl, nI_cl] <;> (have := hc.2; unfold nM at this; omega)
theorem pM_tell {τ : MSto} (v : Int64) (hc : cM τ 51 20) : p_M_tell v τ := by
  unfold p_M_tell
  rw [hc.1]
  exact nI_inb (by have := hc.2; omega) (by decide)
theorem pC_add (v : Int64) {σ τ : MSto} (h : kR σ τ) : p_Ro_add v σ := by
  intro g
  rw [h.n] at g ⊢
  have := h.2.1.2
  have : ¬ 20 ≤ nM τ 51 := fun q => g ((leN (a := 20) (by decide) (by omega)).mpr q)
  exact nI_inb (by omega) (by decide)
theorem kR_add {σ τ : MSto} (h : kR σ τ) (hn : nM τ 51 < 20) (v : Int64) : kR (e_Ro_add v σ) (e_M_tell v τ) := by
  have hc := h.2.1
  have h20 : ¬ (20 : Int32) ≤ gI σ 8 0 1 := by
    rw [h.n]
    exact fun q => by have := (leN (a := 20) (by decide) (by omega)).mp q; omega
  have hN := rN_tell v hc
  have eC : e_Ro_add v σ = sI (sJ σ 38 0 (nM τ 51) v) 8 0 1 (gI σ 8 0 1 + 1) := by
    unfold e_Ro_add
    rw [if_neg h20]
    show sI (sJ σ 38 0 (gI σ 8 0 1).toNatClampNeg v) 8 0 1 (gI σ 8 0 1 + 1) = _
    rw [show (gI σ 8 0 1).toNatClampNeg = nM τ 51 from by rw [h.n, nI_cl (by omega)]]
  have eM : e_M_tell v τ = sI (sJ τ 78 0 (nM τ 51) v) 13 0 51 (gI τ 13 0 51 + 1) := rfl
  refine ⟨?_, ⟨?_, by omega⟩, fun j hj => ?_⟩
  · rw [eC, eM, gI_sI, if_pos ⟨rfl, rfl, rfl⟩, gI_sI, if_pos ⟨rfl, rfl, rfl⟩, h.1]
  · rw [hN, eM, gI_sI, if_pos ⟨rfl, rfl, rfl⟩, hc.1, nI_s]
  · rw [hN] at hj
    rw [eC, eM, gJ_sI, gJ_sI, gJ_sJ, gJ_sJ]
    by_cases e : j = nM τ 51
    · rw [if_pos ⟨rfl, rfl, e⟩, if_pos ⟨rfl, rfl, e⟩]
    · rw [if_neg (fun q => e q.2.2), if_neg (fun q => e q.2.2)]
      exact h.2.2 j (by omega)
/-! the greatest common divisor, the class's way -/
theorem cmp0 {y : Nat} (h : y < 2 ^ 63) : lg_cmp (lN y) 0 = 0 ↔ y = 0 := by
  rw [cmp_eq]
  exact ⟨fun q => (fb_lN_inj h (by decide)).mp (q.trans (lit_lN 0)), fun q => by rw [q]; rfl⟩
def euS (s : Nat × Nat) : Nat × Nat := if s.2 = 0 then s else (s.2, s.1 % s.2)
def euN (s : Nat × Nat) : Nat → Nat × Nat
  | 0 => s
  | n + 1 => euS (euN s n)
theorem euS_g (s : Nat × Nat) : Nat.gcd (euS s).1 (euS s).2 = Nat.gcd s.1 s.2 := by
  unfold euS
  split
  · rfl
  · rw [Nat.gcd_comm s.1, Nat.gcd_rec s.2 s.1, Nat.gcd_comm]
theorem euN_g (s : Nat × Nat) : ∀ n, Nat.gcd (euN s n).1 (euN s n).2 = Nat.gcd s.1 s.2
  | 0 => rfl
  | n + 1 => (euS_g _).trans (euN_g s n)
theorem euN_b {s : Nat × Nat} (h1 : s.1 < 2 ^ 63) (h2 : s.2 < 2 ^ 63) : ∀ n, (euN s n).1 < 2 ^ 63 ∧ (euN s n).2 < 2 ^ 63
  | 0 => ⟨h1, h2⟩
  | n + 1 => by
    have ih := euN_b h1 h2 n
    show (euS (euN s n)).1 < _ ∧ (euS (euN s n)).2 < _
    unfold euS
    split
    · exact ih
    · rename_i g
      exact ⟨ih.2, Nat.lt_trans (Nat.mod_lt _ (Nat.pos_of_ne_zero g)) ih.2⟩
/-- two steps halve -/
theorem euS_h (s : Nat × Nat) : 2 * (euS (euS s)).2 ≤ s.2 := by
  by_cases h : s.2 = 0
  · have : euS s = s := by unfold euS; rw [if_pos h]
    rw [this, this, h]
    exact Nat.le_refl _
  · have e1 : euS s = (s.2, s.1 % s.2) := by unfold euS; rw [if_neg h]
    rw [e1]
    have hm := Nat.mod_lt s.1 (Nat.pos_of_ne_zero h)
    by_cases h2 : s.1 % s.2 = 0
    · have : euS (s.2, s.1 % s.2) = (s.2, s.1 % s.2) := by unfold euS; rw [if_pos h2]
      rw [this]
      show 2 * (s.1 % s.2) ≤ _
      omega
    · have : euS (s.2, s.1 % s.2) = (s.1 % s.2, s.2 % (s.1 % s.2)) := by unfold euS; rw [if_neg h2]
      rw [this]
      show 2 * (s.2 % (s.1 % s.2)) ≤ _
      generalize s.1 % s.2 = m at *
      have hr := Nat.mod_lt s.2 (Nat.pos_of_ne_zero h2)
      have hd := Nat.div_add_mod s.2 m
      have hq : 1 ≤ s.2 / m := Nat.div_pos (by omega) (by omega)
      have : m * 1 ≤ m * (s.2 / m) := Nat.mul_le_mul_left m hq
      omega
theorem euN_h (s : Nat × Nat) : ∀ m, 2 ^ m * (euN s (2 * m)).2 ≤ s.2
  | 0 => by show 1 * s.2 ≤ s.2; omega
  | m + 1 => by
    have ih := euN_h s m
    have h := euS_h (euN s (2 * m))
    show 2 ^ (m + 1) * (euS (euS (euN s (2 * m)))).2 ≤ s.2
    rw [Nat.pow_succ, Nat.mul_assoc]
    exact Nat.le_trans (Nat.mul_le_mul_left _ h) ih
theorem euN_0 {s : Nat × Nat} (h2 : s.2 < 2 ^ 63) : (euN s 126).2 = 0 := by
  have := euN_h s 63
  have e : 2 * 63 = 126 := rfl
  rw [e] at this
  rcases Nat.eq_zero_or_pos (euN s 126).2 with h | h
  · exact h
  · have := Nat.mul_le_mul_left (2 ^ 63) h
    omega
theorem f_commonOf {σ : MSto} {x y : Nat} (hx : x < 2 ^ 63) (hy : y < 2 ^ 63) : ∀ n, n ≤ 200 → (∀ i, i < n → (euN (x, y) i).2 ≠ 0) → f_Ro_commonOf_9 0 σ (lN x, lN y) n = (lN (euN (x, y) n).1, lN (euN (x, y) n).2)
  | 0, _, _ => rfl
  | n + 1, hn, hz => by
    have ih := f_commonOf (σ := σ) hx hy n (by omega) (fun i hi => hz i (by omega))
    have hb := euN_b (s := (x, y)) hx hy n
    have h0 := hz n (by omega)
    show t_Ro_commonOf_9 (0 + nI n) σ (f_Ro_commonOf_9 0 σ (lN x, lN y) n) = _
    rw [ih]
    unfold t_Ro_commonOf_9
    rw [if_neg (ng_cnt l200 (by decide) (by omega)), if_neg (fun q => h0 ((cmp0 hb.2).mp q))]
    show (lN _, lN _ - lN _ / lN _ * lN _) = (lN (euS (euN (x, y) n)).1, lN (euS (euN (x, y) n)).2)
    rw [pk_lRem hb.1 (Nat.pos_of_ne_zero h0) hb.2]
    unfold euS
    rw [if_neg h0]
/-- where it ends -/
theorem n_commonOf {σ : MSto} {x y : Nat} (hx : x < 2 ^ 63) (hy : y < 2 ^ 63) : ∃ n, n_Ro_commonOf_9 0 σ (lN x, lN y) = n ∧ n ≤ 126 ∧ (euN (x, y) n).2 = 0 ∧ ∀ i, i < n → (euN (x, y) i).2 ≠ 0 := by
  obtain ⟨m, hm⟩ : ∃ m, m = leastN (fun i => (euN (x, y) i).2 = 0) 127 := ⟨_, rfl⟩
  have hm1 : m < 127 := by
    rcases Nat.lt_or_ge m 127 with h | h
    · exact h
    · exact absurd (euN_0 (s := (x, y)) hy) (leastN_on (P := fun i => (euN (x, y) i).2 = 0) (n := 127) (by rw [← hm]; omega))
  have hm2 : (euN (x, y) m).2 = 0 := by
    have := leastN_off (P := fun i => (euN (x, y) i).2 = 0) (n := 127) (by rw [← hm]; exact hm1)
    rw [← hm] at this
    exact this
  have hm3 : ∀ i, i < m → (euN (x, y) i).2 ≠ 0 := fun i hi => leastN_on (P := fun i => (euN (x, y) i).2 = 0) (n := 127) (by rw [← hm]; exact hi)
  have hq : ∀ i, i ≤ m → (q_Ro_commonOf_9s (0 + nI i) σ (f_Ro_commonOf_9 0 σ (lN x, lN y) i) = 1 ↔ (euN (x, y) i).2 = 0) := by
    intro i hi
    have hb := euN_b (s := (x, y)) hx hy i
    rw [f_commonOf hx hy i (by omega) (fun j hj => hm3 j (by omega))]
    unfold q_Ro_commonOf_9s
    rw [if_neg (ng_cnt l200 (by decide) (by omega))]
    by_cases g : (euN (x, y) i).2 = 0
    · rw [if_pos ((cmp0 hb.2).mpr g)]; exact ⟨fun _ => g, fun _ => rfl⟩
    · rw [if_neg (fun q => g ((cmp0 hb.2).mp q))]; exact ⟨fun q => absurd q (by decide), fun q => absurd q g⟩
  refine ⟨m, ?_, by omega, hm2, hm3⟩
  unfold n_Ro_commonOf_9
  obtain ⟨n, hn⟩ : ∃ n, n = leastN (fun i => q_Ro_commonOf_9s (0 + nI i) σ (f_Ro_commonOf_9 0 σ (lN x, lN y) i) = 1) 201 := ⟨_, rfl⟩
  rw [← hn]
  have hnm : ¬ m < n := fun g => leastN_on (P := fun i => q_Ro_commonOf_9s (0 + nI i) σ (f_Ro_commonOf_9 0 σ (lN x, lN y) i) = 1) (n := 201) (by rw [← hn]; exact g) ((hq m (Nat.le_refl _)).mpr hm2)
  have hmn : ¬ n < m := fun g => by
    have := leastN_off (P := fun i => q_Ro_commonOf_9s (0 + nI i) σ (f_Ro_commonOf_9 0 σ (lN x, lN y) i) = 1) (n := 201) (by rw [← hn]; omega)
    rw [← hn] at this
    exact hm3 n g ((hq n (by omega)).mp this)
  omega
theorem cp_commonOf {σ : MSto} {x y : Nat} (hx : x < 2 ^ 63) (hy : y < 2 ^ 63) : v_Ro_commonOf (lN x) (lN y) σ = lN (Nat.gcd x y) ∧ p_Ro_commonOf (lN x) (lN y) σ := by
  obtain ⟨n, h1, h2, h3, h4⟩ := n_commonOf (σ := σ) hx hy
  have hf := f_commonOf (σ := σ) hx hy n (by omega) h4
  have hg := euN_g (x, y) n
  rw [h3, Nat.gcd_zero_right] at hg
  constructor
  · unfold v_Ro_commonOf
    rw [h1, hf, hg]
  · unfold p_Ro_commonOf
    rw [h1]
    refine ⟨fun i hi => ?_, ?_⟩
    · have hb := euN_b (s := (x, y)) hx hy i
      have h0 := h4 i hi
      rw [f_commonOf hx hy i (by omega) (fun j hj => h4 j (by omega))]
      have hz : ¬ lg_cmp (lN (euN (x, y) i).2) 0 = 0 := fun q => h0 ((cmp0 hb.2).mp q)
      have hz2 : ¬ lN (euN (x, y) i).2 = 0 := fun q => hz (by rw [q]; rfl)
      refine ⟨?_, ?_⟩
      · unfold g_Ro_commonOf_9
        intro _ _
        exact hz2
      · unfold q_Ro_commonOf_9s
        rw [if_neg (ng_cnt l200 (by decide) (by omega)), if_neg hz]
        decide
    · rw [hf]
      intro _ g
      exact g ((cmp0 (by rw [h3]; decide)).mpr h3)
theorem nat_L {x : Int64} (h : 0 ≤ x) : x = lN x.toInt.natAbs ∧ x.toInt.natAbs < 2 ^ 63 := by
  rw [Int64.le_iff_toInt_le] at h
  have h0 : (0 : Int64).toInt = 0 := rfl
  have hr := fb_rngL x
  refine ⟨?_, by omega⟩
  rw [← Int64.toInt_inj, pk_lT (by omega)]
  omega
theorem kR_frac {σ τ : MSto} (h : kR σ τ) (hn : nM τ 51 + 2 ≤ 20) {u d : Int64} (hu : -9223372036854775808 < u.toInt) (hd : 0 < d) : kR (e_Ro_addFraction u d σ) (e_M_tellPart u d τ) ∧ p_Ro_addFraction u d σ ∧ p_M_tellPart u d τ ∧ nM (e_M_tellPart u d τ) 51 = nM τ 51 + 2 := by
  have hd' := hd
  rw [Int64.lt_iff_toInt_lt] at hd'
  have h0 : (0 : Int64).toInt = 0 := rfl
  rw [h0] at hd'
  obtain ⟨ed, bd⟩ := nat_L (x := d) (by rw [Int64.le_iff_toInt_le, h0]; omega)
  have ea : v_Ma_absJ u σ = lN u.toInt.natAbs := ab_lN hu
  have bu : u.toInt.natAbs < 2 ^ 63 := by have := fb_rngL u; omega
  obtain ⟨c1, c2⟩ := cp_commonOf (σ := σ) bu bd
  rw [← ea, ← ed] at c1 c2
  obtain ⟨g, hg⟩ : ∃ g, g = Nat.gcd u.toInt.natAbs d.toInt.natAbs := ⟨_, rfl⟩
  have gp : 0 < g := by rw [hg]; exact Nat.gcd_pos_of_pos_right _ (by omega)
  have gb : g < 2 ^ 63 := by
    have : g ≤ d.toInt.natAbs := by rw [hg]; exact Nat.le_of_dvd (by omega) (Nat.gcd_dvd_right _ _)
    omega
  rw [← hg] at c1
  have hz : ¬ lN g = 0 := fun q => by have := (fb_lN_inj gb (by decide)).mp (q.trans (lit_lN 0)); omega
  have hle : ¬ lg_cmp (lN g) 0 ≤ 0 := by
    rw [cmp_le, Int64.le_iff_toInt_le, pk_lT gb, h0]
    omega
  have cM1 : v_M_common u d τ = lN g := by unfold v_M_common; rw [hg]
  have k1 := kR_add h (by omega) (u / lN g)
  have n1 := rN_tell (u / lN g) h.2.1
  have k2 := kR_add k1 (by omega) (d / lN g)
  have n2 := rN_tell (d / lN g) k1.2.1
  have eC : e_Ro_addFraction u d σ = e_Ro_add (d / lN g) (e_Ro_add (u / lN g) σ) := by
    unfold e_Ro_addFraction
    rw [c1, if_neg hle, if_neg hle]
  have eM : e_M_tellPart u d τ = e_M_tell (d / lN g) (e_M_tell (u / lN g) τ) := by
    unfold e_M_tellPart
    rw [cM1]
  rw [eC, eM]
  refine ⟨k2, ?_, ?_, by omega⟩
  · unfold p_Ro_addFraction
    rw [c1]
    exact ⟨c2, fun q => absurd q hle, fun _ => ⟨hz, pC_add _ h, fun q => absurd q hle, fun _ => ⟨hz, pC_add _ k1⟩⟩⟩
  · unfold p_M_tellPart
    rw [cM1]
    exact ⟨⟨hu, by omega⟩, hz, pM_tell _ h.2.1, hz, pM_tell _ k1.2.1⟩

