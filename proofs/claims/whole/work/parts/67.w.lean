/-! how many bits -/
def pop (k : Nat) : Nat := fb_ct k.testBit 15
def bcT (k : Nat) : Bool := decide (v_In_bitCount (nI k) (fun _ _ _ => 0, fun _ _ _ => 0, fun _ _ _ => none, fun _ => 0) = nI (pop k))
def allB (f : Nat → Bool) : Nat → Nat → Bool
  | 0, b => f b
  | d + 1, b => allB f d (2 * b) && allB f d (2 * b + 1)
theorem allB_s {f : Nat → Bool} : ∀ (d b : Nat), allB f d b = true → ∀ i, i < 2 ^ d → f (b * 2 ^ d + i) = true
  | 0, b, h, i, hi => by
    have : i = 0 := by omega
    subst this
    rw [Nat.pow_zero, Nat.mul_one, Nat.add_zero]
    exact h
  | d + 1, b, h, i, hi => by
    have h1 := and_l h
    have h2 := and_r h
    rw [Nat.pow_succ] at hi ⊢
    by_cases g : i < 2 ^ d
    · have := allB_s d (2 * b) h1 i g
      rw [show 2 * b * 2 ^ d = b * (2 ^ d * 2) by rw [Nat.mul_comm 2 b, Nat.mul_assoc, Nat.mul_comm 2]] at this
      exact this
    · have := allB_s d (2 * b + 1) h2 (i - 2 ^ d) (by omega)
      rw [Nat.add_mul, Nat.one_mul, show 2 * b * 2 ^ d = b * (2 ^ d * 2) by rw [Nat.mul_comm 2 b, Nat.mul_assoc, Nat.mul_comm 2]] at this
      rw [show b * (2 ^ d * 2) + i = b * (2 ^ d * 2) + 2 ^ d + (i - 2 ^ d) by omega]
      exact this
theorem bcT_ok : allB bcT 15 0 = true := by decide +kernel
theorem bitCount_nI {k : Nat} (hk : k < 32768) (σ : MSto) : v_In_bitCount (nI k) σ = nI (pop k) := by
  have h := allB_s 15 0 bcT_ok k hk
  rw [Nat.zero_mul, Nat.zero_add] at h
  exact of_decide_eq_true h
/-! pieces that are all counted -/
theorem cp_areCounted {σ τ : MSto} (h : Cpl σ τ) (a : Int32) {lo hi : Int32} (hlo : 1 ≤ lo) : v_C_areCounted a lo hi σ = v_M_areCounted a lo hi τ := by
  unfold v_C_areCounted b_C_areCounted v_M_areCounted b_M_areCounted
  rw [cp_countedBits h]
  refine bI_congr ?_
  simp only [cp_isIn, v_M_in, bI_0, ite_ff, ite_tf, and_true, Classical.not_not]
  have e : v_In_bitCount a σ = v_In_bitCount a τ := rfl
  rw [e]
  constructor
  · rintro ⟨h1, h2, h3⟩
    refine ⟨fun q => ?_, h2, h3⟩
    have e0 : a = 0 := Int32.le_antisymm q (Int32.not_lt.mp h1)
    subst e0
    have hb : v_In_bitCount 0 τ = 0 := rfl
    rw [hb] at h3
    have := Int32.le_trans hlo h3.1
    exact absurd this (by decide)
  · rintro ⟨h1, h2, h3⟩
    exact ⟨fun q => h1 (Int32.le_of_lt q), h2, h3⟩
/-- a set of counted pieces, as a number -/
theorem areC {τ : MSto} (hm : iM τ) {a lo hi : Int32} (ha : ¬ v_M_areCounted a lo hi τ = 0) : ∃ k, a = nI k ∧ k < 4096 ∧ 0 < k ∧ (∀ j, k.testBit j = true → j < nM τ 10 ∧ bt (gI τ 13 0 15) j = true) ∧ lo ≤ nI (pop k) ∧ nI (pop k) ≤ hi := by
  unfold v_M_areCounted b_M_areCounted at ha
  simp only [bI_n0, v_M_in, bI_0, ite_ff, ite_tf, and_true, Classical.not_not] at ha
  obtain ⟨h1, h2, h3⟩ := ha
  have hpos : 0 ≤ a := Int32.le_of_lt (Int32.not_le.mp h1)
  obtain ⟨k, e, hk, -⟩ := nat_of hpos
  have hP : nM τ 10 ≤ 12 := hm.c.2.2.1.2
  have hsub : ∀ j, k.testBit j = true → j < nM τ 10 ∧ bt (gI τ 13 0 15) j = true := by
    intro j hj
    have j32 : j < 32 := by
      rcases Nat.lt_or_ge j 32 with q | q
      · exact q
      · rw [Nat.testBit_lt_two_pow (Nat.lt_of_lt_of_le hk (Nat.pow_le_pow_right (by decide) (by omega)))] at hj; cases hj
    have hb : bt (gI τ 13 0 15) j = true := by
      have := b_and a (gI τ 13 0 15 ^^^ -1) j
      rw [h2, b_0, bt_not _ j32, e, bt_nI j j32, hj] at this
      cases hc : bt (gI τ 13 0 15) j with
      | true => rfl
      | false => rw [hc] at this; cases this
    refine ⟨?_, hb⟩
    rcases Nat.lt_or_ge j (nM τ 10) with q | q
    · exact q
    · rw [bits_hi hm.n.2.1 hm.n.2.2 q j32] at hb; cases hb
  have hk12 : k < 2 ^ 12 := Nat.lt_pow_two_of_testBit k (fun i hi => by
    cases hc : k.testBit i with
    | false => rfl
    | true => have := (hsub i hc).1; omega)
  have hk0 : 0 < k := by
    rcases Nat.eq_zero_or_pos k with q | q
    · subst q; exact absurd (by rw [e]; exact Int32.le_refl _) h1
    · exact q
  rw [e, bitCount_nI (by omega)] at h3
  exact ⟨k, e, by omega, hk0, hsub, h3⟩
theorem hasM {k p : Nat} (hp : p < 32) (τ : MSto) : v_M_has (nI k) (nI p) τ = bI (k.testBit p = true) := by
  rw [cp_hasM _ hp, bt_nI p hp]
theorem hasC {k p : Nat} (hp : p < 32) (σ : MSto) : v_C_has (nI k) (nI p) σ = bI (k.testBit p = true) := by
  rw [cp_hasC _ hp, bt_nI p hp]
theorem house_rg {τ : MSto} (hm : iM τ) {p : Nat} (hp : p < nM τ 10) : ∃ n, gI τ 50 0 p = nI n ∧ n ≤ 5 := nat_rg (b := 5) (hm.p p hp).2.2.2 (by decide)
theorem cp_slip {σ τ : MSto} (h : Cpl σ τ) {p : Nat} (hp : p < nM τ 10) : gI σ 20 0 (gI σ 7 p 3).toNatClampNeg = gI τ 45 0 (gI τ 50 0 p).toNatClampNeg := by
  obtain ⟨n, e, hn⟩ := house_rg h.m hp
  rw [(h.p.2.2 p hp).2.2.2.2, e, nI_cl (by omega)]
  exact (h.h n (by omega)).1
theorem cp_span {σ τ : MSto} (h : Cpl σ τ) {p : Nat} (hp : p < nM τ 10) : gI σ 21 0 (gI σ 7 p 3).toNatClampNeg = v_M_spanOf (nI p) τ := by
  obtain ⟨n, e, hn⟩ := house_rg h.m hp
  unfold v_M_spanOf
  rw [(h.p.2.2 p hp).2.2.2.2, nI_cl (by have := h.P12; omega), e, nI_cl (by omega)]
  exact (h.h n (by omega)).2
theorem house_vin {σ τ : MSto} (h : Cpl σ τ) {p : Nat} (hp : p < nM τ 10) : vp_in (gI σ 7 p 3) 6 := by
  rw [(h.p.2.2 p hp).2.2.2.2]
  exact house_in (h.m.p p hp).2.2.2
theorem cp_num {σ τ : MSto} (h : Cpl σ τ) {p : Nat} (hp : p < nM τ 10) (hb : bt (gI τ 13 0 15) p = true) : gI σ 7 p 5 = gI τ 51 0 p :=
  (h.n p hp).2 (fun q => by have := (cp_isC h hp).mp q; rw [hb] at this; cases this)
theorem cp_clean {σ τ : MSto} (h : Cpl σ τ) {p : Nat} (hp : p < nM τ 10) (hb : bt (gI τ 13 0 15) p = true) : v_C_cleanNumber p σ = v_M_cleared (nI p) τ := by
  unfold v_C_cleanNumber v_M_cleared
  rw [cp_num h hp hb, cp_slip h hp, nI_cl (by have := h.P12; omega)]
/-! weights of years -/
theorem f_weightOf {σ τ : MSto} (h : Cpl σ τ) {k y : Nat} (hs : ∀ j, k.testBit j = true → j < nM τ 10 ∧ bt (gI τ 13 0 15) j = true) (hy : y < 200) : ∀ n, n ≤ nM τ 10 → f_C_weightOf_18 (nI k) (gI τ 41 0 y) 0 σ 1 n = nfold (t_M_weight (nI k) (nI y) τ) 1 n
  | 0, _ => rfl
  | n + 1, hn => by
    have ih := f_weightOf h hs hy n (by omega)
    have hP := h.P12
    show t_C_weightOf_18 (nI k) (gI τ 41 0 y) (0 + nI n) σ (f_C_weightOf_18 (nI k) (gI τ 41 0 y) 0 σ 1 n) = _
    rw [ih, nfold_s]
    unfold t_C_weightOf_18 t_M_weight
    rw [if_neg (ng_cnt (cp_pieceCount h) (by omega) (by omega : n < nM τ 10)), z_nI, al_v (by omega), h.eP (by omega), hasC (by omega), hasM (by omega)]
    by_cases g : k.testBit n = true
    · rw [if_neg (by rw [bI_t g]; decide), if_neg (by rw [bI_t g]; decide), cp_clean h (by omega) (hs n g).2, cp_span h (by omega), (cp_likeness (τ := τ) h.a _ _ (spanOf_rg h.m (by omega))).1, nI_cl (by omega)]
    · rw [if_pos (bI_f g), if_pos (bI_f g)]
theorem cp_weightOf {σ τ : MSto} (h : Cpl σ τ) {k y : Nat} (hs : ∀ j, k.testBit j = true → j < nM τ 10 ∧ bt (gI τ 13 0 15) j = true) (hy : y < 200) : v_C_weightOf (nI y) (nI k) σ = v_M_weightOf (nI k) (nI y) τ ∧ p_C_weightOf (nI y) (nI k) σ ∧ p_M_weightOf (nI k) (nI y) τ := by
  have hP := h.P12
  have hc : v_Cu_at (nI y) σ = gI τ 41 0 y := by
    rw [cp_at h ⟨nI_pos' (by omega), nI_le (b := 199) (by omega) (by decide)⟩, nI_cl (by omega)]
  refine ⟨?_, ?_, h.m, nI_inb hy (by decide)⟩
  · unfold v_C_weightOf n_C_weightOf_18 v_M_weightOf
    rw [cp_pN h, hc]
    exact f_weightOf h hs hy _ (Nat.le_refl _)
  · unfold p_C_weightOf n_C_weightOf_18
    rw [cp_pN h]
    refine ⟨pc_at _ _, fun i hi => ⟨fun _ _ => ?_, q_cnt (cp_pieceCount h) (by omega) hi⟩, fun q => q (e_cnt (cp_pieceCount h))⟩
    rw [z_nI, al_v (by omega), h.eP hi]
    refine ⟨al_p h.lP (by omega) hi, house_vin h hi, house_vin h hi, ?_⟩
    rw [cp_span h hi]
    exact (cp_likeness (τ := τ) h.a _ _ (spanOf_rg h.m hi)).2.1

