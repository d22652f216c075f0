/-! how many bits -/
def pop (k : Nat) : Nat := fb_ct k.testBit 15
def popF : Nat → Nat → Nat
  | 0, _ => 0
  | n + 1, k => k % 2 + popF n (k / 2)
theorem fb_ct_one (p : Nat → Bool) : fb_ct p 1 = if p 0 then 1 else 0 := by
  rw [fb_ct_succ]
  show 0 + _ = _
  omega
theorem popF_eq : ∀ (n k : Nat), popF n k = fb_ct k.testBit n
  | 0, _ => rfl
  | n + 1, k => by
    have h := fb_ct_split k.testBit 1 n
    rw [Nat.add_comm 1 n] at h
    have e : fb_ct (fun i => k.testBit (1 + i)) n = fb_ct (k / 2).testBit n := fb_ct_cong (fun i _ => by rw [Nat.add_comm, Nat.testBit_succ])
    rw [h, e, ← popF_eq n (k / 2), fb_ct_one]
    show k % 2 + _ = _
    congr 1
    rw [Nat.testBit_zero]
    rcases Nat.mod_two_eq_zero_or_one k with q | q
    · rw [q]; rfl
    · rw [q]; rfl
def nb1 (k : Nat) : Nat := k - (k >>> 1 &&& 1431655765)
def nb2 (k : Nat) : Nat := (k &&& 858993459) + (k >>> 2 &&& 858993459)
def nb3 (k : Nat) : Nat := (k + k >>> 4) &&& 252645135
def nb4 (k : Nat) : Nat := k + k >>> 8
def nb5 (k : Nat) : Nat := k + k >>> 16
abbrev us (x n : Int32) : Int32 := (Int32.toUInt32 x >>> (Int32.toUInt32 n &&& Int32.toUInt32 31)).toInt32
def ib1 (x : Int32) : Int32 := x - (us x 1 &&& 1431655765)
def ib2 (x : Int32) : Int32 := (x &&& 858993459) + (us x 2 &&& 858993459)
def ib3 (x : Int32) : Int32 := (x + us x 4) &&& 252645135
def ib4 (x : Int32) : Int32 := x + us x 8
def ib5 (x : Int32) : Int32 := x + us x 16
theorem us_nI {k j : Nat} (hk : k < 65536) (hj : j < 32) : us (nI k) (nI j) = nI (k >>> j) := nx_ush hk hj
theorem shr_le (k j : Nat) : k >>> j ≤ k := by rw [Nat.shiftRight_eq_div_pow]; exact Nat.div_le_self _ _
theorem ib1_nI {k : Nat} (hk : k < 65536) : ib1 (nI k) = nI (nb1 k) := by
  unfold ib1 nb1
  rw [show us (nI k) 1 = nI (k >>> 1) from us_nI hk (by decide), show (1431655765 : Int32) = nI 1431655765 from rfl, fa_and]
  exact pk_sub (Nat.le_trans Nat.and_le_left (shr_le _ _))
theorem ib2_nI {k : Nat} (hk : k < 65536) : ib2 (nI k) = nI (nb2 k) := by
  unfold ib2 nb2
  rw [show us (nI k) 2 = nI (k >>> 2) from us_nI hk (by decide), show (858993459 : Int32) = nI 858993459 from rfl, fa_and, fa_and, nI_add]
theorem ib3_nI {k : Nat} (hk : k < 65536) : ib3 (nI k) = nI (nb3 k) := by
  unfold ib3 nb3
  rw [show us (nI k) 4 = nI (k >>> 4) from us_nI hk (by decide), show (252645135 : Int32) = nI 252645135 from rfl, nI_add, fa_and]
theorem ib4_nI {k : Nat} (hk : k < 65536) : ib4 (nI k) = nI (nb4 k) := by
  unfold ib4 nb4
  rw [show us (nI k) 8 = nI (k >>> 8) from us_nI hk (by decide), nI_add]
theorem ib5_nI {k : Nat} (hk : k < 65536) : ib5 (nI k) = nI (nb5 k) := by
  unfold ib5 nb5
  rw [show us (nI k) 16 = nI (k >>> 16) from us_nI hk (by decide), nI_add]
def natBC (k : Nat) : Nat := nb5 (nb4 (nb3 (nb2 (nb1 k)))) &&& 63
theorem bitCount_nb {k : Nat} (hk : k < 32768) (σ : MSto) : v_In_bitCount (nI k) σ = nI (natBC k) := by
  have e : v_In_bitCount (nI k) σ = ib5 (ib4 (ib3 (ib2 (ib1 (nI k))))) &&& 63 := rfl
  have b1 : nb1 k ≤ k := Nat.sub_le _ _
  have b2 : nb2 (nb1 k) < 40960 := by
    have h1 : nb1 k &&& 858993459 ≤ nb1 k := Nat.and_le_left
    have h2 : nb1 k >>> 2 &&& 858993459 ≤ nb1 k >>> 2 := Nat.and_le_left
    have h3 : nb1 k >>> 2 = nb1 k / 4 := Nat.shiftRight_eq_div_pow _ _
    unfold nb2
    omega
  have b3 : nb3 (nb2 (nb1 k)) < 43520 := by
    have h1 : nb3 (nb2 (nb1 k)) ≤ nb2 (nb1 k) + nb2 (nb1 k) >>> 4 := Nat.and_le_left
    have h3 : nb2 (nb1 k) >>> 4 = nb2 (nb1 k) / 16 := Nat.shiftRight_eq_div_pow _ _
    omega
  have b4 : nb4 (nb3 (nb2 (nb1 k))) < 65536 := by
    have h3 : nb3 (nb2 (nb1 k)) >>> 8 = nb3 (nb2 (nb1 k)) / 256 := Nat.shiftRight_eq_div_pow _ _
    unfold nb4
    omega
  rw [e, ib1_nI (by omega), ib2_nI (by omega), ib3_nI (by omega), ib4_nI (by omega), ib5_nI b4, show (63 : Int32) = nI 63 from rfl, fa_and]
  rfl
def bcT (k : Nat) : Bool := Nat.beq (natBC k) (popF 15 k)
def allB (f : Nat → Bool) : Nat → Nat → Bool
  | 0, b => f b
  | d + 1, b => allB f d (2 * b) && allB f d (2 * b + 1)
theorem allB_s {f : Nat → Bool} : ∀ (d b : Nat), allB f d b = true → ∀ i, i < 2 ^ d → f (b * 2 ^ d + i) = true
  | 0, b, h, i, hi => by
    have : i = 0 := by omega
    subst this
    rw [Nat.pow_zero, Nat.mul_one, Nat.add_zero]
    exact h
  | d + 1, b, h, i, hi => by
    have h1 := and_l h
    have h2 := and_r h
    rw [Nat.pow_succ] at hi ⊢
    by_cases g : i < 2 ^ d
    · have := allB_s d (2 * b) h1 i g
      rw [show 2 * b * 2 ^ d = b * (2 ^ d * 2) by rw [Nat.mul_comm 2 b, Nat.mul_assoc, Nat.mul_comm 2]] at this
      exact this
    · have := allB_s d (2 * b + 1) h2 (i - 2 ^ d) (by omega)
      rw [Nat.add_mul, Nat.one_mul, show 2 * b * 2 ^ d = b * (2 ^ d * 2) by rw [Nat.mul_comm 2 b, Nat.mul_assoc, Nat.mul_comm 2]] at this
      rw [show b * (2 ^ d * 2) + i = b * (2 ^ d * 2) + 2 ^ d + (i - 2 ^ d) by omega]
      exact this
theorem bcT_0 : allB bcT 11 0 = true := by decide +kernel
theorem bcT_1 : allB bcT 11 1 = true := by decide +kernel
theorem bcT_2 : allB bcT 11 2 = true := by decide +kernel
theorem bcT_3 : allB bcT 11 3 = true := by decide +kernel
theorem bcT_4 : allB bcT 11 4 = true := by decide +kernel
theorem bcT_5 : allB bcT 11 5 = true := by decide +kernel
theorem bcT_6 : allB bcT 11 6 = true := by decide +kernel
theorem bcT_7 : allB bcT 11 7 = true := by decide +kernel
theorem bcT_8 : allB bcT 11 8 = true := by decide +kernel
theorem bcT_9 : allB bcT 11 9 = true := by decide +kernel
theorem bcT_10 : allB bcT 11 10 = true := by decide +kernel
theorem bcT_11 : allB bcT 11 11 = true := by decide +kernel
theorem bcT_12 : allB bcT 11 12 = true := by decide +kernel
theorem bcT_13 : allB bcT 11 13 = true := by decide +kernel
theorem bcT_14 : allB bcT 11 14 = true := by decide +kernel
theorem bcT_15 : allB bcT 11 15 = true := by decide +kernel
theorem bcT_q : ∀ q, q < 16 → allB bcT 11 q = true
  | 0, _ => bcT_0
  | 1, _ => bcT_1
  | 2, _ => bcT_2
  | 3, _ => bcT_3
  | 4, _ => bcT_4
  | 5, _ => bcT_5
  | 6, _ => bcT_6
  | 7, _ => bcT_7
  | 8, _ => bcT_8
  | 9, _ => bcT_9
  | 10, _ => bcT_10
  | 11, _ => bcT_11
  | 12, _ => bcT_12
  | 13, _ => bcT_13
  | 14, _ => bcT_14
  | 15, _ => bcT_15
  | n + 16, h => absurd h (by omega)
theorem bcT_ok {k : Nat} (hk : k < 32768) : bcT k = true := by
  have hd : k = k / 2048 * 2 ^ 11 + k % 2048 := by have := Nat.div_add_mod k 2048; omega
  have hr : k % 2048 < 2 ^ 11 := Nat.mod_lt _ (by decide)
  have hq : k / 2048 < 16 := by omega
  rw [hd]
  exact allB_s 11 _ (bcT_q _ hq) _ hr
theorem bitCount_nI {k : Nat} (hk : k < 32768) (σ : MSto) : v_In_bitCount (nI k) σ = nI (pop k) := by
  rw [bitCount_nb hk]
  unfold pop
  rw [← popF_eq]
  exact congrArg nI (Nat.eq_of_beq_eq_true (bcT_ok hk))
/-! pieces that are all counted -/
theorem cp_areCounted {σ τ : MSto} (h : Cpl σ τ) (a : Int32) {lo hi : Int32} (hlo : 1 ≤ lo) : v_C_areCounted a lo hi σ = v_M_areCounted a lo hi τ := by
  unfold v_C_areCounted b_C_areCounted v_M_areCounted b_M_areCounted
  rw [cp_countedBits h]
  refine bI_congr ?_
  simp only [cp_isIn, v_M_in, bI_0, ite_ff, ite_tf, and_true, Classical.not_not]
  have e : v_In_bitCount a σ = v_In_bitCount a τ := rfl
  rw [e]
  constructor
  · rintro ⟨h1, h2, h3⟩
    refine ⟨fun q => ?_, h2, h3⟩
    have e0 : a = 0 := Int32.le_antisymm q (Int32.not_lt.mp h1)
    subst e0
    have hb : v_In_bitCount 0 τ = 0 := rfl
    rw [hb] at h3
    have := Int32.le_trans hlo h3.1
    exact absurd this (by decide)
  · rintro ⟨h1, h2, h3⟩
    exact ⟨fun q => h1 (Int32.le_of_lt q), h2, h3⟩
/-- a set of counted pieces, as a number -/
theorem areC {τ : MSto} (hm : iM τ) {a lo hi : Int32} (ha : ¬ v_M_areCounted a lo hi τ = 0) : ∃ k, a = nI k ∧ k < 4096 ∧ 0 < k ∧ (∀ j, k.testBit j = true → j < nM τ 10 ∧ bt (gI τ 13 0 15) j = true) ∧ lo ≤ nI (pop k) ∧ nI (pop k) ≤ hi := by
  unfold v_M_areCounted b_M_areCounted at ha
  simp only [bI_n0, v_M_in, bI_0, ite_ff, ite_tf, and_true, Classical.not_not] at ha
  obtain ⟨h1, h2, h3⟩ := ha
  have hpos : 0 ≤ a := Int32.le_of_lt (Int32.not_le.mp h1)
  obtain ⟨k, e, hk, -⟩ := nat_of hpos
  have hP : nM τ 10 ≤ 12 := hm.c.2.2.1.2
  have hsub : ∀ j, k.testBit j = true → j < nM τ 10 ∧ bt (gI τ 13 0 15) j = true := by
    intro j hj
    have j32 : j < 32 := by
      rcases Nat.lt_or_ge j 32 with q | q
      · exact q
      · rw [Nat.testBit_lt_two_pow (Nat.lt_of_lt_of_le hk (Nat.pow_le_pow_right (by decide) (by omega)))] at hj; cases hj
    have hb : bt (gI τ 13 0 15) j = true := by
      have := b_and a (gI τ 13 0 15 ^^^ -1) j
      rw [h2, b_0, bt_not _ j32, e, bt_nI j j32, hj] at this
      cases hc : bt (gI τ 13 0 15) j with
      | true => rfl
      | false => rw [hc] at this; cases this
    refine ⟨?_, hb⟩
    rcases Nat.lt_or_ge j (nM τ 10) with q | q
    · exact q
    · rw [bits_hi hm.n.2.1 hm.n.2.2 q j32] at hb; cases hb
  have hk12 : k < 2 ^ 12 := Nat.lt_pow_two_of_testBit k (fun i hi => by
    cases hc : k.testBit i with
    | false => rfl
    | true => have := (hsub i hc).1; omega)
  have hk0 : 0 < k := by
    rcases Nat.eq_zero_or_pos k with q | q
    · subst q; exact absurd (by rw [e]; exact Int32.le_refl _) h1
    · exact q
  rw [e, bitCount_nI (by omega)] at h3
  exact ⟨k, e, by omega, hk0, hsub, h3⟩
theorem hasM {k p : Nat} (hp : p < 32) (τ : MSto) : v_M_has (nI k) (nI p) τ = bI (k.testBit p = true) := by
  rw [cp_hasM _ hp, bt_nI p hp]
theorem hasC {k p : Nat} (hp : p < 32) (σ : MSto) : v_C_has (nI k) (nI p) σ = bI (k.testBit p = true) := by
  rw [cp_hasC _ hp, bt_nI p hp]
theorem house_rg {τ : MSto} (hm : iM τ) {p : Nat} (hp : p < nM τ 10) : ∃ n, gI τ 50 0 p = nI n ∧ n ≤ 5 := nat_rg (b := 5) (hm.p p hp).2.2.2 (by decide)
theorem cp_slip {σ τ : MSto} (h : Cpl σ τ) {p : Nat} (hp : p < nM τ 10) : gI σ 20 0 (gI σ 7 p 3).toNatClampNeg = gI τ 45 0 (gI τ 50 0 p).toNatClampNeg := by
  obtain ⟨n, e, hn⟩ := house_rg h.m hp
  rw [(h.p.2.2 p hp).2.2.2.2, e, nI_cl (by omega)]
  exact (h.h n (by omega)).1
theorem cp_span {σ τ : MSto} (h : Cpl σ τ) {p : Nat} (hp : p < nM τ 10) : gI σ 21 0 (gI σ 7 p 3).toNatClampNeg = v_M_spanOf (nI p) τ := by
  obtain ⟨n, e, hn⟩ := house_rg h.m hp
  unfold v_M_spanOf
  rw [(h.p.2.2 p hp).2.2.2.2, nI_cl (by have := h.P12; omega), e, nI_cl (by omega)]
  exact (h.h n (by omega)).2
theorem house_vin {σ τ : MSto} (h : Cpl σ τ) {p : Nat} (hp : p < nM τ 10) : vp_in (gI σ 7 p 3) 6 := by
  rw [(h.p.2.2 p hp).2.2.2.2]
  exact house_in (h.m.p p hp).2.2.2
theorem cp_num {σ τ : MSto} (h : Cpl σ τ) {p : Nat} (hp : p < nM τ 10) (hb : bt (gI τ 13 0 15) p = true) : gI σ 7 p 5 = gI τ 51 0 p :=
  (h.n p hp).2 (fun q => by have := (cp_isC h hp).mp q; rw [hb] at this; cases this)
theorem cp_clean {σ τ : MSto} (h : Cpl σ τ) {p : Nat} (hp : p < nM τ 10) (hb : bt (gI τ 13 0 15) p = true) : v_C_cleanNumber p σ = v_M_cleared (nI p) τ := by
  unfold v_C_cleanNumber v_M_cleared
  rw [cp_num h hp hb, cp_slip h hp, nI_cl (by have := h.P12; omega)]
/-! weights of years -/
theorem f_weightOf {σ τ : MSto} (h : Cpl σ τ) {k y : Nat} (hs : ∀ j, k.testBit j = true → j < nM τ 10 ∧ bt (gI τ 13 0 15) j = true) (hy : y < 200) : ∀ n, n ≤ nM τ 10 → f_C_weightOf_18 (nI k) (gI τ 41 0 y) 0 σ 1 n = nfold (t_M_weight (nI k) (nI y) τ) 1 n
  | 0, _ => rfl
  | n + 1, hn => by
    have ih := f_weightOf h hs hy n (by omega)
    have hP := h.P12
    show t_C_weightOf_18 (nI k) (gI τ 41 0 y) (0 + nI n) σ (f_C_weightOf_18 (nI k) (gI τ 41 0 y) 0 σ 1 n) = _
    rw [ih, nfold_s]
    unfold t_C_weightOf_18 t_M_weight
    rw [if_neg (ng_cnt (cp_pieceCount h) (by omega) (by omega : n < nM τ 10)), z_nI, al_v (by omega), h.eP (by omega), hasC (by omega), hasM (by omega)]
    by_cases g : k.testBit n = true
    · rw [if_neg (by rw [bI_t g]; decide), if_neg (by rw [bI_t g]; decide), cp_clean h (by omega) (hs n g).2, cp_span h (by omega), (cp_likeness (τ := τ) h.a _ _ (spanOf_rg h.m (by omega))).1, nI_cl (by omega)]
    · rw [if_pos (bI_f g), if_pos (bI_f g)]
theorem cp_weightOf {σ τ : MSto} (h : Cpl σ τ) {k y : Nat} (hs : ∀ j, k.testBit j = true → j < nM τ 10 ∧ bt (gI τ 13 0 15) j = true) (hy : y < 200) : v_C_weightOf (nI y) (nI k) σ = v_M_weightOf (nI k) (nI y) τ ∧ p_C_weightOf (nI y) (nI k) σ ∧ p_M_weightOf (nI k) (nI y) τ := by
  have hP := h.P12
  have hc : v_Cu_at (nI y) σ = gI τ 41 0 y := by
    rw [cp_at h ⟨nI_pos' (by omega), nI_le (b := 199) (by omega) (by decide)⟩, nI_cl (by omega)]
  refine ⟨?_, ?_, h.m, nI_inb hy (by decide)⟩
  · unfold v_C_weightOf n_C_weightOf_18 v_M_weightOf
    rw [cp_pN h, hc]
    exact f_weightOf h hs hy _ (Nat.le_refl _)
  · unfold p_C_weightOf n_C_weightOf_18
    rw [cp_pN h]
    refine ⟨pc_at _ _, fun i hi => ⟨fun _ _ => ?_, q_cnt (cp_pieceCount h) (by omega) hi⟩, fun q => q (e_cnt (cp_pieceCount h))⟩
    rw [z_nI, al_v (by omega), h.eP hi]
    refine ⟨al_p h.lP (by omega) hi, house_vin h hi, house_vin h hi, ?_⟩
    rw [cp_span h hi]
    exact (cp_likeness (τ := τ) h.a _ _ (spanOf_rg h.m hi)).2.1

