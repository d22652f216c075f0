/-! counting loops, lists, pieces -/
theorem z_nI (i : Nat) : (0 : Int32) + nI i = nI i := Int32.zero_add _
theorem ng_cnt {N : Int32} {n i : Nat} (hN : N = nI n) (hn : n < 2 ^ 31) (hi : i < n) : ¬ N ≤ 0 + nI i := by
  rw [z_nI, hN]; exact nI_ge hi hn
theorem q_cnt {N : Int32} {n i : Nat} (hN : N = nI n) (hn : n < 2 ^ 31) (hi : i < n) : ¬ (if N ≤ 0 + nI i then (1 : Nat) else 0) = 1 := by
  rw [if_neg (ng_cnt hN hn hi)]; decide
theorem e_cnt {N : Int32} {n : Nat} (hN : N = nI n) : N ≤ 0 + nI n := by rw [z_nI, hN]; exact Int32.le_refl _
theorem l200 : (200 : Int32) = nI 200 := rfl
theorem al_p {σ : MSto} {k n p : Nat} (hs : gI σ k 0 2 = nI n) (hn : n < 2 ^ 31) (hp : p < n) : p_AL_get k 0 (nI p) σ :=
  ⟨nI_pos' (by omega), by rw [hs]; exact nI_lt hp hn⟩
theorem al_v {σ : MSto} {k p : Nat} (hp : p < 2 ^ 31) : v_AL_get k 0 (nI p) σ = eL σ k p := by
  unfold v_AL_get eL; rw [nI_cl hp]
theorem Cpl.P12 {σ τ : MSto} (h : Cpl σ τ) : nM τ 10 ≤ 12 := h.m.c.2.2.1.2
theorem Cpl.S6 {σ τ : MSto} (h : Cpl σ τ) : nM τ 17 ≤ 6 := h.m.c.2.2.2.1.2
theorem Cpl.lP {σ τ : MSto} (h : Cpl σ τ) : gI σ 14 0 2 = nI (nM τ 10) := h.p.1.trans h.m.c.2.2.1.1
theorem Cpl.lS {σ τ : MSto} (h : Cpl σ τ) : gI σ 15 0 2 = nI (nM τ 17) := h.t.1.trans h.m.c.2.2.2.1.1
theorem Cpl.lQ {σ τ : MSto} (h : Cpl σ τ) : gI σ 16 0 2 = nI (nM τ 27) := h.q.1.trans h.m.c.2.2.2.2.1.1
theorem Cpl.lM {σ τ : MSto} (h : Cpl σ τ) : gI σ 17 0 2 = nI (nM τ 3) := h.me.1.trans h.m.c.1.1
theorem Cpl.lF {σ τ : MSto} (h : Cpl σ τ) : gI σ 18 0 2 = nI (nM τ 5) := h.s.1.trans h.m.c.2.1.1
theorem Cpl.eP {σ τ : MSto} (h : Cpl σ τ) {p : Nat} (hp : p < nM τ 10) : eL σ 14 p = p := by
  unfold eL; rw [(h.p.2.2 p hp).1]; rfl
theorem min_nI {n b : Nat} (h : n ≤ b) (hb : b < 2 ^ 31) (σ : MSto) : v_Ma_min (nI n) (nI b) σ = nI n := by
  unfold v_Ma_min
  split
  · rename_i g
    have := (ltN hb (by omega)).mp g
    omega
  · rfl
theorem cp_pieceCount {σ τ : MSto} (h : Cpl σ τ) : v_C_pieceCount σ = nI (nM τ 10) := by
  unfold v_C_pieceCount v_AL_size
  rw [h.lP]
  exact min_nI (b := 12) h.P12 (by decide) σ
theorem cp_storyCount {σ τ : MSto} (h : Cpl σ τ) : v_C_storyCount σ = nI (nM τ 17) := by
  unfold v_C_storyCount v_AL_size
  rw [h.lS]
  exact min_nI (b := 6) h.S6 (by decide) σ
theorem cp_pN {σ τ : MSto} (h : Cpl σ τ) : (v_C_pieceCount σ).toNatClampNeg = nM τ 10 := by
  rw [cp_pieceCount h, nI_cl (by have := h.P12; omega)]
theorem cp_sN {σ τ : MSto} (h : Cpl σ τ) : (v_C_storyCount σ).toNatClampNeg = nM τ 17 := by
  rw [cp_storyCount h, nI_cl (by have := h.S6; omega)]
theorem in_cnt {a : Int32} {n : Nat} (hn : n < 2 ^ 31) : (0 ≤ a ∧ a ≤ nI n - 1) ↔ (0 ≤ a ∧ a < nI n) := by
  have h0 : (0 : Int32).toInt = 0 := rfl
  have h1 : (1 : Int32).toInt = 1 := rfl
  have hn' := nI_toInt hn
  have : (nI n - 1).toInt = (n : Int) - 1 := by
    rw [fb_subI (by rw [hn', h1]; omega) (by rw [hn', h1]; omega), hn', h1]
  rw [leI_iff, leI_iff, ltI_iff, h0, this, hn']
  omega
theorem cp_isPiece {σ τ : MSto} (h : Cpl σ τ) (a : Int32) : v_C_isPiece a σ = v_M_isPiece a τ := by
  unfold v_C_isPiece b_C_isPiece v_M_isPiece
  rw [cp_pieceCount h, h.m.c.2.2.1.1]
  refine bI_congr ?_
  rw [in_cnt (by have := h.P12; omega)]
  simp only [ite_ff, and_true, Int32.not_lt, Int32.not_le]
theorem cp_isStory {σ τ : MSto} (h : Cpl σ τ) (a : Int32) : v_C_isStory a σ = v_M_isStory a τ := by
  unfold v_C_isStory b_C_isStory v_M_isStory
  rw [cp_storyCount h, h.m.c.2.2.2.1.1]
  refine bI_congr ?_
  rw [in_cnt (by have := h.S6; omega)]
  simp only [ite_ff, and_true, Int32.not_lt, Int32.not_le]
/-- a piece's number -/
theorem pieceN {σ τ : MSto} (h : Cpl σ τ) {a : Int32} (ha : ¬ v_M_isPiece a τ = 0) : ∃ p, p < nM τ 10 ∧ a = nI p := by
  unfold v_M_isPiece at ha
  rw [bI_n0, h.m.c.2.2.1.1, in_cnt (by have := h.P12; omega)] at ha
  obtain ⟨n, e, h1, -⟩ := nat_of ha.1
  refine ⟨n, ?_, e⟩
  have h2 := ha.2
  rw [e] at h2
  exact (ltN h1 (by have := h.P12; omega)).mp h2
theorem storyN {σ τ : MSto} (h : Cpl σ τ) {a : Int32} (ha : ¬ v_M_isStory a τ = 0) : ∃ p, p < nM τ 17 ∧ a = nI p := by
  unfold v_M_isStory at ha
  rw [bI_n0, h.m.c.2.2.2.1.1, in_cnt (by have := h.S6; omega)] at ha
  obtain ⟨n, e, h1, -⟩ := nat_of ha.1
  refine ⟨n, ?_, e⟩
  have h2 := ha.2
  rw [e] at h2
  exact (ltN h1 (by have := h.S6; omega)).mp h2
/-! counted bits -/
theorem bits_hi {τ : MSto} {B : Int32} (h1 : rg B 0 4095) (h2 : ∀ p, p < 12 → nM τ 10 ≤ p → B >>> (nI p &&& 31) &&& 1 = 0) {j : Nat} (hj : nM τ 10 ≤ j) (h32 : j < 32) : bt B j = false := by
  by_cases h12 : j < 12
  · exact (sh_10 B (by omega)).mp (h2 j h12 hj)
  · obtain ⟨k, e, hk⟩ := nat_rg (b := 4095) h1 (by decide)
    rw [e, bt_nI j h32]
    exact Nat.testBit_lt_two_pow (Nat.lt_of_le_of_lt hk (Nat.lt_of_lt_of_le (by decide : 4095 < 2 ^ 12) (Nat.pow_le_pow_right (by decide) (by omega))))
theorem cp_isC {σ τ : MSto} (h : Cpl σ τ) {p : Nat} (hp : p < nM τ 10) : gI σ 7 p 4 = 0 ↔ bt (gI τ 13 0 15) p = false := by
  rw [(h.n p hp).1]
  exact sh_10 _ (by have := h.P12; omega)
theorem f_countedBits {σ τ : MSto} (h : Cpl σ τ) : ∀ n, n ≤ nM τ 10 → ∀ j, j < 32 → bt (f_C_countedBits_4 0 σ 0 n) j = (decide (j < n) && bt (gI τ 13 0 15) j)
  | 0, _, j, _ => by
    show bt 0 j = _
    rw [b_0, decide_eq_false (by omega), Bool.false_and]
  | n + 1, hn, j, hj => by
    have ih := f_countedBits h n (by omega) j hj
    have hP := h.P12
    show bt (t_C_countedBits_4 (0 + nI n) σ (f_C_countedBits_4 0 σ 0 n)) j = _
    unfold t_C_countedBits_4
    rw [if_neg (ng_cnt (cp_pieceCount h) (by omega) (by omega : n < nM τ 10)), z_nI, al_v (by omega), h.eP (by omega)]
    by_cases g : gI σ 7 n 4 = 0
    · rw [if_pos g, ih]
      have gb := (cp_isC h (by omega)).mp g
      by_cases e : j = n
      · subst e; rw [gb, Bool.and_false, Bool.and_false]
      · rw [show decide (j < n + 1) = decide (j < n) from decide_eq_decide.mpr (by omega)]
    · rw [if_neg g, b_or, ih, bt_shl1 (by omega) hj]
      have gb : bt (gI τ 13 0 15) n = true := by
        cases hb : bt (gI τ 13 0 15) n with
        | true => rfl
        | false => exact absurd ((cp_isC h (by omega)).mpr hb) g
      by_cases e : j = n
      · subst e; rw [gb]; simp
      · rw [decide_eq_false e, Bool.or_false, show decide (j < n + 1) = decide (j < n) from decide_eq_decide.mpr (by omega)]
theorem cp_countedBits {σ τ : MSto} (h : Cpl σ τ) : v_C_countedBits σ = gI τ 13 0 15 := by
  unfold v_C_countedBits n_C_countedBits_4
  rw [cp_pN h]
  refine b_ext (fun j hj => ?_)
  rw [f_countedBits h _ (Nat.le_refl _) j hj]
  by_cases g : j < nM τ 10
  · rw [decide_eq_true g, Bool.true_and]
  · rw [decide_eq_false g, Bool.false_and, bits_hi h.m.n.2.1 h.m.n.2.2 (by omega) hj]
theorem pc_countedBits {σ τ : MSto} (h : Cpl σ τ) : p_C_countedBits σ := by
  have hP := h.P12
  unfold p_C_countedBits n_C_countedBits_4
  rw [cp_pN h]
  refine ⟨fun i hi => ⟨fun _ => ?_, q_cnt (cp_pieceCount h) (by omega) hi⟩, fun q => q (e_cnt (cp_pieceCount h))⟩
  rw [z_nI]
  exact al_p h.lP (by omega) hi
theorem pc_areCounted {σ τ : MSto} (h : Cpl σ τ) (a lo hi : Int32) : p_C_areCounted a lo hi σ := fun _ => pc_countedBits h

