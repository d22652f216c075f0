/-! the class's small tests, as the reference has them -/
theorem ite_ff {p q : Prop} [Decidable p] : (if p then False else q) ↔ (¬ p ∧ q) := by
  by_cases h : p
  · rw [if_pos h]; exact ⟨fun z => z.elim, fun z => z.1 h⟩
  · rw [if_neg h]; exact ⟨fun z => ⟨h, z⟩, fun z => z.2⟩
theorem cp_isIn (a b c : Int32) (σ : MSto) : v_C_isIn a b c σ = bI (b ≤ a ∧ a ≤ c) := by
  unfold v_C_isIn b_C_isIn
  refine bI_congr ?_
  simp only [ite_ff, and_true, Int32.not_lt]
theorem cp_isYear (a : Int32) (σ : MSto) : v_C_isYear a σ = bI (0 ≤ a ∧ a ≤ 199) := by
  unfold v_C_isYear b_C_isYear
  rw [cp_isIn]
  exact bI_congr bI_1
theorem cp_isSpan (a : Int32) (σ : MSto) : v_C_isSpan a σ = bI (1 ≤ a ∧ a ≤ 60) := by
  unfold v_C_isSpan b_C_isSpan
  rw [cp_isIn]
  exact bI_congr bI_1
theorem ite_tt {p q : Prop} [Decidable p] : (if p then True else q) ↔ (p ∨ q) := by
  by_cases h : p
  · rw [if_pos h]; exact ⟨fun _ => Or.inl h, fun _ => trivial⟩
  · rw [if_neg h]; exact ⟨Or.inr, fun z => z.elim (fun g => absurd g h) id⟩
theorem ite_tf {p q : Prop} [Decidable p] : (if p then q else False) ↔ (p ∧ q) := by
  by_cases h : p
  · rw [if_pos h]; exact ⟨fun z => ⟨h, z⟩, fun z => z.2⟩
  · rw [if_neg h]; exact ⟨fun z => z.elim, fun z => absurd z.1 h⟩
theorem cp_isPart (x s w : Int32) (σ : MSto) : v_C_isPart x s w σ = bI ((0 ≤ x ∧ x ≤ w - 1) ∧ (1 ≤ s ∧ s ≤ w - x)) := by
  unfold v_C_isPart b_C_isPart
  refine bI_congr ?_
  simp only [cp_isIn, bI_0, bI_1, ite_ff, Classical.not_not, and_true]
theorem cp_isSpot (x y w : Int32) (σ : MSto) : v_C_isSpot x y w σ = bI ((0 ≤ x ∧ x ≤ 23) ∧ (0 ≤ y ∧ y ≤ 7) ∧ (0 ≤ w ∧ w ≤ 3)) := by
  unfold v_C_isSpot b_C_isSpot
  refine bI_congr ?_
  simp only [cp_isIn, bI_0, bI_1, ite_ff, Classical.not_not, and_true]
theorem cp_areMarks (a b : Int32) (σ τ : MSto) : v_C_areMarks a b σ = v_M_areMarks a b τ := by
  unfold v_C_areMarks b_C_areMarks v_M_areMarks b_M_areMarks
  refine bI_congr ?_
  simp only [cp_isIn, v_M_in, bI_0, bI_1, ite_ff, ite_tf, Classical.not_not, and_true]
/-! bits -/
theorem bt_1 (i : Nat) : bt 1 i = decide (i = 0) := by
  rcases Nat.lt_or_ge i 32 with h | h
  · exact (by decide +kernel : ∀ i, i < 32 → bt 1 i = decide (i = 0)) i h
  · rw [b_big h]; symm; exact decide_eq_false (by omega)
theorem and_1 (x : Int32) : x &&& 1 = if bt x 0 = true then 1 else 0 := by
  refine b_ext (fun i hi => ?_)
  rw [b_and, bt_1]
  by_cases h0 : i = 0
  · subst h0
    cases hb : bt x 0
    · rw [if_neg (by decide), b_0]; rfl
    · rw [if_pos rfl, bt_1]; rfl
  · rw [decide_eq_false h0, Bool.and_false]
    split
    · rw [bt_1, decide_eq_false h0]
    · rw [b_0]
/-- bit n of x, as a number -/
theorem sh_1 (x : Int32) {n : Nat} (hn : n < 32) : x >>> (nI n &&& 31) &&& 1 = if bt x n = true then 1 else 0 := by
  rw [and_1, b_sshr n hn x (by omega), if_pos (by omega : n + 0 < 32)]
  rfl
theorem sh_10 (x : Int32) {n : Nat} (hn : n < 32) : x >>> (nI n &&& 31) &&& 1 = 0 ↔ bt x n = false := by
  rw [sh_1 x hn]
  cases bt x n <;> decide
theorem sh_11 (x : Int32) {n : Nat} (hn : n < 32) : x >>> (nI n &&& 31) &&& 1 = 1 ↔ bt x n = true := by
  rw [sh_1 x hn]
  cases bt x n <;> decide
theorem bt_shl1 {n i : Nat} (hn : n < 32) (hi : i < 32) : bt ((1 : Int32) <<< (nI n &&& 31)) i = decide (i = n) := by
  rw [b_shl n hn 1 hi, bt_1]
  by_cases h : i = n
  · subst h; simp
  · rw [decide_eq_false h]
    by_cases h2 : n ≤ i
    · rw [decide_eq_false (by omega : ¬ i - n = 0), Bool.and_false]
    · rw [decide_eq_false h2, Bool.false_and]
theorem and_shl1 (x : Int32) {n : Nat} (hn : n < 32) : x &&& ((1 : Int32) <<< (nI n &&& 31)) = 0 ↔ bt x n = false := by
  constructor
  · intro h
    have := b_and x ((1 : Int32) <<< (nI n &&& 31)) n
    rw [h, b_0, bt_shl1 hn hn, decide_eq_true rfl, Bool.and_true] at this
    exact this.symm
  · intro h
    refine b_ext (fun i hi => ?_)
    rw [b_and, bt_shl1 hn hi, b_0]
    by_cases e : i = n
    · subst e; rw [h]; rfl
    · rw [decide_eq_false e, Bool.and_false]
theorem cp_hasM (b : Int32) {n : Nat} (hn : n < 32) (τ : MSto) : v_M_has b (nI n) τ = bI (bt b n = true) := by
  unfold v_M_has
  exact bI_congr (sh_11 b hn)
theorem cp_hasC (b : Int32) {n : Nat} (hn : n < 32) (σ : MSto) : v_C_has b (nI n) σ = bI (bt b n = true) := by
  unfold v_C_has b_C_has
  refine bI_congr ?_
  simp only [ite_ff, and_true, and_shl1 b hn]
  cases bt b n <;> decide
theorem bt_m1 (i : Nat) (hi : i < 32) : bt (-1) i = true := b_m1 i hi
theorem bt_not (x : Int32) {i : Nat} (hi : i < 32) : bt (x ^^^ (-1)) i = !bt x i := by
  rw [b_xor, bt_m1 i hi]
  cases bt x i <;> rfl
theorem cp_without (b : Int32) {n i : Nat} (hn : n < 32) (hi : i < 32) (σ : MSto) : bt (v_C_without b (nI n) σ) i = (bt b i && !decide (i = n)) := by
  unfold v_C_without
  rw [b_and, bt_not _ hi, bt_shl1 hn hi]
theorem bt_nI {k : Nat} (i : Nat) (hi : i < 32) : bt (nI k) i = k.testBit i := by
  unfold bt
  show (BitVec.ofNat 32 k).getLsbD i = _
  rw [BitVec.getLsbD_ofNat]
  simp [hi]
theorem bt_neg {x : Int32} (h : 0 ≤ x) : bt x 31 = false := by
  rw [Int32.le_iff_toInt_le] at h
  have h0 : (0 : Int32).toInt = 0 := rfl
  rw [h0] at h
  unfold bt
  have : x.toBitVec.msb = false := by
    rw [BitVec.msb_eq_toInt]
    exact decide_eq_false (by have : x.toBitVec.toInt = x.toInt := rfl; omega)
  rw [BitVec.msb_eq_getLsbD_last] at this
  exact this
/-- an int from 0 on is a natural number -/
theorem nat_of {x : Int32} (h : 0 ≤ x) : ∃ n : Nat, x = nI n ∧ n < 2 ^ 31 ∧ (n : Int) = x.toInt := by
  rw [Int32.le_iff_toInt_le] at h
  have h0 : (0 : Int32).toInt = 0 := rfl
  have hx := x.toInt_lt
  refine ⟨x.toInt.toNat, ?_, by omega, by omega⟩
  rw [← Int32.toInt_inj, nI_toInt (by omega)]
  omega
theorem nat_in {x : Int32} {b : Nat} (h : 0 ≤ x) (hb : b < 2 ^ 31) (h2 : x ≤ nI b) : ∃ n : Nat, x = nI n ∧ n ≤ b := by
  obtain ⟨n, e, h3, h4⟩ := nat_of h
  refine ⟨n, e, ?_⟩
  rw [e] at h2
  exact (leN h3 hb).mp h2
theorem nat_rg {x : Int32} {b : Nat} (h : rg x 0 (nI b)) (hb : b < 2 ^ 31) : ∃ n : Nat, x = nI n ∧ n ≤ b := nat_in h.1 hb h.2
theorem vin_of {x : Int32} {b n : Nat} (h : 0 ≤ x) (h2 : x ≤ nI b) (hb : b < 2 ^ 31) (hn : b < n) (hn2 : n < 2 ^ 31) : vp_in x n := by
  obtain ⟨m, e, h3⟩ := nat_in h hb h2
  rw [e]
  exact nI_inb (by omega) hn2

