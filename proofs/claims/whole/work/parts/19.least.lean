/-! the first place that holds -/
noncomputable def leastN (P : Nat → Prop) : Nat → Nat
  | 0 => 0
  | n + 1 => @ite _ (leastN P n < n) (Classical.propDecidable _) (leastN P n) (@ite _ (P n) (Classical.propDecidable _) n (n + 1))
theorem leastN_le (P : Nat → Prop) : ∀ n, leastN P n ≤ n
  | 0 => Nat.le_refl _
  | n + 1 => by
    have ih := leastN_le P n
    unfold leastN
    split
    · omega
    · split <;> omega
theorem leastN_on {P : Nat → Prop} : ∀ {n i : Nat}, i < leastN P n → ¬ P i
  | 0, i, h => by unfold leastN at h; omega
  | n + 1, i, h => by
    have ih := @leastN_on P n i
    have hl := leastN_le P n
    unfold leastN at h
    split at h
    · exact ih h
    · rename_i g
      split at h
      · exact ih (by omega)
      · rename_i g2
        by_cases e : i = n
        · rw [e]; exact g2
        · exact ih (by omega)
theorem leastN_off {P : Nat → Prop} : ∀ {n : Nat}, leastN P n < n → P (leastN P n)
  | 0, h => by omega
  | n + 1, h => by
    have ih := @leastN_off P n
    unfold leastN at h ⊢
    split
    · rename_i g; exact ih g
    · rename_i g
      rw [if_neg g] at h
      split
      · assumption
      · rename_i g2; rw [if_neg g2] at h; omega
theorem leastN_congr {P Q : Nat → Prop} : ∀ {n : Nat}, (∀ i, i < n → (P i ↔ Q i)) → leastN P n = leastN Q n
  | 0, _ => rfl
  | n + 1, h => by
    have ih := leastN_congr (P := P) (Q := Q) (n := n) (fun i hi => h i (by omega))
    unfold leastN
    rw [ih]
    have hn := h n (by omega)
    by_cases g : leastN Q n < n
    · rw [if_pos g, if_pos g]
    · rw [if_neg g, if_neg g]
      by_cases g2 : P n
      · rw [if_pos g2, if_pos (hn.mp g2)]
      · rw [if_neg g2, if_neg (fun q => g2 (hn.mpr q))]
/-! longs that are naturals -/
theorem lit_lN (n : Nat) : (OfNat.ofNat n : Int64) = lN n := rfl
theorem ab_lN {x : Int64} (h : -9223372036854775808 < x.toInt) : (if 0 ≤ x then x else -x) = lN x.toInt.natAbs := by
  have hr := fb_rngL x
  have h0 : (0 : Int64).toInt = 0 := rfl
  split
  · rename_i g
    rw [Int64.le_iff_toInt_le, h0] at g
    rw [← Int64.toInt_inj, pk_lT (by omega)]
    omega
  · rename_i g
    rw [Int64.le_iff_toInt_le, h0] at g
    rw [← Int64.toInt_inj, pk_lT (by omega), Int64.toInt_neg, fb_bmodL (by omega) (by omega)]
    omega
