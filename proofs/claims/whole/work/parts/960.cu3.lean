/-! curve, its values -/
theorem ip_int {a b d D : Nat} (ha : a < 1000) (hb : b < 1000) (hd : d ≤ D) (h0 : 0 < D) (hD : D < 200) : (nI a + ((nI b - nI a) * nI d) / nI D).toInt = (a : Int) + (((b : Int) - a) * d).tdiv D ∧ 0 ≤ (a : Int) + (((b : Int) - a) * d).tdiv D ∧ (a : Int) + (((b : Int) - a) * d).tdiv D ≤ 999 := by
  have hm : (((b : Int) - a) * (d : Int)).natAbs ≤ 999 * 199 := by
    rw [Int.natAbs_mul]
    exact Nat.mul_le_mul (by omega) (by omega)
  have q : 0 ≤ (a : Int) + (((b : Int) - a) * d).tdiv D ∧ (a : Int) + (((b : Int) - a) * d).tdiv D ≤ 999 := by
    have hD' : (0 : Int) < D := by omega
    have full : (((b : Int) - a) * D).tdiv D = b - a := Int.mul_tdiv_cancel _ (by omega)
    have zero : (0 : Int).tdiv D = 0 := Int.zero_tdiv _
    by_cases g : a ≤ b
    · have l1 : (0 : Int) ≤ ((b : Int) - a) * d := Int.mul_nonneg (by omega) (by omega)
      have l2 : ((b : Int) - a) * d ≤ ((b : Int) - a) * D := Int.mul_le_mul_of_nonneg_left (by omega) (by omega)
      have t1 := Int.tdiv_le_tdiv hD' l1
      have t2 := Int.tdiv_le_tdiv hD' l2
      rw [zero] at t1
      rw [full] at t2
      omega
    · have l1 : ((b : Int) - a) * d ≤ 0 := Int.mul_nonpos_of_nonpos_of_nonneg (by omega) (by omega)
      have l2 : ((b : Int) - a) * D ≤ ((b : Int) - a) * d := Int.mul_le_mul_of_nonpos_left (by omega) (by omega)
      have t1 := Int.tdiv_le_tdiv hD' l1
      have t2 := Int.tdiv_le_tdiv hD' l2
      rw [zero] at t1
      rw [full] at t2
      omega
  refine ⟨?_, q⟩
  have e1 : (nI b - nI a).toInt = (b : Int) - a := pk_sub_toInt (by omega) (by omega)
  have e2 : (nI d).toInt = (d : Int) := nI_toInt (by omega)
  have e3 : (nI D).toInt = (D : Int) := nI_toInt (by omega)
  have e4 : (nI a).toInt = (a : Int) := nI_toInt (by omega)
  have e5 : ((nI b - nI a) * nI d).toInt = ((b : Int) - a) * d := by
    rw [fb_mulI (by rw [e1, e2]; omega) (by rw [e1, e2]; omega), e1, e2]
  have e6 : (((nI b - nI a) * nI d) / nI D).toInt = (((b : Int) - a) * d).tdiv D := by
    rw [Int32.toInt_div_of_ne_right _ _ (nI_n1 (by omega)), e5, e3]
  rw [fb_addI (by rw [e4, e6]; omega) (by rw [e4, e6]; omega), e4, e6]
theorem ip_rg {a b d D : Nat} (ha : a < 1000) (hb : b < 1000) (hd : d ≤ D) (h0 : 0 < D) (hD : D < 200) : rg (nI a + ((nI b - nI a) * nI d) / nI D) 0 999 := by
  obtain ⟨e, h1, h2⟩ := ip_int ha hb hd h0 hD
  unfold rg
  rw [leI_iff, leI_iff, e]
  exact ⟨h1, h2⟩
theorem ip_end {a b D : Nat} (ha : a < 1000) (hb : b < 1000) (h0 : 0 < D) (hD : D < 200) : nI a + ((nI b - nI a) * nI D) / nI D = nI b := by
  obtain ⟨e, -, -⟩ := ip_int ha hb (Nat.le_refl D) h0 hD
  rw [Int.mul_tdiv_cancel _ (by omega)] at e
  apply Int32.toInt_inj.mp
  rw [e, nI_toInt (by omega)]
  omega
/-- the value at a year, k points before it -/
noncomputable def cv (ys vs : Nat → Nat) (n y k : Nat) : Int32 := if k = 0 then nI (vs 0) else if n ≤ k then nI (vs (k - 1)) else nI (vs (k - 1)) + ((nI (vs k) - nI (vs (k - 1))) * (nI y - nI (ys (k - 1)))) / (nI (ys k) - nI (ys (k - 1)))
def k1 (ys : Nat → Nat) (n y : Nat) : Nat := fa_first (fun j => decide (y ≤ ys j)) n
def k2 (ys : Nat → Nat) (n y : Nat) : Nat := fa_first (fun j => decide (y < ys j)) n
theorem cv_rg {ys vs : Nat → Nat} {n y k : Nat} (h : ∀ j, j < n → ys j < 200 ∧ vs j < 1000) (hm : ∀ j, j + 1 < n → ys j < ys (j + 1)) (hn : 0 < n) (hk : k ≤ n) (h1 : k = 0 ∨ ys (k - 1) ≤ y) (h2 : k < n → y ≤ ys k) : rg (cv ys vs n y k) 0 999 := by
  unfold cv
  have r : ∀ j, j < n → rg (nI (vs j)) 0 999 := fun j hj => rgN (b := 999) (by have := (h j hj).2; omega) (by decide)
  by_cases e : k = 0
  · rw [if_pos e]; exact r 0 hn
  · rw [if_neg e]
    by_cases g : n ≤ k
    · rw [if_pos g]; exact r _ (by omega)
    · have a1 := h (k - 1) (by omega)
      have a2 := h k (by omega)
      have a3 := hm (k - 1) (by omega)
      rw [show k - 1 + 1 = k by omega] at a3
      have a4 := h2 (by omega)
      have a5 : ys (k - 1) ≤ y := by rcases h1 with q | q <;> omega
      rw [if_neg g, pk_sub a5, pk_sub (show ys (k - 1) ≤ ys k by omega)]
      exact ip_rg (by omega) (by omega) (by omega) (by omega) (by omega)
theorem k1_facts {ys : Nat → Nat} {n y : Nat} : k1 ys n y ≤ n ∧ (∀ j, j < k1 ys n y → ys j < y) ∧ (k1 ys n y < n → y ≤ ys (k1 ys n y)) :=
  ⟨fa_first_le _ _, fun j hj => by have := of_decide_eq_false (fa_first_no (fun j => decide (y ≤ ys j)) n j hj); omega, fun h => of_decide_eq_true (fa_first_yes (fun j => decide (y ≤ ys j)) n h)⟩
theorem k2_facts {ys : Nat → Nat} {n y : Nat} : k2 ys n y ≤ n ∧ (∀ j, j < k2 ys n y → ys j ≤ y) ∧ (k2 ys n y < n → y < ys (k2 ys n y)) :=
  ⟨fa_first_le _ _, fun j hj => by have := of_decide_eq_false (fa_first_no (fun j => decide (y < ys j)) n j hj); omega, fun h => of_decide_eq_true (fa_first_yes (fun j => decide (y < ys j)) n h)⟩
theorem k12 {ys : Nat → Nat} {n y : Nat} (hm : ∀ j, j + 1 < n → ys j < ys (j + 1)) : (k1 ys n y < n ∧ ys (k1 ys n y) = y ∧ k2 ys n y = k1 ys n y + 1) ∨ k2 ys n y = k1 ys n y := by
  obtain ⟨a1, a2, a3⟩ := k1_facts (ys := ys) (n := n) (y := y)
  by_cases g : k1 ys n y < n ∧ ys (k1 ys n y) = y
  · left
    refine ⟨g.1, g.2, ?_⟩
    refine fa_first_eq (fun j hj => ?_) (fun hj => ?_) (by omega)
    · by_cases e : j = k1 ys n y
      · exact decide_eq_false (by rw [e, g.2]; omega)
      · exact decide_eq_false (by have := a2 j (by omega); omega)
    · have := hm (k1 ys n y) (by omega)
      exact decide_eq_true (by omega)
  · right
    refine fa_first_eq (fun j hj => ?_) (fun hj => ?_) a1
    · exact decide_eq_false (by have := a2 j hj; omega)
    · have := a3 hj
      exact decide_eq_true (by have : ¬ ys (k1 ys n y) = y := fun q => g ⟨hj, q⟩; omega)
theorem cv_12 {ys vs : Nat → Nat} {n y : Nat} (h : ∀ j, j < n → ys j < 200 ∧ vs j < 1000) (hm : ∀ j, j + 1 < n → ys j < ys (j + 1)) : cv ys vs n y (k1 ys n y) = cv ys vs n y (k2 ys n y) := by
  rcases k12 (n := n) (y := y) hm with ⟨g1, g2, g3⟩ | g
  · rw [g3]
    generalize k1 ys n y = k at g1 g2 g3
    have b := h k g1
    have right : cv ys vs n y (k + 1) = nI (vs k) := by
      unfold cv
      rw [if_neg (by omega), show k + 1 - 1 = k by omega]
      by_cases q : n ≤ k + 1
      · rw [if_pos q]
      · rw [if_neg q, g2, show nI y - nI y = 0 from Int32.sub_self _, Int32.mul_zero, Int32.zero_div, Int32.add_zero]
    rw [right]
    unfold cv
    by_cases e : k = 0
    · rw [if_pos e, e]
    · have a1 := h (k - 1) (by omega)
      have a3 := hm (k - 1) (by omega)
      rw [show k - 1 + 1 = k by omega] at a3
      rw [if_neg e, if_neg (by omega), ← g2, pk_sub (show ys (k - 1) ≤ ys k by omega)]
      exact ip_end (by omega) (by omega) (by omega) (by omega)
  · rw [g]

