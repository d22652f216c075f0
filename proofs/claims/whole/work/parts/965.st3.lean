/-! story: a turn -/

noncomputable def mval (x : Int32) : Int32 := if x = 119 then 1 else if x = 115 then 2 else if x = 109 then 4 else if x = 100 then 8 else if x = 104 then 16 else 0
theorem mchain {α : Type} (F : Int32 → α) (x : Int32) : (if x = 119 then F 1 else if x = 115 then F 2 else if x = 109 then F 4 else if x = 100 then F 8 else if x = 104 then F 16 else F 0) = F (mval x) := by
  unfold mval
  by_cases c1 : x = 119
  · rw [if_pos c1, if_pos c1]
  · rw [if_neg c1, if_neg c1]
    by_cases c2 : x = 115
    · rw [if_pos c2, if_pos c2]
    · rw [if_neg c2, if_neg c2]
      by_cases c3 : x = 109
      · rw [if_pos c3, if_pos c3]
      · rw [if_neg c3, if_neg c3]
        by_cases c4 : x = 100
        · rw [if_pos c4, if_pos c4]
        · rw [if_neg c4, if_neg c4]
          by_cases c5 : x = 104
          · rw [if_pos c5, if_pos c5]
          · rw [if_neg c5, if_neg c5]
theorem gchain {G : Int32 → Prop} {x : Int32} (h : G (mval x)) : (x = 119 → G 1) ∧ (¬ x = 119 → (x = 115 → G 2) ∧ (¬ x = 115 → (x = 109 → G 4) ∧ (¬ x = 109 → (x = 100 → G 8) ∧ (¬ x = 100 → (x = 104 → G 16) ∧ (¬ x = 104 → G 0))))) := by
  unfold mval at h
  refine ⟨fun c => by rw [if_pos c] at h; exact h, fun c1 => ?_⟩
  rw [if_neg c1] at h
  refine ⟨fun c => by rw [if_pos c] at h; exact h, fun c2 => ?_⟩
  rw [if_neg c2] at h
  refine ⟨fun c => by rw [if_pos c] at h; exact h, fun c3 => ?_⟩
  rw [if_neg c3] at h
  refine ⟨fun c => by rw [if_pos c] at h; exact h, fun c4 => ?_⟩
  rw [if_neg c4] at h
  exact ⟨fun c => by rw [if_pos c] at h; exact h, fun c5 => by rw [if_neg c5] at h; exact h⟩
def ltv (x : Nat) : Nat := if x = 100 then 8 else if x = 104 then 16 else if x = 109 then 4 else if x = 115 then 2 else if x = 119 then 1 else 0
def ltr (tx : Nat → Nat) (B p : Nat) : Nat := if p < B then ltv (tx p) else 0
theorem rd_ltr : ∀ x, x < 256 → (if nI x = 100 then (8 : Int32) else if nI x = 104 then 16 else if nI x = 109 then 4 else if nI x = 115 then 2 else if nI x = 119 then 1 else 0) = nI (ltv x) ∧ (if (nI x).toInt8.toInt32 = 119 then (1 : Int32) else if (nI x).toInt8.toInt32 = 115 then 2 else if (nI x).toInt8.toInt32 = 109 then 4 else if (nI x).toInt8.toInt32 = 100 then 8 else if (nI x).toInt8.toInt32 = 104 then 16 else 0) = nI (ltv x) ∧ (ltv x = 0 ∨ ltv x = 1 ∨ ltv x = 2 ∨ ltv x = 4 ∨ ltv x = 8 ∨ ltv x = 16) := by decide +kernel
theorem ltrC {tx : Nat → Nat} {Z B : Nat} {s : MSto} (h : rC tx Z B s) {p : Nat} (hp : p ≤ 80) (ha : gI s 10 0 2 = nI p) : v_St_termOf (v_Te_here s) s = nI (ltr tx B p) ∧ p_Te_here s := by
  obtain ⟨a, b⟩ := hereC h hp ha
  refine ⟨?_, b⟩
  rw [a]
  unfold v_St_termOf ltr
  by_cases g : p < B
  · rw [if_pos g, if_pos g]
    exact (rd_ltr _ (h.2.2.2.2 p (by have := h.2.2.1; omega)).2).1
  · rw [if_neg g, if_neg g]; decide
theorem ltrM {tx : Nat → Nat} {Z E : Nat} {t : MSto} (h : rM tx Z E t) {p : Nat} (hp : p ≤ 90) (ha : gI t 13 0 55 = nI p) : mval (v_M_here t) = nI (ltr tx (min Z E) p) ∧ p_M_here t := by
  obtain ⟨a, b⟩ := hereM h hp ha
  refine ⟨?_, b⟩
  rw [a]
  unfold mval ltr
  by_cases g : p < min Z E
  · rw [if_pos g, if_pos g]
    exact (rd_ltr _ (h.2.2.2.2 p (by omega)).2).2.1
  · rw [if_neg g, if_neg g]; decide
theorem ltr_v {tx : Nat → Nat} {Z E : Nat} {t : MSto} (h : rM tx Z E t) (p : Nat) : ltr tx (min Z E) p = 0 ∨ (p < min Z E ∧ (ltr tx (min Z E) p = 1 ∨ ltr tx (min Z E) p = 2 ∨ ltr tx (min Z E) p = 4 ∨ ltr tx (min Z E) p = 8 ∨ ltr tx (min Z E) p = 16)) := by
  unfold ltr
  by_cases g : p < min Z E
  · rw [if_pos g]
    rcases (rd_ltr _ (h.2.2.2.2 p (by omega)).2).2.2 with q | q
    · exact Or.inl q
    · exact Or.inr ⟨g, q⟩
  · rw [if_neg g]; exact Or.inl rfl
def pc5 (k : Nat) : Nat := k % 2 + k / 2 % 2 + k / 4 % 2 + k / 8 % 2 + k / 16 % 2
theorem pc5_b1 : ∀ k, k < 32 → k &&& 1 = 0 → k ||| 1 < 32 ∧ pc5 (k ||| 1) = pc5 k + 1 := by decide +kernel
theorem pc5_b2 : ∀ k, k < 32 → k &&& 2 = 0 → k ||| 2 < 32 ∧ pc5 (k ||| 2) = pc5 k + 1 := by decide +kernel
theorem pc5_b4 : ∀ k, k < 32 → k &&& 4 = 0 → k ||| 4 < 32 ∧ pc5 (k ||| 4) = pc5 k + 1 := by decide +kernel
theorem pc5_b8 : ∀ k, k < 32 → k &&& 8 = 0 → k ||| 8 < 32 ∧ pc5 (k ||| 8) = pc5 k + 1 := by decide +kernel
theorem pc5_b16 : ∀ k, k < 32 → k &&& 16 = 0 → k ||| 16 < 32 ∧ pc5 (k ||| 16) = pc5 k + 1 := by decide +kernel
theorem pc5_1 (k : Nat) (hk : k < 32) (b : Nat) (_ : b < 17) (hb : b = 1 ∨ b = 2 ∨ b = 4 ∨ b = 8 ∨ b = 16) (h : k &&& b = 0) : k ||| b < 32 ∧ pc5 (k ||| b) = pc5 k + 1 := by
  rcases hb with rfl | rfl | rfl | rfl | rfl
  · exact pc5_b1 k hk h
  · exact pc5_b2 k hk h
  · exact pc5_b4 k hk h
  · exact pc5_b8 k hk h
  · exact pc5_b16 k hk h
theorem pc5_le : ∀ k, k < 32 → pc5 k ≤ 5 := by decide +kernel
/-- a term, whichever letter -/
theorem st_any {tx : Nat → Nat} {Z E p q S k b : Nat} {s t : MSto} (hS : S < 6) (hk : k < 32) (hb : b = 1 ∨ b = 2 ∨ b = 4 ∨ b = 8 ∨ b = 16) (hR : rR tx Z E p s t) (hG : stG q S k s t) : (gj_St_readTerm_j49 q (nI b) s ∧ p_M_term (nI S) (nI b) t) ∧ ((∃ p', p < p' ∧ rR tx Z E p' (ej_St_readTerm_j49 q (nI b) s) (e_M_term (nI S) (nI b) t) ∧ stG q S (k ||| b) (ej_St_readTerm_j49 q (nI b) s) (e_M_term (nI S) (nI b) t)) ∨ ∃ w, cW tx Z (min Z E) w (ej_St_readTerm_j49 q (nI b) s) ∧ mW' tx Z E w (e_M_term (nI S) (nI b) t)) := by
  rcases hb with rfl | rfl | rfl | rfl | rfl
  · exact st_t1 hS hk hR hG
  · exact st_t2 hS hk hR hG
  · exact st_t4 hS hk hR hG
  · exact st_t8 hS hk hR hG
  · exact st_t16 hS hk hR hG

