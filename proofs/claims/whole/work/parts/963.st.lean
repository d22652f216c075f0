/-! story: a term -/
theorem sg_99 : ∀ v, v < 100 → (1 : Int32) * nI v = nI v ∧ (-1 : Int32) * nI v = -(nI v) ∧ rg (nI v) (-99) 99 ∧ rg (-(nI v)) (-99) 99 := by
  have h : ∀ v, v < 100 → (1 : Int32) * nI v = nI v ∧ (-1 : Int32) * nI v = -(nI v) ∧ ((-99 : Int32) ≤ nI v ∧ nI v ≤ 99) ∧ ((-99 : Int32) ≤ -(nI v) ∧ -(nI v) ≤ 99) := by decide +kernel
  exact h
theorem R_signed {tx : Nat → Nat} {Z E p : Nat} {s t : MSto} (h : rR tx Z E p s t) : p_Te_signedNumber 99 s ∧ p_M_signed 99 t ∧ ((∃ x p', p < p' ∧ v_Te_signedNumber 99 s = x ∧ v_M_signed 99 t = x ∧ rg x (-99) 99 ∧ rR tx Z E p' (e_Te_signedNumber 99 s) (e_M_signed 99 t)) ∨ ∃ w, cW tx Z (min Z E) w (e_Te_signedNumber 99 s) ∧ mW' tx Z E w (e_M_signed 99 t)) := by
  obtain ⟨s1, s2, q⟩ := R_skip h (c := 45) (by decide)
  have s1 : p_Te_skip 45 s := s1
  have s2 : p_M_passes 45 t := s2
  unfold p_Te_signedNumber p_M_signed v_Te_signedNumber v_M_signed e_Te_signedNumber e_M_signed
  have go : ∀ (p0 : Nat), p ≤ p0 → rR tx Z E p0 (e_Te_skip 45 s) (e_M_passes 45 t) → p_Te_number 99 (e_Te_skip 45 s) ∧ p_M_number 0 99 (e_M_passes 45 t) ∧ ((∃ v p', v < 100 ∧ p < p' ∧ v_Te_number 99 (e_Te_skip 45 s) = nI v ∧ v_M_number 0 99 (e_M_passes 45 t) = nI v ∧ rR tx Z E p' (e_Te_number 99 (e_Te_skip 45 s)) (e_M_number 0 99 (e_M_passes 45 t))) ∨ ∃ w, cW tx Z (min Z E) w (e_Te_number 99 (e_Te_skip 45 s)) ∧ mW' tx Z E w (e_M_number 0 99 (e_M_passes 45 t))) := by
    intro p0 hp r
    obtain ⟨n1, n2, o⟩ := R_num r (low := 0) (high := 99) (by decide) (by decide)
    refine ⟨n1, n2, ?_⟩
    rcases o with ⟨v, k, hk, -, hv, e1, e2, r2⟩ | ⟨v, w, hv, e1, w1, w2⟩
    · exact Or.inl ⟨v, p0 + k, by omega, by omega, e1, e2, r2⟩
    · rw [if_neg (by omega)] at w1
      exact Or.inr ⟨w, w1, w2⟩
  rcases q with ⟨a, b, r⟩ | ⟨a, b, e1, e2⟩
  · have a : v_Te_skip 45 s = 1 := a
    have b : v_M_passes 45 t = 1 := b
    obtain ⟨n1, n2, o⟩ := go (p + 1) (by omega) r
    rw [a, b, if_neg (by decide), if_neg (by decide)]
    refine ⟨⟨s1, fun _ => n1, fun _ => n1⟩, ⟨s2, n2⟩, ?_⟩
    rcases o with ⟨v, p', hv, hp, e1, e2, r2⟩ | o
    · obtain ⟨-, g2, -, g4⟩ := sg_99 v hv
      exact Or.inl ⟨-(nI v), p', hp, by rw [e1, g2], by rw [e2], g4, r2⟩
    · exact Or.inr o
  · have a : v_Te_skip 45 s = 0 := a
    have b : v_M_passes 45 t = 0 := b
    have e1 : e_Te_skip 45 s = s := e1
    have e2 : e_M_passes 45 t = t := e2
    obtain ⟨n1, n2, o⟩ := go p (Nat.le_refl _) (by rw [e1, e2]; exact h)
    rw [a, b, if_pos rfl, if_pos rfl]
    refine ⟨⟨s1, fun _ => n1, fun _ => n1⟩, ⟨s2, n2⟩, ?_⟩
    rcases o with ⟨v, p', hv, hp, e1, e2, r2⟩ | o
    · obtain ⟨g1, -, g3, -⟩ := sg_99 v hv
      exact Or.inl ⟨nI v, p', hp, by rw [e1, g1], e2, g3, r2⟩
    · exact Or.inr o
/-- the new story's cells, both ways, but its terms -/
def stG (q S k : Nat) (s t : MSto) : Prop := gI s 9 q 1 = 1 ∧ (¬ k &&& 1 = 0 → gI s 9 q 2 = gI t 52 0 S ∧ rg (gI t 52 0 S) 0 199) ∧ (¬ k &&& 2 = 0 → (gI s 9 q 3 = gI t 53 0 S ∧ gI s 9 q 4 = gI t 54 0 S) ∧ rg (gI t 53 0 S) 0 199 ∧ rg (gI t 54 0 S) 0 90) ∧ (¬ k &&& 4 = 0 → gI s 9 q 5 = gI t 55 0 S ∧ rg (gI t 55 0 S) 0 199) ∧ (gI s 9 q 6 = gI t 56 0 S ∧ rg (gI t 56 0 S) (-99) 99) ∧ (¬ k &&& 16 = 0 → gI s 9 q 7 = gI t 57 0 S ∧ gI s 9 q 8 = gI t 58 0 S) ∧ (k &&& 16 = 0 → gI t 57 0 S = -1) ∧ rg (gI t 57 0 S) (-1) 5 ∧ rg (gI t 58 0 S) (-99) 99
theorem stG_w {q S k : Nat} {s t s' t' : MSto} {W V : List Nat} (h : stG q S k s t) (hs : agO W s s') (ht : agO V t t') (hW : nW W [9000, 9002, 9003, 9004, 9005, 9006, 9007, 9008, 9009] = true) (hV : nW V [52000, 53000, 54000, 55000, 56000, 57000, 58000] = true) : stG q S k s' t' := by
  have c : ∀ f, W.contains (1000 * 9 + 1 + f) = false → gI s' 9 q f = gI s 9 q f := fun f hf => hs.i (inW_fld (nW_no hW (by decide)) hf)
  have m : ∀ a, V.contains (1000 * a) = false → Nat.ble a 13 = false → gI t' a 0 S = gI t a 0 S := fun a ha hA => ht.i (inW_arr hA ha)
  unfold stG at h ⊢
  rw [c 1 (nW_no hW (by decide)), c 2 (nW_no hW (by decide)), c 3 (nW_no hW (by decide)), c 4 (nW_no hW (by decide)), c 5 (nW_no hW (by decide)), c 6 (nW_no hW (by decide)), c 7 (nW_no hW (by decide)), c 8 (nW_no hW (by decide)), m 52 (nW_no hV (by decide)) rfl, m 53 (nW_no hV (by decide)) rfl, m 54 (nW_no hV (by decide)) rfl, m 55 (nW_no hV (by decide)) rfl, m 56 (nW_no hV (by decide)) rfl, m 57 (nW_no hV (by decide)) rfl, m 58 (nW_no hV (by decide)) rfl]
  exact h

