/-! curve, the readers to their ends -/
def cuH (tx : Nat → Nat) (Z : Nat) (s0 t0 : MSto) (i : Nat) : Prop := ∃ s p ys vs, f_Cu_readPoints_4 (0, 1, s0) i = (nI i, 1, s) ∧ rR tx Z 60 p s (f_M_curve_13 0 t0 i) ∧ 4 * i ≤ p ∧ cuP s (f_M_curve_13 0 t0 i) i ys vs
theorem cuH_15 {tx : Nat → Nat} {Z : Nat} {s0 t0 : MSto} {i : Nat} (h : cuH tx Z s0 t0 i) : i ≤ 15 := by
  obtain ⟨s, p, ys, vs, -, r, h4, -⟩ := h
  have := r.2.2.1
  omega
def cuS (tx : Nat → Nat) (Z : Nat) (s0 t0 : MSto) (N : Nat) (s' t3 : MSto) : Prop := q_M_curve_13s (nI N) (f_M_curve_13 0 t0 N) = 1 ∧ t3 = cuM N (cuL N (f_M_curve_13 0 t0 N)) (f_M_curve_13 0 t0 N) ∧ (p_M_number (cuL N (f_M_curve_13 0 t0 N)) 199 (f_M_curve_13 0 t0 N) ∧ p_M_need 58 (sI (e_M_number (cuL N (f_M_curve_13 0 t0 N)) 199 (f_M_curve_13 0 t0 N)) 79 0 N (v_M_number (cuL N (f_M_curve_13 0 t0 N)) 199 (f_M_curve_13 0 t0 N))) ∧ p_M_number 0 999 (e_M_need 58 (sI (e_M_number (cuL N (f_M_curve_13 0 t0 N)) 199 (f_M_curve_13 0 t0 N)) 79 0 N (v_M_number (cuL N (f_M_curve_13 0 t0 N)) 199 (f_M_curve_13 0 t0 N))))) ∧ (v_M_passes 59 t3 = 0 ∧ e_M_passes 59 t3 = t3 ∧ p_M_passes 59 t3) ∧ f_Cu_readPoints_4 (0, 1, s0) (N + 1) = (nI (N + 1), 0, s') ∧ ((∃ p' ys' vs', rR tx Z 60 p' s' t3 ∧ cuP s' t3 (N + 1) ys' vs') ∨ ∃ w, cW tx Z (min Z 60) w s' ∧ mW' tx Z 60 w t3)
theorem cu_run {tx : Nat → Nat} {Z : Nat} {s0 t0 : MSto} (h0 : rR tx Z 60 0 s0 t0) : ∃ N s' t3, N ≤ 15 ∧ (∀ i, i < N → ¬ q_M_curve_13s (nI i) (f_M_curve_13 0 t0 i) = 1) ∧ (∀ i, i ≤ N → g_M_curve_13 (nI i) (f_M_curve_13 0 t0 i) ∧ g_Cu_readPoints_4 (f_Cu_readPoints_4 (0, 1, s0) i) ∧ ¬ q_Cu_readPoints_4s (f_Cu_readPoints_4 (0, 1, s0) i) = 1) ∧ cuS tx Z s0 t0 N s' t3 := by
  have H0 : cuH tx Z s0 t0 0 := ⟨s0, 0, fun _ => 0, fun _ => 0, rfl, h0, by omega, fun j hj => absurd hj (by omega), fun j hj => absurd hj (by omega)⟩
  have step : ∀ i, cuH tx Z s0 t0 i → (g_M_curve_13 (nI i) (f_M_curve_13 0 t0 i) ∧ g_Cu_readPoints_4 (f_Cu_readPoints_4 (0, 1, s0) i) ∧ ¬ q_Cu_readPoints_4s (f_Cu_readPoints_4 (0, 1, s0) i) = 1) ∧ ((¬ q_M_curve_13s (nI i) (f_M_curve_13 0 t0 i) = 1 ∧ cuH tx Z s0 t0 (i + 1)) ∨ ∃ s' t3, cuS tx Z s0 t0 i s' t3) := by
    intro i hH
    have h15 := cuH_15 hH
    obtain ⟨s, p, ys, vs, e, r, h4, hP⟩ := hH
    obtain ⟨a1, a2, a3, o⟩ := cu_turn (by omega) r hP
    rw [e]
    refine ⟨⟨a2, a1, a3⟩, ?_⟩
    have eC : f_Cu_readPoints_4 (0, 1, s0) (i + 1) = t_Cu_readPoints_4 (f_Cu_readPoints_4 (0, 1, s0) i) := rfl
    have eM : f_M_curve_13 0 t0 (i + 1) = t_M_curve_13 (0 + nI i) (f_M_curve_13 0 t0 i) := rfl
    rw [z_nI] at eM
    rw [e] at eC
    rcases o with ⟨s', p', ys', vs', b1, b2, b3, b4, b5⟩ | ⟨b1, b2, b3, s', b4, b5⟩
    · left
      refine ⟨b2, s', p', ys', vs', by rw [eC, b1], ?_, by omega, ?_⟩
      · rw [eM]; exact b4
      · rw [eM]; exact b5
    · right
      exact ⟨s', _, b1, rfl, b2, b3, by rw [eC, b4], b5⟩
  have main : ∀ k, (∃ N s' t3, N < k ∧ (∀ i, i < N → ¬ q_M_curve_13s (nI i) (f_M_curve_13 0 t0 i) = 1) ∧ (∀ i, i ≤ N → cuH tx Z s0 t0 i) ∧ cuS tx Z s0 t0 N s' t3) ∨ ((∀ i, i < k → ¬ q_M_curve_13s (nI i) (f_M_curve_13 0 t0 i) = 1) ∧ ∀ i, i ≤ k → cuH tx Z s0 t0 i) := by
    intro k
    induction k with
    | zero => exact Or.inr ⟨fun i hi => absurd hi (by omega), fun i hi => by rw [show i = 0 by omega]; exact H0⟩
    | succ k ih =>
      rcases ih with ⟨N, s', t3, a, b, c, d⟩ | ⟨b, c⟩
      · exact Or.inl ⟨N, s', t3, by omega, b, c, d⟩
      · obtain ⟨-, o⟩ := step k (c k (Nat.le_refl _))
        rcases o with ⟨o1, o2⟩ | ⟨s', t3, o⟩
        · refine Or.inr ⟨fun i hi => ?_, fun i hi => ?_⟩
          · by_cases e : i = k
            · rw [e]; exact o1
            · exact b i (by omega)
          · by_cases e : i = k + 1
            · rw [e]; exact o2
            · exact c i (by omega)
        · exact Or.inl ⟨k, s', t3, by omega, b, c, o⟩
  rcases main 17 with ⟨N, s', t3, a, b, c, d⟩ | ⟨-, c⟩
  · exact ⟨N, s', t3, cuH_15 (c N (Nat.le_refl _)), b, fun i hi => (step i (c i hi)).1, d⟩
  · exact absurd (cuH_15 (c 16 (by omega))) (by omega)
/-- the class's readPoints, from a right start -/
theorem cu_C {tx : Nat → Nat} {Z : Nat} {s0 t0 : MSto} {N : Nat} {s' t3 : MSto} (hN : N ≤ 15) (hg : ∀ i, i ≤ N → g_Cu_readPoints_4 (f_Cu_readPoints_4 (0, 1, s0) i) ∧ ¬ q_Cu_readPoints_4s (f_Cu_readPoints_4 (0, 1, s0) i) = 1) (hS : cuS tx Z s0 t0 N s' t3) : v_Cu_readPoints s0 = nI (N + 1) ∧ e_Cu_readPoints s0 = s' ∧ p_Cu_readPoints s0 := by
  obtain ⟨-, -, -, -, e, -⟩ := hS
  have st : q_Cu_readPoints_4s (f_Cu_readPoints_4 (0, 1, s0) (N + 1)) = 1 := by
    rw [e]
    unfold q_Cu_readPoints_4s
    exact if_pos rfl
  have nn : n_Cu_readPoints_4 (0, 1, s0) = N + 1 := leastN_eq (P := fun i => q_Cu_readPoints_4s (f_Cu_readPoints_4 (0, 1, s0) i) = 1) (fun i hi => (hg i (by omega)).2) st (by omega)
  unfold v_Cu_readPoints e_Cu_readPoints p_Cu_readPoints
  rw [nn, e]
  exact ⟨rfl, rfl, fun i hi => hg i (by omega), fun c => absurd rfl c⟩
/-- the end of the text -/
theorem cu_fin {tx : Nat → Nat} {Z E p : Nat} {s t : MSto} (h : rR tx Z E p s t) : (Z ≤ p ∧ e_Te_finish (nI E) s = s ∧ gI t 13 0 53 ≤ gI t 13 0 55) ∨ (p < Z ∧ e_Te_finish (nI E) s = sI s 10 0 4 (nI p) ∧ ¬ gI t 13 0 53 ≤ gI t 13 0 55) := by
  obtain ⟨⟨c1, c2, c3, c4, c5⟩, ⟨m1, m2, m3, m4, m5⟩, hp, h4, h56, hs, ht⟩ := h
  rw [m1, ht]
  unfold e_Te_finish
  rw [c2, hs]
  have f1 : ∀ x, e_Te_failAt x s = sI s 10 0 4 x := fun x => if_pos h4
  by_cases g : Z ≤ p
  · left
    rw [if_pos (nI_le (by omega) (by omega)), c1, if_pos (nI_le (by omega) (by omega))]
    exact ⟨g, rfl, nI_le g (by omega)⟩
  · right
    refine ⟨by omega, ?_, nI_ge (by omega) (by omega)⟩
    by_cases g2 : min Z E ≤ p
    · rw [if_pos (nI_le g2 (by omega)), c1, if_neg (nI_ge (by omega) (by omega)), f1]
      congr 2; omega
    · rw [if_neg (nI_ge (by omega) (by omega)), f1]
      have e2 : ∀ x, e_Te_failAt x (sI s 10 0 4 (nI p)) = sI s 10 0 4 (nI p) := fun x => by
        unfold e_Te_failAt
        rw [if_neg]
        rw [gI_sI, if_pos ⟨rfl, rfl, rfl⟩]
        exact nI_n1 (by omega)
      rw [e2]
      split <;> rfl
theorem cW_fin {tx : Nat → Nat} {Z B w : Nat} {s : MSto} (h : cW tx Z B w s) (a : Int32) : e_Te_finish a s = s := by
  unfold e_Te_finish
  rw [cW_fail h, cW_fail h]
  (repeat' split) <;> first | rfl | exact cW_fail h a

