/-! the pieces laid out; slope -/
theorem selM_s (bits : Int32) (τ : MSto) (n : Nat) : selM bits τ (n + 1) = if v_M_has bits (nI n) τ = 0 then selM bits τ n else selM bits τ n ++ [n] := rfl
theorem selM_len {τ : MSto} {k : Nat} : ∀ n, n ≤ 15 → (selM (nI k) τ n).length = fb_ct k.testBit n
  | 0, _ => rfl
  | n + 1, hn => by
    have ih := selM_len (τ := τ) (k := k) n (by omega)
    rw [selM_s, hasM (by omega), fb_ct_succ]
    by_cases g : k.testBit n = true
    · rw [if_neg (bn g), if_pos g, List.length_append, ih]; rfl
    · rw [if_pos (bz g), if_neg g, ih]; rfl
theorem selM_stop {τ : MSto} {k n : Nat} : ∀ m, n ≤ m → m ≤ 15 → (∀ p, n ≤ p → p < m → k.testBit p = false) → selM (nI k) τ m = selM (nI k) τ n
  | 0, h, _, _ => by
    have : n = 0 := by omega
    rw [this]
  | m + 1, h, hm, hp => by
    by_cases e : n = m + 1
    · rw [e]
    · rw [selM_s, hasM (by omega), if_pos (bz (by rw [hp m (by omega) (by omega)]; decide))]
      exact selM_stop m (by omega) (by omega) (fun p q1 q2 => hp p q1 (by omega))
theorem selM_mem {τ : MSto} {k : Nat} : ∀ n, n ≤ 15 → ∀ j, j < (selM (nI k) τ n).length → (selM (nI k) τ n).getD j 0 < n ∧ k.testBit ((selM (nI k) τ n).getD j 0) = true
  | 0, _, j, hj => absurd hj (by show ¬ j < 0; omega)
  | n + 1, hn, j, hj => by
    have ih := selM_mem (τ := τ) (k := k) n (by omega)
    rw [selM_s, hasM (by omega)] at hj ⊢
    by_cases g : k.testBit n = true
    · rw [if_neg (bn g)] at hj ⊢
      rw [getD_app]
      by_cases q : j < (selM (nI k) τ n).length
      · rw [if_pos q]
        exact ⟨by have := (ih j q).1; omega, (ih j q).2⟩
      · rw [List.length_append] at hj
        have e : j = (selM (nI k) τ n).length := by
          have : [n].length = 1 := rfl
          omega
        rw [if_neg q, if_pos e]
        exact ⟨by omega, g⟩
    · rw [if_pos (bz g)] at hj ⊢
      exact ⟨by have := (ih j hj).1; omega, (ih j hj).2⟩
def loR (σ τ : MSto) (k i : Nat) (x : Int32 × MSto) : Prop := i ≤ nM τ 10 ∧ x.1 = nI (selM (nI k) τ i).length ∧ agO [31000, 32000] σ x.2 ∧ ∀ j, j < (selM (nI k) τ i).length → gI x.2 31 0 j = w_M_px (selM (nI k) τ i) τ j ∧ gI x.2 32 0 j = w_M_pn (selM (nI k) τ i) τ j
theorem lo_step {σ τ : MSto} (h : Cpl σ τ) {k : Nat} (hs : ∀ j, k.testBit j = true → j < nM τ 10 ∧ bt (gI τ 13 0 15) j = true) {i : Nat} {x : Int32 × MSto} (hr : loR σ τ k i x) : (q_C_layOut_4s (nI k) (0 + nI i) x = 1 ↔ (if nM τ 10 ≤ i ∨ 6 ≤ fb_ct k.testBit i then (1 : Nat) else 0) = 1) ∧ (¬ q_C_layOut_4s (nI k) (0 + nI i) x = 1 → loR σ τ k (i + 1) (t_C_layOut_4 (nI k) (0 + nI i) x) ∧ g_C_layOut_4 (nI k) (0 + nI i) x) := by
  obtain ⟨v, s⟩ := x
  obtain ⟨hi, e1, w, hA⟩ := hr
  have hP := h.P12
  have hl := selM_len (τ := τ) (k := k) i (by omega)
  have hl15 := fb_ct_le k.testBit i
  have e1' : v = nI (selM (nI k) τ i).length := e1
  rw [hl] at e1'
  subst e1'
  have w : agO [31000, 32000] σ s := w
  have hc : Cpl s τ := h.mv w (agO_refl [] τ) rfl rfl
  have c6 : (6 : Int32) ≤ nI (fb_ct k.testBit i) ↔ 6 ≤ fb_ct k.testBit i := leN (a := 6) (by decide) (by omega)
  have cP : nI (nM τ 10) ≤ nI i ↔ nM τ 10 ≤ i := leN (by omega) (by omega)
  have qv : q_C_layOut_4s (nI k) (0 + nI i) (nI (fb_ct k.testBit i), s) = (if nM τ 10 ≤ i ∨ 6 ≤ fb_ct k.testBit i then (1 : Nat) else 0) := by
    unfold q_C_layOut_4s
    rw [z_nI, cp_pieceCount hc]
    by_cases q1 : nM τ 10 ≤ i
    · rw [if_pos (cP.mpr q1), if_pos (Or.inl q1)]
    · rw [if_neg (fun z => q1 (cP.mp z))]
      by_cases q2 : 6 ≤ fb_ct k.testBit i
      · rw [if_pos (c6.mpr q2), if_pos (Or.inr q2)]
      · rw [if_neg (fun z => q2 (c6.mp z)), if_neg (fun z => z.elim q1 q2)]
  rw [qv]
  refine ⟨Iff.rfl, fun nq => ?_⟩
  have q1 : ¬ nM τ 10 ≤ i := fun z => nq (by rw [if_pos (Or.inl z)])
  have q2 : ¬ 6 ≤ fb_ct k.testBit i := fun z => nq (by rw [if_pos (Or.inr z)])
  have hiP : i < nM τ 10 := by omega
  have vi : vp_in (nI (fb_ct k.testBit i)) 6 := nI_inb (by omega) (by decide)
  have hget := fun (u : MSto) (hu : Cpl u τ) => al_p hu.lP (by omega) hiP
  unfold t_C_layOut_4 g_C_layOut_4 tj_C_layOut_4j67
  rw [z_nI, cp_pieceCount hc, if_neg (fun z => q1 (cP.mp z)), if_neg (fun z => q2 (c6.mp z)), hasC (by omega), al_v (by omega), hc.eP hiP, nI_cl (by omega)]
  obtain ⟨s1, es1⟩ : ∃ s1, s1 = sI s 31 0 (fb_ct k.testBit i) (gI s 7 i 0) := ⟨_, rfl⟩
  rw [← es1]
  have w1 : agO [31000, 32000] σ s1 := by rw [es1]; exact agO_sI rfl w
  have hc1 : Cpl s1 τ := h.mv w1 (agO_refl [] τ) rfl rfl
  rw [al_v (by omega), hc1.eP hiP]
  by_cases g : k.testBit i = true
  · rw [if_neg (bn g)]
    refine ⟨⟨by omega, ?_, agO_sI rfl w1, fun j hj => ?_⟩, fun _ _ _ => ⟨hget s hc, vi, hget s1 hc1, house_vin hc1 hiP, vi⟩⟩
    · show nI (fb_ct k.testBit i) + 1 = _
      rw [nI_s, selM_len (i + 1) (by omega), fb_ct_succ, if_pos g]
    · rw [selM_s, hasM (by omega), if_neg (bn g)] at hj ⊢
      rw [List.length_append] at hj
      have hj' : j < fb_ct k.testBit i + 1 := by
        have : [i].length = 1 := rfl
        omega
      show gI (sI s1 32 0 (fb_ct k.testBit i) (v_C_cleanNumber i s1)) 31 0 j = _ ∧ gI (sI s1 32 0 (fb_ct k.testBit i) (v_C_cleanNumber i s1)) 32 0 j = _
      unfold w_M_px w_M_pn
      rw [getD_app, hl, gI_at, cp_clean hc1 hiP (hs i g).2]
      have e31 : gI (sI s1 32 0 (fb_ct k.testBit i) (v_M_cleared (nI i) τ)) 31 0 j = gI s1 31 0 j := rfl
      rw [e31, es1, gI_at]
      by_cases q : j < fb_ct k.testBit i
      · rw [if_pos q, if_neg (by omega), if_neg (by omega)]
        exact hA j (by rw [hl]; exact q)
      · have q' : j = fb_ct k.testBit i := by omega
        rw [if_neg q, if_pos q', if_pos q', if_pos q']
        exact ⟨(hc.p.2.2 i hiP).2.1, rfl⟩
  · rw [if_pos (bz g)]
    refine ⟨⟨by omega, ?_, w, fun j hj => ?_⟩, fun _ _ q => absurd (bz g) q⟩
    · show nI (fb_ct k.testBit i) = _
      rw [selM_len (i + 1) (by omega), fb_ct_succ, if_neg g]; rfl
    · rw [selM_s, hasM (by omega), if_pos (bz g)] at hj ⊢
      exact hA j hj
theorem layOut {σ τ : MSto} (h : Cpl σ τ) {k : Nat} (hs : ∀ j, k.testBit j = true → j < nM τ 10 ∧ bt (gI τ 13 0 15) j = true) (h6 : pop k ≤ 6) : ∃ L, L = selM (nI k) τ (nM τ 10) ∧ L.length = pop k ∧ v_C_layOut (nI k) σ = nI L.length ∧ p_C_layOut (nI k) σ ∧ ∀ j, j < L.length → gI (e_C_layOut (nI k) σ) 31 0 j = w_M_px L τ j ∧ gI (e_C_layOut (nI k) σ) 32 0 j = w_M_pn L τ j := by
  have hP := h.P12
  have hlP : (selM (nI k) τ (nM τ 10)).length = pop k := (selM_len _ (by omega)).trans (ct_pop hP (fun j q => (hs j q).1))
  obtain ⟨n, hn, r, q1, q2, qs, hl⟩ := loops2 (R := fun i x (_ : Unit) => loR σ τ k i x) (f := fun i x => t_C_layOut_4 (nI k) (0 + nI i) x) (g := fun _ y => y) (a := (0, σ)) (b := ()) (qf := fun i x => q_C_layOut_4s (nI k) (0 + nI i) x) (qg := fun i _ => if nM τ 10 ≤ i ∨ 6 ≤ fb_ct k.testBit i then (1 : Nat) else 0) (M := nM τ 10) ⟨Nat.zero_le _, rfl, agO_refl _ _, fun j hj => absurd hj (by show ¬ j < 0; omega)⟩ (fun i x y r => (lo_step h hs r).1) (fun i x y r nq => ((lo_step h hs r).2 nq).1) (fun x y r => (lo_step h hs r).1.mpr (by rw [if_pos (Or.inl (Nat.le_refl _))]))
  have nC : n_C_layOut_4 (nI k) 0 (0, σ) = n := (hl 13 (by omega)).1
  have hex : nM τ 10 ≤ n ∨ 6 ≤ fb_ct k.testBit n := by
    by_cases z : nM τ 10 ≤ n ∨ 6 ≤ fb_ct k.testBit n
    · exact z
    · have q2' : (if nM τ 10 ≤ n ∨ 6 ≤ fb_ct k.testBit n then (1 : Nat) else 0) = 1 := q2
      rw [if_neg z] at q2'; cases q2'
  have eL : selM (nI k) τ (nM τ 10) = selM (nI k) τ n := by
    refine selM_stop (nM τ 10) hn (by omega) (fun p p1 p2 => ?_)
    rcases hex with z | z
    · omega
    · cases c : k.testBit p with
      | false => rfl
      | true =>
        have a1 := fb_ct_mono k.testBit p1
        have a2 : fb_ct k.testBit (p + 1) = fb_ct k.testBit p + 1 := by rw [fb_ct_succ, if_pos c]
        have a3 := fb_ct_mono k.testBit (m := p + 1) (n := 15) (by omega)
        have a4 : pop k = fb_ct k.testBit 15 := rfl
        omega
  have r' : loR σ τ k n (f_C_layOut_4 (nI k) 0 (0, σ) n) := r
  refine ⟨_, rfl, hlP, ?_, ?_, ?_⟩
  · unfold v_C_layOut
    rw [nC, eL]
    exact r'.2.1
  · unfold p_C_layOut
    rw [nC]
    refine ⟨fun i hi => ⟨((lo_step h hs (qs i hi).1).2 (qs i hi).2.1).2, (qs i hi).2.1⟩, fun c1 c2 => ?_⟩
    have q1' : q_C_layOut_4s (nI k) (0 + nI n) (f_C_layOut_4 (nI k) 0 (0, σ) n) = 1 := q1
    unfold q_C_layOut_4s at q1'
    rw [if_neg c1, if_neg c2] at q1'
    cases q1'
  · unfold e_C_layOut
    rw [nC, eL]
    exact r'.2.2.2
/-- what is laid out, both ways -/
theorem layData {σ τ : MSto} (h : Cpl σ τ) {k : Nat} (hs : ∀ j, k.testBit j = true → j < nM τ 10 ∧ bt (gI τ 13 0 15) j = true) (h6 : pop k ≤ 6) : ∃ (a : Nat → Nat) (y : Nat → Int32), (∀ j, a j ≤ 23) ∧ (∀ j, -200 ≤ (y j).toInt ∧ (y j).toInt ≤ 2050) ∧ v_C_layOut (nI k) σ = nI (pop k) ∧ p_C_layOut (nI k) σ ∧ p_M_gather (nI k) τ ∧ (∀ j, j < pop k → gI (e_C_layOut (nI k) σ) 31 0 j = nI (a j) ∧ gI (e_C_layOut (nI k) σ) 32 0 j = y j) ∧ (∀ j, j < pop k → gI (e_M_gather (nI k) τ) 83 0 j = nI (a j) ∧ gI (e_M_gather (nI k) τ) 84 0 j = y j) ∧ gI (e_M_gather (nI k) τ) 13 0 66 = nI (pop k) := by
  obtain ⟨L, eL, hl, v1, p1, hA⟩ := layOut h hs h6
  have hP := h.P12
  have mem : ∀ j, j < pop k → L.getD j 0 < nM τ 10 := fun j hj => by
    rw [eL]
    exact (selM_mem (nM τ 10) (by omega) j (by rw [← eL, hl]; exact hj)).1
  have eg : e_M_gather (nI k) τ = g_M_gather L τ := by unfold e_M_gather; rw [← eL]
  refine ⟨fun j => if j < pop k then (w_M_px L τ j).toInt.natAbs else 0, fun j => if j < pop k then w_M_pn L τ j else 0, fun j => ?_, fun j => ?_, by rw [v1, hl], p1, ⟨h.m, by rw [← eL, hl]; exact h6⟩, fun j hj => ?_, fun j hj => ?_, ?_⟩
  · by_cases q : j < pop k
    · show (if j < pop k then _ else 0) ≤ 23
      rw [if_pos q]
      obtain ⟨m, em, hm⟩ := nat_rg (b := 23) (h.m.p _ (mem j q)).1 (by decide)
      unfold w_M_px
      rw [em, nI_toInt (by omega)]
      exact hm
    · show (if j < pop k then _ else 0) ≤ 23
      rw [if_neg q]; decide
  · by_cases q : j < pop k
    · show -200 ≤ (if j < pop k then _ else _ : Int32).toInt ∧ (if j < pop k then _ else _ : Int32).toInt ≤ 2050
      rw [if_pos q]
      exact clN_rg h.m (mem j q)
    · show -200 ≤ (if j < pop k then _ else _ : Int32).toInt ∧ (if j < pop k then _ else _ : Int32).toInt ≤ 2050
      rw [if_neg q]
      exact ⟨by decide, by decide⟩
  · obtain ⟨m, em, hm⟩ := nat_rg (b := 23) (h.m.p _ (mem j hj)).1 (by decide)
    obtain ⟨A1, A2⟩ := hA j (by omega)
    have ex : w_M_px L τ j = nI m := em
    rw [A1, A2]
    show _ = nI (if j < pop k then _ else 0) ∧ _ = (if j < pop k then _ else _)
    rw [if_pos hj, if_pos hj, ex, nI_toInt (by omega)]
    exact ⟨rfl, rfl⟩
  · obtain ⟨m, em, hm⟩ := nat_rg (b := 23) (h.m.p _ (mem j hj)).1 (by decide)
    have ex : w_M_px L τ j = nI m := em
    rw [eg]
    have A1 : gI (g_M_gather L τ) 83 0 j = w_M_px L τ j := by
      unfold g_M_gather
      rw [gI_sI, if_neg (fun q => absurd q.1 (by decide)), gI_fI, if_neg (fun q => absurd q.1 (by decide)), gI_fI, if_pos ⟨rfl, rfl, by omega⟩]
    have A2 : gI (g_M_gather L τ) 84 0 j = w_M_pn L τ j := by
      unfold g_M_gather
      rw [gI_sI, if_neg (fun q => absurd q.1 (by decide)), gI_fI, if_pos ⟨rfl, rfl, by omega⟩]
    rw [A1, A2]
    show _ = nI (if j < pop k then _ else 0) ∧ _ = (if j < pop k then _ else _)
    rw [if_pos hj, if_pos hj, ex, nI_toInt (by omega)]
    exact ⟨rfl, rfl⟩
  · rw [eg, ← hl]; rfl
/-! the lower number -/
noncomputable def loN (n : Nat) (a : Nat → Nat) : Nat := n * fb_sm (fun j => a j * a j) n - fb_sm a n * fb_sm a n
theorem lo_in (X : Nat → Int) (x : Int) : ∀ n : Nat, fb_si (fun i => (X i - x) * (X i - x)) n = fb_si (fun i => X i * X i) n - 2 * x * fb_si X n + n * (x * x)
  | 0 => by simp [fb_si]
  | n + 1 => by
    rw [fb_si_succ, fb_si_succ, fb_si_succ, lo_in X x n]
    have : ((n + 1 : Nat) : Int) = (n : Int) + 1 := rfl
    rw [this]
    generalize fb_si (fun i => X i * X i) n = q
    generalize fb_si X n = s
    have e1 : (X n - x) * (X n - x) = X n * X n - 2 * (x * X n) + x * x := by
      rw [Int.sub_mul, Int.mul_sub, Int.mul_sub, Int.mul_comm (X n) x]; omega
    have e2 : 2 * x * (s + X n) = 2 * (x * s) + 2 * (x * X n) := by rw [Int.mul_assoc, Int.mul_add, Int.mul_add]
    have e3 : ((n : Int) + 1) * (x * x) = (n : Int) * (x * x) + x * x := by rw [Int.add_mul, Int.one_mul]
    have e4 : 2 * x * s = 2 * (x * s) := Int.mul_assoc _ _ _
    rw [e1, e2, e3, e4]
    generalize (n : Int) * (x * x) = u
    generalize x * X n = v
    generalize x * s = z
    generalize X n * X n = t
    generalize x * x = r
    omega
theorem lo_sq (X : Nat → Int) : ∀ n : Nat, 0 ≤ (n : Int) * fb_si (fun i => X i * X i) n - fb_si X n * fb_si X n
  | 0 => by simp [fb_si]
  | n + 1 => by
    have ih := lo_sq X n
    have h2 := lo_in X (X n) n
    have h3 : 0 ≤ fb_si (fun i => (X i - X n) * (X i - X n)) n := by
      clear h2 ih
      generalize X n = x
      induction n with
      | zero => exact Int.le_refl _
      | succ m im => rw [fb_si_succ]; exact Int.add_nonneg im (mul_self_nn _)
    rw [fb_si_succ, fb_si_succ]
    have : ((n + 1 : Nat) : Int) = (n : Int) + 1 := rfl
    rw [this]
    generalize fb_si (fun i => X i * X i) n = q at *
    generalize fb_si X n = s at *
    generalize fb_si (fun i => (X i - X n) * (X i - X n)) n = w at *
    generalize X n = x at *
    have e1 : (s + x) * (s + x) = s * s + 2 * (x * s) + x * x := by
      rw [Int.add_mul, Int.mul_add, Int.mul_add, Int.mul_comm s x]; omega
    have e2 : ((n : Int) + 1) * (q + x * x) = n * q + n * (x * x) + q + x * x := by
      rw [Int.add_mul, Int.mul_add, Int.one_mul]; omega
    rw [e1, e2]
    rw [Int.mul_assoc] at h2
    generalize (n : Int) * q = u1 at *
    generalize (n : Int) * (x * x) = u2 at *
    generalize s * s = u3 at *
    generalize x * s = u4 at *
    generalize x * x = u5 at *
    omega
theorem lo_nat (n : Nat) (a : Nat → Nat) : fb_sm a n * fb_sm a n ≤ n * fb_sm (fun j => a j * a j) n := by
  have h := lo_sq (fun j => (a j : Int)) n
  have e1 : fb_si (fun j => ((a j : Nat) : Int)) n = (fb_sm a n : Int) := fb_si_nat a n
  have e2 : fb_si (fun i => (a i : Int) * (a i : Int)) n = (fb_sm (fun j => a j * a j) n : Int) := (fb_si_nat (fun j => a j * a j) n)
  rw [e1, e2, ← Int.natCast_mul, ← Int.natCast_mul] at h
  omega
theorem C_low {s : MSto} {n : Nat} {a : Nat → Nat} (hn : n ≤ 6) (ha : ∀ j, a j ≤ 23) (h : ∀ j, j < n → gI s 31 0 j = nI (a j)) : v_C_slopeLower (nI n) s = lN (loN n a) ∧ p_C_slopeLower (nI n) s := by
  have F : ∀ i, i ≤ n → f_C_slopeLower_8 (nI n) 0 s (0, 0) i = (lN (fb_sm a i), lN (fb_sm (fun j => a j * a j) i)) := by
    intro i
    induction i with
    | zero => exact fun _ => rfl
    | succ i ih =>
      intro hi
      show t_C_slopeLower_8 (nI n) (0 + nI i) s (f_C_slopeLower_8 (nI n) 0 s (0, 0) i) = _
      rw [ih (by omega)]
      have hai := ha i
      have hm : a i * a i ≤ 23 * 23 := Nat.mul_le_mul hai hai
      unfold t_C_slopeLower_8
      rw [z_nI, if_neg (nI_ge (by omega) (by omega)), nI_cl (by omega), h i (by omega), pk_mul, nI_l (by omega), nI_l (by omega), lN_add, lN_add, fb_sm_succ, fb_sm_succ]
  have nn : n_C_slopeLower_8 (nI n) 0 s (0, 0) = n := by unfold n_C_slopeLower_8; exact nI_cl (by omega)
  constructor
  · unfold v_C_slopeLower
    rw [nn, F n (Nat.le_refl _), nI_l (by omega), lN_mul, lN_mul, lN_sub (lo_nat n a)]
    rfl
  · unfold p_C_slopeLower
    rw [nn]
    refine ⟨fun i hi => ⟨fun _ => ?_, ?_⟩, fun q => q (by rw [z_nI]; exact Int32.le_refl _)⟩
    · have v : vp_in (0 + nI i) 6 := by rw [z_nI]; exact nI_inb (by omega) (by decide)
      exact ⟨v, v, v⟩
    · unfold q_C_slopeLower_8s
      rw [z_nI, if_neg (nI_ge hi (by omega))]; decide
theorem M_low {t : MSto} {n : Nat} {a : Nat → Nat} (hn : n ≤ 6) (ha : ∀ j, a j ≤ 23) (h66 : gI t 13 0 66 = nI n) (h : ∀ j, j < n → gI t 83 0 j = nI (a j)) : v_M_slopeLow t = lN (loN n a) := by
  have nn : nM t 66 = n := nM_set (by omega) h66
  unfold v_M_slopeLow
  rw [nn, h66]
  have e1 : sumJ (w_M_sx t) n = lN (fb_sm a n) := sumJ_lN n (fun y hy => by
    unfold w_M_sx
    have := ha y
    rw [h y hy, nI_l (by omega)])
  have e2 : sumJ (w_M_sxx t) n = lN (fb_sm (fun j => a j * a j) n) := sumJ_lN n (fun y hy => by
    unfold w_M_sxx
    have := ha y
    rw [h y hy, nI_l (by omega), lN_mul])
  rw [e1, e2, nI_l (by omega), lN_mul, lN_mul, lN_sub (lo_nat n a)]
  rfl
theorem lo_bd {n : Nat} {a : Nat → Nat} (hn : n ≤ 6) (ha : ∀ j, a j ≤ 23) : loN n a ≤ 19044 := by
  have h1 : fb_sm (fun j => a j * a j) n ≤ n * 529 := fb_sm_bound (fun j _ => Nat.le_trans (Nat.mul_le_mul (ha j) (ha j)) (by decide))
  have h2 : n * fb_sm (fun j => a j * a j) n ≤ 6 * (6 * 529) := Nat.mul_le_mul hn (Nat.le_trans h1 (Nat.mul_le_mul_right _ hn))
  unfold loN
  omega
/-! the upper number -/
theorem toL_mul {x y : Int32} (h1 : -2147483648 ≤ x.toInt * y.toInt) (h2 : x.toInt * y.toInt < 2147483648) : (x * y).toInt64 = x.toInt64 * y.toInt64 := by
  rw [← Int64.toInt_inj, Int32.toInt_toInt64, fb_mulI h1 h2, fb_mulL (by rw [Int32.toInt_toInt64, Int32.toInt_toInt64]; omega) (by rw [Int32.toInt_toInt64, Int32.toInt_toInt64]; omega), Int32.toInt_toInt64, Int32.toInt_toInt64]
theorem ay_bd {a : Nat} {y : Int} (ha : a ≤ 23) (h1 : -200 ≤ y) (h2 : y ≤ 2050) : -47150 ≤ (a : Int) * y ∧ (a : Int) * y ≤ 47150 := by
  have e : ((a : Int) * y).natAbs ≤ 23 * 2050 := by
    rw [Int.natAbs_mul]
    exact Nat.mul_le_mul (by omega) (by omega)
  omega
theorem ay_l {a : Nat} {y : Int32} (ha : a ≤ 23) (h1 : -200 ≤ y.toInt) (h2 : y.toInt ≤ 2050) : (nI a * y).toInt64 = lN a * y.toInt64 := by
  have hb := ay_bd ha h1 h2
  have e := nI_toInt (n := a) (by omega)
  rw [toL_mul (by rw [e]; omega) (by rw [e]; omega), nI_l (by omega)]
/-- sums of longs that stay small -/
theorem sumJ_i {f : Nat → Int64} {c : Int} (hc : 0 ≤ c) (hc2 : c ≤ 1000000) : ∀ n, n ≤ 1000 → (∀ i, i < n → -c ≤ (f i).toInt ∧ (f i).toInt ≤ c) → -(n * c) ≤ (sumJ f n).toInt ∧ (sumJ f n).toInt ≤ n * c
  | 0, _, _ => by
    show -(((0 : Nat) : Int) * c) ≤ (0 : Int64).toInt ∧ (0 : Int64).toInt ≤ ((0 : Nat) : Int) * c
    rw [show (0 : Int64).toInt = 0 from rfl]
    omega
  | n + 1, hn, h => by
    obtain ⟨i1, i2⟩ := sumJ_i hc hc2 n (by omega) (fun i hi => h i (by omega))
    obtain ⟨h1, h2⟩ := h n (by omega)
    have hb : (n : Int) * c ≤ 1000 * 1000000 := Int.mul_le_mul (by omega) hc2 hc (by omega)
    rw [sumJ_s, fb_addL (by omega) (by omega)]
    have : ((n + 1 : Nat) : Int) * c = n * c + c := by
      rw [show ((n + 1 : Nat) : Int) = (n : Int) + 1 from rfl, Int.add_mul, Int.one_mul]
    rw [this]
    omega
noncomputable def sYJ (n : Nat) (y : Nat → Int32) : Int64 := sumJ (fun j => (y j).toInt64) n
noncomputable def sXY (n : Nat) (a : Nat → Nat) (y : Nat → Int32) : Int64 := sumJ (fun j => lN (a j) * (y j).toInt64) n
noncomputable def sU (n : Nat) (a : Nat → Nat) (SY pr : Int64) : Int64 := lN n * pr - lN (fb_sm a n) * SY
theorem M_up {t : MSto} {n : Nat} {a : Nat → Nat} {y : Nat → Int32} (hn : n ≤ 6) (ha : ∀ j, a j ≤ 23) (h66 : gI t 13 0 66 = nI n) (h : ∀ j, j < n → gI t 83 0 j = nI (a j)) (h2 : ∀ j, j < n → gI t 84 0 j = y j) : v_M_slopeUp t = sU n a (sYJ n y) (sXY n a y) := by
  have nn : nM t 66 = n := nM_set (by omega) h66
  have cg : ∀ {f g : Nat → Int64} (m : Nat), (∀ j, j < m → f j = g j) → sumJ f m = sumJ g m := by
    intro f g m
    induction m with
    | zero => exact fun _ => rfl
    | succ m ih => exact fun q => by rw [sumJ_s, sumJ_s, ih (fun j hj => q j (by omega)), q m (by omega)]
  unfold v_M_slopeUp sU sYJ sXY
  rw [nn, h66, nI_l (by omega)]
  have e1 : sumJ (w_M_sx t) n = lN (fb_sm a n) := sumJ_lN n (fun j hj => by
    unfold w_M_sx
    have := ha j
    rw [h j hj, nI_l (by omega)])
  have e2 : sumJ (w_M_sy t) n = sumJ (fun j => (y j).toInt64) n := cg n (fun j hj => by unfold w_M_sy; rw [h2 j hj])
  have e3 : sumJ (w_M_sxy t) n = sumJ (fun j => lN (a j) * (y j).toInt64) n := cg n (fun j hj => by
    unfold w_M_sxy
    have := ha j
    rw [h j hj, h2 j hj, nI_l (by omega)])
  rw [e1, e2, e3]
theorem sumJ_cg {f g : Nat → Int64} : ∀ m, (∀ j, j < m → f j = g j) → sumJ f m = sumJ g m
  | 0, _ => rfl
  | m + 1, q => by rw [sumJ_s, sumJ_s, sumJ_cg m (fun j hj => q j (by omega)), q m (by omega)]
/-! the class picks by bits -/
def nthB (K w : Nat) : Nat := fa_first (fun e => K.testBit e && Nat.beq (fb_ct K.testBit e) w) 6
theorem nthB_ok {K w : Nat} (hw : w < fb_ct K.testBit 6) : nthB K w < 6 ∧ K.testBit (nthB K w) = true ∧ fb_ct K.testBit (nthB K w) = w := by
  obtain ⟨i, hi, k1, k2⟩ := fb_ct_kth hw
  have h1 : nthB K w < 6 := by
    rcases Nat.lt_or_ge (nthB K w) 6 with q | q
    · exact q
    · have h3 : i < nthB K w := by omega
      have h2 := fa_first_no (fun e => K.testBit e && Nat.beq (fb_ct K.testBit e) w) 6 i h3
      have h4 : (K.testBit i && Nat.beq (fb_ct K.testBit i) w) = false := h2
      rw [k1, k2, show Nat.beq w w = true from Nat.beq_refl w] at h4
      cases h4
  have h2 := fa_first_yes (fun e => K.testBit e && Nat.beq (fb_ct K.testBit e) w) 6 h1
  have h3 : (K.testBit (nthB K w) && Nat.beq (fb_ct K.testBit (nthB K w)) w) = true := h2
  exact ⟨h1, and_l h3, Nat.eq_of_beq_eq_true (and_r h3)⟩
theorem C_bitNumber {K w : Nat} (hw : w < fb_ct K.testBit 6) (s : MSto) : v_C_bitNumber (nI K) (nI w) s = nI (nthB K w) ∧ p_C_bitNumber (nI K) (nI w) s := by
  obtain ⟨h6, hb, hc⟩ := nthB_ok hw
  generalize nthB K w = e at h6 hb hc ⊢
  have hw6 : w < 6 := Nat.lt_of_lt_of_le hw (fb_ct_le _ 6)
  have F : ∀ i, i ≤ e → f_C_bitNumber_4 (nI K) 0 s (nI w) i = nI (w - fb_ct K.testBit i) ∧ fb_ct K.testBit i ≤ w := by
    intro i
    induction i with
    | zero => exact fun _ => ⟨rfl, Nat.zero_le _⟩
    | succ i ih =>
      intro hi
      obtain ⟨i1, i2⟩ := ih (by omega)
      have m1 := fb_ct_mono K.testBit (m := i + 1) (n := e) (by omega)
      refine ⟨?_, by omega⟩
      show t_C_bitNumber_4 (nI K) (0 + nI i) s (f_C_bitNumber_4 (nI K) 0 s (nI w) i) = _
      rw [i1]
      rw [fb_ct_succ] at m1 ⊢
      unfold t_C_bitNumber_4
      rw [z_nI, if_neg (show ¬ (6 : Int32) ≤ nI i from nI_ge (b := 6) (by omega) (by decide)), hasC (by omega)]
      by_cases g : K.testBit i = true
      · rw [if_pos g] at m1
        rw [if_neg (bn g), if_neg (nI_ne0 (by omega) (by omega)), if_neg (bn g), if_pos g]
        have : w - fb_ct K.testBit i = (w - (fb_ct K.testBit i + 1)) + 1 := by omega
        rw [this]
        exact pk_m1 _
      · rw [if_pos (bz g), if_pos (bz g), if_neg g]; rfl
  have Q : ∀ i, i < e → ¬ q_C_bitNumber_4s (nI K) (0 + nI i) s (f_C_bitNumber_4 (nI K) 0 s (nI w) i) = 1 := fun i hi => by
    obtain ⟨i1, i2⟩ := F i (by omega)
    have m1 := fb_ct_mono K.testBit (m := i + 1) (n := e) (by omega)
    rw [fb_ct_succ] at m1
    rw [i1]
    unfold q_C_bitNumber_4s
    rw [z_nI, if_neg (show ¬ (6 : Int32) ≤ nI i from nI_ge (b := 6) (by omega) (by decide)), hasC (by omega)]
    by_cases g : K.testBit i = true
    · rw [if_pos g] at m1
      rw [if_neg (bn g), if_neg (nI_ne0 (by omega) (by omega))]; decide
    · rw [if_pos (bz g)]; decide
  have Fe : f_C_bitNumber_4 (nI K) 0 s (nI w) e = 0 := by
    rw [(F e (Nat.le_refl _)).1, hc, Nat.sub_self]; rfl
  have he : ¬ (6 : Int32) ≤ 0 + nI e := by rw [z_nI]; exact nI_ge (b := 6) (by omega) (by decide)
  have hh : ¬ v_C_has (nI K) (0 + nI e) s = 0 := by rw [z_nI, hasC (by omega)]; exact bn hb
  have nn : n_C_bitNumber_4 (nI K) 0 s (nI w) = e := by
    refine leastN_eq Q ?_ (by omega)
    rw [Fe]
    unfold q_C_bitNumber_4s
    rw [if_neg he, if_neg hh, if_pos rfl]
  constructor
  · unfold v_C_bitNumber
    rw [nn, if_neg he, z_nI]
  · unfold p_C_bitNumber
    rw [nn]
    exact ⟨fun i hi => ⟨trivial, Q i hi⟩, fun _ => ⟨fun q => absurd q hh, fun _ q => q Fe⟩⟩
theorem wo_xor {k i : Nat} (hi : i < 32) (hb : k.testBit i = true) (σ : MSto) : v_C_without (nI k) (nI i) σ = nI (k ^^^ 2 ^ i) := by
  refine b_ext (fun p hp => ?_)
  rw [cp_without _ hi hp, bt_nI p hp, bt_nI p hp, fb_bit_flip]
  by_cases q : p = i
  · rw [q, hb, decide_eq_true rfl]; rfl
  · rw [decide_eq_false q, Bool.not_false, Bool.and_true, Bool.xor_false]
theorem xor_bit {k i : Nat} (hb : k.testBit i = true) (p : Nat) : (k ^^^ 2 ^ i).testBit p = (k.testBit p && !decide (p = i)) := by
  rw [fb_bit_flip]
  by_cases q : p = i
  · rw [q, hb, decide_eq_true rfl]; rfl
  · rw [decide_eq_false q, Bool.not_false, Bool.and_true, Bool.xor_false]
noncomputable def cst (n t : Nat) (a : Nat → Nat) (y : Nat → Int32) : Nat → Nat × Nat × Int64
  | 0 => (2 ^ n - 1, t, 0)
  | i + 1 => ((cst n t a y i).1 ^^^ 2 ^ (nthB (cst n t a y i).1 ((cst n t a y i).2.1 % (n - i))), (cst n t a y i).2.1 / (n - i), (cst n t a y i).2.2 + lN (a i) * (y (nthB (cst n t a y i).1 ((cst n t a y i).2.1 % (n - i)))).toInt64)
theorem cst_s (n t : Nat) (a : Nat → Nat) (y : Nat → Int32) (i : Nat) : cst n t a y (i + 1) = ((cst n t a y i).1 ^^^ 2 ^ (nthB (cst n t a y i).1 ((cst n t a y i).2.1 % (n - i))), (cst n t a y i).2.1 / (n - i), (cst n t a y i).2.2 + lN (a i) * (y (nthB (cst n t a y i).1 ((cst n t a y i).2.1 % (n - i)))).toInt64) := rfl
theorem cst_ok {n t : Nat} (hn : n ≤ 6) (a : Nat → Nat) (y : Nat → Int32) : ∀ i, i ≤ n → fb_ct (cst n t a y i).1.testBit 6 = n - i ∧ (∀ p, (cst n t a y i).1.testBit p = true → p < n) ∧ (cst n t a y i).2.1 ≤ t
  | 0, _ => by
    have h0 : ∀ n, n ≤ 6 → fb_ct (2 ^ n - 1).testBit 6 = n := by decide
    refine ⟨h0 n hn, fun p hp => ?_, Nat.le_refl _⟩
    have hp' : (2 ^ n - 1).testBit p = true := hp
    rw [Nat.testBit_two_pow_sub_one] at hp'
    exact of_decide_eq_true hp'
  | i + 1, hi => by
    obtain ⟨h1, h2, h3⟩ := cst_ok hn a y (t := t) i (by omega)
    rw [cst_s]
    have hw : (cst n t a y i).2.1 % (n - i) < fb_ct (cst n t a y i).1.testBit 6 := by rw [h1]; exact Nat.mod_lt _ (by omega)
    obtain ⟨e6, eb, -⟩ := nthB_ok hw
    refine ⟨?_, fun p hp => ?_, Nat.le_trans (Nat.div_le_self _ _) h3⟩
    · have hc := ct_wo (p := (cst n t a y i).1.testBit) e6 eb
      show fb_ct ((cst n t a y i).1 ^^^ 2 ^ _).testBit 6 = n - (i + 1)
      rw [fb_ct_cong (fun q _ => xor_bit eb q)]
      omega
    · have hp' : ((cst n t a y i).1 ^^^ 2 ^ (nthB (cst n t a y i).1 ((cst n t a y i).2.1 % (n - i)))).testBit p = true := hp
      rw [xor_bit eb] at hp'
      exact h2 p (and_l hp')
theorem sh_m1 : ∀ n, n ≤ 6 → ((1 : Int32) <<< (nI n &&& 31)) - 1 = nI (2 ^ n - 1) := by decide +kernel
theorem C_up {s : MSto} {n : Nat} {a : Nat → Nat} {y : Nat → Int32} (hn : n ≤ 6) (ha : ∀ j, a j ≤ 23) (hy : ∀ j, -200 ≤ (y j).toInt ∧ (y j).toInt ≤ 2050) (h : ∀ j, j < n → gI s 31 0 j = nI (a j) ∧ gI s 32 0 j = y j) {t : Nat} (ht : t < 2 ^ 31) : v_C_slopeUpper (nI n) (nI t) s = sU n a (sYJ n y) (cst n t a y n).2.2 ∧ p_C_slopeUpper (nI n) (nI t) s := by
  have ST : ∀ i, i < n → ∀ x : Int64 × Int64 × Int64 × Int32 × Int32, x = (lN (fb_sm a i), sYJ i y, (cst n t a y i).2.2, nI (cst n t a y i).1, nI (cst n t a y i).2.1) → t_C_slopeUpper_21 (nI n) (0 + nI i) s x = (lN (fb_sm a (i + 1)), sYJ (i + 1) y, (cst n t a y (i + 1)).2.2, nI (cst n t a y (i + 1)).1, nI (cst n t a y (i + 1)).2.1) ∧ g_C_slopeUpper_21 (nI n) (0 + nI i) s x := by
    rintro i hi x rfl
    obtain ⟨c1, c2, c3⟩ := cst_ok hn a y (t := t) i (by omega)
    rw [cst_s]
    generalize cst n t a y i = c at c1 c2 c3 ⊢
    obtain ⟨K, r, pr⟩ := c
    have c1 : fb_ct K.testBit 6 = n - i := c1
    have c2 : ∀ p, K.testBit p = true → p < n := c2
    have c3 : r ≤ t := c3
    have hw : r % (n - i) < fb_ct K.testBit 6 := by rw [c1]; exact Nat.mod_lt _ (by omega)
    obtain ⟨e6, eb, -⟩ := nthB_ok hw
    have en := c2 _ eb
    obtain ⟨b1, b2⟩ := C_bitNumber hw s
    have esub : nI n - nI i = nI (n - i) := pk_sub (by omega)
    have erem : nI r - nI r / nI (n - i) * nI (n - i) = nI (r % (n - i)) := pk_rem (by omega) (by omega) (by omega)
    have ediv : nI r / nI (n - i) = nI (r / (n - i)) := pk_div (by omega) (by omega) (by omega)
    have hai := ha i
    have hye := hy (nthB K (r % (n - i)))
    unfold t_C_slopeUpper_21 g_C_slopeUpper_21
    rw [z_nI, if_neg (nI_ge hi (by omega)), nI_cl (by omega), (h i hi).1, (h i hi).2, esub]
    show ((lN (fb_sm a i) + (nI (a i)).toInt64, sYJ i y + (y i).toInt64, pr + (nI (a i) * gI s 32 0 (v_C_bitNumber (nI K) (nI r - nI r / nI (n - i) * nI (n - i)) s).toNatClampNeg).toInt64, v_C_without (nI K) (v_C_bitNumber (nI K) (nI r - nI r / nI (n - i) * nI (n - i)) s) s, nI r / nI (n - i)) = _) ∧ (¬ nI n ≤ nI i → ¬ nI (n - i) = 0 ∧ p_C_bitNumber (nI K) (nI r - nI r / nI (n - i) * nI (n - i)) s ∧ ¬ nI (n - i) = 0 ∧ vp_in (nI i) 6 ∧ vp_in (nI i) 6 ∧ vp_in (nI i) 6 ∧ vp_in (v_C_bitNumber (nI K) (nI r - nI r / nI (n - i) * nI (n - i)) s) 6)
    rw [erem, b1, ediv, nI_cl (by omega), (h _ en).2, ay_l hai hye.1 hye.2, wo_xor (by omega) eb, nI_l (by omega), lN_add]
    have vi : vp_in (nI i) 6 := nI_inb (by omega) (by decide)
    have n0 : ¬ nI (n - i) = 0 := nI_ne0 (by omega) (by omega)
    exact ⟨rfl, fun _ => ⟨n0, b2, n0, vi, vi, vi, nI_inb e6 (by decide)⟩⟩
  have F : ∀ i, i ≤ n → f_C_slopeUpper_21 (nI n) 0 s (0, 0, 0, (((1 : Int32) <<< (nI n &&& 31)) - 1), nI t) i = (lN (fb_sm a i), sYJ i y, (cst n t a y i).2.2, nI (cst n t a y i).1, nI (cst n t a y i).2.1) := by
    intro i
    induction i with
    | zero =>
      intro _
      show (0, 0, 0, (((1 : Int32) <<< (nI n &&& 31)) - 1), nI t) = _
      rw [sh_m1 n hn]; rfl
    | succ i ih =>
      intro hi
      exact (ST i hi _ (ih (by omega))).1
  have nn : n_C_slopeUpper_21 (nI n) 0 s (0, 0, 0, (((1 : Int32) <<< (nI n &&& 31)) - 1), nI t) = n := by unfold n_C_slopeUpper_21; exact nI_cl (by omega)
  constructor
  · unfold v_C_slopeUpper
    rw [nn, F n (Nat.le_refl _), nI_l (by omega)]
    rfl
  · unfold p_C_slopeUpper
    rw [nn]
    refine ⟨fun i hi => ⟨(ST i hi _ (F i (by omega))).2, ?_⟩, fun q => q (by rw [z_nI]; exact Int32.le_refl _)⟩
    unfold q_C_slopeUpper_21s
    rw [z_nI, if_neg (nI_ge hi (by omega))]; decide
theorem cst_0 {n : Nat} (hn : n ≤ 6) (a : Nat → Nat) (y : Nat → Int32) : ∀ i, i ≤ n → (∀ p, p < 6 → ((cst n 0 a y i).1.testBit p = true ↔ (i ≤ p ∧ p < n))) ∧ (cst n 0 a y i).2.1 = 0 ∧ (cst n 0 a y i).2.2 = sXY i a y
  | 0, _ => by
    refine ⟨fun p _ => ?_, rfl, rfl⟩
    show (2 ^ n - 1).testBit p = true ↔ _
    rw [Nat.testBit_two_pow_sub_one]
    exact ⟨fun q => ⟨Nat.zero_le _, of_decide_eq_true q⟩, fun q => decide_eq_true q.2⟩
  | i + 1, hi => by
    obtain ⟨h1, h2, h3⟩ := cst_0 hn a y i (by omega)
    rw [cst_s]
    generalize cst n 0 a y i = c at h1 h2 h3 ⊢
    obtain ⟨K, r, pr⟩ := c
    have h1 : ∀ p, p < 6 → (K.testBit p = true ↔ (i ≤ p ∧ p < n)) := h1
    have h2 : r = 0 := h2
    have h3 : pr = sXY i a y := h3
    subst h2; subst h3
    have hi6 : i < 6 := by omega
    have ki : K.testBit i = true := (h1 i hi6).mpr ⟨Nat.le_refl _, by omega⟩
    have hz : fb_ct K.testBit i = 0 := fb_ct_zero.mpr (fun p hp => by
      cases c : K.testBit p with
      | false => rfl
      | true => have := ((h1 p (by omega)).mp c).1; omega)
    have hpos : 0 < fb_ct K.testBit 6 := fb_ct_pos.mpr ⟨i, hi6, ki⟩
    obtain ⟨e6, eb, ec⟩ := nthB_ok hpos
    have ee : nthB K 0 = i := fb_ct_kth_one eb ki (ec.trans hz.symm)
    show (∀ p, p < 6 → ((K ^^^ 2 ^ (nthB K (0 % (n - i)))).testBit p = true ↔ _)) ∧ 0 / (n - i) = 0 ∧ sXY i a y + lN (a i) * (y (nthB K (0 % (n - i)))).toInt64 = _
    rw [Nat.zero_mod, ee]
    refine ⟨fun p hp => ?_, Nat.zero_div _, rfl⟩
    rw [xor_bit ki]
    have := h1 p hp
    by_cases q : p = i
    · rw [q, decide_eq_true rfl, Bool.not_true, Bool.and_false]
      exact ⟨fun z => (by cases z), fun z => (by omega)⟩
    · rw [decide_eq_false q, Bool.not_false, Bool.and_true, this]
      omega
theorem sU_bd {n : Nat} {a : Nat → Nat} {y : Nat → Int32} (hn : n ≤ 6) (ha : ∀ j, a j ≤ 23) (hy : ∀ j, -200 ≤ (y j).toInt ∧ (y j).toInt ≤ 2050) : -9223372036854775808 < (sU n a (sYJ n y) (sXY n a y)).toInt := by
  have b1 := sumJ_i (f := fun j => (y j).toInt64) (c := 2050) (by decide) (by decide) n (by omega) (fun j _ => by
    have := hy j
    rw [Int32.toInt_toInt64]; omega)
  have b2 := sumJ_i (f := fun j => lN (a j) * (y j).toInt64) (c := 47150) (by decide) (by decide) n (by omega) (fun j _ => by
    have h1 := hy j
    have h2 := ha j
    have h3 := ay_bd h2 h1.1 h1.2
    have e := pk_lT (n := a j) (by omega)
    rw [fb_mulL (by rw [e, Int32.toInt_toInt64]; omega) (by rw [e, Int32.toInt_toInt64]; omega), e, Int32.toInt_toInt64]
    exact h3)
  have hS : fb_sm a n ≤ 138 := Nat.le_trans (fb_sm_bound (fun j _ => ha j)) (Nat.mul_le_mul_right _ hn)
  have e1 : (lN n).toInt = (n : Int) := pk_lT (by omega)
  have e2 : (lN (fb_sm a n)).toInt = (fb_sm a n : Int) := pk_lT (by omega)
  have c1 : (sYJ n y).toInt.natAbs ≤ 12300 := by
    have : (sYJ n y).toInt = (sumJ (fun j => (y j).toInt64) n).toInt := rfl
    omega
  have c2 : (sXY n a y).toInt.natAbs ≤ 282900 := by
    have : (sXY n a y).toInt = (sumJ (fun j => lN (a j) * (y j).toInt64) n).toInt := rfl
    omega
  have d1 : ((n : Int) * (sXY n a y).toInt).natAbs ≤ 6 * 282900 := by
    rw [Int.natAbs_mul]
    exact Nat.mul_le_mul (by omega) c2
  have d2 : ((fb_sm a n : Int) * (sYJ n y).toInt).natAbs ≤ 138 * 12300 := by
    rw [Int.natAbs_mul]
    exact Nat.mul_le_mul (by omega) c1
  unfold sU
  have m1 : (lN n * sXY n a y).toInt = (n : Int) * (sXY n a y).toInt := by rw [fb_mulL (by rw [e1]; omega) (by rw [e1]; omega), e1]
  have m2 : (lN (fb_sm a n) * sYJ n y).toInt = (fb_sm a n : Int) * (sYJ n y).toInt := by rw [fb_mulL (by rw [e2]; omega) (by rw [e2]; omega), e2]
  rw [fb_subL (by rw [m1, m2]; omega) (by rw [m1, m2]; omega), m1, m2]
  omega
theorem T_slope {σ τ : MSto} (h : Cpl σ τ) (a : Int32) : p_C_slope a σ ∧ p_M_slope a τ ∧ v_C_slope a σ = v_M_slope a τ ∧ Cpl (e_C_slope a σ) (e_M_slope a τ) := by
  have h1 := h.e0
  unfold p_C_slope p_M_slope v_C_slope v_M_slope e_C_slope e_M_slope vj_C_slope_j59 ej_C_slope_j59
  generalize sI τ 13 0 52 0 = τ1 at h1 ⊢
  have hpc := pc_areCounted h1 a 2 6
  simp only [cp_areCounted h1 a (lo := 2) (hi := 6) (by decide)]
  by_cases g : v_M_areCounted a 2 6 τ1 = 0
  · simp only [if_pos g]
    exact ⟨⟨hpc, fun q => absurd g q⟩, fun q => absurd g q, trivial, h1⟩
  · simp only [if_neg g]
    obtain ⟨k, rfl, hk, -, hs, h2', h6'⟩ := areC h1.m g
    have hk15 : pop k ≤ 15 := fb_ct_le _ _
    have h6 : pop k ≤ 6 := (leN (b := 6) (by omega) (by decide)).mp h6'
    obtain ⟨x, y, hx, hy, d1, d2, d3, dC, dM, d66⟩ := layData h1 hs h6
    rw [d1]
    have wC := w_C_layOut (nI k) σ
    have wM := w_M_gather (nI k) τ1
    obtain ⟨s, es⟩ : ∃ s, s = e_C_layOut (nI k) σ := ⟨_, rfl⟩
    obtain ⟨t, et⟩ : ∃ t, t = e_M_gather (nI k) τ1 := ⟨_, rfl⟩
    rw [← es] at wC dC ⊢
    rw [← et] at wM dM d66 ⊢
    obtain ⟨n, en⟩ : ∃ n, n = pop k := ⟨_, rfl⟩
    rw [← en] at d66 dC dM h6 ⊢
    obtain ⟨l1, l2⟩ := C_low h6 hx (fun j hj => (dC j hj).1)
    have l3 := M_low h6 hx d66 (fun j hj => (dM j hj).1)
    have l3' : v_M_slopeLow (sI t 13 0 51 0) = lN (loN n x) := M_low h6 hx d66 (fun j hj => (dM j hj).1)
    have u3' : v_M_slopeUp (sI t 13 0 51 0) = sU n x (sYJ n y) (sXY n x y) := M_up h6 hx d66 (fun j hj => (dM j hj).1) (fun j hj => (dM j hj).2)
    obtain ⟨u1, u2⟩ := C_up h6 hx hy dC (t := 0) (by decide)
    rw [(cst_0 h6 x y n (Nat.le_refl _)).2.2] at u1
    have z0 : nI 0 = (0 : Int32) := rfl
    rw [z0] at u1 u2
    have hb := lo_bd h6 hx
    have c66 : cM t 66 6 := ⟨by rw [nM_set (by omega) d66]; exact d66, by rw [nM_set (by omega) d66]; exact h6⟩
    rw [l1, l3, l3', u3', u1]
    have hc : Cpl s t := h1.mv wC wM rfl rfl
    by_cases gz : lg_cmp (lN (loN n x)) 0 = 0
    · simp only [if_pos gz]
      exact ⟨⟨hpc, fun _ => ⟨d2, l2, fun q => absurd gz q⟩⟩, fun _ => ⟨d3, c66, fun q => absurd gz q⟩, trivial, hc⟩
    · simp only [if_neg gz]
      have hp : 0 < loN n x := by
        rcases Nat.eq_zero_or_pos (loN n x) with q | q
        · exact absurd ((cmp0N (by omega)).mpr q) gz
        · exact q
      obtain ⟨r1, r2, r3⟩ := rowF hc (u := sU n x (sYJ n y) (sXY n x y)) (d := lN (loN n x)) (sU_bd h6 hx hy) (lN_gt hp (by omega))
      have wR : agO [13052, 78000] t (e_M_tellPart (sU n x (sYJ n y) (sXY n x y)) (lN (loN n x)) (sI t 13 0 51 0)) := (agO_sI (W := [13052, 78000]) rfl (agO_refl _ t)).step (w_M_tellPart _ _ _) rfl
      obtain ⟨v, ev⟩ : ∃ v, v = e_M_tellPart (sU n x (sYJ n y) (sXY n x y)) (lN (loN n x)) (sI t 13 0 51 0) := ⟨_, rfl⟩
      rw [← ev] at wR r1 ⊢
      have dv66 : gI v 13 0 66 = nI n := by rw [wR.i rfl]; exact d66
      have uv : v_M_slopeUp v = sU n x (sYJ n y) (sXY n x y) := M_up h6 hx dv66 (fun j hj => by rw [wR.i rfl]; exact (dM j hj).1) (fun j hj => by rw [wR.i rfl]; exact (dM j hj).2)
      have cv66 : cM v 66 6 := ⟨by rw [nM_set (by omega) dv66]; exact dv66, by rw [nM_set (by omega) dv66]; exact h6⟩
      rw [uv]
      exact ⟨⟨hpc, fun _ => ⟨d2, l2, fun _ => ⟨u2, r2⟩⟩⟩, fun _ => ⟨d3, c66, fun _ => ⟨c66, c66, r3, cv66, fun _ => cv66⟩⟩, rfl, r1⟩

