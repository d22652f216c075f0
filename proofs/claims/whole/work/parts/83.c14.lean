/-! years -/
def mk27 (m : Nat → Prop) (s : MSto) : Prop := ∀ y, y < 200 → (gI s 27 0 y = 0 ↔ ¬ m y)
theorem nI_p {i : Nat} (h : 0 < i) : nI i - 1 = nI (i - 1) := pk_sub (b := 1) h
theorem cp_starts {m : Nat → Prop} {s : MSto} (hm : mk27 m s) {i : Nat} (hi : i < 200) : v_C_startsSpan (nI i) s = bI (m i ∧ ¬ (0 < i ∧ m (i - 1))) := by
  unfold v_C_startsSpan b_C_startsSpan
  refine bI_congr ?_
  rw [nI_cl (by omega)]
  have h1 := hm i hi
  by_cases g : gI s 27 0 i = 0
  · rw [if_pos g]
    exact ⟨fun q => q.elim, fun q => (h1.mp g) q.1⟩
  · rw [if_neg g]
    have gm : m i := Classical.byContradiction (fun q => g (h1.mpr q))
    by_cases g0 : i = 0
    · subst g0
      rw [if_pos (show nI 0 = 0 from rfl)]
      exact ⟨fun _ => ⟨gm, fun q => absurd q.1 (by omega)⟩, fun _ => trivial⟩
    · rw [if_neg (nI_ne0 (by omega) (by omega)), nI_p (by omega), nI_cl (by omega)]
      have h2 := hm (i - 1) (by omega)
      by_cases g2 : gI s 27 0 (i - 1) = 0
      · rw [if_pos g2]; exact ⟨fun _ => ⟨gm, fun q => (h2.mp g2) q.2⟩, fun _ => trivial⟩
      · rw [if_neg g2]
        exact ⟨fun q => q.elim, fun q => g2 (h2.mpr (fun z => q.2 ⟨by omega, z⟩))⟩
theorem cp_ends {m : Nat → Prop} {s : MSto} (hm : mk27 m s) {i : Nat} (hi : i < 200) : v_C_endsSpan (nI i) s = bI (m i ∧ ¬ (i + 1 < 200 ∧ m (i + 1))) := by
  unfold v_C_endsSpan b_C_endsSpan
  refine bI_congr ?_
  rw [nI_cl (by omega)]
  have h1 := hm i hi
  by_cases g : gI s 27 0 i = 0
  · rw [if_pos g]
    exact ⟨fun q => q.elim, fun q => (h1.mp g) q.1⟩
  · rw [if_neg g]
    have gm : m i := Classical.byContradiction (fun q => g (h1.mpr q))
    by_cases g0 : i = 199
    · subst g0
      rw [if_pos (show nI 199 = 199 from rfl)]
      exact ⟨fun _ => ⟨gm, fun q => absurd q.1 (by omega)⟩, fun _ => trivial⟩
    · rw [if_neg (show ¬ nI i = 199 from fun q => g0 ((nI_eq (b := 199) (by omega) (by decide)).mp q)), nI_s, nI_cl (by omega)]
      have h2 := hm (i + 1) (by omega)
      by_cases g2 : gI s 27 0 (i + 1) = 0
      · rw [if_pos g2]; exact ⟨fun _ => ⟨gm, fun q => (h2.mp g2) q.2⟩, fun _ => trivial⟩
      · rw [if_neg g2]
        exact ⟨fun q => q.elim, fun q => g2 (h2.mpr (fun z => q.2 ⟨by omega, z⟩))⟩
theorem pc_starts {i : Nat} (hi : i < 200) (s : MSto) : p_C_startsSpan (nI i) s := by
  refine ⟨nI_inb hi (by decide), fun _ q => ?_⟩
  have : 0 < i := by
    rcases Nat.eq_zero_or_pos i with z | z
    · subst z; exact absurd rfl q
    · exact z
  rw [nI_p this]; exact nI_inb (by omega) (by decide)
theorem pc_ends {i : Nat} (hi : i < 200) (s : MSto) : p_C_endsSpan (nI i) s := by
  refine ⟨nI_inb hi (by decide), fun _ q => ?_⟩
  have : i ≠ 199 := fun z => q (by rw [z]; rfl)
  rw [nI_s]; exact nI_inb (by omega) (by decide)
def yrR (τ : MSto) (m : Nat → Prop) (σm : MSto) (i : Nat) (x : Int32 × MSto) (y : Int32 × Int32 × MSto) : Prop :=
  ∃ n : Nat, n ≤ i ∧ x.1 = nI n ∧ y.1 = nI n ∧ ((y.2.1 = 0 ∧ ¬ (0 < i ∧ m (i - 1)) ∧ (n ≤ 10 → nM y.2.2 51 = 2 * n)) ∨ (y.2.1 = 1 ∧ (0 < i ∧ m (i - 1)) ∧ (n ≤ 10 → nM y.2.2 51 + 1 = 2 * n))) ∧ agO [8002, 38000] σm x.2 ∧ agO [13052, 78000] τ y.2.2 ∧ cM y.2.2 51 20 ∧
  ((n ≤ 10 ∧ (0 < i ∧ m (i - 1)) ∧ ¬ (i < 200 ∧ m i)) → kR x.2 (e_M_tell (nI (i - 1)).toInt64 y.2.2)) ∧ (¬ (n ≤ 10 ∧ (0 < i ∧ m (i - 1)) ∧ ¬ (i < 200 ∧ m i)) → kR x.2 y.2.2)
theorem c10 {n : Nat} (hn : n < 2 ^ 31) : (10 : Int32) < nI n ↔ 10 < n := ltN (a := 10) (by decide) hn
theorem yr_tj {m : Nat → Prop} {s : MSto} (hm : mk27 m s) {i n : Nat} (hi : i < 200) (hn : n < 2 ^ 31) (z : Int32 × MSto) : tj_C_years_70j115 (nI n) (nI i) s z = (nI n, @ite _ (n ≤ 10 ∧ m i ∧ ¬ (i + 1 < 200 ∧ m (i + 1))) (Classical.propDecidable _) (e_Ro_add (nI i).toInt64 s) s) := by
  unfold tj_C_years_70j115
  rw [cp_ends hm hi]
  by_cases g : n ≤ 10
  · rw [if_neg (fun q => by have := (c10 hn).mp q; omega)]
    by_cases g2 : m i ∧ ¬ (i + 1 < 200 ∧ m (i + 1))
    · rw [if_neg (bn g2), if_pos ⟨g, g2⟩]
    · rw [if_pos (bz g2), if_neg (fun q => g2 q.2)]
  · rw [if_pos ((c10 hn).mpr (by omega)), if_neg (fun q => g q.1)]
theorem yr_gj {m : Nat → Prop} {s τ : MSto} (hm : mk27 m s) (hr : kR s τ) {i n : Nat} (hi : i < 200) : gj_C_years_70j115 (nI n) (nI i) s :=
  fun _ => ⟨pc_ends hi s, fun _ => pC_add _ hr⟩
theorem mk27.mv {m : Nat → Prop} {s s' : MSto} (h : mk27 m s) (w : agO [8002, 38000] s s') : mk27 m s' := fun y hy => by rw [w.i rfl]; exact h y hy
theorem w_add (v : Int64) {σm s : MSto} (w : agO [8002, 38000] σm s) : agO [8002, 38000] σm (e_Ro_add v s) := w.step (w_Ro_add _ _) rfl
theorem w_tell (v : Int64) {τ t : MSto} (w : agO [13052, 78000] τ t) : agO [13052, 78000] τ (e_M_tell v t) := w.step (w_M_tell _ _) rfl
theorem cM_tell {τ : MSto} (v : Int64) (hc : cM τ 51 20) (hn : nM τ 51 < 20) : cM (e_M_tell v τ) 51 20 := by
  have h1 := rN_tell v hc
  refine ⟨?_, by omega⟩
  rw [h1]
  show gI τ 13 0 51 + 1 = _
  rw [hc.1, nI_s]
theorem cite_P {α : Type} {P : α → Prop} {c : Prop} {a b : α} (ha : P a) (hb : P b) : P (@ite _ c (Classical.propDecidable c) a b) := by
  by_cases h : c
  · rw [if_pos h]; exact ha
  · rw [if_neg h]; exact hb
theorem fM30_s (a b c : Int32) (s0 : Int32 × Int32 × MSto) (n : Nat) : f_M_years_30 a b c s0 (n + 1) = t_M_years_30 a b (c + nI n) (f_M_years_30 a b c s0 n) := rfl
theorem yr_step {τ : MSto} {a b : Int32} {m : Nat → Prop} {σm : MSto} (hmk : mk27 m σm) (hM : ∀ y, y < 200 → (0 < lg_cmp (v_Ma_absJ (Int32.toInt64 (gI τ 41 0 y) - Int32.toInt64 a) τ) (Int32.toInt64 b) ↔ ¬ m y)) {i : Nat} (hi : i < 200) (x : Int32 × MSto) (y : Int32 × Int32 × MSto) (hr : yrR τ m σm i x y) : yrR τ m σm (i + 1) (t_C_years_70 (0 + nI i) x) (t_M_years_30 a b (0 + nI i) y) ∧ g_C_years_70 (0 + nI i) x ∧ g_M_years_30 a b (0 + nI i) y := by
  obtain ⟨t, s⟩ := x
  obtain ⟨t', w, u⟩ := y
  obtain ⟨n, hni, e1, e2, hw, w1, w2, hcm, k1, k2⟩ := hr
  have e1' : t = nI n := e1
  have e2' : t' = nI n := e2
  subst e1'; subst e2'
  replace w1 : agO [8002, 38000] σm s := w1
  replace w2 : agO [13052, 78000] τ u := w2
  replace hcm : cM u 51 20 := hcm
  replace k1 : (n ≤ 10 ∧ (0 < i ∧ m (i - 1)) ∧ ¬ (i < 200 ∧ m i)) → kR s (e_M_tell (nI (i - 1)).toInt64 u) := k1
  replace k2 : ¬ (n ≤ 10 ∧ (0 < i ∧ m (i - 1)) ∧ ¬ (i < 200 ∧ m i)) → kR s u := k2
  have hms : mk27 m s := hmk.mv w1
  have hmu : 0 < lg_cmp (v_Ma_absJ (Int32.toInt64 (gI u 41 0 i) - Int32.toInt64 a) u) (Int32.toInt64 b) ↔ ¬ m i := by
    have := hM i hi
    rw [← w2.i (k := 41) (i := 0) (j := i) rfl] at this
    exact this
  have c200 : ¬ (200 : Int32) < nI i := fun q => by have := (ltN (a := 200) (by decide) (by omega)).mp q; omega
  have c200' : ¬ (200 : Int32) ≤ nI i := nI_ge (b := 200) hi (by decide)
  have hn : n + 1 < 2 ^ 31 := by omega
  have vi : vp_in (nI i) 200 := nI_inb hi (by decide)
  -- what the two hold between
  have kany : ∃ r, kR s r := by
    rcases Classical.em (n ≤ 10 ∧ (0 < i ∧ m (i - 1)) ∧ ¬ (i < 200 ∧ m i)) with q | q
    · exact ⟨_, k1 q⟩
    · exact ⟨_, k2 q⟩
  obtain ⟨r0, kr0⟩ := kany
  unfold t_C_years_70 t_M_years_30 g_C_years_70 g_M_years_30
  rw [z_nI, if_neg c200', if_neg c200, if_neg c200', nI_cl (by omega)]
  show yrR τ m σm (i + 1) (if v_C_startsSpan (nI i) s = 0 then (if 10 < nI n then tj_C_years_70j115 (nI n) (nI i) s _ else (if v_C_startsSpan (nI i) s = 0 then tj_C_years_70j115 (nI n) (nI i) s _ else tj_C_years_70j115 (nI n) (nI i) (e_Ro_add (Int32.toInt64 (nI i)) s) _)) else (if 10 < nI n + 1 then tj_C_years_70j115 (nI n + 1) (nI i) s _ else (if v_C_startsSpan (nI i) s = 0 then tj_C_years_70j115 (nI n + 1) (nI i) s _ else tj_C_years_70j115 (nI n + 1) (nI i) (e_Ro_add (Int32.toInt64 (nI i)) s) _)))
    (if 0 < lg_cmp (v_Ma_absJ (Int32.toInt64 (gI u 41 0 i) - Int32.toInt64 a) u) (Int32.toInt64 b) then tj_M_years_30j86 a b (nI n) w (nI i) 0 u _ else (if w = 0 then tj_M_years_30j86 a b (nI n + 1) w (nI i) 1 u _ else tj_M_years_30j86 a b (nI n) w (nI i) 1 u _)) ∧ (¬ (200 ≤ nI i) → p_C_startsSpan (nI i) s ∧ ((v_C_startsSpan (nI i) s = 0 → _) ∧ (¬ v_C_startsSpan (nI i) s = 0 → _))) ∧ (¬ (200 < nI i) → (200 ≤ nI i → _) ∧ (¬ (200 ≤ nI i) → vp_in (nI i) 200 ∧ ((0 < lg_cmp (v_Ma_absJ (Int32.toInt64 (gI u 41 0 i) - Int32.toInt64 a) u) (Int32.toInt64 b) → _) ∧ (¬ 0 < lg_cmp (v_Ma_absJ (Int32.toInt64 (gI u 41 0 i) - Int32.toInt64 a) u) (Int32.toInt64 b) → _))))
  have pst := pc_starts hi s
  have ka : kR s r0 → nM r0 51 < 20 → kR (e_Ro_add (nI i).toInt64 s) (e_M_tell (nI i).toInt64 r0) := fun q z => kR_add q z _
  by_cases hb : m i
  · have nlt : ¬ 0 < lg_cmp (v_Ma_absJ (Int32.toInt64 (gI u 41 0 i) - Int32.toInt64 a) u) (Int32.toInt64 b) := fun q => hmu.mp q hb
    have kr : kR s u := k2 (fun q => q.2.2 ⟨hi, hb⟩)
    rw [if_neg nlt]
    rcases hw with ⟨hw0, hpb, hcnt⟩ | ⟨hw1, hpb, hcnt⟩
    · -- a span starts
      have hw0' : w = 0 := hw0
      subst hw0'
      have hst : ¬ v_C_startsSpan (nI i) s = 0 := by rw [cp_starts hms hi]; exact bn ⟨hb, hpb⟩
      rw [if_neg hst, if_pos rfl, nI_s]
      by_cases h10 : n + 1 ≤ 10
      · have c1 : ¬ (10 : Int32) < nI (n + 1) := fun q => by have := (c10 hn).mp q; omega
        have hlen := hcnt (by omega)
        have hlt : nM u 51 < 20 := by show nM u 51 < 20; have : nM u 51 = 2 * n := hlen; omega
        have kr1 := kR_add kr hlt (nI i).toInt64
        have hc1 := cM_tell (nI i).toInt64 hcm hlt
        have hl1 := rN_tell (nI i).toInt64 hcm
        have hms1 : mk27 m (e_Ro_add (nI i).toInt64 s) := hms.mv (w_Ro_add _ _)
        rw [if_neg c1, if_neg hst, yr_tj hms1 hi hn]
        refine ⟨?_, fun _ => ⟨pst, fun q => absurd q hst, fun _ => ⟨fun q => absurd q c1, fun _ => ⟨pst, fun q => absurd q hst, fun _ => ⟨pC_add _ kr, yr_gj hms1 kr1 hi⟩⟩⟩⟩, fun _ => ⟨fun q => absurd q c200', fun _ => ⟨vi, fun q => absurd q nlt, fun _ => ⟨fun _ _ _ => ⟨fun q => absurd q (by decide), fun _ => pM_tell _ hcm⟩, fun q => absurd rfl q⟩⟩⟩⟩
        have eT : tj_M_years_30j86 a b (nI (n + 1)) 0 (nI i) 1 u (nI n, 0, u) = (nI (n + 1), 1, e_M_tell (nI i).toInt64 u) := by
          unfold tj_M_years_30j86
          rw [if_neg (by decide), if_neg c1, if_neg (by decide)]
        rw [eT]
        refine ⟨n + 1, by omega, rfl, rfl, Or.inr ⟨rfl, ⟨by omega, hb⟩, fun _ => ?_⟩, ?_, w_tell _ w2, hc1, fun q => ?_, fun q => ?_⟩
        · show nM (e_M_tell (nI i).toInt64 u) 51 + 1 = _
          have : nM u 51 = 2 * n := hlen
          omega
        · exact cite_P (P := fun z => agO [8002, 38000] σm z) (w_add _ (w_add _ w1)) (w_add _ w1)
        · rw [if_pos ⟨by omega, hb, q.2.2⟩]
          refine kR_add kr1 ?_ _
          have : nM u 51 = 2 * n := hlen
          omega
        · rw [if_neg (fun z => q ⟨by omega, ⟨by omega, hb⟩, z.2.2⟩)]
          exact kr1
      · have c1 : (10 : Int32) < nI (n + 1) := (c10 hn).mpr (by omega)
        rw [if_pos c1, yr_tj hms hi hn]
        refine ⟨?_, fun _ => ⟨pst, fun q => absurd q hst, fun _ => ⟨fun _ => yr_gj hms kr hi, fun q => absurd c1 q⟩⟩, fun _ => ⟨fun q => absurd q c200', fun _ => ⟨vi, fun q => absurd q nlt, fun _ => ⟨fun _ _ q => absurd c1 q, fun q => absurd rfl q⟩⟩⟩⟩
        have eT : tj_M_years_30j86 a b (nI (n + 1)) 0 (nI i) 1 u (nI n, 0, u) = (nI (n + 1), 1, u) := by
          unfold tj_M_years_30j86
          rw [if_neg (by decide), if_pos c1]
        rw [eT, if_neg (fun z => absurd z.1 h10)]
        exact ⟨n + 1, by omega, rfl, rfl, Or.inr ⟨rfl, ⟨by omega, hb⟩, fun q => absurd q h10⟩, w1, w2, hcm, fun q => absurd q.1 h10, fun _ => kr⟩
    · -- within a span
      have hw1' : w = 1 := hw1
      subst hw1'
      have hst : v_C_startsSpan (nI i) s = 0 := by rw [cp_starts hms hi]; exact bz (fun q => q.2 hpb)
      rw [if_pos hst, if_neg (show ¬ (1 : Int32) = 0 by decide)]
      have eX : (if 10 < nI n then tj_C_years_70j115 (nI n) (nI i) s (nI n, s) else (if v_C_startsSpan (nI i) s = 0 then tj_C_years_70j115 (nI n) (nI i) s (nI n, s) else tj_C_years_70j115 (nI n) (nI i) (e_Ro_add (Int32.toInt64 (nI i)) s) (nI n, s))) = tj_C_years_70j115 (nI n) (nI i) s (nI n, s) := by
        split
        · rfl
        · first
          | rfl
          | rw [if_pos hst]
      have eT : tj_M_years_30j86 a b (nI n) 1 (nI i) 1 u (nI n, 1, u) = (nI n, 1, u) := by
        unfold tj_M_years_30j86
        rw [if_pos rfl]
      rw [eX, eT, yr_tj hms hi (by omega)]
      refine ⟨?_, fun _ => ⟨pst, fun _ => ⟨fun _ => yr_gj hms kr hi, fun _ => ⟨pst, fun _ => yr_gj hms kr hi, fun q => absurd hst q⟩⟩, fun q => absurd hst q⟩, fun _ => ⟨fun q => absurd q c200', fun _ => ⟨vi, fun q => absurd q nlt, fun _ => ⟨fun q => absurd q (show ¬ (1 : Int32) = 0 by decide), fun _ q => absurd rfl q⟩⟩⟩⟩
      refine ⟨n, by omega, rfl, rfl, Or.inr ⟨rfl, ⟨by omega, hb⟩, hcnt⟩, ?_, w2, hcm, fun q => ?_, fun q => ?_⟩
      · exact cite_P (P := fun z => agO [8002, 38000] σm z) (w_add _ w1) w1
      · rw [if_pos ⟨q.1, hb, q.2.2⟩]
        refine kR_add kr ?_ _
        have : nM u 51 + 1 = 2 * n := hcnt q.1
        have := q.1
        omega
      · rw [if_neg (fun z => q ⟨z.1, ⟨by omega, hb⟩, z.2.2⟩)]
        exact kr
  · have lt0 : 0 < lg_cmp (v_Ma_absJ (Int32.toInt64 (gI u 41 0 i) - Int32.toInt64 a) u) (Int32.toInt64 b) := hmu.mpr hb
    have hst : v_C_startsSpan (nI i) s = 0 := by rw [cp_starts hms hi]; exact bz (fun q => hb q.1)
    rw [if_pos lt0, if_pos hst]
    have eX : (if 10 < nI n then tj_C_years_70j115 (nI n) (nI i) s (nI n, s) else (if v_C_startsSpan (nI i) s = 0 then tj_C_years_70j115 (nI n) (nI i) s (nI n, s) else tj_C_years_70j115 (nI n) (nI i) (e_Ro_add (Int32.toInt64 (nI i)) s) (nI n, s))) = (nI n, s) := by
      have : tj_C_years_70j115 (nI n) (nI i) s (nI n, s) = (nI n, s) := by
        rw [yr_tj hms hi (by omega), if_neg (fun z => hb z.2.1)]
      split
      · exact this
      · first
        | exact this
        | (rw [if_pos hst]; exact this)
    rw [eX]
    have gC : (¬ (200 ≤ nI i) → p_C_startsSpan (nI i) s ∧ ((v_C_startsSpan (nI i) s = 0 → ((10 < nI n → gj_C_years_70j115 (nI n) (nI i) s) ∧ (¬ 10 < nI n → (p_C_startsSpan (nI i) s ∧ ((v_C_startsSpan (nI i) s = 0 → gj_C_years_70j115 (nI n) (nI i) s) ∧ (¬ v_C_startsSpan (nI i) s = 0 → (p_Ro_add (nI i).toInt64 s ∧ gj_C_years_70j115 (nI n) (nI i) (e_Ro_add (nI i).toInt64 s)))))))))) := fun _ => ⟨pst, fun _ => ⟨fun _ => yr_gj hms kr0 hi, fun _ => ⟨pst, fun _ => yr_gj hms kr0 hi, fun q => absurd hst q⟩⟩⟩
    rcases hw with ⟨hw0, hpb, hcnt⟩ | ⟨hw1, hpb, hcnt⟩
    · have hw0' : w = 0 := hw0
      subst hw0'
      have kr : kR s u := k2 (fun q => hpb q.2.1)
      have eT : tj_M_years_30j86 a b (nI n) 0 (nI i) 0 u (nI n, 0, u) = (nI n, 0, u) := by
        unfold tj_M_years_30j86
        rw [if_pos rfl]
      rw [eT]
      refine ⟨?_, fun q => ⟨(gC q).1, (gC q).2, fun z => absurd hst z⟩, fun _ => ⟨fun q => absurd q c200', fun _ => ⟨vi, fun _ q => absurd rfl q, fun q => absurd lt0 q⟩⟩⟩
      exact ⟨n, by omega, rfl, rfl, Or.inl ⟨rfl, fun q => hb q.2, hcnt⟩, w1, w2, hcm, fun q => absurd q.2.1.2 hb, fun _ => kr⟩
    · have hw1' : w = 1 := hw1
      subst hw1'
      by_cases h10 : n ≤ 10
      · have c1 : ¬ (10 : Int32) < nI n := fun q => by have := (c10 (by omega)).mp q; omega
        have kr := k1 ⟨h10, hpb, fun q => hb q.2⟩
        have hlen := hcnt h10
        have hlt : nM u 51 < 20 := by have : nM u 51 + 1 = 2 * n := hlen; omega
        have hc1 := cM_tell (nI (i - 1)).toInt64 hcm hlt
        have hl1 := rN_tell (nI (i - 1)).toInt64 hcm
        have eT : tj_M_years_30j86 a b (nI n) 1 (nI i) 0 u (nI n, 1, u) = (nI n, 0, e_M_tell (nI (i - 1)).toInt64 u) := by
          unfold tj_M_years_30j86
          rw [if_neg (by decide), if_neg c1, if_pos rfl, nI_p hpb.1]
        rw [eT]
        refine ⟨?_, fun q => ⟨(gC q).1, (gC q).2, fun z => absurd hst z⟩, fun _ => ⟨fun q => absurd q c200', fun _ => ⟨vi, fun _ _ _ => ⟨fun _ => pM_tell _ hcm, fun q => absurd rfl q⟩, fun q => absurd lt0 q⟩⟩⟩
        refine ⟨n, by omega, rfl, rfl, Or.inl ⟨rfl, fun q => hb q.2, fun _ => ?_⟩, w1, w_tell _ w2, hc1, fun q => absurd q.2.1.2 hb, fun _ => kr⟩
        show nM (e_M_tell (nI (i - 1)).toInt64 u) 51 = 2 * n
        have : nM u 51 + 1 = 2 * n := hlen
        omega
      · have c1 : (10 : Int32) < nI n := (c10 (by omega)).mpr (by omega)
        have kr : kR s u := k2 (fun q => h10 q.1)
        have eT : tj_M_years_30j86 a b (nI n) 1 (nI i) 0 u (nI n, 1, u) = (nI n, 0, u) := by
          unfold tj_M_years_30j86
          rw [if_neg (by decide), if_pos c1]
        rw [eT]
        refine ⟨?_, fun q => ⟨(gC q).1, (gC q).2, fun z => absurd hst z⟩, fun _ => ⟨fun q => absurd q c200', fun _ => ⟨vi, fun _ _ q => absurd c1 q, fun q => absurd lt0 q⟩⟩⟩
        exact ⟨n, by omega, rfl, rfl, Or.inl ⟨rfl, fun q => hb q.2, fun q => absurd q h10⟩, w1, w2, hcm, fun q => absurd q.2.1.2 hb, fun _ => kr⟩
/-- the marks -/
theorem f_mark {σ τ : MSto} (h : Cpl σ τ) (a b : Int32) : ∀ n, n ≤ 200 → agO [27000] σ (f_C_years_11 a b 0 σ n) ∧ (∀ y, y < n → (gI (f_C_years_11 a b 0 σ n) 27 0 y = 0 ↔ 0 < lg_cmp (v_Ma_absJ (Int32.toInt64 (gI τ 41 0 y) - Int32.toInt64 a) τ) (Int32.toInt64 b)))
  | 0, _ => ⟨agO_refl _ _, fun y hy => absurd hy (by omega)⟩
  | n + 1, hn => by
    obtain ⟨w, ih⟩ := f_mark h a b n (by omega)
    have e : f_C_years_11 a b 0 σ (n + 1) = t_C_years_11 a b (0 + nI n) (f_C_years_11 a b 0 σ n) := rfl
    rw [e]
    generalize f_C_years_11 a b 0 σ n = s at w ih ⊢
    have hv : v_Cu_at (nI n) s = gI τ 41 0 n := by
      have h2 : v_Cu_at (nI n) s = v_Cu_at (nI n) σ := by
        unfold v_Cu_at
        rw [w.i rfl]
      rw [h2, cp_at h ⟨nI_pos' (by omega), nI_le (b := 199) (by omega) (by decide)⟩, nI_cl (by omega)]
    unfold t_C_years_11
    rw [if_neg (ng_cnt l200 (by decide) (by omega)), z_nI, nI_cl (by omega), hv]
    show agO [27000] σ (if 0 < lg_cmp (v_Ma_absJ (Int32.toInt64 (gI τ 41 0 n) - Int32.toInt64 a) s) (Int32.toInt64 b) then _ else _) ∧ _
    have e2 : v_Ma_absJ (Int32.toInt64 (gI τ 41 0 n) - Int32.toInt64 a) s = v_Ma_absJ (Int32.toInt64 (gI τ 41 0 n) - Int32.toInt64 a) τ := rfl
    have e3 : v_C_gap (Int32.toInt64 (gI τ 41 0 n)) (Int32.toInt64 a) s = v_Ma_absJ (Int32.toInt64 (gI τ 41 0 n) - Int32.toInt64 a) τ := rfl
    rw [e2, e3]
    by_cases g : 0 < lg_cmp (v_Ma_absJ (Int32.toInt64 (gI τ 41 0 n) - Int32.toInt64 a) τ) (Int32.toInt64 b)
    · rw [if_pos g]
      refine ⟨agO_sI rfl w, fun y hy => ?_⟩
      rw [gI_at]
      by_cases q : y = n
      · rw [if_pos q, q]; exact ⟨fun _ => g, fun _ => rfl⟩
      · rw [if_neg q]; exact ih y (by omega)
    · rw [if_neg g]
      refine ⟨agO_sI rfl w, fun y hy => ?_⟩
      rw [gI_at]
      by_cases q : y = n
      · rw [if_pos q, q]; exact ⟨fun z => absurd z (by decide), fun z => absurd z g⟩
      · rw [if_neg q]; exact ih y (by omega)
/-- every turn of two loops, and what they ask -/
theorem nfold3 {α β : Type} {R : Nat → α → β → Prop} {G : Nat → α → Prop} {K : Nat → β → Prop} {f : Nat → α → α} {g : Nat → β → β} {a : α} {b : β} (h0 : R 0 a b) {N : Nat} (h : ∀ i, i < N → ∀ x y, R i x y → R (i + 1) (f i x) (g i y) ∧ G i x ∧ K i y) : ∀ n, n ≤ N → R n (nfold f a n) (nfold g b n) ∧ (∀ i, i < n → G i (nfold f a i) ∧ K i (nfold g b i))
  | 0, _ => ⟨h0, fun i hi => absurd hi (by omega)⟩
  | n + 1, hn => by
    obtain ⟨r, q⟩ := nfold3 h0 h n (by omega)
    obtain ⟨r1, r2, r3⟩ := h n (by omega) _ _ r
    refine ⟨r1, fun i hi => ?_⟩
    by_cases e : i = n
    · subst e; exact ⟨r2, r3⟩
    · exact q i (by omega)
theorem T_years {σ τ : MSto} (h : Cpl σ τ) (a b : Int32) : p_C_years a b σ ∧ p_M_years a b τ ∧ v_C_years a b σ = v_M_years a b τ ∧ Cpl (e_C_years a b σ) (e_M_years a b τ) := by
  have h1 := h.e0
  unfold p_C_years p_M_years v_C_years v_M_years e_C_years e_M_years
  generalize sI τ 13 0 52 0 = τ1 at h1 ⊢
  simp only [cp_isSpan, M_in]
  by_cases g : 1 ≤ b ∧ b ≤ 60
  · simp only [if_neg (bn g)]
    obtain ⟨wm, hmk⟩ := f_mark h1 a b 200 (by omega)
    have en : n_C_years_11 a b 0 σ = 200 := rfl
    rw [en]
    obtain ⟨σm, eσ⟩ : ∃ s, s = f_C_years_11 a b 0 σ 200 := ⟨_, rfl⟩
    rw [← eσ] at wm hmk ⊢
    obtain ⟨σ0, eσ0⟩ : ∃ s, s = e_Ro_clear σm := ⟨_, rfl⟩
    rw [← eσ0]
    obtain ⟨τ0, eτ0⟩ : ∃ s, s = sI τ1 13 0 51 0 := ⟨_, rfl⟩
    rw [← eτ0]
    have c0 : kR σ0 τ0 := by rw [eσ0, eτ0]; exact kR_clear σm τ1
    have w0 : agO [8002, 38000] σm σ0 := by rw [eσ0]; exact (w_Ro_clear σm).mono rfl
    have wt0 : agO [13052, 78000] τ1 τ0 := by rw [eτ0]; exact agO_sI rfl (agO_refl _ τ1)
    have m27 : mk27 (fun y => ¬ 0 < lg_cmp (v_Ma_absJ (Int32.toInt64 (gI τ1 41 0 y) - Int32.toInt64 a) τ1) (Int32.toInt64 b)) σ0 := fun y hy => by
      rw [w0.i rfl]
      exact (hmk y hy).trans Classical.not_not.symm
    have hM : ∀ y, y < 200 → (0 < lg_cmp (v_Ma_absJ (Int32.toInt64 (gI τ0 41 0 y) - Int32.toInt64 a) τ0) (Int32.toInt64 b) ↔ ¬ ¬ 0 < lg_cmp (v_Ma_absJ (Int32.toInt64 (gI τ1 41 0 y) - Int32.toInt64 a) τ1) (Int32.toInt64 b)) := fun y hy => by
      rw [wt0.i rfl]
      exact Classical.not_not.symm
    have n0 : nM τ0 51 = 0 := by rw [eτ0]; exact rN_clear τ1
    obtain ⟨R, G⟩ := nfold3 (R := yrR τ0 (fun y => ¬ 0 < lg_cmp (v_Ma_absJ (Int32.toInt64 (gI τ1 41 0 y) - Int32.toInt64 a) τ1) (Int32.toInt64 b)) σ0) (G := fun i x => g_C_years_70 (0 + nI i) x) (K := fun i y => g_M_years_30 a b (0 + nI i) y) (f := fun i s => t_C_years_70 (0 + nI i) s) (g := fun i s => t_M_years_30 a b (0 + nI i) s) (a := (0, σ0)) (b := (0, 0, τ0)) (N := 200)
      ⟨0, by omega, rfl, rfl, Or.inl ⟨rfl, fun q => absurd q.1 (by omega), fun _ => n0⟩, agO_refl _ _, agO_refl _ _, c0.2.1, fun q => absurd q.2.1.1 (by omega), fun _ => c0⟩ (fun i hi x y r => yr_step m27 hM hi x y r) 200 (by omega)
    have eC : f_C_years_70 0 (0, σ0) (n_C_years_70 0 (0, σ0)) = nfold (fun i s => t_C_years_70 (0 + nI i) s) (0, σ0) 200 := rfl
    have eM : f_M_years_30 a b 0 (0, 0, τ0) (n_M_years_30 a b 0 (0, 0, τ0)) = t_M_years_30 a b (0 + nI 200) (nfold (fun i s => t_M_years_30 a b (0 + nI i) s) (0, 0, τ0) 200) := fM30_s a b 0 _ 200
    -- the last turn
    have last : ∀ x y, yrR τ0 (fun y => ¬ 0 < lg_cmp (v_Ma_absJ (Int32.toInt64 (gI τ1 41 0 y) - Int32.toInt64 a) τ1) (Int32.toInt64 b)) σ0 200 x y → g_M_years_30 a b (0 + nI 200) y ∧ x.1 = (t_M_years_30 a b (0 + nI 200) y).1 ∧ kR x.2 (t_M_years_30 a b (0 + nI 200) y).2.2 ∧ agO [8002, 38000] σ0 x.2 ∧ agO [13052, 78000] τ0 (t_M_years_30 a b (0 + nI 200) y).2.2 := by
      rintro ⟨t, s⟩ ⟨t', w, u⟩ ⟨n, hni, e1, e2, hw, w1, w2, hcm, k1, k2⟩
      have e1' : t = nI n := e1
      have e2' : t' = nI n := e2
      subst e1'; subst e2'
      unfold t_M_years_30 g_M_years_30
      rw [z_nI, if_neg (by decide), if_pos (by decide)]
      unfold tj_M_years_30j86 gj_M_years_30j86
      rcases hw with ⟨hw0, hpb, hcnt⟩ | ⟨hw1, hpb, hcnt⟩
      · have hw0' : w = 0 := hw0
        subst hw0'
        refine ⟨fun _ => ⟨fun _ q => absurd rfl q, fun q => absurd (by decide) q⟩, ?_⟩
        rw [if_pos rfl]
        exact ⟨rfl, k2 (fun q => hpb q.2.1), w1, w2⟩
      · have hw1' : w = 1 := hw1
        subst hw1'
        refine ⟨fun _ => ⟨fun _ _ _ => ⟨fun _ => pM_tell _ hcm, fun q => absurd rfl q⟩, fun q => absurd (by decide) q⟩, ?_⟩
        rw [if_neg (show ¬ (0 : Int32) = 1 by decide)]
        by_cases h10 : n ≤ 10
        · have c1 : ¬ (10 : Int32) < nI n := fun q => by have := (c10 (by omega)).mp q; omega
          rw [if_neg c1, if_pos rfl]
          exact ⟨rfl, k1 ⟨h10, hpb, fun q => absurd q.1 (by omega)⟩, w1, w_tell _ w2⟩
        · have c1 : (10 : Int32) < nI n := (c10 (by omega)).mpr (by omega)
          rw [if_pos c1]
          exact ⟨rfl, k2 (fun q => h10 q.1), w1, w2⟩
    obtain ⟨g1, g2, g3, g4, g5⟩ := last _ _ R
    rw [eC, eM]
    refine ⟨fun _ => ⟨fun i hi => ⟨fun _ => ⟨pc_at _ _, fun _ => ?_, fun _ => ?_⟩, q_cnt l200 (by decide) hi⟩, fun _ => ⟨fun i hi => ⟨(G i hi).1, q_cnt l200 (by decide) hi⟩, fun q => q (e_cnt l200)⟩, fun q => q (e_cnt l200)⟩, fun _ => ⟨fun i hi => ⟨?_, ?_⟩, fun q => q (show (200 : Int32) < 0 + nI 201 by decide)⟩, g2, ?_⟩
    · rw [z_nI]; exact nI_inb hi (by decide)
    · rw [z_nI]; exact nI_inb hi (by decide)
    · have hi' : i < 201 := hi
      by_cases q : i = 200
      · subst q; exact g1
      · exact (G i (by omega)).2
    · have hi' : i < 201 := hi
      unfold q_M_years_30s
      rw [z_nI, if_neg (fun q => by have := (ltN (a := 200) (by decide) (by omega)).mp q; omega)]
      decide
    · have v1 : agO [27000, 8002, 38000] σ (nfold (fun i s => t_C_years_70 (0 + nI i) s) (0, σ0) 200).2 := ((wm.mono (W := [27000, 8002, 38000]) rfl).step w0 rfl).step g4 rfl
      exact h1.mvR v1 (wt0.trans g5) rfl rfl g3
  · simp only [if_pos (bz g)]
    exact ⟨fun q => absurd (bz g) q, fun q => absurd (bz g) q, trivial, h1⟩

