/-! weights of years as numbers; likely, between -/
theorem like_le (a v : Int64) (s : Int32) (τ : MSto) : ∃ L, v_M_likenessOf a v s τ = nI L ∧ L ≤ 100 := by
  unfold v_M_likenessOf
  repeat' split
  all_goals first
    | exact ⟨100, rfl, by decide⟩
    | exact ⟨88, rfl, by decide⟩
    | exact ⟨61, rfl, by decide⟩
    | exact ⟨32, rfl, by decide⟩
    | exact ⟨14, rfl, by decide⟩
    | exact ⟨4, rfl, by decide⟩
    | exact ⟨1, rfl, by decide⟩
    | exact ⟨0, rfl, by decide⟩
theorem w_nat {τ : MSto} {k : Nat} (y : Int32) : ∀ n, n ≤ 15 → ∃ W, nfold (t_M_weight (nI k) y τ) 1 n = lN W ∧ W ≤ 100 ^ fb_ct k.testBit n
  | 0, _ => ⟨1, rfl, Nat.le_refl 1⟩
  | n + 1, hn => by
    obtain ⟨W, e, hW⟩ := w_nat (τ := τ) (k := k) y n (by omega)
    show ∃ W', t_M_weight (nI k) y τ n (nfold (t_M_weight (nI k) y τ) 1 n) = lN W' ∧ _
    rw [e]
    unfold t_M_weight
    rw [hasM (by omega), fb_ct_succ]
    by_cases g : k.testBit n = true
    · obtain ⟨L, eL, hL⟩ := like_le (Int32.toInt64 (v_M_cleared (nI n) τ)) (Int32.toInt64 (gI τ 41 0 y.toNatClampNeg)) (v_M_spanOf (nI n) τ) τ
      rw [if_neg (bn g), if_pos g, eL, nI_l (by omega), lN_mul]
      refine ⟨_, rfl, ?_⟩
      rw [Nat.pow_succ]
      exact Nat.mul_le_mul hW hL
    · rw [if_pos (bz g), if_neg g]
      exact ⟨W, rfl, hW⟩
noncomputable def wN (τ : MSto) (k y : Nat) : Nat := (w_M_W (nI k) τ y).toInt.natAbs
theorem wN_eq {τ : MSto} {k : Nat} (h6 : pop k ≤ 6) (hP : nM τ 10 ≤ 12) (y : Nat) : w_M_W (nI k) τ y = lN (wN τ k y) ∧ wN τ k y ≤ 1000000000000 := by
  obtain ⟨W, e, hW⟩ := w_nat (τ := τ) (k := k) (nI y) (nM τ 10) (by omega)
  have h1 : fb_ct k.testBit (nM τ 10) ≤ 6 := Nat.le_trans (fb_ct_mono _ (by omega)) h6
  have h2 : W ≤ 1000000000000 := Nat.le_trans hW (Nat.le_trans (Nat.pow_le_pow_right (by decide) h1) (by decide))
  have e2 : w_M_W (nI k) τ y = lN W := e
  have e3 : wN τ k y = W := by
    unfold wN
    rw [e2, pk_lT (by omega)]
    rfl
  rw [e3]
  exact ⟨e2, h2⟩
theorem sumJ_lN {f : Nat → Int64} {w : Nat → Nat} : ∀ n, (∀ y, y < n → f y = lN (w y)) → sumJ f n = lN (fb_sm w n)
  | 0, _ => rfl
  | n + 1, h => by rw [sumJ_s, sumJ_lN n (fun y hy => h y (by omega)), h n (by omega), lN_add, fb_sm_succ]
theorem f_weigh {σ τ : MSto} (h : Cpl σ τ) {k : Nat} (hs : ∀ j, k.testBit j = true → j < nM τ 10 ∧ bt (gI τ 13 0 15) j = true) : ∀ n, n ≤ 200 → (f_C_weighYears_5 (nI k) 0 (0, σ) n).1 = sumJ (w_M_W (nI k) τ) n ∧ agO [26000] σ (f_C_weighYears_5 (nI k) 0 (0, σ) n).2 ∧ ∀ y, y < n → gJ (f_C_weighYears_5 (nI k) 0 (0, σ) n).2 26 0 y = w_M_W (nI k) τ y
  | 0, _ => ⟨rfl, agO_refl _ _, fun y hy => absurd hy (by omega)⟩
  | n + 1, hn => by
    obtain ⟨i1, i2, i3⟩ := f_weigh h hs n (by omega)
    have e : f_C_weighYears_5 (nI k) 0 (0, σ) (n + 1) = t_C_weighYears_5 (nI k) (0 + nI n) (f_C_weighYears_5 (nI k) 0 (0, σ) n) := rfl
    rw [e]
    generalize f_C_weighYears_5 (nI k) 0 (0, σ) n = x at i1 i2 i3 ⊢
    obtain ⟨v, s⟩ := x
    have h' : Cpl s τ := h.mv i2 (agO_refl [] τ) rfl rfl
    have hw := (cp_weightOf h' hs (y := n) (by omega)).1
    unfold t_C_weighYears_5
    rw [if_neg (ng_cnt l200 (by decide) (by omega)), z_nI, nI_cl (by omega)]
    show v + gJ (sJ s 26 0 n (v_C_weightOf (nI n) (nI k) s)) 26 0 n = _ ∧ agO [26000] σ (sJ s 26 0 n (v_C_weightOf (nI n) (nI k) s)) ∧ ∀ y, y < n + 1 → gJ (sJ s 26 0 n (v_C_weightOf (nI n) (nI k) s)) 26 0 y = _
    rw [hw]
    have i1' : v = sumJ (w_M_W (nI k) τ) n := i1
    refine ⟨?_, agO_sJ rfl i2, fun y hy => ?_⟩
    · rw [gJ_sJ, if_pos ⟨rfl, rfl, rfl⟩, i1', sumJ_s]; rfl
    · rw [gJ_sJ]
      by_cases q : y = n
      · rw [if_pos ⟨rfl, rfl, q⟩, q]; rfl
      · rw [if_neg (fun z => q z.2.2)]; exact i3 y (by omega)
theorem weigh {σ τ : MSto} (h : Cpl σ τ) {a : Int32} (ha : ¬ v_M_areCounted a 1 6 τ = 0) : ∃ w : Nat → Nat, (∀ y, y < 200 → w y ≤ 1000000000000) ∧ p_C_weighYears a σ ∧ p_M_weighYears a τ ∧ v_C_weighYears a σ = lN (fb_sm w 200) ∧ gJ (e_M_weighYears a τ) 13 0 60 = lN (fb_sm w 200) ∧ (∀ y, y < 200 → gJ (e_C_weighYears a σ) 26 0 y = lN (w y)) ∧ (∀ y, y < 200 → gJ (e_M_weighYears a τ) 81 0 y = lN (w y)) ∧ Cpl (e_C_weighYears a σ) (e_M_weighYears a τ) := by
  obtain ⟨k, rfl, hk, -, hs, -, h6⟩ := areC h.m ha
  have hk15 : pop k ≤ 15 := fb_ct_le _ _
  have hp6 : pop k ≤ 6 := (leN (b := 6) (by omega) (by decide)).mp h6
  have hW := fun y => wN_eq (τ := τ) hp6 h.P12 y
  obtain ⟨i1, i2, i3⟩ := f_weigh h hs 200 (by omega)
  have eS : sumJ (w_M_W (nI k) τ) 200 = lN (fb_sm (wN τ k) 200) := sumJ_lN 200 (fun y _ => (hW y).1)
  refine ⟨wN τ k, fun y _ => (hW y).2, ?_, h.m, i1.trans eS, ?_, fun y hy => (i3 y hy).trans (hW y).1, fun y hy => ?_, h.mv (w_C_weighYears (nI k) σ) (w_M_weighYears (nI k) τ) rfl rfl⟩
  · unfold p_C_weighYears
    refine ⟨fun i hi => ⟨fun _ => ?_, q_cnt l200 (by decide) hi⟩, fun q => q (e_cnt l200)⟩
    have hi' : i < 200 := hi
    rw [z_nI]
    have vi : vp_in (nI i) 200 := nI_inb hi' (by decide)
    have h' : Cpl (f_C_weighYears_5 (nI k) 0 (0, σ) i).2 τ := h.mv (f_weigh h hs i (by omega)).2.1 (agO_refl [] τ) rfl rfl
    exact ⟨(cp_weightOf h' hs hi').2.1, vi, vi⟩
  · exact eS
  · show (if (81 : Nat) = 81 ∧ (0 : Nat) = 0 ∧ y < 200 then w_M_W (nI k) τ y else gJ τ 81 0 y) = _
    rw [if_pos ⟨rfl, rfl, hy⟩]
    exact (hW y).1
theorem rowF {σ τ : MSto} (h : Cpl σ τ) {u d : Int64} (hu : -9223372036854775808 < u.toInt) (hd : 0 < d) : Cpl (e_Ro_addFraction u d (e_Ro_clear σ)) (e_M_tellPart u d (sI τ 13 0 51 0)) ∧ p_Ro_addFraction u d (e_Ro_clear σ) ∧ p_M_tellPart u d (sI τ 13 0 51 0) := by
  have c0 := kR_clear σ τ
  obtain ⟨k1, k2, k3, -⟩ := kR_frac c0 (by rw [rN_clear]; decide) hu hd
  exact ⟨h.mvR (W := [8002, 38000]) (V := [13052, 78000]) (((w_Ro_clear σ).mono (W := [8002, 38000]) rfl).step (w_Ro_addFraction _ _ _) rfl) ((agO_sI (W := [13052, 78000]) rfl (agO_refl _ τ)).step (w_M_tellPart _ _ _) rfl) rfl rfl k1, k2, k3⟩
theorem lN_gt {n : Nat} (h0 : 0 < n) (h : n < 2 ^ 63) : (0 : Int64) < lN n := (pk_lLT (a := 0) (by decide) h).mpr h0
theorem lN_mn {n : Nat} (h : n < 2 ^ 63) : -9223372036854775808 < (lN n).toInt := by rw [pk_lT h]; omega
theorem cmp0N {n : Nat} (h : n < 2 ^ 63) : lg_cmp (lN n) 0 = 0 ↔ n = 0 := cmp0 h
theorem sum_bd {w : Nat → Nat} (h : ∀ y, y < 200 → w y ≤ 1000000000000) : fb_sm w 200 ≤ 200000000000000 := Nat.le_trans (fb_sm_bound h) (by decide)
theorem clear_marks (s : MSto) : ∀ n, n ≤ 200 → ∀ y, y < n → gI (f_C_clearMarks_2 0 s n) 27 0 y = 0
  | 0, _, y, hy => absurd hy (by omega)
  | n + 1, hn, y, hy => by
    have ih := clear_marks s n (by omega)
    show gI (t_C_clearMarks_2 (0 + nI n) (f_C_clearMarks_2 0 s n)) 27 0 y = 0
    unfold t_C_clearMarks_2
    rw [if_neg (ng_cnt l200 (by decide) (by omega)), z_nI, nI_cl (by omega), gI_at]
    split
    · rfl
    · exact ih y (by omega)
theorem pc_clearMarks (s : MSto) : p_C_clearMarks s := by
  refine ⟨fun i hi => ⟨fun _ => ?_, q_cnt l200 (by decide) hi⟩, fun q => q (e_cnt l200)⟩
  rw [z_nI]; exact nI_inb hi (by decide)
theorem pc_heaviest (s : MSto) : p_C_heaviestUnmarked s := by
  refine ⟨fun i hi => ⟨fun _ => ?_, q_cnt l200 (by decide) hi⟩, fun q => q (e_cnt l200)⟩
  rw [z_nI]
  have v : vp_in (nI i) 200 := nI_inb hi (by decide)
  exact ⟨v, fun _ => ⟨v, fun _ => v⟩⟩
theorem lN_m1 {n : Nat} (h : n < 2 ^ 63) : ¬ lg_cmp (lN n) (-1) ≤ 0 := by
  rw [cmp_le, Int64.le_iff_toInt_le, pk_lT h, show (-1 : Int64).toInt = -1 from rfl]
  omega
theorem cmp_leN {a b : Nat} (ha : a < 2 ^ 63) (hb : b < 2 ^ 63) : lg_cmp (lN a) (lN b) ≤ 0 ↔ a ≤ b := by rw [cmp_le]; exact pk_lLE ha hb
/-- the heaviest of all, both ways -/
theorem f_likely {s t : MSto} {w : Nat → Nat} (hw : ∀ y, y < 200 → w y < 2 ^ 63) (h0 : ∀ y, y < 200 → gI s 27 0 y = 0) (h1 : ∀ y, y < 200 → gJ s 26 0 y = lN (w y)) (h2 : ∀ y, y < 200 → gJ t 81 0 y = lN (w y)) : ∀ n, n ≤ 199 → ∃ b, b ≤ n ∧ f_C_heaviestUnmarked_9 0 s (0, (-1)) (n + 1) = (nI b, lN (w b)) ∧ f_M_likely_39 1 t 0 n = nI b
  | 0, _ => by
    refine ⟨0, by omega, ?_, rfl⟩
    show t_C_heaviestUnmarked_9 (0 + nI 0) s (0, -1) = _
    unfold t_C_heaviestUnmarked_9
    rw [if_neg (by decide), z_nI, nI_cl (by omega), h0 0 (by omega), h1 0 (by omega), if_pos rfl, if_neg (lN_m1 (hw 0 (by omega)))]
  | n + 1, hn => by
    obtain ⟨b, hb, e1, e2⟩ := f_likely hw h0 h1 h2 n (by omega)
    have c1 : f_C_heaviestUnmarked_9 0 s (0, (-1)) (n + 1 + 1) = t_C_heaviestUnmarked_9 (0 + nI (n + 1)) s (f_C_heaviestUnmarked_9 0 s (0, (-1)) (n + 1)) := rfl
    have c2 : f_M_likely_39 1 t 0 (n + 1) = t_M_likely_39 (1 + nI n) t (f_M_likely_39 1 t 0 n) := rfl
    rw [c1, c2, e1, e2]
    unfold t_C_heaviestUnmarked_9 t_M_likely_39
    have g200 : ¬ (200 : Int32) ≤ nI (n + 1) := nI_ge (b := 200) (by omega) (by decide)
    rw [nI_1s, z_nI, if_neg g200, if_neg g200, nI_cl (by omega), nI_cl (by omega), h0 _ (by omega), h1 _ (by omega), h2 _ (by omega), h2 _ (by omega), if_pos rfl]
    show ∃ b', b' ≤ n + 1 ∧ (if lg_cmp (lN (w (n + 1))) (lN (w b)) ≤ 0 then (nI b, lN (w b)) else (nI (n + 1), lN (w (n + 1)))) = (nI b', lN (w b')) ∧ _
    by_cases q : lg_cmp (lN (w (n + 1))) (lN (w b)) ≤ 0
    · rw [if_pos q, if_pos q]; exact ⟨b, by omega, rfl, rfl⟩
    · rw [if_neg q, if_neg q]; exact ⟨n + 1, by omega, rfl, rfl⟩
theorem T_likely {σ τ : MSto} (h : Cpl σ τ) (a : Int32) : p_C_likely a σ ∧ p_M_likely a τ ∧ v_C_likely a σ = v_M_likely a τ ∧ Cpl (e_C_likely a σ) (e_M_likely a τ) := by
  have h1 := h.e0
  unfold p_C_likely p_M_likely v_C_likely v_M_likely e_C_likely e_M_likely vj_C_likely_j60 ej_C_likely_j60
  generalize sI τ 13 0 52 0 = τ1 at h1 ⊢
  have hpc := pc_areCounted h1 a 1 6
  simp only [cp_areCounted h1 a (lo := 1) (hi := 6) (by decide)]
  by_cases g : v_M_areCounted a 1 6 τ1 = 0
  · simp only [if_pos g]
    exact ⟨⟨hpc, fun q => absurd g q⟩, fun q => absurd g q, trivial, h1⟩
  · simp only [if_neg g]
    obtain ⟨w, wb, p1, p2, eC, eM, w1, w2, hc⟩ := weigh h1 g
    have hS := sum_bd wb
    have hw63 : ∀ y, y < 200 → w y < 2 ^ 63 := fun y hy => by have := wb y hy; omega
    rw [eC, eM]
    generalize e_C_weighYears a σ = σw at w1 hc ⊢
    obtain ⟨τw, eτw⟩ : ∃ t, t = e_M_weighYears a τ1 := ⟨_, rfl⟩
    rw [← eτw] at eM w2 hc ⊢
    by_cases gz : lg_cmp (lN (fb_sm w 200)) 0 = 0
    · simp only [if_pos gz]
      exact ⟨⟨hpc, fun _ => ⟨p1, fun q => absurd gz q⟩⟩, fun _ => ⟨p2, fun q => absurd gz q⟩, trivial, hc⟩
    · simp only [if_neg gz]
      have hS0 : 0 < fb_sm w 200 := by
        rcases Nat.eq_zero_or_pos (fb_sm w 200) with q | q
        · exact absurd ((cmp0N (by omega)).mpr q) gz
        · exact q
      have m0 : ∀ y, y < 200 → gI (e_C_clearMarks σw) 27 0 y = 0 := fun y hy => clear_marks σw 200 (by omega) y hy
      have k26 : ∀ y, y < 200 → gJ (e_C_clearMarks σw) 26 0 y = lN (w y) := fun y hy => by rw [(w_C_clearMarks σw).j rfl]; exact w1 y hy
      obtain ⟨b, hb, e1, e2⟩ := f_likely hw63 m0 k26 w2 199 (by omega)
      have eV : v_C_heaviestUnmarked (e_C_clearMarks σw) = nI b := by
        unfold v_C_heaviestUnmarked
        exact congrArg Prod.fst e1
      have eW : f_M_likely_39 1 τw 0 (n_M_likely_39 1 τw 0) = nI b := e2
      rw [eV, eW, nI_cl (by omega)]
      have x1 : gJ (e_Ro_clear (e_C_clearMarks σw)) 26 0 b = lN (w b) := by
        rw [(w_Ro_clear _).j rfl]; exact k26 b (by omega)
      have x2 : gJ (sI τw 13 0 51 0) 81 0 b = lN (w b) := w2 b (by omega)
      have x3 : gJ (sI τw 13 0 51 0) 13 0 60 = lN (fb_sm w 200) := eM
      rw [x1, x2, x3]
      have hc2 : Cpl (e_C_clearMarks σw) τw := hc.mv (w_C_clearMarks σw) (agO_refl [] τw) rfl rfl
      obtain ⟨r1, r2, r3⟩ := rowF hc2 (u := lN (w b)) (d := lN (fb_sm w 200)) (lN_mn (hw63 b (by omega))) (lN_gt hS0 (by omega))
      have vb : vp_in (nI b) 200 := nI_inb (by omega) (by decide)
      refine ⟨⟨hpc, fun _ => ⟨p1, fun _ => ⟨pc_clearMarks _, pc_heaviest _, vb, r2⟩⟩⟩, fun _ => ⟨p2, fun _ => ⟨fun i hi => ⟨fun _ => ⟨?_, ?_⟩, ?_⟩, fun _ => ⟨vb, r3⟩, fun q => q (by show (200 : Int32) ≤ 1 + nI 199; decide)⟩⟩, rfl, r1⟩
      · have hi' : i < 199 := hi
        rw [nI_1s]; exact nI_inb (by omega) (by decide)
      · have hi' : i < 199 := hi
        obtain ⟨b', hb', -, e2'⟩ := f_likely hw63 m0 k26 w2 i (by omega)
        rw [e2']; exact nI_inb (by omega) (by decide)
      · have hi' : i < 199 := hi
        unfold q_M_likely_39s
        rw [nI_1s, if_neg (show ¬ (200 : Int32) ≤ nI (i + 1) from nI_ge (b := 200) (by omega) (by decide))]
        decide
/-! between -/
theorem leastN_eq {P : Nat → Prop} {n m : Nat} (h1 : ∀ i, i < m → ¬ P i) (h2 : P m) (hm : m < n) : leastN P n = m := by
  have hl := leastN_le P n
  have c1 : ¬ leastN P n < m := fun q => h1 _ q (leastN_off (by omega))
  have c2 : ¬ m < leastN P n := fun q => leastN_on q h2
  omega
theorem leastN_end {P : Nat → Prop} {n : Nat} (h1 : ∀ i, i < n → ¬ P i) : leastN P n = n := by
  have hl := leastN_le P n
  rcases Nat.lt_or_ge (leastN P n) n with q | q
  · exact absurd (leastN_off q) (h1 _ q)
  · omega
theorem f_between {s t : MSto} {w : Nat → Nat} (h1 : ∀ y, y < 200 → gJ s 26 0 y = lN (w y)) (h2 : ∀ y, y < 200 → gJ t 81 0 y = lN (w y)) {f u : Nat} (hfu : u < 200) (z : Int64) : ∀ n, f + n ≤ u + 1 → f_C_between_55 (nI u) z (nI f) s 0 n = lN (fb_sm (fun i => w (f + i)) n) ∧ f_M_between_60 (nI u) (nI f) t 0 n = lN (fb_sm (fun i => w (f + i)) n)
  | 0, _ => ⟨rfl, rfl⟩
  | n + 1, hn => by
    obtain ⟨e1, e2⟩ := f_between h1 h2 hfu z (f := f) n (by omega)
    have c1 : f_C_between_55 (nI u) z (nI f) s 0 (n + 1) = t_C_between_55 (nI u) z (nI f + nI n) s (f_C_between_55 (nI u) z (nI f) s 0 n) := rfl
    have c2 : f_M_between_60 (nI u) (nI f) t 0 (n + 1) = t_M_between_60 (nI u) (nI f + nI n) t (f_M_between_60 (nI u) (nI f) t 0 n) := rfl
    have g : ¬ nI u < nI (f + n) := nI_nlt (by omega) (by omega)
    rw [c1, c2, e1, e2, nI_add]
    unfold t_C_between_55 t_M_between_60
    rw [if_neg g, if_neg g, nI_cl (by omega), h1 _ (by omega), h2 _ (by omega), lN_add]
    exact ⟨rfl, rfl⟩
theorem T_between {σ τ : MSto} (h : Cpl σ τ) (a b c : Int32) : p_C_between a b c σ ∧ p_M_between a b c τ ∧ v_C_between a b c σ = v_M_between a b c τ ∧ Cpl (e_C_between a b c σ) (e_M_between a b c τ) := by
  have h1 := h.e0
  unfold p_C_between p_M_between v_C_between v_M_between e_C_between e_M_between
  generalize sI τ 13 0 52 0 = τ1 at h1 ⊢
  have hpc := pc_areCounted h1 a 1 6
  simp only [cp_areCounted h1 a (lo := 1) (hi := 6) (by decide), cp_isYear, M_isYear]
  by_cases g : v_M_areCounted a 1 6 τ1 = 0
  · simp only [if_pos g]
    exact ⟨⟨hpc, fun q => absurd g q⟩, fun q => absurd g q, trivial, h1⟩
  · simp only [if_neg g]
    by_cases g1 : 0 ≤ b ∧ b ≤ 199
    · by_cases g2 : 0 ≤ c ∧ c ≤ 199
      · simp only [if_neg (bn g1), if_neg (bn g2)]
        by_cases g3 : b ≤ c
        · simp only [if_pos g3]
          obtain ⟨w, wb, p1, p2, eC, eM, w1, w2, hc⟩ := weigh h1 g
          have hS := sum_bd wb
          rw [eC, eM]
          generalize e_C_weighYears a σ = σw at w1 hc ⊢
          obtain ⟨τw, eτw⟩ : ∃ t, t = e_M_weighYears a τ1 := ⟨_, rfl⟩
          rw [← eτw] at eM w2 hc ⊢
          by_cases gz : lg_cmp (lN (fb_sm w 200)) 0 = 0
          · simp only [if_pos gz]
            exact ⟨⟨hpc, fun _ _ _ _ => ⟨p1, fun q => absurd gz q⟩⟩, fun _ _ _ _ => ⟨p2, fun q => absurd gz q⟩, trivial, hc⟩
          · simp only [if_neg gz]
            have hS0 : 0 < fb_sm w 200 := by
              rcases Nat.eq_zero_or_pos (fb_sm w 200) with q | q
              · exact absurd ((cmp0N (by omega)).mpr q) gz
              · exact q
            obtain ⟨f, rfl, hf⟩ := nat_rg (b := 199) g1 (by decide)
            obtain ⟨u, rfl, hu⟩ := nat_rg (b := 199) g2 (by decide)
            have hfu : f ≤ u := (leN (by omega) (by omega)).mp g3
            have F := f_between w1 w2 (f := f) (u := u) (by omega) (lN (fb_sm w 200))
            have nC : n_C_between_55 (nI u) (lN (fb_sm w 200)) (nI f) σw 0 = u + 1 - f := by
              unfold n_C_between_55
              rw [nI_cl (by omega), nI_cl (by omega)]
            have on : ∀ i, i < u + 1 - f → ¬ nI u < nI f + nI i := fun i hi => by rw [nI_add]; exact nI_nlt (by omega) (by omega)
            have off : nI u < nI f + nI (u + 1 - f) := by rw [nI_add]; exact nI_lt (by omega) (by omega)
            have nMt : n_M_between_60 (nI u) (nI f) τw 0 = u + 1 - f := by
              have on' : ∀ i, i < u + 1 - f → ¬ q_M_between_60s (nI u) (nI f + nI i) τw (f_M_between_60 (nI u) (nI f) τw 0 i) = 1 := fun i hi => by
                unfold q_M_between_60s
                rw [if_neg (on i hi)]
                decide
              by_cases q : u + 1 - f < 200
              · refine leastN_eq on' ?_ q
                unfold q_M_between_60s
                rw [if_pos off]
              · have : u + 1 - f = 200 := by omega
                rw [this] at on' ⊢
                exact leastN_end on'
            rw [nC, nMt]
            obtain ⟨F1, F2⟩ := F (u + 1 - f) (by omega)
            rw [F1, F2]
            have x3 : gJ (sI τw 13 0 51 0) 13 0 60 = lN (fb_sm w 200) := eM
            rw [x3]
            have hb : fb_sm (fun i => w (f + i)) (u + 1 - f) ≤ 200 * 1000000000000 := Nat.le_trans (fb_sm_bound (c := 1000000000000) (fun i hi => wb (f + i) (by omega))) (Nat.mul_le_mul_right _ (by omega))
            obtain ⟨r1, r2, r3⟩ := rowF hc (u := lN (fb_sm (fun i => w (f + i)) (u + 1 - f))) (d := lN (fb_sm w 200)) (lN_mn (by omega)) (lN_gt hS0 (by omega))
            refine ⟨⟨hpc, fun _ _ _ _ => ⟨p1, fun _ => ⟨fun i hi => ⟨fun _ => ?_, ?_⟩, fun _ => r2, fun q => q off⟩⟩⟩, fun _ _ _ _ => ⟨p2, fun _ => ⟨fun i hi => ⟨fun _ => ?_, ?_⟩, fun _ => r3, fun q => q off⟩⟩, trivial, r1⟩
            · rw [nI_add]; exact nI_inb (by omega) (by decide)
            · unfold q_C_between_55s; rw [if_neg (on i hi)]; decide
            · rw [nI_add]; exact nI_inb (by omega) (by decide)
            · unfold q_M_between_60s; rw [if_neg (on i hi)]; decide
        · simp only [if_neg g3]
          exact ⟨⟨hpc, fun _ _ _ q => absurd q g3⟩, fun _ _ _ q => absurd q g3, trivial, h1⟩
      · simp only [if_neg (bn g1), if_pos (bz g2)]
        exact ⟨⟨hpc, fun _ _ q => absurd (bz g2) q⟩, fun _ _ q => absurd (bz g2) q, trivial, h1⟩
    · simp only [if_pos (bz g1)]
      exact ⟨⟨hpc, fun _ q => absurd (bz g1) q⟩, fun _ q => absurd (bz g1) q, trivial, h1⟩

