/-! again -/
theorem cM_mv {V : List Nat} {τ τ' : MSto} (w : agO V τ τ') {f b : Nat} (hf : inW V 13 f = false) (h : cM τ f b) : cM τ' f b := by
  unfold cM nM at h ⊢
  rw [w.i hf]; exact h
theorem nM_mv {V : List Nat} {τ τ' : MSto} (w : agO V τ τ') {f : Nat} (hf : inW V 13 f = false) : nM τ' f = nM τ f := by
  unfold nM; rw [w.i hf]
theorem cnt14 {σ s : MSto} (h : gI s 14 0 2 = gI σ 14 0 2) : v_C_pieceCount s = v_C_pieceCount σ := by
  have e : v_AL_size 14 0 s = v_AL_size 14 0 σ := h
  unfold v_C_pieceCount v_Ma_min
  rw [e]
theorem cnt15 {σ s : MSto} (h : gI s 15 0 2 = gI σ 15 0 2) : v_C_storyCount s = v_C_storyCount σ := by
  have e : v_AL_size 15 0 s = v_AL_size 15 0 σ := h
  unfold v_C_storyCount v_Ma_min
  rw [e]
theorem eL_mv {W : List Nat} {σ s : MSto} (w : agO W σ s) {k i : Nat} (hk : inW W k i = false) : eL s k i = eL σ k i := by
  unfold eL; rw [w.r hk]
theorem bI_if (b : Bool) : bI (b = true) = if b = true then 1 else 0 := by
  cases b with
  | true => rw [if_pos rfl]; exact if_pos rfl
  | false => rw [if_neg (by decide)]; exact bz (by decide)
theorem ag_47 {σ τ s0 : MSto} (h : Cpl σ τ) (w0 : agO [1002, 12013] σ s0) (q : Nat) : ∀ n, n ≤ nM τ 10 → (agO [7005, 7006] s0 (f_C_again_47 q 0 s0 n) ∧ (∀ p, p < n → gI (f_C_again_47 q 0 s0 n) 7 p 5 = gI σ 39 q p ∧ gI (f_C_again_47 q 0 s0 n) 7 p 4 = bI (bt (gI σ 4 q 2) p = true))) ∧ (n < nM τ 10 → g_C_again_47 q (0 + nI n) (f_C_again_47 q 0 s0 n) ∧ ¬ q_C_again_47s q (0 + nI n) (f_C_again_47 q 0 s0 n) = 1) := by
  have hP := h.P12
  have step : ∀ n (s : MSto), n < nM τ 10 → agO [1002, 12013, 7005, 7006] σ s → t_C_again_47 q (0 + nI n) s = sI (sI s 7 n 5 (gI σ 39 q n)) 7 n 4 (bI (bt (gI σ 4 q 2) n = true)) ∧ g_C_again_47 q (0 + nI n) s ∧ ¬ q_C_again_47s q (0 + nI n) s = 1 := by
    intro n s hn w
    have e14 : gI s 14 0 2 = gI σ 14 0 2 := w.i rfl
    have ec : v_C_pieceCount s = nI (nM τ 10) := (cnt14 e14).trans (cp_pieceCount h)
    have hs : ∀ x, v_C_has (gI (sI s 7 n 5 x) 4 q 2) (nI n) (sI s 7 n 5 x) = bI (bt (gI σ 4 q 2) n = true) := fun x => by
      rw [cp_hasC _ (by omega), gI_sI, if_neg (fun z => absurd z.1 (by decide)), w.i rfl]
    unfold t_C_again_47 g_C_again_47 q_C_again_47s tj_C_again_47j92
    rw [ec, if_neg (ng_cnt rfl (by omega) hn), if_neg (ng_cnt rfl (by omega) hn), z_nI, nI_cl (by omega), al_v (by omega), eL_mv w (k := 14) (i := n) rfl, h.eP hn, hs, w.i (k := 39) rfl]
    refine ⟨rfl, fun _ => ⟨al_p (e14.trans h.lP) (by omega) hn, nI_inb (by omega) (by decide), nar01 ?_⟩, by decide⟩
    by_cases g : bt (gI σ 4 q 2) n = true
    · right; unfold bI; rw [if_pos g]
    · left; exact bz g
  have main : ∀ n, n ≤ nM τ 10 → (agO [7005, 7006] s0 (f_C_again_47 q 0 s0 n) ∧ (∀ p, p < n → gI (f_C_again_47 q 0 s0 n) 7 p 5 = gI σ 39 q p ∧ gI (f_C_again_47 q 0 s0 n) 7 p 4 = bI (bt (gI σ 4 q 2) p = true))) := by
    intro n
    induction n with
    | zero => exact fun _ => ⟨agO_refl _ s0, fun p hp => absurd hp (by omega)⟩
    | succ n ih =>
      intro hn
      obtain ⟨w, hv⟩ := ih (by omega)
      show agO [7005, 7006] s0 (t_C_again_47 q (0 + nI n) (f_C_again_47 q 0 s0 n)) ∧ ∀ p, p < n + 1 → gI (t_C_again_47 q (0 + nI n) (f_C_again_47 q 0 s0 n)) 7 p 5 = gI σ 39 q p ∧ gI (t_C_again_47 q (0 + nI n) (f_C_again_47 q 0 s0 n)) 7 p 4 = bI (bt (gI σ 4 q 2) p = true)
      rw [(step n _ (by omega) ((w0.mono rfl).step w rfl)).1]
      refine ⟨agO_sI rfl (agO_sI rfl w), fun p hp => ?_⟩
      by_cases e : p = n
      · subst e
        constructor
        · rw [gI_sI, if_neg (fun z => absurd z.2.2 (by decide)), gI_sI, if_pos ⟨rfl, rfl, rfl⟩]
        · rw [gI_sI, if_pos ⟨rfl, rfl, rfl⟩]
      · rw [gI_sI, if_neg (fun z => e z.2.1), gI_sI, if_neg (fun z => e z.2.1), gI_sI, if_neg (fun z => e z.2.1), gI_sI, if_neg (fun z => e z.2.1)]
        exact hv p (by omega)
  exact fun n hn => ⟨main n hn, fun h2 => (step n _ h2 ((w0.mono rfl).step (main n hn).1 rfl)).2⟩
theorem ag_100 {σ τ s0 : MSto} (h : Cpl σ τ) (w0 : agO [1002, 12013, 7005, 7006] σ s0) (q : Nat) : ∀ n, n ≤ nM τ 17 → (agO [9002] s0 (f_C_again_100 q 0 s0 n) ∧ (∀ i f, f ≠ 1 → f < 20 → gI (f_C_again_100 q 0 s0 n) 9 i f = gI σ 9 i f) ∧ (∀ i f, gI (f_C_again_100 q 0 s0 n) 7 i f = gI s0 7 i f) ∧ (∀ x, x < n → gI (f_C_again_100 q 0 s0 n) 9 (eL σ 15 x) 1 = gI σ 40 q x)) ∧ (n < nM τ 17 → g_C_again_100 q (0 + nI n) (f_C_again_100 q 0 s0 n) ∧ ¬ q_C_again_100s q (0 + nI n) (f_C_again_100 q 0 s0 n) = 1) := by
  have hS := h.S6
  have inN : ∀ f, f < 20 → inW [1002, 12013, 7005, 7006] 9 f = false := by decide
  have step : ∀ n (s : MSto), n < nM τ 17 → agO [1002, 12013, 7005, 7006, 9002] σ s → t_C_again_100 q (0 + nI n) s = sI s 9 (eL σ 15 n) 1 (gI σ 40 q n) ∧ g_C_again_100 q (0 + nI n) s ∧ ¬ q_C_again_100s q (0 + nI n) s = 1 := by
    intro n s hn w
    have e15 : gI s 15 0 2 = gI σ 15 0 2 := w.i rfl
    have ec : v_C_storyCount s = nI (nM τ 17) := (cnt15 e15).trans (cp_storyCount h)
    unfold t_C_again_100 g_C_again_100 q_C_again_100s
    rw [ec, if_neg (ng_cnt rfl (by omega) hn), if_neg (ng_cnt rfl (by omega) hn), z_nI, nI_cl (by omega), al_v (by omega), eL_mv w (k := 15) (i := n) rfl, w.i (k := 40) rfl]
    exact ⟨rfl, fun _ => ⟨al_p (e15.trans h.lS) (by omega) hn, nI_inb (by omega) (by decide)⟩, by decide⟩
  have main : ∀ n, n ≤ nM τ 17 → (agO [9002] s0 (f_C_again_100 q 0 s0 n) ∧ (∀ i f, f ≠ 1 → f < 20 → gI (f_C_again_100 q 0 s0 n) 9 i f = gI σ 9 i f) ∧ (∀ i f, gI (f_C_again_100 q 0 s0 n) 7 i f = gI s0 7 i f) ∧ (∀ x, x < n → gI (f_C_again_100 q 0 s0 n) 9 (eL σ 15 x) 1 = gI σ 40 q x)) := by
    intro n
    induction n with
    | zero => exact fun _ => ⟨agO_refl _ s0, fun i f hf h20 => w0.i (inN f h20), fun _ _ => rfl, fun p hp => absurd hp (by omega)⟩
    | succ n ih =>
      intro hn
      obtain ⟨w, h9, h7, hv⟩ := ih (by omega)
      show agO [9002] s0 (t_C_again_100 q (0 + nI n) (f_C_again_100 q 0 s0 n)) ∧ (∀ i f, f ≠ 1 → f < 20 → gI (t_C_again_100 q (0 + nI n) (f_C_again_100 q 0 s0 n)) 9 i f = gI σ 9 i f) ∧ (∀ i f, gI (t_C_again_100 q (0 + nI n) (f_C_again_100 q 0 s0 n)) 7 i f = gI s0 7 i f) ∧ (∀ x, x < n + 1 → gI (t_C_again_100 q (0 + nI n) (f_C_again_100 q 0 s0 n)) 9 (eL σ 15 x) 1 = gI σ 40 q x)
      rw [(step n _ (by omega) ((w0.mono rfl).step w rfl)).1]
      refine ⟨agO_sI rfl w, fun i f hf h20 => ?_, fun i f => ?_, fun x hx => ?_⟩
      · rw [gI_sI, if_neg (fun z => hf z.2.2)]; exact h9 i f hf h20
      · rw [gI_sI, if_neg (fun z => absurd z.1 (by decide))]; exact h7 i f
      · rw [gI_sI]
        by_cases e : x = n
        · subst e; rw [if_pos ⟨rfl, rfl, rfl⟩]
        · rw [if_neg (fun z => e (h.t.2.2 x n (by omega) (by omega) z.2.1))]
          exact hv x (by omega)
  exact fun n hn => ⟨main n hn, fun h2 => (step n _ h2 ((w0.mono rfl).step (main n hn).1 rfl)).2⟩
theorem ag_57 {n : Nat} (hn : n < 3) (t : MSto) : ∀ k, k ≤ 12 → agO [51000] t (f_M_again_57 (nI n) 0 t k) ∧ (∀ p, p < k → gI (f_M_again_57 (nI n) 0 t k) 51 0 p = gI t 72 0 (12 * n + p))
  | 0, _ => ⟨agO_refl _ t, fun p hp => absurd hp (by omega)⟩
  | k + 1, hk => by
    obtain ⟨w, h⟩ := ag_57 hn t k (by omega)
    have e : (12 : Int32) * nI n + nI k = nI (12 * n + k) := by
      rw [show (12 : Int32) = nI 12 from rfl, pk_mul, nI_add]
    show agO [51000] t (t_M_again_57 (nI n) (0 + nI k) (f_M_again_57 (nI n) 0 t k)) ∧ ∀ p, p < k + 1 → gI (t_M_again_57 (nI n) (0 + nI k) (f_M_again_57 (nI n) 0 t k)) 51 0 p = gI t 72 0 (12 * n + p)
    unfold t_M_again_57
    rw [if_neg (ng_cnt (N := 12) (n := 12) rfl (by decide) (by omega)), z_nI, e, nI_cl (by omega), nI_cl (by omega), w.i (k := 72) rfl]
    refine ⟨agO_sI rfl w, fun p hp => ?_⟩
    rw [gI_at]
    by_cases q : p = k
    · rw [if_pos q, q]
    · rw [if_neg q]; exact h p (by omega)
theorem ag_57p {n : Nat} (hn : n < 3) (t : MSto) {k : Nat} (hk : k < 12) : g_M_again_57 (nI n) (0 + nI k) (f_M_again_57 (nI n) 0 t k) ∧ ¬ q_M_again_57s (nI n) (0 + nI k) (f_M_again_57 (nI n) 0 t k) = 1 := by
  have e : (12 : Int32) * nI n + nI k = nI (12 * n + k) := by
    rw [show (12 : Int32) = nI 12 from rfl, pk_mul, nI_add]
  refine ⟨fun _ => ?_, q_cnt (N := 12) (n := 12) rfl (by decide) hk⟩
  rw [z_nI, e]
  exact ⟨nI_inb (by omega) (by decide), nI_inb (by omega) (by decide)⟩
theorem ag_88 {n : Nat} (hn : n < 3) (t : MSto) : ∀ k, k ≤ 6 → agO [60000] t (f_M_again_88 (nI n) 0 t k) ∧ (∀ p, p < k → gI (f_M_again_88 (nI n) 0 t k) 60 0 p = if nI p < gI t 75 0 n then gI t 74 0 (6 * n + p) else 1)
  | 0, _ => ⟨agO_refl _ t, fun p hp => absurd hp (by omega)⟩
  | k + 1, hk => by
    obtain ⟨w, h⟩ := ag_88 hn t k (by omega)
    have e : (6 : Int32) * nI n + nI k = nI (6 * n + k) := by
      rw [show (6 : Int32) = nI 6 from rfl, pk_mul, nI_add]
    have st : t_M_again_88 (nI n) (0 + nI k) (f_M_again_88 (nI n) 0 t k) = sI (f_M_again_88 (nI n) 0 t k) 60 0 k (if nI k < gI t 75 0 n then gI t 74 0 (6 * n + k) else 1) := by
      unfold t_M_again_88
      rw [if_neg (ng_cnt (N := 6) (n := 6) rfl (by decide) (by omega)), z_nI, e, nI_cl (by omega), nI_cl (by omega), nI_cl (by omega), w.i (k := 75) rfl, w.i (k := 74) rfl]
      by_cases g : nI k < gI t 75 0 n
      · rw [if_neg (Int32.not_le.mpr g), if_pos g]
      · rw [if_pos (Int32.not_lt.mp g), if_neg g]
    show agO [60000] t (t_M_again_88 (nI n) (0 + nI k) (f_M_again_88 (nI n) 0 t k)) ∧ ∀ p, p < k + 1 → gI (t_M_again_88 (nI n) (0 + nI k) (f_M_again_88 (nI n) 0 t k)) 60 0 p = if nI p < gI t 75 0 n then gI t 74 0 (6 * n + p) else 1
    rw [st]
    refine ⟨agO_sI rfl w, fun p hp => ?_⟩
    rw [gI_at]
    by_cases q : p = k
    · rw [if_pos q, q]
    · rw [if_neg q]; exact h p (by omega)
theorem ag_88p {n : Nat} (hn : n < 3) (t : MSto) {k : Nat} (hk : k < 6) : g_M_again_88 (nI n) (0 + nI k) (f_M_again_88 (nI n) 0 t k) ∧ ¬ q_M_again_88s (nI n) (0 + nI k) (f_M_again_88 (nI n) 0 t k) = 1 := by
  have e : (6 : Int32) * nI n + nI k = nI (6 * n + k) := by
    rw [show (6 : Int32) = nI 6 from rfl, pk_mul, nI_add]
  refine ⟨fun _ => ?_, q_cnt (N := 6) (n := 6) rfl (by decide) hk⟩
  rw [z_nI, e]
  exact ⟨nI_inb (by omega) (by decide), fun _ => nI_inb (by omega) (by decide), fun _ => ⟨nI_inb (by omega) (by decide), nI_inb (by omega) (by decide)⟩⟩
/-- the reference, from one store to the other -/
theorem ag_M {n : Nat} (hn : n < 3) (t0 : MSto) : gj_M_again_j45 (nI n) t0 ∧ agO [13041, 51000, 60000] t0 (ej_M_again_j45 (nI n) t0) ∧ gI (ej_M_again_j45 (nI n) t0) 13 0 40 = gI t0 76 0 n ∧ (∀ p, p < 12 → gI (ej_M_again_j45 (nI n) t0) 51 0 p = gI t0 72 0 (12 * n + p)) ∧ ∀ p, p < 6 → gI (ej_M_again_j45 (nI n) t0) 60 0 p = if nI p < gI t0 75 0 n then gI t0 74 0 (6 * n + p) else 1 := by
  unfold gj_M_again_j45 ej_M_again_j45
  rw [nI_cl (by omega)]
  obtain ⟨t1, e1⟩ : ∃ t1, t1 = sI t0 13 0 40 (gI t0 76 0 n) := ⟨_, rfl⟩
  rw [← e1]
  have w1 : agO [13041] t0 t1 := by rw [e1]; exact agO_sI rfl (agO_refl _ t0)
  have n57 : n_M_again_57 (nI n) 0 t1 = 12 := rfl
  rw [n57]
  obtain ⟨w2, v2⟩ := ag_57 hn t1 12 (Nat.le_refl _)
  have p57 := fun k (hk : k < 12) => ag_57p hn t1 hk
  generalize f_M_again_57 (nI n) 0 t1 12 = t2 at w2 v2 ⊢
  have n88 : n_M_again_88 (nI n) 0 t2 = 6 := rfl
  rw [n88]
  obtain ⟨w3, v3⟩ := ag_88 hn t2 6 (Nat.le_refl _)
  have p88 := fun k (hk : k < 6) => ag_88p hn t2 hk
  generalize f_M_again_88 (nI n) 0 t2 6 = t3 at w3 v3 ⊢
  refine ⟨⟨nI_inb (by omega) (by decide), p57, fun _ => ⟨p88, fun q => q (e_cnt (N := 6) (n := 6) rfl)⟩, fun q => q (e_cnt (N := 12) (n := 12) rfl)⟩, ((w1.mono rfl).step w2 rfl).step w3 rfl, ?_, fun p hp => ?_, fun p hp => ?_⟩
  · rw [w3.i rfl, w2.i rfl, e1, gI_sI, if_pos ⟨rfl, rfl, rfl⟩]
  · rw [w3.i rfl, v2 p hp, w1.i rfl]
  · rw [v3 p hp, w2.i rfl, w2.i rfl, w1.i rfl, w1.i rfl]
theorem T_again {σ τ : MSto} (h : Cpl σ τ) (a : Int32) : p_C_again a σ ∧ p_M_again a τ ∧ v_C_again a σ = v_M_again a τ ∧ Cpl (e_C_again a σ) (e_M_again a τ) := by
  have h1 := h.e0
  unfold p_C_again p_M_again v_C_again v_M_again b_C_again b_M_again e_C_again e_M_again bj_M_again_j45
  generalize sI τ 13 0 52 0 = τ1 at h1 ⊢
  simp only [cp_isIn, M_in]
  by_cases g : 0 ≤ a ∧ a ≤ 2
  · simp only [if_neg (bn g)]
    obtain ⟨n, rfl, hn⟩ := nat_rg (b := 2) g (by decide)
    have v3 : vp_in (nI n) 3 := nI_inb (by omega) (by decide)
    rw [nI_cl (by omega)]
    rcases h1.k.1 n (by omega) with ⟨k1, k2⟩ | ⟨q, k1, k2, k3, k4⟩
    · rw [k1, if_pos k2, if_pos k2]
      exact ⟨fun _ => ⟨v3, fun z hz => by cases hz⟩, fun _ => ⟨v3, fun c => absurd k2 c⟩, rfl, h1⟩
    · have k3n : ¬ gI τ1 70 0 n = 0 := by rw [k3]; decide
      obtain ⟨kk0, kk1, kk2, kk3, kk4⟩ := k4
      obtain ⟨i1, i2, i3, i4, i5, i6⟩ := h1.m.k n (by omega) k3n
      have hP := h1.P12
      have hS := h1.S6
      rw [k1, if_neg k3n, if_neg k3n]
      -- the class
      obtain ⟨s1, e1⟩ : ∃ s1, s1 = sI (sI σ 1 0 1 (gI σ 4 q 0)) 12 0 12 (gI (sI σ 1 0 1 (gI σ 4 q 0)) 4 q 1) := ⟨_, rfl⟩
      have w1 : agO [1002, 12013] σ s1 := by rw [e1]; exact agO_sI rfl (agO_sI rfl (agO_refl _ σ))
      have x1 : gI s1 1 0 1 = gI σ 4 q 0 := by rw [e1]; rfl
      have x2 : gI s1 12 0 12 = gI σ 4 q 1 := by rw [e1]; rfl
      have n47 : n_C_again_47 q 0 s1 = nM τ1 10 := by
        unfold n_C_again_47
        rw [cnt14 (σ := σ) (w1.i rfl), cp_pieceCount h1, nI_cl (by omega)]
      have P47 := ag_47 h1 w1 q
      obtain ⟨⟨w2, v2⟩, -⟩ := P47 (nM τ1 10) (Nat.le_refl _)
      obtain ⟨s2, e2⟩ : ∃ s2, s2 = f_C_again_47 q 0 s1 (nM τ1 10) := ⟨_, rfl⟩
      rw [← e2] at w2 v2
      have w2' : agO [1002, 12013, 7005, 7006] σ s2 := (w1.mono rfl).step w2 rfl
      have n100 : n_C_again_100 q 0 s2 = nM τ1 17 := by
        unfold n_C_again_100
        rw [cnt15 (σ := σ) (w2'.i rfl), cp_storyCount h1, nI_cl (by omega)]
      have P100 := ag_100 h1 w2' q
      obtain ⟨⟨w3, f9, f7, v3'⟩, -⟩ := P100 (nM τ1 17) (Nat.le_refl _)
      obtain ⟨s3, e3⟩ : ∃ s3, s3 = f_C_again_100 q 0 s2 (nM τ1 17) := ⟨_, rfl⟩
      rw [← e3] at w3 f9 f7 v3'
      have wσ : agO [1002, 12013, 7005, 7006, 9002] σ s3 := (w2'.mono rfl).step w3 rfl
      -- the reference
      obtain ⟨t0, e0⟩ : ∃ t0, t0 = sI (sI τ1 13 0 15 (gI τ1 71 0 n)) 13 0 2 (gI (sI τ1 13 0 15 (gI τ1 71 0 n)) 73 0 n) := ⟨_, rfl⟩
      have u0 : agO [13016, 13003] τ1 t0 := by rw [e0]; exact agO_sI rfl (agO_sI rfl (agO_refl _ τ1))
      have y1 : gI t0 13 0 15 = gI τ1 71 0 n := by rw [e0]; rfl
      have y2 : gI t0 13 0 2 = gI τ1 73 0 n := by rw [e0]; rfl
      obtain ⟨m0, u1, m1, m2, m3⟩ := ag_M (n := n) (by omega) t0
      rw [← e0]
      obtain ⟨t3, e4⟩ : ∃ t3, t3 = ej_M_again_j45 (nI n) t0 := ⟨_, rfl⟩
      rw [← e4] at u1 m1 m2 m3 ⊢
      have wτ : agO [13016, 13003, 13041, 51000, 60000] τ1 t3 := (u0.mono rfl).step u1 rfl
      rw [u0.i rfl] at m1
      have m2' : ∀ p, p < 12 → gI t3 51 0 p = gI τ1 72 0 (12 * n + p) := fun p hp => by rw [m2 p hp, u0.i rfl]
      have m3' : ∀ p, p < 6 → gI t3 60 0 p = if nI p < gI τ1 75 0 n then gI τ1 74 0 (6 * n + p) else 1 := fun p hp => by rw [m3 p hp, u0.i rfl, u0.i rfl]
      have z15 : gI t3 13 0 15 = gI τ1 71 0 n := (u1.i rfl).trans y1
      have z2 : gI t3 13 0 2 = gI τ1 73 0 n := (u1.i rfl).trans y2
      have nP : nM t3 10 = nM τ1 10 := nM_mv wτ rfl
      have nS : nM t3 17 = nM τ1 17 := nM_mv wτ rfl
      refine ⟨fun _ => ⟨v3, fun z hz => ?_⟩, fun _ => ⟨v3, fun _ => ⟨v3, v3, m0⟩⟩, rfl, ?_⟩
      · cases hz
        rw [← e1, n47, ← e2, n100, ← e3]
        have c2 : v_C_pieceCount s2 = nI (nM τ1 10) := (cnt14 (σ := σ) (w2'.i rfl)).trans (cp_pieceCount h1)
        have c3 : v_C_storyCount s3 = nI (nM τ1 17) := (cnt15 (σ := σ) (wσ.i rfl)).trans (cp_storyCount h1)
        exact ⟨fun i hi => (P47 i (by omega)).2 hi, fun _ => ⟨fun i hi => (P100 i (by omega)).2 hi, fun c => c (e_cnt c3)⟩, fun c => c (e_cnt c2)⟩
      · show Cpl (f_C_again_100 q 0 (f_C_again_47 q 0 (sI (sI σ 1 0 1 (gI σ 4 q 0)) 12 0 12 (gI (sI σ 1 0 1 (gI σ 4 q 0)) 4 q 1)) (n_C_again_47 q 0 (sI (sI σ 1 0 1 (gI σ 4 q 0)) 12 0 12 (gI (sI σ 1 0 1 (gI σ 4 q 0)) 4 q 1)))) (n_C_again_100 q 0 (f_C_again_47 q 0 (sI (sI σ 1 0 1 (gI σ 4 q 0)) 12 0 12 (gI (sI σ 1 0 1 (gI σ 4 q 0)) 4 q 1)) (n_C_again_47 q 0 (sI (sI σ 1 0 1 (gI σ 4 q 0)) 12 0 12 (gI (sI σ 1 0 1 (gI σ 4 q 0)) 4 q 1)))))) t3
        rw [← e1, n47, ← e2, n100, ← e3]
        have c := h1.m.c
        refine Cpl.upd h1 wσ wτ rfl (iM.upd h1.m wτ (Or.inr ⟨cM_mv wτ rfl c.1, cM_mv wτ rfl c.2.1, cM_mv wτ rfl c.2.2.1, cM_mv wτ rfl c.2.2.2.1, cM_mv wτ rfl c.2.2.2.2.1, cM_mv wτ rfl c.2.2.2.2.2.1, ?_⟩) (Or.inl rfl) (Or.inl rfl) (Or.inl rfl) (Or.inl rfl) (Or.inl rfl) (Or.inl rfl) (Or.inr ⟨fun p hp => ?_, ?_, fun p hp hz => ?_⟩) (Or.inr fun x hx => ?_) (Or.inl rfl) (Or.inl rfl) (Or.inl rfl) (Or.inl rfl) (Or.inl rfl)) (Or.inl rfl) (Or.inr ⟨?_, ?_, ?_⟩) (Or.inl rfl) (Or.inl rfl) (Or.inl rfl) (Or.inl rfl) (Or.inl rfl) (Or.inr fun p hp => ?_) (Or.inr ⟨?_, fun x hx => ?_, fun x y hx hy he => ?_⟩) (Or.inl rfl) (Or.inl rfl) (Or.inl rfl) (Or.inl rfl) (Or.inl rfl) (Or.inl rfl) (Or.inl rfl)
        · rw [z2]; exact i1
        · rw [m2' p hp]; exact i3 p hp
        · rw [z15]; exact i2
        · rw [z15]; exact i4 p hp (by omega)
        · rw [nS] at hx
          obtain ⟨a0, a1, a2, a3, a4, a5, a6, a7⟩ := h1.m.t x hx
          rw [wτ.i rfl, wτ.i rfl, wτ.i rfl, wτ.i rfl, wτ.i rfl, wτ.i rfl, wτ.i rfl, wτ.i rfl, m3' x (by omega)]
          refine ⟨a0, a1, a2, a3, a4, a5, a6, ?_⟩
          split
          · rename_i hlt; exact i5 x (by omega) hlt
          · exact ⟨by decide, by decide⟩
        · rw [wσ.i rfl, wτ.i rfl]; exact h1.b.1
        · rw [w3.i rfl, w2.i rfl, x1, z2]; exact kk0
        · rw [w3.i rfl, w2.i rfl, x2, m1]; exact kk1
        · rw [nP] at hp
          obtain ⟨v5, v4⟩ := v2 p hp
          rw [f7, f7, v5, v4, z15, m2' p (by omega), kk2, sh_1 _ (by omega)]
          refine ⟨bI_if _, fun c => kk3 p (by omega) ?_⟩
          rw [sh_1 _ (by omega), ← bI_if]
          exact c
        · rw [wσ.i rfl, wτ.i rfl]; exact h1.t.1
        · rw [nS] at hx
          obtain ⟨b1, b2, b3, b4, b5⟩ := h1.t.2.1 x hx
          rw [eL_mv wσ (k := 15) (i := x) rfl, wσ.r (k := 15) rfl, wσ.n (k := 9) rfl]
          refine ⟨b1, b2, ?_⟩
          show kT1 s3 t3 (eL σ 15 x) x
          unfold kT1
          rw [f9 _ 0 (by decide) (by decide), f9 _ 2 (by decide) (by decide), f9 _ 3 (by decide) (by decide), f9 _ 4 (by decide) (by decide), f9 _ 5 (by decide) (by decide), f9 _ 6 (by decide) (by decide), f9 _ 7 (by decide) (by decide), f9 _ 8 (by decide) (by decide), v3' x hx, m3' x (by omega), kk4 x (by omega), wτ.i rfl, wτ.i rfl, wτ.i rfl, wτ.i rfl, wτ.i rfl, wτ.i rfl, wτ.i rfl, wτ.i rfl]
          exact ⟨b3, rfl, b5⟩
        · rw [nS] at hx hy
          rw [eL_mv wσ (k := 15) (i := x) rfl, eL_mv wσ (k := 15) (i := y) rfl] at he
          exact h1.t.2.2 x y hx hy he
  · simp only [if_pos (bz g)]
    exact ⟨fun q => absurd (bz g) q, fun q => absurd (bz g) q, trivial, h1⟩

