/-! keep -/
theorem cb_t {W : List Nat} {σ s : MSto} (w : agO W σ s) (h7 : inW W 7 4 = false) (h14 : ∀ j, inW W 14 j = false) : v_C_countedBits s = v_C_countedBits σ ∧ (p_C_countedBits σ → p_C_countedBits s) := by
  have ep : v_C_pieceCount s = v_C_pieceCount σ := cnt14 (w.i (h14 2))
  have eg : ∀ c, v_AL_get 14 0 c s = v_AL_get 14 0 c σ := fun c => by unfold v_AL_get; rw [w.r (h14 _)]
  have e7 : ∀ i, gI s 7 i 4 = gI σ 7 i 4 := fun i => w.i h7
  have et : ∀ c x, t_C_countedBits_4 c s x = t_C_countedBits_4 c σ x := fun c x => by unfold t_C_countedBits_4; rw [ep, eg, e7]
  have ef : ∀ n, f_C_countedBits_4 0 s 0 n = f_C_countedBits_4 0 σ 0 n := fun n => nfold_congr (fun i _ x => et _ x)
  have en : n_C_countedBits_4 0 s 0 = n_C_countedBits_4 0 σ 0 := by unfold n_C_countedBits_4; rw [ep]
  refine ⟨?_, fun hp => ?_⟩
  · unfold v_C_countedBits
    rw [en, ef]
  · unfold p_C_countedBits at hp ⊢
    rw [en, ep]
    refine ⟨fun i hi => ?_, hp.2⟩
    obtain ⟨a, b⟩ := hp.1 i hi
    refine ⟨?_, ?_⟩
    · unfold g_C_countedBits_4 at a ⊢
      rw [ep]
      intro c
      have := a c
      unfold p_AL_get at this ⊢
      rw [w.i (h14 2)]
      exact this
    · unfold q_C_countedBits_4s at b ⊢
      rw [ep]
      exact b
theorem agO_mRen {W : List Nat} {σ τ : MSto} {kr k : Nat} (hk : W.contains (1000 * k) = true) (hn : W.contains (1000 * k + 999) = true) (hr : W.contains (1000 * kr + 999) = true) (h : agO W σ τ) : agO W σ (mRen kr k τ) := by
  refine ⟨fun k' i' j' h' => ?_, fun k' h' => ?_⟩
  · have hne : k' ≠ k := by
      rintro rfl
      unfold inW at h'
      rw [hk] at h'
      cases h'
    refine ⟨?_, ?_, ?_⟩
    · rw [gI_mRen, if_neg (fun q => hne q.1)]; exact (h.1 k' i' j' h').1
    · rw [gJ_mRen, if_neg (fun q => hne q.1)]; exact (h.1 k' i' j' h').2.1
    · rw [gR_mRen, if_neg (fun q => hne q.1)]; exact (h.1 k' i' j' h').2.2
  · have h1 : k' ≠ kr := by rintro rfl; rw [hr] at h'; cases h'
    have h2 : k' ≠ k := by rintro rfl; rw [hn] at h'; cases h'
    rw [gN_mRen, if_neg h1, if_neg h2]
    exact h.2 k' h'
abbrev kpW : List Nat := [4000, 4999, 39000, 39999, 40000, 40999, 104000, 104999]
theorem kp_66 {σ τ s0 : MSto} (h : Cpl σ τ) (w0 : agO kpW σ s0) (x : Int32) (z : Nat) : ∀ n, n ≤ nM τ 10 → agO [39000] s0 (f_C_keepO_66 x z 0 s0 n) ∧ (∀ q p, gI (f_C_keepO_66 x z 0 s0 n) 39 q p = if q = z ∧ p < n then gI σ 7 p 5 else gI s0 39 q p) ∧ (n < nM τ 10 → g_C_keepO_66 x z (0 + nI n) (f_C_keepO_66 x z 0 s0 n) ∧ ¬ q_C_keepO_66s x z (0 + nI n) (f_C_keepO_66 x z 0 s0 n) = 1) := by
  have hP := h.P12
  have step : ∀ n (s : MSto), n < nM τ 10 → agO kpW σ s → t_C_keepO_66 x z (0 + nI n) s = sI s 39 z n (gI σ 7 n 5) ∧ g_C_keepO_66 x z (0 + nI n) s ∧ ¬ q_C_keepO_66s x z (0 + nI n) s = 1 := by
    intro n s hn w
    have e14 : gI s 14 0 2 = gI σ 14 0 2 := w.i rfl
    have ec : v_C_pieceCount s = nI (nM τ 10) := (cnt14 e14).trans (cp_pieceCount h)
    unfold t_C_keepO_66 g_C_keepO_66 q_C_keepO_66s
    rw [ec, if_neg (ng_cnt rfl (by omega) hn), if_neg (ng_cnt rfl (by omega) hn), z_nI, nI_cl (by omega), al_v (by omega), eL_mv w (k := 14) (i := n) rfl, h.eP hn, w.i (k := 7) rfl]
    exact ⟨rfl, fun _ => ⟨al_p (e14.trans h.lP) (by omega) hn, nI_inb (by omega) (by decide)⟩, by decide⟩
  have main : ∀ n, n ≤ nM τ 10 → agO [39000] s0 (f_C_keepO_66 x z 0 s0 n) ∧ (∀ q p, gI (f_C_keepO_66 x z 0 s0 n) 39 q p = if q = z ∧ p < n then gI σ 7 p 5 else gI s0 39 q p) := by
    intro n
    induction n with
    | zero => exact fun _ => ⟨agO_refl _ s0, fun q p => by rw [if_neg (fun c => absurd c.2 (Nat.not_lt_zero p))]; rfl⟩
    | succ n ih =>
      intro hn
      obtain ⟨w, hv⟩ := ih (by omega)
      show agO [39000] s0 (t_C_keepO_66 x z (0 + nI n) (f_C_keepO_66 x z 0 s0 n)) ∧ ∀ q p, gI (t_C_keepO_66 x z (0 + nI n) (f_C_keepO_66 x z 0 s0 n)) 39 q p = _
      rw [(step n _ (by omega) (w0.step w rfl)).1]
      refine ⟨agO_sI rfl w, fun q p => ?_⟩
      rw [gI_sI]
      by_cases e : q = z ∧ p = n
      · rw [if_pos ⟨rfl, e.1, e.2⟩, if_pos (show q = z ∧ p < n + 1 from ⟨e.1, by omega⟩), e.2]
      · rw [if_neg (fun c => e c.2), hv]
        by_cases e2 : q = z ∧ p < n
        · rw [if_pos e2, if_pos (show q = z ∧ p < n + 1 from ⟨e2.1, by omega⟩)]
        · rw [if_neg e2, if_neg (fun c => by
            by_cases e3 : p = n
            · exact e ⟨c.1, e3⟩
            · exact e2 ⟨c.1, by omega⟩)]
  exact fun n hn => ⟨(main n hn).1, (main n hn).2, fun h2 => (step n _ h2 (w0.step (main n hn).1 rfl)).2⟩
theorem kp_102 {σ τ s0 : MSto} (h : Cpl σ τ) (w0 : agO kpW σ s0) (x : Int32) (z : Nat) : ∀ n, n ≤ 6 → agO [40000] s0 (f_C_keepO_102 x z 0 s0 n) ∧ (∀ q p, gI (f_C_keepO_102 x z 0 s0 n) 40 q p = if q = z ∧ p < n then (if p < nM τ 17 then gI σ 9 (eL σ 15 p) 1 else 1) else gI s0 40 q p) ∧ (n < 6 → g_C_keepO_102 x z (0 + nI n) (f_C_keepO_102 x z 0 s0 n) ∧ ¬ q_C_keepO_102s x z (0 + nI n) (f_C_keepO_102 x z 0 s0 n) = 1) := by
  have hS := h.S6
  have step : ∀ n (s : MSto), n < 6 → agO kpW σ s → t_C_keepO_102 x z (0 + nI n) s = sI s 40 z n (if n < nM τ 17 then gI σ 9 (eL σ 15 n) 1 else 1) ∧ g_C_keepO_102 x z (0 + nI n) s ∧ ¬ q_C_keepO_102s x z (0 + nI n) s = 1 := by
    intro n s hn w
    have e15 : gI s 15 0 2 = gI σ 15 0 2 := w.i rfl
    have ec : v_C_storyCount s = nI (nM τ 17) := (cnt15 e15).trans (cp_storyCount h)
    unfold t_C_keepO_102 g_C_keepO_102 q_C_keepO_102s
    rw [ec, if_neg (ng_cnt (N := 6) (n := 6) rfl (by omega) hn), if_neg (ng_cnt (N := 6) (n := 6) rfl (by omega) hn), z_nI, nI_cl (by omega), al_v (by omega), eL_mv w (k := 15) (i := n) rfl, w.i (k := 9) rfl]
    refine ⟨?_, fun _ => ⟨fun _ => nI_inb (by omega) (by decide), fun c => ⟨?_, nI_inb (by omega) (by decide)⟩⟩, by decide⟩
    · by_cases g : n < nM τ 17
      · rw [if_neg (fun c => by have := (leN (by omega) (by omega)).mp c; omega), if_pos g]
      · rw [if_pos ((leN (by omega) (by omega)).mpr (by omega)), if_neg g]
    · have hlt : n < nM τ 17 := by
        rcases Nat.lt_or_ge n (nM τ 17) with g | g
        · exact g
        · exact absurd ((leN (by omega) (by omega)).mpr g) c
      exact al_p (e15.trans h.lS) (by omega) hlt
  have main : ∀ n, n ≤ 6 → agO [40000] s0 (f_C_keepO_102 x z 0 s0 n) ∧ (∀ q p, gI (f_C_keepO_102 x z 0 s0 n) 40 q p = if q = z ∧ p < n then (if p < nM τ 17 then gI σ 9 (eL σ 15 p) 1 else 1) else gI s0 40 q p) := by
    intro n
    induction n with
    | zero => exact fun _ => ⟨agO_refl _ s0, fun q p => by rw [if_neg (fun c => absurd c.2 (Nat.not_lt_zero p))]; rfl⟩
    | succ n ih =>
      intro hn
      obtain ⟨w, hv⟩ := ih (by omega)
      show agO [40000] s0 (t_C_keepO_102 x z (0 + nI n) (f_C_keepO_102 x z 0 s0 n)) ∧ ∀ q p, gI (t_C_keepO_102 x z (0 + nI n) (f_C_keepO_102 x z 0 s0 n)) 40 q p = _
      rw [(step n _ (by omega) (w0.step w rfl)).1]
      refine ⟨agO_sI rfl w, fun q p => ?_⟩
      rw [gI_sI]
      by_cases e : q = z ∧ p = n
      · rw [if_pos ⟨rfl, e.1, e.2⟩, if_pos (show q = z ∧ p < n + 1 from ⟨e.1, by omega⟩), e.2]
      · rw [if_neg (fun c => e c.2), hv]
        by_cases e2 : q = z ∧ p < n
        · rw [if_pos e2, if_pos (show q = z ∧ p < n + 1 from ⟨e2.1, by omega⟩)]
        · rw [if_neg e2, if_neg (fun c => by
            by_cases e3 : p = n
            · exact e ⟨c.1, e3⟩
            · exact e2 ⟨c.1, by omega⟩)]
  exact fun n hn => ⟨(main n hn).1, (main n hn).2, fun h2 => (step n _ h2 (w0.step (main n hn).1 rfl)).2⟩
theorem km_65 {n : Nat} (hn : n < 3) (t : MSto) : ∀ k, k ≤ 12 → agO [72000] t (f_M_keep_65 (nI n) 0 t k) ∧ (∀ p, p < k → gI (f_M_keep_65 (nI n) 0 t k) 72 0 (12 * n + p) = gI t 51 0 p) ∧ (∀ x, ¬ (12 * n ≤ x ∧ x < 12 * n + 12) → gI (f_M_keep_65 (nI n) 0 t k) 72 0 x = gI t 72 0 x) ∧ (k < 12 → g_M_keep_65 (nI n) (0 + nI k) (f_M_keep_65 (nI n) 0 t k) ∧ ¬ q_M_keep_65s (nI n) (0 + nI k) (f_M_keep_65 (nI n) 0 t k) = 1) := by
  have e : ∀ k, (12 : Int32) * nI n + nI k = nI (12 * n + k) := fun k => by rw [show (12 : Int32) = nI 12 from rfl, pk_mul, nI_add]
  have hg : ∀ k (s : MSto), k < 12 → g_M_keep_65 (nI n) (0 + nI k) s ∧ ¬ q_M_keep_65s (nI n) (0 + nI k) s = 1 := fun k s hk => by
    refine ⟨fun _ => ?_, q_cnt (N := 12) (n := 12) rfl (by decide) hk⟩
    rw [z_nI, e]
    exact ⟨nI_inb (by omega) (by decide), nI_inb (by omega) (by decide)⟩
  intro k
  induction k with
  | zero => exact fun _ => ⟨agO_refl _ t, fun p hp => absurd hp (by omega), fun _ _ => rfl, fun hk => hg 0 _ hk⟩
  | succ k ih =>
    intro hk
    obtain ⟨w, h1, h2, -⟩ := ih (by omega)
    have st : f_M_keep_65 (nI n) 0 t (k + 1) = sI (f_M_keep_65 (nI n) 0 t k) 72 0 (12 * n + k) (gI t 51 0 k) := by
      show t_M_keep_65 (nI n) (0 + nI k) (f_M_keep_65 (nI n) 0 t k) = _
      unfold t_M_keep_65
      rw [if_neg (ng_cnt (N := 12) (n := 12) rfl (by decide) (by omega)), z_nI, e, nI_cl (by omega), nI_cl (by omega), w.i (k := 51) rfl]
    refine ⟨?_, fun p hp => ?_, fun x hx => ?_, fun hk2 => hg (k + 1) _ hk2⟩
    · rw [st]; exact agO_sI rfl w
    · rw [st, gI_at]
      by_cases q : p = k
      · rw [if_pos (by omega), q]
      · rw [if_neg (by omega)]; exact h1 p (by omega)
    · rw [st, gI_at, if_neg (by omega)]; exact h2 x hx
theorem km_96 {n : Nat} (hn : n < 3) (t : MSto) : ∀ k, k ≤ 6 → agO [74000] t (f_M_keep_96 (nI n) 0 t k) ∧ (∀ p, p < k → gI (f_M_keep_96 (nI n) 0 t k) 74 0 (6 * n + p) = gI t 60 0 p) ∧ (∀ x, ¬ (6 * n ≤ x ∧ x < 6 * n + 6) → gI (f_M_keep_96 (nI n) 0 t k) 74 0 x = gI t 74 0 x) ∧ (k < 6 → g_M_keep_96 (nI n) (0 + nI k) (f_M_keep_96 (nI n) 0 t k) ∧ ¬ q_M_keep_96s (nI n) (0 + nI k) (f_M_keep_96 (nI n) 0 t k) = 1) := by
  have e : ∀ k, (6 : Int32) * nI n + nI k = nI (6 * n + k) := fun k => by rw [show (6 : Int32) = nI 6 from rfl, pk_mul, nI_add]
  have hg : ∀ k (s : MSto), k < 6 → g_M_keep_96 (nI n) (0 + nI k) s ∧ ¬ q_M_keep_96s (nI n) (0 + nI k) s = 1 := fun k s hk => by
    refine ⟨fun _ => ?_, q_cnt (N := 6) (n := 6) rfl (by decide) hk⟩
    rw [z_nI, e]
    exact ⟨nI_inb (by omega) (by decide), nI_inb (by omega) (by decide)⟩
  intro k
  induction k with
  | zero => exact fun _ => ⟨agO_refl _ t, fun p hp => absurd hp (by omega), fun _ _ => rfl, fun hk => hg 0 _ hk⟩
  | succ k ih =>
    intro hk
    obtain ⟨w, h1, h2, -⟩ := ih (by omega)
    have st : f_M_keep_96 (nI n) 0 t (k + 1) = sI (f_M_keep_96 (nI n) 0 t k) 74 0 (6 * n + k) (gI t 60 0 k) := by
      show t_M_keep_96 (nI n) (0 + nI k) (f_M_keep_96 (nI n) 0 t k) = _
      unfold t_M_keep_96
      rw [if_neg (ng_cnt (N := 6) (n := 6) rfl (by decide) (by omega)), z_nI, e, nI_cl (by omega), nI_cl (by omega), w.i (k := 60) rfl]
    refine ⟨?_, fun p hp => ?_, fun x hx => ?_, fun hk2 => hg (k + 1) _ hk2⟩
    · rw [st]; exact agO_sI rfl w
    · rw [st, gI_at]
      by_cases q : p = k
      · rw [if_pos (by omega), q]
      · rw [if_neg (by omega)]; exact h1 p (by omega)
    · rw [st, gI_at, if_neg (by omega)]; exact h2 x hx
/-- the reference's slot -/
theorem km_M {n : Nat} (hn : n < 3) (A : MSto) : gj_M_keep_j33 (nI n) A ∧ agO [72000, 73000, 74000, 75000, 76000] A (ej_M_keep_j33 (nI n) A) ∧ (∀ x, gI (ej_M_keep_j33 (nI n) A) 73 0 x = if x = n then gI A 13 0 2 else gI A 73 0 x) ∧ (∀ x, gI (ej_M_keep_j33 (nI n) A) 76 0 x = if x = n then gI A 13 0 40 else gI A 76 0 x) ∧ (∀ x, gI (ej_M_keep_j33 (nI n) A) 75 0 x = if x = n then gI A 13 0 17 else gI A 75 0 x) ∧ (∀ p, p < 12 → gI (ej_M_keep_j33 (nI n) A) 72 0 (12 * n + p) = gI A 51 0 p) ∧ (∀ x, ¬ (12 * n ≤ x ∧ x < 12 * n + 12) → gI (ej_M_keep_j33 (nI n) A) 72 0 x = gI A 72 0 x) ∧ (∀ p, p < 6 → gI (ej_M_keep_j33 (nI n) A) 74 0 (6 * n + p) = gI A 60 0 p) ∧ (∀ x, ¬ (6 * n ≤ x ∧ x < 6 * n + 6) → gI (ej_M_keep_j33 (nI n) A) 74 0 x = gI A 74 0 x) := by
  have v3 : vp_in (nI n) 3 := nI_inb (by omega) (by decide)
  unfold gj_M_keep_j33 ej_M_keep_j33
  rw [nI_cl (by omega)]
  obtain ⟨B, eB⟩ : ∃ B, B = sI (sI A 73 0 n (gI A 13 0 2)) 76 0 n (gI (sI A 73 0 n (gI A 13 0 2)) 13 0 40) := ⟨_, rfl⟩
  rw [← eB]
  have wB : agO [73000, 76000] A B := by rw [eB]; exact agO_sI rfl (agO_sI rfl (agO_refl _ A))
  unfold gj_M_keep_j53 ej_M_keep_j53
  rw [nI_cl (by omega)]
  obtain ⟨t1, e1⟩ : ∃ t1, t1 = sI B 75 0 n (gI B 13 0 17) := ⟨_, rfl⟩
  rw [← e1]
  have w1 : agO [75000] B t1 := by rw [e1]; exact agO_sI rfl (agO_refl _ B)
  have n65 : n_M_keep_65 (nI n) 0 t1 = 12 := rfl
  rw [n65]
  have K65 := km_65 hn t1
  obtain ⟨w2, a1, a2, -⟩ := K65 12 (Nat.le_refl _)
  obtain ⟨t2, e2⟩ : ∃ t2, t2 = f_M_keep_65 (nI n) 0 t1 12 := ⟨_, rfl⟩
  rw [← e2] at w2 a1 a2 ⊢
  have n96 : n_M_keep_96 (nI n) 0 t2 = 6 := rfl
  rw [n96]
  have K96 := km_96 hn t2
  obtain ⟨w3, b1, b2, -⟩ := K96 6 (Nat.le_refl _)
  obtain ⟨t3, e3⟩ : ∃ t3, t3 = f_M_keep_96 (nI n) 0 t2 6 := ⟨_, rfl⟩
  rw [← e3] at w3 b1 b2 ⊢
  have w : agO [72000, 73000, 74000, 75000, 76000] A t3 := (((wB.mono rfl).step w1 rfl).step w2 rfl).step w3 rfl
  have w01 : agO [73000, 75000, 76000] A t1 := (wB.mono rfl).step w1 rfl
  refine ⟨⟨v3, v3, v3, fun i hi => (K65 i (by omega)).2.2.2 hi, fun _ => ⟨fun i hi => (K96 i (by omega)).2.2.2 hi, fun q => q (e_cnt (N := 6) (n := 6) rfl)⟩, fun q => q (e_cnt (N := 12) (n := 12) rfl)⟩, w, fun x => ?_, fun x => ?_, fun x => ?_, fun p hp => ?_, fun x hx => ?_, fun p hp => ?_, fun x hx => ?_⟩
  · rw [w3.i rfl, w2.i rfl, w1.i rfl, eB, gI_sI, if_neg (fun c => absurd c.1 (by decide)), gI_at]
  · rw [w3.i rfl, w2.i rfl, w1.i rfl, eB, gI_at]
    by_cases q : x = n
    · rw [if_pos q, if_pos q]; rfl
    · rw [if_neg q, if_neg q, gI_sI, if_neg (fun c => absurd c.1 (by decide))]
  · rw [w3.i rfl, w2.i rfl, e1, gI_at, wB.i rfl, wB.i rfl]
  · rw [w3.i rfl, a1 p hp, w01.i rfl]
  · rw [w3.i rfl, a2 x hx, w01.i rfl]
  · rw [b1 p hp, w2.i rfl, w01.i rfl]
  · rw [b2 x hx, w2.i rfl, w01.i rfl]
/-- what is kept, once both have it -/
theorem kp_fin {σ τ s t : MSto} (h : Cpl σ τ) {n z : Nat} (hn : n < 3) (ws : agO [25000, 4000, 4999, 39000, 39999, 40000, 40999, 104000, 104999] σ s) (hR : ∀ x, gR s 25 0 x = if x = n then some z else gR σ 25 0 x)
    (f0 : gI s 4 z 0 = gI σ 1 0 1) (f1 : gI s 4 z 1 = gI σ 12 0 12) (f2 : gI s 4 z 2 = gI τ 13 0 15) (f3 : ∀ p, p < nM τ 10 → gI s 39 z p = gI σ 7 p 5) (f4 : ∀ x, x < 6 → gI s 40 z x = if x < nM τ 17 then gI σ 9 (eL σ 15 x) 1 else 1)
    (fo : ∀ q f, q ≠ z → q < gN σ 4 → f < 20 → gI s 4 q f = gI σ 4 q f ∧ gI s 39 q f = gI σ 39 q f ∧ gI s 40 q f = gI σ 40 q f) (fz : z < gN s 4) (fN : gN σ 4 ≤ gN s 4) (fA : gN s 39 = gN s 4 ∧ gN s 40 = gN s 4) (fd : ∀ x, x < 3 → gR σ 25 0 x = some z → x = n)
    (wt : agO [70000, 71000, 72000, 73000, 74000, 75000, 76000] τ t) (m70 : ∀ x, gI t 70 0 x = if x = n then 1 else gI τ 70 0 x) (m71 : ∀ x, gI t 71 0 x = if x = n then gI τ 13 0 15 else gI τ 71 0 x) (m73 : ∀ x, gI t 73 0 x = if x = n then gI τ 13 0 2 else gI τ 73 0 x) (m76 : ∀ x, gI t 76 0 x = if x = n then gI τ 13 0 40 else gI τ 76 0 x) (m75 : ∀ x, gI t 75 0 x = if x = n then gI τ 13 0 17 else gI τ 75 0 x) (m72 : ∀ p, p < 12 → gI t 72 0 (12 * n + p) = gI τ 51 0 p) (m72' : ∀ x, ¬ (12 * n ≤ x ∧ x < 12 * n + 12) → gI t 72 0 x = gI τ 72 0 x) (m74 : ∀ p, p < 6 → gI t 74 0 (6 * n + p) = gI τ 60 0 p) (m74' : ∀ x, ¬ (6 * n ≤ x ∧ x < 6 * n + 6) → gI t 74 0 x = gI τ 74 0 x) : Cpl s t := by
  have hP := h.P12
  have hS := h.S6
  have c := h.m.c
  have nP : nM t 10 = nM τ 10 := nM_mv wt rfl
  have e17 : gI τ 13 0 17 = nI (nM τ 17) := c.2.2.2.1.1
  refine Cpl.upd h ws wt rfl (iM.upd h.m wt (Or.inl rfl) (Or.inl rfl) (Or.inl rfl) (Or.inl rfl) (Or.inl rfl) (Or.inl rfl) (Or.inl rfl) (Or.inl rfl) (Or.inl rfl) (Or.inl rfl) (Or.inl rfl) (Or.inl rfl) (Or.inl rfl) (Or.inr fun x hx hk => ?_)) (Or.inl rfl) (Or.inl rfl) (Or.inl rfl) (Or.inl rfl) (Or.inl rfl) (Or.inl rfl) (Or.inl rfl) (Or.inl rfl) (Or.inl rfl) (Or.inl rfl) (Or.inl rfl) (Or.inl rfl) (Or.inl rfl) (Or.inr ⟨fun x hx => ?_, fun x y q hx hy h1 h2 => ?_, fA.1, fA.2⟩) (Or.inl rfl) (Or.inl rfl)
  · rw [m73, m71, m75, nP]
    by_cases e : x = n
    · subst e
      rw [if_pos rfl, if_pos rfl, if_pos rfl]
      refine ⟨c.2.2.2.2.2.2, h.m.n.2.1, fun p hp => ?_, fun p hp hpP => h.m.n.2.2 p hp hpP, fun y hy hlt => ?_, ?_⟩
      · rw [m72 p hp]; exact h.m.n.1 p hp
      · rw [m74 y hy]
        rw [e17] at hlt
        have hy17 : y < nM τ 17 := (ltN (by omega) (by omega)).mp hlt
        obtain ⟨a0, a1, a2, a3, a4, a5, a6, a7⟩ := h.m.t y hy17
        exact a7
      · rw [e17]
        exact ⟨nI_pos' (by omega), (leN (b := 6) (by omega) (by omega)).mpr (by omega)⟩
    · rw [m70, if_neg e] at hk
      obtain ⟨i1, i2, i3, i4, i5, i6⟩ := h.m.k x hx hk
      rw [if_neg e, if_neg e, if_neg e]
      refine ⟨i1, i2, fun p hp => ?_, i4, fun y hy hlt => ?_, i6⟩
      · rw [m72' _ (by omega)]; exact i3 p hp
      · rw [m74' _ (by omega)]; exact i5 y hy hlt
  · by_cases e : x = n
    · subst e
      refine Or.inr ⟨z, by rw [hR, if_pos rfl], fz, by rw [m70, if_pos rfl], ?_⟩
      unfold kK1
      rw [m73, m76, m71, m75, if_pos rfl, if_pos rfl, if_pos rfl, if_pos rfl, f0, f1, f2]
      refine ⟨h.b.2.1, h.b.2.2, rfl, fun p hp hb => ?_, fun y hy => ?_⟩
      · rw [m72 p hp]
        by_cases hpP : p < nM τ 10
        · rw [f3 p hpP]
          obtain ⟨n1, n2⟩ := h.n p hpP
          exact n2 (by rw [n1]; exact hb)
        · exact absurd (h.m.n.2.2 p hp (by omega)) hb
      · rw [f4 y hy, e17]
        by_cases hyS : y < nM τ 17
        · rw [if_pos hyS, if_pos ((ltN (by omega) (by omega)).mpr hyS), m74 y hy]
          obtain ⟨b1, b2, b3, b4, b5⟩ := h.t.2.1 y hyS
          exact b4
        · rw [if_neg hyS, if_neg (fun q => hyS ((ltN (by omega) (by omega)).mp q))]
    · rcases h.k.1 x hx with ⟨k1, k2⟩ | ⟨q, k1, k2, k3, k4⟩
      · exact Or.inl ⟨by rw [hR, if_neg e]; exact k1, by rw [m70, if_neg e]; exact k2⟩
      · have hq : q ≠ z := fun e2 => e (fd x hx (by rw [k1, e2]))
        refine Or.inr ⟨q, by rw [hR, if_neg e]; exact k1, by omega, by rw [m70, if_neg e]; exact k3, ?_⟩
        unfold kK1 at k4 ⊢
        obtain ⟨a0, a1, a2, a3, a4⟩ := k4
        have fq := fun f hf => fo q f hq k2 hf
        rw [m73, m76, m71, m75, if_neg e, if_neg e, if_neg e, if_neg e, (fq 0 (by omega)).1, (fq 1 (by omega)).1, (fq 2 (by omega)).1]
        refine ⟨a0, a1, a2, fun p hp hb => ?_, fun y hy => ?_⟩
        · rw [(fq p (by omega)).2.1, m72' _ (by omega)]; exact a3 p hp hb
        · rw [(fq y (by omega)).2.2, m74' _ (by omega)]; exact a4 y hy
  · rw [hR] at h1 h2
    by_cases e : x = n
    · rw [if_pos e] at h1
      by_cases e2 : y = n
      · omega
      · rw [if_neg e2] at h2
        have := fd y hy (by rw [h2]; exact h1.symm)
        omega
    · rw [if_neg e] at h1
      by_cases e2 : y = n
      · rw [if_pos e2] at h2
        have := fd x hx (by rw [h1]; exact h2.symm)
        omega
      · rw [if_neg e2] at h2
        exact h.k.2.1 x y q hx hy h1 h2
theorem in4 : ∀ f, f < 20 → inW [25000, 39000, 40000] 4 f = false := by decide
theorem kp_tail {σ τ sB : MSto} (h : Cpl σ τ) (w0 : agO kpW σ sB) {n : Nat} (hn : n < 3) (z : Nat) : gj_C_keepO_j64 (nI n) z sB ∧ agO [25000, 39000, 40000] sB (ej_C_keepO_j64 (nI n) z sB) ∧ (∀ y, gR (ej_C_keepO_j64 (nI n) z sB) 25 0 y = if y = n then some z else gR sB 25 0 y) ∧ (∀ q p, gI (ej_C_keepO_j64 (nI n) z sB) 39 q p = if q = z ∧ p < nM τ 10 then gI σ 7 p 5 else gI sB 39 q p) ∧ (∀ q p, gI (ej_C_keepO_j64 (nI n) z sB) 40 q p = if q = z ∧ p < 6 then (if p < nM τ 17 then gI σ 9 (eL σ 15 p) 1 else 1) else gI sB 40 q p) := by
  have v3 : vp_in (nI n) 3 := nI_inb (by omega) (by decide)
  have hP := h.P12
  unfold gj_C_keepO_j64 ej_C_keepO_j64
  have n66 : n_C_keepO_66 (nI n) z 0 sB = nM τ 10 := by
    unfold n_C_keepO_66
    rw [cnt14 (σ := σ) (w0.i rfl), cp_pieceCount h, nI_cl (by omega)]
  rw [n66]
  have K66 := kp_66 h w0 (nI n) z
  obtain ⟨w1, a1, -⟩ := K66 (nM τ 10) (Nat.le_refl _)
  obtain ⟨s1, e1⟩ : ∃ s1, s1 = f_C_keepO_66 (nI n) z 0 sB (nM τ 10) := ⟨_, rfl⟩
  rw [← e1] at w1 a1 ⊢
  have n102 : n_C_keepO_102 (nI n) z 0 s1 = 6 := rfl
  rw [n102]
  have w01 : agO kpW σ s1 := w0.step w1 rfl
  have K102 := kp_102 h w01 (nI n) z
  obtain ⟨w2, b1, -⟩ := K102 6 (Nat.le_refl _)
  obtain ⟨s2, e2⟩ : ∃ s2, s2 = f_C_keepO_102 (nI n) z 0 s1 6 := ⟨_, rfl⟩
  rw [← e2] at w2 b1 ⊢
  have c1 : v_C_pieceCount s1 = nI (nM τ 10) := (cnt14 (σ := σ) (w01.i rfl)).trans (cp_pieceCount h)
  rw [nI_cl (by omega)]
  refine ⟨⟨fun i hi => (K66 i (by omega)).2.2 hi, fun _ => ⟨fun i hi => (K102 i (by omega)).2.2 hi, fun _ => v3, fun q => q (e_cnt (N := 6) (n := 6) rfl)⟩, fun q => q (e_cnt c1)⟩, agO_sR rfl ((w1.mono rfl).step w2 rfl), fun y => ?_, fun q p => ?_, fun q p => ?_⟩
  · rw [gR_at, w2.r rfl, w1.r rfl]
  · rw [gI_sR, w2.i rfl, a1]
  · rw [gI_sR, b1, w1.i rfl]
theorem T_keep {σ τ : MSto} (h : Cpl σ τ) (h104 : gN σ 104 = 0) (a : Int32) : p_M_keep a τ ∧ ((p_C_keepO a σ ∧ v_C_keepO a σ = v_M_keep a τ ∧ Cpl (e_C_keepO a σ) (e_M_keep a τ) ∧ gN (e_C_keepO a σ) 104 = 0 ∧ agO [25000, 4000, 4999, 39000, 39999, 40000, 40999, 104000, 104999] σ (e_C_keepO a σ)) ∨ (¬ p_C_keepO a σ ∧ p_C_keepN a σ ∧ v_C_keepN a σ = v_M_keep a τ ∧ Cpl (e_C_keepN a σ) (e_M_keep a τ) ∧ gN (e_C_keepN a σ) 104 = 0 ∧ agO [25000, 4000, 4999, 39000, 39999, 40000, 40999, 104000, 104999] σ (e_C_keepN a σ))) := by
  have h1 := h.e0
  unfold p_M_keep v_M_keep b_M_keep e_M_keep
  generalize sI τ 13 0 52 0 = τ1 at h1 ⊢
  simp only [M_in]
  by_cases g : 0 ≤ a ∧ a ≤ 2
  · simp only [if_neg (bn g)]
    obtain ⟨n, rfl, hn⟩ := nat_rg (b := 2) g (by decide)
    have v3 : vp_in (nI n) 3 := nI_inb (by omega) (by decide)
    rw [nI_cl (by omega)]
    obtain ⟨A, eA⟩ : ∃ A, A = sI (sI τ1 70 0 n (vp_nar .boolean 1)) 71 0 n (gI (sI τ1 70 0 n (vp_nar .boolean 1)) 13 0 15) := ⟨_, rfl⟩
    rw [← eA]
    obtain ⟨m0, u1, m73, m76, m75, m72, m72', m74, m74'⟩ := km_M (n := n) (by omega) A
    have uA : agO [70000, 71000] τ1 A := by rw [eA]; exact agO_sI rfl (agO_sI rfl (agO_refl _ τ1))
    have wt : agO [70000, 71000, 72000, 73000, 74000, 75000, 76000] τ1 (ej_M_keep_j33 (nI n) A) := (uA.mono rfl).step u1 rfl
    have m70 : ∀ x, gI (ej_M_keep_j33 (nI n) A) 70 0 x = if x = n then 1 else gI τ1 70 0 x := fun x => by
      rw [u1.i rfl, eA, gI_sI, if_neg (fun c => absurd c.1 (by decide)), gI_at]; rfl
    have m71 : ∀ x, gI (ej_M_keep_j33 (nI n) A) 71 0 x = if x = n then gI τ1 13 0 15 else gI τ1 71 0 x := fun x => by
      rw [u1.i rfl, eA, gI_at]
      by_cases q : x = n
      · rw [if_pos q, if_pos q]; rfl
      · rw [if_neg q, if_neg q, gI_sI, if_neg (fun c => absurd c.1 (by decide))]
    rw [uA.i rfl] at m73 m76 m75
    have m73 : ∀ x, gI (ej_M_keep_j33 (nI n) A) 73 0 x = if x = n then gI τ1 13 0 2 else gI τ1 73 0 x := fun x => by rw [m73, uA.i (k := 73) rfl]
    have m76 : ∀ x, gI (ej_M_keep_j33 (nI n) A) 76 0 x = if x = n then gI τ1 13 0 40 else gI τ1 76 0 x := fun x => by rw [m76, uA.i (k := 76) rfl]
    have m75 : ∀ x, gI (ej_M_keep_j33 (nI n) A) 75 0 x = if x = n then gI τ1 13 0 17 else gI τ1 75 0 x := fun x => by rw [m75, uA.i (k := 75) rfl]
    have m72 : ∀ p, p < 12 → gI (ej_M_keep_j33 (nI n) A) 72 0 (12 * n + p) = gI τ1 51 0 p := fun p hp => by rw [m72 p hp, uA.i rfl]
    have m72' : ∀ x, ¬ (12 * n ≤ x ∧ x < 12 * n + 12) → gI (ej_M_keep_j33 (nI n) A) 72 0 x = gI τ1 72 0 x := fun x hx => by rw [m72' x hx, uA.i rfl]
    have m74 : ∀ p, p < 6 → gI (ej_M_keep_j33 (nI n) A) 74 0 (6 * n + p) = gI τ1 60 0 p := fun p hp => by rw [m74 p hp, uA.i rfl]
    have m74' : ∀ x, ¬ (6 * n ≤ x ∧ x < 6 * n + 6) → gI (ej_M_keep_j33 (nI n) A) 74 0 x = gI τ1 74 0 x := fun x hx => by rw [m74' x hx, uA.i rfl]
    refine ⟨fun _ => ⟨v3, v3, m0⟩, ?_⟩
    have hKK := h1.k
    rcases hKK.1 n (by omega) with ⟨k1, k2⟩ | ⟨z, k1, k2, k3, k4⟩
    · right
      refine ⟨fun hp => ?_, ?_⟩
      · unfold p_C_keepO at hp
        have h9 := (hp (by rw [cp_isIn]; exact bn g)).2.1
        rw [nI_cl (by omega)] at h9
        exact h9 k1
      unfold p_C_keepN v_C_keepN b_C_keepN e_C_keepN
      simp only [cp_isIn, if_neg (bn g)]
      rw [nI_cl (by omega), k1]
      have hKe : p_newKe σ := ⟨h104, hKK.2.2.1, hKK.2.2.2⟩
      obtain ⟨s0, e0⟩ : ∃ s0, s0 = e_newKe σ := ⟨_, rfl⟩
      have ez : v_newKe σ = gN σ 4 := rfl
      rw [← e0, ez]
      have w0 : agO kpW σ s0 := by
        rw [e0]
        unfold e_newKe e_Ke_init
        exact agO_mRen rfl rfl rfl (agO_sR rfl (agO_sNew rfl rfl (agO_sR rfl (agO_sNew rfl rfl (agO_sNew rfl rfl (agO_refl _ σ))))))
      have nN4 : gN s0 4 = gN σ 4 + 1 := by rw [e0]; rfl
      have nN39 : gN s0 39 = gN σ 39 + 1 := by rw [e0]; rfl
      have nN40 : gN s0 40 = gN σ 40 + 1 := by rw [e0]; rfl
      have nN104 : gN s0 104 = 0 := by rw [e0]; rfl
      have o4 : ∀ q f, q < gN σ 4 → gI s0 4 q f = gI σ 4 q f ∧ gI s0 39 q f = gI σ 39 q f ∧ gI s0 40 q f = gI σ 40 q f := by
        intro q f hq
        have q39 : q < gN σ 39 := by rw [hKK.2.2.1]; exact hq
        have q40 : q < gN σ 40 := by rw [hKK.2.2.2]; exact hq
        rw [e0]
        unfold e_newKe e_Ke_init
        refine ⟨?_, ?_, ?_⟩
        · rw [gI_mRen, if_neg (fun c => by
            have h2 : q = gN σ 4 := c.2
            omega)]
          simp only [gI_sR, gI_sNew]
          rw [if_neg (fun c => absurd c.1 (by decide)), if_neg (fun c => absurd c.1 (by decide)), if_neg (fun c => absurd c.1 (by decide))]
        · rw [gI_mRen, if_neg (fun c => absurd c.1 (by decide))]
          simp only [gI_sR, gI_sNew]
          rw [if_neg (fun c => absurd c.1 (by decide)), if_neg (fun c => by
            have h2 : q = gN σ 39 := c.2
            omega), if_neg (fun c => absurd c.1 (by decide))]
        · rw [gI_mRen, if_neg (fun c => absurd c.1 (by decide))]
          simp only [gI_sR, gI_sNew]
          rw [if_neg (fun c => by
            have h2 : q = gN σ 40 := c.2
            omega), if_neg (fun c => absurd c.1 (by decide)), if_neg (fun c => absurd c.1 (by decide))]
      obtain ⟨s1, e1⟩ : ∃ s1, s1 = sI (sI s0 4 (gN σ 4) 0 (gI s0 1 0 1)) 4 (gN σ 4) 1 (gI (sI s0 4 (gN σ 4) 0 (gI s0 1 0 1)) 12 0 12) := ⟨_, rfl⟩
      rw [← e1]
      have w1 : agO kpW σ s1 := by rw [e1]; exact agO_sI rfl (agO_sI rfl w0)
      obtain ⟨cb1, cb2⟩ := cb_t w1 rfl (fun j => rfl)
      have pcb := cb2 (pc_countedBits h)
      rw [cp_countedBits h1] at cb1
      obtain ⟨sB, eB⟩ : ∃ sB, sB = sI s1 4 (gN σ 4) 2 (v_C_countedBits s1) := ⟨_, rfl⟩
      have wB : agO kpW σ sB := by rw [eB]; exact agO_sI rfl w1
      obtain ⟨t1, t2, t3, t4, t5⟩ := kp_tail h1 wB (n := n) (by omega) (gN σ 4)
      have gN56 : gj_C_keepN_j56 (nI n) (gN σ 4) s1 := ⟨pcb, by rw [eB] at t1; exact t1⟩
      have eN56 : ej_C_keepN_j56 (nI n) (gN σ 4) s1 = ej_C_keepO_j64 (nI n) (gN σ 4) sB := by rw [eB]; rfl
      rw [eN56]
      have ws : agO [25000, 4000, 4999, 39000, 39999, 40000, 40999, 104000, 104999] σ (ej_C_keepO_j64 (nI n) (gN σ 4) sB) := (wB.mono rfl).step t2 rfl
      have gB : ∀ q f, gI sB 4 q f = if q = gN σ 4 then (if f = 2 then gI τ1 13 0 15 else if f = 1 then gI σ 12 0 12 else if f = 0 then gI σ 1 0 1 else gI s0 4 q f) else gI s0 4 q f := by
        intro q f
        rw [eB, cb1, gI_sI]
        by_cases e : q = gN σ 4
        · by_cases f2 : f = 2
          · rw [if_pos ⟨rfl, e, f2⟩, if_pos e, if_pos f2]
          · rw [if_neg (fun c => f2 c.2.2), if_pos e, if_neg f2, e1, gI_sI]
            by_cases f1 : f = 1
            · rw [if_pos ⟨rfl, e, f1⟩, if_pos f1, gI_sI, if_neg (fun c => absurd c.1 (by decide)), w0.i rfl]
            · rw [if_neg (fun c => f1 c.2.2), if_neg f1, gI_sI]
              by_cases f0 : f = 0
              · rw [if_pos ⟨rfl, e, f0⟩, if_pos f0, w0.i rfl]
              · rw [if_neg (fun c => f0 c.2.2), if_neg f0]
        · rw [if_neg (fun c => e c.2.1), if_neg e, e1, gI_sI, if_neg (fun c => e c.2.1), gI_sI, if_neg (fun c => e c.2.1)]
      have b39 : ∀ q f, gI sB 39 q f = gI s0 39 q f := fun q f => by rw [eB, gI_sI, if_neg (fun c => absurd c.1 (by decide)), e1, gI_sI, if_neg (fun c => absurd c.1 (by decide)), gI_sI, if_neg (fun c => absurd c.1 (by decide))]
      have b40 : ∀ q f, gI sB 40 q f = gI s0 40 q f := fun q f => by rw [eB, gI_sI, if_neg (fun c => absurd c.1 (by decide)), e1, gI_sI, if_neg (fun c => absurd c.1 (by decide)), gI_sI, if_neg (fun c => absurd c.1 (by decide))]
      have bN : ∀ k, gN sB k = gN s0 k := fun k => by rw [eB, e1]; rfl
      refine ⟨fun _ => ⟨v3, fun _ => ⟨hKe, gN56⟩, fun z1 hz => by cases hz⟩, rfl, ?_, ?_, ws⟩
      · refine kp_fin h1 (n := n) (z := gN σ 4) (by omega) ws (fun x => by rw [t3, wB.r (k := 25) rfl]) ?_ ?_ ?_ (fun p hp => by rw [t4, if_pos ⟨rfl, hp⟩]) (fun x hx => by rw [t5, if_pos ⟨rfl, hx⟩]) (fun q f hq hlt hf => ?_) ?_ ?_ ?_ (fun x hx hr => ?_) wt m70 m71 m73 m76 m75 m72 m72' m74 m74'
        · rw [t2.i rfl, gB, if_pos rfl, if_neg (by decide), if_neg (by decide), if_pos rfl]
        · rw [t2.i rfl, gB, if_pos rfl, if_neg (by decide), if_pos rfl]
        · rw [t2.i rfl, gB, if_pos rfl, if_pos rfl]
        · obtain ⟨a1, a2, a3⟩ := o4 q f hlt
          rw [t2.i (k := 4) (in4 f hf), t4, t5, if_neg (fun c => hq c.1), if_neg (fun c => hq c.1), gB, if_neg hq, b39, b40]
          exact ⟨a1, a2, a3⟩
        · rw [t2.n (k := 4) rfl, bN, nN4]; omega
        · rw [t2.n (k := 4) rfl, bN, nN4]; omega
        · rw [t2.n (k := 39) rfl, t2.n (k := 40) rfl, t2.n (k := 4) rfl, bN, bN, bN, nN4, nN39, nN40, hKK.2.2.1, hKK.2.2.2]; exact ⟨rfl, rfl⟩
        · rcases hKK.1 x hx with ⟨r1, -⟩ | ⟨q, r1, r2, -⟩
          · rw [r1] at hr; cases hr
          · rw [r1] at hr
            cases hr
            omega
      · rw [t2.n (k := 104) rfl, bN]; exact nN104
    · left
      unfold p_C_keepO v_C_keepO b_C_keepO e_C_keepO
      simp only [cp_isIn, if_neg (bn g)]
      rw [nI_cl (by omega), k1]
      simp only [mO_s]
      obtain ⟨s1, e1⟩ : ∃ s1, s1 = sI (sI σ 4 z 0 (gI σ 1 0 1)) 4 z 1 (gI (sI σ 4 z 0 (gI σ 1 0 1)) 12 0 12) := ⟨_, rfl⟩
      rw [← e1]
      have w1 : agO kpW σ s1 := by rw [e1]; exact agO_sI rfl (agO_sI rfl (agO_refl _ σ))
      obtain ⟨cb1, cb2⟩ := cb_t w1 rfl (fun j => rfl)
      have pcb := cb2 (pc_countedBits h)
      rw [cp_countedBits h1] at cb1
      obtain ⟨sB, eB⟩ : ∃ sB, sB = sI s1 4 z 2 (v_C_countedBits s1) := ⟨_, rfl⟩
      rw [← eB]
      have wB : agO kpW σ sB := by rw [eB]; exact agO_sI rfl w1
      obtain ⟨t1, t2, t3, t4, t5⟩ := kp_tail h1 wB (n := n) (by omega) z
      have ws : agO [25000, 4000, 4999, 39000, 39999, 40000, 40999, 104000, 104999] σ (ej_C_keepO_j64 (nI n) z sB) := (wB.mono rfl).step t2 rfl
      have gB : ∀ q f, gI sB 4 q f = if q = z then (if f = 2 then gI τ1 13 0 15 else if f = 1 then gI σ 12 0 12 else if f = 0 then gI σ 1 0 1 else gI σ 4 q f) else gI σ 4 q f := by
        intro q f
        rw [eB, cb1, gI_sI]
        by_cases e : q = z
        · by_cases f2 : f = 2
          · rw [if_pos ⟨rfl, e, f2⟩, if_pos e, if_pos f2]
          · rw [if_neg (fun c => f2 c.2.2), if_pos e, if_neg f2, e1, gI_sI]
            by_cases f1 : f = 1
            · rw [if_pos ⟨rfl, e, f1⟩, if_pos f1, gI_sI, if_neg (fun c => absurd c.1 (by decide))]
            · rw [if_neg (fun c => f1 c.2.2), if_neg f1, gI_sI]
              by_cases f0 : f = 0
              · rw [if_pos ⟨rfl, e, f0⟩, if_pos f0]
              · rw [if_neg (fun c => f0 c.2.2), if_neg f0]
        · rw [if_neg (fun c => e c.2.1), if_neg e, e1, gI_sI, if_neg (fun c => e c.2.1), gI_sI, if_neg (fun c => e c.2.1)]
      have b39 : ∀ q f, gI sB 39 q f = gI σ 39 q f := fun q f => by rw [eB, gI_sI, if_neg (fun c => absurd c.1 (by decide)), e1, gI_sI, if_neg (fun c => absurd c.1 (by decide)), gI_sI, if_neg (fun c => absurd c.1 (by decide))]
      have b40 : ∀ q f, gI sB 40 q f = gI σ 40 q f := fun q f => by rw [eB, gI_sI, if_neg (fun c => absurd c.1 (by decide)), e1, gI_sI, if_neg (fun c => absurd c.1 (by decide)), gI_sI, if_neg (fun c => absurd c.1 (by decide))]
      have bN : ∀ k, gN sB k = gN σ k := fun k => by rw [eB, e1]; rfl
      refine ⟨fun _ => ⟨v3, (fun c => by cases c), fun z1 _ => ⟨v3, (fun c => by cases c), fun z2 hz => ?_⟩⟩, rfl, ?_, ?_, ws⟩
      · cases hz
        rw [← e1, ← eB]
        exact ⟨pcb, t1⟩
      · refine kp_fin h1 (n := n) (z := z) (by omega) ws (fun x => by rw [t3, wB.r (k := 25) rfl]) ?_ ?_ ?_ (fun p hp => by rw [t4, if_pos ⟨rfl, hp⟩]) (fun x hx => by rw [t5, if_pos ⟨rfl, hx⟩]) (fun q f hq hlt hf => ?_) ?_ ?_ ?_ (fun x hx hr => hKK.2.1 x n z hx (by omega) hr k1) wt m70 m71 m73 m76 m75 m72 m72' m74 m74'
        · rw [t2.i rfl, gB, if_pos rfl, if_neg (by decide), if_neg (by decide), if_pos rfl]
        · rw [t2.i rfl, gB, if_pos rfl, if_neg (by decide), if_pos rfl]
        · rw [t2.i rfl, gB, if_pos rfl, if_pos rfl]
        · rw [t2.i (k := 4) (in4 f hf), t4, t5, if_neg (fun c => hq c.1), if_neg (fun c => hq c.1), gB, if_neg hq, b39, b40]
          exact ⟨rfl, rfl, rfl⟩
        · rw [t2.n (k := 4) rfl, bN]; exact k2
        · rw [t2.n (k := 4) rfl, bN]; exact Nat.le_refl _
        · rw [t2.n (k := 39) rfl, t2.n (k := 40) rfl, t2.n (k := 4) rfl, bN, bN, bN]; exact ⟨hKK.2.2.1, hKK.2.2.2⟩
      · rw [t2.n (k := 104) rfl, bN]; exact h104
  · simp only [if_pos (bz g)]
    refine ⟨fun q => absurd (bz g) q, Or.inl ?_⟩
    unfold p_C_keepO v_C_keepO b_C_keepO e_C_keepO
    simp only [cp_isIn, if_pos (bz g)]
    exact ⟨fun q => absurd (bz g) q, trivial, h1, h104, agO_refl _ σ⟩

