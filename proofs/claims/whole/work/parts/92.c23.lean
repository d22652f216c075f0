/-! next, parts -/
theorem cp_isEmpty {σ τ : MSto} (h : Cpl σ τ) : v_AL_isEmpty 15 0 σ = bI (gI τ 13 0 17 = 0) := by
  unfold v_AL_isEmpty
  rw [h.t.1]
def nxR (σ : MSto) (x : Int32 × Int32 × MSto) (y : Int32 × Int32) : Prop :=
  agO [29000] σ x.2.2 ∧ ((x.1 = -2 ∧ x.2.1 = -1 ∧ y = (-2, 0)) ∨ ∃ m k, m < 2 ^ 31 ∧ k < 2 ^ 31 ∧ x.1 = nI m ∧ x.2.1 = nI k ∧ y = (nI m, nI k))
theorem nI_gm1 {m : Nat} (h : m < 2 ^ 31) : ¬ nI m ≤ -1 := fun q => absurd (Int32.le_trans (nI_pos' h) q) (by decide)
theorem nx_step {σ τ : MSto} (h : Cpl σ τ) {yr : Int32} (hy : rg yr 0 199) {i : Nat} (hi : i < nM τ 10) (x : Int32 × Int32 × MSto) (y : Int32 × Int32) (hr : nxR σ x y) : nxR σ (t_C_next_27 yr (0 + nI i) x) (t_M_next_29 yr (0 + nI i) τ y) ∧ (g_C_next_27 yr (0 + nI i) x ∧ ¬ q_C_next_27s yr (0 + nI i) x = 1) ∧ g_M_next_29 yr (0 + nI i) τ y := by
  obtain ⟨b, mo, s⟩ := x
  obtain ⟨w, hB⟩ := hr
  have w : agO [29000] σ s := w
  have hP := h.P12
  have hS := h.S6
  have hc : Cpl s τ := h.mv w (agO_refl [] τ) rfl rfl
  obtain ⟨q1, q2, q3, q4, q5⟩ := pairsBy hc hi hy
  have hct := cntP_le (pcF τ i yr) hS
  have w2 : agO [29000] σ (e_C_pairsPartedBy i yr s) := w.trans (w_C_pairsPartedBy _ _ _)
  have cC := cp_isC hc hi
  have get := al_p hc.lP (by omega) hi
  have sz : v_C_pieceCount s = nI (nM τ 10) := cp_pieceCount hc
  unfold t_C_next_27 t_M_next_29 g_C_next_27 g_M_next_29 q_C_next_27s
  rw [z_nI, cp_hasM _ (by omega), h.m.c.2.2.1.1, if_neg (nI_ge hi (by omega))]
  show nxR σ (if v_C_pieceCount s ≤ nI i then _ else (if gI s 7 (v_AL_get 14 0 (nI i) s) 4 = 0 then (if v_In_bitCount (v_C_pairsPartedBy (v_AL_get 14 0 (nI i) s) yr s) (e_C_pairsPartedBy (v_AL_get 14 0 (nI i) s) yr s) ≤ mo then (b, mo, e_C_pairsPartedBy (v_AL_get 14 0 (nI i) s) yr s) else (nI i, v_In_bitCount (v_C_pairsPartedBy (v_AL_get 14 0 (nI i) s) yr s) (e_C_pairsPartedBy (v_AL_get 14 0 (nI i) s) yr s), e_C_pairsPartedBy (v_AL_get 14 0 (nI i) s) yr s)) else (if (-1 : Int32) ≤ mo then (b, mo, s) else (nI i, -1, s)))) _ ∧ ((¬ v_C_pieceCount s ≤ nI i → p_AL_get 14 0 (nI i) s ∧ (gI s 7 (v_AL_get 14 0 (nI i) s) 4 = 0 → p_C_pairsPartedBy (v_AL_get 14 0 (nI i) s) yr s)) ∧ ¬ (if v_C_pieceCount s ≤ nI i then (1 : Nat) else 0) = 1) ∧ _
  rw [sz, if_neg (nI_ge hi (by omega)), al_v (by omega), hc.eP hi, q1, bc_pairs _ hS, q4, if_neg (nI_ge hi (by omega))]
  refine ⟨?_, ⟨fun _ => ⟨get, fun _ => q2⟩, by decide⟩, fun _ _ => ⟨fun _ => q5, fun _ => ⟨q5, fun _ => q5⟩⟩⟩
  cases hb : bt (gI τ 13 0 15) i with
  | false =>
    rw [if_pos (cC.mpr hb), if_pos (bz (by decide))]
    rcases hB with ⟨e1, e2, rfl⟩ | ⟨m, k, hm, hk, e1, e2, rfl⟩
    · have e2' : mo = -1 := e2
      rw [e2', if_neg (nI_gm1 (by omega)), if_pos (show (-2 : Int32) < 0 by decide)]
      exact ⟨w2, Or.inr ⟨i, _, by omega, by omega, rfl, rfl, rfl⟩⟩
    · have e1' : b = nI m := e1
      have e2' : mo = nI k := e2
      rw [e1', e2']
      show nxR σ _ (if nI m < 0 then _ else if nI k < nI (cntP (pcF τ i yr) (nM τ 17) (nM τ 17)) then _ else _)
      rw [if_neg (nI_pos hm)]
      by_cases g : nI (cntP (pcF τ i yr) (nM τ 17) (nM τ 17)) ≤ nI k
      · rw [if_pos g, if_neg (Int32.not_lt.mpr g)]
        exact ⟨w2, Or.inr ⟨m, k, hm, hk, rfl, rfl, rfl⟩⟩
      · rw [if_neg g, if_pos (Int32.not_le.mp g)]
        exact ⟨w2, Or.inr ⟨i, _, by omega, by omega, rfl, rfl, rfl⟩⟩
  | true =>
    have n1 : ¬ gI s 7 i 4 = 0 := fun q => by have := cC.mp q; rw [hb] at this; cases this
    rw [if_neg n1, if_neg (bn rfl)]
    rcases hB with ⟨e1, e2, rfl⟩ | ⟨m, k, hm, hk, e1, e2, rfl⟩
    · have e2' : mo = -1 := e2
      rw [e2', if_pos (Int32.le_refl _)]
      exact ⟨w, Or.inl ⟨e1, rfl, rfl⟩⟩
    · have e2' : mo = nI k := e2
      rw [e2', if_pos (Int32.le_trans (by decide) (nI_pos' hk))]
      exact ⟨w, Or.inr ⟨m, k, hm, hk, e1, rfl, rfl⟩⟩
theorem T_next {σ τ : MSto} (h : Cpl σ τ) (a : Int32) : p_C_next a σ ∧ p_M_next a τ ∧ v_C_next a σ = v_M_next a τ ∧ Cpl (e_C_next a σ) (e_M_next a τ) := by
  have h1 := h.e0
  unfold p_C_next p_M_next v_C_next v_M_next e_C_next e_M_next
  generalize sI τ 13 0 52 0 = τ1 at h1 ⊢
  simp only [cp_isYear, M_isYear, cp_isEmpty h1]
  by_cases g : 0 ≤ a ∧ a ≤ 199
  · by_cases g1 : gI τ1 13 0 17 = 0
    · simp only [if_neg (bn g), if_pos g1, if_neg (bn g1)]
      exact ⟨fun _ q => absurd q (bn g1), fun _ q => absurd g1 q, trivial, h1⟩
    · simp only [if_neg (bn g), if_neg g1, if_pos (bz g1)]
      have hP := h1.P12
      have nC : n_C_next_27 a 0 ((-2), (-1), σ) = nM τ1 10 := by unfold n_C_next_27; exact cp_pN h1
      have nM' : n_M_next_29 a 0 τ1 ((-2), 0) = nM τ1 10 := rfl
      rw [nC, nM']
      obtain ⟨R, G⟩ := nfold3 (R := fun _ => nxR σ) (G := fun i x => g_C_next_27 a (0 + nI i) x ∧ ¬ q_C_next_27s a (0 + nI i) x = 1) (K := fun i y => g_M_next_29 a (0 + nI i) τ1 y) (f := fun i s => t_C_next_27 a (0 + nI i) s) (g := fun i s => t_M_next_29 a (0 + nI i) τ1 s) (a := ((-2), (-1), σ)) (b := ((-2), 0)) (N := nM τ1 10)
        ⟨agO_refl _ _, Or.inl ⟨rfl, rfl, rfl⟩⟩ (fun i hi x y r => nx_step h1 g hi x y r) (nM τ1 10) (Nat.le_refl _)
      have R' : nxR σ (f_C_next_27 a 0 ((-2), (-1), σ) (nM τ1 10)) (f_M_next_29 a 0 τ1 ((-2), 0) (nM τ1 10)) := R
      have G1 : ∀ i, i < nM τ1 10 → g_C_next_27 a (0 + nI i) (f_C_next_27 a 0 ((-2), (-1), σ) i) ∧ ¬ q_C_next_27s a (0 + nI i) (f_C_next_27 a 0 ((-2), (-1), σ) i) = 1 := fun i hi => (G i hi).1
      have G2 : ∀ i, i < nM τ1 10 → g_M_next_29 a (0 + nI i) τ1 (f_M_next_29 a 0 τ1 ((-2), 0) i) := fun i hi => (G i hi).2
      obtain ⟨x, ex⟩ : ∃ x, x = f_C_next_27 a 0 ((-2), (-1), σ) (nM τ1 10) := ⟨_, rfl⟩
      obtain ⟨y, ey⟩ : ∃ y, y = f_M_next_29 a 0 τ1 ((-2), 0) (nM τ1 10) := ⟨_, rfl⟩
      rw [← ex, ← ey] at R' ⊢
      obtain ⟨b, mo, s⟩ := x
      obtain ⟨w, hB⟩ := R'
      have hc : Cpl s τ1 := h1.mv w (agO_refl [] τ1) rfl rfl
      have sz : v_C_pieceCount s = nI (nM τ1 10) := cp_pieceCount hc
      obtain ⟨r1, r2, -⟩ := row1 hc mo.toInt64
      have r3 := fun v => (row1 hc v).2.2
      refine ⟨fun _ _ => ⟨G1, fun _ _ => r2, fun q => q (e_cnt sz)⟩, fun _ _ => ⟨fun i hi => ⟨G2 i hi, q_cnt h1.m.c.2.2.1.1 (by omega) hi⟩, fun _ _ => r3 _, fun q => q (e_cnt h1.m.c.2.2.1.1)⟩, ?_, ?_⟩
      · rcases hB with ⟨e1, e2, rfl⟩ | ⟨m, k, hm, hk, e1, e2, rfl⟩
        · have e1' : b = -2 := e1
          rw [e1']; rfl
        · have e1' : b = nI m := e1
          rw [e1']
          show nI m = if 0 ≤ nI m then nI m else -2
          rw [if_pos (nI_pos' hm)]
      · rcases hB with ⟨e1, e2, rfl⟩ | ⟨m, k, hm, hk, e1, e2, rfl⟩
        · have e1' : b = -2 := e1
          rw [e1']; exact hc
        · have e1' : b = nI m := e1
          have e2' : mo = nI k := e2
          rw [e1', e2']
          rw [e2'] at r1
          show Cpl (if nI m = -2 then s else e_Ro_add (nI k).toInt64 (e_Ro_clear s)) (if 0 ≤ nI m then e_M_tell (nI k).toInt64 (sI τ1 13 0 51 0) else τ1)
          rw [if_neg (nI_nm2 hm), if_pos (nI_pos' hm)]
          exact r1
  · simp only [if_pos (bz g)]
    exact ⟨fun q => absurd (bz g) q, fun q => absurd (bz g) q, trivial, h1⟩
/-! parts -/
theorem would_mv {τ t : MSto} (w2 : agO [13052, 78000] τ t) {s : Nat} (hs : s < 2 ^ 31) (x y w hh yr : Int32) : v_M_wouldAt (nI s) x y w hh yr t = v_M_wouldAt (nI s) x y w hh yr τ := by
  rw [M_would hs, M_would hs]
  have efs : ∀ v x y w, v_M_withStuff v x y w t = v_M_withStuff v x y w τ := fun v x y w => by
    unfold v_M_withStuff
    have n5 : nM t 5 = nM τ 5 := by unfold nM; rw [w2.i rfl]
    rw [n5]
    refine nfold_congr (fun i _ a => ?_)
    unfold t_M_stuff v_M_mixed
    rw [w2.i rfl, w2.i rfl, w2.i rfl, w2.i rfl, w2.i rfl, w2.i rfl, w2.i rfl, w2.i rfl]
  unfold coreW fromY offW v_M_mixed
  rw [efs]
  simp only [w2.i (k := 59) (i := 0) rfl, w2.i (k := 55) (i := 0) rfl, w2.i (k := 52) (i := 0) rfl, w2.i (k := 53) (i := 0) rfl, w2.i (k := 54) (i := 0) rfl, w2.i (k := 41) (i := 0) rfl, w2.i (k := 45) (i := 0) rfl, w2.i (k := 56) (i := 0) rfl, w2.i (k := 57) (i := 0) rfl, w2.i (k := 58) (i := 0) rfl]
theorem parted_mv {τ t : MSto} (w : agO [13052, 78000] τ t) {a b : Nat} (ha : a < 2 ^ 31) (hb : b < 2 ^ 31) (x y ww hh yr : Int32) : v_M_areParted (nI a) (nI b) x y ww hh yr t = v_M_areParted (nI a) (nI b) x y ww hh yr τ := by
  unfold v_M_areParted b_M_areParted
  rw [would_mv w ha, would_mv w hb, w.i rfl]
  rfl
theorem fa_first_eq {p : Nat → Bool} {n m : Nat} (h1 : ∀ k, k < m → p k = false) (h2 : m < n → p m = true) (hm : m ≤ n) : fa_first p n = m := by
  have hl := fa_first_le p n
  rcases Nat.lt_trichotomy (fa_first p n) m with q | q | q
  · have a := fa_first_yes p n (by omega)
    rw [h1 _ q] at a; cases a
  · exact q
  · have a := fa_first_no p n m q
    rw [h2 (by omega)] at a; cases a
/-- the first place of a row that isn't parted -/
def mIx (f : Nat → Nat → Bool) (S i : Nat) : Nat := fa_first (fun m => !(f i (i + 1 + m))) (S - (i + 1))
def iIx (f : Nat → Nat → Bool) (S : Nat) : Nat := fa_first (fun i => decide (mIx f S i < S - (i + 1))) S
theorem mIx_f {f : Nat → Nat → Bool} {S i m : Nat} (h : m < mIx f S i) : f i (i + 1 + m) = true := by
  have := fa_first_no (fun m => !(f i (i + 1 + m))) (S - (i + 1)) m h
  cases c : f i (i + 1 + m) with
  | true => rfl
  | false =>
    have h2 : (!(f i (i + 1 + m))) = false := this
    rw [c] at h2; cases h2
theorem mIx_n {f : Nat → Nat → Bool} {S i : Nat} (h : mIx f S i < S - (i + 1)) : f i (i + 1 + mIx f S i) = false := by
  have := fa_first_yes (fun m => !(f i (i + 1 + m))) (S - (i + 1)) h
  cases c : f i (i + 1 + mIx f S i) with
  | false => rfl
  | true =>
    have h2 : (!(f i (i + 1 + mIx f S i))) = true := this
    rw [c] at h2; cases h2
theorem mIx_le (f : Nat → Nat → Bool) (S i : Nat) : mIx f S i ≤ S - (i + 1) := fa_first_le _ _
theorem iIx_f {f : Nat → Nat → Bool} {S i : Nat} (h : i < iIx f S) : mIx f S i = S - (i + 1) := by
  have h1 := fa_first_no (fun i => decide (mIx f S i < S - (i + 1))) S i h
  have h2 : ¬ mIx f S i < S - (i + 1) := of_decide_eq_false h1
  have := mIx_le f S i
  omega
theorem iIx_n {f : Nat → Nat → Bool} {S : Nat} (h : iIx f S < S) : mIx f S (iIx f S) < S - (iIx f S + 1) := of_decide_eq_true (fa_first_yes (fun i => decide (mIx f S i < S - (i + 1))) S h)
theorem iIx_le (f : Nat → Nat → Bool) (S : Nat) : iIx f S ≤ S := fa_first_le _ _
theorem tellFirst {σ τ : MSto} (h : Cpl σ τ) (f : Nat → Nat → Bool) {S : Nat} (eS : nM τ 17 = S) (h0 : nM τ 51 = 0) : p_C_tellFirstPairOutside (nI (kOut f S S)) σ ∧ e_C_tellFirstPairOutside (nI (kOut f S S)) σ = if S ≤ iIx f S then σ else e_Ro_add (nI (iIx f S + 1 + mIx f S (iIx f S))).toInt64 (e_Ro_add (nI (iIx f S)).toInt64 σ) := by
  have hS := h.S6
  rw [eS] at hS
  have sC : v_C_storyCount σ = nI S := by rw [← eS]; exact cp_storyCount h
  have b15 := base_15 hS
  obtain ⟨K, eK⟩ : ∃ K, K = kOut f S S := ⟨_, rfl⟩
  have hK15 : K < 32768 := by rw [eK]; exact kOut_15 f hS
  have bit : ∀ i m, i < S → m < S - (i + 1) → v_C_has (nI K) (nI (base S i + m)) σ = bI (f i (i + 1 + m) = true) := fun i m hi hm => by
    have := base_le S hi
    rw [hasC (by omega), eK, kOut_bit f S i m hi hm]
  rw [← eK]
  -- the inner loop
  have inner : ∀ i, i < S → ∀ m, m ≤ mIx f S i → f_C_tellFirstPairOutside_17 (nI K) (nI i) (nI (i + 1)) σ (nI (base S i)) m = nI (base S i + m) := by
    intro i hi m
    induction m with
    | zero => exact fun _ => rfl
    | succ m ih =>
      intro hm
      have hl := mIx_le f S i
      have hbi := base_le S hi
      show t_C_tellFirstPairOutside_17 (nI K) (nI i) (nI (i + 1) + nI m) σ (f_C_tellFirstPairOutside_17 (nI K) (nI i) (nI (i + 1)) σ (nI (base S i)) m) = _
      rw [ih (by omega), nI_add]
      unfold t_C_tellFirstPairOutside_17
      rw [sC, if_neg (nI_ge (by omega) (by omega)), bit i m hi (by omega), if_neg (bn (mIx_f (f := f) (S := S) (i := i) (by omega))), nI_s]
      rfl
  have qin : ∀ i, i < S → (∀ m, m < mIx f S i → ¬ q_C_tellFirstPairOutside_17s (nI K) (nI i) (nI (i + 1) + nI m) σ (f_C_tellFirstPairOutside_17 (nI K) (nI i) (nI (i + 1)) σ (nI (base S i)) m) = 1) ∧ q_C_tellFirstPairOutside_17s (nI K) (nI i) (nI (i + 1) + nI (mIx f S i)) σ (f_C_tellFirstPairOutside_17 (nI K) (nI i) (nI (i + 1)) σ (nI (base S i)) (mIx f S i)) = 1 := fun i hi => by
    have hl := mIx_le f S i
    have hbi := base_le S hi
    constructor
    · intro m hm
      rw [inner i hi m (by omega)]
      unfold q_C_tellFirstPairOutside_17s
      rw [nI_add, sC, if_neg (nI_ge (by omega) (by omega)), bit i m hi (by omega), if_neg (bn (mIx_f hm))]; decide
    · rw [inner i hi _ (Nat.le_refl _)]
      unfold q_C_tellFirstPairOutside_17s
      rw [nI_add, sC]
      by_cases g : mIx f S i < S - (i + 1)
      · rw [if_neg (nI_ge (by omega) (by omega)), bit i _ hi g, if_pos (bz (by rw [mIx_n g]; decide))]
      · rw [if_pos (nI_le (by omega) (by omega))]
  have nin : ∀ i, i < S → n_C_tellFirstPairOutside_17 (nI K) (nI i) (nI (i + 1)) σ (nI (base S i)) = mIx f S i := fun i hi => by
    have hl := mIx_le f S i
    exact leastN_eq (P := fun m => q_C_tellFirstPairOutside_17s (nI K) (nI i) (nI (i + 1) + nI m) σ (f_C_tellFirstPairOutside_17 (nI K) (nI i) (nI (i + 1)) σ (nI (base S i)) m) = 1) (qin i hi).1 (qin i hi).2 (by omega)
  have cmpS : ∀ i, i < S → (nI S ≤ nI (i + 1) + nI (mIx f S i) ↔ S - (i + 1) ≤ mIx f S i) := fun i hi => by
    have hl := mIx_le f S i
    rw [nI_add, leN (by omega) (by omega)]
    omega
  -- the outer loop
  have outer : ∀ n, n ≤ iIx f S → f_C_tellFirstPairOutside_4 (nI K) 0 σ 0 n = nI (base S n) := by
    intro n
    induction n with
    | zero => exact fun _ => rfl
    | succ n ih =>
      intro hn
      have hl := iIx_le f S
      have hf := iIx_f (f := f) (S := S) (i := n) (by omega)
      show t_C_tellFirstPairOutside_4 (nI K) (0 + nI n) σ (f_C_tellFirstPairOutside_4 (nI K) 0 σ 0 n) = _
      rw [ih (by omega)]
      unfold t_C_tellFirstPairOutside_4
      rw [z_nI, sC, if_neg (nI_ge (by omega) (by omega)), nI_s, nin n (by omega), if_pos ((cmpS n (by omega)).mpr (by omega)), inner n (by omega) _ (Nat.le_refl _), hf, base_s]
  have qout : (∀ n, n < iIx f S → ¬ q_C_tellFirstPairOutside_4s (nI K) (0 + nI n) σ (f_C_tellFirstPairOutside_4 (nI K) 0 σ 0 n) = 1) ∧ q_C_tellFirstPairOutside_4s (nI K) (0 + nI (iIx f S)) σ (f_C_tellFirstPairOutside_4 (nI K) 0 σ 0 (iIx f S)) = 1 := by
    have hl := iIx_le f S
    constructor
    · intro n hn
      have hf := iIx_f hn
      rw [outer n (by omega)]
      unfold q_C_tellFirstPairOutside_4s
      rw [z_nI, sC, if_neg (nI_ge (by omega) (by omega)), nI_s, nin n (by omega), if_pos ((cmpS n (by omega)).mpr (by omega))]; decide
    · rw [outer _ (Nat.le_refl _)]
      unfold q_C_tellFirstPairOutside_4s
      rw [z_nI, sC]
      by_cases g : S ≤ iIx f S
      · rw [if_pos (nI_le g (by omega))]
      · have hn := iIx_n (f := f) (S := S) (by omega)
        rw [if_neg (nI_ge (by omega) (by omega)), nI_s, nin _ (by omega), if_neg (fun q => by have := (cmpS _ (by omega)).mp q; omega)]
  have nout : n_C_tellFirstPairOutside_4 (nI K) 0 σ 0 = iIx f S := by
    have hl := iIx_le f S
    exact leastN_eq (P := fun n => q_C_tellFirstPairOutside_4s (nI K) (0 + nI n) σ (f_C_tellFirstPairOutside_4 (nI K) 0 σ 0 n) = 1) qout.1 qout.2 (by omega)
  have hl := iIx_le f S
  have pin : ∀ i, i < S → (∀ m, m < n_C_tellFirstPairOutside_17 (nI K) (nI i) (nI (i + 1)) σ (nI (base S i)) → g_C_tellFirstPairOutside_17 (nI K) (nI i) (nI (i + 1) + nI m) σ (f_C_tellFirstPairOutside_17 (nI K) (nI i) (nI (i + 1)) σ (nI (base S i)) m) ∧ ¬ q_C_tellFirstPairOutside_17s (nI K) (nI i) (nI (i + 1) + nI m) σ (f_C_tellFirstPairOutside_17 (nI K) (nI i) (nI (i + 1)) σ (nI (base S i)) m) = 1) ∧ (¬ nI S ≤ nI (i + 1) + nI (n_C_tellFirstPairOutside_17 (nI K) (nI i) (nI (i + 1)) σ (nI (base S i))) → ¬ v_C_has (nI K) (f_C_tellFirstPairOutside_17 (nI K) (nI i) (nI (i + 1)) σ (nI (base S i)) (n_C_tellFirstPairOutside_17 (nI K) (nI i) (nI (i + 1)) σ (nI (base S i)))) σ = 0 → False) := fun i hi => by
    rw [nin i hi]
    have hl := mIx_le f S i
    refine ⟨fun m hm => ⟨trivial, (qin i hi).1 m hm⟩, fun c1 c2 => ?_⟩
    have g : mIx f S i < S - (i + 1) := by
      rcases Nat.lt_or_ge (mIx f S i) (S - (i + 1)) with q | q
      · exact q
      · exact absurd ((cmpS i hi).mpr q) c1
    rw [inner i hi _ (Nat.le_refl _), bit i _ hi g] at c2
    exact c2 (bz (by rw [mIx_n g]; decide))
  constructor
  · unfold p_C_tellFirstPairOutside
    rw [nout, outer _ (Nat.le_refl _), z_nI, sC]
    refine ⟨fun n hn => ⟨fun _ => ?_, qout.1 n hn⟩, fun c1 => ?_⟩
    · rw [outer n (by omega), z_nI, nI_s, sC]
      exact pin n (by omega)
    · have hlt : iIx f S < S := by
        rcases Nat.lt_or_ge (iIx f S) S with q | q
        · exact q
        · exact absurd (nI_le q (by omega)) c1
      obtain ⟨p1, p2⟩ := pin _ hlt
      have hn := iIx_n hlt
      have nn := nin _ hlt
      rw [nI_s]
      refine ⟨p1, fun c2 => ?_, fun c2 => ⟨fun _ => ⟨pC_add _ h.r, pC_add _ (kR_add h.r (by omega) _)⟩, fun c3 => p2 c2 c3⟩⟩
      rw [nn] at c2
      have := (cmpS _ hlt).mp c2
      omega
  · unfold e_C_tellFirstPairOutside
    rw [nout, outer _ (Nat.le_refl _), z_nI, sC]
    by_cases g : S ≤ iIx f S
    · rw [if_pos (nI_le g (by omega)), if_pos g]
    · rw [if_neg (nI_ge (by omega) (by omega)), if_neg g, nI_s, nin _ (by omega), nI_add]

