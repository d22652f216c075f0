/-! parts -/
theorem row0 {σ τ : MSto} (h : Cpl σ τ) : Cpl (e_Ro_clear σ) (sI τ 13 0 51 0) := h.mvR (W := [8002, 38000]) (V := [13052, 78000]) ((w_Ro_clear σ).mono rfl) (agO_sI rfl (agO_refl _ τ)) rfl rfl (kR_clear σ τ)
theorem row2 {σ τ : MSto} (h : Cpl σ τ) (a b : Int64) : Cpl (e_Ro_add b (e_Ro_add a (e_Ro_clear σ))) (e_M_tell b (e_M_tell a (sI τ 13 0 51 0))) ∧ p_M_tell a (sI τ 13 0 51 0) ∧ p_M_tell b (e_M_tell a (sI τ 13 0 51 0)) := by
  have c0 := kR_clear σ τ
  have n0 := rN_clear τ
  have k1 := kR_add c0 (by omega) a
  have n1 := rN_tell a c0.2.1
  have k2 := kR_add k1 (by omega) b
  exact ⟨h.mvR (W := [8002, 38000]) (V := [13052, 78000]) (w_add _ (w_add _ ((w_Ro_clear σ).mono rfl))) (w_tell _ (w_tell _ (agO_sI rfl (agO_refl _ τ)))) rfl rfl k2, pM_tell _ c0.2.1, pM_tell _ k1.2.1⟩
theorem parts_t {τ t : MSto} (w : agO [13052, 78000] τ t) (ht : iM t) {p : Nat} (hp : p < nM τ 10) {yr : Int32} (hy : rg yr 0 199) {S : Nat} (eS : nM τ 17 = S) {i m : Nat} (hi : i < S) (hm : m < S - (i + 1)) : t_M_parts_42 (nI p) yr (nI i) (nI (i + 1 + m)) t = (if 0 < gI t 13 0 51 then t else if pcF τ p yr i (i + 1 + m) = false then e_M_tell (nI (i + 1 + m)).toInt64 (e_M_tell (nI i).toInt64 t) else t) ∧ (p_M_tell (nI i).toInt64 t → p_M_tell (nI (i + 1 + m)).toInt64 (e_M_tell (nI i).toInt64 t) → g_M_parts_42 (nI p) yr (nI i) (nI (i + 1 + m)) t) ∧ ¬ q_M_parts_42s (nI p) yr (nI i) (nI (i + 1 + m)) t = 1 := by
  have h6 := ht.c.2.2.2.1
  have hPt := ht.c.2.2.1
  have eN : nM t 10 = nM τ 10 := by unfold nM; rw [w.i rfl]
  have eT : nM t 17 = S := by rw [← eS]; unfold nM; rw [w.i rfl]
  have cS : gI t 13 0 17 = nI S := by rw [← eT]; exact h6.1
  have hS : S ≤ 6 := by rw [← eT]; exact h6.2
  have hP : nM t 10 ≤ 12 := hPt.2
  obtain ⟨r1, r2, r3, r4⟩ := ht.p p (by omega)
  have vp : vp_in (nI p) 12 := nI_inb (by omega) (by decide)
  have en : ¬ gI t 13 0 17 ≤ nI (i + 1 + m) := by rw [cS]; exact nI_ge (by omega) (by omega)
  have eA : v_M_areParted (nI i) (nI (i + 1 + m)) (gI t 47 0 p) (gI t 48 0 p) (gI t 49 0 p) (gI t 50 0 p) yr t = 0 ↔ pcF τ p yr i (i + 1 + m) = false := by
    rw [parted_mv w (by omega) (by omega), w.i rfl, w.i rfl, w.i rfl, w.i rfl]
    exact ptB_0
  unfold t_M_parts_42 g_M_parts_42 q_M_parts_42s
  rw [nI_cl (by omega), if_neg en, if_neg en]
  refine ⟨?_, fun a b _ _ => ⟨vp, vp, vp, vp, pM_areParted (x := gI t 47 0 p) ht _ r3 r4 hy (by omega) (by omega), fun _ => ⟨a, b⟩⟩, by decide⟩
  simp only [eA]
theorem cntP_same {τ t : MSto} (w : agO [13052, 78000] τ t) {S : Nat} (hS : S ≤ 6) (p : Nat) (yr : Int32) : pcF t p yr = pcF τ p yr ∨ cntP (pcF t p yr) S S = cntP (pcF τ p yr) S S := by
  right
  have e : ∀ a b, a < 2 ^ 31 → b < 2 ^ 31 → pcF t p yr a b = pcF τ p yr a b := fun a b ha hb => by
    unfold pcF ptB
    rw [parted_mv w ha hb, w.i rfl, w.i rfl, w.i rfl, w.i rfl]
  unfold cntP
  exact fb_sm_cong (fun i hi => fb_ct_cong (fun m hm => e _ _ (by omega) (by omega)))
theorem parts_M {σ τ : MSto} (h : Cpl σ τ) {p : Nat} (hp : p < nM τ 10) {yr : Int32} (hy : rg yr 0 199) {S : Nat} (eS : nM τ 17 = S) {F : Nat → Nat → Bool} (eF : F = pcF τ p yr) : (f_M_parts_29 (nI p) yr 0 (sI τ 13 0 51 0) (n_M_parts_29 (nI p) yr 0 (sI τ 13 0 51 0)) = if S ≤ iIx F S then sI τ 13 0 51 0 else e_M_tell (nI (iIx F S + 1 + mIx F S (iIx F S))).toInt64 (e_M_tell (nI (iIx F S)).toInt64 (sI τ 13 0 51 0))) ∧ n_M_parts_29 (nI p) yr 0 (sI τ 13 0 51 0) = S ∧ ∀ i, i < S → g_M_parts_29 (nI p) yr (0 + nI i) (f_M_parts_29 (nI p) yr 0 (sI τ 13 0 51 0) i) ∧ ¬ q_M_parts_29s (nI p) yr (0 + nI i) (f_M_parts_29 (nI p) yr 0 (sI τ 13 0 51 0) i) = 1 := by
  have hS := h.S6
  rw [eS] at hS
  have c0 := row0 h
  have w0 : agO [13052, 78000] τ (sI τ 13 0 51 0) := agO_sI rfl (agO_refl _ τ)
  have z0 : ¬ 0 < gI (sI τ 13 0 51 0) 13 0 51 := by rw [gI_sI, if_pos ⟨rfl, rfl, rfl⟩]; decide
  obtain ⟨t0, e0⟩ : ∃ t0, t0 = sI τ 13 0 51 0 := ⟨_, rfl⟩
  have R := fun a b => row2 h a b
  rw [← e0] at c0 w0 z0 R ⊢
  have hr0 : cM t0 51 20 := c0.r.2.1
  have n0 : nM t0 51 = 0 := by rw [e0]; rfl
  -- once told
  have told : ∀ a b : Int64, 0 < gI (e_M_tell b (e_M_tell a t0)) 13 0 51 := fun a b => by
    have n1 := rN_tell a hr0
    have k2 := (R a b).1.r
    have c1 : cM (e_M_tell a t0) 51 20 := by
      have := kR_add c0.r (by omega) a
      exact this.2.1
    have n2 := rN_tell b c1
    rw [k2.2.1.1, n2, n1, n0]; decide
  have wT : ∀ a b : Int64, agO [13052, 78000] τ (e_M_tell b (e_M_tell a t0)) := fun a b => w_tell _ (w_tell _ w0)
  have nIn : ∀ (i : Nat) (t : MSto), i < S → agO [13052, 78000] τ t → n_M_parts_42 (nI p) yr (nI i) (nI (i + 1)) t = S - (i + 1) := fun i t hi w => by
    show nM t 17 - (nI (i + 1)).toNatClampNeg = _
    have : nM t 17 = S := by rw [← eS]; unfold nM; rw [w.i rfl]
    rw [this, nI_cl (by omega)]
  have inT : ∀ (i : Nat) (a b : Int64), i < S → ∀ m, m ≤ S - (i + 1) → f_M_parts_42 (nI p) yr (nI i) (nI (i + 1)) (e_M_tell b (e_M_tell a t0)) m = e_M_tell b (e_M_tell a t0) := by
    intro i a b hi m
    induction m with
    | zero => exact fun _ => rfl
    | succ m ih =>
      intro hm
      show t_M_parts_42 (nI p) yr (nI i) (nI (i + 1) + nI m) (f_M_parts_42 (nI p) yr (nI i) (nI (i + 1)) (e_M_tell b (e_M_tell a t0)) m) = _
      rw [ih (by omega), nI_add, (parts_t (wT a b) (R a b).1.m hp hy eS hi (by omega)).1, if_pos (told a b)]
  have in0 : ∀ i, i < S → ∀ m, m ≤ S - (i + 1) → f_M_parts_42 (nI p) yr (nI i) (nI (i + 1)) t0 m = if m ≤ mIx F S i then t0 else e_M_tell (nI (i + 1 + mIx F S i)).toInt64 (e_M_tell (nI i).toInt64 t0) := by
    intro i hi m
    induction m with
    | zero => exact fun _ => by rw [if_pos (Nat.zero_le _)]; rfl
    | succ m ih =>
      intro hm
      show t_M_parts_42 (nI p) yr (nI i) (nI (i + 1) + nI m) (f_M_parts_42 (nI p) yr (nI i) (nI (i + 1)) t0 m) = _
      rw [ih (by omega), nI_add]
      by_cases g : m ≤ mIx F S i
      · rw [if_pos g, (parts_t w0 c0.m hp hy eS hi (by omega)).1, if_neg z0, ← eF]
        by_cases g2 : m = mIx F S i
        · rw [if_neg (c := m + 1 ≤ mIx F S i) (by omega), g2, if_pos (mIx_n (by omega))]
        · rw [if_pos (c := m + 1 ≤ mIx F S i) (by omega), if_neg (by rw [mIx_f (f := F) (S := S) (i := i) (m := m) (by omega)]; decide)]
      · rw [if_neg g, if_neg (c := m + 1 ≤ mIx F S i) (by omega), (parts_t (wT _ _) (R _ _).1.m hp hy eS hi (by omega)).1, if_pos (told _ _)]
  have cM' : ∀ t, agO [13052, 78000] τ t → iM t → gI t 13 0 17 = nI S := fun t w ht => by
    have : nM t 17 = S := by rw [← eS]; unfold nM; rw [w.i rfl]
    rw [← this]; exact ht.c.2.2.2.1.1
  have out : ∀ n, n ≤ S → f_M_parts_29 (nI p) yr 0 t0 n = if n ≤ iIx F S then t0 else e_M_tell (nI (iIx F S + 1 + mIx F S (iIx F S))).toInt64 (e_M_tell (nI (iIx F S)).toInt64 t0) := by
    intro n
    induction n with
    | zero => exact fun _ => by rw [if_pos (Nat.zero_le _)]; rfl
    | succ n ih =>
      intro hn
      show t_M_parts_29 (nI p) yr (0 + nI n) (f_M_parts_29 (nI p) yr 0 t0 n) = _
      rw [ih (by omega), z_nI]
      unfold t_M_parts_29
      rw [nI_s]
      by_cases g : n ≤ iIx F S
      · rw [if_pos g, cM' _ w0 c0.m, if_neg (nI_ge (by omega) (by omega)), nIn n _ (by omega) w0, in0 n (by omega) _ (Nat.le_refl _)]
        by_cases g2 : n = iIx F S
        · have := iIx_n (f := F) (S := S) (by omega)
          rw [if_neg (c := n + 1 ≤ iIx F S) (by omega), g2, if_neg (by omega)]
        · have := iIx_f (f := F) (S := S) (i := n) (by omega)
          rw [if_pos (c := n + 1 ≤ iIx F S) (by omega), if_pos (by omega)]
      · rw [if_neg g, if_neg (c := n + 1 ≤ iIx F S) (by omega), cM' _ (wT _ _) (R _ _).1.m, if_neg (nI_ge (by omega) (by omega)), nIn n _ (by omega) (wT _ _), inT n _ _ (by omega) _ (Nat.le_refl _)]
  have nO : n_M_parts_29 (nI p) yr 0 t0 = S := by
    show nM t0 17 = S
    rw [← eS]; unfold nM; rw [w0.i rfl]
  refine ⟨by rw [nO]; exact out S (Nat.le_refl _), nO, fun i hi => ?_⟩
  rw [out i (by omega), z_nI]
  unfold g_M_parts_29 q_M_parts_29s
  rw [nI_s]
  by_cases g : i ≤ iIx F S
  · rw [if_pos g, cM' _ w0 c0.m, if_neg (nI_ge (by omega) (by omega)), nIn i _ hi w0]
    refine ⟨fun _ => ⟨fun m hm => ?_, fun q => ?_⟩, by decide⟩
    · rw [in0 i hi m (by omega), nI_add]
      by_cases g2 : m ≤ mIx F S i
      · rw [if_pos g2]
        obtain ⟨-, a, b⟩ := parts_t w0 c0.m hp hy eS hi hm
        exact ⟨a (R _ 0).2.1 (R _ _).2.2, b⟩
      · rw [if_neg g2]
        obtain ⟨-, a, b⟩ := parts_t (wT (nI i).toInt64 (nI (i + 1 + mIx F S i)).toInt64) (R _ _).1.m hp hy eS hi hm
        refine ⟨?_, b⟩
        have k2 := (R (nI i).toInt64 (nI (i + 1 + mIx F S i)).toInt64).1.r
        have t2 := told (nI i).toInt64 (nI (i + 1 + mIx F S i)).toInt64
        unfold g_M_parts_42
        exact fun _ c => absurd t2 c
    · rw [in0 i hi _ (Nat.le_refl _)] at q
      refine q ?_
      rw [nI_add]
      split
      · rw [cM' _ w0 c0.m]; exact nI_le (by omega) (by omega)
      · rw [cM' _ (wT _ _) (R _ _).1.m]; exact nI_le (by omega) (by omega)
  · rw [if_neg g, cM' _ (wT _ _) (R _ _).1.m, if_neg (nI_ge (by omega) (by omega)), nIn i _ hi (wT _ _)]
    refine ⟨fun _ => ⟨fun m hm => ?_, fun q => ?_⟩, by decide⟩
    · rw [inT i _ _ hi m (by omega), nI_add]
      obtain ⟨-, a, b⟩ := parts_t (wT (nI (iIx F S)).toInt64 (nI (iIx F S + 1 + mIx F S (iIx F S))).toInt64) (R _ _).1.m hp hy eS hi hm
      refine ⟨?_, b⟩
      have t2 := told (nI (iIx F S)).toInt64 (nI (iIx F S + 1 + mIx F S (iIx F S))).toInt64
      unfold g_M_parts_42
      exact fun _ c => absurd t2 c
    · rw [inT i _ _ hi _ (Nat.le_refl _), cM' _ (wT _ _) (R _ _).1.m] at q
      exact q (by rw [nI_add]; exact nI_le (by omega) (by omega))
theorem T_parts {σ τ : MSto} (h : Cpl σ τ) (a b : Int32) : p_C_parts a b σ ∧ p_M_parts a b τ ∧ v_C_parts a b σ = v_M_parts a b τ ∧ Cpl (e_C_parts a b σ) (e_M_parts a b τ) := by
  have h1 := h.e0
  unfold p_C_parts p_M_parts v_C_parts v_M_parts e_C_parts e_M_parts
  generalize sI τ 13 0 52 0 = τ1 at h1 ⊢
  rw [cp_isYear, cp_isPiece h1]
  simp only [M_isYear]
  by_cases g0 : v_M_isPiece a τ1 = 0
  · simp only [if_pos g0]
    exact ⟨fun q => absurd g0 q, fun q => absurd g0 q, trivial, h1⟩
  · simp only [if_neg g0]
    by_cases g : 0 ≤ b ∧ b ≤ 199
    · simp only [if_neg (bn g)]
      obtain ⟨p, hp, rfl⟩ := pieceN h1 g0
      have hP := h1.P12
      have hS := h1.S6
      obtain ⟨q1, q2, q3, q4, q5⟩ := pairsBy h1 hp g
      have get := al_p h1.lP (by omega) hp
      rw [al_v (by omega), h1.eP hp]
      obtain ⟨S, eS⟩ : ∃ S, nM τ1 17 = S := ⟨_, rfl⟩
      obtain ⟨F, eF⟩ : ∃ F, F = pcF τ1 p b := ⟨_, rfl⟩
      obtain ⟨m1, m2, m3⟩ := parts_M h1 hp g eS eF
      rw [← eF, eS] at q1 q4
      rw [eS] at hS
      have c0 := row0 q3
      obtain ⟨t1, t2⟩ := tellFirst c0 F (show nM (sI τ1 13 0 51 0) 17 = S from eS) rfl
      unfold vj_C_parts_j46 ej_C_parts_j46
      rw [m2, q1, t2]
      rw [m2] at m1
      -- the store after
      have fin : Cpl (if S ≤ iIx F S then e_Ro_clear (e_C_pairsPartedBy p b σ) else e_Ro_add (nI (iIx F S + 1 + mIx F S (iIx F S))).toInt64 (e_Ro_add (nI (iIx F S)).toInt64 (e_Ro_clear (e_C_pairsPartedBy p b σ)))) (f_M_parts_29 (nI p) b 0 (sI τ1 13 0 51 0) S) := by
        rw [m1]
        split
        · exact c0
        · exact (row2 q3 _ _).1
      have wf : agO [13052, 78000] τ1 (f_M_parts_29 (nI p) b 0 (sI τ1 13 0 51 0) S) := by
        rw [m1]
        split
        · exact agO_sI rfl (agO_refl _ τ1)
        · exact w_tell _ (w_tell _ (agO_sI rfl (agO_refl _ τ1)))
      have n10 : nM (f_M_parts_29 (nI p) b 0 (sI τ1 13 0 51 0) S) 10 = nM τ1 10 := by unfold nM; rw [wf.i rfl]
      have n17 : nM (f_M_parts_29 (nI p) b 0 (sI τ1 13 0 51 0) S) 17 = S := Eq.trans (by unfold nM; rw [wf.i rfl]) eS
      obtain ⟨-, -, -, v4, v5⟩ := pairsBy fin (p := p) (by omega) g
      rw [n17] at v4
      have ce : cntP (pcF (f_M_parts_29 (nI p) b 0 (sI τ1 13 0 51 0) S) p b) S S = cntP F S S := by
        rw [eF]
        rcases cntP_same wf hS p b with q | q
        · rw [q]
        · exact q
      rw [ce] at v4
      refine ⟨fun _ _ => ⟨get, q2, ?_⟩, fun _ _ => ⟨m3, fun _ => v5, fun q => q ?_⟩, ?_, fin⟩
      · exact t1
      · rw [z_nI, fin.m.c.2.2.2.1.1, n17]; exact Int32.le_refl _
      · rw [bc_pairs _ hS, v4]
    · simp only [if_pos (bz g)]
      exact ⟨fun _ q => absurd (bz g) q, fun _ q => absurd (bz g) q, trivial, h1⟩

