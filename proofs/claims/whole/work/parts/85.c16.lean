/-! within -/
theorem loops2 {α β : Type} {R : Nat → α → β → Prop} {f : Nat → α → α} {g : Nat → β → β} {a : α} {b : β} {qf : Nat → α → Nat} {qg : Nat → β → Nat} {M : Nat} (h0 : R 0 a b) (hq : ∀ i x y, R i x y → (qf i x = 1 ↔ qg i y = 1)) (hs : ∀ i x y, R i x y → ¬ qf i x = 1 → R (i + 1) (f i x) (g i y)) (hM : ∀ x y, R M x y → qf M x = 1) :
    ∃ n, n ≤ M ∧ R n (nfold f a n) (nfold g b n) ∧ qf n (nfold f a n) = 1 ∧ qg n (nfold g b n) = 1 ∧ (∀ i, i < n → R i (nfold f a i) (nfold g b i) ∧ ¬ qf i (nfold f a i) = 1 ∧ ¬ qg i (nfold g b i) = 1) ∧ ∀ K, M < K → leastN (fun i => qf i (nfold f a i) = 1) K = n ∧ leastN (fun i => qg i (nfold g b i) = 1) K = n := by
  have key : ∀ m, m ≤ M → (∃ n, n < m ∧ R n (nfold f a n) (nfold g b n) ∧ qf n (nfold f a n) = 1 ∧ ∀ i, i < n → R i (nfold f a i) (nfold g b i) ∧ ¬ qf i (nfold f a i) = 1) ∨ (R m (nfold f a m) (nfold g b m) ∧ ∀ i, i < m → R i (nfold f a i) (nfold g b i) ∧ ¬ qf i (nfold f a i) = 1) := by
    intro m
    induction m with
    | zero => exact fun _ => Or.inr ⟨h0, fun i hi => absurd hi (by omega)⟩
    | succ m ih =>
      intro hm
      rcases ih (by omega) with ⟨n, k1, k2⟩ | ⟨r, k⟩
      · exact Or.inl ⟨n, by omega, k2⟩
      · by_cases q : qf m (nfold f a m) = 1
        · exact Or.inl ⟨m, by omega, r, q, k⟩
        · refine Or.inr ⟨hs m _ _ r q, fun i hi => ?_⟩
          by_cases e : i = m
          · subst e; exact ⟨r, q⟩
          · exact k i (by omega)
  have fin : ∃ n, n ≤ M ∧ R n (nfold f a n) (nfold g b n) ∧ qf n (nfold f a n) = 1 ∧ ∀ i, i < n → R i (nfold f a i) (nfold g b i) ∧ ¬ qf i (nfold f a i) = 1 := by
    rcases key M (Nat.le_refl _) with ⟨n, k1, k2⟩ | ⟨r, k⟩
    · exact ⟨n, by omega, k2⟩
    · exact ⟨M, Nat.le_refl _, r, hM _ _ r, k⟩
  obtain ⟨n, hn, r, q, k⟩ := fin
  have qg1 := (hq _ _ _ r).mp q
  have k' : ∀ i, i < n → ¬ qg i (nfold g b i) = 1 := fun i hi z => (k i hi).2 ((hq _ _ _ (k i hi).1).mpr z)
  exact ⟨n, hn, r, q, qg1, fun i hi => ⟨(k i hi).1, (k i hi).2, k' i hi⟩, fun K hK => ⟨leastN_eq (P := fun i => qf i (nfold f a i) = 1) (fun i hi => (k i hi).2) q (by omega), leastN_eq (P := fun i => qg i (nfold g b i) = 1) k' qg1 (by omega)⟩⟩
/-- the row with three numbers -/
theorem row3 {σ τ : MSto} (h : Cpl σ τ) (a b c : Int64) : Cpl (e_Ro_add c (e_Ro_add b (e_Ro_add a (e_Ro_clear σ)))) (e_M_tell c (e_M_tell b (e_M_tell a (sI τ 13 0 51 0)))) ∧ (p_Ro_add a (e_Ro_clear σ) ∧ p_Ro_add b (e_Ro_add a (e_Ro_clear σ)) ∧ p_Ro_add c (e_Ro_add b (e_Ro_add a (e_Ro_clear σ)))) ∧ p_M_tell a (sI τ 13 0 51 0) ∧ p_M_tell b (e_M_tell a (sI τ 13 0 51 0)) ∧ p_M_tell c (e_M_tell b (e_M_tell a (sI τ 13 0 51 0))) := by
  have c0 := kR_clear σ τ
  have n0 := rN_clear τ
  have k1 := kR_add c0 (by omega) a
  have n1 := rN_tell a c0.2.1
  have k2 := kR_add k1 (by omega) b
  have n2 := rN_tell b k1.2.1
  have k3 := kR_add k2 (by omega) c
  exact ⟨h.mvR (W := [8002, 38000]) (V := [13052, 78000]) (w_add _ (w_add _ (w_add _ ((w_Ro_clear σ).mono rfl)))) (w_tell _ (w_tell _ (w_tell _ (agO_sI rfl (agO_refl _ τ))))) rfl rfl k3, ⟨pC_add _ c0, pC_add _ k1, pC_add _ k2⟩, pM_tell _ c0.2.1, pM_tell _ k1.2.1, pM_tell _ k2.2.1⟩
def mkB (T : Nat → Bool) (k : Nat) (s : MSto) : Prop := ∀ y, y < 200 → gI s k 0 y = if T y = true then 1 else 0
theorem mkB_0 {T : Nat → Bool} {k : Nat} {s : MSto} (h : mkB T k s) {y : Nat} (hy : y < 200) : gI s k 0 y = 0 ↔ T y = false := by
  rw [h y hy]
  cases T y <;> decide
theorem hv_fold {s t : MSto} {w : Nat → Nat} {T : Nat → Bool} (hw : ∀ y, y < 200 → w y < 2 ^ 63) (h0 : mkB T 27 s) (h3 : mkB T 82 t) (h1 : ∀ y, y < 200 → gJ s 26 0 y = lN (w y)) (h2 : ∀ y, y < 200 → gJ t 81 0 y = lN (w y)) (x2 : Int32) (x3 : Int64) (x5 : Int32) : ∀ n, n ≤ 200 → ((∀ j, j < n → T j = true) ∧ f_C_heaviestUnmarked_9 0 s (0, (-1)) n = (0, -1) ∧ f_M_within_94 x2 x3 x5 0 t (-1) n = -1) ∨ ∃ b, b < n ∧ T b = false ∧ f_C_heaviestUnmarked_9 0 s (0, (-1)) n = (nI b, lN (w b)) ∧ f_M_within_94 x2 x3 x5 0 t (-1) n = nI b
  | 0, _ => Or.inl ⟨fun j hj => absurd hj (by omega), rfl, rfl⟩
  | n + 1, hn => by
    have ih := hv_fold hw h0 h3 h1 h2 x2 x3 x5 n (by omega)
    have c1 : f_C_heaviestUnmarked_9 0 s (0, (-1)) (n + 1) = t_C_heaviestUnmarked_9 (0 + nI n) s (f_C_heaviestUnmarked_9 0 s (0, (-1)) n) := rfl
    have c2 : f_M_within_94 x2 x3 x5 0 t (-1) (n + 1) = t_M_within_94 x2 x3 x5 (0 + nI n) t (f_M_within_94 x2 x3 x5 0 t (-1) n) := rfl
    rw [c1, c2]
    have g200 : ¬ (200 : Int32) ≤ nI n := nI_ge (b := 200) (by omega) (by decide)
    have z1 := mkB_0 h0 (y := n) (by omega)
    have z2 := mkB_0 h3 (y := n) (by omega)
    unfold t_C_heaviestUnmarked_9 t_M_within_94
    rw [z_nI, if_neg g200, if_neg g200, nI_cl (by omega), h1 _ (by omega), h2 _ (by omega)]
    cases hT : T n with
    | true =>
      rw [if_neg (fun q => by have := z1.mp q; rw [hT] at this; cases this), if_neg (fun q => by have := z2.mp q; rw [hT] at this; cases this)]
      rcases ih with ⟨i1, i2, i3⟩ | ⟨b, i1, i2, i3, i4⟩
      · refine Or.inl ⟨fun j hj => ?_, i2, i3⟩
        by_cases e : j = n
        · rw [e, hT]
        · exact i1 j (by omega)
      · exact Or.inr ⟨b, by omega, i2, i3, i4⟩
    | false =>
      rw [if_pos (z1.mpr hT), if_pos (z2.mpr hT)]
      rcases ih with ⟨i1, i2, i3⟩ | ⟨b, i1, i2, i3, i4⟩
      · rw [i2, i3, if_neg (lN_m1 (hw n (by omega))), if_pos rfl]
        exact Or.inr ⟨n, by omega, hT, rfl, rfl⟩
      · rw [i3, i4, if_neg (show ¬ nI b = -1 from fun q => absurd (show (0 : Int32) ≤ -1 from q ▸ nI_pos' (by omega)) (by decide)), nI_cl (by omega), h2 _ (by omega)]
        show _ ∨ ∃ b', b' < n + 1 ∧ T b' = false ∧ (if lg_cmp (lN (w n)) (lN (w b)) ≤ 0 then (nI b, lN (w b)) else (nI n, lN (w n))) = (nI b', lN (w b')) ∧ _
        by_cases q : lg_cmp (lN (w n)) (lN (w b)) ≤ 0
        · rw [if_pos q, if_pos q]; exact Or.inr ⟨b, by omega, i2, rfl, rfl⟩
        · rw [if_neg q, if_neg q]; exact Or.inr ⟨n, by omega, hT, rfl, rfl⟩
theorem clear82 (b : Int32) (s : MSto) : ∀ n, n ≤ 200 → (∀ y, y < n → gI (f_M_within_47 b 0 s n) 82 0 y = 0) ∧ agO [82000] s (f_M_within_47 b 0 s n)
  | 0, _ => ⟨fun y hy => absurd hy (by omega), agO_refl _ _⟩
  | n + 1, hn => by
    obtain ⟨ih, w⟩ := clear82 b s n (by omega)
    show (∀ y, y < n + 1 → gI (t_M_within_47 b (0 + nI n) (f_M_within_47 b 0 s n)) 82 0 y = 0) ∧ agO [82000] s (t_M_within_47 b (0 + nI n) (f_M_within_47 b 0 s n))
    unfold t_M_within_47
    rw [if_neg (ng_cnt l200 (by decide) (by omega)), z_nI, nI_cl (by omega)]
    refine ⟨fun y hy => ?_, agO_sI rfl w⟩
    rw [gI_at]
    split
    · rfl
    · exact ih y (by omega)
/-- the loop of the heaviest -/
def wiR (w : Nat → Nat) (σ0 τ0 : MSto) (i : Nat) (x : Int64 × MSto) (y : Int64 × Int32 × MSto) : Prop :=
  ∃ (S : Nat) (T : Nat → Bool), x.1 = lN S ∧ y.1 = lN S ∧ y.2.1 = nI i ∧ agO [27000] σ0 x.2 ∧ agO [82000] τ0 y.2.2 ∧ mkB T 27 x.2 ∧ mkB T 82 y.2.2 ∧ S + fb_sm (fun y => if T y = true then 0 else w y) 200 = fb_sm w 200 ∧ fb_ct T 200 = i
theorem T_tm {s t : MSto} {T : Nat → Bool} (h0 : mkB T 27 s) (h3 : mkB T 82 t) (x5 : Int32) : ∀ n, n ≤ 200 → f_C_tellMarked_9 0 s ((-1), (-1), 0) n = f_M_within_182 x5 0 t ((-1), (-1), 0) n ∧ (((f_C_tellMarked_9 0 s ((-1), (-1), 0) n).2.1 = -1 ∧ ∀ j, j < n → T j = false) ∨ ∃ l, l < n ∧ T l = true ∧ (f_C_tellMarked_9 0 s ((-1), (-1), 0) n).2.1 = nI l ∧ ∀ j, l < j → j < n → T j = false)
  | 0, _ => ⟨rfl, Or.inl ⟨rfl, fun j hj => absurd hj (by omega)⟩⟩
  | n + 1, hn => by
    obtain ⟨e, ih⟩ := T_tm h0 h3 x5 n (by omega)
    have c1 : f_C_tellMarked_9 0 s ((-1), (-1), 0) (n + 1) = t_C_tellMarked_9 (0 + nI n) s (f_C_tellMarked_9 0 s ((-1), (-1), 0) n) := rfl
    have c2 : f_M_within_182 x5 0 t ((-1), (-1), 0) (n + 1) = t_M_within_182 x5 (0 + nI n) t (f_M_within_182 x5 0 t ((-1), (-1), 0) n) := rfl
    rw [c1, c2, ← e]
    generalize f_C_tellMarked_9 0 s ((-1), (-1), 0) n = x at ih ⊢
    obtain ⟨x1, xl, xs⟩ := x
    have g200 : ¬ (200 : Int32) ≤ nI n := nI_ge (b := 200) (by omega) (by decide)
    have z1 := mkB_0 h0 (y := n) (by omega)
    have z2 := mkB_0 h3 (y := n) (by omega)
    have m27 : mk27 (fun y => T y = true) s := fun y hy => by
      show _ ↔ ¬ (T y = true)
      rw [mkB_0 h0 hy]
      constructor
      · intro q z
        rw [q] at z; cases z
      · intro q
        cases hh : T y with
        | false => rfl
        | true => exact absurd hh q
    have hst : v_C_startsSpan (nI n) s = bI (T n = true ∧ ¬ (0 < n ∧ T (n - 1) = true)) := cp_starts m27 (i := n) (by omega)
    unfold t_C_tellMarked_9 t_M_within_182
    rw [z_nI, if_neg g200, if_neg g200, nI_cl (by omega), hst]
    by_cases hT : T n = true
    · have n27 : ¬ gI s 27 0 n = 0 := fun q => by have := z1.mp q; rw [hT] at this; cases this
      have n82 : ¬ gI t 82 0 n = 0 := fun q => by have := z2.mp q; rw [hT] at this; cases this
      rw [if_neg n27, if_neg n82]
      have last : ∀ (f : Int32) (k : Int32), (((f, nI n, k) : Int32 × Int32 × Int32).2.1 = -1 ∧ ∀ j, j < n + 1 → T j = false) ∨ ∃ l, l < n + 1 ∧ T l = true ∧ ((f, nI n, k) : Int32 × Int32 × Int32).2.1 = nI l ∧ ∀ j, l < j → j < n + 1 → T j = false := fun f k => Or.inr ⟨n, by omega, hT, rfl, fun j hj hj2 => absurd hj (by omega)⟩
      -- whether a span starts, the reference's way
      have key : (0 < n ∧ T (n - 1) = true) ↔ (xl = nI n - 1 ∧ ¬ xl = -1) := by
        rcases ih with ⟨i1, i2⟩ | ⟨l, i1, i2, i3, i4⟩
        · have i1' : xl = -1 := i1
          refine ⟨fun q => ?_, fun q => absurd i1' q.2⟩
          have q1 := q.1
          have q2 := q.2
          rw [i2 (n - 1) (by omega)] at q2
          cases q2
        · have i3' : xl = nI l := i3
          have hp : 0 < n := by omega
          rw [i3', nI_p hp]
          constructor
          · intro q
            have : l = n - 1 := by
              rcases Nat.lt_or_ge l (n - 1) with z | z
              · have z3 := i4 (n - 1) z (by omega)
                have q2 := q.2
                rw [z3] at q2; cases q2
              · omega
            rw [this]
            exact ⟨rfl, fun q => absurd (show (0 : Int32) ≤ -1 from q ▸ nI_pos' (by omega)) (by decide)⟩
          · intro q
            have : l = n - 1 := (nI_eq (by omega) (by omega)).mp q.1
            exact ⟨hp, by rw [← this]; exact i2⟩
      show (if x1 = -1 then (if bI (T n = true ∧ ¬ (0 < n ∧ T (n - 1) = true)) = 0 then (nI n, nI n, xs) else (nI n, nI n, xs + 1)) else (if bI (T n = true ∧ ¬ (0 < n ∧ T (n - 1) = true)) = 0 then (x1, nI n, xs) else (x1, nI n, xs + 1))) = (if x1 = -1 then (if xl = nI n - 1 then (if xl = -1 then (nI n, nI n, xs + 1) else (nI n, nI n, xs + 0)) else (nI n, nI n, xs + 1)) else (if xl = nI n - 1 then (if xl = -1 then (x1, nI n, xs + 1) else (x1, nI n, xs + 0)) else (x1, nI n, xs + 1))) ∧ (((if x1 = -1 then (if bI (T n = true ∧ ¬ (0 < n ∧ T (n - 1) = true)) = 0 then (nI n, nI n, xs) else (nI n, nI n, xs + 1)) else (if bI (T n = true ∧ ¬ (0 < n ∧ T (n - 1) = true)) = 0 then (x1, nI n, xs) else (x1, nI n, xs + 1)) : Int32 × Int32 × Int32).2.1 = -1 ∧ ∀ j, j < n + 1 → T j = false) ∨ ∃ l, l < n + 1 ∧ T l = true ∧ (if x1 = -1 then (if bI (T n = true ∧ ¬ (0 < n ∧ T (n - 1) = true)) = 0 then (nI n, nI n, xs) else (nI n, nI n, xs + 1)) else (if bI (T n = true ∧ ¬ (0 < n ∧ T (n - 1) = true)) = 0 then (x1, nI n, xs) else (x1, nI n, xs + 1)) : Int32 × Int32 × Int32).2.1 = nI l ∧ ∀ j, l < j → j < n + 1 → T j = false)
      by_cases gs : 0 < n ∧ T (n - 1) = true
      · obtain ⟨k1, k2⟩ := key.mp gs
        have hb' : bI (T n = true ∧ ¬ (0 < n ∧ T (n - 1) = true)) = 0 := bz (fun q => q.2 gs)
        rw [if_pos hb', if_pos hb', if_pos k1, if_pos k1, if_neg k2, if_neg k2, Int32.add_zero]
        by_cases g1 : x1 = -1
        · rw [if_pos g1]
          exact ⟨rfl, last _ _⟩
        · rw [if_neg g1]
          exact ⟨rfl, last _ _⟩
      · have hb' : ¬ bI (T n = true ∧ ¬ (0 < n ∧ T (n - 1) = true)) = 0 := bn ⟨hT, gs⟩
        have kk : ∀ (a : Int32 × Int32 × Int32) (b : Int32 × Int32 × Int32), (if xl = nI n - 1 then (if xl = -1 then a else b) else a) = a := fun a b => by
          by_cases q : xl = nI n - 1
          · by_cases q2 : xl = -1
            · rw [if_pos q, if_pos q2]
            · exact absurd (key.mpr ⟨q, q2⟩) gs
          · rw [if_neg q]
        rw [if_neg hb', if_neg hb', kk, kk]
        by_cases g1 : x1 = -1
        · rw [if_pos g1]
          exact ⟨rfl, last _ _⟩
        · rw [if_neg g1]
          exact ⟨rfl, last _ _⟩
    · have hF : T n = false := by
        cases hh : T n with
        | false => rfl
        | true => exact absurd hh hT
      have hb0 : bI (T n = true ∧ ¬ (0 < n ∧ T (n - 1) = true)) = 0 := bz (fun q => hT q.1)
      rw [if_pos (z1.mpr hF), if_pos (z2.mpr hF), if_pos hb0]
      refine ⟨rfl, ?_⟩
      rcases ih with ⟨i1, i2⟩ | ⟨l, i1, i2, i3, i4⟩
      · refine Or.inl ⟨i1, fun j hj => ?_⟩
        by_cases e : j = n
        · rw [e, hF]
        · exact i2 j (by omega)
      · refine Or.inr ⟨l, by omega, i2, i3, fun j hj hj2 => ?_⟩
        by_cases e : j = n
        · rw [e, hF]
        · exact i4 j hj (by omega)
theorem pc_tellMarked {σ τ : MSto} (h : Cpl σ τ) : p_C_tellMarked σ := by
  obtain ⟨r1, ⟨r2, r3, r4⟩, r5⟩ := row3 h (Int32.toInt64 (f_C_tellMarked_9 0 σ ((-1), (-1), 0) (n_C_tellMarked_9 0 σ ((-1), (-1), 0))).1) (Int32.toInt64 (f_C_tellMarked_9 0 σ ((-1), (-1), 0) (n_C_tellMarked_9 0 σ ((-1), (-1), 0))).2.1) (Int32.toInt64 (f_C_tellMarked_9 0 σ ((-1), (-1), 0) (n_C_tellMarked_9 0 σ ((-1), (-1), 0))).2.2)
  refine ⟨fun i hi => ⟨fun _ => ?_, q_cnt l200 (by decide) hi⟩, fun _ => ⟨r2, r3, r4⟩, fun q => q (e_cnt l200)⟩
  have hi' : i < 200 := hi
  rw [z_nI]
  have p := pc_starts hi' σ
  exact ⟨nI_inb hi' (by decide), fun _ => p, fun _ => ⟨fun _ => p, fun _ => p⟩⟩
theorem wi_step {w : Nat → Nat} (wb : ∀ y, y < 200 → w y ≤ 1000000000000) {σ0 τ0 : MSto} (w1 : ∀ y, y < 200 → gJ σ0 26 0 y = lN (w y)) (w2 : ∀ y, y < 200 → gJ τ0 81 0 y = lN (w y)) (eA : gJ τ0 13 0 60 = lN (fb_sm w 200)) {p : Int32} (hp : rg p 1 100) (i : Nat) (x : Int64 × MSto) (y : Int64 × Int32 × MSto) (hr : wiR w σ0 τ0 i x y) :
    (q_C_within_48s p (lN (fb_sm w 200)) (0 + nI i) x = 1 ↔ q_M_within_72s p y = 1) ∧ (i = 200 → q_C_within_48s p (lN (fb_sm w 200)) (0 + nI i) x = 1) ∧ (¬ q_C_within_48s p (lN (fb_sm w 200)) (0 + nI i) x = 1 → wiR w σ0 τ0 (i + 1) (t_C_within_48 p (lN (fb_sm w 200)) (0 + nI i) x) (t_M_within_72 p y) ∧ g_C_within_48 p (lN (fb_sm w 200)) (0 + nI i) x ∧ g_M_within_72 p y) := by
  obtain ⟨v, s⟩ := x
  obtain ⟨v', n, t⟩ := y
  obtain ⟨S, T, e1, e2, e3, a1, a2, m1, m2, hS, hc⟩ := hr
  have e1' : v = lN S := e1
  have e2' : v' = lN S := e2
  have e3' : n = nI i := e3
  subst e1'; subst e2'; subst e3'
  have hT := sum_bd wb
  have hi : i ≤ 200 := by rw [← hc]; exact fb_ct_le T 200
  obtain ⟨P, rfl, hP⟩ := nat_rg (b := 100) (x := p) ⟨Int32.le_trans (by decide) hp.1, hp.2⟩ (by decide)
  have hP1 : 1 ≤ P := (leN (a := 1) (by decide) (by omega)).mp hp.1
  have eA' : gJ t 13 0 60 = lN (fb_sm w 200) := by rw [a2.j rfl]; exact eA
  have hS2 : S ≤ fb_sm w 200 := by omega
  have eP : (nI P).toInt64 = lN P := nI_l (by omega)
  have hm : fb_sm w 200 * P ≤ 200000000000000 * 100 := Nat.mul_le_mul hT hP
  have cC : 0 ≤ lg_cmp (lN S * 100) (lN (fb_sm w 200) * (nI P).toInt64) ↔ fb_sm w 200 * P ≤ S * 100 := by
    rw [eP, lit_lN 100, lN_mul, lN_mul, cmp_ge]
    exact pk_lLE (by omega) (by omega)
  have cM' : 0 ≤ lg_cmp (100 * lN S) ((nI P).toInt64 * gJ t 13 0 60) ↔ fb_sm w 200 * P ≤ S * 100 := by
    rw [eP, eA', lit_lN 100, lN_mul, lN_mul, cmp_ge, Nat.mul_comm P, Nat.mul_comm 100]
    exact pk_lLE (by omega) (by omega)
  have full : i = 200 → S = fb_sm w 200 := fun q => by
    have hall := fb_ct_all.mp (hc.trans q)
    have : fb_sm (fun y => if T y = true then 0 else w y) 200 = fb_sm (fun _ => 0) 200 := fb_sm_cong (fun k hk => by rw [hall k hk, if_pos rfl])
    rw [this, fb_sm_const] at hS
    omega
  have ex200 : i = 200 → fb_sm w 200 * P ≤ S * 100 := fun q => by
    rw [full q]
    exact Nat.mul_le_mul_left _ hP
  have qC : q_C_within_48s (nI P) (lN (fb_sm w 200)) (0 + nI i) (lN S, s) = 1 ↔ fb_sm w 200 * P ≤ S * 100 := by
    unfold q_C_within_48s
    rw [z_nI]
    by_cases g : i = 200
    · rw [if_pos (by rw [g]; decide)]
      exact ⟨fun _ => ex200 g, fun _ => rfl⟩
    · rw [if_neg (show ¬ (200 : Int32) ≤ nI i from nI_ge (b := 200) (by omega) (by decide))]
      by_cases z : fb_sm w 200 * P ≤ S * 100
      · rw [if_pos (cC.mpr z)]; exact ⟨fun _ => z, fun _ => rfl⟩
      · rw [if_neg (fun q => z (cC.mp q))]; exact ⟨fun q => absurd q (by decide), fun q => absurd q z⟩
  have qM : q_M_within_72s (nI P) (lN S, nI i, t) = 1 ↔ fb_sm w 200 * P ≤ S * 100 := by
    unfold q_M_within_72s
    by_cases z : fb_sm w 200 * P ≤ S * 100
    · rw [if_pos (cM'.mpr z)]; exact ⟨fun _ => z, fun _ => rfl⟩
    · rw [if_neg (fun q => z (cM'.mp q))]; exact ⟨fun q => absurd q (by decide), fun q => absurd q z⟩
  refine ⟨qC.trans qM.symm, fun q => qC.mpr (ex200 q), fun nq => ?_⟩
  have z : ¬ fb_sm w 200 * P ≤ S * 100 := fun q => nq (qC.mpr q)
  have hi2 : i < 200 := by
    rcases Nat.lt_or_ge i 200 with q | q
    · exact q
    · exact absurd (ex200 (by omega)) z
  have hw63 : ∀ y, y < 200 → w y < 2 ^ 63 := fun y hy => by have := wb y hy; omega
  have k26 : ∀ y, y < 200 → gJ s 26 0 y = lN (w y) := fun y hy => by rw [a1.j rfl]; exact w1 y hy
  have k81 : ∀ y, y < 200 → gJ t 81 0 y = lN (w y) := fun y hy => by rw [a2.j rfl]; exact w2 y hy
  have H := hv_fold hw63 m1 m2 k26 k81 (nI P) (lN S) (nI i)
  rcases H 200 (by omega) with ⟨q, -⟩ | ⟨b, hb, hTb, f1, f2⟩
  · have := fb_ct_all.mpr q
    omega
  have eV : v_C_heaviestUnmarked s = nI b := congrArg Prod.fst f1
  have eW : f_M_within_94 (nI P) (lN S) (nI i) 0 t (-1) (n_M_within_94 (nI P) (lN S) (nI i) 0 t (-1)) = nI b := f2
  have vb : vp_in (nI b) 200 := nI_inb hb (by decide)
  refine ⟨?_, ?_, ?_⟩
  · unfold t_C_within_48 t_M_within_72
    rw [z_nI, if_neg (show ¬ (200 : Int32) ≤ nI i from nI_ge (b := 200) (by omega) (by decide)), if_neg (fun q => z (cC.mp q)), if_neg (fun q => z (cM'.mp q))]
    show wiR w σ0 τ0 (i + 1) (lN S + gJ (sI s 27 0 (v_C_heaviestUnmarked s).toNatClampNeg 1) 26 0 (v_C_heaviestUnmarked s).toNatClampNeg, sI s 27 0 (v_C_heaviestUnmarked s).toNatClampNeg 1) (lN S + gJ (sI t 82 0 (f_M_within_94 (nI P) (lN S) (nI i) 0 t (-1) (n_M_within_94 (nI P) (lN S) (nI i) 0 t (-1))).toNatClampNeg 1) 81 0 (f_M_within_94 (nI P) (lN S) (nI i) 0 t (-1) (n_M_within_94 (nI P) (lN S) (nI i) 0 t (-1))).toNatClampNeg, nI i + 1, sI t 82 0 (f_M_within_94 (nI P) (lN S) (nI i) 0 t (-1) (n_M_within_94 (nI P) (lN S) (nI i) 0 t (-1))).toNatClampNeg 1)
    rw [eV, eW, nI_cl (by omega)]
    have x1 : gJ (sI s 27 0 b 1) 26 0 b = lN (w b) := k26 b hb
    have x2 : gJ (sI t 82 0 b 1) 81 0 b = lN (w b) := k81 b hb
    rw [x1, x2, lN_add, nI_s]
    refine ⟨S + w b, fun k => if k = b then true else T k, rfl, rfl, rfl, agO_sI rfl a1, agO_sI rfl a2, fun y hy => ?_, fun y hy => ?_, ?_, ?_⟩
    · show gI (sI s 27 0 b 1) 27 0 y = _
      rw [gI_at]
      show _ = if (if y = b then true else T y) = true then 1 else 0
      by_cases q : y = b
      · rw [if_pos q, if_pos q]; rfl
      · rw [if_neg q, if_neg q]; exact m1 y hy
    · show gI (sI t 82 0 b 1) 82 0 y = _
      rw [gI_at]
      show _ = if (if y = b then true else T y) = true then 1 else 0
      by_cases q : y = b
      · rw [if_pos q, if_pos q]; rfl
      · rw [if_neg q, if_neg q]; exact m2 y hy
    · have hu := fb_sm_upd (fun y => if T y = true then 0 else w y) 0 hb
      have hu2 : fb_sm (fun k => if k = b then 0 else (if T k = true then 0 else w k)) 200 + w b = fb_sm (fun y => if T y = true then 0 else w y) 200 := by
        have := hu
        rw [Nat.add_zero] at this
        rw [← this]
        congr 1
        show w b = if T b = true then 0 else w b
        rw [hTb]; rfl
      have hcg : fb_sm (fun y => if (if y = b then true else T y) = true then 0 else w y) 200 = fb_sm (fun k => if k = b then 0 else (if T k = true then 0 else w k)) 200 := fb_sm_cong (fun k _ => by
        by_cases q : k = b
        · rw [if_pos q, if_pos q, if_pos rfl]
        · rw [if_neg q, if_neg q])
      rw [hcg]
      omega
    · have hu : fb_ct (fun k => if k = b then true else T k) 200 + (if T b = true then 1 else 0) = fb_ct T 200 + (if true = true then 1 else 0) := fb_ct_upd T true hb
      rw [hTb, if_neg (by decide), if_pos rfl] at hu
      omega
  · intro _ _
    rw [eV]
    exact ⟨pc_heaviest _, vb, vb⟩
  · intro _
    show (∀ i', i' < n_M_within_94 (nI P) (lN S) (nI i) 0 t (-1) → g_M_within_94 (nI P) (lN S) (nI i) (0 + nI i') t (f_M_within_94 (nI P) (lN S) (nI i) 0 t (-1) i') ∧ ¬ q_M_within_94s (nI P) (lN S) (nI i) (0 + nI i') t (f_M_within_94 (nI P) (lN S) (nI i) 0 t (-1) i') = 1) ∧ (200 ≤ 0 + nI (n_M_within_94 (nI P) (lN S) (nI i) 0 t (-1)) → vp_in (f_M_within_94 (nI P) (lN S) (nI i) 0 t (-1) (n_M_within_94 (nI P) (lN S) (nI i) 0 t (-1))) 200 ∧ vp_in (f_M_within_94 (nI P) (lN S) (nI i) 0 t (-1) (n_M_within_94 (nI P) (lN S) (nI i) 0 t (-1))) 200) ∧ (¬ 200 ≤ 0 + nI (n_M_within_94 (nI P) (lN S) (nI i) 0 t (-1)) → False)
    refine ⟨fun j hj => ⟨fun _ => ?_, q_cnt l200 (by decide) hj⟩, fun _ => by rw [eW]; exact ⟨vb, vb⟩, fun q => q (e_cnt l200)⟩
    have hj' : j < 200 := hj
    rw [z_nI]
    have vj : vp_in (nI j) 200 := nI_inb hj' (by decide)
    refine ⟨vj, fun _ q => ⟨vj, ?_⟩⟩
    rcases H j (by omega) with ⟨-, -, f3⟩ | ⟨b', hb', -, -, f3⟩
    · exact absurd f3 q
    · rw [f3]; exact nI_inb (by omega) (by decide)
theorem T_within {σ τ : MSto} (h : Cpl σ τ) (a b : Int32) : p_C_within a b σ ∧ p_M_within a b τ ∧ v_C_within a b σ = v_M_within a b τ ∧ Cpl (e_C_within a b σ) (e_M_within a b τ) := by
  have h1 := h.e0
  unfold p_C_within p_M_within v_C_within v_M_within e_C_within e_M_within
  generalize sI τ 13 0 52 0 = τ1 at h1 ⊢
  have hpc := pc_areCounted h1 a 1 6
  simp only [cp_areCounted h1 a (lo := 1) (hi := 6) (by decide), cp_isIn, M_in]
  by_cases g : v_M_areCounted a 1 6 τ1 = 0
  · simp only [if_pos g]
    exact ⟨⟨hpc, fun q => absurd g q⟩, fun q => absurd g q, trivial, h1⟩
  · simp only [if_neg g]
    by_cases g1 : 1 ≤ b ∧ b ≤ 100
    · simp only [if_neg (bn g1)]
      obtain ⟨w, wb, p1, p2, eC, eM, w1, w2, hc⟩ := weigh h1 g
      have hS := sum_bd wb
      rw [eC, eM]
      generalize e_C_weighYears a σ = σw at w1 hc ⊢
      obtain ⟨τw, eτw⟩ : ∃ t, t = e_M_weighYears a τ1 := ⟨_, rfl⟩
      rw [← eτw] at eM w2 hc ⊢
      by_cases gz : lg_cmp (lN (fb_sm w 200)) 0 = 0
      · simp only [if_pos gz]
        exact ⟨⟨hpc, fun _ _ => ⟨p1, fun q => absurd gz q⟩⟩, fun _ _ => ⟨p2, fun q => absurd gz q⟩, trivial, hc⟩
      · simp only [if_neg gz]
        have m0 : ∀ y, y < 200 → gI (e_C_clearMarks σw) 27 0 y = 0 := fun y hy => clear_marks σw 200 (by omega) y hy
        have k26 : ∀ y, y < 200 → gJ (e_C_clearMarks σw) 26 0 y = lN (w y) := fun y hy => by rw [(w_C_clearMarks σw).j rfl]; exact w1 y hy
        have wc := w_C_clearMarks σw
        have pcl := pc_clearMarks σw
        generalize e_C_clearMarks σw = σ1 at m0 k26 wc ⊢
        obtain ⟨c1, c2⟩ := clear82 b τw 200 (by omega)
        have p47 : (∀ i, i < n_M_within_47 b 0 τw → g_M_within_47 b (0 + nI i) (f_M_within_47 b 0 τw i) ∧ ¬ q_M_within_47s b (0 + nI i) (f_M_within_47 b 0 τw i) = 1) := fun i hi => ⟨fun _ => by rw [z_nI]; exact nI_inb hi (by decide), q_cnt l200 (by decide) hi⟩
        obtain ⟨τ2, e2⟩ : ∃ t, t = f_M_within_47 b 0 τw (n_M_within_47 b 0 τw) := ⟨_, rfl⟩
        have e2' : f_M_within_47 b 0 τw 200 = τ2 := e2.symm
        rw [← e2]
        rw [e2'] at c1 c2
        have k81 : ∀ y, y < 200 → gJ τ2 81 0 y = lN (w y) := fun y hy => by rw [c2.j rfl]; exact w2 y hy
        have eA : gJ τ2 13 0 60 = lN (fb_sm w 200) := by rw [c2.j rfl]; exact eM
        have R0 : wiR w σ1 τ2 0 (0, σ1) (0, 0, τ2) := ⟨0, fun _ => false, rfl, rfl, rfl, agO_refl _ _, agO_refl _ _, fun y hy => m0 y hy, fun y hy => c1 y hy, Nat.zero_add _, fb_ct_zero.mpr (fun _ _ => rfl)⟩
        have ST := wi_step wb k26 k81 eA (p := b) g1
        obtain ⟨n, hn, r, q1, q2, qs, hl⟩ := loops2 (R := wiR w σ1 τ2) (f := fun i x => t_C_within_48 b (lN (fb_sm w 200)) (0 + nI i) x) (g := fun _ y => t_M_within_72 b y) (qf := fun i x => q_C_within_48s b (lN (fb_sm w 200)) (0 + nI i) x) (qg := fun _ y => q_M_within_72s b y) (M := 200) R0 (fun i x y r => (ST i x y r).1) (fun i x y r nq => ((ST i x y r).2.2 nq).1) (fun x y r => (ST 200 x y r).2.1 rfl)
        have nC : n_C_within_48 b (lN (fb_sm w 200)) 0 (0, σ1) = n := (hl 201 (by decide)).1
        have nM' : n_M_within_72 b (0, 0, τ2) = n := (hl 201 (by decide)).2
        rw [nC, nM']
        have fs : ∀ i, i < n → (g_C_within_48 b (lN (fb_sm w 200)) (0 + nI i) (f_C_within_48 b (lN (fb_sm w 200)) 0 (0, σ1) i) ∧ ¬ q_C_within_48s b (lN (fb_sm w 200)) (0 + nI i) (f_C_within_48 b (lN (fb_sm w 200)) 0 (0, σ1) i) = 1) ∧ (g_M_within_72 b (f_M_within_72 b (0, 0, τ2) i) ∧ ¬ q_M_within_72s b (f_M_within_72 b (0, 0, τ2) i) = 1) := fun i hi => by
          obtain ⟨ri, n1, n2⟩ := qs i hi
          obtain ⟨-, s2, s3⟩ := (ST i _ _ ri).2.2 n1
          exact ⟨⟨s2, n1⟩, s3, n2⟩
        have r' : wiR w σ1 τ2 n (f_C_within_48 b (lN (fb_sm w 200)) 0 (0, σ1) n) (f_M_within_72 b (0, 0, τ2) n) := r
        have q1' : q_C_within_48s b (lN (fb_sm w 200)) (0 + nI n) (f_C_within_48 b (lN (fb_sm w 200)) 0 (0, σ1) n) = 1 := q1
        have q2' : q_M_within_72s b (f_M_within_72 b (0, 0, τ2) n) = 1 := q2
        have fs1 := fun i hi => (fs i hi).1
        have fs2 := fun i hi => (fs i hi).2
        obtain ⟨x, ex⟩ : ∃ x, x = f_C_within_48 b (lN (fb_sm w 200)) 0 (0, σ1) n := ⟨_, rfl⟩
        obtain ⟨y, ey⟩ : ∃ y, y = f_M_within_72 b (0, 0, τ2) n := ⟨_, rfl⟩
        rw [← ex] at r' q1' ⊢
        rw [← ey] at r' q2' ⊢
        obtain ⟨v, s⟩ := x
        obtain ⟨v', m, t⟩ := y
        obtain ⟨S, T, d1, d2, d3, a1, a2, m1, m2, -, -⟩ := r'
        have d3' : m = nI n := d3
        subst d3'
        have hcs : Cpl s t := hc.mv (W := [27000]) (V := [82000]) (wc.trans a1) (c2.trans a2) rfl rfl
        obtain ⟨tm1, -⟩ := T_tm m1 m2 (nI n) 200 (by omega)
        have tm1' : f_C_tellMarked_9 0 s ((-1), (-1), 0) (n_C_tellMarked_9 0 s ((-1), (-1), 0)) = f_M_within_182 (nI n) 0 t ((-1), (-1), 0) (n_M_within_182 (nI n) 0 t ((-1), (-1), 0)) := tm1
        obtain ⟨r1, r2, r3⟩ := row3 hcs (Int32.toInt64 (f_M_within_182 (nI n) 0 t ((-1), (-1), 0) (n_M_within_182 (nI n) 0 t ((-1), (-1), 0))).1) (Int32.toInt64 (f_M_within_182 (nI n) 0 t ((-1), (-1), 0) (n_M_within_182 (nI n) 0 t ((-1), (-1), 0))).2.1) (Int32.toInt64 (f_M_within_182 (nI n) 0 t ((-1), (-1), 0) (n_M_within_182 (nI n) 0 t ((-1), (-1), 0))).2.2)
        have pT := pc_tellMarked hcs
        refine ⟨⟨hpc, fun _ _ => ⟨p1, fun _ => ⟨pcl, fs1, fun _ => pT, fun _ => ⟨fun _ => pT, fun q => ?_⟩⟩⟩⟩, fun _ _ => ⟨p2, fun _ => ⟨p47, fun _ => ⟨fs2, fun _ => ⟨fun i hi => ⟨fun _ => by rw [z_nI]; exact nI_inb hi (by decide), q_cnt l200 (by decide) hi⟩, fun _ => r3, fun q => q (e_cnt l200)⟩, fun q => ?_⟩, fun q => q (e_cnt l200)⟩⟩, ?_, ?_⟩
        · rename_i z200
          unfold q_C_within_48s at q1'
          rw [if_neg z200, if_neg q] at q1'
          cases q1'
        · unfold q_M_within_72s at q2'
          rw [if_neg q] at q2'
          cases q2'
        · rw [z_nI]
        · unfold e_C_tellMarked
          rw [tm1']
          exact r1
    · simp only [if_pos (bz g1)]
      exact ⟨⟨hpc, fun _ q => absurd (bz g1) q⟩, fun _ q => absurd (bz g1) q, trivial, h1⟩

