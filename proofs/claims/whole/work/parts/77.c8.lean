/-! likes, told, row, end, needs, faith -/
theorem ctL_s (τ : MSto) (w n : Nat) : ctL τ w (n + 1) = ctL τ w n + (if gI τ 64 0 n = nI w then 1 else 0) := by
  unfold ctL
  rw [fb_ct_succ]
  by_cases g : gI τ 64 0 n = nI w
  · rw [if_pos g, decide_eq_true g]; rfl
  · rw [if_neg g, decide_eq_false g]; rfl
theorem ctL_one (x n : Nat) (hx : x ≤ 5) (hn : n ≤ 5) : (if nI x = nI n then 1 else 0) = if x = n then 1 else 0 := by
  by_cases g : x = n
  · rw [if_pos g, if_pos (by rw [g])]
  · rw [if_neg g, if_neg (fun q => g ((nI_eq (by omega) (by omega)).mp q))]
theorem ctL_sum {τ : MSto} : ∀ n, (∀ i, i < n → rg (gI τ 64 0 i) 0 5) → ctL τ 0 n + ctL τ 1 n + ctL τ 2 n + ctL τ 3 n + ctL τ 4 n + ctL τ 5 n = n
  | 0, _ => rfl
  | n + 1, h => by
    have ih := ctL_sum n (fun i hi => h i (by omega))
    obtain ⟨x, ex, hx⟩ := nat_rg (b := 5) (h n (by omega)) (by decide)
    simp only [ctL_s, ex]
    rw [ctL_one x 0 hx (by decide), ctL_one x 1 hx (by decide), ctL_one x 2 hx (by decide), ctL_one x 3 hx (by decide), ctL_one x 4 hx (by decide), ctL_one x 5 hx (by decide)]
    have : x = 0 ∨ x = 1 ∨ x = 2 ∨ x = 3 ∨ x = 4 ∨ x = 5 := by omega
    rcases this with rfl | rfl | rfl | rfl | rfl | rfl <;> simp <;> omega
theorem ctL_le (τ : MSto) (w n : Nat) : ctL τ w n ≤ n := fb_ct_le _ n
theorem l6 : (6 : Int32) = nI 6 := rfl
theorem f_allLikes_s (σ : MSto) (n : Nat) (hn : n < 6) : f_C_allLikes_4 0 σ 0 (n + 1) = f_C_allLikes_4 0 σ 0 n + gI σ 22 0 n := by
  show t_C_allLikes_4 (0 + nI n) σ (f_C_allLikes_4 0 σ 0 n) = _
  unfold t_C_allLikes_4
  rw [if_neg (ng_cnt l6 (by decide) hn), z_nI, nI_cl (by omega)]
theorem cp_allLikes {σ τ : MSto} (h : Cpl σ τ) : v_C_allLikes σ = gI τ 13 0 31 := by
  have hc := h.m.c.2.2.2.2.2.1
  show f_C_allLikes_4 0 σ 0 6 = _
  rw [f_allLikes_s σ 5 (by decide), f_allLikes_s σ 4 (by decide), f_allLikes_s σ 3 (by decide), f_allLikes_s σ 2 (by decide), f_allLikes_s σ 1 (by decide), f_allLikes_s σ 0 (by decide), h.l 0 (by decide), h.l 1 (by decide), h.l 2 (by decide), h.l 3 (by decide), h.l 4 (by decide), h.l 5 (by decide)]
  show nI 0 + nI _ + nI _ + nI _ + nI _ + nI _ + nI _ = _
  rw [nI_add, nI_add, nI_add, nI_add, nI_add, nI_add, hc.1]
  congr 1
  have := ctL_sum (τ := τ) (nM τ 31) h.m.l
  omega
theorem pc_allLikes (σ : MSto) : p_C_allLikes σ := by
  unfold p_C_allLikes n_C_allLikes_4
  refine ⟨fun i hi => ⟨fun _ => ?_, q_cnt l6 (by decide) hi⟩, fun q => q (e_cnt l6)⟩
  rw [z_nI]; exact nI_inb hi (by decide)
theorem T_told {σ τ : MSto} (h : Cpl σ τ) (a : Int32) : p_C_told a σ ∧ v_C_told a σ = v_M_told a τ ∧ Cpl σ (e_M_told a τ) := by
  have h1 := h.e0
  unfold p_C_told v_C_told v_M_told e_M_told v_AL_size
  generalize sI τ 13 0 52 0 = τ1 at h1 ⊢
  refine ⟨fun _ _ _ _ => ⟨fun _ => pc_countedBits h1, fun _ _ _ _ => pc_allLikes σ⟩, ?_, h1⟩
  rw [h1.b.1, h1.me.1, h1.s.1, h1.p.1, cp_countedBits h1, h1.t.1, h1.q.1, cp_allLikes h1, h1.r.1, h1.x.1, h1.b.2.1]
theorem T_row {σ τ : MSto} (h : Cpl σ τ) (a : Int32) : p_M_row a τ ∧ Cpl σ (e_M_row a τ) ∧ (((a < 0 ∨ (¬ a < 0 ∧ ¬ a < gI σ 8 0 1)) ∧ gI (e_M_row a τ) 13 0 52 = 1) ∨ (¬ a < 0 ∧ a < gI σ 8 0 1 ∧ p_C_row a σ ∧ v_C_row a σ = v_M_row a τ ∧ gI (e_M_row a τ) 13 0 52 = 0)) := by
  have h1 := h.e0
  have hz : gI (sI τ 13 0 52 0) 13 0 52 = 0 := rfl
  unfold p_M_row e_M_row v_M_row p_C_row v_C_row
  generalize sI τ 13 0 52 0 = τ1 at h1 hz ⊢
  have hl := h1.mv (agO_refl [] σ) (w_M_lost τ1) rfl rfl
  simp only [M_in]
  have hs := h1.r.n
  have h20 := h1.r.2.1.2
  rw [h1.r.2.1.1, hs]
  by_cases g : 0 ≤ a ∧ a ≤ nI (nM τ1 51) - 1
  · have g' := (in_cnt (by omega)).mp g
    obtain ⟨n, e, hn, -⟩ := nat_of g'.1
    have hlt : n < nM τ1 51 := by have q := g'.2; rw [e] at q; exact (ltN hn (by omega)).mp q
    simp only [if_neg (bn g)]
    rw [e, nI_cl (by omega)]
    have c1 : ¬ nI n < 0 := nI_pos (by omega)
    have c2 : nI n < nI (nM τ1 51) := nI_lt hlt (by omega)
    exact ⟨fun _ => nI_inb (by omega) (by decide), h1, Or.inr ⟨c1, c2, ⟨fun q => absurd q c1, fun _ => ⟨fun _ => nI_inb (by omega) (by decide), fun q => absurd c2 q⟩⟩, h1.r.2.2 n hlt, hz⟩⟩
  · simp only [if_pos (bz g)]
    refine ⟨fun q => absurd (bz g) q, hl, Or.inl ⟨?_, rfl⟩⟩
    rw [in_cnt (by omega)] at g
    by_cases c1 : a < 0
    · exact Or.inl c1
    · exact Or.inr ⟨c1, fun c2 => g ⟨Int32.not_lt.mp c1, c2⟩⟩
theorem T_end {σ τ : MSto} (h : Cpl σ τ) (a : Int32) : v_C_end a σ = v_M_end a τ ∧ Cpl (e_C_end a σ) (e_M_end a τ) := by
  have h1 := h.e0
  unfold v_C_end b_C_end v_M_end e_C_end e_M_end v_Te_cut b_Te_cut e_Te_cut
  show _ = bI (0 ≤ a ∧ a ≤ gI (sI τ 13 0 52 0) 13 0 49) ∧ Cpl _ (if 0 ≤ a ∧ a ≤ gI (sI τ 13 0 52 0) 13 0 49 then sI (sI τ 13 0 52 0) 13 0 49 a else sI τ 13 0 52 0)
  generalize sI τ 13 0 52 0 = τ1 at h1 ⊢
  have hx := h1.x
  rw [hx.1]
  constructor
  · refine bI_congr ?_
    rw [bI_1]
    simp only [ite_ff, ite_tf, and_true, Int32.not_lt]
  · by_cases c1 : a < 0
    · rw [if_pos c1, if_neg (fun q => Int32.not_lt.mpr q.1 c1)]
      exact h1
    · rw [if_neg c1]
      by_cases c2 : a ≤ gI τ1 13 0 49
      · rw [if_pos c2, if_pos ⟨Int32.not_lt.mp c1, c2⟩]
        have c0 := Int32.not_lt.mp c1
        obtain ⟨n, e, hn, -⟩ := nat_of c0
        have h80 := hx.2.1.2
        have hle : n ≤ nM τ1 49 := by
          rw [hx.2.1.1, e] at c2
          exact (leN hn (by omega)).mp c2
        have wσ : agO [10002] σ (sI σ 10 0 1 a) := agO_sI rfl (agO_refl _ σ)
        have wτ : agO [13050] τ1 (sI τ1 13 0 49 a) := agO_sI rfl (agO_refl _ τ1)
        have hN : nM (sI τ1 13 0 49 a) 49 = n := nM_set (by omega) (by rw [e]; rfl)
        refine Cpl.upd h1 wσ wτ rfl (iM.upd h1.m wτ (Or.inl rfl) (Or.inl rfl) (Or.inl rfl) (Or.inl rfl) (Or.inl rfl) (Or.inl rfl) (Or.inl rfl) (Or.inl rfl) (Or.inl rfl) (Or.inl rfl) (Or.inl rfl) (Or.inl rfl) (Or.inl rfl) (Or.inl rfl)) (Or.inl rfl) (Or.inl rfl) (Or.inl rfl) (Or.inl rfl) (Or.inl rfl) (Or.inl rfl) (Or.inl rfl) (Or.inl rfl) (Or.inl rfl) (Or.inl rfl) (Or.inl rfl) (Or.inl rfl) (Or.inl rfl) (Or.inl rfl) (Or.inl rfl) (Or.inr ⟨rfl, ⟨?_, by omega⟩, fun j hj => ?_⟩)
        · rw [hN, ← e]; rfl
        · rw [hN] at hj
          exact hx.2.2 j (by omega)
      · rw [if_neg c2, if_neg (fun q => c2 q.2)]
        exact h1
theorem terms_nat {τ : MSto} (hi : iM τ) {s : Nat} (hs : s < nM τ 17) : ∃ k, gI τ 59 0 s = nI k ∧ k ≤ 31 := nat_rg (b := 31) (hi.t s hs).1 (by decide)
theorem T_needs {σ τ : MSto} (h : Cpl σ τ) (a : Int32) : p_C_needs a σ ∧ p_M_needs a τ ∧ v_C_needs a σ = v_M_needs a τ ∧ Cpl (e_C_needs a σ) (e_M_needs a τ) := by
  have h1 := h.e0
  unfold p_C_needs p_M_needs v_C_needs v_M_needs e_C_needs e_M_needs
  generalize sI τ 13 0 52 0 = τ1 at h1 ⊢
  simp only [cp_isStory h1]
  by_cases g : v_M_isStory a τ1 = 0
  · simp only [if_pos g]
    exact ⟨fun q => absurd g q, fun q => absurd g q, trivial, h1⟩
  · simp only [if_neg g]
    obtain ⟨s, hs, rfl⟩ := storyN h1 g
    have hS := h1.S6
    have kt := (h1.t.2.1 s hs).2.2.1
    have vs : vp_in (nI s) 6 := nI_inb (by omega) (by decide)
    rw [al_v (by omega), nI_cl (by omega)]
    have e1 : gI (sI τ1 13 0 51 0) 59 0 s = gI τ1 59 0 s := rfl
    rw [e1, kt]
    have c0 := kR_clear σ τ1
    have k1 := kR_add c0 (by rw [rN_clear]; decide) (Int32.toInt64 (gI τ1 59 0 s))
    refine ⟨fun _ => ⟨al_p h1.lS (by omega) hs, pC_add _ c0⟩, fun _ => ⟨vs, pM_tell _ c0.2.1, vs⟩, rfl, ?_⟩
    exact h1.mvR (W := [8002, 38000]) (V := [13052, 78000]) (((w_Ro_clear σ).mono (W := [8002, 38000]) rfl).step (w_Ro_add _ _) rfl) ((agO_sI (W := [13052, 78000]) rfl (agO_refl _ τ1)).step (w_M_tell _ _) rfl) rfl rfl k1

