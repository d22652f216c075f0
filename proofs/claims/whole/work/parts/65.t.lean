/-! the curve, stuff, thread -/
theorem pc_at (a : Int32) (σ : MSto) : p_Cu_at a σ := fun h1 h2 => inI 200 rfl (Int32.not_lt.mp h1) (Int32.not_le.mp h2)
theorem rg199 {a : Int32} (ha : rg a 0 199) : ∃ n : Nat, a = nI n ∧ n ≤ 199 := nat_rg (b := 199) ha (by decide)
theorem cp_at {σ τ : MSto} (h : Cpl σ τ) {a : Int32} (ha : rg a 0 199) : v_Cu_at a σ = gI τ 41 0 a.toNatClampNeg := by
  obtain ⟨n, rfl, hn⟩ := rg199 ha
  unfold v_Cu_at
  rw [if_neg (nI_pos (by omega)), if_neg (show ¬ (200 : Int32) ≤ nI n from nI_ge (b := 200) (by omega) (by decide)), nI_cl (by omega)]
  exact h.v n (by omega)
theorem cp_covers (q : Nat) (x y : Int32) (σ : MSto) : v_Pt_covers q x y σ = bI ((gI σ 6 q 0 ≤ x ∧ x < gI σ 6 q 0 + gI σ 6 q 2) ∧ (gI σ 6 q 1 ≤ y ∧ y < gI σ 6 q 1 + gI σ 6 q 3)) := by
  unfold v_Pt_covers b_Pt_covers
  refine bI_congr ?_
  simp only [ite_ff, and_true, Int32.not_lt, Int32.not_le, and_assoc]
theorem f_stuffs {σ τ : MSto} (h : Cpl σ τ) (v x y w : Int32) : ∀ n, n ≤ nM τ 5 → f_Cl_withStuffs_29 x y (gI τ 44 0 w.toNatClampNeg) 0 σ v n = nfold (t_M_stuff x y w τ) v n
  | 0, _ => rfl
  | n + 1, hn => by
    have ih := f_stuffs h v x y w n (by omega)
    have h5 := h.m.c.2.1.2
    have hk := h.s.2 n (by omega)
    obtain ⟨k1, k2, k3, k4, k5, k6, k7, k8⟩ := hk
    show t_Cl_withStuffs_29 x y (gI τ 44 0 w.toNatClampNeg) (0 + nI n) σ (f_Cl_withStuffs_29 x y (gI τ 44 0 w.toNatClampNeg) 0 σ v n) = _
    rw [ih, nfold_s]
    unfold t_Cl_withStuffs_29 t_M_stuff v_AL_size
    rw [if_neg (ng_cnt h.lF (by omega) (by omega : n < nM τ 5)), z_nI, al_v (by omega), cp_covers, k3, k4, k5, k6]
    by_cases g : (gI τ 43 0 (6 * n) ≤ x ∧ x < gI τ 43 0 (6 * n) + gI τ 43 0 (6 * n + 2)) ∧ (gI τ 43 0 (6 * n + 1) ≤ y ∧ y < gI τ 43 0 (6 * n + 1) + gI τ 43 0 (6 * n + 3))
    · rw [if_neg (by rw [bI_t g]; decide), if_pos g, k7, k8, cp_at h (h.m.s n (by omega)).1]
      rfl
    · rw [if_pos (bI_f g), if_neg g]
theorem way_in {w : Int32} (hw : rg w 0 3) : vp_in w 4 := rgI hw (by decide) rfl
theorem cp_withStuffs {σ τ : MSto} (h : Cpl σ τ) (v x y : Int32) {w : Int32} (hw : rg w 0 3) : v_Cl_withStuffs v x y w σ = v_M_withStuff v x y w τ ∧ p_Cl_withStuffs v x y w σ := by
  have h5 := h.m.c.2.1.2
  have hin : ¬ v_C_isIn w 0 3 σ = 0 := by rw [cp_isIn, bI_n0]; exact hw
  obtain ⟨n, e, hn⟩ := nat_rg (b := 3) hw (by decide)
  have hg : gI σ 34 0 w.toNatClampNeg = gI τ 44 0 w.toNatClampNeg := by
    rw [e, nI_cl (by omega)]; exact h.g n (by omega)
  have hc : (gI σ 18 0 2).toNatClampNeg = nM τ 5 := by rw [h.lF, nI_cl (by omega)]
  constructor
  · unfold v_Cl_withStuffs n_Cl_withStuffs_29 v_M_withStuff
    rw [if_neg hin, hg, hc]
    exact f_stuffs h v x y w _ (Nat.le_refl _)
  · unfold p_Cl_withStuffs n_Cl_withStuffs_29
    refine ⟨fun q => absurd q hin, fun _ => ⟨way_in hw, ?_⟩⟩
    rw [hc]
    refine ⟨fun i hi => ⟨fun _ => ?_, q_cnt (N := v_AL_size 18 0 σ) h.lF (by omega) hi⟩, fun q => q (e_cnt (N := v_AL_size 18 0 σ) h.lF)⟩
    rw [z_nI]
    exact ⟨al_p h.lF (by omega) hi, fun _ => pc_at _ _⟩
theorem f_mends {σ τ : MSto} (h : Cpl σ τ) (x y w a : Int32) : ∀ n, n ≤ nM τ 3 → f_Cl_threadAt_9 x y w 0 σ a n = nfold (t_M_mend x y τ) a n
  | 0, _ => rfl
  | n + 1, hn => by
    have ih := f_mends h x y w a n (by omega)
    have h5 := h.m.c.1.2
    obtain ⟨k1, k2, k3, k4, k5, k6, k7⟩ := h.me.2 n (by omega)
    show t_Cl_threadAt_9 x y w (0 + nI n) σ (f_Cl_threadAt_9 x y w 0 σ a n) = _
    rw [ih, nfold_s]
    unfold t_Cl_threadAt_9 t_M_mend v_AL_size
    rw [if_neg (ng_cnt h.lM (by omega) (by omega : n < nM τ 3)), z_nI, al_v (by omega), cp_covers, k3, k4, k5, k6, k7]
    by_cases g : (gI τ 42 0 (5 * n) ≤ x ∧ x < gI τ 42 0 (5 * n) + gI τ 42 0 (5 * n + 2)) ∧ (gI τ 42 0 (5 * n + 1) ≤ y ∧ y < gI τ 42 0 (5 * n + 1) + gI τ 42 0 (5 * n + 3))
    · rw [if_neg (by rw [bI_t g]; decide), if_pos g]
    · rw [if_pos (bI_f g), if_neg g]
theorem cp_threadAt {σ τ : MSto} (h : Cpl σ τ) (x y : Int32) {w : Int32} (hw : rg w 0 3) : v_Cl_threadAt x y w σ = v_M_threadOf x y w τ ∧ p_Cl_threadAt x y w σ ∧ p_M_threadOf x y w τ := by
  have h5 := h.m.c.1.2
  have hc : (gI σ 17 0 2).toNatClampNeg = nM τ 3 := by rw [h.lM, nI_cl (by omega)]
  have hf : f_Cl_threadAt_9 x y w 0 σ (gI σ 1 0 1) (nM τ 3) = w_M_mendYear x y τ := by
    rw [f_mends h x y w _ _ (Nat.le_refl _), h.b.2.1]
    rfl
  have hy := mendYear_rg x y h.m
  refine ⟨?_, ?_, h.m, way_in hw⟩
  · unfold v_Cl_threadAt n_Cl_threadAt_9 v_M_threadOf
    rw [hc, hf, cp_at h hy]
    exact (cp_withStuffs h _ x y hw).1
  · unfold p_Cl_threadAt n_Cl_threadAt_9
    rw [hc]
    refine ⟨fun i hi => ⟨fun _ => ?_, q_cnt (N := v_AL_size 17 0 σ) h.lM (by omega) hi⟩, fun _ => ⟨pc_at _ _, (cp_withStuffs h _ x y hw).2⟩, fun q => q (e_cnt (N := v_AL_size 17 0 σ) h.lM)⟩
    rw [z_nI]
    exact ⟨al_p h.lM (by omega) hi, fun _ => al_p h.lM (by omega) hi⟩

