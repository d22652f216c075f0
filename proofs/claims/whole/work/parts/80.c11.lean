/-! open, look -/
theorem l8 : (8 : Int32) = nI 8 := rfl
theorem fold_eq {α : Type} {f g : Nat → α → α} {a : α} {n : Nat} (h : ∀ i, i < n → ∀ x, f i x = g i x) : nfold f a n = nfold g a n := nfold_congr h
theorem has_of {B : Int32} {n : Nat} (τ : MSto) (h : B >>> (nI n &&& 31) &&& 1 = 1) : ¬ v_M_has B (nI n) τ = 0 := by
  unfold v_M_has; exact bn h
theorem has_no {B : Int32} {n : Nat} (τ : MSto) (h : B >>> (nI n &&& 31) &&& 1 = 0) : v_M_has B (nI n) τ = 0 := by
  unfold v_M_has; exact bz (fun q => by rw [h] at q; exact absurd q (by decide))
theorem s_openHows {σ τ : MSto} (h : Cpl σ τ) (a b : Int32) {n : Nat} (hn : n < 8) (s : Int32) : t_C_openHows_5 a b (0 + nI n) σ s = t_M_openBy_5 a b (0 + nI n) τ s := by
  unfold t_C_openHows_5 t_M_openBy_5
  rw [if_neg (ng_cnt l8 (by decide) hn), if_neg (ng_cnt l8 (by decide) hn), z_nI, nI_cl (by omega)]
  rcases h.o n hn with ⟨k1, k2⟩ | ⟨y, k1, k2, k3, k4, k5⟩
  · rw [k1, if_pos (has_no τ k2)]; rfl
  · rw [k1, if_neg (has_of τ k3), ← k4, ← k5]
    show (if v_Ho_isOpen y a b σ = 0 then s else _) = _
    unfold v_Ho_isOpen b_Ho_isOpen
    by_cases g1 : gI σ 3 y 0 &&& b = 0
    · by_cases g2 : gI σ 3 y 1 &&& a = 0
      · rw [if_pos g1, if_pos g2, if_pos g1, if_pos g2, if_neg (bn trivial)]
      · rw [if_pos g1, if_neg g2, if_pos g1, if_neg g2, if_pos (bz id)]
    · rw [if_neg g1, if_neg g1, if_pos (bz id)]
theorem cp_openHows {σ τ : MSto} (h : Cpl σ τ) (a b : Int32) : v_C_openHows a b σ = v_M_openBy a b τ :=
  fold_eq (f := fun i s => t_C_openHows_5 a b (0 + nI i) σ s) (g := fun i s => t_M_openBy_5 a b (0 + nI i) τ s) (a := 0) (n := 8) (fun i hi s => s_openHows h a b hi s)
theorem pc_openHows (a b : Int32) (σ : MSto) : p_C_openHows a b σ := by
  unfold p_C_openHows n_C_openHows_5
  refine ⟨fun i hi => ⟨fun _ => ?_, q_cnt l8 (by decide) hi⟩, fun q => q (e_cnt l8)⟩
  rw [z_nI]; exact nI_inb hi (by decide)
theorem pM_openBy (a b : Int32) (σ : MSto) : p_M_openBy a b σ := by
  unfold p_M_openBy n_M_openBy_5
  refine ⟨fun i hi => ⟨fun _ _ => ?_, q_cnt l8 (by decide) hi⟩, fun q => q (e_cnt l8)⟩
  rw [z_nI]; exact ⟨nI_inb hi (by decide), fun _ => nI_inb hi (by decide)⟩
theorem s_known {σ τ : MSto} (h : Cpl σ τ) (a b : Int32) {n : Nat} (hn : n < 8) (s : Int32) : t_C_open_15 a b (0 + nI n) σ s = t_M_open_20 a b (0 + nI n) τ s := by
  unfold t_C_open_15 t_M_open_20
  rw [if_neg (ng_cnt l8 (by decide) hn), if_neg (ng_cnt l8 (by decide) hn), z_nI, nI_cl (by omega)]
  rcases h.o n hn with ⟨k1, k2⟩ | ⟨y, k1, k2, k3, k4, k5⟩
  · rw [k1, if_pos (has_no τ k2)]; rfl
  · rw [k1, if_neg (has_of τ k3), ← k4, ← k5]
    show (if v_Ho_isAllKnown y a b σ = 0 then s else _) = _
    unfold v_Ho_isAllKnown b_Ho_isAllKnown
    by_cases g1 : gI σ 3 y 0 &&& (a ^^^ -1) = 0
    · by_cases g2 : gI σ 3 y 1 &&& (b ^^^ -1) = 0
      · rw [if_pos g1, if_pos g2, if_pos g1, if_pos g2, if_neg (bn trivial)]
      · rw [if_pos g1, if_neg g2, if_pos g1, if_neg g2, if_pos (bz id)]
    · rw [if_neg g1, if_neg g1, if_pos (bz id)]
/-- the row with one number -/
theorem row1 {σ τ : MSto} (h : Cpl σ τ) (v : Int64) : Cpl (e_Ro_add v (e_Ro_clear σ)) (e_M_tell v (sI τ 13 0 51 0)) ∧ p_Ro_add v (e_Ro_clear σ) ∧ p_M_tell v (sI τ 13 0 51 0) := by
  have c0 := kR_clear σ τ
  have k1 := kR_add c0 (by rw [rN_clear]; decide) v
  exact ⟨h.mvR (W := [8002, 38000]) (V := [13052, 78000]) (((w_Ro_clear σ).mono (W := [8002, 38000]) rfl).step (w_Ro_add _ _) rfl) ((agO_sI (W := [13052, 78000]) rfl (agO_refl _ τ)).step (w_M_tell _ _) rfl) rfl rfl k1, pC_add _ c0, pM_tell _ c0.2.1⟩
theorem M_areMarks (b c : Int32) (τ : MSto) : v_M_areMarks b c τ = bI ((0 ≤ b ∧ b ≤ 255) ∧ (0 ≤ c ∧ c ≤ 255) ∧ b &&& c = 0) := by
  rw [← cp_areMarks b c τ τ, C_areMarks]
theorem T_open {σ τ : MSto} (h : Cpl σ τ) (a b : Int32) : p_C_open a b σ ∧ p_M_open a b τ ∧ v_C_open a b σ = v_M_open a b τ ∧ Cpl (e_C_open a b σ) (e_M_open a b τ) := by
  have h1 := h.e0
  unfold p_C_open p_M_open v_C_open v_M_open e_C_open e_M_open
  generalize sI τ 13 0 52 0 = τ1 at h1 ⊢
  simp only [C_areMarks, M_areMarks]
  by_cases g : (0 ≤ a ∧ a ≤ 255) ∧ (0 ≤ b ∧ b ≤ 255) ∧ a &&& b = 0
  · simp only [if_neg (bn g)]
    have hf : f_C_open_15 a b 0 σ 0 (n_C_open_15 a b 0 σ 0) = f_M_open_20 a b 0 τ1 0 (n_M_open_20 a b 0 τ1 0) :=
      fold_eq (f := fun i s => t_C_open_15 a b (0 + nI i) σ s) (g := fun i s => t_M_open_20 a b (0 + nI i) τ1 s) (a := 0) (n := 8) (fun i hi s => s_known h1 a b hi s)
    rw [hf]
    obtain ⟨r1, r2, r3⟩ := row1 h1 (Int32.toInt64 (f_M_open_20 a b 0 τ1 0 (n_M_open_20 a b 0 τ1 0)))
    refine ⟨fun _ => ⟨fun i hi => ⟨fun _ => ?_, q_cnt l8 (by decide) hi⟩, fun _ => ⟨r2, pc_openHows _ _ _⟩, fun q => q (e_cnt l8)⟩, fun _ => ⟨fun i hi => ⟨fun _ _ => ?_, q_cnt l8 (by decide) hi⟩, fun _ => ⟨r3, pM_openBy _ _ _⟩, fun q => q (e_cnt l8)⟩, cp_openHows r1 a b, r1⟩
    · rw [z_nI]; exact nI_inb hi (by decide)
    · rw [z_nI]; exact ⟨nI_inb hi (by decide), fun _ => nI_inb hi (by decide)⟩
  · simp only [if_pos (bz g)]
    exact ⟨fun q => absurd (bz g) q, fun q => absurd (bz g) q, trivial, h1⟩

