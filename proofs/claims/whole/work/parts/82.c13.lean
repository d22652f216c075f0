/-! sign, sheet -/
theorem us_low (a : Int32) {n : Nat} (hn : n ≤ 24) : us a (nI n) &&& 255 = (a >>> (nI n &&& 31)) &&& 255 := by
  refine b_ext (fun i hi => ?_)
  rw [b_and, b_and, b_255, b_ushr n (by omega), b_sshr n (by omega) a hi]
  by_cases g : i < 8
  · rw [if_pos (by omega)]
  · rw [decide_eq_false g, Bool.and_false, Bool.and_false]
theorem char_low (x : Int32) : ∃ m, m < 256 ∧ vp_nar .char (UInt32.toInt32 (Int32.toUInt32 (x &&& 255) % 65536)) = nI m ∧ x &&& 255 = nI m := by
  obtain ⟨m, hm, e⟩ := pk_andE x (m := 255) 8 (by decide)
  refine ⟨m, by omega, ?_, e⟩
  rw [pk_vc, pk_char, e, pk_tn (by omega), Nat.mod_eq_of_lt (by omega)]
noncomputable def cS (a : Int32) (n : Nat) (σ : MSto) : MSto := sI (sI σ 33 0 (gI σ 10 0 1).toNatClampNeg (vp_nar .char (UInt32.toInt32 (Int32.toUInt32 (us a (nI n) &&& 255) % 65536)))) 10 0 1 (gI σ 10 0 1 + 1)
theorem t_app (a : Int32) {n : Nat} (hn : n < 32) (σ : MSto) : t_Te_append_14 a (nI n, σ) = (nI n + (-8), cS a n σ) := by
  unfold t_Te_append_14
  rw [if_neg (nI_pos (by omega))]
  rfl
theorem fA_s (a : Int32) (s0 : Int32 × MSto) (n : Nat) : f_Te_append_14 a s0 (n + 1) = t_Te_append_14 a (f_Te_append_14 a s0 n) := rfl
theorem fA_0 (a : Int32) (s0 : Int32 × MSto) : f_Te_append_14 a s0 0 = s0 := rfl
theorem fA_4 (a : Int32) (σ : MSto) : f_Te_append_14 a (24, σ) 1 = (nI 16, cS a 24 σ) ∧ f_Te_append_14 a (24, σ) 2 = (nI 8, cS a 16 (cS a 24 σ)) ∧ f_Te_append_14 a (24, σ) 3 = (nI 0, cS a 8 (cS a 16 (cS a 24 σ))) ∧ f_Te_append_14 a (24, σ) 4 = (-8, cS a 0 (cS a 8 (cS a 16 (cS a 24 σ)))) := by
  have e0 : f_Te_append_14 a (24, σ) 0 = (nI 24, σ) := rfl
  have e1 : f_Te_append_14 a (24, σ) 1 = (nI 16, cS a 24 σ) := by
    rw [fA_s, e0, t_app a (by decide)]; rfl
  have e2 : f_Te_append_14 a (24, σ) 2 = (nI 8, cS a 16 (cS a 24 σ)) := by
    rw [fA_s, e1, t_app a (by decide)]; rfl
  have e3 : f_Te_append_14 a (24, σ) 3 = (nI 0, cS a 8 (cS a 16 (cS a 24 σ))) := by
    rw [fA_s, e2, t_app a (by decide)]; rfl
  refine ⟨e1, e2, e3, ?_⟩
  rw [fA_s, e3, t_app a (by decide)]; rfl
theorem kX_step {σ τ : MSto} (h : kX σ τ) (a : Int32) {n : Nat} {k : Int32} (hn : n ≤ 24) (hk : (8 * k) &&& 31 = nI n &&& 31) (hl : nM τ 49 < 80) : kX (cS a n σ) (u_M_sign a k τ) ∧ nM (u_M_sign a k τ) 49 = nM τ 49 + 1 := by
  obtain ⟨h1, h2, h3⟩ := h
  have e49 : gI (u_M_sign a k τ) 13 0 49 = nI (nM τ 49 + 1) := by
    show gI τ 13 0 49 + 1 = _
    rw [h2.1, nI_s]
  have eN : nM (u_M_sign a k τ) 49 = nM τ 49 + 1 := nM_set (by omega) e49
  have hcl : (gI τ 13 0 49).toNatClampNeg = nM τ 49 := rfl
  have eM : ∀ j, gI (u_M_sign a k τ) 77 0 j = if j = nM τ 49 then vp_nar .byte (Int8.toInt32 (Int32.toInt8 (a >>> ((8 * k) &&& 31)))) else gI τ 77 0 j := fun j => by
    unfold u_M_sign
    rw [gI_at, hcl]
    rfl
  have eC : ∀ j, gI (cS a n σ) 33 0 j = if j = nM τ 49 then vp_nar .char (UInt32.toInt32 (Int32.toUInt32 (us a (nI n) &&& 255) % 65536)) else gI σ 33 0 j := fun j => by
    unfold cS
    show gI (sI σ 33 0 (gI σ 10 0 1).toNatClampNeg (vp_nar .char (UInt32.toInt32 (Int32.toUInt32 (us a (nI n) &&& 255) % 65536)))) 33 0 j = _
    rw [gI_at, h1, hcl]
  refine ⟨⟨?_, ⟨by rw [eN, e49], by omega⟩, fun j hj => ?_⟩, eN⟩
  · rw [e49]
    show gI σ 10 0 1 + 1 = _
    rw [h1, h2.1, nI_s]
  · rw [eN] at hj
    rw [eM, eC]
    by_cases q : j = nM τ 49
    · rw [if_pos q, if_pos q]
      obtain ⟨m, hm, e1, e2⟩ := char_low (us a (nI n))
      refine ⟨by rw [e1]; exact nI_pos' (by omega), by rw [e1]; exact nI_le (b := 255) (by omega) (by decide), ?_⟩
      rw [pk_vb, hk, e1, ← e2, us_low a hn, fa_byte_low]
    · rw [if_neg q, if_neg q]
      exact h3 j (by omega)
theorem T_sign {σ τ : MSto} (h : Cpl σ τ) (a : Int32) : p_C_sign a σ ∧ p_M_sign a τ ∧ v_C_sign a σ = v_M_sign a τ ∧ Cpl (e_C_sign a σ) (e_M_sign a τ) := by
  have h0 := h.x
  have hx : kX σ (e0 τ) := h.e0.x
  have hn0 : nM (e0 τ) 49 = nM τ 49 := rfl
  obtain ⟨k1, k2, k3⟩ := h0
  have len : gI σ 10 0 1 = nI (nM τ 49) := k1.trans k2.1
  have h80 := k2.2
  refine ⟨?_, k2, ?_⟩
  · unfold p_C_sign p_Te_append
    intro g
    rw [len] at g
    have h76 : nM τ 49 ≤ 76 := (leN (b := 76) (by omega) (by decide)).mp g
    obtain ⟨f1, f2, f3, f4⟩ := fA_4 a σ
    have E : ∀ n s, gI (cS a n s) 10 0 1 = gI s 10 0 1 + 1 := fun _ _ => rfl
    have l1 : gI (cS a 24 σ) 10 0 1 = nI (nM τ 49 + 1) := by rw [E, len, nI_s]
    have l2 : gI (cS a 16 (cS a 24 σ)) 10 0 1 = nI (nM τ 49 + 1 + 1) := by rw [E, l1, nI_s]
    have l3 : gI (cS a 8 (cS a 16 (cS a 24 σ))) 10 0 1 = nI (nM τ 49 + 1 + 1 + 1) := by rw [E, l2, nI_s]
    have st : ∀ (m : Nat) (s : MSto) (l : Nat), m < 32 → gI s 10 0 1 = nI l → l < 80 → g_Te_append_14 a (nI m, s) ∧ ¬ q_Te_append_14s a (nI m, s) = 1 := fun m s l hm hl hl2 => by
      refine ⟨fun _ => ?_, ?_⟩
      · show vp_in (gI s 10 0 1) 80
        rw [hl]; exact nI_inb hl2 (by decide)
      · unfold q_Te_append_14s
        rw [if_neg (nI_pos (by omega))]
        decide
    refine ⟨fun i hi => ?_, fun q => q ?_⟩
    · have hi4 : i < 4 := hi
      have : i = 0 ∨ i = 1 ∨ i = 2 ∨ i = 3 := by omega
      rcases this with rfl | rfl | rfl | rfl
      · exact st 24 σ _ (by decide) len (by omega)
      · rw [f1]; exact st 16 _ _ (by decide) l1 (by omega)
      · rw [f2]; exact st 8 _ _ (by decide) l2 (by omega)
      · rw [f3]; exact st 0 _ _ (by decide) l3 (by omega)
    · show (f_Te_append_14 a (24, σ) 4).1 < 0
      rw [f4]; exact (by decide : (-8 : Int32) < 0)
  · unfold v_C_sign e_C_sign v_Te_append e_Te_append v_M_sign e_M_sign
    rw [len, k2.1, nA]
    by_cases g : nM τ 49 ≤ 76
    · have g1 : nI (nM τ 49) ≤ 76 := nI_le (b := 76) g (by decide)
      have g2 : nI (nM τ 49 + 4) ≤ 80 := nI_le (b := 80) (by omega) (by decide)
      rw [if_pos g1, if_pos g1, if_pos g2, if_pos g2]
      have f4 : f_Te_append_14 a (24, σ) (n_Te_append_14 a (24, σ)) = (-8, cS a 0 (cS a 8 (cS a 16 (cS a 24 σ)))) := by
        exact (fA_4 a σ).2.2.2
      rw [f4]
      obtain ⟨x1, n1⟩ := kX_step hx a (n := 24) (k := 3) (by decide) (by decide) (by omega)
      obtain ⟨x2, n2⟩ := kX_step x1 a (n := 16) (k := 2) (by decide) (by decide) (by omega)
      obtain ⟨x3, n3⟩ := kX_step x2 a (n := 8) (k := 1) (by decide) (by decide) (by omega)
      obtain ⟨x4, n4⟩ := kX_step x3 a (n := 0) (k := 0) (by decide) (by decide) (by omega)
      refine ⟨?_, ?_⟩
      · show gI (cS a 0 (cS a 8 (cS a 16 (cS a 24 σ)))) 10 0 1 = _
        rw [x4.1, x4.2.1.1, n4, n3, n2, n1, hn0]
      · have wσ : agO [10002, 33000] σ (cS a 0 (cS a 8 (cS a 16 (cS a 24 σ)))) := agO_sI rfl (agO_sI rfl (agO_sI rfl (agO_sI rfl (agO_sI rfl (agO_sI rfl (agO_sI rfl (agO_sI rfl (agO_refl _ σ))))))))
        have wτ : agO [13050, 13053, 77000] τ (u_M_sign a 0 (u_M_sign a 1 (u_M_sign a 2 (u_M_sign a 3 (e0 τ))))) := w_u_M_sign _ _ (w_u_M_sign _ _ (w_u_M_sign _ _ (w_u_M_sign _ _ (agO_sI rfl (agO_refl _ τ)))))
        exact Cpl.upd h wσ wτ rfl (iM.upd h.m wτ (Or.inl rfl) (Or.inl rfl) (Or.inl rfl) (Or.inl rfl) (Or.inl rfl) (Or.inl rfl) (Or.inl rfl) (Or.inl rfl) (Or.inl rfl) (Or.inl rfl) (Or.inl rfl) (Or.inl rfl) (Or.inl rfl) (Or.inl rfl)) (Or.inl rfl) (Or.inl rfl) (Or.inl rfl) (Or.inl rfl) (Or.inl rfl) (Or.inl rfl) (Or.inl rfl) (Or.inl rfl) (Or.inl rfl) (Or.inl rfl) (Or.inl rfl) (Or.inl rfl) (Or.inl rfl) (Or.inl rfl) (Or.inl rfl) (Or.inr x4)
    · have g1 : ¬ nI (nM τ 49) ≤ 76 := nI_ge (a := 76) (by omega) (by omega)
      have g2 : ¬ nI (nM τ 49 + 4) ≤ 80 := nI_ge (a := 80) (by omega) (by omega)
      rw [if_neg g1, if_neg g1, if_neg g2, if_neg g2]
      exact ⟨rfl, h.e0⟩
/-! sheet -/
theorem clamp_rg (y : Int32) (σ : MSto) : rg (v_Ma_max 1 (v_Ma_min 60 y σ) σ) 1 60 := by
  unfold v_Ma_max v_Ma_min
  by_cases g : y < 60
  · rw [if_pos g]
    by_cases g2 : 1 < y
    · rw [if_pos g2]; exact ⟨Int32.le_of_lt g2, Int32.le_of_lt g⟩
    · rw [if_neg g2]; exact ⟨by decide, by decide⟩
  · rw [if_neg g]; exact ⟨by decide, by decide⟩
def shR (σ τ : MSto) (f st : Int32) (i : Nat) (x : Int32 × MSto) (y : Int32 × Int32 × MSto) : Prop := x.1 = y.1 ∧ y.2.1 = f + nI i * st ∧ agO [21000] σ x.2 ∧ agO [46000] τ y.2.2 ∧ ∀ h, h < 6 → gI x.2 21 0 h = gI y.2.2 46 0 h ∧ rg (gI y.2.2 46 0 h) 1 60
theorem sh_set {σ τ σ1 τ1 : MSto} {f st s v : Int32} {i : Nat} (hi : i < 6) {w : Int32} (hw : rg w 1 60) (hr : shR σ τ f st i (s, σ1) (s, f + nI i * st, τ1)) (hv : v = f + nI i * st + st) : shR σ τ f st (i + 1) (s + gI (sI σ1 21 0 i w) 21 0 i, sI σ1 21 0 i w) (s + gI (sI τ1 46 0 i w) 46 0 i, v, sI τ1 46 0 i w) := by
  obtain ⟨r1, r2, r3, r4, r5⟩ := hr
  refine ⟨?_, ?_, agO_sI rfl r3, agO_sI rfl r4, fun h hh => ?_⟩
  · show s + gI (sI σ1 21 0 i w) 21 0 i = s + gI (sI τ1 46 0 i w) 46 0 i
    rw [gI_at1, gI_at1]
  · show v = f + nI (i + 1) * st
    rw [hv, ← nI_s, Int32.add_mul, Int32.one_mul, Int32.add_assoc]
  · show gI (sI σ1 21 0 i w) 21 0 h = gI (sI τ1 46 0 i w) 46 0 h ∧ rg (gI (sI τ1 46 0 i w) 46 0 h) 1 60
    rw [gI_at, gI_at]
    split
    · exact ⟨rfl, hw⟩
    · exact r5 h hh
theorem sh_step {σ τ : MSto} {k n f st x5 : Int32} (hx : x5 = if k = 3 then 0 else n) {i : Nat} (hi : i < 6) (x : Int32 × MSto) (y : Int32 × Int32 × MSto) (hr : shR σ τ f st i x y) : shR σ τ f st (i + 1) (t_C_sheet_47 k f st x5 (0 + nI i) x) (t_M_sheet_43 k n st (0 + nI i) y) := by
  obtain ⟨s, σ1⟩ := x
  obtain ⟨s2, v, τ1⟩ := y
  obtain ⟨e1, e2⟩ : s = s2 ∧ v = f + nI i * st := ⟨hr.1, hr.2.1⟩
  subst e1; subst e2
  have c20 : rg 20 1 60 := ⟨by decide, by decide⟩
  have S := fun (w : Int32) (hw : rg w 1 60) => sh_set (σ := σ) (τ := τ) hi hw hr rfl
  unfold t_C_sheet_47 t_M_sheet_43
  rw [if_neg (ng_cnt l6 (by decide) hi), if_neg (ng_cnt l6 (by decide) hi), z_nI]
  unfold tj_M_sheet_43j73
  rw [nI_cl (by omega)]
  by_cases g3 : k = 3
  · have hx0 : x5 = 0 := by rw [hx, if_pos g3]
    rw [if_pos (show x5 ≤ nI i by rw [hx0]; exact nI_pos' (by omega)), if_neg (by rw [g3]; decide), if_neg (by rw [g3]; decide), if_pos g3]
    exact S 20 c20
  · have hxn : x5 = n := by rw [hx, if_neg g3]
    simp only [if_neg g3]
    by_cases q : nI i < n
    · rw [if_neg (show ¬ x5 ≤ nI i by rw [hxn]; exact Int32.not_le.mpr q)]
      simp only [if_pos q]
      unfold v_C_asSpan
      by_cases k0 : k = 0
      · rw [if_pos k0, if_pos k0]
        exact S _ (clamp_rg _ _)
      · rw [if_neg k0, if_neg k0]
        by_cases k1 : k = 1
        · rw [if_pos k1, if_pos k1]
          exact S _ (clamp_rg _ _)
        · rw [if_neg k1, if_neg k1]
          exact S _ (clamp_rg _ _)
    · rw [if_pos (show x5 ≤ nI i by rw [hxn]; exact Int32.not_lt.mp q)]
      simp only [if_neg q]
      have : ∀ (p : Prop) [Decidable p] (u : Int32 × Int32 × MSto), (if p then u else u) = u := fun p _ u => by split <;> rfl
      rw [this, this]
      exact S 20 c20
theorem sh_fold {σ τ : MSto} (h : Cpl σ τ) {k n f st x5 : Int32} (hx : x5 = if k = 3 then 0 else n) : shR σ τ f st 6 (f_C_sheet_47 k f st x5 0 (0, σ) (n_C_sheet_47 k f st x5 0 (0, σ))) (f_M_sheet_43 k n st 0 (0, f, τ) (n_M_sheet_43 k n st 0 (0, f, τ))) := by
  show shR σ τ f st 6 (nfold (fun i s => t_C_sheet_47 k f st x5 (0 + nI i) s) (0, σ) 6) (nfold (fun i s => t_M_sheet_43 k n st (0 + nI i) s) (0, f, τ) 6)
  refine nfold2 (R := shR σ τ f st) ⟨rfl, ?_, agO_refl _ _, agO_refl _ _, fun h' hh => ⟨(h.h h' hh).2, (h.m.h h' hh).2⟩⟩ (fun i hi x y q => sh_step hx hi x y q)
  show f = f + nI 0 * st
  rw [nI_0, Int32.zero_mul, Int32.add_zero]
theorem sh_cpl {σ τ : MSto} (h : Cpl σ τ) {f st : Int32} {x : Int32 × MSto} {y : Int32 × Int32 × MSto} (hr : shR σ τ f st 6 x y) : Cpl x.2 y.2.2 := by
  obtain ⟨-, -, w1, w2, r⟩ := hr
  refine Cpl.upd h w1 w2 rfl (iM.upd h.m w2 (Or.inl rfl) (Or.inl rfl) (Or.inl rfl) (Or.inl rfl) (Or.inl rfl) (Or.inr fun x hx => ?_) (Or.inl rfl) (Or.inl rfl) (Or.inl rfl) (Or.inl rfl) (Or.inl rfl) (Or.inl rfl) (Or.inl rfl) (Or.inl rfl)) (Or.inl rfl) (Or.inl rfl) (Or.inl rfl) (Or.inl rfl) (Or.inl rfl) (Or.inr fun x hx => ?_) (Or.inl rfl) (Or.inl rfl) (Or.inl rfl) (Or.inl rfl) (Or.inl rfl) (Or.inl rfl) (Or.inl rfl) (Or.inl rfl) (Or.inl rfl) (Or.inl rfl)
  · refine ⟨?_, (r x hx).2⟩
    rw [w2.i rfl]; exact (h.m.h x hx).1
  · refine ⟨?_, (r x hx).1⟩
    rw [w1.i rfl, w2.i rfl]; exact (h.h x hx).1
theorem T_sheet {σ τ : MSto} (h : Cpl σ τ) (a b c d : Int32) : p_C_sheet a b c d σ ∧ p_M_sheet a b c d τ ∧ v_C_sheet a b c d σ = v_M_sheet a b c d τ ∧ Cpl (e_C_sheet a b c d σ) (e_M_sheet a b c d τ) := by
  have h1 := h.e0
  unfold p_C_sheet p_M_sheet v_C_sheet v_M_sheet e_C_sheet e_M_sheet
  generalize sI τ 13 0 52 0 = τ1 at h1 ⊢
  simp only [cp_isIn, M_in]
  have PC : ∀ x5, (∀ i, i < n_C_sheet_47 a c d x5 0 (0, σ) → g_C_sheet_47 a c d x5 (0 + nI i) (f_C_sheet_47 a c d x5 0 (0, σ) i) ∧ ¬ q_C_sheet_47s a c d x5 (0 + nI i) (f_C_sheet_47 a c d x5 0 (0, σ) i) = 1) ∧ (¬ (6 ≤ 0 + nI (n_C_sheet_47 a c d x5 0 (0, σ))) → False) := fun x5 => by
    refine ⟨fun i hi => ⟨fun _ => ?_, q_cnt l6 (by decide) hi⟩, fun q => q (e_cnt l6)⟩
    rw [z_nI]
    have v : vp_in (nI i) 6 := nI_inb hi (by decide)
    exact ⟨fun _ => ⟨v, v⟩, fun _ => ⟨v, v⟩⟩
  have PM : (∀ i, i < n_M_sheet_43 a b d 0 (0, c, τ1) → g_M_sheet_43 a b d (0 + nI i) (f_M_sheet_43 a b d 0 (0, c, τ1) i) ∧ ¬ q_M_sheet_43s a b d (0 + nI i) (f_M_sheet_43 a b d 0 (0, c, τ1) i) = 1) ∧ (¬ (6 ≤ 0 + nI (n_M_sheet_43 a b d 0 (0, c, τ1))) → False) := by
    refine ⟨fun i hi => ⟨fun _ => ?_, q_cnt l6 (by decide) hi⟩, fun q => q (e_cnt l6)⟩
    rw [z_nI]
    have v : vp_in (nI i) 6 := nI_inb hi (by decide)
    have G : ∀ y, gj_M_sheet_43j73 a b d (f_M_sheet_43 a b d 0 (0, c, τ1) i).1 (f_M_sheet_43 a b d 0 (0, c, τ1) i).2.1 (nI i) y (f_M_sheet_43 a b d 0 (0, c, τ1) i).2.2 := fun y => ⟨fun _ => ⟨v, v⟩, fun _ => ⟨fun _ => ⟨v, v⟩, fun _ => ⟨v, v⟩⟩⟩
    exact ⟨fun _ => G _, fun _ => ⟨fun _ => G _, fun _ => G _⟩⟩
  by_cases g : 0 ≤ a ∧ a ≤ 3
  · simp only [if_neg (bn g)]
    by_cases g2 : b ≤ 6
    · simp only [if_pos g2]
      by_cases g3 : a = 3
      · have hr := sh_fold h1 (k := a) (n := b) (f := c) (st := d) (x5 := 0) (by rw [if_pos g3])
        have c3 : 3 ≤ a := by rw [g3]; decide
        simp only [if_pos g3, if_pos c3]
        exact ⟨fun _ _ => ⟨fun _ => ⟨fun _ => PC 0, fun q => absurd g3 q⟩, fun q => absurd g3 q⟩, fun _ _ => ⟨fun _ => PM, fun q => absurd c3 q⟩, trivial, sh_cpl h1 hr⟩
      · have hr := sh_fold h1 (k := a) (n := b) (f := c) (st := d) (x5 := b) (by rw [if_neg g3])
        have c3 : ¬ 3 ≤ a := fun q => g3 (Int32.le_antisymm g.2 q)
        simp only [if_neg g3, if_neg c3]
        by_cases g4 : 0 ≤ b
        · simp only [if_pos g4]
          exact ⟨fun _ _ => ⟨fun q => absurd q g3, fun _ _ => ⟨fun q => absurd q g3, fun _ => PC b⟩⟩, fun _ _ => ⟨fun q => absurd q c3, fun _ _ => PM⟩, hr.1, sh_cpl h1 hr⟩
        · simp only [if_neg g4]
          exact ⟨fun _ _ => ⟨fun q => absurd q g3, fun _ q => absurd q g4⟩, fun _ _ => ⟨fun q => absurd q c3, fun _ q => absurd q g4⟩, trivial, h1⟩
    · simp only [if_neg g2]
      exact ⟨fun _ q => absurd q g2, fun _ q => absurd q g2, trivial, h1⟩
  · simp only [if_pos (bz g)]
    exact ⟨fun q => absurd (bz g) q, fun q => absurd (bz g) q, trivial, h1⟩

