/-! story, both -/
theorem new9 (σ : MSto) (i f : Nat) : gI (e_St_init (gN σ 9) (sNew σ 9)) 9 i f = if i = gN σ 9 then (if f = 1 then 1 else 0) else gI σ 9 i f := by
  unfold e_St_init
  rw [gI_sI]
  by_cases e : i = gN σ 9
  · by_cases g : f = 1
    · rw [if_pos ⟨rfl, e, g⟩, if_pos e, if_pos g]
    · rw [if_neg (fun z => g z.2.2), gI_sNew, if_pos ⟨rfl, e⟩, if_pos e, if_neg g]
  · rw [if_neg (fun z => e z.2.1), gI_sNew, if_neg (fun z => e z.2), if_neg e]
theorem cut0 {s : MSto} {Z : Nat} (h : gI s 10 0 1 = nI Z) (hZ : Z ≤ 80) : e_Te_cut 0 s = sI s 10 0 1 0 := by
  unfold e_Te_cut
  rw [if_neg (by decide), h, if_pos (nI_pos' (by omega))]
theorem T_story {σ τ : MSto} (h : Cpl σ τ) : p_C_story σ ∧ p_M_story τ ∧ v_C_story σ = v_M_story τ ∧ Cpl (e_C_story σ) (e_M_story τ) := by
  have h1 := h.e0
  unfold p_C_story p_M_story v_C_story v_M_story e_C_story e_M_story
  generalize sI τ 13 0 52 0 = τ1 at h1 ⊢
  have hS := h1.S6
  have c17 : gI τ1 13 0 17 = nI (nM τ1 17) := h1.m.c.2.2.2.1.1
  have hl : gI σ 15 0 2 = nI (nM τ1 17) := h1.lS
  have hsz : v_AL_size 15 0 σ = nI (nM τ1 17) := hl
  obtain ⟨x1, x2, x3⟩ := h1.x
  have e10 : gI σ 10 0 1 = nI (nM τ1 49) := x1.trans x2.1
  have hZ := x2.2
  obtain ⟨S, eS⟩ : ∃ S, S = nM τ1 17 := ⟨_, rfl⟩
  rw [← eS] at hS c17 hl hsz
  by_cases g6 : S = 6
  · have q1 : ¬ v_AL_size 15 0 σ < 6 := by rw [hsz, g6]; decide
    have q2 : gI τ1 13 0 17 = 6 := by rw [c17, g6]; rfl
    rw [if_neg q1, if_neg q1, if_pos q2, if_pos q2, cut0 e10 hZ]
    refine ⟨fun c => absurd c q1, fun c => absurd q2 c, rfl, ?_⟩
    exact Cpl.upd (W := [10002]) (V := [13050, 13054, 13055, 13056, 13057]) h1 (agO_sI rfl (agO_refl _ σ)) (w_M_begin 40 τ1) rfl (iM.upd h1.m (w_M_begin 40 τ1) (Or.inl rfl) (Or.inl rfl) (Or.inl rfl) (Or.inl rfl) (Or.inl rfl) (Or.inl rfl) (Or.inl rfl) (Or.inl rfl) (Or.inl rfl) (Or.inl rfl) (Or.inl rfl) (Or.inl rfl) (Or.inl rfl) (Or.inl rfl)) (Or.inl rfl) (Or.inl rfl) (Or.inl rfl) (Or.inl rfl) (Or.inl rfl) (Or.inl rfl) (Or.inl rfl) (Or.inl rfl) (Or.inl rfl) (Or.inl rfl) (Or.inl rfl) (Or.inl rfl) (Or.inl rfl) (Or.inl rfl) (Or.inl rfl) (Or.inr (kX_0 (by rw [gI_sI, if_pos ⟨rfl, rfl, rfl⟩]) rfl))
  · have q1 : v_AL_size 15 0 σ < 6 := by rw [hsz]; exact (lt_nI (b := 6) (by omega) (by decide)).mpr (by omega)
    have q2 : ¬ gI τ1 13 0 17 = 6 := by rw [c17]; exact fun q => g6 ((nI_eq (b := 6) (by omega) (by decide)).mp q)
    have hS5 : S < 6 := by omega
    have vS : vp_in (nI S) 6 := nI_inb hS5 (by decide)
    rw [if_pos q1, if_pos q1, if_neg q2, if_neg q2]
    have b17 : gI (e_M_begin 40 τ1) 13 0 17 = nI S := c17
    rw [b17]
    unfold vj_M_story_j47 ej_M_story_j47 gj_M_story_j47
    rw [nI_cl (i := S) (by omega)]
    obtain ⟨Q, eQ⟩ : ∃ Q, Q = gN σ 9 := ⟨_, rfl⟩
    obtain ⟨σ1, e1⟩ : ∃ s, s = e_St_init (gN σ 9) (sNew σ 9) := ⟨_, rfl⟩
    obtain ⟨t0, e2⟩ : ∃ t, t = sI (sI (sI (sI (e_M_begin 40 τ1) 52 0 S (-1)) 56 0 S 0) 57 0 S (-1)) 58 0 S 0 := ⟨_, rfl⟩
    rw [← e1, ← e2]
    have n9 : ∀ i f, gI σ1 9 i f = if i = gN σ 9 then (if f = 1 then 1 else 0) else gI σ 9 i f := fun i f => by rw [e1]; exact new9 σ i f
    have w1 : agO [9000, 9999, 9002] σ σ1 := by rw [e1]; exact agO.step (agO_sNew (by decide) (by decide) (agO_refl _ σ)) (w_St_init _ _) rfl
    have gN1 : gN σ1 9 = gN σ 9 + 1 := by rw [e1]; rfl
    have kx : kX σ1 τ1 := kX.mv w1 (agO_refl [] τ1) rfl h1.x
    obtain ⟨tx, r0⟩ := rd_beginX kx (E := 40) (by decide)
    have r0 : rR tx (nM τ1 49) 40 0 (e_Te_begin 40 σ1) (e_M_begin 40 τ1) := r0
    have u0 : agO [52000, 56000, 57000, 58000] (e_M_begin 40 τ1) t0 := by rw [e2]; exact agO_sI rfl (agO_sI rfl (agO_sI rfl (agO_sI rfl (agO_refl _ _))))
    have r1 : rR tx (nM τ1 49) 40 0 (e_Te_begin 40 σ1) t0 := rR_w (W := []) (V := [52000, 56000, 57000, 58000]) r0 (agO_refl _ _) u0 rfl rfl
    have wB := w_Te_begin 40 σ1
    have b9 : ∀ f, f < 9 → gI (e_Te_begin 40 σ1) 9 (gN σ 9) f = if f = 1 then 1 else 0 := fun f hf => by
      rw [k9i (wB.mono rfl) _ f hf, n9, if_pos rfl]
    have a56 : gI t0 56 0 S = 0 := by
      rw [e2, gI_sI, if_neg (fun z => absurd z.1 (by decide)), gI_sI, if_neg (fun z => absurd z.1 (by decide)), gI_sI, if_pos ⟨rfl, rfl, rfl⟩]
    have a57 : gI t0 57 0 S = -1 := by
      rw [e2, gI_sI, if_neg (fun z => absurd z.1 (by decide)), gI_sI, if_pos ⟨rfl, rfl, rfl⟩]
    have a58 : gI t0 58 0 S = 0 := by rw [e2, gI_sI, if_pos ⟨rfl, rfl, rfl⟩]
    have H0 : stH tx (nM τ1 49) (gN σ 9) S 0 0 (e_Te_begin 40 σ1) t0 := by
      refine ⟨by decide, r1, ?_, b9 0 (by decide)⟩
      unfold stG
      rw [b9 1 (by decide), b9 6 (by decide), a56, a57, a58]
      exact ⟨rfl, fun c => absurd rfl c, fun c => absurd rfl c, fun c => absurd rfl c, ⟨rfl, by decide, by decide⟩, fun c => absurd rfl c, fun _ => rfl, ⟨by decide, by decide⟩, by decide, by decide⟩
    obtain ⟨s', tF, kF, c1, c2, m1, m2, m3, hE, K9, KM, wF⟩ := st_read hS5 (Nat.eq_zero_or_pos _) H0
    rw [m1, m2]
    -- frames
    have wR0 : agO [9001, 9003, 9004, 9005, 9006, 9007, 9008, 9009, 10003, 10004, 10005] σ1 (e_St_read (gN σ 9) σ1) := w_St_read _ _
    have gNR : gN (e_St_read (gN σ 9) σ1) 9 = gN σ 9 + 1 := (wR0.n (k := 9) rfl).trans gN1
    have wR : agO [9000, 9001, 9002, 9003, 9004, 9005, 9006, 9007, 9008, 9009, 9999, 10002, 10003, 10004, 10005] σ (e_St_read (gN σ 9) σ1) := (w1.mono rfl).step wR0 rfl
    have c9 : ∀ y f, y ≠ gN σ 9 → f < 9 → gI (e_St_read (gN σ 9) σ1) 9 y f = gI σ 9 y f := fun y f hy hf => by
      rw [c1, k9i ((w_Te_finish 40 s').mono rfl) y f hf, K9 y f hy hf, k9i (wB.mono rfl) y f hf, n9, if_neg hy]
    have wT : agO [13050, 13054, 13055, 13056, 13057, 52000, 53000, 54000, 55000, 56000, 57000, 58000] τ1 tF := (((w_M_begin 40 τ1).mono rfl).step u0 rfl).step wF rfl
    have mA : ∀ a x, 52 ≤ a ∧ a < 61 → x ≠ S → gI tF a 0 x = gI τ1 a 0 x := fun a x ha hx => by
      rw [KM a x (by omega) hx, e2, gI_sI, if_neg (fun z => hx z.2.2), gI_sI, if_neg (fun z => hx z.2.2), gI_sI, if_neg (fun z => hx z.2.2), gI_sI, if_neg (fun z => hx z.2.2)]
      refine (w_M_begin 40 τ1).i (inW_arr ?_ ((by decide : ∀ a, a < 61 → ([13050, 13054, 13055, 13056, 13057] : List Nat).contains (1000 * a) = false) a ha.2))
      exact (by decide : ∀ a, a < 61 → 14 ≤ a → Nat.ble a 13 = false) a ha.2 (by omega)
    have t49 : gI tF 13 0 49 = 0 := by
      rw [wF.i rfl, u0.i rfl]; rfl
    have t17 : gI tF 13 0 17 = nI S := by rw [wF.i rfl, u0.i rfl]; exact b17
    have l1 : gI (e_St_read (gN σ 9) σ1) 10 0 1 = nI (nM τ1 49) := (wR0.i (k := 10) (i := 0) (j := 1) rfl).trans ((w1.i (k := 10) (i := 0) (j := 1) rfl).trans e10)
    have ecut := cut0 l1 hZ
    rw [ecut]
    have g4 : gI (sI (e_St_read (gN σ 9) σ1) 10 0 1 0) 10 0 4 = gI (e_St_read (gN σ 9) σ1) 10 0 4 := rfl
    -- a wrong end, whichever
    have keep : ∀ tW : MSto, agO [13050, 13054, 13055, 13056, 13057, 52000, 53000, 54000, 55000, 56000, 57000, 58000] τ1 tW → (∀ a x, 52 ≤ a ∧ a < 61 → x ≠ S → gI tW a 0 x = gI τ1 a 0 x) → gI tW 13 0 49 = 0 → Cpl (sI (e_St_read (gN σ 9) σ1) 10 0 1 0) tW := fun tW wW mW h49 => by
      refine st_keep h1 (agO_sI rfl wR) wW (fun y f hy hf => ?_) (fun a x ha hx => mW a x ha (by rw [eS]; exact hx)) ?_ (by rw [gI_sI, if_pos ⟨rfl, rfl, rfl⟩]) h49
      · rw [gI_sI, if_neg (fun z => absurd z.1 (by decide))]; exact c9 y f hy hf
      · show gN σ 9 ≤ gN (e_St_read (gN σ 9) σ1) 9
        omega
    have pM : vp_in (nI S) 6 ∧ vp_in (nI S) 6 ∧ vp_in (nI S) 6 ∧ vp_in (nI S) 6 ∧ gj_M_story_j68 (nI S) 0 t0 := ⟨vS, vS, vS, vS, m3⟩
    unfold vj_M_story_j217 ej_M_story_j217 vj_M_story_j275 ej_M_story_j275
    rcases hE with ⟨p, hk, r, gG, g0⟩ | ⟨w, y1, y2⟩
    · have n56 : gI tF 13 0 56 = -1 := r.2.2.2.2.1
      have n55 : gI tF 13 0 55 = nI p := r.2.2.2.2.2.2
      have hp80 : p ≤ 80 := by have := r.2.2.1; omega
      rcases cu_fin r with ⟨f1, f2, f3⟩ | ⟨f1, f2, f3⟩
      · have f2 : e_Te_finish 40 s' = s' := f2
        have eR : e_St_read (gN σ 9) σ1 = s' := c1.trans f2
        have n4 : gI (sI (e_St_read (gN σ 9) σ1) 10 0 1 0) 10 0 4 = -1 := by rw [g4, eR]; exact r.2.2.2.1
        rw [if_neg (isRight_1 n4), if_neg (isRight_1 n4), if_pos f3, if_pos f3, if_pos n56, if_pos n56, nI_cl (i := S) (by omega)]
        obtain ⟨sc, esc⟩ : ∃ s, s = sI (e_St_read (gN σ 9) σ1) 10 0 1 0 := ⟨_, rfl⟩
        rw [← esc] at n4 ⊢
        have wsc : agO [9000, 9001, 9002, 9003, 9004, 9005, 9006, 9007, 9008, 9009, 9999, 10002, 10003, 10004, 10005] σ sc := by rw [esc]; exact agO_sI rfl wR
        have lsc : gI sc 15 0 2 = nI S := (wsc.i (k := 15) (i := 0) (j := 2) rfl).trans hl
        have i17 : gI (sI (sI tF 59 0 S (nI kF)) 60 0 S 1) 13 0 17 + 1 = nI (S + 1) := by
          rw [gI_sI, if_neg (fun z => absurd z.1 (by decide)), gI_sI, if_neg (fun z => absurd z.1 (by decide)), t17, nI_s]
        rw [i17]
        refine ⟨fun _ => ⟨c2, fun _ => pc_add lsc (by omega)⟩, fun _ => pM, ?_, ?_⟩
        · show gI (e_AL_add 15 0 9 (gN σ 9) sc) 15 0 2 - 1 = nI S
          rw [sz_add lsc]
          exact pk_sub (a := S + 1) (b := 1) (by omega)
        · have wa := w_AL_add15 0 9 (gN σ 9) sc
          have aF : ∀ (y f : Nat), gI (e_AL_add 15 0 9 (gN σ 9) sc) 9 y f = gI s' 9 y f := fun y f => by
            have : gI (e_AL_add 15 0 9 (gN σ 9) sc) 9 y f = gI sc 9 y f := by
              unfold e_AL_add
              rw [gI_sI, if_neg (fun z => absurd z.1 (by decide))]
              show gI (sI sc 15 0 0 (gI sc 15 0 0 + 1)) 9 y f = _
              rw [gI_sI, if_neg (fun z => absurd z.1 (by decide))]
            rw [this, esc, gI_sI, if_neg (fun z => absurd z.1 (by decide)), eR]
          obtain ⟨tf, etf⟩ : ∃ t, t = sI (sI (sI tF 59 0 S (nI kF)) 60 0 S 1) 13 0 17 (nI (S + 1)) := ⟨_, rfl⟩
          rw [← etf]
          have wtf : agO [13018, 59000, 60000] tF tf := by rw [etf]; exact agO_sI rfl (agO_sI rfl (agO_sI rfl (agO_refl _ tF)))
          have x59 : gI tf 59 0 S = nI kF := by
            rw [etf, gI_sI, if_neg (fun z => absurd z.1 (by decide)), gI_sI, if_neg (fun z => absurd z.1 (by decide)), gI_sI, if_pos ⟨rfl, rfl, rfl⟩]
          have x60 : gI tf 60 0 S = 1 := by
            rw [etf, gI_sI, if_neg (fun z => absurd z.1 (by decide)), gI_sI, if_pos ⟨rfl, rfl, rfl⟩]
          have x17 : gI tf 13 0 17 = nI (S + 1) := by rw [etf, gI_sI, if_pos ⟨rfl, rfl, rfl⟩]
          subst eS
          refine st_more (kF := kF) h1 hS5 hk ((wsc.mono rfl).step wa rfl) ((wT.mono rfl).step wtf rfl) (fun y f hy hf => ?_) (fun a x ha hx => ?_) ?_ ?_ ?_ (sz_add lsc) (fun i => ?_) x17 x59 x60 ?_ ?_
          · rw [aF, ← eR]; exact c9 y f hy hf
          · rw [etf, gI_sI, if_neg (fun z => by have := z.1; omega), gI_sI, if_neg (fun z => hx z.2.2), gI_sI, if_neg (fun z => hx z.2.2)]
            exact mA a x ha hx
          · rw [wa.n (k := 9) rfl, esc]; exact gNR
          · rw [wa.i rfl, esc, gI_sI, if_pos ⟨rfl, rfl, rfl⟩]
          · rw [wtf.i rfl]; exact t49
          · rw [eL_add lsc (by omega)]
            by_cases q : i = nM τ1 17
            · rw [if_pos q, if_pos q]
            · rw [if_neg q, if_neg q, wsc.r rfl]
          · rw [aF]; exact g0
          · unfold stG
            rw [aF, aF, aF, aF, aF, aF, aF, aF, wtf.i rfl, wtf.i rfl, wtf.i rfl, wtf.i rfl, wtf.i rfl, wtf.i rfl, wtf.i rfl]
            exact gG
      · have f2 : e_Te_finish 40 s' = sI s' 10 0 4 (nI p) := f2
        have eR : e_St_read (gN σ 9) σ1 = sI s' 10 0 4 (nI p) := c1.trans f2
        have e4 : gI (sI (e_St_read (gN σ 9) σ1) 10 0 1 0) 10 0 4 = nI p := by rw [g4, eR, gI_sI, if_pos ⟨rfl, rfl, rfl⟩]
        have n4 : ¬ gI (sI (e_St_read (gN σ 9) σ1) 10 0 1 0) 10 0 4 = -1 := by rw [e4]; exact nI_n1 (by omega)
        have ef : e_M_fault (gI tF 13 0 55) tF = sI tF 13 0 56 (nI p) := by rw [n55]; exact if_pos n56
        have nm : ¬ gI (sI tF 13 0 56 (nI p)) 13 0 56 = -1 := by rw [gI_sI, if_pos ⟨rfl, rfl, rfl⟩]; exact nI_n1 (by omega)
        rw [if_pos (isRight_0 n4), if_pos (isRight_0 n4), if_neg f3, if_neg f3, ef, if_neg nm, if_neg nm, e4]
        refine ⟨fun _ => ⟨c2, fun c => absurd (isRight_0 n4) c⟩, fun _ => pM, rfl, keep _ (agO_sI rfl wT) (fun a x ha hx => ?_) ?_⟩
        · rw [gI_sI, if_neg (fun z => by have := z.1; omega)]; exact mA a x ha hx
        · rw [gI_sI, if_neg (fun z => absurd z.2.2 (by decide))]; exact t49
    · have eR : e_St_read (gN σ 9) σ1 = s' := c1.trans (cW_fin y1 40)
      have e4 : gI (sI (e_St_read (gN σ 9) σ1) 10 0 1 0) 10 0 4 = nI w := by rw [g4, eR]; exact y1.2.2.1
      have n4 : ¬ gI (sI (e_St_read (gN σ 9) σ1) 10 0 1 0) 10 0 4 = -1 := by rw [e4]; exact nI_m1 w y1.2.1
      have nm : ¬ gI tF 13 0 56 = -1 := by rw [y2.2.1]; exact nI_m1 w y1.2.1
      have ef : e_M_fault (gI tF 13 0 55) tF = tF := if_neg nm
      rw [if_pos (isRight_0 n4), if_pos (isRight_0 n4), ef, if_neg nm, if_neg nm, e4, y2.2.1]
      refine ⟨fun _ => ⟨c2, fun c => absurd (isRight_0 n4) c⟩, fun _ => pM, ?_, ?_⟩
      · split <;> rfl
      · have := keep tF wT mA t49
        split <;> exact this

