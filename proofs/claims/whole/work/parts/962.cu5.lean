/-! curve, both -/
theorem rd_begin {σ τ : MSto} (h : Cpl σ τ) {E : Nat} (hE : E ≤ 80) : ∃ tx, rR tx (nM τ 49) E 0 (e_Te_begin (nI E) σ) (e_M_begin (nI E) τ) := by
  obtain ⟨x1, x2, x3⟩ := h.x
  have hZ := x2.2
  have ch : ∀ j, j < nM τ 49 → ∃ c, c < 256 ∧ gI σ 33 0 j = nI c := fun j hj => by
    obtain ⟨a, b, -⟩ := x3 j hj
    obtain ⟨c, e, hc⟩ := nat_rg (b := 255) ⟨a, b⟩ (by decide)
    exact ⟨c, by omega, e⟩
  have tx : ∀ j, ∃ c, j < nM τ 49 → c < 256 ∧ gI σ 33 0 j = nI c := fun j => by
    by_cases hj : j < nM τ 49
    · obtain ⟨c, h⟩ := ch j hj; exact ⟨c, fun _ => h⟩
    · exact ⟨0, fun q => absurd q hj⟩
  refine ⟨fun j => Classical.choose (tx j), ?_⟩
  have htx : ∀ j, j < nM τ 49 → Classical.choose (tx j) < 256 ∧ gI σ 33 0 j = nI (Classical.choose (tx j)) := fun j => Classical.choose_spec (tx j)
  have e10 : gI σ 10 0 1 = nI (nM τ 49) := x1.trans x2.1
  have mn : v_Ma_min (nI (nM τ 49)) (nI E) (sI σ 10 0 2 0) = nI (min (nM τ 49) E) := by
    unfold v_Ma_min
    by_cases g : E < nM τ 49
    · rw [if_pos ((ltN (by omega) (by omega)).mpr g)]; congr 1; omega
    · rw [if_neg (fun q => g ((ltN (by omega) (by omega)).mp q))]; congr 1; omega
  have b3 : gI (e_Te_begin (nI E) σ) 10 0 3 = v_Ma_min (gI σ 10 0 1) (nI E) (sI σ 10 0 2 0) := rfl
  refine ⟨⟨e10, ?_, by omega, hZ, fun j hj => ⟨(htx j hj).2, (htx j hj).1⟩⟩, ⟨x2.1, rfl, hE, hZ, fun j hj => ⟨?_, (htx j hj).1⟩⟩, by omega, rfl, rfl, rfl, rfl⟩
  · rw [b3, e10, mn]
  · show gI τ 77 0 j = _
    rw [(x3 j hj).2.2, (htx j hj).2]
theorem w_cuM (i : Nat) (y0 : Int32) (t : MSto) : agO [13056, 13057, 79000, 80000] t (cuM i y0 t) := agO_sI rfl (((agO_sI (W := [13056, 13057, 79000, 80000]) rfl ((w_M_number y0 199 t).mono rfl)).step (w_M_need 58 _) rfl).step (w_M_number 0 999 _) rfl)
theorem w_t13 (c : Int32) (t : MSto) : agO [13056, 13057, 79000, 80000] t (t_M_curve_13 c t) := by
  have J : ∀ y0, agO [13056, 13057, 79000, 80000] t (tj_M_curve_13j37 c y0 c t t) := fun y0 => by
    unfold tj_M_curve_13j37 tj_M_curve_13j64
    split
    · exact agO_refl _ t
    · exact (w_cuM c.toNatClampNeg y0 t).step (w_M_passes 59 _) rfl
  unfold t_M_curve_13
  split
  · exact J _
  · exact J _
theorem w_f13 (t0 : MSto) : ∀ n, agO [13056, 13057, 79000, 80000] t0 (f_M_curve_13 0 t0 n)
  | 0 => agO_refl _ t0
  | n + 1 => (w_f13 t0 n).step (w_t13 _ _) rfl
/-- the reference at the end of its loop -/
theorem cu_M {tx : Nat → Nat} {Z : Nat} {τ s0 : MSto} {N : Nat} {s' t3 : MSto} (hN : N ≤ 15) (hq : ∀ i, i < N → ¬ q_M_curve_13s (nI i) (f_M_curve_13 0 (e_M_begin 60 (sI τ 13 0 52 0)) i) = 1) (hg : ∀ i, i ≤ N → g_M_curve_13 (nI i) (f_M_curve_13 0 (e_M_begin 60 (sI τ 13 0 52 0)) i)) (hS : cuS tx Z s0 (e_M_begin 60 (sI τ 13 0 52 0)) N s' t3) : v_M_curve τ = vj_M_curve_j64 (nI N) t3 ∧ e_M_curve τ = ej_M_curve_j64 (nI N) t3 ∧ (gj_M_curve_j64 (nI N) t3 → p_M_curve τ) := by
  obtain ⟨hqN, e3, ⟨g1, g2, g3⟩, -, -, -⟩ := hS
  unfold v_M_curve e_M_curve p_M_curve
  generalize e_M_begin 60 (sI τ 13 0 52 0) = t0 at hq hg hqN e3 g1 g2 g3 ⊢
  have nn : n_M_curve_13 0 t0 = N := leastN_eq (P := fun i => q_M_curve_13s (0 + nI i) (f_M_curve_13 0 t0 i) = 1) (fun i hi => by rw [z_nI]; exact hq i hi) (by rw [z_nI]; exact hqN) (by omega)
  rw [nn, z_nI]
  have gl : ∀ i, i < N → g_M_curve_13 (0 + nI i) (f_M_curve_13 0 t0 i) ∧ ¬ q_M_curve_13s (0 + nI i) (f_M_curve_13 0 t0 i) = 1 := fun i hi => by
    rw [z_nI]; exact ⟨hg i (by omega), hq i hi⟩
  have v6 : vp_in (nI N) 60 := nI_inb (by omega) (by decide)
  generalize f_M_curve_13 0 t0 N = tN at e3 g1 g2 g3 ⊢
  unfold vj_M_curve_j37 ej_M_curve_j37 gj_M_curve_j37
  rw [nI_cl (i := N) (by omega)]
  by_cases e : N = 0
  · have i0 : nI N = 0 := by rw [e]; rfl
    have el : cuL N tN = 0 := if_pos e
    rw [el] at e3 g1 g2 g3
    rw [if_pos i0, if_pos i0]
    unfold cuM at e3
    rw [← e3]
    exact ⟨rfl, rfl, fun pp => ⟨gl, fun _ => ⟨g1, v6, g2, g3, v6, pp⟩, fun c => absurd i0 c⟩⟩
  · have i0 : ¬ nI N = 0 := fun c => e ((nI_eq (b := 0) (by omega) (by decide)).mp c)
    have ei : nI N - 1 = nI (N - 1) := pk_sub (b := 1) (by omega)
    have el : gI tN 79 0 (N - 1) + 1 = cuL N tN := (if_neg e).symm
    rw [if_neg i0, if_neg i0, ei, nI_cl (i := N - 1) (by omega), el]
    unfold cuM at e3
    rw [← e3]
    exact ⟨rfl, rfl, fun pp => ⟨gl, fun c => absurd c i0, fun _ => ⟨nI_inb (by omega) (by decide), g1, v6, g2, g3, v6, pp⟩⟩⟩
theorem nI_m1 (w : Nat) (hw : w ≤ 80) : ¬ nI w = -1 := nI_n1 (by omega)
theorem isRight_1 {s : MSto} (h : gI s 10 0 4 = -1) : ¬ v_Te_isRight s = 0 := by
  unfold v_Te_isRight b_Te_isRight
  rw [if_pos h]
  exact bn trivial
theorem isRight_0 {s : MSto} (h : ¬ gI s 10 0 4 = -1) : v_Te_isRight s = 0 := by
  unfold v_Te_isRight b_Te_isRight
  rw [if_neg h]
  exact bz id
theorem T_curve {σ τ : MSto} (h : Cpl σ τ) : p_C_curve σ ∧ p_M_curve τ ∧ v_C_curve σ = v_M_curve τ ∧ Cpl (e_C_curve σ) (e_M_curve τ) := by
  have h1 := h.e0
  obtain ⟨tx, r0⟩ := rd_begin h1 (E := 60) (by decide)
  have r0 : rR tx (nM (sI τ 13 0 52 0) 49) 60 0 (e_Te_begin 60 σ) (e_M_begin 60 (sI τ 13 0 52 0)) := r0
  obtain ⟨N, s', t3, hN, hq, hg, hS⟩ := cu_run r0
  obtain ⟨c1, c2, c3⟩ := cu_C hN (fun i hi => (hg i hi).2) hS
  obtain ⟨m1, m2, m3⟩ := cu_M hN hq (fun i hi => (hg i hi).1) hS
  have hZ := r0.2.1.2.2.2.1
  -- what stays
  have ws : agO [10003, 10004, 10005, 36000, 37000] σ s' := by
    rw [← c2]; exact ((w_Te_begin 60 σ).mono rfl).step (w_Cu_readPoints _) rfl
  have wt : agO [13050, 13053, 13054, 13055, 13056, 13057, 79000, 80000] τ t3 := by
    rw [hS.2.1]
    exact (((agO_sI (W := [13050, 13053, 13054, 13055, 13056, 13057, 79000, 80000]) rfl (agO_refl _ τ)).step (w_M_begin 60 _) rfl).step (w_f13 _ N) rfl).step (w_cuM _ _ _) rfl
  have t49 : gI t3 13 0 49 = 0 := by
    rw [hS.2.1, (w_cuM _ _ _).i rfl, (w_f13 _ N).i rfl]; rfl
  obtain ⟨-, -, -, ⟨pp1, pp2, pp3⟩, -, o⟩ := hS
  -- a wrong end
  have wrongEnd : ∀ (sf tf : MSto) (W V : List Nat), agO [10003, 10004, 10005, 36000, 37000] σ sf → agO [13050, 13053, 13054, 13055, 13056, 13057, 79000, 80000] τ tf → gI sf 10 0 1 = nI (nM (sI τ 13 0 52 0) 49) → gI tf 13 0 49 = 0 → Cpl (e_Te_cut 0 sf) tf := by
    intro sf tf W V hs ht hl h49
    have ec : e_Te_cut 0 sf = sI sf 10 0 1 0 := by
      unfold e_Te_cut
      rw [if_neg (by decide), hl, if_pos (nI_pos' (by omega))]
    rw [ec]
    have n0 : nM tf 49 = 0 := by unfold nM; rw [h49]; rfl
    refine Cpl.upd (W := [10002, 10003, 10004, 10005, 36000, 37000]) (V := [13050, 13053, 13054, 13055, 13056, 13057, 79000, 80000]) h (agO_sI rfl (hs.mono rfl)) ht rfl (iM.upd h.m ht (Or.inl rfl) (Or.inl rfl) (Or.inl rfl) (Or.inl rfl) (Or.inl rfl) (Or.inl rfl) (Or.inl rfl) (Or.inl rfl) (Or.inl rfl) (Or.inl rfl) (Or.inl rfl) (Or.inl rfl) (Or.inl rfl) (Or.inl rfl)) (Or.inl rfl) (Or.inl rfl) (Or.inl rfl) (Or.inl rfl) (Or.inl rfl) (Or.inl rfl) (Or.inl rfl) (Or.inl rfl) (Or.inl rfl) (Or.inl rfl) (Or.inl rfl) (Or.inl rfl) (Or.inl rfl) (Or.inl rfl) (Or.inl rfl) (Or.inr ⟨?_, ⟨?_, ?_⟩, fun j hj => ?_⟩)
    · rw [h49, gI_sI, if_pos ⟨rfl, rfl, rfl⟩]
    · rw [h49, n0]; rfl
    · rw [n0]; decide
    · rw [n0] at hj; exact absurd hj (by omega)
  unfold v_C_curve p_C_curve e_C_curve v_Cu_read p_Cu_read e_Cu_read
  rw [c1, c2, m1, m2]
  unfold vj_M_curve_j64 ej_M_curve_j64
  rw [pp2]
  rcases o with ⟨p', ys, vs, r, hP⟩ | ⟨w, w1, w2⟩
  · have hl : gI s' 10 0 1 = nI (nM (sI τ 13 0 52 0) 49) := r.1.1
    have n56 : gI t3 13 0 56 = -1 := r.2.2.2.2.1
    have n55 : gI t3 13 0 55 = nI p' := r.2.2.2.2.2.2
    have hp' : p' ≤ 80 := by have := r.2.2.1; omega
    have fM : ∀ x, e_M_fault x t3 = sI t3 13 0 56 x := fun x => if_pos n56
    rcases cu_fin r with ⟨f1, f2, f3⟩ | ⟨f1, f2, f3⟩
    · -- right
      have f2 : e_Te_finish 60 s' = s' := f2
      rw [f2, if_neg (isRight_1 r.2.2.2.1), if_neg (isRight_1 r.2.2.2.1), if_pos f3, if_pos f3, if_pos n56, if_pos n56, nI_s]
      have hB : ∀ j, j < N + 1 → ys j < 200 ∧ vs j < 1000 := fun j hj => (hP.1 j hj).2.2.2.2
      have aC : cuA 36 37 (sI s' 2 0 1 (nI (N + 1))) (N + 1) ys vs := fun j hj => ⟨(hP.1 j hj).1, (hP.1 j hj).2.1⟩
      have aM : cuA 79 80 (sI t3 13 0 1 (nI (N + 1))) (N + 1) ys vs := fun j hj => ⟨(hP.1 j hj).2.2.1, (hP.1 j hj).2.2.2.1⟩
      have C39 := cu_39 aC hB hP.2 (by omega) (by omega)
      have M117 := cu_117 aM hB hP.2 (by omega) (by omega)
      have n39 : n_Cu_read_39 (nI (N + 1)) 0 (sI s' 2 0 1 (nI (N + 1))) = 200 := rfl
      have n117 : n_M_curve_117 (nI (N + 1)) 0 (sI t3 13 0 1 (nI (N + 1))) = 200 := rfl
      rw [n39, n117]
      obtain ⟨⟨x1, x2⟩, -⟩ := C39 200 (Nat.le_refl _)
      obtain ⟨⟨y1, y2⟩, -⟩ := M117 200 (Nat.le_refl _)
      have eC : ∀ i, i < 200 → g_Cu_read_39 (nI (N + 1)) (0 + nI i) (f_Cu_read_39 (nI (N + 1)) 0 (sI s' 2 0 1 (nI (N + 1))) i) ∧ ¬ q_Cu_read_39s (nI (N + 1)) (0 + nI i) (f_Cu_read_39 (nI (N + 1)) 0 (sI s' 2 0 1 (nI (N + 1))) i) = 1 := fun i hi => (C39 i (by omega)).2 hi
      have eM : ∀ i, i < 200 → g_M_curve_117 (nI (N + 1)) (0 + nI i) (f_M_curve_117 (nI (N + 1)) 0 (sI t3 13 0 1 (nI (N + 1))) i) ∧ ¬ q_M_curve_117s (nI (N + 1)) (0 + nI i) (f_M_curve_117 (nI (N + 1)) 0 (sI t3 13 0 1 (nI (N + 1))) i) = 1 := fun i hi => (M117 i (by omega)).2 hi
      refine ⟨⟨c3, fun _ => ⟨eC, fun q => q (e_cnt l200)⟩⟩, m3 ?_, rfl, ?_⟩
      · unfold gj_M_curve_j64
        rw [pp2, nI_s, n117]
        exact ⟨pp3, fun _ => ⟨fun _ _ => ⟨eM, fun q => q (e_cnt l200)⟩, fun c => absurd f3 c⟩, fun c => c pp1⟩
      · generalize f_Cu_read_39 (nI (N + 1)) 0 (sI s' 2 0 1 (nI (N + 1))) 200 = sf at x1 x2 ⊢
        generalize f_M_curve_117 (nI (N + 1)) 0 (sI t3 13 0 1 (nI (N + 1))) 200 = tf at y1 y2 ⊢
        have ws' : agO [2002, 10003, 10004, 10005, 35000, 36000, 37000] σ sf := (agO_sI (W := [2002, 10003, 10004, 10005, 35000, 36000, 37000]) rfl (ws.mono rfl)).step x1 rfl
        have wt' : agO [13002, 13050, 13053, 13054, 13055, 13056, 13057, 41000, 79000, 80000] τ tf := (agO_sI (W := [13002, 13050, 13053, 13054, 13055, 13056, 13057, 41000, 79000, 80000]) rfl (wt.mono rfl)).step y1 rfl
        have l2 : gI sf 10 0 1 = nI (nM (sI τ 13 0 52 0) 49) := (x1.i rfl).trans hl
        have h49 : gI tf 13 0 49 = 0 := (y1.i rfl).trans t49
        have ec : e_Te_cut 0 sf = sI sf 10 0 1 0 := by
          unfold e_Te_cut
          rw [if_neg (by decide), l2, if_pos (nI_pos' (by omega))]
        rw [ec]
        have n0 : nM tf 49 = 0 := by unfold nM; rw [h49]; rfl
        refine Cpl.upd (W := [2002, 10002, 10003, 10004, 10005, 35000, 36000, 37000]) (V := [13002, 13050, 13053, 13054, 13055, 13056, 13057, 41000, 79000, 80000]) h (agO_sI rfl (ws'.mono rfl)) wt' rfl (iM.upd h.m wt' (Or.inl rfl) (Or.inr fun y hy => ?_) (Or.inl rfl) (Or.inl rfl) (Or.inl rfl) (Or.inl rfl) (Or.inl rfl) (Or.inl rfl) (Or.inl rfl) (Or.inl rfl) (Or.inl rfl) (Or.inl rfl) (Or.inl rfl) (Or.inl rfl)) (Or.inr fun y hy => ?_) (Or.inr ⟨?_, ?_, ?_⟩) (Or.inl rfl) (Or.inl rfl) (Or.inl rfl) (Or.inl rfl) (Or.inl rfl) (Or.inl rfl) (Or.inl rfl) (Or.inl rfl) (Or.inl rfl) (Or.inl rfl) (Or.inl rfl) (Or.inl rfl) (Or.inl rfl) (Or.inr ⟨?_, ⟨?_, ?_⟩, fun j hj => ?_⟩)
        · rw [y2 y hy]
          obtain ⟨k1', k2', k3'⟩ := k2_facts (ys := ys) (n := N + 1) (y := y)
          exact cv_rg hB hP.2 (by omega) k1' (by
            by_cases e : k2 ys (N + 1) y = 0
            · exact Or.inl e
            · exact Or.inr (k2' _ (by omega))) (fun q => Nat.le_of_lt (k3' q))
        · rw [gI_sI, if_neg (fun z => absurd z.1 (by decide)), x2 y hy, y2 y hy]
          exact cv_12 hB hP.2
        · rw [gI_sI, if_neg (fun z => absurd z.1 (by decide)), x1.i rfl, y1.i rfl, gI_sI, if_pos ⟨rfl, rfl, rfl⟩, gI_sI, if_pos ⟨rfl, rfl, rfl⟩]
        · rw [gI_sI, if_neg (fun z => absurd z.1 (by decide)), ws'.i rfl, wt'.i rfl]; exact h.b.2.1
        · rw [gI_sI, if_neg (fun z => absurd z.1 (by decide)), ws'.i rfl, wt'.i rfl]; exact h.b.2.2
        · rw [h49, gI_sI, if_pos ⟨rfl, rfl, rfl⟩]
        · rw [h49, n0]; rfl
        · rw [n0]; decide
        · rw [n0] at hj; exact absurd hj (by omega)
    · -- wrong at the end
      have f2 : e_Te_finish 60 s' = sI s' 10 0 4 (nI p') := f2
      have nw : ¬ gI (sI s' 10 0 4 (nI p')) 10 0 4 = -1 := by
        rw [gI_sI, if_pos ⟨rfl, rfl, rfl⟩]; exact nI_m1 p' hp'
      have nm : ¬ gI (sI t3 13 0 56 (nI p')) 13 0 56 = -1 := by
        rw [gI_sI, if_pos ⟨rfl, rfl, rfl⟩]; exact nI_m1 p' hp'
      rw [f2, if_pos (isRight_0 nw), if_pos (isRight_0 nw), if_neg f3, if_neg f3, n55, fM, if_neg nm, if_neg nm]
      refine ⟨⟨c3, fun q => absurd (isRight_0 nw) q⟩, m3 ?_, rfl, ?_⟩
      · unfold gj_M_curve_j64
        rw [pp2, n55, fM]
        rw [n55] at f3
        exact ⟨pp3, fun _ => ⟨fun c => absurd c f3, fun _ c => absurd c nm⟩, fun c => c pp1⟩
      · exact wrongEnd _ _ [] [] (agO_sI rfl ws) (agO_sI rfl wt) hl t49
  · have hl : gI s' 10 0 1 = nI (nM (sI τ 13 0 52 0) 49) := w1.1.1
    have nw : ¬ gI s' 10 0 4 = -1 := by rw [w1.2.2.1]; exact nI_m1 w w1.2.1
    have nm : ¬ gI t3 13 0 56 = -1 := by rw [w2.2.1]; exact nI_m1 w w1.2.1
    have fM : ∀ x, e_M_fault x t3 = t3 := fun x => if_neg nm
    rw [cW_fin w1, if_pos (isRight_0 nw), if_pos (isRight_0 nw), fM, if_neg nm, if_neg nm, w1.2.2.1, w2.2.1]
    refine ⟨⟨c3, fun q => absurd (isRight_0 nw) q⟩, m3 ?_, ?_, ?_⟩
    · unfold gj_M_curve_j64
      rw [pp2, fM]
      exact ⟨pp3, fun _ => ⟨fun _ c => absurd c nm, fun _ c => absurd c nm⟩, fun c => c pp1⟩
    · split <;> rfl
    · have := wrongEnd _ _ [] [] ws wt hl t49
      split <;> exact this

