/-! story: both readers, as calls -/
theorem st_M {S n kF : Nat} {b : Int32} {t0 tF : MSto} (hS : S < 6) (hn : n ≤ 6) (hb : (gI t0 13 0 53 ≤ 0 ∧ b = 0) ∨ (¬ gI t0 13 0 53 ≤ 0 ∧ b = 1)) (hg : ∀ i, i < n → g_M_story_82 (nI S) (f_M_story_82 (nI S) (0, b, t0) i) ∧ ¬ q_M_story_82s (nI S) (f_M_story_82 (nI S) (0, b, t0) i) = 1) (hq : q_M_story_82s (nI S) (f_M_story_82 (nI S) (0, b, t0) n) = 1) (hT : stT S (f_M_story_82 (nI S) (0, b, t0) n) kF tF) : vj_M_story_j68 (nI S) 0 t0 = vj_M_story_j217 (nI S) (nI kF) tF ∧ ej_M_story_j68 (nI S) 0 t0 = ej_M_story_j217 (nI S) (nI kF) tF ∧ gj_M_story_j68 (nI S) 0 t0 := by
  have nn : n_M_story_82 (nI S) (0, b, t0) = n := leastN_eq (P := fun i => q_M_story_82s (nI S) (f_M_story_82 (nI S) (0, b, t0) i) = 1) (fun i hi => (hg i hi).2) hq (by omega)
  have tv : ∀ X : Int32 × Int32 × MSto, stT S X kF tF → (if X.2.1 = 0 then vj_M_story_j217 (nI S) X.1 X.2.2 else (if v_M_here X.2.2 = 119 then vj_M_story_j151 (nI S) X.1 1 X.2.2 else if v_M_here X.2.2 = 115 then vj_M_story_j151 (nI S) X.1 2 X.2.2 else if v_M_here X.2.2 = 109 then vj_M_story_j151 (nI S) X.1 4 X.2.2 else if v_M_here X.2.2 = 100 then vj_M_story_j151 (nI S) X.1 8 X.2.2 else if v_M_here X.2.2 = 104 then vj_M_story_j151 (nI S) X.1 16 X.2.2 else vj_M_story_j151 (nI S) X.1 0 X.2.2)) = vj_M_story_j217 (nI S) (nI kF) tF := fun X h => by
    rcases h with ⟨a, c, d⟩ | ⟨a, c, -, -, -, -⟩
    · rw [if_pos a, c, d]
    · rw [if_neg a]
      exact (mchain (fun y => vj_M_story_j151 (nI S) X.1 y X.2.2) (v_M_here X.2.2)).trans c
  have te : ∀ X : Int32 × Int32 × MSto, stT S X kF tF → (if X.2.1 = 0 then ej_M_story_j217 (nI S) X.1 X.2.2 else (if v_M_here X.2.2 = 119 then ej_M_story_j151 (nI S) X.1 1 X.2.2 else if v_M_here X.2.2 = 115 then ej_M_story_j151 (nI S) X.1 2 X.2.2 else if v_M_here X.2.2 = 109 then ej_M_story_j151 (nI S) X.1 4 X.2.2 else if v_M_here X.2.2 = 100 then ej_M_story_j151 (nI S) X.1 8 X.2.2 else if v_M_here X.2.2 = 104 then ej_M_story_j151 (nI S) X.1 16 X.2.2 else ej_M_story_j151 (nI S) X.1 0 X.2.2)) = ej_M_story_j217 (nI S) (nI kF) tF := fun X h => by
    rcases h with ⟨a, c, d⟩ | ⟨a, -, c, -, -, -⟩
    · rw [if_pos a, c, d]
    · rw [if_neg a]
      exact (mchain (fun y => ej_M_story_j151 (nI S) X.1 y X.2.2) (v_M_here X.2.2)).trans c
  have tg : ∀ X : Int32 × Int32 × MSto, stT S X kF tF → (X.2.1 = 0 → gj_M_story_j217 (nI S) X.1 X.2.2) ∧ (¬ X.2.1 = 0 → p_M_here X.2.2 ∧ ((v_M_here X.2.2 = 119 → gj_M_story_j151 (nI S) X.1 1 X.2.2) ∧ (¬ v_M_here X.2.2 = 119 → (v_M_here X.2.2 = 115 → gj_M_story_j151 (nI S) X.1 2 X.2.2) ∧ (¬ v_M_here X.2.2 = 115 → (v_M_here X.2.2 = 109 → gj_M_story_j151 (nI S) X.1 4 X.2.2) ∧ (¬ v_M_here X.2.2 = 109 → (v_M_here X.2.2 = 100 → gj_M_story_j151 (nI S) X.1 8 X.2.2) ∧ (¬ v_M_here X.2.2 = 100 → (v_M_here X.2.2 = 104 → gj_M_story_j151 (nI S) X.1 16 X.2.2) ∧ (¬ v_M_here X.2.2 = 104 → gj_M_story_j151 (nI S) X.1 0 X.2.2))))))) := fun X h => by
    refine ⟨fun _ => g217 hS _ _, fun c => ?_⟩
    rcases h with ⟨a, -, -⟩ | ⟨-, -, -, g, ph, -⟩
    · exact absurd a c
    · exact ⟨ph, gchain (G := fun y => gj_M_story_j151 (nI S) X.1 y X.2.2) g⟩
  unfold vj_M_story_j68 ej_M_story_j68 gj_M_story_j68
  rcases hb with ⟨h1, rfl⟩ | ⟨h1, rfl⟩
  · rw [if_pos h1, if_pos h1, nn]
    exact ⟨tv _ hT, te _ hT, fun _ => ⟨hg, tg _ hT⟩, fun c => absurd h1 c⟩
  · rw [if_neg h1, if_neg h1, nn]
    exact ⟨tv _ hT, te _ hT, fun c => absurd c h1, fun _ => ⟨hg, tg _ hT⟩⟩
theorem st_C {q n : Nat} {b : Int32} {s0 sB s' : MSto} (eB : sB = e_Te_begin 40 s0) (hn : n ≤ 6) (hb : (gI sB 10 0 1 ≤ 0 ∧ b = 0) ∨ (¬ gI sB 10 0 1 ≤ 0 ∧ b = 1)) (hg : ∀ i, i < n → g_St_read_21 q (0 + nI i) (f_St_read_21 q 0 (b, sB) i) ∧ ¬ q_St_read_21s q (0 + nI i) (f_St_read_21 q 0 (b, sB) i) = 1) (hq : f_St_read_21 q 0 (b, sB) n = (0, s')) : e_St_read q s0 = e_Te_finish 40 s' ∧ p_St_read q s0 := by
  have st : q_St_read_21s q (0 + nI n) (f_St_read_21 q 0 (b, sB) n) = 1 := by
    rw [hq]
    unfold q_St_read_21s
    split
    · rfl
    · exact if_pos rfl
  have nn : n_St_read_21 q 0 (b, sB) = n := leastN_eq (P := fun i => q_St_read_21s q (0 + nI i) (f_St_read_21 q 0 (b, sB) i) = 1) (fun i hi => (hg i hi).2) st (by omega)
  unfold e_St_read p_St_read
  rw [← eB]
  rcases hb with ⟨h1, rfl⟩ | ⟨h1, rfl⟩
  · rw [if_pos h1, nn, hq]
    exact ⟨rfl, fun _ => ⟨hg, fun _ c => absurd rfl c⟩, fun c => absurd h1 c⟩
  · rw [if_neg h1, nn, hq]
    exact ⟨rfl, fun c => absurd c h1, fun _ => ⟨hg, fun _ c => absurd rfl c⟩⟩
/-- both read a story: the stores behind it -/
theorem st_read {tx : Nat → Nat} {Z q S : Nat} {s00 t0 : MSto} (hS : S < 6) (hZ : Z = 0 ∨ 0 < Z) (h0 : stH tx Z q S 0 0 (e_Te_begin 40 s00) t0) : ∃ s' tF kF, e_St_read q s00 = e_Te_finish 40 s' ∧ p_St_read q s00 ∧ vj_M_story_j68 (nI S) 0 t0 = vj_M_story_j217 (nI S) (nI kF) tF ∧ ej_M_story_j68 (nI S) 0 t0 = ej_M_story_j217 (nI S) (nI kF) tF ∧ gj_M_story_j68 (nI S) 0 t0 ∧ stE tx Z q S kF s' tF ∧ (∀ i f, i ≠ q → f < 9 → gI s' 9 i f = gI (e_Te_begin 40 s00) 9 i f) ∧ (∀ a x, 14 ≤ a ∧ a < 100 → x ≠ S → gI tF a 0 x = gI t0 a 0 x) ∧ agO [13056, 13057, 52000, 53000, 54000, 55000, 56000, 57000, 58000] t0 tF := by
  have hl : gI (e_Te_begin 40 s00) 10 0 1 = nI Z := h0.2.1.1.1
  have h53 : gI t0 13 0 53 = nI Z := h0.2.1.2.1.1
  have hZ80 := h0.2.1.2.1.2.2.2.1
  rcases hZ with z | z
  · have l0 : gI (e_Te_begin 40 s00) 10 0 1 ≤ 0 := by rw [hl, z]; decide
    have m0 : gI t0 13 0 53 ≤ 0 := by rw [h53, z]; decide
    obtain ⟨c1, c2⟩ := st_C (q := q) (n := 0) (s' := e_Te_begin 40 s00) rfl (by omega) (Or.inl ⟨l0, rfl⟩) (fun i hi => absurd hi (by omega)) rfl
    obtain ⟨m1, m2, m3⟩ := st_M (S := S) (n := 0) (kF := 0) (tF := t0) hS (by omega) (Or.inl ⟨m0, rfl⟩) (fun i hi => absurd hi (by omega)) (if_pos rfl) (Or.inl ⟨rfl, rfl, rfl⟩)
    exact ⟨_, t0, 0, c1, c2, m1, m2, m3, Or.inl ⟨0, h0⟩, fun _ _ _ _ => rfl, fun _ _ _ _ => rfl, agO_refl _ _⟩
  · have l0 : ¬ gI (e_Te_begin 40 s00) 10 0 1 ≤ 0 := by rw [hl]; exact (show ¬ nI Z ≤ nI 0 from nI_ge z (by omega))
    have m0 : ¬ gI t0 13 0 53 ≤ 0 := by rw [h53]; exact (show ¬ nI Z ≤ nI 0 from nI_ge z (by omega))
    obtain ⟨N, n, s', tF, kF, hN, hn, gC, eC, gM, qM, hT, hE⟩ := st_run hS h0
    obtain ⟨c1, c2⟩ := st_C (q := q) (n := N + 1) (s' := s') rfl (by omega) (Or.inr ⟨l0, rfl⟩) (fun i hi => gC i (by omega)) eC
    obtain ⟨m1, m2, m3⟩ := st_M hS hn (Or.inr ⟨m0, rfl⟩) gM qM hT
    have eC2 : s' = (f_St_read_21 q 0 (1, e_Te_begin 40 s00) (N + 1)).2 := by
      have : f_St_read_21 q 0 (1, e_Te_begin 40 s00) (N + 1) = (0, s') := eC
      rw [this]
    have kM : ∀ a x, 14 ≤ a ∧ a < 100 → x ≠ S → gI tF a 0 x = gI t0 a 0 x := fun a x ha hx => by
      have k0 := kM_loop hS ha hx (0, 1, t0) n
      rcases hT with ⟨-, -, e⟩ | ⟨-, -, -, -, -, e⟩
      · rw [← e]; exact k0
      · rw [e, kM_i ((w_M_fault _ _).mono rfl) ha x]; exact k0
    have wM : agO [13056, 13057, 52000, 53000, 54000, 55000, 56000, 57000, 58000] t0 tF := by
      have k0 := w_82 (S := S) (0, 1, t0) n
      rcases hT with ⟨-, -, e⟩ | ⟨-, -, -, -, -, e⟩
      · rw [← e]; exact k0
      · rw [e]; exact agO.step k0 (w_M_fault _ _) rfl
    exact ⟨s', tF, kF, c1, c2, m1, m2, m3, hE, fun i f hi hf => by rw [eC2]; exact k9_loop hi hf 1 _ (N + 1), kM, wM⟩

