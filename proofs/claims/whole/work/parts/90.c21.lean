/-! when, odds, first -/
theorem le_nlt {x : Int32} : x ≤ 0 ↔ ¬ 0 < x := Int32.not_lt.symm
theorem T_when {σ τ : MSto} (h : Cpl σ τ) (a b : Int32) : p_C_when a b σ ∧ p_M_when a b τ ∧ v_C_when a b σ = v_M_when a b τ ∧ Cpl σ (e_M_when a b τ) := by
  have h1 := h.e0
  unfold p_C_when p_M_when v_C_when v_M_when e_M_when
  generalize sI τ 13 0 52 0 = τ1 at h1 ⊢
  have hpc := pc_areCounted h1 b 1 4
  simp only [cp_isStory h1, cp_areCounted h1 b (lo := 1) (hi := 4) (by decide)]
  by_cases g : v_M_isStory a τ1 = 0
  · simp only [if_pos g]
    exact ⟨fun q => absurd g q, fun q => absurd g q, trivial, h1⟩
  · by_cases g1 : v_M_areCounted b 1 4 τ1 = 0
    · simp only [if_neg g, if_pos g1]
      exact ⟨fun _ => ⟨hpc, fun q => absurd g1 q⟩, fun _ q => absurd g1 q, trivial, h1⟩
    · simp only [if_neg g, if_neg g1]
      obtain ⟨s, hs, rfl⟩ := storyN h1 g
      obtain ⟨k, rfl, hk, -, hsub, -, h4'⟩ := areC h1.m g1
      have hk15 : pop k ≤ 15 := fb_ct_le _ _
      have h4 : pop k ≤ 4 := (leN (b := 4) (by omega) (by decide)).mp h4'
      have hS := h1.S6
      have vs : vp_in (nI s) 6 := nI_inb (by omega) (by decide)
      obtain ⟨y1, y2⟩ := cp_years h1 hs
      rw [al_v (by omega)]
      have get := al_p h1.lS (by omega) hs
      have PM : ∀ i, i < n_M_when_34 (nI s) (nI k) 0 τ1 (-2, 0) → g_M_when_34 (nI s) (nI k) (0 + nI i) τ1 (f_M_when_34 (nI s) (nI k) 0 τ1 (-2, 0) i) ∧ ¬ q_M_when_34s (nI s) (nI k) (0 + nI i) τ1 (f_M_when_34 (nI s) (nI k) 0 τ1 (-2, 0) i) = 1 := fun i hi => by
        have p := (cp_partOf h1 hs hsub h4 (yr_rg hi) (-1)).2.2.2
        rw [z_nI]
        refine ⟨fun _ => ⟨vs, fun _ => p, fun _ => ⟨vs, fun _ => p⟩⟩, ?_⟩
        unfold q_M_when_34s
        rw [if_neg (show ¬ (200 : Int32) ≤ nI i from nI_ge (b := 200) hi (by decide))]; decide
      by_cases gw : gI τ1 59 0 s &&& 1 = 0
      · obtain ⟨z1, z2⟩ := y1 gw
        rw [z1]
        have nn : n_C_when_45 (nI k) (eL σ 15 s) 0 σ (-2, 0) = 200 := by
          unfold n_C_when_45
          rw [z2]; rfl
        have F : ∀ n, n ≤ 200 → f_C_when_45 (nI k) (eL σ 15 s) 0 σ (-2, 0) n = f_M_when_34 (nI s) (nI k) 0 τ1 (-2, 0) n := by
          intro n
          induction n with
          | zero => exact fun _ => rfl
          | succ n ih =>
            intro hn
            obtain ⟨q1, q2, -, -⟩ := cp_partOf h1 hs hsub h4 (yr_rg (y := n) (by omega)) (-1)
            show t_C_when_45 (nI k) (eL σ 15 s) (0 + nI n) σ (f_C_when_45 (nI k) (eL σ 15 s) 0 σ (-2, 0) n) = t_M_when_34 (nI s) (nI k) (0 + nI n) τ1 (f_M_when_34 (nI s) (nI k) 0 τ1 (-2, 0) n)
            rw [ih (by omega)]
            generalize f_M_when_34 (nI s) (nI k) 0 τ1 (-2, 0) n = x
            unfold t_C_when_45 t_M_when_34
            rw [z2, z_nI, if_neg (show ¬ (199 : Int32) < nI n from nI_nlt (a := 199) (by omega) (by decide)), if_neg (show ¬ (200 : Int32) ≤ nI n from nI_ge (b := 200) (by omega) (by decide)), M_hasTerm (by omega), if_pos (bz (fun q => q gw)), q1, q2]
            by_cases c : 0 < lg_cmp (lN (pN τ1 s k (nI n) (-1))) x.2
            · rw [if_neg (fun q => le_nlt.mp q c), if_pos c]
            · rw [if_pos (le_nlt.mpr c), if_neg c]
        rw [nn, F 200 (by omega)]
        refine ⟨fun _ => ⟨hpc, fun _ => ⟨get, fun i hi => ⟨fun _ => ?_, ?_⟩, fun q => q (by rw [z2]; decide)⟩⟩, fun _ _ => ⟨PM, fun q => q (e_cnt l200)⟩, rfl, h1⟩
        · rw [z_nI]; exact (cp_partOf h1 hs hsub h4 (yr_rg hi) (-1)).2.2.1
        · unfold q_C_when_45s
          rw [z2, z_nI, if_neg (show ¬ (199 : Int32) < nI i from nI_nlt (a := 199) (by omega) (by decide))]; decide
      · obtain ⟨z1, z2, z3⟩ := y2 gw
        rw [z1]
        obtain ⟨Y, eY, hY⟩ := nat_rg (b := 199) z3 (by decide)
        obtain ⟨q1, q2, q3, -⟩ := cp_partOf h1 hs hsub h4 z3 (-1)
        have nn : n_C_when_45 (nI k) (eL σ 15 s) (gI τ1 52 0 s) σ (-2, 0) = 1 := by
          unfold n_C_when_45
          rw [z2]; omega
        have ad0 : gI τ1 52 0 s + nI 0 = gI τ1 52 0 s := Int32.add_zero _
        have eC : f_C_when_45 (nI k) (eL σ 15 s) (gI τ1 52 0 s) σ (-2, 0) 1 = if lg_cmp (lN (pN τ1 s k (gI τ1 52 0 s) (-1))) 0 ≤ 0 then (-2, 0) else (gI τ1 52 0 s, lN (pN τ1 s k (gI τ1 52 0 s) (-1))) := by
          show t_C_when_45 (nI k) (eL σ 15 s) (gI τ1 52 0 s + nI 0) σ (-2, 0) = _
          unfold t_C_when_45
          rw [ad0, z2, if_neg Int32.lt_irrefl, q1]
        have F : ∀ n, n ≤ 200 → f_M_when_34 (nI s) (nI k) 0 τ1 (-2, 0) n = if n ≤ Y then (-2, 0) else (if lg_cmp (lN (pN τ1 s k (gI τ1 52 0 s) (-1))) 0 ≤ 0 then (-2, 0) else (gI τ1 52 0 s, lN (pN τ1 s k (gI τ1 52 0 s) (-1)))) := by
          intro n
          induction n with
          | zero => intro _; rw [if_pos (Nat.zero_le _)]; rfl
          | succ n ih =>
            intro hn
            show t_M_when_34 (nI s) (nI k) (0 + nI n) τ1 (f_M_when_34 (nI s) (nI k) 0 τ1 (-2, 0) n) = _
            rw [ih (by omega)]
            unfold t_M_when_34
            rw [z_nI, if_neg (show ¬ (200 : Int32) ≤ nI n from nI_ge (b := 200) (by omega) (by decide)), M_hasTerm (by omega), if_neg (bn gw), nI_cl (by omega)]
            by_cases c : n = Y
            · have e : nI n = gI τ1 52 0 s := by rw [c, eY]
              rw [if_pos e, if_pos (by omega : n ≤ Y), if_neg (by omega : ¬ n + 1 ≤ Y), e, q2]
              by_cases d : 0 < lg_cmp (lN (pN τ1 s k (gI τ1 52 0 s) (-1))) 0
              · rw [if_pos d, if_neg (fun q => le_nlt.mp q d)]
              · rw [if_neg d, if_pos (le_nlt.mpr d)]
            · have e : ¬ nI n = gI τ1 52 0 s := by rw [eY]; exact fun q => c ((nI_eq (by omega) (by omega)).mp q)
              rw [if_neg e]
              by_cases d : n ≤ Y
              · rw [if_pos d, if_pos (by omega : n + 1 ≤ Y)]
              · rw [if_neg d, if_neg (by omega : ¬ n + 1 ≤ Y)]
        have F' : f_M_when_34 (nI s) (nI k) 0 τ1 (-2, 0) (n_M_when_34 (nI s) (nI k) 0 τ1 (-2, 0)) = _ := F 200 (by omega)
        rw [nn, eC, F', if_neg (by omega : ¬ 200 ≤ Y)]
        refine ⟨fun _ => ⟨hpc, fun _ => ⟨get, fun i hi => ?_, fun q => q ?_⟩⟩, fun _ _ => ⟨PM, fun q => q (e_cnt l200)⟩, rfl, h1⟩
        · have : i = 0 := by omega
          subst this
          rw [ad0]
          refine ⟨fun _ => q3, ?_⟩
          unfold q_C_when_45s
          rw [z2, if_neg Int32.lt_irrefl]; decide
        · rw [z2, eY, nI_add]; exact nI_lt (by omega) (by omega)
theorem cp_areFor {σ τ : MSto} (h : Cpl σ τ) (a : Int32) : v_C_areForStories a σ = bI (¬ v_M_areCounted a 1 4 τ = 0 ∧ ¬ gI τ 13 0 17 = 0) := by
  unfold v_C_areForStories b_C_areForStories
  refine bI_congr ?_
  have e : v_AL_isEmpty 15 0 σ = bI (gI τ 13 0 17 = 0) := by
    unfold v_AL_isEmpty
    rw [h.t.1]
  rw [cp_areCounted h a (lo := 1) (hi := 4) (by decide), e]
  by_cases g : v_M_areCounted a 1 4 τ = 0
  · rw [if_pos g]; exact ⟨fun q => q.elim, fun q => q.1 g⟩
  · rw [if_neg g]
    by_cases g1 : gI τ 13 0 17 = 0
    · rw [if_neg (bn g1)]; exact ⟨fun q => q.elim, fun q => q.2 g1⟩
    · rw [if_pos (bz g1)]; exact ⟨fun _ => ⟨g, g1⟩, fun _ => trivial⟩
def odR (σ τ : MSto) (i : Nat) (s t : MSto) : Prop := agO [8002, 38000] σ s ∧ agO [13052, 78000] τ t ∧ kR s t ∧ nM t 51 = 2 * i
theorem nI_nm1 {m : Nat} (h : m < 2 ^ 31) : ¬ nI m = -1 := fun q => absurd (show (0 : Int32) ≤ -1 from q ▸ nI_pos' h) (by decide)
theorem T_odds {σ τ : MSto} (h : Cpl σ τ) (a : Int32) : p_C_odds a σ ∧ p_M_odds a τ ∧ v_C_odds a σ = v_M_odds a τ ∧ Cpl (e_C_odds a σ) (e_M_odds a τ) := by
  have h1 := h.e0
  unfold p_C_odds p_M_odds v_C_odds v_M_odds e_C_odds e_M_odds p_C_areForStories
  generalize sI τ 13 0 52 0 = τ1 at h1 ⊢
  have hpc := pc_areCounted h1 a 1 4
  simp only [cp_areFor h1]
  by_cases g : v_M_areCounted a 1 4 τ1 = 0
  · have gf : ¬ (¬ v_M_areCounted a 1 4 τ1 = 0 ∧ ¬ gI τ1 13 0 17 = 0) := fun q => q.1 g
    simp only [if_pos g, if_pos (bz gf)]
    exact ⟨⟨hpc, fun q => absurd (bz gf) q⟩, fun q => absurd g q, trivial, h1⟩
  · by_cases g1 : gI τ1 13 0 17 = 0
    · have gf : ¬ (¬ v_M_areCounted a 1 4 τ1 = 0 ∧ ¬ gI τ1 13 0 17 = 0) := fun q => q.2 g1
      simp only [if_neg g, if_pos g1, if_pos (bz gf)]
      exact ⟨⟨hpc, fun q => absurd (bz gf) q⟩, fun _ q => absurd g1 q, trivial, h1⟩
    · have gf : ¬ v_M_areCounted a 1 4 τ1 = 0 ∧ ¬ gI τ1 13 0 17 = 0 := ⟨g, g1⟩
      simp only [if_neg g, if_neg g1, if_neg (bn gf)]
      obtain ⟨k, rfl, hk, -, hsub, -, h4'⟩ := areC h1.m g
      have hk15 : pop k ≤ 15 := fb_ct_le _ _
      have h4 : pop k ≤ 4 := (leN (b := 4) (by omega) (by decide)).mp h4'
      have hS := h1.S6
      have cS := h1.m.c.2.2.2.1.1
      obtain ⟨W, hW, pC, pM, hA, hc, hB⟩ := greatest h1 hsub h4 (-1)
      have wMs := w_M_weighStories (nI k) (-1) τ1
      obtain ⟨S, eS⟩ : ∃ S, S = nM τ1 17 := ⟨_, rfl⟩
      rw [← eS] at hW hA hB hS cS
      have sC : v_C_storyCount (e_C_greatestStory (nI k) (-1) σ) = nI S := by
        rw [cp_storyCount hc]; congr 1; rw [eS]; unfold nM; rw [wMs.i rfl]
      have sM : gI (e_M_weighStories (nI k) (-1) τ1) 13 0 17 = nI S := by rw [wMs.i rfl]; exact cS
      obtain ⟨s, es⟩ : ∃ s, s = e_C_greatestStory (nI k) (-1) σ := ⟨_, rfl⟩
      obtain ⟨t, et⟩ : ∃ t, t = e_M_weighStories (nI k) (-1) τ1 := ⟨_, rfl⟩
      rw [← es] at hA hc sC ⊢
      rw [← et] at hA hc sM ⊢
      have nS : nM t 17 = S := nM_set (by omega) sM
      rcases hB with ⟨e1, e2⟩ | ⟨m, hm, e1, e2, hpos⟩
      · rw [e1, e2]
        rw [if_pos (show (-1 : Int32) = -1 from rfl), if_pos (show (-1 : Int32) = -1 from rfl), if_neg (show ¬ (0 : Int32) ≤ -2 by decide), if_neg (show ¬ (0 : Int32) ≤ -2 by decide)]
        exact ⟨⟨hpc, fun _ => ⟨pC, fun q => absurd rfl q⟩⟩, fun _ _ => ⟨pM, fun q => absurd q (by decide)⟩, rfl, hc⟩
      · rw [e1, e2]
        have nm1 := nI_nm1 (m := m) (by omega)
        have np := nI_pos' (n := m) (by omega)
        simp only [if_neg nm1, if_pos np]
        -- the sum
        have nC30 : n_C_odds_30 (nI m) 0 s 0 = S := by unfold n_C_odds_30; rw [sC, nI_cl (by omega)]
        have nM43 : n_M_odds_43 (nI m) 0 t 0 = S := nS
        have FS : ∀ i, i ≤ S → f_C_odds_30 (nI m) 0 s 0 i = lN (fb_sm W i) ∧ f_M_odds_43 (nI m) 0 t 0 i = lN (fb_sm W i) := by
          intro i
          induction i with
          | zero => exact fun _ => ⟨rfl, rfl⟩
          | succ i ih =>
            intro hi
            obtain ⟨i1, i2⟩ := ih (by omega)
            constructor
            · show t_C_odds_30 (nI m) (0 + nI i) s (f_C_odds_30 (nI m) 0 s 0 i) = _
              unfold t_C_odds_30
              rw [i1, sC, z_nI, if_neg (nI_ge (by omega) (by omega)), nI_cl (by omega), (hA i (by omega)).1, lN_add, fb_sm_succ]
            · show t_M_odds_43 (nI m) (0 + nI i) t (f_M_odds_43 (nI m) 0 t 0 i) = _
              unfold t_M_odds_43
              rw [i2, sM, z_nI, if_neg (nI_ge (by omega) (by omega)), nI_cl (by omega), (hA i (by omega)).2, lN_add, fb_sm_succ]
        obtain ⟨FS1, FS2⟩ := FS S (Nat.le_refl _)
        rw [nC30, nM43, FS1, FS2]
        have hsum : fb_sm W S ≤ 6 * 1180980000000000 := Nat.le_trans (fb_sm_bound hW) (Nat.mul_le_mul_right _ hS)
        have hsp : 0 < fb_sm W S := by have := fb_sm_part W hm; omega
        obtain ⟨A, eA⟩ : ∃ A, A = lN (fb_sm W S) := ⟨_, rfl⟩
        have hA0 : 0 < A := by rw [eA]; exact lN_gt hsp (by omega)
        rw [← eA]
        have c0 := kR_clear s t
        obtain ⟨s0, es0⟩ : ∃ z, z = e_Ro_clear s := ⟨_, rfl⟩
        obtain ⟨t0, et0⟩ : ∃ z, z = sI t 13 0 51 0 := ⟨_, rfl⟩
        have n0 : nM t0 51 = 0 := by rw [et0]; exact rN_clear t
        rw [← es0, ← et0] at c0 ⊢
        have ws0 : agO [8002, 38000] s s0 := by rw [es0]; exact (w_Ro_clear s).mono rfl
        have wt0 : agO [13052, 78000] t t0 := by rw [et0]; exact agO_sI rfl (agO_refl _ t)
        have cnt : ∀ (u v : MSto), agO [8002, 38000] s0 u → agO [13052, 78000] t0 v → v_C_storyCount u = nI S ∧ gI v 13 0 17 = nI S ∧ ∀ j, j < S → gJ u 28 0 j = lN (W j) ∧ gJ v 85 0 j = lN (W j) := fun u v wu wv => by
          refine ⟨?_, ?_, fun j hj => ?_⟩
          · unfold v_C_storyCount v_AL_size at sC ⊢
            rw [wu.i rfl, ws0.i rfl]; exact sC
          · rw [wv.i rfl, wt0.i rfl]; exact sM
          · rw [wu.j rfl, ws0.j rfl, wv.j rfl, wt0.j rfl]; exact hA j hj
        obtain ⟨R, G⟩ := nfold3 (R := odR s0 t0) (G := fun i x => g_C_odds_65 (nI m) A (0 + nI i) x ∧ ¬ q_C_odds_65s (nI m) A (0 + nI i) x = 1) (K := fun i y => g_M_odds_76 (nI m) A (0 + nI i) y ∧ ¬ q_M_odds_76s (nI m) A (0 + nI i) y = 1) (f := fun i s => t_C_odds_65 (nI m) A (0 + nI i) s) (g := fun i s => t_M_odds_76 (nI m) A (0 + nI i) s) (a := s0) (b := t0) (N := S)
          ⟨agO_refl _ _, agO_refl _ _, c0, n0⟩ (fun i hi u v r => by
            obtain ⟨wu, wv, kr, hn⟩ := r
            obtain ⟨k1, k2, k3⟩ := cnt u v wu wv
            obtain ⟨k4, k5⟩ := k3 i hi
            have hWi := hW i hi
            have vi : vp_in (nI i) 6 := nI_inb (by omega) (by decide)
            obtain ⟨f1, f2, f3, f4⟩ := kR_frac kr (by omega) (u := lN (W i)) (d := A) (lN_mn (by omega)) hA0
            unfold t_C_odds_65 t_M_odds_76 g_C_odds_65 g_M_odds_76 q_C_odds_65s q_M_odds_76s
            rw [z_nI, k1, k2, if_neg (nI_ge hi (by omega)), if_neg (nI_ge hi (by omega)), nI_cl (by omega), k4, k5]
            exact ⟨⟨wu.step (w_Ro_addFraction _ _ _) rfl, wv.step (w_M_tellPart _ _ _) rfl, f1, by omega⟩, ⟨fun _ => ⟨vi, f2⟩, by rw [if_neg (nI_ge hi (by omega))]; decide⟩, fun _ => ⟨vi, f3⟩, by rw [if_neg (nI_ge hi (by omega))]; decide⟩) S (Nat.le_refl _)
        have nC65 : n_C_odds_65 (nI m) A 0 s0 = S := by unfold n_C_odds_65; rw [(cnt s0 t0 (agO_refl _ _) (agO_refl _ _)).1, nI_cl (by omega)]
        have nM76 : n_M_odds_76 (nI m) A 0 t0 = S := by
          unfold n_M_odds_76
          exact nM_set (by omega) (cnt s0 t0 (agO_refl _ _) (agO_refl _ _)).2.1
        rw [nC65, nM76]
        have R' : odR s0 t0 S (f_C_odds_65 (nI m) A 0 s0 S) (f_M_odds_76 (nI m) A 0 t0 S) := R
        obtain ⟨wu, wv, kr, -⟩ := R'
        obtain ⟨k1, k2, -⟩ := cnt _ _ wu wv
        refine ⟨⟨hpc, fun _ => ⟨pC, fun _ => ⟨fun i hi => ⟨fun _ => ?_, q_cnt sC (by omega) hi⟩, fun _ => ⟨fun i hi => (G i hi).1, fun q => q ?_⟩, fun q => q (e_cnt sC)⟩⟩⟩, fun _ _ => ⟨pM, fun _ => ⟨fun i hi => ⟨fun _ => ?_, q_cnt sM (by omega) hi⟩, fun _ => ⟨fun i hi => (G i hi).2, fun q => q ?_⟩, fun q => q (e_cnt sM)⟩⟩, trivial, hc.mvR (ws0.trans wu) (wt0.trans wv) rfl rfl kr⟩
        · rw [z_nI]; exact nI_inb (by omega) (by decide)
        · exact e_cnt k1
        · rw [z_nI]; exact nI_inb (by omega) (by decide)
        · exact e_cnt k2
def fiR (σ τ : MSto) (i : Nat) (s t : MSto) : Prop := i ≤ nM τ 27 ∧ agO [28000] σ s ∧ agO [85000] τ t
theorem T_first {σ τ : MSto} (h : Cpl σ τ) (a : Int32) : p_C_first a σ ∧ p_M_first a τ ∧ v_C_first a σ = v_M_first a τ ∧ Cpl (e_C_first a σ) (e_M_first a τ) := by
  have h1 := h.e0
  unfold p_C_first p_M_first v_C_first v_M_first e_C_first e_M_first p_C_areForStories
  generalize sI τ 13 0 52 0 = τ1 at h1 ⊢
  have hpc := pc_areCounted h1 a 1 4
  simp only [cp_areFor h1]
  by_cases g : v_M_areCounted a 1 4 τ1 = 0
  · have gf : ¬ (¬ v_M_areCounted a 1 4 τ1 = 0 ∧ ¬ gI τ1 13 0 17 = 0) := fun q => q.1 g
    simp only [if_pos g, if_pos (bz gf)]
    exact ⟨⟨hpc, fun q => absurd (bz gf) q⟩, fun q => absurd g q, trivial, h1⟩
  · by_cases g1 : gI τ1 13 0 17 = 0
    · have gf : ¬ (¬ v_M_areCounted a 1 4 τ1 = 0 ∧ ¬ gI τ1 13 0 17 = 0) := fun q => q.2 g1
      simp only [if_neg g, if_pos g1, if_pos (bz gf)]
      exact ⟨⟨hpc, fun q => absurd (bz gf) q⟩, fun _ q => absurd g1 q, trivial, h1⟩
    · have gf : ¬ v_M_areCounted a 1 4 τ1 = 0 ∧ ¬ gI τ1 13 0 17 = 0 := ⟨g, g1⟩
      simp only [if_neg g, if_neg g1, if_neg (bn gf)]
      obtain ⟨k, rfl, hk, -, hsub, -, h4'⟩ := areC h1.m g
      have hk15 : pop k ≤ 15 := fb_ct_le _ _
      have h4 : pop k ≤ 4 := (leN (b := 4) (by omega) (by decide)).mp h4'
      have hS := h1.S6
      have hQ := h1.m.c.2.2.2.2.1.2
      have cQ := h1.m.c.2.2.2.2.1.1
      obtain ⟨W, -, pC, pM, -, hc, hB⟩ := greatest h1 hsub h4 (-1)
      have wC0 := w_C_greatestStory (nI k) (-1) σ
      have wM0 := w_M_weighStories (nI k) (-1) τ1
      obtain ⟨s, es⟩ : ∃ s, s = e_C_greatestStory (nI k) (-1) σ := ⟨_, rfl⟩
      obtain ⟨t, et⟩ : ∃ t, t = e_M_weighStories (nI k) (-1) τ1 := ⟨_, rfl⟩
      rw [← es] at hc wC0 ⊢
      rw [← et] at hc wM0 ⊢
      rcases hB with ⟨e1, e2⟩ | ⟨m, hm, e1, e2, -⟩
      · rw [e1, e2]
        rw [if_pos (show (-1 : Int32) = -1 from rfl), if_pos (show (-1 : Int32) = -1 from rfl), if_neg (show ¬ (0 : Int32) ≤ -2 by decide), if_neg (show ¬ (0 : Int32) ≤ -2 by decide)]
        exact ⟨⟨hpc, fun _ => ⟨pC, fun q => absurd rfl q⟩⟩, fun _ _ => ⟨pM, fun q => absurd q (by decide)⟩, rfl, hc⟩
      · rw [e1, e2]
        have nm1 := nI_nm1 (m := m) (by omega)
        have np := nI_pos' (n := m) (by omega)
        simp only [if_neg nm1, if_pos np]
        -- a turn
        have turn : ∀ i u v, fiR σ τ1 i u v → v_AL_size 16 0 u = nI (nM τ1 27) ∧ gI v 13 0 27 = nI (nM τ1 27) ∧ p_C_greatestStory (nI k) (nI i) u ∧ p_M_weighStories (nI k) (nI i) v ∧ Cpl (e_C_greatestStory (nI k) (nI i) u) (e_M_weighStories (nI k) (nI i) v) ∧ Cpl u v ∧ ((v_C_greatestStory (nI k) (nI i) u = -1 ∧ v_M_weighStories (nI k) (nI i) v = -2) ∨ ∃ m', m' < nM τ1 17 ∧ v_C_greatestStory (nI k) (nI i) u = nI m' ∧ v_M_weighStories (nI k) (nI i) v = nI m') := by
          rintro i u v ⟨hi, wu, wv⟩
          have huv : Cpl u v := h1.mv wu wv rfl rfl
          have n10 : nM v 10 = nM τ1 10 := by unfold nM; rw [wv.i rfl]
          have n17 : nM v 17 = nM τ1 17 := by unfold nM; rw [wv.i rfl]
          have hk' : ∀ j, k.testBit j = true → j < nM v 10 ∧ bt (gI v 13 0 15) j = true := fun j q => by rw [n10, wv.i rfl]; exact hsub j q
          obtain ⟨W', -, q1, q2, -, q3, q4⟩ := greatest huv hk' h4 (nI i)
          refine ⟨?_, ?_, q1, q2, q3, huv, ?_⟩
          · show gI u 16 0 2 = _
            rw [wu.i rfl]; exact h1.lQ
          · rw [wv.i rfl]; exact cQ
          · rcases q4 with q | ⟨m', r1, r2, r3, -⟩
            · exact Or.inl q
            · exact Or.inr ⟨m', by rw [← n17]; exact r1, r2, r3⟩
        have mm2 : ¬ (-2 : Int32) = nI m := fun q => nI_nm2 (m := m) (by omega) q.symm
        have ST : ∀ i u v, fiR σ τ1 i u v → (q_C_first_27s (nI k) (nI m) (0 + nI i) u = 1 ↔ q_M_first_40s (nI k) (nI m) (0 + nI i) v = 1) ∧ (i = nM τ1 27 → q_C_first_27s (nI k) (nI m) (0 + nI i) u = 1) ∧ (¬ q_C_first_27s (nI k) (nI m) (0 + nI i) u = 1 → fiR σ τ1 (i + 1) (t_C_first_27 (nI k) (nI m) (0 + nI i) u) (t_M_first_40 (nI k) (nI m) (0 + nI i) v)) ∧ g_C_first_27 (nI k) (nI m) (0 + nI i) u ∧ g_M_first_40 (nI k) (nI m) (0 + nI i) v := by
          intro i u v r
          obtain ⟨c1, c2, c3, c4, c5, c6, c7⟩ := turn i u v r
          obtain ⟨hi, wu, wv⟩ := r
          unfold q_C_first_27s q_M_first_40s t_C_first_27 t_M_first_40 g_C_first_27 g_M_first_40
          rw [z_nI, c1, c2]
          have cP : nI (nM τ1 27) ≤ nI i ↔ nM τ1 27 ≤ i := leN (by omega) (by omega)
          by_cases z : nM τ1 27 ≤ i
          · have z' := cP.mpr z
            rw [if_pos z', if_pos z', if_pos z', if_pos z']
            exact ⟨Iff.rfl, fun _ => rfl, fun q => absurd rfl q, fun q => absurd z' q, fun q => absurd z' q⟩
          · have z' := fun q => z (cP.mp q)
            rw [if_neg z', if_neg z', if_neg z', if_neg z']
            have ne : ¬ i = nM τ1 27 := by omega
            have nxt : fiR σ τ1 (i + 1) (e_C_greatestStory (nI k) (nI i) u) (e_M_weighStories (nI k) (nI i) v) := ⟨by omega, wu.trans (w_C_greatestStory _ _ _), wv.trans (w_M_weighStories _ _ _)⟩
            rcases c7 with ⟨d1, d2⟩ | ⟨m', hm', d1, d2⟩
            · rw [d1, d2, if_pos rfl, if_neg mm2, if_neg (show ¬ (0 : Int32) ≤ -2 by decide), if_pos rfl, if_neg mm2, if_neg (show ¬ (0 : Int32) ≤ -2 by decide)]
              exact ⟨Iff.rfl, fun q => absurd q ne, fun _ => nxt, fun _ => c3, fun _ => c4⟩
            · have k1 := nI_nm1 (m := m') (by omega)
              have k2 := nI_pos' (n := m') (by omega)
              rw [d1, d2, if_neg k1, if_neg k1, if_pos k2, if_pos k2]
              by_cases e : nI m' = nI m
              · rw [if_pos e, if_pos e, if_pos e]
                exact ⟨Iff.rfl, fun q => absurd q ne, fun _ => nxt, fun _ => c3, fun _ => c4⟩
              · rw [if_neg e, if_neg e, if_neg e]
                exact ⟨Iff.rfl, fun q => absurd q ne, fun q => absurd rfl q, fun _ => c3, fun _ => c4⟩
        obtain ⟨n, hn, r, q1, q2, qs, hl⟩ := loops2 (R := fiR σ τ1) (f := fun i x => t_C_first_27 (nI k) (nI m) (0 + nI i) x) (g := fun i y => t_M_first_40 (nI k) (nI m) (0 + nI i) y) (a := s) (b := t) (qf := fun i x => q_C_first_27s (nI k) (nI m) (0 + nI i) x) (qg := fun i y => q_M_first_40s (nI k) (nI m) (0 + nI i) y) (M := nM τ1 27) ⟨Nat.zero_le _, wC0, wM0⟩ (fun i x y r => (ST i x y r).1) (fun i x y r nq => (ST i x y r).2.2.1 nq) (fun x y r => (ST _ x y r).2.1 rfl)
        have nC : n_C_first_27 (nI k) (nI m) 0 s = n := (hl 5 (by omega)).1
        have nM' : n_M_first_40 (nI k) (nI m) 0 t = n := (hl 5 (by omega)).2
        have r' : fiR σ τ1 n (f_C_first_27 (nI k) (nI m) 0 s n) (f_M_first_40 (nI k) (nI m) 0 t n) := r
        have q1' : q_C_first_27s (nI k) (nI m) (0 + nI n) (f_C_first_27 (nI k) (nI m) 0 s n) = 1 := q1
        have fs1 : ∀ i, i < n → g_C_first_27 (nI k) (nI m) (0 + nI i) (f_C_first_27 (nI k) (nI m) 0 s i) ∧ ¬ q_C_first_27s (nI k) (nI m) (0 + nI i) (f_C_first_27 (nI k) (nI m) 0 s i) = 1 := fun i hi => ⟨(ST i _ _ (qs i hi).1).2.2.2.1, (qs i hi).2.1⟩
        have fs2 : ∀ i, i < n → g_M_first_40 (nI k) (nI m) (0 + nI i) (f_M_first_40 (nI k) (nI m) 0 t i) ∧ ¬ q_M_first_40s (nI k) (nI m) (0 + nI i) (f_M_first_40 (nI k) (nI m) 0 t i) = 1 := fun i hi => ⟨(ST i _ _ (qs i hi).1).2.2.2.2, (qs i hi).2.2⟩
        rw [nC, nM']
        obtain ⟨u, eu⟩ : ∃ u, u = f_C_first_27 (nI k) (nI m) 0 s n := ⟨_, rfl⟩
        obtain ⟨v, ev⟩ : ∃ v, v = f_M_first_40 (nI k) (nI m) 0 t n := ⟨_, rfl⟩
        rw [← eu] at r' q1' ⊢
        rw [← ev] at r' ⊢
        obtain ⟨c1, c2, c3, c4, c5, c6, c7⟩ := turn n u v r'
        have cP : nI (nM τ1 27) ≤ nI n ↔ nM τ1 27 ≤ n := leN (by omega) (by omega)
        rw [z_nI, c1, c2]
        by_cases z : nM τ1 27 ≤ n
        · have z' := cP.mpr z
          simp only [if_pos z']
          exact ⟨⟨hpc, fun _ => ⟨pC, fun _ => ⟨fs1, fun q => absurd z' q⟩⟩⟩, fun _ _ => ⟨pM, fun _ => ⟨fs2, fun q => absurd z' q⟩⟩, trivial, c6⟩
        · have z' := fun q => z (cP.mp q)
          simp only [if_neg z']
          unfold q_C_first_27s at q1'
          rw [z_nI, c1, if_neg z'] at q1'
          rcases c7 with ⟨d1, d2⟩ | ⟨m', hm', d1, d2⟩
          · rw [d1, if_pos rfl] at q1'; cases q1'
          · have k1 := nI_nm1 (m := m') (by omega)
            have k2 := nI_pos' (n := m') (by omega)
            have ne : ¬ nI m' = nI m := fun e => by
              rw [d1, if_neg k1, if_pos e] at q1'; cases q1'
            rw [d1, d2]
            obtain ⟨r1, r2, r3⟩ := row1 c5 (nI m').toInt64
            exact ⟨⟨hpc, fun _ => ⟨pC, fun _ => ⟨fs1, fun _ => ⟨c3, fun q => k1 q, fun _ => ⟨fun q => ne q, fun _ => r2⟩⟩⟩⟩⟩, fun _ _ => ⟨pM, fun _ => ⟨fs2, fun _ => ⟨c4, fun q => ne q, fun _ => ⟨fun _ => r3, fun q => q k2⟩⟩⟩⟩, trivial, r1⟩

