/-! where -/
theorem agO.symm {W : List Nat} {σ τ : MSto} (h : agO W σ τ) : agO W τ σ := ⟨fun k i j hk => ⟨(h.1 k i j hk).1.symm, (h.1 k i j hk).2.1.symm, (h.1 k i j hk).2.2.symm⟩, fun k hk => (h.2 k hk).symm⟩
noncomputable def toldW (τ : MSto) (x y w h : Nat) : MSto := e_M_tell (nI h).toInt64 (e_M_tell (nI w).toInt64 (e_M_tell (nI y).toInt64 (e_M_tell (nI x).toInt64 (sI τ 13 0 51 0))))
noncomputable def rowW (s : MSto) (x y w h : Nat) : MSto := e_Ro_add (nI h).toInt64 (e_Ro_add (nI w).toInt64 (e_Ro_add (nI y).toInt64 (e_Ro_add (nI x).toInt64 (e_Ro_clear s))))
theorem rowW_k (s τ : MSto) (x y w h : Nat) : kR (rowW s x y w h) (toldW τ x y w h) ∧ (p_Ro_add (nI x).toInt64 (e_Ro_clear s) ∧ p_Ro_add (nI y).toInt64 (e_Ro_add (nI x).toInt64 (e_Ro_clear s)) ∧ p_Ro_add (nI w).toInt64 (e_Ro_add (nI y).toInt64 (e_Ro_add (nI x).toInt64 (e_Ro_clear s))) ∧ p_Ro_add (nI h).toInt64 (e_Ro_add (nI w).toInt64 (e_Ro_add (nI y).toInt64 (e_Ro_add (nI x).toInt64 (e_Ro_clear s))))) ∧ p_M_tell (nI x).toInt64 (sI τ 13 0 51 0) ∧ p_M_tell (nI y).toInt64 (e_M_tell (nI x).toInt64 (sI τ 13 0 51 0)) ∧ p_M_tell (nI w).toInt64 (e_M_tell (nI y).toInt64 (e_M_tell (nI x).toInt64 (sI τ 13 0 51 0))) ∧ p_M_tell (nI h).toInt64 (e_M_tell (nI w).toInt64 (e_M_tell (nI y).toInt64 (e_M_tell (nI x).toInt64 (sI τ 13 0 51 0)))) := by
  have c0 := kR_clear s τ
  have n0 := rN_clear τ
  have k1 := kR_add c0 (by omega) (nI x).toInt64
  have n1 := rN_tell (nI x).toInt64 c0.2.1
  have k2 := kR_add k1 (by omega) (nI y).toInt64
  have n2 := rN_tell (nI y).toInt64 k1.2.1
  have k3 := kR_add k2 (by omega) (nI w).toInt64
  have n3 := rN_tell (nI w).toInt64 k2.2.1
  have k4 := kR_add k3 (by omega) (nI h).toInt64
  exact ⟨k4, ⟨pC_add _ c0, pC_add _ k1, pC_add _ k2, pC_add _ k3⟩, pM_tell _ c0.2.1, pM_tell _ k1.2.1, pM_tell _ k2.2.1, pM_tell _ k3.2.1⟩
theorem w_toldW (τ : MSto) (x y w h : Nat) : agO [13052, 78000] τ (toldW τ x y w h) := w_tell _ (w_tell _ (w_tell _ (w_tell _ (agO_sI rfl (agO_refl _ τ)))))
theorem w_rowW (s : MSto) (x y w h : Nat) : agO [8002, 38000] s (rowW s x y w h) := w_add _ (w_add _ (w_add _ (w_add _ ((w_Ro_clear s).mono rfl))))
theorem rowW_c {s t τ : MSto} (h : Cpl s t) (w : agO [13052, 78000] τ t) (x y ww hh : Nat) : Cpl (rowW s x y ww hh) (toldW τ x y ww hh) :=
  h.mvR (W := [8002, 38000]) (V := [13052, 78000]) (w_rowW s x y ww hh) (w.symm.trans (w_toldW τ x y ww hh)) rfl rfl (rowW_k s τ x y ww hh).1
theorem bare_mv {τ t : MSto} (w2 : agO [13052, 78000] τ t) (i : Nat) (x y w yr : Int32) : coreW t i x y w (fromY t i x y yr) + gI t 56 0 i * x = coreW τ i x y w (fromY τ i x y yr) + gI τ 56 0 i * x := by
  have efs : ∀ v x y w, v_M_withStuff v x y w t = v_M_withStuff v x y w τ := fun v x y w => by
    unfold v_M_withStuff
    have n5 : nM t 5 = nM τ 5 := by unfold nM; rw [w2.i rfl]
    rw [n5]
    refine nfold_congr (fun i _ a => ?_)
    unfold t_M_stuff v_M_mixed
    rw [w2.i rfl, w2.i rfl, w2.i rfl, w2.i rfl, w2.i rfl, w2.i rfl, w2.i rfl, w2.i rfl]
  unfold coreW fromY v_M_mixed
  rw [efs]
  simp only [w2.i (k := 59) (i := 0) rfl, w2.i (k := 55) (i := 0) rfl, w2.i (k := 52) (i := 0) rfl, w2.i (k := 53) (i := 0) rfl, w2.i (k := 54) (i := 0) rfl, w2.i (k := 41) (i := 0) rfl, w2.i (k := 56) (i := 0) rfl]
theorem ptB_mv {τ t : MSto} (w : agO [13052, 78000] τ t) {S : Nat} (hS : S ≤ 6) (x y ww hh yr : Int32) : cntP (ptB t x y ww hh yr) S S = cntP (ptB τ x y ww hh yr) S S := by
  unfold cntP
  refine fb_sm_cong (fun i hi => fb_ct_cong (fun m hm => ?_))
  unfold ptB
  rw [parted_mv w (by omega) (by omega)]
def whK (x y w h : Nat) : Nat := ((x * 8 + y) * 4 + w) * 6 + h
def whR (τ : MSto) (X : Int32 × MSto) (Y : Int32 × Int32) : Prop := X.1 = Y.1 ∧ ∃ t, agO [13052, 78000] τ t ∧ Cpl X.2 t ∧ ((X.1 = -1 ∧ Y.2 = 0 ∧ t = τ) ∨ ∃ m x y w h, m < 2 ^ 31 ∧ x < 24 ∧ y < 8 ∧ w < 4 ∧ h < 6 ∧ X.1 = nI m ∧ Y.2 = nI (whK x y w h) ∧ t = toldW τ x y w h)
def whB (τ : MSto) (yr : Int32) (x y w : Nat) (s : MSto) : Prop := ∀ i, i < nM τ 17 → gI s 29 0 i = coreW τ i (nI x) (nI y) (nI w) (fromY τ i (nI x) (nI y) yr) + gI τ 56 0 i * nI x
theorem rgN {n b : Nat} (h : n ≤ b) (hb : b < 2 ^ 31) : rg (nI n) 0 (nI b) := ⟨nI_pos' (by omega), nI_le h hb⟩
theorem whK_4608 {x y w h : Nat} (hx : x < 24) (hy : y < 8) (hw : w < 4) (hh : h < 6) : whK x y w h < 4608 ∧ whK x y w h / 192 = x ∧ whK x y w h / 24 % 8 = y ∧ whK x y w h / 6 % 4 = w ∧ whK x y w h % 6 = h := by
  unfold whK
  refine ⟨by omega, by omega, by omega, by omega, by omega⟩
theorem wh_args {x y w h : Nat} (hx : x < 24) (hy : y < 8) (hw : w < 4) (hh : h < 6) : nI (whK x y w h) / 192 = nI x ∧ (nI (whK x y w h) / 24) - (nI (whK x y w h) / 24) / 8 * 8 = nI y ∧ (nI (whK x y w h) / 6) - (nI (whK x y w h) / 6) / 4 * 4 = nI w ∧ nI (whK x y w h) - nI (whK x y w h) / 6 * 6 = nI h := by
  obtain ⟨k, a1, a2, a3, a4⟩ := whK_4608 hx hy hw hh
  generalize whK x y w h = K at k a1 a2 a3 a4 ⊢
  have d1 : nI K / 24 = nI (K / 24) := pk_div (d := 24) (by omega) (by decide) (by decide)
  have d2 : nI K / 6 = nI (K / 6) := pk_div (d := 6) (by omega) (by decide) (by decide)
  refine ⟨?_, ?_, ?_, ?_⟩
  · rw [← a1]; exact pk_div (d := 192) (by omega) (by decide) (by decide)
  · rw [d1, ← a2]; exact pk_rem (d := 8) (by omega) (by decide) (by decide)
  · rw [d2, ← a3]; exact pk_rem (d := 4) (by omega) (by decide) (by decide)
  · rw [← a4]; exact pk_rem (d := 6) (by omega) (by decide) (by decide)
theorem wh_step {τ : MSto} {yr : Int32} (hyr : rg yr 0 199) {x y w h : Nat} (hx : x < 24) (hy : y < 8) (hw : w < 4) (hh : h < 6) {X : Int32 × MSto} {Y : Int32 × Int32} (hR : whR τ X Y) (hB : whB τ yr x y w X.2) : (whR τ (t_C_bestHouse_7 (nI x) (nI y) (nI w) (0 + nI h) X) (t_M_where_28 yr (0 + nI (whK x y w h)) τ Y) ∧ whB τ yr x y w (t_C_bestHouse_7 (nI x) (nI y) (nI w) (0 + nI h) X).2) ∧ g_C_bestHouse_7 (nI x) (nI y) (nI w) (0 + nI h) X ∧ ¬ q_C_bestHouse_7s (nI x) (nI y) (nI w) (0 + nI h) X = 1 := by
  obtain ⟨b, s⟩ := X
  obtain ⟨b', j⟩ := Y
  obtain ⟨e1, t, wt, hc, hO⟩ := hR
  have e1 : b = b' := e1
  subst e1
  have hc : Cpl s t := hc
  have hB : whB τ yr x y w s := hB
  have hS := hc.S6
  have eS : nM t 17 = nM τ 17 := by unfold nM; rw [wt.i rfl]
  have iT : iM τ := hc.m.upd (V := [13052, 78000]) wt.symm (Or.inl rfl) (Or.inl rfl) (Or.inl rfl) (Or.inl rfl) (Or.inl rfl) (Or.inl rfl) (Or.inl rfl) (Or.inl rfl) (Or.inl rfl) (Or.inl rfl) (Or.inl rfl) (Or.inl rfl) (Or.inl rfl) (Or.inl rfl)
  obtain ⟨k1, -⟩ := whK_4608 hx hy hw hh
  obtain ⟨a1, a2, a3, a4⟩ := wh_args hx hy hw hh
  have rx : rg (nI x) 0 23 := rgN (b := 23) (by omega) (by decide)
  have rw' : rg (nI w) 0 3 := rgN (b := 3) (by omega) (by decide)
  have rh : rg (nI h) 0 5 := rgN (b := 5) (by omega) (by decide)
  have hB' : ∀ i, i < nM t 17 → gI s 29 0 i = coreW t i (nI x) (nI y) (nI w) (fromY t i (nI x) (nI y) yr) + gI t 56 0 i * nI x := fun i hi => by
    rw [bare_mv wt]; exact hB i (by omega)
  obtain ⟨p1, p2⟩ := pairsIn hc (nI y) rx rw' rh hyr hB'
  have p3 := bc_pairs (ptB t (nI x) (nI y) (nI w) (nI h) yr) hS s
  rw [ptB_mv wt hS, eS] at p3
  rw [eS] at hS
  obtain ⟨P, eP⟩ : ∃ P, P = cntP (ptB τ (nI x) (nI y) (nI w) (nI h) yr) (nM τ 17) (nM τ 17) := ⟨_, rfl⟩
  have hP : P ≤ 15 := by rw [eP]; exact cntP_le _ hS
  have m1 := (partedAt iT (x := nI x) (nI y) (w := nI w) (hh := nI h) (yr := yr) rw' rh hyr).1
  rw [← eP] at p3 m1
  rw [eS] at p1
  have tM : t_M_where_28 yr (0 + nI (whK x y w h)) τ (b, j) = if b < nI P then (nI P, nI (whK x y w h)) else (b, j) := by
    unfold t_M_where_28
    rw [if_neg (ng_cnt (N := 4608) (n := 4608) rfl (by decide) k1), z_nI, a1, a2, a3, a4, m1]
  obtain ⟨q1, q2, -⟩ := rowW_k s τ x y w h
  have tC : t_C_bestHouse_7 (nI x) (nI y) (nI w) (0 + nI h) (b, s) = if nI P ≤ b then (b, s) else (nI P, rowW s x y w h) := by
    unfold t_C_bestHouse_7 tj_C_bestHouse_7j80
    rw [if_neg (ng_cnt (N := 6) (n := 6) rfl (by decide) hh), z_nI]
    show (if v_In_bitCount (v_C_pairsPartedIn (nI h) s) s ≤ b then (b, s) else (v_In_bitCount (v_C_pairsPartedIn (nI h) s) s, rowW s x y w h)) = _
    rw [p1, p3]
  refine ⟨?_, ?_, ?_⟩
  · rw [tM, tC]
    by_cases g : nI P ≤ b
    · rw [if_pos g, if_neg (Int32.not_lt.mpr g)]
      exact ⟨⟨rfl, t, wt, hc, hO⟩, hB⟩
    · rw [if_neg g, if_pos (Int32.not_le.mp g)]
      refine ⟨⟨rfl, _, w_toldW τ x y w h, rowW_c hc wt x y w h, Or.inr ⟨P, x, y, w, h, by omega, hx, hy, hw, hh, rfl, rfl, rfl⟩⟩, fun i hi => ?_⟩
      show gI (rowW s x y w h) 29 0 i = _
      rw [(w_rowW s x y w h).i rfl]
      exact hB i hi
  · unfold g_C_bestHouse_7
    rw [z_nI]
    exact fun _ => ⟨p2, fun _ => q2⟩
  · exact q_cnt (N := 6) (n := 6) rfl (by decide) hh
theorem wh_pM {τ : MSto} (hi : iM τ) {yr : Int32} (hyr : rg yr 0 199) {k : Nat} (hk : k < 4608) (Y : Int32 × Int32) : g_M_where_28 yr (0 + nI k) τ Y ∧ ¬ q_M_where_28s yr (0 + nI k) τ Y = 1 := by
  have e : k = whK (k / 192) (k / 24 % 8) (k / 6 % 4) (k % 6) := by unfold whK; omega
  obtain ⟨a1, a2, a3, a4⟩ := wh_args (x := k / 192) (y := k / 24 % 8) (w := k / 6 % 4) (h := k % 6) (by omega) (by omega) (by omega) (by omega)
  rw [← e] at a1 a2 a3 a4
  refine ⟨fun _ => ?_, q_cnt (N := 4608) (n := 4608) rfl (by decide) hk⟩
  rw [z_nI, a1, a2, a3, a4]
  exact (partedAt hi (x := nI (k / 192)) (nI (k / 24 % 8)) (w := nI (k / 6 % 4)) (hh := nI (k % 6)) (yr := yr) (rgN (b := 3) (by omega) (by decide)) (rgN (b := 5) (by omega) (by decide)) hyr).2
theorem wh_best {τ : MSto} {yr : Int32} (hyr : rg yr 0 199) {x y w : Nat} (hx : x < 24) (hy : y < 8) (hw : w < 4) {X : Int32 × MSto} {Y0 : Int32 × Int32} (hR : whR τ X (f_M_where_28 yr 0 τ Y0 (whK x y w 0))) (hB : whB τ yr x y w X.2) : ∀ n, n ≤ 6 → (whR τ (f_C_bestHouse_7 (nI x) (nI y) (nI w) 0 X n) (f_M_where_28 yr 0 τ Y0 (whK x y w n)) ∧ whB τ yr x y w (f_C_bestHouse_7 (nI x) (nI y) (nI w) 0 X n).2) := by
  intro n
  induction n with
  | zero => exact fun _ => ⟨hR, hB⟩
  | succ n ih =>
    intro hn
    obtain ⟨r, b⟩ := ih (by omega)
    exact (wh_step hyr hx hy hw (by omega) r b).1
theorem wh_house {τ : MSto} {yr : Int32} (hyr : rg yr 0 199) {x y w : Nat} (hx : x < 24) (hy : y < 8) (hw : w < 4) {b : Int32} {s : MSto} {Y0 : Int32 × Int32} (hR : whR τ (b, s) (f_M_where_28 yr 0 τ Y0 (whK x y w 0))) (hB : whB τ yr x y w s) : whR τ (v_C_bestHo (nI x) (nI y) (nI w) b s, e_C_bestHo (nI x) (nI y) (nI w) b s) (f_M_where_28 yr 0 τ Y0 (whK x y (w + 1) 0)) ∧ p_C_bestHo (nI x) (nI y) (nI w) b s := by
  have B := wh_best hyr hx hy hw hR hB
  rw [v_bestHo, e_bestHo, p_bestHo]
  constructor
  · have := (B 6 (Nat.le_refl _)).1
    rw [show whK x y w 6 = whK x y (w + 1) 0 by unfold whK; omega] at this
    have n6 : n_C_bestHouse_7 (nI x) (nI y) (nI w) 0 (b, s) = 6 := rfl
    unfold v_C_bestHouse e_C_bestHouse
    rw [n6]
    generalize f_C_bestHouse_7 (nI x) (nI y) (nI w) 0 (b, s) 6 = Z at this ⊢
    exact this
  · unfold p_C_bestHouse
    refine ⟨fun i hi => ?_, fun q => q (e_cnt (N := 6) (n := 6) rfl)⟩
    have hi : i < 6 := hi
    obtain ⟨r, b⟩ := B i (by omega)
    exact (wh_step hyr hx hy hw hi r b).2
theorem wh_42 {τ : MSto} {yr : Int32} (hyr : rg yr 0 199) {x y w : Nat} (hx : x < 24) (hy : y < 8) (hw : w < 4) {X : Int32 × MSto} {Y0 : Int32 × Int32} (hR : whR τ X (f_M_where_28 yr 0 τ Y0 (whK x y w 0))) : whR τ (t_C_where_42 yr (nI x) (nI y) (0 + nI w) X) (f_M_where_28 yr 0 τ Y0 (whK x y (w + 1) 0)) ∧ g_C_where_42 yr (nI x) (nI y) (0 + nI w) X ∧ ¬ q_C_where_42s yr (nI x) (nI y) (0 + nI w) X = 1 := by
  obtain ⟨b, s⟩ := X
  obtain ⟨e1, t, wt, hc, hO⟩ := hR
  have hc : Cpl s t := hc
  have eS : nM t 17 = nM τ 17 := by unfold nM; rw [wt.i rfl]
  obtain ⟨l1, l2, l3⟩ := layBares hc (nI x) (nI y) (w := nI w) (yr := yr) (rgN (b := 3) (by omega) (by decide)) hyr
  have hB : whB τ yr x y w (e_C_layBares (nI x) (nI y) (nI w) yr s) := fun i hi => by
    rw [l3 i (by omega), bare_mv wt]
  have hR2 : whR τ (b, e_C_layBares (nI x) (nI y) (nI w) yr s) (f_M_where_28 yr 0 τ Y0 (whK x y w 0)) := ⟨e1, t, wt, l2, hO⟩
  obtain ⟨h1, h2⟩ := wh_house hyr hx hy hw hR2 hB
  have hq : ¬ q_C_where_42s yr (nI x) (nI y) (0 + nI w) (b, s) = 1 := q_cnt (N := 4) (n := 4) rfl (by decide) hw
  rw [z_nI] at hq
  unfold t_C_where_42 g_C_where_42 tj_C_where_42j58 tj_C_where_42j69 gj_C_where_42j58
  rw [if_neg (ng_cnt (N := 4) (n := 4) rfl (by decide) hw), z_nI]
  exact ⟨h1, fun _ => ⟨l1, h2⟩, hq⟩
theorem wh_32 {τ : MSto} {yr : Int32} (hyr : rg yr 0 199) {x y : Nat} (hx : x < 24) (hy : y < 8) {X : Int32 × MSto} {Y0 : Int32 × Int32} (hR : whR τ X (f_M_where_28 yr 0 τ Y0 (whK x y 0 0))) : whR τ (t_C_where_32 yr (nI x) (0 + nI y) X) (f_M_where_28 yr 0 τ Y0 (whK x (y + 1) 0 0)) ∧ g_C_where_32 yr (nI x) (0 + nI y) X ∧ ¬ q_C_where_32s yr (nI x) (0 + nI y) X = 1 := by
  have main : ∀ n, n ≤ 4 → whR τ (f_C_where_42 yr (nI x) (nI y) 0 X n) (f_M_where_28 yr 0 τ Y0 (whK x y n 0)) := by
    intro n
    induction n with
    | zero => exact fun _ => hR
    | succ n ih => exact fun hn => (wh_42 hyr hx hy (by omega) (ih (by omega))).1
  have nN : n_C_where_42 yr (nI x) (nI y) 0 X = 4 := cN_eq 4
  have hq : ¬ q_C_where_32s yr (nI x) (0 + nI y) X = 1 := q_cnt (N := 8) (n := 8) rfl (by decide) hy
  rw [z_nI] at hq
  unfold t_C_where_32 g_C_where_32
  rw [if_neg (ng_cnt (N := 8) (n := 8) rfl (by decide) hy), z_nI]
  show whR τ (f_C_where_42 yr (nI x) (nI y) 0 X (n_C_where_42 yr (nI x) (nI y) 0 X)) _ ∧ (_ → (∀ i, i < n_C_where_42 yr (nI x) (nI y) 0 X → g_C_where_42 yr (nI x) (nI y) (0 + nI i) (f_C_where_42 yr (nI x) (nI y) 0 X i) ∧ ¬ q_C_where_42s yr (nI x) (nI y) (0 + nI i) (f_C_where_42 yr (nI x) (nI y) 0 X i) = 1) ∧ (¬ 4 ≤ 0 + nI (n_C_where_42 yr (nI x) (nI y) 0 X) → False)) ∧ _
  rw [nN]
  refine ⟨?_, fun _ => ⟨fun i hi => (wh_42 hyr hx hy hi (main i (by omega))).2, fun q => q (e_cnt (N := 4) (n := 4) rfl)⟩, hq⟩
  have := main 4 (Nat.le_refl _)
  rw [show whK x y 4 0 = whK x (y + 1) 0 0 by unfold whK; omega] at this
  exact this
theorem wh_23 {τ : MSto} {yr : Int32} (hyr : rg yr 0 199) {x : Nat} (hx : x < 24) {X : Int32 × MSto} {Y0 : Int32 × Int32} (hR : whR τ X (f_M_where_28 yr 0 τ Y0 (whK x 0 0 0))) : whR τ (t_C_where_23 yr (0 + nI x) X) (f_M_where_28 yr 0 τ Y0 (whK (x + 1) 0 0 0)) ∧ g_C_where_23 yr (0 + nI x) X ∧ ¬ q_C_where_23s yr (0 + nI x) X = 1 := by
  have main : ∀ n, n ≤ 8 → whR τ (f_C_where_32 yr (nI x) 0 X n) (f_M_where_28 yr 0 τ Y0 (whK x n 0 0)) := by
    intro n
    induction n with
    | zero => exact fun _ => hR
    | succ n ih => exact fun hn => (wh_32 hyr hx (by omega) (ih (by omega))).1
  have nN : n_C_where_32 yr (nI x) 0 X = 8 := cN_eq 8
  have hq : ¬ q_C_where_23s yr (0 + nI x) X = 1 := q_cnt (N := 24) (n := 24) rfl (by decide) hx
  rw [z_nI] at hq
  unfold t_C_where_23 g_C_where_23
  rw [if_neg (ng_cnt (N := 24) (n := 24) rfl (by decide) hx), z_nI]
  show whR τ (f_C_where_32 yr (nI x) 0 X (n_C_where_32 yr (nI x) 0 X)) _ ∧ (_ → (∀ i, i < n_C_where_32 yr (nI x) 0 X → g_C_where_32 yr (nI x) (0 + nI i) (f_C_where_32 yr (nI x) 0 X i) ∧ ¬ q_C_where_32s yr (nI x) (0 + nI i) (f_C_where_32 yr (nI x) 0 X i) = 1) ∧ (¬ 8 ≤ 0 + nI (n_C_where_32 yr (nI x) 0 X) → False)) ∧ _
  rw [nN]
  refine ⟨?_, fun _ => ⟨fun i hi => (wh_32 hyr hx hi (main i (by omega))).2, fun q => q (e_cnt (N := 8) (n := 8) rfl)⟩, hq⟩
  have := main 8 (Nat.le_refl _)
  rw [show whK x 8 0 0 = whK (x + 1) 0 0 0 by unfold whK; omega] at this
  exact this
theorem wh_pos {τ : MSto} (hi : iM τ) {yr : Int32} (hyr : rg yr 0 199) : ∀ n, n < 4608 → ∃ m, m < 2 ^ 31 ∧ (f_M_where_28 yr 0 τ ((-1), 0) (n + 1)).1 = nI m := by
  have step : ∀ k, k < 4608 → ∀ b j, ∃ P, P < 2 ^ 31 ∧ t_M_where_28 yr (0 + nI k) τ (b, j) = if b < nI P then (nI P, nI k) else (b, j) := by
    intro k hk b j
    have e : k = whK (k / 192) (k / 24 % 8) (k / 6 % 4) (k % 6) := by unfold whK; omega
    obtain ⟨a1, a2, a3, a4⟩ := wh_args (x := k / 192) (y := k / 24 % 8) (w := k / 6 % 4) (h := k % 6) (by omega) (by omega) (by omega) (by omega)
    rw [← e] at a1 a2 a3 a4
    have p := (partedAt hi (x := nI (k / 192)) (nI (k / 24 % 8)) (w := nI (k / 6 % 4)) (hh := nI (k % 6)) (yr := yr) (rgN (b := 3) (by omega) (by decide)) (rgN (b := 5) (by omega) (by decide)) hyr).1
    have hP := cntP_le (ptB τ (nI (k / 192)) (nI (k / 24 % 8)) (nI (k / 6 % 4)) (nI (k % 6)) yr) hi.c.2.2.2.1.2
    refine ⟨cntP (ptB τ (nI (k / 192)) (nI (k / 24 % 8)) (nI (k / 6 % 4)) (nI (k % 6)) yr) (nM τ 17) (nM τ 17), by omega, ?_⟩
    unfold t_M_where_28
    rw [if_neg (ng_cnt (N := 4608) (n := 4608) rfl (by decide) hk), z_nI, a1, a2, a3, a4, p]
  intro n
  induction n with
  | zero =>
    intro hn
    obtain ⟨P, hP, e⟩ := step 0 hn (-1) 0
    refine ⟨P, hP, ?_⟩
    show (t_M_where_28 yr (0 + nI 0) τ ((-1), 0)).1 = nI P
    rw [e, if_pos]
    exact Int32.not_le.mp (nI_gm1 hP)
  | succ n ih =>
    intro hn
    obtain ⟨m, hm, e⟩ := ih (by omega)
    obtain ⟨P, hP, e2⟩ := step (n + 1) (by omega) (f_M_where_28 yr 0 τ ((-1), 0) (n + 1)).1 (f_M_where_28 yr 0 τ ((-1), 0) (n + 1)).2
    have e3 : f_M_where_28 yr 0 τ ((-1), 0) (n + 1 + 1) = t_M_where_28 yr (0 + nI (n + 1)) τ (f_M_where_28 yr 0 τ ((-1), 0) (n + 1)) := rfl
    rw [e3]
    generalize f_M_where_28 yr 0 τ ((-1), 0) (n + 1) = Z at e e2 ⊢
    rw [show (Z.1, Z.2) = Z from rfl] at e2
    rw [e2]
    split
    · exact ⟨P, hP, rfl⟩
    · exact ⟨m, hm, e⟩
theorem T_where {σ τ : MSto} (h : Cpl σ τ) (a : Int32) : p_C_where a σ ∧ p_M_where a τ ∧ v_C_where a σ = v_M_where a τ ∧ Cpl (e_C_where a σ) (e_M_where a τ) := by
  have h1 := h.e0
  unfold p_C_where p_M_where v_C_where v_M_where e_C_where e_M_where
  generalize sI τ 13 0 52 0 = τ1 at h1 ⊢
  simp only [cp_isYear, M_isYear, cp_isEmpty h1]
  by_cases g : 0 ≤ a ∧ a ≤ 199
  · by_cases g1 : gI τ1 13 0 17 = 0
    · simp only [if_neg (bn g), if_pos g1, if_neg (bn g1)]
      exact ⟨fun _ q => absurd q (bn g1), fun _ q => absurd g1 q, trivial, h1⟩
    · simp only [if_neg (bn g), if_neg g1, if_pos (bz g1)]
      have nC : n_C_where_23 a 0 ((-1), σ) = 24 := cN_eq 24
      have nM' : n_M_where_28 a 0 τ1 ((-1), 0) = 4608 := rfl
      rw [nC, nM']
      obtain ⟨N, eN⟩ : ∃ N, N = 4608 := ⟨_, rfl⟩
      have r0 : whR τ1 ((-1), σ) (f_M_where_28 a 0 τ1 ((-1), 0) (whK 0 0 0 0)) := ⟨rfl, τ1, agO_refl _ τ1, h1, Or.inl ⟨rfl, rfl, rfl⟩⟩
      have main : ∀ n, n ≤ 24 → whR τ1 (f_C_where_23 a 0 ((-1), σ) n) (f_M_where_28 a 0 τ1 ((-1), 0) (whK n 0 0 0)) := by
        intro n
        induction n with
        | zero => exact fun _ => r0
        | succ n ih => exact fun hn => (wh_23 g (by omega) (ih (by omega))).1
      have fin := main 24 (Nat.le_refl _)
      have pos := wh_pos h1.m g 4607 (by decide)
      rw [show whK 24 0 0 0 = N by rw [eN]; rfl] at fin
      rw [show 4607 + 1 = N by omega] at pos
      rw [← eN]
      have pC := fun n (hn : n < 24) => (wh_23 g hn (main n (by omega))).2
      have pM := fun n (hn : n < N) => wh_pM h1.m g (k := n) (by omega) (f_M_where_28 a 0 τ1 ((-1), 0) n)
      have eN2 : (4608 : Int32) ≤ 0 + nI N := by rw [eN]; exact e_cnt (N := 4608) (n := 4608) rfl
      have eC2 : (24 : Int32) ≤ 0 + nI 24 := e_cnt (N := 24) (n := 24) rfl
      generalize f_M_where_28 a 0 τ1 ((-1), 0) N = Y at fin pos ⊢
      generalize f_C_where_23 a 0 ((-1), σ) 24 = X at fin ⊢
      obtain ⟨b, s⟩ := X
      obtain ⟨b', j⟩ := Y
      obtain ⟨e1, t, wt, hc, hO⟩ := fin
      have e1 : b = b' := e1
      subst e1
      obtain ⟨m0, hm0, e0⟩ := pos
      have e0 : b = nI m0 := e0
      rcases hO with ⟨q1, -, -⟩ | ⟨m, x, y, w, hh, hm, hx, hy, hw, hh', -, q2, q3⟩
      · have q1 : b = -1 := q1
        rw [q1] at e0
        exact absurd (show (0 : Int32) ≤ -1 from e0 ▸ nI_pos' hm0) (by decide)
      · have q2 : j = nI (whK x y w hh) := q2
        have hc : Cpl s t := hc
        subst q3
        obtain ⟨a1, a2, a3, a4⟩ := wh_args hx hy hw hh'
        obtain ⟨-, -, t1, t2, t3, t4⟩ := rowW_k s τ1 x y w hh
        unfold vj_M_where_j117 ej_M_where_j117 gj_M_where_j117
        show _ ∧ _ ∧ b = b ∧ Cpl s _
        rw [q2, a1, a2, a3, a4]
        refine ⟨fun _ _ => ⟨pC, fun q => q eC2⟩, fun _ _ => ⟨pM, fun _ => ⟨t1, t2, t3, t4⟩, fun q => q eN2⟩, rfl, hc⟩
  · simp only [if_pos (bz g)]
    exact ⟨fun q => absurd (bz g) q, fun q => absurd (bz g) q, trivial, h1⟩

