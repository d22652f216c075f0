/-! curve, told year by year -/
def cuA (k k' : Nat) (s : MSto) (n : Nat) (ys vs : Nat → Nat) : Prop := ∀ j, j < n → gI s k 0 j = nI (ys j) ∧ gI s k' 0 j = nI (vs j)
theorem cu_valC {s : MSto} {n y : Nat} {ys vs : Nat → Nat} (hA : cuA 36 37 s n ys vs) (hB : ∀ j, j < n → ys j < 200 ∧ vs j < 1000) (hm : ∀ j, j + 1 < n → ys j < ys (j + 1)) (h0 : 0 < n) (hn : n ≤ 16) (hy : y < 200) : v_Cu_valueBy (nI y) (nI n) s = cv ys vs n y (k1 ys n y) ∧ p_Cu_valueBy (nI y) (nI n) s := by
  obtain ⟨a1, a2, a3⟩ := k1_facts (ys := ys) (n := n) (y := y)
  have q0 : ∀ i, i < k1 ys n y → ∀ u, ¬ q_Cu_valueBy_2s (nI y) (nI n) (0 + nI i) s u = 1 := fun i hi u => by
    unfold q_Cu_valueBy_2s
    have b := hB i (by omega)
    have c := a2 i hi
    rw [if_neg (ng_cnt rfl (by omega) (by omega)), z_nI, nI_cl (by omega), (hA i (by omega)).1, if_neg (nI_ge c (by omega))]; decide
  have q1 : ∀ u, q_Cu_valueBy_2s (nI y) (nI n) (0 + nI (k1 ys n y)) s u = 1 := fun u => by
    unfold q_Cu_valueBy_2s
    by_cases g : k1 ys n y < n
    · have b := hB _ g
      rw [if_neg (ng_cnt rfl (by omega) g), z_nI, nI_cl (by omega), (hA _ g).1, if_pos (nI_le (a3 g) (by omega))]
    · rw [z_nI, if_pos (nI_le (by omega) (by omega))]
  have nn : n_Cu_valueBy_2 (nI y) (nI n) 0 s () = k1 ys n y := leastN_eq (P := fun i => q_Cu_valueBy_2s (nI y) (nI n) (0 + nI i) s (f_Cu_valueBy_2 (nI y) (nI n) 0 s () i) = 1) (fun i hi => q0 i hi _) (q1 _) (by omega)
  -- the step
  have st : ∀ k, k < n → ¬ k = 0 → nI (ys k) - nI (ys (k - 1)) = nI (ys k - ys (k - 1)) ∧ 0 < nI (ys k) - nI (ys (k - 1)) ∧ ¬ nI (ys k) - nI (ys (k - 1)) = 0 := fun k hk h0 => by
    have c := hm (k - 1) (by omega)
    rw [show k - 1 + 1 = k by omega] at c
    have b := hB k hk
    have e : nI (ys k) - nI (ys (k - 1)) = nI (ys k - ys (k - 1)) := pk_sub (by omega)
    rw [e]
    exact ⟨rfl, (ltN (a := 0) (by decide) (by omega)).mpr (by omega), fun q => by have := (nI_eq (b := 0) (by omega) (by decide)).mp q; omega⟩
  have J : ∀ k, k ≤ n → gj_Cu_valueBy_j23 (nI y) (nI n) (nI k) s ∧ vj_Cu_valueBy_j23 (nI y) (nI n) (nI k) s = cv ys vs n y k := by
    intro k hk
    unfold gj_Cu_valueBy_j23 vj_Cu_valueBy_j23 cv
    by_cases e : k = 0
    · have k0 : nI k = 0 := by rw [e]; rfl
      rw [if_pos k0, if_pos e]
      exact ⟨⟨fun _ => nI_inb (i := 0) (by decide) (by decide), fun c => absurd k0 c⟩, (hA 0 h0).2⟩
    · have k0 : ¬ nI k = 0 := fun c => e ((nI_eq (b := 0) (by omega) (by decide)).mp c)
      have ek : nI k - 1 = nI (k - 1) := pk_sub (b := 1) (by omega)
      rw [if_neg k0, if_neg e, ek, nI_cl (i := k - 1) (by omega), nI_cl (i := k) (by omega)]
      have vk : vp_in (nI (k - 1)) 20 := nI_inb (by omega) (by decide)
      by_cases g : n ≤ k
      · rw [if_pos (nI_le g (by omega)), if_pos g]
        exact ⟨⟨fun c => absurd c k0, fun _ => ⟨vk, fun c => absurd (nI_le g (by omega)) c⟩⟩, (hA _ (by omega)).2⟩
      · obtain ⟨s1, s2, s3⟩ := st k (by omega) e
        rw [if_neg (nI_ge (by omega) (by omega)), if_neg g, (hA k (by omega)).1, (hA (k - 1) (by omega)).1, (hA k (by omega)).2, (hA (k - 1) (by omega)).2, if_pos s2]
        have vk2 : vp_in (nI k) 20 := nI_inb (by omega) (by decide)
        exact ⟨⟨fun c => absurd c k0, fun _ => ⟨vk, fun _ => ⟨vk2, vk, fun _ => ⟨vk2, vk, s3⟩⟩⟩⟩, rfl⟩
  unfold v_Cu_valueBy p_Cu_valueBy
  rw [nn]
  have Jk := J _ a1
  refine ⟨by rw [z_nI]; exact Jk.2, fun i hi => ⟨fun _ => ?_, q0 i hi _⟩, fun _ => by rw [z_nI]; exact Jk.1, fun c => ⟨?_, fun _ => by rw [z_nI]; exact Jk.1, fun c2 => ?_⟩⟩
  · rw [z_nI]; exact nI_inb (by omega) (by decide)
  · rw [z_nI]; exact nI_inb (by omega) (by decide)
  · have := q1 ()
    unfold q_Cu_valueBy_2s at this
    rw [if_neg c, if_neg c2] at this
    exact absurd this (by decide)
theorem cu_39 {s : MSto} {n : Nat} {ys vs : Nat → Nat} (hA : cuA 36 37 s n ys vs) (hB : ∀ j, j < n → ys j < 200 ∧ vs j < 1000) (hm : ∀ j, j + 1 < n → ys j < ys (j + 1)) (h0 : 0 < n) (hn : n ≤ 16) : ∀ m, m ≤ 200 → (agO [35000] s (f_Cu_read_39 (nI n) 0 s m) ∧ ∀ y, y < m → gI (f_Cu_read_39 (nI n) 0 s m) 35 0 y = cv ys vs n y (k1 ys n y)) ∧ (m < 200 → g_Cu_read_39 (nI n) (0 + nI m) (f_Cu_read_39 (nI n) 0 s m) ∧ ¬ q_Cu_read_39s (nI n) (0 + nI m) (f_Cu_read_39 (nI n) 0 s m) = 1) := by
  have vA : ∀ s', agO [35000] s s' → cuA 36 37 s' n ys vs := fun s' w j hj => by rw [w.i rfl, w.i rfl]; exact hA j hj
  have main : ∀ m, m ≤ 200 → agO [35000] s (f_Cu_read_39 (nI n) 0 s m) ∧ ∀ y, y < m → gI (f_Cu_read_39 (nI n) 0 s m) 35 0 y = cv ys vs n y (k1 ys n y) := by
    intro m
    induction m with
    | zero => exact fun _ => ⟨agO_refl _ s, fun y hy => absurd hy (by omega)⟩
    | succ m ih =>
      intro hm'
      obtain ⟨w, hv⟩ := ih (by omega)
      have e := (cu_valC (vA _ w) hB hm h0 hn (y := m) (by omega)).1
      show agO [35000] s (t_Cu_read_39 (nI n) (0 + nI m) (f_Cu_read_39 (nI n) 0 s m)) ∧ ∀ y, y < m + 1 → gI (t_Cu_read_39 (nI n) (0 + nI m) (f_Cu_read_39 (nI n) 0 s m)) 35 0 y = cv ys vs n y (k1 ys n y)
      unfold t_Cu_read_39
      rw [if_neg (ng_cnt l200 (by decide) (by omega)), z_nI, nI_cl (by omega), e]
      refine ⟨agO_sI rfl w, fun y hy => ?_⟩
      rw [gI_at]
      by_cases q : y = m
      · rw [if_pos q, q]
      · rw [if_neg q]; exact hv y (by omega)
  refine fun m hm' => ⟨main m hm', fun h2 => ⟨fun _ => ?_, q_cnt l200 (by decide) h2⟩⟩
  rw [z_nI]
  exact ⟨(cu_valC (vA _ (main m hm').1) hB hm h0 hn (y := m) h2).2, nI_inb h2 (by decide)⟩
theorem cu_valM {t : MSto} {n y : Nat} {ys vs : Nat → Nat} (hA : cuA 79 80 t n ys vs) (hB : ∀ j, j < n → ys j < 200 ∧ vs j < 1000) (hm : ∀ j, j + 1 < n → ys j < ys (j + 1)) (h0 : 0 < n) (hn : n ≤ 16) (hy : y < 200) : t_M_curve_117 (nI n) (0 + nI y) t = sI t 41 0 y (cv ys vs n y (k2 ys n y)) ∧ g_M_curve_117 (nI n) (0 + nI y) t := by
  obtain ⟨a1, a2, a3⟩ := k2_facts (ys := ys) (n := n) (y := y)
  have q0 : ∀ i, i < k2 ys n y → ∀ u, ¬ q_M_curve_126s (nI n) (nI y) (0 + nI i) t u = 1 := fun i hi u => by
    unfold q_M_curve_126s
    have b := hB i (by omega)
    have c := a2 i hi
    rw [if_neg (ng_cnt rfl (by omega) (by omega)), z_nI, nI_cl (by omega), (hA i (by omega)).1, if_neg (by rw [Int32.not_lt]; exact nI_le c (by omega))]; decide
  have q1 : ∀ u, q_M_curve_126s (nI n) (nI y) (0 + nI (k2 ys n y)) t u = 1 := fun u => by
    unfold q_M_curve_126s
    by_cases g : k2 ys n y < n
    · have b := hB _ g
      rw [if_neg (ng_cnt rfl (by omega) g), z_nI, nI_cl (by omega), (hA _ g).1, if_pos ((ltN (by omega) (by omega)).mpr (a3 g))]
    · rw [z_nI, if_pos (nI_le (by omega) (by omega))]
  have nn : n_M_curve_126 (nI n) (nI y) 0 t () = k2 ys n y := leastN_eq (P := fun i => q_M_curve_126s (nI n) (nI y) (0 + nI i) t (f_M_curve_126 (nI n) (nI y) 0 t () i) = 1) (fun i hi => q0 i hi _) (q1 _) (by omega)
  have st : ∀ k, k < n → ¬ k = 0 → ¬ nI (ys k) - nI (ys (k - 1)) = 0 := fun k hk h0 => by
    have c := hm (k - 1) (by omega)
    rw [show k - 1 + 1 = k by omega] at c
    have b := hB k hk
    have e : nI (ys k) - nI (ys (k - 1)) = nI (ys k - ys (k - 1)) := pk_sub (by omega)
    rw [e]
    exact fun q => by have := (nI_eq (b := 0) (by omega) (by decide)).mp q; omega
  have vy : vp_in (nI y) 200 := nI_inb hy (by decide)
  have J : ∀ k, k ≤ n → gj_M_curve_117j147 (nI n) (nI y) (nI k) t ∧ tj_M_curve_117j147 (nI n) (nI y) (nI k) t t = sI t 41 0 y (cv ys vs n y k) := by
    intro k hk
    unfold gj_M_curve_117j147 tj_M_curve_117j147 tj_M_curve_117j245 cv
    rw [nI_cl (i := y) (by omega)]
    by_cases e : k = 0
    · have k0 : nI k = 0 := by rw [e]; rfl
      rw [if_pos k0, if_pos e]
      refine ⟨⟨fun _ => ⟨nI_inb (i := 0) (by decide) (by decide), vy⟩, fun c => absurd k0 c⟩, ?_⟩
      show sI t 41 0 y (gI t 80 0 0) = _
      rw [(hA 0 h0).2]
    · have k0 : ¬ nI k = 0 := fun c => e ((nI_eq (b := 0) (by omega) (by decide)).mp c)
      have ek : nI k - 1 = nI (k - 1) := pk_sub (b := 1) (by omega)
      have en : nI n - 1 = nI (n - 1) := pk_sub (b := 1) (by omega)
      rw [if_neg k0, if_neg e, ek, en, nI_cl (i := k - 1) (by omega), nI_cl (i := k) (by omega), nI_cl (i := n - 1) (by omega)]
      have vk : vp_in (nI (k - 1)) 60 := nI_inb (by omega) (by decide)
      by_cases g : n ≤ k
      · have kn : k = n := by omega
        rw [if_pos (by rw [kn]), if_pos g, (hA (n - 1) (by omega)).2, kn]
        rw [kn] at k0
        exact ⟨⟨fun c => absurd c k0, fun _ => ⟨fun _ => ⟨nI_inb (by omega) (by decide), vy⟩, fun c => absurd rfl c⟩⟩, rfl⟩
      · have kn : ¬ nI k = nI n := fun c => by have := (nI_eq (by omega) (by omega)).mp c; omega
        have s3 := st k (by omega) e
        rw [if_neg kn, if_neg g, (hA k (by omega)).1, (hA (k - 1) (by omega)).1, (hA k (by omega)).2, (hA (k - 1) (by omega)).2]
        have vk2 : vp_in (nI k) 60 := nI_inb (by omega) (by decide)
        exact ⟨⟨fun c => absurd c k0, fun _ => ⟨fun c => absurd c kn, fun _ => ⟨vk, vk2, vk, vk, vk2, vk, s3, vy⟩⟩⟩, rfl⟩
  have Jk := J _ a1
  unfold t_M_curve_117 g_M_curve_117
  rw [if_neg (ng_cnt l200 (by decide) hy), z_nI, nn]
  refine ⟨by rw [z_nI]; exact Jk.2, fun _ => ⟨fun i hi => ⟨fun _ => ?_, q0 i hi _⟩, fun _ => by rw [z_nI]; exact Jk.1, fun c => ⟨?_, fun _ => by rw [z_nI]; exact Jk.1, fun c2 => ?_⟩⟩⟩
  · rw [z_nI]; exact nI_inb (by omega) (by decide)
  · rw [z_nI]; exact nI_inb (by omega) (by decide)
  · have := q1 ()
    unfold q_M_curve_126s at this
    rw [if_neg c, if_neg c2] at this
    exact absurd this (by decide)
theorem cu_117 {t : MSto} {n : Nat} {ys vs : Nat → Nat} (hA : cuA 79 80 t n ys vs) (hB : ∀ j, j < n → ys j < 200 ∧ vs j < 1000) (hm : ∀ j, j + 1 < n → ys j < ys (j + 1)) (h0 : 0 < n) (hn : n ≤ 16) : ∀ m, m ≤ 200 → (agO [41000] t (f_M_curve_117 (nI n) 0 t m) ∧ ∀ y, y < m → gI (f_M_curve_117 (nI n) 0 t m) 41 0 y = cv ys vs n y (k2 ys n y)) ∧ (m < 200 → g_M_curve_117 (nI n) (0 + nI m) (f_M_curve_117 (nI n) 0 t m) ∧ ¬ q_M_curve_117s (nI n) (0 + nI m) (f_M_curve_117 (nI n) 0 t m) = 1) := by
  have vA : ∀ t', agO [41000] t t' → cuA 79 80 t' n ys vs := fun t' w j hj => by rw [w.i rfl, w.i rfl]; exact hA j hj
  have main : ∀ m, m ≤ 200 → agO [41000] t (f_M_curve_117 (nI n) 0 t m) ∧ ∀ y, y < m → gI (f_M_curve_117 (nI n) 0 t m) 41 0 y = cv ys vs n y (k2 ys n y) := by
    intro m
    induction m with
    | zero => exact fun _ => ⟨agO_refl _ t, fun y hy => absurd hy (by omega)⟩
    | succ m ih =>
      intro hm'
      obtain ⟨w, hv⟩ := ih (by omega)
      show agO [41000] t (t_M_curve_117 (nI n) (0 + nI m) (f_M_curve_117 (nI n) 0 t m)) ∧ ∀ y, y < m + 1 → gI (t_M_curve_117 (nI n) (0 + nI m) (f_M_curve_117 (nI n) 0 t m)) 41 0 y = cv ys vs n y (k2 ys n y)
      rw [(cu_valM (vA _ w) hB hm h0 hn (y := m) (by omega)).1]
      refine ⟨agO_sI rfl w, fun y hy => ?_⟩
      rw [gI_at]
      by_cases q : y = m
      · rw [if_pos q, q]
      · rw [if_neg q]; exact hv y (by omega)
  exact fun m hm' => ⟨main m hm', fun h2 => ⟨(cu_valM (vA _ (main m hm').1) hB hm h0 hn (y := m) h2).2, q_cnt l200 (by decide) h2⟩⟩

