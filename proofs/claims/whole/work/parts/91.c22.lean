/-! pairs of stories that a place parts -/
theorem offW_rg {τ : MSto} (hi : iM τ) {s : Nat} (hs : s < nM τ 17) (hh : Int32) : -99 ≤ (offW τ s hh).toInt ∧ (offW τ s hh).toInt ≤ 99 := by
  have h := (hi.t s hs).2.2.2.2.2.2.1
  unfold rg at h
  rw [leI_iff, leI_iff, show (-99 : Int32).toInt = -99 from rfl, show (99 : Int32).toInt = 99 from rfl] at h
  unfold offW
  split
  · exact h
  · exact ⟨by decide, by decide⟩
theorem coreW_rg {τ : MSto} (hi : iM τ) {s : Nat} (hs : s < nM τ 17) (x y : Int32) {w yr : Int32} (hw : rg w 0 3) (hy : rg yr 0 199) : rg (coreW τ s x y w yr) 0 999 := by
  have hb := withStuff_rg hi x y (val_rg hi hy) hw
  unfold coreW
  split
  · exact hb
  · rename_i g
    have h2 := (hi.t s hs).2.2.1 g
    exact mixed_rg hi hb h2.1 ⟨h2.2.1, Int32.le_trans h2.2.2 (by decide)⟩
theorem would_bd {τ : MSto} (hi : iM τ) {s : Nat} (hs : s < nM τ 17) {x : Int32} (y : Int32) {w hh yr : Int32} (hx : rg x 0 23) (hw : rg w 0 3) (hr : rg hh 0 5) (hy : rg yr 0 199) : -3000 ≤ (v_M_wouldAt (nI s) x y w hh yr τ).toInt ∧ (v_M_wouldAt (nI s) x y w hh yr τ).toInt ≤ 4000 := by
  have h6 := hi.c.2.2.2.1.2
  rw [M_would (by omega)]
  obtain ⟨c, ec, hc⟩ := nat_rg (b := 999) (coreW_rg hi hs x y hw (fromY_rg hi hs x y hy)) (by decide)
  obtain ⟨X, rfl, hX⟩ := nat_rg (b := 23) hx (by decide)
  obtain ⟨n, rfl, hn⟩ := nat_rg (b := 5) hr (by decide)
  have hsl := (hi.h n (by omega)).1
  have hd := (hi.t s hs).2.2.2.2.1
  have ho := offW_rg hi hs (nI n)
  unfold rg at hsl hd
  rw [leI_iff, leI_iff, show (-50 : Int32).toInt = -50 from rfl, show (50 : Int32).toInt = 50 from rfl] at hsl
  rw [leI_iff, leI_iff, show (-99 : Int32).toInt = -99 from rfl, show (99 : Int32).toInt = 99 from rfl] at hd
  rw [ec, nI_cl (by omega)]
  have e1 : (nI c).toInt = (c : Int) := nI_toInt (by omega)
  have eX : (nI X).toInt = (X : Int) := nI_toInt (by omega)
  generalize gI τ 45 0 n = sl at hsl ⊢
  generalize gI τ 56 0 s = d at hd ⊢
  generalize offW τ s (nI n) = o at ho ⊢
  have hm : (d.toInt * (X : Int)).natAbs ≤ 99 * 23 := by
    rw [Int.natAbs_mul]
    exact Nat.mul_le_mul (by omega) (by omega)
  have s1 : (nI c + sl).toInt = c + sl.toInt := by rw [fb_addI (by rw [e1]; omega) (by rw [e1]; omega), e1]
  have s2 : (d * nI X).toInt = d.toInt * X := by rw [fb_mulI (by rw [eX]; omega) (by rw [eX]; omega), eX]
  have s3 : (nI c + sl + d * nI X).toInt = c + sl.toInt + d.toInt * X := by rw [fb_addI (by rw [s1, s2]; omega) (by rw [s1, s2]; omega), s1, s2]
  have s4 : (nI c + sl + d * nI X + o).toInt = c + sl.toInt + d.toInt * X + o.toInt := by rw [fb_addI (by rw [s3]; omega) (by rw [s3]; omega), s3]
  rw [s4]
  omega
theorem absI_i {a : Int32} (h : a.toInt ≠ -2147483648) (τ : MSto) : (v_Ma_absI a τ).toInt = a.toInt.natAbs := by
  unfold v_Ma_absI
  have h0 : (0 : Int32).toInt = 0 := rfl
  split
  · rename_i g
    rw [leI_iff, h0] at g
    omega
  · rename_i g
    rw [leI_iff, h0] at g
    rw [fb_negI h]
    omega
theorem gap_abs {a b : Int32} (ha : -3000 ≤ a.toInt ∧ a.toInt ≤ 4000) (hb : -3000 ≤ b.toInt ∧ b.toInt ≤ 4000) {s : Int32} (hs : rg s 1 60) (σ τ : MSto) : lg_cmp (v_C_gap a.toInt64 b.toInt64 σ) (2 * s).toInt64 ≤ 0 ↔ v_Ma_absI (a - b) τ ≤ 2 * s := by
  obtain ⟨n, rfl, h1, h2⟩ := sp_nat hs
  obtain ⟨g, e1, e2, e3⟩ := gap_nat a b σ
  have e4 : v_C_gap a.toInt64 b.toInt64 σ = lN g := e1
  have e5 : (2 : Int32) * nI n = nI (2 * n) := pk_mul 2 n
  have e6 : (a - b).toInt = a.toInt - b.toInt := fb_subI (by omega) (by omega)
  have e7 := absI_i (a := a - b) (by rw [e6]; omega) τ
  rw [e6] at e7
  rw [e4, e5, nI_l (by omega), cmp_leN (by omega) (by omega), leI_iff, e7, nI_toInt (by omega)]
  omega
noncomputable def ptB (τ : MSto) (x y w hh yr : Int32) (a b : Nat) : Bool := !(decide (v_M_areParted (nI a) (nI b) x y w hh yr τ = 0))
theorem ptB_0 {τ : MSto} {x y w hh yr : Int32} {a b : Nat} : v_M_areParted (nI a) (nI b) x y w hh yr τ = 0 ↔ ptB τ x y w hh yr a b = false := by
  unfold ptB
  by_cases g : v_M_areParted (nI a) (nI b) x y w hh yr τ = 0
  · rw [decide_eq_true g]; exact ⟨fun _ => rfl, fun _ => g⟩
  · rw [decide_eq_false g]; exact ⟨fun q => absurd q g, fun q => by cases q⟩
/-- pairs as bits -/
def base (S : Nat) (n : Nat) : Nat := fb_sm (fun i => S - (i + 1)) n
theorem base_s (S n : Nat) : base S (n + 1) = base S n + (S - (n + 1)) := rfl
def kIn (f : Nat → Nat → Bool) (b i K : Nat) : Nat → Nat
  | 0 => K
  | m + 1 => if f i (i + 1 + m) = true then kIn f b i K m ||| 2 ^ (b + m) else kIn f b i K m
def kOut (f : Nat → Nat → Bool) (S : Nat) : Nat → Nat
  | 0 => 0
  | i + 1 => kIn f (base S i) i (kOut f S i) (S - (i + 1))
theorem kIn_s (f : Nat → Nat → Bool) (b i K m : Nat) : kIn f b i K (m + 1) = if f i (i + 1 + m) = true then kIn f b i K m ||| 2 ^ (b + m) else kIn f b i K m := rfl
theorem kOut_s (f : Nat → Nat → Bool) (S i : Nat) : kOut f S (i + 1) = kIn f (base S i) i (kOut f S i) (S - (i + 1)) := rfl
theorem kIn_lt (f : Nat → Nat → Bool) {b i K : Nat} (hK : K < 2 ^ b) : ∀ m, kIn f b i K m < 2 ^ (b + m)
  | 0 => hK
  | m + 1 => by
    have ih := kIn_lt f (i := i) hK m
    have h1 : 2 ^ (b + m) < 2 ^ (b + (m + 1)) := Nat.pow_lt_pow_right (by decide) (by omega)
    rw [kIn_s]
    split
    · exact Nat.or_lt_two_pow (by omega) h1
    · omega
theorem kOut_lt (f : Nat → Nat → Bool) (S : Nat) : ∀ n, kOut f S n < 2 ^ base S n
  | 0 => Nat.one_pos
  | n + 1 => by
    rw [kOut_s, base_s]
    exact kIn_lt f (kOut_lt f S n) _
theorem hi_bit {K b q : Nat} (h : K < 2 ^ b) (hq : b ≤ q) : K.testBit q = false := Nat.testBit_lt_two_pow (Nat.lt_of_lt_of_le h (Nat.pow_le_pow_right (by decide) hq))
theorem kIn_bit (f : Nat → Nat → Bool) {b i K : Nat} (hK : K < 2 ^ b) : ∀ m q, (kIn f b i K m).testBit q = if q < b then K.testBit q else if q < b + m then f i (i + 1 + (q - b)) else false
  | 0, q => by
    by_cases g : q < b
    · rw [if_pos g]; rfl
    · rw [if_neg g, if_neg (by omega)]
      exact hi_bit hK (by omega)
  | m + 1, q => by
    have ih := kIn_bit f (i := i) hK m q
    rw [kIn_s]
    by_cases e : q = b + m
    · subst e
      rw [if_neg (by omega : ¬ b + m < b), if_pos (by omega : b + m < b + (m + 1)), show b + m - b = m by omega]
      by_cases c : f i (i + 1 + m) = true
      · rw [if_pos c, fb_bit_set, decide_eq_true rfl, Bool.or_true, c]
      · rw [if_neg c, ih, if_neg (by omega : ¬ b + m < b), if_neg (by omega : ¬ b + m < b + m)]
        cases hf : f i (i + 1 + m) with
        | false => rfl
        | true => exact absurd hf c
    · have e2 : (if q < b + (m + 1) then f i (i + 1 + (q - b)) else false) = if q < b + m then f i (i + 1 + (q - b)) else false := by
        by_cases c : q < b + m
        · rw [if_pos c, if_pos (by omega)]
        · rw [if_neg c, if_neg (by omega)]
      rw [e2, ← ih]
      split
      · rw [fb_bit_set, decide_eq_false e, Bool.or_false]
      · rfl
theorem base_le (S : Nat) {i n : Nat} (h : i < n) : base S i + (S - (i + 1)) ≤ base S n := fb_sm_part (fun i => S - (i + 1)) h
theorem kOut_bit (f : Nat → Nat → Bool) {S : Nat} : ∀ n i m, i < n → m < S - (i + 1) → (kOut f S n).testBit (base S i + m) = f i (i + 1 + m)
  | 0, i, m, h, _ => absurd h (by omega)
  | n + 1, i, m, h, hm => by
    rw [kOut_s, kIn_bit f (kOut_lt f S n)]
    by_cases e : i = n
    · subst e
      rw [if_neg (by omega), if_pos (by omega), show base S i + m - base S i = m by omega]
    · have := base_le S (i := i) (n := n) (by omega)
      rw [if_pos (by omega)]
      exact kOut_bit f n i m (by omega) hm
def cntP (f : Nat → Nat → Bool) (S : Nat) (n : Nat) : Nat := fb_sm (fun i => fb_ct (fun m => f i (i + 1 + m)) (S - (i + 1))) n
theorem kIn_ct (f : Nat → Nat → Bool) {b i K : Nat} (hK : K < 2 ^ b) (m : Nat) : fb_ct (kIn f b i K m).testBit (b + m) = fb_ct K.testBit b + fb_ct (fun m => f i (i + 1 + m)) m := by
  rw [fb_ct_split _ b m]
  congr 1
  · exact fb_ct_cong (fun q hq => by rw [kIn_bit f hK, if_pos hq])
  · exact fb_ct_cong (fun q hq => by rw [kIn_bit f hK, if_neg (by omega), if_pos (by omega), show b + q - b = q by omega])
theorem kOut_ct (f : Nat → Nat → Bool) (S : Nat) : ∀ n, fb_ct (kOut f S n).testBit (base S n) = cntP f S n
  | 0 => rfl
  | n + 1 => by
    rw [kOut_s, base_s, kIn_ct f (kOut_lt f S n), kOut_ct f S n]
    rfl
theorem base_15 {S : Nat} (h : S ≤ 6) : base S S ≤ 15 := by
  have : ∀ S, S ≤ 6 → base S S ≤ 15 := by decide
  exact this S h
theorem base_mono (S : Nat) : ∀ {m n}, m ≤ n → base S m ≤ base S n := by
  intro m n h
  obtain ⟨d, rfl⟩ : ∃ d, n = m + d := ⟨n - m, by omega⟩
  exact fb_sm_mono _ m d
theorem kOut_pop (f : Nat → Nat → Bool) {S : Nat} (h : S ≤ 6) : pop (kOut f S S) = cntP f S S := by
  have hb := base_15 h
  have h1 := fb_ct_split (kOut f S S).testBit (base S S) (15 - base S S)
  rw [show base S S + (15 - base S S) = 15 by omega, kOut_ct] at h1
  have h2 : fb_ct (fun k => (kOut f S S).testBit (base S S + k)) (15 - base S S) = 0 := fb_ct_zero.mpr (fun k _ => hi_bit (kOut_lt f S S) (by omega))
  unfold pop
  omega
theorem shl15 : ∀ p, p < 16 → (1 : Int32) <<< (nI p &&& 31) = nI (2 ^ p) := by decide +kernel
/-! the class's bits -/
theorem f_bares {σ τ : MSto} (h : Cpl σ τ) (x y : Int32) {w yr : Int32} (hw : rg w 0 3) (hy : rg yr 0 199) : ∀ n, n ≤ nM τ 17 → agO [29000] σ (f_C_layBares_3 x y w yr 0 σ n) ∧ ∀ i, i < n → gI (f_C_layBares_3 x y w yr 0 σ n) 29 0 i = coreW τ i x y w (fromY τ i x y yr) + gI τ 56 0 i * x
  | 0, _ => ⟨agO_refl _ _, fun i hi => absurd hi (by omega)⟩
  | n + 1, hn => by
    have hS := h.S6
    obtain ⟨w1, ih⟩ := f_bares h x y hw hy n (by omega)
    have e : f_C_layBares_3 x y w yr 0 σ (n + 1) = t_C_layBares_3 x y w yr (0 + nI n) (f_C_layBares_3 x y w yr 0 σ n) := rfl
    rw [e]
    generalize f_C_layBares_3 x y w yr 0 σ n = s at w1 ih ⊢
    have hc : Cpl s τ := h.mv w1 (agO_refl [] τ) rfl rfl
    unfold t_C_layBares_3
    rw [if_neg (ng_cnt (cp_storyCount hc) (by omega) (by omega : n < nM τ 17)), z_nI, nI_cl (by omega), al_v (by omega), cp_bare hc (by omega) x y hw hy]
    refine ⟨agO_sI rfl w1, fun i hi => ?_⟩
    rw [gI_at]
    by_cases q : i = n
    · rw [if_pos q, q]
    · rw [if_neg q]; exact ih i (by omega)
theorem layBares {σ τ : MSto} (h : Cpl σ τ) (x y : Int32) {w yr : Int32} (hw : rg w 0 3) (hy : rg yr 0 199) : p_C_layBares x y w yr σ ∧ Cpl (e_C_layBares x y w yr σ) τ ∧ ∀ i, i < nM τ 17 → gI (e_C_layBares x y w yr σ) 29 0 i = coreW τ i x y w (fromY τ i x y yr) + gI τ 56 0 i * x := by
  have hS := h.S6
  have nn : n_C_layBares_3 x y w yr 0 σ = nM τ 17 := by unfold n_C_layBares_3; exact cp_sN h
  have hc : ∀ i, i ≤ nM τ 17 → Cpl (f_C_layBares_3 x y w yr 0 σ i) τ := fun i hi => h.mv (f_bares h x y hw hy i hi).1 (agO_refl [] τ) rfl rfl
  refine ⟨?_, h.mv (w_C_layBares _ _ _ _ σ) (agO_refl [] τ) rfl rfl, ?_⟩
  · unfold p_C_layBares
    rw [nn]
    refine ⟨fun i hi => ⟨fun _ => ?_, q_cnt (cp_storyCount (hc i (by omega))) (by omega) hi⟩, fun q => q (e_cnt (cp_storyCount (hc _ (Nat.le_refl _))))⟩
    rw [z_nI, al_v (by omega)]
    exact ⟨al_p (hc i (by omega)).lS (by omega) hi, pc_bare (hc i (by omega)) _ _ _ hw, nI_inb (by omega) (by decide)⟩
  · unfold e_C_layBares
    rw [nn]
    exact (f_bares h x y hw hy _ (Nat.le_refl _)).2
theorem pairsIn {σ τ : MSto} (h : Cpl σ τ) {x : Int32} (y : Int32) {w hh yr : Int32} (hx : rg x 0 23) (hw : rg w 0 3) (hr : rg hh 0 5) (hy : rg yr 0 199) (hB : ∀ i, i < nM τ 17 → gI σ 29 0 i = coreW τ i x y w (fromY τ i x y yr) + gI τ 56 0 i * x) : v_C_pairsPartedIn hh σ = nI (kOut (ptB τ x y w hh yr) (nM τ 17) (nM τ 17)) ∧ p_C_pairsPartedIn hh σ := by
  have hS := h.S6
  obtain ⟨S, eS⟩ : ∃ S, S = nM τ 17 := ⟨_, rfl⟩
  rw [← eS] at hB hS ⊢
  have sC : v_C_storyCount σ = nI S := by rw [eS]; exact cp_storyCount h
  obtain ⟨N, eN, hN⟩ := nat_rg (b := 5) hr (by decide)
  have hsp : gI σ 21 0 hh.toNatClampNeg = gI τ 46 0 hh.toNatClampNeg := by rw [eN, nI_cl (by omega)]; exact (h.h N (by omega)).2
  have hspr : rg (gI τ 46 0 hh.toNatClampNeg) 1 60 := by rw [eN, nI_cl (by omega)]; exact (h.m.h N (by omega)).2
  have vh : vp_in hh 6 := house_in hr
  have would : ∀ i, i < S → gI σ 29 0 i + v_C_houseAdds (eL σ 15 i) hh σ = v_M_wouldAt (nI i) x y w hh yr τ := fun i hi => by
    rw [hB i hi, ← cp_bare h (by omega) x y hw hy]
    exact cp_would h (by omega) x y hw hr hy
  have bd : ∀ i, i < S → -3000 ≤ (v_M_wouldAt (nI i) x y w hh yr τ).toInt ∧ (v_M_wouldAt (nI i) x y w hh yr τ).toInt ≤ 4000 := fun i hi => would_bd h.m (by omega) y hx hw hr hy
  have cmp : ∀ i j, i < S → j < S → (lg_cmp (v_C_gap (v_M_wouldAt (nI i) x y w hh yr τ).toInt64 (v_M_wouldAt (nI j) x y w hh yr τ).toInt64 σ) (2 * gI τ 46 0 hh.toNatClampNeg).toInt64 ≤ 0 ↔ ptB τ x y w hh yr i j = false) := fun i j hi hj => by
    rw [gap_abs (bd i hi) (bd j hj) hspr σ τ, ← ptB_0]
    unfold v_M_areParted b_M_areParted
    by_cases g : v_Ma_absI (v_M_wouldAt (nI i) x y w hh yr τ - v_M_wouldAt (nI j) x y w hh yr τ) τ ≤ 2 * gI τ 46 0 hh.toNatClampNeg
    · rw [if_pos g]; exact ⟨fun _ => bz id, fun _ => g⟩
    · rw [if_neg g]; exact ⟨fun q => absurd q g, fun q => absurd q (bn trivial)⟩
  have b15 := base_15 hS
  -- the inner loop
  have inner : ∀ i K, i < S → K < 2 ^ base S i → ∀ m, m ≤ S - (i + 1) → f_C_pairsPartedIn_53 hh (nI S) (nI i) (v_M_wouldAt (nI i) x y w hh yr τ) (nI (i + 1)) σ (nI K, nI (base S i)) m = (nI (kIn (ptB τ x y w hh yr) (base S i) i K m), nI (base S i + m)) := by
    intro i K hi hK m
    induction m with
    | zero => exact fun _ => rfl
    | succ m ih =>
      intro hm
      have hbi := base_le S hi
      show t_C_pairsPartedIn_53 hh (nI S) (nI i) (v_M_wouldAt (nI i) x y w hh yr τ) (nI (i + 1) + nI m) σ (f_C_pairsPartedIn_53 hh (nI S) (nI i) (v_M_wouldAt (nI i) x y w hh yr τ) (nI (i + 1)) σ (nI K, nI (base S i)) m) = _
      rw [ih (by omega), nI_add, kIn_s]
      unfold t_C_pairsPartedIn_53
      rw [if_neg (nI_ge (by omega) (by omega)), nI_cl (by omega), al_v (by omega), would _ (by omega), hsp]
      have c := cmp i (i + 1 + m) hi (by omega)
      show (if lg_cmp _ _ ≤ 0 then (nI _, nI (base S i + m) + 1) else (nI (kIn (ptB τ x y w hh yr) (base S i) i K m) ||| ((1 : Int32) <<< (nI (base S i + m) &&& 31)), nI (base S i + m) + 1)) = _
      rw [shl15 _ (by omega), fa_or, nI_s]
      cases hp : ptB τ x y w hh yr i (i + 1 + m) with
      | false => rw [if_pos (c.mpr hp), if_neg (by decide)]; rfl
      | true => rw [if_neg (fun q => by have := c.mp q; rw [hp] at this; cases this), if_pos rfl]; rfl
  have nIn : ∀ i (z : Int32) (s : Int32 × Int32), i < S → n_C_pairsPartedIn_53 hh (nI S) (nI i) z (nI (i + 1)) σ s = S - (i + 1) := fun i z s hi => by
    unfold n_C_pairsPartedIn_53
    rw [nI_cl (by omega), nI_cl (by omega)]
  have outer : ∀ n, n ≤ S → f_C_pairsPartedIn_13 hh (nI S) 0 σ (0, 0) n = (nI (kOut (ptB τ x y w hh yr) S n), nI (base S n)) := by
    intro n
    induction n with
    | zero => exact fun _ => rfl
    | succ n ih =>
      intro hn
      show t_C_pairsPartedIn_13 hh (nI S) (0 + nI n) σ (f_C_pairsPartedIn_13 hh (nI S) 0 σ (0, 0) n) = _
      rw [ih (by omega)]
      unfold t_C_pairsPartedIn_13
      rw [z_nI, if_neg (nI_ge (by omega) (by omega)), nI_s, al_v (by omega), nI_cl (by omega), would n (by omega), nIn n _ _ (by omega)]
      show ((f_C_pairsPartedIn_53 hh (nI S) (nI n) (v_M_wouldAt (nI n) x y w hh yr τ) (nI (n + 1)) σ (nI (kOut (ptB τ x y w hh yr) S n), nI (base S n)) (S - (n + 1))).1, (f_C_pairsPartedIn_53 hh (nI S) (nI n) (v_M_wouldAt (nI n) x y w hh yr τ) (nI (n + 1)) σ (nI (kOut (ptB τ x y w hh yr) S n), nI (base S n)) (S - (n + 1))).2) = _
      rw [inner n _ (by omega) (kOut_lt _ S n) _ (Nat.le_refl _)]
      rfl
  have nOut : n_C_pairsPartedIn_13 hh (nI S) 0 σ (0, 0) = S := by unfold n_C_pairsPartedIn_13; exact nI_cl (by omega)
  constructor
  · unfold v_C_pairsPartedIn
    rw [sC, nOut, outer S (Nat.le_refl _)]
  · unfold p_C_pairsPartedIn
    rw [sC, nOut]
    refine ⟨fun i hi => ⟨fun _ => ?_, q_cnt rfl (by omega) hi⟩, fun q => q (e_cnt rfl)⟩
    rw [outer i (by omega), z_nI, al_v (by omega), nI_s, nI_cl (by omega), would i hi]
    have get := fun j (hj : j < S) => al_p h.lS (by omega) (show j < nM τ 17 by omega)
    refine ⟨nI_inb (by omega) (by decide), get i hi, vh, fun m hm => ⟨fun _ => ?_, ?_⟩, fun q => q ?_⟩
    · rw [nIn i _ _ hi] at hm
      rw [nI_add]
      exact ⟨nI_inb (by omega) (by decide), get _ (by omega), vh, vh⟩
    · rw [nIn i _ _ hi] at hm
      unfold q_C_pairsPartedIn_53s
      rw [nI_add, if_neg (nI_ge (by omega) (by omega))]; decide
    · rw [nIn i _ _ hi, nI_add]
      exact nI_le (by omega) (by omega)
/-- the reference counts -/
theorem pM_areParted {τ : MSto} (hi : iM τ) {x : Int32} (y : Int32) {w hh yr : Int32} (hw : rg w 0 3) (hr : rg hh 0 5) (hy : rg yr 0 199) {a b : Nat} (ha : a < nM τ 17) (hb : b < nM τ 17) : p_M_areParted (nI a) (nI b) x y w hh yr τ := ⟨pM_would hi ha _ _ hw hr hy, pM_would hi hb _ _ hw hr hy, house_in hr⟩
theorem partedAt {τ : MSto} (hi : iM τ) {x : Int32} (y : Int32) {w hh yr : Int32} (hw : rg w 0 3) (hr : rg hh 0 5) (hy : rg yr 0 199) : v_M_partedAt x y w hh yr τ = nI (cntP (ptB τ x y w hh yr) (nM τ 17) (nM τ 17)) ∧ p_M_partedAt x y w hh yr τ := by
  have hS := hi.c.2.2.2.1.2
  have cS := hi.c.2.2.2.1.1
  obtain ⟨S, eS⟩ : ∃ S, S = nM τ 17 := ⟨_, rfl⟩
  rw [← eS] at hS cS ⊢
  have inner : ∀ i c, i < S → ∀ m, m ≤ S - (i + 1) → f_M_partedAt_21 x y w hh yr (nI i) (nI (i + 1)) τ (nI c) m = nI (c + fb_ct (fun m => ptB τ x y w hh yr i (i + 1 + m)) m) := by
    intro i c hi' m
    induction m with
    | zero => exact fun _ => rfl
    | succ m ih =>
      intro hm
      show t_M_partedAt_21 x y w hh yr (nI i) (nI (i + 1) + nI m) τ (f_M_partedAt_21 x y w hh yr (nI i) (nI (i + 1)) τ (nI c) m) = _
      rw [ih (by omega), nI_add, fb_ct_succ]
      unfold t_M_partedAt_21
      rw [cS, if_neg (nI_ge (by omega) (by omega))]
      cases hp : ptB τ x y w hh yr i (i + 1 + m) with
      | false => rw [if_pos (ptB_0.mpr hp), if_neg (by decide), Int32.add_zero]; rfl
      | true => rw [if_neg (fun q => by have := ptB_0.mp q; rw [hp] at this; cases this), if_pos rfl, nI_s]; rfl
  have nIn : ∀ i (s : Int32), i < S → n_M_partedAt_21 x y w hh yr (nI i) (nI (i + 1)) τ s = S - (i + 1) := fun i s hi' => by
    unfold n_M_partedAt_21
    rw [nI_cl (by omega), ← eS]
  have outer : ∀ n, n ≤ S → f_M_partedAt_6 x y w hh yr 0 τ 0 n = nI (cntP (ptB τ x y w hh yr) S n) := by
    intro n
    induction n with
    | zero => exact fun _ => rfl
    | succ n ih =>
      intro hn
      show t_M_partedAt_6 x y w hh yr (0 + nI n) τ (f_M_partedAt_6 x y w hh yr 0 τ 0 n) = _
      rw [ih (by omega)]
      unfold t_M_partedAt_6
      rw [z_nI, cS, if_neg (nI_ge (by omega) (by omega)), nI_s, nIn n _ (by omega), inner n _ (by omega) _ (Nat.le_refl _)]
      rfl
  have nOut : n_M_partedAt_6 x y w hh yr 0 τ 0 = S := eS.symm
  constructor
  · unfold v_M_partedAt
    rw [nOut]
    exact outer S (Nat.le_refl _)
  · unfold p_M_partedAt
    rw [nOut]
    refine ⟨fun i hi' => ⟨fun _ => ?_, q_cnt cS (by omega) hi'⟩, fun q => q (e_cnt cS)⟩
    rw [outer i (by omega), z_nI, nI_s]
    refine ⟨fun m hm => ⟨fun _ => ?_, ?_⟩, fun q => q ?_⟩
    · rw [nIn i _ hi'] at hm
      rw [nI_add]
      exact pM_areParted hi y hw hr hy (by omega) (by omega)
    · rw [nIn i _ hi'] at hm
      unfold q_M_partedAt_21s
      rw [nI_add, cS, if_neg (nI_ge (by omega) (by omega))]; decide
    · rw [nIn i _ hi', nI_add, cS]
      exact nI_le (by omega) (by omega)
/-- a piece's pairs, both ways -/
noncomputable def pcF (τ : MSto) (p : Nat) (yr : Int32) : Nat → Nat → Bool := ptB τ (gI τ 47 0 p) (gI τ 48 0 p) (gI τ 49 0 p) (gI τ 50 0 p) yr
theorem pairsBy {σ τ : MSto} (h : Cpl σ τ) {p : Nat} (hp : p < nM τ 10) {yr : Int32} (hy : rg yr 0 199) : v_C_pairsPartedBy p yr σ = nI (kOut (pcF τ p yr) (nM τ 17) (nM τ 17)) ∧ p_C_pairsPartedBy p yr σ ∧ Cpl (e_C_pairsPartedBy p yr σ) τ ∧ v_M_partedBy (nI p) yr τ = nI (cntP (pcF τ p yr) (nM τ 17) (nM τ 17)) ∧ p_M_partedBy (nI p) yr τ := by
  have hP := h.P12
  obtain ⟨r1, r2, r3, r4⟩ := h.m.p p hp
  obtain ⟨-, k1, k2, k3, k4⟩ := h.p.2.2 p hp
  obtain ⟨b1, b2, b3⟩ := layBares h (gI τ 47 0 p) (gI τ 48 0 p) r3 hy
  have e3 : gI (e_C_layBares (gI τ 47 0 p) (gI τ 48 0 p) (gI τ 49 0 p) yr σ) 7 p 3 = gI τ 50 0 p := (b2.p.2.2 p hp).2.2.2.2
  obtain ⟨c1, c2⟩ := pairsIn b2 (gI τ 48 0 p) r1 r3 r4 hy b3
  obtain ⟨d1, d2⟩ := partedAt h.m (x := gI τ 47 0 p) (gI τ 48 0 p) r3 r4 hy
  have vp : vp_in (nI p) 12 := nI_inb (by omega) (by decide)
  refine ⟨?_, ?_, ?_, ?_, ?_⟩
  · unfold v_C_pairsPartedBy
    rw [k1, k2, k3, e3]
    exact c1
  · unfold p_C_pairsPartedBy
    rw [k1, k2, k3, e3]
    exact ⟨b1, c2⟩
  · unfold e_C_pairsPartedBy
    rw [k1, k2, k3]
    exact b2
  · unfold v_M_partedBy
    rw [nI_cl (by omega)]
    exact d1
  · unfold p_M_partedBy
    rw [nI_cl (by omega)]
    exact ⟨vp, vp, vp, vp, d2⟩
theorem kOut_15 (f : Nat → Nat → Bool) {S : Nat} (h : S ≤ 6) : kOut f S S < 32768 := Nat.lt_of_lt_of_le (kOut_lt f S S) (Nat.pow_le_pow_right (n := 2) (by decide) (base_15 h))
theorem bc_pairs (f : Nat → Nat → Bool) {S : Nat} (h : S ≤ 6) (σ : MSto) : v_In_bitCount (nI (kOut f S S)) σ = nI (cntP f S S) := by
  rw [bitCount_nI (kOut_15 f h), kOut_pop f h]
theorem cntP_le (f : Nat → Nat → Bool) {S : Nat} (h : S ≤ 6) : cntP f S S ≤ 15 := by
  rw [← kOut_pop f h]
  exact fb_ct_le _ _

