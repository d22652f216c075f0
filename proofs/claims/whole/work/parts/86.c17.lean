/-! how far counts are apart: apart, odd -/
noncomputable def spN (τ : MSto) (p : Nat) : Nat := (v_M_spanOf (nI p) τ).toInt.natAbs
theorem spN_eq {τ : MSto} (hm : iM τ) {p : Nat} (hp : p < nM τ 10) : v_M_spanOf (nI p) τ = nI (spN τ p) ∧ 1 ≤ spN τ p ∧ spN τ p ≤ 60 := by
  obtain ⟨n, e, h1, h2⟩ := sp_nat (spanOf_rg hm hp)
  have : spN τ p = n := by
    unfold spN
    rw [e, nI_toInt (by omega)]
    rfl
  rw [this]
  exact ⟨e, h1, h2⟩
noncomputable def sqN (τ : MSto) (k i j : Nat) : Nat → Nat
  | 0 => 1
  | n + 1 => if k.testBit n = true ∧ n ≠ i ∧ n ≠ j then sqN τ k i j n * (spN τ n * spN τ n) else sqN τ k i j n
theorem sqN_s (τ : MSto) (k i j n : Nat) : sqN τ k i j (n + 1) = if k.testBit n = true ∧ n ≠ i ∧ n ≠ j then sqN τ k i j n * (spN τ n * spN τ n) else sqN τ k i j n := rfl
theorem sqN_comm (τ : MSto) (k i j : Nat) : ∀ n, sqN τ k i j n = sqN τ k j i n
  | 0 => rfl
  | n + 1 => by
    rw [sqN_s, sqN_s, sqN_comm τ k i j n]
    by_cases g : k.testBit n = true ∧ n ≠ i ∧ n ≠ j
    · rw [if_pos g, if_pos ⟨g.1, g.2.2, g.2.1⟩]
    · rw [if_neg g, if_neg (fun q => g ⟨q.1, q.2.2, q.2.1⟩)]
theorem sp_l {τ : MSto} (hm : iM τ) {p : Nat} (hp : p < nM τ 10) : (v_M_spanOf (nI p) τ).toInt64 * (v_M_spanOf (nI p) τ).toInt64 = lN (spN τ p * spN τ p) := by
  obtain ⟨e, h1, h2⟩ := spN_eq hm hp
  rw [e, nI_l (by omega), lN_mul]
theorem M_sq {τ : MSto} (hm : iM τ) {k a b : Nat} (ha : a < 32) (hb : b < 32) : ∀ n, n ≤ nM τ 10 → nfold (t_M_spansBut (nI k) (nI a) (nI b) τ) 1 n = lN (sqN τ k a b n)
  | 0, _ => rfl
  | n + 1, hn => by
    have hP : nM τ 10 ≤ 12 := hm.c.2.2.1.2
    have ih := M_sq hm (k := k) ha hb n (by omega)
    rw [nfold_s, ih, sqN_s]
    unfold t_M_spansBut
    rw [hasM (by omega), sp_l hm (by omega), lN_mul]
    by_cases g : k.testBit n = true
    · rw [if_neg (bn g)]
      by_cases g1 : n = a
      · rw [if_pos (by rw [g1]), if_neg (fun q => q.2.1 g1)]
      · rw [if_neg (fun q => g1 ((nI_eq (by omega) (by omega)).mp q))]
        by_cases g2 : n = b
        · rw [if_pos (by rw [g2]), if_neg (fun q => q.2.2 g2)]
        · rw [if_neg (fun q => g2 ((nI_eq (by omega) (by omega)).mp q)), if_pos ⟨g, g1, g2⟩]
    · rw [if_pos (bz g), if_neg (fun q => g q.1)]
theorem M_sqP {τ : MSto} (hm : iM τ) {k a b : Nat} (ha : a < 32) (hb : b < 32) : v_M_spansBut (nI k) (nI a) (nI b) τ = lN (sqN τ k a b (nM τ 10)) := M_sq hm ha hb _ (Nat.le_refl _)
theorem C_sq {σ τ : MSto} (h : Cpl σ τ) {B : Int32} {k i j : Nat} (hB : ∀ p, p < 12 → (bt B p = true ↔ (k.testBit p = true ∧ p ≠ i ∧ p ≠ j))) : ∀ n, n ≤ nM τ 10 → f_C_squaresOf_5 B 0 σ 1 n = lN (sqN τ k i j n)
  | 0, _ => rfl
  | n + 1, hn => by
    have hP := h.P12
    have ih := C_sq h hB n (by omega)
    show t_C_squaresOf_5 B (0 + nI n) σ (f_C_squaresOf_5 B 0 σ 1 n) = _
    rw [ih, sqN_s]
    unfold t_C_squaresOf_5
    rw [if_neg (ng_cnt (cp_pieceCount h) (by omega) (by omega : n < nM τ 10)), z_nI, cp_hasC _ (by omega), al_v (by omega), h.eP (by omega), cp_span h (by omega), sp_l h.m (by omega), lN_mul]
    have hb := hB n (by omega)
    by_cases g : k.testBit n = true ∧ n ≠ i ∧ n ≠ j
    · rw [if_neg (bn (hb.mpr g)), if_pos g]
    · rw [if_pos (bz (fun q => g (hb.mp q))), if_neg g]
theorem C_sqP {σ τ : MSto} (h : Cpl σ τ) {B : Int32} {k i j : Nat} (hB : ∀ p, p < 12 → (bt B p = true ↔ (k.testBit p = true ∧ p ≠ i ∧ p ≠ j))) : v_C_squaresOf B σ = lN (sqN τ k i j (nM τ 10)) := by
  unfold v_C_squaresOf n_C_squaresOf_5
  rw [cp_pN h]
  exact C_sq h hB _ (Nat.le_refl _)
theorem pc_squaresOf {σ τ : MSto} (h : Cpl σ τ) (B : Int32) : p_C_squaresOf B σ := by
  have hP := h.P12
  unfold p_C_squaresOf n_C_squaresOf_5
  rw [cp_pN h]
  refine ⟨fun i hi => ⟨fun _ _ => ?_, q_cnt (cp_pieceCount h) (by omega) hi⟩, fun q => q (e_cnt (cp_pieceCount h))⟩
  rw [z_nI, al_v (by omega), h.eP hi]
  exact ⟨al_p h.lP (by omega) hi, house_vin h hi⟩
/-! counts -/
noncomputable def clN (τ : MSto) (p : Nat) : Int := (v_M_cleared (nI p) τ).toInt
theorem clN_rg {τ : MSto} (hm : iM τ) {p : Nat} (hp : p < nM τ 10) : -200 ≤ clN τ p ∧ clN τ p ≤ 2050 := by
  have hP : nM τ 10 ≤ 12 := hm.c.2.2.1.2
  obtain ⟨n, e, hn⟩ := house_rg hm hp
  have h1 := hm.n.1 p (by omega)
  have h2 := (hm.h n (by omega)).1
  unfold rg at h1 h2
  rw [leI_iff, leI_iff, show (-150 : Int32).toInt = -150 from rfl, show (2000 : Int32).toInt = 2000 from rfl] at h1
  rw [leI_iff, leI_iff, show (-50 : Int32).toInt = -50 from rfl, show (50 : Int32).toInt = 50 from rfl] at h2
  unfold clN v_M_cleared
  rw [nI_cl (by omega), e, nI_cl (by omega), fb_subI (by omega) (by omega)]
  omega
theorem mul_self_nn (x : Int) : 0 ≤ x * x := by
  rcases Int.le_total 0 x with h | h
  · exact Int.mul_nonneg h h
  · exact Int.mul_nonneg_of_nonpos_of_nonpos h h
noncomputable def ddN (τ : MSto) (a b : Nat) : Nat := ((clN τ a - clN τ b) * (clN τ a - clN τ b)).natAbs
theorem ddN_comm (τ : MSto) (a b : Nat) : ddN τ a b = ddN τ b a := by
  unfold ddN
  congr 1
  rw [show clN τ b - clN τ a = -(clN τ a - clN τ b) by omega, Int.neg_mul_neg]
theorem sq_bd {x : Int} {c : Nat} (h1 : -(c : Int) ≤ x) (h2 : x ≤ c) : (x * x).natAbs ≤ c * c := by
  rw [Int.natAbs_mul]
  exact Nat.mul_le_mul (by omega) (by omega)
theorem ddN_le {τ : MSto} (hm : iM τ) {a b : Nat} (ha : a < nM τ 10) (hb : b < nM τ 10) : ddN τ a b ≤ 5062500 := by
  have h1 := clN_rg hm ha
  have h2 := clN_rg hm hb
  exact sq_bd (c := 2250) (by omega) (by omega)
theorem far_i {τ : MSto} (hm : iM τ) {a b : Nat} (ha : a < nM τ 10) (hb : b < nM τ 10) : (w_M_far a b τ).toInt = clN τ a - clN τ b := by
  have h1 := clN_rg hm ha
  have h2 := clN_rg hm hb
  unfold clN at *
  unfold w_M_far
  rw [Int32.toInt_toInt64, fb_subI (by omega) (by omega)]
theorem far_sq {τ : MSto} (hm : iM τ) {a b : Nat} (ha : a < nM τ 10) (hb : b < nM τ 10) : w_M_far a b τ * w_M_far a b τ = lN (ddN τ a b) := by
  have hd := ddN_le hm ha hb
  have e := far_i hm ha hb
  have hnn : 0 ≤ (clN τ a - clN τ b) * (clN τ a - clN τ b) := mul_self_nn _
  have hz : ((ddN τ a b : Nat) : Int) = (clN τ a - clN τ b) * (clN τ a - clN τ b) := by
    unfold ddN
    omega
  rw [← Int64.toInt_inj, pk_lT (by omega), fb_mulL (by rw [e, ← hz]; omega) (by rw [e, ← hz]; omega), e, hz]
noncomputable def gN2 (τ : MSto) (k i j : Nat) : Nat := if k.testBit i = true ∧ k.testBit j = true then ddN τ i j * sqN τ k i j (nM τ 10) else 0
theorem gN2_comm (τ : MSto) (k i j : Nat) : gN2 τ k i j = gN2 τ k j i := by
  unfold gN2
  rw [ddN_comm, sqN_comm]
  by_cases g : k.testBit i = true ∧ k.testBit j = true
  · rw [if_pos g, if_pos ⟨g.2, g.1⟩]
  · rw [if_neg g, if_neg (fun q => g ⟨q.2, q.1⟩)]
noncomputable def upN (τ : MSto) (k : Nat) : Nat := fb_sm (fun a => fb_sm (gN2 τ k a) a) (nM τ 10)
noncomputable def lwF (τ : MSto) (k a : Nat) : Nat := if k.testBit a = true then sqN τ k a a (nM τ 10) else 0
noncomputable def lowN (τ : MSto) (k : Nat) : Nat := fb_sm (lwF τ k) (nM τ 10)
theorem M_apIn {τ : MSto} (hm : iM τ) {k a : Nat} (ha : a < nM τ 10) (hk : k.testBit a = true) (V : Nat) : ∀ n, n ≤ nM τ 10 → nfold (t_M_apIn (nI k) a τ) (lN V) n = lN (V + fb_sm (gN2 τ k a) n)
  | 0, _ => rfl
  | n + 1, hn => by
    have hP : nM τ 10 ≤ 12 := hm.c.2.2.1.2
    rw [nfold_s, M_apIn hm ha hk V n (by omega), fb_sm_succ]
    unfold t_M_apIn gN2
    rw [hasM (by omega), far_sq hm ha (by omega), M_sqP hm (by omega) (by omega), lN_mul, lN_add]
    by_cases g : k.testBit n = true
    · rw [if_neg (bn g), if_pos ⟨hk, g⟩, Nat.add_assoc]
    · rw [if_pos (bz g), if_neg (fun q => g q.2), Nat.add_zero]
theorem fb_sm_0 {f : Nat → Nat} {n : Nat} (h : ∀ i, i < n → f i = 0) : fb_sm f n = 0 := by
  rw [fb_sm_cong (g := fun _ => 0) h, fb_sm_const, Nat.mul_zero]
theorem M_apUp {τ : MSto} (hm : iM τ) {k : Nat} : ∀ n, n ≤ nM τ 10 → nfold (t_M_apUp (nI k) τ) 0 n = lN (fb_sm (fun a => fb_sm (gN2 τ k a) a) n)
  | 0, _ => rfl
  | n + 1, hn => by
    have hP : nM τ 10 ≤ 12 := hm.c.2.2.1.2
    rw [nfold_s, M_apUp hm (k := k) n (by omega), fb_sm_succ]
    unfold t_M_apUp
    rw [hasM (by omega)]
    by_cases g : k.testBit n = true
    · rw [if_neg (bn g), M_apIn hm (by omega) g _ n (by omega)]
    · have z : fb_sm (gN2 τ k n) n = 0 := fb_sm_0 (fun i _ => by unfold gN2; rw [if_neg (fun q => g q.1)])
      rw [if_pos (bz g), z, Nat.add_zero]
theorem M_apLow {τ : MSto} (hm : iM τ) {k : Nat} : ∀ n, n ≤ nM τ 10 → nfold (t_M_apLow (nI k) τ) 0 n = lN (fb_sm (lwF τ k) n)
  | 0, _ => rfl
  | n + 1, hn => by
    have hP : nM τ 10 ≤ 12 := hm.c.2.2.1.2
    rw [nfold_s, M_apLow hm (k := k) n (by omega), fb_sm_succ]
    unfold t_M_apLow lwF
    rw [hasM (by omega), M_sqP hm (by omega) (by omega), lN_add]
    by_cases g : k.testBit n = true
    · rw [if_neg (bn g), if_pos g]
    · rw [if_pos (bz g), if_neg g, Nat.add_zero]
/-! the class's -/
theorem bt_wo2 {k i j : Nat} (hi : i < 32) (hj : j < 32) (σ : MSto) (p : Nat) (hp : p < 12) : bt (v_C_without (v_C_without (nI k) (nI i) σ) (nI j) σ) p = true ↔ (k.testBit p = true ∧ p ≠ i ∧ p ≠ j) := by
  rw [cp_without _ hj (by omega), cp_without _ hi (by omega), bt_nI p (by omega)]
  simp [and_assoc]
theorem bt_wo1 {k i : Nat} (hi : i < 32) (σ : MSto) (p : Nat) (hp : p < 12) : bt (v_C_without (nI k) (nI i) σ) p = true ↔ (k.testBit p = true ∧ p ≠ i ∧ p ≠ i) := by
  rw [cp_without _ hi (by omega), bt_nI p (by omega)]
  simp
theorem C_apIn {σ τ : MSto} (h : Cpl σ τ) {k i : Nat} (hs : ∀ j, k.testBit j = true → j < nM τ 10 ∧ bt (gI τ 13 0 15) j = true) (hi : i < nM τ 10) (V : Nat) : ∀ n, i + 1 + n ≤ nM τ 10 → f_C_apartUpper_20 (nI k) (nI i) (nI i + 1) σ (lN V) n = lN (V + fb_sm (fun m => gN2 τ k i (i + 1 + m)) n)
  | 0, _ => rfl
  | n + 1, hn => by
    have hP := h.P12
    show t_C_apartUpper_20 (nI k) (nI i) (nI i + 1 + nI n) σ (f_C_apartUpper_20 (nI k) (nI i) (nI i + 1) σ (lN V) n) = _
    rw [C_apIn h hs hi V n (by omega), fb_sm_succ, nI_s, nI_add]
    unfold t_C_apartUpper_20
    rw [cp_pieceCount h, if_neg (nI_ge (by omega : i + 1 + n < nM τ 10) (by omega)), hasC (by omega), hasC (by omega), al_v (by omega), al_v (by omega), h.eP hi, h.eP (by omega)]
    by_cases g1 : k.testBit i = true
    · rw [if_neg (bn g1)]
      by_cases g2 : k.testBit (i + 1 + n) = true
      · rw [if_neg (bn g2), cp_clean h hi (hs i g1).2, cp_clean h (by omega) (hs _ g2).2, C_sqP h (bt_wo2 (by omega) (by omega) σ)]
        show lN (V + fb_sm (fun m => gN2 τ k i (i + 1 + m)) n) + (w_M_far i (i + 1 + n) τ * w_M_far i (i + 1 + n) τ) * lN (sqN τ k i (i + 1 + n) (nM τ 10)) = _
        rw [far_sq h.m hi (by omega), lN_mul, lN_add, Nat.add_assoc]
        congr 3
        unfold gN2
        rw [if_pos ⟨g1, g2⟩]
      · rw [if_pos (bz g2)]
        have : gN2 τ k i (i + 1 + n) = 0 := by unfold gN2; rw [if_neg (fun q => g2 q.2)]
        rw [this]; rfl
    · rw [if_pos (bz g1)]
      have : gN2 τ k i (i + 1 + n) = 0 := by unfold gN2; rw [if_neg (fun q => g1 q.1)]
      rw [this]; rfl
theorem nC_apIn {σ τ : MSto} (h : Cpl σ τ) (x : Int32) (i : Nat) (s : Int64) (hi : i < nM τ 10) : n_C_apartUpper_20 x (nI i) (nI i + 1) σ s = nM τ 10 - (i + 1) := by
  have hP := h.P12
  unfold n_C_apartUpper_20
  rw [cp_pN h, nI_s, nI_cl (by omega)]
theorem C_apUp {σ τ : MSto} (h : Cpl σ τ) {k : Nat} (hs : ∀ j, k.testBit j = true → j < nM τ 10 ∧ bt (gI τ 13 0 15) j = true) : ∀ n, n ≤ nM τ 10 → f_C_apartUpper_5 (nI k) 0 σ 0 n = lN (fb_sm (fun i => fb_sm (fun m => gN2 τ k i (i + 1 + m)) (nM τ 10 - (i + 1))) n)
  | 0, _ => rfl
  | n + 1, hn => by
    have hP := h.P12
    show t_C_apartUpper_5 (nI k) (0 + nI n) σ (f_C_apartUpper_5 (nI k) 0 σ 0 n) = _
    rw [C_apUp h hs n (by omega), fb_sm_succ]
    unfold t_C_apartUpper_5
    rw [if_neg (ng_cnt (cp_pieceCount h) (by omega) (by omega : n < nM τ 10)), z_nI, nC_apIn h _ _ _ (by omega), C_apIn h hs (by omega) _ _ (by omega)]
theorem swap_sm (F : Nat → Nat → Nat) : ∀ P, fb_sm (fun i => fb_sm (fun m => F i (i + 1 + m)) (P - (i + 1))) P = fb_sm (fun a => fb_sm (fun b => F b a) a) P
  | 0 => rfl
  | P + 1 => by
    have ih := swap_sm F P
    rw [fb_sm_succ, fb_sm_succ, ← ih]
    have e : fb_sm (fun i => fb_sm (fun m => F i (i + 1 + m)) (P + 1 - (i + 1))) P = fb_sm (fun i => fb_sm (fun m => F i (i + 1 + m)) (P - (i + 1)) + F i P) P := fb_sm_cong (fun i hi => by
      rw [show P + 1 - (i + 1) = (P - (i + 1)) + 1 by omega, fb_sm_succ, show i + 1 + (P - (i + 1)) = P by omega])
    rw [e, fb_sm_add, Nat.sub_self]
    show _ + 0 = _
    rw [Nat.add_zero]
theorem C_apUpP {σ τ : MSto} (h : Cpl σ τ) {k : Nat} (hs : ∀ j, k.testBit j = true → j < nM τ 10 ∧ bt (gI τ 13 0 15) j = true) : v_C_apartUpper (nI k) σ = lN (upN τ k) := by
  unfold v_C_apartUpper n_C_apartUpper_5
  rw [cp_pN h, C_apUp h hs _ (Nat.le_refl _), swap_sm]
  unfold upN
  congr 1
  exact fb_sm_cong (fun a _ => fb_sm_cong (fun b _ => gN2_comm τ k b a))
theorem C_apLow {σ τ : MSto} (h : Cpl σ τ) {k : Nat} : ∀ n, n ≤ nM τ 10 → f_C_apartLower_5 (nI k) 0 σ 0 n = lN (fb_sm (lwF τ k) n)
  | 0, _ => rfl
  | n + 1, hn => by
    have hP := h.P12
    show t_C_apartLower_5 (nI k) (0 + nI n) σ (f_C_apartLower_5 (nI k) 0 σ 0 n) = _
    rw [C_apLow h n (by omega), fb_sm_succ]
    unfold t_C_apartLower_5 lwF
    rw [if_neg (ng_cnt (cp_pieceCount h) (by omega) (by omega : n < nM τ 10)), z_nI, hasC (by omega), C_sqP h (bt_wo1 (by omega) σ), lN_add]
    by_cases g : k.testBit n = true
    · rw [if_neg (bn g), if_pos g]
    · rw [if_pos (bz g), if_neg g, Nat.add_zero]
theorem C_apLowP {σ τ : MSto} (h : Cpl σ τ) {k : Nat} : v_C_apartLower (nI k) σ = lN (lowN τ k) := by
  unfold v_C_apartLower n_C_apartLower_5
  rw [cp_pN h]
  exact C_apLow h _ (Nat.le_refl _)
theorem pc_apLow {σ τ : MSto} (h : Cpl σ τ) (B : Int32) : p_C_apartLower B σ := by
  have hP := h.P12
  unfold p_C_apartLower n_C_apartLower_5
  rw [cp_pN h]
  exact ⟨fun i hi => ⟨fun _ _ => pc_squaresOf h _, q_cnt (cp_pieceCount h) (by omega) hi⟩, fun q => q (e_cnt (cp_pieceCount h))⟩
theorem pc_apUp {σ τ : MSto} (h : Cpl σ τ) (B : Int32) : p_C_apartUpper B σ := by
  have hP := h.P12
  unfold p_C_apartUpper n_C_apartUpper_5
  rw [cp_pN h]
  refine ⟨fun i hi => ⟨fun _ => ?_, q_cnt (cp_pieceCount h) (by omega) hi⟩, fun q => q (e_cnt (cp_pieceCount h))⟩
  rw [z_nI, nC_apIn h _ _ _ hi]
  have hpi := al_p h.lP (by omega) hi
  refine ⟨fun m hm => ⟨fun _ _ _ => ?_, ?_⟩, fun q => q ?_⟩
  · rw [nI_s, nI_add, al_v (by omega), al_v (by omega), h.eP hi, h.eP (by omega)]
    exact ⟨hpi, house_vin h hi, al_p h.lP (by omega) (by omega), house_vin h (by omega), pc_squaresOf h _⟩
  · unfold q_C_apartUpper_20s
    rw [nI_s, nI_add, cp_pieceCount h, if_neg (nI_ge (by omega) (by omega))]
    decide
  · rw [nI_s, nI_add, cp_pieceCount h]
    exact nI_le (by omega) (by omega)
/-! bounds -/
def ctB (k i j : Nat) : Nat → Bool := fun p => k.testBit p && !decide (p = i) && !decide (p = j)
theorem sqN_bd {τ : MSto} (hm : iM τ) (k i j : Nat) : ∀ n, n ≤ nM τ 10 → 1 ≤ sqN τ k i j n ∧ sqN τ k i j n ≤ 3600 ^ fb_ct (ctB k i j) n
  | 0, _ => ⟨Nat.le_refl _, Nat.le_refl _⟩
  | n + 1, hn => by
    obtain ⟨h1, h2⟩ := sqN_bd hm k i j n (by omega)
    obtain ⟨-, s1, s2⟩ := spN_eq hm (p := n) (by omega)
    rw [sqN_s, fb_ct_succ]
    by_cases g : k.testBit n = true ∧ n ≠ i ∧ n ≠ j
    · have e : ctB k i j n = true := by unfold ctB; simp [g]
      rw [if_pos g, if_pos e, Nat.pow_succ]
      refine ⟨Nat.mul_le_mul h1 (Nat.mul_le_mul s1 s1), Nat.mul_le_mul h2 ?_⟩
      exact Nat.le_trans (Nat.mul_le_mul s2 s2) (by decide)
    · have e : ¬ ctB k i j n = true := by
        intro q
        unfold ctB at q
        simp at q
        exact g ⟨q.1.1, q.1.2, q.2⟩
      rw [if_neg g, if_neg e, Nat.add_zero]
      exact ⟨h1, h2⟩
theorem ct_wo {p : Nat → Bool} {i n : Nat} (hi : i < n) (hp : p i = true) : fb_ct (fun q => p q && !decide (q = i)) n + 1 = fb_ct p n := by
  have := fb_ct_upd p false hi
  rw [hp] at this
  have e : fb_ct (fun q => p q && !decide (q = i)) n = fb_ct (fun k => if k = i then false else p k) n := fb_ct_cong (fun k _ => by
    by_cases q : k = i
    · rw [if_pos q, decide_eq_true q, Bool.not_true, Bool.and_false]
    · rw [if_neg q, decide_eq_false q, Bool.not_false, Bool.and_true])
  rw [e]
  simpa using this
theorem ct_1 {k i n : Nat} (hi : i < n) (hk : k.testBit i = true) : fb_ct (ctB k i i) n + 1 = fb_ct k.testBit n := by
  rw [← ct_wo (p := k.testBit) hi hk]
  congr 1
  exact fb_ct_cong (fun q _ => by unfold ctB; cases k.testBit q <;> cases decide (q = i) <;> rfl)
theorem ct_2 {k i j n : Nat} (hi : i < n) (hj : j < n) (hij : i ≠ j) (hk : k.testBit i = true) (hk2 : k.testBit j = true) : fb_ct (ctB k i j) n + 2 = fb_ct k.testBit n := by
  rw [← ct_wo (p := k.testBit) hi hk, ← ct_wo (p := fun q => k.testBit q && !decide (q = i)) (i := j) hj (by rw [hk2, decide_eq_false (Ne.symm hij)]; rfl)]
  rfl
theorem sm_bit {p : Nat → Bool} {f : Nat → Nat} {X : Nat} : ∀ {n : Nat}, (∀ b, b < n → p b = true → f b ≤ X) → (∀ b, b < n → p b = false → f b = 0) → fb_sm f n ≤ fb_ct p n * X
  | 0, _, _ => by show 0 ≤ _; omega
  | n + 1, h1, h2 => by
    have ih := sm_bit (p := p) (f := f) (X := X) (n := n) (fun b hb => h1 b (by omega)) (fun b hb => h2 b (by omega))
    rw [fb_sm_succ, fb_ct_succ, Nat.add_mul]
    cases g : p n with
    | true =>
      rw [if_pos rfl, Nat.one_mul]
      exact Nat.add_le_add ih (h1 n (by omega) g)
    | false =>
      rw [if_neg (by decide), Nat.zero_mul, h2 n (by omega) g]
      exact ih
theorem low_bd {τ : MSto} (hm : iM τ) {k c : Nat} (hc : fb_ct k.testBit (nM τ 10) = c + 1) : 1 ≤ lowN τ k ∧ lowN τ k ≤ (c + 1) * 3600 ^ c := by
  constructor
  · obtain ⟨i, hi, hk⟩ := fb_ct_pos.mp (by omega : 0 < fb_ct k.testBit (nM τ 10))
    have h1 := fb_sm_part (lwF τ k) hi
    have h2 : lwF τ k i = sqN τ k i i (nM τ 10) := by unfold lwF; rw [if_pos hk]
    have h3 := (sqN_bd hm k i i _ (Nat.le_refl _)).1
    unfold lowN
    omega
  · rw [← hc]
    refine sm_bit (p := k.testBit) (fun b hb hk => ?_) (fun b hb hk => by unfold lwF; rw [if_neg (by rw [hk]; decide)])
    unfold lwF
    rw [if_pos hk]
    refine Nat.le_trans (sqN_bd hm k b b _ (Nat.le_refl _)).2 (Nat.pow_le_pow_right (by decide) ?_)
    have := ct_1 hb hk
    omega
theorem up_bd {τ : MSto} (hm : iM τ) {k c : Nat} (hc : fb_ct k.testBit (nM τ 10) = c + 2) : upN τ k ≤ (c + 2) * ((c + 1) * (5062500 * 3600 ^ c)) := by
  rw [← hc]
  refine sm_bit (p := k.testBit) (fun a ha hk => ?_) (fun a ha hk => fb_sm_0 (fun b _ => by unfold gN2; rw [if_neg (fun q => by rw [hk] at q; cases q.1)]))
  have h1 : fb_ct k.testBit a ≤ c + 1 := by
    have h2 : fb_ct k.testBit (a + 1) = fb_ct k.testBit a + 1 := by rw [fb_ct_succ, if_pos hk]
    have h3 := fb_ct_mono k.testBit (m := a + 1) (n := nM τ 10) (by omega)
    omega
  refine Nat.le_trans ?_ (Nat.mul_le_mul_right _ h1)
  refine sm_bit (p := k.testBit) (fun b hb hk2 => ?_) (fun b hb hk2 => by unfold gN2; rw [if_neg (fun q => by rw [hk2] at q; cases q.2)])
  unfold gN2
  rw [if_pos ⟨hk, hk2⟩]
  refine Nat.mul_le_mul (ddN_le hm ha (by omega)) (Nat.le_trans (sqN_bd hm k a b _ (Nat.le_refl _)).2 (Nat.pow_le_pow_right (by decide) ?_))
  have := ct_2 ha (by omega : b < nM τ 10) (by omega) hk hk2
  omega
theorem ct_pop {τ : MSto} {k : Nat} (hP : nM τ 10 ≤ 12) (hs : ∀ j, k.testBit j = true → j < nM τ 10) : fb_ct k.testBit (nM τ 10) = pop k := by
  unfold pop
  have h1 := fb_ct_split k.testBit (nM τ 10) (15 - nM τ 10)
  rw [show nM τ 10 + (15 - nM τ 10) = 15 by omega] at h1
  have h2 : fb_ct (fun j => k.testBit (nM τ 10 + j)) (15 - nM τ 10) = 0 := fb_ct_zero.mpr (fun j _ => by
    cases g : k.testBit (nM τ 10 + j) with
    | false => rfl
    | true => have := hs _ g; omega)
  omega
/-- all of it, of two to four pieces -/
theorem ap_bd {τ : MSto} (hm : iM τ) {k : Nat} (hs : ∀ j, k.testBit j = true → j < nM τ 10) (h2 : 2 ≤ pop k) (h4 : pop k ≤ 4) : 1 ≤ lowN τ k ∧ lowN τ k ≤ 186624000000 ∧ upN τ k ≤ 787320000000000 ∧ (pop k ≤ 3 → lowN τ k ≤ 38880000 ∧ upN τ k ≤ 109350000000) := by
  have hc := ct_pop hm.c.2.2.1.2 hs
  have : pop k = 2 ∨ pop k = 3 ∨ pop k = 4 := by omega
  rcases this with q | q | q
  · rw [q] at hc
    have a1 := low_bd hm (c := 1) hc
    have a2 := up_bd hm (c := 0) hc
    omega
  · rw [q] at hc
    have a1 := low_bd hm (c := 2) hc
    have a2 := up_bd hm (c := 1) hc
    omega
  · rw [q] at hc
    have a1 := low_bd hm (c := 3) hc
    have a2 := up_bd hm (c := 2) hc
    omega
theorem T_apart {σ τ : MSto} (h : Cpl σ τ) (a : Int32) : p_C_apart a σ ∧ p_M_apart a τ ∧ v_C_apart a σ = v_M_apart a τ ∧ Cpl (e_C_apart a σ) (e_M_apart a τ) := by
  have h1 := h.e0
  unfold p_C_apart p_M_apart v_C_apart v_M_apart e_C_apart e_M_apart
  generalize sI τ 13 0 52 0 = τ1 at h1 ⊢
  have hpc := pc_areCounted h1 a 2 4
  simp only [cp_areCounted h1 a (lo := 2) (hi := 4) (by decide)]
  by_cases g : v_M_areCounted a 2 4 τ1 = 0
  · simp only [if_pos g]
    exact ⟨⟨hpc, fun q => absurd g q⟩, fun q => absurd g q, trivial, h1⟩
  · simp only [if_neg g]
    obtain ⟨k, rfl, hk, -, hs, h2', h4'⟩ := areC h1.m g
    have hk15 : pop k ≤ 15 := fb_ct_le _ _
    have h2 : 2 ≤ pop k := (leN (a := 2) (by decide) (by omega)).mp h2'
    have h4 : pop k ≤ 4 := (leN (b := 4) (by omega) (by decide)).mp h4'
    obtain ⟨b1, b2, b3, -⟩ := ap_bd h1.m (fun j q => (hs j q).1) h2 h4
    have eU : v_C_apartUpper (nI k) σ = lN (upN τ1 k) := C_apUpP h1 hs
    have eL : v_C_apartLower (nI k) σ = lN (lowN τ1 k) := C_apLowP h1
    have mU : w_M_apUp (nI k) τ1 = lN (upN τ1 k) := M_apUp h1.m _ (Nat.le_refl _)
    have mL : w_M_apLow (nI k) τ1 = lN (lowN τ1 k) := M_apLow h1.m _ (Nat.le_refl _)
    obtain ⟨τf, ef⟩ : ∃ t, t = e_M_findApart (nI k) τ1 := ⟨_, rfl⟩
    rw [← ef]
    have wf : agO [13063, 13064] τ1 τf := by rw [ef]; exact w_M_findApart _ _
    have c62 : gJ τf 13 0 62 = lN (upN τ1 k) := by rw [ef]; exact mU
    have c63 : gJ τf 13 0 63 = lN (lowN τ1 k) := by rw [ef]; exact mL
    have d62 : gJ (sI τf 13 0 51 0) 13 0 62 = lN (upN τ1 k) := c62
    have d63 : gJ (sI τf 13 0 51 0) 13 0 63 = lN (lowN τ1 k) := c63
    rw [eU, eL, d62, d63]
    have hf : Cpl σ τf := h1.mv (agO_refl [] σ) wf rfl rfl
    obtain ⟨r1, r2, r3⟩ := rowF hf (u := lN (upN τ1 k)) (d := lN (lowN τ1 k)) (lN_mn (by omega)) (lN_gt b1 (by omega))
    have wC : agO [8002, 38000] σ (e_Ro_addFraction (lN (upN τ1 k)) (lN (lowN τ1 k)) (e_Ro_clear σ)) := ((w_Ro_clear σ).mono (W := [8002, 38000]) rfl).step (w_Ro_addFraction _ _ _) rfl
    have wM : agO [13052, 78000] τf (e_M_tellPart (lN (upN τ1 k)) (lN (lowN τ1 k)) (sI τf 13 0 51 0)) := (agO_sI (W := [13052, 78000]) rfl (agO_refl _ τf)).step (w_M_tellPart _ _ _) rfl
    have aC : kA σ := h1.a
    generalize e_Ro_addFraction (lN (upN τ1 k)) (lN (lowN τ1 k)) (e_Ro_clear σ) = σ' at r1 wC ⊢
    generalize e_M_tellPart (lN (upN τ1 k)) (lN (lowN τ1 k)) (sI τf 13 0 51 0) = τ' at r1 wM ⊢
    rw [wM.j rfl, wM.j rfl, c62, c63, bitCount_nI (by omega), bitCount_nI (by omega), nI_cl (by omega), wC.i rfl]
    refine ⟨⟨hpc, fun _ => ⟨pc_apUp h1 _, pc_apLow h1 _, r2, nI_inb (by omega) (by decide)⟩⟩, fun _ => ⟨h1.m, r3⟩, ?_, r1⟩
    have eb : ∀ c : Int64, lN (lowN τ1 k) * c = c * lN (lowN τ1 k) := fun c => Int64.mul_comm _ _
    have e100 : lN (upN τ1 k) * 100 = 100 * lN (upN τ1 k) := Int64.mul_comm _ _
    have : pop k = 2 ∨ pop k = 3 ∨ pop k = 4 := by omega
    rcases this with q | q | q
    · rw [q, aC.2.2.2.1, if_pos (show nI 2 = 2 from rfl), eb, e100]; rfl
    · rw [q, aC.2.2.2.2.1, if_neg (show ¬ nI 3 = 2 by decide), if_pos (show nI 3 = 3 from rfl), eb, e100]; rfl
    · rw [q, aC.2.2.2.2.2, if_neg (show ¬ nI 4 = 2 by decide), if_neg (show ¬ nI 4 = 3 by decide), eb, e100]; rfl
/-! odd -/
theorem wo_nI {k i : Nat} (hk : k < 4096) (hi : i < 12) (hb : k.testBit i = true) (σ : MSto) : ∃ K, v_C_without (nI k) (nI i) σ = nI K ∧ K < 4096 ∧ (∀ p, K.testBit p = true ↔ (k.testBit p = true ∧ p ≠ i)) := by
  refine ⟨k ^^^ 2 ^ i, ?_, Nat.xor_lt_two_pow (n := 12) hk (Nat.pow_lt_pow_right (by decide) hi), fun p => ?_⟩
  · refine b_ext (fun p hp => ?_)
    rw [cp_without _ (by omega) hp, bt_nI p hp, bt_nI p hp, fb_bit_flip]
    by_cases q : p = i
    · rw [q, hb, decide_eq_true rfl]; rfl
    · rw [decide_eq_false q, Bool.not_false, Bool.and_true, Bool.xor_false]
  · rw [fb_bit_flip]
    by_cases q : p = i
    · rw [q, hb, decide_eq_true rfl]; simp
    · rw [decide_eq_false q, Bool.xor_false]; simp [q]
def oddR (τ0 : MSto) (x : Int32 × Int64 × Int64) (y : Int32 × Int64 × Int64 × MSto) : Prop :=
  x.1 = y.1 ∧ x.2.1 = y.2.1 ∧ x.2.2 = y.2.2.1 ∧ agO [13063, 13064] τ0 y.2.2.2 ∧ ∃ U L, x.2.1 = lN U ∧ x.2.2 = lN L ∧ U ≤ 109350000000 ∧ 1 ≤ L ∧ L ≤ 38880000
theorem odd_step {σ τ : MSto} (h : Cpl σ τ) {k : Nat} (hk : k < 4096) (hs : ∀ j, k.testBit j = true → j < nM τ 10 ∧ bt (gI τ 13 0 15) j = true) (h3 : 3 ≤ pop k) (h4 : pop k ≤ 4) {i : Nat} (hi : i < nM τ 10) (x : Int32 × Int64 × Int64) (y : Int32 × Int64 × Int64 × MSto) (hr : oddR τ x y) : oddR τ (t_C_odd_22 (nI k) (0 + nI i) σ x) (t_M_odd_27 (nI k) (0 + nI i) y) ∧ g_C_odd_22 (nI k) (0 + nI i) σ x ∧ g_M_odd_27 (nI k) (0 + nI i) y ∧ ¬ q_M_odd_27s (nI k) (0 + nI i) y = 1 := by
  obtain ⟨b, u, l⟩ := x
  obtain ⟨b', u', l', t⟩ := y
  obtain ⟨e1, e2, e3, w, U, L, e4, e5, hU, hL1, hL⟩ := hr
  have e1' : b = b' := e1
  have e2' : u = u' := e2
  have e3' : l = l' := e3
  have e4' : u = lN U := e4
  have e5' : l = lN L := e5
  subst e1'; subst e2'; subst e3'; subst e4'; subst e5'
  have hP := h.P12
  have hc : gI t 13 0 10 = nI (nM τ 10) := by rw [w.i rfl]; exact h.m.c.2.2.1.1
  have ht : Cpl σ t := h.mv (agO_refl [] σ) w rfl rfl
  have nt : nM t 10 = nM τ 10 := by unfold nM; rw [w.i rfl]
  unfold t_C_odd_22 t_M_odd_27 g_C_odd_22 g_M_odd_27 q_M_odd_27s
  show oddR τ (if v_C_pieceCount σ ≤ 0 + nI i then _ else _) (if gI t 13 0 10 ≤ 0 + nI i then _ else _) ∧ _
  rw [z_nI, if_neg (show ¬ v_C_pieceCount σ ≤ nI i by rw [cp_pieceCount h]; exact nI_ge hi (by omega)), if_neg (show ¬ gI t 13 0 10 ≤ nI i by rw [hc]; exact nI_ge hi (by omega))]
  have nq : ¬ (if gI t 13 0 10 ≤ nI i then (1 : Nat) else 0) = 1 := by
    rw [if_neg (show ¬ gI t 13 0 10 ≤ nI i by rw [hc]; exact nI_ge hi (by omega))]; decide
  have hC : v_C_has (nI k) (nI i) σ = bI (k.testBit i = true) := hasC (by omega) σ
  have hM : v_M_has (nI k) (nI i) t = bI (k.testBit i = true) := hasM (by omega) t
  show oddR τ (if v_C_has (nI k) (nI i) σ = 0 then (b, lN U, lN L) else _) (if v_M_has (nI k) (nI i) t = 0 then (b, lN U, lN L, t) else _) ∧ (¬ _ → ¬ v_C_has (nI k) (nI i) σ = 0 → _) ∧ (¬ _ → ¬ v_M_has (nI k) (nI i) t = 0 → _) ∧ _
  rw [hC, hM]
  by_cases g : k.testBit i = true
  · rw [if_neg (bn g), if_neg (bn g)]
    obtain ⟨K, eK, hK, hKb⟩ := wo_nI hk (by omega) g σ
    have eK2 : nI k &&& (((1 : Int32) <<< (nI i &&& 31)) ^^^ (-1)) = nI K := eK
    rw [eK, eK2]
    have hsK : ∀ j, K.testBit j = true → j < nM t 10 ∧ bt (gI t 13 0 15) j = true := fun j q => by
      rw [nt, w.i rfl]; exact hs j ((hKb j).mp q).1
    have pK : pop K + 1 = pop k := by
      unfold pop
      rw [← ct_wo (p := k.testBit) (i := i) (n := 15) (by omega) g]
      congr 1
      exact fb_ct_cong (fun q _ => by
        have := hKb q
        cases c1 : K.testBit q <;> cases c2 : k.testBit q <;> by_cases c3 : q = i <;> simp_all)
    obtain ⟨b1, -, -, b4⟩ := ap_bd ht.m (fun j q => (hsK j q).1) (by omega : 2 ≤ pop K) (by omega)
    obtain ⟨b5, b6⟩ := b4 (by omega)
    have eU : v_C_apartUpper (nI K) σ = lN (upN t K) := C_apUpP ht hsK
    have eL : v_C_apartLower (nI K) σ = lN (lowN t K) := C_apLowP ht
    have c62 : gJ (e_M_findApart (nI K) t) 13 0 62 = lN (upN t K) := M_apUp ht.m _ (Nat.le_refl _)
    have c63 : gJ (e_M_findApart (nI K) t) 13 0 63 = lN (lowN t K) := M_apLow ht.m _ (Nat.le_refl _)
    rw [eU, eL, c62, c63]
    have wf : agO [13063, 13064] τ (e_M_findApart (nI K) t) := w.trans (w_M_findApart _ _)
    have new : oddR τ (nI i, lN (upN t K), lN (lowN t K)) (nI i, lN (upN t K), lN (lowN t K), e_M_findApart (nI K) t) := ⟨rfl, rfl, rfl, wf, _, _, rfl, rfl, b6, b1, b5⟩
    have m1 : upN t K * L ≤ 109350000000 * 38880000 := Nat.mul_le_mul b6 hL
    have m2 : U * lowN t K ≤ 109350000000 * 38880000 := Nat.mul_le_mul hU b5
    have cC : 0 ≤ lg_cmp (lN (upN t K) * lN L) (lN U * lN (lowN t K)) ↔ U * lowN t K ≤ upN t K * L := by
      rw [lN_mul, lN_mul, cmp_ge]
      exact pk_lLE (by omega) (by omega)
    have i1 : (lN (upN t K)).toInt = (upN t K : Int) := pk_lT (by omega)
    have i2 : (lN (lowN t K)).toInt = (lowN t K : Int) := pk_lT (by omega)
    have i3 : (lN U).toInt = (U : Int) := pk_lT (by omega)
    have i4 : (lN L).toInt = (L : Int) := pk_lT (by omega)
    have cM' : v_M_isLess (lN (upN t K)) (lN (lowN t K)) (lN U) (lN L) (e_M_findApart (nI K) t) = bI (¬ U * lowN t K ≤ upN t K * L) := by
      unfold v_M_isLess
      rw [i1, i2, i3, i4]
      refine bI_congr ?_
      rw [← Int.natCast_mul, ← Int.natCast_mul]
      omega
    have pL : p_M_isLess (lN (upN t K)) (lN (lowN t K)) (lN U) (lN L) (e_M_findApart (nI K) t) := by
      unfold p_M_isLess
      rw [i1, i2, i3, i4]
      omega
    refine ⟨?_, fun _ _ => ⟨pc_apUp ht _, pc_apLow ht _⟩, fun _ _ => ⟨ht.m, fun _ => pL⟩, nq⟩
    by_cases gb : b = -1
    · rw [if_pos gb, if_pos gb]; exact new
    · rw [if_neg gb, if_neg gb, cM']
      by_cases gc : U * lowN t K ≤ upN t K * L
      · rw [if_pos (cC.mpr gc), if_pos (bz (fun q => q gc))]
        exact ⟨rfl, rfl, rfl, wf, U, L, rfl, rfl, hU, hL1, hL⟩
      · rw [if_neg (fun q => gc (cC.mp q)), if_neg (bn gc)]
        exact new
  · rw [if_pos (bz g), if_pos (bz g)]
    exact ⟨⟨rfl, rfl, rfl, w, U, L, rfl, rfl, hU, hL1, hL⟩, fun _ q => absurd (bz g) q, fun _ q => absurd (bz g) q, nq⟩
theorem T_odd {σ τ : MSto} (h : Cpl σ τ) (a : Int32) : p_C_odd a σ ∧ p_M_odd a τ ∧ v_C_odd a σ = v_M_odd a τ ∧ Cpl (e_C_odd a σ) (e_M_odd a τ) := by
  have h1 := h.e0
  unfold p_C_odd p_M_odd v_C_odd v_M_odd e_C_odd e_M_odd
  generalize sI τ 13 0 52 0 = τ1 at h1 ⊢
  have hpc := pc_areCounted h1 a 3 4
  simp only [cp_areCounted h1 a (lo := 3) (hi := 4) (by decide)]
  by_cases g : v_M_areCounted a 3 4 τ1 = 0
  · simp only [if_pos g]
    exact ⟨⟨hpc, fun q => absurd g q⟩, fun q => absurd g q, trivial, h1⟩
  · simp only [if_neg g]
    obtain ⟨k, rfl, hk, -, hs, h3', h4'⟩ := areC h1.m g
    have hk15 : pop k ≤ 15 := fb_ct_le _ _
    have h3 : 3 ≤ pop k := (leN (a := 3) (by decide) (by omega)).mp h3'
    have h4 : pop k ≤ 4 := (leN (b := 4) (by omega) (by decide)).mp h4'
    have hP := h1.P12
    have nC : n_C_odd_22 (nI k) 0 σ ((-1), 0, 1) = nM τ1 10 := by unfold n_C_odd_22; exact cp_pN h1
    have nM' : n_M_odd_27 (nI k) 0 ((-1), 0, 1, τ1) = nM τ1 10 := rfl
    rw [nC, nM']
    obtain ⟨R, G⟩ := nfold3 (R := fun _ => oddR τ1) (G := fun i x => g_C_odd_22 (nI k) (0 + nI i) σ x) (K := fun i y => g_M_odd_27 (nI k) (0 + nI i) y ∧ ¬ q_M_odd_27s (nI k) (0 + nI i) y = 1) (f := fun i s => t_C_odd_22 (nI k) (0 + nI i) σ s) (g := fun i s => t_M_odd_27 (nI k) (0 + nI i) s) (a := ((-1), 0, 1)) (b := ((-1), 0, 1, τ1)) (N := nM τ1 10)
      ⟨rfl, rfl, rfl, agO_refl _ _, 0, 1, rfl, rfl, by decide, by decide, by decide⟩ (fun i hi x y r => odd_step h1 hk hs h3 h4 hi x y r) (nM τ1 10) (Nat.le_refl _)
    have R' : oddR τ1 (f_C_odd_22 (nI k) 0 σ ((-1), 0, 1) (nM τ1 10)) (f_M_odd_27 (nI k) 0 ((-1), 0, 1, τ1) (nM τ1 10)) := R
    have G1 : ∀ i, i < nM τ1 10 → g_C_odd_22 (nI k) (0 + nI i) σ (f_C_odd_22 (nI k) 0 σ ((-1), 0, 1) i) := fun i hi => (G i hi).1
    have G2 : ∀ i, i < nM τ1 10 → g_M_odd_27 (nI k) (0 + nI i) (f_M_odd_27 (nI k) 0 ((-1), 0, 1, τ1) i) ∧ ¬ q_M_odd_27s (nI k) (0 + nI i) (f_M_odd_27 (nI k) 0 ((-1), 0, 1, τ1) i) = 1 := fun i hi => (G i hi).2
    obtain ⟨x, ex⟩ : ∃ x, x = f_C_odd_22 (nI k) 0 σ ((-1), 0, 1) (nM τ1 10) := ⟨_, rfl⟩
    obtain ⟨y, ey⟩ : ∃ y, y = f_M_odd_27 (nI k) 0 ((-1), 0, 1, τ1) (nM τ1 10) := ⟨_, rfl⟩
    rw [← ex, ← ey] at R' ⊢
    obtain ⟨b, u, l⟩ := x
    obtain ⟨b', u', l', t⟩ := y
    obtain ⟨e1, e2, e3, w, U, L, e4, e5, hU, hL1, hL⟩ := R'
    have e1' : b = b' := e1
    have e2' : u = u' := e2
    have e3' : l = l' := e3
    have e4' : u = lN U := e4
    have e5' : l = lN L := e5
    subst e1'; subst e2'; subst e3'; subst e4'; subst e5'
    have ht : Cpl σ t := h1.mv (agO_refl [] σ) w rfl rfl
    have hc : gI t 13 0 10 = nI (nM τ1 10) := by rw [w.i rfl]; exact h1.m.c.2.2.1.1
    obtain ⟨r1, r2, r3⟩ := rowF ht (u := lN U) (d := lN L) (lN_mn (by omega)) (lN_gt hL1 (by omega))
    refine ⟨⟨hpc, fun _ => ⟨fun i hi => ⟨G1 i hi, q_cnt (cp_pieceCount h1) (by omega) hi⟩, fun _ => r2, fun q => q (e_cnt (cp_pieceCount h1))⟩⟩, fun _ => ⟨G2, fun _ => r3, fun q => q ?_⟩, rfl, r1⟩
    rw [z_nI]
    show gI t 13 0 10 ≤ _
    rw [hc]
    exact Int32.le_refl _

