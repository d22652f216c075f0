/-! knew -/
def kff (x : Nat) : Nat → Nat
  | 0 => 1
  | n + 1 => kff x n * (x - n)
def kch (x k : Nat) : Nat → Nat
  | 0 => 1
  | n + 1 => kch x k n * (x - k + (n + 1)) / (n + 1)
def kchz (x k : Nat) : Nat := if k ≤ x then kch x k k else 0
theorem kn_max : ∀ o, o < 10 → ∀ n, n < 10 → (if (0 : Int32) < nI o - (0 + nI n) then nI o - (0 + nI n) else 0).toInt64 = lN (o - n) := by decide +kernel
theorem kn_sub : ∀ L, L < 10 → ∀ n, n < 10 → n < L → (nI L - (0 + nI n)).toInt64 = lN (L - n) := by decide +kernel
theorem kn_x : ∀ x, x < 10 → ∀ k, k < 10 → k ≤ x → ∀ n, n < 10 → (nI x - nI k + (1 + nI n)).toInt64 = lN (x - k + (n + 1)) ∧ (1 + nI n).toInt64 = lN (n + 1) := by decide +kernel
theorem kn_b : ∀ x, x < 10 → ∀ k, k < 10 → k ≤ x → ∀ n, n < 10 → n ≤ k → kch x k n * (x - k + (n + 1)) < 10000 := by decide +kernel
theorem kn_p1 : ∀ L, L < 10 → ∀ k, k < 10 → k ≤ L → 0 < kff L k ∧ 0 < kch L k k ∧ kff L k < 10000000 ∧ kch L k k < 10000000 := by decide +kernel
theorem kn_p2 : ∀ o, o < 10 → ∀ k, k < 10 → kff o k < 10000000 ∧ kchz o k < 10000000 := by decide +kernel
def kn3 (L o k : Nat) : Bool := !(Nat.ble o L) || !(Nat.ble k L) || (Nat.beq (kff o k / Nat.gcd (kff o k) (kff L k)) (kchz o k / Nat.gcd (kchz o k) (kch L k k)) && Nat.beq (kff L k / Nat.gcd (kff o k) (kff L k)) (kch L k k / Nat.gcd (kchz o k) (kch L k k)))
theorem kn_p3a : ∀ L, L < 10 → ∀ o, o < 10 → ∀ k, k < 10 → kn3 L o k = true := by decide +kernel
theorem kn_p3 : ∀ L, L < 10 → ∀ o, o < 10 → o ≤ L → ∀ k, k < 10 → k ≤ L → kff o k / Nat.gcd (kff o k) (kff L k) = kchz o k / Nat.gcd (kchz o k) (kch L k k) ∧ kff L k / Nat.gcd (kff o k) (kff L k) = kch L k k / Nat.gcd (kchz o k) (kch L k k) := by
  intro L hL o ho h1 k hk h2
  have h := kn_p3a L hL o ho k hk
  unfold kn3 at h
  rw [Nat.ble_eq_true_of_le h1, Nat.ble_eq_true_of_le h2] at h
  simp only [Bool.not_true, Bool.false_or, Bool.and_eq_true] at h
  exact ⟨Nat.eq_of_beq_eq_true h.1, Nat.eq_of_beq_eq_true h.2⟩
theorem kn_C (σ : MSto) {L o k : Nat} (hL : L < 10) (ho : o < 10) (hk : k ≤ L) : ∀ n, n ≤ k → f_C_knew_44 (nI k) (nI L) (nI o) 0 σ (1, 1) n = (lN (kff o n), lN (kff L n)) := by
  intro n
  induction n with
  | zero => exact fun _ => rfl
  | succ n ih =>
    intro hn
    show t_C_knew_44 (nI k) (nI L) (nI o) (0 + nI n) σ (f_C_knew_44 (nI k) (nI L) (nI o) 0 σ (1, 1) n) = (lN (kff o n * (o - n)), lN (kff L n * (L - n)))
    rw [ih (by omega)]
    unfold t_C_knew_44 v_Ma_max
    rw [if_neg (ng_cnt (N := nI k) (n := k) rfl (by omega) (by omega)), kn_max o ho n (by omega), kn_sub L hL n (by omega) (by omega), ← lN_mul, ← lN_mul]
theorem kn_choose (τ : MSto) {x k : Nat} (hx : x < 10) (hk : k < 10) : v_M_choose (nI x) (nI k) τ = lN (kchz x k) ∧ p_M_choose (nI x) (nI k) τ := by
  have nn : n_M_choose_16 (nI x) (nI k) 1 τ 1 = k := by unfold n_M_choose_16; exact nI_cl (by omega)
  have e1 : ∀ n : Nat, (1 : Int32) + nI n = nI (n + 1) := fun n => by
    rw [show (1 : Int32) = nI 1 from rfl, nI_add, Nat.add_comm]
  unfold v_M_choose p_M_choose kchz
  rw [M_in, nn]
  by_cases g : k ≤ x
  · have gi : 0 ≤ nI k ∧ nI k ≤ nI x := ⟨nI_pos' (by omega), nI_le g (by omega)⟩
    have main : ∀ n, n ≤ k → f_M_choose_16 (nI x) (nI k) 1 τ 1 n = lN (kch x k n) := by
      intro n
      induction n with
      | zero => exact fun _ => rfl
      | succ n ih =>
        intro hn
        show t_M_choose_16 (nI x) (nI k) (1 + nI n) τ (f_M_choose_16 (nI x) (nI k) 1 τ 1 n) = lN (kch x k n * (x - k + (n + 1)) / (n + 1))
        rw [ih (by omega)]
        have b := kn_b x hx k hk g n (by omega) (by omega)
        obtain ⟨h1, h2⟩ := kn_x x hx k hk g n (by omega)
        unfold t_M_choose_16
        rw [h1, h2, if_neg (by rw [e1, Int32.not_lt]; exact nI_le (by omega) (by omega)), lN_mul, pk_lDiv (by omega) (by omega) (by omega)]
    rw [if_neg (bn gi), if_pos g]
    refine ⟨main k (Nat.le_refl _), fun _ => ⟨fun i hi => ⟨fun _ => ?_, ?_⟩, fun q => q ?_⟩⟩
    · rw [(kn_x x hx k hk g i (by omega)).2]
      exact fun q => by have := (pk_lEQ (a := i + 1) (b := 0) (by omega) (by decide)).mp q; omega
    · unfold q_M_choose_16s
      rw [if_neg (by rw [e1, Int32.not_lt]; exact nI_le (by omega) (by omega))]; decide
    · rw [e1]
      exact Int32.not_le.mp (nI_ge (by omega) (by omega))
  · have gi : ¬ (0 ≤ nI k ∧ nI k ≤ nI x) := fun q => by have := (leN (by omega) (by omega)).mp q.2; omega
    rw [if_pos (bz gi), if_neg g]
    exact ⟨rfl, fun q => absurd (bz gi) q⟩
theorem kn_M {τ : MSto} (hi : iM τ) (w : Nat) (x2 : Int32) : f_M_knew_33 (nI w) x2 0 τ 0 (nM τ 31) = nI (nM τ 31 - ctL τ w (nM τ 31)) := by
  have hL := hi.c.2.2.2.2.2.1
  have hL2 := hL.2
  have main : ∀ n, n ≤ nM τ 31 → f_M_knew_33 (nI w) x2 0 τ 0 n = nI (n - ctL τ w n) := by
    intro n
    induction n with
    | zero => exact fun _ => rfl
    | succ n ih =>
      intro hn
      show t_M_knew_33 (nI w) x2 (0 + nI n) τ (f_M_knew_33 (nI w) x2 0 τ 0 n) = _
      rw [ih (by omega)]
      have hle := ctL_le τ w n
      unfold t_M_knew_33
      rw [if_neg (ng_cnt hL.1 (by omega) (by omega)), z_nI, nI_cl (by omega), ctL_s]
      by_cases g : gI τ 64 0 n = nI w
      · rw [if_pos g, if_pos g, Int32.add_zero]
        congr 1; omega
      · rw [if_neg g, if_neg g, nI_s]
        congr 1; omega
  exact main _ (Nat.le_refl _)
theorem kn_row (τ : MSto) {u d u' d' : Nat} (hu : u < 2 ^ 63) (hd : d < 2 ^ 63) (hu' : u' < 2 ^ 63) (hd' : d' < 2 ^ 63) (h0 : 0 < d) (h0' : 0 < d') (e1 : u / Nat.gcd u d = u' / Nat.gcd u' d') (e2 : d / Nat.gcd u d = d' / Nat.gcd u' d') : e_M_tellPart (lN u) (lN d) τ = e_M_tellPart (lN u') (lN d') τ := by
  have c : ∀ {a b : Nat}, a < 2 ^ 63 → b < 2 ^ 63 → v_M_common (lN a) (lN b) τ = lN (Nat.gcd a b) := fun ha hb => by
    unfold v_M_common
    rw [pk_lT ha, pk_lT hb]; rfl
  have g1 : 0 < Nat.gcd u d := Nat.gcd_pos_of_pos_right _ h0
  have g2 : 0 < Nat.gcd u' d' := Nat.gcd_pos_of_pos_right _ h0'
  have l1 : Nat.gcd u d ≤ d := Nat.le_of_dvd h0 (Nat.gcd_dvd_right _ _)
  have l2 : Nat.gcd u' d' ≤ d' := Nat.le_of_dvd h0' (Nat.gcd_dvd_right _ _)
  unfold e_M_tellPart
  rw [c hu hd, c hu' hd', pk_lDiv hu g1 (by omega), pk_lDiv hd g1 (by omega), pk_lDiv hu' g2 (by omega), pk_lDiv hd' g2 (by omega), e1, e2]
theorem T_knew {σ τ : MSto} (h : Cpl σ τ) (a b : Int32) : p_C_knew a b σ ∧ p_M_knew a b τ ∧ v_C_knew a b σ = v_M_knew a b τ ∧ Cpl (e_C_knew a b σ) (e_M_knew a b τ) := by
  have h1 := h.e0
  unfold p_C_knew p_M_knew v_C_knew v_M_knew e_C_knew e_M_knew
  generalize sI τ 13 0 52 0 = τ1 at h1 ⊢
  simp only [cp_allLikes h1, cp_isIn, M_in]
  by_cases g : 0 ≤ a ∧ a ≤ 5
  · by_cases g1 : 0 ≤ b ∧ b ≤ gI τ1 13 0 31
    · simp only [if_neg (bn g), if_neg (bn g1)]
      have hL := h1.m.c.2.2.2.2.2.1
      have hL2 := hL.2
      have e31 : gI (sI τ1 13 0 51 0) 13 0 31 = gI τ1 13 0 31 := rfl
      rw [e31, hL.1]
      rw [hL.1] at g1
      obtain ⟨w, rfl, hw⟩ := nat_rg (b := 5) g (by decide)
      obtain ⟨k, rfl, hk⟩ := nat_rg (b := nM τ1 31) g1 (by omega)
      have hle := ctL_le τ1 w (nM τ1 31)
      rw [nI_cl (i := w) (by omega), h1.l w (by omega)]
      obtain ⟨o, eo⟩ : ∃ o, o = nM τ1 31 - ctL τ1 w (nM τ1 31) := ⟨_, rfl⟩
      have es : nI (nM τ1 31) - nI (ctL τ1 w (nM τ1 31)) = nI o := by
        rw [eo]; exact pk_sub hle
      have n33 : n_M_knew_33 (nI w) (nI k) 0 τ1 0 = nM τ1 31 := rfl
      have nk : n_C_knew_44 (nI k) (nI (nM τ1 31)) (nI o) 0 σ (1, 1) = k := by unfold n_C_knew_44; exact nI_cl (by omega)
      have m33 := kn_M h1.m w (nI k)
      rw [← eo] at m33
      rw [es, n33, nk, m33, kn_C σ (by omega) (by omega) hk k (Nat.le_refl _)]
      obtain ⟨a1, a2, a4, a6⟩ := kn_p1 (nM τ1 31) (by omega) k (by omega) hk
      obtain ⟨a3, a5⟩ := kn_p2 o (by omega) k (by omega)
      obtain ⟨a7, a8⟩ := kn_p3 (nM τ1 31) (by omega) o (by omega) (by omega) k (by omega) hk
      obtain ⟨c1, c2⟩ := kn_choose (sI τ1 13 0 51 0) (x := o) (k := k) (by omega) (by omega)
      obtain ⟨d1, d2⟩ := kn_choose (sI τ1 13 0 51 0) (x := nM τ1 31) (k := k) (by omega) (by omega)
      have dz : kchz (nM τ1 31) k = kch (nM τ1 31) k k := by unfold kchz; rw [if_pos hk]
      rw [dz] at d1
      rw [c1, d1]
      have lo : ∀ {n : Nat}, n < 10000000 → -9223372036854775808 < (lN n).toInt := fun hn => lN_mn (by omega)
      obtain ⟨r1, r2, r3⟩ := rowF h1 (u := lN (kff o k)) (d := lN (kff (nM τ1 31) k)) (lo a3) (lN_gt a1 (by omega))
      obtain ⟨s1, s2, s3⟩ := rowF h1 (u := lN (kchz o k)) (d := lN (kch (nM τ1 31) k k)) (lo a5) (lN_gt a2 (by omega))
      have rr := kn_row (sI τ1 13 0 51 0) (u := kff o k) (d := kff (nM τ1 31) k) (u' := kchz o k) (d' := kch (nM τ1 31) k k) (by omega) (by omega) (by omega) (by omega) a1 a2 a7 a8
      unfold vj_M_knew_j89 ej_M_knew_j89
      rw [← rr]
      refine ⟨⟨pc_allLikes σ, fun _ _ => ⟨nI_inb (by omega) (by decide), fun i hi => ⟨trivial, q_cnt (N := nI k) (n := k) rfl (by omega) hi⟩, fun _ => r2, fun q => q (e_cnt (N := nI k) (n := k) rfl)⟩⟩, fun _ _ => ⟨fun i hi => ⟨fun _ => ?_, q_cnt hL.1 (by omega) hi⟩, fun _ => ⟨c2, d2, s3⟩, fun q => q (e_cnt rfl)⟩, rfl, r1⟩
      rw [z_nI]; exact nI_inb (by omega) (by decide)
    · simp only [if_neg (bn g), if_pos (bz g1)]
      exact ⟨⟨pc_allLikes σ, fun _ q => absurd (bz g1) q⟩, fun _ q => absurd (bz g1) q, trivial, h1⟩
  · simp only [if_pos (bz g)]
    exact ⟨⟨pc_allLikes σ, fun q => absurd (bz g) q⟩, fun q => absurd (bz g) q, trivial, h1⟩

