/-! reading: both at once -/
theorem nI_n1 {m : Nat} (h : m < 2 ^ 31) : ¬ nI m = -1 := fun q => absurd (show (0 : Int32) ≤ -1 from q ▸ nI_pos' h) (by decide)
theorem numM {tx : Nat → Nat} {Z E : Nat} {t : MSto} (h : rM tx Z E t) {p : Nat} (hp : p ≤ min Z E) (ha : gI t 13 0 55 = nI p) (hw : gI t 13 0 56 = -1) {low high : Nat} (hl : low ≤ 1000) (hh : high < 1000) : p_M_number (nI low) (nI high) t ∧ (kd tx (min Z E) p = 0 → e_M_number (nI low) (nI high) t = sI (sI t 13 0 55 (nI (p + kd tx (min Z E) p))) 13 0 56 (nI p)) ∧ (¬ kd tx (min Z E) p = 0 → ¬ (low ≤ vd tx p (kd tx (min Z E) p) ∧ vd tx p (kd tx (min Z E) p) ≤ high) → e_M_number (nI low) (nI high) t = sI (sI t 13 0 55 (nI (p + kd tx (min Z E) p))) 13 0 56 (nI (p + kd tx (min Z E) p - 1))) ∧ (¬ kd tx (min Z E) p = 0 → low ≤ vd tx p (kd tx (min Z E) p) → vd tx p (kd tx (min Z E) p) ≤ high → e_M_number (nI low) (nI high) t = sI t 13 0 55 (nI (p + kd tx (min Z E) p)) ∧ v_M_number (nI low) (nI high) t = nI (vd tx p (kd tx (min Z E) p))) := by
  have hZ := h.2.2.2.1
  have hE := h.2.2.1
  have k3 := kd_le tx (min Z E) p
  have kB := kd_B (tx := tx) hp
  have aM : ∀ i, a_M t i = sI t 13 0 55 (nI (p + i)) := fun i => by
    unfold a_M; rw [ha, nI_add]
  have rm : ∀ x, rM tx Z E (sI t 13 0 55 x) := fun x => h
  have dg : ∀ i, i ≤ 3 → (w_M_dg t i = 0 ↔ dig tx (min Z E) (p + i) = false) := fun i hi => by
    have d := (digM (rm (nI (p + i))) (p := p + i) (by omega) rfl).1
    unfold w_M_dg
    rw [aM, M_in]
    constructor
    · intro c
      cases hb : dig tx (min Z E) (p + i) with
      | false => rfl
      | true => exact absurd c (bn (d.mpr hb))
    · intro c
      exact bz (fun q => by have := d.mp q; rw [c] at this; cases this)
  have dt : ∀ i, i ≤ 3 → (¬ w_M_dg t i = 0 ↔ dig tx (min Z E) (p + i) = true) := fun i hi => by
    rw [dg i hi]
    cases dig tx (min Z E) (p + i) <;> decide
  have eN : n_M_num t = kd tx (min Z E) p := by
    unfold n_M_num kd
    cases g0 : dig tx (min Z E) p with
    | false => rw [if_pos ((dg 0 (by omega)).mpr g0), if_neg (by decide)]
    | true =>
      rw [if_neg ((dt 0 (by omega)).mpr g0), if_pos rfl]
      cases g1 : dig tx (min Z E) (p + 1) with
      | false => rw [if_pos ((dg 1 (by omega)).mpr g1), if_neg (by decide)]
      | true =>
        rw [if_neg ((dt 1 (by omega)).mpr g1), if_pos rfl]
        cases g2 : dig tx (min Z E) (p + 2) with
        | false => rw [if_pos ((dg 2 (by omega)).mpr g2), if_neg (by decide)]
        | true => rw [if_neg ((dt 2 (by omega)).mpr g2), if_pos rfl]
  have eX : ∀ k, k ≤ kd tx (min Z E) p → x_M_num t k = nI (vd tx p k) := by
    intro k
    induction k with
    | zero => exact fun _ => rfl
    | succ k ih =>
      intro hk
      have hd := kd_on (tx := tx) (B := min Z E) (p := p) (i := k) (by omega)
      have hv := (digM (rm (nI (p + k))) (p := p + k) (by omega) rfl).2 hd
      obtain ⟨-, d1, d2⟩ := dig_t hd
      show 10 * x_M_num t k + v_M_here (a_M t k) - 48 = nI (vd tx p k * 10 + (tx (p + k) - 48))
      rw [ih (by omega), aM, hv, show (10 : Int32) * nI (vd tx p k) = nI (10 * vd tx p k) from pk_mul 10 _, nI_add, show nI (10 * vd tx p k + tx (p + k)) - 48 = nI (10 * vd tx p k + tx (p + k) - 48) from pk_sub (b := 48) (by omega)]
      congr 1; omega
  have hv9 := vd_999 (tx := tx) (B := min Z E) (p := p) (Nat.le_refl _)
  have g55 : gI (sI t 13 0 55 (nI (p + kd tx (min Z E) p))) 13 0 55 = nI (p + kd tx (min Z E) p) := by rw [gI_sI, if_pos ⟨rfl, rfl, rfl⟩]
  have g56 : gI (sI t 13 0 55 (nI (p + kd tx (min Z E) p))) 13 0 56 = -1 := hw
  have eE : e_M_number (nI low) (nI high) t = f_M_num (nI low) (nI high) (nI p) (nI (vd tx p (kd tx (min Z E) p))) (sI t 13 0 55 (nI (p + kd tx (min Z E) p))) := by
    unfold e_M_number
    rw [if_pos hw, eN, eX _ (Nat.le_refl _), aM, ha]
  have ft : ∀ x, e_M_fault x (sI t 13 0 55 (nI (p + kd tx (min Z E) p))) = sI (sI t 13 0 55 (nI (p + kd tx (min Z E) p))) 13 0 56 x := fun x => if_pos g56
  have pM : p_M_number (nI low) (nI high) t := by
    refine ⟨⟨?_, ?_⟩, ⟨?_, ?_⟩⟩
    · unfold nM; rw [h.1, nI_cl (by omega)]
    · unfold nM; rw [h.1, nI_cl (by omega)]; omega
    · unfold nM; rw [ha, nI_cl (by omega)]
    · unfold nM; rw [ha, nI_cl (by omega)]; omega
  refine ⟨pM, fun hk => ?_, fun hk hr => ?_, fun hk h1 h2 => ?_⟩
  · rw [eE]
    unfold f_M_num
    rw [g55, if_pos (by rw [hk]; rfl), ft]
    rw [hk]
    rfl
  · have ne : ¬ nI (p + kd tx (min Z E) p) = nI p := fun q => by have := (nI_eq (by omega) (by omega)).mp q; omega
    rw [eE]
    unfold f_M_num
    rw [g55, if_neg ne, M_in, if_pos (bz (fun q => hr ⟨(leN (by omega) (by omega)).mp q.1, (leN (by omega) (by omega)).mp q.2⟩)), ft]
    congr 1
    exact pk_sub (b := 1) (by omega)
  · have ne : ¬ nI (p + kd tx (min Z E) p) = nI p := fun q => by have := (nI_eq (by omega) (by omega)).mp q; omega
    have e1 : e_M_number (nI low) (nI high) t = sI t 13 0 55 (nI (p + kd tx (min Z E) p)) := by
      rw [eE]
      unfold f_M_num
      rw [g55, if_neg ne, M_in, if_neg (bn ⟨nI_le h1 (by omega), nI_le h2 (by omega)⟩)]
    refine ⟨e1, ?_⟩
    unfold v_M_number
    rw [if_pos hw, e1, if_pos g56, eN, eX _ (Nat.le_refl _)]
def rR (tx : Nat → Nat) (Z E p : Nat) (s t : MSto) : Prop := rC tx Z (min Z E) s ∧ rM tx Z E t ∧ p ≤ min Z E ∧ gI s 10 0 4 = -1 ∧ gI t 13 0 56 = -1 ∧ gI s 10 0 2 = nI p ∧ gI t 13 0 55 = nI p
/-- the class alone, once it is wrong -/
def cW (tx : Nat → Nat) (Z B w : Nat) (s : MSto) : Prop := rC tx Z B s ∧ w ≤ 80 ∧ gI s 10 0 4 = nI w ∧ ∃ p, p ≤ B ∧ gI s 10 0 2 = nI p
def mW' (tx : Nat → Nat) (Z E w : Nat) (t : MSto) : Prop := rM tx Z E t ∧ gI t 13 0 56 = nI w ∧ ∃ p, p ≤ min Z E ∧ gI t 13 0 55 = nI p
theorem cW_fail {tx : Nat → Nat} {Z B w : Nat} {s : MSto} (h : cW tx Z B w s) (x : Int32) : e_Te_failAt x s = s := by
  unfold e_Te_failAt
  rw [if_neg (by rw [h.2.2.1]; exact nI_n1 (by have := h.2.1; omega))]
theorem cW_last {tx : Nat → Nat} {Z B w : Nat} {s : MSto} (h : cW tx Z B w s) : e_Te_failAtLastDigit s = s := cW_fail h _
theorem cW_skip {tx : Nat → Nat} {Z B w : Nat} {s : MSto} (h : cW tx Z B w s) (c : Int32) : v_Te_skip c s = 0 ∧ e_Te_skip c s = s ∧ p_Te_skip c s := by
  have n : ¬ gI s 10 0 4 = -1 := by rw [h.2.2.1]; exact nI_n1 (by have := h.2.1; omega)
  unfold v_Te_skip b_Te_skip e_Te_skip p_Te_skip
  rw [if_neg n, if_neg n]
  exact ⟨bz id, rfl, fun q => absurd q n⟩
theorem cW_pass {tx : Nat → Nat} {Z B w : Nat} {s : MSto} (h : cW tx Z B w s) (c : Int32) : e_Te_pass c s = s ∧ p_Te_pass c s := by
  obtain ⟨a, b, d⟩ := cW_skip h c
  unfold e_Te_pass p_Te_pass
  rw [a, b, if_pos rfl, cW_fail h]
  exact ⟨rfl, d⟩
theorem cW_number {tx : Nat → Nat} {Z B w : Nat} {s : MSto} (h : cW tx Z B w s) (a1 : Int32) : cW tx Z B w (e_Te_number a1 s) ∧ p_Te_number a1 s ∧ ∃ v, v < 1000 ∧ v_Te_number a1 s = nI v := by
  obtain ⟨hc, hw, h4, p, hp, ha⟩ := h
  obtain ⟨n1, n2, n3⟩ := numC hc hp ha a1
  have k1 : cW tx Z B w (nC1 tx B p s) := by
    unfold nC1
    split
    · rw [cW_fail ⟨hc, hw, h4, p, hp, ha⟩]; exact ⟨hc, hw, h4, p, hp, ha⟩
    · exact ⟨hc, hw, h4, _, kd_B hp, by rw [gI_sI, if_pos ⟨rfl, rfl, rfl⟩]⟩
  refine ⟨?_, n3, _, vd_999 (tx := tx) (B := B) (p := p) (Nat.le_refl _), n1⟩
  rw [n2]
  split
  · exact k1
  · rw [cW_last k1]; exact k1
theorem cW_signed {tx : Nat → Nat} {Z B w : Nat} {s : MSto} (h : cW tx Z B w s) (a1 : Int32) : cW tx Z B w (e_Te_signedNumber a1 s) ∧ p_Te_signedNumber a1 s := by
  obtain ⟨a, b, d⟩ := cW_skip h 45
  obtain ⟨n1, n2, -⟩ := cW_number h a1
  unfold e_Te_signedNumber p_Te_signedNumber
  rw [b]
  exact ⟨n1, d, fun _ => n2, fun _ => n2⟩
/-- a number, read by both: right, or both wrong at the same place -/
theorem R_num {tx : Nat → Nat} {Z E p : Nat} {s t : MSto} (h : rR tx Z E p s t) {low high : Nat} (hl : low ≤ 1000) (hh : high < 1000) : p_Te_number (nI high) s ∧ p_M_number (nI low) (nI high) t ∧ ((∃ v k, 0 < k ∧ low ≤ v ∧ v ≤ high ∧ v_Te_number (nI high) s = nI v ∧ v_M_number (nI low) (nI high) t = nI v ∧ rR tx Z E (p + k) (e_Te_number (nI high) s) (e_M_number (nI low) (nI high) t)) ∨ ∃ v w, v < 1000 ∧ v_Te_number (nI high) s = nI v ∧ cW tx Z (min Z E) w (if v < low then e_Te_failAtLastDigit (e_Te_number (nI high) s) else e_Te_number (nI high) s) ∧ mW' tx Z E w (e_M_number (nI low) (nI high) t)) := by
  obtain ⟨hc, hm, hp, h4, h56, hs, ht⟩ := h
  have hZ := hm.2.2.2.1
  obtain ⟨n1, n2, n3⟩ := numC hc hp hs (nI high)
  obtain ⟨m0, m1, m2, m3⟩ := numM hm hp ht h56 hl hh
  refine ⟨n3, m0, ?_⟩
  have kB := kd_B (tx := tx) hp
  have v9 := vd_999 (tx := tx) (B := min Z E) (p := p) (Nat.le_refl _)
  obtain ⟨K, eK⟩ : ∃ K, K = kd tx (min Z E) p := ⟨_, rfl⟩
  obtain ⟨V, eV⟩ : ∃ V, V = vd tx p (kd tx (min Z E) p) := ⟨_, rfl⟩
  rw [← eV] at n1 n2 m2 m3 v9
  rw [← eK] at m1 m2 m3 kB
  by_cases hk : K = 0
  · right
    have c1 : nC1 tx (min Z E) p s = sI s 10 0 4 (nI p) := by
      unfold nC1
      rw [if_pos (by rw [← eK]; exact hk)]
      unfold e_Te_failAt
      rw [if_pos h4]
    have cw : cW tx Z (min Z E) p (sI s 10 0 4 (nI p)) := ⟨hc, by omega, by rw [gI_sI, if_pos ⟨rfl, rfl, rfl⟩], p, hp, hs⟩
    refine ⟨V, p, v9, n1, ?_, ?_⟩
    · rw [n2, c1]
      split <;> split <;> first | exact cw | (rw [cW_last cw]; first | exact cw | (rw [cW_last cw]; exact cw))
    · rw [m1 hk]
      exact ⟨hm, by rw [gI_sI, if_pos ⟨rfl, rfl, rfl⟩], p + K, by omega, rfl⟩
  · have c1 : nC1 tx (min Z E) p s = sI s 10 0 2 (nI (p + K)) := by
      unfold nC1
      rw [if_neg (by rw [← eK]; exact hk), ← eK]
    have e1 : nI (p + K) - 1 = nI (p + K - 1) := pk_sub (b := 1) (by omega)
    have lastE : e_Te_failAtLastDigit (sI s 10 0 2 (nI (p + K))) = sI (sI s 10 0 2 (nI (p + K))) 10 0 4 (nI (p + K - 1)) := by
      unfold e_Te_failAtLastDigit e_Te_failAt
      rw [if_pos (show gI (sI s 10 0 2 (nI (p + K))) 10 0 4 = -1 from h4), gI_sI, if_pos ⟨rfl, rfl, rfl⟩, e1]
    have cw : cW tx Z (min Z E) (p + K - 1) (sI (sI s 10 0 2 (nI (p + K))) 10 0 4 (nI (p + K - 1))) := ⟨hc, by omega, by rw [gI_sI, if_pos ⟨rfl, rfl, rfl⟩], p + K, by omega, rfl⟩
    by_cases hr : low ≤ V ∧ V ≤ high
    · left
      obtain ⟨q1, q2⟩ := m3 hk hr.1 hr.2
      refine ⟨V, K, by omega, hr.1, hr.2, n1, q2, ?_⟩
      rw [n2, if_pos (nI_le hr.2 (by omega)), c1, q1]
      exact ⟨hc, hm, kB, h4, h56, by rw [gI_sI, if_pos ⟨rfl, rfl, rfl⟩], by rw [gI_sI, if_pos ⟨rfl, rfl, rfl⟩]⟩
    · right
      refine ⟨V, p + K - 1, v9, n1, ?_, ?_⟩
      · rw [n2, c1]
        by_cases g : V ≤ high
        · rw [if_pos (nI_le g (by omega)), if_pos (by omega), lastE]
          exact cw
        · rw [if_neg (nI_ge (by omega) (by omega)), lastE]
          split
          · rw [cW_last cw]; exact cw
          · exact cw
      · rw [m2 hk hr]
        exact ⟨hm, by rw [gI_sI, if_pos ⟨rfl, rfl, rfl⟩], p + K, by omega, rfl⟩
/-- a sign that may stand there -/
theorem R_skip {tx : Nat → Nat} {Z E p : Nat} {s t : MSto} (h : rR tx Z E p s t) {c : Nat} (hc : c < 128) : p_Te_skip (nI c) s ∧ p_M_passes (nI c) t ∧ ((v_Te_skip (nI c) s = 1 ∧ v_M_passes (nI c) t = 1 ∧ rR tx Z E (p + 1) (e_Te_skip (nI c) s) (e_M_passes (nI c) t)) ∨ (v_Te_skip (nI c) s = 0 ∧ v_M_passes (nI c) t = 0 ∧ e_Te_skip (nI c) s = s ∧ e_M_passes (nI c) t = t)) := by
  obtain ⟨hC, hm, hp, h4, h56, hs, ht⟩ := h
  have hZ := hm.2.2.2.1
  have a1 := isC hC (p := p) (by omega) hs hc
  have a2 := isM hm (p := p) (by omega) ht hc
  refine ⟨fun _ => (hereC hC (p := p) (by omega) hs).2, fun _ => (hereM hm (p := p) (by omega) ht).2, ?_⟩
  unfold v_Te_skip b_Te_skip e_Te_skip v_M_passes b_M_passes e_M_passes
  rw [if_pos h4, if_pos h4, if_pos h56, if_pos h56]
  by_cases g : p < min Z E ∧ tx p = c
  · left
    rw [if_pos (a1.mpr g), if_pos (a1.mpr g), if_pos (a2.mpr g), if_pos (a2.mpr g), hs, ht, nI_s]
    refine ⟨if_pos trivial, if_pos trivial, hC, hm, g.1, h4, h56, ?_, ?_⟩
    · rw [gI_sI, if_pos ⟨rfl, rfl, rfl⟩]
    · rw [gI_sI, if_pos ⟨rfl, rfl, rfl⟩]
  · right
    rw [if_neg (fun q => g (a1.mp q)), if_neg (fun q => g (a1.mp q)), if_neg (fun q => g (a2.mp q)), if_neg (fun q => g (a2.mp q))]
    exact ⟨bz id, bz id, rfl, rfl⟩
theorem R_wrong {tx : Nat → Nat} {Z E p : Nat} {s t : MSto} (h : rR tx Z E p s t) : cW tx Z (min Z E) p (sI s 10 0 4 (nI p)) ∧ mW' tx Z E p (sI t 13 0 56 (nI p)) := by
  obtain ⟨hC, hm, hp, h4, h56, hs, ht⟩ := h
  have hZ := hm.2.2.2.1
  exact ⟨⟨hC, by omega, by rw [gI_sI, if_pos ⟨rfl, rfl, rfl⟩], p, hp, hs⟩, hm, by rw [gI_sI, if_pos ⟨rfl, rfl, rfl⟩], p, hp, ht⟩
/-- a sign that must stand there -/
theorem R_pass {tx : Nat → Nat} {Z E p : Nat} {s t : MSto} (h : rR tx Z E p s t) {c : Nat} (hc : c < 128) : p_Te_pass (nI c) s ∧ p_M_need (nI c) t ∧ (rR tx Z E (p + 1) (e_Te_pass (nI c) s) (e_M_need (nI c) t) ∨ ∃ w, cW tx Z (min Z E) w (e_Te_pass (nI c) s) ∧ mW' tx Z E w (e_M_need (nI c) t)) := by
  obtain ⟨p1, p2, q⟩ := R_skip h hc
  refine ⟨p1, p2, ?_⟩
  unfold e_Te_pass e_M_need
  rcases q with ⟨a, b, r⟩ | ⟨a, b, e1, e2⟩
  · left
    rw [a, b, if_neg (by decide), if_neg (by decide)]
    exact r
  · right
    obtain ⟨w1, w2⟩ := R_wrong h
    obtain ⟨hC, hm, hp, h4, h56, hs, ht⟩ := h
    refine ⟨p, ?_⟩
    rw [a, b, if_pos rfl, if_pos rfl, e1, e2, hs, ht]
    unfold e_Te_failAt e_M_fault
    rw [if_pos h4, if_pos h56]
    exact ⟨w1, w2⟩
/-- a number with a sign -/
theorem mW_id {tx : Nat → Nat} {Z E w : Nat} {t : MSto} (h : mW' tx Z E w t) (hw : w ≤ 80) : (∀ c, v_M_passes c t = 0 ∧ e_M_passes c t = t ∧ p_M_passes c t) ∧ (∀ c, e_M_need c t = t ∧ p_M_need c t) ∧ (∀ x, e_M_fault x t = t) ∧ (∀ a b, e_M_number a b t = t ∧ v_M_number a b t = 0 ∧ p_M_number a b t) ∧ (∀ a, e_M_signed a t = t ∧ p_M_signed a t) := by
  have n : ¬ gI t 13 0 56 = -1 := by rw [h.2.1]; exact nI_n1 (by omega)
  have f : ∀ x, e_M_fault x t = t := fun x => if_neg n
  have ps : ∀ c, v_M_passes c t = 0 ∧ e_M_passes c t = t ∧ p_M_passes c t := fun c => by
    unfold v_M_passes b_M_passes e_M_passes
    rw [if_neg n, if_neg n]
    exact ⟨bz id, rfl, fun q => absurd q n⟩
  have pM : ∀ a b, p_M_number a b t := fun a b => by
    obtain ⟨hm, h56, p, hp, ha⟩ := h
    have hZ := hm.2.2.2.1
    refine ⟨⟨?_, ?_⟩, ⟨?_, ?_⟩⟩
    · unfold nM; rw [hm.1, nI_cl (by omega)]
    · unfold nM; rw [hm.1, nI_cl (by omega)]; omega
    · unfold nM; rw [ha, nI_cl (by omega)]
    · unfold nM; rw [ha, nI_cl (by omega)]; omega
  have nu : ∀ a b, e_M_number a b t = t ∧ v_M_number a b t = 0 ∧ p_M_number a b t := fun a b => ⟨if_neg n, if_neg n, pM a b⟩
  refine ⟨ps, fun c => ?_, f, nu, fun a => ?_⟩
  · obtain ⟨a, b, d⟩ := ps c
    unfold e_M_need p_M_need
    rw [a, b, if_pos rfl, f]
    exact ⟨rfl, d⟩
  · obtain ⟨a1, b, d⟩ := ps 45
    unfold e_M_signed p_M_signed
    rw [b]
    exact ⟨(nu 0 a).1, d, (nu 0 a).2.2⟩

