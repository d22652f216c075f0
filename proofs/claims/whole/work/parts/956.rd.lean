/-! reading: the class's text, the reference's text, as numbers -/
def rC (tx : Nat → Nat) (Z B : Nat) (s : MSto) : Prop := gI s 10 0 1 = nI Z ∧ gI s 10 0 3 = nI B ∧ B ≤ Z ∧ Z ≤ 80 ∧ ∀ j, j < Z → gI s 33 0 j = nI (tx j) ∧ tx j < 256
def rM (tx : Nat → Nat) (Z E : Nat) (t : MSto) : Prop := gI t 13 0 53 = nI Z ∧ gI t 13 0 54 = nI E ∧ E ≤ 80 ∧ Z ≤ 80 ∧ ∀ j, j < Z → gI t 77 0 j = (nI (tx j)).toInt8.toInt32 ∧ tx j < 256
def dig (tx : Nat → Nat) (B p : Nat) : Bool := decide (p < B) && decide (48 ≤ tx p) && decide (tx p ≤ 57)
def kd (tx : Nat → Nat) (B p : Nat) : Nat := if dig tx B p = true then if dig tx B (p + 1) = true then if dig tx B (p + 2) = true then 3 else 2 else 1 else 0
def vd (tx : Nat → Nat) (p : Nat) : Nat → Nat
  | 0 => 0
  | k + 1 => vd tx p k * 10 + (tx (p + k) - 48)
theorem dig_t {tx : Nat → Nat} {B p : Nat} (h : dig tx B p = true) : p < B ∧ 48 ≤ tx p ∧ tx p ≤ 57 := by
  unfold dig at h
  rw [Bool.and_eq_true, Bool.and_eq_true] at h
  exact ⟨of_decide_eq_true h.1.1, of_decide_eq_true h.1.2, of_decide_eq_true h.2⟩
theorem dig_f {tx : Nat → Nat} {B p : Nat} (h : dig tx B p = false) : ¬ (p < B ∧ 48 ≤ tx p ∧ tx p ≤ 57) := by
  intro q
  unfold dig at h
  rw [decide_eq_true q.1, decide_eq_true q.2.1, decide_eq_true q.2.2] at h
  cases h
theorem rd_byte : ∀ x, x < 256 → ∀ c, c < 128 → ((nI x).toInt8.toInt32 = nI c ↔ x = c) := by decide +kernel
theorem rd_dig : ∀ x, x < 256 → ((48 : Int32) ≤ (nI x).toInt8.toInt32 ∧ (nI x).toInt8.toInt32 ≤ 57 ↔ 48 ≤ x ∧ x ≤ 57) ∧ (48 ≤ x → x ≤ 57 → (nI x).toInt8.toInt32 = nI x) := by decide +kernel
/-- the class's sign -/
theorem hereC {tx : Nat → Nat} {Z B : Nat} {s : MSto} (h : rC tx Z B s) {p : Nat} (hp : p ≤ 80) (ha : gI s 10 0 2 = nI p) : v_Te_here s = (if p < B then nI (tx p) else -1) ∧ p_Te_here s := by
  obtain ⟨-, h2, h3, h4, h5⟩ := h
  unfold v_Te_here p_Te_here
  rw [h2, ha, nI_cl (by omega)]
  by_cases g : p < B
  · rw [if_neg (nI_ge g (by omega)), if_pos g, (h5 p (by omega)).1]
    exact ⟨rfl, fun _ => nI_inb (by omega) (by decide)⟩
  · rw [if_pos (nI_le (by omega) (by omega)), if_neg g]
    exact ⟨rfl, fun q => absurd (nI_le (by omega) (by omega)) q⟩
theorem hereM {tx : Nat → Nat} {Z E : Nat} {t : MSto} (h : rM tx Z E t) {p : Nat} (hp : p ≤ 90) (ha : gI t 13 0 55 = nI p) : v_M_here t = (if p < min Z E then (nI (tx p)).toInt8.toInt32 else -1) ∧ p_M_here t := by
  obtain ⟨h1, h2, h3, h4, h5⟩ := h
  unfold v_M_here p_M_here
  rw [h1, h2, ha, nI_cl (by omega)]
  by_cases g : p < min Z E
  · rw [if_neg (nI_ge (by omega) (by omega)), if_neg (nI_ge (by omega) (by omega)), if_pos g, (h5 p (by omega)).1]
    exact ⟨rfl, fun _ _ => nI_inb (by omega) (by decide)⟩
  · rw [if_neg g]
    by_cases g1 : Z ≤ p
    · rw [if_pos (nI_le g1 (by omega))]
      exact ⟨rfl, fun q => absurd (nI_le g1 (by omega)) q⟩
    · rw [if_neg (nI_ge (by omega) (by omega)), if_pos (nI_le (by omega) (by omega))]
      exact ⟨rfl, fun _ q => absurd (nI_le (by omega) (by omega)) q⟩
theorem rd_m1 {c : Nat} (hc : c < 128) : ¬ (-1 : Int32) = nI c := fun q => absurd (show (0 : Int32) ≤ -1 from q ▸ nI_pos' (by omega)) (by decide)
theorem isC {tx : Nat → Nat} {Z B : Nat} {s : MSto} (h : rC tx Z B s) {p : Nat} (hp : p ≤ 80) (ha : gI s 10 0 2 = nI p) {c : Nat} (hc : c < 128) : v_Te_here s = nI c ↔ p < B ∧ tx p = c := by
  rw [(hereC h hp ha).1]
  by_cases g : p < B
  · rw [if_pos g]
    have := (h.2.2.2.2 p (by have := h.2.2.1; omega)).2
    exact ⟨fun q => ⟨g, (nI_eq (by omega) (by omega)).mp q⟩, fun q => by rw [q.2]⟩
  · rw [if_neg g]
    exact ⟨fun q => absurd q (rd_m1 hc), fun q => absurd q.1 g⟩
theorem isM {tx : Nat → Nat} {Z E : Nat} {t : MSto} (h : rM tx Z E t) {p : Nat} (hp : p ≤ 90) (ha : gI t 13 0 55 = nI p) {c : Nat} (hc : c < 128) : v_M_here t = nI c ↔ p < min Z E ∧ tx p = c := by
  rw [(hereM h hp ha).1]
  by_cases g : p < min Z E
  · rw [if_pos g, rd_byte _ (h.2.2.2.2 p (by omega)).2 c hc]
    exact ⟨fun q => ⟨g, q⟩, fun q => q.2⟩
  · rw [if_neg g]
    exact ⟨fun q => absurd q (rd_m1 hc), fun q => absurd q.1 g⟩
theorem digC {tx : Nat → Nat} {Z B : Nat} {s : MSto} (h : rC tx Z B s) {p : Nat} (hp : p ≤ 80) (ha : gI s 10 0 2 = nI p) : ((48 : Int32) ≤ v_Te_here s ∧ v_Te_here s ≤ 57) ↔ dig tx B p = true := by
  rw [(hereC h hp ha).1]
  by_cases g : p < B
  · rw [if_pos g]
    have hx := (h.2.2.2.2 p (by have := h.2.2.1; omega)).2
    constructor
    · intro q
      have a := (leN (a := 48) (by decide) (by omega)).mp q.1
      have b := (leN (b := 57) (by omega) (by decide)).mp q.2
      unfold dig
      rw [decide_eq_true g, decide_eq_true a, decide_eq_true b]; rfl
    · intro q
      obtain ⟨-, a, b⟩ := dig_t q
      exact ⟨nI_le (a := 48) a (by omega), nI_le (b := 57) b (by decide)⟩
  · rw [if_neg g]
    exact ⟨fun q => absurd q.1 (by decide), fun q => absurd (dig_t q).1 g⟩
theorem digM {tx : Nat → Nat} {Z E : Nat} {t : MSto} (h : rM tx Z E t) {p : Nat} (hp : p ≤ 90) (ha : gI t 13 0 55 = nI p) : (((48 : Int32) ≤ v_M_here t ∧ v_M_here t ≤ 57) ↔ dig tx (min Z E) p = true) ∧ (dig tx (min Z E) p = true → v_M_here t = nI (tx p)) := by
  rw [(hereM h hp ha).1]
  by_cases g : p < min Z E
  · rw [if_pos g]
    obtain ⟨r1, r2⟩ := rd_dig _ (h.2.2.2.2 p (by omega)).2
    rw [r1]
    refine ⟨⟨fun q => ?_, fun q => (dig_t q).2⟩, fun q => r2 (dig_t q).2.1 (dig_t q).2.2⟩
    unfold dig
    rw [decide_eq_true g, decide_eq_true q.1, decide_eq_true q.2]; rfl
  · rw [if_neg g]
    exact ⟨⟨fun q => absurd q.1 (by decide), fun q => absurd (dig_t q).1 g⟩, fun q => absurd (dig_t q).1 g⟩
theorem kd_le (tx : Nat → Nat) (B p : Nat) : kd tx B p ≤ 3 := by unfold kd; (repeat' split) <;> omega
theorem kd_on {tx : Nat → Nat} {B p i : Nat} (h : i < kd tx B p) : dig tx B (p + i) = true := by
  unfold kd at h
  by_cases g1 : dig tx B p = true
  · rw [if_pos g1] at h
    by_cases g2 : dig tx B (p + 1) = true
    · rw [if_pos g2] at h
      by_cases g3 : dig tx B (p + 2) = true
      · rw [if_pos g3] at h
        match i, h with
        | 0, _ => exact g1
        | 1, _ => exact g2
        | 2, _ => exact g3
      · rw [if_neg g3] at h
        match i, h with
        | 0, _ => exact g1
        | 1, _ => exact g2
    · rw [if_neg g2] at h
      match i, h with
      | 0, _ => exact g1
  · rw [if_neg g1] at h; omega
theorem kd_off {tx : Nat → Nat} {B p : Nat} (h : kd tx B p < 3) : dig tx B (p + kd tx B p) = false := by
  have b : ∀ {x : Bool}, ¬ x = true → x = false := fun {x} q => by cases x with | true => exact absurd rfl q | false => rfl
  by_cases g1 : dig tx B p = true
  · by_cases g2 : dig tx B (p + 1) = true
    · by_cases g3 : dig tx B (p + 2) = true
      · rw [show kd tx B p = 3 from ((if_pos g1).trans (if_pos g2)).trans (if_pos g3)] at h; omega
      · rw [show kd tx B p = 2 from ((if_pos g1).trans (if_pos g2)).trans (if_neg g3)]; exact b g3
    · rw [show kd tx B p = 1 from (if_pos g1).trans (if_neg g2)]; exact b g2
  · rw [show kd tx B p = 0 from if_neg g1]; exact b g1
theorem kd_B {tx : Nat → Nat} {B p : Nat} (hp : p ≤ B) : p + kd tx B p ≤ B := by
  rcases Nat.eq_zero_or_pos (kd tx B p) with q | q
  · omega
  · have := (dig_t (kd_on (tx := tx) (B := B) (p := p) (i := kd tx B p - 1) (by omega))).1
    omega
theorem vd_lt {tx : Nat → Nat} {B p : Nat} : ∀ k, k ≤ kd tx B p → vd tx p k < 10 ^ k
  | 0, _ => by show 0 < 1; omega
  | k + 1, h => by
    have ih := vd_lt k (by omega : k ≤ kd tx B p)
    have d := (dig_t (kd_on (tx := tx) (B := B) (p := p) (i := k) (by omega))).2
    show vd tx p k * 10 + (tx (p + k) - 48) < 10 ^ (k + 1)
    rw [Nat.pow_succ]
    omega
theorem vd_999 {tx : Nat → Nat} {B p k : Nat} (h : k ≤ kd tx B p) : vd tx p k < 1000 := by
  have a := vd_lt k h
  have b := kd_le tx B p
  have c : 10 ^ k ≤ 10 ^ 3 := Nat.pow_le_pow_right (by decide) (by omega)
  omega
/-- the class's number, wherever it stands -/
noncomputable def nC1 (tx : Nat → Nat) (B p : Nat) (s : MSto) : MSto := if kd tx B p = 0 then e_Te_failAt (nI p) s else sI s 10 0 2 (nI (p + kd tx B p))
theorem numC {tx : Nat → Nat} {Z B : Nat} {s : MSto} (h : rC tx Z B s) {p : Nat} (hp : p ≤ B) (ha : gI s 10 0 2 = nI p) (a1 : Int32) : v_Te_number a1 s = nI (vd tx p (kd tx B p)) ∧ e_Te_number a1 s = (if nI (vd tx p (kd tx B p)) ≤ a1 then nC1 tx B p s else e_Te_failAtLastDigit (nC1 tx B p s)) ∧ p_Te_number a1 s := by
  have hB : B ≤ 80 := by have := h.2.2.1; have := h.2.2.2.1; omega
  -- a digit
  have rc : ∀ x, rC tx Z B (sI s 10 0 2 x) := fun x => h
  have D1 : ∀ q, q ≤ B → dig tx B q = true → v_Te_digit 9 (sI s 10 0 2 (nI q)) = nI (tx q - 48) ∧ e_Te_digit 9 (sI s 10 0 2 (nI q)) = sI s 10 0 2 (nI (q + 1)) := fun q hq hd => by
    obtain ⟨d1, d2, d3⟩ := dig_t hd
    have hv : v_Te_here (sI s 10 0 2 (nI q)) = nI (tx q) := by
      rw [(hereC (rc (nI q)) (p := q) (by omega) rfl).1, if_pos d1]
    have e48 : nI (tx q) - 48 = nI (tx q - 48) := pk_sub (b := 48) d2
    unfold v_Te_digit e_Te_digit
    rw [hv, e48, cp_isIn, if_neg (bn ⟨nI_pos' (by omega), nI_le (b := 9) (by omega) (by decide)⟩), if_neg (bn ⟨nI_pos' (by omega), nI_le (b := 9) (by omega) (by decide)⟩)]
    refine ⟨rfl, ?_⟩
    rw [sI_sI, gI_sI, if_pos ⟨rfl, rfl, rfl⟩, nI_s]
  have es : sI s 10 0 2 (nI p) = s := by rw [← ha]; exact sI_id s 10 0 2
  have ph : ∀ q, q ≤ B → p_Te_here (sI s 10 0 2 (nI q)) := fun q hq => (hereC (rc (nI q)) (p := q) (by omega) rfl).2
  -- the first digit
  obtain ⟨v0, ev⟩ : ∃ v0, v0 = v_Te_digit 9 s := ⟨_, rfl⟩
  obtain ⟨s0, e0⟩ : ∃ s0, s0 = e_Te_digit 9 s := ⟨_, rfl⟩
  have qd : ∀ q, q ≤ B → (v_C_isIn (v_Te_here (sI s 10 0 2 (nI q))) 48 57 (sI s 10 0 2 (nI q)) = 0 ↔ dig tx B q = false) := fun q hq => by
    have := digC (rc (nI q)) (p := q) (by omega) rfl
    rw [cp_isIn]
    constructor
    · intro c
      cases hb : dig tx B q with
      | false => rfl
      | true => exact absurd c (bn (this.mpr hb))
    · intro c
      exact bz (fun q' => by have := this.mp q'; rw [c] at this; cases this)
  by_cases hk : kd tx B p = 0
  · have hd : dig tx B p = false := by
      have := kd_off (tx := tx) (B := B) (p := p) (by omega)
      rw [hk] at this; exact this
    have w0 : v_Te_digit 9 s = 0 ∧ e_Te_digit 9 s = e_Te_failAt (nI p) s := by
      have nd : ¬ (0 ≤ v_Te_here s - 48 ∧ v_Te_here s - 48 ≤ 9) := by
        have hb := dig_f hd
        rw [(hereC h (by omega) ha).1]
        by_cases g : p < B
        · rw [if_pos g]
          have hx := (h.2.2.2.2 p (by have := h.2.2.1; omega)).2
          have : ∀ x, x < 256 → ((0 : Int32) ≤ nI x - 48 ∧ nI x - 48 ≤ 9) → 48 ≤ x ∧ x ≤ 57 := by decide +kernel
          exact fun q => hb ⟨g, this _ hx q⟩
        · rw [if_neg g]; decide
      unfold v_Te_digit e_Te_digit
      rw [cp_isIn, if_pos (bz nd), if_pos (bz nd), ha]
      exact ⟨rfl, rfl⟩
    have hf : ∀ x, gI (e_Te_failAt x s) 10 0 2 = nI p ∧ rC tx Z B (e_Te_failAt x s) := fun x => by
      unfold e_Te_failAt
      split
      · exact ⟨ha, h⟩
      · exact ⟨ha, h⟩
    have st : q_Te_number_9s a1 (1 + nI 0) (0, e_Te_failAt (nI p) s) = 1 := by
      unfold q_Te_number_9s
      have := digC (hf (nI p)).2 (p := p) (by omega) (hf (nI p)).1
      show (if (3 : Int32) ≤ 1 + nI 0 then 1 else (if v_C_isIn (v_Te_here (e_Te_failAt (nI p) s)) 48 57 (e_Te_failAt (nI p) s) = 0 then 1 else 0)) = 1
      rw [if_neg (by decide), cp_isIn, if_pos (bz (fun q => by have := this.mp q; rw [hd] at this; cases this))]
    have nn : n_Te_number_9 a1 1 (0, e_Te_failAt (nI p) s) = 0 := leastN_eq (P := fun i => q_Te_number_9s a1 (1 + nI i) (f_Te_number_9 a1 1 (0, e_Te_failAt (nI p) s) i) = 1) (fun i hi => absurd hi (by omega)) st (by omega)
    unfold v_Te_number e_Te_number p_Te_number
    rw [w0.1, w0.2, nn, hk]
    have z1 : (if kd tx B p = 0 then e_Te_failAt (nI p) s else sI s 10 0 2 (nI (p + kd tx B p))) = e_Te_failAt (nI p) s := if_pos hk
    unfold nC1
    rw [z1]
    refine ⟨rfl, rfl, (hereC h (by omega) ha).2, fun i hi => absurd hi (by omega), fun _ => ⟨(hereC (hf (nI p)).2 (p := p) (by omega) (hf (nI p)).1).2, fun q => ?_⟩⟩
    have := digC (hf (nI p)).2 (p := p) (by omega) (hf (nI p)).1
    refine q ?_
    show v_C_isIn (v_Te_here (e_Te_failAt (nI p) s)) 48 57 (e_Te_failAt (nI p) s) = 0
    rw [cp_isIn]
    exact bz (fun c => by have := this.mp c; rw [hd] at this; cases this)
  · have hd : dig tx B p = true := by
      have := kd_on (tx := tx) (B := B) (p := p) (i := 0) (by omega)
      exact this
    have hB2 := kd_B (tx := tx) hp
    have h3 := kd_le tx B p
    have w0 := D1 p hp hd
    rw [es] at w0
    have main : ∀ i, i + 1 ≤ kd tx B p → f_Te_number_9 a1 1 (nI (tx p - 48), sI s 10 0 2 (nI (p + 1))) i = (nI (vd tx p (i + 1)), sI s 10 0 2 (nI (p + (i + 1)))) := by
      intro i
      induction i with
      | zero =>
        intro _
        show (nI (tx p - 48), sI s 10 0 2 (nI (p + 1))) = (nI (0 * 10 + (tx (p + 0) - 48)), sI s 10 0 2 (nI (p + 1)))
        rw [Nat.zero_mul, Nat.zero_add]
        rfl
      | succ i ih =>
        intro hi
        have hdi := kd_on (tx := tx) (B := B) (p := p) (i := i + 1) (by omega)
        have hlt := (dig_t hdi).1
        obtain ⟨d1, d2⟩ := D1 (p + (i + 1)) (by omega) hdi
        show t_Te_number_9 a1 (1 + nI i) (f_Te_number_9 a1 1 (nI (tx p - 48), sI s 10 0 2 (nI (p + 1))) i) = (nI (vd tx p (i + 1) * 10 + (tx (p + (i + 1)) - 48)), sI s 10 0 2 (nI (p + (i + 1) + 1)))
        rw [ih (by omega)]
        unfold t_Te_number_9
        show (if (3 : Int32) ≤ 1 + nI i then _ else (if v_C_isIn (v_Te_here (sI s 10 0 2 (nI (p + (i + 1))))) 48 57 (sI s 10 0 2 (nI (p + (i + 1)))) = 0 then _ else (nI (vd tx p (i + 1)) * 10 + v_Te_digit 9 (sI s 10 0 2 (nI (p + (i + 1)))), e_Te_digit 9 (sI s 10 0 2 (nI (p + (i + 1))))))) = _
        rw [show (1 : Int32) + nI i = nI (1 + i) from nI_add 1 i, if_neg (show ¬ (3 : Int32) ≤ nI (1 + i) from (show ¬ nI 3 ≤ nI (1 + i) from nI_ge (by omega) (by decide))), if_neg (fun c => by have := (qd (p + (i + 1)) (by omega)).mp c; rw [hdi] at this; cases this), d1, d2, show nI (vd tx p (i + 1)) * 10 = nI (vd tx p (i + 1) * 10) from pk_mul _ 10, nI_add]
    have on : ∀ i, i < kd tx B p - 1 → ¬ q_Te_number_9s a1 (1 + nI i) (f_Te_number_9 a1 1 (nI (tx p - 48), sI s 10 0 2 (nI (p + 1))) i) = 1 := fun i hi => by
      rw [main i (by omega)]
      have hdi := kd_on (tx := tx) (B := B) (p := p) (i := i + 1) (by omega)
      have hlt := (dig_t hdi).1
      show ¬ (if (3 : Int32) ≤ 1 + nI i then 1 else (if v_C_isIn (v_Te_here (sI s 10 0 2 (nI (p + (i + 1))))) 48 57 (sI s 10 0 2 (nI (p + (i + 1)))) = 0 then 1 else 0)) = 1
      rw [show (1 : Int32) + nI i = nI (1 + i) from nI_add 1 i, if_neg (show ¬ (3 : Int32) ≤ nI (1 + i) from (show ¬ nI 3 ≤ nI (1 + i) from nI_ge (by omega) (by decide))), if_neg (fun c => by have := (qd (p + (i + 1)) (by omega)).mp c; rw [hdi] at this; cases this)]; decide
    have off : (3 : Int32) ≤ 1 + nI (kd tx B p - 1) ∨ v_C_isIn (v_Te_here (sI s 10 0 2 (nI (p + kd tx B p)))) 48 57 (sI s 10 0 2 (nI (p + kd tx B p))) = 0 := by
      by_cases q : kd tx B p < 3
      · right; exact (qd _ hB2).mpr (kd_off q)
      · left
        rw [show (1 : Int32) + nI (kd tx B p - 1) = nI (1 + (kd tx B p - 1)) from nI_add 1 _]
        exact nI_le (a := 3) (by omega) (by omega)
    have fin := main (kd tx B p - 1) (by omega)
    rw [show kd tx B p - 1 + 1 = kd tx B p by omega] at fin
    have st : q_Te_number_9s a1 (1 + nI (kd tx B p - 1)) (f_Te_number_9 a1 1 (nI (tx p - 48), sI s 10 0 2 (nI (p + 1))) (kd tx B p - 1)) = 1 := by
      rw [fin]
      show (if (3 : Int32) ≤ 1 + nI (kd tx B p - 1) then 1 else (if v_C_isIn (v_Te_here (sI s 10 0 2 (nI (p + kd tx B p)))) 48 57 (sI s 10 0 2 (nI (p + kd tx B p))) = 0 then 1 else 0)) = 1
      rcases off with q | q
      · rw [if_pos q]
      · by_cases q2 : (3 : Int32) ≤ 1 + nI (kd tx B p - 1)
        · rw [if_pos q2]
        · rw [if_neg q2, if_pos q]
    have nn : n_Te_number_9 a1 1 (nI (tx p - 48), sI s 10 0 2 (nI (p + 1))) = kd tx B p - 1 := leastN_eq (P := fun i => q_Te_number_9s a1 (1 + nI i) (f_Te_number_9 a1 1 (nI (tx p - 48), sI s 10 0 2 (nI (p + 1))) i) = 1) on st (by omega)
    unfold v_Te_number e_Te_number p_Te_number nC1
    rw [w0.1, w0.2, nn, fin, if_neg hk]
    refine ⟨rfl, rfl, (hereC h (by omega) ha).2, fun i hi => ⟨?_, on i hi⟩, fun c => ⟨ph _ hB2, fun c2 => ?_⟩⟩
    · rw [main i (by omega)]
      have hdi := kd_on (tx := tx) (B := B) (p := p) (i := i + 1) (by omega)
      have hlt := (dig_t hdi).1
      exact fun _ => ⟨ph _ (by omega), fun _ => ph _ (by omega)⟩
    · rcases off with q | q
      · exact c q
      · exact c2 q

