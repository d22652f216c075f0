/-! lot: all the ways to put the numbers to the places -/
noncomputable def sumP : List Int32 → (Int32 → List Int32 → Nat) → Nat
  | [], _ => 0
  | x :: l, F => F x l + sumP l (fun v M => F v (x :: M))
theorem sumP_perm {l1 l2 : List Int32} (h : List.Perm l1 l2) : ∀ (F : Int32 → List Int32 → Nat), (∀ v M M', List.Perm M M' → F v M = F v M') → sumP l1 F = sumP l2 F := by
  induction h with
  | nil => exact fun _ _ => rfl
  | cons x h ih =>
    intro F hF
    unfold sumP
    rw [hF x _ _ h, ih (fun v M => F v (x :: M)) (fun v M M' q => hF v _ _ (q.cons x))]
  | swap x y l =>
    intro F hF
    have e : (fun v M => F v (y :: x :: M)) = (fun v M => F v (x :: y :: M)) := funext fun v => funext fun M => hF v _ _ (List.Perm.swap x y M)
    show F y (x :: l) + (F x (y :: l) + sumP l (fun v M => F v (y :: x :: M))) = F x (y :: l) + (F y (x :: l) + sumP l (fun v M => F v (x :: y :: M)))
    rw [e]
    omega
  | trans _ _ ih1 ih2 => exact fun F hF => (ih1 F hF).trans (ih2 F hF)
theorem sumP_idx : ∀ (L : List Int32) (F : Int32 → List Int32 → Nat), sumP L F = fb_sm (fun j => F (L.getD j 0) (L.eraseIdx j)) L.length
  | [], _ => rfl
  | x :: l, F => by
    show F x l + sumP l (fun v M => F v (x :: M)) = fb_sm _ (l.length + 1)
    rw [sumP_idx l, Nat.add_comm l.length 1, fb_sm_split _ 1 l.length]
    have e1 : fb_sm (fun j => F ((x :: l).getD j 0) ((x :: l).eraseIdx j)) 1 = F x l := Nat.zero_add _
    rw [e1]
    congr 1
    exact fb_sm_cong (fun j _ => by rw [Nat.add_comm 1 j]; rfl)
noncomputable def cntL (Pr : Int64 → Nat) (a : Nat → Nat) : Nat → Nat → List Int32 → Int64 → Nat
  | 0, _, _, acc => Pr acc
  | d + 1, i, L, acc => sumP L (fun v M => cntL Pr a d (i + 1) M (acc + lN (a i) * v.toInt64))
theorem cntL_perm (Pr : Int64 → Nat) (a : Nat → Nat) : ∀ (d i : Nat) (L L' : List Int32) (acc : Int64), List.Perm L L' → cntL Pr a d i L acc = cntL Pr a d i L' acc
  | 0, _, _, _, _, _ => rfl
  | d + 1, i, L, L', acc, h => sumP_perm h _ (fun v M M' q => cntL_perm Pr a d (i + 1) M M' _ q)
theorem cntL_s (Pr : Int64 → Nat) (a : Nat → Nat) (d i : Nat) (L : List Int32) (acc : Int64) : cntL Pr a (d + 1) i L acc = fb_sm (fun j => cntL Pr a d (i + 1) (L.eraseIdx j) (acc + lN (a i) * (L.getD j 0).toInt64)) L.length := sumP_idx L _
/-! the class's turns -/
def fct : Nat → Nat
  | 0 => 1
  | n + 1 => (n + 1) * fct n
noncomputable def finC (a : Nat → Nat) (y : Nat → Int32) : Nat → Nat → Nat → Nat → Int64 → Int64
  | 0, _, _, _, acc => acc
  | d + 1, i, K, t, acc => finC a y d (i + 1) (K ^^^ 2 ^ (nthB K (t % (d + 1)))) (t / (d + 1)) (acc + lN (a i) * (y (nthB K (t % (d + 1)))).toInt64)
theorem fin_cst {n t : Nat} (a : Nat → Nat) (y : Nat → Int32) : ∀ d i, i + d = n → finC a y d i (cst n t a y i).1 (cst n t a y i).2.1 (cst n t a y i).2.2 = (cst n t a y n).2.2
  | 0, i, h => by
    have : i = n := by omega
    subst this
    rfl
  | d + 1, i, h => by
    have ih := fin_cst (n := n) (t := t) a y d (i + 1) (by omega)
    rw [cst_s, show n - i = d + 1 by omega] at ih
    exact ih
theorem sm_digits (f : Nat → Nat → Nat) {c : Nat} (hc : 0 < c) : ∀ m, fb_sm (fun t => f (t % c) (t / c)) (c * m) = fb_sm (fun j => fb_sm (f j) m) c
  | 0 => by
    rw [Nat.mul_zero]
    exact (fb_sm_0 (fun i _ => rfl)).symm
  | m + 1 => by
    rw [Nat.mul_succ, fb_sm_split _ (c * m) c, sm_digits f hc m]
    have e1 : fb_sm (fun k => f ((c * m + k) % c) ((c * m + k) / c)) c = fb_sm (fun k => f k m) c := fb_sm_cong (fun k hk => by
      rw [Nat.mul_add_mod, Nat.mod_eq_of_lt hk, Nat.mul_add_div hc, Nat.div_eq_of_lt hk, Nat.add_zero])
    rw [e1, ← fb_sm_add]
    rfl
noncomputable def remL (y : Nat → Int32) (K : Nat) : Nat → List Int32
  | 0 => []
  | n + 1 => if K.testBit n = true then remL y K n ++ [y n] else remL y K n
theorem remL_s (y : Nat → Int32) (K n : Nat) : remL y K (n + 1) = if K.testBit n = true then remL y K n ++ [y n] else remL y K n := rfl
theorem remL_len (y : Nat → Int32) (K : Nat) : ∀ n, (remL y K n).length = fb_ct K.testBit n
  | 0 => rfl
  | n + 1 => by
    have ih := remL_len y K n
    rw [remL_s, fb_ct_succ]
    by_cases g : K.testBit n = true
    · rw [if_pos g, if_pos g, List.length_append, ih]; rfl
    · rw [if_neg g, if_neg g, ih]; rfl
theorem remL_cg (y : Nat → Int32) {K K' : Nat} : ∀ n, (∀ p, p < n → K.testBit p = K'.testBit p) → remL y K n = remL y K' n
  | 0, _ => rfl
  | n + 1, h => by rw [remL_s, remL_s, h n (by omega), remL_cg y n (fun p hp => h p (by omega))]
theorem getD_appI (L : List Int32) (x : Int32) (j : Nat) : (L ++ [x]).getD j 0 = if j < L.length then L.getD j 0 else if j = L.length then x else 0 := by
  simp only [List.getD_eq_getElem?_getD, List.getElem?_append]
  by_cases h : j < L.length
  · rw [if_pos h, if_pos h]
  · rw [if_neg h, if_neg h]
    by_cases h2 : j = L.length
    · subst h2; simp
    · rw [if_neg h2]
      cases hh : j - L.length with
      | zero => omega
      | succ k => simp
theorem ct_lt {K e n : Nat} (he : e < n) (hb : K.testBit e = true) : fb_ct K.testBit e < fb_ct K.testBit n := by
  have h1 : fb_ct K.testBit (e + 1) = fb_ct K.testBit e + 1 := by rw [fb_ct_succ, if_pos hb]
  have h2 := fb_ct_mono K.testBit (m := e + 1) (n := n) (by omega)
  omega
theorem remL_get (y : Nat → Int32) {K e : Nat} (hb : K.testBit e = true) : ∀ n, e < n → (remL y K n).getD (fb_ct K.testBit e) 0 = y e
  | 0, h => absurd h (by omega)
  | n + 1, h => by
    rw [remL_s]
    by_cases q : e = n
    · subst q
      rw [if_pos hb, getD_appI, remL_len, if_neg (Nat.lt_irrefl _), if_pos rfl]
    · have ih := remL_get y hb n (by omega)
      by_cases g : K.testBit n = true
      · rw [if_pos g, getD_appI, remL_len, if_pos (ct_lt (by omega) hb)]
        exact ih
      · rw [if_neg g]; exact ih
theorem remL_erase (y : Nat → Int32) {K e : Nat} (hb : K.testBit e = true) : ∀ n, e < n → remL y (K ^^^ 2 ^ e) n = (remL y K n).eraseIdx (fb_ct K.testBit e)
  | 0, h => absurd h (by omega)
  | n + 1, h => by
    rw [remL_s, remL_s, xor_bit hb]
    by_cases q : e = n
    · subst q
      rw [decide_eq_true rfl, Bool.not_true, Bool.and_false, if_neg (by decide), if_pos hb, List.eraseIdx_append_of_length_le (by rw [remL_len]; exact Nat.le_refl _), remL_len, Nat.sub_self]
      rw [remL_cg y e (K := K ^^^ 2 ^ e) (K' := K) (fun p hp => by rw [xor_bit hb, decide_eq_false (by omega : ¬ p = e)]; simp)]
      simp
    · have ih := remL_erase y hb n (by omega)
      rw [decide_eq_false (by omega : ¬ n = e), Bool.not_false, Bool.and_true]
      by_cases g : K.testBit n = true
      · rw [if_pos g, if_pos g, ih, List.eraseIdx_append_of_lt_length (by rw [remL_len]; exact ct_lt (by omega) hb)]
      · rw [if_neg g, if_neg g, ih]
theorem C_count (Pr : Int64 → Nat) (a : Nat → Nat) (y : Nat → Int32) : ∀ (d i K : Nat) (acc : Int64), fb_ct K.testBit 6 = d → fb_sm (fun t => Pr (finC a y d i K t acc)) (fct d) = cntL Pr a d i (remL y K 6) acc
  | 0, i, K, acc, _ => Nat.zero_add _
  | d + 1, i, K, acc, hd => by
    have e1 : fb_sm (fun t => Pr (finC a y (d + 1) i K t acc)) (fct (d + 1)) = fb_sm (fun w => fb_sm (fun t => Pr (finC a y d (i + 1) (K ^^^ 2 ^ (nthB K w)) t (acc + lN (a i) * (y (nthB K w)).toInt64))) (fct d)) (d + 1) :=
      sm_digits (fun w t => Pr (finC a y d (i + 1) (K ^^^ 2 ^ (nthB K w)) t (acc + lN (a i) * (y (nthB K w)).toInt64))) (c := d + 1) (by omega) (fct d)
    rw [e1, cntL_s, remL_len, hd]
    refine fb_sm_cong (fun w hw => ?_)
    obtain ⟨e6, eb, ec⟩ := nthB_ok (K := K) (w := w) (by omega)
    have hc := ct_wo (p := K.testBit) e6 eb
    have hd' : fb_ct (K ^^^ 2 ^ (nthB K w)).testBit 6 = d := by
      rw [fb_ct_cong (fun q _ => xor_bit eb q)]
      omega
    rw [C_count Pr a y d (i + 1) _ _ hd']
    have g1 := remL_get y eb 6 e6
    have g2 := remL_erase y eb 6 e6
    rw [ec] at g1 g2
    rw [g1, g2]
/-! the reference's swaps -/
def lst (ys : Nat → Int32) : Nat → Nat → List Int32
  | _, 0 => []
  | k, d + 1 => ys k :: lst ys (k + 1) d
theorem lst_s (ys : Nat → Int32) (k d : Nat) : lst ys k (d + 1) = ys k :: lst ys (k + 1) d := rfl
theorem lst_len (ys : Nat → Int32) : ∀ d k, (lst ys k d).length = d
  | 0, _ => rfl
  | d + 1, k => by rw [lst_s, List.length_cons, lst_len ys d]
theorem lst_get (ys : Nat → Int32) : ∀ d k r, r < d → (lst ys k d).getD r 0 = ys (k + r)
  | 0, _, r, h => absurd h (by omega)
  | d + 1, k, 0, _ => rfl
  | d + 1, k, r + 1, h => by
    rw [show k + (r + 1) = (k + 1) + r by omega]
    exact lst_get ys d (k + 1) r (by omega)
theorem lst_cg {ys zs : Nat → Int32} : ∀ d k, (∀ j, k ≤ j → j < k + d → ys j = zs j) → lst ys k d = lst zs k d
  | 0, _, _ => rfl
  | d + 1, k, h => by rw [lst_s, lst_s, h k (Nat.le_refl _) (by omega), lst_cg d (k + 1) (fun j h1 h2 => h j (by omega) (by omega))]
theorem lst_set (ys : Nat → Int32) (v : Int32) : ∀ d k r, r < d → List.Perm (lst (fun j => if j = k + r then v else ys j) k d) (v :: (lst ys k d).eraseIdx r)
  | 0, _, r, h => absurd h (by omega)
  | d + 1, k, 0, _ => by
    have e : lst (fun j => if j = k + 0 then v else ys j) k (d + 1) = v :: lst ys (k + 1) d := by
      rw [lst_s]
      congr 1
      · exact if_pos (by omega)
      · exact lst_cg d (k + 1) (fun j h1 h2 => if_neg (by omega))
    rw [e]
    exact List.Perm.refl _
  | d + 1, k, r + 1, h => by
    have ih := lst_set ys v d (k + 1) r (by omega)
    have e : lst (fun j => if j = k + (r + 1) then v else ys j) k (d + 1) = ys k :: lst (fun j => if j = (k + 1) + r then v else ys j) (k + 1) d := by
      rw [lst_s]
      congr 1
      · exact if_neg (by omega)
      · exact lst_cg d (k + 1) (fun j h1 h2 => by rw [show k + (r + 1) = (k + 1) + r by omega])
    rw [e]
    exact (ih.cons (ys k)).trans (List.Perm.swap v (ys k) _)
def swp (k j : Nat) (ys : Nat → Int32) : Nat → Int32 := fun q => if q = j then ys k else if q = k then ys j else ys q
theorem swp_perm (ys : Nat → Int32) (k d : Nat) : ∀ r, r < d + 1 → List.Perm (lst (swp k (k + r) ys) (k + 1) d) ((lst ys k (d + 1)).eraseIdx r)
  | 0, _ => by
    have e : lst (swp k (k + 0) ys) (k + 1) d = lst ys (k + 1) d := lst_cg d (k + 1) (fun j h1 h2 => by
      unfold swp
      rw [if_neg (by omega), if_neg (by omega)])
    rw [e]
    exact List.Perm.refl _
  | r + 1, h => by
    have e : lst (swp k (k + (r + 1)) ys) (k + 1) d = lst (fun j => if j = (k + 1) + r then ys k else ys j) (k + 1) d := lst_cg d (k + 1) (fun j h1 h2 => by
      unfold swp
      rw [show k + (r + 1) = (k + 1) + r by omega, if_neg (by omega : ¬ j = k)])
    rw [e]
    exact lst_set ys (ys k) d (k + 1) r (by omega)
theorem sumJ_upd (f : Nat → Int64) (v : Int64) {p : Nat} : ∀ n, p < n → sumJ (fun j => if j = p then v else f j) n + f p = sumJ f n + v
  | 0, h => absurd h (by omega)
  | n + 1, h => by
    rw [sumJ_s, sumJ_s]
    by_cases q : p = n
    · subst q
      have e : sumJ (fun j => if j = p then v else f j) p = sumJ f p := sumJ_cg p (fun j hj => if_neg (by omega))
      rw [if_pos rfl, e, Int64.add_assoc, Int64.add_assoc, Int64.add_comm v]
    · have ih := sumJ_upd f v (p := p) n (by omega)
      rw [if_neg (fun z => q z.symm), Int64.add_assoc, Int64.add_comm (f n), ← Int64.add_assoc, ih, Int64.add_assoc, Int64.add_assoc, Int64.add_comm v]
theorem sumJ_swp (f : Int32 → Int64) (ys : Nat → Int32) {k j n : Nat} (hk : k < n) (hj : j < n) : sumJ (fun q => f (swp k j ys q)) n = sumJ (fun q => f (ys q)) n := by
  have e1 := sumJ_upd (fun q => f (ys q)) (f (ys j)) n hk
  have e2 := sumJ_upd (fun q => if q = k then f (ys j) else f (ys q)) (f (ys k)) n hj
  have e3 : (if j = k then f (ys j) else f (ys j)) = f (ys j) := by split <;> rfl
  have e4 : sumJ (fun q => f (swp k j ys q)) n = sumJ (fun q => if q = j then f (ys k) else if q = k then f (ys j) else f (ys q)) n := sumJ_cg n (fun q _ => by
    unfold swp
    by_cases q1 : q = j
    · rw [if_pos q1, if_pos q1]
    · rw [if_neg q1, if_neg q1]
      by_cases q2 : q = k
      · rw [if_pos q2, if_pos q2]
      · rw [if_neg q2, if_neg q2])
  have e2' : sumJ (fun q => if q = j then f (ys k) else if q = k then f (ys j) else f (ys q)) n + f (ys j) = sumJ (fun q => if q = k then f (ys j) else f (ys q)) n + f (ys k) := by
    have e5 : sumJ (fun q => if q = j then f (ys k) else if q = k then f (ys j) else f (ys q)) n + (if j = k then f (ys j) else f (ys j)) = sumJ (fun q => if q = k then f (ys j) else f (ys q)) n + f (ys k) := e2
    rw [e3] at e5; exact e5
  have e1' : sumJ (fun q => if q = k then f (ys j) else f (ys q)) n + f (ys k) = sumJ (fun q => f (ys q)) n + f (ys j) := e1
  rw [e4]
  exact (Int64.add_left_inj (f (ys j))).mp (e2'.trans e1')
theorem sXY_swp (a : Nat → Nat) (ys : Nat → Int32) {k j : Nat} (h : k ≤ j) : sXY (k + 1) a (swp k j ys) = sXY k a ys + lN (a k) * (ys j).toInt64 := by
  unfold sXY
  rw [sumJ_s]
  have e : sumJ (fun q => lN (a q) * (swp k j ys q).toInt64) k = sumJ (fun q => lN (a q) * (ys q).toInt64) k := sumJ_cg k (fun q hq => by
    unfold swp
    rw [if_neg (by omega), if_neg (by omega)])
  have e2 : swp k j ys k = ys j := by
    unfold swp
    by_cases q : k = j
    · rw [if_pos q, q]
    · rw [if_neg q, if_pos rfl]
  rw [e, e2]
def pmH (m : Nat) (a : Nat → Nat) (steep : Int64) (ys : Nat → Int32) (s : MSto) : Prop := gI s 13 0 66 = nI m ∧ gJ s 13 0 67 = steep ∧ ∀ j, j < m → gI s 83 0 j = nI (a j) ∧ gI s 84 0 j = ys j
def absL (x : Int64) : Int64 := if 0 ≤ x then x else -x
noncomputable def PrM (m : Nat) (a : Nat → Nat) (SY steep acc : Int64) : Nat := if lg_cmp (absL (sU m a SY acc)) steep < 0 then 0 else 1
theorem pmH_68 {m : Nat} {a : Nat → Nat} {steep : Int64} {ys : Nat → Int32} {s : MSto} (h : pmH m a steep ys s) (v : Int32) : pmH m a steep ys (sI s 13 0 68 v) := by
  obtain ⟨h1, h2, h3⟩ := h
  refine ⟨?_, h2, fun j hj => ⟨?_, ?_⟩⟩
  · rw [gI_sI, if_neg (fun q => absurd q.2.2 (by decide))]; exact h1
  · rw [gI_sI, if_neg (fun q => absurd q.1 (by decide))]; exact (h3 j hj).1
  · rw [gI_sI, if_neg (fun q => absurd q.1 (by decide))]; exact (h3 j hj).2
theorem swap_eq (k j : Nat) (hk : k < 2 ^ 31) (hj : j < 2 ^ 31) (s : MSto) (q : Nat) : gI (e_M_swap (nI k) (nI j) s) 84 0 q = if q = j then gI s 84 0 k else if q = k then gI s 84 0 j else gI s 84 0 q := by
  unfold e_M_swap
  rw [nI_cl hk, nI_cl hj, gI_at, gI_at]
theorem pmH_swap {m : Nat} {a : Nat → Nat} {steep : Int64} {ys : Nat → Int32} {s : MSto} (h : pmH m a steep ys s) {k j : Nat} (hk : k < m) (hj : j < m) (hm : m ≤ 6) : pmH m a steep (swp k j ys) (e_M_swap (nI k) (nI j) s) := by
  obtain ⟨h1, h2, h3⟩ := h
  refine ⟨h1, h2, fun q hq => ⟨(h3 q hq).1, ?_⟩⟩
  rw [swap_eq k j (by omega) (by omega)]
  unfold swp
  rw [(h3 k hk).2, (h3 j hj).2, (h3 q hq).2]
theorem swap_back {k j : Nat} (hk : k < 2 ^ 31) (hj : j < 2 ^ 31) (s : MSto) (w : Int32) : e_M_swap (nI k) (nI j) (sI (e_M_swap (nI k) (nI j) s) 13 0 68 w) = sI s 13 0 68 w := by
  refine sto_ext (fun c i f => ?_) (fun _ _ _ => by simp only [e_M_swap, gJ_sI]) (fun _ _ _ => by simp only [e_M_swap, gR_sI]) (fun _ => by simp only [e_M_swap, gN_sI])
  by_cases g : c = 84 ∧ i = 0
  · obtain ⟨rfl, rfl⟩ := g
    have e0 : ∀ q, gI (sI (e_M_swap (nI k) (nI j) s) 13 0 68 w) 84 0 q = gI (e_M_swap (nI k) (nI j) s) 84 0 q := fun q => by rw [gI_sI, if_neg (fun z => absurd z.1 (by decide))]
    have e9 : gI (sI s 13 0 68 w) 84 0 f = gI s 84 0 f := by rw [gI_sI, if_neg (fun z => absurd z.1 (by decide))]
    rw [swap_eq k j hk hj, e0, e0, e0, swap_eq k j hk hj, swap_eq k j hk hj, swap_eq k j hk hj, e9]
    by_cases q1 : f = j
    · rw [if_pos q1]
      by_cases q2 : k = j
      · rw [if_pos q2, q1, q2]
      · rw [if_neg q2, if_pos rfl, q1]
    · rw [if_neg q1]
      by_cases q2 : f = k
      · rw [if_pos q2, if_pos rfl, q2]
      · rw [if_neg q2, if_neg q1, if_neg q2]
  · have e1 : ∀ t : MSto, gI (e_M_swap (nI k) (nI j) t) c i f = gI t c i f := fun t => by
      unfold e_M_swap
      rw [gI_sI, if_neg (fun q => g ⟨q.1, q.2.1⟩), gI_sI, if_neg (fun q => g ⟨q.1, q.2.1⟩)]
    rw [e1, gI_sI, gI_sI, e1]
theorem sI_68 (s : MSto) (v w : Int32) : sI (sI s 13 0 68 v) 13 0 68 w = sI s 13 0 68 w := sI_sI _ _ _ _ _ _
theorem perm_base {m : Nat} {a : Nat → Nat} {steep SY : Int64} {ys : Nat → Int32} {s : MSto} (hm : m ≤ 6) (ha : ∀ j, a j ≤ 23) (h : pmH m a steep ys s) (hS : sYJ m ys = SY) : (if lg_cmp (v_Ma_absJ (v_M_slopeUp s) s) (gJ s 13 0 67) < 0 then sI s 13 0 68 (gI s 13 0 68 + 0) else sI s 13 0 68 (gI s 13 0 68 + 1)) = sI s 13 0 68 (gI s 13 0 68 + nI (cntL (PrM m a SY steep) a 0 m (lst ys m 0) (sXY m a ys))) := by
  have e : v_M_slopeUp s = sU m a SY (sXY m a ys) := by rw [← hS]; exact M_up hm ha h.1 (fun j hj => (h.2.2 j hj).1) (fun j hj => (h.2.2 j hj).2)
  rw [e, h.2.1]
  show (if lg_cmp (absL (sU m a SY (sXY m a ys))) steep < 0 then _ else _) = sI s 13 0 68 (gI s 13 0 68 + nI (if lg_cmp (absL (sU m a SY (sXY m a ys))) steep < 0 then 0 else 1))
  split
  · rfl
  · rfl
theorem perm_loop {e' : Int32 → MSto → MSto} {p' : Int32 → MSto → Prop} {m d : Nat} {a : Nat → Nat} {steep SY : Int64} (hm : m ≤ 6) (prev : ∀ (s : MSto) (ys : Nat → Int32) (k : Nat), k + d = m → pmH m a steep ys s → sYJ m ys = SY → p' (nI k) s ∧ e' (nI k) s = sI s 13 0 68 (gI s 13 0 68 + nI (cntL (PrM m a SY steep) a d k (lst ys k d) (sXY k a ys))))
    {s : MSto} {ys : Nat → Int32} {k : Nat} (hk : k + (d + 1) = m) (h : pmH m a steep ys s) (hS : sYJ m ys = SY) : ∀ i, i ≤ d + 1 →
    nfold (fun i s => if gI s 13 0 66 ≤ nI k + nI i then s else e_M_swap (nI k) (nI k + nI i) (e' (nI k + 1) (e_M_swap (nI k) (nI k + nI i) s))) s i = sI s 13 0 68 (gI s 13 0 68 + nI (fb_sm (fun r => cntL (PrM m a SY steep) a d (k + 1) ((lst ys k (d + 1)).eraseIdx r) (sXY k a ys + lN (a k) * ((lst ys k (d + 1)).getD r 0).toInt64)) i)) ∧
    (i < d + 1 → ∀ t, t = nfold (fun i s => if gI s 13 0 66 ≤ nI k + nI i then s else e_M_swap (nI k) (nI k + nI i) (e' (nI k + 1) (e_M_swap (nI k) (nI k + nI i) s))) s i → ¬ gI t 13 0 66 ≤ nI k + nI i ∧ p_M_swap (nI k) (nI k + nI i) t ∧ p' (nI k + 1) (e_M_swap (nI k) (nI k + nI i) t) ∧ p_M_swap (nI k) (nI k + nI i) (e' (nI k + 1) (e_M_swap (nI k) (nI k + nI i) t))) := by
  have turn : ∀ i, i < d + 1 → ∀ v : Int32, ∀ t, t = sI s 13 0 68 v → (¬ gI t 13 0 66 ≤ nI k + nI i ∧ p_M_swap (nI k) (nI k + nI i) t ∧ p' (nI k + 1) (e_M_swap (nI k) (nI k + nI i) t) ∧ p_M_swap (nI k) (nI k + nI i) (e' (nI k + 1) (e_M_swap (nI k) (nI k + nI i) t))) ∧ e_M_swap (nI k) (nI k + nI i) (e' (nI k + 1) (e_M_swap (nI k) (nI k + nI i) t)) = sI s 13 0 68 (v + nI (cntL (PrM m a SY steep) a d (k + 1) ((lst ys k (d + 1)).eraseIdx i) (sXY k a ys + lN (a k) * ((lst ys k (d + 1)).getD i 0).toInt64))) := by
    rintro i hi v t rfl
    have hp := pmH_swap (pmH_68 h v) (k := k) (j := k + i) (by omega) (by omega) hm
    have hS2 : sYJ m (swp k (k + i) ys) = SY := (sumJ_swp Int32.toInt64 ys (by omega) (by omega)).trans hS
    obtain ⟨q1, q2⟩ := prev _ _ (k + 1) (by omega) hp hS2
    have v1 : vp_in (nI k) 6 := nI_inb (by omega) (by decide)
    have v2 : vp_in (nI (k + i)) 6 := nI_inb (by omega) (by decide)
    rw [nI_add, nI_s]
    refine ⟨⟨?_, ⟨v1, v2, v1, v2⟩, q1, ⟨v1, v2, v1, v2⟩⟩, ?_⟩
    · show ¬ gI s 13 0 66 ≤ _
      rw [h.1]; exact nI_ge (by omega) (by omega)
    · rw [q2, swap_back (by omega) (by omega), sXY_swp a ys (by omega), cntL_perm _ _ _ _ _ _ _ (swp_perm ys k d i hi), lst_get ys (d + 1) k i hi]
      have e68 : gI (e_M_swap (nI k) (nI (k + i)) (sI s 13 0 68 v)) 13 0 68 = v := rfl
      rw [e68, sI_68]
  have F : ∀ i, i ≤ d + 1 → nfold (fun i s => if gI s 13 0 66 ≤ nI k + nI i then s else e_M_swap (nI k) (nI k + nI i) (e' (nI k + 1) (e_M_swap (nI k) (nI k + nI i) s))) s i = sI s 13 0 68 (gI s 13 0 68 + nI (fb_sm (fun r => cntL (PrM m a SY steep) a d (k + 1) ((lst ys k (d + 1)).eraseIdx r) (sXY k a ys + lN (a k) * ((lst ys k (d + 1)).getD r 0).toInt64)) i)) := by
    intro i
    induction i with
    | zero =>
      intro _
      show s = sI s 13 0 68 (gI s 13 0 68 + 0)
      rw [Int32.add_zero, sI_id]
    | succ i ih =>
      intro hi
      obtain ⟨⟨t1, -⟩, t2⟩ := turn i (by omega) _ _ (ih (by omega))
      rw [nfold_s, if_neg t1, t2, fb_sm_succ, Int32.add_assoc, nI_add]
  exact fun i hi => ⟨F i hi, fun hi2 t et => (turn i hi2 _ t (et.trans (F i hi))).1⟩
theorem perm_0 {m : Nat} {a : Nat → Nat} {steep SY : Int64} (hm : m ≤ 6) (ha : ∀ j, a j ≤ 23) : ∀ (d : Nat), d ≤ 0 → ∀ (s : MSto) (ys : Nat → Int32) (k : Nat), k + d = m → pmH m a steep ys s → sYJ m ys = SY → p_M_permute0 (nI k) s ∧ e_M_permute0 (nI k) s = sI s 13 0 68 (gI s 13 0 68 + nI (cntL (PrM m a SY steep) a d k (lst ys k d) (sXY k a ys)))
  | 0, _, s, ys, k, hk, h, hS => by
    have ek : k = m := by omega
    subst ek
    have c66 : cM s 66 6 := ⟨by rw [nM_set (by omega) h.1]; exact h.1, by rw [nM_set (by omega) h.1]; exact hm⟩
    refine ⟨⟨fun _ => c66, fun q => absurd h.1.symm q⟩, ?_⟩
    unfold e_M_permute0
    rw [if_pos h.1.symm]
    exact perm_base hm ha h hS
  | d + 1, hd, _, _, _, _, _, _ => absurd hd (by omega)
theorem perm_1 {m : Nat} {a : Nat → Nat} {steep SY : Int64} (hm : m ≤ 6) (ha : ∀ j, a j ≤ 23) : ∀ (d : Nat), d ≤ 1 → ∀ (s : MSto) (ys : Nat → Int32) (k : Nat), k + d = m → pmH m a steep ys s → sYJ m ys = SY → p_M_permute1 (nI k) s ∧ e_M_permute1 (nI k) s = sI s 13 0 68 (gI s 13 0 68 + nI (cntL (PrM m a SY steep) a d k (lst ys k d) (sXY k a ys)))
  | 0, _, s, ys, k, hk, h, hS => by
    have ek : k = m := by omega
    subst ek
    have c66 : cM s 66 6 := ⟨by rw [nM_set (by omega) h.1]; exact h.1, by rw [nM_set (by omega) h.1]; exact hm⟩
    refine ⟨⟨fun _ => c66, fun q => absurd h.1.symm q⟩, ?_⟩
    unfold e_M_permute1
    rw [if_pos h.1.symm]
    exact perm_base hm ha h hS
  | d + 1, hd, s, ys, k, hk, h, hS => by
    have L := perm_loop (e' := e_M_permute0) (p' := p_M_permute0) hm (fun s ys k => perm_0 hm ha d (by omega) s ys k) hk h hS
    have ne : ¬ nI k = gI s 13 0 66 := fun q => by
      rw [h.1] at q
      have := (nI_eq (by omega) (by omega)).mp q
      omega
    have nn : n_M_permute1_40 (nI k) (nI k) s = d + 1 := by
      unfold n_M_permute1_40
      rw [nM_set (by omega) h.1, nI_cl (by omega)]
      omega
    have F := (L (d + 1) (Nat.le_refl _)).1
    have F' : f_M_permute1_40 (nI k) (nI k) s (d + 1) = sI s 13 0 68 (gI s 13 0 68 + nI (cntL (PrM m a SY steep) a (d + 1) k (lst ys k (d + 1)) (sXY k a ys))) := by
      rw [cntL_s, lst_len]
      exact F
    unfold p_M_permute1 e_M_permute1
    rw [if_neg ne, nn]
    refine ⟨⟨fun q => absurd q ne, fun _ => ⟨fun i hi => ?_, fun q => q ?_⟩⟩, F'⟩
    · have hi' : i < d + 1 := hi
      obtain ⟨g1, g2⟩ := (L i (by omega)).2 hi' (f_M_permute1_40 (nI k) (nI k) s i) rfl
      refine ⟨fun _ => g2, ?_⟩
      unfold q_M_permute1_40s
      rw [if_neg g1]; decide
    · rw [F']
      show gI s 13 0 66 ≤ _
      rw [h.1, nI_add, hk]
      exact Int32.le_refl _
theorem perm_2 {m : Nat} {a : Nat → Nat} {steep SY : Int64} (hm : m ≤ 6) (ha : ∀ j, a j ≤ 23) : ∀ (d : Nat), d ≤ 2 → ∀ (s : MSto) (ys : Nat → Int32) (k : Nat), k + d = m → pmH m a steep ys s → sYJ m ys = SY → p_M_permute2 (nI k) s ∧ e_M_permute2 (nI k) s = sI s 13 0 68 (gI s 13 0 68 + nI (cntL (PrM m a SY steep) a d k (lst ys k d) (sXY k a ys)))
  | 0, _, s, ys, k, hk, h, hS => by
    have ek : k = m := by omega
    subst ek
    have c66 : cM s 66 6 := ⟨by rw [nM_set (by omega) h.1]; exact h.1, by rw [nM_set (by omega) h.1]; exact hm⟩
    refine ⟨⟨fun _ => c66, fun q => absurd h.1.symm q⟩, ?_⟩
    unfold e_M_permute2
    rw [if_pos h.1.symm]
    exact perm_base hm ha h hS
  | d + 1, hd, s, ys, k, hk, h, hS => by
    have L := perm_loop (e' := e_M_permute1) (p' := p_M_permute1) hm (fun s ys k => perm_1 hm ha d (by omega) s ys k) hk h hS
    have ne : ¬ nI k = gI s 13 0 66 := fun q => by
      rw [h.1] at q
      have := (nI_eq (by omega) (by omega)).mp q
      omega
    have nn : n_M_permute2_40 (nI k) (nI k) s = d + 1 := by
      unfold n_M_permute2_40
      rw [nM_set (by omega) h.1, nI_cl (by omega)]
      omega
    have F := (L (d + 1) (Nat.le_refl _)).1
    have F' : f_M_permute2_40 (nI k) (nI k) s (d + 1) = sI s 13 0 68 (gI s 13 0 68 + nI (cntL (PrM m a SY steep) a (d + 1) k (lst ys k (d + 1)) (sXY k a ys))) := by
      rw [cntL_s, lst_len]
      exact F
    unfold p_M_permute2 e_M_permute2
    rw [if_neg ne, nn]
    refine ⟨⟨fun q => absurd q ne, fun _ => ⟨fun i hi => ?_, fun q => q ?_⟩⟩, F'⟩
    · have hi' : i < d + 1 := hi
      obtain ⟨g1, g2⟩ := (L i (by omega)).2 hi' (f_M_permute2_40 (nI k) (nI k) s i) rfl
      refine ⟨fun _ => g2, ?_⟩
      unfold q_M_permute2_40s
      rw [if_neg g1]; decide
    · rw [F']
      show gI s 13 0 66 ≤ _
      rw [h.1, nI_add, hk]
      exact Int32.le_refl _
theorem perm_3 {m : Nat} {a : Nat → Nat} {steep SY : Int64} (hm : m ≤ 6) (ha : ∀ j, a j ≤ 23) : ∀ (d : Nat), d ≤ 3 → ∀ (s : MSto) (ys : Nat → Int32) (k : Nat), k + d = m → pmH m a steep ys s → sYJ m ys = SY → p_M_permute3 (nI k) s ∧ e_M_permute3 (nI k) s = sI s 13 0 68 (gI s 13 0 68 + nI (cntL (PrM m a SY steep) a d k (lst ys k d) (sXY k a ys)))
  | 0, _, s, ys, k, hk, h, hS => by
    have ek : k = m := by omega
    subst ek
    have c66 : cM s 66 6 := ⟨by rw [nM_set (by omega) h.1]; exact h.1, by rw [nM_set (by omega) h.1]; exact hm⟩
    refine ⟨⟨fun _ => c66, fun q => absurd h.1.symm q⟩, ?_⟩
    unfold e_M_permute3
    rw [if_pos h.1.symm]
    exact perm_base hm ha h hS
  | d + 1, hd, s, ys, k, hk, h, hS => by
    have L := perm_loop (e' := e_M_permute2) (p' := p_M_permute2) hm (fun s ys k => perm_2 hm ha d (by omega) s ys k) hk h hS
    have ne : ¬ nI k = gI s 13 0 66 := fun q => by
      rw [h.1] at q
      have := (nI_eq (by omega) (by omega)).mp q
      omega
    have nn : n_M_permute3_40 (nI k) (nI k) s = d + 1 := by
      unfold n_M_permute3_40
      rw [nM_set (by omega) h.1, nI_cl (by omega)]
      omega
    have F := (L (d + 1) (Nat.le_refl _)).1
    have F' : f_M_permute3_40 (nI k) (nI k) s (d + 1) = sI s 13 0 68 (gI s 13 0 68 + nI (cntL (PrM m a SY steep) a (d + 1) k (lst ys k (d + 1)) (sXY k a ys))) := by
      rw [cntL_s, lst_len]
      exact F
    unfold p_M_permute3 e_M_permute3
    rw [if_neg ne, nn]
    refine ⟨⟨fun q => absurd q ne, fun _ => ⟨fun i hi => ?_, fun q => q ?_⟩⟩, F'⟩
    · have hi' : i < d + 1 := hi
      obtain ⟨g1, g2⟩ := (L i (by omega)).2 hi' (f_M_permute3_40 (nI k) (nI k) s i) rfl
      refine ⟨fun _ => g2, ?_⟩
      unfold q_M_permute3_40s
      rw [if_neg g1]; decide
    · rw [F']
      show gI s 13 0 66 ≤ _
      rw [h.1, nI_add, hk]
      exact Int32.le_refl _
theorem perm_4 {m : Nat} {a : Nat → Nat} {steep SY : Int64} (hm : m ≤ 6) (ha : ∀ j, a j ≤ 23) : ∀ (d : Nat), d ≤ 4 → ∀ (s : MSto) (ys : Nat → Int32) (k : Nat), k + d = m → pmH m a steep ys s → sYJ m ys = SY → p_M_permute4 (nI k) s ∧ e_M_permute4 (nI k) s = sI s 13 0 68 (gI s 13 0 68 + nI (cntL (PrM m a SY steep) a d k (lst ys k d) (sXY k a ys)))
  | 0, _, s, ys, k, hk, h, hS => by
    have ek : k = m := by omega
    subst ek
    have c66 : cM s 66 6 := ⟨by rw [nM_set (by omega) h.1]; exact h.1, by rw [nM_set (by omega) h.1]; exact hm⟩
    refine ⟨⟨fun _ => c66, fun q => absurd h.1.symm q⟩, ?_⟩
    unfold e_M_permute4
    rw [if_pos h.1.symm]
    exact perm_base hm ha h hS
  | d + 1, hd, s, ys, k, hk, h, hS => by
    have L := perm_loop (e' := e_M_permute3) (p' := p_M_permute3) hm (fun s ys k => perm_3 hm ha d (by omega) s ys k) hk h hS
    have ne : ¬ nI k = gI s 13 0 66 := fun q => by
      rw [h.1] at q
      have := (nI_eq (by omega) (by omega)).mp q
      omega
    have nn : n_M_permute4_40 (nI k) (nI k) s = d + 1 := by
      unfold n_M_permute4_40
      rw [nM_set (by omega) h.1, nI_cl (by omega)]
      omega
    have F := (L (d + 1) (Nat.le_refl _)).1
    have F' : f_M_permute4_40 (nI k) (nI k) s (d + 1) = sI s 13 0 68 (gI s 13 0 68 + nI (cntL (PrM m a SY steep) a (d + 1) k (lst ys k (d + 1)) (sXY k a ys))) := by
      rw [cntL_s, lst_len]
      exact F
    unfold p_M_permute4 e_M_permute4
    rw [if_neg ne, nn]
    refine ⟨⟨fun q => absurd q ne, fun _ => ⟨fun i hi => ?_, fun q => q ?_⟩⟩, F'⟩
    · have hi' : i < d + 1 := hi
      obtain ⟨g1, g2⟩ := (L i (by omega)).2 hi' (f_M_permute4_40 (nI k) (nI k) s i) rfl
      refine ⟨fun _ => g2, ?_⟩
      unfold q_M_permute4_40s
      rw [if_neg g1]; decide
    · rw [F']
      show gI s 13 0 66 ≤ _
      rw [h.1, nI_add, hk]
      exact Int32.le_refl _
theorem perm_5 {m : Nat} {a : Nat → Nat} {steep SY : Int64} (hm : m ≤ 6) (ha : ∀ j, a j ≤ 23) : ∀ (d : Nat), d ≤ 5 → ∀ (s : MSto) (ys : Nat → Int32) (k : Nat), k + d = m → pmH m a steep ys s → sYJ m ys = SY → p_M_permute5 (nI k) s ∧ e_M_permute5 (nI k) s = sI s 13 0 68 (gI s 13 0 68 + nI (cntL (PrM m a SY steep) a d k (lst ys k d) (sXY k a ys)))
  | 0, _, s, ys, k, hk, h, hS => by
    have ek : k = m := by omega
    subst ek
    have c66 : cM s 66 6 := ⟨by rw [nM_set (by omega) h.1]; exact h.1, by rw [nM_set (by omega) h.1]; exact hm⟩
    refine ⟨⟨fun _ => c66, fun q => absurd h.1.symm q⟩, ?_⟩
    unfold e_M_permute5
    rw [if_pos h.1.symm]
    exact perm_base hm ha h hS
  | d + 1, hd, s, ys, k, hk, h, hS => by
    have L := perm_loop (e' := e_M_permute4) (p' := p_M_permute4) hm (fun s ys k => perm_4 hm ha d (by omega) s ys k) hk h hS
    have ne : ¬ nI k = gI s 13 0 66 := fun q => by
      rw [h.1] at q
      have := (nI_eq (by omega) (by omega)).mp q
      omega
    have nn : n_M_permute5_40 (nI k) (nI k) s = d + 1 := by
      unfold n_M_permute5_40
      rw [nM_set (by omega) h.1, nI_cl (by omega)]
      omega
    have F := (L (d + 1) (Nat.le_refl _)).1
    have F' : f_M_permute5_40 (nI k) (nI k) s (d + 1) = sI s 13 0 68 (gI s 13 0 68 + nI (cntL (PrM m a SY steep) a (d + 1) k (lst ys k (d + 1)) (sXY k a ys))) := by
      rw [cntL_s, lst_len]
      exact F
    unfold p_M_permute5 e_M_permute5
    rw [if_neg ne, nn]
    refine ⟨⟨fun q => absurd q ne, fun _ => ⟨fun i hi => ?_, fun q => q ?_⟩⟩, F'⟩
    · have hi' : i < d + 1 := hi
      obtain ⟨g1, g2⟩ := (L i (by omega)).2 hi' (f_M_permute5_40 (nI k) (nI k) s i) rfl
      refine ⟨fun _ => g2, ?_⟩
      unfold q_M_permute5_40s
      rw [if_neg g1]; decide
    · rw [F']
      show gI s 13 0 66 ≤ _
      rw [h.1, nI_add, hk]
      exact Int32.le_refl _
theorem perm_6 {m : Nat} {a : Nat → Nat} {steep SY : Int64} (hm : m ≤ 6) (ha : ∀ j, a j ≤ 23) : ∀ (d : Nat), d ≤ 6 → ∀ (s : MSto) (ys : Nat → Int32) (k : Nat), k + d = m → pmH m a steep ys s → sYJ m ys = SY → p_M_permute6 (nI k) s ∧ e_M_permute6 (nI k) s = sI s 13 0 68 (gI s 13 0 68 + nI (cntL (PrM m a SY steep) a d k (lst ys k d) (sXY k a ys)))
  | 0, _, s, ys, k, hk, h, hS => by
    have ek : k = m := by omega
    subst ek
    have c66 : cM s 66 6 := ⟨by rw [nM_set (by omega) h.1]; exact h.1, by rw [nM_set (by omega) h.1]; exact hm⟩
    refine ⟨⟨fun _ => c66, fun q => absurd h.1.symm q⟩, ?_⟩
    unfold e_M_permute6
    rw [if_pos h.1.symm]
    exact perm_base hm ha h hS
  | d + 1, hd, s, ys, k, hk, h, hS => by
    have L := perm_loop (e' := e_M_permute5) (p' := p_M_permute5) hm (fun s ys k => perm_5 hm ha d (by omega) s ys k) hk h hS
    have ne : ¬ nI k = gI s 13 0 66 := fun q => by
      rw [h.1] at q
      have := (nI_eq (by omega) (by omega)).mp q
      omega
    have nn : n_M_permute6_40 (nI k) (nI k) s = d + 1 := by
      unfold n_M_permute6_40
      rw [nM_set (by omega) h.1, nI_cl (by omega)]
      omega
    have F := (L (d + 1) (Nat.le_refl _)).1
    have F' : f_M_permute6_40 (nI k) (nI k) s (d + 1) = sI s 13 0 68 (gI s 13 0 68 + nI (cntL (PrM m a SY steep) a (d + 1) k (lst ys k (d + 1)) (sXY k a ys))) := by
      rw [cntL_s, lst_len]
      exact F
    unfold p_M_permute6 e_M_permute6
    rw [if_neg ne, nn]
    refine ⟨⟨fun q => absurd q ne, fun _ => ⟨fun i hi => ?_, fun q => q ?_⟩⟩, F'⟩
    · have hi' : i < d + 1 := hi
      obtain ⟨g1, g2⟩ := (L i (by omega)).2 hi' (f_M_permute6_40 (nI k) (nI k) s i) rfl
      refine ⟨fun _ => g2, ?_⟩
      unfold q_M_permute6_40s
      rw [if_neg g1]; decide
    · rw [F']
      show gI s 13 0 66 ≤ _
      rw [h.1, nI_add, hk]
      exact Int32.le_refl _
theorem fct_pos : ∀ n, 0 < fct n
  | 0 => Nat.one_pos
  | n + 1 => Nat.mul_pos (by omega) (fct_pos n)
theorem fct_le {n : Nat} (h : n ≤ 6) : fct n ≤ 720 := by
  have : n = 0 ∨ n = 1 ∨ n = 2 ∨ n = 3 ∨ n = 4 ∨ n = 5 ∨ n = 6 := by omega
  rcases this with rfl | rfl | rfl | rfl | rfl | rfl | rfl <;> decide
theorem C_fct {s : MSto} {n : Nat} (hn : n ≤ 6) : ∀ i, i + 1 ≤ n → f_C_lot_37 (nI n) 2 s 1 i = nI (fct (i + 1))
  | 0, _ => rfl
  | i + 1, hi => by
    show t_C_lot_37 (nI n) (2 + nI i) s (f_C_lot_37 (nI n) 2 s 1 i) = _
    rw [C_fct hn i (by omega), show (2 : Int32) + nI i = nI (i + 2) from by rw [Int32.add_comm]; exact nI_add i 2]
    unfold t_C_lot_37
    rw [if_neg (nI_nlt (by omega) (by omega)), pk_mul, Nat.mul_comm]
    rfl
theorem M_fct {t : MSto} {n : Nat} (hn : n ≤ 6) (h66 : gI t 13 0 66 = nI n) : ∀ i, i + 1 ≤ n → f_M_lot_60 2 t 1 i = nI (fct (i + 1))
  | 0, _ => rfl
  | i + 1, hi => by
    show t_M_lot_60 (2 + nI i) t (f_M_lot_60 2 t 1 i) = _
    rw [M_fct hn h66 i (by omega), show (2 : Int32) + nI i = nI (i + 2) from by rw [Int32.add_comm]; exact nI_add i 2]
    unfold t_M_lot_60
    rw [h66, if_neg (nI_nlt (by omega) (by omega)), pk_mul, Nat.mul_comm]
    rfl
theorem PrM_le (m : Nat) (a : Nat → Nat) (SY steep acc : Int64) : PrM m a SY steep acc ≤ 1 := by
  unfold PrM
  split <;> decide
theorem C_lotF {s : MSto} {n : Nat} {a : Nat → Nat} {y : Nat → Int32} (hn : n ≤ 6) (ha : ∀ j, a j ≤ 23) (hy : ∀ j, -200 ≤ (y j).toInt ∧ (y j).toInt ≤ 2050) (h : ∀ j, j < n → gI s 31 0 j = nI (a j) ∧ gI s 32 0 j = y j) (steep : Int64) : ∀ i, i ≤ fct n → f_C_lot_71 (nI n) (nI (fct n)) steep 0 s 0 i = nI (fb_sm (fun t => PrM n a (sYJ n y) steep (finC a y n 0 (2 ^ n - 1) t 0)) i)
  | 0, _ => rfl
  | i + 1, hi => by
    have hf := fct_le hn
    show t_C_lot_71 (nI n) (nI (fct n)) steep (0 + nI i) s (f_C_lot_71 (nI n) (nI (fct n)) steep 0 s 0 i) = _
    rw [C_lotF hn ha hy h steep i (by omega), fb_sm_succ]
    unfold t_C_lot_71
    have e2 : finC a y n 0 (2 ^ n - 1) i 0 = (cst n i a y n).2.2 := fin_cst (n := n) (t := i) a y n 0 (by omega)
    rw [z_nI, if_neg (nI_ge (by omega) (by omega)), (C_up hn ha hy h (t := i) (by omega)).1, e2]
    show (if lg_cmp (absL (sU n a (sYJ n y) (cst n i a y n).2.2)) steep < 0 then _ else _) = nI (_ + PrM n a (sYJ n y) steep (cst n i a y n).2.2)
    unfold PrM
    split
    · rfl
    · exact nI_s _
theorem rem_lst (y : Nat → Int32) {n : Nat} (hn : n ≤ 6) : remL y (2 ^ n - 1) 6 = lst y 0 n := by
  have : n = 0 ∨ n = 1 ∨ n = 2 ∨ n = 3 ∨ n = 4 ∨ n = 5 ∨ n = 6 := by omega
  rcases this with rfl | rfl | rfl | rfl | rfl | rfl | rfl <;> rfl
theorem T_lot {σ τ : MSto} (h : Cpl σ τ) (a : Int32) : p_C_lot a σ ∧ p_M_lot a τ ∧ v_C_lot a σ = v_M_lot a τ ∧ Cpl (e_C_lot a σ) (e_M_lot a τ) := by
  have h1 := h.e0
  unfold p_C_lot p_M_lot v_C_lot v_M_lot e_C_lot e_M_lot vj_M_lot_j46 ej_M_lot_j46 gj_M_lot_j46
  generalize sI τ 13 0 52 0 = τ1 at h1 ⊢
  have hpc := pc_areCounted h1 a 2 6
  simp only [cp_areCounted h1 a (lo := 2) (hi := 6) (by decide)]
  by_cases g : v_M_areCounted a 2 6 τ1 = 0
  · simp only [if_pos g]
    exact ⟨⟨hpc, fun q => absurd g q⟩, fun q => absurd g q, trivial, h1⟩
  · simp only [if_neg g]
    obtain ⟨k, rfl, hk, -, hs, h2', h6'⟩ := areC h1.m g
    have hk15 : pop k ≤ 15 := fb_ct_le _ _
    have h6 : pop k ≤ 6 := (leN (b := 6) (by omega) (by decide)).mp h6'
    have h2 : 2 ≤ pop k := (leN (a := 2) (by decide) (by omega)).mp h2'
    obtain ⟨x, y, hx, hy, d1, d2, d3, dC, dM, d66⟩ := layData h1 hs h6
    rw [d1]
    have wC := w_C_layOut (nI k) σ
    have wM := w_M_gather (nI k) τ1
    obtain ⟨s, es⟩ : ∃ s, s = e_C_layOut (nI k) σ := ⟨_, rfl⟩
    obtain ⟨t, et⟩ : ∃ t, t = e_M_gather (nI k) τ1 := ⟨_, rfl⟩
    rw [← es] at wC dC ⊢
    rw [← et] at wM dM d66 ⊢
    obtain ⟨n, en⟩ : ∃ n, n = pop k := ⟨_, rfl⟩
    rw [← en] at d66 dC dM h6 h2 ⊢
    have hf := fct_le h6
    have hfp := fct_pos n
    obtain ⟨l1, l2⟩ := C_low h6 hx (fun j hj => (dC j hj).1)
    have l3 := M_low h6 hx d66 (fun j hj => (dM j hj).1)
    have u3 := M_up h6 hx d66 (fun j hj => (dM j hj).1) (fun j hj => (dM j hj).2)
    obtain ⟨u1, u2⟩ := C_up h6 hx hy dC (t := 0) (by decide)
    rw [(cst_0 h6 x y n (Nat.le_refl _)).2.2] at u1
    have z0 : nI 0 = (0 : Int32) := rfl
    rw [z0] at u1 u2
    have hb := lo_bd h6 hx
    have c66 : cM t 66 6 := ⟨by rw [nM_set (by omega) d66]; exact d66, by rw [nM_set (by omega) d66]; exact h6⟩
    have hc : Cpl s t := h1.mv wC wM rfl rfl
    rw [l1, l3, u3, u1]
    by_cases gz : lg_cmp (lN (loN n x)) 0 = 0
    · simp only [if_pos gz]
      exact ⟨⟨hpc, fun _ => ⟨d2, l2, fun q => absurd gz q⟩⟩, fun _ => ⟨d3, c66, fun q => absurd gz q⟩, trivial, hc⟩
    · simp only [if_neg gz]
      obtain ⟨steep, est⟩ : ∃ z, z = v_Ma_absJ (sU n x (sYJ n y) (sXY n x y)) s := ⟨_, rfl⟩
      have est2 : v_Ma_absJ (sU n x (sYJ n y) (sXY n x y)) t = steep := est.symm
      rw [← est, est2]
      have nC37 : n_C_lot_37 (nI n) 2 s 1 = n - 1 := by unfold n_C_lot_37; rw [nI_cl (by omega)]
      have eF : f_C_lot_37 (nI n) 2 s 1 (n - 1) = nI (fct n) := by
        have := C_fct (s := s) h6 (n - 1) (by omega)
        rw [show n - 1 + 1 = n by omega] at this
        exact this
      rw [nC37, eF]
      have nC71 : n_C_lot_71 (nI n) (nI (fct n)) steep 0 s 0 = fct n := by unfold n_C_lot_71; exact nI_cl (by omega)
      have eC := C_lotF h6 hx hy dC steep (fct n) (Nat.le_refl _)
      have cc := C_count (PrM n x (sYJ n y) steep) x y n 0 (2 ^ n - 1) 0 (by
        have := (cst_ok (t := 0) h6 x y 0 (by omega)).1
        rw [Nat.sub_zero] at this
        exact this)
      rw [cc, rem_lst y h6] at eC
      rw [nC71, eC]
      -- the reference
      obtain ⟨tj, etj⟩ : ∃ z, z = sI (sJ t 13 0 67 steep) 13 0 68 0 := ⟨_, rfl⟩
      rw [← etj]
      have ph : pmH n x steep y tj := by rw [etj]; exact ⟨d66, rfl, dM⟩
      obtain ⟨pm1, pm2⟩ := perm_6 (SY := sYJ n y) h6 hx n (by omega) tj y 0 (by omega) ph rfl
      rw [z0] at pm1 pm2
      have e68 : gI tj 13 0 68 = 0 := by rw [etj]; rfl
      rw [e68, Int32.zero_add] at pm2
      rw [pm2]
      have wj : agO [13068, 13069] t tj := by rw [etj]; exact agO_sI rfl (agO_sJ rfl (agO_refl _ t))
      obtain ⟨c, ec⟩ : ∃ c, c = cntL (PrM n x (sYJ n y) steep) x n 0 (lst y 0 n) (sXY 0 x y) := ⟨_, rfl⟩
      have ec2 : cntL (PrM n x (sYJ n y) steep) x n 0 (lst y 0 n) 0 = c := ec.symm
      rw [← ec, ec2]
      have hcb : c ≤ fct n := by
        rw [← ec2, ← rem_lst y h6, ← cc]
        exact Nat.le_trans (fb_sm_bound (c := 1) (fun i _ => PrM_le _ _ _ _ _)) (by omega)
      obtain ⟨tk, etk⟩ : ∃ z, z = sI tj 13 0 68 (nI c) := ⟨_, rfl⟩
      rw [← etk]
      have wk : agO [13068, 13069] t tk := by rw [etk]; exact agO_sI rfl wj
      have dk66 : gI tk 13 0 66 = nI n := by rw [wk.i rfl]; exact d66
      have nM60 : n_M_lot_60 2 tk 1 = n - 1 := by unfold n_M_lot_60; rw [nM_set (by omega) dk66]
      have eM : f_M_lot_60 2 tk 1 (n - 1) = nI (fct n) := by
        have := M_fct h6 dk66 (n - 1) (by omega)
        rw [show n - 1 + 1 = n by omega] at this
        exact this
      have k68 : gI (sI tk 13 0 51 0) 13 0 68 = nI c := by rw [etk]; rfl
      rw [nM60, eM, k68, nI_l (by omega), nI_l (by omega)]
      have hck : Cpl s tk := hc.mv (agO_refl [] s) wk rfl rfl
      obtain ⟨r1, r2, r3⟩ := rowF hck (u := lN c) (d := lN (fct n)) (lN_mn (by omega)) (lN_gt hfp (by omega))
      have two : ∀ i, (2 : Int32) + nI i = nI (i + 2) := fun i => by rw [Int32.add_comm]; exact nI_add i 2
      have qn : ∀ i, i < n - 1 → ¬ nI n < 2 + nI i := fun i hi => by rw [two]; exact nI_nlt (by omega) (by omega)
      have qy : nI n < 2 + nI (n - 1) := by rw [two]; exact nI_lt (by omega) (by omega)
      refine ⟨⟨hpc, fun _ => ⟨d2, l2, fun _ => ⟨fun i hi => ⟨trivial, ?_⟩, fun _ => ⟨u2, fun i hi => ⟨fun _ => ?_, ?_⟩, fun _ => r2, fun q => q ?_⟩, fun q => q qy⟩⟩⟩, fun _ => ⟨d3, c66, fun _ => ⟨c66, pm1, fun i hi => ⟨trivial, ?_⟩, fun _ => r3, fun q => q ?_⟩⟩, trivial, r1⟩
      · unfold q_C_lot_37s
        rw [if_neg (qn i hi)]; decide
      · rw [z_nI]
        have hi' : i < fct n := hi
        exact (C_up h6 hx hy dC (t := i) (by omega)).2
      · have hi' : i < fct n := hi
        unfold q_C_lot_71s
        rw [z_nI, if_neg (nI_ge hi' (by omega))]; decide
      · rw [z_nI]; exact Int32.le_refl _
      · unfold q_M_lot_60s
        rw [dk66, if_neg (qn i hi)]; decide
      · rw [dk66]; exact qy

