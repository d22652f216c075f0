/-! fewest -/
theorem would_mvS {τ t : MSto} (w2 : agO [86000] τ t) {s : Nat} (hs : s < 2 ^ 31) (x y w hh yr : Int32) : v_M_wouldAt (nI s) x y w hh yr t = v_M_wouldAt (nI s) x y w hh yr τ := by
  rw [M_would hs, M_would hs]
  have efs : ∀ v x y w, v_M_withStuff v x y w t = v_M_withStuff v x y w τ := fun v x y w => by
    unfold v_M_withStuff
    have n5 : nM t 5 = nM τ 5 := by unfold nM; rw [w2.i rfl]
    rw [n5]
    refine nfold_congr (fun i _ a => ?_)
    unfold t_M_stuff v_M_mixed
    rw [w2.i rfl, w2.i rfl, w2.i rfl, w2.i rfl, w2.i rfl, w2.i rfl, w2.i rfl, w2.i rfl]
  unfold coreW fromY offW v_M_mixed
  rw [efs]
  simp only [w2.i (k := 59) (i := 0) rfl, w2.i (k := 55) (i := 0) rfl, w2.i (k := 52) (i := 0) rfl, w2.i (k := 53) (i := 0) rfl, w2.i (k := 54) (i := 0) rfl, w2.i (k := 41) (i := 0) rfl, w2.i (k := 45) (i := 0) rfl, w2.i (k := 56) (i := 0) rfl, w2.i (k := 57) (i := 0) rfl, w2.i (k := 58) (i := 0) rfl]
theorem parted_mvS {τ t : MSto} (w : agO [86000] τ t) {a b : Nat} (ha : a < 2 ^ 31) (hb : b < 2 ^ 31) (x y ww hh yr : Int32) : v_M_areParted (nI a) (nI b) x y ww hh yr t = v_M_areParted (nI a) (nI b) x y ww hh yr τ := by
  unfold v_M_areParted b_M_areParted
  rw [would_mvS w ha, would_mvS w hb, w.i rfl]
  rfl
theorem fw_pow : ∀ k, k < 16 → (nI (2 ^ k - 1) ||| nI (2 ^ k) = nI (2 ^ (k + 1) - 1)) ∧ nI (2 ^ k) <<< ((1 : Int32) &&& 31) = nI (2 ^ (k + 1)) := by decide +kernel
theorem fw_all : ∀ S, S < 7 → ((1 : Int32) <<< (((nI S * (nI S - 1)) / 2) &&& 31)) - 1 = nI (2 ^ base S S - 1) := by decide +kernel
noncomputable def fwF (τ : MSto) (yr : Int32) (c : Nat) : Nat → Nat → Bool := pcF τ c yr
def fwI (τ : MSto) (k : Nat) (K : Nat → Nat) (X : Int32 × Int32 × MSto) : Prop := X.1 = nI (2 ^ k - 1) ∧ X.2.1 = nI (2 ^ k) ∧ agO [86000] τ X.2.2 ∧ ∀ c, c < nM τ 10 → gI X.2.2 86 0 c = nI (K c)
theorem fw_18 {τ : MSto} (hi : iM τ) (yr : Int32) : ∀ n, n ≤ nM τ 10 → agO [86000] τ (f_M_fewest_18 yr 0 0 τ n) ∧ ∀ c, c < n → gI (f_M_fewest_18 yr 0 0 τ n) 86 0 c = 0
  | 0, _ => ⟨agO_refl _ τ, fun c hc => absurd hc (by omega)⟩
  | n + 1, hn => by
    obtain ⟨w, h⟩ := fw_18 hi yr n (by omega)
    have hP := hi.c.2.2.1
    have := hP.2
    have cN : gI (f_M_fewest_18 yr 0 0 τ n) 13 0 10 = nI (nM τ 10) := by rw [w.i rfl]; exact hP.1
    show agO [86000] τ (t_M_fewest_18 yr 0 (0 + nI n) (f_M_fewest_18 yr 0 0 τ n)) ∧ ∀ c, c < n + 1 → gI (t_M_fewest_18 yr 0 (0 + nI n) (f_M_fewest_18 yr 0 0 τ n)) 86 0 c = 0
    unfold t_M_fewest_18
    rw [if_neg (ng_cnt cN (by omega) (by omega)), z_nI, nI_cl (by omega)]
    refine ⟨agO_sI rfl w, fun c hc => ?_⟩
    rw [gI_at]
    by_cases e : c = n
    · rw [if_pos e]
    · rw [if_neg e]; exact h c (by omega)
theorem fw_75 {τ t : MSto} (hi : iM τ) (w : agO [86000] τ t) {yr : Int32} (hy : rg yr 0 199) {i j k : Nat} (hi' : i < nM τ 17) (hj : j < nM τ 17) {K : Nat → Nat} (hK : ∀ c, c < nM τ 10 → gI t 86 0 c = nI (K c)) (x2 : Int32) : ∀ n, n ≤ nM τ 10 → (agO [86000] τ (f_M_fewest_75 yr x2 (nI (2 ^ k)) (nI i) (nI j) 0 t n) ∧ ∀ c, c < nM τ 10 → gI (f_M_fewest_75 yr x2 (nI (2 ^ k)) (nI i) (nI j) 0 t n) 86 0 c = nI (if c < n ∧ pcF τ c yr i j = true then K c ||| 2 ^ k else K c)) ∧ (n < nM τ 10 → g_M_fewest_75 yr x2 (nI (2 ^ k)) (nI i) (nI j) (0 + nI n) (f_M_fewest_75 yr x2 (nI (2 ^ k)) (nI i) (nI j) 0 t n) ∧ ¬ q_M_fewest_75s yr x2 (nI (2 ^ k)) (nI i) (nI j) (0 + nI n) (f_M_fewest_75 yr x2 (nI (2 ^ k)) (nI i) (nI j) 0 t n) = 1) := by
  have hP := hi.c.2.2.1
  have hP2 := hP.2
  have hS := hi.c.2.2.2.1.2
  -- one step
  have step : ∀ n (s : MSto), n < nM τ 10 → agO [86000] τ s → (t_M_fewest_75 yr x2 (nI (2 ^ k)) (nI i) (nI j) (0 + nI n) s = if pcF τ n yr i j = false then s else sI s 86 0 n (gI s 86 0 n ||| nI (2 ^ k))) ∧ g_M_fewest_75 yr x2 (nI (2 ^ k)) (nI i) (nI j) (0 + nI n) s ∧ ¬ q_M_fewest_75s yr x2 (nI (2 ^ k)) (nI i) (nI j) (0 + nI n) s = 1 := by
    intro n s hn ws
    have cN : gI s 13 0 10 = nI (nM τ 10) := by rw [ws.i rfl]; exact hP.1
    have iS : iM s := hi.mv ws rfl
    have eN : nM s 10 = nM τ 10 := by unfold nM; rw [ws.i rfl]
    have eS : nM s 17 = nM τ 17 := by unfold nM; rw [ws.i rfl]
    obtain ⟨r1, r2, r3, r4⟩ := iS.p n (by omega)
    have vp : vp_in (nI n) 12 := nI_inb (by omega) (by decide)
    have eA : v_M_areParted (nI i) (nI j) (gI s 47 0 n) (gI s 48 0 n) (gI s 49 0 n) (gI s 50 0 n) yr s = 0 ↔ pcF τ n yr i j = false := by
      rw [parted_mvS ws (by omega) (by omega), ws.i rfl, ws.i rfl, ws.i rfl, ws.i rfl]
      exact ptB_0
    unfold t_M_fewest_75 g_M_fewest_75 q_M_fewest_75s
    rw [if_neg (ng_cnt cN (by omega) hn), if_neg (ng_cnt cN (by omega) hn), z_nI, nI_cl (by omega)]
    refine ⟨?_, fun _ => ⟨vp, vp, vp, vp, pM_areParted (x := gI s 47 0 n) iS _ r3 r4 hy (by omega) (by omega), fun _ => ⟨vp, vp⟩⟩, by decide⟩
    simp only [eA]
  intro n
  have main : ∀ n, n ≤ nM τ 10 → (agO [86000] τ (f_M_fewest_75 yr x2 (nI (2 ^ k)) (nI i) (nI j) 0 t n) ∧ ∀ c, c < nM τ 10 → gI (f_M_fewest_75 yr x2 (nI (2 ^ k)) (nI i) (nI j) 0 t n) 86 0 c = nI (if c < n ∧ pcF τ c yr i j = true then K c ||| 2 ^ k else K c)) := by
    intro n
    induction n with
    | zero =>
      refine fun _ => ⟨w, fun c hc => ?_⟩
      rw [if_neg (fun q => absurd q.1 (by omega))]
      exact hK c hc
    | succ n ih =>
      intro hn
      obtain ⟨ws, hv⟩ := ih (by omega)
      show agO [86000] τ (t_M_fewest_75 yr x2 (nI (2 ^ k)) (nI i) (nI j) (0 + nI n) (f_M_fewest_75 yr x2 (nI (2 ^ k)) (nI i) (nI j) 0 t n)) ∧ ∀ c, c < nM τ 10 → gI (t_M_fewest_75 yr x2 (nI (2 ^ k)) (nI i) (nI j) (0 + nI n) (f_M_fewest_75 yr x2 (nI (2 ^ k)) (nI i) (nI j) 0 t n)) 86 0 c = _
      rw [(step n _ (by omega) ws).1]
      cases hp : pcF τ n yr i j with
      | false =>
        rw [if_pos rfl]
        refine ⟨ws, fun c hc => ?_⟩
        rw [hv c hc]
        by_cases e : c = n
        · rw [if_neg (fun q => absurd q.1 (by omega)), if_neg (fun q => by rw [e, hp] at q; cases q.2)]
        · by_cases e2 : c < n ∧ pcF τ c yr i j = true
          · rw [if_pos e2, if_pos ⟨by omega, e2.2⟩]
          · rw [if_neg e2, if_neg (fun q => e2 ⟨by omega, q.2⟩)]
      | true =>
        rw [if_neg (by decide)]
        refine ⟨agO_sI rfl ws, fun c hc => ?_⟩
        rw [gI_at]
        by_cases e : c = n
        · subst e
          rw [if_pos rfl, hv c hc, if_neg (fun q => absurd q.1 (by omega)), if_pos ⟨by omega, hp⟩, fa_or]
        · rw [if_neg e, hv c hc]
          by_cases e2 : c < n ∧ pcF τ c yr i j = true
          · rw [if_pos e2, if_pos ⟨by omega, e2.2⟩]
          · rw [if_neg e2, if_neg (fun q => e2 ⟨by omega, q.2⟩)]
  exact fun hn => ⟨main n hn, fun h => (step n _ h (main n hn).1).2⟩
theorem fw_59s {τ : MSto} (hi : iM τ) {yr : Int32} (hy : rg yr 0 199) {S : Nat} (eS : nM τ 17 = S) {i m : Nat} (hi' : i < S) (hm : m < S - (i + 1)) {X : Int32 × Int32 × MSto} (h : fwI τ (base S i + m) (fun c => kIn (pcF τ c yr) (base S i) i (kOut (pcF τ c yr) S i) m) X) : fwI τ (base S i + (m + 1)) (fun c => kIn (pcF τ c yr) (base S i) i (kOut (pcF τ c yr) S i) (m + 1)) (t_M_fewest_59 yr (nI i) (nI (i + 1) + nI m) X) ∧ g_M_fewest_59 yr (nI i) (nI (i + 1) + nI m) X ∧ ¬ q_M_fewest_59s yr (nI i) (nI (i + 1) + nI m) X = 1 := by
  obtain ⟨A, B, t⟩ := X
  obtain ⟨h1, h2, w, h4⟩ := h
  have h1' : A = nI (2 ^ (base S i + m) - 1) := h1
  have h2' : B = nI (2 ^ (base S i + m)) := h2
  have w : agO [86000] τ t := w
  have h6 := hi.c.2.2.2.1
  have hS : S ≤ 6 := by rw [← eS]; exact h6.2
  have hb := base_15 hS
  have hbi := base_le S hi'
  have cS : gI t 13 0 17 = nI S := by rw [w.i rfl, ← eS]; exact h6.1
  have hP := hi.c.2.2.1
  have hP2 := hP.2
  have nN : ∀ x2 x3, n_M_fewest_75 yr x2 x3 (nI i) (nI (i + 1 + m)) 0 t = nM τ 10 := fun _ _ => by
    show nM t 10 = _
    unfold nM; rw [w.i rfl]
  obtain ⟨p1, p2⟩ := fw_pow (base S i + m) (by omega)
  have F := fun x2 => fw_75 hi w hy (i := i) (j := i + 1 + m) (k := base S i + m) (by omega) (by omega) h4 x2
  unfold t_M_fewest_59 g_M_fewest_59 q_M_fewest_59s
  rw [h1', h2']
  show fwI τ _ _ (if gI t 13 0 17 ≤ nI (i + 1) + nI m then _ else (nI (2 ^ (base S i + m) - 1) ||| nI (2 ^ (base S i + m)), nI (2 ^ (base S i + m)) <<< ((1 : Int32) &&& 31), f_M_fewest_75 yr (nI (2 ^ (base S i + m) - 1) ||| nI (2 ^ (base S i + m))) (nI (2 ^ (base S i + m))) (nI i) (nI (i + 1) + nI m) 0 t (n_M_fewest_75 yr (nI (2 ^ (base S i + m) - 1) ||| nI (2 ^ (base S i + m))) (nI (2 ^ (base S i + m))) (nI i) (nI (i + 1) + nI m) 0 t))) ∧ (¬ gI t 13 0 17 ≤ nI (i + 1) + nI m → _) ∧ ¬ (if gI t 13 0 17 ≤ nI (i + 1) + nI m then (1 : Nat) else 0) = 1
  rw [nI_add, cS, if_neg (nI_ge (by omega) (by omega)), if_neg (nI_ge (by omega) (by omega)), nN]
  obtain ⟨⟨f1, f2⟩, -⟩ := F (nI (2 ^ (base S i + m) - 1) ||| nI (2 ^ (base S i + m))) (nM τ 10) (Nat.le_refl _)
  refine ⟨⟨p1, p2, f1, fun c hc => ?_⟩, fun _ => ?_, by decide⟩
  · show gI (f_M_fewest_75 yr (nI (2 ^ (base S i + m) - 1) ||| nI (2 ^ (base S i + m))) (nI (2 ^ (base S i + m))) (nI i) (nI (i + 1 + m)) 0 t (nM τ 10)) 86 0 c = nI (kIn (pcF τ c yr) (base S i) i (kOut (pcF τ c yr) S i) (m + 1))
    rw [f2 c hc, kIn_s]
    cases hp : pcF τ c yr i (i + 1 + m) with
    | false => rw [if_neg (fun q => by cases q.2), if_neg (by decide)]
    | true => rw [if_pos ⟨hc, rfl⟩, if_pos rfl]
  · refine ⟨fun n hn => (F _ n (by omega)).2 hn, fun q => q ?_⟩
    rw [f1.i rfl]
    exact e_cnt hP.1
theorem fw_44s {τ : MSto} (hi : iM τ) {yr : Int32} (hy : rg yr 0 199) {S : Nat} (eS : nM τ 17 = S) {i : Nat} (hi' : i < S) {X : Int32 × Int32 × MSto} (h : fwI τ (base S i) (fun c => kOut (pcF τ c yr) S i) X) : fwI τ (base S (i + 1)) (fun c => kOut (pcF τ c yr) S (i + 1)) (t_M_fewest_44 yr (0 + nI i) X) ∧ g_M_fewest_44 yr (0 + nI i) X ∧ ¬ q_M_fewest_44s yr (0 + nI i) X = 1 := by
  have h6 := hi.c.2.2.2.1
  have hS : S ≤ 6 := by rw [← eS]; exact h6.2
  have w := h.2.2.1
  have cS : gI X.2.2 13 0 17 = nI S := by rw [w.i rfl, ← eS]; exact h6.1
  have nN : n_M_fewest_59 yr (nI i) (nI (i + 1)) X = S - (i + 1) := by
    show nM X.2.2 17 - (nI (i + 1)).toNatClampNeg = _
    have : nM X.2.2 17 = S := by rw [← eS]; unfold nM; rw [w.i rfl]
    rw [this, nI_cl (by omega)]
  have main : ∀ m, m ≤ S - (i + 1) → fwI τ (base S i + m) (fun c => kIn (pcF τ c yr) (base S i) i (kOut (pcF τ c yr) S i) m) (f_M_fewest_59 yr (nI i) (nI (i + 1)) X m) := by
    intro m
    induction m with
    | zero => exact fun _ => h
    | succ m ih => exact fun hm => (fw_59s hi hy eS hi' (by omega) (ih (by omega))).1
  unfold t_M_fewest_44 g_M_fewest_44 q_M_fewest_44s
  rw [z_nI, nI_s]
  show fwI τ _ _ (if gI X.2.2 13 0 17 ≤ nI i then _ else f_M_fewest_59 yr (nI i) (nI (i + 1)) X (n_M_fewest_59 yr (nI i) (nI (i + 1)) X)) ∧ (¬ gI X.2.2 13 0 17 ≤ nI i → (∀ m, m < n_M_fewest_59 yr (nI i) (nI (i + 1)) X → g_M_fewest_59 yr (nI i) (nI (i + 1) + nI m) (f_M_fewest_59 yr (nI i) (nI (i + 1)) X m) ∧ ¬ q_M_fewest_59s yr (nI i) (nI (i + 1) + nI m) (f_M_fewest_59 yr (nI i) (nI (i + 1)) X m) = 1) ∧ (¬ gI (f_M_fewest_59 yr (nI i) (nI (i + 1)) X (n_M_fewest_59 yr (nI i) (nI (i + 1)) X)).2.2 13 0 17 ≤ nI (i + 1) + nI (n_M_fewest_59 yr (nI i) (nI (i + 1)) X) → False)) ∧ ¬ (if gI X.2.2 13 0 17 ≤ nI i then (1 : Nat) else 0) = 1
  rw [cS, if_neg (nI_ge (by omega) (by omega)), if_neg (nI_ge (by omega) (by omega)), nN]
  have fin := main (S - (i + 1)) (Nat.le_refl _)
  refine ⟨?_, fun _ => ⟨fun m hm => (fw_59s hi hy eS hi' hm (main m (by omega))).2, fun q => q ?_⟩, by decide⟩
  · rw [base_s]
    exact fin
  · rw [fin.2.2.1.i rfl, h6.1, eS, nI_add]
    exact nI_le (by omega) (by omega)
/-- what the class keeps of each piece -/
theorem fw_16 {σ τ : MSto} (h : Cpl σ τ) {yr : Int32} (hy : rg yr 0 199) : ∀ n, n ≤ nM τ 10 → (agO [29000, 30000] σ (f_C_fewest_16 yr (nI (nM τ 10)) 0 σ n) ∧ ∀ c, c < n → gI (f_C_fewest_16 yr (nI (nM τ 10)) 0 σ n) 30 0 c = nI (kOut (pcF τ c yr) (nM τ 17) (nM τ 17))) ∧ (n < nM τ 10 → g_C_fewest_16 yr (nI (nM τ 10)) (0 + nI n) (f_C_fewest_16 yr (nI (nM τ 10)) 0 σ n) ∧ ¬ q_C_fewest_16s yr (nI (nM τ 10)) (0 + nI n) (f_C_fewest_16 yr (nI (nM τ 10)) 0 σ n) = 1) := by
  have hP := h.P12
  have step : ∀ n (s : MSto), n < nM τ 10 → agO [29000, 30000] σ s → t_C_fewest_16 yr (nI (nM τ 10)) (0 + nI n) s = sI (e_C_pairsPartedBy n yr s) 30 0 n (nI (kOut (pcF τ n yr) (nM τ 17) (nM τ 17))) ∧ g_C_fewest_16 yr (nI (nM τ 10)) (0 + nI n) s ∧ ¬ q_C_fewest_16s yr (nI (nM τ 10)) (0 + nI n) s = 1 := by
    intro n s hn ws
    have c := h.mv ws (agO_refl [] τ) rfl rfl
    obtain ⟨q1, q2, q3, q4, q5⟩ := pairsBy c hn hy
    unfold t_C_fewest_16 g_C_fewest_16 q_C_fewest_16s tj_C_fewest_16j43
    rw [if_neg (ng_cnt rfl (by omega) hn), if_neg (ng_cnt rfl (by omega) hn), z_nI, nI_cl (by omega), al_v (by omega), c.eP hn, q1]
    exact ⟨rfl, fun _ => ⟨al_p c.lP (by omega) hn, q2, nI_inb (by omega) (by decide)⟩, by decide⟩
  have main : ∀ n, n ≤ nM τ 10 → agO [29000, 30000] σ (f_C_fewest_16 yr (nI (nM τ 10)) 0 σ n) ∧ ∀ c, c < n → gI (f_C_fewest_16 yr (nI (nM τ 10)) 0 σ n) 30 0 c = nI (kOut (pcF τ c yr) (nM τ 17) (nM τ 17)) := by
    intro n
    induction n with
    | zero => exact fun _ => ⟨agO_refl _ σ, fun c hc => absurd hc (by omega)⟩
    | succ n ih =>
      intro hn
      obtain ⟨ws, hv⟩ := ih (by omega)
      show agO [29000, 30000] σ (t_C_fewest_16 yr (nI (nM τ 10)) (0 + nI n) (f_C_fewest_16 yr (nI (nM τ 10)) 0 σ n)) ∧ ∀ c, c < n + 1 → gI (t_C_fewest_16 yr (nI (nM τ 10)) (0 + nI n) (f_C_fewest_16 yr (nI (nM τ 10)) 0 σ n)) 30 0 c = _
      rw [(step n _ (by omega) ws).1]
      refine ⟨agO_sI rfl (ws.step (w_C_pairsPartedBy _ _ _) rfl), fun c hc => ?_⟩
      rw [gI_at]
      by_cases e : c = n
      · rw [if_pos e, e]
      · rw [if_neg e, (w_C_pairsPartedBy n yr _).i rfl]
        exact hv c (by omega)
  exact fun n hn => ⟨main n hn, fun h2 => (step n _ h2 (main n hn).1).2⟩
/-- what any piece of a set parts -/
def orN (v : Nat → Nat) (c : Nat) : Nat → Nat
  | 0 => 0
  | n + 1 => if c.testBit n = true then orN v c n ||| v n else orN v c n
theorem orN_hi (v : Nat → Nat) {c N : Nat} (hc : c < 2 ^ N) : ∀ k, orN v c (N + k) = orN v c N
  | 0 => rfl
  | k + 1 => by
    show (if c.testBit (N + k) = true then _ else orN v c (N + k)) = _
    rw [hi_bit hc (by omega), if_neg (by decide)]
    exact orN_hi v hc k
theorem fw_any {s : MSto} {v : Nat → Nat} {N c : Nat} (hN : N ≤ 12) (hv : ∀ p, p < N → gI s 30 0 p = nI (v p)) (hc : c < 2 ^ N) : v_C_partedByAny (nI c) s = nI (orN v c N) ∧ p_C_partedByAny (nI c) s := by
  have step : ∀ n, n < 12 → ∀ x, t_C_partedByAny_4 (nI c) (0 + nI n) s (nI x) = nI (if c.testBit n = true then x ||| v n else x) := by
    intro n hn x
    unfold t_C_partedByAny_4
    rw [if_neg (ng_cnt (N := 12) (n := 12) rfl (by decide) hn), z_nI, nI_cl (by omega), hasC (by omega)]
    cases hb : c.testBit n with
    | false => rw [if_pos (bz (by decide)), if_neg (by decide)]
    | true =>
      have hnN : n < N := by
        rcases Nat.lt_or_ge n N with q | q
        · exact q
        · rw [hi_bit hc q] at hb; cases hb
      rw [if_neg (bn rfl), if_pos rfl, hv n hnN, fa_or]
  have main : ∀ n, n ≤ 12 → f_C_partedByAny_4 (nI c) 0 s 0 n = nI (orN v c n) := by
    intro n
    induction n with
    | zero => exact fun _ => rfl
    | succ n ih =>
      intro hn
      show t_C_partedByAny_4 (nI c) (0 + nI n) s (f_C_partedByAny_4 (nI c) 0 s 0 n) = _
      rw [ih (by omega), step n (by omega)]
      rfl
  constructor
  · show f_C_partedByAny_4 (nI c) 0 s 0 12 = _
    have e := orN_hi v hc (12 - N)
    rw [show N + (12 - N) = 12 by omega] at e
    rw [main 12 (Nat.le_refl _), e]
  · refine ⟨fun i hi => ⟨fun _ _ => ?_, q_cnt (N := 12) (n := 12) rfl (by decide) hi⟩, fun q => q (e_cnt (N := 12) (n := 12) rfl)⟩
    rw [z_nI]; exact nI_inb hi (by decide)
theorem fw_202 {t : MSto} {v : Nat → Nat} {N c : Nat} (hN : N ≤ 12) (cN : gI t 13 0 10 = nI N) (hv : ∀ p, p < N → gI t 86 0 p = nI (v p)) (x2 x4 : Int32) : f_M_fewest_202 x2 x4 (nI c) 0 t 0 (n_M_fewest_202 x2 x4 (nI c) 0 t 0) = nI (orN v c N) ∧ (∀ i, i < n_M_fewest_202 x2 x4 (nI c) 0 t 0 → g_M_fewest_202 x2 x4 (nI c) (0 + nI i) t (f_M_fewest_202 x2 x4 (nI c) 0 t 0 i) ∧ ¬ q_M_fewest_202s x2 x4 (nI c) (0 + nI i) t (f_M_fewest_202 x2 x4 (nI c) 0 t 0 i) = 1) ∧ (¬ gI t 13 0 10 ≤ 0 + nI (n_M_fewest_202 x2 x4 (nI c) 0 t 0) → False) := by
  have nN : n_M_fewest_202 x2 x4 (nI c) 0 t 0 = N := by
    show nM t 10 = N
    unfold nM; rw [cN, nI_cl (by omega)]
  have main : ∀ n, n ≤ N → f_M_fewest_202 x2 x4 (nI c) 0 t 0 n = nI (orN v c n) := by
    intro n
    induction n with
    | zero => exact fun _ => rfl
    | succ n ih =>
      intro hn
      show t_M_fewest_202 x2 x4 (nI c) (0 + nI n) t (f_M_fewest_202 x2 x4 (nI c) 0 t 0 n) = nI (if c.testBit n = true then orN v c n ||| v n else orN v c n)
      rw [ih (by omega)]
      unfold t_M_fewest_202
      rw [if_neg (ng_cnt cN (by omega) (by omega)), z_nI, nI_cl (by omega), hasM (by omega), hv n (by omega), fa_or]
      cases hb : c.testBit n with
      | false => rw [if_pos (bz (by decide)), if_neg (by decide)]; exact Int32.or_zero
      | true => rw [if_neg (bn rfl), if_pos rfl]
  rw [nN]
  refine ⟨main N (Nat.le_refl _), fun i hi => ⟨fun _ _ => ?_, q_cnt cN (by omega) hi⟩, fun q => q (e_cnt cN)⟩
  rw [z_nI]; exact nI_inb (by omega) (by decide)
theorem fw_step {s t : MSto} {v : Nat → Nat} {N A : Nat} (hN : N ≤ 12) (cN : gI t 13 0 10 = nI N) (hs : ∀ p, p < N → gI s 30 0 p = nI (v p)) (ht : ∀ p, p < N → gI t 86 0 p = nI (v p)) (hA : v_C_allPairs s = nI A) {c : Nat} (hc : c < 2 ^ N) (b : Int32) : t_C_fewest_54 (nI N) (0 + nI c) s b = t_M_fewest_163 (nI A) (0 + nI c) t b ∧ g_C_fewest_54 (nI N) (0 + nI c) s b ∧ ¬ q_C_fewest_54s (nI N) (0 + nI c) s b = 1 ∧ g_M_fewest_163 (nI A) (0 + nI c) t b ∧ ¬ q_M_fewest_163s (nI A) (0 + nI c) t b = 1 := by
  obtain ⟨a1, a2⟩ := fw_any hN hs hc
  have h12 : 2 ^ N ≤ 4096 := Nat.pow_le_pow_right (n := 2) (by decide) hN
  have ne : ¬ nI (2 ^ N) ≤ nI c := nI_ge hc (by omega)
  unfold t_C_fewest_54 t_M_fewest_163 g_C_fewest_54 q_C_fewest_54s g_M_fewest_163 q_M_fewest_163s
  rw [cN, shl15 N (by omega), z_nI, if_neg ne, if_neg ne, if_neg ne, a1, hA]
  obtain ⟨m1, m2, m3⟩ := fw_202 hN cN ht (nI A) b (c := c)
  rw [cN] at m3
  rw [m1]
  refine ⟨?_, fun _ => ⟨fun _ => a2, fun _ _ => a2⟩, by decide, fun _ => ⟨fun _ => ⟨m2, m3⟩, fun _ _ => ⟨m2, m3⟩⟩, by decide⟩
  have eb : ∀ x, v_In_bitCount x s = v_In_bitCount x t := fun _ => rfl
  rw [eb, eb]
  by_cases g : b = -1
  · rw [if_pos g, if_pos g]
  · rw [if_neg g, if_neg g]
    by_cases g2 : v_In_bitCount b t ≤ v_In_bitCount (nI c) t
    · rw [if_pos g2, if_neg (Int32.not_lt.mpr g2)]
    · rw [if_neg g2, if_pos (Int32.not_le.mp g2)]
theorem T_fewest {σ τ : MSto} (h : Cpl σ τ) (a : Int32) : p_C_fewest a σ ∧ p_M_fewest a τ ∧ v_C_fewest a σ = v_M_fewest a τ ∧ Cpl (e_C_fewest a σ) (e_M_fewest a τ) := by
  have h1 := h.e0
  unfold p_C_fewest p_M_fewest v_C_fewest v_M_fewest e_C_fewest e_M_fewest
  generalize sI τ 13 0 52 0 = τ1 at h1 ⊢
  simp only [cp_isYear, M_isYear]
  by_cases g : 0 ≤ a ∧ a ≤ 199
  · simp only [if_neg (bn g)]
    have hP := h1.P12
    have hS := h1.S6
    have sz : v_C_pieceCount σ = nI (nM τ1 10) := cp_pieceCount h1
    have h10 := h1.m.c.2.2.1.1
    have h17 := h1.m.c.2.2.2.1.1
    have n16 : n_C_fewest_16 a (nI (nM τ1 10)) 0 σ = nM τ1 10 := by unfold n_C_fewest_16; exact nI_cl (by omega)
    have n18 : n_M_fewest_18 a 0 0 τ1 = nM τ1 10 := rfl
    rw [sz, n16, n18]
    have C16 := fw_16 h1 g
    have M18 := fw_18 h1.m a
    obtain ⟨⟨w1, v1⟩, -⟩ := C16 (nM τ1 10) (Nat.le_refl _)
    obtain ⟨w2, v2⟩ := M18 (nM τ1 10) (Nat.le_refl _)
    have G16 := fun n (hn : n < nM τ1 10) => (C16 n (by omega)).2 hn
    have G18 : ∀ n, n < nM τ1 10 → g_M_fewest_18 a 0 (0 + nI n) (f_M_fewest_18 a 0 0 τ1 n) ∧ ¬ q_M_fewest_18s a 0 (0 + nI n) (f_M_fewest_18 a 0 0 τ1 n) = 1 := fun n hn => by
      have w := (M18 n (by omega)).1
      have e : gI (f_M_fewest_18 a 0 0 τ1 n) 13 0 10 = nI (nM τ1 10) := by rw [w.i rfl]; exact h10
      refine ⟨fun _ => ?_, q_cnt e (by omega) hn⟩
      rw [z_nI]; exact nI_inb (by omega) (by decide)
    generalize f_M_fewest_18 a 0 0 τ1 (nM τ1 10) = t1 at w2 v2 ⊢
    generalize f_C_fewest_16 a (nI (nM τ1 10)) 0 σ (nM τ1 10) = s at w1 v1 ⊢
    have hs : Cpl s τ1 := h1.mv w1 (agO_refl [] τ1) rfl rfl
    have nt1 : nM t1 17 = nM τ1 17 := by unfold nM; rw [w2.i rfl]
    have n44 : n_M_fewest_44 a 0 (0, 1, t1) = nM τ1 17 := nt1
    have x0 : fwI τ1 (base (nM τ1 17) 0) (fun c => kOut (pcF τ1 c a) (nM τ1 17) 0) (0, 1, t1) := ⟨rfl, rfl, w2, fun c hc => v2 c hc⟩
    have main : ∀ i, i ≤ nM τ1 17 → fwI τ1 (base (nM τ1 17) i) (fun c => kOut (pcF τ1 c a) (nM τ1 17) i) (f_M_fewest_44 a 0 (0, 1, t1) i) := by
      intro i
      induction i with
      | zero => exact fun _ => x0
      | succ i ih => exact fun hi => (fw_44s h1.m g rfl (by omega) (ih (by omega))).1
    have G44 := fun i (hi : i < nM τ1 17) => (fw_44s h1.m g rfl hi (main i (by omega))).2
    rw [n44]
    have fin := main (nM τ1 17) (Nat.le_refl _)
    generalize f_M_fewest_44 a 0 (0, 1, t1) (nM τ1 17) = X at fin ⊢
    obtain ⟨A, B, t⟩ := X
    obtain ⟨f1, -, w, f4⟩ := fin
    have f1' : A = nI (2 ^ base (nM τ1 17) (nM τ1 17) - 1) := f1
    have w : agO [86000] τ1 t := w
    have f4 : ∀ c, c < nM τ1 10 → gI t 86 0 c = nI (kOut (pcF τ1 c a) (nM τ1 17) (nM τ1 17)) := f4
    have ht : Cpl s t := hs.mv (agO_refl [] s) w rfl rfl
    have c10 : gI t 13 0 10 = nI (nM τ1 10) := by rw [w.i rfl]; exact h10
    have c17 : gI t 13 0 17 = nI (nM τ1 17) := by rw [w.i rfl]; exact h17
    have hA : v_C_allPairs s = nI (2 ^ base (nM τ1 17) (nM τ1 17) - 1) := by
      unfold v_C_allPairs
      rw [show v_C_storyCount s = nI (nM τ1 17) from cp_storyCount hs]
      exact fw_all _ (by omega)
    show (_ → _ ∧ ((_ → (∀ i, i < n_C_fewest_54 (nI (nM τ1 10)) 0 s (-1) → _) ∧ _) ∧ _)) ∧ (_ → _ ∧ ((_ → _ ∧ ((gI t 13 0 17 ≤ _ → (∀ i, i < n_M_fewest_163 A 0 t (-1) → _) ∧ _) ∧ _)) ∧ _)) ∧ _
    rw [f1']
    have n54 : n_C_fewest_54 (nI (nM τ1 10)) 0 s (-1) = 2 ^ nM τ1 10 := by unfold n_C_fewest_54; rw [nI_cl (by omega)]
    have n163 : ∀ A, n_M_fewest_163 A 0 t (-1) = 2 ^ nM τ1 10 := fun _ => by
      show 2 ^ nM t 10 = _
      unfold nM; rw [w.i rfl]
    have st := fun c (hc : c < 2 ^ nM τ1 10) b => fw_step (N := nM τ1 10) hP c10 v1 f4 hA hc b
    have fe : ∀ n, n ≤ 2 ^ nM τ1 10 → f_C_fewest_54 (nI (nM τ1 10)) 0 s (-1) n = f_M_fewest_163 (nI (2 ^ base (nM τ1 17) (nM τ1 17) - 1)) 0 t (-1) n := fun n hn => fold_eq (f := fun i x => t_C_fewest_54 (nI (nM τ1 10)) (0 + nI i) s x) (g := fun i x => t_M_fewest_163 (nI (2 ^ base (nM τ1 17) (nM τ1 17) - 1)) (0 + nI i) t x) (a := -1) (n := n) (fun i hi x => (st i (by omega) x).1)
    rw [n54]
    simp only [n163]
    rw [fe _ (Nat.le_refl _)]
    have h12 : 2 ^ nM τ1 10 ≤ 4096 := Nat.pow_le_pow_right (n := 2) (by decide) hP
    generalize f_M_fewest_163 (nI (2 ^ base (nM τ1 17) (nM τ1 17) - 1)) 0 t (-1) (2 ^ nM τ1 10) = b
    obtain ⟨r1, r2, r3⟩ := row1 ht b.toInt64
    have sh := shl15 (nM τ1 10) (by omega)
    refine ⟨fun _ => ⟨G16, fun _ => ⟨fun i hi => ?_, fun _ _ => r2, fun q => q ?_⟩, fun q => q (e_cnt rfl)⟩, fun _ => ⟨G18, fun _ => ⟨G44, fun _ => ⟨fun i hi => ?_, fun _ _ => r3, fun q => q ?_⟩, fun q => q (e_cnt c17)⟩, fun q => q ?_⟩, ?_, ?_⟩
    · have := st i hi (f_C_fewest_54 (nI (nM τ1 10)) 0 s (-1) i)
      exact ⟨this.2.1, this.2.2.1⟩
    · rw [sh]; exact e_cnt rfl
    · have := st i hi (f_M_fewest_163 (nI (2 ^ base (nM τ1 17) (nM τ1 17) - 1)) 0 t (-1) i)
      exact this.2.2.2
    · rw [c10, sh]; exact e_cnt rfl
    · rw [w2.i rfl]; exact e_cnt h10
    · rfl
    · split
      · exact ht
      · exact r1
  · simp only [if_pos (bz g)]
    exact ⟨fun q => absurd (bz g) q, fun q => absurd (bz g) q, trivial, h1⟩

