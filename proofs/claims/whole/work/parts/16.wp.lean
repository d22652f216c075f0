/-! runs of the small machine, from a state to an end that holds something -/
def mW1 (P : MP) (st : MST) (Post : MST → Prop) : Prop := ∃ n r, mexe KT P n st = some r ∧ Post r
/-- a block's tree, its leaves by the fuel -/
def mTr (T : Nat → Option MST) (Post : MST → Prop) : Prop := ∃ n r, T n = some r ∧ Post r
def mF (rets : List Nat) (rv : List MV) (σ : MSto) (mc ms : Nat) : MST → Prop := fun r => r.1 ∈ rets ∧ r.2.1 = [] ∧ r.2.2.1 = rv ∧ r.2.2.2.1 = σ ∧ r.2.2.2.2.1 ≤ mc ∧ r.2.2.2.2.2 ≤ ms
theorem mW1_eq {P : MP} {st : MST} {T : Nat → Option MST} {Post : MST → Prop} (h : ∀ n, mexe KT P (n + 1) st = T n) (k : mTr T Post) : mW1 P st Post := by
  obtain ⟨n, r, h1, h2⟩ := k
  exact ⟨n + 1, r, (h n).trans h1, h2⟩
theorem mTr_if {c : Prop} {a b : Nat → Option MST} {Post : MST → Prop} (h1 : c → mTr a Post) (h2 : ¬ c → mTr b Post) : mTr (fun n => mIf c (a n) (b n)) Post := by
  by_cases hc : c
  · obtain ⟨n, r, g1, g2⟩ := h1 hc
    exact ⟨n, r, by show mIf c (a n) (b n) = _; rw [mIf_t hc]; exact g1, g2⟩
  · obtain ⟨n, r, g1, g2⟩ := h2 hc
    exact ⟨n, r, by show mIf c (a n) (b n) = _; rw [mIf_f hc]; exact g1, g2⟩
theorem mTr_t {c : Prop} {a b : Nat → Option MST} {Post : MST → Prop} (hc : c) (h : mTr a Post) : mTr (fun n => mIf c (a n) (b n)) Post := mTr_if (fun _ => h) (fun h => absurd hc h)
theorem mTr_f {c : Prop} {a b : Nat → Option MST} {Post : MST → Prop} (hc : ¬ c) (h : mTr b Post) : mTr (fun n => mIf c (a n) (b n)) Post := mTr_if (fun h => absurd h hc) (fun _ => h)
theorem mTr_g {c : Prop} {a : Nat → Option MST} {Post : MST → Prop} (hc : c) (h : mTr a Post) : mTr (fun n => mG c (a n)) Post := by
  obtain ⟨n, r, g1, g2⟩ := h
  exact ⟨n, r, by show mG c (a n) = _; rw [mG_t hc]; exact g1, g2⟩
theorem mTr_o {o : Option Nat} {a : Nat → Option MST} {b : Nat → Nat → Option MST} {Post : MST → Prop} (h1 : o = none → mTr a Post) (h2 : ∀ i, o = some i → mTr (fun n => b n i) Post) : mTr (fun n => mO o (a n) (b n)) Post := by
  cases o with
  | none => exact h1 rfl
  | some i => exact h2 i rfl
theorem mTr_k {P : MP} {st : MST} {Post : MST → Prop} (h : mW1 P st Post) : mTr (fun n => mexe KT P n st) Post := h
theorem mTr_e {rets : List Nat} {rv rv' : List MV} {σ σ' : MSto} {pc c s mc ms : Nat} (h1 : pc ∈ rets) (h2 : rv' = rv) (h3 : σ' = σ) (h4 : c ≤ mc) (h5 : s ≤ ms) : mTr (fun _ => some (pc, [], rv', σ', c, s)) (mF rets rv σ mc ms) := ⟨0, _, rfl, h1, rfl, h2, h3, h4, h5⟩
theorem mTr_p {r : MST} {Post : MST → Prop} (h : Post r) : mTr (fun _ => some r) Post := ⟨0, _, rfl, h⟩
theorem mW1_mono {P : MP} {st : MST} {Q1 Q2 : MST → Prop} (h : mW1 P st Q1) (h2 : ∀ r, Q1 r → Q2 r) : mW1 P st Q2 := by
  obtain ⟨n, r, g1, g2⟩ := h
  exact ⟨n, r, g1, h2 r g2⟩
/-- a loop whose state at each turn is told -/
theorem mW1_loop {P : MP} {Post : MST → Prop} (S : Nat → MST) (N : Nat) (hs : ∀ i, i < N → mW1 P (S (i + 1)) Post → mW1 P (S i) Post) (h : mW1 P (S N) Post) : mW1 P (S 0) Post := by
  have key : ∀ d, d ≤ N → mW1 P (S (N - d)) Post := by
    intro d
    induction d with
    | zero => intro _; exact h
    | succ d ih =>
      intro hd
      refine hs (N - (d + 1)) (by omega) ?_
      rw [show N - (d + 1) + 1 = N - d by omega]
      exact ih (by omega)
  have := key N (Nat.le_refl N)
  rwa [Nat.sub_self] at this
/-- a loop that may leave early: at each turn either on, or out -/
theorem mW1_loopD {ι : Type} {P : MP} {Post : MST → Prop} (S : ι → MST) (I : ι → Prop) (μ : ι → Nat) (hs : ∀ i, I i → (∀ j, I j → μ j < μ i → mW1 P (S j) Post) → mW1 P (S i) Post) : ∀ i, I i → mW1 P (S i) Post := by
  have key : ∀ n i, μ i < n → I i → mW1 P (S i) Post := by
    intro n
    induction n with
    | zero => intro i h; omega
    | succ n ih =>
      intro i h hi
      exact hs i hi (fun j hj hl => ih j (by omega) hj)
  exact fun i hi => key (μ i + 1) i (by omega) hi
theorem mF_inv {P : MP} {st : MST} {rets : List Nat} {rv : List MV} {σ : MSto} {mc ms : Nat} (h : mW1 P st (mF rets rv σ mc ms)) : ∃ n pcF c1 s1, mexe KT P n st = some (pcF, [], rv, σ, c1, s1) ∧ pcF ∈ rets ∧ c1 ≤ mc ∧ s1 ≤ ms := by
  obtain ⟨n, ⟨pc, L, S, σ', c1, s1⟩, h1, h2, h3, h4, h5, h6, h7⟩ := h
  simp only [] at h2 h3 h4 h5 h6 h7
  subst h3; subst h4; subst h5
  exact ⟨n, pc, c1, s1, h1, h2, h6, h7⟩
/-! booleans -/
noncomputable def bI (q : Prop) : Int32 := @ite _ q (Classical.propDecidable q) 1 0
theorem bI_t {q : Prop} (h : q) : bI q = 1 := by unfold bI; exact if_pos h
theorem bI_f {q : Prop} (h : ¬ q) : bI q = 0 := by unfold bI; exact if_neg h
theorem bI_0 {q : Prop} : bI q = 0 ↔ ¬ q := by
  by_cases h : q
  · rw [bI_t h]; simp [h]
  · rw [bI_f h]; simp [h]
theorem bI_1 {q : Prop} : bI q = 1 ↔ q := by
  by_cases h : q
  · rw [bI_t h]; simp [h]
  · rw [bI_f h]; simp [h]
theorem bI_n0 {q : Prop} : ¬ bI q = 0 ↔ q := by rw [bI_0, Classical.not_not]
theorem bI_narrow (q : Prop) : narrow .boolean (.int (bI q)) = .int (bI q) := by
  by_cases h : q
  · rw [bI_t h]; rfl
  · rw [bI_f h]; rfl
theorem bI_nar (q : Prop) : vp_nar .boolean (bI q) = bI q := by
  by_cases h : q
  · rw [bI_t h]; rfl
  · rw [bI_f h]; rfl
theorem bI_congr {q r : Prop} (h : q ↔ r) : bI q = bI r := by rw [propext h]
/-! the tables' parts -/
theorem code_ok {T : Nat → Option (Instr × Nat × List Nat)} {cc : ByteArray} {N : Nat} (hN : ∀ k, Nat.blt k N = false → T k = none) (h : (List.range N).all (fun pc => match T pc with
    | some (i, nx, tg) => mOkB cc pc i nx tg
    | none => true) = true) : ∀ pc i nx tg, T pc = some (i, nx, tg) → mOkB cc pc i nx tg = true := by
  intro pc i nx tg hT
  cases hb : Nat.blt pc N with
  | false => rw [hN pc hb] at hT; cases hT
  | true =>
    have := List.all_eq_true.mp h pc (List.mem_range.mpr (blt_lt hb))
    rw [hT] at this
    exact this
theorem fcN {α : Type} {Q : α → Prop} : ∀ q ∈ ([] : List α), Q q := fun q h => by cases h
theorem fcC {α : Type} {Q : α → Prop} {a : α} {l : List α} (h : Q a) (hl : ∀ q ∈ l, Q q) : ∀ q ∈ a :: l, Q q := fun q hq => (List.mem_cons.mp hq).elim (fun e => e ▸ h) (hl q)
theorem mLook_all {α : Type} {l : List (Nat × α)} {Q : Nat → α → Prop} (h : ∀ q ∈ l, Q q.1 q.2) : ∀ k v, mLook k l = some v → Q k v := fun k v hv => h (k, v) (mLook_mem hv)
/-- the ends of a method, by program -/
def mEndI (T : Nat → Option (Instr × Nat × List Nat)) (rets : List Nat) (i : Instr) : Bool := rets.all (fun pc => match T pc with
  | some (j, _, _) => decide (j = i)
  | none => false)
theorem mEnd_of {P : MP} {rets : List Nat} {i : Instr} {pc : Nat} (h : mEndI (pCode P) rets i = true) (hp : pc ∈ rets) : ∃ nx tg, pCode P pc = some (i, nx, tg) := by
  have := List.all_eq_true.mp h pc hp
  split at this
  · rename_i j nx tg hj
    have e := of_decide_eq_true this
    subst e
    exact ⟨nx, tg, hj⟩
  · cases this
theorem ltL_iff {x y : Int64} : x < y ↔ x.toInt < y.toInt := Int64.lt_iff_toInt_lt
theorem leL_iff {x y : Int64} : x ≤ y ↔ x.toInt ≤ y.toInt := Int64.le_iff_toInt_le
theorem ltI_iff {x y : Int32} : x < y ↔ x.toInt < y.toInt := Int32.lt_iff_toInt_lt
theorem leI_iff {x y : Int32} : x ≤ y ↔ x.toInt ≤ y.toInt := Int32.le_iff_toInt_le
theorem cmp_ge {x y : Int64} : 0 ≤ lg_cmp x y ↔ y ≤ x := lg_cmp_ge x y
theorem cmp_lt {x y : Int64} : lg_cmp x y < 0 ↔ x < y := by
  unfold lg_cmp
  simp only [gt_iff_lt, Int64.lt_iff_toInt_lt, ← Int64.toInt_inj]
  repeat' split
  all_goals simp
  all_goals omega
theorem cmp_gt {x y : Int64} : 0 < lg_cmp x y ↔ y < x := by
  unfold lg_cmp
  simp only [gt_iff_lt, Int64.lt_iff_toInt_lt, ← Int64.toInt_inj]
  repeat' split
  all_goals simp
  all_goals omega
theorem cmp_le {x y : Int64} : lg_cmp x y ≤ 0 ↔ x ≤ y := by
  unfold lg_cmp
  simp only [gt_iff_lt, Int64.lt_iff_toInt_lt, Int64.le_iff_toInt_le, ← Int64.toInt_inj]
  repeat' split
  all_goals simp
  all_goals omega
theorem cmp_eq {x y : Int64} : lg_cmp x y = 0 ↔ x = y := by
  unfold lg_cmp
  simp only [gt_iff_lt, Int64.lt_iff_toInt_lt, ← Int64.toInt_inj]
  repeat' split
  all_goals simp
  all_goals omega
theorem bI_e1 {q : Prop} (h : q) : [mI 1] = [mI (bI q)] := by rw [bI_t h]
theorem bI_e0 {q : Prop} (h : ¬ q) : [mI 0] = [mI (bI q)] := by rw [bI_f h]
theorem ifI1 {c : Prop} [Decidable c] {a b : Int32} (h : c) : [mI a] = [mI (if c then a else b)] := by rw [if_pos h]
theorem ifI0 {c : Prop} [Decidable c] {a b : Int32} (h : ¬ c) : [mI b] = [mI (if c then a else b)] := by rw [if_neg h]
theorem ifE1 {c : Prop} [Decidable c] {a b : MSto} (h : c) : a = (if c then a else b) := by rw [if_pos h]
theorem ifE0 {c : Prop} [Decidable c] {a b : MSto} (h : ¬ c) : b = (if c then a else b) := by rw [if_neg h]
/-- a place in an array, by its bounds -/
theorem inG {x : Int32} {n : Nat} (h : 0 ≤ x.toInt ∧ x.toInt < n) : vp_in x n := vp_in_iff.mpr h
theorem inI {x : Int32} {n : Nat} (m : Int32) (hm : m.toInt = n) (h0 : 0 ≤ x) (h1 : x < m) : vp_in x n := by
  rw [vp_in_iff]
  rw [Int32.le_iff_toInt_le] at h0
  rw [Int32.lt_iff_toInt_lt, hm] at h1
  exact ⟨h0, h1⟩
theorem inIle {x : Int32} {n : Nat} (m : Int32) (hm : m.toInt + 1 = n) (h0 : 0 ≤ x) (h1 : x ≤ m) : vp_in x n := by
  rw [vp_in_iff]
  rw [Int32.le_iff_toInt_le] at h0
  rw [Int32.le_iff_toInt_le] at h1
  have : (0 : Int32).toInt = 0 := rfl
  omega
/-- the reference's thrown is 0 again -/
abbrev e0 (σ : MSto) : MSto := sI σ 13 0 52 0
theorem bI_ev {q r : Prop} (h : r ↔ q) : [mI (bI q)] = [mI (bI r)] := by rw [propext h]
theorem mO_en {α : Type} {o : Option Nat} {x : α} {f : Nat → α} (h : o = none) : mO o x f = x := by rw [h]; rfl
theorem mO_es {α : Type} {o : Option Nat} {x : α} {f : Nat → α} {i : Nat} (h : o = some i) : mO o x f = f i := by rw [h]; rfl
theorem bI_T {q : Prop} (h : q = True) : [mI 1] = [mI (bI q)] := by rw [bI_t (of_eq_true h)]
theorem bI_F {q : Prop} (h : q = False) : [mI 0] = [mI (bI q)] := by rw [bI_f (fun g => by rw [h] at g; exact g)]
theorem bI_V {q r : Prop} (h : q = (bI r = 1)) : [mI (bI r)] = [mI (bI q)] := by rw [h, propext bI_1]
theorem mF_c0 {P : MP} {st : MST} {rets : List Nat} {e e' : MSto} {mc ms : Nat} (he : e = e') (h : mW1 P st (mF rets [] e' mc ms)) : mW1 P st (mF rets [] e mc ms) := by subst he; exact h
theorem mF_cI {P : MP} {st : MST} {rets : List Nat} {v v' : Int32} {e e' : MSto} {mc ms : Nat} (hv : v = v') (he : e = e') (h : mW1 P st (mF rets [mI v'] e' mc ms)) : mW1 P st (mF rets [mI v] e mc ms) := by subst hv; subst he; exact h
theorem mF_cJ {P : MP} {st : MST} {rets : List Nat} {v v' : Int64} {e e' : MSto} {mc ms : Nat} (hv : v = v') (he : e = e') (h : mW1 P st (mF rets [mJ v'] e' mc ms)) : mW1 P st (mF rets [mJ v] e mc ms) := by subst hv; subst he; exact h
theorem mF_cB {P : MP} {st : MST} {rets : List Nat} {v v' : Prop} {e e' : MSto} {mc ms : Nat} (hv : v = v') (he : e = e') (h : mW1 P st (mF rets [mI (bI v')] e' mc ms)) : mW1 P st (mF rets [mI (bI v)] e mc ms) := by subst hv; subst he; exact h
