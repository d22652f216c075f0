/-! what the machine's heap holds of a store: ad gives each cell's address -/
def mVal (ad : Nat → Nat → Nat) (v : MV) : Value := match v with
  | .inl x => .int x
  | .inr (.inl x) => .long x
  | .inr (.inr none) => .null
  | .inr (.inr (some (k, i))) => .ref (ad k i)
def mFV (ad : Nat → Nat → Nat) (σ : MSto) (k i : Nat) (fs : List Nat) (f : Nat) : Value := match fs.getD f 0 with
  | 0 => .int (gI σ k i f)
  | 1 => .long (gJ σ k i f)
  | t + 2 => if t % 2 = 0 then .ref (ad (t / 2) i) else va_rf ((gR σ k i f).map (ad (t / 2)))
def mAV (ad : Nat → Nat → Nat) (σ : MSto) (k i : Nat) (ty : FieldType) (ek : Nat) (j : Nat) : Value := match ty with
  | .long => .long (gJ σ k i j)
  | .object _ => va_rf ((gR σ k i j).map (ad ek))
  | _ => .int (gI σ k i j)
/-- the kind of a list's elements -/
def mLK (k : Nat) : Nat := match k with
  | 14 => 7
  | 15 => 9
  | 16 => 5
  | _ => 6
def mList (k : Nat) : Prop := 14 ≤ k ∧ k ≤ 18
/-- a list: its object, and the row of its elements -/
def mLAt (U : State) (D : va_G) (A : Nat → Prop) (eb : Nat) (ad : Nat → Nat → Nat) (σ : MSto) (k i : Nat) (H : Heap) : Prop :=
  t_OB (ad k i) (D.1 0) 3 (D.2 0) H (fun f => match f with
    | 0 => .int (gI σ k i 0)
    | 1 => .ref (ad (1000 + k) 0)
    | _ => .int (gI σ k i 2)) ∧
  ∃ n cap : Nat, n ≤ cap ∧ cap ≤ 1000 ∧ gI σ k i 2 = nI n ∧
    ((n = 0 ∧ ad (1000 + k) 0 = eb ∧ cap = 0) ∨ (0 < n ∧ 10 ≤ cap ∧ ∃ cA : ClassId, ArrOfT U cA (.object "java/lang/Object") ∧ va_RA U cA (.object "java/lang/Object") ∧ H[ad (1000 + k) 0]? = some (arrV cA cap (fun j => if j < n then va_rf ((gR σ k i j).map (ad (mLK k))) else .null)) ∧ ∀ j, j < n → (gR σ k i j).isSome = true))
def mAt (U : State) (D : va_G) (A : Nat → Prop) (eb : Nat) (ad : Nat → Nat → Nat) (σ : MSto) (k i : Nat) (H : Heap) : Prop := match KT k with
  | some (.inl (ci, fs)) => if ci = 0 then mLAt U D A eb ad σ k i H else ∃ r : vw_C, mCl[ci]? = some r ∧ r.2.2 = fs.length ∧ t_OB (ad k i) (D.1 ci) fs.length (D.2 ci) H (mFV ad σ k i fs)
  | some (.inr (ty, ln, ek)) => if k = 97 then ∃ L : Nat, gI σ 97 1 0 = nI L ∧ L < 2 ^ 31 ∧ va_X (ad k i) L (fun j => gI σ k i j) U H ∧ ¬ A (ad k i)
      else if k = 95 ∨ k = 96 then va_T ty (ad k i) ln (fun j => .int (gI σ k i j)) A U H
      else ∃ cA : ClassId, ArrOfT U cA ty ∧ va_RA U cA ty ∧ H[ad k i]? = some (arrV cA ln (mAV ad σ k i ty ek))
  | none => False
/-- whose cells are written -/
def mOwn (σ : MSto) (k i : Nat) : Prop := (k < 1000 ∧ k ≠ 95 ∧ k ≠ 96 ∧ k ≠ 97 ∧ i < gN σ k) ∨ (∃ l, mList l ∧ k = 1000 + l ∧ i = 0 ∧ 0 < gN σ l ∧ gI σ l 0 2 ≠ 0)
/-- the kind that a reference in a cell leads to -/
def mTg (k j : Nat) : Nat := match KT k with
  | some (.inl (ci, fs)) => if ci = 0 then mLK k else (fs.getD j 0 - 2) / 2
  | some (.inr (_, _, ek)) => ek
  | none => 0
def mLive (σ : MSto) (v : MV) : Prop := match v with
  | .inr (.inr (some (k, i))) => i < gN σ k
  | _ => True
/-- references lead to what is there -/
def mClosed (σ : MSto) : Prop :=
  (∀ k i j x, i < gN σ k → gR σ k i j = some x → x < gN σ (mTg k j)) ∧
  (∀ (k i ci : Nat) (fs : List Nat) (f t : Nat), i < gN σ k → KT k = some (.inl (ci, fs)) → ci ≠ 0 → fs[f]? = some (2 * t + 2) → i < gN σ t) ∧
  (∀ k, mList k → gN σ k ≤ 1)
/-- what was there is there still, at its address -/
def mExt (ad ad' : Nat → Nat → Nat) (σ σ' : MSto) : Prop := (∀ a b, b < gN σ a → b < gN σ' a ∧ ad' a b = ad a b) ∧ gN σ' 97 = gN σ 97
theorem mExt.refl (ad : Nat → Nat → Nat) (σ : MSto) : mExt ad ad σ σ := ⟨fun a b h => ⟨h, rfl⟩, rfl⟩
theorem mExt.trans {ad ad' ad'' : Nat → Nat → Nat} {σ σ' σ'' : MSto} (h1 : mExt ad ad' σ σ') (h2 : mExt ad' ad'' σ' σ'') : mExt ad ad'' σ σ'' := ⟨fun a b h => ⟨(h2.1 a b (h1.1 a b h).1).1, (h2.1 a b (h1.1 a b h).1).2.trans (h1.1 a b h).2⟩, h2.2.trans h1.2⟩
def mWd (U : State) (D : va_G) (A : Nat → Prop) (eb tL tB : Nat) (ad0 : Nat → Nat → Nat) (σ0 : MSto) (ad : Nat → Nat → Nat) (σ : MSto) (H : Heap) : Prop :=
  (∀ k i, i < gN σ k → mAt U D A eb ad σ k i H) ∧
  (∀ k i k' i', mOwn σ k i → mOwn σ k' i' → ad k i = ad k' i' → k = k' ∧ i = i') ∧
  (∀ k i, mOwn σ k i → A (ad k i) ∧ ad k i < H.size) ∧ mClosed σ ∧ ¬ A eb ∧ ad 95 0 = tL ∧ ad 96 0 = tB ∧ gN σ 95 = 1 ∧ gN σ 96 = 1 ∧ mExt ad0 ad σ0 σ
/-! stores read back -/
theorem gI_sI (σ : MSto) (k i j k' i' j' : Nat) (v : Int32) : gI (sI σ k i j v) k' i' j' = if k' = k ∧ i' = i ∧ j' = j then v else gI σ k' i' j' := rfl
theorem gJ_sJ (σ : MSto) (k i j k' i' j' : Nat) (v : Int64) : gJ (sJ σ k i j v) k' i' j' = if k' = k ∧ i' = i ∧ j' = j then v else gJ σ k' i' j' := rfl
theorem gR_sR (σ : MSto) (k i j k' i' j' : Nat) (v : Option Nat) : gR (sR σ k i j v) k' i' j' = if k' = k ∧ i' = i ∧ j' = j then v else gR σ k' i' j' := rfl
theorem gI_sJ (σ : MSto) (k i j k' i' j' : Nat) (v : Int64) : gI (sJ σ k i j v) k' i' j' = gI σ k' i' j' := rfl
theorem gI_sR (σ : MSto) (k i j k' i' j' : Nat) (v : Option Nat) : gI (sR σ k i j v) k' i' j' = gI σ k' i' j' := rfl
theorem gJ_sI (σ : MSto) (k i j k' i' j' : Nat) (v : Int32) : gJ (sI σ k i j v) k' i' j' = gJ σ k' i' j' := rfl
theorem gJ_sR (σ : MSto) (k i j k' i' j' : Nat) (v : Option Nat) : gJ (sR σ k i j v) k' i' j' = gJ σ k' i' j' := rfl
theorem gR_sI (σ : MSto) (k i j k' i' j' : Nat) (v : Int32) : gR (sI σ k i j v) k' i' j' = gR σ k' i' j' := rfl
theorem gR_sJ (σ : MSto) (k i j k' i' j' : Nat) (v : Int64) : gR (sJ σ k i j v) k' i' j' = gR σ k' i' j' := rfl
theorem gN_sI (σ : MSto) (k i j k' : Nat) (v : Int32) : gN (sI σ k i j v) k' = gN σ k' := rfl
theorem gN_sJ (σ : MSto) (k i j k' : Nat) (v : Int64) : gN (sJ σ k i j v) k' = gN σ k' := rfl
theorem gN_sR (σ : MSto) (k i j k' : Nat) (v : Option Nat) : gN (sR σ k i j v) k' = gN σ k' := rfl
theorem gN_sNew (σ : MSto) (k k' : Nat) : gN (sNew σ k) k' = if k' = k then gN σ k + 1 else gN σ k' := rfl
theorem gI_sNew (σ : MSto) (k k' i' j' : Nat) : gI (sNew σ k) k' i' j' = if k' = k ∧ i' = gN σ k then 0 else gI σ k' i' j' := rfl
theorem gJ_sNew (σ : MSto) (k k' i' j' : Nat) : gJ (sNew σ k) k' i' j' = if k' = k ∧ i' = gN σ k then 0 else gJ σ k' i' j' := rfl
theorem gR_sNew (σ : MSto) (k k' i' j' : Nat) : gR (sNew σ k) k' i' j' = if k' = k ∧ i' = gN σ k then none else gR σ k' i' j' := rfl
/-- two stores that hold the same in a cell -/
def mSame (σ σ' : MSto) (k i : Nat) : Prop := ∀ j, gI σ' k i j = gI σ k i j ∧ gJ σ' k i j = gJ σ k i j ∧ gR σ' k i j = gR σ k i j
theorem mFV_same {ad ad' : Nat → Nat → Nat} {σ σ' : MSto} {k i : Nat} {fs : List Nat} {f : Nat} (h : mSame σ σ' k i) (hc : ∀ t, fs.getD f 0 = 2 * t + 2 → ad' t i = ad t i) (hr : ∀ t x, fs.getD f 0 = 2 * t + 3 → gR σ k i f = some x → ad' t x = ad t x) : mFV ad' σ' k i fs f = mFV ad σ k i fs f := by
  unfold mFV
  obtain ⟨h1, h2, h3⟩ := h f
  cases hf : fs.getD f 0 with
  | zero => simp [h1]
  | succ n =>
    cases n with
    | zero => simp [h2]
    | succ t =>
      simp only []
      by_cases ht : t % 2 = 0
      · rw [if_pos ht, if_pos ht, hc (t / 2) (by rw [hf]; omega)]
      · rw [if_neg ht, if_neg ht, h3]
        congr 1
        cases hg : gR σ k i f with
        | none => rfl
        | some x => simp only [Option.map_some]; rw [hr (t / 2) x (by rw [hf]; omega) hg]
theorem mAV_same {ad ad' : Nat → Nat → Nat} {σ σ' : MSto} {k i : Nat} {ty : FieldType} {ek j : Nat} (h : mSame σ σ' k i) (hr : ∀ x, gR σ k i j = some x → ad' ek x = ad ek x) : mAV ad' σ' k i ty ek j = mAV ad σ k i ty ek j := by
  obtain ⟨h1, h2, h3⟩ := h j
  unfold mAV
  cases ty with
  | object C =>
    simp only [h3]
    congr 1
    cases hg : gR σ k i j with
    | none => rfl
    | some x => simp only [Option.map_some]; rw [hr x hg]
  | _ => simp [h1, h2]
theorem KT_hi {k : Nat} (h : 114 ≤ k) : KT k = none := by
  unfold KT
  have hb : Nat.blt k 114 = false := by
    cases hc : Nat.blt k 114 with
    | false => rfl
    | true => exact absurd (Nat.le_of_ble_eq_true hc) (by omega)
  rw [hb]
  rfl
theorem KT_list {k : Nat} {fs : List Nat} (h : KT k = some (.inl (0, fs))) : mList k := by
  by_cases hlt : k < 114
  · have h8 : ∀ k, k < 114 → (match KT k with
      | some (.inl (0, _)) => decide (14 ≤ k ∧ k ≤ 18)
      | _ => true) = true := by decide +kernel
    have h7 := h8 k hlt
    rw [h] at h7
    unfold mList
    simpa using h7
  · rw [KT_hi (by omega)] at h
    cases h
theorem mAt_congr {U U' : State} {D : va_G} {A A' : Nat → Prop} {eb : Nat} {ad ad' : Nat → Nat → Nat} {σ σ' : MSto} {k i : Nat} {H H' : Heap} (hvm : U.vm.Alike U'.vm) (hcl : mClosed σ) (hi : i < gN σ k) (hs : mSame σ σ' k i) (hs97 : k = 97 → gI σ' 97 1 0 = gI σ 97 1 0)
    (had : ∀ k' i', i' < gN σ k' → ad' k' i' = ad k' i') (hls : mList k → ad' (1000 + k) 0 = ad (1000 + k) 0) (hq : H'[ad k i]? = H[ad k i]?) (hql : mList k → gI σ k i 2 ≠ 0 → H'[ad (1000 + k) 0]? = H[ad (1000 + k) 0]?) (hA : (k = 95 ∨ k = 96 ∨ k = 97) → ¬ A' (ad k i))
    (h : mAt U D A eb ad σ k i H) : mAt U' D A' eb ad' σ' k i H' := by
  obtain ⟨hc1, hc2, -⟩ := hcl
  have hadk : ad' k i = ad k i := had k i hi
  unfold mAt at h ⊢
  cases hk : KT k with
  | none => rw [hk] at h; exact h
  | some kd =>
    rw [hk] at h
    cases kd with
    | inl o =>
      obtain ⟨ci, fs⟩ := o
      simp only [] at h ⊢
      by_cases hci : ci = 0
      · rw [if_pos hci] at h ⊢
        have hml : mList k := by
          subst hci
          exact KT_list hk
        unfold mLAt at h ⊢
        obtain ⟨h1, n, cap, h2, h3, h4, h5⟩ := h
        refine ⟨?_, n, cap, h2, h3, by rw [(hs 2).1]; exact h4, ?_⟩
        · rw [hadk, hls hml]
          refine (h1.kept hq).to (fun f hf => ?_)
          rcases (show f = 0 ∨ f = 1 ∨ f = 2 by omega) with rfl | rfl | rfl
          · simp [(hs 0).1]
          · rfl
          · simp [(hs 2).1]
        · rw [hls hml]
          rcases h5 with h5 | ⟨hn, hcap, cA, g1, g2, g3, g4⟩
          · exact Or.inl h5
          · refine Or.inr ⟨hn, hcap, cA, arrOfT_moved hvm g1, g2.moved hvm, ?_, fun j hj => by rw [(hs j).2.2]; exact g4 j hj⟩
            rw [hql hml (by rw [h4]; exact nI_ne0 hn (by omega)), g3]
            congr 2
            funext j
            by_cases hj : j < n
            · rw [if_pos hj, if_pos hj, (hs j).2.2]
              congr 1
              cases hg : gR σ k i j with
              | none => rfl
              | some x =>
                simp only [Option.map_some]
                rw [had _ x]
                have := hc1 k i j x hi hg
                unfold mTg at this
                rw [hk] at this
                simp only [] at this
                rw [if_pos hci] at this
                exact this
            · rw [if_neg hj, if_neg hj]
      · rw [if_neg hci] at h ⊢
        obtain ⟨r, h1, h2, h3⟩ := h
        refine ⟨r, h1, h2, ?_⟩
        rw [hadk]
        refine (h3.kept hq).to (fun f hf => ?_)
        refine (mFV_same hs (fun t ht => ?_) (fun t x ht hx => ?_)).symm
        · refine had t i (hc2 k i ci fs f t hi hk hci ?_)
          rw [List.getD_eq_getElem?_getD, List.getElem?_eq_getElem hf] at ht
          rw [List.getElem?_eq_getElem hf]
          simpa using ht
        · refine had t x ?_
          have := hc1 k i f x hi hx
          unfold mTg at this
          rw [hk] at this
          simp only [] at this
          rw [if_neg hci, ht, show (2 * t + 3 - 2) / 2 = t by omega] at this
          exact this
    | inr a =>
      obtain ⟨ty, ln, ek⟩ := a
      simp only [] at h ⊢
      by_cases h97 : k = 97
      · rw [if_pos h97] at h ⊢
        obtain ⟨L, h1, h2, h3, h4⟩ := h
        refine ⟨L, by rw [hs97 h97]; exact h1, h2, ?_, ?_⟩
        · rw [hadk]
          obtain ⟨scr, g1, g2, g3, g4, g5⟩ := h3
          exact ⟨scr, by rw [hq]; exact g1, State.isArrayOf_alike hvm g2, g3, g4, fun j hj => by have e := g5 j hj; simp only [(hs j).1]; exact e⟩
        · rw [hadk]; exact hA (Or.inr (Or.inr h97))
      · rw [if_neg h97] at h ⊢
        by_cases h95 : k = 95 ∨ k = 96
        · rw [if_pos h95] at h ⊢
          rw [hadk]
          obtain ⟨cell, g1, g2, g3, g4, g5, g6, g7⟩ := h
          exact ⟨cell, by rw [hq]; exact g1, State.isArrayOf_alike hvm g2, g3, g4, g5, fun j hj => by have e := g6 j hj; simp only [(hs j).1]; exact e, hA (by rcases h95 with h | h <;> simp [h])⟩
        · rw [if_neg h95] at h ⊢
          obtain ⟨cA, g1, g2, g3⟩ := h
          refine ⟨cA, arrOfT_moved hvm g1, g2.moved hvm, ?_⟩
          rw [hadk, hq, g3]
          congr 2
          funext j
          refine (mAV_same hs (fun x hx => had ek x ?_)).symm
          have := hc1 k i j x hi hx
          unfold mTg at this
          rw [hk] at this
          exact this
theorem mAt_nA {U : State} {D : va_G} {A : Nat → Prop} {eb : Nat} {ad : Nat → Nat → Nat} {σ : MSto} {k i : Nat} {H : Heap} (h : mAt U D A eb ad σ k i H) (hk : k = 95 ∨ k = 96 ∨ k = 97) : ¬ A (ad k i) := by
  rcases hk with rfl | rfl | rfl
  · have h1 : va_T .int (ad 95 i) 7 (fun j => .int (gI σ 95 i j)) A U H := h
    obtain ⟨cell, -, -, -, -, -, -, h7⟩ := h1
    exact h7
  · have h1 : va_T .int (ad 96 i) 5 (fun j => .int (gI σ 96 i j)) A U H := h
    obtain ⟨cell, -, -, -, -, -, -, h7⟩ := h1
    exact h7
  · have h1 : ∃ L : Nat, gI σ 97 1 0 = nI L ∧ L < 2 ^ 31 ∧ va_X (ad 97 i) L (fun j => gI σ 97 i j) U H ∧ ¬ A (ad 97 i) := h
    obtain ⟨L, -, -, -, h4⟩ := h1
    exact h4
theorem mAt_lt {U : State} {D : va_G} {A : Nat → Prop} {eb : Nat} {ad : Nat → Nat → Nat} {σ : MSto} {k i : Nat} {H : Heap} (h : mAt U D A eb ad σ k i H) : k < 114 := by
  by_cases hk : k < 114
  · exact hk
  · unfold mAt at h
    rw [KT_hi (by omega)] at h
    exact h.elim
theorem mWd_upd {U : State} {D : va_G} {A : Nat → Prop} {eb tL tB : Nat} {ad0 : Nat → Nat → Nat} {σ0 : MSto} {ad : Nat → Nat → Nat} {σ σ' : MSto} {H H' : Heap} (h : mWd U D A eb tL tB ad0 σ0 ad σ H) {k i : Nat} (hk : k ≠ 95 ∧ k ≠ 96 ∧ k ≠ 97) (hi : i < gN σ k) (hnl : ¬ mList k)
    (hs : ∀ k' i', ¬ (k' = k ∧ i' = i) → mSame σ σ' k' i') (hN : ∀ k, gN σ' k = gN σ k) (hcl : mClosed σ') (hz : H'.size = H.size) (oq : ∀ q : Nat, q ≠ ad k i → H'[q]? = H[q]?) (hat : mAt U D A eb ad σ' k i H') : mWd U D A eb tL tB ad0 σ0 ad σ' H' := by
  obtain ⟨h1, h2, h3, h4, h5, h6, h7, h8, h9, h10⟩ := h
  have hk114 := mAt_lt hat
  have hown : mOwn σ k i := Or.inl ⟨by omega, hk.1, hk.2.1, hk.2.2, hi⟩
  have ho : ∀ a b, mOwn σ' a b ↔ mOwn σ a b := by
    intro a b
    unfold mOwn
    constructor
    · rintro (⟨q1, q2, q3, q4, q5⟩ | ⟨l, q1, q2, q3, q4, q5⟩)
      · exact Or.inl ⟨q1, q2, q3, q4, by rw [← hN]; exact q5⟩
      · refine Or.inr ⟨l, q1, q2, q3, by rw [← hN]; exact q4, ?_⟩
        rw [← (hs l 0 (fun e => hnl (e.1 ▸ q1)) 2).1]
        exact q5
    · rintro (⟨q1, q2, q3, q4, q5⟩ | ⟨l, q1, q2, q3, q4, q5⟩)
      · exact Or.inl ⟨q1, q2, q3, q4, by rw [hN]; exact q5⟩
      · refine Or.inr ⟨l, q1, q2, q3, by rw [hN]; exact q4, ?_⟩
        rw [(hs l 0 (fun e => hnl (e.1 ▸ q1)) 2).1]
        exact q5
  refine ⟨fun k' i' hi' => ?_, fun a b c d q1 q2 q3 => h2 a b c d ((ho a b).mp q1) ((ho c d).mp q2) q3, fun a b q => by rw [hz]; exact h3 a b ((ho a b).mp q), hcl, h5, h6, h7, by rw [hN]; exact h8, by rw [hN]; exact h9, ⟨fun a b hb => ⟨by rw [hN]; exact (h10.1 a b hb).1, (h10.1 a b hb).2⟩, by rw [hN]; exact h10.2⟩⟩
  rw [hN] at hi'
  by_cases he : k' = k ∧ i' = i
  · obtain ⟨rfl, rfl⟩ := he
    exact hat
  · have hb := h1 k' i' hi'
    have hk' := mAt_lt hb
    refine mAt_congr (Vm.Alike.refl _) h4 hi' (hs k' i' he) (fun _ => (hs 97 1 (fun e => hk.2.2 e.1.symm) 0).1) (fun _ _ _ => rfl) (fun _ => rfl) ?_ (fun hl hne => ?_) (fun h => mAt_nA hb h) hb
    · refine oq _ (fun e => ?_)
      by_cases hsp : k' = 95 ∨ k' = 96 ∨ k' = 97
      · exact mAt_nA hb hsp (e ▸ (h3 k i hown).1)
      · have hown' : mOwn σ k' i' := Or.inl ⟨by omega, fun e => hsp (Or.inl e), fun e => hsp (Or.inr (Or.inl e)), fun e => hsp (Or.inr (Or.inr e)), hi'⟩
        exact he (h2 _ _ _ _ hown' hown e)
    · refine oq _ (fun e => ?_)
      have hl1 := h4.2.2 k' hl
      have hi0 : i' = 0 := by omega
      subst hi0
      have hown' : mOwn σ (1000 + k') 0 := Or.inr ⟨k', hl, rfl, rfl, hi', hne⟩
      have := (h2 _ _ _ _ hown' hown e).1
      omega
/-- a new cell -/
theorem mWd_new {U : State} {D : va_G} {A : Nat → Prop} {eb tL tB : Nat} {ad0 : Nat → Nat → Nat} {σ0 : MSto} {ad : Nat → Nat → Nat} {σ : MSto} {H H' : Heap} (h : mWd U D A eb tL tB ad0 σ0 ad σ H) {k : Nat} (hk : k ≠ 95 ∧ k ≠ 96 ∧ k ≠ 97) (hnl : ¬ mList k)
    (hfs : ∀ (ci : Nat) (fs : List Nat) (f t : Nat), KT k = some (.inl (ci, fs)) → ci ≠ 0 → fs[f]? = some (2 * t + 2) → False) (hA : A H.size) (hz : H'.size = H.size + 1) (oq : ∀ q : Nat, q < H.size → H'[q]? = H[q]?)
    (hat : mAt U D A eb (fun a b => if a = k ∧ b = gN σ k then H.size else ad a b) (sNew σ k) k (gN σ k) H') : mWd U D A eb tL tB ad0 σ0 (fun a b => if a = k ∧ b = gN σ k then H.size else ad a b) (sNew σ k) H' := by
  obtain ⟨h1, h2, h3, h4, h5, h6, h7, h8, h9, h10⟩ := h
  have hk114 := mAt_lt hat
  have hN : ∀ a, gN σ a ≤ gN (sNew σ k) a := by
    intro a
    rw [gN_sNew]
    by_cases e : a = k
    · rw [if_pos e, e]; omega
    · rw [if_neg e]; exact Nat.le_refl _
  have had : ∀ a b, b < gN σ a → (fun a b => if a = k ∧ b = gN σ k then H.size else ad a b) a b = ad a b := by
    intro a b hb
    simp only []
    rw [if_neg]
    rintro ⟨rfl, rfl⟩
    omega
  have hs : ∀ a b, ¬ (a = k ∧ b = gN σ k) → mSame σ (sNew σ k) a b := by
    intro a b hne j
    rw [gI_sNew, gJ_sNew, gR_sNew, if_neg hne, if_neg hne, if_neg hne]
    exact ⟨rfl, rfl, rfl⟩
  have ho : ∀ a b, mOwn (sNew σ k) a b → (a = k ∧ b = gN σ k) ∨ (mOwn σ a b ∧ ¬ (a = k ∧ b = gN σ k)) := by
    intro a b hab
    by_cases he : a = k ∧ b = gN σ k
    · exact Or.inl he
    · refine Or.inr ⟨?_, he⟩
      rcases hab with ⟨q1, q2, q3, q4, q5⟩ | ⟨l, q1, q2, q3, q4, q5⟩
      · refine Or.inl ⟨q1, q2, q3, q4, ?_⟩
        rw [gN_sNew] at q5
        by_cases e : a = k
        · rw [if_pos e] at q5
          subst e
          have : b ≠ gN σ a := fun e => he ⟨rfl, e⟩
          omega
        · rw [if_neg e] at q5
          exact q5
      · have hlk : l ≠ k := fun e => hnl (e ▸ q1)
        rw [gN_sNew, if_neg hlk] at q4
        rw [gI_sNew, if_neg (fun e => hlk e.1)] at q5
        exact Or.inr ⟨l, q1, q2, q3, q4, q5⟩
  have hsz : ∀ a b, mOwn σ a b → (fun a b => if a = k ∧ b = gN σ k then H.size else ad a b) a b = ad a b := by
    intro a b hab
    simp only []
    rw [if_neg]
    rintro ⟨rfl, rfl⟩
    rcases hab with ⟨q1, q2, q3, q4, q5⟩ | ⟨l, q1, q2, q3, q4, q5⟩
    · omega
    · omega
  have hclosed : mClosed (sNew σ k) := by
    refine ⟨fun a b j x hb hx => ?_, fun a b ci fs f t hb hkt hci hf => ?_, fun a ha => ?_⟩
    · rw [gR_sNew] at hx
      by_cases he : a = k ∧ b = gN σ k
      · rw [if_pos he] at hx; cases hx
      · rw [if_neg he] at hx
        refine Nat.lt_of_lt_of_le (h4.1 a b j x ?_ hx) (hN _)
        rw [gN_sNew] at hb
        by_cases e : a = k
        · rw [if_pos e] at hb
          subst e
          have : b ≠ gN σ a := fun e => he ⟨rfl, e⟩
          omega
        · rw [if_neg e] at hb; exact hb
    · by_cases e : a = k
      · subst e
        exact (hfs ci fs f t hkt hci hf).elim
      · rw [gN_sNew, if_neg e] at hb
        exact Nat.lt_of_lt_of_le (h4.2.1 a b ci fs f t hb hkt hci hf) (hN _)
    · rw [gN_sNew, if_neg (fun e : a = k => hnl (e ▸ ha))]
      exact h4.2.2 a ha
  refine ⟨fun a b hb => ?_, fun a b c d q1 q2 q3 => ?_, fun a b q => ?_, hclosed, h5, ?_, ?_, ?_, ?_, ?_⟩
  · by_cases he : a = k ∧ b = gN σ k
    · obtain ⟨rfl, rfl⟩ := he
      exact hat
    · have hb' : b < gN σ a := by
        rw [gN_sNew] at hb
        by_cases e : a = k
        · rw [if_pos e] at hb
          subst e
          have : b ≠ gN σ a := fun e => he ⟨rfl, e⟩
          omega
        · rw [if_neg e] at hb; exact hb
      have hb2 := h1 a b hb'
      have ha := mAt_lt hb2
      refine mAt_congr (Vm.Alike.refl _) h4 hb' (hs a b he) (fun _ => (hs 97 1 (fun e => hk.2.2 e.1.symm) 0).1) had (fun hl => ?_) ?_ (fun hl hne => ?_) (fun h => mAt_nA hb2 h) hb2
      · exact if_neg (fun e => by have := e.1; omega)
      · by_cases hsp : a = 95 ∨ a = 96 ∨ a = 97
        · by_cases hlt : ad a b < H.size
          · exact oq _ hlt
          · exfalso
            rcases hsp with rfl | rfl | rfl
            · obtain ⟨cell, g1, -⟩ := (show va_T .int (ad 95 b) 7 (fun j => .int (gI σ 95 b j)) A U H from hb2)
              exact hlt (Array.getElem?_eq_some_iff.mp g1).1
            · obtain ⟨cell, g1, -⟩ := (show va_T .int (ad 96 b) 5 (fun j => .int (gI σ 96 b j)) A U H from hb2)
              exact hlt (Array.getElem?_eq_some_iff.mp g1).1
            · obtain ⟨L, -, -, ⟨scr, g1, -⟩, -⟩ := (show ∃ L : Nat, gI σ 97 1 0 = nI L ∧ L < 2 ^ 31 ∧ va_X (ad 97 b) L (fun j => gI σ 97 b j) U H ∧ ¬ A (ad 97 b) from hb2)
              exact hlt (Array.getElem?_eq_some_iff.mp g1).1
        · exact oq _ (h3 a b (Or.inl ⟨by omega, fun e => hsp (Or.inl e), fun e => hsp (Or.inr (Or.inl e)), fun e => hsp (Or.inr (Or.inr e)), hb'⟩)).2
      · have hl1 := h4.2.2 a hl
        have hi0 : b = 0 := by omega
        subst hi0
        exact oq _ (h3 (1000 + a) 0 (Or.inr ⟨a, hl, rfl, rfl, hb', hne⟩)).2
  · rcases ho a b q1 with ⟨rfl, rfl⟩ | ⟨o1, n1⟩ <;> rcases ho c d q2 with ⟨rfl, rfl⟩ | ⟨o2, n2⟩
    · exact ⟨rfl, rfl⟩
    · rw [hsz c d o2] at q3
      simp only [and_self, if_true] at q3
      have := (h3 c d o2).2
      omega
    · rw [hsz a b o1] at q3
      simp only [and_self, if_true] at q3
      have := (h3 a b o1).2
      omega
    · rw [hsz a b o1, hsz c d o2] at q3
      exact h2 a b c d o1 o2 q3
  · rcases ho a b q with ⟨rfl, rfl⟩ | ⟨o1, n1⟩
    · simp only [and_self, if_true]
      exact ⟨hA, by omega⟩
    · rw [hsz a b o1]
      exact ⟨(h3 a b o1).1, by have := (h3 a b o1).2; omega⟩
  · simp only []
    rw [if_neg (fun e => hk.1 e.1.symm)]; exact h6
  · simp only []
    rw [if_neg (fun e => hk.2.1 e.1.symm)]; exact h7
  · rw [gN_sNew, if_neg (fun e => hk.1 e.symm)]; exact h8
  · rw [gN_sNew, if_neg (fun e => hk.2.1 e.symm)]; exact h9
  · exact ⟨fun a b hb => ⟨Nat.lt_of_lt_of_le (h10.1 a b hb).1 (hN a), (had a b (h10.1 a b hb).1).trans (h10.1 a b hb).2⟩, by rw [gN_sNew, if_neg (fun e => hk.2.2 e.symm)]; exact h10.2⟩
