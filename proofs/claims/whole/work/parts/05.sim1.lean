/-! words of the tables, at any state of the run -/
def mStab : Cond → Bool
  | .fieldLinkNest .. => true
  | .methodLinkNest .. => true
  | .castable .. => true
  | .declares .. => true
  | .privateMethod .. => true
  | .arrayClass .. => true
  | .arrayOver (.object _) => true
  | .arrayOver _ => false
  | w => w.onTables && w.keeps
def mTab (U : State) : Prop := ∀ w ∈ lw_tbl, mStab w = true → w.before #[] U = true
theorem mTab.use {w : Cond} {args : Array Value} {U : State} (h : mTab U) (hw : w ∈ lw_tbl) (hs : mStab w = true) : w.before args U = true := by
  have h1 := h w hw hs
  cases w <;> first
    | exact h1
    | (rename_i t; cases t <;> first | exact h1 | cases hs)
    | (simp only [mStab, Bool.and_eq_true] at hs; exact va_tabs hs.1 rfl h1)
    | exact va_tabs rfl rfl h1
theorem mTab.warm {s U : State} (h : mTab s) (hW : s.WarmedH U.vm) : mTab U := by
  intro w hw hs
  have h1 := h w hw hs
  cases w <;> first
    | (simp only [mStab, Bool.and_eq_true] at hs; exact word_at hW (Or.inl (by simp only [Bool.and_eq_true]; exact hs)) h1)
    | exact word_at hW (Or.inr ⟨_, rfl⟩) h1
    | exact va_Nw.warmF hW h1
    | exact va_Nw.warmM hW h1
    | exact va_tabs rfl (rfl : (s.setVm U.vm).vm = U.vm) (Cond.before_shiftedFace (State.Shifted.of_warmed hW) _ rfl h1)
    | (rename_i t; cases t <;> first | exact va_AO.moved hW.alike h1 | cases hs)
/-- what the start gives beside: the Class object of Object[], Throwable's statics, the texts that are thrown -/
def mExc (U : State) (A : Nat → Prop) (H : Heap) : Prop :=
  (∃ mi : Nat, va_Mi "[Ljava/lang/Object;" mi U) ∧ vx_Zq Bundle.tN "UNASSIGNED_STACK" Bundle.steD A U H ∧ vx_Zq Bundle.tN "SUPPRESSED_SENTINEL" Bundle.listD A U H ∧
  (∃ q : Nat, vk_R "ClothWithMan" 178 "no such piece" q U) ∧ (∃ q : Nat, vk_R "ClothWithMan" 208 "a piece not counted" q U) ∧ (∃ q : Nat, vk_R "ClothWithMan" 313 "no such story, piece or year" q U) ∧ (∃ q : Nat, vk_R "ClothWithMan" 428 "no such number in the row" q U)
theorem mExc.moved {A : Nat → Prop} {u U : State} {H : Heap} (hW : u.WarmedH U.vm) (h : mExc u A H) : mExc U A H := by
  obtain ⟨⟨mi, h1⟩, h2, h3, ⟨q4, h4⟩, ⟨q5, h5⟩, ⟨q6, h6⟩, ⟨q7, h7⟩⟩ := h
  exact ⟨⟨mi, h1.moved hW.alike⟩, vx_Zq.moved hW.alike h2, vx_Zq.moved hW.alike h3, ⟨q4, h4.warm hW⟩, ⟨q5, h5.warm hW⟩, ⟨q6, h6.warm hW⟩, ⟨q7, h7.warm hW⟩⟩
theorem mExc.kept {A : Nat → Prop} {U : State} {H H1 : Heap} (h : mExc U A H) (hq : ∀ a : Nat, a < H.size → ¬ A a → H1[a]? = H[a]?) : mExc U A H1 := ⟨h.1, h.2.1.kept hq, h.2.2.1.kept hq, h.2.2.2⟩
theorem mExc.narrow {A B : Nat → Prop} {U : State} {H : Heap} (h : mExc U A H) (hAB : ∀ q, B q → A q) : mExc U B H := ⟨h.1, h.2.1.narrow hAB, h.2.2.1.narrow hAB, h.2.2.2⟩
def mStat (U : State) (A : Nat → Prop) (eb tL tB : Nat) (H : Heap) : Prop :=
  va_Z "java/util/ArrayList" "DEFAULTCAPACITY_EMPTY_ELEMENTDATA" "[Ljava/lang/Object;" (.ref eb) A U H ∧ va_T (.object "java/lang/Object") eb 0 (fun _ => .null) A U H ∧
  va_Z "ClothWithMan" "LIKENESSES" "[I" (.ref tL) A U H ∧ va_Z "ClothWithMan" "APART_BOUNDS" "[I" (.ref tB) A U H ∧ mExc U A H
theorem mStat.moved {A : Nat → Prop} {u U : State} {eb tL tB : Nat} {H : Heap} (hW : u.WarmedH U.vm) (h : mStat u A eb tL tB H) : mStat U A eb tL tB H := ⟨h.1.moved hW.alike, h.2.1.moved hW.alike, h.2.2.1.moved hW.alike, h.2.2.2.1.moved hW.alike, h.2.2.2.2.moved hW⟩
theorem mStat.kept {A : Nat → Prop} {U : State} {eb tL tB : Nat} {H H1 : Heap} (h : mStat U A eb tL tB H) (hq : ∀ a : Nat, a < H.size → ¬ A a → H1[a]? = H[a]?) : mStat U A eb tL tB H1 := ⟨h.1.kept hq, h.2.1.kept hq, h.2.2.1.kept hq, h.2.2.2.1.kept hq, h.2.2.2.2.kept hq⟩
theorem mStat.narrow {A B : Nat → Prop} {U : State} {eb tL tB : Nat} {H : Heap} (h : mStat U A eb tL tB H) (hAB : ∀ q, B q → A q) : mStat U B eb tL tB H := ⟨h.1.narrow hAB, h.2.1.narrow hAB, h.2.2.1.narrow hAB, h.2.2.2.1.narrow hAB, h.2.2.2.2.narrow hAB⟩
/-! the locals -/
def mLs (ad : Nat → Nat → Nat) (nL : Nat) (L : List (Option MV)) (ls : Array Slot) : Prop := ls.size = nL ∧ lv_wf ls ∧ L.length ≤ nL ∧ ∀ (i : Nat) (v : MV), L[i]? = some (some v) → ls[i]? = some (.val (mVal ad v))
/-- the listed locals, by their places -/
def mLl (ad : Nat → Nat → Nat) (L : List (Option MV)) : List (Nat × Value) := (List.range L.length).filterMap (fun i => match L[i]? with
  | some (some v) => some (i, mVal ad v)
  | _ => none)
theorem mLl_mem {ad : Nat → Nat → Nat} {L : List (Option MV)} {q : Nat × Value} : q ∈ mLl ad L ↔ ∃ v, L[q.1]? = some (some v) ∧ q.2 = mVal ad v := by
  unfold mLl
  rw [List.mem_filterMap]
  constructor
  · rintro ⟨i, -, hi⟩
    cases hL : L[i]? with
    | none => rw [hL] at hi; cases hi
    | some o =>
      cases o with
      | none => rw [hL] at hi; cases hi
      | some v =>
        rw [hL] at hi
        simp only [Option.some.injEq] at hi
        subst hi
        exact ⟨v, hL, rfl⟩
  · rintro ⟨v, h1, h2⟩
    refine ⟨q.1, List.mem_range.mpr (List.getElem?_eq_some_iff.mp h1).1, ?_⟩
    rw [h1]
    simp only [← h2]
theorem mLs.has {ad : Nat → Nat → Nat} {nL : Nat} {L : List (Option MV)} {ls : Array Slot} (h : mLs ad nL L ls) : lv_has ls nL (mLl ad L) := by
  refine ⟨h.1, h.2.1, fun q hq => ?_⟩
  obtain ⟨v, h1, h2⟩ := mLl_mem.mp hq
  rw [h2]
  exact h.2.2.2 q.1 v h1
theorem mld_at {ad : Nat → Nat → Nat} {nL n : Nat} {L : List (Option MV)} {ls : Array Slot} {v : MV} (h : mLs ad nL L ls) (hl : mld L n = some v) : ls[n]? = some (.val (mVal ad v)) := by
  refine h.2.2.2 n v ?_
  unfold mld at hl
  cases hL : L[n]? with
  | none => rw [hL] at hl; cases hl
  | some o => rw [hL] at hl; simp only [] at hl; rw [hl]
theorem mld_get {n : Nat} {L : List (Option MV)} {v : MV} (hl : mld L n = some v) : L[n]? = some (some v) := by
  unfold mld at hl
  cases hL : L[n]? with
  | none => rw [hL] at hl; cases hl
  | some o => rw [hL] at hl; simp only [] at hl; rw [hl]
theorem mVal_cat (ad : Nat → Nat → Nat) (v : MV) : (mVal ad v).category = mcat v := by
  rcases v with x | x | (_ | ⟨k, i⟩) <;> rfl
theorem mdrop_len (L : List (Option MV)) (n : Nat) : (mdrop L n).length = L.length := by
  unfold mdrop
  cases n with
  | zero => rfl
  | succ n =>
    simp only []
    cases L[n]? with
    | none => rfl
    | some v => simp only []; cases mIsJ v <;> simp
theorem mdrop_get {L : List (Option MV)} {n i : Nat} {v : MV} (h : (mdrop L n)[i]? = some (some v)) : L[i]? = some (some v) ∧ ¬ (i + 1 = n ∧ mcat v = 2) := by
  unfold mdrop at h
  cases n with
  | zero => exact ⟨h, fun e => by omega⟩
  | succ n =>
    simp only [] at h
    cases hL : L[n]? with
    | none =>
      rw [hL] at h
      exact ⟨h, fun e => by have : i = n := by omega
                            subst this; rw [hL] at h; cases h⟩
    | some w =>
      rw [hL] at h
      simp only [] at h
      cases hw : mIsJ w with
      | true =>
        rw [hw] at h
        simp only [cond_true] at h
        by_cases hi : i = n
        · subst hi
          rw [List.getElem?_set_self (List.getElem?_eq_some_iff.mp hL).1] at h
          cases h
        · rw [List.getElem?_set_ne (Ne.symm hi)] at h
          exact ⟨h, fun e => hi (by omega)⟩
      | false =>
        rw [hw] at h
        simp only [cond_false] at h
        refine ⟨h, fun e => ?_⟩
        have : i = n := by omega
        subst this
        rw [hL] at h
        cases h
        rcases v with x | x | x
        · exact absurd e.2 (by show ¬ (1 = 2); decide)
        · cases hw
        · exact absurd e.2 (by show ¬ (1 = 2); decide)
theorem mst1_len (L : List (Option MV)) (n : Nat) (v : MV) : (mst1 L n v).length = L.length := by unfold mst1; rw [List.length_set, mdrop_len]
theorem mst2_len (L : List (Option MV)) (n : Nat) (v : MV) : (mst2 L n v).length = L.length := by unfold mst2; rw [List.length_set, List.length_set, mdrop_len]
theorem mst1_get {L : List (Option MV)} {n i : Nat} {v w : MV} (hn : n < L.length) (h : (mst1 L n v)[i]? = some (some w)) : (i = n ∧ w = v) ∨ (i ≠ n ∧ L[i]? = some (some w) ∧ ¬ (i + 1 = n ∧ mcat w = 2)) := by
  unfold mst1 at h
  by_cases hi : i = n
  · subst hi
    rw [List.getElem?_set_self (by rw [mdrop_len]; exact hn)] at h
    exact Or.inl ⟨rfl, by cases h; rfl⟩
  · rw [List.getElem?_set_ne (Ne.symm hi)] at h
    obtain ⟨h1, h2⟩ := mdrop_get h
    exact Or.inr ⟨hi, h1, h2⟩
theorem mst2_get {L : List (Option MV)} {n i : Nat} {v w : MV} (hn : n + 1 < L.length) (h : (mst2 L n v)[i]? = some (some w)) : (i = n ∧ w = v) ∨ (i ≠ n ∧ i ≠ n + 1 ∧ L[i]? = some (some w) ∧ ¬ (i + 1 = n ∧ mcat w = 2)) := by
  unfold mst2 at h
  by_cases hi1 : i = n + 1
  · subst hi1
    rw [List.getElem?_set_self (by rw [List.length_set, mdrop_len]; exact hn)] at h
    cases h
  · rw [List.getElem?_set_ne (Ne.symm hi1)] at h
    by_cases hi : i = n
    · subst hi
      rw [List.getElem?_set_self (by rw [mdrop_len]; omega)] at h
      exact Or.inl ⟨rfl, by cases h; rfl⟩
    · rw [List.getElem?_set_ne (Ne.symm hi)] at h
      obtain ⟨h1, h2⟩ := mdrop_get h
      exact Or.inr ⟨hi, hi1, h1, h2⟩
theorem mLs_st1 {ad : Nat → Nat → Nat} {nL n : Nat} {L : List (Option MV)} {v : MV} {ls ls' : Array Slot} (hL : mLs ad nL L ls) (hn : n < L.length)
    (h : lv_has ls' nL ((n, mVal ad v) :: (mLl ad L).filter (fun q => !(q.1 == n) && !(q.1 + 1 == n && q.2.category == 2)))) : mLs ad nL (mst1 L n v) ls' := by
  refine ⟨h.1, h.2.1, by rw [mst1_len]; exact hL.2.2.1, fun i w hw => ?_⟩
  rcases mst1_get hn hw with ⟨rfl, rfl⟩ | ⟨h1, h2, h3⟩
  · exact h.2.2 _ List.mem_cons_self
  · refine h.2.2 (i, mVal ad w) (List.mem_cons_of_mem _ (List.mem_filter.mpr ⟨mLl_mem.mpr ⟨w, h2, rfl⟩, ?_⟩))
    rw [mVal_cat]
    simp only [Bool.and_eq_true, Bool.not_eq_true', beq_eq_false_iff_ne, Bool.and_eq_false_iff, ne_eq]
    refine ⟨h1, ?_⟩
    by_cases e : i + 1 = n
    · exact Or.inr (fun e2 => h3 ⟨e, e2⟩)
    · exact Or.inl e
theorem mLs_st2 {ad : Nat → Nat → Nat} {nL n : Nat} {L : List (Option MV)} {v : MV} {ls ls' : Array Slot} (hL : mLs ad nL L ls) (hn : n + 1 < L.length)
    (h : lv_has ls' nL ((n, mVal ad v) :: (mLl ad L).filter (fun q => !(q.1 == n) && (!(q.1 == n + 1) && !(q.1 + 1 == n && q.2.category == 2))))) : mLs ad nL (mst2 L n v) ls' := by
  refine ⟨h.1, h.2.1, by rw [mst2_len]; exact hL.2.2.1, fun i w hw => ?_⟩
  rcases mst2_get hn hw with ⟨rfl, rfl⟩ | ⟨h1, h1', h2, h3⟩
  · exact h.2.2 _ List.mem_cons_self
  · refine h.2.2 (i, mVal ad w) (List.mem_cons_of_mem _ (List.mem_filter.mpr ⟨mLl_mem.mpr ⟨w, h2, rfl⟩, ?_⟩))
    rw [mVal_cat]
    simp only [Bool.and_eq_true, Bool.not_eq_true', beq_eq_false_iff_ne, Bool.and_eq_false_iff, ne_eq]
    refine ⟨h1, h1', ?_⟩
    by_cases e : i + 1 = n
    · exact Or.inr (fun e2 => h3 ⟨e, e2⟩)
    · exact Or.inl e
