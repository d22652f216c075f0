/-! a method's contract out of a run of the small machine -/
def mL0 : List MV → List (Option MV)
  | [] => []
  | v :: r => (bif Nat.beq (mcat v) 2 then [some v, none] else [some v]) ++ mL0 r
def mLoc (as : List MV) (nL : Nat) : List (Option MV) := mL0 as ++ List.replicate (nL - (mL0 as).length) none
theorem mL0_mem {ad : Nat → Nat → Nat} : ∀ (as : List MV) (b i : Nat) (v : MV), (mL0 as)[i]? = some (some v) → (b + i, mVal ad v) ∈ lv_args b (as.map (mVal ad)) ∧ v ∈ as
  | [], b, i, v, h => by cases h
  | w :: r, b, i, v, h => by
    unfold mL0 at h
    rw [List.map_cons]
    unfold lv_args
    rw [mVal_cat]
    cases hc : Nat.beq (mcat w) 2 with
    | true =>
      rw [hc] at h
      simp only [cond_true, List.cons_append, List.nil_append] at h
      rw [if_pos (Nat.eq_of_beq_eq_true hc)]
      match i, h with
      | 0, h => cases h; exact ⟨List.mem_cons_self, List.mem_cons_self⟩
      | 1, h => cases h
      | j + 2, h =>
        have h' : (mL0 r)[j]? = some (some v) := h
        obtain ⟨g1, g2⟩ := mL0_mem (ad := ad) r (b + 2) j v h'
        exact ⟨List.mem_cons_of_mem _ (by rw [show b + (j + 2) = b + 2 + j by omega]; exact g1), List.mem_cons_of_mem _ g2⟩
    | false =>
      rw [hc] at h
      simp only [cond_false, List.cons_append, List.nil_append] at h
      rw [if_neg (fun e => by rw [e] at hc; cases hc)]
      match i, h with
      | 0, h => cases h; exact ⟨List.mem_cons_self, List.mem_cons_self⟩
      | j + 1, h =>
        have h' : (mL0 r)[j]? = some (some v) := h
        obtain ⟨g1, g2⟩ := mL0_mem (ad := ad) r (b + 1) j v h'
        exact ⟨List.mem_cons_of_mem _ (by rw [show b + (j + 1) = b + 1 + j by omega]; exact g1), List.mem_cons_of_mem _ g2⟩
theorem mL0_len (ad : Nat → Nat → Nat) : ∀ as : List MV, (lg_sl (as.map (mVal ad))).length = (mL0 as).length
  | [] => rfl
  | w :: r => by
    have ih := mL0_len ad r
    have e1 : lg_sl ((w :: r).map (mVal ad)) = (if (mVal ad w).category = 2 then [.val (mVal ad w), .second] else [.val (mVal ad w)]) ++ lg_sl (r.map (mVal ad)) := rfl
    have e2 : mL0 (w :: r) = (bif Nat.beq (mcat w) 2 then [some w, none] else [some w]) ++ mL0 r := rfl
    rw [e1, e2, List.length_append, List.length_append, ih, mVal_cat]
    cases hc : Nat.beq (mcat w) 2 with
    | true => rw [if_pos (Nat.eq_of_beq_eq_true hc)]; rfl
    | false => rw [if_neg (fun e => by rw [e] at hc; cases hc)]; rfl
theorem mLoc_get {as : List MV} {nL i : Nat} {v : MV} (h : (mLoc as nL)[i]? = some (some v)) : (mL0 as)[i]? = some (some v) := by
  unfold mLoc at h
  by_cases hi : i < (mL0 as).length
  · rw [List.getElem?_append_left hi] at h
    exact h
  · rw [List.getElem?_append_right (by omega), List.getElem?_replicate] at h
    by_cases h2 : i - (mL0 as).length < nL - (mL0 as).length
    · rw [if_pos h2] at h; cases h
    · rw [if_neg h2] at h; cases h
theorem mLs_entry {ad : Nat → Nat → Nat} {as : List MV} {nL : Nat} (h : (mL0 as).length ≤ nL) : mLs ad nL (mLoc as nL) ((lg_sl (as.map (mVal ad)) ++ List.replicate (nL - (lg_sl (as.map (mVal ad))).length) Slot.unset).toArray) := by
  have h1 := lv_entry (as.map (mVal ad)) (n := nL) (by rw [mL0_len]; exact h)
  refine ⟨h1.1, h1.2.1, ?_, fun i v hi => ?_⟩
  · unfold mLoc
    rw [List.length_append, List.length_replicate]
    omega
  · have := (mL0_mem (ad := ad) as 0 i v (mLoc_get hi)).1
    rw [Nat.zero_add] at this
    exact h1.2.2 _ this
/-- how a method ends: the instruction at its end, for what it returns -/
def mRet (P : MP) (pcF : Nat) (ret : Option FieldType) (rv : Option MV) : Prop := match ret, rv with
  | none, none => ∃ nx tg, pCode P pcF = some (.return_, nx, tg)
  | some .long, some (.inr (.inl _)) => ∃ nx tg, pCode P pcF = some (.lreturn, nx, tg)
  | some ty, some (.inl v) => (∃ nx tg, pCode P pcF = some (.ireturn, nx, tg)) ∧ narrow ty (.int v) = .int v
  | _, _ => False
theorem mCtr_of {l : Launch} {en : MEnt} {P : MP} {own : String} (hLay : mLay) (hown : (eY en).cls = own) (hpl : plainFor (eY en) = true) (hroom : pRoom P = en.2.1) (hP : mPOK l own en.2.2.2.2.1 P) (hini : pIni P = true → (eY en).name = "<init>")
    (hex : ∀ (as : List MV) (σ : MSto) (pr : Option Prop) (rv : Option MV) (σ' : MSto), en.2.2.1 as σ = (pr, rv, σ') → (∀ q, pr = some q → q) → (∀ v ∈ as, mLive σ v) → (mL0 as).length ≤ en.2.2.2.2.2.1 ∧ (∀ v, rv = some v → mLive σ' v) ∧ ∃ (n pcF c1 s1 : Nat), mexe KT P n (0, mLoc as en.2.2.2.2.2.1, [], σ, 0, 0) = some (pcF, [], rv.toList, σ', c1, s1) ∧ mRet P pcF en.2.2.2.2.2.2 rv ∧ c1 ≤ en.2.1.2.2.1 ∧ s1 ≤ en.2.1.2.2.2) : mCtr l en := by
  intro D eb tL tB ad sz as σ pr rv σ' hF hpr hlv
  obtain ⟨hlen, hrl, n, pcF, c1, s1, hexe, hret, hc1, hs1⟩ := hex as σ pr rv σ' hF hpr hlv
  refine va_MetF (cc := en.2.2.2.2.1) (maxL := en.2.2.2.2.2.1) (ret := en.2.2.2.2.2.2) hpl rfl ?_
  intro p e s m args below meth c s₁ B hml hv
  obtain ⟨rfl, hsz, hT, hK, hSt, hW⟩ := hv
  have hx := B.exec
  have hb := B.bytes
  have hr := B.returns
  have hlocks := B.notSynchronized
  have hownc : s.vm.findClass own = some m.cls := by rw [← hown]; exact findClass_of_methodNamed B.named
  have hA : ∀ q, s.heap.size ≤ q → mA σ ad sz q := fun q hq => Or.inr (by rw [← hsz]; exact hq)
  have hin : pIni P = true → meth.name = "<init>" := fun h => (name_of_methodNamed B.named B.method).1.trans (hini h)
  rw [lg_entry_eq]
  have X : mCx p s m meth c en.2.2.2.2.1 en.2.2.2.2.2.1 own D (mA σ ad sz) eb tL tB P := ⟨hx, hb, hml, hownc, hT, hK, hSt, hA, hin⟩
  have hRm : mRoomOK (headSpec [eCode en] (eRm en)).room P 0 0 := by
    have hroom' : P.2.2.2.2.2.2.2.2.2.1 = en.2.1 := hroom
    show 0 + P.2.2.2.2.2.2.2.2.2.1.2.2.1 ≤ _ ∧ 0 + P.2.2.2.2.2.2.2.2.2.1.2.2.2 ≤ _ ∧ P.2.2.2.2.2.2.2.2.2.1.1 ≤ _ ∧ P.2.2.2.2.2.2.2.2.2.1.2.1 ≤ _
    rw [hroom', Nat.zero_add, Nat.zero_add]
    exact ⟨Nat.le_refl _, Nat.le_refl _, Nat.le_refl _, Nat.le_refl _⟩
  have hfin : mWP p l e (headSpec [eCode en] (eRm en)).room s m (as.map (mVal ad)).toArray below meth c (MQ below (mQc D (mA σ ad sz) eb tL tB ad σ rv σ') (as.map (mVal ad)).toArray s en.2.1.2.2.1 en.2.1.2.2.2 (mA σ ad sz)) en.2.2.2.2.2.1 D (mA σ ad sz) eb tL tB ad σ 0 0 (pcF, [], rv.toList, σ', c1, s1) := by
    intro ad' H locs ls hW' hS' hv' hL'
    have hpost : ∀ (o : Option Value), o = rv.map (mVal ad') → ∀ t : State, t.heap = H → s.WarmedH t.vm → mQc D (mA σ ad sz) eb tL tB ad σ rv σ' (as.map (mVal ad)).toArray s (.returned o) t := by
      intro o ho t ht hWm
      subst ho
      refine ⟨⟨ad', rfl, hW'.2.2.2.2.2.2.2.2.2, hrl, ?_⟩, hS'.F ht⟩
      rw [ht]
      exact mWd_move hWm.alike hW' (fun k i ho => (hW'.2.2.1 k i ho).1) (fun k i hk hi => mAt_nA (hW'.1 k i hi) hk) hW'.2.2.2.2.1 hW'.2.2.2.2.2.2.2.2.2
    have hok : ∀ i nx tg, pCode P pcF = some (i, nx, tg) → mlen i = 1 → (∀ d lo hi o, i ≠ .tableswitch d lo hi o) → (∀ d o, i ≠ .lookupswitch d o) → decode en.2.2.2.2.1 pcF = .ok (i, 1) := by
      intro i nx tg hi hl h1 h2
      have := hP.1 pcF i nx tg hi
      rw [← hl]
      cases i <;> first
        | exact absurd rfl (h1 _ _ _ _)
        | exact absurd rfl (h2 _ _)
        | exact of_decide_eq_true (and3 this).1
    show W p l e (headSpec [eCode en] (eRm en)).room s m (as.map (mVal ad)).toArray below meth c H locs (0 + c1) (0 + s1) _ (F0 m pcF ls (rv.toList.map (mVal ad')))
    refine W.widen (k := en.2.1.2.2.1) (n := en.2.1.2.2.2) (by omega) (by omega) ?_
    generalize hrt : en.2.2.2.2.2.2 = rt at hret hr
    rcases rv with _ | ⟨v | v | v⟩
    · cases rt with
      | none =>
        obtain ⟨nx, tg, hi⟩ := hret
        exact W.vret hx hb hr (hpost _ rfl) hS'.2.2 (hok _ nx tg hi rfl (by intros; simp) (by intros; simp))
      | some ty => cases ty <;> exact hret.elim
    · cases rt with
      | none => exact hret.elim
      | some ty =>
        have hret' : (∃ nx tg, pCode P pcF = some (.ireturn, nx, tg)) ∧ narrow ty (.int v) = .int v := by cases ty <;> exact hret
        obtain ⟨⟨nx, tg, hi⟩, hn⟩ := hret'
        exact W.zret hx hb hr hn (hpost _ rfl) hS'.2.2 (hok _ nx tg hi rfl (by intros; simp) (by intros; simp))
    · cases rt with
      | none => exact hret.elim
      | some ty =>
        cases ty <;> first
          | exact hret.elim
          | (obtain ⟨nx, tg, hi⟩ := hret
             exact W.lret hx hb hr (hpost _ rfl) hS'.2.2 (hok _ nx tg hi rfl (by intros; simp) (by intros; simp)))
    · cases rt with
      | none => exact hret.elim
      | some ty => cases ty <;> exact hret.elim
  have := s_exe X hLay hRm hP hfin n _ hexe ad s.heap [] _ hW va_S.rf ⟨(fun v hv => by cases hv), fun i v hi => hlv v (mL0_mem (ad := ad) as 0 i v (mLoc_get hi)).2⟩ (mLs_entry hlen)
  exact this
