/-! contracts: what a callee asks, answers and does, over any heap that holds the store -/
def mA (σ : MSto) (ad : Nat → Nat → Nat) (sz : Nat) : Nat → Prop := fun q => (∃ k i, mOwn σ k i ∧ ad k i = q) ∨ sz ≤ q
def mGood (D : va_G) (A : Nat → Prop) (eb tL tB : Nat) (ad : Nat → Nat → Nat) (σ : MSto) (U : State) : Prop := mTab U ∧ va_K D mCl [] U ∧ mStat U A eb tL tB U.heap ∧ mWd U D A eb tL tB ad σ ad σ U.heap
def mQc (D : va_G) (A : Nat → Prop) (eb tL tB : Nat) (ad : Nat → Nat → Nat) (σ : MSto) (rv : Option MV) (σ' : MSto) : Array Value → State → Outcome → State → Prop := fun _ st oc t =>
  (∃ ad' : Nat → Nat → Nat, oc = .returned (rv.map (mVal ad')) ∧ mExt ad ad' σ σ' ∧ (∀ v, rv = some v → mLive σ' v) ∧ mWd t D A eb tL tB ad σ ad' σ' t.heap) ∧ va_F A st t
def mPc (D : va_G) (eb tL tB : Nat) (ad : Nat → Nat → Nat) (σ : MSto) (sz : Nat) (as : List MV) : Array Value → State → Prop := va_Pc (as.map (mVal ad)) (fun U => U.heap.size = sz ∧ mGood D (mA σ ad sz) eb tL tB ad σ U)
abbrev eY (e : MEnt) : MethodName := e.2.2.2.1
abbrev eCode (e : MEnt) : Cond := .code e.2.2.2.1 e.2.2.2.2.1 e.2.2.2.2.2.1 e.2.2.2.2.2.2
abbrev eRm (e : MEnt) : Room := { frames := e.2.1.1, cells := e.2.1.2.2.1, slots := e.2.1.2.2.2, locals := e.2.1.2.1 }
def mCtr (l : Launch) (e : MEnt) : Prop := ∀ (D : va_G) (eb tL tB : Nat) (ad : Nat → Nat → Nat) (sz : Nat) (as : List MV) (σ : MSto) (pr : Option Prop) (rv : Option MV) (σ' : MSto), e.2.2.1 as σ = (pr, rv, σ') → (∀ q, pr = some q → q) → (∀ v ∈ as, mLive σ v) →
  Met l (eY e) [eCode e] (eRm e) (mPc D eb tL tB ad σ sz as) (mQc D (mA σ ad sz) eb tL tB ad σ rv σ') e.2.1.2.2.1 e.2.1.2.2.2 (mA σ ad sz)
/-- the words that a call's entry of the pool needs -/
def mLink (own : String) (x : Nat) (e : MEnt) : Prop :=
  eCode e ∈ lw_tbl ∧ Cond.initialized (eY e).cls ∈ lw_tbl ∧ ((eY e).cls ≠ "java/lang/invoke/MethodHandle" ∧ (eY e).cls ≠ "java/lang/invoke/VarHandle") ∧ (parseMethodDescriptor (eY e).desc).map (fun d => d.parameters.length) = some e.1.2.1 ∧
  (Cond.methodLink own x (eY e) ∈ lw_tbl ∨ ∃ host, Cond.methodLinkNest own x (eY e) host ∈ lw_tbl) ∧
  (e.1.1 = 0 → Cond.static (eY e) ∈ lw_tbl) ∧ (e.1.1 = 1 → Cond.instanceMethod (eY e) ∈ lw_tbl ∧ Cond.selects (eY e).cls (eY e) (eY e) ∈ lw_tbl ∧ ∃ (T : u_T) (N : Nat), mCl[e.1.2.2]? = some ((eY e).cls, T, N)) ∧
  (e.1.1 = 2 → Cond.instanceMethod (eY e) ∈ lw_tbl ∧ (eY e).name = "<init>")
theorem mTab.calling {U : State} (h : mTab U) (g : JFrame) (mk : MethodId) (a : Array Value) : mTab (U.calling g mk a) := h.warm (State.WarmedH.refl U)
theorem mOwn_A {U : State} {D : va_G} {A : Nat → Prop} {eb tL tB : Nat} {ad0 : Nat → Nat → Nat} {σ0 : MSto} {ad : Nat → Nat → Nat} {σ : MSto} {H : Heap} {n0 : Nat} (h : mWd U D A eb tL tB ad0 σ0 ad σ H) (hA : ∀ q, n0 ≤ q → A q) (hn : n0 ≤ H.size) : ∀ q, mA σ ad H.size q → A q := by
  rintro q (⟨k, i, ho, rfl⟩ | hq)
  · exact (h.2.2.1 k i ho).1
  · exact hA q (Nat.le_trans hn hq)
theorem mWd_move {U U' : State} {D : va_G} {A A' : Nat → Prop} {eb tL tB : Nat} {ad0 ad1 : Nat → Nat → Nat} {σ0 σ1 : MSto} {ad : Nat → Nat → Nat} {σ : MSto} {H : Heap} (hvm : U.vm.Alike U'.vm) (h : mWd U D A eb tL tB ad0 σ0 ad σ H) (hown : ∀ k i, mOwn σ k i → A' (ad k i)) (hn : ∀ k i, (k = 95 ∨ k = 96 ∨ k = 97) → i < gN σ k → ¬ A' (ad k i)) (he : ¬ A' eb) (hx : mExt ad1 ad σ1 σ) : mWd U' D A' eb tL tB ad1 σ1 ad σ H := by
  obtain ⟨h1, h2, h3, h4, h5, h6, h7, h8, h9, h10⟩ := h
  refine ⟨fun k i hi => ?_, h2, fun k i ho => ⟨hown k i ho, (h3 k i ho).2⟩, h4, he, h6, h7, h8, h9, hx⟩
  exact mAt_congr hvm h4 hi (fun j => ⟨rfl, rfl, rfl⟩) (fun _ => rfl) (fun _ _ _ => rfl) (fun _ => rfl) rfl (fun _ _ => rfl) (fun hk => hn k i hk hi) (h1 k i hi)
/-- what a callee's start asks, out of what the caller stands in -/
theorem mGood_call {s U : State} {D : va_G} {A : Nat → Prop} {eb tL tB : Nat} {ad0 : Nat → Nat → Nat} {σ0 : MSto} {ad : Nat → Nat → Nat} {σ : MSto} {H : Heap} {locs : List Loc} (hT : mTab s) (hK : va_K D mCl [] s) (hSt : mStat s A eb tL tB s.heap) (hA : ∀ q, s.heap.size ≤ q → A q) (hW : mWd s D A eb tL tB ad0 σ0 ad σ H) (hS : va_S A s.heap H locs) (hU : U.heap = H) (hWm : s.WarmedH U.vm) : U.heap.size = H.size ∧ mGood D (mA σ ad H.size) eb tL tB ad σ U := by
  have hsub := mOwn_A hW hA hS.1
  refine ⟨by rw [hU], hT.warm hWm, va_K.moved hWm.alike hK, ?_, ?_⟩
  · rw [hU]
    exact ((hSt.kept (fun q h1 h2 => hS.2.1 q h1 h2)).moved hWm).narrow hsub
  · rw [hU]
    refine mWd_move hWm.alike hW (fun k i ho => Or.inl ⟨k, i, ho, rfl⟩) (fun k i hk hi => fun h => mAt_nA (hW.1 k i hi) hk (hsub _ h)) (fun h => hW.2.2.2.2.1 (hsub _ h)) (mExt.refl ad σ)
theorem mPc_blind {D : va_G} {eb tL tB : Nat} {ad : Nat → Nat → Nat} {σ : MSto} {sz : Nat} {as : List MV} : FrameBlind (mPc D eb tL tB ad σ sz as) := by
  intro a U g mk q
  obtain ⟨q1, q2, q3, q4, q5, q6⟩ := q
  exact ⟨q1, q2, q3.calling g mk a, va_K.moved (u := U) (U := U.calling g mk a) (Vm.Alike.refl U.vm) q4, q5.moved (U := U.calling g mk a) (State.WarmedH.refl U), mWd_move (U' := U.calling g mk a) (Vm.Alike.refl U.vm) q6 (fun k i ho => (q6.2.2.1 k i ho).1) (fun k i hk hi => mAt_nA (q6.1 k i hi) hk) q6.2.2.2.2.1 (mExt.refl ad σ)⟩
section SIM
variable {p : Program} {l : Launch} {e : Env} {R : Room} {s : State} {m : MethodId} {args : Array Value} {below : List Frame} {meth : Method} {c : Code} {Q : State → Prop}
variable {cc : ByteArray} {nL : Nat} {D : va_G} {A : Nat → Prop} {eb tL tB c0 s0 : Nat} {ad0 : Nat → Nat → Nat} {σ0 : MSto} {own : String}
/-- behind a call -/
theorem mCallW {H : Heap} {locs : List Loc} {cells slots mc ms pc : Nat} {ls : Array Slot} {st0 rest : List Value} {a : Array Value} {ad : Nat → Nat → Nat} {σ σ' : MSto} {rv : Option MV} (hA : ∀ q, s.heap.size ≤ q → A q) (hW : mWd s D A eb tL tB ad0 σ0 ad σ H) (hS : va_S A s.heap H locs)
    (hr : va_Run p l e R s m args below meth c H locs cells slots mc ms (F0 m pc ls st0) rest (mQc D (mA σ ad H.size) eb tL tB ad σ rv σ' a) (mA σ ad H.size))
    (kk : ∀ (ad' : Nat → Nat → Nat) (H1 : Heap) (locs1 : List Loc), mWd s D A eb tL tB ad0 σ0 ad' σ' H1 → va_S A s.heap H1 locs1 → mExt ad ad' σ σ' → (∀ v, rv = some v → mLive σ' v) → W p l e R s m args below meth c H1 locs1 (cells + mc) (slots + ms) Q (F0 m (pc + 3) ls ((rv.map (mVal ad')).toList ++ rest))) : W p l e R s m args below meth c H locs cells slots Q (F0 m pc ls st0) := by
  have hsub := mOwn_A hW hA hS.1
  intro T hT X
  obtain ⟨v, st₀, t, T', L, h0, X', hL, e1, e2, ⟨⟨ad', hv, hext, hlv, hw⟩, hz, hk⟩, st⟩ := hr T hT X
  cases hv
  rw [h0] at hz hk
  have hal : t.vm.Alike s.vm := by rw [← e2]; exact X'.warmed.alike.symm
  have hnA : ∀ k i, (k = 95 ∨ k = 96 ∨ k = 97) → i < gN σ' k → ¬ A (ad' k i) := by
    intro k i hk9 hi
    have hi0 : i < gN σ k := by
      rcases hk9 with rfl | rfl | rfl
      · rw [hw.2.2.2.2.2.2.2.1] at hi; rw [hW.2.2.2.2.2.2.2.1]; exact hi
      · rw [hw.2.2.2.2.2.2.2.2.1] at hi; rw [hW.2.2.2.2.2.2.2.2.1]; exact hi
      · rw [hext.2] at hi; exact hi
    rw [(hext.1 k i hi0).2]
    exact mAt_nA (hW.1 k i hi0) hk9
  have hw1 : mWd s D A eb tL tB ad0 σ0 ad' σ' T'.heap := by
    rw [e1]
    exact mWd_move hal hw (fun k i ho => hsub _ (hw.2.2.1 k i ho).1) hnA hW.2.2.2.2.1 (hW.2.2.2.2.2.2.2.2.2.trans hext)
  obtain ⟨t2, a1, b1⟩ := kk ad' T'.heap (locs ++ L) hw1
    ⟨Nat.le_trans hS.1 (by rw [e1]; exact hz), fun q h1 h2 => by rw [e1, hk q (Nat.lt_of_lt_of_le h1 hS.1) (fun z => h2 (hsub q z))]; exact hS.2.1 q h1 h2, fun q hq => by
      rcases List.mem_append.mp hq with h | h
      · exact hS.2.2 q h
      · exact hsub _ (hL q h)⟩ hext hlv T' rfl X'
  exact ⟨t2, st t2 a1, b1⟩
theorem mCall_inv {P : MP} {en : MEnt} {as rest : List MV} {pc2 : Nat} {L : List (Option MV)} {σ : MSto} {c1 s1 : Nat} {k : MK} {r : MST} (h : mCall P en as rest pc2 L σ c1 s1 k = some r) :
    (en.2.1.1 + 1 ≤ (pRoom P).1 ∧ 8 + (en.2.2.2.2.2.1 + 11) + en.2.1.2.1 ≤ (pRoom P).2.1 ∧ c1 + en.2.1.2.2.1 ≤ (pRoom P).2.2.1 ∧ s1 + en.2.1.2.2.2 ≤ (pRoom P).2.2.2 ∧ (rest.map mcat).sum ≤ 8) ∧
    ∃ (pr : Option Prop) (rv : Option MV) (σ' : MSto), en.2.2.1 as σ = (pr, rv, σ') ∧ (∀ q, pr = some q → q) ∧ k (pc2, L, rv.toList ++ rest, σ', c1 + en.2.1.2.2.1, s1 + en.2.1.2.2.2) = some r := by
  unfold mCall at h
  cases hc : (Nat.ble (en.2.1.1 + 1) (pRoom P).1 && (Nat.ble (8 + (en.2.2.2.2.2.1 + 11) + en.2.1.2.1) (pRoom P).2.1 && (Nat.ble (c1 + en.2.1.2.2.1) (pRoom P).2.2.1 && (Nat.ble (s1 + en.2.1.2.2.2) (pRoom P).2.2.2 && Nat.ble (rest.map mcat).sum 8)))) with
  | false => rw [hc] at h; cases h
  | true =>
    rw [hc] at h
    simp only [cond_true] at h
    rw [Bool.and_eq_true, Bool.and_eq_true, Bool.and_eq_true, Bool.and_eq_true] at hc
    obtain ⟨h1, h2, h3, h4, h5⟩ := hc
    refine ⟨⟨Nat.le_of_ble_eq_true h1, Nat.le_of_ble_eq_true h2, Nat.le_of_ble_eq_true h3, Nat.le_of_ble_eq_true h4, Nat.le_of_ble_eq_true h5⟩, ?_⟩
    generalize en.2.2.1 as σ = F at h ⊢
    obtain ⟨pr, rv, σ'⟩ := F
    refine ⟨pr, rv, σ', rfl, ?_⟩
    cases rv with
    | none =>
      simp only [] at h
      cases pr with
      | none => exact ⟨(fun q e => by cases e), h⟩
      | some p => exact ⟨(fun q e => by cases e; exact (mG_some h).1), (mG_some h).2⟩
    | some v =>
      simp only [] at h
      cases pr with
      | none => exact ⟨(fun q e => by cases e), h⟩
      | some p => exact ⟨(fun q e => by cases e; exact (mG_some h).1), (mG_some h).2⟩
theorem mcat_sum (ad : Nat → Nat → Nat) (S : List MV) : ((S.map (mVal ad)).map fun v => v.category).sum = (S.map mcat).sum := by
  rw [List.map_map]
  congr 1
  exact List.map_congr_left fun v _ => mVal_cat ad v
theorem mCode_ws {en : MEnt} (hT : mTab s) (hc : eCode en ∈ lw_tbl) : ∀ w ∈ [eCode en], ∀ (a' : Array Value) (U : State), s.WarmedH U.vm → w.before a' U = true := by
  intro w hw a' U hW
  rw [List.mem_singleton.mp hw]
  exact (hT.warm hW).use hc rfl
theorem mCls_of {ad : Nat → Nat → Nat} {σ : MSto} {H : Heap} {kd j ci : Nat} {fs : List Nat} {C : String} {T : u_T} {N : Nat} (hK : va_K D mCl [] s) (hW : mWd s D A eb tL tB ad0 σ0 ad σ H) (hj : j < gN σ kd) (hkt : KT kd = some (.inl (ci, fs))) (hcl : mCl[ci]? = some (C, T, N)) : ∃ cellB : Cell, H[ad kd j]? = some cellB ∧ cellB.vm.isStatics = false ∧ s.vm.findClass C = some cellB.cls := by
  obtain ⟨-, hfc, -⟩ := hK.1 ci _ hcl
  have hat := hW.1 kd j hj
  by_cases h0 : ci = 0
  · unfold mAt at hat
    rw [hkt] at hat
    simp only [] at hat
    rw [if_pos h0] at hat
    obtain ⟨⟨cell, q1, q2, q3, q4⟩, -⟩ := hat
    subst h0
    exact ⟨cell, q1, by rw [q3]; rfl, by rw [q2]; exact hfc⟩
  · obtain ⟨rr0, hr1, hr2, cell, q1, q2, q3, q4⟩ := (mAt_obj hkt h0).mp hat
    exact ⟨cell, q1, by rw [q3]; rfl, by rw [q2]; exact hfc⟩
end SIM
