/-! the law's helpers: a call that may throw, caught -/
abbrev rmH : Room := { frames := 30, cells := 1, slots := 6, locals := 400 }
def mMetH (l : Launch) (y : MethodName) (bytes : ByteArray) (maxL : Nat) (hh : List (Nat × Nat × Nat × Nat)) (as : List MV) (σ : MSto) (k : Int32) (σ' : MSto) : Prop := ∀ (D : va_G) (eb tL tB : Nat) (ad : Nat → Nat → Nat) (sz : Nat), Met l y [Cond.codeWith y bytes maxL (some .int) hh] rmH (mPc D eb tL tB ad σ sz as) (mQc D (mA σ ad sz) eb tL tB ad σ (some (mI k)) σ') 1 6 (mA σ ad sz)
theorem mHel {l : Launch} {y : MethodName} {bytes : ByteArray} {maxL : Nat} {hh : List (Nat × Nat × Nat × Nat)} {P : MP} (hcls : y.cls = "ClothWithManLaw") (hpl : plainName y.cls = true) (hr1 : (pRoom P).1 ≤ 30) (hr2 : (pRoom P).2.1 ≤ 400) (hr3 : (pRoom P).2.2.1 = 1) (hr4 : (pRoom P).2.2.2 = 6) (hP : mPOK l "ClothWithManLaw" bytes P) (hini : pIni P = false)
    {as : List MV} {σ σ' : MSto} {k : Int32} {r : MST} {n : Nat} (hlv : ∀ v ∈ as, mLive σ v) (hlen : (mL0 as).length ≤ maxL) (hrun : mrun KT P (fun st => some st) n (0, mLoc as maxL, [], σ, 0, 0) = some r)
    (hfin : ∀ (p : Program) (e : Env) (s : State) (m : MethodId) (args : Array Value) (below : List Frame) (meth : Method) (c : Code) (D : va_G) (A : Nat → Prop) (eb tL tB : Nat) (ad : Nat → Nat → Nat), p.tables.exec = Jvm.exec → c.code = bytes → meth.sig.returnType = some .int → meth.locks = false → c.maxLocals = maxL → c.exceptionTable.toList = tableOf hh → s.vm.findClass "ClothWithManLaw" = some m.cls → mTab s → va_K D mCl [] s → mStat s A eb tL tB s.heap → (∀ q, s.heap.size ≤ q → A q) →
      (∀ (ad' : Nat → Nat → Nat) (H : Heap) (locs : List Loc) (ls : Array Slot) (cells slots pc : Nat), mWd s D A eb tL tB ad σ ad' σ' H → va_S A s.heap H locs → cells ≤ 1 → slots ≤ 6 → decode bytes pc = .ok (.ireturn, 1) → W p l e rmH s m args below meth c H locs cells slots (MQ below (mQc D A eb tL tB ad σ (some (mI k)) σ') args s 1 6 A) (F0 m pc ls [.int k])) →
      mWP p l e rmH s m args below meth c (MQ below (mQc D A eb tL tB ad σ (some (mI k)) σ') args s 1 6 A) maxL D A eb tL tB ad σ 0 0 r) : mMetH l y bytes maxL hh as σ k σ' := by
  intro D eb tL tB ad sz
  refine va_MetW (cc := bytes) (maxL := maxL) (ret := some .int) (hh := hh) hpl rfl ?_
  intro p e s m args below meth c s₁ B hml hv
  obtain ⟨rfl, hsz, hT, hK, hSt, hW⟩ := hv
  have hx := B.exec
  have hb := B.bytes
  have hr := B.returns
  have hlocks := B.notSynchronized
  have hown : s.vm.findClass "ClothWithManLaw" = some m.cls := by rw [← hcls]; exact findClass_of_methodNamed B.named
  have hA : ∀ q, s.heap.size ≤ q → mA σ ad sz q := fun q hq => Or.inr (by rw [← hsz]; exact hq)
  have htab := vx_table (x := y) (y := y) B (atoms_spec (ws := [Cond.codeWith y bytes maxL (some .int) hh]) B.pre _ List.mem_cons_self)
  rw [lg_entry_eq]
  have X : mCx p s m meth c bytes maxL "ClothWithManLaw" D (mA σ ad sz) eb tL tB P := ⟨hx, hb, hml, hown, hT, hK, hSt, hA, fun h => by rw [hini] at h; cases h⟩
  have hRm : mRoomOK rmH P 0 0 := by
    show 0 + (pRoom P).2.2.1 ≤ 1 ∧ 0 + (pRoom P).2.2.2 ≤ 6 ∧ (pRoom P).1 ≤ 30 ∧ (pRoom P).2.1 ≤ 400
    rw [hr3, hr4]
    exact ⟨by omega, by omega, hr1, hr2⟩
  have hend : mWP p l e rmH s m (as.map (mVal ad)).toArray below meth c (MQ below (mQc D (mA σ ad sz) eb tL tB ad σ (some (mI k)) σ') (as.map (mVal ad)).toArray s 1 6 (mA σ ad sz)) maxL D (mA σ ad sz) eb tL tB ad σ 0 0 r := by
    refine hfin p e s m _ below meth c D (mA σ ad sz) eb tL tB ad hx hb hr hlocks hml htab hown hT hK hSt hA ?_
    intro ad' H locs ls cells slots pc hW' hS' hc hs hd
    refine W.widen (k := 1) (n := 6) hc hs ?_
    refine W.zret hx hb hr (rfl : narrow .int (.int k) = .int k) ?_ hS'.2.2 hd
    intro t ht hWm
    refine ⟨⟨ad', rfl, hW'.2.2.2.2.2.2.2.2.2, (fun v h => by cases h; trivial), ?_⟩, hS'.F ht⟩
    rw [ht]
    exact mWd_move hWm.alike hW' (fun k i ho => (hW'.2.2.1 k i ho).1) (fun k i hk hi => mAt_nA (hW'.1 k i hi) hk) hW'.2.2.2.2.1 hW'.2.2.2.2.2.2.2.2.2
  have := s_run X mLay_ok hRm hP hend (fun st h => by cases h; exact hend) n _ hrun ad s.heap [] _ hW va_S.rf ⟨(fun v hv => by cases hv), fun i v hi => hlv v (mL0_mem (ad := ad) as 0 i v (mLoc_get hi)).2⟩ (mLs_entry hlen)
  exact this
theorem mHelO {l : Launch} {y : MethodName} {bytes : ByteArray} {maxL : Nat} {hh : List (Nat × Nat × Nat × Nat)} {P : MP} (hcls : y.cls = "ClothWithManLaw") (hpl : plainName y.cls = true) (hr1 : (pRoom P).1 ≤ 30) (hr2 : (pRoom P).2.1 ≤ 400) (hr3 : (pRoom P).2.2.1 = 1) (hr4 : (pRoom P).2.2.2 = 6) (hP : mPOK l "ClothWithManLaw" bytes P) (hini : pIni P = false)
    {as : List MV} {σ σ' : MSto} {k : Int32} {n pcF : Nat} (hlv : ∀ v ∈ as, mLive σ v) (hlen : (mL0 as).length ≤ maxL) (hrun : mrun KT P (fun st => some st) n (0, mLoc as maxL, [], σ, 0, 0) = some (pcF, [], [mI k], σ', 0, 0)) (hd : decode bytes pcF = .ok (.ireturn, 1)) : mMetH l y bytes maxL hh as σ k σ' :=
  mHel hcls hpl hr1 hr2 hr3 hr4 hP hini hlv hlen hrun (fun p e s m args below meth c D A eb tL tB ad _ _ _ _ _ _ _ _ _ _ _ hret ad' H locs ls hW hS _ _ => hret ad' H locs ls _ _ _ hW hS (Nat.zero_le 1) (Nat.zero_le 6) hd)
section HEL
variable {p : Program} {l : Launch} {e : Env} {R : Room} {s : State} {m : MethodId} {args : Array Value} {below : List Frame} {meth : Method} {c : Code} {Q : State → Prop}
variable {cc : ByteArray} {nL : Nat} {D : va_G} {A : Nat → Prop} {eb tL tB c0 s0 : Nat} {ad0 : Nat → Nat → Nat} {σ0 : MSto} {own : String}
/-- a call that has thrown, caught -/
theorem mCatchW {H : Heap} {locs : List Loc} {cells slots mc ms pc : Nat} {ls : Array Slot} {st0 rest : List Value} {ad : Nat → Nat → Nat} {σ : MSto} {x0 : ExceptionTableEntry} (hA : ∀ q, s.heap.size ≤ q → A q) (hW : mWd s D A eb tL tB ad0 σ0 ad σ H) (hS : va_S A s.heap H locs)
    (hr : vx_Run p l e R s m args below meth c H locs cells slots mc ms (F0 m pc ls st0) rest (fun _ _ _ => False) (XT D eb tL tB ad σ H.size) (mA σ ad H.size))
    (hown : s.vm.findClass own = some m.cls) (htab : c.exceptionTable.toList = [x0]) (hcov : covers x0 pc = true) (h0 : x0.catchType ≠ 0) (hlink : (Cond.classLink own x0.catchType nse).before args s = true) (hcast : (Cond.castable nse nse).before args s = true)
    (kk : ∀ (ad' : Nat → Nat → Nat) (H1 : Heap) (locs1 : List Loc) (q : Nat), mWd s D A eb tL tB ad0 σ0 ad' σ H1 → va_S A s.heap H1 locs1 → W p l e R s m args below meth c H1 locs1 (cells + mc) (slots + ms) Q (F0 m x0.handlerPc ls [.ref q])) : W p l e R s m args below meth c H locs cells slots Q (F0 m pc ls st0) := by
  have hsub := mOwn_A hW hA hS.1
  intro T hT X
  rcases hr T hT X with ⟨v, st₀, t, T', L, -, -, -, -, -, hf, -⟩ | ⟨q, st₀, t, T', L, E, ce, h0', X', hL, e1, e2, ⟨rfl, ⟨hz, hk⟩, ad', hext, hw⟩, hce, hcv, hcl, st⟩
  · exact hf.elim
  · rw [h0'] at hz hk
    have hal : t.vm.Alike s.vm := by rw [← e2]; exact X'.warmed.alike.symm
    have hnA : ∀ k i, (k = 95 ∨ k = 96 ∨ k = 97) → i < gN σ k → ¬ A (ad' k i) := by
      intro k i hk9 hi
      rw [(hext.1 k i hi).2]
      exact mAt_nA (hW.1 k i hi) hk9
    have hw1 : mWd s D A eb tL tB ad0 σ0 ad' σ T'.heap := by
      rw [e1]
      exact mWd_move hal hw (fun k i ho => hsub _ (hw.2.2.1 k i ho).1) hnA hW.2.2.2.2.1 (hW.2.2.2.2.2.2.2.2.2.trans hext)
    have hS1 : va_S A s.heap T'.heap (locs ++ L) := ⟨Nat.le_trans hS.1 (by rw [e1]; exact hz), fun q h1 h2 => by rw [e1, hk q (Nat.lt_of_lt_of_le h1 hS.1) (fun z => h2 (hsub q z))]; exact hS.2.1 q h1 h2, fun q hq => by
        rcases List.mem_append.mp hq with h | h
        · exact hS.2.2 q h
        · exact hsub _ (hL q h)⟩
    have hc := vx_catch (p := p) (l := l) (e := e) (R := R) (s := s) (m := m) (args := args) (below := below) (meth := meth) (c := c) (H := T'.heap) (locs := locs ++ L) (cells := cells + mc) (slots := slots + ms) (Q := Q) (pc := pc) (ls := ls) (rest := rest) (q := q) (ce := ce) hown [] x0 [] htab (fun z hz => by cases hz) hcov h0 hlink hcast (by rw [e1]; exact hce) hcv hcl (kk ad' T'.heap (locs ++ L) q hw1 hS1)
    obtain ⟨t2, a1, b1⟩ := hc T' rfl X'
    exact ⟨t2, st.trans a1, b1⟩
end HEL
theorem mHelX {l : Launch} {y : MethodName} {bytes : ByteArray} {maxL : Nat} {hh : List (Nat × Nat × Nat × Nat)} {P : MP} {en : MEnt} {x : Nat} {Aa rr : List MV} {pcH pcN : Nat} (hcls : y.cls = "ClothWithManLaw") (hpl : plainName y.cls = true) (hr1 : (pRoom P).1 ≤ 30) (hr2 : (pRoom P).2.1 ≤ 400) (hr3 : (pRoom P).2.2.1 = 1) (hr4 : (pRoom P).2.2.2 = 6) (hP : mPOK l "ClothWithManLaw" bytes P) (hini : pIni P = false)
    {as : List MV} {σ : MSto} {n pcC : Nat} {LC : List (Option MV)} (hlv : ∀ v ∈ as, mLive σ v) (hlen : (mL0 as).length ≤ maxL) (hrun : mrun KT P (fun st => some st) n (0, mLoc as maxL, [], σ, 0, 0) = some (pcC, LC, Aa.reverse ++ mR 12 0 :: rr, σ, 0, 0))
    (hLk : mLink "ClothWithManLaw" x en) (hl5 : Cond.methodLink "ClothWithManLaw" x (eY en) ∈ lw_tbl) (hm1 : en.1.1 = 1) {fs : List Nat} (hkt : KT 12 = some (.inl (en.1.2.2, fs))) (hlenA : Aa.length = en.1.2.1) (hrr : (rr.map mcat).sum ≤ 8) (hThr : mThr l en (mR 12 0 :: Aa) σ) (dC : decode bytes pcC = .ok (.invokevirtual x, 3)) (hloc : 8 + (en.2.2.2.2.2.1 + 11) + 300 ≤ 400)
    {x0 : ExceptionTableEntry} (hh0 : tableOf hh = [x0]) (hcov : covers x0 pcC = true) (hcat : x0.catchType = 13) (hhp : x0.handlerPc = pcH)
    (hast : (decode bytes pcH = .ok (.astore_n 3, 1) ∧ 3 < maxL ∧ pcN = pcH + 1) ∨ (decode bytes pcH = .ok (.astore 5, 2) ∧ 5 < maxL ∧ pcN = pcH + 2)) (dN : decode bytes pcN = .ok (.iconst 1, 1)) (dR : decode bytes (pcN + 1) = .ok (.ireturn, 1)) : mMetH l y bytes maxL hh as σ 1 σ := by
  refine mHel hcls hpl hr1 hr2 hr3 hr4 hP hini hlv hlen hrun ?_
  intro p e s m args below meth c D A eb tL tB ad hx hb hr hlocks hml htab hown hT hK hSt hA hret ad' H locs ls hW hS hv hL
  obtain ⟨w1, w2, w3, w4, -, -, wV, -⟩ := hLk
  obtain ⟨wV1, wV2, T, N, wV3⟩ := wV hm1
  have hj : 0 < gN σ 12 := hv.1 (mR 12 0) (List.mem_append_right _ List.mem_cons_self)
  have hst : (Aa.reverse ++ mR 12 0 :: rr).map (mVal ad') = (Aa.map (mVal ad')).reverse ++ .ref (ad' 12 0) :: rr.map (mVal ad') := by rw [List.map_append, List.map_reverse]; rfl
  show W p l e rmH s m args below meth c H locs (0 + 0) (0 + 0) _ (F0 m pcC ls ((Aa.reverse ++ mR 12 0 :: rr).map (mVal ad')))
  rw [hst]
  have hroom : 2 * (F0 m pcC ls ((Aa.map (mVal ad')).reverse ++ .ref (ad' 12 0) :: rr.map (mVal ad'))).monitorRoom + ((rr.map (mVal ad')).map fun v => v.category).sum ≤ 8 := lv_room (by rw [mcat_sum]; exact hrr)
  have hM := hThr D eb tL tB ad' H.size
  have hrun2 : vx_Run p l e rmH s m args below meth c H locs (0 + 0) (0 + 0) 1 6 (F0 m pcC ls ((Aa.map (mVal ad')).reverse ++ .ref (ad' 12 0) :: rr.map (mVal ad'))) (rr.map (mVal ad')) (fun _ _ _ => False) (XT D eb tL tB ad' σ H.size) (mA σ ad' H.size) :=
    vx_runV (C := (eY en).cls) (n := en.1.2.1) (As := Aa.map (mVal ad')) (b := ad' 12 0) ⟨hx, hb, hml, hown, (fun w h => absurd h List.not_mem_nil : ∀ w ∈ ([] : List Cond), w.before args s = true)⟩ hM ⟨⟨rfl, rfl, by decide, hloc, mCode_ws hT w1, List.mem_singleton.mpr rfl, hT.use w1 rfl, hT.use w2 rfl, w3, (fun sig hs => by rw [hs] at w4; exact (Option.some.inj w4).symm), hT.use hl5 rfl⟩, hT.use wV1 rfl, hT.use wV2 rfl⟩
      ⟨mPc_blind, mCls_of hK hW hj hkt wV3, fun U hU hWm => ⟨rfl, mGood_call hT hK hSt hA hW hS hU hWm⟩⟩ rfl (by rw [List.length_map]; exact hlenA) hL.1 rfl hroom dC ⟨by decide, by decide⟩
  refine mCatchW (own := "ClothWithManLaw") (x0 := x0) hA hW hS hrun2 hown (htab.trans hh0) hcov (by rw [hcat]; decide) (by rw [hcat]; exact hT.use tw_5_77 rfl) (hT.use tw_5_84 rfl) (fun ad2 H1 locs1 q hW1 hS1 => ?_)
  rw [hhp]
  have hls : lv_has ls maxL [] := ⟨hL.1, hL.2.1, fun q hq => by cases hq⟩
  have fin : ∀ ls' : Array Slot, W p l e rmH s m args below meth c H1 locs1 (0 + 0 + 1) (0 + 0 + 6) (MQ below (mQc D A eb tL tB ad σ (some (mI 1)) σ) args s 1 6 A) (F0 m pcN ls' []) := fun ls' => lv_iconst hx hb dN rfl (hret ad2 H1 locs1 ls' _ _ _ hW1 hS1 (by decide) (by decide) dR)
  rcases hast with ⟨d1, h1, rfl⟩ | ⟨d1, h1, rfl⟩
  · exact lv_astore_n hx hb d1 (rfl : ((3 : Fin 4) : Nat) = 3) hls h1 rfl (fun ls' _ => fin ls')
  · exact lv_astore hx hb d1 hls h1 rfl (fun ls' _ => fin ls')

