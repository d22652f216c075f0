/-! what the class's methods do when they throw -/
theorem mAt_in {U : State} {D : va_G} {A : Nat → Prop} {eb : Nat} {ad : Nat → Nat → Nat} {σ : MSto} {k i : Nat} {H : Heap} (h : mAt U D A eb ad σ k i H) (hk : k = 95 ∨ k = 96 ∨ k = 97) : ad k i < H.size := by
  rcases hk with rfl | rfl | rfl
  · have h1 : va_T .int (ad 95 i) 7 (fun j => .int (gI σ 95 i j)) A U H := h
    obtain ⟨cell, h1, -⟩ := h1
    exact (Array.getElem?_eq_some_iff.mp h1).1
  · have h1 : va_T .int (ad 96 i) 5 (fun j => .int (gI σ 96 i j)) A U H := h
    obtain ⟨cell, h1, -⟩ := h1
    exact (Array.getElem?_eq_some_iff.mp h1).1
  · have h1 : ∃ L : Nat, gI σ 97 1 0 = nI L ∧ L < 2 ^ 31 ∧ va_X (ad 97 i) L (fun j => gI σ 97 i j) U H ∧ ¬ A (ad 97 i) := h
    obtain ⟨L, -, -, ⟨scr, h1, -⟩, -⟩ := h1
    exact (Array.getElem?_eq_some_iff.mp h1).1
/-- the world's cells as they were, some beside them -/
theorem mWd_grow {U U' : State} {D : va_G} {A : Nat → Prop} {eb tL tB : Nat} {ad0 : Nat → Nat → Nat} {σ0 : MSto} {ad : Nat → Nat → Nat} {σ : MSto} {H H' : Heap} (hvm : U.vm.Alike U'.vm) (h : mWd U D A eb tL tB ad0 σ0 ad σ H) (hle : H.size ≤ H'.size) (hq : ∀ q : Nat, q < H.size → H'[q]? = H[q]?) : mWd U' D A eb tL tB ad0 σ0 ad σ H' := by
  obtain ⟨h1, h2, h3, h4, h5, h6, h7, h8, h9, h10⟩ := h
  refine ⟨fun k i hi => ?_, h2, fun k i ho => ⟨(h3 k i ho).1, Nat.lt_of_lt_of_le (h3 k i ho).2 hle⟩, h4, h5, h6, h7, h8, h9, h10⟩
  have hk := mAt_lt (h1 k i hi)
  have hin : ad k i < H.size := by
    by_cases g : k = 95 ∨ k = 96 ∨ k = 97
    · exact mAt_in (h1 k i hi) g
    · exact (h3 k i (Or.inl ⟨by omega, fun e => g (Or.inl e), fun e => g (Or.inr (Or.inl e)), fun e => g (Or.inr (Or.inr e)), hi⟩)).2
  refine mAt_congr hvm h4 hi (fun j => ⟨rfl, rfl, rfl⟩) (fun _ => rfl) (fun _ _ _ => rfl) (fun _ => rfl) (hq _ hin) (fun hl hn => ?_) (fun hk => mAt_nA (h1 k i hi) hk) (h1 k i hi)
  have hi0 : i = 0 := by have := h4.2.2 k hl; omega
  subst hi0
  exact hq _ (h3 (1000 + k) 0 (Or.inr ⟨k, hl, rfl, rfl, hi, hn⟩)).2
abbrev nse : String := "java/util/NoSuchElementException"
abbrev rte : String := "java/lang/RuntimeException"
def nseW : List Cond := Bundle.throwableAtoms ++ Bundle.throwableSAtoms ++ (Bundle.passSAtoms nse rte 13 prog_31_method_4_code ++ Bundle.chainSAtoms rte ["java/lang/Exception"]) ++
  [.methodLink "ClothWithMan" 180 (Bundle.initS nse), .instantiable nse 6, .castable nse nse, .selects nse Bundle.tFill0 Bundle.tFill0, .selects nse Bundle.tFill Bundle.tFill,
   .lays nse Bundle.tN "cause" "Ljava/lang/Throwable;", .lays nse Bundle.tN "stackTrace" Bundle.steD, .lays nse Bundle.tN "suppressedExceptions" Bundle.listD, .lays nse Bundle.tN "detailMessage" "Ljava/lang/String;",
   .isRef (.static Bundle.tN "UNASSIGNED_STACK" Bundle.steD), .isRef (.static Bundle.tN "SUPPRESSED_SENTINEL" Bundle.listD),
   .fieldLink Bundle.tN 198 Bundle.tN "backtrace" "Ljava/lang/Object;", .lays Bundle.tN Bundle.tN "backtrace" "Ljava/lang/Object;", .lays nse Bundle.tN "backtrace" "Ljava/lang/Object;"]
theorem thr_in : ∀ w ∈ nseW.filter vx_no, w ∈ lw_tbl := by decide +kernel
theorem thr_st : ∀ w ∈ nseW.filter vx_no, mStab w = true := by decide +kernel
theorem thr_good : ∀ w ∈ Cond.classLink "ClothWithMan" 176 nse :: Cond.initialized nse :: nseW.filter vx_no, vx_ot w = true := by decide +kernel
section NSE
variable {p : Program} {l : Launch} {e : Env} {R : Room} {s : State} {m : MethodId} {args : Array Value} {below : List Frame} {meth : Method} {c : Code} {locs : List Loc} {cells slots : Nat}
set_option maxHeartbeats 1000000 in
/-- the constructor of what is thrown, by its own road (its super call's entry of the pool is 13), and the throw: modelled on the library's proof for the usual road -/
theorem nse_ctor {W : State} (X : Stand p l e R s m args below meth c W locs cells slots) (hexec : p.tables.exec = Jvm.exec) (htr : e.platform.stackTraces = false)
    (hown : s.vm.findClass "ClothWithMan" = some m.cls) (h : ∀ a ∈ nseW, a.before args s = true)
    (hlocs : ∀ x ∈ locs, ∀ cell, s.heap[x.base]? = some cell → cell.vm.isStatics = false)
    {a : Addr} {cX : ClassId} {kX : Class} (hfoundX : s.vm.findClass nse = some cX) (hkX : s.vm.classes[cX]? = some kX) (hcell : W.heap[a]? = some (freshCell cX kX)) (hnew : s.heap.size ≤ a)
    {msg : Value} (hmsg : msg.isRef = true)
    {g : JFrame} (hg : g.method = m) (hsize : g.locals.size = c.maxLocals) (hlocked : g.locked = none) (hentered : g.entered = []) {rest : List Value} (hstack : g.stack = msg :: .ref a :: .ref a :: rest)
    (hd6 : decode c.code g.pc = .ok (.invokespecial 180, 3)) (hd9 : decode c.code (g.pc + 3) = .ok (.athrow, 1)) (hout : ∀ x ∈ c.exceptionTable.toList, covers x (g.pc + 3) = false)
    (hRframes : 5 < R.frames) (hRlocals : 2 * g.monitorRoom + ((Value.ref a :: rest).map fun v => v.category).sum + 81 ≤ R.locals) (hlocks : meth.locks = false) :
    ∃ U : State, Steps p.tables e below (W.setTop g) U ∧ U.status = .running ∧ Ended U below (.threw a) ∧ s.WarmedH U.vm ∧ s.sameButNew ({ U with vm := s.vm } : State) locs cells slots ∧
      ∃ ce, U.heap[a]? = some ce ∧ ce.vm = .none ∧ s.vm.findClass nse = some ce.cls := by
  have howns : e.platform.frameOwnsMonitors = true := by rw [X.admits.platform]
  have hfin : e.platform.finalization = false := by rw [X.admits.platform]
  have hpl : e.platform.magicAccessors = ({} : Platform).magicAccessors := by rw [X.admits.platform]
  have a' : ∀ x, x ∈ nseW → x.holds args s none s [] = true := fun x hx => h x hx
  obtain ⟨T, Z0, L, -, Y⟩ := ThrowableC.of_atoms (args := args) howns hfin hpl (fun x hx => h x (by simp [nseW, hx]))
  obtain ⟨Z, M, LZ, LM, hnZ⟩ := Init0T.ofS_atoms (args := args) hpl L Y (fun x hx => h x (by simp [nseW, hx]))
  obtain ⟨P1, L1, hP1m, hs1⟩ := PassC.ofS_atoms (args := args) (s := s) hpl (X := nse) (Y := rte) (index := 13) (bytes := prog_31_method_4_code) (by decide +kernel) (by decide) (by decide +kernel) (by decide +kernel) (by decide +kernel) (by decide +kernel) (fun x hx => h x (by simp [nseW, hx]))
  obtain ⟨P2, Ps, hlen, L2, hL, hP2m, hlink1, hlink⟩ := Bundle.chainS (args := args) hpl hnZ ["java/lang/Exception"] rte (by decide +kernel) (by decide +kernel) (fun x hx => h x (by simp [nseW, hx]))
  have hsup : P1.sup = P2.m := Option.some.inj (hs1.symm.trans hP2m)
  have hfound : s.vm.findClass nse = some P1.m.cls := findClass_of_methodNamed hP1m
  cases Option.some.inj (hfoundX.symm.trans hfound)
  obtain ⟨c1, kX', hc1, hk, hord, -, -, hn6⟩ := Cond.instantiable_spec (a' (.instantiable nse 6) (by simp [nseW]))
  cases Option.some.inj (hc1.symm.trans hfound)
  cases Option.some.inj (hkX.symm.trans hk)
  have hsel0 : selectMethod e.platform s.vm P1.m.cls T.fill0 = .method T.fill0 := by
    obtain ⟨c2, r2, m2, q1, q2, q3, q4, -⟩ := Cond.selects_spec (a' (.selects nse Bundle.tFill0 Bundle.tFill0) (by simp [nseW]))
    cases Option.some.inj (q1.symm.trans hfound)
    cases Option.some.inj (q2.symm.trans (State.methodFound?_of_named Y.fill0 (by decide)))
    cases Option.some.inj (q3.symm.trans Y.fill0)
    rw [Launch.admits_selectMethod X.admits]; exact q4
  have hselF : selectMethod e.platform s.vm P1.m.cls T.fill = .method T.fill := by
    obtain ⟨c2, r2, m2, q1, q2, q3, q4, -⟩ := Cond.selects_spec (a' (.selects nse Bundle.tFill Bundle.tFill) (by simp [nseW]))
    cases Option.some.inj (q1.symm.trans hfound)
    cases Option.some.inj (q2.symm.trans (State.methodFound?_of_named Y.fill (by decide)))
    cases Option.some.inj (q3.symm.trans Y.fill)
    rw [Launch.admits_selectMethod X.admits]; exact q4
  obtain ⟨cellS0, hcS0, hiss⟩ := Y.statics
  obtain ⟨u0, hu0⟩ := Cond.staticRefV Y.unassigned L.unassignedStatic L.statics hcS0 hiss (a' (.isRef (.static Bundle.tN "UNASSIGNED_STACK" Bundle.steD)) (by simp [nseW]))
  obtain ⟨sen, hsen⟩ := Cond.staticRefV Y.sentinel L.sentinelStatic L.statics hcS0 hiss (a' (.isRef (.static Bundle.tN "SUPPRESSED_SENTINEL" Bundle.listD)) (by simp [nseW]))
  obtain ⟨ci198, i198, fB, hk198, hg198, ha198, hsB, -, hnB, htB, hffB⟩ := Cond.ownField (t := .object "java/lang/Object") Y.found L.cls (by decide +kernel) (a' (.fieldLink Bundle.tN 198 Bundle.tN "backtrace" "Ljava/lang/Object;") (by simp [nseW])) (a' (.lays Bundle.tN Bundle.tN "backtrace" "Ljava/lang/Object;") (by simp [nseW])) e.platform hpl
  obtain ⟨cellS, hcS', heS, -, hkeep⟩ := X.same.2.2.2.2.2 T.aS cellS0 hcS0
  have hcellS : W.heap[T.aS]? = some cellS := hcS'
  have hout' : ∀ i, (⟨T.aS, i⟩ : Loc) ∉ locs := fun i hmem => by
    have := hlocs _ hmem cellS0 hcS0
    rw [hiss] at this; cases this
  have hknownS : cellS.vm ≠ .unknown := by
    rw [heS]; intro hu
    rw [show cellS0.vm = .unknown from hu] at hiss
    cases hiss
  have hneS : T.aS ≠ a := Nat.ne_of_lt (Nat.lt_of_lt_of_le (Array.getElem?_eq_some_iff.mp hcS0).1 hnew)
  obtain ⟨iM, hffM⟩ := Y.msg
  obtain ⟨tyC, dC, hdC, hdnC⟩ := Cond.laysAt hfound hk Y.cause (a' (.lays nse Bundle.tN "cause" "Ljava/lang/Throwable;") (by simp [nseW]))
  obtain ⟨tyS, dS, hdS, hdnS⟩ := Cond.laysAt hfound hk Y.stack (a' (.lays nse Bundle.tN "stackTrace" Bundle.steD) (by simp [nseW]))
  obtain ⟨tyP, dP, hdP, hdnP⟩ := Cond.laysAt hfound hk Y.supp (a' (.lays nse Bundle.tN "suppressedExceptions" Bundle.listD) (by simp [nseW]))
  obtain ⟨tyM, dM, hdM, hdnM⟩ := Cond.laysAt hfound hk hffM (a' (.lays nse Bundle.tN "detailMessage" "Ljava/lang/String;") (by simp [nseW]))
  obtain ⟨tyB, dB, hdB, hdnB⟩ := Cond.laysAt hfound hk hffB (a' (.lays nse Bundle.tN "backtrace" "Ljava/lang/Object;") (by simp [nseW]))
  have bC := Cond.laysApart hdB hdC hdnB hdnC (by rw [hnB, Y.causeName]; decide)
  have bS := Cond.laysApart hdB hdS hdnB hdnS (by rw [hnB, Y.stackName]; decide)
  have bP := Cond.laysApart hdB hdP hdnB hdnP (by rw [hnB, Y.suppName]; decide)
  have hskip : SkipFacts T e.platform s (fun u => u) u0 ((preparedCellV T.toThrowableT (freshCell P1.m.cls kX) a u0 sen).withEntry W.cur) :=
    ⟨{ ci198 := ci198, i198 := i198, fBack := fB }, ⟨hk198, hg198, ha198, hsB⟩, by
      have := fresh_default (c := P1.m.cls) tyB
      rw [htB] at this
      simpa [preparedCellV, Cell.setSlot, Cell.withEntry, Array.getElem?_setIfInBounds, bC, bS, bP, bC.symm, bS.symm, bP.symm, defaultValue] using this, fun _ _ => rfl⟩
  obtain ⟨tm, methC, cdC, kC, vm₁, hnC, -, -, -, -, -, -, -, hW₁, st1⟩ := Steps.initColdS (tb := p.tables) (e := e) (below := below) (s := s) (U := W) X.here hexec X.warmed hpl hown (t := Bundle.initS nse) rfl rfl (by decide)
    (a' (.methodLink "ClothWithMan" 180 (Bundle.initS nse)) (by simp [nseW])) (h (.instanceMethod (Bundle.initS nse)) (by simp [nseW, Bundle.passSAtoms])) (bytes := prog_31_method_4_code) (maxL := 2) (h (.code (Bundle.initS nse) prog_31_method_4_code 2 none) (by simp [nseW, Bundle.passSAtoms]))
    (f := g) hg (a := a) (msg := msg) (rest := .ref a :: rest) hstack hd6
  cases Option.some.inj (hnC.symm.trans hP1m)
  have X₁ := X.noted hW₁
  obtain ⟨vm₂, X₂, st2⟩ := X₁.ctorMessageOffV hexec (g := { g with stack := .ref a :: rest }) hg hsize T L Z LZ M LM (P1 :: P2 :: Ps)
    (fun P hP => by
      rcases List.mem_cons.mp hP with rfl | hP
      · exact L1
      · rcases List.mem_cons.mp hP with rfl | hP
        · exact L2
        · exact hL P hP) ⟨hsup, hlink1, hlink⟩ (u0 := u0) (sen := sen) (self := a) hmsg (cell := freshCell P1.m.cls kX) (cellS := cellS)
    hcell (fun _ => by simp) (by simp) rfl rfl hsel0 hselF hcellS hneS hknownS (by rw [hkeep _ (hout' _)]; exact hu0) (by rw [hkeep _ (hout' _)]; exact hsen)
    (Takes.of_laid hk hord tyC (by rw [Y.causeType]; rfl)) (Takes.of_laid hk hord tyS (by rw [Y.stackType]; exact fits_refV_array _ u0)) (Takes.of_laid hk hord tyP (by rw [Y.suppType]; exact fits_refV_object _ sen))
    (Takes.of_laid hk hord tyM (by rw [Y.msgType]; exact fits_refV_object _ ⟨msg, hmsg⟩)) Y.objLocals hskip htr [] hd6
    (by simp only [List.length_cons, hlen]; simpa using hRframes) (by simp only [List.length_cons, hlen]; simpa using hRlocals)
  obtain ⟨hwalk, hrun, hended, hWU, hsame⟩ := X₂.athrowLeaves hexec (g := { g with stack := .ref a :: rest, pc := g.pc + 3 }) hg hlocked hentered hout (a := a) (rest := rest) rfl hd9
  have hlt : a < ((W.setVm vm₁).setVm vm₂).heap.size := (Array.getElem?_eq_some_iff.mp hcell).1
  have hU := heapAt_setCell_self (s := (W.setVm vm₁).setVm vm₂) (plainBareV T.toThrowableT (freshCell P1.m.cls kX) a u0 sen msg) hlt
  refine ⟨_, st1 _ (fun acts => ?_), hrun, hended, hWU, hsame.weaken (fun y hy hlt' => ?_) (Nat.le_refl _) (Nat.le_refl _), _, hU, rfl, hfound⟩
  · rw [doInvoke_state]
    exact st2 _ hwalk
  · rcases List.mem_append.mp hy with h1 | h1
    · exact h1
    · exfalso
      have hb : y.base = a := by
        simp only [List.mem_cons, List.not_mem_nil, or_false] at h1
        rcases h1 with rfl | rfl | rfl | rfl | rfl <;> rfl
      rw [hb] at hlt'
      exact Nat.not_lt.mpr hnew hlt'
variable {H : Heap} {free : Addr → Prop} {ls : Array Slot} {rest : List Value} {Qc : Array Value → State → Outcome → State → Prop} {XC : String → State → State → Prop}
/-- 'throw new NoSuchElementException(text)': new; dup; ldc (or ldc_w); invokespecial; athrow -/
theorem nse_throw {cc : ByteArray} {pc k : Nat} (hexec : p.tables.exec = Jvm.exec) (hb : c.code = cc) (hl : l.stackTraces = false) {text : String} {is mc ms sa : Nat} {A : Nat → Prop}
    (hown : s.vm.findClass "ClothWithMan" = some m.cls)
    (hk : (Cond.classLink "ClothWithMan" 176 nse).before args s = true) (hini : (Cond.initialized nse).before args s = true) (hstr : vk_R "ClothWithMan" is text sa s) (hat : ∀ w ∈ nseW.filter vx_no, w.before args s = true)
    (hU : vx_Zq Bundle.tN "UNASSIGNED_STACK" Bundle.steD A s s.heap) (hN : vx_Zq Bundle.tN "SUPPRESSED_SENTINEL" Bundle.listD A s s.heap) (hS : va_S A s.heap H locs) (hsize : ls.size = c.maxLocals)
    (d0 : decode cc pc = .ok (.new 176, 3)) (d3 : decode cc (pc + 3) = .ok (.dup, 1)) (d4 : (decode cc (pc + 4) = .ok (.ldc is, 2) ∧ k = 6) ∨ (decode cc (pc + 4) = .ok (.ldc_w is, 3) ∧ k = 7)) (d6 : decode cc (pc + k) = .ok (.invokespecial 180, 3)) (d9 : decode cc (pc + k + 3) = .ok (.athrow, 1))
    (hout : ∀ x ∈ c.exceptionTable.toList, covers x (pc + k + 3) = false)
    (hRframes : 5 < R.frames) (hRlocals : (rest.map fun v => v.category).sum + 82 ≤ R.locals) (hRcells : cells + 1 ≤ R.cells) (hRslots : slots + 6 ≤ R.slots) (hlocks : meth.locks = false)
    (hx : ∀ t : State, s.vm.Alike t.vm → H.size ≤ t.heap.size → (∀ q : Nat, q < H.size → t.heap[q]? = H[q]?) → XC nse s t)
    (hf : ∀ z ∈ locs, free z.base) (hc : cells + 1 ≤ mc) (hs : slots + 6 ≤ ms) :
    W p l e R s m args below meth c H locs cells slots (vx_MQ below Qc XC args s mc ms free) (F0 m pc ls rest) := by
  intro T hT X
  have htr : e.platform.stackTraces = false := (show e.platform.stackTraces = l.stackTraces by rw [X.admits.platform]).trans hl
  have Y := vx_rebase X (R' := { frames := R.frames, locals := R.locals, cells := 1, slots := 6 }) (Nat.le_refl _) (Nat.le_refl _) hRcells hRslots
  obtain ⟨s', hA⟩ : ∃ z, z = (T.setVm s.vm).setFrames (.invoking m args :: below) := ⟨_, rfl⟩
  rw [← hA] at Y
  have hvm : s'.vm = s.vm := by rw [hA]; rfl
  have hhp : s'.heap = H := by rw [hA]; exact hT
  have hW0 : s.WarmedH s'.vm := by rw [hvm]; exact State.WarmedH.refl s
  have hat' : ∀ w ∈ nseW.filter vx_no, w.before args s' = true := fun w hw => vx_ot_at hW0 hvm.symm (thr_good w (List.mem_cons_of_mem _ (List.mem_cons_of_mem _ hw))) (hat w hw)
  have hk' : (Cond.classLink "ClothWithMan" 176 nse).before args s' = true := vx_ot_at hW0 hvm.symm (thr_good _ List.mem_cons_self) hk
  have hini' : (Cond.initialized nse).before args s' = true := vx_ot_at hW0 hvm.symm (thr_good _ (List.mem_cons_of_mem _ List.mem_cons_self)) hini
  have hU' : vx_Zq Bundle.tN "UNASSIGNED_STACK" Bundle.steD A s' s'.heap := by rw [hhp]; exact vx_Zq.moved hW0.alike (hU.kept hS.2.1)
  have hN' : vx_Zq Bundle.tN "SUPPRESSED_SENTINEL" Bundle.listD A s' s'.heap := by rw [hhp]; exact vx_Zq.moved hW0.alike (hN.kept hS.2.1)
  have h : ∀ w ∈ nseW, w.before args s' = true := vx_own hat' (vx_isRefq hU'.1) (vx_isRefq hN'.1) hU'.2.word hN'.2.word
  have hown' : s'.vm.findClass "ClothWithMan" = some m.cls := by rw [hvm]; exact hown
  have hins : (Cond.instantiable nse 6).before args s' = true := h _ (by simp [nseW])
  obtain ⟨vm₁, cX, kX, hfX, hkX, -, -, X₁, st1⟩ := Y.newCold hexec (own := "ClothWithMan") (C := nse) (index := 176) (n := 6) hown' hk' hins hini'
    (g := F0 m pc ls rest) rfl (by rw [hb]; exact d0) (Nat.le_refl _) (Nat.le_refl _)
  generalize hT1 : (T.setVm vm₁).pushCell { cls := cX, slots := kX.instanceTypes.map defaultValue, vm := .none } = T1 at X₁ st1
  have hcat : (Value.ref T.heap.size).category = 1 := rfl
  have hcellA : T1.heap[T.heap.size]? = some (freshCell cX kX) := by rw [← hT1]; exact State.heap_pushCell_size _ _
  have d3' : decode c.code (pc + 3) = .ok (.dup, 1) := by rw [hb]; exact d3
  have hstr' : vk_R "ClothWithMan" is text sa s' := vk_R.warm hW0 hstr
  obtain ⟨U, hsteps, hrun, hend, hW, hsame, ce, hce, hcv, hcc⟩ := nse_ctor X₁ hexec htr hown' h (fun x hx => nomatch hx) hfX hkX hcellA (by rw [hhp, hT]; exact Nat.le_refl _) (msg := .ref sa) rfl
    (g := { method := m, pc := pc + k, locals := ls, stack := .ref sa :: .ref T.heap.size :: .ref T.heap.size :: rest, locked := none }) rfl hsize rfl rfl (rest := rest) rfl
    (by rw [hb]; exact d6) (by rw [hb]; exact d9) hout hRframes (by simp only [List.map_cons, List.sum_cons, hcat]; omega) hlocks
  obtain ⟨f1, f2⟩ := vx_frame hsame
  rw [hhp] at f1 f2
  have hWs : s.WarmedH U.vm := State.WarmedH.trans hW0 hW
  have hcl : s.vm.findClass nse = some ce.cls := by
    have h9 := hcc
    rw [hvm] at h9
    exact h9
  have hall : s.sameButNew ({ U with vm := s.vm } : State) locs mc ms := by
    subst hA
    obtain ⟨e1, e2⟩ := hsame
    rw [State.setFrames_setFrames] at e1
    have h2 : (T.setVm s.vm).sameButNew ({ U with vm := s.vm } : State) [] (0 + 1) (0 + 6) := ⟨e1, e2⟩
    have h3 := X.same.trans h2
    rw [List.append_nil] at h3
    exact h3.mono hc hs
  refine ⟨U, ?_, .threw T.heap.size, hrun, hend, Or.inr ⟨T.heap.size, rfl, nse, ce, locs, hx U hWs.alike f1 (fun q hq => f2 q hq (fun z hz => nomatch hz)), hce, hcv, hcl, hWs, hall, hf⟩⟩
  refine st1 _ ?_
  show Steps p.tables e below (T1.setTop { method := m, pc := pc + 3, locals := ls, stack := .ref T.heap.size :: rest, locked := none }) _
  jvm_step X₁.here [X₁.here.top, hexec, d3', Value.category]
  rcases d4 with ⟨d4, rfl⟩ | ⟨d4, rfl⟩
  · exact X₁.ldcString hexec (own := "ClothWithMan") (text := text) (index := is) (a := sa) hown' hstr'.1 hstr'.2
      (g := { method := m, pc := pc + 4, locals := ls, stack := .ref T.heap.size :: .ref T.heap.size :: rest, locked := none }) rfl (by rw [hb]; exact d4) _ hsteps
  · exact X₁.ldcStringW hexec (own := "ClothWithMan") (text := text) (index := is) (a := sa) hown' hstr'.1 hstr'.2
      (g := { method := m, pc := pc + 4, locals := ls, stack := .ref T.heap.size :: .ref T.heap.size :: rest, locked := none }) rfl (by rw [hb]; exact d4) _ hsteps
end NSE
abbrev rmT : Room := { frames := 20, cells := 1, slots := 6, locals := 300 }
/-- what holds where it has thrown -/
def XT (D : va_G) (eb tL tB : Nat) (ad : Nat → Nat → Nat) (σ : MSto) (sz : Nat) : String → State → State → Prop := fun E st t => E = nse ∧ va_F (mA σ ad sz) st t ∧ ∃ ad' : Nat → Nat → Nat, mExt ad ad' σ σ ∧ mWd t D (mA σ ad sz) eb tL tB ad σ ad' σ t.heap
def mThr (l : Launch) (en : MEnt) (as : List MV) (σ : MSto) : Prop := ∀ (D : va_G) (eb tL tB : Nat) (ad : Nat → Nat → Nat) (sz : Nat), vx_Met l (eY en) [eCode en] rmT (mPc D eb tL tB ad σ sz as) (fun _ _ _ _ => False) (XT D eb tL tB ad σ sz) 1 6 (mA σ ad sz)
theorem mThr_of {l : Launch} (hfl : l.stackTraces = false) {en : MEnt} {P : MP} (hown : (eY en).cls = "ClothWithMan") (hpl : plainName (eY en).cls = true) (hP : mPOK l "ClothWithMan" en.2.2.2.2.1 P) (hini : pIni P = false) (hr1 : (pRoom P).1 ≤ 20) (hr2 : (pRoom P).2.1 ≤ 300) (hr3 : (pRoom P).2.2.1 = 0) (hr4 : (pRoom P).2.2.2 = 0)
    {text : String} {is pcT n k : Nat} {LT : List (Option MV)} (hx : ∀ (U : State) (A : Nat → Prop) (H : Heap), mExc U A H → ∃ q : Nat, vk_R "ClothWithMan" is text q U)
    (d0 : decode en.2.2.2.2.1 pcT = .ok (.new 176, 3)) (d3 : decode en.2.2.2.2.1 (pcT + 3) = .ok (.dup, 1)) (d4 : (decode en.2.2.2.2.1 (pcT + 4) = .ok (.ldc is, 2) ∧ k = 6) ∨ (decode en.2.2.2.2.1 (pcT + 4) = .ok (.ldc_w is, 3) ∧ k = 7)) (d6 : decode en.2.2.2.2.1 (pcT + k) = .ok (.invokespecial 180, 3)) (d9 : decode en.2.2.2.2.1 (pcT + k + 3) = .ok (.athrow, 1))
    {as : List MV} {σ : MSto} (hlv : ∀ v ∈ as, mLive σ v) (hlen : (mL0 as).length ≤ en.2.2.2.2.2.1) (hrun : mrun KT P (fun st => some st) n (0, mLoc as en.2.2.2.2.2.1, [], σ, 0, 0) = some (pcT, LT, [], σ, 0, 0)) : mThr l en as σ := by
  intro D eb tL tB ad sz
  refine vx_ofW (cc := en.2.2.2.2.1) (maxL := en.2.2.2.2.2.1) (ret := en.2.2.2.2.2.2) hpl rfl ?_
  intro p e s m args below meth c s₁ B hml htab hv
  obtain ⟨rfl, hsz, hT, hK, hSt, hW⟩ := hv
  have hxx := B.exec
  have hb := B.bytes
  have hlocks := B.notSynchronized
  have hownc : s.vm.findClass "ClothWithMan" = some m.cls := by rw [← hown]; exact findClass_of_methodNamed B.named
  have hA : ∀ q, s.heap.size ≤ q → mA σ ad sz q := fun q hq => Or.inr (by rw [← hsz]; exact hq)
  rw [lg_entry_eq]
  have X : mCx p s m meth c en.2.2.2.2.1 en.2.2.2.2.2.1 "ClothWithMan" D (mA σ ad sz) eb tL tB P := ⟨hxx, hb, hml, hownc, hT, hK, hSt, hA, fun h => by rw [hini] at h; cases h⟩
  have hRm : mRoomOK (headSpec [eCode en] rmT).room P 0 0 := by
    show 0 + (pRoom P).2.2.1 ≤ 1 ∧ 0 + (pRoom P).2.2.2 ≤ 6 ∧ (pRoom P).1 ≤ 20 ∧ (pRoom P).2.1 ≤ 300
    rw [hr3, hr4]
    exact ⟨by omega, by omega, hr1, hr2⟩
  have hfin : mWP p l e (headSpec [eCode en] rmT).room s m (as.map (mVal ad)).toArray below meth c (vx_MQ below (fun _ _ _ _ => False) (XT D eb tL tB ad σ sz) (as.map (mVal ad)).toArray s 1 6 (mA σ ad sz)) en.2.2.2.2.2.1 D (mA σ ad sz) eb tL tB ad σ 0 0 (pcT, LT, [], σ, 0, 0) := by
    intro ad' H locs ls hW' hS' hv' hL'
    obtain ⟨q, hq⟩ := hx s _ _ hSt.2.2.2.2
    show W p l e rmT s m (as.map (mVal ad)).toArray below meth c H locs 0 0 _ (F0 m pcT ls [])
    exact nse_throw (A := mA σ ad sz) (k := k) hxx hb hfl hownc (hT.use tw_5_82 rfl) (hT.use tw_1_21 rfl) hq (fun w hw => hT.use (thr_in w hw) (thr_st w hw)) hSt.2.2.2.2.2.1 hSt.2.2.2.2.2.2.1 hS' (hL'.1.trans hml.symm) d0 d3 d4 d6 d9 (fun x h => (htab x h).elim)
      (by decide) (by decide) (by decide) (by decide) hlocks
      (fun t hal h1 h2 => ⟨rfl, ⟨Nat.le_trans hS'.1 h1, fun q h3 h4 => by rw [h2 q (Nat.lt_of_lt_of_le h3 hS'.1)]; exact hS'.2.1 q h3 h4⟩, ad', hW'.2.2.2.2.2.2.2.2.2, mWd_grow hal hW' h1 h2⟩) hS'.2.2 (by decide) (by decide)
  have := s_run X mLay_ok hRm hP hfin (fun st h => by cases h; exact hfin) n _ hrun ad s.heap [] _ hW va_S.rf ⟨(fun v hv => by cases hv), fun i v hi => hlv v (mL0_mem (ad := ad) as 0 i v (mLoc_get hi)).2⟩ (mLs_entry hlen)
  exact this

