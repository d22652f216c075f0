/-! lists: what add does beneath, at the machine -/
abbrev rOT : FieldType := .object "java/lang/Object"
def rG (D : va_G) (F : Nat → Prop) (eb tL tB : Nat) (U : State) : Prop := mTab U ∧ va_K D mCl [] U ∧ mStat U F eb tL tB U.heap
theorem rG.calling {D : va_G} {F : Nat → Prop} {eb tL tB : Nat} {U : State} (h : rG D F eb tL tB U) (g : JFrame) (mk : MethodId) (a : Array Value) : rG D F eb tL tB (U.calling g mk a) := ⟨h.1.calling g mk a, va_K.moved (u := U) (U := U.calling g mk a) (Vm.Alike.refl U.vm) h.2.1, h.2.2.moved (U := U.calling g mk a) (State.WarmedH.refl U)⟩
theorem rG.call {s U : State} {D : va_G} {A F : Nat → Prop} {eb tL tB : Nat} {H : Heap} {locs : List Loc} (hT : mTab s) (hK : va_K D mCl [] s) (hSt : mStat s A eb tL tB s.heap) (hFA : ∀ q, F q → A q) (hS : va_S A s.heap H locs) (hU : U.heap = H) (hWm : s.WarmedH U.vm) : rG D F eb tL tB U :=
  ⟨hT.warm hWm, va_K.moved hWm.alike hK, by rw [hU]; exact ((hSt.kept (fun q h1 h2 => hS.2.1 q h1 h2)).moved hWm).narrow hFA⟩
def rQ (F : Nat → Prop) (B : Heap → Option Value → State → Prop) : Array Value → State → Outcome → State → Prop := fun _ st oc t => (∃ v, oc = .returned v ∧ B st.heap v t) ∧ va_F F st t
abbrev rMet (l : Launch) (y : MethodName) (bytes : ByteArray) (maxL : Nat) (ret : Option FieldType) (fr lo mc ms : Nat) (As : List Value) (K : State → Prop) (F : Nat → Prop) (B : Heap → Option Value → State → Prop) : Prop :=
  Met l y [.code y bytes maxL ret] { frames := fr, cells := mc, slots := ms, locals := lo } (va_Pc As K) (rQ F B) mc ms F
abbrev rW (own : String) (x : Nat) (y : MethodName) (bytes : ByteArray) (maxL : Nat) (ret : Option FieldType) (n : Nat) : Prop :=
  Cond.code y bytes maxL ret ∈ lw_tbl ∧ Cond.initialized y.cls ∈ lw_tbl ∧ (y.cls ≠ "java/lang/invoke/MethodHandle" ∧ y.cls ≠ "java/lang/invoke/VarHandle") ∧ (parseMethodDescriptor y.desc).map (fun d => d.parameters.length) = some n ∧ Cond.methodLink own x y ∈ lw_tbl
/-- an element of a list, as an array of Objects takes it -/
def rEl (U : State) (H : Heap) (y : Nat) : Prop := ∃ cell : Cell, H[y]? = some cell ∧ cell.vm.isStatics = false ∧ (∃ kv, U.vm.classes[cell.cls]? = some kv) ∧ ∀ comp, U.vm.findClass "java/lang/Object" = some comp → U.vm.assignable cell.cls comp = true
theorem rEl.moved {U U' : State} {H H' : Heap} {y : Nat} (hvm : U.vm.Alike U'.vm) (hq : H'[y]? = H[y]?) (h : rEl U H y) : rEl U' H' y := by
  obtain ⟨cell, h1, h2, ⟨kv, h3⟩, h4⟩ := h
  obtain ⟨k', hk', -⟩ := hvm.2.2 _ _ h3
  exact ⟨cell, hq.trans h1, h2, ⟨k', hk'⟩, fun comp hc => by rw [hvm.assignable]; exact h4 comp (by rw [← hvm.findClass]; exact hc)⟩
section RG
variable {p : Program} {l : Launch} {e : Env} {R : Room} {s : State} {m : MethodId} {args : Array Value} {below : List Frame} {meth : Method} {c : Code} {Q : State → Prop}
variable {cc : ByteArray} {nL : Nat} {D : va_G} {A F : Nat → Prop} {eb tL tB : Nat} {own : String}
variable {H : Heap} {locs : List Loc} {cells slots pc : Nat} {ls : Array Slot} {rest : List Value}
theorem rCallW {mc ms : Nat} {st0 : List Value} {a : Array Value} {B : Heap → Option Value → State → Prop} (hFA : ∀ q, F q → A q) (hS : va_S A s.heap H locs)
    (hr : va_Run p l e R s m args below meth c H locs cells slots mc ms (F0 m pc ls st0) rest (rQ F B a) F)
    (kk : ∀ (v : Option Value) (t : State) (locs1 : List Loc), t.vm.Alike s.vm → B H v t → H.size ≤ t.heap.size → (∀ q, q < H.size → ¬ F q → t.heap[q]? = H[q]?) → va_S A s.heap t.heap locs1 → W p l e R s m args below meth c t.heap locs1 (cells + mc) (slots + ms) Q (F0 m (pc + 3) ls (v.toList ++ rest))) : W p l e R s m args below meth c H locs cells slots Q (F0 m pc ls st0) := by
  intro T hT X
  obtain ⟨v, st₀, t, T', L, h0, X', hL, e1, e2, ⟨⟨v', hv, hB⟩, hz, hk⟩, st⟩ := hr T hT X
  cases hv
  rw [h0] at hz hk hB
  have hal : t.vm.Alike s.vm := by rw [← e2]; exact X'.warmed.alike.symm
  obtain ⟨t2, a1, b1⟩ := kk v t (locs ++ L) hal hB hz hk
    ⟨Nat.le_trans hS.1 hz, fun q h1 h2 => by rw [hk q (Nat.lt_of_lt_of_le h1 hS.1) (fun z => h2 (hFA q z))]; exact hS.2.1 q h1 h2, fun q hq => by
      rcases List.mem_append.mp hq with h | h
      · exact hS.2.2 q h
      · exact hFA _ (hL q h)⟩ T' e1 X'
  exact ⟨t2, st t2 a1, b1⟩
theorem rCS (hx : p.tables.exec = Jvm.exec) (hb : c.code = cc) (hml : c.maxLocals = nL) (hown : s.vm.findClass own = some m.cls) (hT : mTab s) {y : MethodName} {bytes : ByteArray} {maxL fr lo mc ms n x : Nat} {ret : Option FieldType} {As : List Value} {K : State → Prop} {B : Heap → Option Value → State → Prop}
    (w : rW own x y bytes maxL ret n) (w6 : Cond.static y ∈ lw_tbl) (hM : rMet l y bytes maxL ret fr lo mc ms As K F B) (hbl : ∀ (U : State) (g : JFrame) (mk : MethodId) (a : Array Value), K U → K (U.calling g mk a)) (hKK : ∀ U : State, U.heap = H → s.WarmedH U.vm → K U) (hlen : As.length = n) (hls : ls.size = nL) (hFA : ∀ q, F q → A q) (hS : va_S A s.heap H locs)
    (h1 : fr + 1 ≤ R.frames) (h2 : 8 + (maxL + 11) + lo ≤ R.locals) (h3 : cells + mc ≤ R.cells) (h4 : slots + ms ≤ R.slots) (h5 : (rest.map fun v => v.category).sum ≤ 8) (hd : decode cc pc = .ok (.invokestatic x, 3))
    (kk : ∀ (v : Option Value) (t : State) (locs1 : List Loc), t.vm.Alike s.vm → B H v t → H.size ≤ t.heap.size → (∀ q, q < H.size → ¬ F q → t.heap[q]? = H[q]?) → va_S A s.heap t.heap locs1 → W p l e R s m args below meth c t.heap locs1 (cells + mc) (slots + ms) Q (F0 m (pc + 3) ls (v.toList ++ rest))) : W p l e R s m args below meth c H locs cells slots Q (F0 m pc ls (As.reverse ++ rest)) := by
  obtain ⟨w1, w2, w3, w4, w5⟩ := w
  have hroom : 2 * (F0 m pc ls (As.reverse ++ rest)).monitorRoom + (rest.map fun v => v.category).sum ≤ 8 := lv_room h5
  refine rCallW (a := As.toArray) hFA hS ?_ kk
  exact va_runS (n := n) ⟨hx, hb, hml, hown, (fun w h => absurd h List.not_mem_nil : ∀ w ∈ ([] : List Cond), w.before args s = true)⟩ hM ⟨⟨rfl, rfl, h1, h2, (fun w hw a' U hW => by rw [List.mem_singleton.mp hw]; exact (hT.warm hW).use w1 rfl), List.mem_singleton.mpr rfl, hT.use w1 rfl, hT.use w2 rfl, w3, (fun sig hs => by rw [hs] at w4; exact (Option.some.inj w4).symm), hT.use w5 rfl⟩, hT.use w6 rfl⟩
    ⟨fun a' U g mk h => ⟨h.1, hbl U g mk a' h.2⟩, fun U hU hWm => ⟨rfl, hKK U hU hWm⟩⟩ rfl hlen hls rfl hroom hd ⟨h3, h4⟩
theorem rCV (hx : p.tables.exec = Jvm.exec) (hb : c.code = cc) (hml : c.maxLocals = nL) (hown : s.vm.findClass own = some m.cls) (hT : mTab s) {y : MethodName} {bytes : ByteArray} {maxL fr lo mc ms n x b : Nat} {ret : Option FieldType} {As : List Value} {K : State → Prop} {B : Heap → Option Value → State → Prop}
    (w : rW own x y bytes maxL ret n) (w6 : Cond.instanceMethod y ∈ lw_tbl ∧ Cond.selects y.cls y y ∈ lw_tbl) (hcl : ∃ cellB : Cell, H[b]? = some cellB ∧ cellB.vm.isStatics = false ∧ s.vm.findClass y.cls = some cellB.cls) (hM : rMet l y bytes maxL ret fr lo mc ms (.ref b :: As) K F B) (hbl : ∀ (U : State) (g : JFrame) (mk : MethodId) (a : Array Value), K U → K (U.calling g mk a)) (hKK : ∀ U : State, U.heap = H → s.WarmedH U.vm → K U) (hlen : As.length = n) (hls : ls.size = nL) (hFA : ∀ q, F q → A q) (hS : va_S A s.heap H locs)
    (h1 : fr + 1 ≤ R.frames) (h2 : 8 + (maxL + 11) + lo ≤ R.locals) (h3 : cells + mc ≤ R.cells) (h4 : slots + ms ≤ R.slots) (h5 : (rest.map fun v => v.category).sum ≤ 8) (hd : decode cc pc = .ok (.invokevirtual x, 3))
    (kk : ∀ (v : Option Value) (t : State) (locs1 : List Loc), t.vm.Alike s.vm → B H v t → H.size ≤ t.heap.size → (∀ q, q < H.size → ¬ F q → t.heap[q]? = H[q]?) → va_S A s.heap t.heap locs1 → W p l e R s m args below meth c t.heap locs1 (cells + mc) (slots + ms) Q (F0 m (pc + 3) ls (v.toList ++ rest))) : W p l e R s m args below meth c H locs cells slots Q (F0 m pc ls (As.reverse ++ .ref b :: rest)) := by
  obtain ⟨w1, w2, w3, w4, w5⟩ := w
  have hroom : 2 * (F0 m pc ls (As.reverse ++ .ref b :: rest)).monitorRoom + (rest.map fun v => v.category).sum ≤ 8 := lv_room h5
  refine rCallW (a := (Value.ref b :: As).toArray) hFA hS ?_ kk
  exact va_runV (C := y.cls) (n := n) ⟨hx, hb, hml, hown, (fun w h => absurd h List.not_mem_nil : ∀ w ∈ ([] : List Cond), w.before args s = true)⟩ hM ⟨⟨rfl, rfl, h1, h2, (fun w hw a' U hW => by rw [List.mem_singleton.mp hw]; exact (hT.warm hW).use w1 rfl), List.mem_singleton.mpr rfl, hT.use w1 rfl, hT.use w2 rfl, w3, (fun sig hs => by rw [hs] at w4; exact (Option.some.inj w4).symm), hT.use w5 rfl⟩, hT.use w6.1 rfl, hT.use w6.2 rfl⟩
    ⟨fun a' U g mk h => ⟨h.1, hbl U g mk a' h.2⟩, hcl, fun U hU hWm => ⟨rfl, hKK U hU hWm⟩⟩ rfl hlen hls rfl hroom hd ⟨h3, h4⟩
/-- a field of a list is written; 'ref' is the class that the pool names -/
theorem r_putL (hx : p.tables.exec = Jvm.exec) (hb : c.code = cc) (hown : s.vm.findClass own = some m.cls) (hT : mTab s) (hK : va_K D mCl [] s) (hLay : mLay) {x f : Nat} {C ref : String} {T : u_T} {N : Nat} (h1 : mCl[0]? = some (C, T, N)) (h2 : f < N) (h3 : (T f).2.2.2 = false) {ty : FieldType} (h4 : parseFieldDescriptor (T f).2.2.1 = some ty) (h5 : Cond.fieldLink own x ref (T f).2.1 (T f).2.2.1 ∈ lw_tbl) (hvia : ∀ q, s.fieldFound? (T f).1 (T f).2.1 (T f).2.2.1 = some q → s.fieldFound? ref (T f).2.1 (T f).2.2.1 = some q) {a : Nat} {V : Nat → Value} (ho : t_OB a (D.1 0) N (D.2 0) H V) {v : Value} (hn : narrow ty v = v) (hfit : fits ty v = true) (hd : decode cc pc = .ok (.putfield x, 3))
    (kk : ∀ (H1 : Heap) (j : Nat), t_OB a (D.1 0) N (D.2 0) H1 (updV V f v) → H1.size = H.size → (∀ q : Nat, q ≠ a → H1[q]? = H[q]?) → W p l e R s m args below meth c H1 (locs ++ [⟨a, j⟩]) cells slots Q (F0 m (pc + 3) ls rest)) : W p l e R s m args below meth c H locs cells slots Q (F0 m pc ls (v :: .ref a :: rest)) := by
  obtain ⟨hin, hnm, ty0, hty⟩ := hLay 0 C T N h1
  have hts := mLayWs (args := args) hT hin
  have hap := va_apart (own := own) hts (fun w h => h) ty0 hty hnm hK h1
  obtain ⟨cell, q1, q2, q3, q4⟩ := ho
  obtain ⟨hS, hfc, kC, hkC, hkind⟩ := hK.1 0 _ h1
  obtain ⟨cf, kf, fi, fd, hi, hsl⟩ := hS f h2
  have hlay := hts _ (u_in_lay h2)
  unfold u_lay at hlay
  have hst := (u_facts hfc hkC (u_lays hts (fun w h => h) h2) hi).1
  have hhas : fd.slot < cell.slots.size := by rw [hsl]; exact k2_hasslot (q4 f h2)
  rw [if_neg (by rw [h3]; decide)] at hlay
  have h6 := u_store hfc hkC hkind hlay hi h4 hn hfit
  refine W.putK hx hb (f := fd) ⟨hown, hT.use h5 rfl, ⟨_, _, _, hvia _ hi⟩, hst⟩ (by rw [q2]; exact h6) q1 q3 hhas rfl rfl hd fun H' e1 e2 e3 => ?_
  rw [hsl] at e1 ⊢
  exact kk H' _ ⟨_, e1, q2, q3, t_set q4 hap h2 v⟩ e2 e3
theorem r_getLv (hx : p.tables.exec = Jvm.exec) (hb : c.code = cc) (hown : s.vm.findClass own = some m.cls) (hT : mTab s) (hK : va_K D mCl [] s) (hLay : mLay) {x f : Nat} {C ref : String} {T : u_T} {N : Nat} (h1 : mCl[0]? = some (C, T, N)) (h2 : f < N) (h5 : Cond.fieldLink own x ref (T f).2.1 (T f).2.2.1 ∈ lw_tbl) (hvia : ∀ q, s.fieldFound? (T f).1 (T f).2.1 (T f).2.2.1 = some q → s.fieldFound? ref (T f).2.1 (T f).2.2.1 = some q) {a : Nat} {V : Nat → Value} (ho : t_OB a (D.1 0) N (D.2 0) H V) (hd : decode cc pc = .ok (.getfield x, 3))
    (kk : W p l e R s m args below meth c H locs cells slots Q (F0 m (pc + 3) ls (V f :: rest))) : W p l e R s m args below meth c H locs cells slots Q (F0 m pc ls (.ref a :: rest)) := by
  obtain ⟨hin, -, -⟩ := hLay 0 C T N h1
  have hts := mLayWs (args := args) hT hin
  obtain ⟨cell, q1, q2, q3, q4⟩ := ho
  obtain ⟨hS, hfc, kC, hkC, hkind⟩ := hK.1 0 _ h1
  obtain ⟨cf, kf, fi, fd, hi, hsl⟩ := hS f h2
  have hst := (u_facts hfc hkC (u_lays hts (fun w h => h) h2) hi).1
  have hv : cell.slots[fd.slot]? = some (V f) := by rw [hsl, q4 f h2]
  have hkn : cell.vm ≠ .unknown := by rw [q3]; exact fun h => by cases h
  exact W.getf hx hb hown (hT.use h5 rfl) (hvia _ hi) hst q1 hkn hv rfl rfl hd kk
theorem r_acopy (hx : p.tables.exec = Jvm.exec) (hb : c.code = cc) (hml : c.maxLocals = ls.size) (hown : s.vm.findClass own = some m.cls) {x : Nat} (hlink : (Cond.methodLink own x arraycopyName).before args s = true) (hnat : (Cond.native arraycopyName).before args s = true) (hstat : (Cond.static arraycopyName).before args s = true) (hini : (Cond.initialized "java/lang/System").before args s = true)
    {a0 a n0 n1 : Nat} {c0 c1 : ClassId} {f : Nat → Option Nat} (h31 : n1 < 2 ^ 31) (hle : n0 ≤ n1) (ha0 : H[a0]? = some (arrV c0 n0 (fun j => va_rf (f j)))) (ha1 : H[a]? = some (arrV c1 n1 (fun _ => va_rf none))) (hr0 : va_RA s c0 rOT) (hr1 : va_RA s c1 rOT) (hel : ∀ j, j < n0 → ∀ y, f j = some y → rEl s H y) (hAa : A a) (hS : va_S A s.heap H locs)
    (hframes : 1 ≤ R.frames) (hlocals : (rest.map fun v => v.category).sum + (nativeFrameWords "java/lang/System" "arraycopy" 5 + 11) ≤ R.locals) (hd : decode cc pc = .ok (.invokestatic x, 3))
    (kk : ∀ (H1 : Heap) (locs1 : List Loc), H1[a]? = some (arrV c1 n1 (fun j => va_rf (if j < n0 then f j else none))) → H1.size = H.size → (∀ q : Nat, q ≠ a → H1[q]? = H[q]?) → va_S A s.heap H1 locs1 → W p l e R s m args below meth c H1 locs1 cells slots Q (F0 m (pc + 3) ls rest)) : W p l e R s m args below meth c H locs cells slots Q (F0 m pc ls (.int (nI n0) :: .int 0 :: .ref a :: .int 0 :: .ref a0 :: rest)) := by
  have e0 : (0 : Int32).toNatClampNeg = 0 := by decide
  have en : (nI n0).toNatClampNeg = n0 := nI_clamp (by omega)
  have ei : (nI n0).toInt = n0 := nI_toInt (by omega)
  obtain ⟨k0, cm0, hk0, hkk0, -, -⟩ := hr0
  obtain ⟨k1, cm1, hk1, hkk1, hcm1, -⟩ := hr1
  intro T hT X
  obtain ⟨vm', X', step⟩ := X.arraycopy hx hown hlink hnat hstat hini (src := a0) (dst := a) (cs := arrV c0 n0 (fun j => va_rf (f j))) (cd := arrV c1 n1 (fun _ => va_rf none)) (srcPos := 0) (destPos := 0) (n := nI n0) (by rw [hT]; exact ha0) (by rw [hT]; exact ha1)
    (fun _ h => by cases h) (fun _ h => by cases h) (fun h => by cases h) (fun h => by cases h) hk0 hk1 hkk0 hkk1 rfl (by decide) (by decide) (nI_pos (by omega))
    (by rw [ei]; show ¬ _ > ((arrV c0 n0 (fun j => va_rf (f j))).slots.size : Int); rw [arrV_size]; show ¬ ((0 : Int32).toInt + _ > _); rw [show (0 : Int32).toInt = 0 from rfl]; omega)
    (by rw [ei]; show ¬ _ > ((arrV c1 n1 (fun _ => va_rf none)).slots.size : Int); rw [arrV_size]; show ¬ ((0 : Int32).toInt + _ > _); rw [show (0 : Int32).toInt = 0 from rfl]; omega)
    (fun vm₁ hal i hi => by
      rw [en] at hi
      have e : (arrV c0 n0 (fun j => va_rf (f j))).slots.getD ((0 : Int32).toNatClampNeg + i) .null = va_rf (f i) := by
        rw [e0, Nat.zero_add, Array.getD_eq_getD_getElem?, arrV_read _ _ hi]
        rfl
      rw [e]
      cases hy : f i with
      | none => exact ⟨rfl, trivial⟩
      | some y =>
        obtain ⟨cellV, g1, g2, ⟨kv, g3⟩, g4⟩ := hel i hi y hy
        obtain ⟨kE, hkE, -⟩ := Vm.findClass_spec hcm1
        obtain ⟨kC', hkC', -⟩ := hal.2.2 _ _ g3
        obtain ⟨kE', hkE', -⟩ := hal.2.2 _ _ hkE
        refine ⟨rfl, cellV, (show T.heap[y]? = some cellV by rw [hT]; exact g1), (fun q h => by rw [h] at g2; cases g2), ⟨kC', hkC'⟩, ⟨kE', hkE'⟩, ?_⟩
        show vm₁.assignable _ _ = true
        rw [hal.assignable]
        exact g4 _ hcm1)
    (g := F0 m pc ls (.int (nI n0) :: .int 0 :: .ref a :: .int 0 :: .ref a0 :: rest)) rfl (by rw [hml]) (rest := rest) rfl (by rw [hb]; exact hd) hframes (by show 2 * 0 + _ + _ ≤ _; omega)
  have e1 : copied (arrV c0 n0 (fun j => va_rf (f j))) (arrV c1 n1 (fun _ => va_rf none)) 0 0 (nI n0) = arrV c1 n1 (fun j => va_rf (if j < n0 then f j else none)) := by
    have h := va_copied (fun z => va_rf z) c0 c1 (n0 := n0) (n1 := n1) (sp := 0) (dp := 0) (n := n0) f (fun _ => none) (by omega)
    show (arrV c1 n1 (fun _ => va_rf none)).storeRun ((0 : Int32).toNatClampNeg) ((arrV c0 n0 (fun j => va_rf (f j))).stretch ((0 : Int32).toNatClampNeg) ((nI n0).toNatClampNeg)) = _
    rw [e0, en]
    refine h.trans ?_
    congr 1
    funext j
    unfold va_cpy
    by_cases hj : j < n0
    · rw [if_pos ⟨Nat.zero_le _, by omega⟩, if_pos hj, Nat.zero_add, Nat.sub_zero]
    · rw [if_neg (fun h => hj (by omega)), if_neg hj]
  rw [e1] at X' step
  have hl : a < H.size := (Array.getElem?_eq_some_iff.mp ha1).1
  have hheap : ((T.setVm vm').setCell a (arrV c1 n1 (fun j => va_rf (if j < n0 then f j else none)))).heap = H.setIfInBounds a (arrV c1 n1 (fun j => va_rf (if j < n0 then f j else none))) := by rw [← hT]; rfl
  have oq : ∀ q : Nat, q ≠ a → (H.setIfInBounds a (arrV c1 n1 (fun j => va_rf (if j < n0 then f j else none))))[q]? = H[q]? := fun q hq => by simp [Array.getElem?_setIfInBounds, Ne.symm hq]
  obtain ⟨t, a1, b1⟩ := kk _ _ (show (H.setIfInBounds a _)[a]? = some _ by simp [Array.getElem?_setIfInBounds, hl]) (by simp) oq ⟨by simp; exact hS.1, fun q g1 g2 => by
      rw [oq q (fun e => g2 (by rw [e]; exact hAa))]
      exact hS.2.1 q g1 g2, fun q hq => by
      rcases List.mem_append.mp hq with h | h
      · exact hS.2.2 q h
      · obtain ⟨z, -, hz⟩ := List.mem_map.mp h
        rw [← hz]
        exact hAa⟩ _ hheap X'
  exact ⟨t, step t a1, b1⟩
end RG

