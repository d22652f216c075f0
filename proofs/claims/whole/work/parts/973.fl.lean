/-! lists: made and begun in one -/
section RI
variable {p : Program} {l : Launch} {e : Env} {R : Room} {s : State} {m : MethodId} {args : Array Value} {below : List Frame} {meth : Method} {c : Code} {Q : State → Prop}
variable {cc : ByteArray} {nL : Nat} {D : va_G} {A F : Nat → Prop} {eb tL tB : Nat} {own : String}
variable {H : Heap} {locs : List Loc} {cells slots pc : Nat} {ls : Array Slot} {rest : List Value}
theorem rCI (hx : p.tables.exec = Jvm.exec) (hb : c.code = cc) (hml : c.maxLocals = nL) (hown : s.vm.findClass own = some m.cls) (hT : mTab s) {y : MethodName} {bytes : ByteArray} {maxL fr lo mc ms n x b : Nat} {As : List Value} {K : State → Prop} {B : Heap → Option Value → State → Prop}
    (w : rW own x y bytes maxL none n) (w6 : y.name = "<init>" ∧ Cond.instanceMethod y ∈ lw_tbl) (hM : rMet l y bytes maxL none fr lo mc ms (.ref b :: As) K F B) (hbl : ∀ (U : State) (g : JFrame) (mk : MethodId) (a : Array Value), K U → K (U.calling g mk a)) (hKK : ∀ U : State, U.heap = H → s.WarmedH U.vm → K U) (hlen : As.length = n) (hls : ls.size = nL) (hFA : ∀ q, F q → A q) (hS : va_S A s.heap H locs)
    (h1 : fr + 1 ≤ R.frames) (h2 : 8 + (maxL + 11) + lo ≤ R.locals) (h3 : cells + mc ≤ R.cells) (h4 : slots + ms ≤ R.slots) (h5 : (rest.map fun v => v.category).sum ≤ 8) (hd : decode cc pc = .ok (.invokespecial x, 3))
    (kk : ∀ (v : Option Value) (t : State) (locs1 : List Loc), t.vm.Alike s.vm → B H v t → H.size ≤ t.heap.size → (∀ q, q < H.size → ¬ F q → t.heap[q]? = H[q]?) → va_S A s.heap t.heap locs1 → W p l e R s m args below meth c t.heap locs1 (cells + mc) (slots + ms) Q (F0 m (pc + 3) ls (v.toList ++ rest))) : W p l e R s m args below meth c H locs cells slots Q (F0 m pc ls (As.reverse ++ .ref b :: rest)) := by
  obtain ⟨w1, w2, w3, w4, w5⟩ := w
  have hroom : 2 * (F0 m pc ls (As.reverse ++ .ref b :: rest)).monitorRoom + (rest.map fun v => v.category).sum ≤ 8 := lv_room h5
  refine rCallW (a := (Value.ref b :: As).toArray) hFA hS ?_ kk
  exact va_runI (n := n) ⟨hx, hb, hml, hown, (fun w h => absurd h List.not_mem_nil : ∀ w ∈ ([] : List Cond), w.before args s = true)⟩ hM ⟨⟨rfl, rfl, h1, h2, (fun w hw a' U hW => by rw [List.mem_singleton.mp hw]; exact (hT.warm hW).use w1 rfl), List.mem_singleton.mpr rfl, hT.use w1 rfl, hT.use w2 rfl, w3, (fun sig hs => by rw [hs] at w4; exact (Option.some.inj w4).symm), hT.use w5 rfl⟩, w6.1, hT.use w6.2 rfl⟩
    ⟨fun a' U g mk h => ⟨h.1, hbl U g mk a' h.2⟩, fun U hU hWm => ⟨rfl, hKK U hU hWm⟩⟩ rfl hlen hls rfl hroom hd ⟨h3, h4⟩
end RI
abbrev yI0 : MethodName := ⟨"java/util/AbstractCollection", "<init>", "()V"⟩
abbrev yI1 : MethodName := ⟨"java/util/AbstractList", "<init>", "()V"⟩
abbrev yI2 : MethodName := ⟨"java/util/ArrayList", "<init>", "()V"⟩
theorem dI00 : decode prog_25_method_1_code 0 = .ok (.aload_n 0, 1) := by decide +kernel
theorem dI01 : decode prog_25_method_1_code 1 = .ok (.invokespecial 1, 3) := by decide +kernel
theorem dI04 : decode prog_25_method_1_code 4 = .ok (.return_, 1) := by decide +kernel
theorem dI10 : decode prog_26_method_1_code 0 = .ok (.aload_n 0, 1) := by decide +kernel
theorem dI11 : decode prog_26_method_1_code 1 = .ok (.invokespecial 1, 3) := by decide +kernel
theorem dI14 : decode prog_26_method_1_code 4 = .ok (.aload_n 0, 1) := by decide +kernel
theorem dI15 : decode prog_26_method_1_code 5 = .ok (.iconst 0, 1) := by decide +kernel
theorem dI16 : decode prog_26_method_1_code 6 = .ok (.putfield 7, 3) := by decide +kernel
theorem dI19 : decode prog_26_method_1_code 9 = .ok (.return_, 1) := by decide +kernel
theorem dI20 : decode prog_27_method_2_code 0 = .ok (.aload_n 0, 1) := by decide +kernel
theorem dI21 : decode prog_27_method_2_code 1 = .ok (.invokespecial 1, 3) := by decide +kernel
theorem dI24 : decode prog_27_method_2_code 4 = .ok (.aload_n 0, 1) := by decide +kernel
theorem dI25 : decode prog_27_method_2_code 5 = .ok (.getstatic 39, 3) := by decide +kernel
theorem dI28 : decode prog_27_method_2_code 8 = .ok (.putfield 9, 3) := by decide +kernel
theorem dI211 : decode prog_27_method_2_code 11 = .ok (.return_, 1) := by decide +kernel
abbrev rO0 (D : va_G) (a : Nat) (w : Value) (H : Heap) : Prop := t_OB a (D.1 0) 3 (D.2 0) H (fun f => match f with
  | 0 => .int 0
  | 1 => w
  | _ => .int 0)
def rK0 (D : va_G) (eb tL tB sz : Nat) (U : State) : Prop := U.heap.size = sz ∧ rG D (fun q => sz ≤ q) eb tL tB U
theorem c_I0 (l : Launch) (D : va_G) (eb tL tB sz a : Nat) : rMet l yI0 prog_25_method_1_code 1 none 1 40 0 0 [.ref a] (rK0 D eb tL tB sz) (fun q => sz ≤ q) (fun _ v _ => v = none) := by
  refine va_MetF (cc := prog_25_method_1_code) (maxL := 1) (ret := none) (by decide +kernel) rfl ?_
  intro p e s m args below meth c s₁ B hml hv
  obtain ⟨rfl, hsz, hT, hK, hSt⟩ := hv
  have hx := B.exec
  have hb := B.bytes
  have hr := B.returns
  have hlocks := B.notSynchronized
  have hown : s.vm.findClass "java/util/AbstractCollection" = some m.cls := findClass_of_methodNamed B.named
  rw [lg_entry_eq]
  have hl := lv_entry ([.ref a]) (n := 1) (Nat.le_of_ble_eq_true rfl)
  have hS : va_S (fun q => sz ≤ q) s.heap s.heap [] := va_S.rf
  refine lv_aload_n hx hb dI00 rfl (lv_at hl 0 rfl) ?_
  refine W.objInit (g := F0 m 1 _ (.ref a :: [])) hx hb hown (hT.use tw_1_102 rfl) (hT.use lw_oi rfl) (hT.use lw_oc rfl) rfl (by rw [hml]; exact hl.1) rfl dI01 (Nat.le_of_ble_eq_true rfl) (Nat.le_of_ble_eq_true rfl) ?_
  exact W.vret hx hb hr (fun t ht hWm => ⟨⟨_, rfl, rfl⟩, hS.F ht⟩) hS.2.2 dI04
def rK1 (D : va_G) (eb tL tB sz a : Nat) (w : Value) (U : State) : Prop := U.heap.size = sz ∧ rG D (fun q => q = a ∨ sz ≤ q) eb tL tB U ∧ rO0 D a w U.heap
theorem rK0.calling {D : va_G} {eb tL tB sz : Nat} (U : State) (fr : JFrame) (mk : MethodId) (v : Array Value) (h : rK0 D eb tL tB sz U) : rK0 D eb tL tB sz (U.calling fr mk v) := ⟨h.1, h.2.calling fr mk v⟩
theorem rK1.calling {D : va_G} {eb tL tB sz a : Nat} {w : Value} (U : State) (fr : JFrame) (mk : MethodId) (v : Array Value) (h : rK1 D eb tL tB sz a w U) : rK1 D eb tL tB sz a w (U.calling fr mk v) := ⟨h.1, h.2.1.calling fr mk v, h.2.2⟩
theorem c_I1 (l : Launch) (D : va_G) (eb tL tB sz a : Nat) (w : Value) : rMet l yI1 prog_26_method_1_code 1 none 2 70 0 0 [.ref a] (rK1 D eb tL tB sz a w) (fun q => q = a ∨ sz ≤ q) (fun _ v t => v = none ∧ rO0 D a w t.heap) := by
  refine va_MetF (cc := prog_26_method_1_code) (maxL := 1) (ret := none) (by decide +kernel) rfl ?_
  intro p e s m args below meth c s₁ B hml hv
  obtain ⟨rfl, hsz, ⟨hT, hK, hSt⟩, hob⟩ := hv
  have hx := B.exec
  have hb := B.bytes
  have hr := B.returns
  have hlocks := B.notSynchronized
  have hown : s.vm.findClass "java/util/AbstractList" = some m.cls := findClass_of_methodNamed B.named
  rw [lg_entry_eq]
  have hl := lv_entry ([.ref a]) (n := 1) (Nat.le_of_ble_eq_true rfl)
  have hS : va_S (fun q => q = a ∨ sz ≤ q) s.heap s.heap [] := va_S.rf
  have haL : a < s.heap.size := by obtain ⟨cell, h, -⟩ := hob; exact (Array.getElem?_eq_some_iff.mp h).1
  have hFA : ∀ q, (fun q => sz ≤ q) q → (fun q => q = a ∨ sz ≤ q) q := fun q hq => Or.inr hq
  refine lv_aload_n hx hb dI10 rfl (lv_at hl 0 rfl) ?_
  refine rCI (y := yI0) (b := a) (As := []) (rest := []) (F := fun q => sz ≤ q) hx hb hml hown hT (n := 0) ⟨tw_1_101, tw_1_5, ⟨by decide, by decide⟩, by decide +kernel, tw_1_99⟩ ⟨rfl, tw_1_100⟩ (c_I0 l D eb tL tB sz a) rK0.calling (fun U hU hWm => ⟨by rw [hU]; exact hsz, rG.call hT hK hSt hFA hS hU hWm⟩) rfl hl.1 hFA hS (Nat.le_of_ble_eq_true rfl) (Nat.le_of_ble_eq_true rfl) (Nat.le_refl _) (Nat.le_refl _) (Nat.zero_le _) dI11 (fun v t locs1 hal hB hz hk hS1 => ?_)
  subst hB
  have hob1 : rO0 D a w t.heap := hob.kept (hk a haL (by show ¬ sz ≤ a; omega))
  refine lv_aload_n hx hb dI14 rfl (lv_at hl 0 rfl) ?_
  refine lv_iconst hx hb dI15 rfl ?_
  refine r_putL hx hb hown hT hK mLay_ok (x := 7) (f := 0) rfl (by decide) rfl (ty := .int) (by decide +kernel) tw_1_107 (fun _ h => h) hob1 rfl rfl dI16 (fun H2 j ho2 z2 o2 => ?_)
  have hS2 := hS1.put (k := j) z2 o2 (Or.inl rfl)
  refine W.vret hx hb hr (fun t2 ht hWm => ⟨⟨_, rfl, rfl, ?_⟩, hS2.F ht⟩) hS2.2.2 dI19
  rw [ht]
  refine ho2.to (fun f hf => ?_)
  unfold updV
  match f with
  | 0 => rfl
  | 1 => rfl
  | f + 2 => rfl
theorem c_I2 (l : Launch) (D : va_G) (eb tL tB sz a : Nat) (w : Value) : rMet l yI2 prog_27_method_2_code 1 none 3 100 0 0 [.ref a] (rK1 D eb tL tB sz a w) (fun q => q = a ∨ sz ≤ q) (fun _ v t => v = none ∧ rO0 D a (.ref eb) t.heap) := by
  refine va_MetF (cc := prog_27_method_2_code) (maxL := 1) (ret := none) (by decide +kernel) rfl ?_
  intro p e s m args below meth c s₁ B hml hv
  obtain ⟨rfl, hsz, ⟨hT, hK, hSt⟩, hob⟩ := hv
  have hx := B.exec
  have hb := B.bytes
  have hr := B.returns
  have hlocks := B.notSynchronized
  have hown : s.vm.findClass "java/util/ArrayList" = some m.cls := findClass_of_methodNamed B.named
  rw [lg_entry_eq]
  have hl := lv_entry ([.ref a]) (n := 1) (Nat.le_of_ble_eq_true rfl)
  have hS : va_S (fun q => q = a ∨ sz ≤ q) s.heap s.heap [] := va_S.rf
  refine lv_aload_n hx hb dI20 rfl (lv_at hl 0 rfl) ?_
  refine rCI (y := yI1) (b := a) (As := []) (rest := []) (F := fun q => q = a ∨ sz ≤ q) hx hb hml hown hT (n := 0) ⟨tw_1_98, tw_1_6, ⟨by decide, by decide⟩, by decide +kernel, tw_1_96⟩ ⟨rfl, tw_1_97⟩ (c_I1 l D eb tL tB sz a w) rK1.calling (fun U hU hWm => ⟨by rw [hU]; exact hsz, rG.call hT hK hSt (fun _ h => h) hS hU hWm, by rw [hU]; exact hob⟩) rfl hl.1 (fun _ h => h) hS (Nat.le_of_ble_eq_true rfl) (Nat.le_of_ble_eq_true rfl) (Nat.le_refl _) (Nat.le_refl _) (Nat.zero_le _) dI21 (fun v t locs1 hal hB hz hk hS1 => ?_)
  obtain ⟨rfl, hob1⟩ := hB
  refine lv_aload_n hx hb dI24 rfl (lv_at hl 0 rfl) ?_
  refine va_gets hx hb hSt.1 hS1 hown (hT.use tw_1_103 rfl) (fun _ h9 => h9) dI25 ?_
  refine r_putL hx hb hown hT hK mLay_ok (x := 9) (f := 1) rfl (by decide) rfl (ty := .array rOT) (by decide +kernel) tw_1_105 (fun _ h => h) hob1 rfl rfl dI28 (fun H2 j ho2 z2 o2 => ?_)
  have hS2 := hS1.put (k := j) z2 o2 (Or.inl rfl)
  refine W.vret hx hb hr (fun t2 ht hWm => ⟨⟨_, rfl, rfl, ?_⟩, hS2.F ht⟩) hS2.2.2 dI211
  rw [ht]
  refine ho2.to (fun f hf => ?_)
  unfold updV
  match f with
  | 0 => rfl
  | 1 => rfl
  | f + 2 => rfl
def mAdL (ad : Nat → Nat → Nat) (kd a eb : Nat) : Nat → Nat → Nat := fun x y => if x = kd ∧ y = 0 then a else if x = 1000 + kd ∧ y = 0 then eb else ad x y
theorem mWd_newL {U : State} {D : va_G} {A : Nat → Prop} {eb tL tB : Nat} {ad0 : Nat → Nat → Nat} {σ0 : MSto} {ad : Nat → Nat → Nat} {σ : MSto} {H H' : Heap} {kd : Nat} (h : mWd U D A eb tL tB ad0 σ0 ad σ H) (hml : mList kd) (hkt : ∃ fs, KT kd = some (.inl (0, fs))) (h0 : gN σ kd = 0) (hAf : A H.size) (hz : H.size < H'.size) (oq : ∀ q, q < H.size → H'[q]? = H[q]?) (hob : rO0 D H.size (.ref eb) H') :
    mWd U D A eb tL tB ad0 σ0 (mAdL ad kd H.size eb) (sNew σ kd) H' := by
  obtain ⟨g1, g2, g3, g4, g5, g6, g7, g8, g9, g10⟩ := h
  obtain ⟨fs, hkt⟩ := hkt
  have hkb : 14 ≤ kd ∧ kd ≤ 18 := hml
  have had : ∀ a b, b < gN σ a → mAdL ad kd H.size eb a b = ad a b := by
    intro a b hb
    have := mAt_lt (g1 a b hb)
    unfold mAdL
    rw [if_neg (fun e => by rw [e.1, h0] at hb; omega), if_neg (fun e => by omega)]
  have hs : ∀ a b, ¬ (a = kd ∧ b = 0) → mSame σ (sNew σ kd) a b := by
    intro a b hne j
    rw [gI_sNew, gJ_sNew, gR_sNew, h0, if_neg hne, if_neg hne, if_neg hne]
    exact ⟨rfl, rfl, rfl⟩
  have hup : ∀ a b, b < gN (sNew σ kd) a → (a = kd ∧ b = 0) ∨ (b < gN σ a ∧ a ≠ kd) := by
    intro a b hb
    rw [gN_sNew] at hb
    by_cases e : a = kd
    · rw [if_pos e, h0] at hb; exact Or.inl ⟨e, by omega⟩
    · rw [if_neg e] at hb; exact Or.inr ⟨hb, e⟩
  have hself : mAdL ad kd H.size eb kd 0 = H.size := by unfold mAdL; rw [if_pos ⟨rfl, rfl⟩]
  have helem : mAdL ad kd H.size eb (1000 + kd) 0 = eb := by unfold mAdL; rw [if_neg (fun e => by omega), if_pos ⟨rfl, rfl⟩]
  have ho : ∀ a b, mOwn (sNew σ kd) a b → (a = kd ∧ b = 0) ∨ (mOwn σ a b ∧ a ≠ kd ∧ mAdL ad kd H.size eb a b = ad a b) := by
    intro a b hab
    rcases hab with ⟨q1, q2, q3, q4, q5⟩ | ⟨l, q1, q2, q3, q4, q5⟩
    · rcases hup a b q5 with q | ⟨q, q'⟩
      · exact Or.inl q
      · exact Or.inr ⟨Or.inl ⟨q1, q2, q3, q4, q⟩, q', had a b q⟩
    · have hlk : l ≠ kd := by
        intro e
        rw [e, gI_sNew, h0, if_pos ⟨rfl, rfl⟩] at q5
        exact q5 rfl
      have hlb : 14 ≤ l ∧ l ≤ 18 := q1
      rw [gN_sNew, if_neg hlk] at q4
      rw [gI_sNew, if_neg (fun e => hlk e.1)] at q5
      refine Or.inr ⟨Or.inr ⟨l, q1, q2, q3, q4, q5⟩, by omega, ?_⟩
      unfold mAdL
      rw [if_neg (fun e => by omega), if_neg (fun e => by omega)]
  have hmono := gN_sNew_le σ kd
  have hclosed : mClosed (sNew σ kd) := by
    refine ⟨fun a b j x hb hx => ?_, fun a b ci' fs' f t hb hkt' hci hf => ?_, fun a ha => ?_⟩
    · rw [gR_sNew, h0] at hx
      by_cases he : a = kd ∧ b = 0
      · rw [if_pos he] at hx; cases hx
      · rw [if_neg he] at hx
        rcases hup a b hb with q | ⟨q, -⟩
        · exact absurd q he
        · exact Nat.lt_of_lt_of_le (g4.1 a b j x q hx) (hmono _)
    · rcases hup a b hb with ⟨rfl, rfl⟩ | ⟨q, -⟩
      · rw [hkt] at hkt'
        cases hkt'
        exact absurd rfl hci
      · exact Nat.lt_of_lt_of_le (g4.2.1 a b ci' fs' f t q hkt' hci hf) (hmono _)
    · rw [gN_sNew]
      by_cases e : a = kd
      · rw [if_pos e, h0]; exact Nat.le_refl _
      · rw [if_neg e]; exact g4.2.2 a ha
  refine ⟨fun a b hb => ?_, fun a b c d q1 q2 q3 => ?_, fun a b q => ?_, hclosed, g5, ?_, ?_, ?_, ?_, ?_⟩
  · rcases hup a b hb with ⟨rfl, rfl⟩ | ⟨q, hne⟩
    · have hm : mAt U D A eb (mAdL ad a H.size eb) (sNew σ a) a 0 H' = mLAt U D A eb (mAdL ad a H.size eb) (sNew σ a) a 0 H' := by
        unfold mAt
        rw [hkt]
        exact if_pos rfl
      rw [hm]
      refine ⟨?_, 0, 0, Nat.le_refl _, Nat.zero_le _, ?_, Or.inl ⟨rfl, helem, rfl⟩⟩
      · rw [hself]
        refine hob.to (fun f hf => ?_)
        rcases (show f = 0 ∨ f = 1 ∨ f = 2 by omega) with rfl | rfl | rfl
        · show Value.int 0 = Value.int _
          rw [gI_sNew, h0, if_pos ⟨rfl, rfl⟩]
        · show Value.ref eb = Value.ref _
          rw [helem]
        · show Value.int 0 = Value.int _
          rw [gI_sNew, h0, if_pos ⟨rfl, rfl⟩]
      · rw [gI_sNew, h0, if_pos ⟨rfl, rfl⟩]; rfl
    · have hb2 := g1 a b q
      have ha := mAt_lt hb2
      have hlt : ad a b < H.size := by
        by_cases hsp : a = 95 ∨ a = 96 ∨ a = 97
        · rcases hsp with rfl | rfl | rfl
          · obtain ⟨cell, g1, -⟩ := (show va_T .int (ad 95 b) 7 (fun j => .int (gI σ 95 b j)) A U H from hb2)
            exact (Array.getElem?_eq_some_iff.mp g1).1
          · obtain ⟨cell, g1, -⟩ := (show va_T .int (ad 96 b) 5 (fun j => .int (gI σ 96 b j)) A U H from hb2)
            exact (Array.getElem?_eq_some_iff.mp g1).1
          · obtain ⟨L, -, -, ⟨scr, g1, -⟩, -⟩ := (show ∃ L : Nat, gI σ 97 1 0 = nI L ∧ L < 2 ^ 31 ∧ va_X (ad 97 b) L (fun j => gI σ 97 b j) U H ∧ ¬ A (ad 97 b) from hb2)
            exact (Array.getElem?_eq_some_iff.mp g1).1
        · exact (g3 a b (Or.inl ⟨by omega, fun e => hsp (Or.inl e), fun e => hsp (Or.inr (Or.inl e)), fun e => hsp (Or.inr (Or.inr e)), q⟩)).2
      refine mAt_congr (Vm.Alike.refl _) g4 q (hs a b (fun e => hne e.1)) (fun _ => (hs 97 1 (fun e => by omega) 0).1) had (fun hl => ?_) (oq _ hlt) (fun hl hne2 => ?_) (fun h => mAt_nA hb2 h) hb2
      · unfold mAdL
        rw [if_neg (fun e => by omega), if_neg (fun e => by omega)]
      · have hl1 := g4.2.2 a hl
        have hi0 : b = 0 := by omega
        subst hi0
        exact oq _ (g3 (1000 + a) 0 (Or.inr ⟨a, hl, rfl, rfl, q, hne2⟩)).2
  · rcases ho a b q1 with ⟨rfl, rfl⟩ | ⟨o1, n1, e1⟩ <;> rcases ho c d q2 with ⟨rfl, rfl⟩ | ⟨o2, n2, e2⟩
    · exact ⟨rfl, rfl⟩
    · rw [hself, e2] at q3
      have := (g3 c d o2).2
      omega
    · rw [hself, e1] at q3
      have := (g3 a b o1).2
      omega
    · rw [e1, e2] at q3
      exact g2 a b c d o1 o2 q3
  · rcases ho a b q with ⟨rfl, rfl⟩ | ⟨o1, n1, e1⟩
    · rw [hself]; exact ⟨hAf, hz⟩
    · rw [e1]; exact ⟨(g3 a b o1).1, by have := (g3 a b o1).2; omega⟩
  · rw [had 95 0 (by omega)]; exact g6
  · rw [had 96 0 (by omega)]; exact g7
  · rw [gN_sNew, if_neg (by omega)]; exact g8
  · rw [gN_sNew, if_neg (by omega)]; exact g9
  · exact ⟨fun a b hb => ⟨Nat.lt_of_lt_of_le (g10.1 a b hb).1 (hmono a), (had a b (g10.1 a b hb).1).trans (g10.1 a b hb).2⟩, by rw [gN_sNew, if_neg (by omega)]; exact g10.2⟩
def S_newL (kd : Nat) : List MV → MSto → Option Prop × Option MV × MSto := fun as σ => match as with
  | [] => (some (gN σ kd = 0), some (mR kd 0), sNew σ kd)
  | _ => (some False, none, σ)
def E_newL (kd : Nat) : MEnt := ((0, 0, 0), (4, 140, 1, 3), S_newL kd, (yI2, prog_27_method_2_code, 1, none))
theorem fus_list {l : Launch} {own : String} {cc : ByteArray} {pc x ix kd : Nat} (hk : (Nat.ble 14 kd && Nat.ble kd 18) = true)
    (hd0 : decode cc pc = .ok (.new x, 3)) (hd3 : decode cc (pc + 3) = .ok (.dup, 1)) (hd4 : decode cc (pc + 4) = .ok (.invokespecial ix, 3)) (w1 : Cond.classLink own x "java/util/ArrayList" ∈ lw_tbl) (w2 : Cond.methodLink own ix yI2 ∈ lw_tbl) : mFusOK l own cc pc (pc + 7) (E_newL kd) := by
  intro p e R s m args below meth c Q nL D A eb tL tB ad0 σ0 c0 s0 P L S σ c1 s1 kk r X hLay hRm h7 hk9 h
  obtain ⟨⟨r1, r2, r3, r4, r5⟩, pr, rv, σ', hF, hpr, h⟩ := mCall_inv h
  cases hF
  have h0 : gN σ kd = 0 := hpr _ rfl
  obtain ⟨hx, hb, hml, hown, hT, hK, hSt, hA, hini⟩ := id X
  obtain ⟨hml2, hkt⟩ := AL_k hk
  obtain ⟨u1, u2, u3, u4⟩ := hRm
  intro ad H locs ls hW hS hv hL
  have hKn := hK.1 0 _ rfl
  obtain ⟨hin, hnm, ty0, hty⟩ := hLay 0 _ _ _ rfl
  have hts := mLayWs (args := args) hT hin
  have v1 : c1 + 1 ≤ (pRoom P).2.2.1 := r3
  have v2 : s1 + 3 ≤ (pRoom P).2.2.2 := r4
  have v3 : 5 ≤ (pRoom P).1 := r1
  have v4 : 160 ≤ (pRoom P).2.1 := r2
  refine W.newcK hx hb hown (hT.use w1 rfl) (hT.use tw_1_92 rfl) (hT.use tw_1_7 rfl) rfl hd0 (by show c0 + c1 + 1 ≤ R.cells; omega) (by show s0 + s1 + 3 ≤ R.slots; omega) hKn.2.1 rfl fun H1 kC hkC e1 z1 o1 => ?_
  have hob := u_born ty0 hts (fun w h => h) hKn hkC e1 hty
  have hob1 : rO0 D H.size .null H1 := hob.to (fun f hf => by
    have h9 := hty f hf
    rcases (show f = 0 ∨ f = 1 ∨ f = 2 by omega) with rfl | rfl | rfl
    · have : ty0 0 = .int := Option.some.inj (h9.symm.trans (by decide +kernel))
      rw [this]; rfl
    · have : ty0 1 = .array rOT := Option.some.inj (h9.symm.trans (by decide +kernel))
      rw [this]; rfl
    · have : ty0 2 = .int := Option.some.inj (h9.symm.trans (by decide +kernel))
      rw [this]; rfl)
  have hS1 : va_S A s.heap H1 locs := ⟨Nat.le_trans hS.1 (by omega), fun q h1 h2 => (o1 q (Nat.lt_of_lt_of_le h1 hS.1)).trans (hS.2.1 q h1 h2), hS.2.2⟩
  refine lv_dup hx hb hd3 rfl ?_
  have hFA : ∀ q, (fun q => q = H.size ∨ H1.size ≤ q) q → A q := fun q hq => by
    rcases hq with rfl | hq
    · exact hA _ hS.1
    · exact hA _ (by have := hS.1; omega)
  refine rCI (y := yI2) (b := H.size) (As := []) (rest := .ref H.size :: S.map (mVal ad)) (F := fun q => q = H.size ∨ H1.size ≤ q) hx hb hml hown hT (n := 0) ⟨tw_1_95, tw_1_7, ⟨by decide, by decide⟩, by decide +kernel, w2⟩ ⟨rfl, tw_1_94⟩ (c_I2 l D eb tL tB H1.size H.size .null) rK1.calling (fun U hU hWm => ⟨by rw [hU], rG.call hT hK hSt hFA hS1 hU hWm, by rw [hU]; exact hob1⟩) rfl hL.1 hFA hS1 (by omega) (by omega) (by show c0 + c1 + 1 + 0 ≤ R.cells; omega) (by show s0 + s1 + 3 + 0 ≤ R.slots; omega) ?_ hd4 (fun v t locs1 hal hB hz hk2 hS2 => ?_)
  · rw [List.map_cons, List.sum_cons, mcat_sum]
    show 1 + _ ≤ 8
    have h77 : (List.map mcat ((pc, L, S, σ, c1, s1) : MST).2.2.1).sum ≤ 7 := h7
    have h78 : (List.map mcat S).sum ≤ 7 := h77
    omega
  · obtain ⟨rfl, hob2⟩ := hB
    have hW2 := mWd_newL hW hml2 hkt h0 (hA _ hS.1) (by omega) (fun q hq => (hk2 q (by omega) (fun h9 => by rcases h9 with h9 | h9 <;> omega)).trans (o1 q hq)) hob2
    have had : ∀ a b, b < gN σ a → mAdL ad kd H.size eb a b = ad a b := by
      intro a b hb9
      have := mAt_lt (hW.1 a b hb9)
      unfold mAdL
      have hkb : 14 ≤ kd ∧ kd ≤ 18 := hml2
      rw [if_neg (fun e => by rw [e.1, h0] at hb9; omega), if_neg (fun e => by omega)]
    have hg := hk9 _ h (mAdL ad kd H.size eb) t.heap locs1 ls hW2 hS2 ⟨mlC (show 0 < gN (sNew σ kd) kd by rw [gN_sNew, if_pos rfl]; omega) (fun v hv' => mLive_mono (gN_sNew_le σ kd) (hv.1 v hv')), fun i v hv' => mLive_mono (gN_sNew_le σ kd) (hv.2 i v hv')⟩ (mLs_ext had hv.2 hL)
    refine W_cs hg (by show c0 + (c1 + 1) = c0 + c1 + 1 + 0; omega) (by show s0 + (s1 + 3) = s0 + s1 + 3 + 0; omega) ?_
    show F0 m _ ls (Value.ref (mAdL ad kd H.size eb kd 0) :: S.map (mVal (mAdL ad kd H.size eb))) = F0 m _ ls (Value.ref H.size :: S.map (mVal ad))
    rw [mMap_ext had hv.1]
    unfold mAdL
    rw [if_pos ⟨rfl, rfl⟩]

