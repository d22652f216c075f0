/-! lists: newLength, copyOf -/
def rNL (a b c : Int32) : Int32 := a + (if b < c then c else b)
abbrev yNL : MethodName := ⟨"jdk/internal/util/ArraysSupport", "newLength", "(III)I"⟩
theorem dNl0 : decode prog_35_method_27_code 0 = .ok (.iload_n 0, 1) := by decide +kernel
theorem dNl1 : decode prog_35_method_27_code 1 = .ok (.iload_n 1, 1) := by decide +kernel
theorem dNl2 : decode prog_35_method_27_code 2 = .ok (.iload_n 2, 1) := by decide +kernel
theorem dNl3 : decode prog_35_method_27_code 3 = .ok (.invokestatic 194, 3) := by decide +kernel
theorem dNl6 : decode prog_35_method_27_code 6 = .ok (.iadd, 1) := by decide +kernel
theorem dNl7 : decode prog_35_method_27_code 7 = .ok (.istore_n 3, 1) := by decide +kernel
theorem dNl8 : decode prog_35_method_27_code 8 = .ok (.iconst 0, 1) := by decide +kernel
theorem dNl9 : decode prog_35_method_27_code 9 = .ok (.iload_n 3, 1) := by decide +kernel
theorem dNl10 : decode prog_35_method_27_code 10 = .ok (.if_icmp .ge 11, 3) := by decide +kernel
theorem dNl13 : decode prog_35_method_27_code 13 = .ok (.iload_n 3, 1) := by decide +kernel
theorem dNl14 : decode prog_35_method_27_code 14 = .ok (.ldc 200, 2) := by decide +kernel
theorem dNl16 : decode prog_35_method_27_code 16 = .ok (.if_icmp .gt 5, 3) := by decide +kernel
theorem dNl19 : decode prog_35_method_27_code 19 = .ok (.iload_n 3, 1) := by decide +kernel
theorem dNl20 : decode prog_35_method_27_code 20 = .ok (.ireturn, 1) := by decide +kernel
theorem c_NL (l : Launch) (D : va_G) (F : Nat → Prop) (eb tL tB : Nat) {a b d : Int32} (h0 : ¬ rNL a b d ≤ 0) (h1 : ¬ 2147483639 < rNL a b d) : rMet l yNL prog_35_method_27_code 4 (some .int) 1 24 0 0 [.int a, .int b, .int d] (rG D F eb tL tB) F (fun _ v _ => v = some (.int (rNL a b d))) := by
  refine va_MetF (cc := prog_35_method_27_code) (maxL := 4) (ret := some .int) (by decide +kernel) rfl ?_
  intro p e s m args below meth c s₁ B hml hv
  obtain ⟨rfl, hT, hK, hSt⟩ := hv
  have hx := B.exec
  have hb := B.bytes
  have hr := B.returns
  have hown : s.vm.findClass "jdk/internal/util/ArraysSupport" = some m.cls := findClass_of_methodNamed B.named
  rw [lg_entry_eq]
  have hl := lv_entry ([.int a, .int b, .int d]) (n := 4) (Nat.le_of_ble_eq_true rfl)
  have hS : va_S F s.heap s.heap [] := va_S.rf
  refine lv_iload_n hx hb dNl0 rfl (lv_at hl 0 rfl) ?_
  refine lv_iload_n hx hb dNl1 rfl (lv_at hl 1 rfl) ?_
  refine lv_iload_n hx hb dNl2 rfl (lv_at hl 2 rfl) ?_
  refine va_mmax hx hb (hml.trans hl.1.symm) hown (hT.use tw_2_137 rfl) (hT.use tw_2_138 rfl) (hT.use tw_1_10 rfl) (hT.use tw_2_139 rfl) (Nat.le_of_ble_eq_true rfl) (Nat.le_of_ble_eq_true rfl) (Nat.zero_le _) (Nat.zero_le _) dNl3 ?_
  refine lv_iadd hx hb dNl6 ?_
  refine lv_istore_n hx hb dNl7 rfl hl (by omega) rfl (fun ls1 hl1 => ?_)
  refine lv_iconst hx hb dNl8 rfl ?_
  refine lv_iload_n hx hb dNl9 rfl (lv_at hl1 0 rfl) ?_
  refine lv_icmp_ge hx hb dNl10 (show ((10 : Nat) : Int) + 11 = ((21 : Nat) : Int) by decide) (fun hc => absurd hc h0) (fun _ => ?_)
  refine lv_iload_n hx hb dNl13 rfl (lv_at hl1 0 rfl) ?_
  refine lv_ldc hx hb hown (hT.use tw_2_140 rfl) dNl14 ?_
  refine lv_icmp_gt hx hb dNl16 (show ((16 : Nat) : Int) + 5 = ((21 : Nat) : Int) by decide) (fun hc => absurd hc h1) (fun _ => ?_)
  refine lv_iload_n hx hb dNl19 rfl (lv_at hl1 0 rfl) ?_
  exact W.zret hx hb hr rfl (fun t ht hWm => ⟨⟨_, rfl, rfl⟩, hS.F ht⟩) hS.2.2 dNl20
/-- what stands at an array of Objects -/
def rArr (V : State) (H : Heap) (a n : Nat) (g : Nat → Option Nat) : Prop := ∃ cA : ClassId, ArrOfT V cA rOT ∧ va_RA V cA rOT ∧ H[a]? = some (arrV cA n (fun j => va_rf (g j)))
theorem rArr.moved {V U : State} {H H' : Heap} {a n : Nat} {g : Nat → Option Nat} (hvm : V.vm.Alike U.vm) (hq : H'[a]? = H[a]?) (h : rArr V H a n g) : rArr U H' a n g := by
  obtain ⟨cA, h1, h2, h3⟩ := h
  exact ⟨cA, arrOfT_moved hvm h1, h2.moved hvm, hq.trans h3⟩
/-- what a copy asks -/
def rKc (D : va_G) (eb tL tB sz a0 n0 mi : Nat) (g : Nat → Option Nat) (U : State) : Prop := U.heap.size = sz ∧ rG D (fun q => sz ≤ q) eb tL tB U ∧ rArr U U.heap a0 n0 g ∧ (∀ j, j < n0 → ∀ y, g j = some y → rEl U U.heap y) ∧ va_Mi "[Ljava/lang/Object;" mi U
theorem rKc.calling {D : va_G} {eb tL tB sz a0 n0 mi : Nat} {g : Nat → Option Nat} (U : State) (fr : JFrame) (mk : MethodId) (a : Array Value) (h : rKc D eb tL tB sz a0 n0 mi g U) : rKc D eb tL tB sz a0 n0 mi g (U.calling fr mk a) :=
  ⟨h.1, h.2.1.calling fr mk a, h.2.2.1.moved (V := U) (U := U.calling fr mk a) (Vm.Alike.refl U.vm) rfl, fun j hj y hy => (h.2.2.2.1 j hj y hy).moved (U := U) (U' := U.calling fr mk a) (Vm.Alike.refl U.vm) rfl, h.2.2.2.2.moved (u := U) (U := U.calling fr mk a) (Vm.Alike.refl U.vm)⟩
abbrev rBc (n0 n1 : Nat) (g : Nat → Option Nat) : Heap → Option Value → State → Prop := fun H v t => v = some (.ref H.size) ∧ H.size < t.heap.size ∧ rArr t t.heap H.size n1 (fun j => if j < n0 then g j else none)
abbrev yC3 : MethodName := ⟨"java/util/Arrays", "copyOf", "([Ljava/lang/Object;ILjava/lang/Class;)[Ljava/lang/Object;"⟩
theorem dCo0 : decode prog_28_method_120_code 0 = .ok (.aload_n 2, 1) := by decide +kernel
theorem dCo1 : decode prog_28_method_120_code 1 = .ok (.ldc 110, 2) := by decide +kernel
theorem dCo3 : decode prog_28_method_120_code 3 = .ok (.if_acmp .ne 10, 3) := by decide +kernel
theorem dCo6 : decode prog_28_method_120_code 6 = .ok (.iload_n 1, 1) := by decide +kernel
theorem dCo7 : decode prog_28_method_120_code 7 = .ok (.anewarray 2, 3) := by decide +kernel
theorem dCo10 : decode prog_28_method_120_code 10 = .ok (.goto 14, 3) := by decide +kernel
theorem dCo24 : decode prog_28_method_120_code 24 = .ok (.astore_n 3, 1) := by decide +kernel
theorem dCo25 : decode prog_28_method_120_code 25 = .ok (.aload_n 0, 1) := by decide +kernel
theorem dCo26 : decode prog_28_method_120_code 26 = .ok (.iconst 0, 1) := by decide +kernel
theorem dCo27 : decode prog_28_method_120_code 27 = .ok (.aload_n 3, 1) := by decide +kernel
theorem dCo28 : decode prog_28_method_120_code 28 = .ok (.iconst 0, 1) := by decide +kernel
theorem dCo29 : decode prog_28_method_120_code 29 = .ok (.aload_n 0, 1) := by decide +kernel
theorem dCo30 : decode prog_28_method_120_code 30 = .ok (.arraylength, 1) := by decide +kernel
theorem dCo31 : decode prog_28_method_120_code 31 = .ok (.iload_n 1, 1) := by decide +kernel
theorem dCo32 : decode prog_28_method_120_code 32 = .ok (.invokestatic 304, 3) := by decide +kernel
theorem dCo35 : decode prog_28_method_120_code 35 = .ok (.invokestatic 150, 3) := by decide +kernel
theorem dCo38 : decode prog_28_method_120_code 38 = .ok (.aload_n 3, 1) := by decide +kernel
theorem dCo39 : decode prog_28_method_120_code 39 = .ok (.areturn, 1) := by decide +kernel
theorem c_C3 (l : Launch) (D : va_G) (eb tL tB sz a0 n0 n1 mi : Nat) (g : Nat → Option Nat) (hn : n0 ≤ n1) (hn1 : n1 ≤ 1000) : rMet l yC3 prog_28_method_120_code 4 (some (.array rOT)) 1 60 1 n1 [.ref a0, .int (nI n1), .ref mi] (rKc D eb tL tB sz a0 n0 mi g) (fun q => sz ≤ q) (rBc n0 n1 g) := by
  refine va_MetF (cc := prog_28_method_120_code) (maxL := 4) (ret := some (.array rOT)) (by decide +kernel) rfl ?_
  intro p e s m args below meth c s₁ B hml hv
  obtain ⟨rfl, hsz, ⟨hT, hK, hSt⟩, ⟨cA0, ga1, ga2, ga3⟩, hel, hMi⟩ := hv
  have hx := B.exec
  have hb := B.bytes
  have hr := B.returns
  have hown : s.vm.findClass "java/util/Arrays" = some m.cls := findClass_of_methodNamed B.named
  rw [lg_entry_eq]
  have hl := lv_entry ([.ref a0, .int (nI n1), .ref mi]) (n := 4) (Nat.le_of_ble_eq_true rfl)
  have hS : va_S (fun q => sz ≤ q) s.heap s.heap [] := va_S.rf
  refine lv_aload_n hx hb dCo0 rfl (lv_at hl 2 rfl) ?_
  refine va_ldcM hx hb hown (hT.use tw_2_169 rfl) hMi dCo1 ?_
  refine lv_acmp_ne (rx := some mi) (ry := some mi) hx hb dCo3 (show ((3 : Nat) : Int) + 10 = ((13 : Nat) : Int) by decide) (fun hc => absurd rfl hc) (fun _ => ?_)
  refine lv_iload_n hx hb dCo6 rfl (lv_at hl 1 rfl) ?_
  have ecl : (nI n1).toNatClampNeg = n1 := nI_clamp (by omega)
  refine W.anew hx hb hown (hT.use tw_2_171 rfl) (hT.use tw_2_170 rfl) rfl dCo7 rfl (nI_pos (by omega)) (by rw [ecl]; omega) (Nat.le_refl _) (by rw [ecl]; show 0 + n1 ≤ n1; omega) fun cA kA comp f1 f2 f3 f4 => ?_
  rw [ecl]
  generalize hH1 : s.heap.push ({ cls := cA, slots := Array.replicate n1 .null, vm := .none } : Cell) = H1
  have z1 : H1.size = s.heap.size + 1 := by rw [← hH1, Array.size_push]
  have e1 : H1[s.heap.size]? = some (arrV cA n1 (fun _ => va_rf none)) := by rw [← hH1, Array.getElem?_push_size, ← arrV_new]; rfl
  have o1 : ∀ q : Nat, q < s.heap.size → H1[q]? = s.heap[q]? := fun q hq => by rw [← hH1, Array.getElem?_push, if_neg (Nat.ne_of_lt hq)]
  have hAr : ArrOfT s cA rOT := fun N z => ⟨(fun k h => by cases h), kA, f2, comp, f3⟩
  have hRA : va_RA s cA rOT := ⟨kA, comp, f2, f3, f4, f1⟩
  have hS1 : va_S (fun q => sz ≤ q) s.heap H1 [] := ⟨by omega, fun q h1 _ => o1 q h1, fun q hq => by cases hq⟩
  have hlt0 : a0 < s.heap.size := (Array.getElem?_eq_some_iff.mp ga3).1
  have ga4 : H1[a0]? = some (arrV cA0 n0 (fun j => va_rf (g j))) := (o1 _ hlt0).trans ga3
  refine lv_goto hx hb dCo10 (show ((10 : Nat) : Int) + 14 = ((24 : Nat) : Int) by decide) ?_
  refine lv_astore_n hx hb dCo24 rfl hl (by omega) rfl (fun ls1 hl1 => ?_)
  refine lv_aload_n hx hb dCo25 rfl (lv_at hl1 1 rfl) ?_
  refine lv_iconst hx hb dCo26 rfl ?_
  refine lv_aload_n hx hb dCo27 rfl (lv_at hl1 0 rfl) ?_
  refine lv_iconst hx hb dCo28 rfl ?_
  refine lv_aload_n hx hb dCo29 rfl (lv_at hl1 1 rfl) ?_
  refine W.alen hx hb ga4 (ga1 _ _) (n := nI n0) (by rw [arrV_size]; rfl) rfl rfl dCo30 ?_
  refine lv_iload_n hx hb dCo31 rfl (lv_at hl1 2 rfl) ?_
  refine va_mmin hx hb (hml.trans hl1.1.symm) hown (hT.use tw_2_172 rfl) (hT.use tw_2_13 rfl) (hT.use tw_1_10 rfl) (hT.use tw_2_14 rfl) (Nat.le_of_ble_eq_true rfl) (Nat.le_of_ble_eq_true rfl) (Nat.le_refl _) (by show 0 + n1 ≤ n1; omega) dCo32 ?_
  have emin : (if nI n1 < nI n0 then nI n1 else nI n0) = nI n0 := if_neg (nI_nlt (by omega) (by omega))
  rw [emin]
  refine r_acopy hx hb (hml.trans hl1.1.symm) hown (hT.use tw_2_173 rfl) (hT.use tw_2_175 rfl) (hT.use tw_2_174 rfl) (hT.use tw_1_14 rfl) (by omega) hn ga4 e1 ga2 hRA (fun j hj y hy => ?_) (show sz ≤ s.heap.size by omega) hS1 (Nat.le_of_ble_eq_true rfl) (by show 0 + (nativeFrameWords "java/lang/System" "arraycopy" 5 + 11) ≤ 60; decide) dCo35 (fun H2 locs2 e2 z2 o2 hS2 => ?_)
  · have h9 := hel j hj y hy
    exact h9.moved (Vm.Alike.refl _) (o1 y (by obtain ⟨cell, h, -⟩ := h9; exact (Array.getElem?_eq_some_iff.mp h).1))
  · refine lv_aload_n hx hb dCo38 rfl (lv_at hl1 0 rfl) ?_
    refine W.widen (k := 1) (n := n1) (Nat.le_refl _) (by show 0 + n1 ≤ n1; omega) ?_
    refine W.aret hx hb hr (Or.inr ⟨_, rfl⟩) (Or.inr ⟨_, rfl⟩) (fun t ht hWm => ⟨⟨_, rfl, rfl, ?_, ?_⟩, hS2.F ht⟩) hS2.2.2 dCo39
    · rw [ht]; omega
    · exact ⟨cA, arrOfT_moved hWm.alike hAr, hRA.moved hWm.alike, by rw [ht]; exact e2⟩

