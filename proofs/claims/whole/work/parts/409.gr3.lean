/-! lists: copyOf of two, grow -/
abbrev yC2 : MethodName := ⟨"java/util/Arrays", "copyOf", "([Ljava/lang/Object;I)[Ljava/lang/Object;"⟩
theorem dCp0 : decode prog_28_method_119_code 0 = .ok (.aload_n 0, 1) := by decide +kernel
theorem dCp1 : decode prog_28_method_119_code 1 = .ok (.iload_n 1, 1) := by decide +kernel
theorem dCp2 : decode prog_28_method_119_code 2 = .ok (.aload_n 0, 1) := by decide +kernel
theorem dCp3 : decode prog_28_method_119_code 3 = .ok (.invokevirtual 86, 3) := by decide +kernel
theorem dCp6 : decode prog_28_method_119_code 6 = .ok (.invokestatic 300, 3) := by decide +kernel
theorem dCp9 : decode prog_28_method_119_code 9 = .ok (.areturn, 1) := by decide +kernel
def rKd (D : va_G) (eb tL tB sz a0 n0 : Nat) (g : Nat → Option Nat) (U : State) : Prop := U.heap.size = sz ∧ rG D (fun q => sz ≤ q) eb tL tB U ∧ rArr U U.heap a0 n0 g ∧ (∀ j, j < n0 → ∀ y, g j = some y → rEl U U.heap y)
theorem rKd.calling {D : va_G} {eb tL tB sz a0 n0 : Nat} {g : Nat → Option Nat} (U : State) (fr : JFrame) (mk : MethodId) (a : Array Value) (h : rKd D eb tL tB sz a0 n0 g U) : rKd D eb tL tB sz a0 n0 g (U.calling fr mk a) :=
  ⟨h.1, h.2.1.calling fr mk a, h.2.2.1.moved (V := U) (U := U.calling fr mk a) (Vm.Alike.refl U.vm) rfl, fun j hj y hy => (h.2.2.2 j hj y hy).moved (U := U) (U' := U.calling fr mk a) (Vm.Alike.refl U.vm) rfl⟩
theorem c_C2 (l : Launch) (D : va_G) (eb tL tB sz a0 n0 n1 : Nat) (g : Nat → Option Nat) (hn : n0 ≤ n1) (hn1 : n1 ≤ 1000) : rMet l yC2 prog_28_method_119_code 2 (some (.array rOT)) 2 90 1 n1 [.ref a0, .int (nI n1)] (rKd D eb tL tB sz a0 n0 g) (fun q => sz ≤ q) (rBc n0 n1 g) := by
  refine va_MetF (cc := prog_28_method_119_code) (maxL := 2) (ret := some (.array rOT)) (by decide +kernel) rfl ?_
  intro p e s m args below meth c s₁ B hml hv
  obtain ⟨rfl, hsz, ⟨hT, hK, hSt⟩, hArr, hel⟩ := hv
  have hx := B.exec
  have hb := B.bytes
  have hr := B.returns
  have hown : s.vm.findClass "java/util/Arrays" = some m.cls := findClass_of_methodNamed B.named
  rw [lg_entry_eq]
  have hl := lv_entry ([.ref a0, .int (nI n1)]) (n := 2) (Nat.le_of_ble_eq_true rfl)
  have hS : va_S (fun q => sz ≤ q) s.heap s.heap [] := va_S.rf
  obtain ⟨mi, hMi⟩ := hSt.2.2.2.2.1
  refine lv_aload_n hx hb dCp0 rfl (lv_at hl 0 rfl) ?_
  refine lv_iload_n hx hb dCp1 rfl (lv_at hl 1 rfl) ?_
  refine lv_aload_n hx hb dCp2 rfl (lv_at hl 0 rfl) ?_
  refine va_getC hx hb (hml.trans hl.1.symm) hown (hT.use tw_2_147 rfl) (hT.use tw_8_128 rfl) (hT.use tw_8_127 rfl) (hT.use tw_2_148 rfl) (hT.use tw_2_165 rfl) hMi ?_ (Nat.le_of_ble_eq_true rfl) (Nat.le_of_ble_eq_true rfl) dCp3 ?_
  · obtain ⟨cA0, ga1, ga2, ga3⟩ := hArr
    exact ⟨_, ga3, rfl, va_nmO ga2 (by decide +kernel)⟩
  · refine rCS (y := yC3) (As := [.ref a0, .int (nI n1), .ref mi]) (rest := []) hx hb hml hown hT (n := 3) ⟨tw_2_168, tw_1_13, ⟨by decide, by decide⟩, by decide +kernel, tw_2_166⟩ tw_2_167 (c_C3 l D eb tL tB sz a0 n0 n1 mi g hn hn1) rKc.calling (fun U hU hWm => ⟨by rw [hU]; exact hsz, rG.call hT hK hSt (fun _ h => h) hS hU hWm, by rw [hU]; exact hArr.moved hWm.alike rfl, fun j hj y hy => by rw [hU]; exact (hel j hj y hy).moved hWm.alike rfl, hMi.moved hWm.alike⟩) rfl hl.1 (fun _ h => h) hS (Nat.le_of_ble_eq_true rfl) (Nat.le_of_ble_eq_true rfl) (Nat.le_refl _) (by show 0 + n1 ≤ n1; omega) (Nat.zero_le _) dCp6 (fun v t locs1 hal hB hz hk hS1 => ?_)
    obtain ⟨rfl, hlt, hA1⟩ := hB
    refine W.widen (k := 1) (n := n1) (Nat.le_refl _) (by show 0 + n1 ≤ n1; omega) ?_
    refine W.aret hx hb hr (Or.inr ⟨_, rfl⟩) (Or.inr ⟨_, rfl⟩) (fun t2 ht hWm => ⟨⟨_, rfl, rfl, ?_, ?_⟩, hS1.F ht⟩) hS1.2.2 dCp9
    · rw [ht]; exact hlt
    · rw [ht]; exact hA1.moved (hal.trans hWm.alike) rfl
/-- a list's own cells: its object, its row -/
abbrev rLV (mc : Int32) (arr : Nat) (n : Nat) : Nat → Value := fun f => match f with
  | 0 => .int mc
  | 1 => .ref arr
  | _ => .int (nI n)
abbrev rOb (D : va_G) (a : Nat) (mc : Int32) (arr n : Nat) (H : Heap) : Prop := t_OB a (D.1 0) 3 (D.2 0) H (rLV mc arr n)
def rKg (D : va_G) (F : Nat → Prop) (eb tL tB sz a arr n n0 : Nat) (mc : Int32) (g : Nat → Option Nat) (U : State) : Prop := U.heap.size = sz ∧ rG D F eb tL tB U ∧ rOb D a mc arr n U.heap ∧ (n0 ≠ 0 → rArr U U.heap arr n0 g) ∧ (∀ j, j < n0 → ∀ y, g j = some y → rEl U U.heap y)
theorem rKg.calling {D : va_G} {F : Nat → Prop} {eb tL tB sz a arr n n0 : Nat} {mc : Int32} {g : Nat → Option Nat} (U : State) (fr : JFrame) (mk : MethodId) (v : Array Value) (h : rKg D F eb tL tB sz a arr n n0 mc g U) : rKg D F eb tL tB sz a arr n n0 mc g (U.calling fr mk v) :=
  ⟨h.1, h.2.1.calling fr mk v, h.2.2.1, fun h0 => (h.2.2.2.1 h0).moved (V := U) (U := U.calling fr mk v) (Vm.Alike.refl U.vm) rfl, fun j hj y hy => (h.2.2.2.2 j hj y hy).moved (U := U) (U' := U.calling fr mk v) (Vm.Alike.refl U.vm) rfl⟩
/-- the new row's places -/
def rCap (n0 : Nat) : Nat := if n0 = 0 then 10 else n0 + n0 / 2
abbrev rBg (D : va_G) (a n n0 : Nat) (mc : Int32) (g : Nat → Option Nat) : Heap → Option Value → State → Prop := fun H v t => ∃ r : Nat, v = some (.ref r) ∧ H.size ≤ r ∧ r < t.heap.size ∧ rOb D a mc r n t.heap ∧ rArr t t.heap r (rCap n0) (fun j => if j < n0 then g j else none)
abbrev yGi : MethodName := ⟨"java/util/ArrayList", "grow", "(I)[Ljava/lang/Object;"⟩
theorem dGi0 : decode prog_27_method_6_code 0 = .ok (.aload_n 0, 1) := by decide +kernel
theorem dGi1 : decode prog_27_method_6_code 1 = .ok (.getfield 9, 3) := by decide +kernel
theorem dGi4 : decode prog_27_method_6_code 4 = .ok (.arraylength, 1) := by decide +kernel
theorem dGi5 : decode prog_27_method_6_code 5 = .ok (.istore_n 2, 1) := by decide +kernel
theorem dGi6 : decode prog_27_method_6_code 6 = .ok (.iload_n 2, 1) := by decide +kernel
theorem dGi7 : decode prog_27_method_6_code 7 = .ok (.ifCond .gt 13, 3) := by decide +kernel
theorem dGi10 : decode prog_27_method_6_code 10 = .ok (.aload_n 0, 1) := by decide +kernel
theorem dGi11 : decode prog_27_method_6_code 11 = .ok (.getfield 9, 3) := by decide +kernel
theorem dGi14 : decode prog_27_method_6_code 14 = .ok (.getstatic 39, 3) := by decide +kernel
theorem dGi17 : decode prog_27_method_6_code 17 = .ok (.if_acmp .eq 28, 3) := by decide +kernel
theorem dGi20 : decode prog_27_method_6_code 20 = .ok (.iload_n 2, 1) := by decide +kernel
theorem dGi21 : decode prog_27_method_6_code 21 = .ok (.iload_n 1, 1) := by decide +kernel
theorem dGi22 : decode prog_27_method_6_code 22 = .ok (.iload_n 2, 1) := by decide +kernel
theorem dGi23 : decode prog_27_method_6_code 23 = .ok (.isub, 1) := by decide +kernel
theorem dGi24 : decode prog_27_method_6_code 24 = .ok (.iload_n 2, 1) := by decide +kernel
theorem dGi25 : decode prog_27_method_6_code 25 = .ok (.iconst 1, 1) := by decide +kernel
theorem dGi26 : decode prog_27_method_6_code 26 = .ok (.ishr, 1) := by decide +kernel
theorem dGi27 : decode prog_27_method_6_code 27 = .ok (.invokestatic 73, 3) := by decide +kernel
theorem dGi30 : decode prog_27_method_6_code 30 = .ok (.istore_n 3, 1) := by decide +kernel
theorem dGi31 : decode prog_27_method_6_code 31 = .ok (.aload_n 0, 1) := by decide +kernel
theorem dGi32 : decode prog_27_method_6_code 32 = .ok (.aload_n 0, 1) := by decide +kernel
theorem dGi33 : decode prog_27_method_6_code 33 = .ok (.getfield 9, 3) := by decide +kernel
theorem dGi36 : decode prog_27_method_6_code 36 = .ok (.iload_n 3, 1) := by decide +kernel
theorem dGi37 : decode prog_27_method_6_code 37 = .ok (.invokestatic 66, 3) := by decide +kernel
theorem dGi40 : decode prog_27_method_6_code 40 = .ok (.dup_x1, 1) := by decide +kernel
theorem dGi41 : decode prog_27_method_6_code 41 = .ok (.putfield 9, 3) := by decide +kernel
theorem dGi44 : decode prog_27_method_6_code 44 = .ok (.areturn, 1) := by decide +kernel
theorem dGi45 : decode prog_27_method_6_code 45 = .ok (.aload_n 0, 1) := by decide +kernel
theorem dGi46 : decode prog_27_method_6_code 46 = .ok (.bipush 10, 2) := by decide +kernel
theorem dGi48 : decode prog_27_method_6_code 48 = .ok (.iload_n 1, 1) := by decide +kernel
theorem dGi49 : decode prog_27_method_6_code 49 = .ok (.invokestatic 79, 3) := by decide +kernel
theorem dGi52 : decode prog_27_method_6_code 52 = .ok (.anewarray 7, 3) := by decide +kernel
theorem dGi55 : decode prog_27_method_6_code 55 = .ok (.dup_x1, 1) := by decide +kernel
theorem dGi56 : decode prog_27_method_6_code 56 = .ok (.putfield 9, 3) := by decide +kernel
theorem dGi59 : decode prog_27_method_6_code 59 = .ok (.areturn, 1) := by decide +kernel
theorem rNL_eq {n0 : Nat} (h : n0 = 10 ∨ n0 = 11 ∨ n0 = 12) : rNL (nI n0) (nI (n0 + 1) - nI n0) (nI n0 >>> ((1 : Int32) &&& 31)) = nI (n0 + n0 / 2) := by
  rcases h with rfl | rfl | rfl <;> decide
theorem rLV_put1 (mc : Int32) (arr arr' n : Nat) (f : Nat) : updV (rLV mc arr n) 1 (.ref arr') f = rLV mc arr' n f := by
  unfold updV
  by_cases h : f = 1
  · rw [if_pos h, h]
    rfl
  · rw [if_neg h]
    match f, h with
    | 0, _ => rfl
    | 1, h => exact absurd rfl h
    | f + 2, _ => rfl
theorem c_Gi (l : Launch) (D : va_G) (eb tL tB sz a arr n0 : Nat) (mc : Int32) (g : Nat → Option Nat) (hc : (n0 = 0 ∧ arr = eb) ∨ n0 = 10 ∨ n0 = 11 ∨ n0 = 12) : rMet l yGi prog_27_method_6_code 4 (some (.array rOT)) 3 120 1 18 [.ref a, .int (nI (n0 + 1))] (rKg D (fun q => q = a ∨ sz ≤ q) eb tL tB sz a arr n0 n0 mc g) (fun q => q = a ∨ sz ≤ q) (rBg D a n0 n0 mc g) := by
  refine va_MetF (cc := prog_27_method_6_code) (maxL := 4) (ret := some (.array rOT)) (by decide +kernel) rfl ?_
  intro p e s m args below meth c s₁ B hml hv
  obtain ⟨rfl, hsz, ⟨hT, hK, hSt⟩, hob, hArr, hel⟩ := hv
  have hx := B.exec
  have hb := B.bytes
  have hr := B.returns
  have hown : s.vm.findClass "java/util/ArrayList" = some m.cls := findClass_of_methodNamed B.named
  rw [lg_entry_eq]
  have hl := lv_entry ([.ref a, .int (nI (n0 + 1))]) (n := 4) (Nat.le_of_ble_eq_true rfl)
  have hS : va_S (fun q => q = a ∨ sz ≤ q) s.heap s.heap [] := va_S.rf
  have haL : a < s.heap.size := by obtain ⟨cell, h, -⟩ := hob; exact (Array.getElem?_eq_some_iff.mp h).1
  refine lv_aload_n hx hb dGi0 rfl (lv_at hl 0 rfl) ?_
  refine r_getL hx hb hown hT hK mLay_ok (x := 9) (f := 1) rfl (by decide) tw_1_105 hob dGi1 ?_
  rcases hc with ⟨h0, he⟩ | hn
  · subst h0
    subst he
    refine va_tlen hx hb hSt.2.1 hS (v := 0) rfl dGi4 ?_
    refine lv_istore_n hx hb dGi5 rfl hl (by omega) rfl (fun ls1 hl1 => ?_)
    refine lv_iload_n hx hb dGi6 rfl (lv_at hl1 0 rfl) ?_
    refine lv_if_gt hx hb dGi7 (show ((7 : Nat) : Int) + 13 = ((20 : Nat) : Int) by decide) (fun hc => absurd hc (by decide)) (fun _ => ?_)
    refine lv_aload_n hx hb dGi10 rfl (lv_at hl1 1 rfl) ?_
    refine r_getL hx hb hown hT hK mLay_ok (x := 9) (f := 1) rfl (by decide) tw_1_105 hob dGi11 ?_
    refine va_gets hx hb hSt.1 hS hown (hT.use tw_1_103 rfl) (fun _ h9 => h9) dGi14 ?_
    refine lv_acmp_eq (rx := some arr) (ry := some arr) hx hb dGi17 (show ((17 : Nat) : Int) + 28 = ((45 : Nat) : Int) by decide) (fun _ => ?_) (fun hc => absurd rfl hc)
    refine lv_aload_n hx hb dGi45 rfl (lv_at hl1 1 rfl) ?_
    refine lv_bipush hx hb dGi46 (v := 10) (by decide) ?_
    refine lv_iload_n hx hb dGi48 rfl (lv_at hl1 2 rfl) ?_
    refine va_mmax hx hb (hml.trans hl1.1.symm) hown (hT.use tw_2_176 rfl) (hT.use tw_2_138 rfl) (hT.use tw_1_10 rfl) (hT.use tw_2_139 rfl) (Nat.le_of_ble_eq_true rfl) (Nat.le_of_ble_eq_true rfl) (Nat.zero_le _) (Nat.zero_le _) dGi49 ?_
    have e10 : (if (10 : Int32) < nI (0 + 1) then nI (0 + 1) else 10) = nI 10 := by decide
    rw [e10]
    have ecl : (nI 10).toNatClampNeg = 10 := nI_clamp (by omega)
    refine W.anew hx hb hown (hT.use tw_2_177 rfl) (hT.use tw_2_170 rfl) rfl dGi52 rfl (nI_pos (by omega)) (by rw [ecl]; omega) (Nat.le_refl _) (by rw [ecl]; exact Nat.le_of_ble_eq_true rfl) fun cA kA comp f1 f2 f3 f4 => ?_
    rw [ecl]
    generalize hH1 : s.heap.push ({ cls := cA, slots := Array.replicate 10 .null, vm := .none } : Cell) = H1
    have z1 : H1.size = s.heap.size + 1 := by rw [← hH1, Array.size_push]
    have e1 : H1[s.heap.size]? = some (arrV cA 10 (fun _ => va_rf none)) := by rw [← hH1, Array.getElem?_push_size, ← arrV_new]; rfl
    have o1 : ∀ q : Nat, q < s.heap.size → H1[q]? = s.heap[q]? := fun q hq => by rw [← hH1, Array.getElem?_push, if_neg (Nat.ne_of_lt hq)]
    have hAr : ArrOfT s cA rOT := fun N z => ⟨(fun k h => by cases h), kA, f2, comp, f3⟩
    have hRA : va_RA s cA rOT := ⟨kA, comp, f2, f3, f4, f1⟩
    have hS1 : va_S (fun q => q = a ∨ sz ≤ q) s.heap H1 [] := ⟨by omega, fun q h1 _ => o1 q h1, fun q hq => by cases hq⟩
    refine lv_dup_x1 hx hb dGi55 rfl rfl ?_
    refine r_putL hx hb hown hT hK mLay_ok (x := 9) (f := 1) rfl (by decide) rfl (ty := .array rOT) (by decide +kernel) tw_1_105 (fun _ h => h) (hob.kept (o1 a haL)) rfl rfl dGi56 (fun H2 j ho2 z2 o2 => ?_)
    have hS2 := hS1.put (k := j) z2 o2 (Or.inl rfl)
    refine W.widen (k := 1) (n := 18) (Nat.le_refl _) (Nat.le_of_ble_eq_true rfl) ?_
    refine W.aret hx hb hr (Or.inr ⟨_, rfl⟩) (Or.inr ⟨_, rfl⟩) (fun t ht hWm => ⟨⟨_, rfl, s.heap.size, rfl, Nat.le_refl _, ?_, ?_, ?_⟩, hS2.F ht⟩) hS2.2.2 dGi59
    · rw [ht]; omega
    · rw [ht]; exact ho2.to (fun f _ => rLV_put1 mc arr _ 0 f)
    · refine ⟨cA, arrOfT_moved hWm.alike hAr, hRA.moved hWm.alike, ?_⟩
      rw [ht, o2 _ (by omega), e1]
      show some (arrV cA 10 _) = some (arrV cA 10 _)
      exact congrArg some (congrArg (arrV cA 10) (funext fun j => congrArg va_rf (if_neg (Nat.not_lt_zero j)).symm))
  · have hn0 : n0 ≠ 0 := by omega
    obtain ⟨cA0, ga1, ga2, ga3⟩ := hArr hn0
    refine W.alen hx hb ga3 (ga1 _ _) (n := nI n0) (by rw [arrV_size]; rfl) rfl rfl dGi4 ?_
    refine lv_istore_n hx hb dGi5 rfl hl (by omega) rfl (fun ls1 hl1 => ?_)
    refine lv_iload_n hx hb dGi6 rfl (lv_at hl1 0 rfl) ?_
    refine lv_if_gt hx hb dGi7 (show ((7 : Nat) : Int) + 13 = ((20 : Nat) : Int) by decide) (fun _ => ?_) (fun hc => absurd (show (0 : Int32) < nI n0 from nI_lt (show 0 < n0 by omega) (by omega)) hc)
    refine lv_iload_n hx hb dGi20 rfl (lv_at hl1 0 rfl) ?_
    refine lv_iload_n hx hb dGi21 rfl (lv_at hl1 2 rfl) ?_
    refine lv_iload_n hx hb dGi22 rfl (lv_at hl1 0 rfl) ?_
    refine lv_isub hx hb dGi23 ?_
    refine lv_iload_n hx hb dGi24 rfl (lv_at hl1 0 rfl) ?_
    refine lv_iconst hx hb dGi25 rfl ?_
    refine lv_ishr hx hb dGi26 ?_
    have eNL := rNL_eq hn
    have hFA : ∀ q, (fun q => sz ≤ q) q → (fun q => q = a ∨ sz ≤ q) q := fun q hq => Or.inr hq
    refine rCS (y := yNL) (As := [.int (nI n0), .int (nI (n0 + 1) - nI n0), .int (nI n0 >>> ((1 : Int32) &&& 31))]) (rest := []) (F := fun q => sz ≤ q) hx hb hml hown hT (n := 3) ⟨tw_2_136, tw_1_12, ⟨by decide, by decide⟩, by decide +kernel, tw_2_134⟩ tw_2_135 (c_NL l D (fun q => sz ≤ q) eb tL tB (by rw [eNL]; exact nI_nle (by omega) (by omega)) (by rw [eNL]; exact nI_nlt (a := 2147483639) (by omega) (by decide))) (fun U fr mk v h => h.calling fr mk v) (fun U hU hWm => rG.call hT hK hSt hFA hS hU hWm) rfl hl1.1 hFA hS (Nat.le_of_ble_eq_true rfl) (Nat.le_of_ble_eq_true rfl) (Nat.zero_le _) (Nat.zero_le _) (Nat.zero_le _) dGi27 (fun v t locs1 hal hB hz hk hS1 => ?_)
    subst hB
    rw [eNL]
    have hob1 : rOb D a mc arr n0 t.heap := hob.kept (hk a haL (by show ¬ sz ≤ a; omega))
    have harL : arr < s.heap.size := (Array.getElem?_eq_some_iff.mp ga3).1
    have hArr1 : rArr s t.heap arr n0 g := (hArr hn0).moved (Vm.Alike.refl _) (hk arr harL (by show ¬ sz ≤ arr; omega))
    have hel1 : ∀ j, j < n0 → ∀ y, g j = some y → rEl s t.heap y := fun j hj y hy => by
      have h9 := hel j hj y hy
      refine h9.moved (Vm.Alike.refl _) (hk y ?_ ?_)
      · obtain ⟨cell, h, -⟩ := h9; exact (Array.getElem?_eq_some_iff.mp h).1
      · obtain ⟨cell, h, -⟩ := h9
        have := (Array.getElem?_eq_some_iff.mp h).1
        show ¬ sz ≤ y
        omega
    refine lv_istore_n hx hb dGi30 rfl hl1 (by omega) rfl (fun ls2 hl2 => ?_)
    refine lv_aload_n hx hb dGi31 rfl (lv_at hl2 2 rfl) ?_
    refine lv_aload_n hx hb dGi32 rfl (lv_at hl2 2 rfl) ?_
    refine r_getL hx hb hown hT hK mLay_ok (x := 9) (f := 1) rfl (by decide) tw_1_105 hob1 dGi33 ?_
    refine lv_iload_n hx hb dGi36 rfl (lv_at hl2 0 rfl) ?_
    have hFA2 : ∀ q, (fun q => t.heap.size ≤ q) q → (fun q => q = a ∨ sz ≤ q) q := fun q hq => Or.inr (by have : t.heap.size ≤ q := hq; omega)
    refine rCS (y := yC2) (As := [.ref arr, .int (nI (n0 + n0 / 2))]) (rest := [.ref a]) (F := fun q => t.heap.size ≤ q) hx hb hml hown hT (n := 2) ⟨tw_2_146, tw_1_13, ⟨by decide, by decide⟩, by decide +kernel, tw_2_144⟩ tw_2_145 (c_C2 l D eb tL tB t.heap.size arr n0 (n0 + n0 / 2) g (by omega) (by omega)) rKd.calling (fun U hU hWm => ⟨by rw [hU], rG.call hT hK hSt hFA2 hS1 hU hWm, by rw [hU]; exact hArr1.moved hWm.alike rfl, fun j hj y hy => by rw [hU]; exact (hel1 j hj y hy).moved hWm.alike rfl⟩) rfl hl2.1 hFA2 hS1 (Nat.le_of_ble_eq_true rfl) (Nat.le_of_ble_eq_true rfl) (Nat.le_refl _) (by show 0 + 0 + (n0 + n0 / 2) ≤ 18; omega) (Nat.le_of_ble_eq_true rfl) dGi37 (fun v t2 locs2 hal2 hB2 hz2 hk2 hS2 => ?_)
    obtain ⟨rfl, hlt2, hA2⟩ := hB2
    refine lv_dup_x1 hx hb dGi40 rfl rfl ?_
    refine r_putL hx hb hown hT hK mLay_ok (x := 9) (f := 1) rfl (by decide) rfl (ty := .array rOT) (by decide +kernel) tw_1_105 (fun _ h => h) (hob1.kept (hk2 a (by omega) (by show ¬ t.heap.size ≤ a; omega))) rfl rfl dGi41 (fun H3 j ho3 z3 o3 => ?_)
    have hS3 := hS2.put (k := j) z3 o3 (Or.inl rfl)
    refine W.widen (k := 1) (n := 18) (Nat.le_refl _) (by show 0 + 0 + (n0 + n0 / 2) ≤ 18; omega) ?_
    refine W.aret hx hb hr (Or.inr ⟨_, rfl⟩) (Or.inr ⟨_, rfl⟩) (fun t3 ht hWm => ⟨⟨_, rfl, t.heap.size, rfl, hz, ?_, ?_, ?_⟩, hS3.F ht⟩) hS3.2.2 dGi44
    · rw [ht]; omega
    · rw [ht]; exact ho3.to (fun f _ => rLV_put1 mc arr _ n0 f)
    · rw [ht]
      have eC : rCap n0 = n0 + n0 / 2 := if_neg hn0
      rw [eC]
      exact hA2.moved (hal2.trans hWm.alike) (o3 _ (by omega))
abbrev yG0 : MethodName := ⟨"java/util/ArrayList", "grow", "()[Ljava/lang/Object;"⟩
theorem dG00 : decode prog_27_method_7_code 0 = .ok (.aload_n 0, 1) := by decide +kernel
theorem dG01 : decode prog_27_method_7_code 1 = .ok (.aload_n 0, 1) := by decide +kernel
theorem dG02 : decode prog_27_method_7_code 2 = .ok (.getfield 48, 3) := by decide +kernel
theorem dG05 : decode prog_27_method_7_code 5 = .ok (.iconst 1, 1) := by decide +kernel
theorem dG06 : decode prog_27_method_7_code 6 = .ok (.iadd, 1) := by decide +kernel
theorem dG07 : decode prog_27_method_7_code 7 = .ok (.invokevirtual 69, 3) := by decide +kernel
theorem dG010 : decode prog_27_method_7_code 10 = .ok (.areturn, 1) := by decide +kernel
theorem rOb_cl {s : State} {D : va_G} {a arr n : Nat} {mc : Int32} {H : Heap} (hK : va_K D mCl [] s) (h : rOb D a mc arr n H) : ∃ cellB : Cell, H[a]? = some cellB ∧ cellB.vm.isStatics = false ∧ s.vm.findClass "java/util/ArrayList" = some cellB.cls := by
  obtain ⟨cell, q1, q2, q3, q4⟩ := h
  obtain ⟨-, hfc, -⟩ := hK.1 0 _ rfl
  exact ⟨cell, q1, by rw [q3]; rfl, by rw [q2]; exact hfc⟩
theorem c_G0 (l : Launch) (D : va_G) (eb tL tB sz a arr n0 : Nat) (mc : Int32) (g : Nat → Option Nat) (hc : (n0 = 0 ∧ arr = eb) ∨ n0 = 10 ∨ n0 = 11 ∨ n0 = 12) : rMet l yG0 prog_27_method_7_code 1 (some (.array rOT)) 4 150 1 18 [.ref a] (rKg D (fun q => q = a ∨ sz ≤ q) eb tL tB sz a arr n0 n0 mc g) (fun q => q = a ∨ sz ≤ q) (rBg D a n0 n0 mc g) := by
  refine va_MetF (cc := prog_27_method_7_code) (maxL := 1) (ret := some (.array rOT)) (by decide +kernel) rfl ?_
  intro p e s m args below meth c s₁ B hml hv
  obtain ⟨rfl, hsz, ⟨hT, hK, hSt⟩, hob, hArr, hel⟩ := hv
  have hx := B.exec
  have hb := B.bytes
  have hr := B.returns
  have hown : s.vm.findClass "java/util/ArrayList" = some m.cls := findClass_of_methodNamed B.named
  rw [lg_entry_eq]
  have hl := lv_entry ([.ref a]) (n := 1) (Nat.le_of_ble_eq_true rfl)
  have hS : va_S (fun q => q = a ∨ sz ≤ q) s.heap s.heap [] := va_S.rf
  refine lv_aload_n hx hb dG00 rfl (lv_at hl 0 rfl) ?_
  refine lv_aload_n hx hb dG01 rfl (lv_at hl 0 rfl) ?_
  refine r_getL hx hb hown hT hK mLay_ok (x := 48) (f := 2) rfl (by decide) tw_1_106 hob dG02 ?_
  refine lv_iconst hx hb dG05 rfl ?_
  refine lv_iadd hx hb dG06 ?_
  have e1 : nI n0 + 1 = nI (n0 + 1) := nI_1 n0
  show W p l e _ s m _ below meth c s.heap [] 0 0 _ (F0 m 7 _ (.int (nI n0 + 1) :: .ref a :: []))
  rw [e1]
  refine rCV (y := yGi) (b := a) (As := [.int (nI (n0 + 1))]) (rest := []) (F := fun q => q = a ∨ sz ≤ q) hx hb hml hown hT (n := 1) ⟨tw_2_133, tw_1_7, ⟨by decide, by decide⟩, by decide +kernel, tw_2_130⟩ ⟨tw_2_132, tw_0_4⟩ (rOb_cl hK hob) (c_Gi l D eb tL tB sz a arr n0 mc g hc) rKg.calling (fun U hU hWm => ⟨by rw [hU]; exact hsz, rG.call hT hK hSt (fun _ h => h) hS hU hWm, by rw [hU]; exact hob, fun h0 => by rw [hU]; exact (hArr h0).moved hWm.alike rfl, fun j hj y hy => by rw [hU]; exact (hel j hj y hy).moved hWm.alike rfl⟩) rfl hl.1 (fun _ h => h) hS (Nat.le_of_ble_eq_true rfl) (Nat.le_of_ble_eq_true rfl) (Nat.le_refl _) (Nat.le_refl _) (Nat.zero_le _) dG07 (fun v t locs1 hal hB hz hk hS1 => ?_)
  obtain ⟨r, rfl, hr1, hr2, hob1, hA1⟩ := hB
  refine W.aret hx hb hr (Or.inr ⟨_, rfl⟩) (Or.inr ⟨_, rfl⟩) (fun t2 ht hWm => ⟨⟨_, rfl, r, rfl, hr1, ?_, ?_, ?_⟩, hS1.F ht⟩) hS1.2.2 dG010
  · rw [ht]; exact hr2
  · rw [ht]; exact hob1
  · rw [ht]; exact hA1.moved (hal.trans hWm.alike) rfl

