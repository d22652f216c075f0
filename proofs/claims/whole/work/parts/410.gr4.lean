/-! lists: the private add -/
abbrev yA3 : MethodName := ⟨"java/util/ArrayList", "add", "(Ljava/lang/Object;[Ljava/lang/Object;I)V"⟩
theorem dA30 : decode prog_27_method_24_code 0 = .ok (.iload_n 3, 1) := by decide +kernel
theorem dA31 : decode prog_27_method_24_code 1 = .ok (.aload_n 2, 1) := by decide +kernel
theorem dA32 : decode prog_27_method_24_code 2 = .ok (.arraylength, 1) := by decide +kernel
theorem dA33 : decode prog_27_method_24_code 3 = .ok (.if_icmp .ne 8, 3) := by decide +kernel
theorem dA36 : decode prog_27_method_24_code 6 = .ok (.aload_n 0, 1) := by decide +kernel
theorem dA37 : decode prog_27_method_24_code 7 = .ok (.invokevirtual 129, 3) := by decide +kernel
theorem dA310 : decode prog_27_method_24_code 10 = .ok (.astore_n 2, 1) := by decide +kernel
theorem dA311 : decode prog_27_method_24_code 11 = .ok (.aload_n 2, 1) := by decide +kernel
theorem dA312 : decode prog_27_method_24_code 12 = .ok (.iload_n 3, 1) := by decide +kernel
theorem dA313 : decode prog_27_method_24_code 13 = .ok (.aload_n 1, 1) := by decide +kernel
theorem dA314 : decode prog_27_method_24_code 14 = .ok (.aastore, 1) := by decide +kernel
theorem dA315 : decode prog_27_method_24_code 15 = .ok (.aload_n 0, 1) := by decide +kernel
theorem dA316 : decode prog_27_method_24_code 16 = .ok (.iload_n 3, 1) := by decide +kernel
theorem dA317 : decode prog_27_method_24_code 17 = .ok (.iconst 1, 1) := by decide +kernel
theorem dA318 : decode prog_27_method_24_code 18 = .ok (.iadd, 1) := by decide +kernel
theorem dA319 : decode prog_27_method_24_code 19 = .ok (.putfield 48, 3) := by decide +kernel
theorem dA322 : decode prog_27_method_24_code 22 = .ok (.return_, 1) := by decide +kernel
def rKa (D : va_G) (F : Nat → Prop) (eb tL tB sz a arr n n0 x : Nat) (mc : Int32) (g : Nat → Option Nat) (U : State) : Prop := rKg D F eb tL tB sz a arr n n0 mc g U ∧ rEl U U.heap x
theorem rKa.calling {D : va_G} {F : Nat → Prop} {eb tL tB sz a arr n n0 x : Nat} {mc : Int32} {g : Nat → Option Nat} (U : State) (fr : JFrame) (mk : MethodId) (v : Array Value) (h : rKa D F eb tL tB sz a arr n n0 x mc g U) : rKa D F eb tL tB sz a arr n n0 x mc g (U.calling fr mk v) :=
  ⟨rKg.calling U fr mk v h.1, h.2.moved (U := U) (U' := U.calling fr mk v) (Vm.Alike.refl U.vm) rfl⟩
abbrev rFa (sz a arr n0 : Nat) : Nat → Prop := fun q => q = a ∨ (q = arr ∧ n0 ≠ 0) ∨ sz ≤ q
abbrev rBa (D : va_G) (a arr n n0 x : Nat) (mc : Int32) (g : Nat → Option Nat) : Heap → Option Value → State → Prop := fun H v t => v = none ∧ ∃ r cap : Nat, ((r = arr ∧ n0 ≠ 0) ∨ H.size ≤ r) ∧ r < t.heap.size ∧ n < cap ∧ 10 ≤ cap ∧ cap ≤ 1000 ∧ rOb D a mc r (n + 1) t.heap ∧ rArr t t.heap r cap (fun j => if j = n then some x else g j)
theorem rLV_put2 (mc : Int32) (arr n : Nat) (f : Nat) (hf : f < 3) : updV (rLV mc arr n) 2 (.int (nI n + 1)) f = rLV mc arr (n + 1) f := by
  unfold updV
  match f, hf with
  | 0, _ => rfl
  | 1, _ => rfl
  | 2, _ => rw [if_pos rfl, nI_1]; rfl
theorem c_A3 (l : Launch) (D : va_G) (eb tL tB sz a arr n n0 x : Nat) (mc : Int32) (g : Nat → Option Nat) (hc : (n0 = 0 ∧ arr = eb) ∨ 10 ≤ n0) (hn : n ≤ n0) (hn12 : n ≤ 12) (hn1000 : n0 ≤ 1000) (hne : a ≠ arr) (hxa : x ≠ a) (hg : ∀ j, n ≤ j → g j = none) : rMet l yA3 prog_27_method_24_code 4 none 5 200 1 18 [.ref a, .ref x, .ref arr, .int (nI n)] (rKa D (rFa sz a arr n0) eb tL tB sz a arr n n0 x mc g) (rFa sz a arr n0) (rBa D a arr n n0 x mc g) := by
  refine va_MetF (cc := prog_27_method_24_code) (maxL := 4) (ret := none) (by decide +kernel) rfl ?_
  intro p e s m args below meth c s₁ B hml hv
  obtain ⟨rfl, ⟨hsz, ⟨hT, hK, hSt⟩, hob, hArr, hel⟩, hex⟩ := hv
  have hx := B.exec
  have hb := B.bytes
  have hr := B.returns
  have hlocks := B.notSynchronized
  have hown : s.vm.findClass "java/util/ArrayList" = some m.cls := findClass_of_methodNamed B.named
  rw [lg_entry_eq]
  have hl := lv_entry ([.ref a, .ref x, .ref arr, .int (nI n)]) (n := 4) (Nat.le_of_ble_eq_true rfl)
  have hS : va_S (rFa sz a arr n0) s.heap s.heap [] := va_S.rf
  have haL : a < s.heap.size := by obtain ⟨cell, h, -⟩ := hob; exact (Array.getElem?_eq_some_iff.mp h).1
  have hxL : x < s.heap.size := by obtain ⟨cell, h, -⟩ := hex; exact (Array.getElem?_eq_some_iff.mp h).1
  have tail : ∀ (H1 : Heap) (locs1 : List Loc) (c1 s1 : Nat) (ls1 : Array Slot) (r cap : Nat), ls1[0]? = some (.val (.ref a)) → ls1[1]? = some (.val (.ref x)) → ls1[2]? = some (.val (.ref r)) → ls1[3]? = some (.val (.int (nI n))) → va_S (rFa sz a arr n0) s.heap H1 locs1 → c1 ≤ 1 → s1 ≤ 18 → ((r = arr ∧ n0 ≠ 0) ∨ s.heap.size ≤ r) → r < H1.size → a ≠ r → n < cap → 10 ≤ cap → cap ≤ 1000 → rOb D a mc r n H1 → rArr s H1 r cap g → rEl s H1 x →
      W p l e (headSpec [Cond.code yA3 prog_27_method_24_code 4 none] { frames := 5, cells := 1, slots := 18, locals := 200 }).room s m ([Value.ref a, .ref x, .ref arr, .int (nI n)]).toArray below meth c H1 locs1 c1 s1 (MQ below (rQ (rFa sz a arr n0) (rBa D a arr n n0 x mc g)) ([Value.ref a, .ref x, .ref arr, .int (nI n)]).toArray s 1 18 (rFa sz a arr n0)) (F0 m 11 ls1 []) := by
    intro H1 locs1 c1 s1 ls1 r cap h0 h1 h2 h3 hS1 hc1 hs1 hrr hrl har hcap h10 h1000 hob1 hA1 hex1
    obtain ⟨cA, g1, ⟨kA, comp, k1, k2, k3, k4⟩, g3⟩ := hA1
    obtain ⟨cv, x1, x2, ⟨kv, x3⟩, x4⟩ := hex1
    obtain ⟨kC, hkC, -⟩ := Vm.findClass_spec k3
    have ecl : (nI n).toNatClampNeg = n := nI_clamp (by omega)
    have hAr : rFa sz a arr n0 r := by
      rcases hrr with h | h
      · exact Or.inr (Or.inl h)
      · exact Or.inr (Or.inr (by omega))
    refine lv_aload_n hx hb dA311 rfl h2 ?_
    refine lv_iload_n hx hb dA312 rfl h3 ?_
    refine lv_aload_n hx hb dA313 rfl h1 ?_
    refine W.aast hx hb g3 (fun q h => by cases h) (fun h => by cases h) k1 k2 rfl hkC ⟨nI_pos (by omega), by show _ < (arrV _ _ _).slots.size; rw [arrV_size, ecl]; exact hcap⟩ x1 (fun q h => by rw [h] at x2; cases x2) x3 (x4 _ k3) rfl rfl dA314 fun H2 e1 e2 e3 => ?_
    rw [arrV_store, ecl] at e1
    have hS2 := hS1.put (k := (nI n).toNatClampNeg) e2 e3 hAr
    refine lv_aload_n hx hb dA315 rfl h0 ?_
    refine lv_iload_n hx hb dA316 rfl h3 ?_
    refine lv_iconst hx hb dA317 rfl ?_
    refine lv_iadd hx hb dA318 ?_
    refine r_putL hx hb hown hT hK mLay_ok (x := 48) (f := 2) rfl (by decide) rfl (ty := .int) (by decide +kernel) tw_1_106 (fun _ h => h) (hob1.kept (e3 a har)) rfl rfl dA319 (fun H3 j ho3 z3 o3 => ?_)
    have hS3 := hS2.put (k := j) z3 o3 (Or.inl rfl)
    refine W.widen (k := 1) (n := 18) hc1 hs1 ?_
    refine W.vret hx hb hr (fun t ht hWm => ⟨⟨_, rfl, rfl, r, cap, hrr, ?_, hcap, h10, h1000, ?_, ?_⟩, hS3.F ht⟩) hS3.2.2 dA322
    · rw [ht]; omega
    · rw [ht]; exact ho3.to (fun f hf => rLV_put2 mc r n f hf)
    · refine ⟨cA, arrOfT_moved hWm.alike g1, va_RA.moved hWm.alike ⟨kA, comp, k1, k2, k3, k4⟩, ?_⟩
      rw [ht, o3 _ (Ne.symm har), e1]
      congr 2
      funext i
      unfold updV
      simp only []
      by_cases hi : i = n
      · rw [if_pos hi, if_pos hi]; rfl
      · rw [if_neg hi, if_neg hi]
  refine lv_iload_n hx hb dA30 rfl (lv_at hl 3 rfl) ?_
  refine lv_aload_n hx hb dA31 rfl (lv_at hl 2 rfl) ?_
  have grow : ((n0 = 0 ∧ arr = eb) ∨ n0 = 10 ∨ n0 = 11 ∨ n0 = 12) → n = n0 → W p l e (headSpec [Cond.code yA3 prog_27_method_24_code 4 none] { frames := 5, cells := 1, slots := 18, locals := 200 }).room s m ([Value.ref a, .ref x, .ref arr, .int (nI n)]).toArray below meth c s.heap [] 0 0 (MQ below (rQ (rFa sz a arr n0) (rBa D a arr n n0 x mc g)) ([Value.ref a, .ref x, .ref arr, .int (nI n)]).toArray s 1 18 (rFa sz a arr n0)) (F0 m 6 ((lg_sl [Value.ref a, .ref x, .ref arr, .int (nI n)] ++ List.replicate (4 - (lg_sl [Value.ref a, .ref x, .ref arr, .int (nI n)]).length) Slot.unset).toArray) []) := by
    intro hcg hnn
    refine lv_aload_n hx hb dA36 rfl (lv_at hl 0 rfl) ?_
    have hFA : ∀ q, (fun q => q = a ∨ sz ≤ q) q → rFa sz a arr n0 q := fun q hq => hq.elim (fun h => Or.inl h) (fun h => Or.inr (Or.inr h))
    refine rCV (y := yG0) (b := a) (As := []) (rest := []) (F := fun q => q = a ∨ sz ≤ q) hx hb hml hown hT (n := 0) ⟨tw_2_129, tw_1_7, ⟨by decide, by decide⟩, by decide +kernel, tw_2_126⟩ ⟨tw_2_128, tw_0_3⟩ (rOb_cl hK hob) (c_G0 l D eb tL tB sz a arr n0 mc g hcg) rKg.calling (fun U hU hWm => ⟨by rw [hU]; exact hsz, rG.call hT hK hSt hFA hS hU hWm, by rw [hU, ← hnn]; exact hob, fun h0 => by rw [hU]; exact (hArr h0).moved hWm.alike rfl, fun j hj y hy => by rw [hU]; exact (hel j hj y hy).moved hWm.alike rfl⟩) rfl hl.1 hFA hS (Nat.le_of_ble_eq_true rfl) (Nat.le_of_ble_eq_true rfl) (Nat.le_refl _) (Nat.le_refl _) (Nat.zero_le _) dA37 (fun v t locs1 hal hB hz hk hS1 => ?_)
    obtain ⟨r, rfl, hr1, hr2, hob1, hA1⟩ := hB
    refine lv_astore_n hx hb dA310 rfl hl (by omega) rfl (fun ls1 hl1 => ?_)
    have hcapn : n < rCap n0 ∧ 10 ≤ rCap n0 ∧ rCap n0 ≤ 1000 := by
      unfold rCap
      rcases hcg with ⟨h, -⟩ | h
      · rw [if_pos h]; omega
      · rw [if_neg (by omega)]; omega
    refine tail t.heap locs1 1 18 ls1 r (rCap n0) (lv_at hl1 1 rfl) (lv_at hl1 2 rfl) (lv_at hl1 0 rfl) (lv_at hl1 3 rfl) hS1 (Nat.le_refl _) (Nat.le_refl _) (Or.inr hr1) hr2 (by omega) hcapn.1 hcapn.2.1 hcapn.2.2 (by rw [hnn]; exact hob1) ?_ ?_
    · obtain ⟨cA, q1, q2, q3⟩ := hA1
      refine ⟨cA, arrOfT_moved hal q1, q2.moved hal, ?_⟩
      rw [q3]
      congr 2
      funext j
      simp only []
      by_cases hj : j < n0
      · rw [if_pos hj]
      · rw [if_neg hj, hg j (by omega)]
    · refine hex.moved (Vm.Alike.refl _) ?_
      exact hk x hxL (by show ¬ (x = a ∨ sz ≤ x); omega)
  rcases hc with ⟨h0, he⟩ | h10
  · have hn0 : n = 0 := by omega
    subst he
    refine va_tlen hx hb hSt.2.1 hS (v := 0) rfl dA32 ?_
    refine lv_icmp_ne hx hb dA33 (show ((3 : Nat) : Int) + 8 = ((11 : Nat) : Int) by decide) (fun hc => absurd (by rw [hn0]; rfl) hc) (fun _ => ?_)
    exact grow (Or.inl ⟨h0, rfl⟩) (by omega)
  · obtain ⟨cA0, ga1, ga2, ga3⟩ := hArr (by omega)
    refine W.alen hx hb ga3 (ga1 _ _) (n := nI n0) (by rw [arrV_size]; rfl) rfl rfl dA32 ?_
    refine lv_icmp_ne hx hb dA33 (show ((3 : Nat) : Int) + 8 = ((11 : Nat) : Int) by decide) (fun hc => ?_) (fun hc => ?_)
    · have hlt : n < n0 := by
        rcases Nat.lt_or_ge n n0 with h | h
        · exact h
        · exact absurd (by rw [show n = n0 by omega]) hc
      exact tail s.heap [] 0 0 _ arr n0 (lv_at hl 0 rfl) (lv_at hl 1 rfl) (lv_at hl 2 rfl) (lv_at hl 3 rfl) hS (Nat.zero_le _) (Nat.zero_le _) (Or.inl ⟨rfl, by omega⟩) (Array.getElem?_eq_some_iff.mp ga3).1 hne hlt h10 hn1000 hob ⟨cA0, ga1, ga2, ga3⟩ hex
    · have heq : n = n0 := by
        have := congrArg Int32.toNatClampNeg hc
        rw [nI_clamp (by omega), nI_clamp (by omega)] at this
        exact this
      exact grow (Or.inr (by omega)) heq

