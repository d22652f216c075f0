/-! lists: get -/
theorem li_Ob_105 : mLink "java/util/Objects" 105 E_Pre_ci := ⟨tw_2_223, tw_1_16, ⟨by decide, by decide⟩, by decide +kernel, Or.inl tw_2_221, (fun _ => tw_2_222), (fun h => by cases h), (fun h => by cases h)⟩
noncomputable def S_Ob_ci : List MV → MSto → Option Prop × Option MV × MSto := fun as σ => match as with
  | [.inl a, .inl b] => (some (0 ≤ a ∧ a < b), some (mI a), σ)
  | _ => (some False, none, σ)
noncomputable def E_Ob_ci : MEnt := ((0, 2, 0), (1, 22, 0, 0), S_Ob_ci, ((⟨"java/util/Objects", "checkIndex", "(II)I"⟩ : MethodName), prog_32_method_17_code, 2, some .int))
theorem dOc0 : decode prog_32_method_17_code 0 = .ok (.iload_n 0, 1) := by decide +kernel
theorem dOc1 : decode prog_32_method_17_code 1 = .ok (.iload_n 1, 1) := by decide +kernel
theorem dOc2 : decode prog_32_method_17_code 2 = .ok (.aconst_null, 1) := by decide +kernel
theorem dOc3 : decode prog_32_method_17_code 3 = .ok (.invokestatic 105, 3) := by decide +kernel
theorem dOc6 : decode prog_32_method_17_code 6 = .ok (.ireturn, 1) := by decide +kernel
theorem c_Ob_ci (l : Launch) : mCtr l E_Ob_ci := by
  intro D eb tL tB ad sz as σ pr rv σ' hF hpr hlv
  unfold E_Ob_ci S_Ob_ci at hF
  simp only [] at hF
  split at hF
  · rename_i a b
    cases hF
    have hp := hpr _ rfl
    refine va_MetF (cc := prog_32_method_17_code) (maxL := 2) (ret := some .int) (by decide +kernel) rfl ?_
    intro p e s m args below meth c s₁ B hml hv
    obtain ⟨rfl, hsz, hT, hK, hSt, hW⟩ := hv
    have hx := B.exec
    have hb := B.bytes
    have hr := B.returns
    have hown : s.vm.findClass "java/util/Objects" = some m.cls := findClass_of_methodNamed B.named
    have hA : ∀ q, s.heap.size ≤ q → mA σ ad sz q := fun q hq => Or.inr (by rw [← hsz]; exact hq)
    rw [lg_entry_eq]
    have hl := lv_entry ([.int a, .int b]) (n := 2) (Nat.le_of_ble_eq_true rfl)
    have hS : va_S (mA σ ad sz) s.heap s.heap [] := va_S.rf
    refine lv_iload_n hx hb dOc0 rfl (lv_at hl 0 rfl) ?_
    refine lv_iload_n hx hb dOc1 rfl (lv_at hl 1 rfl) ?_
    refine lv_null hx hb dOc2 ?_
    refine r_callS (en := E_Pre_ci) (Aa := [.inl a, .inl b, .inr (.inr none)]) (rest := []) (nL := 2) (pr := some (0 ≤ a ∧ a < b)) (rv := some (mI a)) (σ' := σ) hx hb hml hown hT hK hSt hA li_Ob_105 tw_2_221 rfl (c_Pre_ci l) rfl (fun q h => by cases h; exact hp) (fun v hv => ?_) rfl hl.1 hW hS (Nat.le_of_ble_eq_true rfl) (Nat.le_of_ble_eq_true rfl) (Nat.le_of_ble_eq_true rfl) (Nat.le_of_ble_eq_true rfl) (Nat.zero_le _) dOc3 (fun ad' H1 locs1 hW1 hS1 hext hlv1 => ?_)
    · rcases List.mem_cons.mp hv with rfl | h
      · exact trivial
      · rcases List.mem_cons.mp h with rfl | h
        · exact trivial
        · rcases List.mem_cons.mp h with rfl | h
          · exact trivial
          · cases h
    · refine W.zret hx hb hr rfl (fun t ht hWm => ⟨⟨ad', rfl, hext, fun v hv => ?_, ?_⟩, hS1.F ht⟩) hS1.2.2 dOc6
      · cases hv; exact trivial
      · rw [ht]
        exact mWd_move hWm.alike hW1 (fun k i ho => (hW1.2.2.1 k i ho).1) (fun k i hk hi => mAt_nA (hW1.1 k i hi) hk) hW1.2.2.2.2.1 hW1.2.2.2.2.2.2.2.2.2
  · cases hF
    exact (hpr _ rfl).elim
theorem li_AL_118 : mLink "java/util/ArrayList" 118 E_Ob_ci := ⟨tw_2_220, tw_1_15, ⟨by decide, by decide⟩, by decide +kernel, Or.inl tw_2_218, (fun _ => tw_2_219), (fun h => by cases h), (fun h => by cases h)⟩
theorem li_AL_123 : mLink "java/util/ArrayList" 123 E_AL_eD := ⟨tw_2_227, tw_1_7, ⟨by decide, by decide⟩, by decide +kernel, Or.inl tw_2_224, (fun h => by cases h), (fun _ => ⟨tw_2_225, tw_2_226, TJx4a65c, 3, rfl⟩), (fun h => by cases h)⟩
theorem dAg0 : decode prog_27_method_20_code 0 = .ok (.iload_n 1, 1) := by decide +kernel
theorem dAg1 : decode prog_27_method_20_code 1 = .ok (.aload_n 0, 1) := by decide +kernel
theorem dAg2 : decode prog_27_method_20_code 2 = .ok (.getfield 48, 3) := by decide +kernel
theorem dAg5 : decode prog_27_method_20_code 5 = .ok (.invokestatic 118, 3) := by decide +kernel
theorem dAg8 : decode prog_27_method_20_code 8 = .ok (.pop, 1) := by decide +kernel
theorem dAg9 : decode prog_27_method_20_code 9 = .ok (.aload_n 0, 1) := by decide +kernel
theorem dAg10 : decode prog_27_method_20_code 10 = .ok (.iload_n 1, 1) := by decide +kernel
theorem dAg11 : decode prog_27_method_20_code 11 = .ok (.invokevirtual 123, 3) := by decide +kernel
theorem dAg14 : decode prog_27_method_20_code 14 = .ok (.areturn, 1) := by decide +kernel
theorem KT_L {kd : Nat} (hk : (Nat.ble 14 kd && Nat.ble kd 18) = true) : ∃ fs, KT kd = some (.inl (0, fs)) := by
  rw [Bool.and_eq_true] at hk
  have h1 := Nat.le_of_ble_eq_true hk.1
  have h2 := Nat.le_of_ble_eq_true hk.2
  have : kd = 14 ∨ kd = 15 ∨ kd = 16 ∨ kd = 17 ∨ kd = 18 := by omega
  rcases this with rfl | rfl | rfl | rfl | rfl <;> exact ⟨_, rfl⟩
theorem c_AL_get (l : Launch) : mCtr l E_AL_get := by
  intro D eb tL tB ad sz as σ pr rv σ' hF hpr hlv
  unfold E_AL_get S_AL_get at hF
  simp only [] at hF
  split at hF
  · rename_i kd i0 a0
    cases hk : (Nat.ble 14 kd && Nat.ble kd 18) with
    | false =>
      rw [hk] at hF
      cases hF
      exact (hpr _ rfl).elim
    | true =>
      rw [hk] at hF
      cases hF
      have hp := hpr _ rfl
      refine va_MetF (cc := prog_27_method_20_code) (maxL := 2) (ret := some (.object "java/lang/Object")) (by decide +kernel) rfl ?_
      intro p e s m args below meth c s₁ B hml hv
      obtain ⟨rfl, hsz, hT, hK, hSt, hW⟩ := hv
      have hx := B.exec
      have hb := B.bytes
      have hr := B.returns
      have hown : s.vm.findClass "java/util/ArrayList" = some m.cls := findClass_of_methodNamed B.named
      have hA : ∀ q, s.heap.size ≤ q → mA σ ad sz q := fun q hq => Or.inr (by rw [← hsz]; exact hq)
      rw [lg_entry_eq]
      have hl := lv_entry ([.ref (ad kd i0), .int a0]) (n := 2) (Nat.le_of_ble_eq_true rfl)
      have hlive : i0 < gN σ kd := hlv _ (List.mem_cons_self)
      obtain ⟨ho, -⟩ := AL_at hk (hW.1 kd i0 hlive)
      have hS : va_S (mA σ ad sz) s.heap s.heap [] := va_S.rf
      obtain ⟨fs, hkt⟩ := KT_L hk
      refine lv_iload_n hx hb dAg0 rfl (lv_at hl 1 rfl) ?_
      refine lv_aload_n hx hb dAg1 rfl (lv_at hl 0 rfl) ?_
      refine r_getL hx hb hown hT hK mLay_ok (x := 48) (f := 2) rfl (by decide) tw_1_106 ho dAg2 ?_
      refine r_callS (en := E_Ob_ci) (Aa := [.inl a0, .inl (gI σ kd i0 2)]) (rest := []) (nL := 2) (pr := some (0 ≤ a0 ∧ a0 < gI σ kd i0 2)) (rv := some (mI a0)) (σ' := σ) hx hb hml hown hT hK hSt hA li_AL_118 tw_2_218 rfl (c_Ob_ci l) rfl (fun q h => by cases h; exact hp) (fun v hv => ?_) rfl hl.1 hW hS (Nat.le_of_ble_eq_true rfl) (Nat.le_of_ble_eq_true rfl) (Nat.le_of_ble_eq_true rfl) (Nat.le_of_ble_eq_true rfl) (Nat.zero_le _) dAg5 (fun ad' H1 locs1 hW1 hS1 hext hlv1 => ?_)
      · rcases List.mem_cons.mp hv with rfl | h
        · exact trivial
        · rcases List.mem_cons.mp h with rfl | h
          · exact trivial
          · cases h
      · refine lv_pop hx hb dAg8 rfl ?_
        refine lv_aload_n hx hb dAg9 rfl (lv_at hl 0 rfl) ?_
        refine lv_iload_n hx hb dAg10 rfl (lv_at hl 1 rfl) ?_
        rw [← (hext.1 kd i0 hlive).2]
        refine r_callV (en := E_AL_eD) (kd := kd) (j := i0) (fs := fs) (Aa := [.inl a0]) (rest := []) (nL := 2) (pr := some (p_AL_get kd i0 a0 σ)) (rv := some (mR (mLK kd) (v_AL_get kd i0 a0 σ))) (σ' := σ) hx hb hml hown hT hK hSt hA li_AL_123 tw_2_224 rfl (c_AL_eD l) hkt ?_ (fun q h => by cases h; exact hp) (fun v hv => hlv v hv) rfl hl.1 hW1 hS1 (Nat.le_of_ble_eq_true rfl) (Nat.le_of_ble_eq_true rfl) (Nat.le_of_ble_eq_true rfl) (Nat.le_of_ble_eq_true rfl) (Nat.zero_le _) dAg11 (fun ad2 H2 locs2 hW2 hS2 hext2 hlv2 => ?_)
        · show S_AL_eD [.inr (.inr (some (kd, i0))), .inl a0] σ = _
          unfold S_AL_eD
          simp only []
          rw [hk]; rfl
        · refine W.aret hx hb hr (Or.inl ⟨_, rfl⟩) (Or.inr ⟨_, rfl⟩) (fun t ht hWm => ⟨⟨ad2, rfl, hext.trans hext2, hlv2, ?_⟩, hS2.F ht⟩) hS2.2.2 dAg14
          rw [ht]
          exact mWd_move hWm.alike hW2 (fun k i ho => (hW2.2.2.1 k i ho).1) (fun k i hk hi => mAt_nA (hW2.1 k i hi) hk) hW2.2.2.2.2.1 hW2.2.2.2.2.2.2.2.2.2
  · cases hF
    exact (hpr _ rfl).elim

