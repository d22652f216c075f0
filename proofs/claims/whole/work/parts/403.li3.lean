/-! lists: elementData -/
noncomputable def S_AL_eD : List MV → MSto → Option Prop × Option MV × MSto := fun as σ => match as with
  | [.inr (.inr (some (kd, i0))), .inl a0] => bif Nat.ble 14 kd && Nat.ble kd 18 then (some (p_AL_get kd i0 a0 σ), some (mR (mLK kd) (v_AL_get kd i0 a0 σ)), σ) else (some False, none, σ)
  | _ => (some False, none, σ)
noncomputable def E_AL_eD : MEnt := ((1, 1, 0), (0, 0, 0, 0), S_AL_eD, ((⟨"java/util/ArrayList", "elementData", "(I)Ljava/lang/Object;"⟩ : MethodName), prog_27_method_18_code, 2, some (.object "java/lang/Object")))
theorem dAd0 : decode prog_27_method_18_code 0 = .ok (.aload_n 0, 1) := by decide +kernel
theorem dAd1 : decode prog_27_method_18_code 1 = .ok (.getfield 9, 3) := by decide +kernel
theorem dAd4 : decode prog_27_method_18_code 4 = .ok (.iload_n 1, 1) := by decide +kernel
theorem dAd5 : decode prog_27_method_18_code 5 = .ok (.aaload, 1) := by decide +kernel
theorem dAd6 : decode prog_27_method_18_code 6 = .ok (.areturn, 1) := by decide +kernel
theorem mTg_L {kd : Nat} (hk : (Nat.ble 14 kd && Nat.ble kd 18) = true) (j : Nat) : mTg kd j = mLK kd := by
  rw [Bool.and_eq_true] at hk
  have h1 := Nat.le_of_ble_eq_true hk.1
  have h2 := Nat.le_of_ble_eq_true hk.2
  have : kd = 14 ∨ kd = 15 ∨ kd = 16 ∨ kd = 17 ∨ kd = 18 := by omega
  rcases this with rfl | rfl | rfl | rfl | rfl <;> rfl
theorem nat_of0 {x : Int32} (h : 0 ≤ x) : ∃ n : Nat, x = nI n ∧ n < 2 ^ 31 ∧ (n : Int) = x.toInt := by
  rw [Int32.le_iff_toInt_le] at h
  have h0 : (0 : Int32).toInt = 0 := rfl
  have hx := x.toInt_lt
  refine ⟨x.toInt.toNat, ?_, by omega, by omega⟩
  rw [← Int32.toInt_inj, nI_toInt (by omega)]
  omega
theorem c_AL_eD (l : Launch) : mCtr l E_AL_eD := by
  intro D eb tL tB ad sz as σ pr rv σ' hF hpr hlv
  unfold E_AL_eD S_AL_eD at hF
  simp only [] at hF
  split at hF
  · rename_i kd i0 a0
    cases hk : (Nat.ble 14 kd && Nat.ble kd 18) with
    | false =>
      rw [hk] at hF
      cases hF
      exact (hpr _ rfl).elim
    | true =>
      rw [hk] at hF
      cases hF
      obtain ⟨hp1, hp2⟩ := hpr _ rfl
      refine va_MetF (cc := prog_27_method_18_code) (maxL := 2) (ret := some (.object "java/lang/Object")) (by decide +kernel) rfl ?_
      intro p e s m args below meth c s₁ B hml hv
      obtain ⟨rfl, hsz, hT, hK, hSt, hW⟩ := hv
      have hx := B.exec
      have hb := B.bytes
      have hr := B.returns
      have hown : s.vm.findClass "java/util/ArrayList" = some m.cls := findClass_of_methodNamed B.named
      rw [lg_entry_eq]
      have hl := lv_entry ([.ref (ad kd i0), .int a0]) (n := 2) (Nat.le_of_ble_eq_true rfl)
      have hlive : i0 < gN σ kd := hlv _ (List.mem_cons_self)
      obtain ⟨ho, n, cap, hnc, hc1, en, hcase⟩ := AL_at hk (hW.1 kd i0 hlive)
      have hS : va_S (mA σ ad sz) s.heap s.heap [] := va_S.rf
      rw [en] at hp2
      obtain ⟨j, ej, hj, -⟩ := nat_of0 hp1
      rw [ej] at hp2
      have hjn : j < n := (ltN hj (by omega)).mp hp2
      have ecl : a0.toNatClampNeg = j := by rw [ej, nI_cl hj]
      rcases hcase with ⟨h0, -, -⟩ | ⟨hn0, hc10, cA, g1, g2, g3, g4⟩
      · omega
      · have hin : vp_in a0 cap := by rw [ej]; exact nI_inb (by omega) (by omega)
        cases hy : gR σ kd i0 j with
        | none => have := g4 j hjn; rw [hy] at this; cases this
        | some y =>
          have hyl : y < gN σ (mLK kd) := by
            have := hW.2.2.2.1.1 kd i0 j y hlive hy
            rw [mTg_L hk] at this
            exact this
          have ev : v_AL_get kd i0 a0 σ = y := by
            unfold v_AL_get
            rw [ecl, hy]; rfl
          refine lv_aload_n hx hb dAd0 rfl (lv_at hl 0 rfl) ?_
          refine r_getL hx hb hown hT hK mLay_ok (x := 9) (f := 1) rfl (by decide) tw_1_105 ho dAd1 ?_
          refine lv_iload_n hx hb dAd4 rfl (lv_at hl 1 rfl) ?_
          refine W.aald (v := .ref (ad (mLK kd) y)) (ty := .object "java/lang/Object") hx hb g3 (g1 _ _) rfl (fun q => by cases q) (arr_in hin) (by rw [arr_rd hin, ecl, if_pos hjn, hy]; rfl) rfl rfl dAd5 ?_
          refine W.aret hx hb hr (Or.inl ⟨_, rfl⟩) (Or.inr ⟨_, rfl⟩) (fun t ht hWm => ⟨⟨ad, ?_, mExt.refl ad σ, fun v hv => ?_, ?_⟩, hS.F ht⟩) hS.2.2 dAd6
          · rw [ev]; rfl
          · cases hv
            rw [ev]; exact hyl
          · rw [ht]
            exact mWd_move hWm.alike hW (fun k i ho => (hW.2.2.1 k i ho).1) (fun k i hk hi => mAt_nA (hW.1 k i hi) hk) hW.2.2.2.2.1 hW.2.2.2.2.2.2.2.2.2
  · cases hF
    exact (hpr _ rfl).elim

