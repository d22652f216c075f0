/-! lists: the check of an index -/
noncomputable def S_Pre_ci : List MV → MSto → Option Prop × Option MV × MSto := fun as σ => match as with
  | [.inl a, .inl b, .inr (.inr none)] => (some (0 ≤ a ∧ a < b), some (mI a), σ)
  | _ => (some False, none, σ)
noncomputable def E_Pre_ci : MEnt := ((0, 3, 0), (0, 0, 0, 0), S_Pre_ci, ((⟨"jdk/internal/util/Preconditions", "checkIndex", "(IILjava/util/function/BiFunction;)I"⟩ : MethodName), prog_36_method_11_code, 3, some .int))
theorem dPc0 : decode prog_36_method_11_code 0 = .ok (.iload_n 0, 1) := by decide +kernel
theorem dPc1 : decode prog_36_method_11_code 1 = .ok (.ifCond .lt 8, 3) := by decide +kernel
theorem dPc4 : decode prog_36_method_11_code 4 = .ok (.iload_n 0, 1) := by decide +kernel
theorem dPc5 : decode prog_36_method_11_code 5 = .ok (.iload_n 1, 1) := by decide +kernel
theorem dPc6 : decode prog_36_method_11_code 6 = .ok (.if_icmp .lt 10, 3) := by decide +kernel
theorem dPc16 : decode prog_36_method_11_code 16 = .ok (.iload_n 0, 1) := by decide +kernel
theorem dPc17 : decode prog_36_method_11_code 17 = .ok (.ireturn, 1) := by decide +kernel
theorem c_Pre_ci (l : Launch) : mCtr l E_Pre_ci := by
  intro D eb tL tB ad sz as σ pr rv σ' hF hpr hlv
  unfold E_Pre_ci S_Pre_ci at hF
  simp only [] at hF
  split at hF
  · rename_i a b
    cases hF
    obtain ⟨hp1, hp2⟩ := hpr _ rfl
    refine va_MetF (cc := prog_36_method_11_code) (maxL := 3) (ret := some .int) (by decide +kernel) rfl ?_
    intro p e s m args below meth c s₁ B hml hv
    obtain ⟨rfl, hsz, hT, hK, hSt, hW⟩ := hv
    have hx := B.exec
    have hb := B.bytes
    have hr := B.returns
    rw [lg_entry_eq]
    have hl := lv_entry ([.int a, .int b, .null]) (n := 3) (Nat.le_of_ble_eq_true rfl)
    have hS : va_S (mA σ ad sz) s.heap s.heap [] := va_S.rf
    refine lv_iload_n hx hb dPc0 rfl (lv_at hl 0 rfl) ?_
    refine lv_if_lt hx hb dPc1 (show ((1 : Nat) : Int) + 8 = ((9 : Nat) : Int) by decide) (fun hc => absurd hc (Int32.not_lt.mpr hp1)) (fun _ => ?_)
    refine lv_iload_n hx hb dPc4 rfl (lv_at hl 0 rfl) ?_
    refine lv_iload_n hx hb dPc5 rfl (lv_at hl 1 rfl) ?_
    refine lv_icmp_lt hx hb dPc6 (show ((6 : Nat) : Int) + 10 = ((16 : Nat) : Int) by decide) (fun _ => ?_) (fun hc => absurd hp2 hc)
    refine lv_iload_n hx hb dPc16 rfl (lv_at hl 0 rfl) ?_
    refine W.zret hx hb hr rfl (fun t ht hWm => ⟨⟨ad, rfl, mExt.refl ad σ, fun v hv => ?_, ?_⟩, hS.F ht⟩) hS.2.2 dPc17
    · cases hv; exact trivial
    · rw [ht]
      exact mWd_move hWm.alike hW (fun k i ho => (hW.2.2.1 k i ho).1) (fun k i hk hi => mAt_nA (hW.1 k i hi) hk) hW.2.2.2.2.1 hW.2.2.2.2.2.2.2.2.2
  · cases hF
    exact (hpr _ rfl).elim

