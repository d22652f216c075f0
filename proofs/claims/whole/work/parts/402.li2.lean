/-! lists: isEmpty -/
theorem dAe0 : decode prog_27_method_9_code 0 = .ok (.aload_n 0, 1) := by decide +kernel
theorem dAe1 : decode prog_27_method_9_code 1 = .ok (.getfield 48, 3) := by decide +kernel
theorem dAe4 : decode prog_27_method_9_code 4 = .ok (.ifCond .ne 7, 3) := by decide +kernel
theorem dAe7 : decode prog_27_method_9_code 7 = .ok (.iconst 1, 1) := by decide +kernel
theorem dAe8 : decode prog_27_method_9_code 8 = .ok (.goto 4, 3) := by decide +kernel
theorem dAe11 : decode prog_27_method_9_code 11 = .ok (.iconst 0, 1) := by decide +kernel
theorem dAe12 : decode prog_27_method_9_code 12 = .ok (.ireturn, 1) := by decide +kernel
theorem c_AL_isEmpty (l : Launch) : mCtr l E_AL_isEmpty := by
  intro D eb tL tB ad sz as σ pr rv σ' hF hpr hlv
  unfold E_AL_isEmpty S_AL_isEmpty at hF
  simp only [] at hF
  split at hF
  · rename_i kd i0
    cases hk : (Nat.ble 14 kd && Nat.ble kd 18) with
    | false =>
      rw [hk] at hF
      cases hF
      exact (hpr _ rfl).elim
    | true =>
      rw [hk] at hF
      cases hF
      refine va_MetF (cc := prog_27_method_9_code) (maxL := 1) (ret := some .boolean) (by decide +kernel) rfl ?_
      intro p e s m args below meth c s₁ B hml hv
      obtain ⟨rfl, hsz, hT, hK, hSt, hW⟩ := hv
      have hx := B.exec
      have hb := B.bytes
      have hr := B.returns
      have hown : s.vm.findClass "java/util/ArrayList" = some m.cls := findClass_of_methodNamed B.named
      rw [lg_entry_eq]
      have hl := lv_entry ([.ref (ad kd i0)]) (n := 1) (Nat.le_of_ble_eq_true rfl)
      have hlive : i0 < gN σ kd := hlv _ (List.mem_singleton_self _)
      obtain ⟨ho, -⟩ := AL_at hk (hW.1 kd i0 hlive)
      have hS : va_S (mA σ ad sz) s.heap s.heap [] := va_S.rf
      have post : ∀ v : Int32, v = v_AL_isEmpty kd i0 σ → ∀ t : State, t.heap = s.heap → s.WarmedH t.vm → mQc D (mA σ ad sz) eb tL tB ad σ (some (mI (v_AL_isEmpty kd i0 σ))) σ (([.inr (.inr (some (kd, i0)))] : List MV).map (mVal ad)).toArray s (.returned (some (.int v))) t := fun v hv t ht hWm => by
        subst hv
        refine ⟨⟨ad, rfl, mExt.refl ad σ, fun v hv => ?_, ?_⟩, hS.F ht⟩
        · cases hv; exact trivial
        · rw [ht]
          exact mWd_move hWm.alike hW (fun k i ho => (hW.2.2.1 k i ho).1) (fun k i hk hi => mAt_nA (hW.1 k i hi) hk) hW.2.2.2.2.1 hW.2.2.2.2.2.2.2.2.2
      refine lv_aload_n hx hb dAe0 rfl (lv_at hl 0 rfl) ?_
      refine r_getL hx hb hown hT hK mLay_ok (x := 48) (f := 2) rfl (by decide) tw_1_106 ho dAe1 ?_
      refine lv_if_ne hx hb dAe4 (show ((4 : Nat) : Int) + 7 = ((11 : Nat) : Int) by decide) (fun hc => ?_) (fun hc => ?_)
      · refine lv_iconst hx hb dAe11 rfl ?_
        exact W.zret hx hb hr rfl (post 0 (bI_f hc).symm) hS.2.2 dAe12
      · refine lv_iconst hx hb dAe7 rfl ?_
        refine lv_goto hx hb dAe8 (show ((8 : Nat) : Int) + 4 = ((12 : Nat) : Int) by decide) ?_
        exact W.zret hx hb hr rfl (post 1 (by unfold v_AL_isEmpty bI; exact (if_pos hc).symm)) hS.2.2 dAe12
  · cases hF
    exact (hpr _ rfl).elim

