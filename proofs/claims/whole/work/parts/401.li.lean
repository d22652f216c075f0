/-! lists: their contracts -/
theorem AL_at {U : State} {D : va_G} {A : Nat → Prop} {eb : Nat} {ad : Nat → Nat → Nat} {σ : MSto} {kd i : Nat} {H : Heap} (hk : (Nat.ble 14 kd && Nat.ble kd 18) = true) (h : mAt U D A eb ad σ kd i H) : mLAt U D A eb ad σ kd i H := by
  rw [Bool.and_eq_true] at hk
  have h1 := Nat.le_of_ble_eq_true hk.1
  have h2 := Nat.le_of_ble_eq_true hk.2
  have : kd = 14 ∨ kd = 15 ∨ kd = 16 ∨ kd = 17 ∨ kd = 18 := by omega
  rcases this with rfl | rfl | rfl | rfl | rfl <;> exact h
section LI
variable {p : Program} {l : Launch} {e : Env} {R : Room} {s : State} {m : MethodId} {args : Array Value} {below : List Frame} {meth : Method} {c : Code} {Q : State → Prop}
variable {cc : ByteArray} {D : va_G} {own : String}
variable {H : Heap} {locs : List Loc} {cells slots : Nat} {pc : Nat} {ls : Array Slot} {rest : List Value}
theorem r_getL (hx : p.tables.exec = Jvm.exec) (hb : c.code = cc) (hown : s.vm.findClass own = some m.cls) (hT : mTab s) (hK : va_K D mCl [] s) (hLay : mLay) {x f : Nat} {C : String} {T : u_T} {N : Nat} (h1 : mCl[0]? = some (C, T, N)) (h2 : f < N) (h5 : Cond.fieldLink own x (T f).1 (T f).2.1 (T f).2.2.1 ∈ lw_tbl) {a : Nat} {V : Nat → Value} (ho : t_OB a (D.1 0) N (D.2 0) H V) (hd : decode cc pc = .ok (.getfield x, 3))
    (kk : W p l e R s m args below meth c H locs cells slots Q (F0 m (pc + 3) ls (V f :: rest))) : W p l e R s m args below meth c H locs cells slots Q (F0 m pc ls (.ref a :: rest)) := by
  obtain ⟨hin, -, -⟩ := hLay 0 C T N h1
  have hts := mLayWs (args := args) hT hin
  obtain ⟨cell, q1, q2, q3, q4⟩ := ho
  obtain ⟨hS, hfc, kC, hkC, hkind⟩ := hK.1 0 _ h1
  obtain ⟨cf, kf, fi, fd, hi, hsl⟩ := hS f h2
  have hst := (u_facts hfc hkC (u_lays hts (fun w h => h) h2) hi).1
  have hv : cell.slots[fd.slot]? = some (V f) := by rw [hsl, q4 f h2]
  have hkn : cell.vm ≠ .unknown := by rw [q3]; exact fun h => by cases h
  exact W.getf hx hb hown (hT.use h5 rfl) hi hst q1 hkn hv rfl rfl hd kk
end LI
theorem dAs0 : decode prog_27_method_8_code 0 = .ok (.aload_n 0, 1) := by decide +kernel
theorem dAs1 : decode prog_27_method_8_code 1 = .ok (.getfield 48, 3) := by decide +kernel
theorem dAs4 : decode prog_27_method_8_code 4 = .ok (.ireturn, 1) := by decide +kernel
theorem c_AL_size (l : Launch) : mCtr l E_AL_size := by
  intro D eb tL tB ad sz as σ pr rv σ' hF hpr hlv
  unfold E_AL_size S_AL_size at hF
  simp only [] at hF
  split at hF
  · rename_i kd i0
    cases hk : (Nat.ble 14 kd && Nat.ble kd 18) with
    | false =>
      rw [hk] at hF
      cases hF
      exact (hpr _ rfl).elim
    | true =>
      rw [hk] at hF
      cases hF
      refine va_MetF (cc := prog_27_method_8_code) (maxL := 1) (ret := some .int) (by decide +kernel) rfl ?_
      intro p e s m args below meth c s₁ B hml hv
      obtain ⟨rfl, hsz, hT, hK, hSt, hW⟩ := hv
      have hx := B.exec
      have hb := B.bytes
      have hr := B.returns
      have hown : s.vm.findClass "java/util/ArrayList" = some m.cls := findClass_of_methodNamed B.named
      rw [lg_entry_eq]
      have hl := lv_entry ([.ref (ad kd i0)]) (n := 1) (Nat.le_of_ble_eq_true rfl)
      have hlive : i0 < gN σ kd := hlv _ (List.mem_singleton_self _)
      obtain ⟨ho, -⟩ := AL_at hk (hW.1 kd i0 hlive)
      have hS : va_S (mA σ ad sz) s.heap s.heap [] := va_S.rf
      refine lv_aload_n hx hb dAs0 rfl (lv_at hl 0 rfl) ?_
      refine r_getL hx hb hown hT hK mLay_ok (x := 48) (f := 2) rfl (by decide) tw_1_106 ho dAs1 ?_
      refine W.zret hx hb hr rfl (fun t ht hWm => ⟨⟨ad, rfl, mExt.refl ad σ, fun v hv => ?_, ?_⟩, hS.F ht⟩) hS.2.2 dAs4
      · cases hv; exact trivial
      · rw [ht]
        exact mWd_move hWm.alike hW (fun k i ho => (hW.2.2.1 k i ho).1) (fun k i hk hi => mAt_nA (hW.1 k i hi) hk) hW.2.2.2.2.1 hW.2.2.2.2.2.2.2.2.2
  · cases hF
    exact (hpr _ rfl).elim

