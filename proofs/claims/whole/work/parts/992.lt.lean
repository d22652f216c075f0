/-! a turn of the law -/
/-- from a case's start to the turn's end, whatever goes on there -/
def LTurn (l : Launch) (L pc i : Nat) : Prop := ∀ (p : Program) (e : Env) (R : Room) (s : State) (m : MethodId) (args : Array Value) (below : List Frame) (meth : Method) (c : Code) (Q : State → Prop) (D : va_G) (A : Nat → Prop) (eb tL tB c0 s0 : Nat) (ad0 : Nat → Nat → Nat) (σ0 σ : MSto),
  mCx p s m meth c code 8 "ClothWithManLaw" D A eb tL tB P_L → 2000 ≤ R.frames → 80000 ≤ R.locals → c0 + 200 ≤ R.cells → s0 + 3000 ≤ R.slots → LInv L σ →
  (∀ (σ' : MSto) (cc zz : Nat), LInv L σ' → cc ≤ 11 → zz ≤ 106 → mWP p l e R s m args below meth c Q 8 D A eb tL tB ad0 σ0 (c0 + cc) (s0 + zz) (2235, LH i, [], σ', 0, 0)) →
  mWP p l e R s m args below meth c Q 8 D A eb tL tB ad0 σ0 c0 s0 (pc, LH i, [], σ, 0, 0)
theorem hRm_L {R : Room} {c0 s0 : Nat} (h1 : 2000 ≤ R.frames) (h2 : 80000 ≤ R.locals) (h3 : c0 + 100 ≤ R.cells) (h4 : s0 + 2500 ≤ R.slots) : mRoomOK R P_L c0 s0 := ⟨h3, h4, Nat.le_trans (Nat.le_of_ble_eq_true rfl) h1, Nat.le_trans (Nat.le_of_ble_eq_true rfl) h2⟩
theorem LTurn_of {l : Launch} {L pc i : Nat} (h : ∀ σ, LInv L σ → LGo L pc i σ) : LTurn l L pc i := by
  intro p e R s m args below meth c Q D A eb tL tB c0 s0 ad0 σ0 σ X hR1 hR2 hc hs hI hk
  obtain ⟨σ', cc, zz, hI', h1, h2, run⟩ := h σ hI
  have hend : mWP p l e R s m args below meth c Q 8 D A eb tL tB ad0 σ0 c0 s0 (2235, LH i, [], σ', cc, zz) := hk σ' cc zz hI' (by omega) (by omega)
  exact s_run X mLay_ok (hRm_L hR1 hR2 (by omega) (by omega)) (ok_L l) hend (fun st h => by cases h; exact hend) 600 _ run
section LCH
variable {p : Program} {l : Launch} {e : Env} {R : Room} {s : State} {m : MethodId} {args : Array Value} {below : List Frame} {meth : Method} {c : Code} {Q : State → Prop}
variable {D : va_G} {A : Nat → Prop} {eb tL tB c0 s0 : Nat} {ad0 : Nat → Nat → Nat} {σ0 : MSto}
theorem mWP_callH {y : MethodName} {bytes : ByteArray} {maxL x pc N : Nat} {hh : List (Nat × Nat × Nat × Nat)} {as : List MV} {σ σ' : MSto} {k : Int32} {L : List (Option MV)} (X : mCx p s m meth c code 8 "ClothWithManLaw" D A eb tL tB P_L) (hR1 : 2000 ≤ R.frames) (hR2 : 80000 ≤ R.locals) (hc : c0 + 200 ≤ R.cells) (hs : s0 + 3000 ≤ R.slots)
    (hM : (∀ v ∈ as, mLive σ v) → mMetH l y bytes maxL hh as σ k σ') (hw1 : Cond.codeWith y bytes maxL (some .int) hh ∈ lw_tbl) (hw2 : Cond.initialized y.cls ∈ lw_tbl) (hw3 : Cond.methodLink "ClothWithManLaw" x y ∈ lw_tbl) (hw4 : Cond.static y ∈ lw_tbl) (hy : y.cls ≠ "java/lang/invoke/MethodHandle" ∧ y.cls ≠ "java/lang/invoke/VarHandle") (hn : (parseMethodDescriptor y.desc).map (fun d => d.parameters.length) = some N) (hN : as.length = N) (hmx : maxL ≤ 100) (hd : decode code pc = .ok (.invokestatic x, 3))
    (kk : mWP p l e R s m args below meth c Q 8 D A eb tL tB ad0 σ0 (c0 + 1) (s0 + 6) (pc + 3, L, [mI k], σ', 0, 0)) : mWP p l e R s m args below meth c Q 8 D A eb tL tB ad0 σ0 c0 s0 (pc, L, as.reverse, σ, 0, 0) := by
  obtain ⟨hx, hb, hml, hown, hT, hK, hSt, hA, -⟩ := X
  intro ad H locs ls hW hS hv hL
  have hva : ∀ v ∈ as, mLive σ v := fun v h => hv.1 v (List.mem_reverse.mpr h)
  have hMM := hM hva D eb tL tB ad H.size
  show W p l e R s m args below meth c H locs c0 s0 Q (F0 m pc ls (as.reverse.map (mVal ad)))
  have hst : as.reverse.map (mVal ad) = (as.map (mVal ad)).reverse ++ [] := by rw [List.map_reverse, List.append_nil]
  rw [hst]
  refine mCallW (mc := 1) (ms := 6) (rv := some (mI k)) (σ' := σ') (rest := []) (a := (as.map (mVal ad)).toArray) hA hW hS ?_ (fun ad' H1 locs1 hW1 hS1 hext hlv => ?_)
  · exact vx_runSW (hh := hh) (bytes := bytes) (maxL := maxL) (ret := some .int) (n := N) (Ts := []) ⟨hx, hb, hml, hown, fun w h => absurd h List.not_mem_nil⟩ hMM ⟨⟨rfl, rfl, by show 30 + 1 ≤ R.frames; omega, by show 8 + (maxL + 11) + 400 ≤ R.locals; omega, fun w hw a' U hWm => by rw [List.mem_singleton.mp hw]; exact (hT.warm hWm).use hw1 rfl, List.mem_singleton.mpr rfl⟩, hT.use hw1 rfl, hT.use hw2 rfl, hy, (fun sig h => by rw [h] at hn; exact (Option.some.inj hn).symm), hT.use hw3 rfl, hT.use hw4 rfl⟩
      ⟨mPc_blind, fun U hU hWm => ⟨rfl, mGood_call hT hK hSt hA hW hS hU hWm⟩⟩ rfl (by rw [List.length_map]; exact hN) hL.1 rfl (lv_room (by decide)) hd ⟨by omega, by omega⟩
  · obtain ⟨g1, g2, g3⟩ := mGo_on (L := L) (rest := []) hext hlv (fun v h => by cases h) hv.2
    exact kk ad' H1 locs1 ls hW1 hS1 ⟨g1, g2⟩ (mLs_ext (fun a b hb => (hext.1 a b hb).2) hv.2 hL)
end LCH

