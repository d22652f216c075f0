/-! a call in a walk by hand -/
section LC
variable {p : Program} {l : Launch} {e : Env} {R : Room} {s : State} {m : MethodId} {args : Array Value} {below : List Frame} {meth : Method} {c : Code} {Q : State → Prop}
variable {cc : ByteArray} {nL : Nat} {D : va_G} {A : Nat → Prop} {eb tL tB : Nat} {ad0 : Nat → Nat → Nat} {σ0 : MSto} {own : String}
theorem r_callS (hx : p.tables.exec = Jvm.exec) (hb : c.code = cc) (hml : c.maxLocals = nL) (hown : s.vm.findClass own = some m.cls) (hT : mTab s) (hK : va_K D mCl [] s) (hSt : mStat s A eb tL tB s.heap) (hA : ∀ q, s.heap.size ≤ q → A q) {en : MEnt} {x : Nat} (hLk : mLink own x en) (hl5 : Cond.methodLink own x (eY en) ∈ lw_tbl) (hm0 : en.1.1 = 0) (hC : mCtr l en) {Aa : List MV} {σ σ' : MSto} {pr : Option Prop} {rv : Option MV} (hF1 : en.2.2.1 Aa σ = (pr, rv, σ')) (hpr : ∀ q, pr = some q → q) (hva : ∀ v ∈ Aa, mLive σ v) (hlen : Aa.length = en.1.2.1) {H : Heap} {locs : List Loc} {cells slots pc : Nat} {ls : Array Slot} {rest : List Value} {ad : Nat → Nat → Nat} (hls : ls.size = nL) (hW : mWd s D A eb tL tB ad0 σ0 ad σ H) (hS : va_S A s.heap H locs)
    (h1 : en.2.1.1 + 1 ≤ R.frames) (h2 : 8 + (en.2.2.2.2.2.1 + 11) + en.2.1.2.1 ≤ R.locals) (h3 : cells + en.2.1.2.2.1 ≤ R.cells) (h4 : slots + en.2.1.2.2.2 ≤ R.slots) (h5 : (rest.map fun v => v.category).sum ≤ 8) (hd : decode cc pc = .ok (.invokestatic x, 3))
    (kk : ∀ (ad' : Nat → Nat → Nat) (H1 : Heap) (locs1 : List Loc), mWd s D A eb tL tB ad0 σ0 ad' σ' H1 → va_S A s.heap H1 locs1 → mExt ad ad' σ σ' → (∀ v, rv = some v → mLive σ' v) → W p l e R s m args below meth c H1 locs1 (cells + en.2.1.2.2.1) (slots + en.2.1.2.2.2) Q (F0 m (pc + 3) ls ((rv.map (mVal ad')).toList ++ rest))) : W p l e R s m args below meth c H locs cells slots Q (F0 m pc ls ((Aa.map (mVal ad)).reverse ++ rest)) := by
  obtain ⟨w1, w2, w3, w4, -, wS, -, -⟩ := hLk
  have hM := hC D eb tL tB ad H.size Aa σ pr rv σ' hF1 hpr hva
  have hroom : 2 * (F0 m pc ls ((Aa.map (mVal ad)).reverse ++ rest)).monitorRoom + (rest.map fun v => v.category).sum ≤ 8 := lv_room h5
  refine mCallW (a := (Aa.map (mVal ad)).toArray) hA hW hS ?_ kk
  exact va_runS (n := en.1.2.1) ⟨hx, hb, hml, hown, (fun w h => absurd h List.not_mem_nil : ∀ w ∈ ([] : List Cond), w.before args s = true)⟩ hM ⟨⟨rfl, rfl, h1, h2, mCode_ws hT w1, List.mem_singleton.mpr rfl, hT.use w1 rfl, hT.use w2 rfl, w3, (fun sig hs => by rw [hs] at w4; exact (Option.some.inj w4).symm), hT.use hl5 rfl⟩, hT.use (wS hm0) rfl⟩
    ⟨mPc_blind, fun U hU hWm => ⟨rfl, mGood_call hT hK hSt hA hW hS hU hWm⟩⟩ rfl (by rw [List.length_map]; exact hlen) hls rfl hroom hd ⟨h3, h4⟩
theorem r_callV (hx : p.tables.exec = Jvm.exec) (hb : c.code = cc) (hml : c.maxLocals = nL) (hown : s.vm.findClass own = some m.cls) (hT : mTab s) (hK : va_K D mCl [] s) (hSt : mStat s A eb tL tB s.heap) (hA : ∀ q, s.heap.size ≤ q → A q) {en : MEnt} {x : Nat} (hLk : mLink own x en) (hl5 : Cond.methodLink own x (eY en) ∈ lw_tbl) (hm1 : en.1.1 = 1) (hC : mCtr l en) {kd j : Nat} {fs : List Nat} {Aa : List MV} {σ σ' : MSto} {pr : Option Prop} {rv : Option MV} (hkt : KT kd = some (.inl (en.1.2.2, fs))) (hF1 : en.2.2.1 (mR kd j :: Aa) σ = (pr, rv, σ')) (hpr : ∀ q, pr = some q → q) (hva : ∀ v ∈ mR kd j :: Aa, mLive σ v) (hlen : Aa.length = en.1.2.1) {H : Heap} {locs : List Loc} {cells slots pc : Nat} {ls : Array Slot} {rest : List Value} {ad : Nat → Nat → Nat} (hls : ls.size = nL) (hW : mWd s D A eb tL tB ad0 σ0 ad σ H) (hS : va_S A s.heap H locs)
    (h1 : en.2.1.1 + 1 ≤ R.frames) (h2 : 8 + (en.2.2.2.2.2.1 + 11) + en.2.1.2.1 ≤ R.locals) (h3 : cells + en.2.1.2.2.1 ≤ R.cells) (h4 : slots + en.2.1.2.2.2 ≤ R.slots) (h5 : (rest.map fun v => v.category).sum ≤ 8) (hd : decode cc pc = .ok (.invokevirtual x, 3))
    (kk : ∀ (ad' : Nat → Nat → Nat) (H1 : Heap) (locs1 : List Loc), mWd s D A eb tL tB ad0 σ0 ad' σ' H1 → va_S A s.heap H1 locs1 → mExt ad ad' σ σ' → (∀ v, rv = some v → mLive σ' v) → W p l e R s m args below meth c H1 locs1 (cells + en.2.1.2.2.1) (slots + en.2.1.2.2.2) Q (F0 m (pc + 3) ls ((rv.map (mVal ad')).toList ++ rest))) : W p l e R s m args below meth c H locs cells slots Q (F0 m pc ls ((Aa.map (mVal ad)).reverse ++ .ref (ad kd j) :: rest)) := by
  obtain ⟨w1, w2, w3, w4, -, -, wV, -⟩ := hLk
  obtain ⟨wV1, wV2, T, N, wV3⟩ := wV hm1
  have hj : j < gN σ kd := hva _ List.mem_cons_self
  have hM := hC D eb tL tB ad H.size (mR kd j :: Aa) σ pr rv σ' hF1 hpr hva
  have hroom : 2 * (F0 m pc ls ((Aa.map (mVal ad)).reverse ++ .ref (ad kd j) :: rest)).monitorRoom + (rest.map fun v => v.category).sum ≤ 8 := lv_room h5
  refine mCallW (a := (Value.ref (ad kd j) :: Aa.map (mVal ad)).toArray) hA hW hS ?_ kk
  exact va_runV (C := (eY en).cls) (n := en.1.2.1) ⟨hx, hb, hml, hown, (fun w h => absurd h List.not_mem_nil : ∀ w ∈ ([] : List Cond), w.before args s = true)⟩ hM ⟨⟨rfl, rfl, h1, h2, mCode_ws hT w1, List.mem_singleton.mpr rfl, hT.use w1 rfl, hT.use w2 rfl, w3, (fun sig hs => by rw [hs] at w4; exact (Option.some.inj w4).symm), hT.use hl5 rfl⟩, hT.use wV1 rfl, hT.use wV2 rfl⟩
    ⟨mPc_blind, mCls_of hK hW hj hkt wV3, fun U hU hWm => ⟨rfl, mGood_call hT hK hSt hA hW hS hU hWm⟩⟩ rfl (by rw [List.length_map]; exact hlen) hls rfl hroom hd ⟨h3, h4⟩
end LC

