section SIM
variable {p : Program} {l : Launch} {e : Env} {R : Room} {s : State} {m : MethodId} {args : Array Value} {below : List Frame} {meth : Method} {c : Code} {Q : State → Prop}
variable {cc : ByteArray} {nL : Nat} {D : va_G} {A : Nat → Prop} {eb tL tB c0 s0 : Nat} {ad0 : Nat → Nat → Nat} {σ0 : MSto} {own : String}
/-- the room of the method holds for the machine -/
abbrev mRoomOK (R : Room) (P : MP) (c0 s0 : Nat) : Prop := c0 + (pRoom P).2.2.1 ≤ R.cells ∧ s0 + (pRoom P).2.2.2 ≤ R.slots ∧ (pRoom P).1 ≤ R.frames ∧ (pRoom P).2.1 ≤ R.locals
theorem mGo_on {ad ad' : Nat → Nat → Nat} {σ σ' : MSto} {L : List (Option MV)} {rest : List MV} {rv : Option MV} (hext : mExt ad ad' σ σ') (hlv : ∀ v, rv = some v → mLive σ' v) (hr : ∀ v ∈ rest, mLive σ v) (hl : ∀ (i : Nat) (v : MV), L[i]? = some (some v) → mLive σ v) :
    (∀ v ∈ rv.toList ++ rest, mLive σ' v) ∧ (∀ (i : Nat) (v : MV), L[i]? = some (some v) → mLive σ' v) ∧ (rv.toList ++ rest).map (mVal ad') = (rv.map (mVal ad')).toList ++ rest.map (mVal ad) := by
  have hmono : ∀ v, mLive σ v → mLive σ' v := by
    intro v hv
    rcases v with x | x | (_ | ⟨k, i⟩)
    · trivial
    · trivial
    · trivial
    · exact (hext.1 k i hv).1
  refine ⟨fun v hv => ?_, fun i v hv => hmono v (hl i v hv), ?_⟩
  · rcases List.mem_append.mp hv with h | h
    · exact hlv v (by cases rv with
        | none => cases h
        | some x => rw [List.mem_singleton.mp h])
    · exact hmono v (hr v h)
  · rw [List.map_append, mMap_ext (fun a b hb => (hext.1 a b hb).2) hr]
    congr 1
    cases rv <;> rfl
theorem s_invokestatic (hx : p.tables.exec = Jvm.exec) (hb : c.code = cc) {P : MP} {pc : Nat} {tg : List Nat} {L : List (Option MV)} {S : List MV} {σ : MSto} {c1 s1 : Nat} {k : MK} {r : MST} {x : Nat} (hml : c.maxLocals = nL) (hown : s.vm.findClass own = some m.cls) (hT : mTab s) (hK : va_K D mCl [] s) (hSt : mStat s A eb tL tB s.heap) (hA : ∀ q, s.heap.size ≤ q → A q) (hRm : mRoomOK R P c0 s0) (hF : ∀ en, pEnv P x = some en → mLink own x en ∧ mCtr l en) (hd : decode cc pc = .ok (.invokestatic x, 3)) (hk : ∀ st, k st = some r → mWP p l e R s m args below meth c Q nL D A eb tL tB ad0 σ0 c0 s0 st) (h : x_invokestatic KT P x (pc + 3) pc tg L S σ c1 s1 k = some r) : mWP p l e R s m args below meth c Q nL D A eb tL tB ad0 σ0 c0 s0 (pc, L, S, σ, c1, s1) := by
  unfold x_invokestatic at h
  split at h
  · rename_i en hen
    obtain ⟨⟨w1, w2, w3, w4, w5, wS, wV, wI⟩, hC⟩ := hF en hen
    cases hc : (Nat.beq en.1.1 0 && Nat.ble en.1.2.1 S.length) with
    | false => rw [hc] at h; cases h
    | true =>
      rw [hc] at h
      simp only [cond_true] at h
      rw [Bool.and_eq_true] at hc
      have hm0 := Nat.eq_of_beq_eq_true hc.1
      have hle := Nat.le_of_ble_eq_true hc.2
      obtain ⟨⟨q1, q2, q3, q4, q5⟩, pr, rv, σ', hF1, hpr, h⟩ := mCall_inv h
      obtain ⟨Aa, hAa⟩ : ∃ Aa, Aa = (S.take en.1.2.1).reverse := ⟨_, rfl⟩
      obtain ⟨rr, hrr⟩ : ∃ rr, rr = S.drop en.1.2.1 := ⟨_, rfl⟩
      rw [← hAa] at hF1
      rw [← hrr] at q5 h
      have hS0 : S = Aa.reverse ++ rr := by rw [hAa, hrr, List.reverse_reverse, List.take_append_drop]
      have hlen : Aa.length = en.1.2.1 := by rw [hAa, List.length_reverse, List.length_take]; omega
      intro ad H locs ls hW hS hv hL
      have hva : ∀ v ∈ Aa, mLive σ v := fun v hv' => hv.1 v (by show v ∈ S; rw [hS0]; exact List.mem_append_left _ (List.mem_reverse.mpr hv'))
      have hvr : ∀ v ∈ rr, mLive σ v := fun v hv' => hv.1 v (by show v ∈ S; rw [hS0]; exact List.mem_append_right _ hv')
      have hM := hC D eb tL tB ad H.size Aa σ pr rv σ' hF1 hpr hva
      have hgoal : ∀ rest', rest' = rr.map (mVal ad) → va_Run p l e R s m args below meth c H locs (c0 + c1) (s0 + s1) en.2.1.2.2.1 en.2.1.2.2.2 (F0 m pc ls ((Aa.map (mVal ad)).reverse ++ rest')) rest' (mQc D (mA σ ad H.size) eb tL tB ad σ rv σ' (Aa.map (mVal ad)).toArray) (mA σ ad H.size) := by
        intro rest' hrest'
        have hroom : 2 * (F0 m pc ls ((Aa.map (mVal ad)).reverse ++ rest')).monitorRoom + (rest'.map fun v => v.category).sum ≤ 8 := lv_room (by rw [hrest', mcat_sum]; exact q5)
        rcases w5 with w5 | ⟨host, w5⟩
        · exact va_runS (n := en.1.2.1) ⟨hx, hb, hml, hown, (fun w h => absurd h List.not_mem_nil : ∀ w ∈ ([] : List Cond), w.before args s = true)⟩ hM ⟨⟨rfl, rfl, Nat.le_trans q1 hRm.2.2.1, Nat.le_trans q2 hRm.2.2.2, mCode_ws hT w1, List.mem_singleton.mpr rfl, hT.use w1 rfl, hT.use w2 rfl, w3, (fun sig hs => by rw [hs] at w4; exact (Option.some.inj w4).symm), hT.use w5 rfl⟩, hT.use (wS hm0) rfl⟩
            ⟨mPc_blind, fun U hU hWm => ⟨rfl, mGood_call hT hK hSt hA hW hS hU hWm⟩⟩ rfl (by rw [List.length_map]; exact hlen) hL.1 rfl hroom hd ⟨by have := hRm.1; omega, by have := hRm.2.1; omega⟩
        · exact va_runSN (n := en.1.2.1) (Ts := []) ⟨hx, hb, hml, hown, (fun w h => absurd h List.not_mem_nil)⟩ hM ⟨⟨⟨rfl, rfl, Nat.le_trans q1 hRm.2.2.1, Nat.le_trans q2 hRm.2.2.2, mCode_ws hT w1, List.mem_singleton.mpr rfl⟩, hT.use w1 rfl, hT.use w2 rfl, w3, (fun sig hs => by rw [hs] at w4; exact (Option.some.inj w4).symm), hT.use w5 rfl⟩, hT.use (wS hm0) rfl, trivial⟩
            ⟨mPc_blind, fun U hU hWm => ⟨rfl, mGood_call hT hK hSt hA hW hS hU hWm⟩⟩ rfl (by rw [List.length_map]; exact hlen) hL.1 rfl hroom hd ⟨by have := hRm.1; omega, by have := hRm.2.1; omega⟩
      have hst : S.map (mVal ad) = (Aa.map (mVal ad)).reverse ++ rr.map (mVal ad) := by rw [hS0, List.map_append, List.map_reverse]
      show W p l e R s m args below meth c H locs (c0 + c1) (s0 + s1) Q (F0 m pc ls (S.map (mVal ad)))
      rw [hst]
      refine mCallW hA hW hS (hgoal _ rfl) (fun ad' H1 locs1 hW1 hS1 hext hlv => ?_)
      obtain ⟨g1, g2, g3⟩ := mGo_on (L := L) hext hlv hvr hv.2
      have hg := hk _ h ad' H1 locs1 ls hW1 hS1 ⟨g1, g2⟩ (mLs_ext (fun a b hb => (hext.1 a b hb).2) hv.2 hL)
      exact W_cs hg (Nat.add_assoc _ _ _).symm (Nat.add_assoc _ _ _).symm (by show F0 m (pc + 3) ls _ = _; rw [g3])
  · cases h
theorem s_invokevirtual (hx : p.tables.exec = Jvm.exec) (hb : c.code = cc) {P : MP} {pc : Nat} {tg : List Nat} {L : List (Option MV)} {S : List MV} {σ : MSto} {c1 s1 : Nat} {k : MK} {r : MST} {x : Nat} (hml : c.maxLocals = nL) (hown : s.vm.findClass own = some m.cls) (hT : mTab s) (hK : va_K D mCl [] s) (hSt : mStat s A eb tL tB s.heap) (hA : ∀ q, s.heap.size ≤ q → A q) (hRm : mRoomOK R P c0 s0) (hF : ∀ en, pEnv P x = some en → mLink own x en ∧ mCtr l en) (hd : decode cc pc = .ok (.invokevirtual x, 3)) (hk : ∀ st, k st = some r → mWP p l e R s m args below meth c Q nL D A eb tL tB ad0 σ0 c0 s0 st) (h : x_invokevirtual KT P x (pc + 3) pc tg L S σ c1 s1 k = some r) : mWP p l e R s m args below meth c Q nL D A eb tL tB ad0 σ0 c0 s0 (pc, L, S, σ, c1, s1) := by
  unfold x_invokevirtual at h
  split at h
  · rename_i en hen
    obtain ⟨⟨w1, w2, w3, w4, w5, wS, wV, wI⟩, hC⟩ := hF en hen
    cases hc : (Nat.beq en.1.1 1 && Nat.ble (en.1.2.1 + 1) S.length) with
    | false => rw [hc] at h; cases h
    | true =>
      rw [hc] at h
      simp only [cond_true] at h
      rw [Bool.and_eq_true] at hc
      have hm0 := Nat.eq_of_beq_eq_true hc.1
      have hle := Nat.le_of_ble_eq_true hc.2
      obtain ⟨wV1, wV2, Tc, Nc, wV3⟩ := wV hm0
      split at h
      · rename_i kd j rr hdrop
        split at h
        · rename_i cj fs hkt
          cases hcj : Nat.beq cj en.1.2.2 with
          | false => rw [hcj] at h; cases h
          | true =>
          rw [hcj] at h
          have hcj := Nat.eq_of_beq_eq_true hcj
          subst hcj
          simp only [cond_true] at h
          obtain ⟨⟨q1, q2, q3, q4, q5⟩, pr, rv, σ', hF1, hpr, h⟩ := mCall_inv h
          obtain ⟨Aa, hAa⟩ : ∃ Aa, Aa = (S.take en.1.2.1).reverse := ⟨_, rfl⟩
          rw [← hAa] at hF1
          have hS0 : S = Aa.reverse ++ (mR kd j :: rr) := by rw [hAa, List.reverse_reverse]; exact (by rw [← hdrop, List.take_append_drop])
          have hlen : Aa.length = en.1.2.1 := by rw [hAa, List.length_reverse, List.length_take]; omega
          intro ad H locs ls hW hS hv hL
          have hva : ∀ v ∈ mR kd j :: Aa, mLive σ v := fun v hv' => hv.1 v (by
            show v ∈ S
            rw [hS0]
            rcases List.mem_cons.mp hv' with h1 | h1
            · exact List.mem_append_right _ (List.mem_cons.mpr (Or.inl h1))
            · exact List.mem_append_left _ (List.mem_reverse.mpr h1))
          have hvr : ∀ v ∈ rr, mLive σ v := fun v hv' => hv.1 v (by show v ∈ S; rw [hS0]; exact List.mem_append_right _ (List.mem_cons_of_mem _ hv'))
          have hj : j < gN σ kd := hva _ List.mem_cons_self
          have hM := hC D eb tL tB ad H.size (mR kd j :: Aa) σ pr rv σ' hF1 hpr hva
          have hgoal : ∀ rest', rest' = rr.map (mVal ad) → va_Run p l e R s m args below meth c H locs (c0 + c1) (s0 + s1) en.2.1.2.2.1 en.2.1.2.2.2 (F0 m pc ls ((Aa.map (mVal ad)).reverse ++ .ref (ad kd j) :: rest')) rest' (mQc D (mA σ ad H.size) eb tL tB ad σ rv σ' (Value.ref (ad kd j) :: Aa.map (mVal ad)).toArray) (mA σ ad H.size) := by
            intro rest' hrest'
            have hroom : 2 * (F0 m pc ls ((Aa.map (mVal ad)).reverse ++ .ref (ad kd j) :: rest')).monitorRoom + (rest'.map fun v => v.category).sum ≤ 8 := lv_room (by rw [hrest', mcat_sum]; exact q5)
            rcases w5 with w5 | ⟨host, w5⟩
            · exact va_runV (C := (eY en).cls) (n := en.1.2.1) ⟨hx, hb, hml, hown, (fun w h => absurd h List.not_mem_nil : ∀ w ∈ ([] : List Cond), w.before args s = true)⟩ hM ⟨⟨rfl, rfl, Nat.le_trans q1 hRm.2.2.1, Nat.le_trans q2 hRm.2.2.2, mCode_ws hT w1, List.mem_singleton.mpr rfl, hT.use w1 rfl, hT.use w2 rfl, w3, (fun sig hs => by rw [hs] at w4; exact (Option.some.inj w4).symm), hT.use w5 rfl⟩, hT.use wV1 rfl, hT.use wV2 rfl⟩
                  ⟨mPc_blind, mCls_of hK hW hj hkt wV3, fun U hU hWm => ⟨rfl, mGood_call hT hK hSt hA hW hS hU hWm⟩⟩ rfl (by rw [List.length_map]; exact hlen) hL.1 rfl hroom hd ⟨by have := hRm.1; omega, by have := hRm.2.1; omega⟩
            · exact va_runVN (C := (eY en).cls) (n := en.1.2.1) (Ts := []) ⟨hx, hb, hml, hown, (fun w h => absurd h List.not_mem_nil)⟩ hM ⟨⟨⟨rfl, rfl, Nat.le_trans q1 hRm.2.2.1, Nat.le_trans q2 hRm.2.2.2, mCode_ws hT w1, List.mem_singleton.mpr rfl⟩, hT.use w1 rfl, hT.use w2 rfl, w3, (fun sig hs => by rw [hs] at w4; exact (Option.some.inj w4).symm), hT.use w5 rfl⟩, hT.use wV1 rfl, hT.use wV2 rfl⟩
                  ⟨mPc_blind, mCls_of hK hW hj hkt wV3, fun U hU hWm => ⟨rfl, mGood_call hT hK hSt hA hW hS hU hWm⟩⟩ rfl (by rw [List.length_map]; exact hlen) hL.1 rfl hroom hd ⟨by have := hRm.1; omega, by have := hRm.2.1; omega⟩
          have hst : S.map (mVal ad) = (Aa.map (mVal ad)).reverse ++ .ref (ad kd j) :: rr.map (mVal ad) := by rw [hS0, List.map_append, List.map_reverse]; rfl
          show W p l e R s m args below meth c H locs (c0 + c1) (s0 + s1) Q (F0 m pc ls (S.map (mVal ad)))
          rw [hst]
          refine mCallW hA hW hS (hgoal _ rfl) (fun ad' H1 locs1 hW1 hS1 hext hlv => ?_)
          obtain ⟨g1, g2, g3⟩ := mGo_on (L := L) hext hlv hvr hv.2
          have hg := hk _ h ad' H1 locs1 ls hW1 hS1 ⟨g1, g2⟩ (mLs_ext (fun a b hb => (hext.1 a b hb).2) hv.2 hL)
          exact W_cs hg (Nat.add_assoc _ _ _).symm (Nat.add_assoc _ _ _).symm (by show F0 m (pc + 3) ls _ = _; rw [g3])
        · cases h
      · cases h
  · cases h
theorem lw_oi : (Cond.instanceMethod Lib.objectInit) ∈ lw_tbl := List.mem_append_right _ (List.mem_append_left _ (List.mem_of_getElem? (i := 34) rfl))
theorem lw_oc : (Cond.code Lib.objectInit ⟨#[0xb1]⟩ 1 none) ∈ lw_tbl := List.mem_append_right _ (List.mem_append_left _ (List.mem_of_getElem? (i := 35) rfl))
theorem s_invokespecial (hx : p.tables.exec = Jvm.exec) (hb : c.code = cc) {P : MP} {pc : Nat} {tg : List Nat} {L : List (Option MV)} {S : List MV} {σ : MSto} {c1 s1 : Nat} {k : MK} {r : MST} {x : Nat} (hml : c.maxLocals = nL) (hown : s.vm.findClass own = some m.cls) (hT : mTab s) (hK : va_K D mCl [] s) (hSt : mStat s A eb tL tB s.heap) (hA : ∀ q, s.heap.size ≤ q → A q) (hRm : mRoomOK R P c0 s0) (hne : pEnv P x ≠ none) (hF : ∀ en, pEnv P x = some en → mLink own x en ∧ mCtr l en ∧ en.2.2.2.2.2.2 = none) (hd : decode cc pc = .ok (.invokespecial x, 3)) (hk : ∀ st, k st = some r → mWP p l e R s m args below meth c Q nL D A eb tL tB ad0 σ0 c0 s0 st) (h : x_invokespecial KT P x (pc + 3) pc tg L S σ c1 s1 k = some r) : mWP p l e R s m args below meth c Q nL D A eb tL tB ad0 σ0 c0 s0 (pc, L, S, σ, c1, s1) := by
  unfold x_invokespecial at h
  split at h
  · rename_i en hen
    obtain ⟨⟨w1, w2, w3, w4, w5, wS, wV, wI⟩, hC, hret⟩ := hF en hen
    cases hc : (Nat.beq en.1.1 2 && Nat.ble (en.1.2.1 + 1) S.length) with
    | false => rw [hc] at h; cases h
    | true =>
      rw [hc] at h
      simp only [cond_true] at h
      rw [Bool.and_eq_true] at hc
      have hm0 := Nat.eq_of_beq_eq_true hc.1
      have hle := Nat.le_of_ble_eq_true hc.2
      obtain ⟨wI1, wI2⟩ := wI hm0
      split at h
      · rename_i kd j rr hdrop
        split at h
        · rename_i cj fs hkt
          cases hcj : Nat.beq cj en.1.2.2 with
          | false => rw [hcj] at h; cases h
          | true =>
          rw [hcj] at h
          have hcj := Nat.eq_of_beq_eq_true hcj
          subst hcj
          simp only [cond_true] at h
          obtain ⟨⟨q1, q2, q3, q4, q5⟩, pr, rv, σ', hF1, hpr, h⟩ := mCall_inv h
          obtain ⟨Aa, hAa⟩ : ∃ Aa, Aa = (S.take en.1.2.1).reverse := ⟨_, rfl⟩
          rw [← hAa] at hF1
          have hS0 : S = Aa.reverse ++ (mR kd j :: rr) := by rw [hAa, List.reverse_reverse]; exact (by rw [← hdrop, List.take_append_drop])
          have hlen : Aa.length = en.1.2.1 := by rw [hAa, List.length_reverse, List.length_take]; omega
          intro ad H locs ls hW hS hv hL
          have hva : ∀ v ∈ mR kd j :: Aa, mLive σ v := fun v hv' => hv.1 v (by
            show v ∈ S
            rw [hS0]
            rcases List.mem_cons.mp hv' with h1 | h1
            · exact List.mem_append_right _ (List.mem_cons.mpr (Or.inl h1))
            · exact List.mem_append_left _ (List.mem_reverse.mpr h1))
          have hvr : ∀ v ∈ rr, mLive σ v := fun v hv' => hv.1 v (by show v ∈ S; rw [hS0]; exact List.mem_append_right _ (List.mem_cons_of_mem _ hv'))
          have hj : j < gN σ kd := hva _ List.mem_cons_self
          have hM := hC D eb tL tB ad H.size (mR kd j :: Aa) σ pr rv σ' hF1 hpr hva
          have hgoal : ∀ rest', rest' = rr.map (mVal ad) → va_Run p l e R s m args below meth c H locs (c0 + c1) (s0 + s1) en.2.1.2.2.1 en.2.1.2.2.2 (F0 m pc ls ((Aa.map (mVal ad)).reverse ++ .ref (ad kd j) :: rest')) rest' (mQc D (mA σ ad H.size) eb tL tB ad σ rv σ' (Value.ref (ad kd j) :: Aa.map (mVal ad)).toArray) (mA σ ad H.size) := by
            intro rest' hrest'
            have hroom : 2 * (F0 m pc ls ((Aa.map (mVal ad)).reverse ++ .ref (ad kd j) :: rest')).monitorRoom + (rest'.map fun v => v.category).sum ≤ 8 := lv_room (by rw [hrest', mcat_sum]; exact q5)
            rcases w5 with w5 | ⟨host, w5⟩
            · exact va_runI (n := en.1.2.1) ⟨hx, hb, hml, hown, (fun w h => absurd h List.not_mem_nil : ∀ w ∈ ([] : List Cond), w.before args s = true)⟩ hM ⟨⟨rfl, rfl, Nat.le_trans q1 hRm.2.2.1, Nat.le_trans q2 hRm.2.2.2, mCode_ws hT w1, List.mem_singleton.mpr (by rw [← hret]), by have := hT.use (args := args) w1 rfl; rw [eCode, hret] at this; exact this, hT.use w2 rfl, w3, (fun sig hs => by rw [hs] at w4; exact (Option.some.inj w4).symm), hT.use w5 rfl⟩, wI2, hT.use wI1 rfl⟩
                  ⟨mPc_blind, fun U hU hWm => ⟨rfl, mGood_call hT hK hSt hA hW hS hU hWm⟩⟩ rfl (by rw [List.length_map]; exact hlen) hL.1 rfl hroom hd ⟨by have := hRm.1; omega, by have := hRm.2.1; omega⟩
            · exact va_runIN (n := en.1.2.1) (Ts := []) ⟨hx, hb, hml, hown, (fun w h => absurd h List.not_mem_nil)⟩ hM ⟨⟨⟨rfl, rfl, Nat.le_trans q1 hRm.2.2.1, Nat.le_trans q2 hRm.2.2.2, mCode_ws hT w1, List.mem_singleton.mpr (by rw [← hret])⟩, by have := hT.use (args := args) w1 rfl; rw [eCode, hret] at this; exact this, hT.use w2 rfl, w3, (fun sig hs => by rw [hs] at w4; exact (Option.some.inj w4).symm), hT.use w5 rfl⟩, wI2, hT.use wI1 rfl⟩
                  ⟨mPc_blind, fun U hU hWm => ⟨rfl, mGood_call hT hK hSt hA hW hS hU hWm⟩⟩ rfl (by rw [List.length_map]; exact hlen) hL.1 rfl hroom hd ⟨by have := hRm.1; omega, by have := hRm.2.1; omega⟩
          have hst : S.map (mVal ad) = (Aa.map (mVal ad)).reverse ++ .ref (ad kd j) :: rr.map (mVal ad) := by rw [hS0, List.map_append, List.map_reverse]; rfl
          show W p l e R s m args below meth c H locs (c0 + c1) (s0 + s1) Q (F0 m pc ls (S.map (mVal ad)))
          rw [hst]
          refine mCallW hA hW hS (hgoal _ rfl) (fun ad' H1 locs1 hW1 hS1 hext hlv => ?_)
          obtain ⟨g1, g2, g3⟩ := mGo_on (L := L) hext hlv hvr hv.2
          have hg := hk _ h ad' H1 locs1 ls hW1 hS1 ⟨g1, g2⟩ (mLs_ext (fun a b hb => (hext.1 a b hb).2) hv.2 hL)
          exact W_cs hg (Nat.add_assoc _ _ _).symm (Nat.add_assoc _ _ _).symm (by show F0 m (pc + 3) ls _ = _; rw [g3])
        · cases h
      · cases h
  · rename_i hen
    exact absurd hen hne
theorem s_objInit (hx : p.tables.exec = Jvm.exec) (hb : c.code = cc) {P : MP} {pc nx : Nat} {tg : List Nat} {L : List (Option MV)} {S : List MV} {σ : MSto} {c1 s1 : Nat} {k : MK} {r : MST} {x : Nat} (hml : c.maxLocals = nL) (hown : s.vm.findClass own = some m.cls) (hT : mTab s) (hRm : mRoomOK R P c0 s0) (hn : nx = pc + 3) (hno : pEnv P x = none) (hF : ∀ kd, pAlc P pc = some kd → Cond.methodLink own x Lib.objectInit ∈ lw_tbl) (hd : decode cc pc = .ok (.invokespecial x, 3)) (hk : ∀ st, k st = some r → mWP p l e R s m args below meth c Q nL D A eb tL tB ad0 σ0 c0 s0 st) (h : x_invokespecial KT P x nx pc tg L S σ c1 s1 k = some r) : mWP p l e R s m args below meth c Q nL D A eb tL tB ad0 σ0 c0 s0 (pc, L, S, σ, c1, s1) := by
  subst hn
  unfold x_invokespecial at h
  rw [hno] at h
  simp only [] at h
  split at h
  · rename_i kd kk j rr hkd
    cases hc : (Nat.ble 1 (pRoom P).1 && Nat.ble 20 (pRoom P).2.1 && Nat.ble (rr.map mcat).sum 8) with
    | false => rw [hc] at h; cases h
    | true =>
      rw [hc] at h
      simp only [cond_true] at h
      simp only [Bool.and_eq_true] at hc
      have q1 := Nat.le_of_ble_eq_true hc.1.1
      have q2 := Nat.le_of_ble_eq_true hc.1.2
      have q3 := Nat.le_of_ble_eq_true hc.2
      intro ad H locs ls hW hS hv hL
      have hi : (Cond.instanceMethod Lib.objectInit) ∈ lw_tbl := lw_oi
      have hco : (Cond.code Lib.objectInit ⟨#[0xb1]⟩ 1 none) ∈ lw_tbl := lw_oc
      have hroom : 2 * (F0 m pc ls (.ref (ad kk j) :: rr.map (mVal ad))).monitorRoom + ((rr.map (mVal ad)).map fun v => v.category).sum ≤ 8 := lv_room (by rw [mcat_sum]; exact q3)
      refine W.objInit (g := F0 m pc ls (.ref (ad kk j) :: rr.map (mVal ad))) hx hb hown (hT.use (hF kd hkd) rfl) (hT.use hi rfl) (hT.use hco rfl) rfl (by rw [hml]; exact hL.1) rfl hd (Nat.le_trans q1 hRm.2.2.1) ?_ ?_
      · have := hRm.2.2.2
        have h2 := Nat.le_trans q2 this
        omega
      · exact hk _ h ad H locs ls hW hS ⟨mlT hv.1, hv.2⟩ hL
  · cases h
end SIM
