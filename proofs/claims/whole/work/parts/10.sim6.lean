theorem mVal_ext {ad ad' : Nat → Nat → Nat} {σ : MSto} {v : MV} (had : ∀ a b, b < gN σ a → ad' a b = ad a b) (h : mLive σ v) : mVal ad' v = mVal ad v := by
  rcases v with x | x | (_ | ⟨k, i⟩)
  · rfl
  · rfl
  · rfl
  · show Value.ref _ = Value.ref _
    rw [had k i h]
theorem mMap_ext {ad ad' : Nat → Nat → Nat} {σ : MSto} {S : List MV} (had : ∀ a b, b < gN σ a → ad' a b = ad a b) (h : ∀ v ∈ S, mLive σ v) : S.map (mVal ad') = S.map (mVal ad) := List.map_congr_left fun v hv => mVal_ext had (h v hv)
theorem mLs_ext {ad ad' : Nat → Nat → Nat} {σ : MSto} {nL : Nat} {L : List (Option MV)} {ls : Array Slot} (had : ∀ a b, b < gN σ a → ad' a b = ad a b) (h : ∀ (i : Nat) (v : MV), L[i]? = some (some v) → mLive σ v) (hL : mLs ad nL L ls) : mLs ad' nL L ls := ⟨hL.1, hL.2.1, hL.2.2.1, fun i v hv => by rw [mVal_ext had (h i v hv)]; exact hL.2.2.2 i v hv⟩
theorem mLive_mono {σ σ' : MSto} (hN : ∀ a, gN σ a ≤ gN σ' a) {v : MV} (h : mLive σ v) : mLive σ' v := by
  rcases v with x | x | (_ | ⟨k, i⟩)
  · trivial
  · trivial
  · trivial
  · exact Nat.lt_of_lt_of_le h (hN k)
theorem gN_sNew_le (σ : MSto) (k a : Nat) : gN σ a ≤ gN (sNew σ k) a := by
  rw [gN_sNew]
  by_cases e : a = k
  · rw [if_pos e, e]; omega
  · rw [if_neg e]; exact Nat.le_refl _
/-- the addresses with one more cell of a kind -/
def mAdN (ad : Nat → Nat → Nat) (σ : MSto) (k h : Nat) : Nat → Nat → Nat := fun a b => if a = k ∧ b = gN σ k then h else ad a b
theorem ad_new {σ : MSto} {k h : Nat} {ad : Nat → Nat → Nat} : ∀ a b, b < gN σ a → mAdN ad σ k h a b = ad a b := by
  intro a b hb
  unfold mAdN
  rw [if_neg]
  rintro ⟨rfl, rfl⟩
  omega
theorem ad_new_self {σ : MSto} {k h : Nat} {ad : Nat → Nat → Nat} : mAdN ad σ k h k (gN σ k) = h := by
  unfold mAdN
  rw [if_pos ⟨rfl, rfl⟩]
theorem mWd_newN {U : State} {D : va_G} {A : Nat → Prop} {eb tL tB : Nat} {ad0 : Nat → Nat → Nat} {σ0 : MSto} {ad : Nat → Nat → Nat} {σ : MSto} {H H' : Heap} (h : mWd U D A eb tL tB ad0 σ0 ad σ H) {k : Nat} (hk : k ≠ 95 ∧ k ≠ 96 ∧ k ≠ 97) (hnl : ¬ mList k)
    (hfs : ∀ (ci : Nat) (fs : List Nat) (f t : Nat), KT k = some (.inl (ci, fs)) → ci ≠ 0 → fs[f]? = some (2 * t + 2) → False) (hA : A H.size) (hz : H'.size = H.size + 1) (oq : ∀ q : Nat, q < H.size → H'[q]? = H[q]?)
    (hat : mAt U D A eb (mAdN ad σ k H.size) (sNew σ k) k (gN σ k) H') : mWd U D A eb tL tB ad0 σ0 (mAdN ad σ k H.size) (sNew σ k) H' := mWd_new h hk hnl hfs hA hz oq hat
theorem W_cs {p : Program} {l : Launch} {e : Env} {R : Room} {s : State} {m : MethodId} {args : Array Value} {below : List Frame} {meth : Method} {c : Code} {Q : State → Prop} {H : Heap} {locs : List Loc} {a b a' b' : Nat} {g g' : JFrame} (h : W p l e R s m args below meth c H locs a b Q g) (h1 : a = a') (h2 : b = b') (h3 : g = g') : W p l e R s m args below meth c H locs a' b' Q g' := by
  subst h1; subst h2; subst h3; exact h
/-- an object's fields as it is made -/
def mNewOK (T : u_T) (fs : List Nat) : Prop := ∀ f, f < fs.length → ∃ ty, parseFieldDescriptor (T f).2.2.1 = some ty ∧ ((fs.getD f 0 = 0 ∧ defaultValue ty = .int 0) ∨ (fs.getD f 0 = 1 ∧ defaultValue ty = .long 0) ∨ ((∃ t, fs.getD f 0 = 2 * t + 3) ∧ defaultValue ty = .null))
/-- the words of what is made at a pc -/
def mAOK (own : String) (x kd : Nat) : Prop := ∃ (ci : Nat) (fs : List Nat) (C : String) (T : u_T), KT kd = some (.inl (ci, fs)) ∧ ci ≠ 0 ∧ mCl[ci]? = some (C, T, fs.length) ∧ Cond.classLink own x C ∈ lw_tbl ∧ Cond.instantiable C fs.length ∈ lw_tbl ∧ Cond.initialized C ∈ lw_tbl ∧ mNewOK T fs
def mNAOK (at' : ArrayType) (kd : Nat) : Prop := ∃ (ty : FieldType) (ln : Nat), KT kd = some (.inr (ty, ln, 0)) ∧ newarray.typeOf at' = ty ∧ Cond.arrayClass ty ∈ lw_tbl ∧ (ty = .int ∨ ty = .long ∨ ty = .boolean ∨ ty = .byte ∨ ty = .char)
def mAAOK (own : String) (x kd : Nat) : Prop := ∃ (C : String) (ln ek : Nat), KT kd = some (.inr (.object C, ln, ek)) ∧ ek ≠ 1 ∧ Cond.classLink own x C ∈ lw_tbl ∧ Cond.arrayOver (.object C) ∈ lw_tbl
section SIM
variable {p : Program} {l : Launch} {e : Env} {R : Room} {s : State} {m : MethodId} {args : Array Value} {below : List Frame} {meth : Method} {c : Code} {Q : State → Prop}
variable {cc : ByteArray} {nL : Nat} {D : va_G} {A : Nat → Prop} {eb tL tB c0 s0 : Nat} {ad0 : Nat → Nat → Nat} {σ0 : MSto} {own : String}
theorem s_getstatic (hx : p.tables.exec = Jvm.exec) (hb : c.code = cc) {P : MP} {pc : Nat} {tg : List Nat} {L : List (Option MV)} {S : List MV} {σ : MSto} {c1 s1 : Nat} {k : MK} {r : MST} {x : Nat} (hown : s.vm.findClass own = some m.cls) (hT : mTab s) (hSt : mStat s A eb tL tB s.heap) (hF : ∀ kd, pStc P x = some kd → (kd = 95 ∧ Cond.fieldLink own x "ClothWithMan" "LIKENESSES" "[I" ∈ lw_tbl) ∨ (kd = 96 ∧ Cond.fieldLink own x "ClothWithMan" "APART_BOUNDS" "[I" ∈ lw_tbl)) (hd : decode cc pc = .ok (.getstatic x, 3)) (hk : ∀ st, k st = some r → mWP p l e R s m args below meth c Q nL D A eb tL tB ad0 σ0 c0 s0 st) (h : x_getstatic KT P x (pc + 3) pc tg L S σ c1 s1 k = some r) : mWP p l e R s m args below meth c Q nL D A eb tL tB ad0 σ0 c0 s0 (pc, L, S, σ, c1, s1) := by
  unfold x_getstatic at h
  split at h
  · rename_i kd hkd
    intro ad H locs ls hW hS hv hL
    obtain ⟨-, -, -, -, -, h6, h7, h8, h9, -⟩ := id hW
    rcases hF kd hkd with ⟨rfl, hw⟩ | ⟨rfl, hw⟩
    · have hg := hk _ h ad H locs ls hW hS ⟨mlC (show 0 < gN σ 95 by rw [h8]; exact Nat.one_pos) hv.1, hv.2⟩ hL
      refine va_gets hx hb hSt.2.2.1 hS hown (hT.use hw rfl) (fun _ h9 => h9) hd ?_
      rw [← h6]
      exact hg
    · have hg := hk _ h ad H locs ls hW hS ⟨mlC (show 0 < gN σ 96 by rw [h9]; exact Nat.one_pos) hv.1, hv.2⟩ hL
      refine va_gets hx hb hSt.2.2.2.1 hS hown (hT.use hw rfl) (fun _ h9 => h9) hd ?_
      rw [← h7]
      exact hg
  · cases h
theorem s_checkcast (hx : p.tables.exec = Jvm.exec) (hb : c.code = cc) {P : MP} {pc : Nat} {tg : List Nat} {L : List (Option MV)} {S : List MV} {σ : MSto} {c1 s1 : Nat} {k : MK} {r : MST} {x : Nat} (hown : s.vm.findClass own = some m.cls) (hT : mTab s) (hK : va_K D mCl [] s) (hF : ∀ ci, pCas P x = some ci → ci ≠ 0 ∧ ∃ (C : String) (T : u_T) (N : Nat), mCl[ci]? = some (C, T, N) ∧ Cond.classLink own x C ∈ lw_tbl ∧ Cond.instantiable C N ∈ lw_tbl) (hd : decode cc pc = .ok (.checkcast x, 3)) (hk : ∀ st, k st = some r → mWP p l e R s m args below meth c Q nL D A eb tL tB ad0 σ0 c0 s0 st) (h : x_checkcast KT P x (pc + 3) pc tg L S σ c1 s1 k = some r) : mWP p l e R s m args below meth c Q nL D A eb tL tB ad0 σ0 c0 s0 (pc, L, S, σ, c1, s1) := by
  unfold x_checkcast at h
  split at h
  · rename_i ci kd j rr hci
    obtain ⟨h0, C, T, N, f1, f2, f3⟩ := hF ci hci
    split at h
    · rename_i cj fs hkt
      cases hcj : Nat.beq ci cj with
      | false => rw [hcj] at h; cases h
      | true =>
        rw [hcj] at h
        have hcj := Nat.eq_of_beq_eq_true hcj
        subst hcj
        simp only [cond_true] at h
        intro ad H locs ls hW hS hv hL
        have hj : j < gN σ kd := mlH hv.1
        obtain ⟨rr0, hr1, hr2, cell, q1, q2, q3, q4⟩ := (mAt_obj hkt h0).mp (hW.1 kd j hj)
        obtain ⟨-, hfc, -⟩ := hK.1 ci _ f1
        obtain ⟨cC, kC, i1, i2, i3, -⟩ := Cond.instantiable_spec (hT.use (args := args) f3 rfl)
        exact va_castS hx hb hown (hT.use f2 rfl) ⟨i1, kC, i2, i3⟩ ⟨cell, q1, by rw [q3]; rfl, by rw [q2]; exact hfc⟩ hd (hk _ h ad H locs ls hW hS hv hL)
    · cases h
  · cases h
theorem s_new (hx : p.tables.exec = Jvm.exec) (hb : c.code = cc) {P : MP} {pc : Nat} {tg : List Nat} {L : List (Option MV)} {S : List MV} {σ : MSto} {c1 s1 : Nat} {k : MK} {r : MST} {x : Nat} (hown : s.vm.findClass own = some m.cls) (hT : mTab s) (hK : va_K D mCl [] s) (hLay : mLay) (hA : ∀ q, s.heap.size ≤ q → A q) (hRm : c0 + (pRoom P).2.2.1 ≤ R.cells ∧ s0 + (pRoom P).2.2.2 ≤ R.slots) (hfus : pFus P pc = none) (hF : ∀ kd, pAlc P pc = some kd → mAOK own x kd) (hd : decode cc pc = .ok (.new x, 3)) (hk : ∀ st, k st = some r → mWP p l e R s m args below meth c Q nL D A eb tL tB ad0 σ0 c0 s0 st) (h : x_new KT P (pc + 3) pc tg L S σ c1 s1 k = some r) : mWP p l e R s m args below meth c Q nL D A eb tL tB ad0 σ0 c0 s0 (pc, L, S, σ, c1, s1) := by
  unfold x_new at h
  rw [hfus] at h
  simp only [] at h
  split at h
  · rename_i kd hkd
    obtain ⟨ci, fs, C, T, hkt, hci, hcl, w1, w2, w3, hno⟩ := hF kd hkd
    rw [hkt] at h
    simp only [] at h
    cases hc : (Nat.ble (c1 + 1) (pRoom P).2.2.1 && Nat.ble (s1 + fs.length) (pRoom P).2.2.2) with
    | false => rw [hc] at h; cases h
    | true =>
      rw [hc] at h
      simp only [cond_true] at h
      rw [Bool.and_eq_true] at hc
      have hc1 := Nat.le_of_ble_eq_true hc.1
      have hc2 := Nat.le_of_ble_eq_true hc.2
      intro ad H locs ls hW hS hv hL
      have hKn := hK.1 ci _ hcl
      obtain ⟨hin, hnm, ty0, hty⟩ := hLay ci C T _ hcl
      have hts := mLayWs (args := args) hT hin
      obtain ⟨hsp, hnl⟩ := KT_obj hkt hci
      refine W.newcK hx hb hown (hT.use w1 rfl) (hT.use w2 rfl) (hT.use w3 rfl) rfl hd (by show c0 + c1 + 1 ≤ R.cells; omega) (by show s0 + s1 + fs.length ≤ R.slots; omega) hKn.2.1 rfl fun H1 kC hkC e1 z1 o1 => ?_
      have hob := u_born ty0 hts (fun w h => h) hKn hkC e1 hty
      have hW1 := mWd_newN (H' := H1) hW hsp hnl (fun ci' fs' f t g1 g2 g3 => by
        rw [hkt] at g1
        cases g1
        have hf : f < fs.length := (List.getElem?_eq_some_iff.mp g3).1
        obtain ⟨ty, -, g | g | ⟨⟨t', g⟩, -⟩⟩ := hno f hf <;> rw [getD_of g3] at g <;> omega) (hA _ hS.1) z1 o1 ((mAt_obj hkt hci).mpr ⟨_, hcl, rfl, by
          rw [ad_new_self]
          refine hob.to (fun f hf => ?_)
          obtain ⟨ty, g1, g2⟩ := hno f hf
          have : ty0 f = ty := Option.some.inj ((hty f hf).symm.trans g1)
          rw [this]
          unfold mFV
          rcases g2 with ⟨g, d⟩ | ⟨g, d⟩ | ⟨⟨t, g⟩, d⟩
          · rw [g, d]
            simp only []
            rw [gI_sNew, if_pos ⟨rfl, rfl⟩]
          · rw [g, d]
            simp only []
            rw [gJ_sNew, if_pos ⟨rfl, rfl⟩]
          · rw [g, d]
            simp only []
            rw [if_neg (by omega), gR_sNew, if_pos ⟨rfl, rfl⟩]
            rfl⟩)
      have hg := hk _ h _ H1 locs ls hW1 ⟨Nat.le_trans hS.1 (by omega), fun q h1 h2 => (o1 q (Nat.lt_of_lt_of_le h1 hS.1)).trans (hS.2.1 q h1 h2), hS.2.2⟩ ⟨mlC (show gN σ kd < gN (sNew σ kd) kd by rw [gN_sNew, if_pos rfl]; omega) (fun v hv' => mLive_mono (gN_sNew_le σ kd) (hv.1 v hv')), fun i v hv' => mLive_mono (gN_sNew_le σ kd) (hv.2 i v hv')⟩ (mLs_ext ad_new hv.2 hL)
      refine W_cs hg rfl (Nat.add_assoc _ _ _).symm ?_
      show F0 m _ ls (Value.ref (mAdN ad σ kd H.size kd (gN σ kd)) :: S.map (mVal (mAdN ad σ kd H.size))) = F0 m _ ls (Value.ref H.size :: S.map (mVal ad))
      rw [ad_new_self, mMap_ext ad_new hv.1]
  · cases h
theorem s_newarray (hx : p.tables.exec = Jvm.exec) (hb : c.code = cc) {P : MP} {pc : Nat} {tg : List Nat} {L : List (Option MV)} {S : List MV} {σ : MSto} {c1 s1 : Nat} {k : MK} {r : MST} {at' : ArrayType} (hT : mTab s) (hA : ∀ q, s.heap.size ≤ q → A q) (hRm : c0 + (pRoom P).2.2.1 ≤ R.cells ∧ s0 + (pRoom P).2.2.2 ≤ R.slots) (hF : ∀ kd, pAlc P pc = some kd → mNAOK at' kd) (hd : decode cc pc = .ok (.newarray at', 2)) (hk : ∀ st, k st = some r → mWP p l e R s m args below meth c Q nL D A eb tL tB ad0 σ0 c0 s0 st) (h : x_newarray KT P (pc + 2) pc tg L S σ c1 s1 k = some r) : mWP p l e R s m args below meth c Q nL D A eb tL tB ad0 σ0 c0 s0 (pc, L, S, σ, c1, s1) := by
  unfold x_newarray at h
  split at h
  · rename_i kd n rr hkd
    obtain ⟨ty, ln, hkt, hty, w1, hpr⟩ := hF kd hkd
    rw [hkt] at h
    simp only [] at h
    cases hc : (decide (n = Int32.ofNat ln) && Nat.ble (c1 + 1) (pRoom P).2.2.1 && Nat.ble (s1 + ln) (pRoom P).2.2.2) with
    | false => rw [hc] at h; cases h
    | true =>
      rw [hc] at h
      simp only [cond_true] at h
      rw [Bool.and_eq_true, Bool.and_eq_true] at hc
      have hn := of_decide_eq_true hc.1.1
      have hc1 := Nat.le_of_ble_eq_true hc.1.2
      have hc2 := Nat.le_of_ble_eq_true hc.2
      obtain ⟨hcase, hnl, hl0, h97, hl⟩ := KT_arr hkt
      have hsp := (hcase.resolve_left (fun h => by cases h.1)).2
      intro ad H locs ls hW hS hv hL
      subst hty
      have hnn : n = nI ln := hn
      refine va_newaK (N := ln) hx hb (hT.use w1 rfl) rfl hd rfl (by rw [hnn]; exact nI_pos (by omega)) (by rw [hnn]; exact nI_clamp (by omega)) (by rcases hpr with e | e | e | e | e <;> rw [e] <;> simp only [componentBytes] <;> omega) (by show c0 + c1 + 1 ≤ R.cells; omega) (by show s0 + s1 + ln ≤ R.slots; omega) rfl fun H1 cA e1 z1 o1 hAr hNm => ?_
      have hRA : va_RA s cA (newarray.typeOf at') := by
        rcases hpr with e | e | e | e | e <;> rw [e] at hNm ⊢ <;> exact hNm
      have hW1 := mWd_newN (H' := H1) hW hsp hnl (fun ci' fs' f t g1 g2 g3 => by rw [hkt] at g1; cases g1) (hA _ hS.1) z1 o1 ((mAt_arr hkt (by decide)).mpr ⟨cA, hAr, hRA, by
          rw [ad_new_self, e1]
          congr 2
          funext f
          unfold mAV
          rcases hpr with e | e | e | e | e <;> rw [e] <;> simp only [] <;> first | (rw [gI_sNew, if_pos ⟨rfl, rfl⟩]; rfl) | (rw [gJ_sNew, if_pos ⟨rfl, rfl⟩]; rfl)⟩)
      have hg := hk _ h _ H1 locs ls hW1 ⟨Nat.le_trans hS.1 (by omega), fun q h1 h2 => (o1 q (Nat.lt_of_lt_of_le h1 hS.1)).trans (hS.2.1 q h1 h2), hS.2.2⟩ ⟨mlC (show gN σ kd < gN (sNew σ kd) kd by rw [gN_sNew, if_pos rfl]; omega) (fun v hv' => mLive_mono (gN_sNew_le σ kd) (mlT hv.1 v hv')), fun i v hv' => mLive_mono (gN_sNew_le σ kd) (hv.2 i v hv')⟩ (mLs_ext ad_new hv.2 hL)
      refine W_cs hg rfl (Nat.add_assoc _ _ _).symm ?_
      show F0 m _ ls (Value.ref (mAdN ad σ kd H.size kd (gN σ kd)) :: rr.map (mVal (mAdN ad σ kd H.size))) = F0 m _ ls (Value.ref H.size :: rr.map (mVal ad))
      rw [ad_new_self, mMap_ext ad_new (mlT hv.1)]
  · cases h
theorem s_anewarray (hx : p.tables.exec = Jvm.exec) (hb : c.code = cc) {P : MP} {pc : Nat} {tg : List Nat} {L : List (Option MV)} {S : List MV} {σ : MSto} {c1 s1 : Nat} {k : MK} {r : MST} {x : Nat} (hown : s.vm.findClass own = some m.cls) (hT : mTab s) (hA : ∀ q, s.heap.size ≤ q → A q) (hRm : c0 + (pRoom P).2.2.1 ≤ R.cells ∧ s0 + (pRoom P).2.2.2 ≤ R.slots) (hF : ∀ kd, pAlc P pc = some kd → mAAOK own x kd) (hd : decode cc pc = .ok (.anewarray x, 3)) (hk : ∀ st, k st = some r → mWP p l e R s m args below meth c Q nL D A eb tL tB ad0 σ0 c0 s0 st) (h : x_anewarray KT P (pc + 3) pc tg L S σ c1 s1 k = some r) : mWP p l e R s m args below meth c Q nL D A eb tL tB ad0 σ0 c0 s0 (pc, L, S, σ, c1, s1) := by
  unfold x_anewarray at h
  split at h
  · rename_i kd n rr hkd
    obtain ⟨C, ln, ek, hkt, hek, w1, w2⟩ := hF kd hkd
    rw [hkt] at h
    simp only [] at h
    cases hc : (decide (n = Int32.ofNat ln) && Nat.ble (c1 + 1) (pRoom P).2.2.1 && Nat.ble (s1 + ln) (pRoom P).2.2.2) with
    | false => rw [hc] at h; cases h
    | true =>
      rw [hc] at h
      simp only [cond_true] at h
      rw [Bool.and_eq_true, Bool.and_eq_true] at hc
      have hn := of_decide_eq_true hc.1.1
      have hc1 := Nat.le_of_ble_eq_true hc.1.2
      have hc2 := Nat.le_of_ble_eq_true hc.2
      obtain ⟨hcase, hnl, hl0, h97, hl⟩ := KT_arr hkt
      have hsp := (hcase.resolve_left (fun h => hek h.1)).2
      intro ad H locs ls hW hS hv hL
      have hnn : n = nI ln := hn
      have hcl : n.toNatClampNeg = ln := by rw [hnn]; exact nI_clamp (by omega)
      refine W.anew hx hb hown (hT.use w1 rfl) (hT.use w2 rfl) rfl hd rfl (by rw [hnn]; exact nI_pos (by omega)) (by rw [hcl]; omega) (by show c0 + c1 + 1 ≤ R.cells; omega) (by rw [hcl]; show s0 + s1 + ln ≤ R.slots; omega) fun cA kA comp f1 f2 f3 f4 => ?_
      rw [hcl]
      generalize hH1 : H.push ({ cls := cA, slots := Array.replicate ln .null, vm := .none } : Cell) = H1
      have z1 : H1.size = H.size + 1 := by rw [← hH1, Array.size_push]
      have e1 : H1[H.size]? = some (arrV cA ln (fun _ => .null)) := by rw [← hH1, Array.getElem?_push_size, ← arrV_new]
      have o1 : ∀ q : Nat, q < H.size → H1[q]? = H[q]? := fun q hq => by rw [← hH1, Array.getElem?_push, if_neg (Nat.ne_of_lt hq)]
      have hAr : ArrOfT s cA (.object C) := fun N z => ⟨(fun k h => by cases h), kA, f2, comp, f3⟩
      have hW1 := mWd_newN (H' := H1) hW hsp hnl (fun ci' fs' f t g1 g2 g3 => by rw [hkt] at g1; cases g1) (hA _ hS.1) z1 o1 ((mAt_arr hkt hek).mpr ⟨cA, hAr, ⟨kA, comp, f2, f3, f4, f1⟩, by
          rw [ad_new_self, e1]
          congr 2
          funext f
          unfold mAV
          simp only []
          rw [gR_sNew, if_pos ⟨rfl, rfl⟩]
          rfl⟩)
      have hg := hk _ h _ H1 locs ls hW1 ⟨Nat.le_trans hS.1 (by omega), fun q h1 h2 => (o1 q (Nat.lt_of_lt_of_le h1 hS.1)).trans (hS.2.1 q h1 h2), hS.2.2⟩ ⟨mlC (show gN σ kd < gN (sNew σ kd) kd by rw [gN_sNew, if_pos rfl]; omega) (fun v hv' => mLive_mono (gN_sNew_le σ kd) (mlT hv.1 v hv')), fun i v hv' => mLive_mono (gN_sNew_le σ kd) (hv.2 i v hv')⟩ (mLs_ext ad_new hv.2 hL)
      refine W_cs hg rfl (Nat.add_assoc _ _ _).symm ?_
      show F0 m _ ls (Value.ref (mAdN ad σ kd H.size kd (gN σ kd)) :: rr.map (mVal (mAdN ad σ kd H.size))) = F0 m _ ls (Value.ref H.size :: rr.map (mVal ad))
      rw [ad_new_self, mMap_ext ad_new (mlT hv.1)]
  · cases h
theorem mTsw_ok {x : Int32} {d : Nat} {kf : Nat → Option MST} {r : MST} : ∀ (ts : List Nat) (lo : Int), -2147483648 ≤ lo → lo + ts.length ≤ 2147483648 → mTsw x d kf lo ts = some r → (∃ (i t : Nat), ts[i]? = some t ∧ x.toInt = lo + i ∧ kf t = some r) ∨ ((x.toInt < lo ∨ lo + ts.length ≤ x.toInt) ∧ kf d = some r) := by
  intro ts
  induction ts with
  | nil =>
    intro lo h1 h2 h
    refine Or.inr ⟨?_, h⟩
    simp only [List.length_nil, Int.natCast_zero, Int.add_zero] at h2 ⊢
    omega
  | cons t ts ih =>
    intro lo h1 h2 h
    simp only [List.length_cons, Int.natCast_add, Int.natCast_one] at h2
    have hlo : (Int32.ofInt lo).toInt = lo := Int32.toInt_ofInt_of_le (by omega) (by omega)
    unfold mTsw at h
    by_cases he : x = Int32.ofInt lo
    · rw [mIf_t he] at h
      exact Or.inl ⟨0, t, rfl, by rw [he, hlo]; simp, h⟩
    · rw [mIf_f he] at h
      have hne : x.toInt ≠ lo := fun e => he (Int32.toInt_inj.mp (by rw [hlo]; exact e))
      rcases ih (lo + 1) (by omega) (by omega) h with ⟨i, t', g1, g2, g3⟩ | ⟨g1, g2⟩
      · exact Or.inl ⟨i + 1, t', by simpa using g1, by rw [g2]; simp only [Int.natCast_add, Int.natCast_one]; omega, g3⟩
      · refine Or.inr ⟨?_, g2⟩
        simp only [List.length_cons, Int.natCast_add, Int.natCast_one]
        omega
theorem s_tableswitch (hx : p.tables.exec = Jvm.exec) (hb : c.code = cc) {P : MP} {pc nx : Nat} {tg : List Nat} {L : List (Option MV)} {S : List MV} {σ : MSto} {c1 s1 : Nat} {k : MK} {r : MST} {dflt lo hi : Int} {offs : Array Int} {len : Nat}
    (htg : ∀ d ts, tg = d :: ts → (pc : Int) + dflt = (d : Int) ∧ ts.map (fun t : Nat => (t : Int)) = offs.toList.map (fun o => (pc : Int) + o)) (hb1 : -2147483648 ≤ lo) (hb2 : lo + offs.size ≤ 2147483648) (hb3 : hi = lo + offs.size - 1)
    (hd : decode cc pc = .ok (.tableswitch dflt lo hi offs, len)) (hk : ∀ st, k st = some r → mWP p l e R s m args below meth c Q nL D A eb tL tB ad0 σ0 c0 s0 st) (h : x_tableswitch KT P lo nx pc tg L S σ c1 s1 k = some r) : mWP p l e R s m args below meth c Q nL D A eb tL tB ad0 σ0 c0 s0 (pc, L, S, σ, c1, s1) := by
  unfold x_tableswitch at h
  split at h
  · rename_i x rr d ts
    obtain ⟨t1, t2⟩ := htg d ts rfl
    have hlen : ts.length = offs.size := by have := congrArg List.length t2; simpa using this
    intro ad H locs ls hW hS hv hL
    rcases mTsw_ok ts lo hb1 (by rw [hlen]; exact hb2) h with ⟨i, t, g1, g2, g3⟩ | ⟨g1, g2⟩
    · have hi' : i < ts.length := (List.getElem?_eq_some_iff.mp g1).1
      have e1 : (ts.map (fun t : Nat => (t : Int)))[i]? = some (t : Int) := by rw [List.getElem?_map, g1]; rfl
      rw [t2, List.getElem?_map] at e1
      cases ho : offs.toList[i]? with
      | none => rw [ho] at e1; cases e1
      | some o =>
        rw [ho] at e1
        have e2 : (pc : Int) + o = (t : Int) := Option.some.inj e1
        refine lv_tableIn hx hb hd (by omega) (by omega) (off := o) (tgt := t) ?_ e2 (hk _ g3 ad H locs ls hW hS ⟨mlT hv.1, hv.2⟩ hL)
        rw [g2, show (lo + (i : Int) - lo).toNat = i by omega, ← Array.getElem?_toList]
        exact ho
    · refine lv_tableOut hx hb hd (by rw [hlen] at g1; omega) t1 (hk _ g2 ad H locs ls hW hS ⟨mlT hv.1, hv.2⟩ hL)
  · cases h
theorem mLsw_ok {x : Int32} {d : Nat} {pc : Nat} {dflt : Int} {kf : Nat → Option MST} {r : MST} (hd : (pc : Int) + dflt = (d : Int)) : ∀ (ps : List (Int × Int)) (ts : List Nat), (∀ q ∈ ps, -2147483648 ≤ q.1 ∧ q.1 ≤ 2147483647) → ts.map (fun t : Nat => (t : Int)) = ps.map (fun q => (pc : Int) + q.2) → mLsw x d kf (ps.map (fun q => q.1)) ts = some r → ∃ t : Nat, (pc : Int) + Op.lookupswitch.offset ps dflt x.toInt = (t : Int) ∧ kf t = some r := by
  intro ps
  induction ps with
  | nil =>
    intro ts _ ht h
    cases ts with
    | nil => exact ⟨d, hd, h⟩
    | cons t ts => cases ht
  | cons q ps ih =>
    intro ts hr ht h
    cases ts with
    | nil => cases ht
    | cons t ts =>
      simp only [List.map_cons, List.cons.injEq] at ht
      have hq := hr q List.mem_cons_self
      have hlo : (Int32.ofInt q.1).toInt = q.1 := Int32.toInt_ofInt_of_le (by omega) (by omega)
      obtain ⟨a, o⟩ := q
      simp only [List.map_cons] at h
      unfold mLsw at h
      rw [Op.lookupswitch.offset_cons]
      by_cases he : x = Int32.ofInt a
      · rw [mIf_t he] at h
        refine ⟨t, ?_, h⟩
        rw [if_pos (by rw [he]; exact hlo.symm)]
        exact ht.1.symm
      · rw [mIf_f he] at h
        rw [if_neg (fun e => he (Int32.toInt_inj.mp (by rw [hlo]; exact e.symm)))]
        exact ih ts (fun q hq => hr q (List.mem_cons_of_mem _ hq)) ht.2 h
theorem s_lookupswitch (hx : p.tables.exec = Jvm.exec) (hb : c.code = cc) {P : MP} {pc nx : Nat} {tg : List Nat} {L : List (Option MV)} {S : List MV} {σ : MSto} {c1 s1 : Nat} {k : MK} {r : MST} {dflt : Int} {ps : Array (Int × Int)} {len : Nat}
    (htg : ∀ d ts, tg = d :: ts → (pc : Int) + dflt = (d : Int) ∧ ts.map (fun t : Nat => (t : Int)) = ps.toList.map (fun q => (pc : Int) + q.2)) (hr : ∀ q ∈ ps.toList, -2147483648 ≤ q.1 ∧ q.1 ≤ 2147483647) (hso : (ps.toList.zip (ps.toList.drop 1)).all (fun (a, next) => a.1 < next.1) = true)
    (hd : decode cc pc = .ok (.lookupswitch dflt ps, len)) (hk : ∀ st, k st = some r → mWP p l e R s m args below meth c Q nL D A eb tL tB ad0 σ0 c0 s0 st) (h : x_lookupswitch KT P ps nx pc tg L S σ c1 s1 k = some r) : mWP p l e R s m args below meth c Q nL D A eb tL tB ad0 σ0 c0 s0 (pc, L, S, σ, c1, s1) := by
  unfold x_lookupswitch at h
  split at h
  · rename_i x rr d ts
    obtain ⟨t1, t2⟩ := htg d ts rfl
    obtain ⟨t, g1, g2⟩ := mLsw_ok t1 ps.toList ts hr t2 h
    intro ad H locs ls hW hS hv hL
    exact lv_lookup hx hb hd hso rfl g1 (hk _ g2 ad H locs ls hW hS ⟨mlT hv.1, hv.2⟩ hL)
  · cases h
end SIM
