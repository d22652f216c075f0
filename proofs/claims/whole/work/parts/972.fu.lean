/-! objects made and begun in one: a raw object gets its kind -/
/-- the raw object, begun, becomes the next of its kind -/
def mRen (kr k : Nat) (σ : MSto) : MSto := (fun a b c => if a = k ∧ b = σ.2.2.2 k then σ.1 kr 0 c else σ.1 a b c, fun a b c => if a = k ∧ b = σ.2.2.2 k then σ.2.1 kr 0 c else σ.2.1 a b c, fun a b c => if a = k ∧ b = σ.2.2.2 k then none else σ.2.2.1 a b c, fun a => if a = kr then 0 else if a = k then σ.2.2.2 k + 1 else σ.2.2.2 a)
theorem gI_mRen (kr k : Nat) (σ : MSto) (a b c : Nat) : gI (mRen kr k σ) a b c = if a = k ∧ b = gN σ k then gI σ kr 0 c else gI σ a b c := rfl
theorem gJ_mRen (kr k : Nat) (σ : MSto) (a b c : Nat) : gJ (mRen kr k σ) a b c = if a = k ∧ b = gN σ k then gJ σ kr 0 c else gJ σ a b c := rfl
theorem gR_mRen (kr k : Nat) (σ : MSto) (a b c : Nat) : gR (mRen kr k σ) a b c = if a = k ∧ b = gN σ k then none else gR σ a b c := rfl
theorem gN_mRen (kr k : Nat) (σ : MSto) (a : Nat) : gN (mRen kr k σ) a = if a = kr then 0 else if a = k then gN σ k + 1 else gN σ a := rfl
def mAdR (ad : Nat → Nat → Nat) (σ : MSto) (kr k : Nat) : Nat → Nat → Nat := fun a b => if a = k ∧ b = gN σ k then ad kr 0 else ad a b
def relB (fs fsr : List Nat) : Bool := Nat.beq fs.length fsr.length && (List.range fs.length).all (fun f => (Nat.beq (fs.getD f 0) (fsr.getD f 0) && Nat.ble (fs.getD f 0) 1) || (Nat.ble 2 (fs.getD f 0) && Nat.beq (fs.getD f 0 % 2) 0 && Nat.beq (fsr.getD f 0) (fs.getD f 0 + 1)))
theorem relB_len {fs fsr : List Nat} (h : relB fs fsr = true) : fs.length = fsr.length := by
  unfold relB at h
  rw [Bool.and_eq_true] at h
  exact Nat.eq_of_beq_eq_true h.1
theorem relB_at {fs fsr : List Nat} (h : relB fs fsr = true) {f : Nat} (hf : f < fs.length) : (fs.getD f 0 = fsr.getD f 0 ∧ fs.getD f 0 ≤ 1) ∨ ∃ t, fs.getD f 0 = 2 * t + 2 ∧ fsr.getD f 0 = 2 * t + 3 := by
  unfold relB at h
  rw [Bool.and_eq_true] at h
  have h2 := List.all_eq_true.mp h.2 f (List.mem_range.mpr hf)
  rw [Bool.or_eq_true, Bool.and_eq_true, Bool.and_eq_true, Bool.and_eq_true] at h2
  rcases h2 with ⟨q1, q2⟩ | ⟨⟨q1, q2⟩, q3⟩
  · exact Or.inl ⟨Nat.eq_of_beq_eq_true q1, Nat.le_of_ble_eq_true q2⟩
  · have q1 := Nat.le_of_ble_eq_true q1
    have q2 := Nat.eq_of_beq_eq_true q2
    have q3 := Nat.eq_of_beq_eq_true q3
    exact Or.inr ⟨fs.getD f 0 / 2 - 1, by omega, by omega⟩
theorem mTg_lt (a j : Nat) : mTg a j < 100 := by
  by_cases hlt : a < 114
  · have h8 : ∀ k, k < 114 → (match KT k with
      | some (.inl (_, fs)) => fs.all (fun x => Nat.blt ((x - 2) / 2) 100)
      | some (.inr (_, _, ek)) => Nat.blt ek 100
      | none => true) = true := by decide +kernel
    have h7 := h8 a hlt
    unfold mTg
    cases hk : KT a with
    | none => exact Nat.zero_lt_succ _
    | some kd =>
      rw [hk] at h7
      cases kd with
      | inl o =>
        obtain ⟨ci, fs⟩ := o
        simp only [] at h7 ⊢
        by_cases hc : ci = 0
        · rw [if_pos hc]
          unfold mLK
          split <;> omega
        · rw [if_neg hc]
          by_cases hf : j < fs.length
          · have := List.all_eq_true.mp h7 (fs.getD j 0) (by rw [List.getD_eq_getElem?_getD, List.getElem?_eq_getElem hf]; exact List.getElem_mem hf)
            exact Nat.le_of_ble_eq_true this
          · rw [List.getD_eq_getElem?_getD, List.getElem?_eq_none (by omega)]
            show (0 - 2) / 2 < 100
            omega
      | inr x =>
        obtain ⟨ty, ln, ek⟩ := x
        exact Nat.le_of_ble_eq_true h7
  · unfold mTg
    rw [KT_hi (by omega)]
    exact Nat.zero_lt_succ _
theorem mWd_ren {U : State} {D : va_G} {A : Nat → Prop} {eb tL tB : Nat} {ad0 : Nat → Nat → Nat} {σ0 : MSto} {ad : Nat → Nat → Nat} {σ : MSto} {H : Heap} {kr k ci : Nat} {fs fsr : List Nat} (h : mWd U D A eb tL tB ad0 σ0 ad σ H) (hkr : KT kr = some (.inl (ci, fsr))) (hkk : KT k = some (.inl (ci, fs))) (hc0 : ci ≠ 0) (hrel : relB fs fsr = true) (h100 : 100 ≤ kr) (hk1 : k < 100) (h1 : gN σ kr = 1) (hR : ∀ f t, fs[f]? = some (2 * t + 2) → gR σ kr 0 f = some (gN σ k)) (h00 : gN σ0 kr = 0) :
    mWd U D A eb tL tB ad0 σ0 (mAdR ad σ kr k) (mRen kr k σ) H := by
  obtain ⟨g1, g2, g3, g4, g5, g6, g7, g8, g9, g10⟩ := h
  obtain ⟨hspr, hnlr⟩ := KT_obj hkr hc0
  obtain ⟨hsp, hnl⟩ := KT_obj hkk hc0
  have hkr114 : kr < 114 := mAt_lt (g1 kr 0 (by omega))
  have hlen := relB_len hrel
  have hdN : ∀ a, a ≠ kr → gN σ a ≤ gN (mRen kr k σ) a := by
    intro a ha
    rw [gN_mRen, if_neg ha]
    by_cases e : a = k
    · rw [if_pos e, e]; omega
    · rw [if_neg e]; exact Nat.le_refl _
  have hup : ∀ a b, b < gN (mRen kr k σ) a → a ≠ kr ∧ ((a = k ∧ b = gN σ k) ∨ (b < gN σ a ∧ ¬ (a = k ∧ b = gN σ k))) := by
    intro a b hb
    rw [gN_mRen] at hb
    by_cases ha : a = kr
    · rw [if_pos ha] at hb; omega
    · rw [if_neg ha] at hb
      refine ⟨ha, ?_⟩
      by_cases e : a = k
      · rw [if_pos e] at hb
        by_cases e2 : b = gN σ k
        · exact Or.inl ⟨e, e2⟩
        · exact Or.inr ⟨by rw [e]; omega, fun q => e2 q.2⟩
      · rw [if_neg e] at hb
        exact Or.inr ⟨hb, fun q => e q.1⟩
  have had : ∀ a b, b < gN σ a → mAdR ad σ kr k a b = ad a b := by
    intro a b hb
    unfold mAdR
    rw [if_neg]
    rintro ⟨rfl, rfl⟩
    omega
  have hs : ∀ a b, ¬ (a = k ∧ b = gN σ k) → mSame σ (mRen kr k σ) a b := by
    intro a b hne j
    rw [gI_mRen, gJ_mRen, gR_mRen, if_neg hne, if_neg hne, if_neg hne]
    exact ⟨rfl, rfl, rfl⟩
  have hownr : mOwn σ kr 0 := Or.inl ⟨by omega, hspr.1, hspr.2.1, hspr.2.2, by omega⟩
  have hself : mAdR ad σ kr k k (gN σ k) = ad kr 0 := by unfold mAdR; rw [if_pos ⟨rfl, rfl⟩]
  have ho : ∀ a b, mOwn (mRen kr k σ) a b → (a = k ∧ b = gN σ k) ∨ (mOwn σ a b ∧ ¬ (a = k ∧ b = gN σ k) ∧ a ≠ kr ∧ mAdR ad σ kr k a b = ad a b) := by
    intro a b hab
    rcases hab with ⟨q1, q2, q3, q4, q5⟩ | ⟨l, q1, q2, q3, q4, q5⟩
    · obtain ⟨ha, q | ⟨q, q'⟩⟩ := hup a b q5
      · exact Or.inl q
      · exact Or.inr ⟨Or.inl ⟨q1, q2, q3, q4, q⟩, q', ha, had a b q⟩
    · have hlk : l ≠ k := fun e => hnl (e ▸ q1)
      have hlr : l ≠ kr := fun e => hnlr (e ▸ q1)
      rw [gN_mRen, if_neg hlr, if_neg hlk] at q4
      rw [gI_mRen, if_neg (fun e => hlk e.1)] at q5
      have hne : ¬ (a = k ∧ b = gN σ k) := fun e => by omega
      exact Or.inr ⟨Or.inr ⟨l, q1, q2, q3, q4, q5⟩, hne, by omega, by unfold mAdR; rw [if_neg hne]⟩
  have hclosed : mClosed (mRen kr k σ) := by
    refine ⟨fun a b j x hb hx => ?_, fun a b ci' fs' f t hb hkt hci hf => ?_, fun a ha => ?_⟩
    · rw [gR_mRen] at hx
      by_cases he : a = k ∧ b = gN σ k
      · rw [if_pos he] at hx; cases hx
      · rw [if_neg he] at hx
        obtain ⟨-, q | ⟨q, -⟩⟩ := hup a b hb
        · exact absurd q he
        · have := mTg_lt a j
          exact Nat.lt_of_lt_of_le (g4.1 a b j x q hx) (hdN _ (by omega))
    · obtain ⟨ha, ⟨rfl, rfl⟩ | ⟨q, -⟩⟩ := hup a b hb
      · rw [hkk] at hkt
        cases hkt
        have hfl : f < fs.length := (List.getElem?_eq_some_iff.mp hf).1
        have hx := hR f t hf
        have hl := g4.1 kr 0 f _ (by omega) hx
        have hc : fs.getD f 0 = 2 * t + 2 := getD_of hf
        have hm : mTg kr f = t := by
          unfold mTg
          rw [hkr]
          simp only []
          rw [if_neg hc0]
          rcases relB_at hrel hfl with ⟨e1, e2⟩ | ⟨t', e1, e2⟩
          · omega
          · rw [e2]; omega
        have hm2 := mTg_lt kr f
        rw [hm] at hl hm2
        exact Nat.lt_of_lt_of_le hl (hdN _ (by omega))
      · have hl := g4.2.1 a b ci' fs' f t q hkt hci hf
        have hm : mTg a f = t := by
          unfold mTg
          rw [hkt]
          simp only []
          rw [if_neg hci, getD_of hf]
          omega
        have hm2 := mTg_lt a f
        rw [hm] at hm2
        exact Nat.lt_of_lt_of_le hl (hdN _ (by omega))
    · rw [gN_mRen, if_neg (fun e : a = kr => hnlr (e ▸ ha)), if_neg (fun e : a = k => hnl (e ▸ ha))]
      exact g4.2.2 a ha
  refine ⟨fun a b hb => ?_, fun a b c d q1 q2 q3 => ?_, fun a b q => ?_, hclosed, g5, ?_, ?_, ?_, ?_, ?_⟩
  · obtain ⟨ha, ⟨rfl, rfl⟩ | ⟨q, hne⟩⟩ := hup a b hb
    · obtain ⟨r, r1, r2, r3⟩ := (mAt_obj hkr hc0).mp (g1 kr 0 (by omega))
      refine (mAt_obj hkk hc0).mpr ⟨r, r1, by omega, ?_⟩
      rw [hself, hlen]
      refine r3.to (fun f hf => ?_)
      unfold mFV
      rcases relB_at hrel (f := f) (by omega) with ⟨e1, e2⟩ | ⟨t, e1, e2⟩
      · rw [← e1]
        rcases (show fs.getD f 0 = 0 ∨ fs.getD f 0 = 1 by omega) with e | e
        · rw [e]
          simp only []
          rw [gI_mRen, if_pos ⟨rfl, rfl⟩]
        · rw [e]
          simp only []
          rw [gJ_mRen, if_pos ⟨rfl, rfl⟩]
      · have hfs : fs[f]? = some (2 * t + 2) := by
          have hfl : f < fs.length := by omega
          rw [List.getD_eq_getElem?_getD, List.getElem?_eq_getElem hfl] at e1
          rw [List.getElem?_eq_getElem hfl]
          exact congrArg some e1
        have hx := hR f t hfs
        have hl := g4.1 kr 0 f _ (by omega) hx
        have hm : mTg kr f = t := by
          unfold mTg
          rw [hkr]
          simp only []
          rw [if_neg hc0, e2]; omega
        rw [hm] at hl
        rw [e1, e2]
        simp only []
        rw [if_neg (show ¬ (2 * t + 1) % 2 = 0 by omega), if_pos (show (2 * t) % 2 = 0 by omega), hx, show (2 * t + 1) / 2 = t by omega, show 2 * t / 2 = t by omega]
        show Value.ref (ad t (gN σ a)) = Value.ref (mAdR ad σ kr a t (gN σ a))
        rw [had t _ hl]
    · have hb2 := g1 a b q
      exact mAt_congr (Vm.Alike.refl _) g4 q (hs a b hne) (fun _ => (hs 97 1 (fun e => hsp.2.2 e.1.symm) 0).1) had (fun hl => by
        unfold mAdR
        rw [if_neg (fun e => by have := mAt_lt hb2; omega)]) rfl (fun _ _ => rfl) (fun h => mAt_nA hb2 h) hb2
  · rcases ho a b q1 with ⟨rfl, rfl⟩ | ⟨o1, n1, r1, e1⟩ <;> rcases ho c d q2 with ⟨rfl, rfl⟩ | ⟨o2, n2, r2, e2⟩
    · exact ⟨rfl, rfl⟩
    · rw [hself, e2] at q3
      exact absurd (g2 _ _ _ _ hownr o2 q3).1.symm r2
    · rw [hself, e1] at q3
      exact absurd (g2 _ _ _ _ o1 hownr q3).1 r1
    · rw [e1, e2] at q3
      exact g2 a b c d o1 o2 q3
  · rcases ho a b q with ⟨rfl, rfl⟩ | ⟨o1, n1, r1, e1⟩
    · rw [hself]; exact g3 _ _ hownr
    · rw [e1]; exact g3 a b o1
  · rw [had 95 0 (by omega)]; exact g6
  · rw [had 96 0 (by omega)]; exact g7
  · rw [gN_mRen, if_neg (by omega), if_neg (fun e => hsp.1 e.symm)]; exact g8
  · rw [gN_mRen, if_neg (by omega), if_neg (fun e => hsp.2.1 e.symm)]; exact g9
  · refine ⟨fun a b hb => ?_, by rw [gN_mRen, if_neg (by omega), if_neg (fun e => hsp.2.2 e.symm)]; exact g10.2⟩
    have ha : a ≠ kr := fun e => by rw [e, h00] at hb; omega
    exact ⟨Nat.lt_of_lt_of_le (g10.1 a b hb).1 (hdN a ha), (had a b (g10.1 a b hb).1).trans (g10.1 a b hb).2⟩
theorem nbeq_r : ∀ n : Nat, Nat.beq n n = true
  | 0 => rfl
  | n + 1 => nbeq_r n
/-- the small machine's table for 'new; dup; invokespecial' -/
def fusP (pc ix kr : Nat) (ei : MEnt) (rm : Nat × Nat × Nat × Nat) : MP := ((fun _ => none), (fun _ => none), (fun _ => none), (fun k => bif Nat.beq k ix then some ei else none), (fun k => bif Nat.beq k pc then some kr else none), (fun _ => none), (fun _ => none), (fun _ => none), (fun _ => false), rm, false, (fun _ => none))
theorem fus_obj {l : Launch} {own : String} {cc : ByteArray} {pc x ix kr k ci : Nat} {fs fsr : List Nat} {en ei : MEnt} (hkr : KT kr = some (.inl (ci, fsr))) (hkk : KT k = some (.inl (ci, fs))) (hc0 : ci ≠ 0) (hrel : relB fs fsr = true) (h100 : 100 ≤ kr) (hk1 : k < 100) (hok : mAOK own x kr)
    (hd0 : decode cc pc = .ok (.new x, 3)) (hd3 : decode cc (pc + 3) = .ok (.dup, 1)) (hd4 : decode cc (pc + 4) = .ok (.invokespecial ix, 3)) (hLk : mLink own ix ei) (hC : mCtr l ei) (hret : ei.2.2.2.2.2.2 = none) (hm : ei.1 = (2, 0, ci))
    (hroom : ei.2.1.1 ≤ en.2.1.1 ∧ 8 + (ei.2.2.2.2.2.1 + 11) + ei.2.1.2.1 ≤ 8 + (en.2.2.2.2.2.1 + 11) + en.2.1.2.1 ∧ en.2.1.2.2.1 = 1 + ei.2.1.2.2.1 ∧ en.2.1.2.2.2 = fsr.length + ei.2.1.2.2.2)
    (hS : ∀ (σ : MSto) (pr : Option Prop) (rv : Option MV) (σ' : MSto), en.2.2.1 [] σ = (pr, rv, σ') → (∀ q, pr = some q → q) → gN σ kr = 0 ∧ ∃ (σ1 : MSto) (pr1 : Option Prop), ei.2.2.1 [mR kr 0] (sNew σ kr) = (pr1, none, σ1) ∧ (∀ q, pr1 = some q → q) ∧ gN σ1 kr = 1 ∧ gN σ1 k = gN σ k ∧ (∀ f t, fs[f]? = some (2 * t + 2) → gR σ1 kr 0 f = some (gN σ k)) ∧ rv = some (mR k (gN σ k)) ∧ σ' = mRen kr k σ1) :
    mFusOK l own cc pc (pc + 7) en := by
  intro p e R s m args below meth c Q nL D A eb tL tB ad0 σ0 c0 s0 P L S σ c1 s1 kk r X hLay hRm h7 hk h
  obtain ⟨⟨r1, r2, r3, r4, r5⟩, pr, rv, σ', hF, hpr, h⟩ := mCall_inv h
  obtain ⟨hn0, σ1, pr1, hei, hpr1, hn1, hnk, hR, rfl, rfl⟩ := hS σ pr rv σ' hF hpr
  obtain ⟨hx, hb, hml, hown, hT, hK, hSt, hA, hini⟩ := id X
  obtain ⟨q1, q2, q3, q4⟩ := hroom
  have hRm' : mRoomOK R (fusP pc ix kr ei (pRoom P)) c0 s0 := hRm
  intro ad H locs ls hW hS' hv hL
  have h00 : gN σ0 kr = 0 := by
    rcases Nat.eq_zero_or_pos (gN σ0 kr) with e | e
    · exact e
    · have := (hW.2.2.2.2.2.2.2.2.2.1 kr 0 e).1
      have h2 : gN ((pc, L, S, σ, c1, s1) : MST).2.2.2.1 kr = gN σ kr := rfl
      omega
  have fin : mWP p l e R s m args below meth c Q nL D A eb tL tB ad0 σ0 c0 s0 (pc + 7, L, mR kr 0 :: S, σ1, c1 + 1 + ei.2.1.2.2.1, s1 + fsr.length + ei.2.1.2.2.2) := by
    intro ad1 H1 locs1 ls1 hW1 hS1 hv1 hL1
    have hW2 := mWd_ren hW1 hkr hkk hc0 hrel h100 hk1 hn1 (fun f t hf => by rw [show gN ((pc + 7, L, mR kr 0 :: S, σ1, c1 + 1 + ei.2.1.2.2.1, s1 + fsr.length + ei.2.1.2.2.2) : MST).2.2.2.1 k = gN σ1 k from rfl, hnk]; exact hR f t hf) h00
    have hliv : ∀ v, mLive σ v → mLive σ1 v → mLive (mRen kr k σ1) v := by
      intro v hv8 hv9
      rcases v with v | v | (_ | ⟨a, b⟩)
      · trivial
      · trivial
      · trivial
      · have hb8 : b < gN σ a := hv8
        have hb9 : b < gN σ1 a := hv9
        have ha : a ≠ kr := fun e => by rw [e, hn0] at hb8; omega
        show b < gN (mRen kr k σ1) a
        rw [gN_mRen, if_neg ha]
        by_cases e : a = k
        · rw [if_pos e]; rw [e] at hb9; omega
        · rw [if_neg e]; exact hb9
    have had : ∀ a b, b < gN σ1 a → mAdR ad1 σ1 kr k a b = ad1 a b := by
      intro a b hb9
      unfold mAdR
      rw [if_neg]
      rintro ⟨rfl, rfl⟩
      omega
    have hg := hk _ h (mAdR ad1 σ1 kr k) H1 locs1 ls1 hW2 hS1 ⟨fun v hv9 => ?_, fun i v hv9 => hliv v (hv.2 i v hv9) (hv1.2 i v hv9)⟩ (mLs_ext had hv1.2 hL1)
    · refine W_cs hg (by show c0 + (c1 + en.2.1.2.2.1) = c0 + (c1 + 1 + ei.2.1.2.2.1); omega) (by show s0 + (s1 + en.2.1.2.2.2) = s0 + (s1 + fsr.length + ei.2.1.2.2.2); omega) ?_
      show F0 m (pc + 7) ls1 (Value.ref (mAdR ad1 σ1 kr k k (gN σ k)) :: S.map (mVal (mAdR ad1 σ1 kr k))) = F0 m (pc + 7) ls1 (Value.ref (ad1 kr 0) :: S.map (mVal ad1))
      rw [mMap_ext had (mlT hv1.1)]
      have e : mAdR ad1 σ1 kr k k (gN σ k) = ad1 kr 0 := by unfold mAdR; rw [if_pos ⟨rfl, hnk.symm⟩]
      rw [e]
    · rcases List.mem_cons.mp hv9 with rfl | h9
      · show gN σ k < gN (mRen kr k σ1) k
        rw [gN_mRen, if_neg (by omega), if_pos rfl, hnk]; omega
      · exact hliv v (hv.1 v h9) (hv1.1 v (List.mem_cons_of_mem _ h9))
  have b1 : Nat.ble (c1 + 1) (pRoom P).2.2.1 = true := Nat.ble_eq_true_of_le (by omega)
  have b2 : Nat.ble (s1 + fsr.length) (pRoom P).2.2.2 = true := Nat.ble_eq_true_of_le (by omega)
  have e1 : pAlc (fusP pc ix kr ei (pRoom P)) pc = some kr := by
    show (bif Nat.beq pc pc then some kr else none) = some kr
    rw [nbeq_r _]; rfl
  have e2 : pEnv (fusP pc ix kr ei (pRoom P)) ix = some ei := by
    show (bif Nat.beq ix ix then some ei else none) = some ei
    rw [nbeq_r _]; rfl
  have x1 : x_new KT (fusP pc ix kr ei (pRoom P)) (pc + 3) pc [] L S σ c1 s1 (fun st => some st) = some (pc + 3, L, mR kr (gN σ kr) :: S, sNew σ kr, c1 + 1, s1 + fsr.length) := by
    unfold x_new
    rw [show pFus (fusP pc ix kr ei (pRoom P)) pc = none from rfl, e1]
    simp only []
    rw [hkr]
    simp only []
    rw [show (pRoom (fusP pc ix kr ei (pRoom P))) = pRoom P from rfl, b1, b2]
    rfl
  have x3 : x_invokespecial KT (fusP pc ix kr ei (pRoom P)) ix (pc + 4 + 3) (pc + 4) [] L (mR kr 0 :: mR kr 0 :: S) (sNew σ kr) (c1 + 1) (s1 + fsr.length) (fun st => some st) = some (pc + 7, L, mR kr 0 :: S, σ1, c1 + 1 + ei.2.1.2.2.1, s1 + fsr.length + ei.2.1.2.2.2) := by
    unfold x_invokespecial
    rw [e2]
    simp only []
    rw [hm]
    simp only []
    rw [show (Nat.beq 2 2 && Nat.ble (0 + 1) (mR kr 0 :: mR kr 0 :: S).length) = true from rfl]
    simp only [cond_true, List.drop_zero, List.take_zero, List.reverse_nil]
    rw [hkr]
    simp only []
    rw [show Nat.beq ci ci = true from nbeq_r _]
    simp only [cond_true]
    unfold mCall
    have b5 : (Nat.ble (ei.2.1.1 + 1) (pRoom (fusP pc ix kr ei (pRoom P))).1 && (Nat.ble (8 + (ei.2.2.2.2.2.1 + 11) + ei.2.1.2.1) (pRoom (fusP pc ix kr ei (pRoom P))).2.1 && (Nat.ble (c1 + 1 + ei.2.1.2.2.1) (pRoom (fusP pc ix kr ei (pRoom P))).2.2.1 && (Nat.ble (s1 + fsr.length + ei.2.1.2.2.2) (pRoom (fusP pc ix kr ei (pRoom P))).2.2.2 && Nat.ble ((mR kr 0 :: S).map mcat).sum 8)))) = true := by
      rw [Bool.and_eq_true, Bool.and_eq_true, Bool.and_eq_true, Bool.and_eq_true]
      refine ⟨Nat.ble_eq_true_of_le ?_, Nat.ble_eq_true_of_le ?_, Nat.ble_eq_true_of_le ?_, Nat.ble_eq_true_of_le ?_, Nat.ble_eq_true_of_le ?_⟩
      · exact Nat.le_trans (by omega) r1
      · exact Nat.le_trans q2 r2
      · exact Nat.le_trans (by omega) r3
      · exact Nat.le_trans (by omega) r4
      · rw [List.map_cons, List.sum_cons]
        show 1 + _ ≤ 8
        omega
    rw [b5, hei]
    simp only [cond_true]
    cases pr1 with
    | none => rfl
    | some q => exact mG_t (hpr1 q rfl) _
  rw [hn0] at x1
  have w3 := s_invokespecial (P := fusP pc ix kr ei (pRoom P)) (tg := []) hx hb hml hown hT hK hSt hA hRm' (by rw [e2]; exact fun e => by cases e) (fun en9 h9 => by rw [e2] at h9; cases h9; exact ⟨hLk, hC, hret⟩) hd4 (fun st e => by cases e; exact fin) x3
  have w2 := s_dup (P := fusP pc ix kr ei (pRoom P)) (tg := []) hx hb hd3 (fun st e => by cases e; exact w3) (show x_dup KT (fusP pc ix kr ei (pRoom P)) (pc + 3 + 1) (pc + 3) [] L (mR kr 0 :: S) (sNew σ kr) (c1 + 1) (s1 + fsr.length) (fun st => some st) = some (pc + 4, L, mR kr 0 :: mR kr 0 :: S, sNew σ kr, c1 + 1, s1 + fsr.length) from rfl)
  exact s_new (P := fusP pc ix kr ei (pRoom P)) (tg := []) hx hb hown hT hK hLay hA ⟨hRm.1, hRm.2.1⟩ rfl (fun kd h9 => by rw [e1] at h9; cases h9; exact hok) hd0 (fun st e => by cases e; exact w2) x1 ad H locs ls hW hS' hv hL

