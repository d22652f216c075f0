/-! lists: add -/
theorem AL_k {kd : Nat} (hk : (Nat.ble 14 kd && Nat.ble kd 18) = true) : mList kd ∧ ∃ fs, KT kd = some (.inl (0, fs)) := by
  refine ⟨?_, KT_L hk⟩
  rw [Bool.and_eq_true] at hk
  exact ⟨Nat.le_of_ble_eq_true hk.1, Nat.le_of_ble_eq_true hk.2⟩
theorem rEl_obj {s : State} {D : va_G} {A : Nat → Prop} {eb tL tB : Nat} {ad0 : Nat → Nat → Nat} {σ0 : MSto} {ad : Nat → Nat → Nat} {σ : MSto} {H : Heap} (hT : mTab s) (hK : va_K D mCl [] s) (hW : mWd s D A eb tL tB ad0 σ0 ad σ H) {k i ci : Nat} {fs : List Nat} {C : String} {T : u_T} {N : Nat} (hkt : KT k = some (.inl (ci, fs))) (hc0 : ci ≠ 0) (hcl : mCl[ci]? = some (C, T, N)) (hw : Cond.castable C "java/lang/Object" ∈ lw_tbl) (hi : i < gN σ k) : rEl s H (ad k i) := by
  obtain ⟨r, h1, h2, cell, q1, q2, q3, q4⟩ := (mAt_obj hkt hc0).mp (hW.1 k i hi)
  obtain ⟨hS, hfc, kC, hkC, hkind⟩ := hK.1 ci _ hcl
  obtain ⟨c3, c4, hc3, hc4, hasg⟩ := Cond.castable_spec (hT.use (args := #[]) hw rfl)
  refine ⟨cell, q1, by rw [q3]; rfl, ⟨kC, by rw [q2]; exact hkC⟩, fun comp hcm => ?_⟩
  cases Option.some.inj (hc4.symm.trans hcm)
  rw [q2, Option.some.inj (hfc.symm.trans hc3)]
  exact hasg
theorem rEl_L {s : State} {D : va_G} {A : Nat → Prop} {eb tL tB : Nat} {ad0 : Nat → Nat → Nat} {σ0 : MSto} {ad : Nat → Nat → Nat} {σ : MSto} {H : Heap} (hT : mTab s) (hK : va_K D mCl [] s) (hW : mWd s D A eb tL tB ad0 σ0 ad σ H) {kd i : Nat} (hk : mList kd) (hi : i < gN σ (mLK kd)) : rEl s H (ad (mLK kd) i) := by
  have : kd = 14 ∨ kd = 15 ∨ kd = 16 ∨ kd = 17 ∨ kd = 18 := by unfold mList at hk; omega
  rcases this with rfl | rfl | rfl | rfl | rfl
  · exact rEl_obj hT hK hW (k := 7) rfl (by decide) rfl tw_8_120 hi
  · exact rEl_obj hT hK hW (k := 9) rfl (by decide) rfl tw_8_122 hi
  · exact rEl_obj hT hK hW (k := 5) rfl (by decide) rfl tw_8_123 hi
  · exact rEl_obj hT hK hW (k := 6) rfl (by decide) rfl tw_8_119 hi
  · exact rEl_obj hT hK hW (k := 6) rfl (by decide) rfl tw_8_119 hi
theorem KT_ad0 (kd i x0 : Nat) (σ : MSto) (k' i' : Nat) (h : ¬ (k' = kd ∧ i' = i)) : mSame σ (e_AL_add kd i (mLK kd) x0 σ) k' i' := by
  intro j
  unfold e_AL_add
  refine ⟨?_, rfl, ?_⟩
  · rw [gI_sI, if_neg (fun e => h ⟨e.1, e.2.1⟩), gI_sR, gI_sI, if_neg (fun e => h ⟨e.1, e.2.1⟩)]
  · rw [gR_sI, gR_sR, if_neg (fun e => h ⟨e.1, e.2.1⟩), gR_sI]
/-- a list with one element more -/
theorem mWd_add {U : State} {D : va_G} {A : Nat → Prop} {eb tL tB : Nat} {ad0 : Nat → Nat → Nat} {σ0 : MSto} {ad : Nat → Nat → Nat} {σ : MSto} {H H' : Heap} {kd x0 n r cap : Nat} (h : mWd U D A eb tL tB ad0 σ0 ad σ H) (hml : mList kd) (hkt : ∃ fs, KT kd = some (.inl (0, fs))) (hi : 0 < gN σ kd) (hx : x0 < gN σ (mLK kd)) (hmt : ∀ j, mTg kd j = mLK kd) (hn : gI σ kd 0 2 = nI n) (hn12 : n ≤ 12) (hcap : n < cap) (h10 : 10 ≤ cap) (h1000 : cap ≤ 1000) (hsome : ∀ j, j < n → (gR σ kd 0 j).isSome = true)
    (har : (r = ad (1000 + kd) 0 ∧ n ≠ 0) ∨ H.size ≤ r ∨ (r = ad (1000 + kd) 0 ∧ False)) (hAf : ∀ q, H.size ≤ q → A q)
    (hob : rOb D (ad kd 0) (gI σ kd 0 0 + 1) r (n + 1) H') (hArr : rArr U H' r cap (fun j => if j = n then some (ad (mLK kd) x0) else if j < n then (gR σ kd 0 j).map (ad (mLK kd)) else none))
    (hz : H.size ≤ H'.size) (hzr : r < H'.size) (oq : ∀ q, q < H.size → q ≠ ad kd 0 → (q = ad (1000 + kd) 0 → n = 0) → H'[q]? = H[q]?) :
    mWd U D A eb tL tB ad0 σ0 (fun a b => if a = 1000 + kd ∧ b = 0 then r else ad a b) (e_AL_add kd 0 (mLK kd) x0 σ) H' := by
  obtain ⟨h1, h2, h3, h4, h5, h6, h7, h8, h9, h10'⟩ := h
  obtain ⟨fs, hkt⟩ := hkt
  have hk114 : kd < 114 := mAt_lt (h1 kd 0 hi)
  have hN : ∀ k, gN (e_AL_add kd 0 (mLK kd) x0 σ) k = gN σ k := fun k => rfl
  have hlive : ∀ a b, b < gN σ a → (if a = 1000 + kd ∧ b = 0 then r else ad a b) = ad a b := by
    intro a b hb
    have := mAt_lt (h1 a b hb)
    rw [if_neg (fun e => by omega)]
  have hownL : mOwn σ kd 0 := Or.inl ⟨by omega, by unfold mList at hml; omega, by unfold mList at hml; omega, by unfold mList at hml; omega, hi⟩
  have hs := KT_ad0 kd 0 x0 σ
  have hA1 : n ≠ 0 → mOwn σ (1000 + kd) 0 := fun h0 => Or.inr ⟨kd, hml, rfl, rfl, hi, by rw [hn]; exact nI_ne0 (by omega) (by omega)⟩
  have eI2 : gI (e_AL_add kd 0 (mLK kd) x0 σ) kd 0 2 = nI (n + 1) := by
    unfold e_AL_add
    rw [gI_sI, if_pos ⟨rfl, rfl, rfl⟩, hn, nI_1]
  have eI0 : gI (e_AL_add kd 0 (mLK kd) x0 σ) kd 0 0 = gI σ kd 0 0 + 1 := by
    unfold e_AL_add
    rw [gI_sI, if_neg (fun e => by omega), gI_sR, gI_sI, if_pos ⟨rfl, rfl, rfl⟩]
  have eR : ∀ j, gR (e_AL_add kd 0 (mLK kd) x0 σ) kd 0 j = if j = n then some x0 else gR σ kd 0 j := by
    intro j
    unfold e_AL_add
    rw [gR_sI, gR_sR, hn, nI_clamp (by omega), gR_sI]
    by_cases hj : j = n
    · rw [if_pos ⟨rfl, rfl, hj⟩, if_pos hj]
    · rw [if_neg (fun e => hj e.2.2), if_neg hj]
  have hclosed : mClosed (e_AL_add kd 0 (mLK kd) x0 σ) := by
    refine ⟨fun k i j x hb hx' => ?_, fun k i ci fs f t hb hkt' hci hf => h4.2.1 k i ci fs f t hb hkt' hci hf, fun a ha => h4.2.2 a ha⟩
    by_cases he : k = kd ∧ i = 0
    · obtain ⟨rfl, rfl⟩ := he
      rw [eR] at hx'
      by_cases hj : j = n
      · rw [if_pos hj] at hx'
        cases hx'
        rw [hmt]; exact hx
      · rw [if_neg hj] at hx'
        exact h4.1 k 0 j x hb hx'
    · rw [(hs k i he j).2.2] at hx'
      exact h4.1 k i j x hb hx'
  have hrA : A r ∧ r < H'.size := by
    refine ⟨?_, hzr⟩
    rcases har with ⟨e, h0⟩ | h0 | ⟨-, h0⟩
    · rw [e]; exact (h3 _ _ (hA1 h0)).1
    · exact hAf _ h0
    · exact h0.elim
  -- whose cells are whose
  have ho : ∀ a b, mOwn (e_AL_add kd 0 (mLK kd) x0 σ) a b → (a = 1000 + kd ∧ b = 0) ∨ (mOwn σ a b ∧ ¬ (a = 1000 + kd ∧ b = 0)) := by
    intro a b hab
    by_cases he : a = 1000 + kd ∧ b = 0
    · exact Or.inl he
    · refine Or.inr ⟨?_, he⟩
      rcases hab with ⟨q1, q2, q3, q4, q5⟩ | ⟨l, q1, q2, q3, q4, q5⟩
      · exact Or.inl ⟨q1, q2, q3, q4, q5⟩
      · have hlk : l ≠ kd := fun e => he ⟨by rw [q2, e], q3⟩
        refine Or.inr ⟨l, q1, q2, q3, q4, ?_⟩
        rw [(hs l 0 (fun e => hlk e.1) 2).1] at q5
        exact q5
  have hsz : ∀ a b, mOwn σ a b → ¬ (a = 1000 + kd ∧ b = 0) → ad a b ≠ r := by
    intro a b hab hne e
    rcases har with ⟨e2, h0⟩ | h0 | ⟨-, h0⟩
    · exact hne (h2 a b _ _ hab (hA1 h0) (e.trans e2))
    · have := (h3 a b hab).2
      omega
    · exact h0
  refine ⟨fun k i hb => ?_, fun a b c d q1 q2 q3 => ?_, fun a b q => ?_, hclosed, h5, ?_, ?_, h8, h9, ?_⟩
  · by_cases he : k = kd ∧ i = 0
    · obtain ⟨rfl, rfl⟩ := he
      have hm : mAt U D A eb (fun a b => if a = 1000 + k ∧ b = 0 then r else ad a b) (e_AL_add k 0 (mLK k) x0 σ) k 0 H' = mLAt U D A eb (fun a b => if a = 1000 + k ∧ b = 0 then r else ad a b) (e_AL_add k 0 (mLK k) x0 σ) k 0 H' := by
        unfold mAt
        rw [hkt]
        exact if_pos rfl
      rw [hm]
      refine ⟨?_, n + 1, cap, by omega, h1000, eI2, Or.inr ⟨by omega, h10, ?_⟩⟩
      · show t_OB (if k = 1000 + k ∧ 0 = 0 then r else ad k 0) _ 3 _ H' _
        rw [if_neg (fun e => by omega)]
        refine hob.to (fun f hf => ?_)
        rcases (show f = 0 ∨ f = 1 ∨ f = 2 by omega) with rfl | rfl | rfl
        · show Value.int _ = Value.int _
          rw [eI0]
        · show Value.ref _ = Value.ref (if 1000 + k = 1000 + k ∧ 0 = 0 then r else ad (1000 + k) 0)
          rw [if_pos ⟨rfl, rfl⟩]
        · show Value.int _ = Value.int _
          rw [eI2]
      · obtain ⟨cA, q1, q2, q3⟩ := hArr
        refine ⟨cA, q1, q2, ?_, fun j hj => ?_⟩
        · show H'[if 1000 + k = 1000 + k ∧ 0 = 0 then r else ad (1000 + k) 0]? = _
          rw [if_pos ⟨rfl, rfl⟩, q3]
          congr 2
          funext j
          rw [eR]
          simp only []
          have hm : ∀ y, y < gN σ (mLK k) → (if mLK k = 1000 + k ∧ y = 0 then r else ad (mLK k) y) = ad (mLK k) y := fun y hy => hlive _ _ hy
          by_cases hj : j = n
          · rw [if_pos hj, if_pos (by omega), if_pos hj]
            exact congrArg (fun z => va_rf (some z)) (hm _ hx).symm
          · rw [if_neg hj, if_neg hj]
            by_cases hj2 : j < n
            · rw [if_pos hj2, if_pos (by omega)]
              congr 1
              cases hg : gR σ k 0 j with
              | none => rfl
              | some y =>
                exact congrArg some (hm y (by have := h4.1 k 0 j y hi hg; rw [hmt] at this; exact this)).symm
            · rw [if_neg hj2, if_neg (by omega)]; rfl
        · rw [eR]
          by_cases hjn : j = n
          · rw [if_pos hjn]; rfl
          · rw [if_neg hjn]; exact hsome j (by omega)
    · have hb2 : mAt U D A eb ad σ k i H := h1 k i hb
      have ha := mAt_lt hb2
      have hik : mList k → k ≠ kd := fun hl e => he ⟨e, by have := h4.2.2 k hl; have hb' : i < gN σ k := hb; omega⟩
      have hnr : ∀ q, q < H.size → (∀ a b, mOwn σ a b → (a = kd ∧ b = 0) ∨ (a = 1000 + kd ∧ b = 0) → ad a b ≠ q) → H'[q]? = H[q]? := fun q hq hne => oq q hq (fun e => hne kd 0 hownL (Or.inl ⟨rfl, rfl⟩) e.symm) (fun e => by
        by_cases h0 : n = 0
        · exact h0
        · exact absurd e.symm (hne _ _ (hA1 h0) (Or.inr ⟨rfl, rfl⟩)))
      refine mAt_congr (Vm.Alike.refl _) h4 hb (hs k i he) (fun _ => (hs 97 1 (fun e => by unfold mList at hml; omega) 0).1) hlive (fun hl => if_neg (fun e => hik hl (by omega))) ?_ (fun hl hne => ?_) (fun h => mAt_nA hb2 h) hb2
      · by_cases hsp : k = 95 ∨ k = 96 ∨ k = 97
        · have hnA := mAt_nA hb2 hsp
          refine hnr _ ?_ (fun a b hab _ e => hnA (e ▸ (h3 a b hab).1))
          rcases hsp with rfl | rfl | rfl
          · obtain ⟨cell, g1, -⟩ := (show va_T .int (ad 95 i) 7 (fun j => .int (gI σ 95 i j)) A U H from hb2)
            exact (Array.getElem?_eq_some_iff.mp g1).1
          · obtain ⟨cell, g1, -⟩ := (show va_T .int (ad 96 i) 5 (fun j => .int (gI σ 96 i j)) A U H from hb2)
            exact (Array.getElem?_eq_some_iff.mp g1).1
          · obtain ⟨L, -, -, ⟨scr, g1, -⟩, -⟩ := (show ∃ L : Nat, gI σ 97 1 0 = nI L ∧ L < 2 ^ 31 ∧ va_X (ad 97 i) L (fun j => gI σ 97 i j) U H ∧ ¬ A (ad 97 i) from hb2)
            exact (Array.getElem?_eq_some_iff.mp g1).1
        · have hown' : mOwn σ k i := Or.inl ⟨by omega, fun e => hsp (Or.inl e), fun e => hsp (Or.inr (Or.inl e)), fun e => hsp (Or.inr (Or.inr e)), hb⟩
          refine hnr _ (h3 k i hown').2 (fun a b hab hor e => ?_)
          obtain ⟨rfl, rfl⟩ := h2 _ _ _ _ hab hown' e
          rcases hor with hor | hor
          · exact he hor
          · omega
      · have hl1 := h4.2.2 k hl
        have hi0 : i = 0 := by have hb' : i < gN σ k := hb; omega
        subst hi0
        have hown' : mOwn σ (1000 + k) 0 := Or.inr ⟨k, hl, rfl, rfl, hb, hne⟩
        refine hnr _ (h3 _ _ hown').2 (fun a b hab hor e => ?_)
        have hh := h2 _ _ _ _ hab hown' e
        rcases hor with hor | hor
        · omega
        · exact hik hl (by omega)
  · simp only [] at q3
    rcases ho a b q1 with ⟨rfl, rfl⟩ | ⟨o1, n1⟩ <;> rcases ho c d q2 with ⟨rfl, rfl⟩ | ⟨o2, n2⟩
    · exact ⟨rfl, rfl⟩
    · rw [if_pos ⟨rfl, rfl⟩, if_neg n2] at q3
      exact absurd q3.symm (hsz c d o2 n2)
    · rw [if_neg n1, if_pos ⟨rfl, rfl⟩] at q3
      exact absurd q3 (hsz a b o1 n1)
    · rw [if_neg n1, if_neg n2] at q3
      exact h2 a b c d o1 o2 q3
  · simp only []
    rcases ho a b q with ⟨rfl, rfl⟩ | ⟨o1, n1⟩
    · rw [if_pos ⟨rfl, rfl⟩]; exact hrA
    · rw [if_neg n1]; exact ⟨(h3 a b o1).1, by have := (h3 a b o1).2; omega⟩
  · show (if 95 = 1000 + kd ∧ 0 = 0 then r else ad 95 0) = tL
    rw [if_neg (fun e => by omega)]; exact h6
  · show (if 96 = 1000 + kd ∧ 0 = 0 then r else ad 96 0) = tB
    rw [if_neg (fun e => by omega)]; exact h7
  · exact ⟨fun a b hb => ⟨(h10'.1 a b hb).1, (hlive a b (h10'.1 a b hb).1).trans (h10'.1 a b hb).2⟩, h10'.2⟩
theorem dAa0 : decode prog_27_method_25_code 0 = .ok (.aload_n 0, 1) := by decide +kernel
theorem dAa1 : decode prog_27_method_25_code 1 = .ok (.dup, 1) := by decide +kernel
theorem dAa2 : decode prog_27_method_25_code 2 = .ok (.getfield 63, 3) := by decide +kernel
theorem dAa5 : decode prog_27_method_25_code 5 = .ok (.iconst 1, 1) := by decide +kernel
theorem dAa6 : decode prog_27_method_25_code 6 = .ok (.iadd, 1) := by decide +kernel
theorem dAa7 : decode prog_27_method_25_code 7 = .ok (.putfield 63, 3) := by decide +kernel
theorem dAa10 : decode prog_27_method_25_code 10 = .ok (.aload_n 0, 1) := by decide +kernel
theorem dAa11 : decode prog_27_method_25_code 11 = .ok (.aload_n 1, 1) := by decide +kernel
theorem dAa12 : decode prog_27_method_25_code 12 = .ok (.aload_n 0, 1) := by decide +kernel
theorem dAa13 : decode prog_27_method_25_code 13 = .ok (.getfield 9, 3) := by decide +kernel
theorem dAa16 : decode prog_27_method_25_code 16 = .ok (.aload_n 0, 1) := by decide +kernel
theorem dAa17 : decode prog_27_method_25_code 17 = .ok (.getfield 48, 3) := by decide +kernel
theorem dAa20 : decode prog_27_method_25_code 20 = .ok (.invokevirtual 131, 3) := by decide +kernel
theorem dAa23 : decode prog_27_method_25_code 23 = .ok (.iconst 1, 1) := by decide +kernel
theorem dAa24 : decode prog_27_method_25_code 24 = .ok (.ireturn, 1) := by decide +kernel
theorem rLV_put0 (mc mc' : Int32) (arr n : Nat) (f : Nat) : updV (rLV mc arr n) 0 (.int mc') f = rLV mc' arr n f := by
  unfold updV
  match f with
  | 0 => rfl
  | 1 => rfl
  | f + 2 => rfl
theorem c_AL_add (l : Launch) : mCtr l E_AL_add := by
  intro D eb tL tB ad sz as σ pr rv σ' hF hpr hlv
  unfold E_AL_add S_AL_add at hF
  simp only [] at hF
  split at hF
  · rename_i kd i0 k1 x0
    cases hk : (Nat.ble 14 kd && Nat.ble kd 18 && Nat.beq k1 (mLK kd)) with
    | false =>
      rw [hk] at hF
      cases hF
      exact (hpr _ rfl).elim
    | true =>
      rw [hk] at hF
      cases hF
      obtain ⟨hp1, hp2⟩ := hpr _ rfl
      rw [Bool.and_eq_true] at hk
      obtain ⟨hk, hkk⟩ := hk
      have hkk := Nat.eq_of_beq_eq_true hkk
      subst hkk
      refine va_MetF (cc := prog_27_method_25_code) (maxL := 2) (ret := some .boolean) (by decide +kernel) rfl ?_
      intro p e s m args below meth c s₁ B hml hv
      obtain ⟨rfl, hsz, hT, hK, hSt, hW⟩ := hv
      have hx := B.exec
      have hb := B.bytes
      have hr := B.returns
      have hown : s.vm.findClass "java/util/ArrayList" = some m.cls := findClass_of_methodNamed B.named
      have hA : ∀ q, s.heap.size ≤ q → mA σ ad sz q := fun q hq => Or.inr (by rw [← hsz]; exact hq)
      rw [lg_entry_eq]
      have hl := lv_entry ([.ref (ad kd i0), .ref (ad (mLK kd) x0)]) (n := 2) (Nat.le_of_ble_eq_true rfl)
      have hlive : i0 < gN σ kd := hlv _ (List.mem_cons_self)
      have hlivx : x0 < gN σ (mLK kd) := hlv _ (List.mem_cons_of_mem _ (List.mem_cons_self))
      obtain ⟨hml2, hkt⟩ := AL_k hk
      have h1 := hW.2.2.2.1.2.2 kd hml2
      have hi0 : i0 = 0 := by omega
      subst hi0
      obtain ⟨ho, n, cap, hnc, hc1, en, hcase⟩ := AL_at hk (hW.1 kd 0 hlive)
      have hn12 : n ≤ 12 := by
        rw [en] at hp2
        rcases Nat.lt_or_ge 12 n with h | h
        · exact absurd hp2 (by rw [Int32.not_le]; exact nI_lt (a := 12) h (by omega))
        · exact h
      have hob : rOb D (ad kd 0) (gI σ kd 0 0) (ad (1000 + kd) 0) n s.heap := ho.to (fun f hf => by
        rcases (show f = 0 ∨ f = 1 ∨ f = 2 by omega) with rfl | rfl | rfl
        · rfl
        · rfl
        · show Value.int (gI σ kd 0 2) = Value.int (nI n)
          rw [en])
      have hS : va_S (mA σ ad sz) s.heap s.heap [] := va_S.rf
      have haA : mA σ ad sz (ad kd 0) := Or.inl ⟨kd, 0, Or.inl ⟨by unfold mList at hml2; omega, by unfold mList at hml2; omega, by unfold mList at hml2; omega, by unfold mList at hml2; omega, hlive⟩, rfl⟩
      have hownL : mOwn σ kd 0 := Or.inl ⟨by unfold mList at hml2; omega, by unfold mList at hml2; omega, by unfold mList at hml2; omega, by unfold mList at hml2; omega, hlive⟩
      have hmk : mLK kd < 1000 ∧ mLK kd ≠ 95 ∧ mLK kd ≠ 96 ∧ mLK kd ≠ 97 ∧ mLK kd ≠ kd := by
        have : kd = 14 ∨ kd = 15 ∨ kd = 16 ∨ kd = 17 ∨ kd = 18 := by unfold mList at hml2; omega
        rcases this with rfl | rfl | rfl | rfl | rfl <;> decide
      have hownX : mOwn σ (mLK kd) x0 := Or.inl ⟨hmk.1, hmk.2.1, hmk.2.2.1, hmk.2.2.2.1, hlivx⟩
      have hxa : ad (mLK kd) x0 ≠ ad kd 0 := fun e => hmk.2.2.2.2 (hW.2.1 _ _ _ _ hownX hownL e).1
      have haL : ad kd 0 < s.heap.size := (hW.2.2.1 _ _ hownL).2
      have hxL : ad (mLK kd) x0 < s.heap.size := (hW.2.2.1 _ _ hownX).2
      have harr : (cap = 0 ∧ ad (1000 + kd) 0 = eb) ∨ 10 ≤ cap := by
        rcases hcase with ⟨-, h2, h3⟩ | ⟨-, h2, -⟩
        · exact Or.inl ⟨h3, h2⟩
        · exact Or.inr h2
      have hA1 : cap ≠ 0 → mOwn σ (1000 + kd) 0 := by
        intro h0
        rcases hcase with ⟨-, h2, h3⟩ | ⟨hn0, h2, -⟩
        · exact absurd h3 h0
        · exact Or.inr ⟨kd, hml2, rfl, rfl, hlive, by rw [en]; exact nI_ne0 hn0 (by omega)⟩
      have hne : ad kd 0 ≠ ad (1000 + kd) 0 := by
        rcases hcase with ⟨-, h2, h3⟩ | ⟨hn0, h2, -⟩
        · intro e
          rw [h2] at e
          exact hW.2.2.2.2.1 (e ▸ haA)
        · intro e
          have := (hW.2.1 _ _ _ _ hownL (hA1 (by omega)) e).1
          omega
      obtain ⟨g, hg⟩ : ∃ g : Nat → Option Nat, g = fun j => if j < n then (gR σ kd 0 j).map (ad (mLK kd)) else none := ⟨_, rfl⟩
      have hgn : ∀ j, n ≤ j → g j = none := fun j hj => by rw [hg]; exact if_neg (by omega)
      have hArr : cap ≠ 0 → rArr s s.heap (ad (1000 + kd) 0) cap g := by
        intro h0
        rcases hcase with ⟨-, h2, h3⟩ | ⟨hn0, h2, cA, g1, g2, g3, g4⟩
        · exact absurd h3 h0
        · refine ⟨cA, g1, g2, ?_⟩
          rw [g3]
          refine congrArg some (congrArg (arrV cA cap) (funext fun j => ?_))
          rw [hg]
          simp only []
          by_cases hj : j < n
          · rw [if_pos hj, if_pos hj]
          · rw [if_neg hj, if_neg hj]; rfl
      have hel : ∀ j, j < cap → ∀ y, g j = some y → rEl s s.heap y ∧ y ≠ ad kd 0 := by
        intro j hj y hy
        rw [hg] at hy
        simp only [] at hy
        by_cases hjn : j < n
        · rw [if_pos hjn] at hy
          cases hq : gR σ kd 0 j with
          | none => rw [hq] at hy; cases hy
          | some z =>
            rw [hq] at hy
            cases hy
            have hz : z < gN σ (mLK kd) := by have := hW.2.2.2.1.1 kd 0 j z hlive hq; rw [mTg_L hk] at this; exact this
            refine ⟨rEl_L hT hK hW hml2 hz, fun e => ?_⟩
            exact hmk.2.2.2.2 (hW.2.1 _ _ _ _ (Or.inl ⟨hmk.1, hmk.2.1, hmk.2.2.1, hmk.2.2.2.1, hz⟩) hownL e).1
        · rw [if_neg hjn] at hy; cases hy
      refine lv_aload_n hx hb dAa0 rfl (lv_at hl 0 rfl) ?_
      refine lv_dup hx hb dAa1 rfl ?_
      refine r_getLv hx hb hown hT hK mLay_ok (x := 63) (f := 0) (ref := "java/util/ArrayList") rfl (by decide) tw_1_108 (fun q h => u_same (hT.use (args := #[]) tw_1_109 rfl) q h) hob dAa2 ?_
      refine lv_iconst hx hb dAa5 rfl ?_
      refine lv_iadd hx hb dAa6 ?_
      refine r_putL hx hb hown hT hK mLay_ok (x := 63) (f := 0) (ref := "java/util/ArrayList") rfl (by decide) rfl (ty := .int) (by decide +kernel) tw_1_108 (fun q h => u_same (hT.use (args := #[]) tw_1_109 rfl) q h) hob rfl rfl dAa7 (fun H1 j1 ho1 z1 o1 => ?_)
      have hob1 : rOb D (ad kd 0) (gI σ kd 0 0 + 1) (ad (1000 + kd) 0) n H1 := ho1.to (fun f _ => rLV_put0 _ _ _ n f)
      have hS1 := hS.put (k := j1) z1 o1 haA
      refine lv_aload_n hx hb dAa10 rfl (lv_at hl 0 rfl) ?_
      refine lv_aload_n hx hb dAa11 rfl (lv_at hl 1 rfl) ?_
      refine lv_aload_n hx hb dAa12 rfl (lv_at hl 0 rfl) ?_
      refine r_getL hx hb hown hT hK mLay_ok (x := 9) (f := 1) rfl (by decide) tw_1_105 hob1 dAa13 ?_
      refine lv_aload_n hx hb dAa16 rfl (lv_at hl 0 rfl) ?_
      refine r_getL hx hb hown hT hK mLay_ok (x := 48) (f := 2) rfl (by decide) tw_1_106 hob1 dAa17 ?_
      have hFA : ∀ q, rFa H1.size (ad kd 0) (ad (1000 + kd) 0) cap q → mA σ ad sz q := by
        intro q hq
        rcases hq with rfl | ⟨rfl, h0⟩ | hq
        · exact haA
        · exact Or.inl ⟨_, _, hA1 h0, rfl⟩
        · exact hA q (by omega)
      refine rCV (y := yA3) (b := ad kd 0) (As := [.ref (ad (mLK kd) x0), .ref (ad (1000 + kd) 0), .int (nI n)]) (rest := []) (F := rFa H1.size (ad kd 0) (ad (1000 + kd) 0) cap) hx hb hml hown hT (n := 3) ⟨tw_2_125, tw_1_7, ⟨by decide, by decide⟩, by decide +kernel, tw_2_122⟩ ⟨tw_2_124, tw_0_2⟩ (rOb_cl hK hob1) (c_A3 l D eb tL tB H1.size (ad kd 0) (ad (1000 + kd) 0) n cap (ad (mLK kd) x0) (gI σ kd 0 0 + 1) g harr hnc hn12 hc1 hne hxa hgn) rKa.calling (fun U hU hWm => ⟨⟨by rw [hU], rG.call hT hK hSt hFA hS1 hU hWm, by rw [hU]; exact hob1, fun h0 => by rw [hU]; exact (hArr h0).moved hWm.alike (o1 _ (Ne.symm hne)), fun j hj y hy => by rw [hU]; exact (hel j hj y hy).1.moved hWm.alike (o1 _ (hel j hj y hy).2)⟩, by rw [hU]; exact (rEl_L hT hK hW hml2 hlivx).moved hWm.alike (o1 _ hxa)⟩) rfl hl.1 hFA hS1 (Nat.le_of_ble_eq_true rfl) (Nat.le_of_ble_eq_true rfl) (Nat.le_refl _) (Nat.le_refl _) (Nat.zero_le _) dAa20 (fun v t locs1 hal hB hz hkk hS2 => ?_)
      obtain ⟨rfl, r, cap', hrr, hrl, hcap', h10, h1000, hob2, hArr2⟩ := hB
      refine lv_iconst hx hb dAa23 rfl ?_
      have hW2 : mWd s (D) (mA σ ad sz) eb tL tB ad σ (fun a b => if a = 1000 + kd ∧ b = 0 then r else ad a b) (e_AL_add kd 0 (mLK kd) x0 σ) t.heap := by
        refine mWd_add hW hml2 hkt hlive hlivx (mTg_L hk) en hn12 hcap' h10 h1000 (fun j hj => ?_) ?_ hA hob2 ?_ (by omega) hrl (fun q hq hqa hqr => ?_)
        · rcases hcase with ⟨h2, -, -⟩ | ⟨hn0, h2, cA, g1, g2, g3, g4⟩
          · omega
          · exact g4 j hj
        · rcases hrr with ⟨h2, h3⟩ | h2
          · refine Or.inl ⟨h2, ?_⟩
            rcases hcase with ⟨h4, -, h5⟩ | ⟨hn0, -⟩
            · exact absurd h5 h3
            · omega
          · exact Or.inr (Or.inl (by omega))
        · obtain ⟨cA, q1, q2, q3⟩ := hArr2
          refine ⟨cA, arrOfT_moved hal q1, q2.moved hal, ?_⟩
          rw [q3, hg]
        · rw [hkk q (by omega) (fun hq2 => ?_), o1 q hqa]
          rcases hq2 with h2 | ⟨h2, h3⟩ | h2
          · exact hqa h2
          · have h0 := hqr h2
            rcases hcase with ⟨h4, -, h5⟩ | ⟨hn0, -⟩
            · exact h3 h5
            · omega
          · omega
      refine W.zret hx hb hr rfl (fun t2 ht hWm => ⟨⟨(fun a b => if a = 1000 + kd ∧ b = 0 then r else ad a b), rfl, hW2.2.2.2.2.2.2.2.2.2, fun v hv => ?_, ?_⟩, hS2.F ht⟩) hS2.2.2 dAa24
      · cases hv; exact trivial
      · rw [ht]
        exact mWd_move hWm.alike hW2 (fun k i ho => (hW2.2.2.1 k i ho).1) (fun k i hk hi => mAt_nA (ad := fun a b => if a = 1000 + kd ∧ b = 0 then r else ad a b) (hW2.1 k i hi) hk) hW2.2.2.2.2.1 hW2.2.2.2.2.2.2.2.2.2
  · cases hF
    exact (hpr _ rfl).elim

