theorem KT_obj {k ci : Nat} {fs : List Nat} (h : KT k = some (.inl (ci, fs))) (hc : ci ≠ 0) : (k ≠ 95 ∧ k ≠ 96 ∧ k ≠ 97) ∧ ¬ mList k := by
  by_cases hlt : k < 114
  · have h8 : ∀ k, k < 114 → (match KT k with
      | some (.inl (ci, _)) => ci == 0 || decide ((k ≠ 95 ∧ k ≠ 96 ∧ k ≠ 97) ∧ ¬ (14 ≤ k ∧ k ≤ 18))
      | _ => true) = true := by decide +kernel
    have h7 := h8 k hlt
    rw [h] at h7
    simp only [Bool.or_eq_true, beq_iff_eq, decide_eq_true_eq] at h7
    exact h7.resolve_left hc
  · rw [KT_hi (by omega)] at h
    cases h
theorem KT_arr {k ln ek : Nat} {ty : FieldType} (h : KT k = some (.inr (ty, ln, ek))) : ((ek = 1 ∧ (k = 95 ∨ k = 96 ∨ k = 97) ∧ ty = .int) ∨ (ek ≠ 1 ∧ k ≠ 95 ∧ k ≠ 96 ∧ k ≠ 97)) ∧ ¬ mList k ∧ (ln = 0 → k = 97) ∧ (k = 97 → ln = 0) ∧ ln ≤ 1000 := by
  by_cases hlt : k < 114
  · have h8 : ∀ k, k < 114 → (match KT k with
      | some (.inr (ty, ln, ek)) => decide (((ek = 1 ∧ (k = 95 ∨ k = 96 ∨ k = 97) ∧ ty = .int) ∨ (ek ≠ 1 ∧ k ≠ 95 ∧ k ≠ 96 ∧ k ≠ 97)) ∧ ¬ (14 ≤ k ∧ k ≤ 18) ∧ (ln = 0 → k = 97) ∧ (k = 97 → ln = 0) ∧ ln ≤ 1000)
      | _ => true) = true := by decide +kernel
    have h7 := h8 k hlt
    rw [h] at h7
    simp only [decide_eq_true_eq] at h7
    exact h7
  · rw [KT_hi (by omega)] at h
    cases h
theorem mAt_obj {U : State} {D : va_G} {A : Nat → Prop} {eb : Nat} {ad : Nat → Nat → Nat} {σ : MSto} {k i ci : Nat} {fs : List Nat} {H : Heap} (hk : KT k = some (.inl (ci, fs))) (hc : ci ≠ 0) : mAt U D A eb ad σ k i H ↔ ∃ r : vw_C, mCl[ci]? = some r ∧ r.2.2 = fs.length ∧ t_OB (ad k i) (D.1 ci) fs.length (D.2 ci) H (mFV ad σ k i fs) := by
  unfold mAt
  rw [hk]
  simp only []
  rw [if_neg hc]
theorem mAt_arr {U : State} {D : va_G} {A : Nat → Prop} {eb : Nat} {ad : Nat → Nat → Nat} {σ : MSto} {k i ln ek : Nat} {ty : FieldType} {H : Heap} (hk : KT k = some (.inr (ty, ln, ek))) (hc : ek ≠ 1) : mAt U D A eb ad σ k i H ↔ ∃ cA : ClassId, ArrOfT U cA ty ∧ va_RA U cA ty ∧ H[ad k i]? = some (arrV cA ln (mAV ad σ k i ty ek)) := by
  have h2 := (KT_arr hk).1.resolve_left (fun h => hc h.1)
  unfold mAt
  rw [hk]
  simp only []
  rw [if_neg h2.2.2.2, if_neg (fun h => h.elim h2.2.1 h2.2.2.1)]
theorem getD_of {α : Type} {l : List α} {i : Nat} {a d : α} (h : l[i]? = some a) : l.getD i d = a := by rw [List.getD_eq_getElem?_getD, h]; rfl
section SIM
variable {p : Program} {l : Launch} {e : Env} {R : Room} {s : State} {m : MethodId} {args : Array Value} {below : List Frame} {meth : Method} {c : Code} {Q : State → Prop}
variable {cc : ByteArray} {nL : Nat} {D : va_G} {A : Nat → Prop} {eb tL tB c0 s0 : Nat} {ad0 : Nat → Nat → Nat} {σ0 : MSto} {own : String}
theorem s_getfield (hx : p.tables.exec = Jvm.exec) (hb : c.code = cc) {P : MP} {pc : Nat} {tg : List Nat} {L : List (Option MV)} {S : List MV} {σ : MSto} {c1 s1 : Nat} {k : MK} {r : MST} {x : Nat} (hown : s.vm.findClass own = some m.cls) (hT : mTab s) (hK : va_K D mCl [] s) (hLay : mLay) (hF : ∀ ci f ty fin, pFld P x = some (ci, f, ty, fin) → mFOK own x ci f ty fin) (hd : decode cc pc = .ok (.getfield x, 3)) (hk : ∀ st, k st = some r → mWP p l e R s m args below meth c Q nL D A eb tL tB ad0 σ0 c0 s0 st) (h : x_getfield KT P x (pc + 3) pc tg L S σ c1 s1 k = some r) : mWP p l e R s m args below meth c Q nL D A eb tL tB ad0 σ0 c0 s0 (pc, L, S, σ, c1, s1) := by
  unfold x_getfield at h
  split at h
  · rename_i ci f ty fin kd j rr hf
    have hFx := hF _ _ _ _ hf
    have hci : ci ≠ 0 := by obtain ⟨_, _, _, _, _, h0, _⟩ := hFx; exact h0
    split at h
    · rename_i cj fs hkt
      cases hcj : Nat.beq ci cj with
      | false => rw [hcj] at h; cases h
      | true =>
        rw [hcj] at h
        have hcj := Nat.eq_of_beq_eq_true hcj
        subst hcj
        simp only [cond_true] at h
        intro ad H locs ls hW hS hv hL
        have hj : j < gN σ kd := mlH hv.1
        obtain ⟨rr0, hr1, hr2, hob⟩ := (mAt_obj hkt hci).mp (hW.1 kd j hj)
        have hN0 : ∀ r : vw_C, mCl[ci]? = some r → r.2.2 = fs.length := fun r hr => by cases hr1.symm.trans hr; exact hr2
        refine r_get hx hb hown hT hK hLay hFx hob hN0 hd ?_
        have hrest := mlT hv.1
        split at h
        · rename_i hfs
          have e1 : mFV ad σ kd j fs f = .int (gI σ kd j f) := by unfold mFV; rw [getD_of hfs]
          rw [e1]
          exact hk _ h ad H locs ls hW hS ⟨mlI _ hrest, hv.2⟩ hL
        · rename_i hfs
          have e1 : mFV ad σ kd j fs f = .long (gJ σ kd j f) := by unfold mFV; rw [getD_of hfs]
          rw [e1]
          exact hk _ h ad H locs ls hW hS ⟨mlJ _ hrest, hv.2⟩ hL
        · rename_i t hfs
          cases ht : Nat.beq (t % 2) 0 with
          | true =>
            rw [ht] at h
            have ht := Nat.eq_of_beq_eq_true ht
            have e1 : mFV ad σ kd j fs f = .ref (ad (t / 2) j) := by unfold mFV; rw [getD_of hfs]; simp only []; rw [if_pos ht]
            rw [e1]
            have hlv : j < gN σ (t / 2) := hW.2.2.2.1.2.1 kd j ci fs f (t / 2) hj hkt hci (by rw [hfs]; congr 1; omega)
            exact hk _ h ad H locs ls hW hS ⟨mlC hlv hrest, hv.2⟩ hL
          | false =>
            rw [ht] at h
            simp only [cond_false] at h
            have ht : ¬ t % 2 = 0 := fun e => by rw [e] at ht; cases ht
            have e1 : mFV ad σ kd j fs f = va_rf ((gR σ kd j f).map (ad (t / 2))) := by unfold mFV; rw [getD_of hfs]; simp only []; rw [if_neg ht]
            rw [e1]
            cases hg : gR σ kd j f with
            | none =>
              rw [hg] at h
              exact hk _ h ad H locs ls hW hS ⟨mlN hrest, hv.2⟩ hL
            | some y =>
              rw [hg] at h
              have hlv : y < gN σ (t / 2) := by
                have := hW.2.2.2.1.1 kd j f y hj hg
                unfold mTg at this
                rw [hkt] at this
                simp only [] at this
                rw [if_neg hci, getD_of hfs] at this
                exact this
              exact hk _ h ad H locs ls hW hS ⟨mlC hlv hrest, hv.2⟩ hL
        · cases h
    · cases h
  · cases h
theorem mFV_put {ad : Nat → Nat → Nat} {σ σ' : MSto} {k i f g : Nat} {fs : List Nat} {v : Value} (h : ∀ j, j ≠ f → gI σ' k i j = gI σ k i j ∧ gJ σ' k i j = gJ σ k i j ∧ gR σ' k i j = gR σ k i j) (hf : mFV ad σ' k i fs f = v) : updV (mFV ad σ k i fs) f v g = mFV ad σ' k i fs g := by
  unfold updV
  by_cases e : g = f
  · subst e; rw [if_pos rfl]; exact hf.symm
  · rw [if_neg e]
    obtain ⟨h1, h2, h3⟩ := h g e
    unfold mFV
    rw [h1, h2, h3]
theorem mAV_put {ad : Nat → Nat → Nat} {σ σ' : MSto} {k i f g ek : Nat} {ty : FieldType} {v : Value} (h : ∀ j, j ≠ f → gI σ' k i j = gI σ k i j ∧ gJ σ' k i j = gJ σ k i j ∧ gR σ' k i j = gR σ k i j) (hf : mAV ad σ' k i ty ek f = v) : updV (mAV ad σ k i ty ek) f v g = mAV ad σ' k i ty ek g := by
  unfold updV
  by_cases e : g = f
  · subst e; rw [if_pos rfl]; exact hf.symm
  · rw [if_neg e]
    obtain ⟨h1, h2, h3⟩ := h g e
    unfold mAV
    rw [h1, h2, h3]
theorem sI_off (σ : MSto) (k i f : Nat) (v : Int32) : ∀ j, j ≠ f → gI (sI σ k i f v) k i j = gI σ k i j ∧ gJ (sI σ k i f v) k i j = gJ σ k i j ∧ gR (sI σ k i f v) k i j = gR σ k i j := fun j hj => ⟨by rw [gI_sI, if_neg (fun e => hj e.2.2)], rfl, rfl⟩
theorem sJ_off (σ : MSto) (k i f : Nat) (v : Int64) : ∀ j, j ≠ f → gI (sJ σ k i f v) k i j = gI σ k i j ∧ gJ (sJ σ k i f v) k i j = gJ σ k i j ∧ gR (sJ σ k i f v) k i j = gR σ k i j := fun j hj => ⟨rfl, by rw [gJ_sJ, if_neg (fun e => hj e.2.2)], rfl⟩
theorem sR_off (σ : MSto) (k i f : Nat) (v : Option Nat) : ∀ j, j ≠ f → gI (sR σ k i f v) k i j = gI σ k i j ∧ gJ (sR σ k i f v) k i j = gJ σ k i j ∧ gR (sR σ k i f v) k i j = gR σ k i j := fun j hj => ⟨rfl, rfl, by rw [gR_sR, if_neg (fun e => hj e.2.2)]⟩
theorem sI_same (σ : MSto) (k i f : Nat) (v : Int32) : ∀ k' i', ¬ (k' = k ∧ i' = i) → mSame σ (sI σ k i f v) k' i' := fun k' i' h j => ⟨by rw [gI_sI, if_neg (fun e => h ⟨e.1, e.2.1⟩)], rfl, rfl⟩
theorem sJ_same (σ : MSto) (k i f : Nat) (v : Int64) : ∀ k' i', ¬ (k' = k ∧ i' = i) → mSame σ (sJ σ k i f v) k' i' := fun k' i' h j => ⟨rfl, by rw [gJ_sJ, if_neg (fun e => h ⟨e.1, e.2.1⟩)], rfl⟩
theorem sR_same (σ : MSto) (k i f : Nat) (v : Option Nat) : ∀ k' i', ¬ (k' = k ∧ i' = i) → mSame σ (sR σ k i f v) k' i' := fun k' i' h j => ⟨rfl, rfl, by rw [gR_sR, if_neg (fun e => h ⟨e.1, e.2.1⟩)]⟩
theorem mClosed_sR {σ : MSto} {k i f y : Nat} (h : mClosed σ) (hy : y < gN σ (mTg k f)) : mClosed (sR σ k i f (some y)) := by
  refine ⟨fun a b j x hb hx => ?_, h.2.1, h.2.2⟩
  rw [gR_sR] at hx
  by_cases e : a = k ∧ b = i ∧ j = f
  · rw [if_pos e] at hx
    obtain ⟨rfl, rfl, rfl⟩ := e
    cases hx
    exact hy
  · rw [if_neg e] at hx
    exact h.1 a b j x hb hx
theorem fits_int (ty : FieldType) (y : Int32) (h : ty = .int ∨ vp_nar ty y = y) (ht : ty = .int ∨ ty = .boolean) : narrow ty (.int y) = .int y ∧ fits ty (.int y) = true := by
  rcases ht with rfl | rfl
  · exact ⟨rfl, rfl⟩
  · rcases h with h | h
    · cases h
    · have e : narrow .boolean (.int y) = .int (vp_nar .boolean y) := rfl
      refine ⟨by rw [e, h], ?_⟩
      have e3 : vp_nar .boolean y = y &&& 1 := rfl
      obtain ⟨j, hj, ej⟩ := pk_andE y (m := 1) 1 (by decide)
      rw [e3, ej] at h
      rw [← h]
      rcases (show j = 0 ∨ j = 1 by omega) with rfl | rfl <;> decide
theorem s_putfield (hx : p.tables.exec = Jvm.exec) (hb : c.code = cc) {P : MP} {pc : Nat} {tg : List Nat} {L : List (Option MV)} {S : List MV} {σ : MSto} {c1 s1 : Nat} {k : MK} {r : MST} {x : Nat} (hown : s.vm.findClass own = some m.cls) (hT : mTab s) (hK : va_K D mCl [] s) (hLay : mLay) (hF : ∀ ci f ty fin, pFld P x = some (ci, f, ty, fin) → mFOK own x ci f ty fin) (hini : pIni P = true → meth.name = "<init>") (hpl : ∀ ci f ty, pFld P x = some (ci, f, ty, true) → pIni P = true → (Cond.fieldLink own x (((mCl[ci]?).getD ("", fun _ => ("", "", "", false), 0)).2.1 f).1 (((mCl[ci]?).getD ("", fun _ => ("", "", "", false), 0)).2.1 f).2.1 (((mCl[ci]?).getD ("", fun _ => ("", "", "", false), 0)).2.1 f).2.2.1 ∈ lw_tbl ∧ (((mCl[ci]?).getD ("", fun _ => ("", "", "", false), 0)).2.1 f).1 = own)) (hty : ∀ ci f ty fin kd fs, pFld P x = some (ci, f, ty, fin) → KT kd = some (.inl (ci, fs)) → (fs[f]? = some 0 → ty = .int ∨ ty = .boolean) ∧ (fs[f]? = some 1 → ty = .long) ∧ (∀ t, fs[f]? = some (2 * t + 3) → ty.isReference = true)) (hA : ∀ q, s.heap.size ≤ q → A q) (hd : decode cc pc = .ok (.putfield x, 3)) (hk : ∀ st, k st = some r → mWP p l e R s m args below meth c Q nL D A eb tL tB ad0 σ0 c0 s0 st) (h : x_putfield KT P x (pc + 3) pc tg L S σ c1 s1 k = some r) : mWP p l e R s m args below meth c Q nL D A eb tL tB ad0 σ0 c0 s0 (pc, L, S, σ, c1, s1) := by
  unfold x_putfield at h
  split at h
  · rename_i ci f ty fin v kd j rr hf
    have hFx := hF _ _ _ _ hf
    have hci : ci ≠ 0 := by obtain ⟨_, _, _, _, _, h0, _⟩ := hFx; exact h0
    split at h
    · rename_i cj fs hkt
      cases hcj : (Nat.beq ci cj && (!fin || pIni P)) with
      | false => rw [hcj] at h; cases h
      | true =>
        rw [hcj] at h
        rw [Bool.and_eq_true] at hcj
        have hcj1 := Nat.eq_of_beq_eq_true hcj.1
        have hfi : fin = true → pIni P = true := by
          intro e
          have := hcj.2
          rw [e] at this
          exact this
        subst hcj1
        simp only [cond_true] at h
        intro ad H locs ls hW hS hv hL
        have hj : j < gN σ kd := mlH (mlT hv.1)
        obtain ⟨rr0, hr1, hr2, hob⟩ := (mAt_obj hkt hci).mp (hW.1 kd j hj)
        obtain ⟨hsp, hnl⟩ := KT_obj hkt hci
        have hN0 : ∀ r : vw_C, mCl[ci]? = some r → r.2.2 = fs.length := fun r hr => by cases hr1.symm.trans hr; exact hr2
        have hAa : A (ad kd j) := (hW.2.2.1 kd j (Or.inl ⟨Nat.lt_of_lt_of_le (mAt_lt (hW.1 kd j hj)) (by omega), hsp.1, hsp.2.1, hsp.2.2, hj⟩)).1
        have hty1 := hty _ _ _ _ _ _ hf hkt
        have hrest := mlT (mlT hv.1)
        have hplx : fin = true → (Cond.fieldLink own x (((mCl[ci]?).getD ("", fun _ => ("", "", "", false), 0)).2.1 f).1 (((mCl[ci]?).getD ("", fun _ => ("", "", "", false), 0)).2.1 f).2.1 (((mCl[ci]?).getD ("", fun _ => ("", "", "", false), 0)).2.1 f).2.2.1 ∈ lw_tbl ∧ (((mCl[ci]?).getD ("", fun _ => ("", "", "", false), 0)).2.1 f).1 = own) := fun hfin => hpl ci f ty (hfin ▸ hf) (hfi hfin)
        split at h
        · rename_i y hfs
          have hg : (ty = .int ∨ vp_nar ty y = y) ∧ k (pc + 3, L, rr, sI σ kd j f y, c1, s1) = some r := by
            unfold mGo mNarG at h
            cases ty with
            | int => exact ⟨Or.inl rfl, h⟩
            | _ => exact ⟨Or.inr (mG_some h).1, (mG_some h).2⟩
          obtain ⟨hn1, hn2⟩ := fits_int ty y hg.1 (hty1.1 hfs)
          refine r_put (v := .int y) hx hb hown hT hK hLay hFx (fun hfin => hini (hfi hfin)) hob hN0 hn1 hn2 hd (fun H1 q e1 e2 e3 => ?_) hplx
          refine hk _ hg.2 ad H1 _ ls (mWd_upd hW hsp hj hnl (sI_same σ kd j f y) (fun _ => rfl) hW.2.2.2.1 e2 e3 ((mAt_obj hkt hci).mpr ⟨rr0, hr1, hr2, e1.to (fun g _ => mFV_put (sI_off σ kd j f y) ?_)⟩)) (hS.put e2 e3 hAa) ⟨hrest, hv.2⟩ hL
          unfold mFV
          rw [getD_of hfs]
          simp only []
          rw [gI_sI, if_pos ⟨rfl, rfl, rfl⟩]
        · rename_i y hfs
          have hty2 := hty1.2.1 hfs
          subst hty2
          refine r_put (v := .long y) hx hb hown hT hK hLay hFx (fun hfin => hini (hfi hfin)) hob hN0 rfl rfl hd (fun H1 q e1 e2 e3 => ?_) hplx
          refine hk _ h ad H1 _ ls (mWd_upd hW hsp hj hnl (sJ_same σ kd j f y) (fun _ => rfl) hW.2.2.2.1 e2 e3 ((mAt_obj hkt hci).mpr ⟨rr0, hr1, hr2, e1.to (fun g _ => mFV_put (sJ_off σ kd j f y) ?_)⟩)) (hS.put e2 e3 hAa) ⟨hrest, hv.2⟩ hL
          unfold mFV
          rw [getD_of hfs]
          simp only []
          rw [gJ_sJ, if_pos ⟨rfl, rfl, rfl⟩]
        · rename_i t kt y hfs
          cases ht : (Nat.beq (t % 2) 1 && Nat.beq (t / 2) kt) with
          | false => rw [ht] at h; cases h
          | true =>
            rw [ht] at h
            rw [Bool.and_eq_true] at ht
            have ht1 := Nat.eq_of_beq_eq_true ht.1
            have ht2 := Nat.eq_of_beq_eq_true ht.2
            subst ht2
            have hrf := hty1.2.2 (t / 2) (by rw [hfs]; congr 1; omega)
            have hy : y < gN σ (t / 2) := mlH hv.1
            have hmt : mTg kd f = t / 2 := by
              unfold mTg
              rw [hkt]
              simp only []
              rw [if_neg hci, getD_of hfs]
              omega
            refine r_put (v := .ref (ad (t / 2) y)) hx hb hown hT hK hLay hFx (fun hfin => hini (hfi hfin)) hob hN0 (by cases ty <;> first | rfl | cases hrf) (by cases ty <;> first | rfl | cases hrf) hd (fun H1 q e1 e2 e3 => ?_) hplx
            refine hk _ h ad H1 _ ls (mWd_upd hW hsp hj hnl (sR_same σ kd j f (some y)) (fun _ => rfl) (mClosed_sR hW.2.2.2.1 (by rw [hmt]; exact hy)) e2 e3 ((mAt_obj hkt hci).mpr ⟨rr0, hr1, hr2, e1.to (fun g _ => mFV_put (sR_off σ kd j f (some y)) ?_)⟩)) (hS.put e2 e3 hAa) ⟨hrest, hv.2⟩ hL
            unfold mFV
            rw [getD_of hfs]
            simp only []
            rw [if_neg (by omega), gR_sR, if_pos ⟨rfl, rfl, rfl⟩]
            rfl
        · cases h
    · cases h
  · cases h
end SIM
