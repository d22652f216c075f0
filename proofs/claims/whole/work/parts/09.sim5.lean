/-- a place of an array that is there, read -/
theorem arr_in {cA : ClassId} {n : Nat} {f : Nat → Value} {x : Int32} (h : vp_in x n) : ¬ (x < 0 ∨ (arrV cA n f).slots.size ≤ x.toNatClampNeg) := by rw [arrV_size]; exact h
theorem arr_rd {cA : ClassId} {n : Nat} {f : Nat → Value} {x : Int32} (h : vp_in x n) : (arrV cA n f).slots[x.toNatClampNeg]? = some (f x.toNatClampNeg) := arrV_read _ _ (Nat.not_le.mp fun q => h (Or.inr q))
theorem vp_in_lt {x : Int32} {n : Nat} (h : vp_in x n) : x.toNatClampNeg < n := Nat.not_le.mp fun q => h (Or.inr q)
section SIM
variable {p : Program} {l : Launch} {e : Env} {R : Room} {s : State} {m : MethodId} {args : Array Value} {below : List Frame} {meth : Method} {c : Code} {Q : State → Prop}
variable {cc : ByteArray} {nL : Nat} {D : va_G} {A : Nat → Prop} {eb tL tB c0 s0 : Nat} {ad0 : Nat → Nat → Nat} {σ0 : MSto} {own : String}
theorem s_iaload (hx : p.tables.exec = Jvm.exec) (hb : c.code = cc) {P : MP} {pc : Nat} {tg : List Nat} {L : List (Option MV)} {S : List MV} {σ : MSto} {c1 s1 : Nat} {k : MK} {r : MST}  (hd : decode cc pc = .ok (.iaload, 1)) (hk : ∀ st, k st = some r → mWP p l e R s m args below meth c Q nL D A eb tL tB ad0 σ0 c0 s0 st) (h : x_iaload KT P  (pc + 1) pc tg L S σ c1 s1 k = some r) : mWP p l e R s m args below meth c Q nL D A eb tL tB ad0 σ0 c0 s0 (pc, L, S, σ, c1, s1) := by
  unfold x_iaload at h
  split at h
  · rename_i x kd j rr
    split at h
    · rename_i ln ek hkt
      obtain ⟨hin, h⟩ := mG_some h
      intro ad H locs ls hW hS hv hL
      have hj : j < gN σ kd := mlH (mlT hv.1)
      have hat := hW.1 kd j hj
      have hg := hk _ h ad H locs ls hW hS ⟨mlI _ (mlT (mlT hv.1)), hv.2⟩ hL
      obtain ⟨hcase, hnl, hl0, h97, hl⟩ := KT_arr hkt
      by_cases hek : ek = 1
      · have hsp := (hcase.resolve_right (fun h => h.1 hek)).2.1
        unfold mAt at hat
        rw [hkt] at hat
        simp only [] at hat
        by_cases h7 : kd = 97
        · rw [if_pos h7] at hat
          obtain ⟨Ls, g1, g2, ⟨scr, f1, f2, f3, f4, f5⟩, g4⟩ := hat
          have hln : mLen σ ln = Ls := by
            rw [h97 h7]
            show (gI σ 97 1 0).toNatClampNeg = Ls
            rw [g1, nI_clamp g2]
          rw [hln] at hin
          exact W.iald (v := .int (gI σ kd j x.toNatClampNeg)) hx hb f1 f2 f3 (by rw [f4]; exact hin) (f5 _ (vp_in_lt hin)) rfl rfl hd hg
        · rw [if_neg h7, if_pos (by rcases hsp with h | h | h; exact Or.inl h; exact Or.inr h; exact absurd h h7)] at hat
          obtain ⟨cell, f1, f2, f3, f4, f5, f6, f7⟩ := hat
          have hln : mLen σ ln = ln := by
            cases ln with
            | zero => exact absurd (hl0 rfl) h7
            | succ n => rfl
          rw [hln] at hin
          have hlt := vp_in_lt hin
          refine W.iald (v := .int (gI σ kd j x.toNatClampNeg)) hx hb f1 f2 f3 ?_ (f6 _ hlt) rfl rfl hd hg
          intro q
          rcases q with q | q
          · exact hin (Or.inl q)
          · omega
      · have hln : mLen σ ln = ln := by
          cases ln with
          | zero => exact absurd (hl0 rfl) (hcase.resolve_left (fun h => hek h.1)).2.2.2
          | succ n => rfl
        rw [hln] at hin
        obtain ⟨cA, g1, g2, g3⟩ := (mAt_arr hkt hek).mp hat
        exact W.iald (v := .int (gI σ kd j x.toNatClampNeg)) hx hb g3 (g1 _ _) (fun q => by cases q) (arr_in hin) (arr_rd hin) rfl rfl hd hg
    · cases h
  · cases h
theorem s_baload (hx : p.tables.exec = Jvm.exec) (hb : c.code = cc) {P : MP} {pc : Nat} {tg : List Nat} {L : List (Option MV)} {S : List MV} {σ : MSto} {c1 s1 : Nat} {k : MK} {r : MST}  (hd : decode cc pc = .ok (.baload, 1)) (hk : ∀ st, k st = some r → mWP p l e R s m args below meth c Q nL D A eb tL tB ad0 σ0 c0 s0 st) (h : x_baload KT P  (pc + 1) pc tg L S σ c1 s1 k = some r) : mWP p l e R s m args below meth c Q nL D A eb tL tB ad0 σ0 c0 s0 (pc, L, S, σ, c1, s1) := by
  unfold x_baload at h
  split at h
  · rename_i x kd j rr
    split at h
    · rename_i ln ek hkt
      obtain ⟨hin, h⟩ := mG_some h
      intro ad H locs ls hW hS hv hL
      have hj : j < gN σ kd := mlH (mlT hv.1)
      have hek : ek ≠ 1 := fun e => by
        have := (KT_arr hkt).1.resolve_right (fun h => h.1 e)
        cases this.2.2
      obtain ⟨cA, g1, g2, g3⟩ := (mAt_arr hkt hek).mp (hW.1 kd j hj)
      exact W.zald (v := .int (gI σ kd j x.toNatClampNeg)) hx hb g3 (g1 _ _) (fun q => by cases q) (arr_in hin) (arr_rd hin) rfl rfl hd (hk _ h ad H locs ls hW hS ⟨mlI _ (mlT (mlT hv.1)), hv.2⟩ hL)
    · rename_i ln ek hkt
      obtain ⟨hin, h⟩ := mG_some h
      intro ad H locs ls hW hS hv hL
      have hj : j < gN σ kd := mlH (mlT hv.1)
      have hek : ek ≠ 1 := fun e => by
        have := (KT_arr hkt).1.resolve_right (fun h => h.1 e)
        cases this.2.2
      obtain ⟨cA, g1, g2, g3⟩ := (mAt_arr hkt hek).mp (hW.1 kd j hj)
      exact W.bald (v := .int (gI σ kd j x.toNatClampNeg)) hx hb g3 (g1 _ _) (fun q => by cases q) (arr_in hin) (arr_rd hin) rfl rfl hd (hk _ h ad H locs ls hW hS ⟨mlI _ (mlT (mlT hv.1)), hv.2⟩ hL)
    · cases h
  · cases h
theorem s_caload (hx : p.tables.exec = Jvm.exec) (hb : c.code = cc) {P : MP} {pc : Nat} {tg : List Nat} {L : List (Option MV)} {S : List MV} {σ : MSto} {c1 s1 : Nat} {k : MK} {r : MST}  (hd : decode cc pc = .ok (.caload, 1)) (hk : ∀ st, k st = some r → mWP p l e R s m args below meth c Q nL D A eb tL tB ad0 σ0 c0 s0 st) (h : x_caload KT P  (pc + 1) pc tg L S σ c1 s1 k = some r) : mWP p l e R s m args below meth c Q nL D A eb tL tB ad0 σ0 c0 s0 (pc, L, S, σ, c1, s1) := by
  unfold x_caload at h
  split at h
  · rename_i x kd j rr
    split at h
    · rename_i ln ek hkt
      obtain ⟨hin, h⟩ := mG_some h
      intro ad H locs ls hW hS hv hL
      have hj : j < gN σ kd := mlH (mlT hv.1)
      have hek : ek ≠ 1 := fun e => by
        have := (KT_arr hkt).1.resolve_right (fun h => h.1 e)
        cases this.2.2
      obtain ⟨cA, g1, g2, g3⟩ := (mAt_arr hkt hek).mp (hW.1 kd j hj)
      exact W.cald (v := .int (gI σ kd j x.toNatClampNeg)) hx hb g3 (g1 _ _) (fun q => by cases q) (arr_in hin) (arr_rd hin) rfl rfl hd (hk _ h ad H locs ls hW hS ⟨mlI _ (mlT (mlT hv.1)), hv.2⟩ hL)
    · cases h
  · cases h
theorem s_laload (hx : p.tables.exec = Jvm.exec) (hb : c.code = cc) {P : MP} {pc : Nat} {tg : List Nat} {L : List (Option MV)} {S : List MV} {σ : MSto} {c1 s1 : Nat} {k : MK} {r : MST}  (hd : decode cc pc = .ok (.laload, 1)) (hk : ∀ st, k st = some r → mWP p l e R s m args below meth c Q nL D A eb tL tB ad0 σ0 c0 s0 st) (h : x_laload KT P  (pc + 1) pc tg L S σ c1 s1 k = some r) : mWP p l e R s m args below meth c Q nL D A eb tL tB ad0 σ0 c0 s0 (pc, L, S, σ, c1, s1) := by
  unfold x_laload at h
  split at h
  · rename_i x kd j rr
    split at h
    · rename_i ln ek hkt
      obtain ⟨hin, h⟩ := mG_some h
      intro ad H locs ls hW hS hv hL
      have hj : j < gN σ kd := mlH (mlT hv.1)
      have hek : ek ≠ 1 := fun e => by
        have := (KT_arr hkt).1.resolve_right (fun h => h.1 e)
        cases this.2.2
      obtain ⟨cA, g1, g2, g3⟩ := (mAt_arr hkt hek).mp (hW.1 kd j hj)
      exact W.lald (v := .long (gJ σ kd j x.toNatClampNeg)) hx hb g3 (g1 _ _) (fun q => by cases q) (arr_in hin) (arr_rd hin) rfl rfl hd (hk _ h ad H locs ls hW hS ⟨mlJ _ (mlT (mlT hv.1)), hv.2⟩ hL)
    · cases h
  · cases h
theorem s_aaload (hx : p.tables.exec = Jvm.exec) (hb : c.code = cc) {P : MP} {pc : Nat} {tg : List Nat} {L : List (Option MV)} {S : List MV} {σ : MSto} {c1 s1 : Nat} {k : MK} {r : MST}  (hd : decode cc pc = .ok (.aaload, 1)) (hk : ∀ st, k st = some r → mWP p l e R s m args below meth c Q nL D A eb tL tB ad0 σ0 c0 s0 st) (h : x_aaload KT P  (pc + 1) pc tg L S σ c1 s1 k = some r) : mWP p l e R s m args below meth c Q nL D A eb tL tB ad0 σ0 c0 s0 (pc, L, S, σ, c1, s1) := by
  unfold x_aaload at h
  split at h
  · rename_i x kd j rr
    split at h
    · rename_i C ln ek hkt
      obtain ⟨hin, h⟩ := mG_some h
      intro ad H locs ls hW hS hv hL
      have hj : j < gN σ kd := mlH (mlT hv.1)
      have hek : ek ≠ 1 := fun e => by
        have := (KT_arr hkt).1.resolve_right (fun h => h.1 e)
        cases this.2.2
      obtain ⟨cA, g1, g2, g3⟩ := (mAt_arr hkt hek).mp (hW.1 kd j hj)
      refine W.aald (v := mAV ad σ kd j (.object C) ek x.toNatClampNeg) (ty := .object C) hx hb g3 (g1 _ _) rfl (fun q => by cases q) (arr_in hin) (arr_rd hin) rfl rfl hd ?_
      have hrest := mlT (mlT hv.1)
      unfold mAV
      simp only []
      cases hg : gR σ kd j x.toNatClampNeg with
      | none =>
        rw [hg] at h
        exact hk _ h ad H locs ls hW hS ⟨mlN hrest, hv.2⟩ hL
      | some y =>
        rw [hg] at h
        have hy : y < gN σ ek := by
          have := hW.2.2.2.1.1 kd j _ y hj hg
          unfold mTg at this
          rw [hkt] at this
          exact this
        exact hk _ h ad H locs ls hW hS ⟨mlC hy hrest, hv.2⟩ hL
    · cases h
  · cases h
theorem s_iastore (hx : p.tables.exec = Jvm.exec) (hb : c.code = cc) {P : MP} {pc : Nat} {tg : List Nat} {L : List (Option MV)} {S : List MV} {σ : MSto} {c1 s1 : Nat} {k : MK} {r : MST} (hA : ∀ q, s.heap.size ≤ q → A q) (hd : decode cc pc = .ok (.iastore, 1)) (hk : ∀ st, k st = some r → mWP p l e R s m args below meth c Q nL D A eb tL tB ad0 σ0 c0 s0 st) (h : x_iastore KT P  (pc + 1) pc tg L S σ c1 s1 k = some r) : mWP p l e R s m args below meth c Q nL D A eb tL tB ad0 σ0 c0 s0 (pc, L, S, σ, c1, s1) := by
  unfold x_iastore at h
  split at h
  · rename_i v x kd j rr
    split at h
    · rename_i ln hkt
      obtain ⟨hin, h⟩ := mG_some h
      intro ad H locs ls hW hS hv hL
      have hj : j < gN σ kd := mlH (mlT (mlT hv.1))
      have hek : (0 : Nat) ≠ 1 := by decide
      obtain ⟨hcase, hnl, hl0, h97, hl⟩ := KT_arr hkt
      have hsp := (hcase.resolve_left (fun h => hek h.1)).2
      have hAa : A (ad kd j) := (hW.2.2.1 kd j (Or.inl ⟨Nat.lt_of_lt_of_le (mAt_lt (hW.1 kd j hj)) (by omega), hsp.1, hsp.2.1, hsp.2.2, hj⟩)).1
      obtain ⟨cA, g1, g2, g3⟩ := (mAt_arr hkt hek).mp (hW.1 kd j hj)
      refine W.iast hx hb g3 (g1 _ _) (fun q => by cases q) (arr_in hin) rfl rfl hd fun H1 e1 e2 e3 => ?_
      rw [arrV_store] at e1
      refine hk _ h ad H1 _ ls (mWd_upd hW hsp hj hnl (sI_same σ kd j _ _) (fun _ => rfl) hW.2.2.2.1 e2 e3 ((mAt_arr hkt hek).mpr ⟨cA, g1, g2, ?_⟩)) (hS.put e2 e3 hAa) ⟨mlT (mlT (mlT hv.1)), hv.2⟩ hL
      rw [e1]
      congr 2
      funext g
      refine mAV_put (sI_off σ kd j _ _) ?_
      unfold mAV
      simp only []
      rw [gI_sI, if_pos ⟨rfl, rfl, rfl⟩]
      try rfl
    · cases h
  · cases h
theorem s_bastore (hx : p.tables.exec = Jvm.exec) (hb : c.code = cc) {P : MP} {pc : Nat} {tg : List Nat} {L : List (Option MV)} {S : List MV} {σ : MSto} {c1 s1 : Nat} {k : MK} {r : MST} (hA : ∀ q, s.heap.size ≤ q → A q) (hd : decode cc pc = .ok (.bastore, 1)) (hk : ∀ st, k st = some r → mWP p l e R s m args below meth c Q nL D A eb tL tB ad0 σ0 c0 s0 st) (h : x_bastore KT P  (pc + 1) pc tg L S σ c1 s1 k = some r) : mWP p l e R s m args below meth c Q nL D A eb tL tB ad0 σ0 c0 s0 (pc, L, S, σ, c1, s1) := by
  unfold x_bastore at h
  split at h
  · rename_i v x kd j rr
    split at h
    · rename_i ln hkt
      obtain ⟨hin, h⟩ := mG_some h
      intro ad H locs ls hW hS hv hL
      have hj : j < gN σ kd := mlH (mlT (mlT hv.1))
      have hek : (0 : Nat) ≠ 1 := by decide
      obtain ⟨hcase, hnl, hl0, h97, hl⟩ := KT_arr hkt
      have hsp := (hcase.resolve_left (fun h => hek h.1)).2
      have hAa : A (ad kd j) := (hW.2.2.1 kd j (Or.inl ⟨Nat.lt_of_lt_of_le (mAt_lt (hW.1 kd j hj)) (by omega), hsp.1, hsp.2.1, hsp.2.2, hj⟩)).1
      obtain ⟨cA, g1, g2, g3⟩ := (mAt_arr hkt hek).mp (hW.1 kd j hj)
      refine W.zast hx hb g3 (g1 _ _) (fun q => by cases q) (arr_in hin) rfl rfl hd fun H1 e1 e2 e3 => ?_
      rw [arrV_store] at e1
      refine hk _ h ad H1 _ ls (mWd_upd hW hsp hj hnl (sI_same σ kd j _ _) (fun _ => rfl) hW.2.2.2.1 e2 e3 ((mAt_arr hkt hek).mpr ⟨cA, g1, g2, ?_⟩)) (hS.put e2 e3 hAa) ⟨mlT (mlT (mlT hv.1)), hv.2⟩ hL
      rw [e1]
      congr 2
      funext g
      refine mAV_put (sI_off σ kd j _ _) ?_
      unfold mAV
      simp only []
      rw [gI_sI, if_pos ⟨rfl, rfl, rfl⟩]
      rfl
    · rename_i ln hkt
      obtain ⟨hin, h⟩ := mG_some h
      intro ad H locs ls hW hS hv hL
      have hj : j < gN σ kd := mlH (mlT (mlT hv.1))
      have hek : (0 : Nat) ≠ 1 := by decide
      obtain ⟨hcase, hnl, hl0, h97, hl⟩ := KT_arr hkt
      have hsp := (hcase.resolve_left (fun h => hek h.1)).2
      have hAa : A (ad kd j) := (hW.2.2.1 kd j (Or.inl ⟨Nat.lt_of_lt_of_le (mAt_lt (hW.1 kd j hj)) (by omega), hsp.1, hsp.2.1, hsp.2.2, hj⟩)).1
      obtain ⟨cA, g1, g2, g3⟩ := (mAt_arr hkt hek).mp (hW.1 kd j hj)
      refine W.bast hx hb g3 (g1 _ _) (fun q => by cases q) (arr_in hin) rfl rfl hd fun H1 e1 e2 e3 => ?_
      rw [arrV_store] at e1
      refine hk _ h ad H1 _ ls (mWd_upd hW hsp hj hnl (sI_same σ kd j _ _) (fun _ => rfl) hW.2.2.2.1 e2 e3 ((mAt_arr hkt hek).mpr ⟨cA, g1, g2, ?_⟩)) (hS.put e2 e3 hAa) ⟨mlT (mlT (mlT hv.1)), hv.2⟩ hL
      rw [e1]
      congr 2
      funext g
      refine mAV_put (sI_off σ kd j _ _) ?_
      unfold mAV
      simp only []
      rw [gI_sI, if_pos ⟨rfl, rfl, rfl⟩]
      rfl
    · cases h
  · cases h
theorem s_castore (hx : p.tables.exec = Jvm.exec) (hb : c.code = cc) {P : MP} {pc : Nat} {tg : List Nat} {L : List (Option MV)} {S : List MV} {σ : MSto} {c1 s1 : Nat} {k : MK} {r : MST} (hA : ∀ q, s.heap.size ≤ q → A q) (hd : decode cc pc = .ok (.castore, 1)) (hk : ∀ st, k st = some r → mWP p l e R s m args below meth c Q nL D A eb tL tB ad0 σ0 c0 s0 st) (h : x_castore KT P  (pc + 1) pc tg L S σ c1 s1 k = some r) : mWP p l e R s m args below meth c Q nL D A eb tL tB ad0 σ0 c0 s0 (pc, L, S, σ, c1, s1) := by
  unfold x_castore at h
  split at h
  · rename_i v x kd j rr
    split at h
    · rename_i ln hkt
      obtain ⟨hin, h⟩ := mG_some h
      intro ad H locs ls hW hS hv hL
      have hj : j < gN σ kd := mlH (mlT (mlT hv.1))
      have hek : (0 : Nat) ≠ 1 := by decide
      obtain ⟨hcase, hnl, hl0, h97, hl⟩ := KT_arr hkt
      have hsp := (hcase.resolve_left (fun h => hek h.1)).2
      have hAa : A (ad kd j) := (hW.2.2.1 kd j (Or.inl ⟨Nat.lt_of_lt_of_le (mAt_lt (hW.1 kd j hj)) (by omega), hsp.1, hsp.2.1, hsp.2.2, hj⟩)).1
      obtain ⟨cA, g1, g2, g3⟩ := (mAt_arr hkt hek).mp (hW.1 kd j hj)
      refine W.cast hx hb g3 (g1 _ _) (fun q => by cases q) (arr_in hin) rfl rfl hd fun H1 e1 e2 e3 => ?_
      rw [arrV_store] at e1
      refine hk _ h ad H1 _ ls (mWd_upd hW hsp hj hnl (sI_same σ kd j _ _) (fun _ => rfl) hW.2.2.2.1 e2 e3 ((mAt_arr hkt hek).mpr ⟨cA, g1, g2, ?_⟩)) (hS.put e2 e3 hAa) ⟨mlT (mlT (mlT hv.1)), hv.2⟩ hL
      rw [e1]
      congr 2
      funext g
      refine mAV_put (sI_off σ kd j _ _) ?_
      unfold mAV
      simp only []
      rw [gI_sI, if_pos ⟨rfl, rfl, rfl⟩]
      rfl
    · cases h
  · cases h
theorem s_lastore (hx : p.tables.exec = Jvm.exec) (hb : c.code = cc) {P : MP} {pc : Nat} {tg : List Nat} {L : List (Option MV)} {S : List MV} {σ : MSto} {c1 s1 : Nat} {k : MK} {r : MST} (hA : ∀ q, s.heap.size ≤ q → A q) (hd : decode cc pc = .ok (.lastore, 1)) (hk : ∀ st, k st = some r → mWP p l e R s m args below meth c Q nL D A eb tL tB ad0 σ0 c0 s0 st) (h : x_lastore KT P  (pc + 1) pc tg L S σ c1 s1 k = some r) : mWP p l e R s m args below meth c Q nL D A eb tL tB ad0 σ0 c0 s0 (pc, L, S, σ, c1, s1) := by
  unfold x_lastore at h
  split at h
  · rename_i v x kd j rr
    split at h
    · rename_i ln hkt
      obtain ⟨hin, h⟩ := mG_some h
      intro ad H locs ls hW hS hv hL
      have hj : j < gN σ kd := mlH (mlT (mlT hv.1))
      have hek : (0 : Nat) ≠ 1 := by decide
      obtain ⟨hcase, hnl, hl0, h97, hl⟩ := KT_arr hkt
      have hsp := (hcase.resolve_left (fun h => hek h.1)).2
      have hAa : A (ad kd j) := (hW.2.2.1 kd j (Or.inl ⟨Nat.lt_of_lt_of_le (mAt_lt (hW.1 kd j hj)) (by omega), hsp.1, hsp.2.1, hsp.2.2, hj⟩)).1
      obtain ⟨cA, g1, g2, g3⟩ := (mAt_arr hkt hek).mp (hW.1 kd j hj)
      refine W.last hx hb g3 (g1 _ _) (fun q => by cases q) (arr_in hin) rfl rfl hd fun H1 e1 e2 e3 => ?_
      rw [arrV_store] at e1
      refine hk _ h ad H1 _ ls (mWd_upd hW hsp hj hnl (sJ_same σ kd j _ _) (fun _ => rfl) hW.2.2.2.1 e2 e3 ((mAt_arr hkt hek).mpr ⟨cA, g1, g2, ?_⟩)) (hS.put e2 e3 hAa) ⟨mlT (mlT (mlT hv.1)), hv.2⟩ hL
      rw [e1]
      congr 2
      funext g
      refine mAV_put (sJ_off σ kd j _ _) ?_
      unfold mAV
      simp only []
      rw [gJ_sJ, if_pos ⟨rfl, rfl, rfl⟩]
      try rfl
    · cases h
  · cases h
theorem s_aastore (hx : p.tables.exec = Jvm.exec) (hb : c.code = cc) {P : MP} {pc : Nat} {tg : List Nat} {L : List (Option MV)} {S : List MV} {σ : MSto} {c1 s1 : Nat} {k : MK} {r : MST} (hK : va_K D mCl [] s) (hcls : ∀ kd C ln ek, KT kd = some (.inr (.object C, ln, ek)) → ∃ (ci : Nat) (fs : List Nat) (T : u_T), KT ek = some (.inl (ci, fs)) ∧ ci ≠ 0 ∧ mCl[ci]? = some (C, T, fs.length)) (hA : ∀ q, s.heap.size ≤ q → A q) (hd : decode cc pc = .ok (.aastore, 1)) (hk : ∀ st, k st = some r → mWP p l e R s m args below meth c Q nL D A eb tL tB ad0 σ0 c0 s0 st) (h : x_aastore KT P  (pc + 1) pc tg L S σ c1 s1 k = some r) : mWP p l e R s m args below meth c Q nL D A eb tL tB ad0 σ0 c0 s0 (pc, L, S, σ, c1, s1) := by
  unfold x_aastore at h
  split at h
  · rename_i kv v x kd j rr
    split at h
    · rename_i C ln ek hkt
      cases hkv : Nat.beq ek kv with
      | false => rw [hkv] at h; cases h
      | true =>
        rw [hkv] at h
        have hkv := Nat.eq_of_beq_eq_true hkv
        subst hkv
        simp only [cond_true] at h
        obtain ⟨hin, h⟩ := mG_some h
        intro ad H locs ls hW hS hv hL
        have hj : j < gN σ kd := mlH (mlT (mlT hv.1))
        have hvl : v < gN σ ek := mlH hv.1
        have hek : ek ≠ 1 := fun e => by
          have := (KT_arr hkt).1.resolve_right (fun h => h.1 e)
          cases this.2.2
        obtain ⟨hcase, hnl, hl0, h97, hl⟩ := KT_arr hkt
        have hsp := (hcase.resolve_left (fun h => hek h.1)).2
        have hAa : A (ad kd j) := (hW.2.2.1 kd j (Or.inl ⟨Nat.lt_of_lt_of_le (mAt_lt (hW.1 kd j hj)) (by omega), hsp.1, hsp.2.1, hsp.2.2, hj⟩)).1
        obtain ⟨cA, g1, g2, g3⟩ := (mAt_arr hkt hek).mp (hW.1 kd j hj)
        obtain ⟨ci, fs, T, c1', c2', c3'⟩ := hcls kd C ln ek hkt
        obtain ⟨rv, v1, v2, cellV, v3, v4, v5, v6⟩ := (mAt_obj c1' c2').mp (hW.1 ek v hvl)
        have hcl := (hK.1 ci _ c3').2
        have g2k := g2
        obtain ⟨kA, comp, k1, k2, k3, -⟩ := g2
        have hcomp : comp = D.1 ci := Option.some.inj (k3.symm.trans hcl.1)
        subst hcomp
        obtain ⟨kC, hkC, -⟩ := hcl.2
        have hlt := vp_in_lt hin
        refine W.aast hx hb g3 (fun q h => by cases h) (fun h => by cases h) k1 k2 rfl hkC ⟨fun q => hin (Or.inl q), by show _ < (arrV _ _ _).slots.size; rw [arrV_size]; exact hlt⟩ v3 (fun q h => by rw [v5] at h; cases h) (by rw [v4]; exact hkC) (by rw [v4]; exact va_assign hcl) rfl rfl hd fun H1 e1 e2 e3 => ?_
        rw [arrV_store] at e1
        have hmt : ∀ f, mTg kd f = ek := by
          intro f
          unfold mTg
          rw [hkt]
        refine hk _ h ad H1 _ ls (mWd_upd hW hsp hj hnl (sR_same σ kd j _ _) (fun _ => rfl) (mClosed_sR hW.2.2.2.1 (by rw [hmt]; exact hvl)) e2 e3 ((mAt_arr hkt hek).mpr ⟨cA, g1, g2k, ?_⟩)) (hS.put e2 e3 hAa) ⟨mlT (mlT (mlT hv.1)), hv.2⟩ hL
        rw [e1]
        congr 2
        funext g
        refine mAV_put (sR_off σ kd j _ _) ?_
        unfold mAV
        simp only []
        rw [gR_sR, if_pos ⟨rfl, rfl, rfl⟩]
        rfl
    · cases h
  · cases h
theorem s_arraylength (hx : p.tables.exec = Jvm.exec) (hb : c.code = cc) {P : MP} {pc : Nat} {tg : List Nat} {L : List (Option MV)} {S : List MV} {σ : MSto} {c1 s1 : Nat} {k : MK} {r : MST}  (hd : decode cc pc = .ok (.arraylength, 1)) (hk : ∀ st, k st = some r → mWP p l e R s m args below meth c Q nL D A eb tL tB ad0 σ0 c0 s0 st) (h : x_arraylength KT P  (pc + 1) pc tg L S σ c1 s1 k = some r) : mWP p l e R s m args below meth c Q nL D A eb tL tB ad0 σ0 c0 s0 (pc, L, S, σ, c1, s1) := by
  unfold x_arraylength at h
  split at h
  · rename_i kd j rr
    split at h
    · rename_i ty ln ek hkt
      intro ad H locs ls hW hS hv hL
      have hj : j < gN σ kd := mlH hv.1
      have hat := hW.1 kd j hj
      have hg := hk _ h ad H locs ls hW hS ⟨mlI _ (mlT hv.1), hv.2⟩ hL
      obtain ⟨hcase, hnl, hl0, h97, hl⟩ := KT_arr hkt
      by_cases hek : ek = 1
      · have hsp := (hcase.resolve_right (fun h => h.1 hek)).2.1
        unfold mAt at hat
        rw [hkt] at hat
        simp only [] at hat
        by_cases h7 : kd = 97
        · rw [if_pos h7] at hat
          obtain ⟨Ls, g1, g2, ⟨scr, f1, f2, f3, f4, f5⟩, g4⟩ := hat
          have hln : mLen σ ln = Ls := by
            rw [h97 h7]
            show (gI σ 97 1 0).toNatClampNeg = Ls
            rw [g1, nI_clamp g2]
          rw [hln] at hg
          exact W.alen hx hb f1 f2 (by rw [f4]) rfl rfl hd hg
        · rw [if_neg h7, if_pos (by rcases hsp with h | h | h; exact Or.inl h; exact Or.inr h; exact absurd h h7)] at hat
          obtain ⟨cell, f1, f2, f3, f4, f5, f6, f7⟩ := hat
          have hln : mLen σ ln = ln := by
            cases ln with
            | zero => exact absurd (hl0 rfl) h7
            | succ n => rfl
          rw [hln] at hg
          exact W.alen hx hb f1 f2 f5 rfl rfl hd hg
      · have hln : mLen σ ln = ln := by
          cases ln with
          | zero => exact absurd (hl0 rfl) (hcase.resolve_left (fun h => hek h.1)).2.2.2
          | succ n => rfl
        rw [hln] at hg
        obtain ⟨cA, g1, g2, g3⟩ := (mAt_arr hkt hek).mp hat
        exact W.alen hx hb g3 (g1 _ _) (by rw [arrV_size]) rfl rfl hd hg
    · cases h
  · cases h
end SIM
