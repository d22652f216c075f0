/-! story -/
theorem rd_beginX {σ τ : MSto} (h : kX σ τ) {E : Nat} (hE : E ≤ 80) : ∃ tx, rR tx (nM τ 49) E 0 (e_Te_begin (nI E) σ) (e_M_begin (nI E) τ) := by
  obtain ⟨x1, x2, x3⟩ := h
  have hZ := x2.2
  have ch : ∀ j, j < nM τ 49 → ∃ c, c < 256 ∧ gI σ 33 0 j = nI c := fun j hj => by
    obtain ⟨a, b, -⟩ := x3 j hj
    obtain ⟨c, e, hc⟩ := nat_rg (b := 255) ⟨a, b⟩ (by decide)
    exact ⟨c, by omega, e⟩
  have tx : ∀ j, ∃ c, j < nM τ 49 → c < 256 ∧ gI σ 33 0 j = nI c := fun j => by
    by_cases hj : j < nM τ 49
    · obtain ⟨c, h⟩ := ch j hj; exact ⟨c, fun _ => h⟩
    · exact ⟨0, fun q => absurd q hj⟩
  refine ⟨fun j => Classical.choose (tx j), ?_⟩
  have htx : ∀ j, j < nM τ 49 → Classical.choose (tx j) < 256 ∧ gI σ 33 0 j = nI (Classical.choose (tx j)) := fun j => Classical.choose_spec (tx j)
  have e10 : gI σ 10 0 1 = nI (nM τ 49) := x1.trans x2.1
  have mn : v_Ma_min (nI (nM τ 49)) (nI E) (sI σ 10 0 2 0) = nI (min (nM τ 49) E) := by
    unfold v_Ma_min
    by_cases g : E < nM τ 49
    · rw [if_pos ((ltN (by omega) (by omega)).mpr g)]; congr 1; omega
    · rw [if_neg (fun q => g ((ltN (by omega) (by omega)).mp q))]; congr 1; omega
  have b3 : gI (e_Te_begin (nI E) σ) 10 0 3 = v_Ma_min (gI σ 10 0 1) (nI E) (sI σ 10 0 2 0) := rfl
  refine ⟨⟨e10, ?_, by omega, hZ, fun j hj => ⟨(htx j hj).2, (htx j hj).1⟩⟩, ⟨x2.1, rfl, hE, hZ, fun j hj => ⟨?_, (htx j hj).1⟩⟩, by omega, rfl, rfl, rfl, rfl⟩
  · rw [b3, e10, mn]
  · show gI τ 77 0 j = _
    rw [(x3 j hj).2.2, (htx j hj).2]
theorem kX_0 {σ τ : MSto} (h1 : gI σ 10 0 1 = 0) (h2 : gI τ 13 0 49 = 0) : kX σ τ := by
  have n0 : nM τ 49 = 0 := by unfold nM; rw [h2]; rfl
  refine ⟨by rw [h1, h2], ⟨by rw [h2, n0]; rfl, by rw [n0]; decide⟩, fun j hj => ?_⟩
  rw [n0] at hj; exact absurd hj (by omega)
/-- a story that was not right: nothing of the others is touched -/
theorem st_keep {σ τ σf τf : MSto} (h : Cpl σ τ) (ws : agO [9000, 9001, 9002, 9003, 9004, 9005, 9006, 9007, 9008, 9009, 9999, 10002, 10003, 10004, 10005] σ σf) (wt : agO [13050, 13054, 13055, 13056, 13057, 52000, 53000, 54000, 55000, 56000, 57000, 58000] τ τf) (c9 : ∀ y f, y ≠ gN σ 9 → f < 9 → gI σf 9 y f = gI σ 9 y f) (mA : ∀ a x, 52 ≤ a ∧ a < 61 → x ≠ nM τ 17 → gI τf a 0 x = gI τ a 0 x) (hN : gN σ 9 ≤ gN σf 9) (h10 : gI σf 10 0 1 = 0) (h49 : gI τf 13 0 49 = 0) : Cpl σf τf := by
  have nS : nM τf 17 = nM τ 17 := nM_mv wt rfl
  have lt : ∀ x, x < nM τ 17 → eL σ 15 x ≠ gN σ 9 := fun x hx q => by have := (h.t.2.1 x hx).2.1; omega
  refine Cpl.upd h ws wt rfl (iM.upd h.m wt (Or.inl rfl) (Or.inl rfl) (Or.inl rfl) (Or.inl rfl) (Or.inl rfl) (Or.inl rfl) (Or.inl rfl) (Or.inl rfl) (Or.inr fun x hx => ?_) (Or.inl rfl) (Or.inl rfl) (Or.inl rfl) (Or.inl rfl) (Or.inl rfl)) (Or.inl rfl) (Or.inl rfl) (Or.inl rfl) (Or.inl rfl) (Or.inl rfl) (Or.inl rfl) (Or.inl rfl) (Or.inl rfl) (Or.inr ⟨?_, fun x hx => ?_, fun x y hx hy he => ?_⟩) (Or.inl rfl) (Or.inl rfl) (Or.inl rfl) (Or.inl rfl) (Or.inl rfl) (Or.inl rfl) (Or.inr (kX_0 h10 h49))
  · rw [nS] at hx
    have hx' : x ≠ nM τ 17 := by omega
    rw [mA 59 x (by omega) hx', mA 52 x (by omega) hx', mA 53 x (by omega) hx', mA 54 x (by omega) hx', mA 55 x (by omega) hx', mA 56 x (by omega) hx', mA 57 x (by omega) hx', mA 58 x (by omega) hx', mA 60 x (by omega) hx']
    exact h.m.t x hx
  · rw [ws.i rfl, wt.i rfl]; exact h.t.1
  · rw [nS] at hx
    have hx' : x ≠ nM τ 17 := by omega
    obtain ⟨b1, b2, b3⟩ := h.t.2.1 x hx
    have ne := lt x hx
    rw [eL_mv ws (k := 15) (i := x) rfl, ws.r (k := 15) rfl]
    refine ⟨b1, by omega, ?_⟩
    unfold kT1 at b3 ⊢
    rw [c9 _ 0 ne (by decide), c9 _ 1 ne (by decide), c9 _ 2 ne (by decide), c9 _ 3 ne (by decide), c9 _ 4 ne (by decide), c9 _ 5 ne (by decide), c9 _ 6 ne (by decide), c9 _ 7 ne (by decide), c9 _ 8 ne (by decide), mA 59 x (by omega) hx', mA 52 x (by omega) hx', mA 53 x (by omega) hx', mA 54 x (by omega) hx', mA 55 x (by omega) hx', mA 56 x (by omega) hx', mA 57 x (by omega) hx', mA 58 x (by omega) hx', mA 60 x (by omega) hx']
    exact b3
  · rw [nS] at hx hy
    rw [eL_mv ws (k := 15) (i := x) rfl, eL_mv ws (k := 15) (i := y) rfl] at he
    exact h.t.2.2 x y hx hy he
/-- a story that was right: one more -/
theorem st_more {σ τ σf τf : MSto} {kF : Nat} (h : Cpl σ τ) (hS : nM τ 17 < 6) (hk : kF < 32) (ws : agO [9000, 9001, 9002, 9003, 9004, 9005, 9006, 9007, 9008, 9009, 9999, 10002, 10003, 10004, 10005, 15000] σ σf) (wt : agO [13018, 13050, 13054, 13055, 13056, 13057, 52000, 53000, 54000, 55000, 56000, 57000, 58000, 59000, 60000] τ τf) (c9 : ∀ y f, y ≠ gN σ 9 → f < 9 → gI σf 9 y f = gI σ 9 y f) (mA : ∀ a x, 52 ≤ a ∧ a < 61 → x ≠ nM τ 17 → gI τf a 0 x = gI τ a 0 x) (hN : gN σf 9 = gN σ 9 + 1) (h10 : gI σf 10 0 1 = 0) (h49 : gI τf 13 0 49 = 0) (hl : gI σf 15 0 2 = nI (nM τ 17 + 1)) (hR : ∀ i, gR σf 15 0 i = if i = nM τ 17 then some (gN σ 9) else gR σ 15 0 i) (h17 : gI τf 13 0 17 = nI (nM τ 17 + 1)) (h59 : gI τf 59 0 (nM τ 17) = nI kF) (h60 : gI τf 60 0 (nM τ 17) = 1) (h0 : gI σf 9 (gN σ 9) 0 = nI kF) (hG : stG (gN σ 9) (nM τ 17) kF σf τf) : Cpl σf τf := by
  have nS : nM τf 17 = nM τ 17 + 1 := by
    unfold nM at h17 hS ⊢
    rw [h17, nI_cl (by omega)]
  have lt : ∀ x, x < nM τ 17 → eL σ 15 x ≠ gN σ 9 := fun x hx q => by have := (h.t.2.1 x hx).2.1; omega
  have eS : eL σf 15 (nM τ 17) = gN σ 9 := by
    unfold eL; rw [hR, if_pos rfl]; rfl
  have eO : ∀ x, x ≠ nM τ 17 → eL σf 15 x = eL σ 15 x := fun x hx => by
    unfold eL; rw [hR, if_neg hx]
  have an : ∀ m, m < 32 → (nI kF &&& nI m = 0 ↔ kF &&& m = 0) := fun m hm => by
    rw [fa_and]
    have : kF &&& m ≤ kF := Nat.and_le_left
    exact nI_eq (b := 0) (by omega) (by decide)
  have a1 : nI kF &&& 1 = 0 ↔ kF &&& 1 = 0 := an 1 (by decide)
  have a2 : nI kF &&& 2 = 0 ↔ kF &&& 2 = 0 := an 2 (by decide)
  have a4 : nI kF &&& 4 = 0 ↔ kF &&& 4 = 0 := an 4 (by decide)
  have a16 : nI kF &&& 16 = 0 ↔ kF &&& 16 = 0 := an 16 (by decide)
  obtain ⟨f1, f2, f3, f4, f5, f6, f7, f8, f9⟩ := hG
  have c := h.m.c
  refine Cpl.upd h ws wt rfl (iM.upd h.m wt (Or.inr ⟨cM_mv wt rfl c.1, cM_mv wt rfl c.2.1, cM_mv wt rfl c.2.2.1, ⟨by rw [nS]; exact h17, by omega⟩, cM_mv wt rfl c.2.2.2.2.1, cM_mv wt rfl c.2.2.2.2.2.1, ?_⟩) (Or.inl rfl) (Or.inl rfl) (Or.inl rfl) (Or.inl rfl) (Or.inl rfl) (Or.inl rfl) (Or.inl rfl) (Or.inr fun x hx => ?_) (Or.inl rfl) (Or.inl rfl) (Or.inl rfl) (Or.inr ⟨?_, fun x hx hb => ?_⟩) (Or.inl rfl)) (Or.inl rfl) (Or.inl rfl) (Or.inl rfl) (Or.inl rfl) (Or.inl rfl) (Or.inl rfl) (Or.inl rfl) (Or.inl rfl) (Or.inr ⟨?_, fun x hx => ?_, fun x y hx hy he => ?_⟩) (Or.inl rfl) (Or.inl rfl) (Or.inl rfl) (Or.inl rfl) (Or.inl rfl) (Or.inl rfl) (Or.inr (kX_0 h10 h49))
  · rw [wt.i rfl]; exact c.2.2.2.2.2.2
  · rw [nS] at hx
    by_cases e : x = nM τ 17
    · rw [e, h59, h60]
      refine ⟨rgN (b := 31) (by omega) (by decide), fun q => (f2 (fun z => q (a1.mpr z))).2, fun q => (f3 (fun z => q (a2.mpr z))).2, fun q => (f4 (fun z => q (a4.mpr z))).2, f5.2, f8, f9, ⟨by decide, by decide⟩⟩
    · rw [mA 59 x (by omega) e, mA 52 x (by omega) e, mA 53 x (by omega) e, mA 54 x (by omega) e, mA 55 x (by omega) e, mA 56 x (by omega) e, mA 57 x (by omega) e, mA 58 x (by omega) e, mA 60 x (by omega) e]
      exact h.m.t x (by omega)
  · rw [wt.i rfl]; exact h.m.w.1
  · rw [wt.i rfl] at hb
    obtain ⟨w1, w2⟩ := h.m.w.2 x hx hb
    rw [wt.i rfl, h17]
    rw [c.2.2.2.1.1] at w2
    exact ⟨w1, Int32.lt_trans w2 ((ltN (by omega) (by omega)).mpr (by omega))⟩
  · rw [hl, h17]
  · rw [nS] at hx
    by_cases e : x = nM τ 17
    · rw [e, eS, hR, if_pos rfl, hN]
      refine ⟨rfl, by omega, ?_⟩
      unfold kT1
      rw [h59, h60, h0]
      exact ⟨rfl, f1, fun q => (f2 (fun z => q (a1.mpr z))).1, fun q => (f3 (fun z => q (a2.mpr z))).1, fun q => (f4 (fun z => q (a4.mpr z))).1, f5.1, fun q => f6 (fun z => q (a16.mpr z)), fun q => f7 (a16.mp q)⟩
    · have hx2 : x < nM τ 17 := by omega
      obtain ⟨b1, b2, b3⟩ := h.t.2.1 x hx2
      have ne := lt x hx2
      rw [eO x e, hR, if_neg e, hN]
      refine ⟨b1, by omega, ?_⟩
      unfold kT1 at b3 ⊢
      rw [c9 _ 0 ne (by decide), c9 _ 1 ne (by decide), c9 _ 2 ne (by decide), c9 _ 3 ne (by decide), c9 _ 4 ne (by decide), c9 _ 5 ne (by decide), c9 _ 6 ne (by decide), c9 _ 7 ne (by decide), c9 _ 8 ne (by decide), mA 59 x (by omega) e, mA 52 x (by omega) e, mA 53 x (by omega) e, mA 54 x (by omega) e, mA 55 x (by omega) e, mA 56 x (by omega) e, mA 57 x (by omega) e, mA 58 x (by omega) e, mA 60 x (by omega) e]
      exact b3
  · rw [nS] at hx hy
    by_cases e : x = nM τ 17
    · by_cases e2 : y = nM τ 17
      · rw [e, e2]
      · rw [e, eS, eO y e2] at he
        exact absurd he.symm (lt y (by omega))
    · by_cases e2 : y = nM τ 17
      · rw [e2, eS, eO x e] at he
        exact absurd he (lt x (by omega))
      · rw [eO x e, eO y e2] at he
        exact h.t.2.2 x y (by omega) (by omega) he

