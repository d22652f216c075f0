/-! curve -/
def cuP (s t : MSto) (i : Nat) (ys vs : Nat → Nat) : Prop := (∀ j, j < i → gI s 36 0 j = nI (ys j) ∧ gI s 37 0 j = nI (vs j) ∧ gI t 79 0 j = nI (ys j) ∧ gI t 80 0 j = nI (vs j) ∧ ys j < 200 ∧ vs j < 1000) ∧ ∀ j, j + 1 < i → ys j < ys (j + 1)
theorem rR_w {tx : Nat → Nat} {Z E p : Nat} {s t s' t' : MSto} {W V : List Nat} (h : rR tx Z E p s t) (hs : agO W s s') (ht : agO V t t') (hW : nW W [10000, 10002, 10003, 10004, 10005, 33000] = true) (hV : nW V [13000, 13054, 13055, 13056, 13057, 77000] = true) : rR tx Z E p s' t' := by
  obtain ⟨⟨c1, c2, c3, c4, c5⟩, ⟨m1, m2, m3, m4, m5⟩, hp, h4, h56, h2, h55⟩ := h
  have fs : ∀ f, W.contains (1000 * 10 + 1 + f) = false → gI s' 10 0 f = gI s 10 0 f := fun f hf => hs.i (inW_fld (nW_no hW (by decide)) hf)
  have ft : ∀ f, V.contains (1000 * 13 + 1 + f) = false → gI t' 13 0 f = gI t 13 0 f := fun f hf => ht.i (inW_fld (nW_no hV (by decide)) hf)
  have a33 : ∀ j, gI s' 33 0 j = gI s 33 0 j := fun j => hs.i (inW_arr rfl (nW_no hW (by decide)))
  have a77 : ∀ j, gI t' 77 0 j = gI t 77 0 j := fun j => ht.i (inW_arr rfl (nW_no hV (by decide)))
  have x1 := fs 1 (nW_no hW (by decide))
  have x2 := fs 2 (nW_no hW (by decide))
  have x3 := fs 3 (nW_no hW (by decide))
  have x4 := fs 4 (nW_no hW (by decide))
  have y1 := ft 53 (nW_no hV (by decide))
  have y2 := ft 54 (nW_no hV (by decide))
  have y3 := ft 55 (nW_no hV (by decide))
  have y4 := ft 56 (nW_no hV (by decide))
  exact ⟨⟨x1.trans c1, x3.trans c2, c3, c4, fun j hj => ⟨(a33 j).trans (c5 j hj).1, (c5 j hj).2⟩⟩, ⟨y1.trans m1, y2.trans m2, m3, m4, fun j hj => ⟨(a77 j).trans (m5 j hj).1, (m5 j hj).2⟩⟩, hp, x4.trans h4, y4.trans h56, x2.trans h2, y3.trans h55⟩
theorem cW_w {tx : Nat → Nat} {Z B w : Nat} {s s' : MSto} {W : List Nat} (h : cW tx Z B w s) (hs : agO W s s') (hW : nW W [10000, 10002, 10003, 10004, 10005, 33000] = true) : cW tx Z B w s' := by
  obtain ⟨⟨c1, c2, c3, c4, c5⟩, hw, h4, p, hp, h2⟩ := h
  have fs : ∀ f, W.contains (1000 * 10 + 1 + f) = false → gI s' 10 0 f = gI s 10 0 f := fun f hf => hs.i (inW_fld (nW_no hW (by decide)) hf)
  have a33 : ∀ j, gI s' 33 0 j = gI s 33 0 j := fun j => hs.i (inW_arr rfl (nW_no hW (by decide)))
  have x1 := fs 1 (nW_no hW (by decide))
  have x2 := fs 2 (nW_no hW (by decide))
  have x3 := fs 3 (nW_no hW (by decide))
  have x4 := fs 4 (nW_no hW (by decide))
  exact ⟨⟨x1.trans c1, x3.trans c2, c3, c4, fun j hj => ⟨(a33 j).trans (c5 j hj).1, (c5 j hj).2⟩⟩, hw, x4.trans h4, p, hp, x2.trans h2⟩
theorem mW_w {tx : Nat → Nat} {Z E w : Nat} {t t' : MSto} {V : List Nat} (h : mW' tx Z E w t) (ht : agO V t t') (hV : nW V [13000, 13054, 13055, 13056, 13057, 77000] = true) : mW' tx Z E w t' := by
  obtain ⟨⟨m1, m2, m3, m4, m5⟩, h56, p, hp, h55⟩ := h
  have ft : ∀ f, V.contains (1000 * 13 + 1 + f) = false → gI t' 13 0 f = gI t 13 0 f := fun f hf => ht.i (inW_fld (nW_no hV (by decide)) hf)
  have a77 : ∀ j, gI t' 77 0 j = gI t 77 0 j := fun j => ht.i (inW_arr rfl (nW_no hV (by decide)))
  have y1 := ft 53 (nW_no hV (by decide))
  have y2 := ft 54 (nW_no hV (by decide))
  have y3 := ft 55 (nW_no hV (by decide))
  have y4 := ft 56 (nW_no hV (by decide))
  exact ⟨⟨y1.trans m1, y2.trans m2, m3, m4, fun j hj => ⟨(a77 j).trans (m5 j hj).1, (m5 j hj).2⟩⟩, y4.trans h56, p, hp, y3.trans h55⟩
noncomputable def cuM (i : Nat) (y0 : Int32) (t : MSto) : MSto := sI (e_M_number 0 999 (e_M_need 58 (sI (e_M_number y0 199 t) 79 0 i (v_M_number y0 199 t)))) 80 0 i (v_M_number 0 999 (e_M_need 58 (sI (e_M_number y0 199 t) 79 0 i (v_M_number y0 199 t))))
noncomputable def cuC (i : Nat) (x4 : Int32) (s : MSto) : MSto := sI (e_Te_number 999 (sI (e_Te_pass 58 s) 36 0 i x4)) 37 0 i (v_Te_number 999 (sI (e_Te_pass 58 s) 36 0 i x4))
/-- from behind the year to behind the value -/
theorem cu_in {tx : Nat → Nat} {Z p i v : Nat} {s t : MSto} {ys vs : Nat → Nat} (hi : i < 20) (hR : rR tx Z 60 p s t) (hP : cuP s t i ys vs) (hv : v < 200) (hlow : ∀ j, j + 1 = i → ys j < v) (e79 : gI t 79 0 i = nI v) : (p_Te_pass 58 s ∧ p_Te_number 999 (sI (e_Te_pass 58 s) 36 0 i (nI v))) ∧ (p_M_need 58 t ∧ p_M_number 0 999 (e_M_need 58 t)) ∧ ((∃ p' vs', p + 2 ≤ p' ∧ rR tx Z 60 p' (cuC i (nI v) s) (sI (e_M_number 0 999 (e_M_need 58 t)) 80 0 i (v_M_number 0 999 (e_M_need 58 t))) ∧ cuP (cuC i (nI v) s) (sI (e_M_number 0 999 (e_M_need 58 t)) 80 0 i (v_M_number 0 999 (e_M_need 58 t))) (i + 1) (fun j => if j = i then v else ys j) vs') ∨ ∃ w, cW tx Z (min Z 60) w (cuC i (nI v) s) ∧ mW' tx Z 60 w (sI (e_M_number 0 999 (e_M_need 58 t)) 80 0 i (v_M_number 0 999 (e_M_need 58 t)))) := by
  obtain ⟨p1, p2, q⟩ := R_pass hR (c := 58) (by decide)
  have p1 : p_Te_pass 58 s := p1
  have p2 : p_M_need 58 t := p2
  unfold cuC
  rcases q with r | ⟨w, w1, w2⟩
  · have r : rR tx Z 60 (p + 1) (e_Te_pass 58 s) (e_M_need 58 t) := r
    have r' : rR tx Z 60 (p + 1) (sI (e_Te_pass 58 s) 36 0 i (nI v)) (e_M_need 58 t) := rR_w (W := [36000]) (V := []) r (agO_sI rfl (agO_refl _ _)) (agO_refl _ _) rfl rfl
    obtain ⟨n1, n2, q2⟩ := R_num r' (low := 0) (high := 999) (by decide) (by decide)
    have n1 : p_Te_number 999 (sI (e_Te_pass 58 s) 36 0 i (nI v)) := n1
    have n2 : p_M_number 0 999 (e_M_need 58 t) := n2
    refine ⟨⟨p1, n1⟩, ⟨p2, n2⟩, ?_⟩
    rcases q2 with ⟨x, k, hk, -, hx, e1, e2, r2⟩ | ⟨x, w, hx, e1, w1, w2⟩
    · left
      have e1 : v_Te_number 999 (sI (e_Te_pass 58 s) 36 0 i (nI v)) = nI x := e1
      have e2 : v_M_number 0 999 (e_M_need 58 t) = nI x := e2
      have r2 : rR tx Z 60 (p + 1 + k) (e_Te_number 999 (sI (e_Te_pass 58 s) 36 0 i (nI v))) (e_M_number 0 999 (e_M_need 58 t)) := r2
      rw [e1, e2]
      refine ⟨p + 1 + k, fun j => if j = i then x else vs j, by omega, rR_w (W := [37000]) (V := [80000]) r2 (agO_sI rfl (agO_refl _ _)) (agO_sI rfl (agO_refl _ _)) rfl rfl, fun j hj => ?_, fun j hj => ?_⟩
      · have wC := ((w_Te_pass 58 s).mono (W := [10003, 10005, 36000]) rfl)
        have wC2 : agO [10003, 10005, 36000] s (sI (e_Te_pass 58 s) 36 0 i (nI v)) := agO_sI rfl wC
        have wC3 := wC2.step (w_Te_number 999 _) rfl
        have wM := (w_M_need 58 t).step (w_M_number 0 999 _) rfl
        have a36 : gI (e_Te_number 999 (sI (e_Te_pass 58 s) 36 0 i (nI v))) 36 0 j = if j = i then nI v else gI s 36 0 j := by
          rw [(w_Te_number 999 (sI (e_Te_pass 58 s) 36 0 i (nI v))).i rfl, gI_at, (w_Te_pass 58 s).i rfl]
        have a37 : gI (sI (e_Te_number 999 (sI (e_Te_pass 58 s) 36 0 i (nI v))) 37 0 i (nI x)) 37 0 j = if j = i then nI x else gI s 37 0 j := by
          rw [gI_at, wC3.i rfl]
        have a80 : gI (sI (e_M_number 0 999 (e_M_need 58 t)) 80 0 i (nI x)) 80 0 j = if j = i then nI x else gI t 80 0 j := by
          rw [gI_at, wM.i rfl]
        have a79 : gI (sI (e_M_number 0 999 (e_M_need 58 t)) 80 0 i (nI x)) 79 0 j = gI t 79 0 j := by
          rw [gI_sI, if_neg (fun z => absurd z.1 (by decide)), wM.i rfl]
        rw [a37, a80, a79, gI_sI, if_neg (fun z => absurd z.1 (by decide)), a36]
        by_cases e : j = i
        · subst e
          simp only [if_pos]
          exact ⟨trivial, trivial, e79, trivial, hv, by omega⟩
        · simp only [if_neg e]
          exact hP.1 j (by omega)
      · show (if j = i then v else ys j) < (if j + 1 = i then v else ys (j + 1))
        rw [if_neg (by omega)]
        by_cases e : j + 1 = i
        · rw [if_pos e]; exact hlow j e
        · rw [if_neg e]; exact hP.2 j (by omega)
    · right
      have w1 : cW tx Z (min Z 60) w (if x < 0 then e_Te_failAtLastDigit (e_Te_number 999 (sI (e_Te_pass 58 s) 36 0 i (nI v))) else e_Te_number 999 (sI (e_Te_pass 58 s) 36 0 i (nI v))) := w1
      rw [if_neg (by omega)] at w1
      have w2 : mW' tx Z 60 w (e_M_number 0 999 (e_M_need 58 t)) := w2
      exact ⟨w, cW_w (W := [37000]) w1 (agO_sI rfl (agO_refl _ _)) rfl, mW_w (V := [80000]) w2 (agO_sI rfl (agO_refl _ _)) rfl⟩
  · have w1 : cW tx Z (min Z 60) w (e_Te_pass 58 s) := w1
    have w2 : mW' tx Z 60 w (e_M_need 58 t) := w2
    have w1' : cW tx Z (min Z 60) w (sI (e_Te_pass 58 s) 36 0 i (nI v)) := cW_w (W := [36000]) w1 (agO_sI rfl (agO_refl _ _)) rfl
    obtain ⟨n1, n2, -⟩ := cW_number w1' 999
    obtain ⟨-, -, -, n4, -⟩ := mW_id w2 w1.2.1
    obtain ⟨n5, n6, n7⟩ := n4 0 999
    refine ⟨⟨p1, n2⟩, ⟨p2, n7⟩, Or.inr ⟨w, cW_w (W := [37000]) n1 (agO_sI rfl (agO_refl _ _)) rfl, ?_⟩⟩
    rw [n5]
    exact mW_w (V := [80000]) w2 (agO_sI rfl (agO_refl _ _)) rfl
noncomputable def cuL (i : Nat) (t : MSto) : Int32 := if i = 0 then 0 else gI t 79 0 (i - 1) + 1
/-- one point -/
theorem cu_body {tx : Nat → Nat} {Z p i : Nat} {s t : MSto} {ys vs : Nat → Nat} (hi : i < 19) (hR : rR tx Z 60 p s t) (hP : cuP s t i ys vs) : ∃ σ1 v, tj_Cu_readPoints_4j44 (nI i) (nI v) σ1 (nI i, 1, s) = t_Cu_readPoints_4 (nI i, 1, s) ∧ (gj_Cu_readPoints_4j44 (nI i) (nI v) σ1 → g_Cu_readPoints_4 (nI i, 1, s)) ∧ (p_Te_pass 58 σ1 ∧ p_Te_number 999 (sI (e_Te_pass 58 σ1) 36 0 i (nI v))) ∧ (p_M_number (cuL i t) 199 t ∧ p_M_need 58 (sI (e_M_number (cuL i t) 199 t) 79 0 i (v_M_number (cuL i t) 199 t)) ∧ p_M_number 0 999 (e_M_need 58 (sI (e_M_number (cuL i t) 199 t) 79 0 i (v_M_number (cuL i t) 199 t)))) ∧ ((∃ p' ys' vs', p + 3 ≤ p' ∧ rR tx Z 60 p' (cuC i (nI v) σ1) (cuM i (cuL i t) t) ∧ cuP (cuC i (nI v) σ1) (cuM i (cuL i t) t) (i + 1) ys' vs') ∨ ∃ w, cW tx Z (min Z 60) w (cuC i (nI v) σ1) ∧ mW' tx Z 60 w (cuM i (cuL i t) t)) := by
  obtain ⟨low, el, hl, hlj⟩ : ∃ low, cuL i t = nI low ∧ low ≤ 200 ∧ (i = 0 → low = 0) ∧ (∀ j, j + 1 = i → low = ys j + 1) := by
    unfold cuL
    by_cases e : i = 0
    · refine ⟨0, by rw [if_pos e]; rfl, by omega, fun _ => rfl, fun j hj => by omega⟩
    · obtain ⟨-, -, a, -, b, -⟩ := hP.1 (i - 1) (by omega)
      refine ⟨ys (i - 1) + 1, by rw [if_neg e, a, nI_s], by omega, fun q => absurd q e, fun j hj => ?_⟩
      rw [show i - 1 = j by omega]
  obtain ⟨n1, n2, q⟩ := R_num hR (low := low) (high := 199) (by omega) (by decide)
  have n1 : p_Te_number 199 s := n1
  rw [el]
  have n2 : p_M_number (nI low) 199 t := n2
  -- how the class goes on
  have go : ∀ v, v < 1000 → v_Te_number 199 s = nI v → tj_Cu_readPoints_4j44 (nI i) (nI v) (if v < low then e_Te_failAtLastDigit (e_Te_number 199 s) else e_Te_number 199 s) (nI i, 1, s) = t_Cu_readPoints_4 (nI i, 1, s) ∧ (gj_Cu_readPoints_4j44 (nI i) (nI v) (if v < low then e_Te_failAtLastDigit (e_Te_number 199 s) else e_Te_number 199 s) → g_Cu_readPoints_4 (nI i, 1, s)) := by
    intro v hv ev
    have n20 : ¬ (20 : Int32) ≤ nI i := (show ¬ nI 20 ≤ nI i from nI_ge (by omega) (by decide))
    unfold t_Cu_readPoints_4 g_Cu_readPoints_4
    show _ = (if (1 : Int32) = 0 then _ else (if (20 : Int32) ≤ nI i then _ else (if nI i ≤ 0 then tj_Cu_readPoints_4j44 (nI i) (v_Te_number 199 s) (e_Te_number 199 s) (nI i, 1, s) else (if gI (e_Te_number 199 s) 36 0 (Int32.toNatClampNeg (nI i - 1)) < v_Te_number 199 s then tj_Cu_readPoints_4j44 (nI i) (v_Te_number 199 s) (e_Te_number 199 s) (nI i, 1, s) else tj_Cu_readPoints_4j44 (nI i) (v_Te_number 199 s) (e_Te_failAtLastDigit (e_Te_number 199 s)) (nI i, 1, s))))) ∧ (_ → ¬ (1 : Int32) = 0 → ¬ (20 : Int32) ≤ nI i → p_Te_number 199 s ∧ (nI i ≤ 0 → gj_Cu_readPoints_4j44 (nI i) (v_Te_number 199 s) (e_Te_number 199 s)) ∧ (¬ nI i ≤ 0 → vp_in (nI i - 1) 20 ∧ ((gI (e_Te_number 199 s) 36 0 (Int32.toNatClampNeg (nI i - 1)) < v_Te_number 199 s → gj_Cu_readPoints_4j44 (nI i) (v_Te_number 199 s) (e_Te_number 199 s)) ∧ (¬ gI (e_Te_number 199 s) 36 0 (Int32.toNatClampNeg (nI i - 1)) < v_Te_number 199 s → gj_Cu_readPoints_4j44 (nI i) (v_Te_number 199 s) (e_Te_failAtLastDigit (e_Te_number 199 s))))))
    rw [if_neg (show ¬ (1 : Int32) = 0 by decide), if_neg n20, ev]
    by_cases e : i = 0
    · have hlow := hlj.1 e
      have i0 : nI i ≤ 0 := by rw [e]; decide
      rw [if_pos i0, if_neg (show ¬ v < low by omega)]
      exact ⟨rfl, fun gg _ _ => ⟨n1, fun _ => gg, fun c => absurd i0 c⟩⟩
    · have hlow := hlj.2 (i - 1) (by omega)
      have i0 : ¬ nI i ≤ 0 := (show ¬ nI i ≤ nI 0 from nI_ge (by omega) (by omega))
      have ei : nI i - 1 = nI (i - 1) := pk_sub (b := 1) (by omega)
      obtain ⟨a, -, -, -, b, -⟩ := hP.1 (i - 1) (by omega)
      have a36 : gI (e_Te_number 199 s) 36 0 (i - 1) = nI (ys (i - 1)) := by rw [(w_Te_number 199 s).i rfl]; exact a
      rw [if_neg i0, ei, nI_cl (by omega), a36]
      have vp : vp_in (nI (i - 1)) 20 := nI_inb (by omega) (by decide)
      by_cases c : ys (i - 1) < v
      · have c' : nI (ys (i - 1)) < nI v := (ltN (by omega) (by omega)).mpr c
        rw [if_pos c', if_neg (show ¬ v < low by omega)]
        exact ⟨rfl, fun gg _ _ => ⟨n1, fun c2 => absurd c2 i0, fun _ => ⟨vp, fun _ => gg, fun c2 => absurd c' c2⟩⟩⟩
      · have c' : ¬ nI (ys (i - 1)) < nI v := fun z => c ((ltN (by omega) (by omega)).mp z)
        rw [if_neg c', if_pos (show v < low by omega)]
        exact ⟨rfl, fun gg _ _ => ⟨n1, fun c2 => absurd c2 i0, fun _ => ⟨vp, fun c2 => absurd c2 c', fun _ => gg⟩⟩⟩
  rcases q with ⟨v, k, hk, h1, h2, e1, e2, r⟩ | ⟨v, w, hv, e1, w1, w2⟩
  · have e1 : v_Te_number 199 s = nI v := e1
    have e2 : v_M_number (nI low) 199 t = nI v := e2
    have r : rR tx Z 60 (p + k) (e_Te_number 199 s) (e_M_number (nI low) 199 t) := r
    obtain ⟨g1, g2⟩ := go v (by omega) e1
    rw [if_neg (show ¬ v < low by omega)] at g1 g2
    have r' : rR tx Z 60 (p + k) (e_Te_number 199 s) (sI (e_M_number (nI low) 199 t) 79 0 i (nI v)) := rR_w (W := []) (V := [79000]) r (agO_refl _ _) (agO_sI rfl (agO_refl _ _)) rfl rfl
    have hP' : cuP (e_Te_number 199 s) (sI (e_M_number (nI low) 199 t) 79 0 i (nI v)) i ys vs := by
      refine ⟨fun j hj => ?_, hP.2⟩
      rw [(w_Te_number 199 s).i rfl, (w_Te_number 199 s).i rfl, gI_at2 _ _ _ _ _ (by omega), gI_sI, if_neg (fun z => absurd z.1 (by decide)), (w_M_number (nI low) 199 t).i rfl, (w_M_number (nI low) 199 t).i rfl]
      exact hP.1 j hj
    obtain ⟨c1, ⟨c2, c3⟩, c4⟩ := cu_in (v := v) (by omega) r' hP' (by omega) (fun j hj => by have := hlj.2 j hj; omega) (gI_at1 _ _ _ _)
    refine ⟨e_Te_number 199 s, v, g1, g2, c1, ?_, ?_⟩
    · rw [e2]; exact ⟨n2, c2, c3⟩
    · unfold cuM
      rw [e2]
      rcases c4 with ⟨p', vs', h3, h4, h5⟩ | c4
      · exact Or.inl ⟨p', _, vs', by omega, h4, h5⟩
      · exact Or.inr c4
  · have e1 : v_Te_number 199 s = nI v := e1
    have w1 : cW tx Z (min Z 60) w (if v < low then e_Te_failAtLastDigit (e_Te_number 199 s) else e_Te_number 199 s) := w1
    have w2 : mW' tx Z 60 w (e_M_number (nI low) 199 t) := w2
    obtain ⟨g1, g2⟩ := go v hv e1
    generalize (if v < low then e_Te_failAtLastDigit (e_Te_number 199 s) else e_Te_number 199 s) = σ1 at g1 g2 w1
    obtain ⟨ps1, ps2⟩ := cW_pass w1 58
    have w1' : cW tx Z (min Z 60) w (sI (e_Te_pass 58 σ1) 36 0 i (nI v)) := by
      rw [ps1]; exact cW_w (W := [36000]) w1 (agO_sI rfl (agO_refl _ _)) rfl
    obtain ⟨k1, k2, -⟩ := cW_number w1' 999
    have w2' : ∀ x, mW' tx Z 60 w (sI (e_M_number (nI low) 199 t) 79 0 i x) := fun x => mW_w (V := [79000]) w2 (agO_sI rfl (agO_refl _ _)) rfl
    obtain ⟨-, m2, -, m4, -⟩ := mW_id (w2' (v_M_number (nI low) 199 t)) w1.2.1
    obtain ⟨m5, m6⟩ := m2 58
    obtain ⟨m7, m8, m9⟩ := m4 0 999
    refine ⟨σ1, v, g1, g2, ⟨ps2, k2⟩, ⟨n2, m6, by rw [m5]; exact m9⟩, Or.inr ⟨w, cW_w (W := [37000]) k1 (agO_sI rfl (agO_refl _ _)) rfl, ?_⟩⟩
    unfold cuM
    rw [m5, m7]
    exact mW_w (V := [80000]) (w2' _) (agO_sI rfl (agO_refl _ _)) rfl
/-- one turn of each reader -/
theorem cu_turn {tx : Nat → Nat} {Z p i : Nat} {s t : MSto} {ys vs : Nat → Nat} (hi : i < 19) (hR : rR tx Z 60 p s t) (hP : cuP s t i ys vs) : g_Cu_readPoints_4 (nI i, 1, s) ∧ g_M_curve_13 (nI i) t ∧ ¬ q_Cu_readPoints_4s (nI i, 1, s) = 1 ∧ ((∃ s' p' ys' vs', t_Cu_readPoints_4 (nI i, 1, s) = (nI (i + 1), 1, s') ∧ ¬ q_M_curve_13s (nI i) t = 1 ∧ p + 4 ≤ p' ∧ rR tx Z 60 p' s' (t_M_curve_13 (nI i) t) ∧ cuP s' (t_M_curve_13 (nI i) t) (i + 1) ys' vs') ∨ (q_M_curve_13s (nI i) t = 1 ∧ (p_M_number (cuL i t) 199 t ∧ p_M_need 58 (sI (e_M_number (cuL i t) 199 t) 79 0 i (v_M_number (cuL i t) 199 t)) ∧ p_M_number 0 999 (e_M_need 58 (sI (e_M_number (cuL i t) 199 t) 79 0 i (v_M_number (cuL i t) 199 t)))) ∧ (v_M_passes 59 (cuM i (cuL i t) t) = 0 ∧ e_M_passes 59 (cuM i (cuL i t) t) = cuM i (cuL i t) t ∧ p_M_passes 59 (cuM i (cuL i t) t)) ∧ ∃ s', t_Cu_readPoints_4 (nI i, 1, s) = (nI (i + 1), 0, s') ∧ ((∃ p' ys' vs', rR tx Z 60 p' s' (cuM i (cuL i t) t) ∧ cuP s' (cuM i (cuL i t) t) (i + 1) ys' vs') ∨ ∃ w, cW tx Z (min Z 60) w s' ∧ mW' tx Z 60 w (cuM i (cuL i t) t)))) := by
  obtain ⟨σ1, v, g1, g2, ⟨p1, p2⟩, ⟨p3, p4, p5⟩, o⟩ := cu_body hi hR hP
  have n20 : ¬ (20 : Int32) ≤ nI i := (show ¬ nI 20 ≤ nI i from nI_ge (by omega) (by decide))
  have qC : ¬ q_Cu_readPoints_4s (nI i, 1, s) = 1 := by
    unfold q_Cu_readPoints_4s
    show ¬ (if (1 : Int32) = 0 then 1 else (if (20 : Int32) ≤ nI i then 1 else 0)) = 1
    rw [if_neg (by decide), if_neg n20]; decide
  have vi : vp_in (nI i) 20 := nI_inb (by omega) (by decide)
  have vi6 : vp_in (nI i) 60 := nI_inb (by omega) (by decide)
  have eJ : tj_Cu_readPoints_4j44 (nI i) (nI v) σ1 (nI i, 1, s) = (nI (i + 1), v_Te_skip 59 (cuC i (nI v) σ1), e_Te_skip 59 (cuC i (nI v) σ1)) := by
    unfold tj_Cu_readPoints_4j44 tj_Cu_readPoints_4j71 cuC
    rw [nI_cl (by omega), nI_s]
  -- the reference
  have mT : t_M_curve_13 (nI i) t = (if v_M_passes 59 (cuM i (cuL i t) t) = 0 then t else e_M_passes 59 (cuM i (cuL i t) t)) ∧ (q_M_curve_13s (nI i) t = if v_M_passes 59 (cuM i (cuL i t) t) = 0 then 1 else 0) ∧ (p_M_passes 59 (cuM i (cuL i t) t) → g_M_curve_13 (nI i) t) := by
    unfold t_M_curve_13 q_M_curve_13s g_M_curve_13 tj_M_curve_13j37 qj_M_curve_13j37 gj_M_curve_13j37 tj_M_curve_13j64 qj_M_curve_13j64 gj_M_curve_13j64
    rw [nI_cl (i := i) (by omega)]
    by_cases e : i = 0
    · have i0 : nI i = 0 := by rw [e]; rfl
      have el : cuL i t = 0 := if_pos e
      rw [if_pos i0, if_pos i0]
      rw [el] at p3 p4 p5 ⊢
      exact ⟨rfl, rfl, fun pp => ⟨fun _ => ⟨p3, vi6, p4, p5, vi6, pp⟩, fun c => absurd i0 c⟩⟩
    · have i0 : ¬ nI i = 0 := fun c => e ((nI_eq (b := 0) (by omega) (by decide)).mp c)
      have ei : nI i - 1 = nI (i - 1) := pk_sub (b := 1) (by omega)
      have el : gI t 79 0 (i - 1) + 1 = cuL i t := (if_neg e).symm
      rw [if_neg i0, if_neg i0, ei, nI_cl (i := i - 1) (by omega), el]
      exact ⟨rfl, rfl, fun pp => ⟨fun c => absurd c i0, fun _ => ⟨nI_inb (by omega) (by decide), p3, vi6, p4, p5, vi6, pp⟩⟩⟩
  have gC : p_Te_skip 59 (cuC i (nI v) σ1) → g_Cu_readPoints_4 (nI i, 1, s) := fun pp => by
    refine g2 ?_
    unfold gj_Cu_readPoints_4j44 gj_Cu_readPoints_4j71
    rw [nI_cl (by omega)]
    exact ⟨p1, vi, p2, vi, pp⟩
  rcases o with ⟨p', ys', vs', hp', r, hP'⟩ | ⟨w, w1, w2⟩
  · obtain ⟨s1, s2, q⟩ := R_skip r (c := 59) (by decide)
    have s1 : p_Te_skip 59 (cuC i (nI v) σ1) := s1
    have s2 : p_M_passes 59 (cuM i (cuL i t) t) := s2
    refine ⟨gC s1, mT.2.2 s2, qC, ?_⟩
    rcases q with ⟨a, b, r2⟩ | ⟨a, b, e1, e2⟩
    · left
      have a : v_Te_skip 59 (cuC i (nI v) σ1) = 1 := a
      have b : v_M_passes 59 (cuM i (cuL i t) t) = 1 := b
      have r2 : rR tx Z 60 (p' + 1) (e_Te_skip 59 (cuC i (nI v) σ1)) (e_M_passes 59 (cuM i (cuL i t) t)) := r2
      rw [mT.1, mT.2.1, b, if_neg (by decide), if_neg (by decide), ← g1, eJ, a]
      refine ⟨_, p' + 1, ys', vs', rfl, by decide, by omega, r2, fun j hj => ?_, hP'.2⟩
      rw [(w_Te_skip 59 _).i rfl, (w_Te_skip 59 _).i rfl, (w_M_passes 59 _).i rfl, (w_M_passes 59 _).i rfl]
      exact hP'.1 j hj
    · right
      have a : v_Te_skip 59 (cuC i (nI v) σ1) = 0 := a
      have b : v_M_passes 59 (cuM i (cuL i t) t) = 0 := b
      have e1 : e_Te_skip 59 (cuC i (nI v) σ1) = cuC i (nI v) σ1 := e1
      have e2 : e_M_passes 59 (cuM i (cuL i t) t) = cuM i (cuL i t) t := e2
      rw [mT.2.1, b, if_pos rfl, ← g1, eJ, a, e1]
      exact ⟨rfl, ⟨p3, p4, p5⟩, ⟨rfl, e2, s2⟩, _, rfl, Or.inl ⟨p', ys', vs', r, hP'⟩⟩
  · obtain ⟨a, b, d⟩ := cW_skip w1 59
    obtain ⟨m1, -⟩ := mW_id w2 w1.2.1
    obtain ⟨m2, m3, m4⟩ := m1 59
    refine ⟨gC d, mT.2.2 m4, qC, Or.inr ?_⟩
    rw [mT.2.1, m2, if_pos rfl, ← g1, eJ, a, b]
    exact ⟨rfl, ⟨p3, p4, p5⟩, ⟨rfl, m3, m4⟩, _, rfl, Or.inr ⟨w, w1, w2⟩⟩

