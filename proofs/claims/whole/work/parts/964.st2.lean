/-! story: a term, both -/
theorem st_bits : ∀ k, k < 32 → ((k ||| 1) &&& 2 = k &&& 2 ∧ (k ||| 1) &&& 4 = k &&& 4 ∧ (k ||| 1) &&& 16 = k &&& 16) ∧ ((k ||| 2) &&& 1 = k &&& 1 ∧ (k ||| 2) &&& 4 = k &&& 4 ∧ (k ||| 2) &&& 16 = k &&& 16) ∧ ((k ||| 4) &&& 1 = k &&& 1 ∧ (k ||| 4) &&& 2 = k &&& 2 ∧ (k ||| 4) &&& 16 = k &&& 16) ∧ ((k ||| 8) &&& 1 = k &&& 1 ∧ (k ||| 8) &&& 2 = k &&& 2 ∧ (k ||| 8) &&& 4 = k &&& 4 ∧ (k ||| 8) &&& 16 = k &&& 16) ∧ ((k ||| 16) &&& 1 = k &&& 1 ∧ (k ||| 16) &&& 2 = k &&& 2 ∧ (k ||| 16) &&& 4 = k &&& 4 ∧ ¬ (k ||| 16) &&& 16 = 0) := by decide +kernel
theorem st_num {tx : Nat → Nat} {Z E p : Nat} {s t : MSto} (h : rR tx Z E p s t) {hi : Nat} (hh : hi < 1000) : p_Te_number (nI hi) s ∧ p_M_number 0 (nI hi) t ∧ ((∃ v p', p < p' ∧ v ≤ hi ∧ v_Te_number (nI hi) s = nI v ∧ v_M_number 0 (nI hi) t = nI v ∧ rR tx Z E p' (e_Te_number (nI hi) s) (e_M_number 0 (nI hi) t)) ∨ ∃ w, cW tx Z (min Z E) w (e_Te_number (nI hi) s) ∧ mW' tx Z E w (e_M_number 0 (nI hi) t)) := by
  obtain ⟨n1, n2, o⟩ := R_num h (low := 0) (high := hi) (by omega) hh
  refine ⟨n1, n2, ?_⟩
  rcases o with ⟨v, k, hk, -, hv, e1, e2, r⟩ | ⟨v, w, hv, e1, w1, w2⟩
  · exact Or.inl ⟨v, p + k, by omega, hv, e1, e2, r⟩
  · rw [if_neg (by omega)] at w1
    exact Or.inr ⟨w, w1, w2⟩
theorem g9e {s : MSto} {q f : Nat} {v : Int32} : gI (sI s 9 q f v) 9 q f = v := by
  rw [gI_sI, if_pos ⟨rfl, rfl, rfl⟩]
theorem st_t1 {tx : Nat → Nat} {Z E p q S k : Nat} {s t : MSto} (hS : S < 6) (hk : k < 32) (hR : rR tx Z E p s t) (hG : stG q S k s t) : (gj_St_readTerm_j49 q 1 s ∧ p_M_term (nI S) 1 t) ∧ ((∃ p', p < p' ∧ rR tx Z E p' (ej_St_readTerm_j49 q 1 s) (e_M_term (nI S) 1 t) ∧ stG q S (k ||| 1) (ej_St_readTerm_j49 q 1 s) (e_M_term (nI S) 1 t)) ∨ ∃ w, cW tx Z (min Z E) w (ej_St_readTerm_j49 q 1 s) ∧ mW' tx Z E w (e_M_term (nI S) 1 t)) := by
  obtain ⟨n1, n2, o⟩ := st_num hR (hi := 199) (by decide)
  have n1 : p_Te_number 199 s := n1
  have n2 : p_M_number 0 199 t := n2
  have vS : vp_in (nI S) 6 := nI_inb hS (by decide)
  obtain ⟨⟨b1, b2, b3⟩, -⟩ := st_bits k hk
  unfold gj_St_readTerm_j49 p_M_term ej_St_readTerm_j49 e_M_term
  rw [if_pos rfl, if_pos rfl, nI_cl (by omega)]
  refine ⟨⟨⟨fun _ => n1, fun c => absurd rfl c⟩, ⟨fun _ => ⟨n2, vS⟩, fun c => absurd rfl c⟩⟩, ?_⟩
  rcases o with ⟨v, p', hp, hv, e1, e2, r⟩ | ⟨w, w1, w2⟩
  · left
    have e1 : v_Te_number 199 s = nI v := e1
    have e2 : v_M_number 0 199 t = nI v := e2
    have r : rR tx Z E p' (e_Te_number 199 s) (e_M_number 0 199 t) := r
    rw [e1, e2]
    refine ⟨p', hp, rR_w (W := [9003]) (V := [52000]) r (agO_sI rfl (agO_refl _ _)) (agO_sI rfl (agO_refl _ _)) rfl rfl, ?_⟩
    have wF : agO [9003, 10003, 10005] s (sI (e_Te_number 199 s) 9 q 2 (nI v)) := agO_sI rfl ((w_Te_number 199 s).mono rfl)
    have wM : agO [52000, 13056, 13057] t (sI (e_M_number 0 199 t) 52 0 S (nI v)) := agO_sI rfl ((w_M_number 0 199 t).mono rfl)
    obtain ⟨f1, f2, f3, f4, f5, f6, f7, f8, f9⟩ := hG
    unfold stG
    rw [wF.i (k := 9) (i := q) (j := 1) rfl, g9e, wF.i (k := 9) (i := q) (j := 3) rfl, wF.i (k := 9) (i := q) (j := 4) rfl, wF.i (k := 9) (i := q) (j := 5) rfl, wF.i (k := 9) (i := q) (j := 6) rfl, wF.i (k := 9) (i := q) (j := 7) rfl, wF.i (k := 9) (i := q) (j := 8) rfl, gI_at1, wM.i (k := 53) (i := 0) (j := S) rfl, wM.i (k := 54) (i := 0) (j := S) rfl, wM.i (k := 55) (i := 0) (j := S) rfl, wM.i (k := 56) (i := 0) (j := S) rfl, wM.i (k := 57) (i := 0) (j := S) rfl, wM.i (k := 58) (i := 0) (j := S) rfl, b1, b2, b3]
    exact ⟨f1, fun _ => ⟨rfl, rgN (b := 199) hv (by decide)⟩, f3, f4, f5, f6, f7, f8, f9⟩
  · right
    have w1 : cW tx Z (min Z E) w (e_Te_number 199 s) := w1
    have w2 : mW' tx Z E w (e_M_number 0 199 t) := w2
    exact ⟨w, cW_w (W := [9003]) w1 (agO_sI rfl (agO_refl _ _)) rfl, mW_w (V := [52000]) w2 (agO_sI rfl (agO_refl _ _)) rfl⟩
theorem st_t4 {tx : Nat → Nat} {Z E p q S k : Nat} {s t : MSto} (hS : S < 6) (hk : k < 32) (hR : rR tx Z E p s t) (hG : stG q S k s t) : (gj_St_readTerm_j49 q 4 s ∧ p_M_term (nI S) 4 t) ∧ ((∃ p', p < p' ∧ rR tx Z E p' (ej_St_readTerm_j49 q 4 s) (e_M_term (nI S) 4 t) ∧ stG q S (k ||| 4) (ej_St_readTerm_j49 q 4 s) (e_M_term (nI S) 4 t)) ∨ ∃ w, cW tx Z (min Z E) w (ej_St_readTerm_j49 q 4 s) ∧ mW' tx Z E w (e_M_term (nI S) 4 t)) := by
  obtain ⟨n1, n2, o⟩ := st_num hR (hi := 199) (by decide)
  have n1 : p_Te_number 199 s := n1
  have n2 : p_M_number 0 199 t := n2
  have vS : vp_in (nI S) 6 := nI_inb hS (by decide)
  obtain ⟨-, -, ⟨b1, b2, b3⟩, -⟩ := st_bits k hk
  have d1 : ¬ (4 : Int32) = 1 := by decide
  have d2 : ¬ (4 : Int32) = 2 := by decide
  have d3 : ¬ (4 : Int32) = 3 := by decide
  unfold gj_St_readTerm_j49 p_M_term ej_St_readTerm_j49 e_M_term
  rw [if_neg d1, if_pos rfl, if_neg d1, if_neg d2, if_neg d3, if_pos rfl, nI_cl (by omega)]
  refine ⟨⟨⟨fun c => absurd c d1, fun _ => ⟨fun _ => n1, fun c => absurd rfl c⟩⟩, ⟨fun c => absurd c d1, fun _ => ⟨fun c => absurd c d2, fun _ => ⟨fun c => absurd c d3, fun _ => ⟨fun _ => ⟨n2, vS⟩, fun c => absurd rfl c⟩⟩⟩⟩⟩, ?_⟩
  rcases o with ⟨v, p', hp, hv, e1, e2, r⟩ | ⟨w, w1, w2⟩
  · left
    have e1 : v_Te_number 199 s = nI v := e1
    have e2 : v_M_number 0 199 t = nI v := e2
    have r : rR tx Z E p' (e_Te_number 199 s) (e_M_number 0 199 t) := r
    rw [e1, e2]
    refine ⟨p', hp, rR_w (W := [9006]) (V := [55000]) r (agO_sI rfl (agO_refl _ _)) (agO_sI rfl (agO_refl _ _)) rfl rfl, ?_⟩
    have wF : agO [9006, 10003, 10005] s (sI (e_Te_number 199 s) 9 q 5 (nI v)) := agO_sI rfl ((w_Te_number 199 s).mono rfl)
    have wM : agO [55000, 13056, 13057] t (sI (e_M_number 0 199 t) 55 0 S (nI v)) := agO_sI rfl ((w_M_number 0 199 t).mono rfl)
    obtain ⟨f1, f2, f3, f4, f5, f6, f7, f8, f9⟩ := hG
    unfold stG
    rw [wF.i (k := 9) (i := q) (j := 1) rfl, wF.i (k := 9) (i := q) (j := 2) rfl, wF.i (k := 9) (i := q) (j := 3) rfl, wF.i (k := 9) (i := q) (j := 4) rfl, g9e, wF.i (k := 9) (i := q) (j := 6) rfl, wF.i (k := 9) (i := q) (j := 7) rfl, wF.i (k := 9) (i := q) (j := 8) rfl, wM.i (k := 52) (i := 0) (j := S) rfl, wM.i (k := 53) (i := 0) (j := S) rfl, wM.i (k := 54) (i := 0) (j := S) rfl, gI_at1, wM.i (k := 56) (i := 0) (j := S) rfl, wM.i (k := 57) (i := 0) (j := S) rfl, wM.i (k := 58) (i := 0) (j := S) rfl, b1, b2, b3]
    exact ⟨f1, f2, f3, fun _ => ⟨rfl, rgN (b := 199) hv (by decide)⟩, f5, f6, f7, f8, f9⟩
  · right
    have w1 : cW tx Z (min Z E) w (e_Te_number 199 s) := w1
    have w2 : mW' tx Z E w (e_M_number 0 199 t) := w2
    exact ⟨w, cW_w (W := [9006]) w1 (agO_sI rfl (agO_refl _ _)) rfl, mW_w (V := [55000]) w2 (agO_sI rfl (agO_refl _ _)) rfl⟩
theorem st_t8 {tx : Nat → Nat} {Z E p q S k : Nat} {s t : MSto} (hS : S < 6) (hk : k < 32) (hR : rR tx Z E p s t) (hG : stG q S k s t) : (gj_St_readTerm_j49 q 8 s ∧ p_M_term (nI S) 8 t) ∧ ((∃ p', p < p' ∧ rR tx Z E p' (ej_St_readTerm_j49 q 8 s) (e_M_term (nI S) 8 t) ∧ stG q S (k ||| 8) (ej_St_readTerm_j49 q 8 s) (e_M_term (nI S) 8 t)) ∨ ∃ w, cW tx Z (min Z E) w (ej_St_readTerm_j49 q 8 s) ∧ mW' tx Z E w (e_M_term (nI S) 8 t)) := by
  obtain ⟨n1, n2, o⟩ := R_signed hR
  have vS : vp_in (nI S) 6 := nI_inb hS (by decide)
  obtain ⟨-, -, -, ⟨b1, b2, b3, b4⟩, -⟩ := st_bits k hk
  have d1 : ¬ (8 : Int32) = 1 := by decide
  have d2 : ¬ (8 : Int32) = 2 := by decide
  have d3 : ¬ (8 : Int32) = 3 := by decide
  have d4 : ¬ (8 : Int32) = 4 := by decide
  have d5 : ¬ (8 : Int32) = 5 := by decide
  have d6 : ¬ (8 : Int32) = 6 := by decide
  have d7 : ¬ (8 : Int32) = 7 := by decide
  unfold gj_St_readTerm_j49 p_M_term ej_St_readTerm_j49 e_M_term
  rw [if_neg d1, if_neg d4, if_pos rfl, if_neg d1, if_neg d2, if_neg d3, if_neg d4, if_neg d5, if_neg d6, if_neg d7, if_pos rfl, nI_cl (by omega)]
  refine ⟨⟨⟨fun c => absurd c d1, fun _ => ⟨fun c => absurd c d4, fun _ => ⟨fun _ => n1, fun c => absurd rfl c⟩⟩⟩, ⟨fun c => absurd c d1, fun _ => ⟨fun c => absurd c d2, fun _ => ⟨fun c => absurd c d3, fun _ => ⟨fun c => absurd c d4, fun _ => ⟨fun c => absurd c d5, fun _ => ⟨fun c => absurd c d6, fun _ => ⟨fun c => absurd c d7, fun _ => ⟨fun _ => ⟨n2, vS⟩, fun c => absurd rfl c⟩⟩⟩⟩⟩⟩⟩⟩⟩, ?_⟩
  rcases o with ⟨x, p', hp, e1, e2, hv, r⟩ | ⟨w, w1, w2⟩
  · left
    have e1 : v_Te_signedNumber 99 s = x := e1
    have e2 : v_M_signed 99 t = x := e2
    have r : rR tx Z E p' (e_Te_signedNumber 99 s) (e_M_signed 99 t) := r
    rw [e1, e2]
    refine ⟨p', hp, rR_w (W := [9007]) (V := [56000]) r (agO_sI rfl (agO_refl _ _)) (agO_sI rfl (agO_refl _ _)) rfl rfl, ?_⟩
    have wF : agO [9007, 10003, 10005] s (sI (e_Te_signedNumber 99 s) 9 q 6 (x)) := agO_sI rfl ((w_Te_signedNumber 99 s).mono rfl)
    have wM : agO [56000, 13056, 13057] t (sI (e_M_signed 99 t) 56 0 S (x)) := agO_sI rfl ((w_M_signed 99 t).mono rfl)
    obtain ⟨f1, f2, f3, f4, f5, f6, f7, f8, f9⟩ := hG
    unfold stG
    rw [wF.i (k := 9) (i := q) (j := 1) rfl, wF.i (k := 9) (i := q) (j := 2) rfl, wF.i (k := 9) (i := q) (j := 3) rfl, wF.i (k := 9) (i := q) (j := 4) rfl, wF.i (k := 9) (i := q) (j := 5) rfl, g9e, wF.i (k := 9) (i := q) (j := 7) rfl, wF.i (k := 9) (i := q) (j := 8) rfl, wM.i (k := 52) (i := 0) (j := S) rfl, wM.i (k := 53) (i := 0) (j := S) rfl, wM.i (k := 54) (i := 0) (j := S) rfl, wM.i (k := 55) (i := 0) (j := S) rfl, gI_at1, wM.i (k := 57) (i := 0) (j := S) rfl, wM.i (k := 58) (i := 0) (j := S) rfl, b1, b2, b3, b4]
    exact ⟨f1, f2, f3, f4, ⟨rfl, hv⟩, f6, f7, f8, f9⟩
  · right
    have w1 : cW tx Z (min Z E) w (e_Te_signedNumber 99 s) := w1
    have w2 : mW' tx Z E w (e_M_signed 99 t) := w2
    exact ⟨w, cW_w (W := [9007]) w1 (agO_sI rfl (agO_refl _ _)) rfl, mW_w (V := [56000]) w2 (agO_sI rfl (agO_refl _ _)) rfl⟩
theorem st_t2 {tx : Nat → Nat} {Z E p q S k : Nat} {s t : MSto} (hS : S < 6) (hk : k < 32) (hR : rR tx Z E p s t) (hG : stG q S k s t) : (gj_St_readTerm_j49 q 2 s ∧ p_M_term (nI S) 2 t) ∧ ((∃ p', p < p' ∧ rR tx Z E p' (ej_St_readTerm_j49 q 2 s) (e_M_term (nI S) 2 t) ∧ stG q S (k ||| 2) (ej_St_readTerm_j49 q 2 s) (e_M_term (nI S) 2 t)) ∨ ∃ w, cW tx Z (min Z E) w (ej_St_readTerm_j49 q 2 s) ∧ mW' tx Z E w (e_M_term (nI S) 2 t)) := by
  obtain ⟨n1, n2, o⟩ := st_num hR (hi := 199) (by decide)
  have n1 : p_Te_number 199 s := n1
  have n2 : p_M_number 0 199 t := n2
  have vS : vp_in (nI S) 6 := nI_inb hS (by decide)
  obtain ⟨-, ⟨b1, b2, b3⟩, -⟩ := st_bits k hk
  have d1 : ¬ (2 : Int32) = 1 := by decide
  have d4 : ¬ (2 : Int32) = 4 := by decide
  have d8 : ¬ (2 : Int32) = 8 := by decide
  unfold gj_St_readTerm_j49 p_M_term ej_St_readTerm_j49 e_M_term ej_St_readTerm_j138 ej_M_term_j98
  rw [if_neg d1, if_neg d4, if_neg d8, if_pos rfl, if_neg d1, if_pos rfl, nI_cl (by omega)]
  obtain ⟨sA, eA⟩ : ∃ x, x = sI (e_Te_number 199 s) 9 q 3 (v_Te_number 199 s) := ⟨_, rfl⟩
  obtain ⟨tA, fA⟩ : ∃ x, x = sI (e_M_number 0 199 t) 53 0 S (v_M_number 0 199 t) := ⟨_, rfl⟩
  rw [← eA, ← fA]
  have wA : agO [9004, 10003, 10005] s sA := by rw [eA]; exact agO_sI rfl ((w_Te_number 199 s).mono rfl)
  have uA : agO [53000, 13056, 13057] t tA := by rw [fA]; exact agO_sI rfl ((w_M_number 0 199 t).mono rfl)
  rcases o with ⟨v, p', hp, hv, e1, e2, r⟩ | ⟨w, w1, w2⟩
  · have e1 : v_Te_number 199 s = nI v := e1
    have e2 : v_M_number 0 199 t = nI v := e2
    have r : rR tx Z E p' (e_Te_number 199 s) (e_M_number 0 199 t) := r
    rw [e1] at eA
    rw [e2] at fA
    have rA : rR tx Z E p' sA tA := by
      rw [eA, fA]; exact rR_w (W := [9004]) (V := [53000]) r (agO_sI rfl (agO_refl _ _)) (agO_sI rfl (agO_refl _ _)) rfl rfl
    have a3 : gI sA 9 q 3 = nI v := by rw [eA]; exact g9e
    have a53 : gI tA 53 0 S = nI v := by rw [fA]; exact gI_at1 _ _ _ _
    obtain ⟨p1, p2, o2⟩ := R_pass rA (c := 44) (by decide)
    have p1 : p_Te_pass 44 sA := p1
    have p2 : p_M_need 44 tA := p2
    rcases o2 with r2 | ⟨w, w1, w2⟩
    · have r2 : rR tx Z E (p' + 1) (e_Te_pass 44 sA) (e_M_need 44 tA) := r2
      obtain ⟨k1, k2, o3⟩ := st_num r2 (hi := 90) (by decide)
      have k1 : p_Te_number 90 (e_Te_pass 44 sA) := k1
      have k2 : p_M_number 0 90 (e_M_need 44 tA) := k2
      refine ⟨⟨⟨fun c => absurd c d1, fun _ => ⟨fun c => absurd c d4, fun _ => ⟨fun c => absurd c d8, fun _ => ⟨fun _ => ⟨n1, p1, k1⟩, fun c => absurd rfl c⟩⟩⟩⟩, ⟨fun c => absurd c d1, fun _ => ⟨fun _ => ⟨n2, vS, p2, k2, vS⟩, fun c => absurd rfl c⟩⟩⟩, ?_⟩
      rcases o3 with ⟨x, p3, hp3, hx, g1, g2, r3⟩ | ⟨w, w1, w2⟩
      · left
        have g1 : v_Te_number 90 (e_Te_pass 44 sA) = nI x := g1
        have g2 : v_M_number 0 90 (e_M_need 44 tA) = nI x := g2
        have r3 : rR tx Z E p3 (e_Te_number 90 (e_Te_pass 44 sA)) (e_M_number 0 90 (e_M_need 44 tA)) := r3
        rw [g1, g2]
        refine ⟨p3, by omega, rR_w (W := [9005]) (V := [54000]) r3 (agO_sI rfl (agO_refl _ _)) (agO_sI rfl (agO_refl _ _)) rfl rfl, ?_⟩
        have wB : agO [9005, 10003, 10005] sA (sI (e_Te_number 90 (e_Te_pass 44 sA)) 9 q 4 (nI x)) := agO_sI rfl (((w_Te_pass 44 sA).mono rfl).step (w_Te_number 90 _) rfl)
        have uB : agO [54000, 13056, 13057] tA (sI (e_M_number 0 90 (e_M_need 44 tA)) 54 0 S (nI x)) := agO_sI rfl (((w_M_need 44 tA).mono rfl).step (w_M_number 0 90 _) rfl)
        have wF : agO [9004, 9005, 10003, 10005] s (sI (e_Te_number 90 (e_Te_pass 44 sA)) 9 q 4 (nI x)) := (wA.mono rfl).step wB rfl
        have wM : agO [53000, 54000, 13056, 13057] t (sI (e_M_number 0 90 (e_M_need 44 tA)) 54 0 S (nI x)) := (uA.mono rfl).step uB rfl
        obtain ⟨f1, f2, f3, f4, f5, f6, f7, f8, f9⟩ := hG
        unfold stG
        rw [wF.i (k := 9) (i := q) (j := 1) rfl, wF.i (k := 9) (i := q) (j := 2) rfl, (wB.i (k := 9) (i := q) (j := 3) rfl).trans a3, g9e, wF.i (k := 9) (i := q) (j := 5) rfl, wF.i (k := 9) (i := q) (j := 6) rfl, wF.i (k := 9) (i := q) (j := 7) rfl, wF.i (k := 9) (i := q) (j := 8) rfl, wM.i (k := 52) (i := 0) (j := S) rfl, (uB.i (k := 53) (i := 0) (j := S) rfl).trans a53, gI_at1, wM.i (k := 55) (i := 0) (j := S) rfl, wM.i (k := 56) (i := 0) (j := S) rfl, wM.i (k := 57) (i := 0) (j := S) rfl, wM.i (k := 58) (i := 0) (j := S) rfl, b1, b2, b3]
        exact ⟨f1, f2, fun _ => ⟨⟨rfl, rfl⟩, rgN (b := 199) hv (by decide), rgN (b := 90) hx (by decide)⟩, f4, f5, f6, f7, f8, f9⟩
      · right
        have w1 : cW tx Z (min Z E) w (e_Te_number 90 (e_Te_pass 44 sA)) := w1
        have w2 : mW' tx Z E w (e_M_number 0 90 (e_M_need 44 tA)) := w2
        exact ⟨w, cW_w (W := [9005]) w1 (agO_sI rfl (agO_refl _ _)) rfl, mW_w (V := [54000]) w2 (agO_sI rfl (agO_refl _ _)) rfl⟩
    · have w1 : cW tx Z (min Z E) w (e_Te_pass 44 sA) := w1
      have w2 : mW' tx Z E w (e_M_need 44 tA) := w2
      obtain ⟨c1, k1, -⟩ := cW_number w1 90
      obtain ⟨-, -, -, m4, -⟩ := mW_id w2 w1.2.1
      obtain ⟨m5, -, k2⟩ := m4 0 90
      refine ⟨⟨⟨fun c => absurd c d1, fun _ => ⟨fun c => absurd c d4, fun _ => ⟨fun c => absurd c d8, fun _ => ⟨fun _ => ⟨n1, p1, k1⟩, fun c => absurd rfl c⟩⟩⟩⟩, ⟨fun c => absurd c d1, fun _ => ⟨fun _ => ⟨n2, vS, p2, k2, vS⟩, fun c => absurd rfl c⟩⟩⟩, Or.inr ⟨w, cW_w (W := [9005]) c1 (agO_sI rfl (agO_refl _ _)) rfl, ?_⟩⟩
      rw [m5]
      exact mW_w (V := [54000]) w2 (agO_sI rfl (agO_refl _ _)) rfl
  · have w1 : cW tx Z (min Z E) w (e_Te_number 199 s) := w1
    have w2 : mW' tx Z E w (e_M_number 0 199 t) := w2
    have wA1 : cW tx Z (min Z E) w sA := by rw [eA]; exact cW_w (W := [9004]) w1 (agO_sI rfl (agO_refl _ _)) rfl
    have wA2 : mW' tx Z E w tA := by rw [fA]; exact mW_w (V := [53000]) w2 (agO_sI rfl (agO_refl _ _)) rfl
    obtain ⟨ep, p1⟩ := cW_pass wA1 44
    obtain ⟨-, mn, -, m4, -⟩ := mW_id wA2 wA1.2.1
    obtain ⟨en, p2⟩ := mn 44
    obtain ⟨m5, -, k2⟩ := m4 0 90
    obtain ⟨c1, k1, -⟩ := cW_number wA1 90
    rw [ep, en]
    refine ⟨⟨⟨fun c => absurd c d1, fun _ => ⟨fun c => absurd c d4, fun _ => ⟨fun c => absurd c d8, fun _ => ⟨fun _ => ⟨n1, p1, k1⟩, fun c => absurd rfl c⟩⟩⟩⟩, ⟨fun c => absurd c d1, fun _ => ⟨fun _ => ⟨n2, vS, p2, k2, vS⟩, fun c => absurd rfl c⟩⟩⟩, Or.inr ⟨w, cW_w (W := [9005]) c1 (agO_sI rfl (agO_refl _ _)) rfl, ?_⟩⟩
    rw [m5]
    exact mW_w (V := [54000]) wA2 (agO_sI rfl (agO_refl _ _)) rfl
theorem rd_53 : ∀ x, x < 256 → ((48 : Int32) ≤ (nI x).toInt8.toInt32 ∧ (nI x).toInt8.toInt32 ≤ 53 ↔ 48 ≤ x ∧ x ≤ 53) ∧ ((0 : Int32) ≤ nI x - 48 ∧ nI x - 48 ≤ 5 ↔ 48 ≤ x ∧ x ≤ 53) := by decide +kernel
theorem R_digit {tx : Nat → Nat} {Z E p : Nat} {s t : MSto} (h : rR tx Z E p s t) : p_Te_digit 5 s ∧ p_M_here t ∧ ((p < min Z E ∧ ∃ d, d ≤ 5 ∧ v_Te_digit 5 s = nI d ∧ e_Te_digit 5 s = sI s 10 0 2 (nI (p + 1)) ∧ ¬ v_M_in (v_M_here t) 48 53 t = 0 ∧ v_M_here t - 48 = nI d) ∨ (v_Te_digit 5 s = 0 ∧ e_Te_digit 5 s = sI s 10 0 4 (nI p) ∧ v_M_in (v_M_here t) 48 53 t = 0)) := by
  obtain ⟨hC, hm, hp, h4, h56, hs, ht⟩ := h
  have hZ := hm.2.2.2.1
  obtain ⟨c1, c2⟩ := hereC hC (p := p) (by omega) hs
  obtain ⟨m1, m2⟩ := hereM hm (p := p) (by omega) ht
  refine ⟨c2, m2, ?_⟩
  unfold v_Te_digit e_Te_digit
  rw [cp_isIn, M_in, c1, m1, hs, nI_s]
  by_cases g : p < min Z E
  · have hx := (hm.2.2.2.2 p (by omega)).2
    obtain ⟨q1, q2⟩ := rd_53 _ hx
    rw [if_pos g, if_pos g]
    by_cases d : 48 ≤ tx p ∧ tx p ≤ 53
    · left
      have e1 : nI (tx p) - 48 = nI (tx p - 48) := pk_sub (b := 48) d.1
      have e2 := (rd_dig _ hx).2 d.1 (by omega)
      refine ⟨g, tx p - 48, by omega, ?_, ?_, bn (q1.mpr d), by rw [e2, e1]⟩
      · rw [if_neg (bn (q2.mpr d)), e1]
      · rw [if_neg (bn (q2.mpr d))]
    · right
      rw [if_pos (bz (fun c => d (q2.mp c))), if_pos (bz (fun c => d (q2.mp c)))]
      exact ⟨rfl, if_pos h4, bz (fun c => d (q1.mp c))⟩
  · right
    have n1 : ¬ ((0 : Int32) ≤ -1 - 48 ∧ (-1 : Int32) - 48 ≤ 5) := by decide
    have n2 : ¬ ((48 : Int32) ≤ -1 ∧ (-1 : Int32) ≤ 53) := by decide
    rw [if_neg g, if_neg g, if_pos (bz n1), if_pos (bz n1)]
    exact ⟨rfl, if_pos h4, bz n2⟩
theorem st_t16 {tx : Nat → Nat} {Z E p q S k : Nat} {s t : MSto} (hS : S < 6) (hk : k < 32) (hR : rR tx Z E p s t) (hG : stG q S k s t) : (gj_St_readTerm_j49 q 16 s ∧ p_M_term (nI S) 16 t) ∧ ((∃ p', p < p' ∧ rR tx Z E p' (ej_St_readTerm_j49 q 16 s) (e_M_term (nI S) 16 t) ∧ stG q S (k ||| 16) (ej_St_readTerm_j49 q 16 s) (e_M_term (nI S) 16 t)) ∨ ∃ w, cW tx Z (min Z E) w (ej_St_readTerm_j49 q 16 s) ∧ mW' tx Z E w (e_M_term (nI S) 16 t)) := by
  obtain ⟨n1, n2, o⟩ := R_digit hR
  have h56 := hR.2.2.2.2.1
  have h55 := hR.2.2.2.2.2.2
  have hp80 : p ≤ 80 := by have := hR.2.1.2.2.2.1; have := hR.2.2.1; omega
  have vS : vp_in (nI S) 6 := nI_inb hS (by decide)
  obtain ⟨-, -, -, -, ⟨b1, b2, b3, b4⟩⟩ := st_bits k hk
  have d1 : ¬ (16 : Int32) = 1 := by decide
  have d2 : ¬ (16 : Int32) = 2 := by decide
  have d3 : ¬ (16 : Int32) = 3 := by decide
  have d4 : ¬ (16 : Int32) = 4 := by decide
  have d5 : ¬ (16 : Int32) = 5 := by decide
  have d6 : ¬ (16 : Int32) = 6 := by decide
  have d7 : ¬ (16 : Int32) = 7 := by decide
  have d8 : ¬ (16 : Int32) = 8 := by decide
  unfold gj_St_readTerm_j49 p_M_term ej_St_readTerm_j49 e_M_term gj_M_term_j163 ej_M_term_j163 gj_M_term_j195 ej_M_term_j195
  rw [if_neg d1, if_neg d4, if_neg d8, if_neg d2, if_neg d1, if_neg d2, if_neg d3, if_neg d4, if_neg d5, if_neg d6, if_neg d7, if_neg d8, if_pos h56, nI_cl (by omega)]
  obtain ⟨sA, eA⟩ : ∃ x, x = sI (e_Te_digit 5 s) 9 q 7 (v_Te_digit 5 s) := ⟨_, rfl⟩
  rw [← eA]
  rcases o with ⟨hp, d, hd, e1, e2, e3, e4⟩ | ⟨e1, e2, e3⟩
  · rw [if_neg e3, if_pos h56, e4]
    have e55 : gI (sI t 57 0 S (nI d)) 13 0 55 + 1 = nI (p + 1) := by
      rw [gI_sI, if_neg (fun z => absurd z.1 (by decide)), h55, nI_s]
    rw [e55]
    obtain ⟨tA, fA⟩ : ∃ x, x = sI (sI t 57 0 S (nI d)) 13 0 55 (nI (p + 1)) := ⟨_, rfl⟩
    rw [← fA]
    rw [e1, e2] at eA
    have wA : agO [9008, 10003] s sA := by rw [eA]; exact agO_sI rfl (agO_sI rfl (agO_refl _ s))
    have uA : agO [57000, 13056] t tA := by rw [fA]; exact agO_sI rfl (agO_sI rfl (agO_refl _ t))
    have r0 : rR tx Z E (p + 1) (sI s 10 0 2 (nI (p + 1))) (sI t 13 0 55 (nI (p + 1))) := ⟨hR.1, hR.2.1, hp, hR.2.2.2.1, h56, by rw [gI_sI, if_pos ⟨rfl, rfl, rfl⟩], by rw [gI_sI, if_pos ⟨rfl, rfl, rfl⟩]⟩
    have rA0 : rR tx Z E (p + 1) sA (sI t 13 0 55 (nI (p + 1))) := by
      rw [eA]; exact rR_w (W := [9008]) (V := []) r0 (agO_sI rfl (agO_refl _ _)) (agO_refl _ _) rfl rfl
    have rA : rR tx Z E (p + 1) sA tA := by
      obtain ⟨a1, a2, a3, a4, a5, a6, a7⟩ := rA0
      have u57 : agO [57000] t (sI t 57 0 S (nI d)) := agO_sI rfl (agO_refl _ t)
      refine ⟨a1, ?_, a3, a4, ?_, a6, ?_⟩
      · obtain ⟨x1, x2, x3, x4, x5⟩ := hR.2.1
        rw [fA]
        exact ⟨x1, x2, x3, x4, x5⟩
      · rw [fA]; exact h56
      · rw [fA, gI_sI, if_pos ⟨rfl, rfl, rfl⟩]
    have a7 : gI sA 9 q 7 = nI d := by rw [eA]; exact g9e
    have a57 : gI tA 57 0 S = nI d := by
      rw [fA, gI_sI, if_neg (fun z => absurd z.1 (by decide))]; exact gI_at1 _ _ _ _
    obtain ⟨p1, p2, o2⟩ := R_pass rA (c := 44) (by decide)
    have p1 : p_Te_pass 44 sA := p1
    have p2 : p_M_need 44 tA := p2
    rcases o2 with r2 | ⟨w, w1, w2⟩
    · have r2 : rR tx Z E (p + 1 + 1) (e_Te_pass 44 sA) (e_M_need 44 tA) := r2
      obtain ⟨k1, k2, o3⟩ := R_signed r2
      refine ⟨⟨⟨fun c => absurd c d1, fun _ => ⟨fun c => absurd c d4, fun _ => ⟨fun c => absurd c d8, fun _ => ⟨fun c => absurd c d2, fun _ => ⟨n1, p1, k1⟩⟩⟩⟩⟩, ⟨fun c => absurd c d1, fun _ => ⟨fun c => absurd c d2, fun _ => ⟨fun c => absurd c d3, fun _ => ⟨fun c => absurd c d4, fun _ => ⟨fun c => absurd c d5, fun _ => ⟨fun c => absurd c d6, fun _ => ⟨fun c => absurd c d7, fun _ => ⟨fun c => absurd c d8, fun _ => ⟨fun _ => ⟨n2, fun c => absurd c e3, fun _ _ => ⟨n2, vS, p2, k2, vS⟩⟩, fun c => absurd h56 c⟩⟩⟩⟩⟩⟩⟩⟩⟩⟩, ?_⟩
      rcases o3 with ⟨x, p3, hp3, g1, g2, hx, r3⟩ | ⟨w, w1, w2⟩
      · left
        rw [g1, g2]
        refine ⟨p3, by omega, rR_w (W := [9009]) (V := [58000]) r3 (agO_sI rfl (agO_refl _ _)) (agO_sI rfl (agO_refl _ _)) rfl rfl, ?_⟩
        have wB : agO [9009, 10003, 10005] sA (sI (e_Te_signedNumber 99 (e_Te_pass 44 sA)) 9 q 8 x) := agO_sI rfl (((w_Te_pass 44 sA).mono rfl).step (w_Te_signedNumber 99 _) rfl)
        have uB : agO [58000, 13056, 13057] tA (sI (e_M_signed 99 (e_M_need 44 tA)) 58 0 S x) := agO_sI rfl (((w_M_need 44 tA).mono rfl).step (w_M_signed 99 _) rfl)
        have wF : agO [9008, 9009, 10003, 10005] s (sI (e_Te_signedNumber 99 (e_Te_pass 44 sA)) 9 q 8 x) := (wA.mono rfl).step wB rfl
        have wM : agO [57000, 58000, 13056, 13057] t (sI (e_M_signed 99 (e_M_need 44 tA)) 58 0 S x) := (uA.mono rfl).step uB rfl
        obtain ⟨f1, f2, f3, f4, f5, f6, f7, f8, f9⟩ := hG
        unfold stG
        rw [wF.i (k := 9) (i := q) (j := 1) rfl, wF.i (k := 9) (i := q) (j := 2) rfl, wF.i (k := 9) (i := q) (j := 3) rfl, wF.i (k := 9) (i := q) (j := 4) rfl, wF.i (k := 9) (i := q) (j := 5) rfl, wF.i (k := 9) (i := q) (j := 6) rfl, (wB.i (k := 9) (i := q) (j := 7) rfl).trans a7, g9e, wM.i (k := 52) (i := 0) (j := S) rfl, wM.i (k := 53) (i := 0) (j := S) rfl, wM.i (k := 54) (i := 0) (j := S) rfl, wM.i (k := 55) (i := 0) (j := S) rfl, wM.i (k := 56) (i := 0) (j := S) rfl, (uB.i (k := 57) (i := 0) (j := S) rfl).trans a57, gI_at1, b1, b2, b3]
        exact ⟨f1, f2, f3, f4, f5, fun _ => ⟨rfl, rfl⟩, fun c => absurd c b4, ⟨Int32.le_trans (by decide) (nI_pos' (by omega)), nI_le (b := 5) hd (by decide)⟩, hx⟩
      · right
        exact ⟨w, cW_w (W := [9009]) w1 (agO_sI rfl (agO_refl _ _)) rfl, mW_w (V := [58000]) w2 (agO_sI rfl (agO_refl _ _)) rfl⟩
    · have w1 : cW tx Z (min Z E) w (e_Te_pass 44 sA) := w1
      have w2 : mW' tx Z E w (e_M_need 44 tA) := w2
      obtain ⟨c1, k1⟩ := cW_signed w1 99
      obtain ⟨-, -, -, -, m5⟩ := mW_id w2 w1.2.1
      obtain ⟨m6, k2⟩ := m5 99
      refine ⟨⟨⟨fun c => absurd c d1, fun _ => ⟨fun c => absurd c d4, fun _ => ⟨fun c => absurd c d8, fun _ => ⟨fun c => absurd c d2, fun _ => ⟨n1, p1, k1⟩⟩⟩⟩⟩, ⟨fun c => absurd c d1, fun _ => ⟨fun c => absurd c d2, fun _ => ⟨fun c => absurd c d3, fun _ => ⟨fun c => absurd c d4, fun _ => ⟨fun c => absurd c d5, fun _ => ⟨fun c => absurd c d6, fun _ => ⟨fun c => absurd c d7, fun _ => ⟨fun c => absurd c d8, fun _ => ⟨fun _ => ⟨n2, fun c => absurd c e3, fun _ _ => ⟨n2, vS, p2, k2, vS⟩⟩, fun c => absurd h56 c⟩⟩⟩⟩⟩⟩⟩⟩⟩⟩, Or.inr ⟨w, cW_w (W := [9009]) c1 (agO_sI rfl (agO_refl _ _)) rfl, ?_⟩⟩
      rw [m6]
      exact mW_w (V := [58000]) w2 (agO_sI rfl (agO_refl _ _)) rfl
  · have ef : e_M_fault (gI t 13 0 55) t = sI t 13 0 56 (nI p) := by
      rw [h55]; exact if_pos h56
    have n56 : ¬ gI (sI t 13 0 56 (nI p)) 13 0 56 = -1 := by
      rw [gI_sI, if_pos ⟨rfl, rfl, rfl⟩]; exact nI_n1 (by omega)
    obtain ⟨w1, w2⟩ := R_wrong hR
    rw [e1, e2] at eA
    have wA : cW tx Z (min Z E) p sA := by rw [eA]; exact cW_w (W := [9008]) w1 (agO_sI rfl (agO_refl _ _)) rfl
    obtain ⟨ep, p1⟩ := cW_pass wA 44
    obtain ⟨c1, k1⟩ := cW_signed wA 99
    rw [if_pos e3, ef, if_neg n56, ep]
    exact ⟨⟨⟨fun c => absurd c d1, fun _ => ⟨fun c => absurd c d4, fun _ => ⟨fun c => absurd c d8, fun _ => ⟨fun c => absurd c d2, fun _ => ⟨n1, p1, k1⟩⟩⟩⟩⟩, ⟨fun c => absurd c d1, fun _ => ⟨fun c => absurd c d2, fun _ => ⟨fun c => absurd c d3, fun _ => ⟨fun c => absurd c d4, fun _ => ⟨fun c => absurd c d5, fun _ => ⟨fun c => absurd c d6, fun _ => ⟨fun c => absurd c d7, fun _ => ⟨fun c => absurd c d8, fun _ => ⟨fun _ => ⟨n2, fun _ c => absurd c n56, fun c => absurd e3 c⟩, fun c => absurd h56 c⟩⟩⟩⟩⟩⟩⟩⟩⟩⟩, Or.inr ⟨p, cW_w (W := [9009]) c1 (agO_sI rfl (agO_refl _ _)) rfl, w2⟩⟩

