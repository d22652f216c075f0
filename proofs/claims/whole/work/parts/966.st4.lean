/-! story: one turn of each -/
def stH (tx : Nat → Nat) (Z q S k p : Nat) (s t : MSto) : Prop := k < 32 ∧ rR tx Z 40 p s t ∧ stG q S k s t ∧ gI s 9 q 0 = nI k
def stE (tx : Nat → Nat) (Z q S k : Nat) (s t : MSto) : Prop := (∃ p, stH tx Z q S k p s t) ∨ ∃ w, cW tx Z (min Z 40) w s ∧ mW' tx Z 40 w t
theorem w_j49 (q : Nat) (x : Int32) (σ : MSto) : agO [9003, 9004, 9005, 9006, 9007, 9008, 9009, 10003, 10005] σ (ej_St_readTerm_j49 q x σ) := by
  unfold ej_St_readTerm_j49 ej_St_readTerm_j138
  split
  · exact agO_sI rfl ((w_Te_number 199 σ).mono rfl)
  · split
    · exact agO_sI rfl ((w_Te_number 199 σ).mono rfl)
    · split
      · exact agO_sI rfl ((w_Te_signedNumber 99 σ).mono rfl)
      · split
        · exact agO_sI rfl (((agO_sI (W := [9003, 9004, 9005, 9006, 9007, 9008, 9009, 10003, 10005]) rfl ((w_Te_number 199 σ).mono rfl)).step (w_Te_pass 44 _) rfl).step (w_Te_number 90 _) rfl)
        · exact agO_sI rfl (((agO_sI (W := [9003, 9004, 9005, 9006, 9007, 9008, 9009, 10003, 10005]) rfl ((w_Te_digit 5 σ).mono rfl)).step (w_Te_pass 44 _) rfl).step (w_Te_signedNumber 99 _) rfl)
theorem st_turn {tx : Nat → Nat} {Z q S k p i : Nat} {s t : MSto} (hS : S < 6) (hi : i < 6) (hH : stH tx Z q S k p s t) : (g_St_read_21 q (0 + nI i) (1, s) ∧ ¬ q_St_read_21s q (0 + nI i) (1, s) = 1) ∧ ((∃ s' tF, t_St_read_21 q (0 + nI i) (1, s) = (0, s') ∧ q_M_story_82s (nI S) (nI k, 1, t) = 1 ∧ vj_M_story_j151 (nI S) (nI k) (mval (v_M_here t)) t = vj_M_story_j217 (nI S) (nI k) tF ∧ ej_M_story_j151 (nI S) (nI k) (mval (v_M_here t)) t = ej_M_story_j217 (nI S) (nI k) tF ∧ (gj_M_story_j217 (nI S) (nI k) tF → gj_M_story_j151 (nI S) (nI k) (mval (v_M_here t)) t) ∧ p_M_here t ∧ tF = e_M_fault (gI t 13 0 55) t ∧ ∃ w, cW tx Z (min Z 40) w s' ∧ mW' tx Z 40 w tF) ∨ ∃ k' s' t', ¬ q_M_story_82s (nI S) (nI k, 1, t) = 1 ∧ g_M_story_82 (nI S) (nI k, 1, t) ∧ pc5 k' = pc5 k + 1 ∧ k' < 32 ∧ ((t_St_read_21 q (0 + nI i) (1, s) = (1, s') ∧ t_M_story_82 (nI S) (nI k, 1, t) = (nI k', 1, t') ∧ ∃ p', stH tx Z q S k' p' s' t') ∨ (t_St_read_21 q (0 + nI i) (1, s) = (0, s') ∧ t_M_story_82 (nI S) (nI k, 1, t) = (nI k', 0, t') ∧ stE tx Z q S k' s' t'))) := by
  obtain ⟨hk, hR, hG, h0⟩ := hH
  have hZ := hR.2.1.2.2.2.1
  have hp := hR.2.2.1
  have h4 := hR.2.2.2.1
  have h56 := hR.2.2.2.2.1
  have hs := hR.2.2.2.2.2.1
  have ht := hR.2.2.2.2.2.2
  obtain ⟨lC, pC⟩ := ltrC hR.1 (p := p) (by omega) hs
  obtain ⟨lM, pM⟩ := ltrM hR.2.1 (p := p) (by omega) ht
  have n5 : ¬ (5 : Int32) < 0 + nI i := by
    rw [z_nI, Int32.not_lt]; exact nI_le (b := 5) (by omega) (by decide)
  have qC : ¬ q_St_read_21s q (0 + nI i) (1, s) = 1 := by
    unfold q_St_read_21s
    rw [if_neg n5]
    show ¬ (if (1 : Int32) = 0 then 1 else 0) = 1
    rw [if_neg (by decide)]; decide
  have tC : t_St_read_21 q (0 + nI i) (1, s) = (v_Te_skip 59 (e_St_readTerm q s), e_Te_skip 59 (e_St_readTerm q s)) := by
    unfold t_St_read_21
    rw [if_neg n5]
    show (if (1 : Int32) = 0 then _ else (v_Te_skip 59 (e_St_readTerm q s), e_Te_skip 59 (e_St_readTerm q s))) = _
    rw [if_neg (by decide)]
  have gC : p_St_readTerm q s → p_Te_skip 59 (e_St_readTerm q s) → g_St_read_21 q (0 + nI i) (1, s) := fun a b _ _ => ⟨a, b⟩
  -- the reference's chain
  have tM : t_M_story_82 (nI S) (nI k, 1, t) = tj_M_story_82j151 (nI S) (nI k) (mval (v_M_here t)) t (nI k, 1, t) := by
    unfold t_M_story_82
    show (if (1 : Int32) = 0 then _ else (if v_M_here t = 119 then tj_M_story_82j151 (nI S) (nI k) 1 t (nI k, 1, t) else if v_M_here t = 115 then tj_M_story_82j151 (nI S) (nI k) 2 t (nI k, 1, t) else if v_M_here t = 109 then tj_M_story_82j151 (nI S) (nI k) 4 t (nI k, 1, t) else if v_M_here t = 100 then tj_M_story_82j151 (nI S) (nI k) 8 t (nI k, 1, t) else if v_M_here t = 104 then tj_M_story_82j151 (nI S) (nI k) 16 t (nI k, 1, t) else tj_M_story_82j151 (nI S) (nI k) 0 t (nI k, 1, t))) = _
    rw [if_neg (by decide)]
    exact mchain (fun y => tj_M_story_82j151 (nI S) (nI k) y t (nI k, 1, t)) (v_M_here t)
  have qM : q_M_story_82s (nI S) (nI k, 1, t) = qj_M_story_82j151 (nI S) (nI k) (mval (v_M_here t)) t := by
    unfold q_M_story_82s
    show (if (1 : Int32) = 0 then _ else (if v_M_here t = 119 then qj_M_story_82j151 (nI S) (nI k) 1 t else if v_M_here t = 115 then qj_M_story_82j151 (nI S) (nI k) 2 t else if v_M_here t = 109 then qj_M_story_82j151 (nI S) (nI k) 4 t else if v_M_here t = 100 then qj_M_story_82j151 (nI S) (nI k) 8 t else if v_M_here t = 104 then qj_M_story_82j151 (nI S) (nI k) 16 t else qj_M_story_82j151 (nI S) (nI k) 0 t)) = _
    rw [if_neg (by decide)]
    exact mchain (fun y => qj_M_story_82j151 (nI S) (nI k) y t) (v_M_here t)
  have gM : gj_M_story_82j151 (nI S) (nI k) (mval (v_M_here t)) t → g_M_story_82 (nI S) (nI k, 1, t) := fun hg _ => ⟨pM, gchain (G := fun y => gj_M_story_82j151 (nI S) (nI k) y t) hg⟩
  obtain ⟨L, eL'⟩ : ∃ L, L = ltr tx (min Z 40) p := ⟨_, rfl⟩
  rw [← eL'] at lC lM
  have ff : e_M_fault (gI t 13 0 55) t = sI t 13 0 56 (nI p) := by rw [ht]; exact if_pos h56
  have nf : ¬ gI (e_M_fault (gI t 13 0 55) t) 13 0 56 = -1 := by
    rw [ff, gI_sI, if_pos ⟨rfl, rfl, rfl⟩]; exact nI_n1 (by omega)
  have fC : e_Te_failAt (gI s 10 0 2) s = sI s 10 0 4 (nI p) := by rw [hs]; exact if_pos h4
  obtain ⟨w1, w2⟩ := R_wrong hR
  have andE : ∀ L, L < 17 → (nI k &&& nI L = 0 ↔ k &&& L = 0) := fun L hL => by
    rw [fa_and]
    have : k &&& L ≤ k := Nat.and_le_left
    exact nI_eq (b := 0) (by omega) (by decide)
  have hasT : ∀ L, L < 17 → v_St_hasTerm q (nI L) s = bI (¬ k &&& L = 0) := fun L hL => by
    unfold v_St_hasTerm b_St_hasTerm
    rw [h0]
    refine bI_congr ?_
    simp only [ite_ff, and_true, andE L hL]
  have bad : (L = 0 ∨ (L < 17 ∧ ¬ L = 0 ∧ ¬ k &&& L = 0)) → (g_St_read_21 q (0 + nI i) (1, s)) ∧ ∃ s' tF, t_St_read_21 q (0 + nI i) (1, s) = (0, s') ∧ q_M_story_82s (nI S) (nI k, 1, t) = 1 ∧ vj_M_story_j151 (nI S) (nI k) (mval (v_M_here t)) t = vj_M_story_j217 (nI S) (nI k) tF ∧ ej_M_story_j151 (nI S) (nI k) (mval (v_M_here t)) t = ej_M_story_j217 (nI S) (nI k) tF ∧ (gj_M_story_j217 (nI S) (nI k) tF → gj_M_story_j151 (nI S) (nI k) (mval (v_M_here t)) t) ∧ p_M_here t ∧ tF = e_M_fault (gI t 13 0 55) t ∧ ∃ w, cW tx Z (min Z 40) w s' ∧ mW' tx Z 40 w tF := by
    intro hb
    have eT : e_St_readTerm q s = sI s 10 0 4 (nI p) ∧ p_St_readTerm q s := by
      unfold e_St_readTerm p_St_readTerm
      rw [lC]
      rcases hb with e | ⟨h17, hn, ha⟩
      · have z : nI L = 0 := by rw [e]; rfl
        rw [if_pos z]
        exact ⟨fC, pC, fun c => absurd z c⟩
      · have z : ¬ nI L = 0 := fun c => hn ((nI_eq (b := 0) (by omega) (by decide)).mp c)
        rw [if_neg z, hasT L h17, if_neg (bn ha)]
        exact ⟨fC, pC, fun _ c => absurd c (bn ha)⟩
    obtain ⟨k1, k2, k3⟩ := cW_skip w1 59
    refine ⟨gC eT.2 (by rw [eT.1]; exact k3), sI s 10 0 4 (nI p), sI t 13 0 56 (nI p), ?_, ?_, ?_, ?_, ?_, pM, ff.symm, p, w1, w2⟩
    · rw [tC, eT.1, k1, k2]
    · rw [qM, lM]
      unfold qj_M_story_82j151
      rcases hb with e | ⟨h17, hn, ha⟩
      · have z : nI L = 0 := by rw [e]; rfl
        rw [if_pos z, if_neg nf]
      · have z : ¬ nI L = 0 := fun c => hn ((nI_eq (b := 0) (by omega) (by decide)).mp c)
        rw [if_neg z, if_neg (fun c => ha ((andE L h17).mp c)), if_neg nf]
    · rw [lM]
      unfold vj_M_story_j151
      rw [ff]
      rcases hb with e | ⟨h17, hn, ha⟩
      · rw [if_pos (by rw [e]; rfl)]
      · have z : ¬ nI L = 0 := fun c => hn ((nI_eq (b := 0) (by omega) (by decide)).mp c)
        rw [if_neg z, if_neg (fun c => ha ((andE L h17).mp c))]
    · rw [lM]
      unfold ej_M_story_j151
      rw [ff]
      rcases hb with e | ⟨h17, hn, ha⟩
      · rw [if_pos (by rw [e]; rfl)]
      · have z : ¬ nI L = 0 := fun c => hn ((nI_eq (b := 0) (by omega) (by decide)).mp c)
        rw [if_neg z, if_neg (fun c => ha ((andE L h17).mp c))]
    · intro gg
      rw [lM]
      unfold gj_M_story_j151
      rw [← ff] at gg
      rcases hb with e | ⟨h17, hn, ha⟩
      · have z : nI L = 0 := by rw [e]; rfl
        exact ⟨fun _ => ⟨fun c => absurd c nf, fun _ => gg⟩, fun c => absurd z c⟩
      · have z : ¬ nI L = 0 := fun c => hn ((nI_eq (b := 0) (by omega) (by decide)).mp c)
        exact ⟨fun c => absurd c z, fun _ => ⟨fun c => absurd ((andE L h17).mp c) ha, fun _ => ⟨fun c => absurd c nf, fun _ => gg⟩⟩⟩
  rcases ltr_v hR.2.1 p with e | ⟨hpB, hb⟩
  · obtain ⟨a, b⟩ := bad (Or.inl (eL'.trans e))
    exact ⟨⟨a, qC⟩, Or.inl b⟩
  · rw [← eL'] at hb
    have h17 : L < 17 := by omega
    have hn : ¬ L = 0 := by omega
    by_cases ha : k &&& L = 0
    · obtain ⟨q1, q2⟩ := pc5_1 k hk L h17 hb ha
      -- behind the letter
      obtain ⟨s1, es1⟩ : ∃ x, x = sI (sI s 10 0 2 (nI (p + 1))) 9 q 0 (nI (k ||| L)) := ⟨_, rfl⟩
      obtain ⟨t1, et1⟩ : ∃ x, x = sI t 13 0 55 (nI (p + 1)) := ⟨_, rfl⟩
      have r0 : rR tx Z 40 (p + 1) (sI s 10 0 2 (nI (p + 1))) t1 := by
        rw [et1]
        exact ⟨hR.1, hR.2.1, hpB, h4, h56, by rw [gI_sI, if_pos ⟨rfl, rfl, rfl⟩], by rw [gI_sI, if_pos ⟨rfl, rfl, rfl⟩]⟩
      have r1 : rR tx Z 40 (p + 1) s1 t1 := by
        rw [es1]; exact rR_w (W := [9001]) (V := []) r0 (agO_sI rfl (agO_refl _ _)) (agO_refl _ _) rfl rfl
      have g1 : stG q S k s1 t1 := by
        rw [es1, et1]; exact stG_w (W := [9001, 10003]) (V := [13056]) hG (agO_sI rfl (agO_sI rfl (agO_refl _ _))) (agO_sI rfl (agO_refl _ _)) rfl rfl
      have s10 : gI s1 9 q 0 = nI (k ||| L) := by rw [es1]; exact g9e
      obtain ⟨⟨u1, u2⟩, o⟩ := st_any hS hk hb r1 g1
      have z : ¬ nI L = 0 := fun c => hn ((nI_eq (b := 0) (by omega) (by decide)).mp c)
      have e10 : gI s 10 0 2 + 1 = nI (p + 1) := by rw [hs, nI_s]
      have e55 : gI t 13 0 55 + 1 = nI (p + 1) := by rw [ht, nI_s]
      have e9 : gI (sI s 10 0 2 (nI (p + 1))) 9 q 0 ||| nI L = nI (k ||| L) := by
        rw [gI_sI, if_neg (fun c => absurd c.1 (by decide)), h0, fa_or]
      have eT : e_St_readTerm q s = ej_St_readTerm_j49 q (nI L) s1 ∧ p_St_readTerm q s := by
        unfold e_St_readTerm p_St_readTerm
        rw [lC, if_neg z, hasT L h17, if_pos (bz (fun c => c ha)), e10, e9, ← es1]
        exact ⟨rfl, pC, fun _ _ => u1⟩
      have f0 : gI (ej_St_readTerm_j49 q (nI L) s1) 9 q 0 = nI (k ||| L) := ((w_j49 q (nI L) s1).i (k := 9) (i := q) (j := 0) rfl).trans s10
      have tM2 : t_M_story_82 (nI S) (nI k, 1, t) = (nI (k ||| L), v_M_passes 59 (e_M_term (nI S) (nI L) t1), e_M_passes 59 (e_M_term (nI S) (nI L) t1)) := by
        rw [tM, lM]
        unfold tj_M_story_82j151 tj_M_story_82j214
        rw [if_neg z, if_pos ((andE L h17).mpr ha), if_pos h56, e55, ← et1, fa_or]
      have qM2 : ¬ q_M_story_82s (nI S) (nI k, 1, t) = 1 := by
        rw [qM, lM]
        unfold qj_M_story_82j151
        rw [if_neg z, if_pos ((andE L h17).mpr ha), if_pos h56]; decide
      have gM2 : p_M_passes 59 (e_M_term (nI S) (nI L) t1) → g_M_story_82 (nI S) (nI k, 1, t) := fun pp => by
        refine gM ?_
        rw [lM]
        unfold gj_M_story_82j151
        rw [e55, ← et1]
        exact ⟨fun c => absurd c z, fun _ => ⟨fun _ _ => ⟨u2, pp⟩, fun c => absurd ((andE L h17).mpr ha) c⟩⟩
      rcases o with ⟨p', hp', r2, g2⟩ | ⟨w, x1, x2⟩
      · obtain ⟨y1, y2, o2⟩ := R_skip r2 (c := 59) (by decide)
        have y1 : p_Te_skip 59 (ej_St_readTerm_j49 q (nI L) s1) := y1
        have y2 : p_M_passes 59 (e_M_term (nI S) (nI L) t1) := y2
        refine ⟨⟨gC eT.2 (by rw [eT.1]; exact y1), qC⟩, Or.inr ⟨k ||| L, e_Te_skip 59 (ej_St_readTerm_j49 q (nI L) s1), e_M_passes 59 (e_M_term (nI S) (nI L) t1), qM2, gM2 y2, q2, q1, ?_⟩⟩
        rcases o2 with ⟨a, b, r3⟩ | ⟨a, b, e1, e2⟩
        · left
          have a : v_Te_skip 59 (ej_St_readTerm_j49 q (nI L) s1) = 1 := a
          have b : v_M_passes 59 (e_M_term (nI S) (nI L) t1) = 1 := b
          refine ⟨by rw [tC, eT.1, a], by rw [tM2, b], p' + 1, q1, r3, stG_w (W := [10003]) (V := [13056]) g2 (w_Te_skip 59 _) (w_M_passes 59 _) rfl rfl, ?_⟩
          rw [(w_Te_skip 59 _).i rfl]; exact f0
        · right
          have a : v_Te_skip 59 (ej_St_readTerm_j49 q (nI L) s1) = 0 := a
          have b : v_M_passes 59 (e_M_term (nI S) (nI L) t1) = 0 := b
          have e1 : e_Te_skip 59 (ej_St_readTerm_j49 q (nI L) s1) = ej_St_readTerm_j49 q (nI L) s1 := e1
          have e2 : e_M_passes 59 (e_M_term (nI S) (nI L) t1) = e_M_term (nI S) (nI L) t1 := e2
          refine ⟨by rw [tC, eT.1, a], by rw [tM2, b], ?_⟩
          rw [e1, e2]
          exact Or.inl ⟨p', q1, r2, g2, f0⟩
      · obtain ⟨a, b, d⟩ := cW_skip x1 59
        obtain ⟨m1, -⟩ := mW_id x2 x1.2.1
        obtain ⟨m2, m3, m4⟩ := m1 59
        refine ⟨⟨gC eT.2 (by rw [eT.1]; exact d), qC⟩, Or.inr ⟨k ||| L, e_Te_skip 59 (ej_St_readTerm_j49 q (nI L) s1), e_M_passes 59 (e_M_term (nI S) (nI L) t1), qM2, gM2 m4, q2, q1, Or.inr ⟨by rw [tC, eT.1, a], by rw [tM2, m2], ?_⟩⟩⟩
        rw [b, m3]
        exact Or.inr ⟨w, x1, x2⟩
    · obtain ⟨a, b⟩ := bad (Or.inr ⟨h17, hn, ha⟩)
      exact ⟨⟨a, qC⟩, Or.inl b⟩

