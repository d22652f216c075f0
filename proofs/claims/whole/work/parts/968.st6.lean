/-! story: what the reference leaves -/
theorem kM_i {s t : MSto} (w : agO [13056, 13057] s t) {a : Nat} (ha : 14 ≤ a ∧ a < 100) (x : Nat) : gI t a 0 x = gI s a 0 x := by
  refine w.i (inW_arr ?_ ((by decide : ∀ a, a < 100 → ([13056, 13057] : List Nat).contains (1000 * a) = false) a ha.2))
  exact (by decide : ∀ a, a < 100 → 14 ≤ a → Nat.ble a 13 = false) a ha.2 ha.1
theorem kM_term {S a x : Nat} (hS : S < 6) (ha : 14 ≤ a ∧ a < 100) (h : x ≠ S) (y : Int32) (t : MSto) : gI (e_M_term (nI S) y t) a 0 x = gI t a 0 x := by
  have n : ∀ (s : MSto) (b : Nat) (v : Int32), gI (sI s b 0 S v) a 0 x = gI s a 0 x := fun s b v => by
    rw [gI_sI, if_neg (fun z => h z.2.2)]
  have n13 : ∀ (s : MSto) (v : Int32), gI (sI s 13 0 55 v) a 0 x = gI s a 0 x := fun s v => by
    rw [gI_sI, if_neg (fun z => by have := z.1; omega)]
  have wn : ∀ lo hi s, gI (e_M_number lo hi s) a 0 x = gI s a 0 x := fun lo hi s => kM_i ((w_M_number lo hi s).mono rfl) ha x
  have wd : ∀ c s, gI (e_M_need c s) a 0 x = gI s a 0 x := fun c s => kM_i ((w_M_need c s).mono rfl) ha x
  have wg : ∀ c s, gI (e_M_signed c s) a 0 x = gI s a 0 x := fun c s => kM_i ((w_M_signed c s).mono rfl) ha x
  have wf : ∀ c s, gI (e_M_fault c s) a 0 x = gI s a 0 x := fun c s => by
    unfold e_M_fault
    split
    · rw [gI_sI, if_neg (fun z => by have := z.1; omega)]
    · rfl
  have ecl : (nI S).toNatClampNeg = S := nI_cl (by omega)
  have J195 : ∀ s, gI (ej_M_term_j195 (nI S) s) a 0 x = gI s a 0 x := fun s => by
    unfold ej_M_term_j195
    rw [ecl, n, wg, wd]
  have J163 : ∀ s, gI (ej_M_term_j163 (nI S) s) a 0 x = gI s a 0 x := fun s => by
    unfold ej_M_term_j163
    rw [ecl]
    split
    · rw [J195, n13, n]
    · rfl
  have H : gI (if gI t 13 0 56 = -1 then (if v_M_in (v_M_here t) 48 53 t = 0 then ej_M_term_j163 (nI S) (e_M_fault (gI t 13 0 55) t) else ej_M_term_j163 (nI S) t) else ej_M_term_j163 (nI S) t) a 0 x = gI t a 0 x := by
    split
    · split
      · rw [J163, wf]
      · exact J163 t
    · exact J163 t
  unfold e_M_term ej_M_term_j98
  rw [ecl]
  by_cases c1 : y = 1
  · rw [if_pos c1, n, wn]
  · rw [if_neg c1]
    by_cases c2 : y = 2
    · rw [if_pos c2, n, wn, wd, n, wn]
    · rw [if_neg c2]
      by_cases c3 : y = 3
      · rw [if_pos c3]; exact H
      · rw [if_neg c3]
        by_cases c4 : y = 4
        · rw [if_pos c4, n, wn]
        · rw [if_neg c4]
          by_cases c5 : y = 5
          · rw [if_pos c5]; exact H
          · rw [if_neg c5]
            by_cases c6 : y = 6
            · rw [if_pos c6]; exact H
            · rw [if_neg c6]
              by_cases c7 : y = 7
              · rw [if_pos c7]; exact H
              · rw [if_neg c7]
                by_cases c8 : y = 8
                · rw [if_pos c8, n, wg]
                · rw [if_neg c8]; exact H
theorem t82 (x2 : Int32) (X : Int32 × Int32 × MSto) : t_M_story_82 x2 X = if X.2.1 = 0 then X else tj_M_story_82j151 x2 X.1 (mval (v_M_here X.2.2)) X.2.2 X := by
  unfold t_M_story_82
  by_cases g : X.2.1 = 0
  · rw [if_pos g, if_pos g]
  · rw [if_neg g, if_neg g]
    exact mchain (fun y => tj_M_story_82j151 x2 X.1 y X.2.2 X) (v_M_here X.2.2)
/-- what a turn keeps of a property of stores -/
theorem t82_keep {P : MSto → Prop} {x2 : Int32} (hT : ∀ y s v, P s → P (e_M_term x2 y (sI s 13 0 55 v))) (hF : ∀ v s, P s → P (e_M_fault v s)) (hP : ∀ s, P s → P (e_M_passes 59 s)) (X : Int32 × Int32 × MSto) (h : P X.2.2) : P (t_M_story_82 x2 X).2.2 := by
  rw [t82]
  split
  · exact h
  · unfold tj_M_story_82j151 tj_M_story_82j214
    split
    · split
      · exact hP _ (hT _ _ _ (hF _ _ h))
      · exact h
    · split
      · split
        · exact hP _ (hT _ _ _ h)
        · exact h
      · split
        · exact hP _ (hT _ _ _ (hF _ _ h))
        · exact h
theorem f82_keep {P : MSto → Prop} {x2 : Int32} (hT : ∀ y s v, P s → P (e_M_term x2 y (sI s 13 0 55 v))) (hF : ∀ v s, P s → P (e_M_fault v s)) (hP : ∀ s, P s → P (e_M_passes 59 s)) (X : Int32 × Int32 × MSto) (h : P X.2.2) : ∀ n, P (f_M_story_82 x2 X n).2.2
  | 0 => h
  | n + 1 => t82_keep hT hF hP _ (f82_keep hT hF hP X h n)
theorem kM_loop {S a x : Nat} (hS : S < 6) (ha : 14 ≤ a ∧ a < 100) (h : x ≠ S) (X : Int32 × Int32 × MSto) (n : Nat) : gI (f_M_story_82 (nI S) X n).2.2 a 0 x = gI X.2.2 a 0 x := by
  refine f82_keep (P := fun s => gI s a 0 x = gI X.2.2 a 0 x) (x2 := nI S) (fun y s v hs => ?_) (fun v s hs => ?_) (fun s hs => ?_) X rfl n
  · show gI (e_M_term (nI S) y (sI s 13 0 55 v)) a 0 x = _
    rw [kM_term hS ha h, gI_sI, if_neg (fun z => by have := z.1; omega)]
    exact hs
  · show gI (e_M_fault v s) a 0 x = _
    unfold e_M_fault
    split
    · rw [gI_sI, if_neg (fun z => by have := z.1; omega)]; exact hs
    · exact hs
  · show gI (e_M_passes 59 s) a 0 x = _
    rw [kM_i ((w_M_passes 59 s).mono rfl) ha x]; exact hs
theorem w_82 {S : Nat} (X : Int32 × Int32 × MSto) (n : Nat) : agO [13056, 13057, 52000, 53000, 54000, 55000, 56000, 57000, 58000] X.2.2 (f_M_story_82 (nI S) X n).2.2 := by
  refine f82_keep (P := fun s => agO [13056, 13057, 52000, 53000, 54000, 55000, 56000, 57000, 58000] X.2.2 s) (x2 := nI S) (fun y s v hs => ?_) (fun v s hs => ?_) (fun s hs => ?_) X (agO_refl _ _) n
  · exact agO.step (agO_sI rfl hs) (w_M_term _ _ _) rfl
  · show agO [13056, 13057, 52000, 53000, 54000, 55000, 56000, 57000, 58000] X.2.2 (e_M_fault v s)
    unfold e_M_fault
    split
    · exact agO_sI rfl hs
    · exact hs
  · exact agO.step hs (w_M_passes 59 s) rfl

