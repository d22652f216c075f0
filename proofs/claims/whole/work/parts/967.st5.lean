/-! story: the readers to their ends -/
def stT (S : Nat) (X : Int32 × Int32 × MSto) (kF : Nat) (tF : MSto) : Prop := (X.2.1 = 0 ∧ X.1 = nI kF ∧ X.2.2 = tF) ∨ (¬ X.2.1 = 0 ∧ vj_M_story_j151 (nI S) X.1 (mval (v_M_here X.2.2)) X.2.2 = vj_M_story_j217 (nI S) (nI kF) tF ∧ ej_M_story_j151 (nI S) X.1 (mval (v_M_here X.2.2)) X.2.2 = ej_M_story_j217 (nI S) (nI kF) tF ∧ gj_M_story_j151 (nI S) X.1 (mval (v_M_here X.2.2)) X.2.2 ∧ p_M_here X.2.2 ∧ tF = e_M_fault (gI X.2.2 13 0 55) X.2.2)
theorem g217 {S : Nat} (hS : S < 6) (x : Int32) (t : MSto) : gj_M_story_j217 (nI S) x t := by
  have vS : vp_in (nI S) 6 := nI_inb hS (by decide)
  exact ⟨fun _ _ => ⟨vS, vS⟩, fun _ _ => ⟨vS, vS⟩⟩
noncomputable def stC' (q : Nat) (s0 : MSto) (i : Nat) : Int32 × MSto := f_St_read_21 q 0 (1, s0) i
noncomputable def stM' (S : Nat) (t0 : MSto) (i : Nat) : Int32 × Int32 × MSto := f_M_story_82 (nI S) (0, 1, t0) i
def stP (tx : Nat → Nat) (Z q S : Nat) (s0 t0 : MSto) (i : Nat) : Prop := ∃ k p s t, stC' q s0 i = (1, s) ∧ stM' S t0 i = (nI k, 1, t) ∧ stH tx Z q S k p s t ∧ pc5 k = i
theorem stP_5 {tx : Nat → Nat} {Z q S : Nat} {s0 t0 : MSto} {i : Nat} (h : stP tx Z q S s0 t0 i) : i ≤ 5 := by
  obtain ⟨k, p, s, t, -, -, hH, e⟩ := h
  rw [← e]; exact pc5_le k hH.1
theorem st_run {tx : Nat → Nat} {Z q S : Nat} {s0 t0 : MSto} (hS : S < 6) (h0 : stH tx Z q S 0 0 s0 t0) : ∃ N n s' tF kF, N ≤ 5 ∧ n ≤ 6 ∧ (∀ i, i ≤ N → g_St_read_21 q (0 + nI i) (stC' q s0 i) ∧ ¬ q_St_read_21s q (0 + nI i) (stC' q s0 i) = 1) ∧ stC' q s0 (N + 1) = (0, s') ∧ (∀ i, i < n → g_M_story_82 (nI S) (stM' S t0 i) ∧ ¬ q_M_story_82s (nI S) (stM' S t0 i) = 1) ∧ q_M_story_82s (nI S) (stM' S t0 n) = 1 ∧ stT S (stM' S t0 n) kF tF ∧ stE tx Z q S kF s' tF := by
  have H0 : stP tx Z q S s0 t0 0 := ⟨0, 0, s0, t0, rfl, rfl, h0, rfl⟩
  have step : ∀ i, stP tx Z q S s0 t0 i → (g_St_read_21 q (0 + nI i) (stC' q s0 i) ∧ ¬ q_St_read_21s q (0 + nI i) (stC' q s0 i) = 1) ∧ (((g_M_story_82 (nI S) (stM' S t0 i) ∧ ¬ q_M_story_82s (nI S) (stM' S t0 i) = 1) ∧ stP tx Z q S s0 t0 (i + 1)) ∨ ∃ n s' tF kF, (n = i ∨ (n = i + 1 ∧ g_M_story_82 (nI S) (stM' S t0 i) ∧ ¬ q_M_story_82s (nI S) (stM' S t0 i) = 1)) ∧ stC' q s0 (i + 1) = (0, s') ∧ q_M_story_82s (nI S) (stM' S t0 n) = 1 ∧ stT S (stM' S t0 n) kF tF ∧ stE tx Z q S kF s' tF) := by
    intro i hP
    have h5 := stP_5 hP
    obtain ⟨k, p, s, t, eC, eM, hH, ek⟩ := hP
    have nC : stC' q s0 (i + 1) = t_St_read_21 q (0 + nI i) (stC' q s0 i) := rfl
    have nM : stM' S t0 (i + 1) = t_M_story_82 (nI S) (stM' S t0 i) := rfl
    obtain ⟨a, o⟩ := st_turn hS (i := i) (by omega) hH
    rw [eC] at nC ⊢
    refine ⟨a, ?_⟩
    rcases o with ⟨s', tF, b1, b2, b3, b4, b5, b6, b7, w, w1, w2⟩ | ⟨k', s', t', c1, c2, c3, c4, o⟩
    · right
      refine ⟨i, s', tF, k, Or.inl rfl, by rw [nC, b1], by rw [eM]; exact b2, ?_, Or.inr ⟨w, w1, w2⟩⟩
      rw [eM]
      exact Or.inr ⟨show ¬ (1 : Int32) = 0 by decide, b3, b4, b5 (g217 hS _ _), b6, b7⟩
    · rcases o with ⟨d1, d2, p', d3⟩ | ⟨d1, d2, d3⟩
      · left
        refine ⟨by rw [eM]; exact ⟨c2, c1⟩, k', p', s', t', by rw [nC, d1], by rw [nM, eM, d2], d3, by omega⟩
      · right
        have e2 : stM' S t0 (i + 1) = (nI k', 0, t') := by rw [nM, eM, d2]
        refine ⟨i + 1, s', t', k', Or.inr ⟨rfl, by rw [eM]; exact ⟨c2, c1⟩⟩, by rw [nC, d1], ?_, ?_, d3⟩
        · rw [e2]
          unfold q_M_story_82s
          exact if_pos rfl
        · rw [e2]; exact Or.inl ⟨rfl, rfl, rfl⟩
  have main : ∀ m, (∃ N, N < m ∧ (∀ i, i ≤ N → stP tx Z q S s0 t0 i) ∧ (∀ i, i < N → g_M_story_82 (nI S) (stM' S t0 i) ∧ ¬ q_M_story_82s (nI S) (stM' S t0 i) = 1) ∧ ∃ n s' tF kF, (n = N ∨ (n = N + 1 ∧ g_M_story_82 (nI S) (stM' S t0 N) ∧ ¬ q_M_story_82s (nI S) (stM' S t0 N) = 1)) ∧ stC' q s0 (N + 1) = (0, s') ∧ q_M_story_82s (nI S) (stM' S t0 n) = 1 ∧ stT S (stM' S t0 n) kF tF ∧ stE tx Z q S kF s' tF) ∨ ((∀ i, i ≤ m → stP tx Z q S s0 t0 i) ∧ ∀ i, i < m → g_M_story_82 (nI S) (stM' S t0 i) ∧ ¬ q_M_story_82s (nI S) (stM' S t0 i) = 1) := by
    intro m
    induction m with
    | zero => exact Or.inr ⟨fun i hi => by rw [show i = 0 by omega]; exact H0, fun i hi => absurd hi (by omega)⟩
    | succ m ih =>
      rcases ih with ⟨N, a, b⟩ | ⟨b, c⟩
      · exact Or.inl ⟨N, by omega, b⟩
      · obtain ⟨-, o⟩ := step m (b m (Nat.le_refl _))
        rcases o with ⟨o1, o2⟩ | o
        · refine Or.inr ⟨fun i hi => ?_, fun i hi => ?_⟩
          · by_cases e : i = m + 1
            · rw [e]; exact o2
            · exact b i (by omega)
          · by_cases e : i = m
            · rw [e]; exact o1
            · exact c i (by omega)
        · exact Or.inl ⟨m, by omega, b, c, o⟩
  rcases main 7 with ⟨N, hN, b, c, n, s', tF, kF, o1, o2, o3, o4, o5⟩ | ⟨b, -⟩
  · have h5 := stP_5 (b N (Nat.le_refl _))
    refine ⟨N, n, s', tF, kF, h5, by omega, fun i hi => (step i (b i hi)).1, o2, fun i hi => ?_, o3, o4, o5⟩
    rcases o1 with e | ⟨e, g⟩
    · exact c i (by omega)
    · by_cases q : i = N
      · rw [q]; exact g
      · exact c i (by omega)
  · exact absurd (stP_5 (b 6 (by omega))) (by omega)
/-- other stories stay -/
theorem k9i {s t : MSto} (w : agO [10003, 10004, 10005] s t) (i f : Nat) (hf : f < 9) : gI t 9 i f = gI s 9 i f :=
  w.i ((by decide : ∀ f, f < 9 → inW [10003, 10004, 10005] 9 f = false) f hf)
theorem k9_j49 {q i f : Nat} (h : i ≠ q) (hf : f < 9) (x : Int32) (σ : MSto) : gI (ej_St_readTerm_j49 q x σ) 9 i f = gI σ 9 i f := by
  have n : ∀ (s : MSto) (g : Nat) (v : Int32), gI (sI s 9 q g v) 9 i f = gI s 9 i f := fun s g v => by
    rw [gI_sI, if_neg (fun z => h z.2.1)]
  unfold ej_St_readTerm_j49 ej_St_readTerm_j138
  split
  · rw [n, k9i ((w_Te_number 199 σ).mono rfl) i f hf]
  · split
    · rw [n, k9i ((w_Te_number 199 σ).mono rfl) i f hf]
    · split
      · rw [n, k9i ((w_Te_signedNumber 99 σ).mono rfl) i f hf]
      · split
        · rw [n, k9i ((w_Te_number 90 _).mono rfl) i f hf, k9i ((w_Te_pass 44 _).mono rfl) i f hf, n, k9i ((w_Te_number 199 σ).mono rfl) i f hf]
        · rw [n, k9i ((w_Te_signedNumber 99 _).mono rfl) i f hf, k9i ((w_Te_pass 44 _).mono rfl) i f hf, n, k9i ((w_Te_digit 5 σ).mono rfl) i f hf]
theorem k9_term {q i f : Nat} (h : i ≠ q) (hf : f < 9) (σ : MSto) : gI (e_St_readTerm q σ) 9 i f = gI σ 9 i f := by
  have n : ∀ (s : MSto) (g : Nat) (v : Int32), gI (sI s 9 q g v) 9 i f = gI s 9 i f := fun s g v => by
    rw [gI_sI, if_neg (fun z => h z.2.1)]
  have f1 := k9i ((w_Te_failAt (gI σ 10 0 2) σ).mono (W := [10003, 10004, 10005]) rfl) i f hf
  unfold e_St_readTerm
  split
  · exact f1
  · split
    · rw [k9_j49 h hf, n, gI_sI, if_neg (fun z => absurd z.1 (by decide))]
    · exact f1
theorem k9_loop {q i f : Nat} (h : i ≠ q) (hf : f < 9) (b : Int32) (s0 : MSto) : ∀ n, gI (f_St_read_21 q 0 (b, s0) n).2 9 i f = gI s0 9 i f
  | 0 => rfl
  | n + 1 => by
    have ih := k9_loop h hf b s0 n
    show gI (t_St_read_21 q (0 + nI n) (f_St_read_21 q 0 (b, s0) n)).2 9 i f = _
    unfold t_St_read_21
    split
    · exact ih
    · split
      · exact ih
      · show gI (e_Te_skip 59 (e_St_readTerm q (f_St_read_21 q 0 (b, s0) n).2)) 9 i f = _
        rw [k9i ((w_Te_skip 59 _).mono rfl) i f hf, k9_term h hf]
        exact ih

