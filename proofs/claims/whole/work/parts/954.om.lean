/-! omits -/
noncomputable def bitF (p : Nat → Bool) : Nat → Int32
  | 0 => 0
  | n + 1 => if p n = true then bitF p n ||| ((1 : Int32) <<< (nI n &&& 31)) else bitF p n
theorem bitF_s (p : Nat → Bool) (n : Nat) : bitF p (n + 1) = if p n = true then bitF p n ||| ((1 : Int32) <<< (nI n &&& 31)) else bitF p n := rfl
theorem bt_0 (i : Nat) : bt 0 i = false := by
  unfold bt
  show (0#32).getLsbD i = false
  exact BitVec.getLsbD_zero
theorem bitF_bt (p : Nat → Bool) {i : Nat} (hi : i < 32) : ∀ n, n ≤ 32 → bt (bitF p n) i = (decide (i < n) && p i)
  | 0, _ => by rw [show bitF p 0 = 0 from rfl, bt_0, decide_eq_false (by omega)]; rfl
  | n + 1, hn => by
    have ih := bitF_bt p hi n (by omega)
    rw [bitF_s]
    by_cases g : i = n
    · subst g
      rw [decide_eq_true (by omega : i < i + 1), Bool.true_and]
      cases hp : p i with
      | true => rw [if_pos rfl, b_or, bt_shl1 hi hi, decide_eq_true rfl, Bool.or_true]
      | false => rw [if_neg (by decide), ih, hp, Bool.and_false]
    · have e : decide (i < n + 1) = decide (i < n) := by
        by_cases q : i < n
        · rw [decide_eq_true q, decide_eq_true (by omega)]
        · rw [decide_eq_false q, decide_eq_false (by omega)]
      rw [e, ← ih]
      split
      · rw [b_or, bt_shl1 (by omega) hi, decide_eq_false g, Bool.or_false]
      · rfl
theorem bitF_but (p : Nat → Bool) (W : Int32) {n : Nat} (hn : n ≤ 32) : bitF p n &&& (W ^^^ -1) = bitF (fun i => !bt W i && p i) n := by
  refine b_ext (fun i hi => ?_)
  rw [b_and, bt_not W hi, bitF_bt p hi n hn, bitF_bt _ hi n hn]
  cases decide (i < n) <;> cases bt W i <;> cases p i <;> rfl
noncomputable def omY (τ : MSto) (s : Nat) : Int32 := if gI τ 59 0 s &&& 1 = 0 then gI τ 13 0 2 else gI τ 52 0 s
theorem om_would (τ : MSto) {s p : Nat} (hs : s < 2 ^ 31) : v_M_wouldOf (nI s) (nI p) (omY τ s) τ = v_M_wouldOf (nI s) (nI p) (gI τ 13 0 2) τ := by
  unfold v_M_wouldOf
  rw [M_would hs, M_would hs]
  have e : ∀ x y, fromY τ s x y (omY τ s) = fromY τ s x y (gI τ 13 0 2) := fun x y => by
    unfold fromY omY
    by_cases g : gI τ 59 0 s &&& 1 = 0
    · rw [if_pos g]
    · rw [if_neg g, if_neg g]
  rw [e]
theorem omY_rg {τ : MSto} (hi : iM τ) {s : Nat} (hs : s < nM τ 17) : rg (omY τ s) 0 199 := by
  unfold omY
  split
  · exact hi.c.2.2.2.2.2.2
  · rename_i g; exact (hi.t s hs).2.1 g
theorem om_papers {σ τ : MSto} (h : Cpl σ τ) {s : Nat} (hs : s < nM τ 17) : v_C_papersAgainst (eL σ 15 s) σ = bitF (fun i => decide (ftN τ i (omY τ s) < 5)) (nM τ 27) ∧ p_C_papersAgainst (eL σ 15 s) σ := by
  have h4 := h.m.c.2.2.2.2.1.2
  have eY : v_St_wovenIn (eL σ 15 s) (gI σ 1 0 1) σ = omY τ s := by
    unfold v_St_wovenIn omY
    rw [cp_hasTerm h hs, h.b.2.1]
    by_cases g : gI τ 59 0 s &&& 1 = 0
    · rw [if_pos (bz (fun q => q g)), if_pos g]
    · rw [if_neg (bn g), if_neg g, (h.t.2.1 s hs).2.2.2.2.1 g]
  have nn : ∀ x, n_C_papersAgainst_17 x 0 σ 0 = nM τ 27 := fun x => by unfold n_C_papersAgainst_17; rw [h.lQ, nI_cl (by omega)]
  unfold v_C_papersAgainst p_C_papersAgainst
  rw [eY, nn]
  constructor
  · have main : ∀ n, n ≤ nM τ 27 → f_C_papersAgainst_17 (omY τ s) 0 σ 0 n = bitF (fun i => decide (ftN τ i (omY τ s) < 5)) n := by
      intro n
      induction n with
      | zero => exact fun _ => rfl
      | succ n ih =>
        intro hn
        show t_C_papersAgainst_17 (omY τ s) (0 + nI n) σ (f_C_papersAgainst_17 (omY τ s) 0 σ 0 n) = _
        have hf := ftN_eq h.m (q := n) (by omega) (omY τ s)
        rw [ih (by omega), bitF_s]
        unfold t_C_papersAgainst_17
        rw [if_neg (ng_cnt (N := v_AL_size 16 0 σ) h.lQ (by omega) (by omega : n < nM τ 27)), z_nI, al_v (by omega), cp_fit h (by omega)]
        by_cases g : ftN τ n (omY τ s) < 5
        · rw [if_neg (fun q => by have := (leN (a := 5) (by decide) (by omega)).mp q; omega), if_pos (decide_eq_true g)]
        · rw [if_pos (show (5 : Int32) ≤ _ from nI_le (a := 5) (by omega) (by omega)), if_neg (fun q => g (of_decide_eq_true q))]
    exact main _ (Nat.le_refl _)
  · refine ⟨fun i hi => ⟨fun _ => ?_, q_cnt (N := v_AL_size 16 0 σ) h.lQ (by omega) hi⟩, fun q => q (e_cnt (N := v_AL_size 16 0 σ) h.lQ)⟩
    rw [z_nI]; exact al_p h.lQ (by omega) hi
noncomputable def omP (τ : MSto) (s p : Nat) : Bool := bt (gI τ 13 0 15) p && decide (lkN τ s p (omY τ s) < 32)
theorem om_lk {τ : MSto} (hi : iM τ) {s p : Nat} (hs : s < nM τ 17) (hp : p < nM τ 10) : v_M_likenessOf (gI τ 51 0 p).toInt64 (v_M_wouldOf (nI s) (nI p) (omY τ s) τ).toInt64 (v_M_spanOf (nI p) τ) τ = nI (lkN τ s p (omY τ s)) ∧ lkN τ s p (omY τ s) ≤ 100 := lkN_eq τ s p (omY τ s)
theorem om_pieces {σ τ : MSto} (h : Cpl σ τ) {s : Nat} (hs : s < nM τ 17) : v_C_piecesAgainst (eL σ 15 s) σ = bitF (omP τ s) (nM τ 10) ∧ p_C_piecesAgainst (eL σ 15 s) σ := by
  have hP := h.P12
  have hS := h.S6
  have nn : n_C_piecesAgainst_4 (eL σ 15 s) 0 σ 0 = nM τ 10 := by unfold n_C_piecesAgainst_4; exact cp_pN h
  have hw : rg (gI τ 13 0 2) 0 199 := h.m.c.2.2.2.2.2.2
  unfold v_C_piecesAgainst p_C_piecesAgainst
  rw [nn]
  have wd : ∀ p, p < nM τ 10 → v_C_wouldBe (eL σ 15 s) p (gI σ 1 0 1) σ = v_M_wouldOf (nI s) (nI p) (omY τ s) τ ∧ p_C_wouldBe (eL σ 15 s) p (gI σ 1 0 1) σ := fun p hp => by
    rw [h.b.2.1, om_would τ (by omega)]
    have := cp_wouldBe h hs hp hw
    exact ⟨this.1, this.2.1⟩
  have sp : ∀ p, p < nM τ 10 → rg (v_M_spanOf (nI p) τ) 1 60 := fun p hp => by
    rw [← cp_span h hp, (h.p.2.2 p hp).2.2.2.2]
    obtain ⟨m, e, hm⟩ := house_rg h.m hp
    rw [e, nI_cl (by omega), (h.h m (by omega)).2]
    exact (h.m.h m (by omega)).2
  constructor
  · have main : ∀ n, n ≤ nM τ 10 → f_C_piecesAgainst_4 (eL σ 15 s) 0 σ 0 n = bitF (omP τ s) n := by
      intro n
      induction n with
      | zero => exact fun _ => rfl
      | succ n ih =>
        intro hn
        show t_C_piecesAgainst_4 (eL σ 15 s) (0 + nI n) σ (f_C_piecesAgainst_4 (eL σ 15 s) 0 σ 0 n) = _
        rw [ih (by omega), bitF_s]
        unfold t_C_piecesAgainst_4
        rw [if_neg (ng_cnt (cp_pieceCount h) (by omega) (by omega)), z_nI, al_v (by omega), h.eP (by omega), (wd n (by omega)).1, cp_span h (by omega)]
        have cC := cp_isC h (p := n) (by omega)
        cases hb : bt (gI τ 13 0 15) n with
        | false =>
          rw [if_pos (cC.mpr hb), if_neg (by unfold omP; rw [hb, Bool.false_and]; decide)]
        | true =>
          have n1 : ¬ gI σ 7 n 4 = 0 := fun q => by have := cC.mp q; rw [hb] at this; cases this
          obtain ⟨l1, l2⟩ := lkN_eq τ s n (omY τ s)
          rw [if_neg n1, (h.n n (by omega)).2 n1, (cp_likeness (τ := τ) h.a _ _ (sp n (by omega))).1, l1]
          by_cases g : lkN τ s n (omY τ s) < 32
          · rw [if_neg (fun q => by have := (leN (a := 32) (by decide) (by omega)).mp q; omega), if_pos (by unfold omP; rw [hb, decide_eq_true g]; rfl)]
          · rw [if_pos (show (32 : Int32) ≤ _ from nI_le (a := 32) (by omega) (by omega)), if_neg (by unfold omP; rw [decide_eq_false g, Bool.and_false]; decide)]
    exact main _ (Nat.le_refl _)
  · refine ⟨fun i hi => ⟨fun _ => ?_, q_cnt (cp_pieceCount h) (by omega) hi⟩, fun q => q (e_cnt (cp_pieceCount h))⟩
    rw [z_nI, al_v (by omega), h.eP hi]
    refine ⟨al_p h.lP (by omega) hi, (wd i hi).2, house_vin h hi, ?_⟩
    rw [cp_span h hi]
    exact (cp_likeness (τ := τ) h.a _ _ (sp i hi)).2.1
theorem om_67 {σ τ : MSto} (h : Cpl σ τ) {n : Nat} (hn : n < 8) (x2 : Int32) (Y : Int32) (x5 : Int32) : f_M_omits_67 (nI n) x2 Y x5 0 τ 0 (n_M_omits_67 (nI n) x2 Y x5 0 τ 0) = bitF (fun i => !bt (gI τ 68 0 n) i && decide (ftN τ i Y < 5)) (nM τ 27) ∧ (∀ i, i < n_M_omits_67 (nI n) x2 Y x5 0 τ 0 → g_M_omits_67 (nI n) x2 Y x5 (0 + nI i) τ (f_M_omits_67 (nI n) x2 Y x5 0 τ 0 i) ∧ ¬ q_M_omits_67s (nI n) x2 Y x5 (0 + nI i) τ (f_M_omits_67 (nI n) x2 Y x5 0 τ 0 i) = 1) ∧ gI τ 13 0 27 ≤ 0 + nI (n_M_omits_67 (nI n) x2 Y x5 0 τ 0) := by
  have h4 := h.m.c.2.2.2.2.1
  have h42 := h4.2
  have nn : n_M_omits_67 (nI n) x2 Y x5 0 τ 0 = nM τ 27 := rfl
  rw [nn]
  refine ⟨?_, fun i hi => ⟨fun _ => ⟨nI_inb hn (by decide), fun _ => ?_⟩, q_cnt h4.1 (by omega) hi⟩, e_cnt h4.1⟩
  · have main : ∀ k, k ≤ nM τ 27 → f_M_omits_67 (nI n) x2 Y x5 0 τ 0 k = bitF (fun i => !bt (gI τ 68 0 n) i && decide (ftN τ i Y < 5)) k := by
      intro k
      induction k with
      | zero => exact fun _ => rfl
      | succ k ih =>
        intro hk
        show t_M_omits_67 (nI n) x2 Y x5 (0 + nI k) τ (f_M_omits_67 (nI n) x2 Y x5 0 τ 0 k) = _
        have hf := ftN_eq h.m (q := k) (by omega) Y
        rw [ih (by omega), bitF_s]
        unfold t_M_omits_67
        rw [if_neg (ng_cnt h4.1 (by omega) (by omega)), z_nI, nI_cl (by omega), cp_hasM _ (by omega), hf.1]
        cases hb : bt (gI τ 68 0 n) k with
        | true => rw [if_neg (bn rfl), if_neg (by rw [Bool.not_true, Bool.false_and]; decide)]
        | false =>
          rw [if_pos (bz (by decide))]
          by_cases g : ftN τ k Y < 5
          · rw [if_neg (fun q => by have := (leN (a := 5) (by decide) (by omega)).mp q; omega), if_pos (by rw [decide_eq_true g]; rfl)]
          · rw [if_pos (show (5 : Int32) ≤ _ from nI_le (a := 5) (by omega) (by omega)), if_neg (by rw [decide_eq_false g, Bool.and_false]; decide)]
    exact main _ (Nat.le_refl _)
  · rw [z_nI]; exact pM_fit h.m hi _
theorem om_119 {σ τ : MSto} (h : Cpl σ τ) {n s : Nat} (hn : n < 8) (hs : s < nM τ 17) (x4 : Int32) {Y : Int32} (eY : Y = omY τ s) : f_M_omits_119 (nI n) (nI s) Y x4 0 τ 0 (n_M_omits_119 (nI n) (nI s) Y x4 0 τ 0) = bitF (fun i => !bt (gI τ 69 0 n) i && omP τ s i) (nM τ 10) ∧ (∀ i, i < n_M_omits_119 (nI n) (nI s) Y x4 0 τ 0 → g_M_omits_119 (nI n) (nI s) Y x4 (0 + nI i) τ (f_M_omits_119 (nI n) (nI s) Y x4 0 τ 0 i) ∧ ¬ q_M_omits_119s (nI n) (nI s) Y x4 (0 + nI i) τ (f_M_omits_119 (nI n) (nI s) Y x4 0 τ 0 i) = 1) ∧ gI τ 13 0 10 ≤ 0 + nI (n_M_omits_119 (nI n) (nI s) Y x4 0 τ 0) := by
  have hP := h.m.c.2.2.1
  have hP2 := hP.2
  have hS := h.S6
  have hYr : rg Y 0 199 := by rw [eY]; exact omY_rg h.m hs
  have nn : n_M_omits_119 (nI n) (nI s) Y x4 0 τ 0 = nM τ 10 := rfl
  have sp : ∀ p, p < nM τ 10 → rg (v_M_spanOf (nI p) τ) 1 60 := fun p hp => by
    rw [← cp_span h hp, (h.p.2.2 p hp).2.2.2.2]
    obtain ⟨m, e, hm⟩ := house_rg h.m hp
    rw [e, nI_cl (by omega), (h.h m (by omega)).2]
    exact (h.m.h m (by omega)).2
  rw [nn]
  refine ⟨?_, fun i hi => ⟨fun _ => ⟨nI_inb hn (by decide), fun _ _ => ?_⟩, q_cnt hP.1 (by omega) hi⟩, e_cnt hP.1⟩
  · have main : ∀ k, k ≤ nM τ 10 → f_M_omits_119 (nI n) (nI s) Y x4 0 τ 0 k = bitF (fun i => !bt (gI τ 69 0 n) i && omP τ s i) k := by
      intro k
      induction k with
      | zero => exact fun _ => rfl
      | succ k ih =>
        intro hk
        show t_M_omits_119 (nI n) (nI s) Y x4 (0 + nI k) τ (f_M_omits_119 (nI n) (nI s) Y x4 0 τ 0 k) = _
        obtain ⟨l1, l2⟩ := lkN_eq τ s k (omY τ s)
        rw [ih (by omega), bitF_s]
        unfold t_M_omits_119
        rw [if_neg (ng_cnt hP.1 (by omega) (by omega)), z_nI, nI_cl (by omega), nI_cl (by omega), cp_hasM _ (by omega), cp_hasM _ (by omega), eY, l1]
        cases hb : bt (gI τ 69 0 n) k with
        | true => rw [if_neg (bn rfl), if_neg (by rw [Bool.not_true, Bool.false_and]; decide)]
        | false =>
          rw [if_pos (bz (by decide))]
          cases hc : bt (gI τ 13 0 15) k with
          | false => rw [if_pos (bz (by decide)), if_neg (by unfold omP; rw [hc, Bool.false_and, Bool.and_false]; decide)]
          | true =>
            rw [if_neg (bn rfl)]
            by_cases g : lkN τ s k (omY τ s) < 32
            · rw [if_neg (fun q => by have := (leN (a := 32) (by decide) (by omega)).mp q; omega), if_pos (by unfold omP; rw [hc, decide_eq_true g]; rfl)]
            · rw [if_pos (show (32 : Int32) ≤ _ from nI_le (a := 32) (by omega) (by omega)), if_neg (by unfold omP; rw [decide_eq_false g, Bool.and_false, Bool.and_false]; decide)]
    exact main _ (Nat.le_refl _)
  · rw [z_nI, nI_cl (by omega)]
    exact ⟨nI_inb (by omega) (by decide), (cp_wouldBe h hs hi hYr).2.2, pc_spanOf h.m hi, (cp_likeness (τ := τ) h.a (gI τ 51 0 i) _ (sp i hi)).2.2⟩
theorem T_omits {σ τ : MSto} (h : Cpl σ τ) (a : Int32) : p_C_omits a σ ∧ p_M_omits a τ ∧ v_C_omits a σ = v_M_omits a τ ∧ Cpl (e_C_omits a σ) (e_M_omits a τ) := by
  have h1 := h.e0
  unfold p_C_omits p_M_omits v_C_omits v_M_omits e_C_omits e_M_omits
  generalize sI τ 13 0 52 0 = τ1 at h1 ⊢
  simp only [cp_isIn, M_in]
  by_cases g : 0 ≤ a ∧ a ≤ 7
  · simp only [if_neg (bn g)]
    obtain ⟨n, rfl, hn⟩ := nat_rg (b := 7) g (by decide)
    rw [nI_cl (by omega)]
    rcases h1.w n (by omega) with ⟨k1, k2⟩ | ⟨q, k1, k2, k3, k4, k5, k6⟩
    · rw [k1, if_pos (has_no τ1 k2), if_pos (has_no τ1 k2)]
      exact ⟨fun _ => ⟨nI_inb (by omega) (by decide), fun z hz => by cases hz⟩, fun _ c => absurd (has_no τ1 k2) c, rfl, h1⟩
    · have hw := h1.m.w.2 n (by omega) (by rw [k3]; decide)
      have hS := h1.S6
      obtain ⟨s, es, hs⟩ : ∃ s, gI τ1 67 0 n = nI s ∧ s < nM τ1 17 := by
        obtain ⟨s, e, e1, e2⟩ := nat_of hw.1
        refine ⟨s, e, ?_⟩
        have := hw.2
        rw [e, h1.m.c.2.2.2.1.1] at this
        exact (ltN e1 (by omega)).mp this
      have isS : ¬ v_C_isStory (nI s) σ = 0 := by
        rw [cp_isStory h1]
        unfold v_M_isStory
        rw [bI_n0, h1.m.c.2.2.2.1.1, in_cnt (by omega)]
        exact ⟨nI_pos' (by omega), (ltN (by omega) (by omega)).mpr hs⟩
      have hm := has_of τ1 k3
      rw [es] at k4
      obtain ⟨p1, p2⟩ := om_papers h1 hs
      obtain ⟨p3, p4⟩ := om_pieces h1 hs
      have hQ := h1.m.c.2.2.2.2.1.2
      have hP := h1.P12
      have v8 : vp_in (nI n) 8 := nI_inb (by omega) (by decide)
      have vs : p_M_hasTerm (nI s) 1 τ1 := nI_inb (by omega) (by decide)
      have get := al_p h1.lS (by omega) hs
      rw [k1, if_neg hm, if_neg hm, es]
      show (_ → _ ∧ ∀ z1, some q = some z1 → _) ∧ _ ∧ (if v_C_isStory (gI σ 11 q 0) σ = 0 then _ else _) = _ ∧ Cpl (if v_C_isStory (gI σ 11 q 0) σ = 0 then _ else _) _
      rw [k4, if_neg isS, if_neg isS, al_v (by omega), p1, p3, k5, k6, bitF_but _ _ (by omega), bitF_but _ _ (by omega)]
      obtain ⟨A, eA⟩ : ∃ A, A = bitF (fun i => !bt (gI τ1 68 0 n) i && decide (ftN τ1 i (omY τ1 s) < 5)) (nM τ1 27) := ⟨_, rfl⟩
      obtain ⟨B, eB⟩ : ∃ B, B = bitF (fun i => !bt (gI τ1 69 0 n) i && omP τ1 s i) (nM τ1 10) := ⟨_, rfl⟩
      rw [← eA, ← eB]
      obtain ⟨r1, r2, r3⟩ := row2 h1 A.toInt64 B.toInt64
      have c0 := kR_clear σ τ1
      have k7 := kR_add c0 (by rw [rN_clear]; decide) A.toInt64
      have C1 : ∀ z1, some q = some z1 → ¬ v_C_isStory (gI σ 11 z1 0) σ = 0 → p_AL_get 15 0 (gI σ 11 z1 0) σ ∧ p_C_papersAgainst (v_AL_get 15 0 (gI σ 11 z1 0) σ) σ ∧ p_C_piecesAgainst (v_AL_get 15 0 (gI σ 11 z1 0) σ) σ ∧ p_Ro_add (Int32.toInt64 (v_C_papersAgainst (v_AL_get 15 0 (gI σ 11 z1 0) σ) σ &&& (gI σ 11 z1 1 ^^^ -1))) (e_Ro_clear σ) ∧ gj_C_omits_j98 (v_C_papersAgainst (v_AL_get 15 0 (gI σ 11 z1 0) σ) σ &&& (gI σ 11 z1 1 ^^^ -1)) (v_C_piecesAgainst (v_AL_get 15 0 (gI σ 11 z1 0) σ) σ &&& (gI σ 11 z1 2 ^^^ -1)) (e_Ro_add (Int32.toInt64 (v_C_papersAgainst (v_AL_get 15 0 (gI σ 11 z1 0) σ) σ &&& (gI σ 11 z1 1 ^^^ -1))) (e_Ro_clear σ)) := by
        intro z1 hz _
        cases hz
        rw [k4, al_v (by omega), p1, p3, k5, k6, bitF_but _ _ (by omega), bitF_but _ _ (by omega), ← eA, ← eB]
        exact ⟨get, p2, p4, pC_add _ c0, pC_add _ k7⟩
      unfold vj_C_omits_j98 ej_C_omits_j98
      by_cases gw : v_M_hasTerm (nI s) 1 τ1 = 0
      · have eY : gI τ1 13 0 2 = omY τ1 s := by
          rw [M_hasTerm (by omega)] at gw
          unfold omY
          rw [if_pos]
          exact Classical.byContradiction (fun c => absurd gw (bn c))
        obtain ⟨a1, a2, a3⟩ := om_67 h1 (n := n) (by omega) (nI s) (gI τ1 13 0 2) 0
        rw [eY, ← eA] at a1
        rw [eY] at a2 a3
        rw [if_pos gw, if_pos gw, eY, a1]
        obtain ⟨b1, b2, b3⟩ := om_119 h1 (n := n) (by omega) hs A rfl
        rw [← eB] at b1
        rw [b1]
        exact ⟨fun _ => ⟨v8, C1⟩, fun _ _ => ⟨v8, vs, fun _ => ⟨a2, fun _ => ⟨b2, fun _ => ⟨r2, r3⟩, fun c => c b3⟩, fun c => c a3⟩, fun c => absurd gw c⟩, rfl, r1⟩
      · have eY : gI τ1 52 0 s = omY τ1 s := by
          rw [M_hasTerm (by omega)] at gw
          unfold omY
          rw [if_neg]
          exact bI_n0.mp gw
        obtain ⟨a1, a2, a3⟩ := om_67 h1 (n := n) (by omega) (nI s) (gI τ1 52 0 s) 0
        rw [eY, ← eA] at a1
        rw [eY] at a2 a3
        rw [if_neg gw, if_neg gw, nI_cl (i := s) (by omega), eY, a1]
        obtain ⟨b1, b2, b3⟩ := om_119 h1 (n := n) (by omega) hs A rfl
        rw [← eB] at b1
        rw [b1]
        exact ⟨fun _ => ⟨v8, C1⟩, fun _ _ => ⟨v8, vs, fun c => absurd c gw, fun _ => ⟨nI_inb (by omega) (by decide), a2, fun _ => ⟨b2, fun _ => ⟨r2, r3⟩, fun c => c b3⟩, fun c => c a3⟩⟩, rfl, r1⟩
  · simp only [if_pos (bz g)]
    exact ⟨fun q => absurd (bz g) q, fun q => absurd (bz g) q, trivial, h1⟩

