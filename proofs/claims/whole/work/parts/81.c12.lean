/-! look, sign, younger, must, sheet -/
theorem nfold2 {α β : Type} {R : Nat → α → β → Prop} {f : Nat → α → α} {g : Nat → β → β} {a : α} {b : β} (h0 : R 0 a b) : ∀ {n : Nat}, (∀ i, i < n → ∀ x y, R i x y → R (i + 1) (f i x) (g i y)) → R n (nfold f a n) (nfold g b n)
  | 0, _ => h0
  | n + 1, h => h n (by omega) _ _ (nfold2 h0 (fun i hi => h i (by omega)))
theorem pop8 {k : Nat} (hk : k < 256) : pop k ≤ 8 := by
  unfold pop
  rw [← popF_eq]
  exact (by decide +kernel : ∀ k, k < 256 → popF 15 k ≤ 8) k hk
theorem open_rg (a b : Int32) (τ : MSto) : rg (v_M_openBy a b τ) 0 255 := by
  show rg (nfold (fun i s => t_M_openBy_5 a b (0 + nI i) τ s) 0 8) 0 255
  refine nfold_ind (Q := fun x => rg x 0 255) ⟨by decide, by decide⟩ (fun i hi x hx => ?_)
  show rg (t_M_openBy_5 a b (0 + nI i) τ x) 0 255
  unfold t_M_openBy_5
  rw [if_neg (ng_cnt l8 (by decide) hi), z_nI]
  exact ite_P (P := fun z => rg z 0 255) hx (ite_P (P := fun z => rg z 0 255) (ite_P (P := fun z => rg z 0 255) (or_bit hx hi).1 hx) hx)
theorem openCnt (a b : Int32) (τ σ : MSto) : ∃ k, v_In_bitCount (v_M_openBy a b τ) σ = nI k ∧ k ≤ 8 := by
  obtain ⟨k, e, hk⟩ := nat_rg (b := 255) (open_rg a b τ) (by decide)
  exact ⟨pop k, by rw [e, bitCount_nI (by omega)], pop8 (by omega)⟩
theorem worst_nat (a b c d : Int32) (τ σ : MSto) : ∃ k, v_Ma_max (v_In_bitCount (v_M_openBy a b τ) σ) (v_In_bitCount (v_M_openBy c d τ) σ) σ = nI k ∧ k ≤ 8 := by
  obtain ⟨k1, e1, h1⟩ := openCnt a b τ σ
  obtain ⟨k2, e2, h2⟩ := openCnt c d τ σ
  rw [e1, e2]
  unfold v_Ma_max
  split
  · exact ⟨k2, rfl, h2⟩
  · exact ⟨k1, rfl, h1⟩
def lookR (x y : Int32 × Int32) : Prop := (x = (-2, 9) ∧ y = (-2, 0)) ∨ ∃ m f, m < 8 ∧ x = (nI m, f) ∧ y = (nI m, f)
theorem s_look {σ τ : MSto} (h : Cpl σ τ) (a b : Int32) {i : Nat} (hi : i < 8) (x y : Int32 × Int32) (hr : lookR x y) : lookR (t_C_look_20 a b (0 + nI i) σ x) (t_M_look_24 a b (0 + nI i) τ y) := by
  unfold t_C_look_20 t_M_look_24
  rw [if_neg (ng_cnt l8 (by decide) hi), if_neg (ng_cnt l8 (by decide) hi), z_nI, cp_openHows h, cp_openHows h, cp_hasC _ (by omega), cp_hasM _ (by omega)]
  by_cases g : bt (a ||| b) i = true
  · rw [if_neg (bn g), if_neg (bn g)]; exact hr
  · rw [if_pos (bz g), if_pos (bz g)]
    obtain ⟨k, e, hk⟩ := worst_nat (a ||| ((1 : Int32) <<< (nI i &&& 31))) b a (b ||| ((1 : Int32) <<< (nI i &&& 31))) τ σ
    have e2 : v_Ma_max (v_In_bitCount (v_M_openBy (a ||| ((1 : Int32) <<< (nI i &&& 31))) b τ) τ) (v_In_bitCount (v_M_openBy a (b ||| ((1 : Int32) <<< (nI i &&& 31))) τ) τ) τ = nI k := e
    rw [e, e2]
    rcases hr with ⟨rfl, rfl⟩ | ⟨m, f, hm, rfl, rfl⟩
    · rw [if_neg (show ¬ (9 : Int32) ≤ nI k from nI_ge (b := 9) (by omega) (by decide)), if_pos (show (-2 : Int32) < 0 by decide)]
      exact Or.inr ⟨i, nI k, hi, rfl, rfl⟩
    · show lookR (if f ≤ nI k then (nI m, f) else (nI i, nI k)) (if nI m < 0 then (nI i, nI k) else if nI k < f then (nI i, nI k) else (nI m, f))
      rw [if_neg (nI_pos (by omega))]
      by_cases q : f ≤ nI k
      · rw [if_pos q, if_neg (Int32.not_lt.mpr q)]; exact Or.inr ⟨m, f, hm, rfl, rfl⟩
      · rw [if_neg q, if_pos (Int32.not_le.mp q)]; exact Or.inr ⟨i, _, hi, rfl, rfl⟩
theorem nI_nm2 {m : Nat} (h : m < 2 ^ 31) : ¬ nI m = -2 := fun q => absurd (show (0 : Int32) ≤ -2 from q ▸ nI_pos' h) (by decide)
theorem T_look {σ τ : MSto} (h : Cpl σ τ) (a b : Int32) : p_C_look a b σ ∧ p_M_look a b τ ∧ v_C_look a b σ = v_M_look a b τ ∧ Cpl (e_C_look a b σ) (e_M_look a b τ) := by
  have h1 := h.e0
  unfold p_C_look p_M_look v_C_look v_M_look e_C_look e_M_look
  generalize sI τ 13 0 52 0 = τ1 at h1 ⊢
  simp only [C_areMarks, M_areMarks]
  by_cases g : (0 ≤ a ∧ a ≤ 255) ∧ (0 ≤ b ∧ b ≤ 255) ∧ a &&& b = 0
  · simp only [if_neg (bn g)]
    have hr : lookR (f_C_look_20 a b 0 σ ((-2), 9) (n_C_look_20 a b 0 σ ((-2), 9))) (f_M_look_24 a b 0 τ1 ((-2), 0) (n_M_look_24 a b 0 τ1 ((-2), 0))) := by
      show lookR (nfold (fun i s => t_C_look_20 a b (0 + nI i) σ s) ((-2), 9) 8) (nfold (fun i s => t_M_look_24 a b (0 + nI i) τ1 s) ((-2), 0) 8)
      exact nfold2 (R := fun _ => lookR) (Or.inl ⟨rfl, rfl⟩) (fun i hi x y q => s_look h1 a b hi x y q)
    refine ⟨fun _ => ⟨fun i hi => ⟨fun _ _ => ⟨pc_openHows _ _ _, pc_openHows _ _ _⟩, q_cnt l8 (by decide) hi⟩, fun _ _ => (row1 h1 _).2.1, fun q => q (e_cnt l8)⟩, fun _ => ⟨fun i hi => ⟨fun _ _ => ⟨pM_openBy _ _ _, pM_openBy _ _ _⟩, q_cnt l8 (by decide) hi⟩, fun _ _ => (row1 h1 _).2.2, fun q => q (e_cnt l8)⟩, ?_, ?_⟩
    · rcases hr with ⟨e1, e2⟩ | ⟨m, f, hm, e1, e2⟩
      · rw [e1, e2]; rfl
      · rw [e1, e2]
        show nI m = if 0 ≤ nI m then nI m else -2
        rw [if_pos (nI_pos' (by omega))]
    · rcases hr with ⟨e1, e2⟩ | ⟨m, f, hm, e1, e2⟩
      · rw [e1, e2]; exact h1
      · rw [e1, e2]
        show Cpl (if nI m = -2 then σ else e_Ro_add (Int32.toInt64 f) (e_Ro_clear σ)) (if 0 ≤ nI m then e_M_tell (Int32.toInt64 f) (sI τ1 13 0 51 0) else τ1)
        rw [if_neg (nI_nm2 (by omega)), if_pos (nI_pos' (by omega))]
        exact (row1 h1 _).1
  · simp only [if_pos (bz g)]
    exact ⟨fun q => absurd (bz g) q, fun q => absurd (bz g) q, trivial, h1⟩
/-! younger -/
theorem leastN_more {P Q : Nat → Prop} {n : Nat} (h : ∀ i, i < n → (P i ↔ Q i)) (hn : P n) : leastN P (n + 1) = leastN Q n := by
  have e := leastN_congr h
  have hl := leastN_le Q n
  show @ite _ (leastN P n < n) (Classical.propDecidable _) (leastN P n) (@ite _ (P n) (Classical.propDecidable _) n (n + 1)) = _
  rw [e]
  split
  · rfl
  · omega
theorem yC {σ τ : MSto} (h : Cpl σ τ) {a b : Int32} (ha : rg a 0 199) (hb : rg b 0 199) (c x : Int32) (s t : Unit) : q_C_younger_45s c (v_Cu_at a σ) (v_Cu_at b σ) x σ s = q_M_younger_24s a b c x τ t := by
  unfold q_C_younger_45s q_M_younger_24s
  rw [cp_at h ha, cp_at h hb]
  rfl
theorem T_younger {σ τ : MSto} (h : Cpl σ τ) (a b c : Int32) : p_C_younger a b c σ ∧ p_M_younger a b c τ ∧ v_C_younger a b c σ = v_M_younger a b c τ ∧ Cpl σ (e_M_younger a b c τ) := by
  have h1 := h.e0
  unfold p_C_younger p_M_younger v_C_younger v_M_younger e_M_younger
  generalize sI τ 13 0 52 0 = τ1 at h1 ⊢
  simp only [cp_isYear, M_isYear]
  by_cases g : 0 ≤ a ∧ a ≤ 199
  · by_cases g2 : 0 ≤ b ∧ b ≤ 199
    · simp only [if_neg (bn g), if_neg (bn g2)]
      have va : vp_in a 200 := rgI g (by decide) rfl
      have vb : vp_in b 200 := rgI g2 (by decide) rfl
      obtain ⟨N, eN⟩ : ∃ N, N = n_M_younger_24 a b c 0 τ1 () := ⟨_, rfl⟩
      have hN : N ≤ 101 := by rw [eN]; exact leastN_le _ _
      have on : ∀ i, i < N → ¬ q_M_younger_24s a b c (0 + nI i) τ1 () = 1 := fun i hi => by
        rw [eN] at hi
        exact leastN_on (P := fun i => q_M_younger_24s a b c (0 + nI i) τ1 () = 1) hi
      have off : N < 101 → q_M_younger_24s a b c (0 + nI N) τ1 () = 1 := fun hi => by
        rw [eN] at hi ⊢
        exact leastN_off (P := fun i => q_M_younger_24s a b c (0 + nI i) τ1 () = 1) hi
      have eC : n_C_younger_45 c (v_Cu_at a σ) (v_Cu_at b σ) 0 σ () = N := by
        rw [eN]
        refine leastN_more (n := 101) (fun i _ => ?_) ?_
        · rw [yC h1 g g2 c (0 + nI i) _ ()]
        · unfold q_C_younger_45s
          rw [if_pos (by decide)]
      have last : ¬ 100 < 0 + nI N → ¬ c < v_M_mixed (gI τ1 41 0 a.toNatClampNeg) b (0 + nI N) τ1 := fun q z => by
        have h100 : N ≤ 100 := by
          rw [z_nI] at q
          exact Nat.le_of_not_lt (fun w => q ((ltN (a := 100) (by decide) (by omega)).mpr w))
        have o := off (by omega)
        unfold q_M_younger_24s at o
        rw [if_neg q, if_pos z] at o
        cases o
      rw [eC, ← eN]
      refine ⟨fun _ _ => ⟨pc_at _ _, pc_at _ _, fun i hi => ⟨trivial, ?_⟩, fun q z => ?_⟩, fun _ _ => ⟨fun i hi => ⟨fun _ => ⟨va, vb⟩, on i hi⟩, fun q => ⟨va, vb, fun z => last q z⟩⟩, rfl, h1⟩
      · rw [yC h1 g g2 c (0 + nI i) _ ()]; exact on i hi
      · refine last q ?_
        rw [cp_at h1 g, cp_at h1 g2] at z
        exact z
    · simp only [if_neg (bn g), if_pos (bz g2)]
      exact ⟨fun _ q => absurd (bz g2) q, fun _ q => absurd (bz g2) q, trivial, h1⟩
  · simp only [if_pos (bz g)]
    exact ⟨fun q => absurd (bz g) q, fun q => absurd (bz g) q, trivial, h1⟩
/-! must -/
theorem nI_1s (n : Nat) : (1 : Int32) + nI n = nI (n + 1) := by rw [Int32.add_comm]; exact nI_s n
theorem f_must {σ τ : MSto} (h : Cpl σ τ) {a b c : Int32} (ha : rg a 0 199) : ∀ n, n ≤ 199 → f_C_must_63 b c (v_Cu_at a σ) 1 σ (0, (v_C_gap (Int32.toInt64 (v_C_mixOf (v_Cu_at 0 σ) (v_Cu_at a σ) b σ)) (Int32.toInt64 c) σ)) n = f_M_must_33 a b c 0 τ (0, 0) (n + 1)
  | 0, _ => by
    show ((0 : Int32), _) = t_M_must_33 a b c (0 + nI 0) τ (0, 0)
    unfold t_M_must_33
    rw [if_neg (by decide), if_pos (by decide), cp_at h ha, cp_at h (a := 0) ⟨by decide, by decide⟩]
    rfl
  | n + 1, hn => by
    have ih := f_must h (b := b) (c := c) ha n (by omega)
    show t_C_must_63 b c (v_Cu_at a σ) (1 + nI n) σ (f_C_must_63 b c (v_Cu_at a σ) 1 σ _ n) = t_M_must_33 a b c (0 + nI (n + 1)) τ (f_M_must_33 a b c 0 τ (0, 0) (n + 1))
    rw [ih]
    generalize f_M_must_33 a b c 0 τ (0, 0) (n + 1) = s
    rw [nI_1s, z_nI]
    have hy : rg (nI (n + 1)) 0 199 := ⟨nI_pos' (by omega), nI_le (b := 199) (by omega) (by decide)⟩
    unfold t_C_must_63 t_M_must_33
    rw [if_neg (show ¬ (200 : Int32) ≤ nI (n + 1) from nI_ge (b := 200) (by omega) (by decide)), if_neg (show ¬ (200 : Int32) ≤ nI (n + 1) from nI_ge (b := 200) (by omega) (by decide)), if_neg (nI_nle (by omega) (by omega)), cp_at h ha, cp_at h hy]
    show (if 0 ≤ lg_cmp (v_Ma_absJ ((Int32.toInt64 (v_M_mixed (gI τ 41 0 (nI (n + 1)).toNatClampNeg) a b τ)) - (Int32.toInt64 c)) τ) s.2 then (s.1, s.2) else (nI (n + 1), _)) = _
    by_cases g : 0 ≤ lg_cmp (v_Ma_absJ ((Int32.toInt64 (v_M_mixed (gI τ 41 0 (nI (n + 1)).toNatClampNeg) a b τ)) - (Int32.toInt64 c)) τ) s.2
    · rw [if_pos g, if_neg (Int32.not_lt.mpr g)]
    · rw [if_neg g, if_pos (Int32.not_le.mp g)]; rfl
theorem T_must {σ τ : MSto} (h : Cpl σ τ) (a b c : Int32) : p_C_must a b c σ ∧ p_M_must a b c τ ∧ v_C_must a b c σ = v_M_must a b c τ ∧ Cpl (e_C_must a b c σ) (e_M_must a b c τ) := by
  have h1 := h.e0
  unfold p_C_must p_M_must v_C_must v_M_must e_C_must e_M_must
  generalize sI τ 13 0 52 0 = τ1 at h1 ⊢
  simp only [cp_isYear, M_isYear, cp_isIn, M_in]
  by_cases g : 0 ≤ a ∧ a ≤ 199
  · by_cases g2 : 0 ≤ b ∧ b ≤ 100
    · simp only [if_neg (bn g), if_neg (bn g2)]
      have va : vp_in a 200 := rgI g (by decide) rfl
      have hf : f_C_must_63 b c (v_Cu_at a σ) 1 σ (0, (v_C_gap (Int32.toInt64 (v_C_mixOf (v_Cu_at 0 σ) (v_Cu_at a σ) b σ)) (Int32.toInt64 c) σ)) (n_C_must_63 b c (v_Cu_at a σ) 1 σ (0, (v_C_gap (Int32.toInt64 (v_C_mixOf (v_Cu_at 0 σ) (v_Cu_at a σ) b σ)) (Int32.toInt64 c) σ))) = f_M_must_33 a b c 0 τ1 (0, 0) (n_M_must_33 a b c 0 τ1 (0, 0)) := f_must h1 g 199 (by omega)
      rw [hf]
      obtain ⟨r1, r2, r3⟩ := row1 h1 (f_M_must_33 a b c 0 τ1 (0, 0) (n_M_must_33 a b c 0 τ1 (0, 0))).2
      refine ⟨fun _ _ => ⟨pc_at _ _, pc_at _ _, fun i hi => ⟨fun _ => pc_at _ _, ?_⟩, fun _ => r2, fun q => q ?_⟩, fun _ _ => ⟨fun i hi => ⟨fun _ => ⟨?_, va⟩, q_cnt l200 (by decide) hi⟩, fun _ => r3, fun q => q (e_cnt l200)⟩, rfl, r1⟩
      · have hi' : i < 199 := hi
        unfold q_C_must_63s
        rw [nI_1s, if_neg (show ¬ (200 : Int32) ≤ nI (i + 1) from nI_ge (b := 200) (by omega) (by decide))]
        decide
      · show (200 : Int32) ≤ 1 + nI 199
        decide
      · rw [z_nI]; exact nI_inb hi (by decide)
    · simp only [if_neg (bn g), if_pos (bz g2)]
      exact ⟨fun _ q => absurd (bz g2) q, fun _ q => absurd (bz g2) q, trivial, h1⟩
  · simp only [if_pos (bz g)]
    exact ⟨fun q => absurd (bz g) q, fun q => absurd (bz g) q, trivial, h1⟩

