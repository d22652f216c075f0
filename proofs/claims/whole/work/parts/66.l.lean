/-! likeness, what a story would count -/
theorem sp_nat {s : Int32} (hs : rg s 1 60) : ∃ n : Nat, s = nI n ∧ 1 ≤ n ∧ n ≤ 60 := by
  obtain ⟨n, e, h1, h2⟩ := rg_nat hs (by decide)
  have e1 : (1 : Int32).toInt = 1 := rfl
  have e60 : (60 : Int32).toInt = 60 := rfl
  exact ⟨n, e, by omega, by omega⟩
theorem gap_nat (a v : Int32) (σ : MSto) : ∃ g : Nat, v_Ma_absJ (a.toInt64 - v.toInt64) σ = lN g ∧ g = (a.toInt - v.toInt).natAbs ∧ g < 2 ^ 33 := by
  have ra := fb_rng a
  have rv := fb_rng v
  have e : (a.toInt64 - v.toInt64).toInt = a.toInt - v.toInt := by
    rw [fb_subL (by rw [Int32.toInt_toInt64, Int32.toInt_toInt64]; omega) (by rw [Int32.toInt_toInt64, Int32.toInt_toInt64]; omega), Int32.toInt_toInt64, Int32.toInt_toInt64]
  refine ⟨_, ?_, rfl, by omega⟩
  rw [← e]
  exact ab_lN (by rw [e]; omega)
theorem like_nat (a v : Int32) {s : Int32} (hs : rg s 1 60) (σ : MSto) : ∃ D : Nat, (2 * (v_Ma_absJ (a.toInt64 - v.toInt64) σ)) / s.toInt64 = lN D ∧ D < 2 ^ 34 := by
  obtain ⟨g, e1, -, h1⟩ := gap_nat a v σ
  obtain ⟨n, rfl, hn1, hn2⟩ := sp_nat hs
  refine ⟨2 * g / n, ?_, Nat.lt_of_le_of_lt (Nat.div_le_self _ _) (by omega)⟩
  rw [e1, nI_l (by omega), lit_lN 2, lN_mul, pk_lDiv (by omega) (by omega) (by omega)]
theorem cp_likeness {σ τ : MSto} (hA : kA σ) (a v : Int32) {s : Int32} (hs : rg s 1 60) : v_C_likenessOf a v s σ = v_M_likenessOf a.toInt64 v.toInt64 s τ ∧ p_C_likenessOf a v s σ ∧ p_M_likenessOf a.toInt64 v.toInt64 s τ := by
  obtain ⟨D, e, hD⟩ := like_nat a v hs σ
  have e2 : (2 * (v_Ma_absJ (a.toInt64 - v.toInt64) τ)) / s.toInt64 = lN D := e
  have e3 : (2 * (v_C_gap a.toInt64 v.toInt64 σ)) / s.toInt64 = lN D := e
  have c7 : 0 ≤ lg_cmp (lN D) (Int32.toInt64 (Int32.ofNat 7)) ↔ 7 ≤ D := by
    rw [cmp_ge, show Int32.toInt64 (Int32.ofNat 7) = lN 7 from rfl]
    exact pk_lLE (by decide) (by omega)
  have c6 : lg_cmp (lN D) 6 ≤ 0 ↔ D ≤ 6 := by
    rw [cmp_le, lit_lN 6]
    exact pk_lLE (by omega) (by decide)
  have h0 : ¬ s.toInt64 = 0 := rg_ne0 hs
  refine ⟨?_, ?_, h0⟩
  · unfold v_C_likenessOf v_M_likenessOf
    rw [e2, e3, if_pos hs.1]
    by_cases g : 7 ≤ D
    · rw [if_pos (c7.mpr g), if_neg (fun q => by have := c6.mp q; omega)]
    · rw [if_neg (fun q => g (c7.mp q)), if_pos (c6.mpr (by omega)), lN_i, nI_cl (by omega)]
      obtain ⟨⟨a0, a1, a2, a3, a4, a5, a6⟩, -⟩ := hA
      have : D = 0 ∨ D = 1 ∨ D = 2 ∨ D = 3 ∨ D = 4 ∨ D = 5 ∨ D = 6 := by omega
      rcases this with rfl | rfl | rfl | rfl | rfl | rfl | rfl
      · rw [a0]; rfl
      · rw [a1]; rfl
      · rw [a2]; rfl
      · rw [a3]; rfl
      · rw [a4]; rfl
      · rw [a5]; rfl
      · rw [a6]; rfl
  · intro _
    rw [e3]
    refine ⟨h0, fun q => ?_⟩
    rw [lN_i]
    exact nI_inb (Nat.lt_of_not_le (fun g => q (c7.mpr g))) (by decide)
/-! what a story would count -/
theorem cp_hasTerm {σ τ : MSto} (h : Cpl σ τ) {s : Nat} (hs : s < nM τ 17) (t : Int32) : v_St_hasTerm (eL σ 15 s) t σ = bI (¬ gI τ 59 0 s &&& t = 0) := by
  unfold v_St_hasTerm b_St_hasTerm
  rw [(h.t.2.1 s hs).2.2.1]
  refine bI_congr ?_
  simp only [ite_ff, and_true]
theorem M_hasTerm {τ : MSto} {s : Nat} (hs : s < 2 ^ 31) (t : Int32) : v_M_hasTerm (nI s) t τ = bI (¬ gI τ 59 0 s &&& t = 0) := by
  unfold v_M_hasTerm
  rw [nI_cl hs]
/-- the year of the thread -/
noncomputable def fromY (τ : MSto) (s : Nat) (x y yr : Int32) : Int32 := if ¬ gI τ 59 0 s &&& 4 = 0 ∧ ¬ 4 ≤ x ∧ ¬ 2 ≤ y then gI τ 55 0 s else if gI τ 59 0 s &&& 1 = 0 then yr else gI τ 52 0 s
noncomputable def coreW (τ : MSto) (s : Nat) (x y w yr : Int32) : Int32 := if gI τ 59 0 s &&& 2 = 0 then v_M_withStuff (gI τ 41 0 yr.toNatClampNeg) x y w τ else v_M_mixed (v_M_withStuff (gI τ 41 0 yr.toNatClampNeg) x y w τ) (gI τ 53 0 s) (gI τ 54 0 s) τ
noncomputable def offW (τ : MSto) (s : Nat) (hh : Int32) : Int32 := if gI τ 57 0 s = hh then gI τ 58 0 s else 0
theorem fromY_rg {τ : MSto} (hi : iM τ) {s : Nat} (hs : s < nM τ 17) (x y : Int32) {yr : Int32} (hy : rg yr 0 199) : rg (fromY τ s x y yr) 0 199 := by
  obtain ⟨t0, t1, t2, t4, -⟩ := hi.t s hs
  unfold fromY
  split
  · rename_i g; exact t4 g.1
  · split
    · exact hy
    · rename_i g; exact t1 g
theorem M_j49 {τ : MSto} {s : Nat} (hs : s < 2 ^ 31) (x y w hh yr : Int32) : vj_M_wouldAt_j49 (nI s) x y w hh yr τ = ((coreW τ s x y w yr + gI τ 45 0 hh.toNatClampNeg) + gI τ 56 0 s * x) + offW τ s hh := by
  unfold vj_M_wouldAt_j49 coreW offW
  rw [M_hasTerm hs, nI_cl hs]
  by_cases g : gI τ 59 0 s &&& 2 = 0
  · rw [if_pos (bI_f (fun q => q g)), if_pos g]
    split <;> rfl
  · rw [if_neg (by rw [bI_t g]; decide), if_neg g]
    split <;> rfl
theorem M_would {τ : MSto} {s : Nat} (hs : s < 2 ^ 31) (x y w hh yr : Int32) : v_M_wouldAt (nI s) x y w hh yr τ = ((coreW τ s x y w (fromY τ s x y yr) + gI τ 45 0 hh.toNatClampNeg) + gI τ 56 0 s * x) + offW τ s hh := by
  have J : ∀ y0, vj_M_wouldAt_j20 (nI s) x y w hh y0 τ = ((coreW τ s x y w (if ¬ gI τ 59 0 s &&& 4 = 0 ∧ ¬ 4 ≤ x ∧ ¬ 2 ≤ y then gI τ 55 0 s else y0) + gI τ 45 0 hh.toNatClampNeg) + gI τ 56 0 s * x) + offW τ s hh := by
    intro y0
    unfold vj_M_wouldAt_j20
    rw [M_hasTerm hs, M_j49 hs, M_j49 hs, nI_cl hs]
    by_cases g : gI τ 59 0 s &&& 4 = 0
    · rw [if_pos (bI_f (fun q => q g)), if_neg (fun q => q.1 g)]
    · rw [if_neg (by rw [bI_t g]; decide)]
      by_cases g1 : 4 ≤ x
      · rw [if_pos g1, if_neg (fun q => q.2.1 g1)]
      · rw [if_neg g1]
        by_cases g2 : 2 ≤ y
        · rw [if_pos g2, if_neg (fun q => q.2.2 g2)]
        · rw [if_neg g2, if_pos ⟨g, g1, g2⟩]
  unfold v_M_wouldAt
  rw [M_hasTerm hs, J, J, nI_cl hs]
  unfold fromY
  by_cases g : gI τ 59 0 s &&& 1 = 0
  · rw [if_pos (bI_f (fun q => q g)), if_pos g]
  · rw [if_neg (by rw [bI_t g]; decide), if_neg g]
theorem cp_bare {σ τ : MSto} (h : Cpl σ τ) {s : Nat} (hs : s < nM τ 17) (x y : Int32) {w yr : Int32} (hw : rg w 0 3) (hy : rg yr 0 199) : v_C_bareOf (eL σ 15 s) x y w yr σ = coreW τ s x y w (fromY τ s x y yr) + gI τ 56 0 s * x := by
  obtain ⟨-, -, k0, k1, kw, ks, km, kd, -, -⟩ := h.t.2.1 s hs
  obtain ⟨t0, t1, t2, t4, -⟩ := h.m.t s hs
  have E : ∀ a, rg a 0 199 → v_Cl_withStuffs (v_Cu_at a σ) x y w σ = v_M_withStuff (gI τ 41 0 a.toNatClampNeg) x y w τ := fun a ha => by rw [cp_at h ha]; exact (cp_withStuffs h _ x y hw).1
  have F : ∀ a, rg a 0 199 → (if v_St_hasTerm (eL σ 15 s) 2 σ = 0 then v_Cl_withStuffs (v_Cu_at a σ) x y w σ + gI σ 9 (eL σ 15 s) 6 * x else v_C_mixOf (v_Cl_withStuffs (v_Cu_at a σ) x y w σ) (v_Cu_at (gI σ 9 (eL σ 15 s) 3) σ) (gI σ 9 (eL σ 15 s) 4) σ + gI σ 9 (eL σ 15 s) 6 * x) = coreW τ s x y w a + gI τ 56 0 s * x := by
    intro a ha
    unfold coreW
    rw [cp_hasTerm h hs, kd, E a ha]
    by_cases g : gI τ 59 0 s &&& 2 = 0
    · rw [if_pos (bI_f (fun q => q g)), if_pos g]
    · rw [if_neg (by rw [bI_t g]; decide), if_neg g, (ks g).1, (ks g).2, cp_at h (t2 g).1]
      rfl
  have hW : v_St_wovenIn (eL σ 15 s) yr σ = if gI τ 59 0 s &&& 1 = 0 then yr else gI τ 52 0 s := by
    unfold v_St_wovenIn
    rw [cp_hasTerm h hs]
    by_cases g : gI τ 59 0 s &&& 1 = 0
    · rw [if_pos (bI_f (fun q => q g)), if_pos g]
    · rw [if_neg (by rw [bI_t g]; decide), if_neg g, kw g]
  have hM : v_St_mends (eL σ 15 s) x y σ = bI (¬ gI τ 59 0 s &&& 4 = 0 ∧ ¬ 4 ≤ x ∧ ¬ 2 ≤ y) := by
    unfold v_St_mends b_St_mends
    rw [cp_hasTerm h hs]
    refine bI_congr ?_
    simp only [ite_ff, and_true, bI_0, Classical.not_not]
  unfold v_C_bareOf
  rw [hM, hW]
  have hR := fromY_rg h.m hs x y hy
  unfold fromY at hR ⊢
  by_cases g : ¬ gI τ 59 0 s &&& 4 = 0 ∧ ¬ 4 ≤ x ∧ ¬ 2 ≤ y
  · rw [if_neg (by rw [bI_t g]; decide), if_pos g, km g.1]
    rw [if_pos g] at hR
    exact F _ hR
  · rw [if_pos (bI_f g), if_neg g]
    rw [if_neg g] at hR
    exact F _ hR
theorem pc_bare {σ τ : MSto} (h : Cpl σ τ) {s : Nat} (x y : Int32) {w : Int32} (yr : Int32) (hw : rg w 0 3) : p_C_bareOf (eL σ 15 s) x y w yr σ := by
  have W : ∀ v, p_Cl_withStuffs v x y w σ := fun v => (cp_withStuffs h v x y hw).2
  unfold p_C_bareOf
  first
  | exact ⟨fun _ => ⟨pc_at _ _, W _, fun _ => pc_at _ _⟩, fun _ => ⟨pc_at _ _, W _, fun _ => pc_at _ _⟩⟩
  | (repeat' (first | exact pc_at _ _ | exact W _ | intro _ | constructor))
theorem cp_houseAdds {σ τ : MSto} (h : Cpl σ τ) {s : Nat} (hs : s < nM τ 17) {hh : Int32} (hr : rg hh 0 5) : v_C_houseAdds (eL σ 15 s) hh σ = gI τ 45 0 hh.toNatClampNeg + offW τ s hh := by
  obtain ⟨-, -, k0, k1, kw, ks, km, kd, ko, kn⟩ := h.t.2.1 s hs
  obtain ⟨n, e, hn⟩ := nat_rg (b := 5) hr (by decide)
  have hg : gI σ 20 0 hh.toNatClampNeg = gI τ 45 0 hh.toNatClampNeg := by
    rw [e, nI_cl (by omega)]; exact (h.h n (by omega)).1
  have hm : v_St_moreOf (eL σ 15 s) hh σ = offW τ s hh := by
    unfold v_St_moreOf offW
    rw [cp_hasTerm h hs]
    by_cases g : gI τ 59 0 s &&& 16 = 0
    · rw [if_pos (bI_f (fun q => q g)), kn g, if_neg]
      intro q
      rw [e] at q
      have := congrArg Int32.toInt q
      rw [nI_toInt (by omega)] at this
      have e1 : (-1 : Int32).toInt = -1 := rfl
      omega
    · rw [if_neg (by rw [bI_t g]; decide), (ko g).1, (ko g).2]
      by_cases q : hh = gI τ 57 0 s
      · rw [if_pos q, if_pos q.symm]
      · rw [if_neg q, if_neg (fun z => q z.symm)]
  unfold v_C_houseAdds
  rw [hg, hm]
theorem house_in {hh : Int32} (hr : rg hh 0 5) : vp_in hh 6 := rgI hr (by decide) rfl
theorem cp_sum (a b c d : Int32) : (a + d) + (b + c) = ((a + b) + d) + c := by
  rw [Int32.add_assoc, Int32.add_assoc, Int32.add_assoc, ← Int32.add_assoc d, Int32.add_comm d, Int32.add_assoc]
/-- what a story would count at a place -/
theorem cp_would {σ τ : MSto} (h : Cpl σ τ) {s : Nat} (hs : s < nM τ 17) (x y : Int32) {w hh yr : Int32} (hw : rg w 0 3) (hr : rg hh 0 5) (hy : rg yr 0 199) : v_C_bareOf (eL σ 15 s) x y w yr σ + v_C_houseAdds (eL σ 15 s) hh σ = v_M_wouldAt (nI s) x y w hh yr τ := by
  rw [cp_bare h hs x y hw hy, cp_houseAdds h hs hr, M_would (by have := h.S6; omega)]
  exact cp_sum _ _ _ _
theorem pM_would {τ : MSto} (hi : iM τ) {s : Nat} (hs : s < nM τ 17) (x y : Int32) {w hh yr : Int32} (hw : rg w 0 3) (hr : rg hh 0 5) (hy : rg yr 0 199) : p_M_wouldAt (nI s) x y w hh yr τ := by
  have h6 := hi.c.2.2.2.1.2
  have vs : vp_in (nI s) 6 := nI_inb (by omega) (by decide)
  obtain ⟨t0, t1, t2, t4, -⟩ := hi.t s hs
  have G : ∀ a, rg a 0 199 → gj_M_wouldAt_j49 (nI s) x y w hh a τ := by
    intro a ha
    unfold gj_M_wouldAt_j49
    refine ⟨rgI ha (by decide) rfl, ⟨hi, way_in hw⟩, vs, fun _ => ⟨house_in hr, vs, vs, fun _ => vs⟩, fun q => ⟨vs, vs, ?_, house_in hr, vs, vs, fun _ => vs⟩⟩
    rw [M_hasTerm (by omega), bI_n0] at q
    unfold p_M_mixed
    rw [nI_cl (by omega)]
    exact rgI (t2 q).1 (by decide) rfl
  have J : ∀ a, rg a 0 199 → gj_M_wouldAt_j20 (nI s) x y w hh a τ := by
    intro a ha
    unfold gj_M_wouldAt_j20
    refine ⟨vs, fun _ => G a ha, fun q => ⟨fun _ => G a ha, fun _ => ⟨fun _ => G a ha, fun _ => ⟨vs, G _ ?_⟩⟩⟩⟩
    rw [M_hasTerm (by omega), bI_n0] at q
    rw [nI_cl (by omega)]
    exact t4 q
  refine ⟨vs, fun _ => J yr hy, fun q => ⟨vs, J _ ?_⟩⟩
  rw [M_hasTerm (by omega), bI_n0] at q
  rw [nI_cl (by omega)]
  exact t1 q

