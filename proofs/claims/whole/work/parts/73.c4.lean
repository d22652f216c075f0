/-! ranges of values -/
theorem mix_nI {a b c : Nat} (ha : a ≤ 999) (hb : b ≤ 999) (hc : c ≤ 100) : (nI a * (100 - nI c) + nI b * nI c) / 100 = nI ((a * (100 - c) + b * c) / 100) ∧ (a * (100 - c) + b * c) / 100 ≤ 999 := by
  have h1 : a * (100 - c) ≤ 999 * (100 - c) := Nat.mul_le_mul_right _ ha
  have h2 : b * c ≤ 999 * c := Nat.mul_le_mul_right _ hb
  have h3 : 999 * (100 - c) + 999 * c = 99900 := by omega
  refine ⟨?_, by omega⟩
  rw [show (100 : Int32) - nI c = nI (100 - c) from pk_sub (a := 100) hc, pk_mul, pk_mul, nI_add]
  exact pk_div (a := a * (100 - c) + b * c) (d := 100) (by omega) (by decide) (by decide)
theorem rg_mk {a b c : Nat} (h : a ≤ c) (hc : c < 2 ^ 31) (hb : b = 0) : rg (nI a) (nI b) (nI c) := by
  subst hb
  exact ⟨nI_pos' (by omega), nI_le h hc⟩
theorem mixed_rg {τ : MSto} (hi : iM τ) {v y s : Int32} (hv : rg v 0 999) (hy : rg y 0 199) (hs : rg s 0 100) : rg (v_M_mixed v y s τ) 0 999 := by
  obtain ⟨a, rfl, ha⟩ := nat_rg (b := 999) hv (by decide)
  obtain ⟨n, rfl, hn⟩ := nat_rg (b := 199) hy (by decide)
  obtain ⟨c, rfl, hc⟩ := nat_rg (b := 100) hs (by decide)
  obtain ⟨b, eb, hb⟩ := nat_rg (b := 999) (hi.v n (by omega)) (by decide)
  unfold v_M_mixed
  rw [nI_cl (by omega), eb, (mix_nI ha hb hc).1]
  exact rg_mk (c := 999) (mix_nI ha hb hc).2 (by decide) rfl
theorem share_rg {s g : Int32} (hs : rg s 0 90) (hg : rg g 0 100) : rg (s * (100 - g) / 100) 0 100 := by
  obtain ⟨a, rfl, ha⟩ := nat_rg (b := 90) hs (by decide)
  obtain ⟨c, rfl, hc⟩ := nat_rg (b := 100) hg (by decide)
  have h1 : a * (100 - c) ≤ 90 * (100 - c) := Nat.mul_le_mul_right _ ha
  rw [show (100 : Int32) - nI c = nI (100 - c) from pk_sub (a := 100) hc, pk_mul, show nI (a * (100 - c)) / 100 = nI (a * (100 - c) / 100) from pk_div (d := 100) (by omega) (by decide) (by decide)]
  exact rg_mk (c := 100) (by omega) (by decide) rfl
theorem withStuff_rg {τ : MSto} (hi : iM τ) {v : Int32} (x y : Int32) {w : Int32} (hv : rg v 0 999) (hw : rg w 0 3) : rg (v_M_withStuff v x y w τ) 0 999 := by
  unfold v_M_withStuff
  refine nfold_ind (Q := fun a => rg a 0 999) hv (fun i h a ha => ?_)
  unfold t_M_stuff
  obtain ⟨n, rfl, hn⟩ := nat_rg (b := 3) hw (by decide)
  split
  · rw [nI_cl (by omega)]
    exact mixed_rg hi ha (hi.s i h).1 (share_rg (hi.s i h).2 (hi.g n (by omega)))
  · exact ha
theorem val_rg {τ : MSto} (hi : iM τ) {y : Int32} (hy : rg y 0 199) : rg (gI τ 41 0 y.toNatClampNeg) 0 999 := by
  obtain ⟨n, rfl, hn⟩ := nat_rg (b := 199) hy (by decide)
  rw [nI_cl (by omega)]
  exact hi.v n (by omega)
theorem threadOf_rg {τ : MSto} (hi : iM τ) (x y : Int32) {w : Int32} (hw : rg w 0 3) : rg (v_M_threadOf x y w τ) 0 999 :=
  withStuff_rg hi x y (val_rg hi (mendYear_rg x y hi)) hw
/-! truth, draw, counted -/
theorem piece_c {σ τ : MSto} (h : Cpl σ τ) {p : Nat} (hp : p < nM τ 10) : rg (gI σ 7 p 2) 0 3 := by
  rw [(h.p.2.2 p hp).2.2.2.1]; exact (h.m.p p hp).2.2.1
theorem cp_trueOf {σ τ : MSto} (h : Cpl σ τ) {p : Nat} (hp : p < nM τ 10) : v_C_trueOf p σ = v_M_truthOf (nI p) τ ∧ p_C_trueOf p σ ∧ p_M_truthOf (nI p) τ := by
  have hP := h.P12
  have e : (nI p).toNatClampNeg = p := nI_cl (by omega)
  obtain ⟨-, kx, ky, kw, kh⟩ := h.p.2.2 p hp
  have vp : vp_in (nI p) 12 := nI_inb (by omega) (by decide)
  obtain ⟨q1, q2, q3⟩ := cp_threadAt h (gI σ 7 p 0) (gI σ 7 p 1) (piece_c h hp)
  refine ⟨?_, ⟨q2, house_vin h hp⟩, ?_⟩
  · unfold v_C_trueOf v_M_truthOf
    rw [e, q1, cp_slip h hp, kx, ky, kw]
  · unfold p_M_truthOf
    rw [e, ← kx, ← ky, ← kw]
    exact ⟨vp, vp, vp, q3, vp, house_in (h.m.p p hp).2.2.2⟩
theorem T_truth {σ τ : MSto} (h : Cpl σ τ) (a : Int32) : p_M_truth a τ ∧ Cpl σ (e_M_truth a τ) ∧ ((v_C_isPiece a σ = 0 ∧ gI (e_M_truth a τ) 13 0 52 = 1) ∨ (¬ v_C_isPiece a σ = 0 ∧ p_C_truth a σ ∧ v_C_truth a σ = v_M_truth a τ ∧ gI (e_M_truth a τ) 13 0 52 = 0)) := by
  have h1 := h.e0
  have hz : gI (sI τ 13 0 52 0) 13 0 52 = 0 := rfl
  unfold p_M_truth e_M_truth v_M_truth p_C_truth v_C_truth
  generalize sI τ 13 0 52 0 = τ1 at h1 hz ⊢
  simp only [cp_isPiece h1]
  by_cases g : v_M_isPiece a τ1 = 0
  · simp only [if_pos g]
    exact ⟨fun q => absurd g q, h1.mv (agO_refl [] σ) (w_M_lost τ1) rfl rfl, Or.inl ⟨g, rfl⟩⟩
  · simp only [if_neg g]
    obtain ⟨p, hp, rfl⟩ := pieceN h1 g
    have hP := h1.P12
    obtain ⟨q1, q2, q3⟩ := cp_trueOf h1 hp
    rw [al_v (by omega), h1.eP hp]
    exact ⟨fun _ => q3, h1, Or.inr ⟨g, ⟨fun q => g q, fun _ => ⟨al_p h1.lP (by omega) hp, q2⟩⟩, q1, hz⟩⟩
theorem T_counted {σ τ : MSto} (h : Cpl σ τ) (a : Int32) : p_M_counted a τ ∧ Cpl σ (e_M_counted a τ) ∧ (((v_C_isPiece a σ = 0 ∨ (¬ v_C_isPiece a σ = 0 ∧ p_AL_get 14 0 a σ ∧ gI σ 7 (v_AL_get 14 0 a σ) 4 = 0)) ∧ gI (e_M_counted a τ) 13 0 52 = 1) ∨ (¬ v_C_isPiece a σ = 0 ∧ p_C_counted a σ ∧ v_C_counted a σ = v_M_counted a τ ∧ gI (e_M_counted a τ) 13 0 52 = 0)) := by
  have h1 := h.e0
  have hz : gI (sI τ 13 0 52 0) 13 0 52 = 0 := rfl
  unfold p_M_counted e_M_counted v_M_counted p_C_counted v_C_counted
  generalize sI τ 13 0 52 0 = τ1 at h1 hz ⊢
  have hl := h1.mv (agO_refl [] σ) (w_M_lost τ1) rfl rfl
  simp only [cp_isPiece h1]
  by_cases g : v_M_isPiece a τ1 = 0
  · simp only [if_pos g]
    exact ⟨fun q => absurd g q, hl, Or.inl ⟨Or.inl g, rfl⟩⟩
  · simp only [if_neg g]
    obtain ⟨p, hp, rfl⟩ := pieceN h1 g
    have hP := h1.P12
    have hget := al_p h1.lP (by omega) hp
    rw [al_v (by omega), h1.eP hp, nI_cl (by omega)]
    have hc := cp_isC h1 hp
    cases hb : bt (gI τ1 13 0 15) p with
    | false =>
      have q1 : ¬ gI τ1 13 0 15 >>> (nI p &&& 31) &&& 1 = 1 := fun q => by rw [(sh_11 _ (by omega)).mp q] at hb; cases hb
      simp only [if_neg q1]
      exact ⟨fun _ q => absurd q q1, hl, Or.inl ⟨Or.inr ⟨g, hget, hc.mpr hb⟩, rfl⟩⟩
    | true =>
      have q1 : gI τ1 13 0 15 >>> (nI p &&& 31) &&& 1 = 1 := (sh_11 _ (by omega)).mpr hb
      simp only [if_pos q1]
      exact ⟨fun _ _ => nI_inb (by omega) (by decide), h1, Or.inr ⟨g, ⟨fun q => g q, fun _ => ⟨hget, fun q => by have := hc.mp q; rw [hb] at this; cases this⟩⟩, cp_num h1 hp hb, hz⟩⟩
abbrev rndU (R : Int32) : Int32 := (Int32.toUInt32 R >>> (Int32.toUInt32 16 &&& Int32.toUInt32 31)).toInt32
theorem rndU_nat (R : Int32) : ∃ u, u < 65536 ∧ rndU R = nI u := by
  refine ⟨R.toBitVec.toNat >>> 16, ?_, ?_⟩
  · rw [Nat.shiftRight_eq_div_pow]
    have := R.toBitVec.isLt
    omega
  · refine b_ext (fun i hi => ?_)
    rw [bt_nI i hi, Nat.testBit_shiftRight]
    have := b_ushr 16 (by decide) R i
    refine Eq.trans this ?_
    unfold bt
    rw [BitVec.testBit_toNat]
theorem rnd_nat (R : Int32) {k : Nat} (hk : 0 < k) (hk2 : k < 2 ^ 31) : ∃ m, m < k ∧ rndU R - rndU R / nI k * nI k = nI m := by
  obtain ⟨u, hu, e⟩ := rndU_nat R
  exact ⟨u % k, Nat.mod_lt _ hk, by rw [e]; exact pk_rem (by omega) hk hk2⟩
theorem cp_move_rnd {σ τ : MSto} (h : Cpl σ τ) (v : Int32) : Cpl (sI σ 12 0 12 v) (sI τ 13 0 40 v) :=
  Cpl.upd (W := [12013]) (V := [13041]) h (agO_sI rfl (agO_refl _ σ)) (agO_sI rfl (agO_refl _ τ)) rfl (iM.upd (V := [13041]) h.m (agO_sI rfl (agO_refl _ τ)) (Or.inl rfl) (Or.inl rfl) (Or.inl rfl) (Or.inl rfl) (Or.inl rfl) (Or.inl rfl) (Or.inl rfl) (Or.inl rfl) (Or.inl rfl) (Or.inl rfl) (Or.inl rfl) (Or.inl rfl) (Or.inl rfl) (Or.inl rfl)) (Or.inl rfl) (Or.inr ⟨h.b.1, h.b.2.1, rfl⟩) (Or.inl rfl) (Or.inl rfl) (Or.inl rfl) (Or.inl rfl) (Or.inl rfl) (Or.inl rfl) (Or.inl rfl) (Or.inl rfl) (Or.inl rfl) (Or.inl rfl) (Or.inl rfl) (Or.inl rfl) (Or.inl rfl) (Or.inl rfl)
theorem draw_rg {t m s : Int32} {sl : Int32} {n k : Nat} (ht : rg t 0 999) (hsl : rg sl (-50) 50) (hm : m = nI n) (hn : n < 2 * k + 1) (hs : s = nI k) (hk : k ≤ 60) : rg (((t + sl) + m) - s) (-150) 2000 := by
  obtain ⟨a, rfl, ha⟩ := nat_rg (b := 999) ht (by decide)
  subst hm; subst hs
  have e50 : (-50 : Int32).toInt = -50 := rfl
  have e51 : (50 : Int32).toInt = 50 := rfl
  have e15 : (-150 : Int32).toInt = -150 := rfl
  have e20 : (2000 : Int32).toInt = 2000 := rfl
  have h1 := hsl.1
  have h2 := hsl.2
  rw [leI_iff] at h1 h2
  rw [e50] at h1
  rw [e51] at h2
  have ea : (nI a).toInt = a := nI_toInt (by omega)
  have en : (nI n).toInt = n := nI_toInt (by omega)
  have ek : (nI k).toInt = k := nI_toInt (by omega)
  have s1 : (nI a + sl).toInt = a + sl.toInt := by rw [fb_addI (by rw [ea]; omega) (by rw [ea]; omega), ea]
  have s2 : (nI a + sl + nI n).toInt = a + sl.toInt + n := by rw [fb_addI (by rw [s1, en]; omega) (by rw [s1, en]; omega), s1, en]
  have s3 : (nI a + sl + nI n - nI k).toInt = a + sl.toInt + n - k := by rw [fb_subI (by rw [s2, ek]; omega) (by rw [s2, ek]; omega), s2, ek]
  unfold rg
  rw [leI_iff, leI_iff, s3, e15, e20]
  omega
theorem T_draw {σ τ : MSto} (h : Cpl σ τ) (a : Int32) : p_M_draw a τ ∧ ((v_C_isPiece a σ = 0 ∧ Cpl σ (e_M_draw a τ) ∧ gI (e_M_draw a τ) 13 0 52 = 1) ∨ (¬ v_C_isPiece a σ = 0 ∧ p_C_draw a σ ∧ v_C_draw a σ = v_M_draw a τ ∧ gI (e_M_draw a τ) 13 0 52 = 0 ∧ Cpl (e_C_draw a σ) (e_M_draw a τ))) := by
  have h1 := h.e0
  have hz : gI (sI τ 13 0 52 0) 13 0 52 = 0 := rfl
  unfold p_M_draw e_M_draw v_M_draw p_C_draw v_C_draw e_C_draw
  generalize sI τ 13 0 52 0 = τ1 at h1 hz ⊢
  have hl := h1.mv (agO_refl [] σ) (w_M_lost τ1) rfl rfl
  simp only [cp_isPiece h1]
  by_cases g : v_M_isPiece a τ1 = 0
  · simp only [if_pos g]
    exact ⟨fun q => absurd g q, Or.inl ⟨g, hl, rfl⟩⟩
  · simp only [if_neg g]
    obtain ⟨p, hp, rfl⟩ := pieceN h1 g
    have hP := h1.P12
    have hget := al_p h1.lP (by omega) hp
    rw [al_v (by omega), h1.eP hp]
    obtain ⟨R, eR⟩ : ∃ R, R = gI τ1 13 0 40 * 1103515245 + 12345 := ⟨_, rfl⟩
    have eRσ : gI σ 12 0 12 * 1103515245 + 12345 = R := by rw [eR, h1.b.2.2]
    rw [← eR]
    obtain ⟨q1, q2, q3⟩ := cp_trueOf h1 hp
    have hsp := spanOf_rg h1.m hp
    obtain ⟨k, ek, hk1, hk2⟩ := sp_nat hsp
    have hS := cp_span h1 hp
    have h2 := cp_move_rnd h1 R
    have en : 2 * nI k + 1 = nI (2 * k + 1) := by
      rw [show (2 : Int32) * nI k = nI (2 * k) from pk_mul 2 k, nI_s]
    have z1 : ¬ nI (2 * k + 1) = 0 := nI_ne0 (by omega) (by omega)
    have z2 : ¬ nI (2 * k + 1) ≤ 0 := nI_nle (by omega) (by omega)
    obtain ⟨m, hm, em⟩ := rnd_nat R (k := 2 * k + 1) (by omega) (by omega)
    have hT : v_M_truthOf (nI p) (sI τ1 13 0 40 R) = v_M_truthOf (nI p) τ1 := rfl
    have hTp : p_M_truthOf (nI p) (sI τ1 13 0 40 R) := (cp_trueOf h2 hp).2.2
    have hSs : v_M_spanOf (nI p) (sI τ1 13 0 40 R) = nI k := ek
    have hSp : p_M_spanOf (nI p) (sI τ1 13 0 40 R) := pc_spanOf h2.m hp
    have hG : gI (sI τ1 13 0 40 R) 13 0 40 = R := rfl
    have hlot : v_C_lotOf (nI (2 * k + 1)) σ = nI m := by
      unfold v_C_lotOf
      rw [if_neg z2]
      have : gI (sI σ 12 0 12 (gI σ 12 0 12 * 1103515245 + 12345)) 12 0 12 = R := eRσ
      rw [this]
      exact em
    have hlotE : e_C_lotOf (nI (2 * k + 1)) σ = sI σ 12 0 12 R := by
      unfold e_C_lotOf
      rw [eRσ]
    have hlotP : p_C_lotOf (nI (2 * k + 1)) σ := fun _ => z1
    have hv : rg (((v_M_truthOf (nI p) τ1) + nI m) - nI k) (-150) 2000 := by
      unfold v_M_truthOf
      rw [nI_cl (by omega)]
      obtain ⟨n, e5, hn⟩ := house_rg h1.m hp
      refine draw_rg (threadOf_rg h1.m _ _ (h1.m.p p hp).2.2.1) ?_ rfl (by omega) rfl hk2
      rw [e5, nI_cl (by omega)]
      exact (h1.m.h n (by omega)).1
    have hset := set_counted h2 hp hv
    rw [hS, ek, en, hT, hSs, hG, en, hlot, hlotE, q1, em]
    refine ⟨fun _ => ⟨hTp, hSp, z1, hSp, nI_inb (by omega) (by decide)⟩, Or.inr ⟨g, ⟨fun q => g q, fun _ => ⟨hget, house_vin h1 hp, q2, hlotP, by unfold p_Pi_tell; rfl⟩⟩, ?_, hz, hset⟩⟩
    unfold vj_C_draw_j61 e_Pi_tell
    rw [gI_sI, if_neg (fun q => by cases q.2.2), gI_sI, if_pos ⟨rfl, rfl, rfl⟩]

