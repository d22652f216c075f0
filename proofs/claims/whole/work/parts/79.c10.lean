theorem C_areMarks (b c : Int32) (σ : MSto) : v_C_areMarks b c σ = bI ((0 ≤ b ∧ b ≤ 255) ∧ (0 ≤ c ∧ c ≤ 255) ∧ b &&& c = 0) := by
  unfold v_C_areMarks b_C_areMarks
  refine bI_congr ?_
  simp only [cp_isIn, bI_0, ite_ff, ite_tf, Classical.not_not, and_true]
theorem gR_at (σ : MSto) (k j w : Nat) (v : Option Nat) : gR (sR σ k 0 j v) k 0 w = if w = j then v else gR σ k 0 w := by
  rw [gR_sR]
  by_cases e : w = j
  · rw [if_pos ⟨rfl, rfl, e⟩, if_pos e]
  · rw [if_neg (fun q => e q.2.2), if_neg e]
theorem shl_nI8 : ∀ p, p < 8 → (1 : Int32) <<< (nI p &&& 31) = nI (2 ^ p) := by decide +kernel
/-- a bit more in a small set -/
theorem or_bit {B : Int32} {n : Nat} (hB : rg B 0 255) (hn : n < 8) : rg (B ||| ((1 : Int32) <<< (nI n &&& 31))) 0 255 ∧ ∀ h, h < 32 → bt (B ||| ((1 : Int32) <<< (nI n &&& 31))) h = (bt B h || decide (h = n)) := by
  obtain ⟨k, ek, hk⟩ := nat_rg (b := 255) hB (by decide)
  refine ⟨?_, fun h hh => by rw [b_or, bt_shl1 (by omega) hh]⟩
  rw [ek, shl_nI8 n hn, fa_or]
  have hlt : k ||| 2 ^ n < 2 ^ 8 := Nat.or_lt_two_pow (by omega) (Nat.pow_lt_pow_right (by decide) hn)
  exact ⟨nI_pos' (by omega), nI_le (b := 255) (by omega) (by decide)⟩
theorem T_how {σ τ : MSto} (h : Cpl σ τ) (a b c : Int32) : p_C_how a b c σ ∧ p_M_how a b c τ ∧ v_C_how a b c σ = v_M_how a b c τ ∧ Cpl (e_C_how a b c σ) (e_M_how a b c τ) := by
  have h1 := h.e0
  unfold p_C_how p_M_how v_C_how v_M_how b_C_how b_M_how e_C_how e_M_how
  generalize sI τ 13 0 52 0 = τ1 at h1 ⊢
  simp only [C_areMarks, cp_isIn, M_in]
  by_cases g : 0 ≤ a ∧ a ≤ 7
  · by_cases gb : 0 ≤ b ∧ b ≤ 255
    · by_cases gc : 0 ≤ c ∧ c ≤ 255
      · by_cases gz : b &&& c = 0
        · have gm : (0 ≤ b ∧ b ≤ 255) ∧ (0 ≤ c ∧ c ≤ 255) ∧ b &&& c = 0 := ⟨gb, gc, gz⟩
          simp only [if_neg (bn g), if_neg (bn gb), if_neg (bn gc), if_neg (bn gm), if_pos gz]
          obtain ⟨n, rfl, hn⟩ := nat_rg (b := 7) g (by decide)
          have v8 : vp_in (nI n) 8 := nI_inb (by omega) (by decide)
          refine ⟨fun _ _ => v8, fun _ _ _ _ => ⟨v8, v8⟩, trivial, ?_⟩
          show Cpl _ (sI (sI (sI τ1 65 0 (nI n).toNatClampNeg b) 66 0 (nI n).toNatClampNeg c) 13 0 33 (gI τ1 13 0 33 ||| ((1 : Int32) <<< (nI n &&& 31))))
          rw [nI_cl (by omega)]
          obtain ⟨σb, eb⟩ : ∃ s, s = sR (e_Ho_init (gN σ 3) b c (sNew σ 3)) 23 0 n (some (gN σ 3)) := ⟨_, rfl⟩
          obtain ⟨τb, et⟩ : ∃ t, t = sI (sI (sI τ1 65 0 n b) 66 0 n c) 13 0 33 (gI τ1 13 0 33 ||| ((1 : Int32) <<< (nI n &&& 31))) := ⟨_, rfl⟩
          rw [← eb, ← et]
          have wσ : agO [3000, 3999, 23000] σ σb := by rw [eb]; exact agO_sR rfl (agO_sI rfl (agO_sI rfl (agO_sNew (by decide) (by decide) (agO_refl _ σ))))
          have wτ : agO [13034, 65000, 66000] τ1 τb := by rw [et]; exact agO_sI rfl (agO_sI rfl (agO_sI rfl (agO_refl _ τ1)))
          have cR : ∀ x, gR σb 23 0 x = if x = n then some (gN σ 3) else gR σ 23 0 x := fun x => by rw [eb]; exact gR_at _ 23 n x _
          have cN : gN σb 3 = gN σ 3 + 1 := by rw [eb]; rfl
          have cI : ∀ p f, gI σb 3 p f = if p = gN σ 3 then (if f = 0 then b else if f = 1 then c else 0) else gI σ 3 p f := by
            intro p f
            rw [eb]
            show gI (e_Ho_init (gN σ 3) b c (sNew σ 3)) 3 p f = _
            unfold e_Ho_init
            simp only [gI_sI, gI_sNew]
            by_cases q : p = gN σ 3
            · subst q
              by_cases f1 : f = 1
              · subst f1; simp
              · by_cases f0 : f = 0
                · subst f0; simp
                · simp [f1, f0]
            · simp [q]
          have mN : ∀ x, gI τb 65 0 x = if x = n then b else gI τ1 65 0 x := fun x => by rw [et]; exact gI_at τ1 65 n x b
          have mB : ∀ x, gI τb 66 0 x = if x = n then c else gI τ1 66 0 x := fun x => by rw [et]; exact gI_at _ 66 n x c
          have mH : gI τb 13 0 33 = gI τ1 13 0 33 ||| ((1 : Int32) <<< (nI n &&& 31)) := by rw [et]; rfl
          obtain ⟨o1, o2⟩ := or_bit (n := n) h1.m.o.1 (by omega)
          rw [← mH] at o1 o2
          refine Cpl.upd h1 wσ wτ rfl (iM.upd h1.m wτ (Or.inl rfl) (Or.inl rfl) (Or.inl rfl) (Or.inl rfl) (Or.inl rfl) (Or.inl rfl) (Or.inl rfl) (Or.inl rfl) (Or.inl rfl) (Or.inl rfl) (Or.inl rfl) (Or.inr ⟨o1, fun x hx => ?_⟩) (Or.inl rfl) (Or.inl rfl)) (Or.inl rfl) (Or.inl rfl) (Or.inl rfl) (Or.inl rfl) (Or.inl rfl) (Or.inl rfl) (Or.inl rfl) (Or.inl rfl) (Or.inl rfl) (Or.inl rfl) (Or.inl rfl) (Or.inr fun x hx => ?_) (Or.inl rfl) (Or.inl rfl) (Or.inl rfl) (Or.inl rfl)
          · rw [mN, mB]
            split
            · exact ⟨gb, gc⟩
            · exact h1.m.o.2 x hx
          · by_cases q : x = n
            · refine Or.inr ⟨gN σ 3, by rw [cR, if_pos q], by omega, ?_, ?_, ?_⟩
              · rw [sh_11 _ (by omega), o2 x (by omega), decide_eq_true q, Bool.or_true]
              · rw [cI, mN, if_pos q, if_pos rfl, if_pos rfl]
              · rw [cI, mB, if_pos q, if_pos rfl]; rfl
            · have hb : bt (gI τb 13 0 33) x = bt (gI τ1 13 0 33) x := by rw [o2 x (by omega), decide_eq_false q, Bool.or_false]
              rcases h1.o x hx with ⟨k1, k2⟩ | ⟨y, k1, k2, k3, k4, k5⟩
              · refine Or.inl ⟨by rw [cR, if_neg q, k1], ?_⟩
                rw [sh_10 _ (by omega)] at k2 ⊢
                rw [hb, k2]
              · refine Or.inr ⟨y, by rw [cR, if_neg q, k1], by omega, ?_, ?_, ?_⟩
                · rw [sh_11 _ (by omega)] at k3 ⊢
                  rw [hb, k3]
                · rw [cI, mN, if_neg q, if_neg (by omega), k4]
                · rw [cI, mB, if_neg q, if_neg (by omega), k5]
        · have gm : ¬ ((0 ≤ b ∧ b ≤ 255) ∧ (0 ≤ c ∧ c ≤ 255) ∧ b &&& c = 0) := fun q => gz q.2.2
          simp only [if_neg (bn g), if_neg (bn gb), if_neg (bn gc), if_pos (bz gm), if_neg gz]
          exact ⟨fun _ q => absurd (bz gm) q, fun _ _ _ q => absurd q gz, trivial, h1⟩
      · have gm : ¬ ((0 ≤ b ∧ b ≤ 255) ∧ (0 ≤ c ∧ c ≤ 255) ∧ b &&& c = 0) := fun q => gc q.2.1
        simp only [if_neg (bn g), if_neg (bn gb), if_pos (bz gc), if_pos (bz gm)]
        exact ⟨fun _ q => absurd (bz gm) q, fun _ _ q => absurd (bz gc) q, trivial, h1⟩
    · have gm : ¬ ((0 ≤ b ∧ b ≤ 255) ∧ (0 ≤ c ∧ c ≤ 255) ∧ b &&& c = 0) := fun q => gb q.1
      simp only [if_neg (bn g), if_pos (bz gb), if_pos (bz gm)]
      exact ⟨fun _ q => absurd (bz gm) q, fun _ q => absurd (bz gb) q, trivial, h1⟩
  · simp only [if_pos (bz g)]
    exact ⟨fun q => absurd (bz g) q, fun q => absurd (bz g) q, trivial, h1⟩
theorem T_wanted {σ τ : MSto} (h : Cpl σ τ) (a b c d : Int32) : p_C_wanted a b c d σ ∧ p_M_wanted a b c d τ ∧ v_C_wanted a b c d σ = v_M_wanted a b c d τ ∧ Cpl (e_C_wanted a b c d σ) (e_M_wanted a b c d τ) := by
  have h1 := h.e0
  unfold p_C_wanted p_M_wanted v_C_wanted v_M_wanted b_C_wanted b_M_wanted e_C_wanted e_M_wanted
  generalize sI τ 13 0 52 0 = τ1 at h1 ⊢
  simp only [cp_isStory h1, cp_isIn, M_in]
  by_cases g : 0 ≤ a ∧ a ≤ 7
  · by_cases gs : v_M_isStory b τ1 = 0
    · simp only [if_neg (bn g), if_pos gs]
      exact ⟨fun _ q => absurd gs q, fun _ q => absurd gs q, trivial, h1⟩
    · by_cases gc : 0 ≤ c ∧ c ≤ 15
      · by_cases gd : 0 ≤ d ∧ d ≤ 4095
        · simp only [if_neg (bn g), if_neg gs, if_neg (bn gc), if_neg (bn gd)]
          obtain ⟨n, rfl, hn⟩ := nat_rg (b := 7) g (by decide)
          obtain ⟨s, hs, rfl⟩ := storyN h1 gs
          have hS := h1.S6
          have v8 : vp_in (nI n) 8 := nI_inb (by omega) (by decide)
          refine ⟨fun _ _ _ _ => v8, fun _ _ _ _ => ⟨v8, v8, v8⟩, trivial, ?_⟩
          show Cpl _ (sI (sI (sI (sI τ1 67 0 (nI n).toNatClampNeg (nI s)) 68 0 (nI n).toNatClampNeg c) 69 0 (nI n).toNatClampNeg d) 13 0 36 (gI τ1 13 0 36 ||| ((1 : Int32) <<< (nI n &&& 31))))
          rw [nI_cl (by omega)]
          obtain ⟨σb, eb⟩ : ∃ s', s' = sR (e_Wa_init (gN σ 11) (nI s) c d (sNew σ 11)) 24 0 n (some (gN σ 11)) := ⟨_, rfl⟩
          obtain ⟨τb, et⟩ : ∃ t, t = sI (sI (sI (sI τ1 67 0 n (nI s)) 68 0 n c) 69 0 n d) 13 0 36 (gI τ1 13 0 36 ||| ((1 : Int32) <<< (nI n &&& 31))) := ⟨_, rfl⟩
          rw [← eb, ← et]
          have wσ : agO [11000, 11999, 24000] σ σb := by rw [eb]; exact agO_sR rfl (agO_sI rfl (agO_sI rfl (agO_sI rfl (agO_sNew (by decide) (by decide) (agO_refl _ σ)))))
          have wτ : agO [13037, 67000, 68000, 69000] τ1 τb := by rw [et]; exact agO_sI rfl (agO_sI rfl (agO_sI rfl (agO_sI rfl (agO_refl _ τ1))))
          have cR : ∀ x, gR σb 24 0 x = if x = n then some (gN σ 11) else gR σ 24 0 x := fun x => by rw [eb]; exact gR_at _ 24 n x _
          have cN : gN σb 11 = gN σ 11 + 1 := by rw [eb]; rfl
          have cI : ∀ p f, gI σb 11 p f = if p = gN σ 11 then (if f = 0 then nI s else if f = 1 then c else if f = 2 then d else 0) else gI σ 11 p f := by
            intro p f
            rw [eb]
            show gI (e_Wa_init (gN σ 11) (nI s) c d (sNew σ 11)) 11 p f = _
            unfold e_Wa_init
            simp only [gI_sI, gI_sNew]
            by_cases q : p = gN σ 11
            · subst q
              by_cases f2 : f = 2
              · subst f2; simp
              · by_cases f1 : f = 1
                · subst f1; simp
                · by_cases f0 : f = 0
                  · subst f0; simp
                  · simp [f2, f1, f0]
            · simp [q]
          have m1 : ∀ x, gI τb 67 0 x = if x = n then nI s else gI τ1 67 0 x := fun x => by rw [et]; exact gI_at τ1 67 n x _
          have m2 : ∀ x, gI τb 68 0 x = if x = n then c else gI τ1 68 0 x := fun x => by rw [et]; exact gI_at _ 68 n x c
          have m3 : ∀ x, gI τb 69 0 x = if x = n then d else gI τ1 69 0 x := fun x => by rw [et]; exact gI_at _ 69 n x d
          have mH : gI τb 13 0 36 = gI τ1 13 0 36 ||| ((1 : Int32) <<< (nI n &&& 31)) := by rw [et]; rfl
          have m17 : gI τb 13 0 17 = gI τ1 13 0 17 := by rw [et]; rfl
          obtain ⟨o1, o2⟩ := or_bit (n := n) h1.m.w.1 (by omega)
          rw [← mH] at o1 o2
          refine Cpl.upd h1 wσ wτ rfl (iM.upd h1.m wτ (Or.inl rfl) (Or.inl rfl) (Or.inl rfl) (Or.inl rfl) (Or.inl rfl) (Or.inl rfl) (Or.inl rfl) (Or.inl rfl) (Or.inl rfl) (Or.inl rfl) (Or.inl rfl) (Or.inl rfl) (Or.inr ⟨o1, fun x hx hz => ?_⟩) (Or.inl rfl)) (Or.inl rfl) (Or.inl rfl) (Or.inl rfl) (Or.inl rfl) (Or.inl rfl) (Or.inl rfl) (Or.inl rfl) (Or.inl rfl) (Or.inl rfl) (Or.inl rfl) (Or.inl rfl) (Or.inl rfl) (Or.inr fun x hx => ?_) (Or.inl rfl) (Or.inl rfl) (Or.inl rfl)
          · rw [m1, m17]
            by_cases q : x = n
            · rw [if_pos q, h1.m.c.2.2.2.1.1]
              exact ⟨nI_pos' (by omega), nI_lt hs (by omega)⟩
            · rw [if_neg q]
              refine h1.m.w.2 x hx (fun z => hz ?_)
              rw [sh_10 _ (by omega)] at z ⊢
              rw [o2 x (by omega), z, decide_eq_false q]; rfl
          · by_cases q : x = n
            · refine Or.inr ⟨gN σ 11, by rw [cR, if_pos q], by omega, ?_, ?_, ?_, ?_⟩
              · rw [sh_11 _ (by omega), o2 x (by omega), decide_eq_true q, Bool.or_true]
              · rw [cI, m1, if_pos q, if_pos rfl, if_pos rfl]
              · rw [cI, m2, if_pos q, if_pos rfl]; rfl
              · rw [cI, m3, if_pos q, if_pos rfl]; rfl
            · have hb : bt (gI τb 13 0 36) x = bt (gI τ1 13 0 36) x := by rw [o2 x (by omega), decide_eq_false q, Bool.or_false]
              rcases h1.w x hx with ⟨k1, k2⟩ | ⟨y, k1, k2, k3, k4, k5, k6⟩
              · refine Or.inl ⟨by rw [cR, if_neg q, k1], ?_⟩
                rw [sh_10 _ (by omega)] at k2 ⊢
                rw [hb, k2]
              · refine Or.inr ⟨y, by rw [cR, if_neg q, k1], by omega, ?_, ?_, ?_, ?_⟩
                · rw [sh_11 _ (by omega)] at k3 ⊢
                  rw [hb, k3]
                · rw [cI, m1, if_neg q, if_neg (by omega), k4]
                · rw [cI, m2, if_neg q, if_neg (by omega), k5]
                · rw [cI, m3, if_neg q, if_neg (by omega), k6]
        · simp only [if_neg (bn g), if_neg gs, if_neg (bn gc), if_pos (bz gd)]
          exact ⟨fun _ _ _ q => absurd (bz gd) q, fun _ _ _ q => absurd (bz gd) q, trivial, h1⟩
      · simp only [if_neg (bn g), if_neg gs, if_pos (bz gc)]
        exact ⟨fun _ _ q => absurd (bz gc) q, fun _ _ q => absurd (bz gc) q, trivial, h1⟩
  · simp only [if_pos (bz g)]
    exact ⟨fun q => absurd (bz g) q, fun q => absurd (bz g) q, trivial, h1⟩

