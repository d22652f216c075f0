/-! the start: class and reference say the same -/
def LInv (L : Nat) (σ : MSto) : Prop := Cpl σ σ ∧ gN σ 104 = 0 ∧ gI σ 97 1 0 = nI L
theorem zsh : ∀ p, p < 32 → (0 : Int32) >>> (nI p &&& 31) &&& 1 = 0 := by decide
theorem cM0 {σ : MSto} {f b : Nat} (h : gI σ 13 0 f = 0) : cM σ f b ∧ nM σ f = 0 := by
  have e : nM σ f = 0 := by unfold nM; rw [h]; rfl
  unfold cM
  rw [e, h]
  exact ⟨⟨rfl, Nat.zero_le _⟩, rfl⟩
theorem six {P : Nat → Prop} (h0 : P 0) (h1 : P 1) (h2 : P 2) (h3 : P 3) (h4 : P 4) (h5 : P 5) : ∀ h, h < 6 → P h
  | 0, _ => h0
  | 1, _ => h1
  | 2, _ => h2
  | 3, _ => h3
  | 4, _ => h4
  | 5, _ => h5
  | n + 6, h => absurd h (by omega)
section ST
variable (L : Nat) (xs : Nat → Int32)
set_option maxRecDepth 100000
set_option maxHeartbeats 4000000
theorem s3_46 : ∀ h, h < 6 → gI (sL3 L xs) 46 0 h = 20 := six rfl rfl rfl rfl rfl rfl
theorem s3_21 : ∀ h, h < 6 → gI (sL3 L xs) 21 0 h = 20 := six rfl rfl rfl rfl rfl rfl
theorem s3_iM : iM (sL3 L xs) := by
  have c3 := cM0 (σ := sL3 L xs) (f := 3) (b := 6) rfl
  have c5 := cM0 (σ := sL3 L xs) (f := 5) (b := 6) rfl
  have c10 := cM0 (σ := sL3 L xs) (f := 10) (b := 12) rfl
  have c17 := cM0 (σ := sL3 L xs) (f := 17) (b := 6) rfl
  have c27 := cM0 (σ := sL3 L xs) (f := 27) (b := 4) rfl
  have c31 := cM0 (σ := sL3 L xs) (f := 31) (b := 9) rfl
  have e2 : gI (sL3 L xs) 13 0 2 = 100 := rfl
  have e15 : gI (sL3 L xs) 13 0 15 = 0 := rfl
  have e33 : gI (sL3 L xs) 13 0 33 = 0 := rfl
  have e36 : gI (sL3 L xs) 13 0 36 = 0 := rfl
  refine ⟨⟨c3.1, c5.1, c10.1, c17.1, c27.1, c31.1, ?_⟩, fun y hy => ?_, fun i hi => ?_, fun i hi => ?_, fun w hw => ?_, fun h hh => ?_, fun p hp => ?_, ⟨fun p hp => ?_, ?_, fun p hp _ => ?_⟩, fun s hs => ?_, fun k hk => ?_, fun i hi => ?_, ⟨?_, fun h hh => ?_⟩, ⟨?_, fun h hh hb => ?_⟩, fun i hi hk => ?_⟩
  · rw [e2]; exact ⟨by decide, by decide⟩
  · rw [show gI (sL3 L xs) 41 0 y = 0 from rfl]; exact ⟨by decide, by decide⟩
  · rw [c3.2] at hi; exact absurd hi (Nat.not_lt_zero _)
  · rw [c5.2] at hi; exact absurd hi (Nat.not_lt_zero _)
  · rw [show gI (sL3 L xs) 44 0 w = 0 from rfl]; exact ⟨by decide, by decide⟩
  · rw [show gI (sL3 L xs) 45 0 h = 0 from rfl, s3_46 L xs h hh]; exact ⟨⟨by decide, by decide⟩, by decide, by decide⟩
  · rw [c10.2] at hp; exact absurd hp (Nat.not_lt_zero _)
  · rw [show gI (sL3 L xs) 51 0 p = 0 from rfl]; exact ⟨by decide, by decide⟩
  · rw [e15]; exact ⟨by decide, by decide⟩
  · rw [e15]; exact zsh p (by omega)
  · rw [c17.2] at hs; exact absurd hs (Nat.not_lt_zero _)
  · rw [c27.2] at hk; exact absurd hk (Nat.not_lt_zero _)
  · rw [c31.2] at hi; exact absurd hi (Nat.not_lt_zero _)
  · rw [e33]; exact ⟨by decide, by decide⟩
  · rw [show gI (sL3 L xs) 65 0 h = 0 from rfl, show gI (sL3 L xs) 66 0 h = 0 from rfl]; exact ⟨⟨by decide, by decide⟩, by decide, by decide⟩
  · rw [e36]; exact ⟨by decide, by decide⟩
  · rw [e36] at hb; exact absurd (zsh h (by omega)) hb
  · exact absurd (show gI (sL3 L xs) 70 0 i = 0 from rfl) hk
theorem s3_Cpl : Cpl (sL3 L xs) (sL3 L xs) := by
  have c3 := (cM0 (σ := sL3 L xs) (f := 3) (b := 6) rfl).2
  have c5 := (cM0 (σ := sL3 L xs) (f := 5) (b := 6) rfl).2
  have c10 := (cM0 (σ := sL3 L xs) (f := 10) (b := 12) rfl).2
  have c17 := (cM0 (σ := sL3 L xs) (f := 17) (b := 6) rfl).2
  have c27 := (cM0 (σ := sL3 L xs) (f := 27) (b := 4) rfl).2
  have c31 := (cM0 (σ := sL3 L xs) (f := 31) (b := 9) rfl).2
  have c51 := cM0 (σ := sL3 L xs) (f := 51) (b := 20) rfl
  have c49 := cM0 (σ := sL3 L xs) (f := 49) (b := 80) rfl
  have e33 : gI (sL3 L xs) 13 0 33 = 0 := rfl
  have e36 : gI (sL3 L xs) 13 0 36 = 0 := rfl
  refine ⟨s3_iM L xs, fun y hy => rfl, ⟨rfl, rfl, rfl⟩, ⟨rfl, fun i hi => ?_⟩, ⟨rfl, fun i hi => ?_⟩, fun w hw => rfl, fun h hh => ⟨rfl, ?_⟩, ⟨rfl, ?_, fun p hp => ?_⟩, fun p hp => ?_, ⟨rfl, fun s hs => ?_, fun s t hs => ?_⟩, ⟨rfl, fun k hk => ?_⟩, fun w hw => ?_, fun h hh => Or.inl ⟨rfl, ?_⟩, fun h hh => Or.inl ⟨rfl, ?_⟩, ⟨fun i hi => Or.inl ⟨rfl, rfl⟩, fun i j q hi hj hq => ?_, rfl, rfl⟩, ⟨rfl, c51.1, fun j hj => ?_⟩, ⟨rfl, c49.1, fun j hj => ?_⟩, ⟨⟨rfl, rfl, rfl, rfl, rfl, rfl, rfl⟩, rfl, rfl, rfl, rfl, rfl⟩⟩
  · rw [c3] at hi; exact absurd hi (Nat.not_lt_zero _)
  · rw [c5] at hi; exact absurd hi (Nat.not_lt_zero _)
  · rw [s3_21 L xs h hh, s3_46 L xs h hh]
  · rw [c10]; rfl
  · rw [c10] at hp; exact absurd hp (Nat.not_lt_zero _)
  · rw [c10] at hp; exact absurd hp (Nat.not_lt_zero _)
  · rw [c17] at hs; exact absurd hs (Nat.not_lt_zero _)
  · rw [c17] at hs; exact absurd hs (Nat.not_lt_zero _)
  · rw [c27] at hk; exact absurd hk (Nat.not_lt_zero _)
  · rw [c31]; rfl
  · rw [e33]; exact zsh h (by omega)
  · rw [e36]; exact zsh h (by omega)
  · rw [show gR (sL3 L xs) 25 0 i = none from rfl] at hq; cases hq
  · rw [c51.2] at hj; exact absurd hj (Nat.not_lt_zero _)
  · rw [c49.2] at hj; exact absurd hj (Nat.not_lt_zero _)
theorem s3_Inv : LInv L (sL3 L xs) := ⟨s3_Cpl L xs, rfl, rfl⟩
end ST

