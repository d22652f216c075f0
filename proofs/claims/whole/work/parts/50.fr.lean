/-! cells by codes: 1000 k the kind k whole, 1000 k + 1 + j the field j of the objects of kind k (k at most 13), 1000 k + 999 how many there are -/
def inW (W : List Nat) (k j : Nat) : Bool := W.contains (1000 * k) || (Nat.ble k 13 && W.contains (1000 * k + 1 + j))
/-- what is not among W is in τ as in σ -/
def agO (W : List Nat) (σ τ : MSto) : Prop := (∀ k i j, inW W k j = false → gI τ k i j = gI σ k i j ∧ gJ τ k i j = gJ σ k i j ∧ gR τ k i j = gR σ k i j) ∧ ∀ k, W.contains (1000 * k + 999) = false → gN τ k = gN σ k
theorem agO_refl (W : List Nat) (σ : MSto) : agO W σ σ := ⟨fun _ _ _ _ => ⟨rfl, rfl, rfl⟩, fun _ _ => rfl⟩
theorem agO.trans {W : List Nat} {σ τ υ : MSto} (h1 : agO W σ τ) (h2 : agO W τ υ) : agO W σ υ :=
  ⟨fun k i j h => ⟨(h2.1 k i j h).1.trans (h1.1 k i j h).1, (h2.1 k i j h).2.1.trans (h1.1 k i j h).2.1, (h2.1 k i j h).2.2.trans (h1.1 k i j h).2.2⟩, fun k h => (h2.2 k h).trans (h1.2 k h)⟩
def subW (V W : List Nat) : Bool := V.all (fun x => W.contains x)
theorem subW_no {V W : List Nat} (h : subW V W = true) {x : Nat} (hx : W.contains x = false) : V.contains x = false := by
  cases hv : V.contains x with
  | false => rfl
  | true =>
    have hm : x ∈ V := List.elem_iff.mp hv
    have := List.all_eq_true.mp h x hm
    rw [hx] at this
    cases this
theorem agO.mono {V W : List Nat} {σ τ : MSto} (h : agO V σ τ) (hs : subW V W = true) : agO W σ τ := by
  refine ⟨fun k i j hk => h.1 k i j ?_, fun k hk => h.2 k (subW_no hs hk)⟩
  unfold inW at hk ⊢
  rw [Bool.or_eq_false_iff] at hk ⊢
  refine ⟨subW_no hs hk.1, ?_⟩
  rcases Bool.and_eq_false_iff.mp hk.2 with q | q
  · rw [q]; rfl
  · rw [subW_no hs q, Bool.and_false]
theorem agO.step {V W : List Nat} {σ τ υ : MSto} (h : agO W σ τ) (h2 : agO V τ υ) (hs : subW V W = true) : agO W σ υ := h.trans (h2.mono hs)
theorem agO_sI {W : List Nat} {σ τ : MSto} {k i j : Nat} {v : Int32} (hk : inW W k j = true) (h : agO W σ τ) : agO W σ (sI τ k i j v) := by
  refine ⟨fun k' i' j' hn => ⟨?_, (h.1 k' i' j' hn).2.1, (h.1 k' i' j' hn).2.2⟩, h.2⟩
  rw [gI_sI, if_neg]
  · exact (h.1 k' i' j' hn).1
  · rintro ⟨rfl, -, rfl⟩
    rw [hk] at hn
    cases hn
theorem agO_sJ {W : List Nat} {σ τ : MSto} {k i j : Nat} {v : Int64} (hk : inW W k j = true) (h : agO W σ τ) : agO W σ (sJ τ k i j v) := by
  refine ⟨fun k' i' j' hn => ⟨(h.1 k' i' j' hn).1, ?_, (h.1 k' i' j' hn).2.2⟩, h.2⟩
  rw [gJ_sJ, if_neg]
  · exact (h.1 k' i' j' hn).2.1
  · rintro ⟨rfl, -, rfl⟩
    rw [hk] at hn
    cases hn
theorem agO_sR {W : List Nat} {σ τ : MSto} {k i j : Nat} {v : Option Nat} (hk : inW W k j = true) (h : agO W σ τ) : agO W σ (sR τ k i j v) := by
  refine ⟨fun k' i' j' hn => ⟨(h.1 k' i' j' hn).1, (h.1 k' i' j' hn).2.1, ?_⟩, h.2⟩
  rw [gR_sR, if_neg]
  · exact (h.1 k' i' j' hn).2.2
  · rintro ⟨rfl, -, rfl⟩
    rw [hk] at hn
    cases hn
theorem agO_sNew {W : List Nat} {σ τ : MSto} {k : Nat} (hk : W.contains (1000 * k) = true) (hn : W.contains (1000 * k + 999) = true) (h : agO W σ τ) : agO W σ (sNew τ k) := by
  refine ⟨fun k' i' j' h' => ?_, fun k' h' => ?_⟩
  · have hne : k' ≠ k := by
      rintro rfl
      unfold inW at h'
      rw [hk] at h'
      cases h'
    refine ⟨?_, ?_, ?_⟩
    · rw [gI_sNew, if_neg (fun q => hne q.1)]; exact (h.1 k' i' j' h').1
    · rw [gJ_sNew, if_neg (fun q => hne q.1)]; exact (h.1 k' i' j' h').2.1
    · rw [gR_sNew, if_neg (fun q => hne q.1)]; exact (h.1 k' i' j' h').2.2
  · rw [gN_sNew, if_neg]
    · exact h.2 k' h'
    · rintro rfl
      rw [hn] at h'
      cases h'
theorem agO_fI {W : List Nat} {σ τ : MSto} {k i n : Nat} {f : Nat → Int32} (hk : W.contains (1000 * k) = true) (h : agO W σ τ) : agO W σ (fI τ k i f n) := by
  refine ⟨fun k' i' j' hn => ⟨?_, (h.1 k' i' j' hn).2.1, (h.1 k' i' j' hn).2.2⟩, h.2⟩
  rw [gI_fI, if_neg]
  · exact (h.1 k' i' j' hn).1
  · rintro ⟨rfl, -, -⟩
    unfold inW at hn
    rw [hk] at hn
    cases hn
theorem agO_fJ {W : List Nat} {σ τ : MSto} {k i n : Nat} {f : Nat → Int64} (hk : W.contains (1000 * k) = true) (h : agO W σ τ) : agO W σ (fJ τ k i f n) := by
  refine ⟨fun k' i' j' hn => ⟨(h.1 k' i' j' hn).1, ?_, (h.1 k' i' j' hn).2.2⟩, h.2⟩
  rw [gJ_fJ, if_neg]
  · exact (h.1 k' i' j' hn).2.1
  · rintro ⟨rfl, -, -⟩
    unfold inW at hn
    rw [hk] at hn
    cases hn
theorem ite_P {α : Type} {P : α → Prop} {c : Prop} [Decidable c] {a b : α} (ha : P a) (hb : P b) : P (if c then a else b) := by
  split
  · exact ha
  · exact hb
theorem mO_P {α : Type} {P : α → Prop} {o : Option Nat} {x : α} {f : Nat → α} (hx : P x) (hf : ∀ i, P (f i)) : P (mO o x f) := by
  cases o with
  | none => exact hx
  | some i => exact hf i
theorem agO.i {W : List Nat} {σ τ : MSto} (h : agO W σ τ) {k i j : Nat} (hk : inW W k j = false) : gI τ k i j = gI σ k i j := (h.1 k i j hk).1
theorem agO.j {W : List Nat} {σ τ : MSto} (h : agO W σ τ) {k i j : Nat} (hk : inW W k j = false) : gJ τ k i j = gJ σ k i j := (h.1 k i j hk).2.1
theorem agO.r {W : List Nat} {σ τ : MSto} (h : agO W σ τ) {k i j : Nat} (hk : inW W k j = false) : gR τ k i j = gR σ k i j := (h.1 k i j hk).2.2
theorem agO.n {W : List Nat} {σ τ : MSto} (h : agO W σ τ) {k : Nat} (hk : W.contains (1000 * k + 999) = false) : gN τ k = gN σ k := h.2 k hk
/-! the ones that were written by hand -/
theorem w_AL_add14 (i k1 a : Nat) (σ : MSto) : agO [14000] σ (e_AL_add 14 i k1 a σ) := agO_sI rfl (agO_sR rfl (agO_sI rfl (agO_refl _ σ)))
theorem w_AL_add15 (i k1 a : Nat) (σ : MSto) : agO [15000] σ (e_AL_add 15 i k1 a σ) := agO_sI rfl (agO_sR rfl (agO_sI rfl (agO_refl _ σ)))
theorem w_AL_add16 (i k1 a : Nat) (σ : MSto) : agO [16000] σ (e_AL_add 16 i k1 a σ) := agO_sI rfl (agO_sR rfl (agO_sI rfl (agO_refl _ σ)))
theorem w_AL_add17 (i k1 a : Nat) (σ : MSto) : agO [17000] σ (e_AL_add 17 i k1 a σ) := agO_sI rfl (agO_sR rfl (agO_sI rfl (agO_refl _ σ)))
theorem w_AL_add18 (i k1 a : Nat) (σ : MSto) : agO [18000] σ (e_AL_add 18 i k1 a σ) := agO_sI rfl (agO_sR rfl (agO_sI rfl (agO_refl _ σ)))
theorem w_M_lost (σ : MSto) : agO [13053] σ (e_M_lost σ) := agO_sI rfl (agO_refl _ σ)
theorem w_M_tell (v : Int64) (σ : MSto) : agO [13052, 78000] σ (e_M_tell v σ) := agO_sI rfl (agO_sJ rfl (agO_refl _ σ))
theorem w_M_end (n : Int32) (σ : MSto) : agO [13050, 13053] σ (e_M_end n σ) := ite_P (P := fun s => agO [13050, 13053] σ s) (agO_sI rfl (agO_sI rfl (agO_refl _ σ))) (agO_sI rfl (agO_refl _ σ))
theorem w_M_value (y : Int32) (σ : MSto) : agO [13053] σ (e_M_value y σ) := agO_sI rfl (agO_refl _ σ)
theorem w_M_woven (y : Int32) (σ : MSto) : agO [13003, 13053] σ (e_M_woven y σ) := ite_P (P := fun s => agO [13003, 13053] σ s) (agO_sI rfl (agO_sI rfl (agO_refl _ σ))) (agO_sI rfl (agO_refl _ σ))
theorem w_M_weighYears (b : Int32) (σ : MSto) : agO [13061, 81000] σ (e_M_weighYears b σ) := agO_sJ rfl (agO_fJ rfl (agO_refl _ σ))
theorem w_M_findApart (b : Int32) (σ : MSto) : agO [13063, 13064] σ (e_M_findApart b σ) := agO_sJ rfl (agO_sJ rfl (agO_refl _ σ))
theorem w_M_gather (b : Int32) (σ : MSto) : agO [13067, 83000, 84000] σ (e_M_gather b σ) := agO_sI rfl (agO_fI rfl (agO_fI rfl (agO_refl _ σ)))
theorem w_u_M_sign (a k : Int32) {σ τ : MSto} (h : agO [13050, 13053, 77000] σ τ) : agO [13050, 13053, 77000] σ (u_M_sign a k τ) := agO_sI rfl (agO_sI rfl h)
theorem w_M_sign (a : Int32) (σ : MSto) : agO [13050, 13053, 77000] σ (e_M_sign a σ) := ite_P (P := fun s => agO [13050, 13053, 77000] σ s) (w_u_M_sign _ _ (w_u_M_sign _ _ (w_u_M_sign _ _ (w_u_M_sign _ _ (agO_sI rfl (agO_refl _ σ)))))) (agO_sI rfl (agO_refl _ σ))
theorem w_a_M {W : List Nat} {σ τ : MSto} (hW : inW W 13 55 = true) (i : Nat) (h : agO W σ τ) : agO W σ (a_M τ i) := agO_sI hW h
theorem w_M_fault0 (a : Int32) {σ τ : MSto} (h : agO [13056, 13057] σ τ) : agO [13056, 13057] σ (e_M_fault a τ) := ite_P (P := fun s => agO [13056, 13057] σ s) (agO_sI rfl h) h
theorem w_f_M_num (low high fr v : Int32) {σ τ : MSto} (h : agO [13056, 13057] σ τ) : agO [13056, 13057] σ (f_M_num low high fr v τ) := ite_P (P := fun s => agO [13056, 13057] σ s) (w_M_fault0 _ h) (ite_P (P := fun s => agO [13056, 13057] σ s) (w_M_fault0 _ h) h)
theorem w_M_number (low high : Int32) (σ : MSto) : agO [13056, 13057] σ (e_M_number low high σ) := ite_P (P := fun s => agO [13056, 13057] σ s) (w_f_M_num _ _ _ _ (w_a_M rfl _ (agO_refl _ σ))) (agO_refl _ σ)
theorem w_M_permuteX (a : Int32) (σ : MSto) : agO [] σ (e_M_permuteX a σ) := agO_refl _ σ

