/-! what the reference's cells keep to -/
def nfold {α : Type} (f : Nat → α → α) (a : α) : Nat → α
  | 0 => a
  | n + 1 => f n (nfold f a n)
theorem nfold_0 {α : Type} (f : Nat → α → α) (a : α) : nfold f a 0 = a := rfl
theorem nfold_s {α : Type} (f : Nat → α → α) (a : α) (n : Nat) : nfold f a (n + 1) = f n (nfold f a n) := rfl
theorem nfold_congr {α : Type} {f g : Nat → α → α} {a : α} : ∀ {n : Nat}, (∀ i, i < n → ∀ x, f i x = g i x) → nfold f a n = nfold g a n
  | 0, _ => rfl
  | n + 1, h => by rw [nfold_s, nfold_s, nfold_congr (fun i hi x => h i (by omega) x), h n (by omega)]
/-- what every step keeps, the fold keeps -/
theorem nfold_ind {α : Type} {f : Nat → α → α} {a : α} {Q : α → Prop} (h0 : Q a) : ∀ {n : Nat}, (∀ i, i < n → ∀ x, Q x → Q (f i x)) → Q (nfold f a n)
  | 0, _ => h0
  | n + 1, h => h n (by omega) _ (nfold_ind h0 (fun i hi x hx => h i (by omega) x hx))
def rg (x a b : Int32) : Prop := a ≤ x ∧ x ≤ b
def nM (σ : MSto) (f : Nat) : Nat := (gI σ 13 0 f).toNatClampNeg
def cM (σ : MSto) (f b : Nat) : Prop := gI σ 13 0 f = nI (nM σ f) ∧ nM σ f ≤ b
def iMc (σ : MSto) : Prop := cM σ 3 6 ∧ cM σ 5 6 ∧ cM σ 10 12 ∧ cM σ 17 6 ∧ cM σ 27 4 ∧ cM σ 31 9 ∧ rg (gI σ 13 0 2) 0 199
def iMv (σ : MSto) : Prop := ∀ y, y < 200 → rg (gI σ 41 0 y) 0 999
def iMm (σ : MSto) : Prop := ∀ i, i < nM σ 3 → rg (gI σ 42 0 (5 * i + 4)) 0 199
def iMs (σ : MSto) : Prop := ∀ i, i < nM σ 5 → rg (gI σ 43 0 (6 * i + 4)) 0 199 ∧ rg (gI σ 43 0 (6 * i + 5)) 0 90
def iMg (σ : MSto) : Prop := ∀ w, w < 4 → rg (gI σ 44 0 w) 0 100
def iMh (σ : MSto) : Prop := ∀ h, h < 6 → rg (gI σ 45 0 h) (-50) 50 ∧ rg (gI σ 46 0 h) 1 60
def iMp (σ : MSto) : Prop := ∀ p, p < nM σ 10 → rg (gI σ 47 0 p) 0 23 ∧ rg (gI σ 48 0 p) 0 7 ∧ rg (gI σ 49 0 p) 0 3 ∧ rg (gI σ 50 0 p) 0 5
def iMn (σ : MSto) : Prop := (∀ p, p < 12 → rg (gI σ 51 0 p) (-150) 2000) ∧ rg (gI σ 13 0 15) 0 4095 ∧ ∀ p, p < 12 → nM σ 10 ≤ p → gI σ 13 0 15 >>> (nI p &&& 31) &&& 1 = 0
def iMt (σ : MSto) : Prop := ∀ s, s < nM σ 17 → rg (gI σ 59 0 s) 0 31 ∧ (¬ gI σ 59 0 s &&& 1 = 0 → rg (gI σ 52 0 s) 0 199) ∧ (¬ gI σ 59 0 s &&& 2 = 0 → rg (gI σ 53 0 s) 0 199 ∧ rg (gI σ 54 0 s) 0 90) ∧ (¬ gI σ 59 0 s &&& 4 = 0 → rg (gI σ 55 0 s) 0 199) ∧ rg (gI σ 56 0 s) (-99) 99 ∧ rg (gI σ 57 0 s) (-1) 5 ∧ rg (gI σ 58 0 s) (-99) 99 ∧ rg (gI σ 60 0 s) 0 9
def iMq (σ : MSto) : Prop := ∀ k, k < nM σ 27 → rg (gI σ 61 0 k) 0 199 ∧ rg (gI σ 62 0 k) 0 1 ∧ rg (gI σ 63 0 k) 1 9
def iMl (σ : MSto) : Prop := ∀ i, i < nM σ 31 → rg (gI σ 64 0 i) 0 5
def iMo (σ : MSto) : Prop := rg (gI σ 13 0 33) 0 255 ∧ ∀ h, h < 8 → rg (gI σ 65 0 h) 0 255 ∧ rg (gI σ 66 0 h) 0 255
def iMw (σ : MSto) : Prop := rg (gI σ 13 0 36) 0 255 ∧ ∀ h, h < 8 → ¬ gI σ 13 0 36 >>> (nI h &&& 31) &&& 1 = 0 → 0 ≤ gI σ 67 0 h ∧ gI σ 67 0 h < gI σ 13 0 17
def iMk (σ : MSto) : Prop := ∀ i, i < 3 → ¬ gI σ 70 0 i = 0 → rg (gI σ 73 0 i) 0 199 ∧ rg (gI σ 71 0 i) 0 4095 ∧ (∀ p, p < 12 → rg (gI σ 72 0 (12 * i + p)) (-150) 2000) ∧ (∀ p, p < 12 → nM σ 10 ≤ p → gI σ 71 0 i >>> (nI p &&& 31) &&& 1 = 0) ∧ (∀ s, s < 6 → nI s < gI σ 75 0 i → rg (gI σ 74 0 (6 * i + s)) 0 9) ∧ rg (gI σ 75 0 i) 0 6
def iM (σ : MSto) : Prop := iMc σ ∧ iMv σ ∧ iMm σ ∧ iMs σ ∧ iMg σ ∧ iMh σ ∧ iMp σ ∧ iMn σ ∧ iMt σ ∧ iMq σ ∧ iMl σ ∧ iMo σ ∧ iMw σ ∧ iMk σ
theorem iM.c {σ : MSto} (h : iM σ) : iMc σ := h.1
theorem iM.v {σ : MSto} (h : iM σ) : iMv σ := h.2.1
theorem iM.m {σ : MSto} (h : iM σ) : iMm σ := h.2.2.1
theorem iM.s {σ : MSto} (h : iM σ) : iMs σ := h.2.2.2.1
theorem iM.g {σ : MSto} (h : iM σ) : iMg σ := h.2.2.2.2.1
theorem iM.h {σ : MSto} (h : iM σ) : iMh σ := h.2.2.2.2.2.1
theorem iM.p {σ : MSto} (h : iM σ) : iMp σ := h.2.2.2.2.2.2.1
theorem iM.n {σ : MSto} (h : iM σ) : iMn σ := h.2.2.2.2.2.2.2.1
theorem iM.t {σ : MSto} (h : iM σ) : iMt σ := h.2.2.2.2.2.2.2.2.1
theorem iM.q {σ : MSto} (h : iM σ) : iMq σ := h.2.2.2.2.2.2.2.2.2.1
theorem iM.l {σ : MSto} (h : iM σ) : iMl σ := h.2.2.2.2.2.2.2.2.2.2.1
theorem iM.o {σ : MSto} (h : iM σ) : iMo σ := h.2.2.2.2.2.2.2.2.2.2.2.1
theorem iM.w {σ : MSto} (h : iM σ) : iMw σ := h.2.2.2.2.2.2.2.2.2.2.2.2.1
theorem iM.k {σ : MSto} (h : iM σ) : iMk σ := h.2.2.2.2.2.2.2.2.2.2.2.2.2
theorem rgI {x a b : Int32} {n : Nat} (h : rg x a b) (ha : 0 ≤ a) (hb : b.toInt + 1 = n) : vp_in x n := inIle b hb (Int32.le_trans ha h.1) h.2
theorem nI_inb {i n : Nat} (h : i < n) (hn : n < 2 ^ 31) : vp_in (nI i) n := vp_in_nI h hn
theorem nI_cl {i : Nat} (h : i < 2 ^ 31) : (nI i).toNatClampNeg = i := nI_clamp h
theorem nI_addL (a b : Nat) : nI a + nI b = nI (a + b) := nI_add a b
theorem ltN {a b : Nat} (ha : a < 2 ^ 31) (hb : b < 2 ^ 31) : nI a < nI b ↔ a < b := nI_ltI ha hb
theorem leN {a b : Nat} (ha : a < 2 ^ 31) (hb : b < 2 ^ 31) : nI a ≤ nI b ↔ a ≤ b := nI_leI ha hb
/-- small literals as nI -/
theorem lit_nI (n : Nat) : (OfNat.ofNat n : Int32) = nI n := rfl
theorem clA {i c : Nat} (h : i + c < 2 ^ 31) : (nI i + (OfNat.ofNat c : Int32)).toNatClampNeg = i + c := by
  rw [show (OfNat.ofNat c : Int32) = nI c from rfl, nI_add, nI_clamp h]
theorem nA (i c : Nat) : nI i + (OfNat.ofNat c : Int32) = nI (i + c) := nI_add i c
theorem nMul (c i : Nat) : (OfNat.ofNat c : Int32) * nI i = nI (c * i) := pk_mul c i
theorem mW1_st {P : MP} {st st' : MST} {Post : MST → Prop} (h : mW1 P st' Post) (e : st = st') : mW1 P st Post := e ▸ h
/-- from a state of a loop to the next -/
theorem mTr_l {P : MP} {st st' : MST} {Post : MST → Prop} (h : mW1 P st' Post) (e : st = st') : mTr (fun n => mexe KT P n st) Post := e ▸ h
theorem inb {i c n : Nat} (h : i + c < n) (hn : n < 2 ^ 31) : vp_in (nI i + (OfNat.ofNat c : Int32)) n := by rw [nA]; exact vp_in_nI h hn
/-- arrays filled from the front -/
def fI (σ : MSto) (k i : Nat) (f : Nat → Int32) (n : Nat) : MSto := (fun a b c => if a = k ∧ b = i ∧ c < n then f c else σ.1 a b c, σ.2)
def fJ (σ : MSto) (k i : Nat) (f : Nat → Int64) (n : Nat) : MSto := (σ.1, fun a b c => if a = k ∧ b = i ∧ c < n then f c else σ.2.1 a b c, σ.2.2)
theorem fI_0 (σ : MSto) (k i : Nat) (f : Nat → Int32) : fI σ k i f 0 = σ := by
  unfold fI
  have : (fun a b c => if a = k ∧ b = i ∧ c < 0 then f c else σ.1 a b c) = σ.1 := by funext a b c; rw [if_neg (by omega)]
  rw [this]
theorem fJ_0 (σ : MSto) (k i : Nat) (f : Nat → Int64) : fJ σ k i f 0 = σ := by
  unfold fJ
  have : (fun a b c => if a = k ∧ b = i ∧ c < 0 then f c else σ.2.1 a b c) = σ.2.1 := by funext a b c; rw [if_neg (by omega)]
  rw [this]
theorem fI_s (σ : MSto) (k i : Nat) (f : Nat → Int32) (n : Nat) : sI (fI σ k i f n) k i n (f n) = fI σ k i f (n + 1) := by
  unfold sI fI
  congr 1
  funext a b c
  dsimp only
  by_cases h : a = k ∧ b = i ∧ c = n
  · rw [if_pos h, if_pos ⟨h.1, h.2.1, by omega⟩, h.2.2]
  · rw [if_neg h]
    by_cases h2 : a = k ∧ b = i ∧ c < n
    · rw [if_pos h2, if_pos ⟨h2.1, h2.2.1, by omega⟩]
    · rw [if_neg h2, if_neg (by rintro ⟨g1, g2, g3⟩; rcases Nat.lt_succ_iff_lt_or_eq.mp g3 with g | g; exact h2 ⟨g1, g2, g⟩; exact h ⟨g1, g2, g⟩)]
theorem fJ_s (σ : MSto) (k i : Nat) (f : Nat → Int64) (n : Nat) : sJ (fJ σ k i f n) k i n (f n) = fJ σ k i f (n + 1) := by
  unfold sJ fJ
  congr 2
  funext a b c
  dsimp only
  by_cases h : a = k ∧ b = i ∧ c = n
  · rw [if_pos h, if_pos ⟨h.1, h.2.1, by omega⟩, h.2.2]
  · rw [if_neg h]
    by_cases h2 : a = k ∧ b = i ∧ c < n
    · rw [if_pos h2, if_pos ⟨h2.1, h2.2.1, by omega⟩]
    · rw [if_neg h2, if_neg (by rintro ⟨g1, g2, g3⟩; rcases Nat.lt_succ_iff_lt_or_eq.mp g3 with g | g; exact h2 ⟨g1, g2, g⟩; exact h ⟨g1, g2, g⟩)]
theorem gI_fI (σ : MSto) (k i : Nat) (f : Nat → Int32) (n k' i' j' : Nat) : gI (fI σ k i f n) k' i' j' = if k' = k ∧ i' = i ∧ j' < n then f j' else gI σ k' i' j' := rfl
theorem gJ_fJ (σ : MSto) (k i : Nat) (f : Nat → Int64) (n k' i' j' : Nat) : gJ (fJ σ k i f n) k' i' j' = if k' = k ∧ i' = i ∧ j' < n then f j' else gJ σ k' i' j' := rfl
/-- stores at two places -/
theorem sJ_comm (σ : MSto) {k i j k' i' j' : Nat} (v w : Int64) (h : ¬ (k = k' ∧ i = i' ∧ j = j')) : sJ (sJ σ k i j v) k' i' j' w = sJ (sJ σ k' i' j' w) k i j v := by
  unfold sJ
  congr 2
  funext a b c
  dsimp only
  by_cases h1 : a = k' ∧ b = i' ∧ c = j'
  · rw [if_pos h1, if_neg (by rintro ⟨rfl, rfl, rfl⟩; exact h h1), if_pos h1]
  · rw [if_neg h1, if_neg h1]
theorem sI_comm (σ : MSto) {k i j k' i' j' : Nat} (v w : Int32) (h : ¬ (k = k' ∧ i = i' ∧ j = j')) : sI (sI σ k i j v) k' i' j' w = sI (sI σ k' i' j' w) k i j v := by
  unfold sI
  congr 1
  funext a b c
  dsimp only
  by_cases h1 : a = k' ∧ b = i' ∧ c = j'
  · rw [if_pos h1, if_neg (by rintro ⟨rfl, rfl, rfl⟩; exact h h1), if_pos h1]
  · rw [if_neg h1, if_neg h1]
theorem sJ_sJ (σ : MSto) (k i j : Nat) (v w : Int64) : sJ (sJ σ k i j v) k i j w = sJ σ k i j w := by
  unfold sJ
  congr 2
  funext a b c
  dsimp only
  by_cases h1 : a = k ∧ b = i ∧ c = j
  · rw [if_pos h1, if_pos h1]
  · rw [if_neg h1, if_neg h1, if_neg h1]
theorem sI_sI (σ : MSto) (k i j : Nat) (v w : Int32) : sI (sI σ k i j v) k i j w = sI σ k i j w := by
  unfold sI
  congr 1
  funext a b c
  dsimp only
  by_cases h1 : a = k ∧ b = i ∧ c = j
  · rw [if_pos h1, if_pos h1]
  · rw [if_neg h1, if_neg h1, if_neg h1]
/-- sums of longs -/
def sumJ (f : Nat → Int64) : Nat → Int64
  | 0 => 0
  | n + 1 => sumJ f n + f n
def sumI (f : Nat → Int32) : Nat → Int32
  | 0 => 0
  | n + 1 => sumI f n + f n
theorem nfold_st {α : Type} {f : Nat → α → α} {a : α} {i : Nat} {x : α} (h : f i (nfold f a i) = x) : nfold f a (i + 1) = x := h
theorem sumJ_s (f : Nat → Int64) (n : Nat) : sumJ f (n + 1) = sumJ f n + f n := rfl
theorem sumI_s (f : Nat → Int32) (n : Nat) : sumI f (n + 1) = sumI f n + f n := rfl
/-- two stores are one when their cells are -/
theorem sto_ext {σ τ : MSto} (h1 : ∀ k i j, gI σ k i j = gI τ k i j) (h2 : ∀ k i j, gJ σ k i j = gJ τ k i j) (h3 : ∀ k i j, gR σ k i j = gR τ k i j) (h4 : ∀ k, gN σ k = gN τ k) : σ = τ :=
  Prod.ext (funext fun k => funext fun i => funext fun j => h1 k i j) (Prod.ext (funext fun k => funext fun i => funext fun j => h2 k i j) (Prod.ext (funext fun k => funext fun i => funext fun j => h3 k i j) (funext fun k => h4 k)))
theorem sI_id (σ : MSto) (k i j : Nat) : sI σ k i j (gI σ k i j) = σ := by
  refine sto_ext (fun a b c => ?_) (fun _ _ _ => rfl) (fun _ _ _ => rfl) (fun _ => rfl)
  rw [gI_sI]
  split
  · rename_i h; rw [h.1, h.2.1, h.2.2]
  · rfl
theorem sJ_id (σ : MSto) (k i j : Nat) : sJ σ k i j (gJ σ k i j) = σ := by
  refine sto_ext (fun _ _ _ => rfl) (fun a b c => ?_) (fun _ _ _ => rfl) (fun _ => rfl)
  rw [gJ_sJ]
  split
  · rename_i h; rw [h.1, h.2.1, h.2.2]
  · rfl
