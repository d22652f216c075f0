/-! the class's cells (in σ) against the reference's (in τ) -/
def nC (σ : MSto) (k : Nat) : Nat := (gI σ k 0 2).toNatClampNeg
/-- the element at a place of a list -/
def eL (σ : MSto) (k i : Nat) : Nat := (gR σ k 0 i).getD 0
def kV (σ τ : MSto) : Prop := ∀ y, y < 200 → gI σ 35 0 y = gI τ 41 0 y
def kB (σ τ : MSto) : Prop := gI σ 2 0 1 = gI τ 13 0 1 ∧ gI σ 1 0 1 = gI τ 13 0 2 ∧ gI σ 12 0 12 = gI τ 13 0 40
def kM (σ τ : MSto) : Prop := gI σ 17 0 2 = gI τ 13 0 3 ∧ ∀ i, i < nM τ 3 → gR σ 17 0 i = some (eL σ 17 i) ∧ eL σ 17 i < gN σ 6 ∧ gI σ 6 (eL σ 17 i) 0 = gI τ 42 0 (5 * i) ∧ gI σ 6 (eL σ 17 i) 1 = gI τ 42 0 (5 * i + 1) ∧ gI σ 6 (eL σ 17 i) 2 = gI τ 42 0 (5 * i + 2) ∧ gI σ 6 (eL σ 17 i) 3 = gI τ 42 0 (5 * i + 3) ∧ gI σ 6 (eL σ 17 i) 4 = gI τ 42 0 (5 * i + 4)
def kS (σ τ : MSto) : Prop := gI σ 18 0 2 = gI τ 13 0 5 ∧ ∀ i, i < nM τ 5 → gR σ 18 0 i = some (eL σ 18 i) ∧ eL σ 18 i < gN σ 6 ∧ gI σ 6 (eL σ 18 i) 0 = gI τ 43 0 (6 * i) ∧ gI σ 6 (eL σ 18 i) 1 = gI τ 43 0 (6 * i + 1) ∧ gI σ 6 (eL σ 18 i) 2 = gI τ 43 0 (6 * i + 2) ∧ gI σ 6 (eL σ 18 i) 3 = gI τ 43 0 (6 * i + 3) ∧ gI σ 6 (eL σ 18 i) 4 = gI τ 43 0 (6 * i + 4) ∧ gI σ 6 (eL σ 18 i) 5 = gI τ 43 0 (6 * i + 5)
def kG (σ τ : MSto) : Prop := ∀ w, w < 4 → gI σ 34 0 w = gI τ 44 0 w
def kH (σ τ : MSto) : Prop := ∀ h, h < 6 → gI σ 20 0 h = gI τ 45 0 h ∧ gI σ 21 0 h = gI τ 46 0 h
def kP (σ τ : MSto) : Prop := gI σ 14 0 2 = gI τ 13 0 10 ∧ gN σ 7 = nM τ 10 ∧ ∀ p, p < nM τ 10 → gR σ 14 0 p = some p ∧ gI σ 7 p 0 = gI τ 47 0 p ∧ gI σ 7 p 1 = gI τ 48 0 p ∧ gI σ 7 p 2 = gI τ 49 0 p ∧ gI σ 7 p 3 = gI τ 50 0 p
def kN (σ τ : MSto) : Prop := ∀ p, p < nM τ 10 → gI σ 7 p 4 = gI τ 13 0 15 >>> (nI p &&& 31) &&& 1 ∧ (¬ gI σ 7 p 4 = 0 → gI σ 7 p 5 = gI τ 51 0 p)
def kT1 (σ τ : MSto) (q s : Nat) : Prop := gI σ 9 q 0 = gI τ 59 0 s ∧ gI σ 9 q 1 = gI τ 60 0 s ∧ (¬ gI τ 59 0 s &&& 1 = 0 → gI σ 9 q 2 = gI τ 52 0 s) ∧ (¬ gI τ 59 0 s &&& 2 = 0 → gI σ 9 q 3 = gI τ 53 0 s ∧ gI σ 9 q 4 = gI τ 54 0 s) ∧ (¬ gI τ 59 0 s &&& 4 = 0 → gI σ 9 q 5 = gI τ 55 0 s) ∧ gI σ 9 q 6 = gI τ 56 0 s ∧ (¬ gI τ 59 0 s &&& 16 = 0 → gI σ 9 q 7 = gI τ 57 0 s ∧ gI σ 9 q 8 = gI τ 58 0 s) ∧ (gI τ 59 0 s &&& 16 = 0 → gI τ 57 0 s = -1)
def kT (σ τ : MSto) : Prop := gI σ 15 0 2 = gI τ 13 0 17 ∧ (∀ s, s < nM τ 17 → gR σ 15 0 s = some (eL σ 15 s) ∧ eL σ 15 s < gN σ 9 ∧ kT1 σ τ (eL σ 15 s) s) ∧ ∀ s t, s < nM τ 17 → t < nM τ 17 → eL σ 15 s = eL σ 15 t → s = t
def kQ (σ τ : MSto) : Prop := gI σ 16 0 2 = gI τ 13 0 27 ∧ ∀ k, k < nM τ 27 → gR σ 16 0 k = some (eL σ 16 k) ∧ eL σ 16 k < gN σ 5 ∧ gI σ 5 (eL σ 16 k) 0 = gI τ 61 0 k ∧ gI σ 5 (eL σ 16 k) 1 = gI τ 62 0 k ∧ gI σ 5 (eL σ 16 k) 2 = gI τ 63 0 k
/-- how many of the first n likes have a weave -/
def ctL (τ : MSto) (w : Nat) (n : Nat) : Nat := fb_ct (fun i => decide (gI τ 64 0 i = nI w)) n
def kL (σ τ : MSto) : Prop := ∀ w, w < 6 → gI σ 22 0 w = nI (ctL τ w (nM τ 31))
def kO (σ τ : MSto) : Prop := ∀ h, h < 8 → (gR σ 23 0 h = none ∧ gI τ 13 0 33 >>> (nI h &&& 31) &&& 1 = 0) ∨ ∃ q, gR σ 23 0 h = some q ∧ q < gN σ 3 ∧ gI τ 13 0 33 >>> (nI h &&& 31) &&& 1 = 1 ∧ gI σ 3 q 0 = gI τ 65 0 h ∧ gI σ 3 q 1 = gI τ 66 0 h
def kW (σ τ : MSto) : Prop := ∀ h, h < 8 → (gR σ 24 0 h = none ∧ gI τ 13 0 36 >>> (nI h &&& 31) &&& 1 = 0) ∨ ∃ q, gR σ 24 0 h = some q ∧ q < gN σ 11 ∧ gI τ 13 0 36 >>> (nI h &&& 31) &&& 1 = 1 ∧ gI σ 11 q 0 = gI τ 67 0 h ∧ gI σ 11 q 1 = gI τ 68 0 h ∧ gI σ 11 q 2 = gI τ 69 0 h
def kK1 (σ τ : MSto) (q i : Nat) : Prop := gI σ 4 q 0 = gI τ 73 0 i ∧ gI σ 4 q 1 = gI τ 76 0 i ∧ gI σ 4 q 2 = gI τ 71 0 i ∧ (∀ p, p < 12 → ¬ gI τ 71 0 i >>> (nI p &&& 31) &&& 1 = 0 → gI σ 39 q p = gI τ 72 0 (12 * i + p)) ∧ ∀ s, s < 6 → gI σ 40 q s = if nI s < gI τ 75 0 i then gI τ 74 0 (6 * i + s) else 1
def kK (σ τ : MSto) : Prop := (∀ i, i < 3 → (gR σ 25 0 i = none ∧ gI τ 70 0 i = 0) ∨ ∃ q, gR σ 25 0 i = some q ∧ q < gN σ 4 ∧ gI τ 70 0 i = 1 ∧ kK1 σ τ q i) ∧ (∀ i j q, i < 3 → j < 3 → gR σ 25 0 i = some q → gR σ 25 0 j = some q → i = j) ∧ gN σ 39 = gN σ 4 ∧ gN σ 40 = gN σ 4
def kR (σ τ : MSto) : Prop := gI σ 8 0 1 = gI τ 13 0 51 ∧ cM τ 51 20 ∧ ∀ j, j < nM τ 51 → gJ σ 38 0 j = gJ τ 78 0 j
def kX (σ τ : MSto) : Prop := gI σ 10 0 1 = gI τ 13 0 49 ∧ cM τ 49 80 ∧ ∀ j, j < nM τ 49 → 0 ≤ gI σ 33 0 j ∧ gI σ 33 0 j ≤ 255 ∧ gI τ 77 0 j = (gI σ 33 0 j).toInt8.toInt32
/-- the class's cells that are made once -/
def kU (σ : MSto) : Prop := gN σ 12 = 1 ∧ gN σ 1 = 1 ∧ gN σ 2 = 1 ∧ gN σ 8 = 1 ∧ gN σ 10 = 1 ∧ gN σ 14 = 1 ∧ gN σ 15 = 1 ∧ gN σ 16 = 1 ∧ gN σ 17 = 1 ∧ gN σ 18 = 1
/-- the two tables of the class -/
def kA (σ : MSto) : Prop := (gI σ 95 0 0 = 100 ∧ gI σ 95 0 1 = 88 ∧ gI σ 95 0 2 = 61 ∧ gI σ 95 0 3 = 32 ∧ gI σ 95 0 4 = 14 ∧ gI σ 95 0 5 = 4 ∧ gI σ 95 0 6 = 1) ∧ gI σ 96 0 0 = 0 ∧ gI σ 96 0 1 = 0 ∧ gI σ 96 0 2 = 384 ∧ gI σ 96 0 3 = 599 ∧ gI σ 96 0 4 = 781
def Cpl (σ τ : MSto) : Prop := iM τ ∧ kV σ τ ∧ kB σ τ ∧ kM σ τ ∧ kS σ τ ∧ kG σ τ ∧ kH σ τ ∧ kP σ τ ∧ kN σ τ ∧ kT σ τ ∧ kQ σ τ ∧ kL σ τ ∧ kO σ τ ∧ kW σ τ ∧ kK σ τ ∧ kR σ τ ∧ kX σ τ ∧ kA σ
theorem Cpl.m {σ τ : MSto} (h : Cpl σ τ) : iM τ := h.1
theorem Cpl.v {σ τ : MSto} (h : Cpl σ τ) : kV σ τ := h.2.1
theorem Cpl.b {σ τ : MSto} (h : Cpl σ τ) : kB σ τ := h.2.2.1
theorem Cpl.me {σ τ : MSto} (h : Cpl σ τ) : kM σ τ := h.2.2.2.1
theorem Cpl.s {σ τ : MSto} (h : Cpl σ τ) : kS σ τ := h.2.2.2.2.1
theorem Cpl.g {σ τ : MSto} (h : Cpl σ τ) : kG σ τ := h.2.2.2.2.2.1
theorem Cpl.h {σ τ : MSto} (h : Cpl σ τ) : kH σ τ := h.2.2.2.2.2.2.1
theorem Cpl.p {σ τ : MSto} (h : Cpl σ τ) : kP σ τ := h.2.2.2.2.2.2.2.1
theorem Cpl.n {σ τ : MSto} (h : Cpl σ τ) : kN σ τ := h.2.2.2.2.2.2.2.2.1
theorem Cpl.t {σ τ : MSto} (h : Cpl σ τ) : kT σ τ := h.2.2.2.2.2.2.2.2.2.1
theorem Cpl.q {σ τ : MSto} (h : Cpl σ τ) : kQ σ τ := h.2.2.2.2.2.2.2.2.2.2.1
theorem Cpl.l {σ τ : MSto} (h : Cpl σ τ) : kL σ τ := h.2.2.2.2.2.2.2.2.2.2.2.1
theorem Cpl.o {σ τ : MSto} (h : Cpl σ τ) : kO σ τ := h.2.2.2.2.2.2.2.2.2.2.2.2.1
theorem Cpl.w {σ τ : MSto} (h : Cpl σ τ) : kW σ τ := h.2.2.2.2.2.2.2.2.2.2.2.2.2.1
theorem Cpl.k {σ τ : MSto} (h : Cpl σ τ) : kK σ τ := h.2.2.2.2.2.2.2.2.2.2.2.2.2.2.1
theorem Cpl.r {σ τ : MSto} (h : Cpl σ τ) : kR σ τ := h.2.2.2.2.2.2.2.2.2.2.2.2.2.2.2.1
theorem Cpl.x {σ τ : MSto} (h : Cpl σ τ) : kX σ τ := h.2.2.2.2.2.2.2.2.2.2.2.2.2.2.2.2.1
theorem Cpl.a {σ τ : MSto} (h : Cpl σ τ) : kA σ := h.2.2.2.2.2.2.2.2.2.2.2.2.2.2.2.2.2

