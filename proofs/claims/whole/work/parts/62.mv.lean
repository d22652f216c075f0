/-! Cpl and iM move along with stores that keep what they read -/
def nW (W L : List Nat) : Bool := L.all (fun x => !W.contains x)
theorem nW_no {W L : List Nat} (h : nW W L = true) {x : Nat} (hx : x ∈ L) : W.contains x = false := by
  have := List.all_eq_true.mp h x hx
  cases hc : W.contains x with
  | false => rfl
  | true => rw [hc] at this; cases this
theorem inW_arr {W : List Nat} {k j : Nat} (hk : Nat.ble k 13 = false) (h : W.contains (1000 * k) = false) : inW W k j = false := by
  unfold inW
  rw [h, hk]
  rfl
theorem inW_fld {W : List Nat} {k j : Nat} (h : W.contains (1000 * k) = false) (h2 : W.contains (1000 * k + 1 + j) = false) : inW W k j = false := by
  unfold inW
  rw [h, h2, Bool.and_false]
  rfl
theorem and_l {a b : Bool} (h : (a && b) = true) : a = true := by cases a <;> first | rfl | cases h
theorem and_r {a b : Bool} (h : (a && b) = true) : b = true := by cases a <;> first | exact h | cases h
abbrev ok_kV (W V : List Nat) : Bool := nW W [35000] && nW V [41000]
theorem kV.mv {W V : List Nat} {σ σ' τ τ' : MSto} (hσ : agO W σ σ') (hτ : agO V τ τ') (ok : ok_kV W V = true) (h : kV σ τ) : kV σ' τ' := by
  have ok1 := and_l ok
  have ok2 := and_r ok
  have a0 : ∀ i j, gI σ' 35 i j = gI σ 35 i j := fun i j => hσ.i (inW_arr rfl (nW_no ok1 (by decide)))
  have b1 : ∀ i j, gI τ' 41 i j = gI τ 41 i j := fun i j => hτ.i (inW_arr rfl (nW_no ok2 (by decide)))
  unfold kV at h ⊢
  simp only [a0, b1]
  exact h
abbrev ok_kB (W V : List Nat) : Bool := nW W [1000, 1002, 2000, 2002, 12000, 12013] && nW V [13000, 13002, 13003, 13041]
theorem kB.mv {W V : List Nat} {σ σ' τ τ' : MSto} (hσ : agO W σ σ') (hτ : agO V τ τ') (ok : ok_kB W V = true) (h : kB σ τ) : kB σ' τ' := by
  have ok1 := and_l ok
  have ok2 := and_r ok
  have a0 : ∀ i, gI σ' 1 i 1 = gI σ 1 i 1 := fun i => hσ.i (inW_fld (nW_no ok1 (by decide)) (nW_no ok1 (by decide)))
  have a1 : ∀ i, gI σ' 12 i 12 = gI σ 12 i 12 := fun i => hσ.i (inW_fld (nW_no ok1 (by decide)) (nW_no ok1 (by decide)))
  have a2 : ∀ i, gI σ' 2 i 1 = gI σ 2 i 1 := fun i => hσ.i (inW_fld (nW_no ok1 (by decide)) (nW_no ok1 (by decide)))
  have b3 : ∀ i, gI τ' 13 i 1 = gI τ 13 i 1 := fun i => hτ.i (inW_fld (nW_no ok2 (by decide)) (nW_no ok2 (by decide)))
  have b4 : ∀ i, gI τ' 13 i 2 = gI τ 13 i 2 := fun i => hτ.i (inW_fld (nW_no ok2 (by decide)) (nW_no ok2 (by decide)))
  have b5 : ∀ i, gI τ' 13 i 40 = gI τ 13 i 40 := fun i => hτ.i (inW_fld (nW_no ok2 (by decide)) (nW_no ok2 (by decide)))
  unfold kB at h ⊢
  simp only [a0, a1, a2, b3, b4, b5]
  exact h
abbrev ok_kM (W V : List Nat) : Bool := nW W [6000, 6001, 6002, 6003, 6004, 6005, 6999, 17000] && nW V [13000, 13004, 42000]
theorem kM.mv {W V : List Nat} {σ σ' τ τ' : MSto} (hσ : agO W σ σ') (hτ : agO V τ τ') (ok : ok_kM W V = true) (h : kM σ τ) : kM σ' τ' := by
  have ok1 := and_l ok
  have ok2 := and_r ok
  have a0 : ∀ i, eL σ' 17 i = eL σ 17 i := fun i => by unfold eL; rw [hσ.r (inW_arr rfl (nW_no ok1 (by decide)))]
  have a1 : ∀ i j, gI σ' 17 i j = gI σ 17 i j := fun i j => hσ.i (inW_arr rfl (nW_no ok1 (by decide)))
  have a2 : ∀ i, gI σ' 6 i 0 = gI σ 6 i 0 := fun i => hσ.i (inW_fld (nW_no ok1 (by decide)) (nW_no ok1 (by decide)))
  have a3 : ∀ i, gI σ' 6 i 1 = gI σ 6 i 1 := fun i => hσ.i (inW_fld (nW_no ok1 (by decide)) (nW_no ok1 (by decide)))
  have a4 : ∀ i, gI σ' 6 i 2 = gI σ 6 i 2 := fun i => hσ.i (inW_fld (nW_no ok1 (by decide)) (nW_no ok1 (by decide)))
  have a5 : ∀ i, gI σ' 6 i 3 = gI σ 6 i 3 := fun i => hσ.i (inW_fld (nW_no ok1 (by decide)) (nW_no ok1 (by decide)))
  have a6 : ∀ i, gI σ' 6 i 4 = gI σ 6 i 4 := fun i => hσ.i (inW_fld (nW_no ok1 (by decide)) (nW_no ok1 (by decide)))
  have a10 : gN σ' 6 = gN σ 6 := hσ.n (nW_no ok1 (by decide))
  have a11 : ∀ i j, gR σ' 17 i j = gR σ 17 i j := fun i j => hσ.r (inW_arr rfl (nW_no ok1 (by decide)))
  have b7 : ∀ i, gI τ' 13 i 3 = gI τ 13 i 3 := fun i => hτ.i (inW_fld (nW_no ok2 (by decide)) (nW_no ok2 (by decide)))
  have b8 : ∀ i j, gI τ' 42 i j = gI τ 42 i j := fun i j => hτ.i (inW_arr rfl (nW_no ok2 (by decide)))
  have b9 : nM τ' 3 = nM τ 3 := by unfold nM; rw [hτ.i (inW_fld (nW_no ok2 (by decide)) (nW_no ok2 (by decide)))]
  unfold kM at h ⊢
  simp only [a0, a1, a2, a3, a4, a5, a6, a10, a11, b7, b8, b9]
  exact h
abbrev ok_kS (W V : List Nat) : Bool := nW W [6000, 6001, 6002, 6003, 6004, 6005, 6006, 6999, 18000] && nW V [13000, 13006, 43000]
theorem kS.mv {W V : List Nat} {σ σ' τ τ' : MSto} (hσ : agO W σ σ') (hτ : agO V τ τ') (ok : ok_kS W V = true) (h : kS σ τ) : kS σ' τ' := by
  have ok1 := and_l ok
  have ok2 := and_r ok
  have a0 : ∀ i, eL σ' 18 i = eL σ 18 i := fun i => by unfold eL; rw [hσ.r (inW_arr rfl (nW_no ok1 (by decide)))]
  have a1 : ∀ i j, gI σ' 18 i j = gI σ 18 i j := fun i j => hσ.i (inW_arr rfl (nW_no ok1 (by decide)))
  have a2 : ∀ i, gI σ' 6 i 0 = gI σ 6 i 0 := fun i => hσ.i (inW_fld (nW_no ok1 (by decide)) (nW_no ok1 (by decide)))
  have a3 : ∀ i, gI σ' 6 i 1 = gI σ 6 i 1 := fun i => hσ.i (inW_fld (nW_no ok1 (by decide)) (nW_no ok1 (by decide)))
  have a4 : ∀ i, gI σ' 6 i 2 = gI σ 6 i 2 := fun i => hσ.i (inW_fld (nW_no ok1 (by decide)) (nW_no ok1 (by decide)))
  have a5 : ∀ i, gI σ' 6 i 3 = gI σ 6 i 3 := fun i => hσ.i (inW_fld (nW_no ok1 (by decide)) (nW_no ok1 (by decide)))
  have a6 : ∀ i, gI σ' 6 i 4 = gI σ 6 i 4 := fun i => hσ.i (inW_fld (nW_no ok1 (by decide)) (nW_no ok1 (by decide)))
  have a7 : ∀ i, gI σ' 6 i 5 = gI σ 6 i 5 := fun i => hσ.i (inW_fld (nW_no ok1 (by decide)) (nW_no ok1 (by decide)))
  have a11 : gN σ' 6 = gN σ 6 := hσ.n (nW_no ok1 (by decide))
  have a12 : ∀ i j, gR σ' 18 i j = gR σ 18 i j := fun i j => hσ.r (inW_arr rfl (nW_no ok1 (by decide)))
  have b8 : ∀ i, gI τ' 13 i 5 = gI τ 13 i 5 := fun i => hτ.i (inW_fld (nW_no ok2 (by decide)) (nW_no ok2 (by decide)))
  have b9 : ∀ i j, gI τ' 43 i j = gI τ 43 i j := fun i j => hτ.i (inW_arr rfl (nW_no ok2 (by decide)))
  have b10 : nM τ' 5 = nM τ 5 := by unfold nM; rw [hτ.i (inW_fld (nW_no ok2 (by decide)) (nW_no ok2 (by decide)))]
  unfold kS at h ⊢
  simp only [a0, a1, a2, a3, a4, a5, a6, a7, a11, a12, b8, b9, b10]
  exact h
abbrev ok_kG (W V : List Nat) : Bool := nW W [34000] && nW V [44000]
theorem kG.mv {W V : List Nat} {σ σ' τ τ' : MSto} (hσ : agO W σ σ') (hτ : agO V τ τ') (ok : ok_kG W V = true) (h : kG σ τ) : kG σ' τ' := by
  have ok1 := and_l ok
  have ok2 := and_r ok
  have a0 : ∀ i j, gI σ' 34 i j = gI σ 34 i j := fun i j => hσ.i (inW_arr rfl (nW_no ok1 (by decide)))
  have b1 : ∀ i j, gI τ' 44 i j = gI τ 44 i j := fun i j => hτ.i (inW_arr rfl (nW_no ok2 (by decide)))
  unfold kG at h ⊢
  simp only [a0, b1]
  exact h
abbrev ok_kH (W V : List Nat) : Bool := nW W [20000, 21000] && nW V [45000, 46000]
theorem kH.mv {W V : List Nat} {σ σ' τ τ' : MSto} (hσ : agO W σ σ') (hτ : agO V τ τ') (ok : ok_kH W V = true) (h : kH σ τ) : kH σ' τ' := by
  have ok1 := and_l ok
  have ok2 := and_r ok
  have a0 : ∀ i j, gI σ' 20 i j = gI σ 20 i j := fun i j => hσ.i (inW_arr rfl (nW_no ok1 (by decide)))
  have a1 : ∀ i j, gI σ' 21 i j = gI σ 21 i j := fun i j => hσ.i (inW_arr rfl (nW_no ok1 (by decide)))
  have b2 : ∀ i j, gI τ' 45 i j = gI τ 45 i j := fun i j => hτ.i (inW_arr rfl (nW_no ok2 (by decide)))
  have b3 : ∀ i j, gI τ' 46 i j = gI τ 46 i j := fun i j => hτ.i (inW_arr rfl (nW_no ok2 (by decide)))
  unfold kH at h ⊢
  simp only [a0, a1, b2, b3]
  exact h
abbrev ok_kP (W V : List Nat) : Bool := nW W [7000, 7001, 7002, 7003, 7004, 7999, 14000] && nW V [13000, 13011, 47000, 48000, 49000, 50000]
theorem kP.mv {W V : List Nat} {σ σ' τ τ' : MSto} (hσ : agO W σ σ') (hτ : agO V τ τ') (ok : ok_kP W V = true) (h : kP σ τ) : kP σ' τ' := by
  have ok1 := and_l ok
  have ok2 := and_r ok
  have a0 : ∀ i j, gI σ' 14 i j = gI σ 14 i j := fun i j => hσ.i (inW_arr rfl (nW_no ok1 (by decide)))
  have a1 : ∀ i, gI σ' 7 i 0 = gI σ 7 i 0 := fun i => hσ.i (inW_fld (nW_no ok1 (by decide)) (nW_no ok1 (by decide)))
  have a2 : ∀ i, gI σ' 7 i 1 = gI σ 7 i 1 := fun i => hσ.i (inW_fld (nW_no ok1 (by decide)) (nW_no ok1 (by decide)))
  have a3 : ∀ i, gI σ' 7 i 2 = gI σ 7 i 2 := fun i => hσ.i (inW_fld (nW_no ok1 (by decide)) (nW_no ok1 (by decide)))
  have a4 : ∀ i, gI σ' 7 i 3 = gI σ 7 i 3 := fun i => hσ.i (inW_fld (nW_no ok1 (by decide)) (nW_no ok1 (by decide)))
  have a11 : gN σ' 7 = gN σ 7 := hσ.n (nW_no ok1 (by decide))
  have a12 : ∀ i j, gR σ' 14 i j = gR σ 14 i j := fun i j => hσ.r (inW_arr rfl (nW_no ok1 (by decide)))
  have b5 : ∀ i, gI τ' 13 i 10 = gI τ 13 i 10 := fun i => hτ.i (inW_fld (nW_no ok2 (by decide)) (nW_no ok2 (by decide)))
  have b6 : ∀ i j, gI τ' 47 i j = gI τ 47 i j := fun i j => hτ.i (inW_arr rfl (nW_no ok2 (by decide)))
  have b7 : ∀ i j, gI τ' 48 i j = gI τ 48 i j := fun i j => hτ.i (inW_arr rfl (nW_no ok2 (by decide)))
  have b8 : ∀ i j, gI τ' 49 i j = gI τ 49 i j := fun i j => hτ.i (inW_arr rfl (nW_no ok2 (by decide)))
  have b9 : ∀ i j, gI τ' 50 i j = gI τ 50 i j := fun i j => hτ.i (inW_arr rfl (nW_no ok2 (by decide)))
  have b10 : nM τ' 10 = nM τ 10 := by unfold nM; rw [hτ.i (inW_fld (nW_no ok2 (by decide)) (nW_no ok2 (by decide)))]
  unfold kP at h ⊢
  simp only [a0, a1, a2, a3, a4, a11, a12, b5, b6, b7, b8, b9, b10]
  exact h
abbrev ok_kN (W V : List Nat) : Bool := nW W [7000, 7005, 7006] && nW V [13000, 13011, 13016, 51000]
theorem kN.mv {W V : List Nat} {σ σ' τ τ' : MSto} (hσ : agO W σ σ') (hτ : agO V τ τ') (ok : ok_kN W V = true) (h : kN σ τ) : kN σ' τ' := by
  have ok1 := and_l ok
  have ok2 := and_r ok
  have a0 : ∀ i, gI σ' 7 i 4 = gI σ 7 i 4 := fun i => hσ.i (inW_fld (nW_no ok1 (by decide)) (nW_no ok1 (by decide)))
  have a1 : ∀ i, gI σ' 7 i 5 = gI σ 7 i 5 := fun i => hσ.i (inW_fld (nW_no ok1 (by decide)) (nW_no ok1 (by decide)))
  have b2 : ∀ i, gI τ' 13 i 15 = gI τ 13 i 15 := fun i => hτ.i (inW_fld (nW_no ok2 (by decide)) (nW_no ok2 (by decide)))
  have b3 : ∀ i j, gI τ' 51 i j = gI τ 51 i j := fun i j => hτ.i (inW_arr rfl (nW_no ok2 (by decide)))
  have b4 : nM τ' 10 = nM τ 10 := by unfold nM; rw [hτ.i (inW_fld (nW_no ok2 (by decide)) (nW_no ok2 (by decide)))]
  unfold kN at h ⊢
  simp only [a0, a1, b2, b3, b4]
  exact h
abbrev ok_kT (W V : List Nat) : Bool := nW W [9000, 9001, 9002, 9003, 9004, 9005, 9006, 9007, 9008, 9009, 9999, 15000] && nW V [13000, 13018, 52000, 53000, 54000, 55000, 56000, 57000, 58000, 59000, 60000]
theorem kT.mv {W V : List Nat} {σ σ' τ τ' : MSto} (hσ : agO W σ σ') (hτ : agO V τ τ') (ok : ok_kT W V = true) (h : kT σ τ) : kT σ' τ' := by
  have ok1 := and_l ok
  have ok2 := and_r ok
  have a0 : ∀ i, eL σ' 15 i = eL σ 15 i := fun i => by unfold eL; rw [hσ.r (inW_arr rfl (nW_no ok1 (by decide)))]
  have a1 : ∀ i j, gI σ' 15 i j = gI σ 15 i j := fun i j => hσ.i (inW_arr rfl (nW_no ok1 (by decide)))
  have a2 : ∀ i, gI σ' 9 i 0 = gI σ 9 i 0 := fun i => hσ.i (inW_fld (nW_no ok1 (by decide)) (nW_no ok1 (by decide)))
  have a3 : ∀ i, gI σ' 9 i 1 = gI σ 9 i 1 := fun i => hσ.i (inW_fld (nW_no ok1 (by decide)) (nW_no ok1 (by decide)))
  have a4 : ∀ i, gI σ' 9 i 2 = gI σ 9 i 2 := fun i => hσ.i (inW_fld (nW_no ok1 (by decide)) (nW_no ok1 (by decide)))
  have a5 : ∀ i, gI σ' 9 i 3 = gI σ 9 i 3 := fun i => hσ.i (inW_fld (nW_no ok1 (by decide)) (nW_no ok1 (by decide)))
  have a6 : ∀ i, gI σ' 9 i 4 = gI σ 9 i 4 := fun i => hσ.i (inW_fld (nW_no ok1 (by decide)) (nW_no ok1 (by decide)))
  have a7 : ∀ i, gI σ' 9 i 5 = gI σ 9 i 5 := fun i => hσ.i (inW_fld (nW_no ok1 (by decide)) (nW_no ok1 (by decide)))
  have a8 : ∀ i, gI σ' 9 i 6 = gI σ 9 i 6 := fun i => hσ.i (inW_fld (nW_no ok1 (by decide)) (nW_no ok1 (by decide)))
  have a9 : ∀ i, gI σ' 9 i 7 = gI σ 9 i 7 := fun i => hσ.i (inW_fld (nW_no ok1 (by decide)) (nW_no ok1 (by decide)))
  have a10 : ∀ i, gI σ' 9 i 8 = gI σ 9 i 8 := fun i => hσ.i (inW_fld (nW_no ok1 (by decide)) (nW_no ok1 (by decide)))
  have a22 : gN σ' 9 = gN σ 9 := hσ.n (nW_no ok1 (by decide))
  have a23 : ∀ i j, gR σ' 15 i j = gR σ 15 i j := fun i j => hσ.r (inW_arr rfl (nW_no ok1 (by decide)))
  have b11 : ∀ i, gI τ' 13 i 17 = gI τ 13 i 17 := fun i => hτ.i (inW_fld (nW_no ok2 (by decide)) (nW_no ok2 (by decide)))
  have b12 : ∀ i j, gI τ' 52 i j = gI τ 52 i j := fun i j => hτ.i (inW_arr rfl (nW_no ok2 (by decide)))
  have b13 : ∀ i j, gI τ' 53 i j = gI τ 53 i j := fun i j => hτ.i (inW_arr rfl (nW_no ok2 (by decide)))
  have b14 : ∀ i j, gI τ' 54 i j = gI τ 54 i j := fun i j => hτ.i (inW_arr rfl (nW_no ok2 (by decide)))
  have b15 : ∀ i j, gI τ' 55 i j = gI τ 55 i j := fun i j => hτ.i (inW_arr rfl (nW_no ok2 (by decide)))
  have b16 : ∀ i j, gI τ' 56 i j = gI τ 56 i j := fun i j => hτ.i (inW_arr rfl (nW_no ok2 (by decide)))
  have b17 : ∀ i j, gI τ' 57 i j = gI τ 57 i j := fun i j => hτ.i (inW_arr rfl (nW_no ok2 (by decide)))
  have b18 : ∀ i j, gI τ' 58 i j = gI τ 58 i j := fun i j => hτ.i (inW_arr rfl (nW_no ok2 (by decide)))
  have b19 : ∀ i j, gI τ' 59 i j = gI τ 59 i j := fun i j => hτ.i (inW_arr rfl (nW_no ok2 (by decide)))
  have b20 : ∀ i j, gI τ' 60 i j = gI τ 60 i j := fun i j => hτ.i (inW_arr rfl (nW_no ok2 (by decide)))
  have b21 : nM τ' 17 = nM τ 17 := by unfold nM; rw [hτ.i (inW_fld (nW_no ok2 (by decide)) (nW_no ok2 (by decide)))]
  unfold kT kT1 at h ⊢
  simp only [a0, a1, a2, a3, a4, a5, a6, a7, a8, a9, a10, a22, a23, b11, b12, b13, b14, b15, b16, b17, b18, b19, b20, b21]
  exact h
abbrev ok_kQ (W V : List Nat) : Bool := nW W [5000, 5001, 5002, 5003, 5999, 16000] && nW V [13000, 13028, 61000, 62000, 63000]
theorem kQ.mv {W V : List Nat} {σ σ' τ τ' : MSto} (hσ : agO W σ σ') (hτ : agO V τ τ') (ok : ok_kQ W V = true) (h : kQ σ τ) : kQ σ' τ' := by
  have ok1 := and_l ok
  have ok2 := and_r ok
  have a0 : ∀ i, eL σ' 16 i = eL σ 16 i := fun i => by unfold eL; rw [hσ.r (inW_arr rfl (nW_no ok1 (by decide)))]
  have a1 : ∀ i j, gI σ' 16 i j = gI σ 16 i j := fun i j => hσ.i (inW_arr rfl (nW_no ok1 (by decide)))
  have a2 : ∀ i, gI σ' 5 i 0 = gI σ 5 i 0 := fun i => hσ.i (inW_fld (nW_no ok1 (by decide)) (nW_no ok1 (by decide)))
  have a3 : ∀ i, gI σ' 5 i 1 = gI σ 5 i 1 := fun i => hσ.i (inW_fld (nW_no ok1 (by decide)) (nW_no ok1 (by decide)))
  have a4 : ∀ i, gI σ' 5 i 2 = gI σ 5 i 2 := fun i => hσ.i (inW_fld (nW_no ok1 (by decide)) (nW_no ok1 (by decide)))
  have a10 : gN σ' 5 = gN σ 5 := hσ.n (nW_no ok1 (by decide))
  have a11 : ∀ i j, gR σ' 16 i j = gR σ 16 i j := fun i j => hσ.r (inW_arr rfl (nW_no ok1 (by decide)))
  have b5 : ∀ i, gI τ' 13 i 27 = gI τ 13 i 27 := fun i => hτ.i (inW_fld (nW_no ok2 (by decide)) (nW_no ok2 (by decide)))
  have b6 : ∀ i j, gI τ' 61 i j = gI τ 61 i j := fun i j => hτ.i (inW_arr rfl (nW_no ok2 (by decide)))
  have b7 : ∀ i j, gI τ' 62 i j = gI τ 62 i j := fun i j => hτ.i (inW_arr rfl (nW_no ok2 (by decide)))
  have b8 : ∀ i j, gI τ' 63 i j = gI τ 63 i j := fun i j => hτ.i (inW_arr rfl (nW_no ok2 (by decide)))
  have b9 : nM τ' 27 = nM τ 27 := by unfold nM; rw [hτ.i (inW_fld (nW_no ok2 (by decide)) (nW_no ok2 (by decide)))]
  unfold kQ at h ⊢
  simp only [a0, a1, a2, a3, a4, a10, a11, b5, b6, b7, b8, b9]
  exact h
abbrev ok_kL (W V : List Nat) : Bool := nW W [22000] && nW V [13000, 13032, 64000]
theorem kL.mv {W V : List Nat} {σ σ' τ τ' : MSto} (hσ : agO W σ σ') (hτ : agO V τ τ') (ok : ok_kL W V = true) (h : kL σ τ) : kL σ' τ' := by
  have ok1 := and_l ok
  have ok2 := and_r ok
  have a0 : ∀ i j, gI σ' 22 i j = gI σ 22 i j := fun i j => hσ.i (inW_arr rfl (nW_no ok1 (by decide)))
  have b1 : ∀ i j, gI τ' 64 i j = gI τ 64 i j := fun i j => hτ.i (inW_arr rfl (nW_no ok2 (by decide)))
  have b2 : nM τ' 31 = nM τ 31 := by unfold nM; rw [hτ.i (inW_fld (nW_no ok2 (by decide)) (nW_no ok2 (by decide)))]
  unfold kL ctL at h ⊢
  simp only [a0, b1, b2]
  exact h
abbrev ok_kO (W V : List Nat) : Bool := nW W [3000, 3001, 3002, 3999, 23000] && nW V [13000, 13034, 65000, 66000]
theorem kO.mv {W V : List Nat} {σ σ' τ τ' : MSto} (hσ : agO W σ σ') (hτ : agO V τ τ') (ok : ok_kO W V = true) (h : kO σ τ) : kO σ' τ' := by
  have ok1 := and_l ok
  have ok2 := and_r ok
  have a0 : ∀ i, gI σ' 3 i 0 = gI σ 3 i 0 := fun i => hσ.i (inW_fld (nW_no ok1 (by decide)) (nW_no ok1 (by decide)))
  have a1 : ∀ i, gI σ' 3 i 1 = gI σ 3 i 1 := fun i => hσ.i (inW_fld (nW_no ok1 (by decide)) (nW_no ok1 (by decide)))
  have a5 : gN σ' 3 = gN σ 3 := hσ.n (nW_no ok1 (by decide))
  have a6 : ∀ i j, gR σ' 23 i j = gR σ 23 i j := fun i j => hσ.r (inW_arr rfl (nW_no ok1 (by decide)))
  have b2 : ∀ i, gI τ' 13 i 33 = gI τ 13 i 33 := fun i => hτ.i (inW_fld (nW_no ok2 (by decide)) (nW_no ok2 (by decide)))
  have b3 : ∀ i j, gI τ' 65 i j = gI τ 65 i j := fun i j => hτ.i (inW_arr rfl (nW_no ok2 (by decide)))
  have b4 : ∀ i j, gI τ' 66 i j = gI τ 66 i j := fun i j => hτ.i (inW_arr rfl (nW_no ok2 (by decide)))
  unfold kO at h ⊢
  simp only [a0, a1, a5, a6, b2, b3, b4]
  exact h
abbrev ok_kW (W V : List Nat) : Bool := nW W [11000, 11001, 11002, 11003, 11999, 24000] && nW V [13000, 13037, 67000, 68000, 69000]
theorem kW.mv {W V : List Nat} {σ σ' τ τ' : MSto} (hσ : agO W σ σ') (hτ : agO V τ τ') (ok : ok_kW W V = true) (h : kW σ τ) : kW σ' τ' := by
  have ok1 := and_l ok
  have ok2 := and_r ok
  have a0 : ∀ i, gI σ' 11 i 0 = gI σ 11 i 0 := fun i => hσ.i (inW_fld (nW_no ok1 (by decide)) (nW_no ok1 (by decide)))
  have a1 : ∀ i, gI σ' 11 i 1 = gI σ 11 i 1 := fun i => hσ.i (inW_fld (nW_no ok1 (by decide)) (nW_no ok1 (by decide)))
  have a2 : ∀ i, gI σ' 11 i 2 = gI σ 11 i 2 := fun i => hσ.i (inW_fld (nW_no ok1 (by decide)) (nW_no ok1 (by decide)))
  have a7 : gN σ' 11 = gN σ 11 := hσ.n (nW_no ok1 (by decide))
  have a8 : ∀ i j, gR σ' 24 i j = gR σ 24 i j := fun i j => hσ.r (inW_arr rfl (nW_no ok1 (by decide)))
  have b3 : ∀ i, gI τ' 13 i 36 = gI τ 13 i 36 := fun i => hτ.i (inW_fld (nW_no ok2 (by decide)) (nW_no ok2 (by decide)))
  have b4 : ∀ i j, gI τ' 67 i j = gI τ 67 i j := fun i j => hτ.i (inW_arr rfl (nW_no ok2 (by decide)))
  have b5 : ∀ i j, gI τ' 68 i j = gI τ 68 i j := fun i j => hτ.i (inW_arr rfl (nW_no ok2 (by decide)))
  have b6 : ∀ i j, gI τ' 69 i j = gI τ 69 i j := fun i j => hτ.i (inW_arr rfl (nW_no ok2 (by decide)))
  unfold kW at h ⊢
  simp only [a0, a1, a2, a7, a8, b3, b4, b5, b6]
  exact h
abbrev ok_kK (W V : List Nat) : Bool := nW W [4000, 4001, 4002, 4003, 4999, 25000, 39000, 39999, 40000, 40999] && nW V [70000, 71000, 72000, 73000, 74000, 75000, 76000]
theorem kK.mv {W V : List Nat} {σ σ' τ τ' : MSto} (hσ : agO W σ σ') (hτ : agO V τ τ') (ok : ok_kK W V = true) (h : kK σ τ) : kK σ' τ' := by
  have ok1 := and_l ok
  have ok2 := and_r ok
  have a0 : ∀ i j, gI σ' 39 i j = gI σ 39 i j := fun i j => hσ.i (inW_arr rfl (nW_no ok1 (by decide)))
  have a1 : ∀ i, gI σ' 4 i 0 = gI σ 4 i 0 := fun i => hσ.i (inW_fld (nW_no ok1 (by decide)) (nW_no ok1 (by decide)))
  have a2 : ∀ i, gI σ' 4 i 1 = gI σ 4 i 1 := fun i => hσ.i (inW_fld (nW_no ok1 (by decide)) (nW_no ok1 (by decide)))
  have a3 : ∀ i, gI σ' 4 i 2 = gI σ 4 i 2 := fun i => hσ.i (inW_fld (nW_no ok1 (by decide)) (nW_no ok1 (by decide)))
  have a4 : ∀ i j, gI σ' 40 i j = gI σ 40 i j := fun i j => hσ.i (inW_arr rfl (nW_no ok1 (by decide)))
  have a12 : gN σ' 39 = gN σ 39 := hσ.n (nW_no ok1 (by decide))
  have a13 : gN σ' 4 = gN σ 4 := hσ.n (nW_no ok1 (by decide))
  have a14 : gN σ' 40 = gN σ 40 := hσ.n (nW_no ok1 (by decide))
  have a15 : ∀ i j, gR σ' 25 i j = gR σ 25 i j := fun i j => hσ.r (inW_arr rfl (nW_no ok1 (by decide)))
  have b5 : ∀ i j, gI τ' 70 i j = gI τ 70 i j := fun i j => hτ.i (inW_arr rfl (nW_no ok2 (by decide)))
  have b6 : ∀ i j, gI τ' 71 i j = gI τ 71 i j := fun i j => hτ.i (inW_arr rfl (nW_no ok2 (by decide)))
  have b7 : ∀ i j, gI τ' 72 i j = gI τ 72 i j := fun i j => hτ.i (inW_arr rfl (nW_no ok2 (by decide)))
  have b8 : ∀ i j, gI τ' 73 i j = gI τ 73 i j := fun i j => hτ.i (inW_arr rfl (nW_no ok2 (by decide)))
  have b9 : ∀ i j, gI τ' 74 i j = gI τ 74 i j := fun i j => hτ.i (inW_arr rfl (nW_no ok2 (by decide)))
  have b10 : ∀ i j, gI τ' 75 i j = gI τ 75 i j := fun i j => hτ.i (inW_arr rfl (nW_no ok2 (by decide)))
  have b11 : ∀ i j, gI τ' 76 i j = gI τ 76 i j := fun i j => hτ.i (inW_arr rfl (nW_no ok2 (by decide)))
  unfold kK kK1 at h ⊢
  simp only [a0, a1, a2, a3, a4, a12, a13, a14, a15, b5, b6, b7, b8, b9, b10, b11]
  exact h
abbrev ok_kR (W V : List Nat) : Bool := nW W [8000, 8002, 38000] && nW V [13000, 13052, 78000]
theorem kR.mv {W V : List Nat} {σ σ' τ τ' : MSto} (hσ : agO W σ σ') (hτ : agO V τ τ') (ok : ok_kR W V = true) (h : kR σ τ) : kR σ' τ' := by
  have ok1 := and_l ok
  have ok2 := and_r ok
  have a0 : ∀ i, gI σ' 8 i 1 = gI σ 8 i 1 := fun i => hσ.i (inW_fld (nW_no ok1 (by decide)) (nW_no ok1 (by decide)))
  have a2 : ∀ i j, gJ σ' 38 i j = gJ σ 38 i j := fun i j => hσ.j (inW_arr rfl (nW_no ok1 (by decide)))
  have b1 : ∀ i, gI τ' 13 i 51 = gI τ 13 i 51 := fun i => hτ.i (inW_fld (nW_no ok2 (by decide)) (nW_no ok2 (by decide)))
  have b3 : ∀ i j, gJ τ' 78 i j = gJ τ 78 i j := fun i j => hτ.j (inW_arr rfl (nW_no ok2 (by decide)))
  have b4 : nM τ' 51 = nM τ 51 := by unfold nM; rw [hτ.i (inW_fld (nW_no ok2 (by decide)) (nW_no ok2 (by decide)))]
  unfold kR cM at h ⊢
  simp only [a0, a2, b1, b3, b4]
  exact h
abbrev ok_kX (W V : List Nat) : Bool := nW W [10000, 10002, 33000] && nW V [13000, 13050, 77000]
theorem kX.mv {W V : List Nat} {σ σ' τ τ' : MSto} (hσ : agO W σ σ') (hτ : agO V τ τ') (ok : ok_kX W V = true) (h : kX σ τ) : kX σ' τ' := by
  have ok1 := and_l ok
  have ok2 := and_r ok
  have a0 : ∀ i, gI σ' 10 i 1 = gI σ 10 i 1 := fun i => hσ.i (inW_fld (nW_no ok1 (by decide)) (nW_no ok1 (by decide)))
  have a1 : ∀ i j, gI σ' 33 i j = gI σ 33 i j := fun i j => hσ.i (inW_arr rfl (nW_no ok1 (by decide)))
  have b2 : ∀ i, gI τ' 13 i 49 = gI τ 13 i 49 := fun i => hτ.i (inW_fld (nW_no ok2 (by decide)) (nW_no ok2 (by decide)))
  have b3 : ∀ i j, gI τ' 77 i j = gI τ 77 i j := fun i j => hτ.i (inW_arr rfl (nW_no ok2 (by decide)))
  have b4 : nM τ' 49 = nM τ 49 := by unfold nM; rw [hτ.i (inW_fld (nW_no ok2 (by decide)) (nW_no ok2 (by decide)))]
  unfold kX cM at h ⊢
  simp only [a0, a1, b2, b3, b4]
  exact h
abbrev ok_kA (W : List Nat) : Bool := nW W [95000, 96000]
theorem kA.mv {W : List Nat} {σ σ' : MSto} (hσ : agO W σ σ') (ok1 : ok_kA W = true) (h : kA σ) : kA σ' := by
  have a0 : ∀ i j, gI σ' 95 i j = gI σ 95 i j := fun i j => hσ.i (inW_arr rfl (nW_no ok1 (by decide)))
  have a1 : ∀ i j, gI σ' 96 i j = gI σ 96 i j := fun i j => hσ.i (inW_arr rfl (nW_no ok1 (by decide)))
  unfold kA at h ⊢
  simp only [a0, a1]
  exact h
abbrev ok_iMc (V : List Nat) : Bool := nW V [13000, 13003, 13004, 13006, 13011, 13018, 13028, 13032]
theorem iMc.mv {V : List Nat} {τ τ' : MSto} (hτ : agO V τ τ') (ok2 : ok_iMc V = true) (h : iMc τ) : iMc τ' := by
  have b0 : ∀ i, gI τ' 13 i 10 = gI τ 13 i 10 := fun i => hτ.i (inW_fld (nW_no ok2 (by decide)) (nW_no ok2 (by decide)))
  have b1 : ∀ i, gI τ' 13 i 17 = gI τ 13 i 17 := fun i => hτ.i (inW_fld (nW_no ok2 (by decide)) (nW_no ok2 (by decide)))
  have b2 : ∀ i, gI τ' 13 i 2 = gI τ 13 i 2 := fun i => hτ.i (inW_fld (nW_no ok2 (by decide)) (nW_no ok2 (by decide)))
  have b3 : ∀ i, gI τ' 13 i 27 = gI τ 13 i 27 := fun i => hτ.i (inW_fld (nW_no ok2 (by decide)) (nW_no ok2 (by decide)))
  have b4 : ∀ i, gI τ' 13 i 3 = gI τ 13 i 3 := fun i => hτ.i (inW_fld (nW_no ok2 (by decide)) (nW_no ok2 (by decide)))
  have b5 : ∀ i, gI τ' 13 i 31 = gI τ 13 i 31 := fun i => hτ.i (inW_fld (nW_no ok2 (by decide)) (nW_no ok2 (by decide)))
  have b6 : ∀ i, gI τ' 13 i 5 = gI τ 13 i 5 := fun i => hτ.i (inW_fld (nW_no ok2 (by decide)) (nW_no ok2 (by decide)))
  have b7 : nM τ' 10 = nM τ 10 := by unfold nM; rw [hτ.i (inW_fld (nW_no ok2 (by decide)) (nW_no ok2 (by decide)))]
  have b8 : nM τ' 17 = nM τ 17 := by unfold nM; rw [hτ.i (inW_fld (nW_no ok2 (by decide)) (nW_no ok2 (by decide)))]
  have b9 : nM τ' 27 = nM τ 27 := by unfold nM; rw [hτ.i (inW_fld (nW_no ok2 (by decide)) (nW_no ok2 (by decide)))]
  have b10 : nM τ' 3 = nM τ 3 := by unfold nM; rw [hτ.i (inW_fld (nW_no ok2 (by decide)) (nW_no ok2 (by decide)))]
  have b11 : nM τ' 31 = nM τ 31 := by unfold nM; rw [hτ.i (inW_fld (nW_no ok2 (by decide)) (nW_no ok2 (by decide)))]
  have b12 : nM τ' 5 = nM τ 5 := by unfold nM; rw [hτ.i (inW_fld (nW_no ok2 (by decide)) (nW_no ok2 (by decide)))]
  unfold iMc cM at h ⊢
  simp only [b0, b1, b2, b3, b4, b5, b6, b7, b8, b9, b10, b11, b12]
  exact h
abbrev ok_iMv (V : List Nat) : Bool := nW V [41000]
theorem iMv.mv {V : List Nat} {τ τ' : MSto} (hτ : agO V τ τ') (ok2 : ok_iMv V = true) (h : iMv τ) : iMv τ' := by
  have b0 : ∀ i j, gI τ' 41 i j = gI τ 41 i j := fun i j => hτ.i (inW_arr rfl (nW_no ok2 (by decide)))
  unfold iMv at h ⊢
  simp only [b0]
  exact h
abbrev ok_iMm (V : List Nat) : Bool := nW V [13000, 13004, 42000]
theorem iMm.mv {V : List Nat} {τ τ' : MSto} (hτ : agO V τ τ') (ok2 : ok_iMm V = true) (h : iMm τ) : iMm τ' := by
  have b0 : ∀ i j, gI τ' 42 i j = gI τ 42 i j := fun i j => hτ.i (inW_arr rfl (nW_no ok2 (by decide)))
  have b1 : nM τ' 3 = nM τ 3 := by unfold nM; rw [hτ.i (inW_fld (nW_no ok2 (by decide)) (nW_no ok2 (by decide)))]
  unfold iMm at h ⊢
  simp only [b0, b1]
  exact h
abbrev ok_iMs (V : List Nat) : Bool := nW V [13000, 13006, 43000]
theorem iMs.mv {V : List Nat} {τ τ' : MSto} (hτ : agO V τ τ') (ok2 : ok_iMs V = true) (h : iMs τ) : iMs τ' := by
  have b0 : ∀ i j, gI τ' 43 i j = gI τ 43 i j := fun i j => hτ.i (inW_arr rfl (nW_no ok2 (by decide)))
  have b1 : nM τ' 5 = nM τ 5 := by unfold nM; rw [hτ.i (inW_fld (nW_no ok2 (by decide)) (nW_no ok2 (by decide)))]
  unfold iMs at h ⊢
  simp only [b0, b1]
  exact h
abbrev ok_iMg (V : List Nat) : Bool := nW V [44000]
theorem iMg.mv {V : List Nat} {τ τ' : MSto} (hτ : agO V τ τ') (ok2 : ok_iMg V = true) (h : iMg τ) : iMg τ' := by
  have b0 : ∀ i j, gI τ' 44 i j = gI τ 44 i j := fun i j => hτ.i (inW_arr rfl (nW_no ok2 (by decide)))
  unfold iMg at h ⊢
  simp only [b0]
  exact h
abbrev ok_iMh (V : List Nat) : Bool := nW V [45000, 46000]
theorem iMh.mv {V : List Nat} {τ τ' : MSto} (hτ : agO V τ τ') (ok2 : ok_iMh V = true) (h : iMh τ) : iMh τ' := by
  have b0 : ∀ i j, gI τ' 45 i j = gI τ 45 i j := fun i j => hτ.i (inW_arr rfl (nW_no ok2 (by decide)))
  have b1 : ∀ i j, gI τ' 46 i j = gI τ 46 i j := fun i j => hτ.i (inW_arr rfl (nW_no ok2 (by decide)))
  unfold iMh at h ⊢
  simp only [b0, b1]
  exact h
abbrev ok_iMp (V : List Nat) : Bool := nW V [13000, 13011, 47000, 48000, 49000, 50000]
theorem iMp.mv {V : List Nat} {τ τ' : MSto} (hτ : agO V τ τ') (ok2 : ok_iMp V = true) (h : iMp τ) : iMp τ' := by
  have b0 : ∀ i j, gI τ' 47 i j = gI τ 47 i j := fun i j => hτ.i (inW_arr rfl (nW_no ok2 (by decide)))
  have b1 : ∀ i j, gI τ' 48 i j = gI τ 48 i j := fun i j => hτ.i (inW_arr rfl (nW_no ok2 (by decide)))
  have b2 : ∀ i j, gI τ' 49 i j = gI τ 49 i j := fun i j => hτ.i (inW_arr rfl (nW_no ok2 (by decide)))
  have b3 : ∀ i j, gI τ' 50 i j = gI τ 50 i j := fun i j => hτ.i (inW_arr rfl (nW_no ok2 (by decide)))
  have b4 : nM τ' 10 = nM τ 10 := by unfold nM; rw [hτ.i (inW_fld (nW_no ok2 (by decide)) (nW_no ok2 (by decide)))]
  unfold iMp at h ⊢
  simp only [b0, b1, b2, b3, b4]
  exact h
abbrev ok_iMn (V : List Nat) : Bool := nW V [13000, 13011, 13016, 51000]
theorem iMn.mv {V : List Nat} {τ τ' : MSto} (hτ : agO V τ τ') (ok2 : ok_iMn V = true) (h : iMn τ) : iMn τ' := by
  have b0 : ∀ i, gI τ' 13 i 15 = gI τ 13 i 15 := fun i => hτ.i (inW_fld (nW_no ok2 (by decide)) (nW_no ok2 (by decide)))
  have b1 : ∀ i j, gI τ' 51 i j = gI τ 51 i j := fun i j => hτ.i (inW_arr rfl (nW_no ok2 (by decide)))
  have b2 : nM τ' 10 = nM τ 10 := by unfold nM; rw [hτ.i (inW_fld (nW_no ok2 (by decide)) (nW_no ok2 (by decide)))]
  unfold iMn at h ⊢
  simp only [b0, b1, b2]
  exact h
abbrev ok_iMt (V : List Nat) : Bool := nW V [13000, 13018, 52000, 53000, 54000, 55000, 56000, 57000, 58000, 59000, 60000]
theorem iMt.mv {V : List Nat} {τ τ' : MSto} (hτ : agO V τ τ') (ok2 : ok_iMt V = true) (h : iMt τ) : iMt τ' := by
  have b0 : ∀ i j, gI τ' 52 i j = gI τ 52 i j := fun i j => hτ.i (inW_arr rfl (nW_no ok2 (by decide)))
  have b1 : ∀ i j, gI τ' 53 i j = gI τ 53 i j := fun i j => hτ.i (inW_arr rfl (nW_no ok2 (by decide)))
  have b2 : ∀ i j, gI τ' 54 i j = gI τ 54 i j := fun i j => hτ.i (inW_arr rfl (nW_no ok2 (by decide)))
  have b3 : ∀ i j, gI τ' 55 i j = gI τ 55 i j := fun i j => hτ.i (inW_arr rfl (nW_no ok2 (by decide)))
  have b4 : ∀ i j, gI τ' 56 i j = gI τ 56 i j := fun i j => hτ.i (inW_arr rfl (nW_no ok2 (by decide)))
  have b5 : ∀ i j, gI τ' 57 i j = gI τ 57 i j := fun i j => hτ.i (inW_arr rfl (nW_no ok2 (by decide)))
  have b6 : ∀ i j, gI τ' 58 i j = gI τ 58 i j := fun i j => hτ.i (inW_arr rfl (nW_no ok2 (by decide)))
  have b7 : ∀ i j, gI τ' 59 i j = gI τ 59 i j := fun i j => hτ.i (inW_arr rfl (nW_no ok2 (by decide)))
  have b8 : ∀ i j, gI τ' 60 i j = gI τ 60 i j := fun i j => hτ.i (inW_arr rfl (nW_no ok2 (by decide)))
  have b9 : nM τ' 17 = nM τ 17 := by unfold nM; rw [hτ.i (inW_fld (nW_no ok2 (by decide)) (nW_no ok2 (by decide)))]
  unfold iMt at h ⊢
  simp only [b0, b1, b2, b3, b4, b5, b6, b7, b8, b9]
  exact h
abbrev ok_iMq (V : List Nat) : Bool := nW V [13000, 13028, 61000, 62000, 63000]
theorem iMq.mv {V : List Nat} {τ τ' : MSto} (hτ : agO V τ τ') (ok2 : ok_iMq V = true) (h : iMq τ) : iMq τ' := by
  have b0 : ∀ i j, gI τ' 61 i j = gI τ 61 i j := fun i j => hτ.i (inW_arr rfl (nW_no ok2 (by decide)))
  have b1 : ∀ i j, gI τ' 62 i j = gI τ 62 i j := fun i j => hτ.i (inW_arr rfl (nW_no ok2 (by decide)))
  have b2 : ∀ i j, gI τ' 63 i j = gI τ 63 i j := fun i j => hτ.i (inW_arr rfl (nW_no ok2 (by decide)))
  have b3 : nM τ' 27 = nM τ 27 := by unfold nM; rw [hτ.i (inW_fld (nW_no ok2 (by decide)) (nW_no ok2 (by decide)))]
  unfold iMq at h ⊢
  simp only [b0, b1, b2, b3]
  exact h
abbrev ok_iMl (V : List Nat) : Bool := nW V [13000, 13032, 64000]
theorem iMl.mv {V : List Nat} {τ τ' : MSto} (hτ : agO V τ τ') (ok2 : ok_iMl V = true) (h : iMl τ) : iMl τ' := by
  have b0 : ∀ i j, gI τ' 64 i j = gI τ 64 i j := fun i j => hτ.i (inW_arr rfl (nW_no ok2 (by decide)))
  have b1 : nM τ' 31 = nM τ 31 := by unfold nM; rw [hτ.i (inW_fld (nW_no ok2 (by decide)) (nW_no ok2 (by decide)))]
  unfold iMl at h ⊢
  simp only [b0, b1]
  exact h
abbrev ok_iMo (V : List Nat) : Bool := nW V [13000, 13034, 65000, 66000]
theorem iMo.mv {V : List Nat} {τ τ' : MSto} (hτ : agO V τ τ') (ok2 : ok_iMo V = true) (h : iMo τ) : iMo τ' := by
  have b0 : ∀ i, gI τ' 13 i 33 = gI τ 13 i 33 := fun i => hτ.i (inW_fld (nW_no ok2 (by decide)) (nW_no ok2 (by decide)))
  have b1 : ∀ i j, gI τ' 65 i j = gI τ 65 i j := fun i j => hτ.i (inW_arr rfl (nW_no ok2 (by decide)))
  have b2 : ∀ i j, gI τ' 66 i j = gI τ 66 i j := fun i j => hτ.i (inW_arr rfl (nW_no ok2 (by decide)))
  unfold iMo at h ⊢
  simp only [b0, b1, b2]
  exact h
abbrev ok_iMw (V : List Nat) : Bool := nW V [13000, 13018, 13037, 67000]
theorem iMw.mv {V : List Nat} {τ τ' : MSto} (hτ : agO V τ τ') (ok2 : ok_iMw V = true) (h : iMw τ) : iMw τ' := by
  have b0 : ∀ i, gI τ' 13 i 17 = gI τ 13 i 17 := fun i => hτ.i (inW_fld (nW_no ok2 (by decide)) (nW_no ok2 (by decide)))
  have b1 : ∀ i, gI τ' 13 i 36 = gI τ 13 i 36 := fun i => hτ.i (inW_fld (nW_no ok2 (by decide)) (nW_no ok2 (by decide)))
  have b2 : ∀ i j, gI τ' 67 i j = gI τ 67 i j := fun i j => hτ.i (inW_arr rfl (nW_no ok2 (by decide)))
  unfold iMw at h ⊢
  simp only [b0, b1, b2]
  exact h
abbrev ok_iMk (V : List Nat) : Bool := nW V [13000, 13011, 70000, 71000, 72000, 73000, 74000, 75000]
theorem iMk.mv {V : List Nat} {τ τ' : MSto} (hτ : agO V τ τ') (ok2 : ok_iMk V = true) (h : iMk τ) : iMk τ' := by
  have b0 : ∀ i j, gI τ' 70 i j = gI τ 70 i j := fun i j => hτ.i (inW_arr rfl (nW_no ok2 (by decide)))
  have b1 : ∀ i j, gI τ' 71 i j = gI τ 71 i j := fun i j => hτ.i (inW_arr rfl (nW_no ok2 (by decide)))
  have b2 : ∀ i j, gI τ' 72 i j = gI τ 72 i j := fun i j => hτ.i (inW_arr rfl (nW_no ok2 (by decide)))
  have b3 : ∀ i j, gI τ' 73 i j = gI τ 73 i j := fun i j => hτ.i (inW_arr rfl (nW_no ok2 (by decide)))
  have b4 : ∀ i j, gI τ' 74 i j = gI τ 74 i j := fun i j => hτ.i (inW_arr rfl (nW_no ok2 (by decide)))
  have b5 : ∀ i j, gI τ' 75 i j = gI τ 75 i j := fun i j => hτ.i (inW_arr rfl (nW_no ok2 (by decide)))
  have b6 : nM τ' 10 = nM τ 10 := by unfold nM; rw [hτ.i (inW_fld (nW_no ok2 (by decide)) (nW_no ok2 (by decide)))]
  unfold iMk at h ⊢
  simp only [b0, b1, b2, b3, b4, b5, b6]
  exact h
theorem iM.upd {V : List Nat} {τ τ' : MSto} (h : iM τ) (hτ : agO V τ τ') (a0 : ok_iMc V = true ∨ iMc τ') (a1 : ok_iMv V = true ∨ iMv τ') (a2 : ok_iMm V = true ∨ iMm τ') (a3 : ok_iMs V = true ∨ iMs τ') (a4 : ok_iMg V = true ∨ iMg τ') (a5 : ok_iMh V = true ∨ iMh τ') (a6 : ok_iMp V = true ∨ iMp τ') (a7 : ok_iMn V = true ∨ iMn τ') (a8 : ok_iMt V = true ∨ iMt τ') (a9 : ok_iMq V = true ∨ iMq τ') (a10 : ok_iMl V = true ∨ iMl τ') (a11 : ok_iMo V = true ∨ iMo τ') (a12 : ok_iMw V = true ∨ iMw τ') (a13 : ok_iMk V = true ∨ iMk τ') : iM τ' :=
  ⟨a0.elim (fun q => iMc.mv hτ q h.c) id, a1.elim (fun q => iMv.mv hτ q h.v) id, a2.elim (fun q => iMm.mv hτ q h.m) id, a3.elim (fun q => iMs.mv hτ q h.s) id, a4.elim (fun q => iMg.mv hτ q h.g) id, a5.elim (fun q => iMh.mv hτ q h.h) id, a6.elim (fun q => iMp.mv hτ q h.p) id, a7.elim (fun q => iMn.mv hτ q h.n) id, a8.elim (fun q => iMt.mv hτ q h.t) id, a9.elim (fun q => iMq.mv hτ q h.q) id, a10.elim (fun q => iMl.mv hτ q h.l) id, a11.elim (fun q => iMo.mv hτ q h.o) id, a12.elim (fun q => iMw.mv hτ q h.w) id, a13.elim (fun q => iMk.mv hτ q h.k) id⟩
theorem Cpl.upd {W V : List Nat} {σ σ' τ τ' : MSto} (h : Cpl σ τ) (hσ : agO W σ σ') (hτ : agO V τ τ') (ok : ok_kA W = true) (hm : iM τ') (a0 : ok_kV W V = true ∨ kV σ' τ') (a1 : ok_kB W V = true ∨ kB σ' τ') (a2 : ok_kM W V = true ∨ kM σ' τ') (a3 : ok_kS W V = true ∨ kS σ' τ') (a4 : ok_kG W V = true ∨ kG σ' τ') (a5 : ok_kH W V = true ∨ kH σ' τ') (a6 : ok_kP W V = true ∨ kP σ' τ') (a7 : ok_kN W V = true ∨ kN σ' τ') (a8 : ok_kT W V = true ∨ kT σ' τ') (a9 : ok_kQ W V = true ∨ kQ σ' τ') (a10 : ok_kL W V = true ∨ kL σ' τ') (a11 : ok_kO W V = true ∨ kO σ' τ') (a12 : ok_kW W V = true ∨ kW σ' τ') (a13 : ok_kK W V = true ∨ kK σ' τ') (a14 : ok_kR W V = true ∨ kR σ' τ') (a15 : ok_kX W V = true ∨ kX σ' τ') : Cpl σ' τ' :=
  ⟨hm, a0.elim (fun q => kV.mv hσ hτ q h.v) id, a1.elim (fun q => kB.mv hσ hτ q h.b) id, a2.elim (fun q => kM.mv hσ hτ q h.me) id, a3.elim (fun q => kS.mv hσ hτ q h.s) id, a4.elim (fun q => kG.mv hσ hτ q h.g) id, a5.elim (fun q => kH.mv hσ hτ q h.h) id, a6.elim (fun q => kP.mv hσ hτ q h.p) id, a7.elim (fun q => kN.mv hσ hτ q h.n) id, a8.elim (fun q => kT.mv hσ hτ q h.t) id, a9.elim (fun q => kQ.mv hσ hτ q h.q) id, a10.elim (fun q => kL.mv hσ hτ q h.l) id, a11.elim (fun q => kO.mv hσ hτ q h.o) id, a12.elim (fun q => kW.mv hσ hτ q h.w) id, a13.elim (fun q => kK.mv hσ hτ q h.k) id, a14.elim (fun q => kR.mv hσ hτ q h.r) id, a15.elim (fun q => kX.mv hσ hτ q h.x) id, kA.mv hσ ok h.a⟩
/-- cells to reckon in -/
abbrev scC : List Nat := [26000, 27000, 28000, 29000, 30000, 31000, 32000, 10003, 10004, 10005, 36000, 37000]
abbrev scM : List Nat := [13053, 13054, 13055, 13056, 13057, 79000, 80000, 81000, 13061, 82000, 13063, 13064, 83000, 84000, 13067, 13068, 13069, 85000, 86000]
theorem iM.mv {V : List Nat} {τ τ' : MSto} (h : iM τ) (hτ : agO V τ τ') (hV : subW V scM = true) : iM τ' := iM.upd h (hτ.mono hV) (Or.inl rfl) (Or.inl rfl) (Or.inl rfl) (Or.inl rfl) (Or.inl rfl) (Or.inl rfl) (Or.inl rfl) (Or.inl rfl) (Or.inl rfl) (Or.inl rfl) (Or.inl rfl) (Or.inl rfl) (Or.inl rfl) (Or.inl rfl)
theorem Cpl.mv {W V : List Nat} {σ σ' τ τ' : MSto} (h : Cpl σ τ) (hσ : agO W σ σ') (hτ : agO V τ τ') (hW : subW W scC = true) (hV : subW V scM = true) : Cpl σ' τ' := Cpl.upd h (hσ.mono hW) (hτ.mono hV) rfl (h.m.mv hτ hV) (Or.inl rfl) (Or.inl rfl) (Or.inl rfl) (Or.inl rfl) (Or.inl rfl) (Or.inl rfl) (Or.inl rfl) (Or.inl rfl) (Or.inl rfl) (Or.inl rfl) (Or.inl rfl) (Or.inl rfl) (Or.inl rfl) (Or.inl rfl) (Or.inl rfl) (Or.inl rfl)
abbrev srC : List Nat := [26000, 27000, 28000, 29000, 30000, 31000, 32000, 10003, 10004, 10005, 36000, 37000, 8002, 38000]
abbrev srM : List Nat := [13053, 13054, 13055, 13056, 13057, 79000, 80000, 81000, 13061, 82000, 13063, 13064, 83000, 84000, 13067, 13068, 13069, 85000, 86000, 13052, 78000]
theorem Cpl.mvR {W V : List Nat} {σ σ' τ τ' : MSto} (h : Cpl σ τ) (hσ : agO W σ σ') (hτ : agO V τ τ') (hW : subW W srC = true) (hV : subW V srM = true) (hr : kR σ' τ') : Cpl σ' τ' := Cpl.upd h (hσ.mono hW) (hτ.mono hV) rfl (iM.upd h.m (hτ.mono hV) (Or.inl rfl) (Or.inl rfl) (Or.inl rfl) (Or.inl rfl) (Or.inl rfl) (Or.inl rfl) (Or.inl rfl) (Or.inl rfl) (Or.inl rfl) (Or.inl rfl) (Or.inl rfl) (Or.inl rfl) (Or.inl rfl) (Or.inl rfl)) (Or.inl rfl) (Or.inl rfl) (Or.inl rfl) (Or.inl rfl) (Or.inl rfl) (Or.inl rfl) (Or.inl rfl) (Or.inl rfl) (Or.inl rfl) (Or.inl rfl) (Or.inl rfl) (Or.inl rfl) (Or.inl rfl) (Or.inl rfl) (Or.inr hr) (Or.inl rfl)

