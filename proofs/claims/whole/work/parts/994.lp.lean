/-! the law: its loop -/
set_option maxRecDepth 100000 in
set_option maxHeartbeats 4000000 in
theorem q_L_23 (x4 : Int32) (σ : MSto) (k : MK) : mrun KT P_L k 600 (23, [some (mR 97 0), some (mR 12 0), some (mR 13 0), some (mR 98 0), some (mI x4), none, none, none], [], σ, 0, 0) = mIf (((Int32.ofNat (gI σ 97 1 0).toNatClampNeg) - 7) < x4) (k (2241, [some (mR 97 0), some (mR 12 0), some (mR 13 0), some (mR 98 0), some (mI x4), none, none, none], [], σ, 0, 0)) (mG (vp_in x4 (gI σ 97 1 0).toNatClampNeg) (mIf (((gI σ 97 0 (Int32.toNatClampNeg x4)) &&& 63) = 0) (k (260, [some (mR 97 0), some (mR 12 0), some (mR 13 0), some (mR 98 0), some (mI x4), none, none, none], [], σ, 0, 0)) (mIf (((gI σ 97 0 (Int32.toNatClampNeg x4)) &&& 63) = 1) (k (285, [some (mR 97 0), some (mR 12 0), some (mR 13 0), some (mR 98 0), some (mI x4), none, none, none], [], σ, 0, 0)) (mIf (((gI σ 97 0 (Int32.toNatClampNeg x4)) &&& 63) = 2) (k (310, [some (mR 97 0), some (mR 12 0), some (mR 13 0), some (mR 98 0), some (mI x4), none, none, none], [], σ, 0, 0)) (mIf (((gI σ 97 0 (Int32.toNatClampNeg x4)) &&& 63) = 3) (k (323, [some (mR 97 0), some (mR 12 0), some (mR 13 0), some (mR 98 0), some (mI x4), none, none, none], [], σ, 0, 0)) (mIf (((gI σ 97 0 (Int32.toNatClampNeg x4)) &&& 63) = 4) (k (348, [some (mR 97 0), some (mR 12 0), some (mR 13 0), some (mR 98 0), some (mI x4), none, none, none], [], σ, 0, 0)) (mIf (((gI σ 97 0 (Int32.toNatClampNeg x4)) &&& 63) = 5) (k (373, [some (mR 97 0), some (mR 12 0), some (mR 13 0), some (mR 98 0), some (mI x4), none, none, none], [], σ, 0, 0)) (mIf (((gI σ 97 0 (Int32.toNatClampNeg x4)) &&& 63) = 6) (k (446, [some (mR 97 0), some (mR 12 0), some (mR 13 0), some (mR 98 0), some (mI x4), none, none, none], [], σ, 0, 0)) (mIf (((gI σ 97 0 (Int32.toNatClampNeg x4)) &&& 63) = 7) (k (533, [some (mR 97 0), some (mR 12 0), some (mR 13 0), some (mR 98 0), some (mI x4), none, none, none], [], σ, 0, 0)) (mIf (((gI σ 97 0 (Int32.toNatClampNeg x4)) &&& 63) = 8) (k (570, [some (mR 97 0), some (mR 12 0), some (mR 13 0), some (mR 98 0), some (mI x4), none, none, none], [], σ, 0, 0)) (mIf (((gI σ 97 0 (Int32.toNatClampNeg x4)) &&& 63) = 9) (k (619, [some (mR 97 0), some (mR 12 0), some (mR 13 0), some (mR 98 0), some (mI x4), none, none, none], [], σ, 0, 0)) (mIf (((gI σ 97 0 (Int32.toNatClampNeg x4)) &&& 63) = 10) (k (680, [some (mR 97 0), some (mR 12 0), some (mR 13 0), some (mR 98 0), some (mI x4), none, none, none], [], σ, 0, 0)) (mIf (((gI σ 97 0 (Int32.toNatClampNeg x4)) &&& 63) = 11) (k (729, [some (mR 97 0), some (mR 12 0), some (mR 13 0), some (mR 98 0), some (mI x4), none, none, none], [], σ, 0, 0)) (mIf (((gI σ 97 0 (Int32.toNatClampNeg x4)) &&& 63) = 12) (k (790, [some (mR 97 0), some (mR 12 0), some (mR 13 0), some (mR 98 0), some (mI x4), none, none, none], [], σ, 0, 0)) (mIf (((gI σ 97 0 (Int32.toNatClampNeg x4)) &&& 63) = 13) (k (846, [some (mR 97 0), some (mR 12 0), some (mR 13 0), some (mR 98 0), some (mI x4), none, none, none], [], σ, 0, 0)) (mIf (((gI σ 97 0 (Int32.toNatClampNeg x4)) &&& 63) = 14) (k (883, [some (mR 97 0), some (mR 12 0), some (mR 13 0), some (mR 98 0), some (mI x4), none, none, none], [], σ, 0, 0)) (mIf (((gI σ 97 0 (Int32.toNatClampNeg x4)) &&& 63) = 15) (k (939, [some (mR 97 0), some (mR 12 0), some (mR 13 0), some (mR 98 0), some (mI x4), none, none, none], [], σ, 0, 0)) (mIf (((gI σ 97 0 (Int32.toNatClampNeg x4)) &&& 63) = 16) (k (995, [some (mR 97 0), some (mR 12 0), some (mR 13 0), some (mR 98 0), some (mI x4), none, none, none], [], σ, 0, 0)) (mIf (((gI σ 97 0 (Int32.toNatClampNeg x4)) &&& 63) = 17) (k (1044, [some (mR 97 0), some (mR 12 0), some (mR 13 0), some (mR 98 0), some (mI x4), none, none, none], [], σ, 0, 0)) (mIf (((gI σ 97 0 (Int32.toNatClampNeg x4)) &&& 63) = 18) (k (1081, [some (mR 97 0), some (mR 12 0), some (mR 13 0), some (mR 98 0), some (mI x4), none, none, none], [], σ, 0, 0)) (mIf (((gI σ 97 0 (Int32.toNatClampNeg x4)) &&& 63) = 19) (k (1106, [some (mR 97 0), some (mR 12 0), some (mR 13 0), some (mR 98 0), some (mI x4), none, none, none], [], σ, 0, 0)) (mIf (((gI σ 97 0 (Int32.toNatClampNeg x4)) &&& 63) = 20) (k (1143, [some (mR 97 0), some (mR 12 0), some (mR 13 0), some (mR 98 0), some (mI x4), none, none, none], [], σ, 0, 0)) (mIf (((gI σ 97 0 (Int32.toNatClampNeg x4)) &&& 63) = 21) (k (1192, [some (mR 97 0), some (mR 12 0), some (mR 13 0), some (mR 98 0), some (mI x4), none, none, none], [], σ, 0, 0)) (mIf (((gI σ 97 0 (Int32.toNatClampNeg x4)) &&& 63) = 22) (k (1217, [some (mR 97 0), some (mR 12 0), some (mR 13 0), some (mR 98 0), some (mI x4), none, none, none], [], σ, 0, 0)) (mIf (((gI σ 97 0 (Int32.toNatClampNeg x4)) &&& 63) = 23) (k (1242, [some (mR 97 0), some (mR 12 0), some (mR 13 0), some (mR 98 0), some (mI x4), none, none, none], [], σ, 0, 0)) (mIf (((gI σ 97 0 (Int32.toNatClampNeg x4)) &&& 63) = 24) (k (1267, [some (mR 97 0), some (mR 12 0), some (mR 13 0), some (mR 98 0), some (mI x4), none, none, none], [], σ, 0, 0)) (mIf (((gI σ 97 0 (Int32.toNatClampNeg x4)) &&& 63) = 25) (k (1292, [some (mR 97 0), some (mR 12 0), some (mR 13 0), some (mR 98 0), some (mI x4), none, none, none], [], σ, 0, 0)) (mIf (((gI σ 97 0 (Int32.toNatClampNeg x4)) &&& 63) = 26) (k (1341, [some (mR 97 0), some (mR 12 0), some (mR 13 0), some (mR 98 0), some (mI x4), none, none, none], [], σ, 0, 0)) (mIf (((gI σ 97 0 (Int32.toNatClampNeg x4)) &&& 63) = 27) (k (1390, [some (mR 97 0), some (mR 12 0), some (mR 13 0), some (mR 98 0), some (mI x4), none, none, none], [], σ, 0, 0)) (mIf (((gI σ 97 0 (Int32.toNatClampNeg x4)) &&& 63) = 28) (k (1403, [some (mR 97 0), some (mR 12 0), some (mR 13 0), some (mR 98 0), some (mI x4), none, none, none], [], σ, 0, 0)) (mIf (((gI σ 97 0 (Int32.toNatClampNeg x4)) &&& 63) = 29) (k (1440, [some (mR 97 0), some (mR 12 0), some (mR 13 0), some (mR 98 0), some (mI x4), none, none, none], [], σ, 0, 0)) (mIf (((gI σ 97 0 (Int32.toNatClampNeg x4)) &&& 63) = 30) (k (1520, [some (mR 97 0), some (mR 12 0), some (mR 13 0), some (mR 98 0), some (mI x4), none, none, none], [], σ, 0, 0)) (mIf (((gI σ 97 0 (Int32.toNatClampNeg x4)) &&& 63) = 31) (k (1585, [some (mR 97 0), some (mR 12 0), some (mR 13 0), some (mR 98 0), some (mI x4), none, none, none], [], σ, 0, 0)) (mIf (((gI σ 97 0 (Int32.toNatClampNeg x4)) &&& 63) = 32) (k (1610, [some (mR 97 0), some (mR 12 0), some (mR 13 0), some (mR 98 0), some (mI x4), none, none, none], [], σ, 0, 0)) (mIf (((gI σ 97 0 (Int32.toNatClampNeg x4)) &&& 63) = 33) (k (1647, [some (mR 97 0), some (mR 12 0), some (mR 13 0), some (mR 98 0), some (mI x4), none, none, none], [], σ, 0, 0)) (mIf (((gI σ 97 0 (Int32.toNatClampNeg x4)) &&& 63) = 34) (k (1672, [some (mR 97 0), some (mR 12 0), some (mR 13 0), some (mR 98 0), some (mI x4), none, none, none], [], σ, 0, 0)) (mIf (((gI σ 97 0 (Int32.toNatClampNeg x4)) &&& 63) = 35) (k (1697, [some (mR 97 0), some (mR 12 0), some (mR 13 0), some (mR 98 0), some (mI x4), none, none, none], [], σ, 0, 0)) (mIf (((gI σ 97 0 (Int32.toNatClampNeg x4)) &&& 63) = 36) (k (1734, [some (mR 97 0), some (mR 12 0), some (mR 13 0), some (mR 98 0), some (mI x4), none, none, none], [], σ, 0, 0)) (mIf (((gI σ 97 0 (Int32.toNatClampNeg x4)) &&& 63) = 37) (k (1759, [some (mR 97 0), some (mR 12 0), some (mR 13 0), some (mR 98 0), some (mI x4), none, none, none], [], σ, 0, 0)) (mIf (((gI σ 97 0 (Int32.toNatClampNeg x4)) &&& 63) = 38) (k (1784, [some (mR 97 0), some (mR 12 0), some (mR 13 0), some (mR 98 0), some (mI x4), none, none, none], [], σ, 0, 0)) (mIf (((gI σ 97 0 (Int32.toNatClampNeg x4)) &&& 63) = 39) (k (1809, [some (mR 97 0), some (mR 12 0), some (mR 13 0), some (mR 98 0), some (mI x4), none, none, none], [], σ, 0, 0)) (mIf (((gI σ 97 0 (Int32.toNatClampNeg x4)) &&& 63) = 40) (k (1834, [some (mR 97 0), some (mR 12 0), some (mR 13 0), some (mR 98 0), some (mI x4), none, none, none], [], σ, 0, 0)) (mIf (((gI σ 97 0 (Int32.toNatClampNeg x4)) &&& 63) = 41) (k (1871, [some (mR 97 0), some (mR 12 0), some (mR 13 0), some (mR 98 0), some (mI x4), none, none, none], [], σ, 0, 0)) (mIf (((gI σ 97 0 (Int32.toNatClampNeg x4)) &&& 63) = 42) (k (1920, [some (mR 97 0), some (mR 12 0), some (mR 13 0), some (mR 98 0), some (mI x4), none, none, none], [], σ, 0, 0)) (mIf (((gI σ 97 0 (Int32.toNatClampNeg x4)) &&& 63) = 43) (k (1957, [some (mR 97 0), some (mR 12 0), some (mR 13 0), some (mR 98 0), some (mI x4), none, none, none], [], σ, 0, 0)) (mIf (((gI σ 97 0 (Int32.toNatClampNeg x4)) &&& 63) = 44) (k (1994, [some (mR 97 0), some (mR 12 0), some (mR 13 0), some (mR 98 0), some (mI x4), none, none, none], [], σ, 0, 0)) (mIf (((gI σ 97 0 (Int32.toNatClampNeg x4)) &&& 63) = 45) (k (2055, [some (mR 97 0), some (mR 12 0), some (mR 13 0), some (mR 98 0), some (mI x4), none, none, none], [], σ, 0, 0)) (mIf (((gI σ 97 0 (Int32.toNatClampNeg x4)) &&& 63) = 46) (k (2080, [some (mR 97 0), some (mR 12 0), some (mR 13 0), some (mR 98 0), some (mI x4), none, none, none], [], σ, 0, 0)) (mIf (((gI σ 97 0 (Int32.toNatClampNeg x4)) &&& 63) = 47) (k (2105, [some (mR 97 0), some (mR 12 0), some (mR 13 0), some (mR 98 0), some (mI x4), none, none, none], [], σ, 0, 0)) (mIf (((gI σ 97 0 (Int32.toNatClampNeg x4)) &&& 63) = 48) (k (2130, [some (mR 97 0), some (mR 12 0), some (mR 13 0), some (mR 98 0), some (mI x4), none, none, none], [], σ, 0, 0)) (mIf (((gI σ 97 0 (Int32.toNatClampNeg x4)) &&& 63) = 49) (k (2155, [some (mR 97 0), some (mR 12 0), some (mR 13 0), some (mR 98 0), some (mI x4), none, none, none], [], σ, 0, 0)) (mIf (((gI σ 97 0 (Int32.toNatClampNeg x4)) &&& 63) = 50) (k (2180, [some (mR 97 0), some (mR 12 0), some (mR 13 0), some (mR 98 0), some (mI x4), none, none, none], [], σ, 0, 0)) (k (2235, [some (mR 97 0), some (mR 12 0), some (mR 13 0), some (mR 98 0), some (mI x4), none, none, none], [], σ, 0, 0)))))))))))))))))))))))))))))))))))))))))))))))))))))) := rfl
set_option maxRecDepth 100000 in
set_option maxHeartbeats 4000000 in
theorem q_L_2235 (x4 : Int32) (σ : MSto) (k : MK) : mrun KT P_L k 600 (2235, [some (mR 97 0), some (mR 12 0), some (mR 13 0), some (mR 98 0), some (mI x4), none, none, none], [], σ, 0, 0) = k (23, [some (mR 97 0), some (mR 12 0), some (mR 13 0), some (mR 98 0), some (mI (x4 + 7)), none, none, none], [], σ, 0, 0) := rfl
set_option maxRecDepth 100000 in
set_option maxHeartbeats 4000000 in
theorem q_L_0  (σ : MSto) (k : MK) : mrun KT P_L k 600 (0, [some (mR 97 0), none, none, none, none, none, none, none], [], σ, 0, 0) = mG (p_newC σ) (mG (p_newM (e_newC σ)) (k (23, [some (mR 97 0), some (mR 12 0), some (mR 13 0), some (mR 98 (gN (e_newM (e_newC σ)) 98)), some (mI 0), none, none, none], [], (sNew (e_newM (e_newC σ)) 98), 77, 2120))) := rfl
def lawPcs : List Nat := [260, 285, 310, 323, 348, 373, 446, 533, 570, 619, 680, 729, 790, 846, 883, 939, 995, 1044, 1081, 1106, 1143, 1192, 1217, 1242, 1267, 1292, 1341, 1390, 1403, 1440, 1520, 1585, 1610, 1647, 1672, 1697, 1734, 1759, 1784, 1809, 1834, 1871, 1920, 1957, 1994, 2055, 2080, 2105, 2130, 2155, 2180]
theorem mIf_ex {α : Type} {P : α → Prop} {c : Prop} {x y : α} (hx : P x) (hy : P y) : P (mIf c x y) := by
  by_cases g : c
  · rw [mIf_t g]; exact hx
  · rw [mIf_f g]; exact hy
theorem L_stop {L i : Nat} (hL : L ≤ 3584) (hi : i ≤ 4000) : ((Int32.ofNat (nI L).toNatClampNeg) - 7 < nI i) ↔ ¬ (i + 7 ≤ L) := by
  rw [nI_cl (by omega)]
  show (nI L - nI 7 < nI i) ↔ _
  rw [Int32.lt_iff_toInt_lt, pk_sub_toInt (by omega) (by omega), nI_toInt (by omega)]
  omega
theorem L_exit {L i : Nat} {σ : MSto} (hI : LInv L σ) (hL : L ≤ 3584) (hi : i ≤ 4000) (h : ¬ i + 7 ≤ L) : mrun KT P_L (fun st => some st) 600 (23, LH i, [], σ, 0, 0) = some (2241, LH i, [], σ, 0, 0) := by
  have run := q_L_23 (nI i) σ (fun st => some st)
  rw [hI.2.2, mIf_t ((L_stop hL hi).mpr h)] at run
  exact run
def lwP (L i : Nat) (σ : MSto) (r : Option MST) : Prop := ∃ pc : Nat, (pc ∈ lawPcs ∨ pc = 2235) ∧ r = some (pc, LH i, [], σ, 0, 0)
theorem L_case {L i : Nat} {σ : MSto} (hI : LInv L σ) (hL : L ≤ 3584) (h : i + 7 ≤ L) : lwP L i σ (mrun KT P_L (fun st => some st) 600 (23, LH i, [], σ, 0, 0)) := by
  have run := q_L_23 (nI i) σ (fun st => some st)
  have hv : vp_in (nI i) (gI σ 97 1 0).toNatClampNeg := by
    rw [hI.2.2, nI_cl (by omega)]
    exact vp_in_nI (by omega) (by omega)
  rw [mIf_f (by rw [hI.2.2]; exact fun q => (L_stop hL (by omega)).mp q h), mG_t hv] at run
  refine (congrArg (lwP L i σ) run).mpr ?_
  refine mIf_ex (P := lwP L i σ) ⟨260, Or.inl (by decide), rfl⟩ ?_
  refine mIf_ex (P := lwP L i σ) ⟨285, Or.inl (by decide), rfl⟩ ?_
  refine mIf_ex (P := lwP L i σ) ⟨310, Or.inl (by decide), rfl⟩ ?_
  refine mIf_ex (P := lwP L i σ) ⟨323, Or.inl (by decide), rfl⟩ ?_
  refine mIf_ex (P := lwP L i σ) ⟨348, Or.inl (by decide), rfl⟩ ?_
  refine mIf_ex (P := lwP L i σ) ⟨373, Or.inl (by decide), rfl⟩ ?_
  refine mIf_ex (P := lwP L i σ) ⟨446, Or.inl (by decide), rfl⟩ ?_
  refine mIf_ex (P := lwP L i σ) ⟨533, Or.inl (by decide), rfl⟩ ?_
  refine mIf_ex (P := lwP L i σ) ⟨570, Or.inl (by decide), rfl⟩ ?_
  refine mIf_ex (P := lwP L i σ) ⟨619, Or.inl (by decide), rfl⟩ ?_
  refine mIf_ex (P := lwP L i σ) ⟨680, Or.inl (by decide), rfl⟩ ?_
  refine mIf_ex (P := lwP L i σ) ⟨729, Or.inl (by decide), rfl⟩ ?_
  refine mIf_ex (P := lwP L i σ) ⟨790, Or.inl (by decide), rfl⟩ ?_
  refine mIf_ex (P := lwP L i σ) ⟨846, Or.inl (by decide), rfl⟩ ?_
  refine mIf_ex (P := lwP L i σ) ⟨883, Or.inl (by decide), rfl⟩ ?_
  refine mIf_ex (P := lwP L i σ) ⟨939, Or.inl (by decide), rfl⟩ ?_
  refine mIf_ex (P := lwP L i σ) ⟨995, Or.inl (by decide), rfl⟩ ?_
  refine mIf_ex (P := lwP L i σ) ⟨1044, Or.inl (by decide), rfl⟩ ?_
  refine mIf_ex (P := lwP L i σ) ⟨1081, Or.inl (by decide), rfl⟩ ?_
  refine mIf_ex (P := lwP L i σ) ⟨1106, Or.inl (by decide), rfl⟩ ?_
  refine mIf_ex (P := lwP L i σ) ⟨1143, Or.inl (by decide), rfl⟩ ?_
  refine mIf_ex (P := lwP L i σ) ⟨1192, Or.inl (by decide), rfl⟩ ?_
  refine mIf_ex (P := lwP L i σ) ⟨1217, Or.inl (by decide), rfl⟩ ?_
  refine mIf_ex (P := lwP L i σ) ⟨1242, Or.inl (by decide), rfl⟩ ?_
  refine mIf_ex (P := lwP L i σ) ⟨1267, Or.inl (by decide), rfl⟩ ?_
  refine mIf_ex (P := lwP L i σ) ⟨1292, Or.inl (by decide), rfl⟩ ?_
  refine mIf_ex (P := lwP L i σ) ⟨1341, Or.inl (by decide), rfl⟩ ?_
  refine mIf_ex (P := lwP L i σ) ⟨1390, Or.inl (by decide), rfl⟩ ?_
  refine mIf_ex (P := lwP L i σ) ⟨1403, Or.inl (by decide), rfl⟩ ?_
  refine mIf_ex (P := lwP L i σ) ⟨1440, Or.inl (by decide), rfl⟩ ?_
  refine mIf_ex (P := lwP L i σ) ⟨1520, Or.inl (by decide), rfl⟩ ?_
  refine mIf_ex (P := lwP L i σ) ⟨1585, Or.inl (by decide), rfl⟩ ?_
  refine mIf_ex (P := lwP L i σ) ⟨1610, Or.inl (by decide), rfl⟩ ?_
  refine mIf_ex (P := lwP L i σ) ⟨1647, Or.inl (by decide), rfl⟩ ?_
  refine mIf_ex (P := lwP L i σ) ⟨1672, Or.inl (by decide), rfl⟩ ?_
  refine mIf_ex (P := lwP L i σ) ⟨1697, Or.inl (by decide), rfl⟩ ?_
  refine mIf_ex (P := lwP L i σ) ⟨1734, Or.inl (by decide), rfl⟩ ?_
  refine mIf_ex (P := lwP L i σ) ⟨1759, Or.inl (by decide), rfl⟩ ?_
  refine mIf_ex (P := lwP L i σ) ⟨1784, Or.inl (by decide), rfl⟩ ?_
  refine mIf_ex (P := lwP L i σ) ⟨1809, Or.inl (by decide), rfl⟩ ?_
  refine mIf_ex (P := lwP L i σ) ⟨1834, Or.inl (by decide), rfl⟩ ?_
  refine mIf_ex (P := lwP L i σ) ⟨1871, Or.inl (by decide), rfl⟩ ?_
  refine mIf_ex (P := lwP L i σ) ⟨1920, Or.inl (by decide), rfl⟩ ?_
  refine mIf_ex (P := lwP L i σ) ⟨1957, Or.inl (by decide), rfl⟩ ?_
  refine mIf_ex (P := lwP L i σ) ⟨1994, Or.inl (by decide), rfl⟩ ?_
  refine mIf_ex (P := lwP L i σ) ⟨2055, Or.inl (by decide), rfl⟩ ?_
  refine mIf_ex (P := lwP L i σ) ⟨2080, Or.inl (by decide), rfl⟩ ?_
  refine mIf_ex (P := lwP L i σ) ⟨2105, Or.inl (by decide), rfl⟩ ?_
  refine mIf_ex (P := lwP L i σ) ⟨2130, Or.inl (by decide), rfl⟩ ?_
  refine mIf_ex (P := lwP L i σ) ⟨2155, Or.inl (by decide), rfl⟩ ?_
  refine mIf_ex (P := lwP L i σ) ⟨2180, Or.inl (by decide), rfl⟩ ?_
  exact ⟨2235, Or.inr rfl, rfl⟩
section LLP
variable {p : Program} {l : Launch} {e : Env} {R : Room} {s : State} {m : MethodId} {args : Array Value} {below : List Frame} {meth : Method} {c : Code} {Q : State → Prop}
variable {D : va_G} {A : Nat → Prop} {eb tL tB : Nat} {ad0 : Nat → Nat → Nat} {σ0 : MSto}
theorem L_loop {L : Nat} (hL : L ≤ 3584) (hT : ∀ i, i + 7 ≤ L → ∀ pc ∈ lawPcs, LTurn l L pc i) (X : mCx p s m meth c code 8 "ClothWithManLaw" D A eb tL tB P_L) (hR1 : 2000 ≤ R.frames) (hR2 : 80000 ≤ R.locals) (hRc : 601024 ≤ R.cells) (hRs : 7293034 ≤ R.slots)
    (hend : ∀ (i : Nat) (σ : MSto) (c0 s0 : Nat), c0 ≤ 300000 → s0 ≤ 3000000 → mWP p l e R s m args below meth c Q 8 D A eb tL tB ad0 σ0 c0 s0 (2241, LH i, [], σ, 0, 0)) :
    ∀ (k i c0 s0 : Nat) (σ : MSto), L < i + 7 * k + 7 → i ≤ L + 7 → c0 + 11 * k ≤ 200000 → s0 + 106 * k ≤ 2000000 → LInv L σ → mWP p l e R s m args below meth c Q 8 D A eb tL tB ad0 σ0 c0 s0 (23, LH i, [], σ, 0, 0) := by
  intro k
  induction k with
  | zero =>
    intro i c0 s0 σ hk hi hc hs hI
    have run := L_exit hI hL (by omega) (show ¬ i + 7 ≤ L by omega)
    have he : mWP p l e R s m args below meth c Q 8 D A eb tL tB ad0 σ0 c0 s0 (2241, LH i, [], σ, 0, 0) := hend i σ c0 s0 (by omega) (by omega)
    exact s_run X mLay_ok (hRm_L hR1 hR2 (by omega) (by omega)) (ok_L l) he (fun st h => by cases h; exact he) 600 _ run
  | succ k ih =>
    intro i c0 s0 σ hk hi hc hs hI
    by_cases hle : i + 7 ≤ L
    · have next : ∀ (σ' : MSto) (cc zz : Nat), LInv L σ' → cc ≤ 11 → zz ≤ 106 → mWP p l e R s m args below meth c Q 8 D A eb tL tB ad0 σ0 (c0 + cc) (s0 + zz) (2235, LH i, [], σ', 0, 0) := by
        intro σ' cc zz hI' h1 h2
        have run := q_L_2235 (nI i) σ' (fun st => some st)
        have hn : nI i + 7 = nI (i + 7) := nI_add i 7
        rw [hn] at run
        have he := ih (i + 7) (c0 + cc) (s0 + zz) σ' (by omega) (by omega) (by omega) (by omega) hI'
        exact s_run X mLay_ok (hRm_L hR1 hR2 (by omega) (by omega)) (ok_L l) he (fun st h => by cases h; exact he) 600 _ run
      obtain ⟨pc, hpc, run⟩ := L_case hI hL hle
      have mid : mWP p l e R s m args below meth c Q 8 D A eb tL tB ad0 σ0 c0 s0 (pc, LH i, [], σ, 0, 0) := by
        rcases hpc with hpc | rfl
        · exact hT i hle pc hpc p e R s m args below meth c Q D A eb tL tB c0 s0 ad0 σ0 σ X hR1 hR2 (by omega) (by omega) hI next
        · exact next σ 0 0 hI (by omega) (by omega)
      exact s_run X mLay_ok (hRm_L hR1 hR2 (by omega) (by omega)) (ok_L l) mid (fun st h => by cases h; exact mid) 600 _ run
    · have run := L_exit hI hL (by omega) hle
      have he : mWP p l e R s m args below meth c Q 8 D A eb tL tB ad0 σ0 c0 s0 (2241, LH i, [], σ, 0, 0) := hend i σ c0 s0 (by omega) (by omega)
      exact s_run X mLay_ok (hRm_L hR1 hR2 (by omega) (by omega)) (ok_L l) he (fun st h => by cases h; exact he) 600 _ run
end LLP

