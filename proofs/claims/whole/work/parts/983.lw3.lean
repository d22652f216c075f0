/-! the law: what a turn keeps -/
def okR (V : List Nat) : Bool := ok_kV [] V && (ok_kB [] V && (ok_kM [] V && (ok_kS [] V && (ok_kG [] V && (ok_kH [] V && (ok_kP [] V && (ok_kN [] V && (ok_kT [] V && (ok_kQ [] V && (ok_kL [] V && (ok_kO [] V && (ok_kW [] V && (ok_kK [] V && (ok_kR [] V && (ok_kX [] V && (ok_iMc V && (ok_iMv V && (ok_iMm V && (ok_iMs V && (ok_iMg V && (ok_iMh V && (ok_iMp V && (ok_iMn V && (ok_iMt V && (ok_iMq V && (ok_iMl V && (ok_iMo V && (ok_iMw V && ok_iMk V))))))))))))))))))))))))))))
theorem Cpl.rt {V : List Nat} {σ τ τ' : MSto} (h : Cpl σ τ) (w : agO V τ τ') (ok : okR V = true) : Cpl σ τ' := by
  unfold okR at ok
  simp only [Bool.and_eq_true] at ok
  obtain ⟨a0, a1, a2, a3, a4, a5, a6, a7, a8, a9, a10, a11, a12, a13, a14, a15, b0, b1, b2, b3, b4, b5, b6, b7, b8, b9, b10, b11, b12, b13⟩ := ok
  have g : ∀ {b c : Bool}, b = true ∧ c = true → (b && c) = true := fun h => by rw [h.1, h.2]; rfl
  refine Cpl.upd h (agO_refl [] σ) w rfl (iM.upd h.m w (Or.inl ?_) (Or.inl ?_) (Or.inl ?_) (Or.inl ?_) (Or.inl ?_) (Or.inl ?_) (Or.inl ?_) (Or.inl ?_) (Or.inl ?_) (Or.inl ?_) (Or.inl ?_) (Or.inl ?_) (Or.inl ?_) (Or.inl ?_)) (Or.inl ?_) (Or.inl ?_) (Or.inl ?_) (Or.inl ?_) (Or.inl ?_) (Or.inl ?_) (Or.inl ?_) (Or.inl ?_) (Or.inl ?_) (Or.inl ?_) (Or.inl ?_) (Or.inl ?_) (Or.inl ?_) (Or.inl ?_) (Or.inl ?_) (Or.inl ?_)
  all_goals first | assumption | (simp only [Bool.and_eq_true]; assumption)
def okL (W : List Nat) : Bool := ok_kA W && (ok_kV W [] && (ok_kB W [] && (ok_kM W [] && (ok_kS W [] && (ok_kG W [] && (ok_kH W [] && (ok_kP W [] && (ok_kN W [] && (ok_kT W [] && (ok_kQ W [] && (ok_kL W [] && (ok_kO W [] && (ok_kW W [] && (ok_kK W [] && (ok_kR W [] && ok_kX W [])))))))))))))))
theorem Cpl.lt {W : List Nat} {σ σ' τ : MSto} (h : Cpl σ τ) (w : agO W σ σ') (ok : okL W = true) : Cpl σ' τ := by
  unfold okL at ok
  simp only [Bool.and_eq_true] at ok
  obtain ⟨a0, a1, a2, a3, a4, a5, a6, a7, a8, a9, a10, a11, a12, a13, a14, a15, a16⟩ := ok
  refine Cpl.upd h w (agO_refl [] τ) ?_ h.m (Or.inl ?_) (Or.inl ?_) (Or.inl ?_) (Or.inl ?_) (Or.inl ?_) (Or.inl ?_) (Or.inl ?_) (Or.inl ?_) (Or.inl ?_) (Or.inl ?_) (Or.inl ?_) (Or.inl ?_) (Or.inl ?_) (Or.inl ?_) (Or.inl ?_) (Or.inl ?_)
  all_goals first | assumption | (simp only [Bool.and_eq_true]; assumption)
theorem agO_ite {W : List Nat} {c : Prop} [Decidable c] {σ a b : MSto} (h1 : agO W σ a) (h2 : agO W σ b) : agO W σ (if c then a else b) := by
  by_cases g : c
  · rw [if_pos g]; exact h1
  · rw [if_neg g]; exact h2
theorem w_C_keep {σ τ : MSto} (h : Cpl σ τ) (h104 : gN σ 104 = 0) (a : Int32) : agO [25000, 4000, 4999, 39000, 39999, 40000, 40999, 104000, 104999] σ (e_C_keep a σ) ∧ gN (e_C_keep a σ) 104 = 0 := by
  obtain ⟨-, ⟨g, -, -, g2, g3⟩ | ⟨gn, g, -, -, g2, g3⟩⟩ := T_keep h h104 a
  · have e : e_C_keep a σ = e_C_keepO a σ := mIf_t g _ _
    rw [e]; exact ⟨g3, g2⟩
  · have e : e_C_keep a σ = e_C_keepN a σ := mIf_f gn _ _
    rw [e]; exact ⟨g3, g2⟩
theorem T_keepX {σ τ : MSto} (h : Cpl σ τ) (h104 : gN σ 104 = 0) (a : Int32) : p_C_keep a σ ∧ p_M_keep a τ ∧ v_C_keep a σ = v_M_keep a τ ∧ Cpl (e_C_keep a σ) (e_M_keep a τ) := by
  obtain ⟨pm, ⟨g, g1, g2, -, -⟩ | ⟨gn, g, g1, g2, -, -⟩⟩ := T_keep h h104 a
  · have e : e_C_keep a σ = e_C_keepO a σ := mIf_t g _ _
    have e2 : v_C_keep a σ = v_C_keepO a σ := mIf_t g _ _
    rw [e, e2]; exact ⟨Or.inl g, pm, g1, g2⟩
  · have e : e_C_keep a σ = e_C_keepN a σ := mIf_f gn _ _
    have e2 : v_C_keep a σ = v_C_keepN a σ := mIf_f gn _ _
    rw [e, e2]; exact ⟨Or.inr g, pm, g1, g2⟩
theorem lvp {L i c : Nat} {σ : MSto} (hLn : gI σ 97 1 0 = nI L) (hL : L ≤ 3584) (hi : i + 7 ≤ L) (hc : c < 7) : vp_in (nI i + (OfNat.ofNat c : Int32)) (gI σ 97 1 0).toNatClampNeg := by
  rw [hLn, nI_cl (by omega)]
  exact inb (by omega) (by omega)
abbrev LH (i : Nat) : List (Option MV) := [some (mR 97 0), some (mR 12 0), some (mR 13 0), some (mR 98 0), some (mI (nI i)), none, none, none]
/-- an ordinary turn: to the turn's end, the invariant kept -/
def LGo (L pc i : Nat) (σ : MSto) : Prop := ∃ (σ' : MSto) (cc zz : Nat), LInv L σ' ∧ cc ≤ 10 ∧ zz ≤ 100 ∧ mrun KT P_L (fun st => some st) 600 (pc, LH i, [], σ, 0, 0) = some (2235, LH i, [], σ', cc, zz)

