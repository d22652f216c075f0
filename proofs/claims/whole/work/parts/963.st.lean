/-! story: a term -/
theorem sg_99 : ∀ v, v < 100 → (1 : Int32) * nI v = nI v ∧ (-1 : Int32) * nI v = -(nI v) ∧ rg (nI v) (-99) 99 ∧ rg (-(nI v)) (-99) 99 := by
  have h : ∀ v, v < 100 → (1 : Int32) * nI v = nI v ∧ (-1 : Int32) * nI v = -(nI v) ∧ ((-99 : Int32) ≤ nI v ∧ nI v ≤ 99) ∧ ((-99 : Int32) ≤ -(nI v) ∧ -(nI v) ≤ 99) := by decide +kernel
  exact h

