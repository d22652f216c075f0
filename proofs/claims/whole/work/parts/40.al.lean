/-! lists: what their methods ask, answer and do -/
def v_AL_size (kd i : Nat) (σ : MSto) : Int32 := gI σ kd i 2
noncomputable def S_AL_size : List MV → MSto → Option Prop × Option MV × MSto := fun as σ => match as with
  | [.inr (.inr (some (kd, i0)))] => bif Nat.ble 14 kd && Nat.ble kd 18 then (none, some (mI (v_AL_size kd i0 σ)), σ) else (some False, none, σ)
  | _ => (some False, none, σ)
noncomputable def E_AL_size : MEnt := ((1, 0, 0), (0, 0, 0, 0), S_AL_size, ((⟨"java/util/ArrayList", "size", "()I"⟩ : MethodName), prog_27_method_8_code, 1, some .int))
noncomputable def v_AL_isEmpty (kd i : Nat) (σ : MSto) : Int32 := bI (gI σ kd i 2 = 0)
noncomputable def S_AL_isEmpty : List MV → MSto → Option Prop × Option MV × MSto := fun as σ => match as with
  | [.inr (.inr (some (kd, i0)))] => bif Nat.ble 14 kd && Nat.ble kd 18 then (none, some (mI (v_AL_isEmpty kd i0 σ)), σ) else (some False, none, σ)
  | _ => (some False, none, σ)
noncomputable def E_AL_isEmpty : MEnt := ((1, 0, 0), (0, 0, 0, 0), S_AL_isEmpty, ((⟨"java/util/ArrayList", "isEmpty", "()Z"⟩ : MethodName), prog_27_method_9_code, 1, some .boolean))
def v_AL_get (kd i : Nat) (a : Int32) (σ : MSto) : Nat := (gR σ kd i a.toNatClampNeg).getD 0
def p_AL_get (kd i : Nat) (a : Int32) (σ : MSto) : Prop := 0 ≤ a ∧ a < gI σ kd i 2
noncomputable def S_AL_get : List MV → MSto → Option Prop × Option MV × MSto := fun as σ => match as with
  | [.inr (.inr (some (kd, i0))), .inl a0] => bif Nat.ble 14 kd && Nat.ble kd 18 then (some (p_AL_get kd i0 a0 σ), some (mR (mLK kd) (v_AL_get kd i0 a0 σ)), σ) else (some False, none, σ)
  | _ => (some False, none, σ)
noncomputable def E_AL_get : MEnt := ((1, 1, 0), (5, 100, 0, 0), S_AL_get, ((⟨"java/util/ArrayList", "get", "(I)Ljava/lang/Object;"⟩ : MethodName), prog_27_method_20_code, 2, some (.object "java/lang/Object")))
def v_AL_add (kd i k1 a : Nat) (σ : MSto) : Int32 := 1
def e_AL_add (kd i k1 a : Nat) (σ : MSto) : MSto := sI (sR (sI σ kd i 0 (gI σ kd i 0 + 1)) kd i (gI σ kd i 2).toNatClampNeg (some a)) kd i 2 (gI σ kd i 2 + 1)
def p_AL_add (kd i k1 a : Nat) (σ : MSto) : Prop := 0 ≤ gI σ kd i 2 ∧ gI σ kd i 2 ≤ 12
noncomputable def S_AL_add : List MV → MSto → Option Prop × Option MV × MSto := fun as σ => match as with
  | [.inr (.inr (some (kd, i0))), .inr (.inr (some (k1, a0)))] => bif Nat.ble 14 kd && Nat.ble kd 18 && Nat.beq k1 (mLK kd) then (some (p_AL_add kd i0 k1 a0 σ), some (mI (v_AL_add kd i0 k1 a0 σ)), e_AL_add kd i0 k1 a0 σ) else (some False, none, σ)
  | _ => (some False, none, σ)
noncomputable def E_AL_add : MEnt := ((1, 1, 0), (10, 250, 1, 18), S_AL_add, ((⟨"java/util/ArrayList", "add", "(Ljava/lang/Object;)Z"⟩ : MethodName), prog_27_method_25_code, 2, some .boolean))

