/-! A small machine over a typed store: kinds of objects and arrays by number, each kind's cells by index. Values are ints, longs and references (kind, index). -/
abbrev MV : Type := Int32 ⊕ (Int64 ⊕ Option (Nat × Nat))
abbrev mI (x : Int32) : MV := Sum.inl x
abbrev mJ (x : Int64) : MV := Sum.inr (Sum.inl x)
abbrev mR (k i : Nat) : MV := Sum.inr (Sum.inr (some (k, i)))
abbrev mN : MV := Sum.inr (Sum.inr none)
/-- the store: ints, longs, references (index in a kind that the place tells), how many cells of a kind there are -/
abbrev MSto : Type := (Nat → Nat → Nat → Int32) × (Nat → Nat → Nat → Int64) × (Nat → Nat → Nat → Option Nat) × (Nat → Nat)
def gI (σ : MSto) (k i j : Nat) : Int32 := σ.1 k i j
def gJ (σ : MSto) (k i j : Nat) : Int64 := σ.2.1 k i j
def gR (σ : MSto) (k i j : Nat) : Option Nat := σ.2.2.1 k i j
def gN (σ : MSto) (k : Nat) : Nat := σ.2.2.2 k
def sI (σ : MSto) (k i j : Nat) (v : Int32) : MSto := (fun a b c => if a = k ∧ b = i ∧ c = j then v else σ.1 a b c, σ.2)
def sJ (σ : MSto) (k i j : Nat) (v : Int64) : MSto := (σ.1, fun a b c => if a = k ∧ b = i ∧ c = j then v else σ.2.1 a b c, σ.2.2)
def sR (σ : MSto) (k i j : Nat) (v : Option Nat) : MSto := (σ.1, σ.2.1, fun a b c => if a = k ∧ b = i ∧ c = j then v else σ.2.2.1 a b c, σ.2.2.2)
/-- one more cell of a kind, all zero -/
def sNew (σ : MSto) (k : Nat) : MSto := (fun a b c => if a = k ∧ b = σ.2.2.2 k then 0 else σ.1 a b c, fun a b c => if a = k ∧ b = σ.2.2.2 k then 0 else σ.2.1 a b c, fun a b c => if a = k ∧ b = σ.2.2.2 k then none else σ.2.2.1 a b c, fun a => if a = k then σ.2.2.2 k + 1 else σ.2.2.2 a)
/-- guards: what must hold for the machine to go on -/
noncomputable def mG {α : Type} (c : Prop) (x : Option α) : Option α := @ite _ c (Classical.propDecidable c) x none
noncomputable def mIf {α : Type} (c : Prop) (x y : α) : α := @ite _ c (Classical.propDecidable c) x y
def mO {α : Type} (o : Option Nat) (x : α) (f : Nat → α) : α := match o with
  | none => x
  | some i => f i
theorem mG_t {α : Type} {c : Prop} (h : c) (x : Option α) : mG c x = x := by unfold mG; exact if_pos h
theorem mIf_t {α : Type} {c : Prop} (h : c) (x y : α) : mIf c x y = x := by unfold mIf; exact if_pos h
theorem mIf_f {α : Type} {c : Prop} (h : ¬ c) (x y : α) : mIf c x y = y := by unfold mIf; exact if_neg h
theorem mO_n {α : Type} (x : α) (f : Nat → α) : mO none x f = x := rfl
theorem mO_s {α : Type} (i : Nat) (x : α) (f : Nat → α) : mO (some i) x f = f i := rfl
theorem mG_some {α : Type} {c : Prop} {x : Option α} {r : α} (h : mG c x = some r) : c ∧ x = some r := by
  unfold mG at h
  by_cases hc : c
  · rw [if_pos hc] at h; exact ⟨hc, h⟩
  · rw [if_neg hc] at h; cases h
/-- what the machine knows of a kind: an object (its class's place, its fields: 0 int, 1 long, 2 + 2 t a constant reference to kind t at the same index, 3 + 2 t a reference that changes), or an array (component, length, the components' kind) -/
abbrev KD : Type := (Nat × List Nat) ⊕ (FieldType × Nat × Nat)
/-- a callee: (mode, arguments beside the receiver, the receiver's class), room (frames, locals, cells, slots), what it asks, answers, does; names -/
abbrev MEnt : Type := (Nat × Nat × Nat) × (Nat × Nat × Nat × Nat) × (List MV → MSto → Option Prop × Option MV × MSto) × (MethodName × ByteArray × Nat × Option FieldType)
/-- a method: code; fields by the pool's entries (class, number, type, final); constants; callees; kinds of what is made, by pc; statics; casts; stops with the locals that are kept; ends; room; constructor -/
abbrev MP : Type := (Nat → Option (Instr × Nat × List Nat)) × (Nat → Option (Nat × Nat × FieldType × Bool)) × (Nat → Option (Int32 ⊕ Int64)) × (Nat → Option MEnt) × (Nat → Option Nat) × (Nat → Option Nat) × (Nat → Option Nat) × (Nat → Option (List Bool)) × (Nat → Bool) × (Nat × Nat × Nat × Nat) × Bool × (Nat → Option MEnt)
abbrev pCode (P : MP) := P.1
abbrev pFld (P : MP) := P.2.1
abbrev pCst (P : MP) := P.2.2.1
abbrev pEnv (P : MP) := P.2.2.2.1
abbrev pAlc (P : MP) := P.2.2.2.2.1
abbrev pStc (P : MP) := P.2.2.2.2.2.1
abbrev pCas (P : MP) := P.2.2.2.2.2.2.1
abbrev pStop (P : MP) := P.2.2.2.2.2.2.2.1
abbrev pFin (P : MP) := P.2.2.2.2.2.2.2.2.1
abbrev pRoom (P : MP) := P.2.2.2.2.2.2.2.2.2.1
abbrev pIni (P : MP) := P.2.2.2.2.2.2.2.2.2.2.1
abbrev pFus (P : MP) := P.2.2.2.2.2.2.2.2.2.2.2
/-- a machine's state: pc, locals, stack, store, cells and slots that were made -/
abbrev MST : Type := Nat × List (Option MV) × List MV × MSto × Nat × Nat
abbrev MK : Type := MST → Option MST
def mcat (v : MV) : Nat := match v with
  | .inl _ => 1
  | .inr (.inl _) => 2
  | .inr (.inr _) => 1
def mIsJ (v : Option MV) : Bool := match v with
  | some (.inr (.inl _)) => true
  | _ => false
def mld (L : List (Option MV)) (n : Nat) : Option MV := match L[n]? with
  | some v => v
  | none => none
/-- the place ahead, if it holds a long, is lost -/
def mdrop (L : List (Option MV)) (n : Nat) : List (Option MV) := match n with
  | 0 => L
  | n + 1 => match L[n]? with
    | some v => bif mIsJ v then L.set n none else L
    | none => L
def mst1 (L : List (Option MV)) (n : Nat) (v : MV) : List (Option MV) := (mdrop L n).set n (some v)
def mst2 (L : List (Option MV)) (n : Nat) (v : MV) : List (Option MV) := ((mdrop L n).set n (some v)).set (n + 1) none
def mOff (pc : Nat) (off : Int) : Nat := ((pc : Int) + off).toNat
noncomputable def mCond (c : ClassFile.Cond) (x y : Int32) (a b : Option MST) : Option MST := match c with
  | .eq => mIf (x = y) a b
  | .ne => mIf (x = y) b a
  | .lt => mIf (x < y) a b
  | .ge => mIf (y ≤ x) a b
  | .gt => mIf (y < x) a b
  | .le => mIf (x ≤ y) a b
/-- the int types' narrowing, as a guard of a store into a field -/
def mNarG (ty : FieldType) (x : Int32) : Option Prop := match ty with
  | .int => none
  | t => some (vp_nar t x = x)
noncomputable def mGo {α : Type} (p : Option Prop) (x : Option α) : Option α := match p with
  | none => x
  | some p => mG p x
def mNar (ty : FieldType) (x : Int32) : Int32 := match ty with
  | .int => x
  | t => vp_nar t x
/-- calls: room, what is asked, what comes -/
noncomputable def mCall (P : MP) (e : MEnt) (as rest : List MV) (pc2 : Nat) (L : List (Option MV)) (σ : MSto) (c s : Nat) (k : MK) : Option MST :=
  bif (Nat.ble (e.2.1.1 + 1) (pRoom P).1 && (Nat.ble (8 + (e.2.2.2.2.2.1 + 11) + e.2.1.2.1) (pRoom P).2.1 && (Nat.ble (c + e.2.1.2.2.1) (pRoom P).2.2.1 && (Nat.ble (s + e.2.1.2.2.2) (pRoom P).2.2.2 && Nat.ble (rest.map mcat).sum 8)))) then
    match e.2.2.1 as σ with
    | (p, some r, σ') => mGo p (k (pc2, L, r :: rest, σ', c + e.2.1.2.2.1, s + e.2.1.2.2.2))
    | (p, none, σ') => mGo p (k (pc2, L, rest, σ', c + e.2.1.2.2.1, s + e.2.1.2.2.2))
  else none
noncomputable def mTsw (x : Int32) (d : Nat) (k : Nat → Option MST) : Int → List Nat → Option MST
  | _, [] => k d
  | lo, t :: ts => mIf (x = Int32.ofInt lo) (k t) (mTsw x d k (lo + 1) ts)
noncomputable def mLsw (x : Int32) (d : Nat) (k : Nat → Option MST) : List Int → List Nat → Option MST
  | v :: vs, t :: ts => mIf (x = Int32.ofInt v) (k t) (mLsw x d k vs ts)
  | _, _ => k d
/-- the locals, laid out -/
def mforce {α : Type} : List (Option MV) → (List (Option MV) → α) → α
  | [], k => k []
  | none :: t, k => mforce t (fun t' => k (none :: t'))
  | some v :: t, k => mforce t (fun t' => k (some v :: t'))
theorem mforce_eq {α : Type} (L : List (Option MV)) : ∀ (k : List (Option MV) → α), mforce L k = k L := by
  induction L with
  | nil => intro k; rfl
  | cons v t ih => intro k; cases v <;> exact ih _
def mLen (σ : MSto) (len : Nat) : Nat := match len with
  | 0 => (gI σ 97 1 0).toNatClampNeg
  | n + 1 => n + 1
noncomputable def x_iload (KT : Nat → Option KD) (P : MP) (n : Nat) (nx pc : Nat) (tg : List Nat) (L : List (Option MV)) (S : List MV) (σ : MSto) (c s : Nat) (k : MK) : Option MST := match mld L n with
    | some (.inl x) => k (nx, L, mI x :: S, σ, c, s)
    | _ => none
noncomputable def x_iload_n (KT : Nat → Option KD) (P : MP) (n : Fin 4) (nx pc : Nat) (tg : List Nat) (L : List (Option MV)) (S : List MV) (σ : MSto) (c s : Nat) (k : MK) : Option MST := match mld L n.val with
    | some (.inl x) => k (nx, L, mI x :: S, σ, c, s)
    | _ => none
noncomputable def x_lload (KT : Nat → Option KD) (P : MP) (n : Nat) (nx pc : Nat) (tg : List Nat) (L : List (Option MV)) (S : List MV) (σ : MSto) (c s : Nat) (k : MK) : Option MST := match mld L n with
    | some (.inr (.inl x)) => k (nx, L, mJ x :: S, σ, c, s)
    | _ => none
noncomputable def x_lload_n (KT : Nat → Option KD) (P : MP) (n : Fin 4) (nx pc : Nat) (tg : List Nat) (L : List (Option MV)) (S : List MV) (σ : MSto) (c s : Nat) (k : MK) : Option MST := match mld L n.val with
    | some (.inr (.inl x)) => k (nx, L, mJ x :: S, σ, c, s)
    | _ => none
noncomputable def x_aload (KT : Nat → Option KD) (P : MP) (n : Nat) (nx pc : Nat) (tg : List Nat) (L : List (Option MV)) (S : List MV) (σ : MSto) (c s : Nat) (k : MK) : Option MST := match mld L n with
    | some (.inr (.inr x)) => k (nx, L, .inr (.inr x) :: S, σ, c, s)
    | _ => none
noncomputable def x_aload_n (KT : Nat → Option KD) (P : MP) (n : Fin 4) (nx pc : Nat) (tg : List Nat) (L : List (Option MV)) (S : List MV) (σ : MSto) (c s : Nat) (k : MK) : Option MST := match mld L n.val with
    | some (.inr (.inr x)) => k (nx, L, .inr (.inr x) :: S, σ, c, s)
    | _ => none
noncomputable def x_istore (KT : Nat → Option KD) (P : MP) (n : Nat) (nx pc : Nat) (tg : List Nat) (L : List (Option MV)) (S : List MV) (σ : MSto) (c s : Nat) (k : MK) : Option MST := match S with
    | .inl x :: r => bif Nat.blt n L.length then mforce (mst1 L n (mI x)) (fun L2 => k (nx, L2, r, σ, c, s)) else none
    | _ => none
noncomputable def x_istore_n (KT : Nat → Option KD) (P : MP) (n : Fin 4) (nx pc : Nat) (tg : List Nat) (L : List (Option MV)) (S : List MV) (σ : MSto) (c s : Nat) (k : MK) : Option MST := match S with
    | .inl x :: r => bif Nat.blt n.val L.length then mforce (mst1 L n.val (mI x)) (fun L2 => k (nx, L2, r, σ, c, s)) else none
    | _ => none
noncomputable def x_lstore (KT : Nat → Option KD) (P : MP) (n : Nat) (nx pc : Nat) (tg : List Nat) (L : List (Option MV)) (S : List MV) (σ : MSto) (c s : Nat) (k : MK) : Option MST := match S with
    | .inr (.inl x) :: r => bif Nat.blt (n + 1) L.length then mforce (mst2 L n (mJ x)) (fun L2 => k (nx, L2, r, σ, c, s)) else none
    | _ => none
noncomputable def x_lstore_n (KT : Nat → Option KD) (P : MP) (n : Fin 4) (nx pc : Nat) (tg : List Nat) (L : List (Option MV)) (S : List MV) (σ : MSto) (c s : Nat) (k : MK) : Option MST := match S with
    | .inr (.inl x) :: r => bif Nat.blt (n.val + 1) L.length then mforce (mst2 L n.val (mJ x)) (fun L2 => k (nx, L2, r, σ, c, s)) else none
    | _ => none
noncomputable def x_astore (KT : Nat → Option KD) (P : MP) (n : Nat) (nx pc : Nat) (tg : List Nat) (L : List (Option MV)) (S : List MV) (σ : MSto) (c s : Nat) (k : MK) : Option MST := match S with
    | .inr (.inr x) :: r => bif Nat.blt n L.length then mforce (mst1 L n (.inr (.inr x))) (fun L2 => k (nx, L2, r, σ, c, s)) else none
    | _ => none
noncomputable def x_astore_n (KT : Nat → Option KD) (P : MP) (n : Fin 4) (nx pc : Nat) (tg : List Nat) (L : List (Option MV)) (S : List MV) (σ : MSto) (c s : Nat) (k : MK) : Option MST := match S with
    | .inr (.inr x) :: r => bif Nat.blt n.val L.length then mforce (mst1 L n.val (.inr (.inr x))) (fun L2 => k (nx, L2, r, σ, c, s)) else none
    | _ => none
noncomputable def x_iinc (KT : Nat → Option KD) (P : MP) (n : Nat) (d : Int) (nx pc : Nat) (tg : List Nat) (L : List (Option MV)) (S : List MV) (σ : MSto) (c s : Nat) (k : MK) : Option MST := match mld L n with
    | some (.inl x) => bif Nat.blt n L.length then mforce (mst1 L n (mI (x + Int32.ofInt d))) (fun L2 => k (nx, L2, S, σ, c, s)) else none
    | _ => none
noncomputable def x_iconst (KT : Nat → Option KD) (P : MP) (n : Int) (nx pc : Nat) (tg : List Nat) (L : List (Option MV)) (S : List MV) (σ : MSto) (c s : Nat) (k : MK) : Option MST := k (nx, L, mI (Int32.ofInt n) :: S, σ, c, s)
noncomputable def x_bipush (KT : Nat → Option KD) (P : MP) (n : Int) (nx pc : Nat) (tg : List Nat) (L : List (Option MV)) (S : List MV) (σ : MSto) (c s : Nat) (k : MK) : Option MST := k (nx, L, mI (Int8.ofInt n).toInt32 :: S, σ, c, s)
noncomputable def x_sipush (KT : Nat → Option KD) (P : MP) (n : Int) (nx pc : Nat) (tg : List Nat) (L : List (Option MV)) (S : List MV) (σ : MSto) (c s : Nat) (k : MK) : Option MST := k (nx, L, mI (Int16.ofInt n).toInt32 :: S, σ, c, s)
noncomputable def x_lconst (KT : Nat → Option KD) (P : MP) (n : Fin 2) (nx pc : Nat) (tg : List Nat) (L : List (Option MV)) (S : List MV) (σ : MSto) (c s : Nat) (k : MK) : Option MST := k (nx, L, mJ (Int64.ofNat n.val) :: S, σ, c, s)
noncomputable def x_aconst_null (KT : Nat → Option KD) (P : MP) (nx pc : Nat) (tg : List Nat) (L : List (Option MV)) (S : List MV) (σ : MSto) (c s : Nat) (k : MK) : Option MST := k (nx, L, mN :: S, σ, c, s)
noncomputable def x_ldc (KT : Nat → Option KD) (P : MP) (x : Nat) (nx pc : Nat) (tg : List Nat) (L : List (Option MV)) (S : List MV) (σ : MSto) (c s : Nat) (k : MK) : Option MST := match pCst P x with
    | some (.inl v) => k (nx, L, mI v :: S, σ, c, s)
    | _ => none
noncomputable def x_ldc_w (KT : Nat → Option KD) (P : MP) (x : Nat) (nx pc : Nat) (tg : List Nat) (L : List (Option MV)) (S : List MV) (σ : MSto) (c s : Nat) (k : MK) : Option MST := match pCst P x with
    | some (.inl v) => k (nx, L, mI v :: S, σ, c, s)
    | _ => none
noncomputable def x_ldc2_w (KT : Nat → Option KD) (P : MP) (x : Nat) (nx pc : Nat) (tg : List Nat) (L : List (Option MV)) (S : List MV) (σ : MSto) (c s : Nat) (k : MK) : Option MST := match pCst P x with
    | some (.inr v) => k (nx, L, mJ v :: S, σ, c, s)
    | _ => none
noncomputable def x_iadd (KT : Nat → Option KD) (P : MP) (nx pc : Nat) (tg : List Nat) (L : List (Option MV)) (S : List MV) (σ : MSto) (c s : Nat) (k : MK) : Option MST := match S with
    | .inl y :: .inl x :: r => k (nx, L, mI (x + y) :: r, σ, c, s)
    | _ => none
noncomputable def x_isub (KT : Nat → Option KD) (P : MP) (nx pc : Nat) (tg : List Nat) (L : List (Option MV)) (S : List MV) (σ : MSto) (c s : Nat) (k : MK) : Option MST := match S with
    | .inl y :: .inl x :: r => k (nx, L, mI (x - y) :: r, σ, c, s)
    | _ => none
noncomputable def x_imul (KT : Nat → Option KD) (P : MP) (nx pc : Nat) (tg : List Nat) (L : List (Option MV)) (S : List MV) (σ : MSto) (c s : Nat) (k : MK) : Option MST := match S with
    | .inl y :: .inl x :: r => k (nx, L, mI (x * y) :: r, σ, c, s)
    | _ => none
noncomputable def x_idiv (KT : Nat → Option KD) (P : MP) (nx pc : Nat) (tg : List Nat) (L : List (Option MV)) (S : List MV) (σ : MSto) (c s : Nat) (k : MK) : Option MST := match S with
    | .inl y :: .inl x :: r => mG (¬ y = 0) (k (nx, L, mI (x / y) :: r, σ, c, s))
    | _ => none
noncomputable def x_irem (KT : Nat → Option KD) (P : MP) (nx pc : Nat) (tg : List Nat) (L : List (Option MV)) (S : List MV) (σ : MSto) (c s : Nat) (k : MK) : Option MST := match S with
    | .inl y :: .inl x :: r => mG (¬ y = 0) (k (nx, L, mI (x - x / y * y) :: r, σ, c, s))
    | _ => none
noncomputable def x_ineg (KT : Nat → Option KD) (P : MP) (nx pc : Nat) (tg : List Nat) (L : List (Option MV)) (S : List MV) (σ : MSto) (c s : Nat) (k : MK) : Option MST := match S with
    | .inl x :: r => k (nx, L, mI (-x) :: r, σ, c, s)
    | _ => none
noncomputable def x_iand (KT : Nat → Option KD) (P : MP) (nx pc : Nat) (tg : List Nat) (L : List (Option MV)) (S : List MV) (σ : MSto) (c s : Nat) (k : MK) : Option MST := match S with
    | .inl y :: .inl x :: r => k (nx, L, mI (x &&& y) :: r, σ, c, s)
    | _ => none
noncomputable def x_ior (KT : Nat → Option KD) (P : MP) (nx pc : Nat) (tg : List Nat) (L : List (Option MV)) (S : List MV) (σ : MSto) (c s : Nat) (k : MK) : Option MST := match S with
    | .inl y :: .inl x :: r => k (nx, L, mI (x ||| y) :: r, σ, c, s)
    | _ => none
noncomputable def x_ixor (KT : Nat → Option KD) (P : MP) (nx pc : Nat) (tg : List Nat) (L : List (Option MV)) (S : List MV) (σ : MSto) (c s : Nat) (k : MK) : Option MST := match S with
    | .inl y :: .inl x :: r => k (nx, L, mI (x ^^^ y) :: r, σ, c, s)
    | _ => none
noncomputable def x_ishl (KT : Nat → Option KD) (P : MP) (nx pc : Nat) (tg : List Nat) (L : List (Option MV)) (S : List MV) (σ : MSto) (c s : Nat) (k : MK) : Option MST := match S with
    | .inl y :: .inl x :: r => k (nx, L, mI (x <<< (y &&& 31)) :: r, σ, c, s)
    | _ => none
noncomputable def x_ishr (KT : Nat → Option KD) (P : MP) (nx pc : Nat) (tg : List Nat) (L : List (Option MV)) (S : List MV) (σ : MSto) (c s : Nat) (k : MK) : Option MST := match S with
    | .inl y :: .inl x :: r => k (nx, L, mI (x >>> (y &&& 31)) :: r, σ, c, s)
    | _ => none
noncomputable def x_iushr (KT : Nat → Option KD) (P : MP) (nx pc : Nat) (tg : List Nat) (L : List (Option MV)) (S : List MV) (σ : MSto) (c s : Nat) (k : MK) : Option MST := match S with
    | .inl y :: .inl x :: r => k (nx, L, mI (x.toUInt32 >>> (y.toUInt32 &&& Int32.toUInt32 31)).toInt32 :: r, σ, c, s)
    | _ => none
noncomputable def x_ladd (KT : Nat → Option KD) (P : MP) (nx pc : Nat) (tg : List Nat) (L : List (Option MV)) (S : List MV) (σ : MSto) (c s : Nat) (k : MK) : Option MST := match S with
    | .inr (.inl y) :: .inr (.inl x) :: r => k (nx, L, mJ (x + y) :: r, σ, c, s)
    | _ => none
noncomputable def x_lsub (KT : Nat → Option KD) (P : MP) (nx pc : Nat) (tg : List Nat) (L : List (Option MV)) (S : List MV) (σ : MSto) (c s : Nat) (k : MK) : Option MST := match S with
    | .inr (.inl y) :: .inr (.inl x) :: r => k (nx, L, mJ (x - y) :: r, σ, c, s)
    | _ => none
noncomputable def x_lmul (KT : Nat → Option KD) (P : MP) (nx pc : Nat) (tg : List Nat) (L : List (Option MV)) (S : List MV) (σ : MSto) (c s : Nat) (k : MK) : Option MST := match S with
    | .inr (.inl y) :: .inr (.inl x) :: r => k (nx, L, mJ (x * y) :: r, σ, c, s)
    | _ => none
noncomputable def x_ldiv (KT : Nat → Option KD) (P : MP) (nx pc : Nat) (tg : List Nat) (L : List (Option MV)) (S : List MV) (σ : MSto) (c s : Nat) (k : MK) : Option MST := match S with
    | .inr (.inl y) :: .inr (.inl x) :: r => mG (¬ y = 0) (k (nx, L, mJ (x / y) :: r, σ, c, s))
    | _ => none
noncomputable def x_lrem (KT : Nat → Option KD) (P : MP) (nx pc : Nat) (tg : List Nat) (L : List (Option MV)) (S : List MV) (σ : MSto) (c s : Nat) (k : MK) : Option MST := match S with
    | .inr (.inl y) :: .inr (.inl x) :: r => mG (¬ y = 0) (k (nx, L, mJ (x - x / y * y) :: r, σ, c, s))
    | _ => none
noncomputable def x_lneg (KT : Nat → Option KD) (P : MP) (nx pc : Nat) (tg : List Nat) (L : List (Option MV)) (S : List MV) (σ : MSto) (c s : Nat) (k : MK) : Option MST := match S with
    | .inr (.inl x) :: r => k (nx, L, mJ (-x) :: r, σ, c, s)
    | _ => none
noncomputable def x_lcmp (KT : Nat → Option KD) (P : MP) (nx pc : Nat) (tg : List Nat) (L : List (Option MV)) (S : List MV) (σ : MSto) (c s : Nat) (k : MK) : Option MST := match S with
    | .inr (.inl y) :: .inr (.inl x) :: r => k (nx, L, mI (lg_cmp x y) :: r, σ, c, s)
    | _ => none
noncomputable def x_i2l (KT : Nat → Option KD) (P : MP) (nx pc : Nat) (tg : List Nat) (L : List (Option MV)) (S : List MV) (σ : MSto) (c s : Nat) (k : MK) : Option MST := match S with
    | .inl x :: r => k (nx, L, mJ x.toInt64 :: r, σ, c, s)
    | _ => none
noncomputable def x_l2i (KT : Nat → Option KD) (P : MP) (nx pc : Nat) (tg : List Nat) (L : List (Option MV)) (S : List MV) (σ : MSto) (c s : Nat) (k : MK) : Option MST := match S with
    | .inr (.inl x) :: r => k (nx, L, mI x.toInt32 :: r, σ, c, s)
    | _ => none
noncomputable def x_i2b (KT : Nat → Option KD) (P : MP) (nx pc : Nat) (tg : List Nat) (L : List (Option MV)) (S : List MV) (σ : MSto) (c s : Nat) (k : MK) : Option MST := match S with
    | .inl x :: r => k (nx, L, mI x.toInt8.toInt32 :: r, σ, c, s)
    | _ => none
noncomputable def x_i2s (KT : Nat → Option KD) (P : MP) (nx pc : Nat) (tg : List Nat) (L : List (Option MV)) (S : List MV) (σ : MSto) (c s : Nat) (k : MK) : Option MST := match S with
    | .inl x :: r => k (nx, L, mI x.toInt16.toInt32 :: r, σ, c, s)
    | _ => none
noncomputable def x_i2c (KT : Nat → Option KD) (P : MP) (nx pc : Nat) (tg : List Nat) (L : List (Option MV)) (S : List MV) (σ : MSto) (c s : Nat) (k : MK) : Option MST := match S with
    | .inl x :: r => k (nx, L, mI (x.toUInt32 % 65536).toInt32 :: r, σ, c, s)
    | _ => none
noncomputable def x_dup (KT : Nat → Option KD) (P : MP) (nx pc : Nat) (tg : List Nat) (L : List (Option MV)) (S : List MV) (σ : MSto) (c s : Nat) (k : MK) : Option MST := match S with
    | v :: r => bif Nat.beq (mcat v) 1 then k (nx, L, v :: v :: r, σ, c, s) else none
    | _ => none
noncomputable def x_dup_x1 (KT : Nat → Option KD) (P : MP) (nx pc : Nat) (tg : List Nat) (L : List (Option MV)) (S : List MV) (σ : MSto) (c s : Nat) (k : MK) : Option MST := match S with
    | v :: u :: r => bif Nat.beq (mcat v) 1 && Nat.beq (mcat u) 1 then k (nx, L, v :: u :: v :: r, σ, c, s) else none
    | _ => none
noncomputable def x_dup2 (KT : Nat → Option KD) (P : MP) (nx pc : Nat) (tg : List Nat) (L : List (Option MV)) (S : List MV) (σ : MSto) (c s : Nat) (k : MK) : Option MST := match S with
    | v :: u :: r => bif Nat.beq (mcat v) 1 && Nat.beq (mcat u) 1 then k (nx, L, v :: u :: v :: u :: r, σ, c, s) else none
    | _ => none
noncomputable def x_pop (KT : Nat → Option KD) (P : MP) (nx pc : Nat) (tg : List Nat) (L : List (Option MV)) (S : List MV) (σ : MSto) (c s : Nat) (k : MK) : Option MST := match S with
    | v :: r => bif Nat.beq (mcat v) 1 then k (nx, L, r, σ, c, s) else none
    | _ => none
noncomputable def x_goto (KT : Nat → Option KD) (P : MP) (nx pc : Nat) (tg : List Nat) (L : List (Option MV)) (S : List MV) (σ : MSto) (c s : Nat) (k : MK) : Option MST := match tg with
    | [t] => k (t, L, S, σ, c, s)
    | _ => none
noncomputable def x_ifCond (KT : Nat → Option KD) (P : MP) (cd : ClassFile.Cond) (nx pc : Nat) (tg : List Nat) (L : List (Option MV)) (S : List MV) (σ : MSto) (c s : Nat) (k : MK) : Option MST := match S, tg with
    | .inl x :: r, [t] => mCond cd x 0 (k (t, L, r, σ, c, s)) (k (nx, L, r, σ, c, s))
    | _, _ => none
noncomputable def x_if_icmp (KT : Nat → Option KD) (P : MP) (cd : ClassFile.Cond) (nx pc : Nat) (tg : List Nat) (L : List (Option MV)) (S : List MV) (σ : MSto) (c s : Nat) (k : MK) : Option MST := match S, tg with
    | .inl y :: .inl x :: r, [t] => mCond cd x y (k (t, L, r, σ, c, s)) (k (nx, L, r, σ, c, s))
    | _, _ => none
noncomputable def x_ifnull (KT : Nat → Option KD) (P : MP) (nx pc : Nat) (tg : List Nat) (L : List (Option MV)) (S : List MV) (σ : MSto) (c s : Nat) (k : MK) : Option MST := match S, tg with
    | .inr (.inr none) :: r, [t] => k (t, L, r, σ, c, s)
    | .inr (.inr (some _)) :: r, [t] => k (nx, L, r, σ, c, s)
    | _, _ => none
noncomputable def x_ifnonnull (KT : Nat → Option KD) (P : MP) (nx pc : Nat) (tg : List Nat) (L : List (Option MV)) (S : List MV) (σ : MSto) (c s : Nat) (k : MK) : Option MST := match S, tg with
    | .inr (.inr none) :: r, [t] => k (nx, L, r, σ, c, s)
    | .inr (.inr (some _)) :: r, [t] => k (t, L, r, σ, c, s)
    | _, _ => none
noncomputable def x_tableswitch (KT : Nat → Option KD) (P : MP) (lo : Int) (nx pc : Nat) (tg : List Nat) (L : List (Option MV)) (S : List MV) (σ : MSto) (c s : Nat) (k : MK) : Option MST := match S, tg with
    | .inl x :: r, d :: ts => mTsw x d (fun t => k (t, L, r, σ, c, s)) lo ts
    | _, _ => none
noncomputable def x_lookupswitch (KT : Nat → Option KD) (P : MP) (ps : Array (Int × Int)) (nx pc : Nat) (tg : List Nat) (L : List (Option MV)) (S : List MV) (σ : MSto) (c s : Nat) (k : MK) : Option MST := match S, tg with
    | .inl x :: r, d :: ts => mLsw x d (fun t => k (t, L, r, σ, c, s)) (ps.toList.map (fun q => q.1)) ts
    | _, _ => none
noncomputable def x_getfield (KT : Nat → Option KD) (P : MP) (x : Nat) (nx pc : Nat) (tg : List Nat) (L : List (Option MV)) (S : List MV) (σ : MSto) (c s : Nat) (k : MK) : Option MST := match pFld P x, S with
    | some (ci, f, _, _), .inr (.inr (some (kd, j))) :: r => match KT kd with
      | some (.inl (cj, fs)) => bif Nat.beq ci cj then
          match fs[f]? with
          | some 0 => k (nx, L, mI (gI σ kd j f) :: r, σ, c, s)
          | some 1 => k (nx, L, mJ (gJ σ kd j f) :: r, σ, c, s)
          | some (t + 2) => bif Nat.beq (t % 2) 0 then k (nx, L, mR (t / 2) j :: r, σ, c, s) else mO (gR σ kd j f) (k (nx, L, mN :: r, σ, c, s)) (fun y => k (nx, L, mR (t / 2) y :: r, σ, c, s))
          | none => none
        else none
      | _ => none
    | _, _ => none
noncomputable def x_putfield (KT : Nat → Option KD) (P : MP) (x : Nat) (nx pc : Nat) (tg : List Nat) (L : List (Option MV)) (S : List MV) (σ : MSto) (c s : Nat) (k : MK) : Option MST := match pFld P x, S with
    | some (ci, f, ty, fin), v :: .inr (.inr (some (kd, j))) :: r => match KT kd with
      | some (.inl (cj, fs)) => bif Nat.beq ci cj && (!fin || pIni P) then
          match fs[f]?, v with
          | some 0, .inl y => mGo (mNarG ty y) (k (nx, L, r, sI σ kd j f y, c, s))
          | some 1, .inr (.inl y) => k (nx, L, r, sJ σ kd j f y, c, s)
          | some (t + 2), .inr (.inr (some (kt, y))) => bif Nat.beq (t % 2) 1 && Nat.beq (t / 2) kt then k (nx, L, r, sR σ kd j f (some y), c, s) else none
          | _, _ => none
        else none
      | _ => none
    | _, _ => none
noncomputable def x_getstatic (KT : Nat → Option KD) (P : MP) (x : Nat) (nx pc : Nat) (tg : List Nat) (L : List (Option MV)) (S : List MV) (σ : MSto) (c s : Nat) (k : MK) : Option MST := match pStc P x with
    | some kd => k (nx, L, mR kd 0 :: S, σ, c, s)
    | none => none
noncomputable def x_checkcast (KT : Nat → Option KD) (P : MP) (x : Nat) (nx pc : Nat) (tg : List Nat) (L : List (Option MV)) (S : List MV) (σ : MSto) (c s : Nat) (k : MK) : Option MST := match pCas P x, S with
    | some ci, .inr (.inr (some (kd, j))) :: r => match KT kd with
      | some (.inl (cj, _)) => bif Nat.beq ci cj then k (nx, L, mR kd j :: r, σ, c, s) else none
      | _ => none
    | _, _ => none
noncomputable def x_new (KT : Nat → Option KD) (P : MP) (nx pc : Nat) (tg : List Nat) (L : List (Option MV)) (S : List MV) (σ : MSto) (c s : Nat) (k : MK) : Option MST := match pFus P pc with
    | some e => match tg with
      | [t] => bif Nat.ble (S.map mcat).sum 7 then mCall P e [] S t L σ c s k else none
      | _ => none
    | none => match pAlc P pc with
      | some kd => match KT kd with
        | some (.inl (_, fs)) => bif Nat.ble (c + 1) (pRoom P).2.2.1 && Nat.ble (s + fs.length) (pRoom P).2.2.2 then k (nx, L, mR kd (gN σ kd) :: S, sNew σ kd, c + 1, s + fs.length) else none
        | _ => none
      | none => none
noncomputable def x_newarray (KT : Nat → Option KD) (P : MP) (nx pc : Nat) (tg : List Nat) (L : List (Option MV)) (S : List MV) (σ : MSto) (c s : Nat) (k : MK) : Option MST := match pAlc P pc, S with
    | some kd, .inl n :: r => match KT kd with
      | some (.inr (_, ln, _)) => bif decide (n = Int32.ofNat ln) && Nat.ble (c + 1) (pRoom P).2.2.1 && Nat.ble (s + ln) (pRoom P).2.2.2 then k (nx, L, mR kd (gN σ kd) :: r, sNew σ kd, c + 1, s + ln) else none
      | _ => none
    | _, _ => none
noncomputable def x_anewarray (KT : Nat → Option KD) (P : MP) (nx pc : Nat) (tg : List Nat) (L : List (Option MV)) (S : List MV) (σ : MSto) (c s : Nat) (k : MK) : Option MST := match pAlc P pc, S with
    | some kd, .inl n :: r => match KT kd with
      | some (.inr (_, ln, _)) => bif decide (n = Int32.ofNat ln) && Nat.ble (c + 1) (pRoom P).2.2.1 && Nat.ble (s + ln) (pRoom P).2.2.2 then k (nx, L, mR kd (gN σ kd) :: r, sNew σ kd, c + 1, s + ln) else none
      | _ => none
    | _, _ => none
noncomputable def x_arraylength (KT : Nat → Option KD) (P : MP) (nx pc : Nat) (tg : List Nat) (L : List (Option MV)) (S : List MV) (σ : MSto) (c s : Nat) (k : MK) : Option MST := match S with
    | .inr (.inr (some (kd, _))) :: r => match KT kd with
      | some (.inr (_, ln, _)) => k (nx, L, mI (Int32.ofNat (mLen σ ln)) :: r, σ, c, s)
      | _ => none
    | _ => none
noncomputable def x_iaload (KT : Nat → Option KD) (P : MP) (nx pc : Nat) (tg : List Nat) (L : List (Option MV)) (S : List MV) (σ : MSto) (c s : Nat) (k : MK) : Option MST := match S with
    | .inl x :: .inr (.inr (some (kd, j))) :: r => match KT kd with
      | some (.inr (.int, ln, _)) => mG (vp_in x (mLen σ ln)) (k (nx, L, mI (gI σ kd j x.toNatClampNeg) :: r, σ, c, s))
      | _ => none
    | _ => none
noncomputable def x_baload (KT : Nat → Option KD) (P : MP) (nx pc : Nat) (tg : List Nat) (L : List (Option MV)) (S : List MV) (σ : MSto) (c s : Nat) (k : MK) : Option MST := match S with
    | .inl x :: .inr (.inr (some (kd, j))) :: r => match KT kd with
      | some (.inr (.boolean, ln, _)) => mG (vp_in x ln) (k (nx, L, mI (gI σ kd j x.toNatClampNeg) :: r, σ, c, s))
      | some (.inr (.byte, ln, _)) => mG (vp_in x ln) (k (nx, L, mI (gI σ kd j x.toNatClampNeg) :: r, σ, c, s))
      | _ => none
    | _ => none
noncomputable def x_caload (KT : Nat → Option KD) (P : MP) (nx pc : Nat) (tg : List Nat) (L : List (Option MV)) (S : List MV) (σ : MSto) (c s : Nat) (k : MK) : Option MST := match S with
    | .inl x :: .inr (.inr (some (kd, j))) :: r => match KT kd with
      | some (.inr (.char, ln, _)) => mG (vp_in x ln) (k (nx, L, mI (gI σ kd j x.toNatClampNeg) :: r, σ, c, s))
      | _ => none
    | _ => none
noncomputable def x_laload (KT : Nat → Option KD) (P : MP) (nx pc : Nat) (tg : List Nat) (L : List (Option MV)) (S : List MV) (σ : MSto) (c s : Nat) (k : MK) : Option MST := match S with
    | .inl x :: .inr (.inr (some (kd, j))) :: r => match KT kd with
      | some (.inr (.long, ln, _)) => mG (vp_in x ln) (k (nx, L, mJ (gJ σ kd j x.toNatClampNeg) :: r, σ, c, s))
      | _ => none
    | _ => none
noncomputable def x_aaload (KT : Nat → Option KD) (P : MP) (nx pc : Nat) (tg : List Nat) (L : List (Option MV)) (S : List MV) (σ : MSto) (c s : Nat) (k : MK) : Option MST := match S with
    | .inl x :: .inr (.inr (some (kd, j))) :: r => match KT kd with
      | some (.inr (.object _, ln, ek)) => mG (vp_in x ln) (mO (gR σ kd j x.toNatClampNeg) (k (nx, L, mN :: r, σ, c, s)) (fun y => k (nx, L, mR ek y :: r, σ, c, s)))
      | _ => none
    | _ => none
noncomputable def x_iastore (KT : Nat → Option KD) (P : MP) (nx pc : Nat) (tg : List Nat) (L : List (Option MV)) (S : List MV) (σ : MSto) (c s : Nat) (k : MK) : Option MST := match S with
    | .inl v :: .inl x :: .inr (.inr (some (kd, j))) :: r => match KT kd with
      | some (.inr (.int, ln, 0)) => mG (vp_in x ln) (k (nx, L, r, sI σ kd j x.toNatClampNeg v, c, s))
      | _ => none
    | _ => none
noncomputable def x_bastore (KT : Nat → Option KD) (P : MP) (nx pc : Nat) (tg : List Nat) (L : List (Option MV)) (S : List MV) (σ : MSto) (c s : Nat) (k : MK) : Option MST := match S with
    | .inl v :: .inl x :: .inr (.inr (some (kd, j))) :: r => match KT kd with
      | some (.inr (.boolean, ln, 0)) => mG (vp_in x ln) (k (nx, L, r, sI σ kd j x.toNatClampNeg (vp_nar .boolean v), c, s))
      | some (.inr (.byte, ln, 0)) => mG (vp_in x ln) (k (nx, L, r, sI σ kd j x.toNatClampNeg (vp_nar .byte v), c, s))
      | _ => none
    | _ => none
noncomputable def x_castore (KT : Nat → Option KD) (P : MP) (nx pc : Nat) (tg : List Nat) (L : List (Option MV)) (S : List MV) (σ : MSto) (c s : Nat) (k : MK) : Option MST := match S with
    | .inl v :: .inl x :: .inr (.inr (some (kd, j))) :: r => match KT kd with
      | some (.inr (.char, ln, 0)) => mG (vp_in x ln) (k (nx, L, r, sI σ kd j x.toNatClampNeg (vp_nar .char v), c, s))
      | _ => none
    | _ => none
noncomputable def x_lastore (KT : Nat → Option KD) (P : MP) (nx pc : Nat) (tg : List Nat) (L : List (Option MV)) (S : List MV) (σ : MSto) (c s : Nat) (k : MK) : Option MST := match S with
    | .inr (.inl v) :: .inl x :: .inr (.inr (some (kd, j))) :: r => match KT kd with
      | some (.inr (.long, ln, 0)) => mG (vp_in x ln) (k (nx, L, r, sJ σ kd j x.toNatClampNeg v, c, s))
      | _ => none
    | _ => none
noncomputable def x_aastore (KT : Nat → Option KD) (P : MP) (nx pc : Nat) (tg : List Nat) (L : List (Option MV)) (S : List MV) (σ : MSto) (c s : Nat) (k : MK) : Option MST := match S with
    | .inr (.inr (some (kv, v))) :: .inl x :: .inr (.inr (some (kd, j))) :: r => match KT kd with
      | some (.inr (.object _, ln, ek)) => bif Nat.beq ek kv then mG (vp_in x ln) (k (nx, L, r, sR σ kd j x.toNatClampNeg (some v), c, s)) else none
      | _ => none
    | _ => none
noncomputable def x_invokestatic (KT : Nat → Option KD) (P : MP) (x : Nat) (nx pc : Nat) (tg : List Nat) (L : List (Option MV)) (S : List MV) (σ : MSto) (c s : Nat) (k : MK) : Option MST := match pEnv P x with
    | some e => bif Nat.beq e.1.1 0 && Nat.ble e.1.2.1 S.length then mCall P e (S.take e.1.2.1).reverse (S.drop e.1.2.1) nx L σ c s k else none
    | none => none
noncomputable def x_invokevirtual (KT : Nat → Option KD) (P : MP) (x : Nat) (nx pc : Nat) (tg : List Nat) (L : List (Option MV)) (S : List MV) (σ : MSto) (c s : Nat) (k : MK) : Option MST := match pEnv P x with
    | some e => bif Nat.beq e.1.1 1 && Nat.ble (e.1.2.1 + 1) S.length then
        match S.drop e.1.2.1 with
        | .inr (.inr (some (kd, j))) :: r => match KT kd with
          | some (.inl (cj, _)) => bif Nat.beq cj e.1.2.2 then mCall P e (mR kd j :: (S.take e.1.2.1).reverse) r nx L σ c s k else none
          | _ => none
        | _ => none
      else none
    | none => none
noncomputable def x_invokespecial (KT : Nat → Option KD) (P : MP) (x : Nat) (nx pc : Nat) (tg : List Nat) (L : List (Option MV)) (S : List MV) (σ : MSto) (c s : Nat) (k : MK) : Option MST := match pEnv P x with
    | some e => bif Nat.beq e.1.1 2 && Nat.ble (e.1.2.1 + 1) S.length then
        match S.drop e.1.2.1 with
        | .inr (.inr (some (kd, j))) :: r => match KT kd with
          | some (.inl (cj, _)) => bif Nat.beq cj e.1.2.2 then mCall P e (mR kd j :: (S.take e.1.2.1).reverse) r nx L σ c s k else none
          | _ => none
        | _ => none
      else none
    | none => match pAlc P pc, S with
      | some _, .inr (.inr (some (_, _))) :: r => bif Nat.ble 1 (pRoom P).1 && Nat.ble 20 (pRoom P).2.1 && Nat.ble (r.map mcat).sum 8 then k (nx, L, r, σ, c, s) else none
      | _, _ => none
/-- one instruction: kinds by KT; the rest by the method's tables -/
noncomputable def mexec (KT : Nat → Option KD) (P : MP) (i : Instr) (nx pc : Nat) (tg : List Nat) (L : List (Option MV)) (S : List MV) (σ : MSto) (c s : Nat) (k : MK) : Option MST := match i with
  | .iload n => x_iload KT P n nx pc tg L S σ c s k
  | .iload_n n => x_iload_n KT P n nx pc tg L S σ c s k
  | .lload n => x_lload KT P n nx pc tg L S σ c s k
  | .lload_n n => x_lload_n KT P n nx pc tg L S σ c s k
  | .aload n => x_aload KT P n nx pc tg L S σ c s k
  | .aload_n n => x_aload_n KT P n nx pc tg L S σ c s k
  | .istore n => x_istore KT P n nx pc tg L S σ c s k
  | .istore_n n => x_istore_n KT P n nx pc tg L S σ c s k
  | .lstore n => x_lstore KT P n nx pc tg L S σ c s k
  | .lstore_n n => x_lstore_n KT P n nx pc tg L S σ c s k
  | .astore n => x_astore KT P n nx pc tg L S σ c s k
  | .astore_n n => x_astore_n KT P n nx pc tg L S σ c s k
  | .iinc n d => x_iinc KT P n d nx pc tg L S σ c s k
  | .iconst n => x_iconst KT P n nx pc tg L S σ c s k
  | .bipush n => x_bipush KT P n nx pc tg L S σ c s k
  | .sipush n => x_sipush KT P n nx pc tg L S σ c s k
  | .lconst n => x_lconst KT P n nx pc tg L S σ c s k
  | .aconst_null  => x_aconst_null KT P  nx pc tg L S σ c s k
  | .ldc x => x_ldc KT P x nx pc tg L S σ c s k
  | .ldc_w x => x_ldc_w KT P x nx pc tg L S σ c s k
  | .ldc2_w x => x_ldc2_w KT P x nx pc tg L S σ c s k
  | .iadd  => x_iadd KT P  nx pc tg L S σ c s k
  | .isub  => x_isub KT P  nx pc tg L S σ c s k
  | .imul  => x_imul KT P  nx pc tg L S σ c s k
  | .idiv  => x_idiv KT P  nx pc tg L S σ c s k
  | .irem  => x_irem KT P  nx pc tg L S σ c s k
  | .ineg  => x_ineg KT P  nx pc tg L S σ c s k
  | .iand  => x_iand KT P  nx pc tg L S σ c s k
  | .ior  => x_ior KT P  nx pc tg L S σ c s k
  | .ixor  => x_ixor KT P  nx pc tg L S σ c s k
  | .ishl  => x_ishl KT P  nx pc tg L S σ c s k
  | .ishr  => x_ishr KT P  nx pc tg L S σ c s k
  | .iushr  => x_iushr KT P  nx pc tg L S σ c s k
  | .ladd  => x_ladd KT P  nx pc tg L S σ c s k
  | .lsub  => x_lsub KT P  nx pc tg L S σ c s k
  | .lmul  => x_lmul KT P  nx pc tg L S σ c s k
  | .ldiv  => x_ldiv KT P  nx pc tg L S σ c s k
  | .lrem  => x_lrem KT P  nx pc tg L S σ c s k
  | .lneg  => x_lneg KT P  nx pc tg L S σ c s k
  | .lcmp  => x_lcmp KT P  nx pc tg L S σ c s k
  | .i2l  => x_i2l KT P  nx pc tg L S σ c s k
  | .l2i  => x_l2i KT P  nx pc tg L S σ c s k
  | .i2b  => x_i2b KT P  nx pc tg L S σ c s k
  | .i2s  => x_i2s KT P  nx pc tg L S σ c s k
  | .i2c  => x_i2c KT P  nx pc tg L S σ c s k
  | .dup  => x_dup KT P  nx pc tg L S σ c s k
  | .dup_x1  => x_dup_x1 KT P  nx pc tg L S σ c s k
  | .dup2  => x_dup2 KT P  nx pc tg L S σ c s k
  | .pop  => x_pop KT P  nx pc tg L S σ c s k
  | .goto _ => x_goto KT P  nx pc tg L S σ c s k
  | .ifCond cd _ => x_ifCond KT P cd nx pc tg L S σ c s k
  | .if_icmp cd _ => x_if_icmp KT P cd nx pc tg L S σ c s k
  | .ifnull _ => x_ifnull KT P  nx pc tg L S σ c s k
  | .ifnonnull _ => x_ifnonnull KT P  nx pc tg L S σ c s k
  | .tableswitch _ lo _ _ => x_tableswitch KT P lo nx pc tg L S σ c s k
  | .lookupswitch _ ps => x_lookupswitch KT P ps nx pc tg L S σ c s k
  | .getfield x => x_getfield KT P x nx pc tg L S σ c s k
  | .putfield x => x_putfield KT P x nx pc tg L S σ c s k
  | .getstatic x => x_getstatic KT P x nx pc tg L S σ c s k
  | .checkcast x => x_checkcast KT P x nx pc tg L S σ c s k
  | .new _ => x_new KT P  nx pc tg L S σ c s k
  | .newarray _ => x_newarray KT P  nx pc tg L S σ c s k
  | .anewarray _ => x_anewarray KT P  nx pc tg L S σ c s k
  | .arraylength  => x_arraylength KT P  nx pc tg L S σ c s k
  | .iaload  => x_iaload KT P  nx pc tg L S σ c s k
  | .baload  => x_baload KT P  nx pc tg L S σ c s k
  | .caload  => x_caload KT P  nx pc tg L S σ c s k
  | .laload  => x_laload KT P  nx pc tg L S σ c s k
  | .aaload  => x_aaload KT P  nx pc tg L S σ c s k
  | .iastore  => x_iastore KT P  nx pc tg L S σ c s k
  | .bastore  => x_bastore KT P  nx pc tg L S σ c s k
  | .castore  => x_castore KT P  nx pc tg L S σ c s k
  | .lastore  => x_lastore KT P  nx pc tg L S σ c s k
  | .aastore  => x_aastore KT P  nx pc tg L S σ c s k
  | .invokestatic x => x_invokestatic KT P x nx pc tg L S σ c s k
  | .invokevirtual x => x_invokevirtual KT P x nx pc tg L S σ c s k
  | .invokespecial x => x_invokespecial KT P x nx pc tg L S σ c s k
  | _ => none
def mMask (m : List Bool) (L : List (Option MV)) : List (Option MV) := List.zipWith (fun b v => bif b then v else none) m L
noncomputable def mstep (KT : Nat → Option KD) (P : MP) (st : MST) (k : MK) : Option MST := match pCode P st.1 with
  | some (i, nx, tg) => mexec KT P i nx st.1 tg st.2.1 st.2.2.1 st.2.2.2.1 st.2.2.2.2.1 st.2.2.2.2.2 k
  | none => none
/-- behind an instruction: an end, a stop, or further -/
noncomputable def mnext (P : MP) (go : MST → Option MST) (k : MK) (st : MST) : Option MST := match pFin P st.1 with
  | true => some (st.1, [], st.2.2)
  | false => match pStop P st.1 with
    | some m => k (st.1, mMask m st.2.1, st.2.2)
    | none => go st
noncomputable def mrun (KT : Nat → Option KD) (P : MP) (k : MK) : Nat → MST → Option MST
  | 0, _ => none
  | n + 1, st => mstep KT P st (mnext P (mrun KT P k n) k)
/-- from stop to stop, n times at most -/
noncomputable def mexe (KT : Nat → Option KD) (P : MP) : Nat → MST → Option MST
  | 0, _ => none
  | n + 1, st => mrun KT P (mexe KT P n) 600 st
abbrev mCl : List vw_C := vwCl
def KT : Nat → Option KD := fun k => bif Nat.blt k 114 then (bif Nat.blt k 50 then (bif Nat.blt k 26 then (bif Nat.blt k 13 then (bif Nat.blt k 7 then (bif Nat.blt k 4 then (bif Nat.blt k 2 then (bif Nat.beq k 1 then some (.inl (1, [6, 0, 36, 38, 70])) else none) else (bif Nat.blt k 3 then (bif Nat.beq k 2 then some (.inl (2, [72, 0, 74, 76])) else none) else (bif Nat.beq k 3 then some (.inl (3, [0, 0])) else none))) else (bif Nat.blt k 5 then (bif Nat.beq k 4 then some (.inl (4, [0, 0, 0, 80, 82])) else none) else (bif Nat.blt k 6 then (bif Nat.beq k 5 then some (.inl (5, [0, 0, 0])) else none) else (bif Nat.beq k 6 then some (.inl (6, [0, 0, 0, 0, 0, 0])) else none)))) else (bif Nat.blt k 10 then (bif Nat.blt k 8 then (bif Nat.beq k 7 then some (.inl (7, [0, 0, 0, 0, 0, 0])) else none) else (bif Nat.blt k 9 then (bif Nat.beq k 8 then some (.inl (8, [78, 0])) else none) else (bif Nat.beq k 9 then some (.inl (9, [0, 0, 0, 0, 0, 0, 0, 0, 0])) else none))) else (bif Nat.blt k 11 then (bif Nat.beq k 10 then some (.inl (10, [68, 0, 0, 0, 0])) else none) else (bif Nat.blt k 12 then (bif Nat.beq k 11 then some (.inl (11, [0, 0, 0])) else none) else (bif Nat.beq k 12 then some (.inl (12, [22, 4, 42, 44, 30, 32, 34, 46, 48, 50, 52, 18, 0, 54, 56, 58, 60, 62, 64, 66])) else none))))) else (bif Nat.blt k 20 then (bif Nat.blt k 16 then (bif Nat.blt k 14 then (bif Nat.beq k 13 then some (.inl (13, [84, 0, 0, 0, 86, 0, 88, 90, 92, 94, 0, 96, 98, 100, 102, 0, 104, 0, 106, 108, 110, 112, 114, 116, 118, 120, 122, 0, 124, 126, 128, 0, 130, 0, 132, 134, 0, 136, 138, 140, 0, 142, 144, 146, 148, 150, 152, 154, 156, 0, 158, 0, 0, 0, 0, 0, 0, 160, 162, 164, 1, 166, 1, 1, 168, 170, 0, 1, 0, 172, 174])) else none) else (bif Nat.blt k 15 then (bif Nat.beq k 14 then some (.inl (0, [0, 9, 0])) else none) else (bif Nat.beq k 15 then some (.inl (0, [0, 9, 0])) else none))) else (bif Nat.blt k 17 then (bif Nat.beq k 16 then some (.inl (0, [0, 9, 0])) else none) else (bif Nat.blt k 18 then (bif Nat.beq k 17 then some (.inl (0, [0, 9, 0])) else none) else (bif Nat.beq k 18 then some (.inl (0, [0, 9, 0])) else none)))) else (bif Nat.blt k 23 then (bif Nat.blt k 21 then (bif Nat.beq k 20 then some (.inr (.int, 6, 0)) else none) else (bif Nat.blt k 22 then (bif Nat.beq k 21 then some (.inr (.int, 6, 0)) else none) else (bif Nat.beq k 22 then some (.inr (.int, 6, 0)) else none))) else (bif Nat.blt k 24 then (bif Nat.beq k 23 then some (.inr ((.object "ClothWithMan$How"), 8, 3)) else none) else (bif Nat.blt k 25 then (bif Nat.beq k 24 then some (.inr ((.object "ClothWithMan$Want"), 8, 11)) else none) else (bif Nat.beq k 25 then some (.inr ((.object "ClothWithMan$Kept"), 3, 4)) else none)))))) else (bif Nat.blt k 38 then (bif Nat.blt k 32 then (bif Nat.blt k 29 then (bif Nat.blt k 27 then (bif Nat.beq k 26 then some (.inr (.long, 200, 0)) else none) else (bif Nat.blt k 28 then (bif Nat.beq k 27 then some (.inr (.boolean, 200, 0)) else none) else (bif Nat.beq k 28 then some (.inr (.long, 6, 0)) else none))) else (bif Nat.blt k 30 then (bif Nat.beq k 29 then some (.inr (.int, 6, 0)) else none) else (bif Nat.blt k 31 then (bif Nat.beq k 30 then some (.inr (.int, 12, 0)) else none) else (bif Nat.beq k 31 then some (.inr (.int, 6, 0)) else none)))) else (bif Nat.blt k 35 then (bif Nat.blt k 33 then (bif Nat.beq k 32 then some (.inr (.int, 6, 0)) else none) else (bif Nat.blt k 34 then (bif Nat.beq k 33 then some (.inr (.char, 80, 0)) else none) else (bif Nat.beq k 34 then some (.inr (.int, 4, 0)) else none))) else (bif Nat.blt k 36 then (bif Nat.beq k 35 then some (.inr (.int, 200, 0)) else none) else (bif Nat.blt k 37 then (bif Nat.beq k 36 then some (.inr (.int, 20, 0)) else none) else (bif Nat.beq k 37 then some (.inr (.int, 20, 0)) else none))))) else (bif Nat.blt k 44 then (bif Nat.blt k 41 then (bif Nat.blt k 39 then (bif Nat.beq k 38 then some (.inr (.long, 20, 0)) else none) else (bif Nat.blt k 40 then (bif Nat.beq k 39 then some (.inr (.int, 12, 0)) else none) else (bif Nat.beq k 40 then some (.inr (.int, 6, 0)) else none))) else (bif Nat.blt k 42 then (bif Nat.beq k 41 then some (.inr (.int, 200, 0)) else none) else (bif Nat.blt k 43 then (bif Nat.beq k 42 then some (.inr (.int, 30, 0)) else none) else (bif Nat.beq k 43 then some (.inr (.int, 36, 0)) else none)))) else (bif Nat.blt k 47 then (bif Nat.blt k 45 then (bif Nat.beq k 44 then some (.inr (.int, 4, 0)) else none) else (bif Nat.blt k 46 then (bif Nat.beq k 45 then some (.inr (.int, 6, 0)) else none) else (bif Nat.beq k 46 then some (.inr (.int, 6, 0)) else none))) else (bif Nat.blt k 48 then (bif Nat.beq k 47 then some (.inr (.int, 12, 0)) else none) else (bif Nat.blt k 49 then (bif Nat.beq k 48 then some (.inr (.int, 12, 0)) else none) else (bif Nat.beq k 49 then some (.inr (.int, 12, 0)) else none))))))) else (bif Nat.blt k 74 then (bif Nat.blt k 62 then (bif Nat.blt k 56 then (bif Nat.blt k 53 then (bif Nat.blt k 51 then (bif Nat.beq k 50 then some (.inr (.int, 12, 0)) else none) else (bif Nat.blt k 52 then (bif Nat.beq k 51 then some (.inr (.int, 12, 0)) else none) else (bif Nat.beq k 52 then some (.inr (.int, 6, 0)) else none))) else (bif Nat.blt k 54 then (bif Nat.beq k 53 then some (.inr (.int, 6, 0)) else none) else (bif Nat.blt k 55 then (bif Nat.beq k 54 then some (.inr (.int, 6, 0)) else none) else (bif Nat.beq k 55 then some (.inr (.int, 6, 0)) else none)))) else (bif Nat.blt k 59 then (bif Nat.blt k 57 then (bif Nat.beq k 56 then some (.inr (.int, 6, 0)) else none) else (bif Nat.blt k 58 then (bif Nat.beq k 57 then some (.inr (.int, 6, 0)) else none) else (bif Nat.beq k 58 then some (.inr (.int, 6, 0)) else none))) else (bif Nat.blt k 60 then (bif Nat.beq k 59 then some (.inr (.int, 6, 0)) else none) else (bif Nat.blt k 61 then (bif Nat.beq k 60 then some (.inr (.int, 6, 0)) else none) else (bif Nat.beq k 61 then some (.inr (.int, 4, 0)) else none))))) else (bif Nat.blt k 68 then (bif Nat.blt k 65 then (bif Nat.blt k 63 then (bif Nat.beq k 62 then some (.inr (.boolean, 4, 0)) else none) else (bif Nat.blt k 64 then (bif Nat.beq k 63 then some (.inr (.int, 4, 0)) else none) else (bif Nat.beq k 64 then some (.inr (.int, 9, 0)) else none))) else (bif Nat.blt k 66 then (bif Nat.beq k 65 then some (.inr (.int, 8, 0)) else none) else (bif Nat.blt k 67 then (bif Nat.beq k 66 then some (.inr (.int, 8, 0)) else none) else (bif Nat.beq k 67 then some (.inr (.int, 8, 0)) else none)))) else (bif Nat.blt k 71 then (bif Nat.blt k 69 then (bif Nat.beq k 68 then some (.inr (.int, 8, 0)) else none) else (bif Nat.blt k 70 then (bif Nat.beq k 69 then some (.inr (.int, 8, 0)) else none) else (bif Nat.beq k 70 then some (.inr (.boolean, 3, 0)) else none))) else (bif Nat.blt k 72 then (bif Nat.beq k 71 then some (.inr (.int, 3, 0)) else none) else (bif Nat.blt k 73 then (bif Nat.beq k 72 then some (.inr (.int, 36, 0)) else none) else (bif Nat.beq k 73 then some (.inr (.int, 3, 0)) else none)))))) else (bif Nat.blt k 86 then (bif Nat.blt k 80 then (bif Nat.blt k 77 then (bif Nat.blt k 75 then (bif Nat.beq k 74 then some (.inr (.int, 18, 0)) else none) else (bif Nat.blt k 76 then (bif Nat.beq k 75 then some (.inr (.int, 3, 0)) else none) else (bif Nat.beq k 76 then some (.inr (.int, 3, 0)) else none))) else (bif Nat.blt k 78 then (bif Nat.beq k 77 then some (.inr (.byte, 80, 0)) else none) else (bif Nat.blt k 79 then (bif Nat.beq k 78 then some (.inr (.long, 24, 0)) else none) else (bif Nat.beq k 79 then some (.inr (.int, 60, 0)) else none)))) else (bif Nat.blt k 83 then (bif Nat.blt k 81 then (bif Nat.beq k 80 then some (.inr (.int, 60, 0)) else none) else (bif Nat.blt k 82 then (bif Nat.beq k 81 then some (.inr (.long, 200, 0)) else none) else (bif Nat.beq k 82 then some (.inr (.boolean, 200, 0)) else none))) else (bif Nat.blt k 84 then (bif Nat.beq k 83 then some (.inr (.int, 6, 0)) else none) else (bif Nat.blt k 85 then (bif Nat.beq k 84 then some (.inr (.int, 6, 0)) else none) else (bif Nat.beq k 85 then some (.inr (.long, 6, 0)) else none))))) else (bif Nat.blt k 102 then (bif Nat.blt k 97 then (bif Nat.blt k 95 then (bif Nat.beq k 86 then some (.inr (.int, 12, 0)) else none) else (bif Nat.blt k 96 then (bif Nat.beq k 95 then some (.inr (.int, 7, 1)) else none) else (bif Nat.beq k 96 then some (.inr (.int, 5, 1)) else none))) else (bif Nat.blt k 98 then (bif Nat.beq k 97 then some (.inr (.int, 0, 1)) else none) else (bif Nat.blt k 101 then (bif Nat.beq k 98 then some (.inr (.long, 1, 0)) else none) else (bif Nat.beq k 101 then some (.inl (1, [7, 0, 37, 39, 71])) else none)))) else (bif Nat.blt k 110 then (bif Nat.blt k 104 then (bif Nat.beq k 102 then some (.inl (2, [73, 0, 75, 77])) else none) else (bif Nat.blt k 108 then (bif Nat.beq k 104 then some (.inl (4, [0, 0, 0, 81, 83])) else none) else (bif Nat.beq k 108 then some (.inl (8, [79, 0])) else none))) else (bif Nat.blt k 112 then (bif Nat.beq k 110 then some (.inl (10, [69, 0, 0, 0, 0])) else none) else (bif Nat.blt k 113 then (bif Nat.beq k 112 then some (.inl (12, [23, 5, 43, 45, 31, 33, 35, 47, 49, 51, 53, 19, 0, 55, 57, 59, 61, 63, 65, 67])) else none) else (bif Nat.beq k 113 then some (.inl (13, [85, 0, 0, 0, 87, 0, 89, 91, 93, 95, 0, 97, 99, 101, 103, 0, 105, 0, 107, 109, 111, 113, 115, 117, 119, 121, 123, 0, 125, 127, 129, 0, 131, 0, 133, 135, 0, 137, 139, 141, 0, 143, 145, 147, 149, 151, 153, 155, 157, 0, 159, 0, 0, 0, 0, 0, 0, 161, 163, 165, 1, 167, 1, 1, 169, 171, 0, 1, 0, 173, 175])) else none)))))))) else none
