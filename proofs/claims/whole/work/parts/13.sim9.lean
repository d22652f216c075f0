/-- how long an instruction is that has one length -/
def mlen : Instr → Nat
  | .iload .. => 2
  | .lload .. => 2
  | .aload .. => 2
  | .istore .. => 2
  | .lstore .. => 2
  | .astore .. => 2
  | .iinc .. => 3
  | .bipush .. => 2
  | .sipush .. => 3
  | .ldc .. => 2
  | .ldc_w .. => 3
  | .ldc2_w .. => 3
  | .goto .. => 3
  | .ifCond .. => 3
  | .if_icmp .. => 3
  | .ifnull .. => 3
  | .ifnonnull .. => 3
  | .getfield .. => 3
  | .putfield .. => 3
  | .getstatic .. => 3
  | .checkcast .. => 3
  | .new .. => 3
  | .newarray .. => 2
  | .anewarray .. => 3
  | .invokestatic .. => 3
  | .invokevirtual .. => 3
  | .invokespecial .. => 3
  | .tableswitch .. => 0
  | .lookupswitch .. => 0
  | _ => 1
def mOffB (pc : Nat) (off : Int) (tg : List Nat) : Bool := match tg with
  | [t] => decide ((pc : Int) + off = (t : Int))
  | _ => false
/-- an entry of a code table: what the bytes say there -/
def mOkB (cc : ByteArray) (pc : Nat) (i : Instr) (nx : Nat) (tg : List Nat) : Bool := match i with
  | .tableswitch dflt lo hi offs => (match decode cc pc with
      | .ok (j, _) => decide (j = i)
      | _ => false) && (match tg with
      | d :: ts => decide ((pc : Int) + dflt = (d : Int)) && decide (ts.map (fun t : Nat => (t : Int)) = offs.toList.map (fun o => (pc : Int) + o))
      | [] => false) && decide (-2147483648 ≤ lo ∧ lo + offs.size ≤ 2147483648 ∧ hi = lo + offs.size - 1)
  | .lookupswitch dflt ps => (match decode cc pc with
      | .ok (j, _) => decide (j = i)
      | _ => false) && (match tg with
      | d :: ts => decide ((pc : Int) + dflt = (d : Int)) && decide (ts.map (fun t : Nat => (t : Int)) = ps.toList.map (fun q => (pc : Int) + q.2))
      | [] => false) && ps.toList.all (fun q => decide (-2147483648 ≤ q.1 ∧ q.1 ≤ 2147483647)) && (ps.toList.zip (ps.toList.drop 1)).all (fun (a, next) => a.1 < next.1)
  | i => decide (decode cc pc = .ok (i, mlen i)) && Nat.beq nx (pc + mlen i) && (match i with
      | .goto off => mOffB pc off tg
      | .ifCond _ off => mOffB pc off tg
      | .if_icmp _ off => mOffB pc off tg
      | .ifnull off => mOffB pc off tg
      | .ifnonnull off => mOffB pc off tg
      | _ => true)
theorem mOffB_ok {pc : Nat} {off : Int} {tg : List Nat} (h : mOffB pc off tg = true) : ∀ t, tg = [t] → (pc : Int) + off = (t : Int) := by
  intro t ht
  subst ht
  exact of_decide_eq_true h
theorem and3 {a b c : Bool} (h : (a && b && c) = true) : a = true ∧ b = true ∧ c = true := by
  rw [Bool.and_eq_true, Bool.and_eq_true] at h
  exact ⟨h.1.1, h.1.2, h.2⟩
def mLook {α : Type} (k : Nat) : List (Nat × α) → Option α
  | [] => none
  | q :: l => bif Nat.beq k q.1 then some q.2 else mLook k l
theorem mLook_mem {α : Type} {k : Nat} {v : α} : ∀ {l : List (Nat × α)}, mLook k l = some v → (k, v) ∈ l
  | [], h => by cases h
  | q :: l, h => by
    unfold mLook at h
    cases hb : Nat.beq k q.1 with
    | true =>
      rw [hb] at h
      simp only [cond_true, Option.some.injEq] at h
      have := Nat.eq_of_beq_eq_true hb
      rw [this, ← h]
      exact List.mem_cons_self
    | false =>
      rw [hb] at h
      exact List.mem_cons_of_mem _ (mLook_mem h)
theorem KT_ty {kd ci f : Nat} {fs : List Nat} {C : String} {T : u_T} {N : Nat} {ty : FieldType} (h : KT kd = some (.inl (ci, fs))) (h0 : ci ≠ 0) (hc : mCl[ci]? = some (C, T, N)) (hp : parseFieldDescriptor (T f).2.2.1 = some ty) : (fs[f]? = some 0 → ty = .int ∨ ty = .boolean) ∧ (fs[f]? = some 1 → ty = .long) ∧ (∀ t, fs[f]? = some (2 * t + 3) → ty.isReference = true) := by
  by_cases hlt : kd < 114
  · have h8 : ∀ k, k < 114 → (match KT k with
      | some (.inl (ci, fs)) => ci == 0 || (match mCl[ci]? with
        | some (_, T, _) => (List.range fs.length).all (fun f => match parseFieldDescriptor (T f).2.2.1 with
          | some ty => (match fs[f]? with
            | some 0 => decide (ty = .int ∨ ty = .boolean)
            | some 1 => decide (ty = .long)
            | some _ => ty.isReference
            | none => true)
          | none => true)
        | none => true)
      | _ => true) = true := by decide +kernel
    have h7 := h8 kd hlt
    rw [h] at h7
    simp only [Bool.or_eq_true, beq_iff_eq] at h7
    have h6 := h7.resolve_left h0
    rw [hc] at h6
    simp only [List.all_eq_true, List.mem_range] at h6
    have key : ∀ v, fs[f]? = some v → _ := fun v hv => h6 f (List.getElem?_eq_some_iff.mp hv).1
    refine ⟨fun hv => ?_, fun hv => ?_, fun t hv => ?_⟩
    · have := key _ hv
      rw [hp] at this
      simp only [hv] at this
      exact of_decide_eq_true this
    · have := key _ hv
      rw [hp] at this
      simp only [hv] at this
      exact of_decide_eq_true this
    · have := key _ hv
      rw [hp] at this
      simp only [hv] at this
      exact this
  · rw [KT_hi (by omega)] at h
    cases h
theorem KT_cls {kd ln ek : Nat} {C : String} (h : KT kd = some (.inr (.object C, ln, ek))) : ∃ (ci : Nat) (fs : List Nat) (T : u_T), KT ek = some (.inl (ci, fs)) ∧ ci ≠ 0 ∧ mCl[ci]? = some (C, T, fs.length) := by
  by_cases hlt : kd < 114
  · have h8 : ∀ k, k < 114 → (match KT k with
      | some (.inr (.object C, _, ek)) => (match KT ek with
        | some (.inl (ci, fs)) => ci != 0 && (match mCl[ci]? with
          | some (C', _, N) => decide (C' = C) && N == fs.length
          | none => false)
        | _ => false)
      | _ => true) = true := by decide +kernel
    have h7 := h8 kd hlt
    rw [h] at h7
    simp only [] at h7
    split at h7
    · rename_i ci fs hek
      rw [Bool.and_eq_true] at h7
      split at h7
      · rename_i C' T N hm
        simp only [Bool.and_eq_true, decide_eq_true_eq, beq_iff_eq, bne_iff_ne] at h7
        exact ⟨ci, fs, T, hek, h7.1, by rw [hm, h7.2.1, h7.2.2]⟩
      · cases h7.2
    · cases h7
  · rw [KT_hi (by omega)] at h
    cases h
section SIM
variable {p : Program} {l : Launch} {e : Env} {R : Room} {s : State} {m : MethodId} {args : Array Value} {below : List Frame} {meth : Method} {c : Code} {Q : State → Prop}
variable {cc : ByteArray} {nL : Nat} {D : va_G} {A : Nat → Prop} {eb tL tB c0 s0 : Nat} {ad0 : Nat → Nat → Nat} {σ0 : MSto} {own : String}
abbrev mCx (p : Program) (s : State) (m : MethodId) (meth : Method) (c : Code) (cc : ByteArray) (nL : Nat) (own : String) (D : va_G) (A : Nat → Prop) (eb tL tB : Nat) (P : MP) : Prop :=
  p.tables.exec = Jvm.exec ∧ c.code = cc ∧ c.maxLocals = nL ∧ s.vm.findClass own = some m.cls ∧ mTab s ∧ va_K D mCl [] s ∧ mStat s A eb tL tB s.heap ∧ (∀ q, s.heap.size ≤ q → A q) ∧ (pIni P = true → meth.name = "<init>")
/-- objects that are made and begun in one: from new to behind <init> -/
def mFusOK (l : Launch) (own : String) (cc : ByteArray) (pc nx : Nat) (en : MEnt) : Prop :=
  ∀ (p : Program) (e : Env) (R : Room) (s : State) (m : MethodId) (args : Array Value) (below : List Frame) (meth : Method) (c : Code) (Q : State → Prop) (nL : Nat) (D : va_G) (A : Nat → Prop) (eb tL tB : Nat) (ad0 : Nat → Nat → Nat) (σ0 : MSto) (c0 s0 : Nat) (P : MP) (L : List (Option MV)) (S : List MV) (σ : MSto) (c1 s1 : Nat) (k : MK) (r : MST),
    mCx p s m meth c cc nL own D A eb tL tB P → mLay → mRoomOK R P c0 s0 → (S.map mcat).sum ≤ 7 → (∀ st, k st = some r → mWP p l e R s m args below meth c Q nL D A eb tL tB ad0 σ0 c0 s0 st) → mCall P en [] S nx L σ c1 s1 k = some r → mWP p l e R s m args below meth c Q nL D A eb tL tB ad0 σ0 c0 s0 (pc, L, S, σ, c1, s1)
/-- the method's tables say what the bytes and the class's pool say -/
def mPOK (l : Launch) (own : String) (cc : ByteArray) (P : MP) : Prop :=
  (∀ pc i nx tg, pCode P pc = some (i, nx, tg) → mOkB cc pc i nx tg = true) ∧
  (∀ x ci f ty fin, pFld P x = some (ci, f, ty, fin) → mFOK own x ci f ty fin ∧ (fin = true → pIni P = true → (Cond.fieldLink own x (((mCl[ci]?).getD ("", fun _ => ("", "", "", false), 0)).2.1 f).1 (((mCl[ci]?).getD ("", fun _ => ("", "", "", false), 0)).2.1 f).2.1 (((mCl[ci]?).getD ("", fun _ => ("", "", "", false), 0)).2.1 f).2.2.1 ∈ lw_tbl ∧ (((mCl[ci]?).getD ("", fun _ => ("", "", "", false), 0)).2.1 f).1 = own))) ∧
  (∀ n, (∀ v, pCst P n = some (.inl v) → Cond.constant own n v ∈ lw_tbl) ∧ (∀ v, pCst P n = some (.inr v) → Cond.constantLong own n v ∈ lw_tbl)) ∧
  (∀ x en, pEnv P x = some en → mLink own x en ∧ mCtr l en ∧ (en.1.1 = 2 → en.2.2.2.2.2.2 = none)) ∧
  (∀ pc i nx tg kd, pCode P pc = some (i, nx, tg) → pAlc P pc = some kd → match i with
    | .new x => mAOK own x kd
    | .newarray t => mNAOK t kd
    | .anewarray x => mAAOK own x kd
    | .invokespecial x => Cond.methodLink own x Lib.objectInit ∈ lw_tbl
    | _ => True) ∧
  (∀ x kd, pStc P x = some kd → (kd = 95 ∧ Cond.fieldLink own x "ClothWithMan" "LIKENESSES" "[I" ∈ lw_tbl) ∨ (kd = 96 ∧ Cond.fieldLink own x "ClothWithMan" "APART_BOUNDS" "[I" ∈ lw_tbl)) ∧
  (∀ x ci, pCas P x = some ci → ci ≠ 0 ∧ ∃ (C : String) (T : u_T) (N : Nat), mCl[ci]? = some (C, T, N) ∧ Cond.classLink own x C ∈ lw_tbl ∧ Cond.instantiable C N ∈ lw_tbl) ∧
  (∀ pc en, pFus P pc = some en → ∀ x nx t, pCode P pc = some (.new x, nx, [t]) → mFusOK l own cc pc t en)
theorem s_step {P : MP} (X : mCx p s m meth c cc nL own D A eb tL tB P) (hLay : mLay) (hRm : mRoomOK R P c0 s0) (hP : mPOK l own cc P) {pc nx : Nat} {tg : List Nat} {i : Instr} {L : List (Option MV)} {S : List MV} {σ : MSto} {c1 s1 : Nat} {k : MK} {r : MST} (hi : pCode P pc = some (i, nx, tg)) (hk : ∀ st, k st = some r → mWP p l e R s m args below meth c Q nL D A eb tL tB ad0 σ0 c0 s0 st) (h : mexec KT P i nx pc tg L S σ c1 s1 k = some r) : mWP p l e R s m args below meth c Q nL D A eb tL tB ad0 σ0 c0 s0 (pc, L, S, σ, c1, s1) := by
  obtain ⟨hx, hb, hml, hown, hT, hK, hSt, hA, hini⟩ := id X
  obtain ⟨pc1, pc2, pc3, pc4, pc5, pc6, pc7, pc8⟩ := hP
  have hok := pc1 pc i nx tg hi
  cases i
  case iload =>
    obtain ⟨hd, hn, hj⟩ := and3 hok
    have hd := of_decide_eq_true hd
    have hn := Nat.eq_of_beq_eq_true hn
    subst hn
    exact s_iload (P := P) (tg := tg) hx hb hd hk h
  case iload_n =>
    obtain ⟨hd, hn, hj⟩ := and3 hok
    have hd := of_decide_eq_true hd
    have hn := Nat.eq_of_beq_eq_true hn
    subst hn
    exact s_iload_n (P := P) (tg := tg) hx hb hd hk h
  case lload =>
    obtain ⟨hd, hn, hj⟩ := and3 hok
    have hd := of_decide_eq_true hd
    have hn := Nat.eq_of_beq_eq_true hn
    subst hn
    exact s_lload (P := P) (tg := tg) hx hb hd hk h
  case lload_n =>
    obtain ⟨hd, hn, hj⟩ := and3 hok
    have hd := of_decide_eq_true hd
    have hn := Nat.eq_of_beq_eq_true hn
    subst hn
    exact s_lload_n (P := P) (tg := tg) hx hb hd hk h
  case aload =>
    obtain ⟨hd, hn, hj⟩ := and3 hok
    have hd := of_decide_eq_true hd
    have hn := Nat.eq_of_beq_eq_true hn
    subst hn
    exact s_aload (P := P) (tg := tg) hx hb hd hk h
  case aload_n =>
    obtain ⟨hd, hn, hj⟩ := and3 hok
    have hd := of_decide_eq_true hd
    have hn := Nat.eq_of_beq_eq_true hn
    subst hn
    exact s_aload_n (P := P) (tg := tg) hx hb hd hk h
  case istore =>
    obtain ⟨hd, hn, hj⟩ := and3 hok
    have hd := of_decide_eq_true hd
    have hn := Nat.eq_of_beq_eq_true hn
    subst hn
    exact s_istore (P := P) (tg := tg) hx hb hd hk h
  case istore_n =>
    obtain ⟨hd, hn, hj⟩ := and3 hok
    have hd := of_decide_eq_true hd
    have hn := Nat.eq_of_beq_eq_true hn
    subst hn
    exact s_istore_n (P := P) (tg := tg) hx hb hd hk h
  case lstore =>
    obtain ⟨hd, hn, hj⟩ := and3 hok
    have hd := of_decide_eq_true hd
    have hn := Nat.eq_of_beq_eq_true hn
    subst hn
    exact s_lstore (P := P) (tg := tg) hx hb hd hk h
  case lstore_n =>
    obtain ⟨hd, hn, hj⟩ := and3 hok
    have hd := of_decide_eq_true hd
    have hn := Nat.eq_of_beq_eq_true hn
    subst hn
    exact s_lstore_n (P := P) (tg := tg) hx hb hd hk h
  case astore =>
    obtain ⟨hd, hn, hj⟩ := and3 hok
    have hd := of_decide_eq_true hd
    have hn := Nat.eq_of_beq_eq_true hn
    subst hn
    exact s_astore (P := P) (tg := tg) hx hb hd hk h
  case astore_n =>
    obtain ⟨hd, hn, hj⟩ := and3 hok
    have hd := of_decide_eq_true hd
    have hn := Nat.eq_of_beq_eq_true hn
    subst hn
    exact s_astore_n (P := P) (tg := tg) hx hb hd hk h
  case iinc =>
    obtain ⟨hd, hn, hj⟩ := and3 hok
    have hd := of_decide_eq_true hd
    have hn := Nat.eq_of_beq_eq_true hn
    subst hn
    exact s_iinc (P := P) (tg := tg) hx hb hd hk h
  case iconst =>
    obtain ⟨hd, hn, hj⟩ := and3 hok
    have hd := of_decide_eq_true hd
    have hn := Nat.eq_of_beq_eq_true hn
    subst hn
    exact s_iconst (P := P) (tg := tg) hx hb hd hk h
  case bipush =>
    obtain ⟨hd, hn, hj⟩ := and3 hok
    have hd := of_decide_eq_true hd
    have hn := Nat.eq_of_beq_eq_true hn
    subst hn
    exact s_bipush (P := P) (tg := tg) hx hb hd hk h
  case sipush =>
    obtain ⟨hd, hn, hj⟩ := and3 hok
    have hd := of_decide_eq_true hd
    have hn := Nat.eq_of_beq_eq_true hn
    subst hn
    exact s_sipush (P := P) (tg := tg) hx hb hd hk h
  case lconst =>
    obtain ⟨hd, hn, hj⟩ := and3 hok
    have hd := of_decide_eq_true hd
    have hn := Nat.eq_of_beq_eq_true hn
    subst hn
    exact s_lconst (P := P) (tg := tg) hx hb hd hk h
  case aconst_null =>
    obtain ⟨hd, hn, hj⟩ := and3 hok
    have hd := of_decide_eq_true hd
    have hn := Nat.eq_of_beq_eq_true hn
    subst hn
    exact s_aconst_null (P := P) (tg := tg) hx hb hd hk h
  case iadd =>
    obtain ⟨hd, hn, hj⟩ := and3 hok
    have hd := of_decide_eq_true hd
    have hn := Nat.eq_of_beq_eq_true hn
    subst hn
    exact s_iadd (P := P) (tg := tg) hx hb hd hk h
  case isub =>
    obtain ⟨hd, hn, hj⟩ := and3 hok
    have hd := of_decide_eq_true hd
    have hn := Nat.eq_of_beq_eq_true hn
    subst hn
    exact s_isub (P := P) (tg := tg) hx hb hd hk h
  case imul =>
    obtain ⟨hd, hn, hj⟩ := and3 hok
    have hd := of_decide_eq_true hd
    have hn := Nat.eq_of_beq_eq_true hn
    subst hn
    exact s_imul (P := P) (tg := tg) hx hb hd hk h
  case idiv =>
    obtain ⟨hd, hn, hj⟩ := and3 hok
    have hd := of_decide_eq_true hd
    have hn := Nat.eq_of_beq_eq_true hn
    subst hn
    exact s_idiv (P := P) (tg := tg) hx hb hd hk h
  case irem =>
    obtain ⟨hd, hn, hj⟩ := and3 hok
    have hd := of_decide_eq_true hd
    have hn := Nat.eq_of_beq_eq_true hn
    subst hn
    exact s_irem (P := P) (tg := tg) hx hb hd hk h
  case ineg =>
    obtain ⟨hd, hn, hj⟩ := and3 hok
    have hd := of_decide_eq_true hd
    have hn := Nat.eq_of_beq_eq_true hn
    subst hn
    exact s_ineg (P := P) (tg := tg) hx hb hd hk h
  case iand =>
    obtain ⟨hd, hn, hj⟩ := and3 hok
    have hd := of_decide_eq_true hd
    have hn := Nat.eq_of_beq_eq_true hn
    subst hn
    exact s_iand (P := P) (tg := tg) hx hb hd hk h
  case ior =>
    obtain ⟨hd, hn, hj⟩ := and3 hok
    have hd := of_decide_eq_true hd
    have hn := Nat.eq_of_beq_eq_true hn
    subst hn
    exact s_ior (P := P) (tg := tg) hx hb hd hk h
  case ixor =>
    obtain ⟨hd, hn, hj⟩ := and3 hok
    have hd := of_decide_eq_true hd
    have hn := Nat.eq_of_beq_eq_true hn
    subst hn
    exact s_ixor (P := P) (tg := tg) hx hb hd hk h
  case ishl =>
    obtain ⟨hd, hn, hj⟩ := and3 hok
    have hd := of_decide_eq_true hd
    have hn := Nat.eq_of_beq_eq_true hn
    subst hn
    exact s_ishl (P := P) (tg := tg) hx hb hd hk h
  case ishr =>
    obtain ⟨hd, hn, hj⟩ := and3 hok
    have hd := of_decide_eq_true hd
    have hn := Nat.eq_of_beq_eq_true hn
    subst hn
    exact s_ishr (P := P) (tg := tg) hx hb hd hk h
  case iushr =>
    obtain ⟨hd, hn, hj⟩ := and3 hok
    have hd := of_decide_eq_true hd
    have hn := Nat.eq_of_beq_eq_true hn
    subst hn
    exact s_iushr (P := P) (tg := tg) hx hb hd hk h
  case ladd =>
    obtain ⟨hd, hn, hj⟩ := and3 hok
    have hd := of_decide_eq_true hd
    have hn := Nat.eq_of_beq_eq_true hn
    subst hn
    exact s_ladd (P := P) (tg := tg) hx hb hd hk h
  case lsub =>
    obtain ⟨hd, hn, hj⟩ := and3 hok
    have hd := of_decide_eq_true hd
    have hn := Nat.eq_of_beq_eq_true hn
    subst hn
    exact s_lsub (P := P) (tg := tg) hx hb hd hk h
  case lmul =>
    obtain ⟨hd, hn, hj⟩ := and3 hok
    have hd := of_decide_eq_true hd
    have hn := Nat.eq_of_beq_eq_true hn
    subst hn
    exact s_lmul (P := P) (tg := tg) hx hb hd hk h
  case ldiv =>
    obtain ⟨hd, hn, hj⟩ := and3 hok
    have hd := of_decide_eq_true hd
    have hn := Nat.eq_of_beq_eq_true hn
    subst hn
    exact s_ldiv (P := P) (tg := tg) hx hb hd hk h
  case lrem =>
    obtain ⟨hd, hn, hj⟩ := and3 hok
    have hd := of_decide_eq_true hd
    have hn := Nat.eq_of_beq_eq_true hn
    subst hn
    exact s_lrem (P := P) (tg := tg) hx hb hd hk h
  case lneg =>
    obtain ⟨hd, hn, hj⟩ := and3 hok
    have hd := of_decide_eq_true hd
    have hn := Nat.eq_of_beq_eq_true hn
    subst hn
    exact s_lneg (P := P) (tg := tg) hx hb hd hk h
  case lcmp =>
    obtain ⟨hd, hn, hj⟩ := and3 hok
    have hd := of_decide_eq_true hd
    have hn := Nat.eq_of_beq_eq_true hn
    subst hn
    exact s_lcmp (P := P) (tg := tg) hx hb hd hk h
  case i2l =>
    obtain ⟨hd, hn, hj⟩ := and3 hok
    have hd := of_decide_eq_true hd
    have hn := Nat.eq_of_beq_eq_true hn
    subst hn
    exact s_i2l (P := P) (tg := tg) hx hb hd hk h
  case l2i =>
    obtain ⟨hd, hn, hj⟩ := and3 hok
    have hd := of_decide_eq_true hd
    have hn := Nat.eq_of_beq_eq_true hn
    subst hn
    exact s_l2i (P := P) (tg := tg) hx hb hd hk h
  case i2b =>
    obtain ⟨hd, hn, hj⟩ := and3 hok
    have hd := of_decide_eq_true hd
    have hn := Nat.eq_of_beq_eq_true hn
    subst hn
    exact s_i2b (P := P) (tg := tg) hx hb hd hk h
  case i2s =>
    obtain ⟨hd, hn, hj⟩ := and3 hok
    have hd := of_decide_eq_true hd
    have hn := Nat.eq_of_beq_eq_true hn
    subst hn
    exact s_i2s (P := P) (tg := tg) hx hb hd hk h
  case i2c =>
    obtain ⟨hd, hn, hj⟩ := and3 hok
    have hd := of_decide_eq_true hd
    have hn := Nat.eq_of_beq_eq_true hn
    subst hn
    exact s_i2c (P := P) (tg := tg) hx hb hd hk h
  case dup =>
    obtain ⟨hd, hn, hj⟩ := and3 hok
    have hd := of_decide_eq_true hd
    have hn := Nat.eq_of_beq_eq_true hn
    subst hn
    exact s_dup (P := P) (tg := tg) hx hb hd hk h
  case dup_x1 =>
    obtain ⟨hd, hn, hj⟩ := and3 hok
    have hd := of_decide_eq_true hd
    have hn := Nat.eq_of_beq_eq_true hn
    subst hn
    exact s_dup_x1 (P := P) (tg := tg) hx hb hd hk h
  case dup2 =>
    obtain ⟨hd, hn, hj⟩ := and3 hok
    have hd := of_decide_eq_true hd
    have hn := Nat.eq_of_beq_eq_true hn
    subst hn
    exact s_dup2 (P := P) (tg := tg) hx hb hd hk h
  case pop =>
    obtain ⟨hd, hn, hj⟩ := and3 hok
    have hd := of_decide_eq_true hd
    have hn := Nat.eq_of_beq_eq_true hn
    subst hn
    exact s_pop (P := P) (tg := tg) hx hb hd hk h
  case baload =>
    obtain ⟨hd, hn, hj⟩ := and3 hok
    have hd := of_decide_eq_true hd
    have hn := Nat.eq_of_beq_eq_true hn
    subst hn
    exact s_baload (P := P) (tg := tg) hx hb hd hk h
  case caload =>
    obtain ⟨hd, hn, hj⟩ := and3 hok
    have hd := of_decide_eq_true hd
    have hn := Nat.eq_of_beq_eq_true hn
    subst hn
    exact s_caload (P := P) (tg := tg) hx hb hd hk h
  case laload =>
    obtain ⟨hd, hn, hj⟩ := and3 hok
    have hd := of_decide_eq_true hd
    have hn := Nat.eq_of_beq_eq_true hn
    subst hn
    exact s_laload (P := P) (tg := tg) hx hb hd hk h
  case aaload =>
    obtain ⟨hd, hn, hj⟩ := and3 hok
    have hd := of_decide_eq_true hd
    have hn := Nat.eq_of_beq_eq_true hn
    subst hn
    exact s_aaload (P := P) (tg := tg) hx hb hd hk h
  case iaload =>
    obtain ⟨hd, hn, hj⟩ := and3 hok
    have hd := of_decide_eq_true hd
    have hn := Nat.eq_of_beq_eq_true hn
    subst hn
    exact s_iaload (P := P) (tg := tg) hx hb hd hk h
  case arraylength =>
    obtain ⟨hd, hn, hj⟩ := and3 hok
    have hd := of_decide_eq_true hd
    have hn := Nat.eq_of_beq_eq_true hn
    subst hn
    exact s_arraylength (P := P) (tg := tg) hx hb hd hk h
  case goto =>
    obtain ⟨hd, hn, hj⟩ := and3 hok
    have hd := of_decide_eq_true hd
    have hn := Nat.eq_of_beq_eq_true hn
    subst hn
    exact s_goto (P := P) (tg := tg) hx hb (mOffB_ok hj) hd hk h
  case ifCond =>
    obtain ⟨hd, hn, hj⟩ := and3 hok
    have hd := of_decide_eq_true hd
    have hn := Nat.eq_of_beq_eq_true hn
    subst hn
    exact s_ifCond (P := P) (tg := tg) hx hb (mOffB_ok hj) hd hk h
  case if_icmp =>
    obtain ⟨hd, hn, hj⟩ := and3 hok
    have hd := of_decide_eq_true hd
    have hn := Nat.eq_of_beq_eq_true hn
    subst hn
    exact s_if_icmp (P := P) (tg := tg) hx hb (mOffB_ok hj) hd hk h
  case ifnull =>
    obtain ⟨hd, hn, hj⟩ := and3 hok
    have hd := of_decide_eq_true hd
    have hn := Nat.eq_of_beq_eq_true hn
    subst hn
    exact s_ifnull (P := P) (tg := tg) hx hb (mOffB_ok hj) hd hk h
  case ifnonnull =>
    obtain ⟨hd, hn, hj⟩ := and3 hok
    have hd := of_decide_eq_true hd
    have hn := Nat.eq_of_beq_eq_true hn
    subst hn
    exact s_ifnonnull (P := P) (tg := tg) hx hb (mOffB_ok hj) hd hk h
  case ldc n =>
    obtain ⟨hd, hn, hj⟩ := and3 hok
    have hd := of_decide_eq_true hd
    have hn := Nat.eq_of_beq_eq_true hn
    subst hn
    exact s_ldc (P := P) (tg := tg) hx hb hown hT (pc3 n).1 hd hk h
  case ldc_w n =>
    obtain ⟨hd, hn, hj⟩ := and3 hok
    have hd := of_decide_eq_true hd
    have hn := Nat.eq_of_beq_eq_true hn
    subst hn
    exact s_ldc_w (P := P) (tg := tg) hx hb hown hT (pc3 n).1 hd hk h
  case ldc2_w n =>
    obtain ⟨hd, hn, hj⟩ := and3 hok
    have hd := of_decide_eq_true hd
    have hn := Nat.eq_of_beq_eq_true hn
    subst hn
    exact s_ldc2_w (P := P) (tg := tg) hx hb hown hT (pc3 n).2 hd hk h
  case getfield x =>
    obtain ⟨hd, hn, hj⟩ := and3 hok
    have hd := of_decide_eq_true hd
    have hn := Nat.eq_of_beq_eq_true hn
    subst hn
    exact s_getfield (P := P) (tg := tg) hx hb hown hT hK hLay (fun ci f ty fin g => (pc2 x ci f ty fin g).1) hd hk h
  case putfield x =>
    obtain ⟨hd, hn, hj⟩ := and3 hok
    have hd := of_decide_eq_true hd
    have hn := Nat.eq_of_beq_eq_true hn
    subst hn
    exact s_putfield (P := P) (tg := tg) hx hb hown hT hK hLay (fun ci f ty fin g => (pc2 x ci f ty fin g).1) hini (fun ci f ty g => (pc2 x ci f ty true g).2 rfl) (fun ci f ty fin kd fs g1 g2 => by
      obtain ⟨C, T, N, f1, f2, f3, f4, f5, -⟩ := (pc2 x ci f ty fin g1).1
      exact KT_ty g2 f3 f1 f5) hA hd hk h
  case getstatic x =>
    obtain ⟨hd, hn, hj⟩ := and3 hok
    have hd := of_decide_eq_true hd
    have hn := Nat.eq_of_beq_eq_true hn
    subst hn
    exact s_getstatic (P := P) (tg := tg) hx hb hown hT hSt (pc6 x) hd hk h
  case checkcast x =>
    obtain ⟨hd, hn, hj⟩ := and3 hok
    have hd := of_decide_eq_true hd
    have hn := Nat.eq_of_beq_eq_true hn
    subst hn
    exact s_checkcast (P := P) (tg := tg) hx hb hown hT hK (pc7 x) hd hk h
  case new x =>
    obtain ⟨hd, hn, hj⟩ := and3 hok
    have hd := of_decide_eq_true hd
    have hn := Nat.eq_of_beq_eq_true hn
    subst hn
    cases hf : pFus P pc with
    | none => exact s_new (P := P) (tg := tg) hx hb hown hT hK hLay hA ⟨hRm.1, hRm.2.1⟩ hf (fun kd g => pc5 pc _ _ _ kd hi g) hd hk h
    | some en =>
      have h' : x_new KT P (pc + mlen (.new x)) pc tg L S σ c1 s1 k = some r := h
      unfold x_new at h'
      rw [hf] at h'
      simp only [] at h'
      split at h'
      · cases h7 : Nat.ble (S.map mcat).sum 7 with
        | false => rw [h7] at h'; cases h'
        | true =>
          rw [h7] at h'
          exact pc8 pc en hf x _ _ hi p e R s m args below meth c Q nL D A eb tL tB ad0 σ0 c0 s0 P L S σ c1 s1 k r X hLay hRm (Nat.le_of_ble_eq_true h7) hk h'
      · cases h'
  case newarray t =>
    obtain ⟨hd, hn, hj⟩ := and3 hok
    have hd := of_decide_eq_true hd
    have hn := Nat.eq_of_beq_eq_true hn
    subst hn
    exact s_newarray (P := P) (tg := tg) hx hb hT hA ⟨hRm.1, hRm.2.1⟩ (fun kd g => pc5 pc _ _ _ kd hi g) hd hk h
  case anewarray x =>
    obtain ⟨hd, hn, hj⟩ := and3 hok
    have hd := of_decide_eq_true hd
    have hn := Nat.eq_of_beq_eq_true hn
    subst hn
    exact s_anewarray (P := P) (tg := tg) hx hb hown hT hA ⟨hRm.1, hRm.2.1⟩ (fun kd g => pc5 pc _ _ _ kd hi g) hd hk h
  case iastore =>
    obtain ⟨hd, hn, hj⟩ := and3 hok
    have hd := of_decide_eq_true hd
    have hn := Nat.eq_of_beq_eq_true hn
    subst hn
    exact s_iastore (P := P) (tg := tg) hx hb hA hd hk h
  case bastore =>
    obtain ⟨hd, hn, hj⟩ := and3 hok
    have hd := of_decide_eq_true hd
    have hn := Nat.eq_of_beq_eq_true hn
    subst hn
    exact s_bastore (P := P) (tg := tg) hx hb hA hd hk h
  case castore =>
    obtain ⟨hd, hn, hj⟩ := and3 hok
    have hd := of_decide_eq_true hd
    have hn := Nat.eq_of_beq_eq_true hn
    subst hn
    exact s_castore (P := P) (tg := tg) hx hb hA hd hk h
  case lastore =>
    obtain ⟨hd, hn, hj⟩ := and3 hok
    have hd := of_decide_eq_true hd
    have hn := Nat.eq_of_beq_eq_true hn
    subst hn
    exact s_lastore (P := P) (tg := tg) hx hb hA hd hk h
  case aastore =>
    obtain ⟨hd, hn, hj⟩ := and3 hok
    have hd := of_decide_eq_true hd
    have hn := Nat.eq_of_beq_eq_true hn
    subst hn
    exact s_aastore (P := P) (tg := tg) hx hb hK (fun _ _ _ _ g => KT_cls g) hA hd hk h
  case invokestatic x =>
    obtain ⟨hd, hn, hj⟩ := and3 hok
    have hd := of_decide_eq_true hd
    have hn := Nat.eq_of_beq_eq_true hn
    subst hn
    exact s_invokestatic (P := P) (tg := tg) hx hb hml hown hT hK hSt hA hRm (fun en g => ⟨(pc4 x en g).1, (pc4 x en g).2.1⟩) hd hk h
  case invokevirtual x =>
    obtain ⟨hd, hn, hj⟩ := and3 hok
    have hd := of_decide_eq_true hd
    have hn := Nat.eq_of_beq_eq_true hn
    subst hn
    exact s_invokevirtual (P := P) (tg := tg) hx hb hml hown hT hK hSt hA hRm (fun en g => ⟨(pc4 x en g).1, (pc4 x en g).2.1⟩) hd hk h
  case invokespecial x =>
    obtain ⟨hd, hn, hj⟩ := and3 hok
    have hd := of_decide_eq_true hd
    have hn := Nat.eq_of_beq_eq_true hn
    subst hn
    have h' : x_invokespecial KT P x (pc + 3) pc tg L S σ c1 s1 k = some r := h
    cases he : pEnv P x with
    | none => exact s_objInit (P := P) (tg := tg) hx hb hml hown hT hRm rfl he (fun kd g => pc5 pc _ _ _ kd hi g) hd hk h'
    | some en =>
      cases hm : Nat.beq en.1.1 2 with
      | false =>
        unfold x_invokespecial at h'
        rw [he] at h'
        simp only [hm, Bool.false_and, cond_false] at h'
        cases h'
      | true => exact s_invokespecial (P := P) (tg := tg) hx hb hml hown hT hK hSt hA hRm (by rw [he]; exact fun q => by cases q) (fun en' g => by
          rw [he] at g
          cases g
          exact ⟨(pc4 x _ he).1, (pc4 x _ he).2.1, (pc4 x _ he).2.2 (Nat.eq_of_beq_eq_true hm)⟩) hd hk h'
  case tableswitch dflt lo hi offs =>
    obtain ⟨h1, h2, h3⟩ := and3 hok
    split at h1
    · rename_i j len hdec
      have hj := of_decide_eq_true h1
      subst hj
      have h3 := of_decide_eq_true h3
      refine s_tableswitch (P := P) (tg := tg) (nx := nx) hx hb (fun d ts ht => ?_) h3.1 h3.2.1 h3.2.2 hdec hk h
      subst ht
      simp only [Bool.and_eq_true, decide_eq_true_eq] at h2
      exact h2
    · cases h1
  case lookupswitch dflt ps =>
    have hok' := hok
    unfold mOkB at hok'
    simp only [] at hok'
    rw [Bool.and_eq_true] at hok'
    obtain ⟨h1, h2, h3⟩ := and3 hok'.1
    split at h1
    · rename_i j len hdec
      have hj := of_decide_eq_true h1
      subst hj
      refine s_lookupswitch (P := P) (tg := tg) (nx := nx) hx hb (fun d ts ht => ?_) (fun q hq => of_decide_eq_true (List.all_eq_true.mp h3 q hq)) hok'.2 hdec hk h
      subst ht
      simp only [Bool.and_eq_true, decide_eq_true_eq] at h2
      exact h2
    · cases h1
  all_goals cases h
theorem s_mask {pc : Nat} {M : List Bool} {L : List (Option MV)} {S : List MV} {σ : MSto} {c1 s1 : Nat} (h : mWP p l e R s m args below meth c Q nL D A eb tL tB ad0 σ0 c0 s0 (pc, mMask M L, S, σ, c1, s1)) : mWP p l e R s m args below meth c Q nL D A eb tL tB ad0 σ0 c0 s0 (pc, L, S, σ, c1, s1) := by
  have hsub : ∀ (i : Nat) (v : MV), (mMask M L)[i]? = some (some v) → L[i]? = some (some v) := by
    intro i v hv
    unfold mMask at hv
    rw [List.getElem?_zipWith] at hv
    cases hM : M[i]? with
    | none => rw [hM] at hv; cases hv
    | some b =>
      cases hL : L[i]? with
      | none => rw [hM, hL] at hv; cases hv
      | some w =>
        rw [hM, hL] at hv
        cases b with
        | true => exact hv
        | false => cases hv
  intro ad H locs ls hW hS hv hL
  refine h ad H locs ls hW hS ⟨hv.1, fun i v hi => hv.2 i v (hsub i v hi)⟩ ⟨hL.1, hL.2.1, ?_, fun i v hi => hL.2.2.2 i v (hsub i v hi)⟩
  show (mMask M L).length ≤ nL
  unfold mMask
  rw [List.length_zipWith]
  exact Nat.le_trans (Nat.min_le_right _ _) hL.2.2.1
theorem s_nil {pc : Nat} {L : List (Option MV)} {S : List MV} {σ : MSto} {c1 s1 : Nat} (h : mWP p l e R s m args below meth c Q nL D A eb tL tB ad0 σ0 c0 s0 (pc, [], S, σ, c1, s1)) : mWP p l e R s m args below meth c Q nL D A eb tL tB ad0 σ0 c0 s0 (pc, L, S, σ, c1, s1) := by
  intro ad H locs ls hW hS hv hL
  exact h ad H locs ls hW hS ⟨hv.1, fun i v hi => by cases hi⟩ ⟨hL.1, hL.2.1, Nat.zero_le _, fun i v hi => by cases hi⟩
theorem s_run {P : MP} (X : mCx p s m meth c cc nL own D A eb tL tB P) (hLay : mLay) (hRm : mRoomOK R P c0 s0) (hP : mPOK l own cc P) {k : MK} {r : MST} (hr : mWP p l e R s m args below meth c Q nL D A eb tL tB ad0 σ0 c0 s0 r) (hk : ∀ st, k st = some r → mWP p l e R s m args below meth c Q nL D A eb tL tB ad0 σ0 c0 s0 st) : ∀ (n : Nat) (st : MST), mrun KT P k n st = some r → mWP p l e R s m args below meth c Q nL D A eb tL tB ad0 σ0 c0 s0 st := by
  intro n
  induction n with
  | zero => intro st h; cases h
  | succ n ih =>
    intro st h
    obtain ⟨pc, L, S, σ, c1, s1⟩ := st
    unfold mrun mstep at h
    split at h
    · rename_i i nx tg hi
      refine s_step X hLay hRm hP hi (fun st' h' => ?_) h
      obtain ⟨pc', L', S', σ', c', s'⟩ := st'
      unfold mnext at h'
      split at h'
      · simp only [Option.some.injEq] at h'
        exact s_nil (by rw [show (pc', ([] : List (Option MV)), S', σ', c', s') = r from h']; exact hr)
      · split at h'
        · exact s_mask (hk _ h')
        · exact ih _ h'
    · cases h
/-- THE SMALL MACHINE IS THE BIG ONE: where a run of it ends, the big machine comes to that end's Q -/
theorem s_exe {P : MP} (X : mCx p s m meth c cc nL own D A eb tL tB P) (hLay : mLay) (hRm : mRoomOK R P c0 s0) (hP : mPOK l own cc P) {r : MST} (hr : mWP p l e R s m args below meth c Q nL D A eb tL tB ad0 σ0 c0 s0 r) : ∀ (n : Nat) (st : MST), mexe KT P n st = some r → mWP p l e R s m args below meth c Q nL D A eb tL tB ad0 σ0 c0 s0 st := by
  intro n
  induction n with
  | zero => intro st h; cases h
  | succ n ih =>
    intro st h
    unfold mexe at h
    exact s_run X hLay hRm hP hr (fun st' h' => ih st' h') _ st h
end SIM
