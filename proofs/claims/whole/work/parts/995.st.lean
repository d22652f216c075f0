/-! the law: its start and its end -/
def R_law : String := "ClothWithManLaw"
def lw_P (b : Addr) (xs : List Int32) (args : Array Value) (s : State) : Prop := args = #[.ref b] ∧ s.IntsAt b xs ∧ xs.length ≤ 3584 ∧ (Jvm.Cond.and given_1 narrow_1).before args s = true
def lw_Q (_ : Array Value) (s : State) (o : Outcome) (t : State) : Prop := o = .returned (some (.int 1)) ∧ Framed s o t [] 601024 7293034
def lw_Z (below : List Frame) (a : Array Value) (s : State) : State → Prop := fun t => ∃ o, t.status = .running ∧ Ended t below o ∧ lw_Q a s o t
/-- the law's own end, with 1 on the stack, nothing written that was there before, its room as the claim has it -/
theorem lw_ret {p : Program} {l : Launch} {e : Env} {s : State} {m : MethodId} {below : List Frame} {meth : Method} {c : Code} {b : Nat} (hx : p.tables.exec = Jvm.exec) (hb : c.code = code) (hr : meth.sig.returnType = ret) (hlocks : meth.locks = false) {pc : Nat} {H : Heap} {ls : Array Slot} (hdg : decode code pc = .ok (.ireturn, 1)) : W p l e room_1 s m #[Value.ref b] below meth c H [] 601024 7293034 (lw_Z below #[Value.ref b] s) (F0 m pc ls [.int 1]) := by
  intro T hT X
  obtain ⟨fs, hret, hrun, hended, hW, hframe⟩ := X.leave (v := some (.int 1)) (hlocks := hlocks) (fun h => by rw [hr] at h; cases h)
  have hmeth' : T.vm.method? m = some meth := X.method'
  refine ⟨T.setFrames fs, ?_, .returned (some (.int 1)), hrun, hended, rfl, ⟨_, rfl⟩, hW, hframe⟩
  jvm_step X.here [X.here.top, hx, hb, hdg, hmeth', hr, ret, narrow_b1]
  (try refine ⟨rfl, ?_⟩); (try refine ⟨rfl, ?_⟩)
  first | (intro acts; rw [hret _ acts rfl rfl rfl]) | rw [hret _ _ rfl rfl rfl]
  exact Steps.refl _
/-- what holds at the law's entry: the machine, the code, the tables' words (any of lw_tbl by 'hts w (by decide +kernel)'), the script of L ints xs at the cell b, what the Statement gives of the start (any of its parts by flat_of_before) -/
def lw_At (p : Program) (s : State) (m : MethodId) (meth : Method) (c : Code) (b L : Nat) (xs : Nat → Int32) : Prop :=
  p.tables.exec = Jvm.exec ∧ c.code = code ∧ meth.sig.returnType = ret ∧ c.maxLocals = 8 ∧ s.vm.findClass R_law = some m.cls ∧ (∀ w ∈ lw_tbl, w.before #[Value.ref b] s = true) ∧ va_X b L xs s s.heap ∧ b < s.heap.size ∧ meth.locks = false ∧ (Jvm.Cond.and given_1 narrow_1).before #[Value.ref b] s = true

theorem kn_0 : ∀ w ∈ u_ws RJx4a65c TJx4a65c 3, w ∈ lw_tbl := by decide +kernel
theorem kn_1 : ∀ w ∈ u_ws RX0 TX0 5, w ∈ lw_tbl := by decide +kernel
theorem kn_2 : ∀ w ∈ u_ws RX1 TX1 4, w ∈ lw_tbl := by decide +kernel
theorem kn_3 : ∀ w ∈ u_ws RX2 TX2 2, w ∈ lw_tbl := by decide +kernel
theorem kn_4 : ∀ w ∈ u_ws RX3 TX3 5, w ∈ lw_tbl := by decide +kernel
theorem kn_5 : ∀ w ∈ u_ws RX4 TX4 3, w ∈ lw_tbl := by decide +kernel
theorem kn_6 : ∀ w ∈ u_ws RX5 TX5 6, w ∈ lw_tbl := by decide +kernel
theorem kn_7 : ∀ w ∈ u_ws RX6 TX6 6, w ∈ lw_tbl := by decide +kernel
theorem kn_8 : ∀ w ∈ u_ws RX7 TX7 2, w ∈ lw_tbl := by decide +kernel
theorem kn_9 : ∀ w ∈ u_ws RX8 TX8 9, w ∈ lw_tbl := by decide +kernel
theorem kn_10 : ∀ w ∈ u_ws RX9 TX9 5, w ∈ lw_tbl := by decide +kernel
theorem kn_11 : ∀ w ∈ u_ws RX10 TX10 3, w ∈ lw_tbl := by decide +kernel
theorem kn_12 : ∀ w ∈ u_ws RX11 TX11 20, w ∈ lw_tbl := by decide +kernel
theorem kn_13 : ∀ w ∈ u_ws RX12 TX12 71, w ∈ lw_tbl := by decide +kernel
theorem kn_all {s : State} {args : Array Value} (hts : ∀ w ∈ lw_tbl, w.before args s = true) : ∃ D : va_G, va_K D mCl [] s := by
  have h : ∀ c : Nat, ∃ (cC : ClassId) (iS : Nat → Nat), ∀ q : vw_C, mCl[c]? = some q → u_Kn s q.1 q.2.1 q.2.2 cC iS := by
    intro c
    match c with
    | 0 =>
      obtain ⟨cC, iS, h⟩ := u_known (ws := lw_tbl) (C := RJx4a65c) (T := TJx4a65c) (N := 3) hts kn_0 (hts _ tw_1_92)
      exact ⟨cC, iS, fun q hq => by cases hq; exact h⟩
    | 1 =>
      obtain ⟨cC, iS, h⟩ := u_known (ws := lw_tbl) (C := RX0) (T := TX0) (N := 5) hts kn_1 (hts _ tw_1_65)
      exact ⟨cC, iS, fun q hq => by cases hq; exact h⟩
    | 2 =>
      obtain ⟨cC, iS, h⟩ := u_known (ws := lw_tbl) (C := RX1) (T := TX1) (N := 4) hts kn_2 (hts _ tw_1_71)
      exact ⟨cC, iS, fun q hq => by cases hq; exact h⟩
    | 3 =>
      obtain ⟨cC, iS, h⟩ := u_known (ws := lw_tbl) (C := RX2) (T := TX2) (N := 2) hts kn_3 (hts _ tw_4_209)
      exact ⟨cC, iS, fun q hq => by cases hq; exact h⟩
    | 4 =>
      obtain ⟨cC, iS, h⟩ := u_known (ws := lw_tbl) (C := RX3) (T := TX3) (N := 5) hts kn_4 (hts _ tw_5_43)
      exact ⟨cC, iS, fun q hq => by cases hq; exact h⟩
    | 5 =>
      obtain ⟨cC, iS, h⟩ := u_known (ws := lw_tbl) (C := RX4) (T := TX4) (N := 3) hts kn_5 (hts _ tw_4_61)
      exact ⟨cC, iS, fun q hq => by cases hq; exact h⟩
    | 6 =>
      obtain ⟨cC, iS, h⟩ := u_known (ws := lw_tbl) (C := RX5) (T := TX5) (N := 6) hts kn_6 (hts _ tw_2_92)
      exact ⟨cC, iS, fun q hq => by cases hq; exact h⟩
    | 7 =>
      obtain ⟨cC, iS, h⟩ := u_known (ws := lw_tbl) (C := RX6) (T := TX6) (N := 6) hts kn_7 (hts _ tw_3_7)
      exact ⟨cC, iS, fun q hq => by cases hq; exact h⟩
    | 8 =>
      obtain ⟨cC, iS, h⟩ := u_known (ws := lw_tbl) (C := RX7) (T := TX7) (N := 2) hts kn_8 (hts _ tw_1_147)
      exact ⟨cC, iS, fun q hq => by cases hq; exact h⟩
    | 9 =>
      obtain ⟨cC, iS, h⟩ := u_known (ws := lw_tbl) (C := RX8) (T := TX8) (N := 9) hts kn_9 (hts _ tw_3_216)
      exact ⟨cC, iS, fun q hq => by cases hq; exact h⟩
    | 10 =>
      obtain ⟨cC, iS, h⟩ := u_known (ws := lw_tbl) (C := RX9) (T := TX9) (N := 5) hts kn_10 (hts _ tw_1_37)
      exact ⟨cC, iS, fun q hq => by cases hq; exact h⟩
    | 11 =>
      obtain ⟨cC, iS, h⟩ := u_known (ws := lw_tbl) (C := RX10) (T := TX10) (N := 3) hts kn_11 (hts _ tw_5_5)
      exact ⟨cC, iS, fun q hq => by cases hq; exact h⟩
    | 12 =>
      obtain ⟨cC, iS, h⟩ := u_known (ws := lw_tbl) (C := RX11) (T := TX11) (N := 20) hts kn_12 (hts _ tw_1_29)
      exact ⟨cC, iS, fun q hq => by cases hq; exact h⟩
    | 13 =>
      obtain ⟨cC, iS, h⟩ := u_known (ws := lw_tbl) (C := RX12) (T := TX12) (N := 71) hts kn_13 (hts _ tw_5_189)
      exact ⟨cC, iS, fun q hq => by cases hq; exact h⟩
    | c + 14 => exact ⟨0, fun _ => 0, fun q hq => by rw [List.getElem?_eq_none (show mCl.length ≤ c + 14 from Nat.le_add_left 14 c)] at hq; cases hq⟩
  exact ⟨(fun c => (h c).choose, fun c => (h c).choose_spec.choose), fun c q hq => (h c).choose_spec.choose_spec q hq, fun k q hq => by cases hq⟩
theorem tab_of {s : State} {args : Array Value} (hts : ∀ w ∈ lw_tbl, w.before args s = true) : mTab s := by
  intro w hw hs
  have h1 := hts w hw
  cases w <;> first
    | exact h1
    | (rename_i t; cases t <;> first | exact h1 | cases hs)
    | (simp only [mStab, Bool.and_eq_true] at hs; exact va_tabs hs.1 rfl h1)
    | exact va_tabs rfl rfl h1
theorem str_of {s : State} {args : Array Value} {k cur : Nat} {tx : String} (hc : s.vm.findClass "ClothWithMan" = some cur) (h : (Cond.stringRef "ClothWithMan" k tx).before args s = true) : ∃ q : Nat, vk_R "ClothWithMan" k tx q s := by
  obtain ⟨-, -, -, sa, -, -, -, -, -, hev⟩ := Cond.stringRef_spec hc h
  exact ⟨sa, vk_R.of h hev⟩
abbrev lwA (s : State) : Nat → Prop := fun q => s.heap.size ≤ q
abbrev lwAd (b tL tB : Nat) : Nat → Nat → Nat := fun k _ => if k = 97 then b else if k = 95 then tL else tB
theorem sL0_N {L : Nat} {xs : Nat → Int32} {k i : Nat} (h : i < gN (sL0 L xs) k) : (k = 95 ∨ k = 96 ∨ k = 97) ∧ i = 0 := by
  have h' : i < (if k = 95 ∨ k = 96 ∨ k = 97 then 1 else 0) := h
  by_cases g : k = 95 ∨ k = 96 ∨ k = 97
  · rw [if_pos g] at h'; exact ⟨g, by omega⟩
  · rw [if_neg g] at h'; omega
theorem sL0_own {L : Nat} {xs : Nat → Int32} {k i : Nat} (h : mOwn (sL0 L xs) k i) : False := by
  rcases h with ⟨-, h1, h2, h3, h4⟩ | ⟨l, hl, -, -, h4, -⟩
  · rcases (sL0_N h4).1 with h | h | h
    · exact h1 h
    · exact h2 h
    · exact h3 h
  · have := (sL0_N h4).1
    unfold mList at hl
    omega
theorem world_0 {s : State} {D : va_G} {eb tL tB b L : Nat} {xs : Nat → Int32} (hL : L ≤ 3584) (hX : va_X b L xs s s.heap) (hb : b < s.heap.size) (hTe : va_T (.object "java/lang/Object") eb 0 (fun _ => .null) (lwA s) s s.heap) (hTL : va_T .int tL 7 (fun j => .int (tb95 j)) (lwA s) s s.heap) (hTB : va_T .int tB 5 (fun j => .int (tb96 j)) (lwA s) s s.heap) :
    mWd s D (lwA s) eb tL tB (lwAd b tL tB) (sL0 L xs) (lwAd b tL tB) (sL0 L xs) s.heap := by
  refine ⟨fun k i hi => ?_, fun k i k' i' h _ _ => (sL0_own h).elim, fun k i h => (sL0_own h).elim, ⟨fun k i j x _ h => (by cases h), fun k i ci fs f t hi hk _ _ => ?_, fun k _ => ?_⟩, ?_, rfl, rfl, rfl, rfl, mExt.refl _ _⟩
  · obtain ⟨hk, rfl⟩ := sL0_N hi
    rcases hk with rfl | rfl | rfl
    · exact (show va_T .int tL 7 (fun j => .int (gI (sL0 L xs) 95 0 j)) (lwA s) s s.heap from hTL)
    · exact (show va_T .int tB 5 (fun j => .int (gI (sL0 L xs) 96 0 j)) (lwA s) s s.heap from hTB)
    · exact (show ∃ L' : Nat, gI (sL0 L xs) 97 1 0 = nI L' ∧ L' < 2 ^ 31 ∧ va_X b L' (fun j => gI (sL0 L xs) 97 0 j) s s.heap ∧ ¬ lwA s b from ⟨L, rfl, by omega, hX, Nat.not_le.mpr hb⟩)
  · obtain ⟨hk', -⟩ := sL0_N hi
    rcases hk' with rfl | rfl | rfl <;> cases hk
  · show (if k = 95 ∨ k = 96 ∨ k = 97 then 1 else 0) ≤ 1
    split <;> omega
  · obtain ⟨cell, -, -, -, -, -, -, h7⟩ := hTe
    exact h7
set_option maxRecDepth 100000 in
theorem ent_98 (L : Nat) (xs : Nat → Int32) : gN (e_newM (e_newC (sL0 L xs))) 98 = 0 := rfl
set_option maxRecDepth 100000 in
theorem whole_start0 {p : Program} {e : Env} {s : State} {m : MethodId} {below : List Frame} {meth : Method} {c : Code} (l : Launch) (hflags : l.flags = flags0) {b L : Nat} {xs : Nat → Int32} (hL : L ≤ 3584) (hT : ∀ i, i + 7 ≤ L → ∀ pc ∈ lawPcs, LTurn l L pc i) (C0 : lw_At p s m meth c b L xs) : W p l e room_1 s m #[Value.ref b] below meth c s.heap [] 0 0 (lw_Z below #[Value.ref b] s) (entryFrame m ([Value.ref b] : List Value).toArray 8) := by
  obtain ⟨hx, hbc, hr, hml, hown, hts, hX, hbl, hlocks, hgv⟩ := C0
  have hq := flat_of_before _ hgv
  have hA : ∀ a : Nat, a < s.heap.size → ¬ lwA s a := fun a h q => absurd h (Nat.not_lt.mpr q)
  obtain ⟨D, hK⟩ := kn_all hts
  obtain ⟨eb, heb, hTe⟩ := va_Tof (tm := .static "java/util/ArrayList" "DEFAULTCAPACITY_EMPTY_ELEMENTDATA" "[Ljava/lang/Object;") (ty := .object "java/lang/Object") (N := 0) (f := fun _ => .null) (A := lwA s) (by decide) (hq _ (by decide +kernel)) (va_eqt (hq _ (by decide +kernel))) (fun j h => absurd h (Nat.not_lt_zero j)) hA
  obtain ⟨tL, htL, hTL⟩ := va_Tof (tm := .static "ClothWithMan" "LIKENESSES" "[I") (ty := .int) (N := 7) (f := fun j => .int (tb95 j)) (A := lwA s) (by decide) (hq _ (by decide +kernel)) (va_eqt (hq _ (by decide +kernel))) (fun j hj => by
    match j, hj with
    | 0, _ => exact va_eqt (z := 100) (hq _ (by decide +kernel))
    | 1, _ => exact va_eqt (z := 88) (hq _ (by decide +kernel))
    | 2, _ => exact va_eqt (z := 61) (hq _ (by decide +kernel))
    | 3, _ => exact va_eqt (z := 32) (hq _ (by decide +kernel))
    | 4, _ => exact va_eqt (z := 14) (hq _ (by decide +kernel))
    | 5, _ => exact va_eqt (z := 4) (hq _ (by decide +kernel))
    | 6, _ => exact va_eqt (z := 1) (hq _ (by decide +kernel))
    | j + 7, h => exact absurd h (by omega)) hA
  obtain ⟨tB, htB, hTB⟩ := va_Tof (tm := .static "ClothWithMan" "APART_BOUNDS" "[I") (ty := .int) (N := 5) (f := fun j => .int (tb96 j)) (A := lwA s) (by decide) (hq _ (by decide +kernel)) (va_eqt (hq _ (by decide +kernel))) (fun j hj => by
    match j, hj with
    | 0, _ => exact va_eqt (z := 0) (hq _ (by decide +kernel))
    | 1, _ => exact va_eqt (z := 0) (hq _ (by decide +kernel))
    | 2, _ => exact va_eqt (z := 384) (hq _ (by decide +kernel))
    | 3, _ => exact va_eqt (z := 599) (hq _ (by decide +kernel))
    | 4, _ => exact va_eqt (z := 781) (hq _ (by decide +kernel))
    | j + 5, h => exact absurd h (by omega)) hA
  have hcC : s.vm.findClass "ClothWithMan" = some (D.1 12) := (hK.1 12 _ rfl).2.1
  have hSt : mStat s (lwA s) eb tL tB s.heap := ⟨va_Zof (hts _ tw_1_104) (hts _ tw_1_7) heb hA, hTe, va_Zof (hts _ tw_3_69) (hts _ tw_1_1) htL hA, va_Zof (hts _ tw_3_174) (hts _ tw_1_1) htB hA,
    va_Mi.of (hq _ (by decide +kernel : Cond.isRef (.mirror "[Ljava/lang/Object;") ∈ _)), vx_Zqof (hts _ tw_5_109) (hts _ tw_1_18) (hq _ (by decide +kernel)) hA, vx_Zqof (hts _ tw_5_111) (hts _ tw_1_18) (hq _ (by decide +kernel)) hA, str_of hcC (hts _ tw_5_121), str_of hcC (hts _ tw_5_171), str_of hcC (hts _ tw_5_179), str_of hcC (hts _ tw_5_187)⟩
  have X : mCx p s m meth c code 8 "ClothWithManLaw" D (lwA s) eb tL tB P_L := ⟨hx, hbc, hml, hown, tab_of hts, hK, hSt, fun q h => h, fun h => by cases h⟩
  have hend : ∀ (i : Nat) (σ : MSto) (c0 s0 : Nat), c0 ≤ 300000 → s0 ≤ 3000000 → mWP p l e room_1 s m #[Value.ref b] below meth c (lw_Z below #[Value.ref b] s) 8 D (lwA s) eb tL tB (lwAd b tL tB) (sL0 L xs) c0 s0 (2241, LH i, [], σ, 0, 0) := by
    intro i σ c0 s0 hc hs ad' H locs ls hW hS hv hL'
    refine lv_iconst hx hbc (by decide +kernel : decode code 2241 = .ok (.iconst 1, 1)) rfl ?_
    refine va_forget (fun q hq => hS.2.2 q hq) ?_
    refine W.widen (k := 601024) (n := 7293034) (show c0 + 0 ≤ 601024 by omega) (show s0 + 0 ≤ 7293034 by omega) ?_
    exact lw_ret hx hbc hr hlocks (pc := 2242) (by decide +kernel)
  have hloop := L_loop (R := room_1) hL hT X (by decide) (by decide) (by decide) (by decide) hend 513 0 77 2120 (sL3 L xs) (by omega) (by omega) (by omega) (by omega) (s3_Inv L xs)
  have hlp : mWP p l e room_1 s m #[Value.ref b] below meth c (lw_Z below #[Value.ref b] s) 8 D (lwA s) eb tL tB (lwAd b tL tB) (sL0 L xs) 0 0 (23, LH 0, [], sL3 L xs, 77, 2120) := by
    have e1 : 0 + 77 = 77 := rfl
    intro ad' H locs ls hW hS hv hL'
    exact W_cs (hloop ad' H locs ls hW hS hv hL') rfl rfl rfl
  have run := q_L_0 (sL0 L xs) (fun st => some st)
  rw [mG_t (start_C L xs), mG_t (show p_newM (e_newC (sL0 L xs)) from start_M L xs), ent_98] at run
  have run : mrun KT P_L (fun st => some st) 600 (0, [some (mR 97 0), none, none, none, none, none, none, none], [], sL0 L xs, 0, 0) = some (23, LH 0, [], sL3 L xs, 77, 2120) := run
  have hent := s_run X mLay_ok (hRm_L (R := room_1) (by decide) (by decide) (by decide) (by decide)) (ok_L l) hlp (fun st h => by cases h; exact hlp) 600 _ run
  rw [lg_entry_eq]
  exact hent (lwAd b tL tB) s.heap [] _ (world_0 hL hX hbl hTe hTL hTB) va_S.rf ⟨(fun v hv => by cases hv), fun i v hi => by
    have := (mL0_mem (ad := lwAd b tL tB) [mR 97 0] 0 i v (mLoc_get (nL := 8) (show (mLoc [mR 97 0] 8)[i]? = some (some v) from hi))).2
    rw [List.mem_singleton.mp this]
    exact Nat.zero_lt_one⟩ (mLs_entry (as := [mR 97 0]) (Nat.le_of_ble_eq_true rfl))

