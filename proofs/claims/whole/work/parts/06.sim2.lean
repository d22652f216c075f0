section SIM
variable {p : Program} {l : Launch} {e : Env} {R : Room} {s : State} {m : MethodId} {args : Array Value} {below : List Frame} {meth : Method} {c : Code} {Q : State → Prop}
variable {cc : ByteArray} {nL : Nat} {D : va_G} {A : Nat → Prop} {eb tL tB c0 s0 : Nat} {ad0 : Nat → Nat → Nat} {σ0 : MSto} {own : String}
abbrev mLvs (st : MST) : Prop := (∀ v ∈ st.2.2.1, mLive st.2.2.2.1 v) ∧ ∀ (i : Nat) (v : MV), st.2.1[i]? = some (some v) → mLive st.2.2.2.1 v
/-- from a state of the small machine, whatever heap holds its store: the big machine comes to Q -/
def mWP (p : Program) (l : Launch) (e : Env) (R : Room) (s : State) (m : MethodId) (args : Array Value) (below : List Frame) (meth : Method) (c : Code) (Q : State → Prop) (nL : Nat) (D : va_G) (A : Nat → Prop) (eb tL tB : Nat) (ad0 : Nat → Nat → Nat) (σ0 : MSto) (c0 s0 : Nat) (st : MST) : Prop :=
  ∀ (ad : Nat → Nat → Nat) (H : Heap) (locs : List Loc) (ls : Array Slot), mWd s D A eb tL tB ad0 σ0 ad st.2.2.2.1 H → va_S A s.heap H locs → mLvs st → mLs ad nL st.2.1 ls →
    W p l e R s m args below meth c H locs (c0 + st.2.2.2.2.1) (s0 + st.2.2.2.2.2) Q (F0 m st.1 ls (st.2.2.1.map (mVal ad)))
theorem mlI {σ : MSto} {S : List MV} (x : Int32) (h : ∀ v ∈ S, mLive σ v) : ∀ v ∈ mI x :: S, mLive σ v := fun v hv => (List.mem_cons.mp hv).elim (fun e => by rw [e]; trivial) (h v)
theorem mlJ {σ : MSto} {S : List MV} (x : Int64) (h : ∀ v ∈ S, mLive σ v) : ∀ v ∈ mJ x :: S, mLive σ v := fun v hv => (List.mem_cons.mp hv).elim (fun e => by rw [e]; trivial) (h v)
theorem mlN {σ : MSto} {S : List MV} (h : ∀ v ∈ S, mLive σ v) : ∀ v ∈ mN :: S, mLive σ v := fun v hv => (List.mem_cons.mp hv).elim (fun e => by rw [e]; trivial) (h v)
theorem mlC {σ : MSto} {S : List MV} {w : MV} (hw : mLive σ w) (h : ∀ v ∈ S, mLive σ v) : ∀ v ∈ w :: S, mLive σ v := fun v hv => (List.mem_cons.mp hv).elim (fun e => by rw [e]; exact hw) (h v)
theorem mlT {σ : MSto} {S : List MV} {w : MV} (h : ∀ v ∈ w :: S, mLive σ v) : ∀ v ∈ S, mLive σ v := fun v hv => h v (List.mem_cons_of_mem _ hv)
theorem mlH {σ : MSto} {S : List MV} {w : MV} (h : ∀ v ∈ w :: S, mLive σ v) : mLive σ w := h w List.mem_cons_self
theorem mlS1 {σ : MSto} {L : List (Option MV)} {n : Nat} {w : MV} (hn : n < L.length) (hw : mLive σ w) (h : ∀ (i : Nat) (v : MV), L[i]? = some (some v) → mLive σ v) : ∀ (i : Nat) (v : MV), (mst1 L n w)[i]? = some (some v) → mLive σ v := by
  intro i v hv
  rcases mst1_get hn hv with ⟨-, rfl⟩ | ⟨-, h2, -⟩
  · exact hw
  · exact h i v h2
theorem mlS2 {σ : MSto} {L : List (Option MV)} {n : Nat} {w : MV} (hn : n + 1 < L.length) (hw : mLive σ w) (h : ∀ (i : Nat) (v : MV), L[i]? = some (some v) → mLive σ v) : ∀ (i : Nat) (v : MV), (mst2 L n w)[i]? = some (some v) → mLive σ v := by
  intro i v hv
  rcases mst2_get hn hv with ⟨-, rfl⟩ | ⟨-, -, h2, -⟩
  · exact hw
  · exact h i v h2
theorem blt_lt {a b : Nat} (h : Nat.blt a b = true) : a < b := Nat.le_of_ble_eq_true h
theorem s_iload (hx : p.tables.exec = Jvm.exec) (hb : c.code = cc) {P : MP} {pc : Nat} {tg : List Nat} {L : List (Option MV)} {S : List MV} {σ : MSto} {c1 s1 : Nat} {k : MK} {r : MST} {n : Nat} (hd : decode cc pc = .ok (.iload n, 2)) (hk : ∀ st, k st = some r → mWP p l e R s m args below meth c Q nL D A eb tL tB ad0 σ0 c0 s0 st) (h : x_iload KT P n (pc + 2) pc tg L S σ c1 s1 k = some r) : mWP p l e R s m args below meth c Q nL D A eb tL tB ad0 σ0 c0 s0 (pc, L, S, σ, c1, s1) := by
  unfold x_iload at h
  split at h
  · rename_i x hl
    intro ad H locs ls hW hS hv hL
    exact lv_iload hx hb hd (mld_at hL hl) (hk _ h ad H locs ls hW hS ⟨mlI _ hv.1, hv.2⟩ hL)
  · cases h
theorem s_iload_n (hx : p.tables.exec = Jvm.exec) (hb : c.code = cc) {P : MP} {pc : Nat} {tg : List Nat} {L : List (Option MV)} {S : List MV} {σ : MSto} {c1 s1 : Nat} {k : MK} {r : MST} {n : Fin 4} (hd : decode cc pc = .ok (.iload_n n, 1)) (hk : ∀ st, k st = some r → mWP p l e R s m args below meth c Q nL D A eb tL tB ad0 σ0 c0 s0 st) (h : x_iload_n KT P n (pc + 1) pc tg L S σ c1 s1 k = some r) : mWP p l e R s m args below meth c Q nL D A eb tL tB ad0 σ0 c0 s0 (pc, L, S, σ, c1, s1) := by
  unfold x_iload_n at h
  split at h
  · rename_i x hl
    intro ad H locs ls hW hS hv hL
    exact lv_iload_n hx hb hd rfl (mld_at hL hl) (hk _ h ad H locs ls hW hS ⟨mlI _ hv.1, hv.2⟩ hL)
  · cases h
theorem s_lload (hx : p.tables.exec = Jvm.exec) (hb : c.code = cc) {P : MP} {pc : Nat} {tg : List Nat} {L : List (Option MV)} {S : List MV} {σ : MSto} {c1 s1 : Nat} {k : MK} {r : MST} {n : Nat} (hd : decode cc pc = .ok (.lload n, 2)) (hk : ∀ st, k st = some r → mWP p l e R s m args below meth c Q nL D A eb tL tB ad0 σ0 c0 s0 st) (h : x_lload KT P n (pc + 2) pc tg L S σ c1 s1 k = some r) : mWP p l e R s m args below meth c Q nL D A eb tL tB ad0 σ0 c0 s0 (pc, L, S, σ, c1, s1) := by
  unfold x_lload at h
  split at h
  · rename_i x hl
    intro ad H locs ls hW hS hv hL
    exact lv_lload hx hb hd (mld_at hL hl) (hk _ h ad H locs ls hW hS ⟨mlJ _ hv.1, hv.2⟩ hL)
  · cases h
theorem s_lload_n (hx : p.tables.exec = Jvm.exec) (hb : c.code = cc) {P : MP} {pc : Nat} {tg : List Nat} {L : List (Option MV)} {S : List MV} {σ : MSto} {c1 s1 : Nat} {k : MK} {r : MST} {n : Fin 4} (hd : decode cc pc = .ok (.lload_n n, 1)) (hk : ∀ st, k st = some r → mWP p l e R s m args below meth c Q nL D A eb tL tB ad0 σ0 c0 s0 st) (h : x_lload_n KT P n (pc + 1) pc tg L S σ c1 s1 k = some r) : mWP p l e R s m args below meth c Q nL D A eb tL tB ad0 σ0 c0 s0 (pc, L, S, σ, c1, s1) := by
  unfold x_lload_n at h
  split at h
  · rename_i x hl
    intro ad H locs ls hW hS hv hL
    exact lv_lload_n hx hb hd rfl (mld_at hL hl) (hk _ h ad H locs ls hW hS ⟨mlJ _ hv.1, hv.2⟩ hL)
  · cases h
theorem s_aload (hx : p.tables.exec = Jvm.exec) (hb : c.code = cc) {P : MP} {pc : Nat} {tg : List Nat} {L : List (Option MV)} {S : List MV} {σ : MSto} {c1 s1 : Nat} {k : MK} {r : MST} {n : Nat} (hd : decode cc pc = .ok (.aload n, 2)) (hk : ∀ st, k st = some r → mWP p l e R s m args below meth c Q nL D A eb tL tB ad0 σ0 c0 s0 st) (h : x_aload KT P n (pc + 2) pc tg L S σ c1 s1 k = some r) : mWP p l e R s m args below meth c Q nL D A eb tL tB ad0 σ0 c0 s0 (pc, L, S, σ, c1, s1) := by
  unfold x_aload at h
  split at h
  · rename_i x hl
    intro ad H locs ls hW hS hv hL
    have hlv := hv.2 _ _ (mld_get hl)
    have ha := mld_at hL hl
    have hg := hk _ h ad H locs ls hW hS ⟨mlC hlv hv.1, hv.2⟩ hL
    rcases x with _ | ⟨kd, i⟩
    · exact lv_aloadN hx hb hd ha hg
    · exact lv_aload hx hb hd ha hg
  · cases h
theorem s_istore (hx : p.tables.exec = Jvm.exec) (hb : c.code = cc) {P : MP} {pc : Nat} {tg : List Nat} {L : List (Option MV)} {S : List MV} {σ : MSto} {c1 s1 : Nat} {k : MK} {r : MST} {n : Nat} (hd : decode cc pc = .ok (.istore n, 2)) (hk : ∀ st, k st = some r → mWP p l e R s m args below meth c Q nL D A eb tL tB ad0 σ0 c0 s0 st) (h : x_istore KT P n (pc + 2) pc tg L S σ c1 s1 k = some r) : mWP p l e R s m args below meth c Q nL D A eb tL tB ad0 σ0 c0 s0 (pc, L, S, σ, c1, s1) := by
  unfold x_istore at h
  split at h
  · rename_i x rr
    cases hn : Nat.blt (n) L.length with
    | false => rw [hn] at h; cases h
    | true =>
      rw [hn] at h
      simp only [cond_true, mforce_eq] at h
      have hn2 := blt_lt hn
      intro ad H locs ls hW hS hv hL
      exact lv_istore hx hb hd hL.has (Nat.lt_of_lt_of_le hn2 hL.2.2.1) rfl (fun ls' hls => hk _ h ad H locs ls' hW hS ⟨mlT hv.1, mlS1 hn2 trivial hv.2⟩ (mLs_st1 hL hn2 hls))
  · cases h
theorem s_lstore (hx : p.tables.exec = Jvm.exec) (hb : c.code = cc) {P : MP} {pc : Nat} {tg : List Nat} {L : List (Option MV)} {S : List MV} {σ : MSto} {c1 s1 : Nat} {k : MK} {r : MST} {n : Nat} (hd : decode cc pc = .ok (.lstore n, 2)) (hk : ∀ st, k st = some r → mWP p l e R s m args below meth c Q nL D A eb tL tB ad0 σ0 c0 s0 st) (h : x_lstore KT P n (pc + 2) pc tg L S σ c1 s1 k = some r) : mWP p l e R s m args below meth c Q nL D A eb tL tB ad0 σ0 c0 s0 (pc, L, S, σ, c1, s1) := by
  unfold x_lstore at h
  split at h
  · rename_i x rr
    cases hn : Nat.blt (n + 1) L.length with
    | false => rw [hn] at h; cases h
    | true =>
      rw [hn] at h
      simp only [cond_true, mforce_eq] at h
      have hn2 := blt_lt hn
      intro ad H locs ls hW hS hv hL
      exact lv_lstore hx hb hd hL.has (Nat.lt_of_lt_of_le hn2 hL.2.2.1) rfl (fun ls' hls => hk _ h ad H locs ls' hW hS ⟨mlT hv.1, mlS2 hn2 trivial hv.2⟩ (mLs_st2 hL hn2 hls))
  · cases h
theorem s_astore (hx : p.tables.exec = Jvm.exec) (hb : c.code = cc) {P : MP} {pc : Nat} {tg : List Nat} {L : List (Option MV)} {S : List MV} {σ : MSto} {c1 s1 : Nat} {k : MK} {r : MST} {n : Nat} (hd : decode cc pc = .ok (.astore n, 2)) (hk : ∀ st, k st = some r → mWP p l e R s m args below meth c Q nL D A eb tL tB ad0 σ0 c0 s0 st) (h : x_astore KT P n (pc + 2) pc tg L S σ c1 s1 k = some r) : mWP p l e R s m args below meth c Q nL D A eb tL tB ad0 σ0 c0 s0 (pc, L, S, σ, c1, s1) := by
  unfold x_astore at h
  split at h
  · rename_i x rr
    cases hn : Nat.blt (n) L.length with
    | false => rw [hn] at h; cases h
    | true =>
      rw [hn] at h
      simp only [cond_true, mforce_eq] at h
      have hn2 := blt_lt hn
      intro ad H locs ls hW hS hv hL
      have hlv := mlH hv.1
      rcases x with _ | ⟨kd, i⟩
      · exact lv_astoreN hx hb hd hL.has (Nat.lt_of_lt_of_le hn2 hL.2.2.1) rfl (fun ls' hls => hk _ h ad H locs ls' hW hS ⟨mlT hv.1, mlS1 hn2 hlv hv.2⟩ (mLs_st1 hL hn2 hls))
      · exact lv_astore hx hb hd hL.has (Nat.lt_of_lt_of_le hn2 hL.2.2.1) rfl (fun ls' hls => hk _ h ad H locs ls' hW hS ⟨mlT hv.1, mlS1 hn2 hlv hv.2⟩ (mLs_st1 hL hn2 hls))
  · cases h
theorem s_aload_n (hx : p.tables.exec = Jvm.exec) (hb : c.code = cc) {P : MP} {pc : Nat} {tg : List Nat} {L : List (Option MV)} {S : List MV} {σ : MSto} {c1 s1 : Nat} {k : MK} {r : MST} {n : Fin 4} (hd : decode cc pc = .ok (.aload_n n, 1)) (hk : ∀ st, k st = some r → mWP p l e R s m args below meth c Q nL D A eb tL tB ad0 σ0 c0 s0 st) (h : x_aload_n KT P n (pc + 1) pc tg L S σ c1 s1 k = some r) : mWP p l e R s m args below meth c Q nL D A eb tL tB ad0 σ0 c0 s0 (pc, L, S, σ, c1, s1) := by
  unfold x_aload_n at h
  split at h
  · rename_i x hl
    intro ad H locs ls hW hS hv hL
    have hlv := hv.2 _ _ (mld_get hl)
    have ha := mld_at hL hl
    have hg := hk _ h ad H locs ls hW hS ⟨mlC hlv hv.1, hv.2⟩ hL
    rcases x with _ | ⟨kd, i⟩
    · exact lv_aload_nN hx hb hd rfl ha hg
    · exact lv_aload_n hx hb hd rfl ha hg
  · cases h
theorem s_istore_n (hx : p.tables.exec = Jvm.exec) (hb : c.code = cc) {P : MP} {pc : Nat} {tg : List Nat} {L : List (Option MV)} {S : List MV} {σ : MSto} {c1 s1 : Nat} {k : MK} {r : MST} {n : Fin 4} (hd : decode cc pc = .ok (.istore_n n, 1)) (hk : ∀ st, k st = some r → mWP p l e R s m args below meth c Q nL D A eb tL tB ad0 σ0 c0 s0 st) (h : x_istore_n KT P n (pc + 1) pc tg L S σ c1 s1 k = some r) : mWP p l e R s m args below meth c Q nL D A eb tL tB ad0 σ0 c0 s0 (pc, L, S, σ, c1, s1) := by
  unfold x_istore_n at h
  split at h
  · rename_i x rr
    cases hn : Nat.blt (n.val) L.length with
    | false => rw [hn] at h; cases h
    | true =>
      rw [hn] at h
      simp only [cond_true, mforce_eq] at h
      have hn2 := blt_lt hn
      intro ad H locs ls hW hS hv hL
      exact lv_istore_n hx hb hd rfl hL.has (Nat.lt_of_lt_of_le hn2 hL.2.2.1) rfl (fun ls' hls => hk _ h ad H locs ls' hW hS ⟨mlT hv.1, mlS1 hn2 trivial hv.2⟩ (mLs_st1 hL hn2 hls))
  · cases h
theorem s_lstore_n (hx : p.tables.exec = Jvm.exec) (hb : c.code = cc) {P : MP} {pc : Nat} {tg : List Nat} {L : List (Option MV)} {S : List MV} {σ : MSto} {c1 s1 : Nat} {k : MK} {r : MST} {n : Fin 4} (hd : decode cc pc = .ok (.lstore_n n, 1)) (hk : ∀ st, k st = some r → mWP p l e R s m args below meth c Q nL D A eb tL tB ad0 σ0 c0 s0 st) (h : x_lstore_n KT P n (pc + 1) pc tg L S σ c1 s1 k = some r) : mWP p l e R s m args below meth c Q nL D A eb tL tB ad0 σ0 c0 s0 (pc, L, S, σ, c1, s1) := by
  unfold x_lstore_n at h
  split at h
  · rename_i x rr
    cases hn : Nat.blt (n.val + 1) L.length with
    | false => rw [hn] at h; cases h
    | true =>
      rw [hn] at h
      simp only [cond_true, mforce_eq] at h
      have hn2 := blt_lt hn
      intro ad H locs ls hW hS hv hL
      exact lv_lstore_n hx hb hd rfl hL.has (Nat.lt_of_lt_of_le hn2 hL.2.2.1) rfl (fun ls' hls => hk _ h ad H locs ls' hW hS ⟨mlT hv.1, mlS2 hn2 trivial hv.2⟩ (mLs_st2 hL hn2 hls))
  · cases h
theorem s_astore_n (hx : p.tables.exec = Jvm.exec) (hb : c.code = cc) {P : MP} {pc : Nat} {tg : List Nat} {L : List (Option MV)} {S : List MV} {σ : MSto} {c1 s1 : Nat} {k : MK} {r : MST} {n : Fin 4} (hd : decode cc pc = .ok (.astore_n n, 1)) (hk : ∀ st, k st = some r → mWP p l e R s m args below meth c Q nL D A eb tL tB ad0 σ0 c0 s0 st) (h : x_astore_n KT P n (pc + 1) pc tg L S σ c1 s1 k = some r) : mWP p l e R s m args below meth c Q nL D A eb tL tB ad0 σ0 c0 s0 (pc, L, S, σ, c1, s1) := by
  unfold x_astore_n at h
  split at h
  · rename_i x rr
    cases hn : Nat.blt (n.val) L.length with
    | false => rw [hn] at h; cases h
    | true =>
      rw [hn] at h
      simp only [cond_true, mforce_eq] at h
      have hn2 := blt_lt hn
      intro ad H locs ls hW hS hv hL
      have hlv := mlH hv.1
      rcases x with _ | ⟨kd, i⟩
      · exact lv_astore_nN hx hb hd rfl hL.has (Nat.lt_of_lt_of_le hn2 hL.2.2.1) rfl (fun ls' hls => hk _ h ad H locs ls' hW hS ⟨mlT hv.1, mlS1 hn2 hlv hv.2⟩ (mLs_st1 hL hn2 hls))
      · exact lv_astore_n hx hb hd rfl hL.has (Nat.lt_of_lt_of_le hn2 hL.2.2.1) rfl (fun ls' hls => hk _ h ad H locs ls' hW hS ⟨mlT hv.1, mlS1 hn2 hlv hv.2⟩ (mLs_st1 hL hn2 hls))
  · cases h
theorem s_iinc (hx : p.tables.exec = Jvm.exec) (hb : c.code = cc) {P : MP} {pc : Nat} {tg : List Nat} {L : List (Option MV)} {S : List MV} {σ : MSto} {c1 s1 : Nat} {k : MK} {r : MST} {n : Nat} {d : Int} (hd : decode cc pc = .ok (.iinc n d, 3)) (hk : ∀ st, k st = some r → mWP p l e R s m args below meth c Q nL D A eb tL tB ad0 σ0 c0 s0 st) (h : x_iinc KT P n d (pc + 3) pc tg L S σ c1 s1 k = some r) : mWP p l e R s m args below meth c Q nL D A eb tL tB ad0 σ0 c0 s0 (pc, L, S, σ, c1, s1) := by
  unfold x_iinc at h
  split at h
  · rename_i x hl
    cases hn : Nat.blt n L.length with
    | false => rw [hn] at h; cases h
    | true =>
      rw [hn] at h
      simp only [cond_true, mforce_eq] at h
      have hn2 := blt_lt hn
      intro ad H locs ls hW hS hv hL
      obtain ⟨kp, hkp⟩ := List.getElem?_of_mem (mLl_mem (ad := ad) (L := L) (q := (n, .int x)) |>.mpr ⟨mI x, mld_get hl, rfl⟩)
      exact lv_iinc hx hb hd hL.has hkp rfl (Nat.lt_of_lt_of_le hn2 hL.2.2.1) rfl (fun ls' hls => hk _ h ad H locs ls' hW hS ⟨hv.1, mlS1 hn2 trivial hv.2⟩ (mLs_st1 hL hn2 hls))
  · cases h
theorem s_iconst (hx : p.tables.exec = Jvm.exec) (hb : c.code = cc) {P : MP} {pc : Nat} {tg : List Nat} {L : List (Option MV)} {S : List MV} {σ : MSto} {c1 s1 : Nat} {k : MK} {r : MST} {n : Int} (hd : decode cc pc = .ok (.iconst n, 1)) (hk : ∀ st, k st = some r → mWP p l e R s m args below meth c Q nL D A eb tL tB ad0 σ0 c0 s0 st) (h : x_iconst KT P n (pc + 1) pc tg L S σ c1 s1 k = some r) : mWP p l e R s m args below meth c Q nL D A eb tL tB ad0 σ0 c0 s0 (pc, L, S, σ, c1, s1) := by
  unfold x_iconst at h
  intro ad H locs ls hW hS hv hL
  exact lv_iconst hx hb hd rfl (hk _ h ad H locs ls hW hS ⟨mlI _ hv.1, hv.2⟩ hL)
theorem s_bipush (hx : p.tables.exec = Jvm.exec) (hb : c.code = cc) {P : MP} {pc : Nat} {tg : List Nat} {L : List (Option MV)} {S : List MV} {σ : MSto} {c1 s1 : Nat} {k : MK} {r : MST} {n : Int} (hd : decode cc pc = .ok (.bipush n, 2)) (hk : ∀ st, k st = some r → mWP p l e R s m args below meth c Q nL D A eb tL tB ad0 σ0 c0 s0 st) (h : x_bipush KT P n (pc + 2) pc tg L S σ c1 s1 k = some r) : mWP p l e R s m args below meth c Q nL D A eb tL tB ad0 σ0 c0 s0 (pc, L, S, σ, c1, s1) := by
  unfold x_bipush at h
  intro ad H locs ls hW hS hv hL
  exact lv_bipush hx hb hd rfl (hk _ h ad H locs ls hW hS ⟨mlI _ hv.1, hv.2⟩ hL)
theorem s_sipush (hx : p.tables.exec = Jvm.exec) (hb : c.code = cc) {P : MP} {pc : Nat} {tg : List Nat} {L : List (Option MV)} {S : List MV} {σ : MSto} {c1 s1 : Nat} {k : MK} {r : MST} {n : Int} (hd : decode cc pc = .ok (.sipush n, 3)) (hk : ∀ st, k st = some r → mWP p l e R s m args below meth c Q nL D A eb tL tB ad0 σ0 c0 s0 st) (h : x_sipush KT P n (pc + 3) pc tg L S σ c1 s1 k = some r) : mWP p l e R s m args below meth c Q nL D A eb tL tB ad0 σ0 c0 s0 (pc, L, S, σ, c1, s1) := by
  unfold x_sipush at h
  intro ad H locs ls hW hS hv hL
  exact lv_sipush hx hb hd rfl (hk _ h ad H locs ls hW hS ⟨mlI _ hv.1, hv.2⟩ hL)
theorem s_lconst (hx : p.tables.exec = Jvm.exec) (hb : c.code = cc) {P : MP} {pc : Nat} {tg : List Nat} {L : List (Option MV)} {S : List MV} {σ : MSto} {c1 s1 : Nat} {k : MK} {r : MST} {n : Fin 2} (hd : decode cc pc = .ok (.lconst n, 1)) (hk : ∀ st, k st = some r → mWP p l e R s m args below meth c Q nL D A eb tL tB ad0 σ0 c0 s0 st) (h : x_lconst KT P n (pc + 1) pc tg L S σ c1 s1 k = some r) : mWP p l e R s m args below meth c Q nL D A eb tL tB ad0 σ0 c0 s0 (pc, L, S, σ, c1, s1) := by
  unfold x_lconst at h
  intro ad H locs ls hW hS hv hL
  exact lv_lconst hx hb hd rfl (hk _ h ad H locs ls hW hS ⟨mlJ _ hv.1, hv.2⟩ hL)
theorem s_aconst_null (hx : p.tables.exec = Jvm.exec) (hb : c.code = cc) {P : MP} {pc : Nat} {tg : List Nat} {L : List (Option MV)} {S : List MV} {σ : MSto} {c1 s1 : Nat} {k : MK} {r : MST}  (hd : decode cc pc = .ok (.aconst_null, 1)) (hk : ∀ st, k st = some r → mWP p l e R s m args below meth c Q nL D A eb tL tB ad0 σ0 c0 s0 st) (h : x_aconst_null KT P  (pc + 1) pc tg L S σ c1 s1 k = some r) : mWP p l e R s m args below meth c Q nL D A eb tL tB ad0 σ0 c0 s0 (pc, L, S, σ, c1, s1) := by
  unfold x_aconst_null at h
  intro ad H locs ls hW hS hv hL
  exact lv_null hx hb hd (hk _ h ad H locs ls hW hS ⟨mlN hv.1, hv.2⟩ hL)
theorem s_ldc (hx : p.tables.exec = Jvm.exec) (hb : c.code = cc) {P : MP} {pc : Nat} {tg : List Nat} {L : List (Option MV)} {S : List MV} {σ : MSto} {c1 s1 : Nat} {k : MK} {r : MST} {n : Nat} (hown : s.vm.findClass own = some m.cls) (hT : mTab s) (hw : ∀ v : Int32, pCst P n = some (.inl v) → Cond.constant own n v ∈ lw_tbl) (hd : decode cc pc = .ok (.ldc n, 2)) (hk : ∀ st, k st = some r → mWP p l e R s m args below meth c Q nL D A eb tL tB ad0 σ0 c0 s0 st) (h : x_ldc KT P n (pc + 2) pc tg L S σ c1 s1 k = some r) : mWP p l e R s m args below meth c Q nL D A eb tL tB ad0 σ0 c0 s0 (pc, L, S, σ, c1, s1) := by
  unfold x_ldc at h
  split at h
  · rename_i x hl
    intro ad H locs ls hW hS hv hL
    exact lv_ldc hx hb hown (hT.use (hw _ hl) rfl) hd (hk _ h ad H locs ls hW hS ⟨mlI _ hv.1, hv.2⟩ hL)
  · cases h
theorem s_ldc_w (hx : p.tables.exec = Jvm.exec) (hb : c.code = cc) {P : MP} {pc : Nat} {tg : List Nat} {L : List (Option MV)} {S : List MV} {σ : MSto} {c1 s1 : Nat} {k : MK} {r : MST} {n : Nat} (hown : s.vm.findClass own = some m.cls) (hT : mTab s) (hw : ∀ v : Int32, pCst P n = some (.inl v) → Cond.constant own n v ∈ lw_tbl) (hd : decode cc pc = .ok (.ldc_w n, 3)) (hk : ∀ st, k st = some r → mWP p l e R s m args below meth c Q nL D A eb tL tB ad0 σ0 c0 s0 st) (h : x_ldc_w KT P n (pc + 3) pc tg L S σ c1 s1 k = some r) : mWP p l e R s m args below meth c Q nL D A eb tL tB ad0 σ0 c0 s0 (pc, L, S, σ, c1, s1) := by
  unfold x_ldc_w at h
  split at h
  · rename_i x hl
    intro ad H locs ls hW hS hv hL
    exact lv_ldcw hx hb hown (hT.use (hw _ hl) rfl) hd (hk _ h ad H locs ls hW hS ⟨mlI _ hv.1, hv.2⟩ hL)
  · cases h
theorem s_ldc2_w (hx : p.tables.exec = Jvm.exec) (hb : c.code = cc) {P : MP} {pc : Nat} {tg : List Nat} {L : List (Option MV)} {S : List MV} {σ : MSto} {c1 s1 : Nat} {k : MK} {r : MST} {n : Nat} (hown : s.vm.findClass own = some m.cls) (hT : mTab s) (hw : ∀ v : Int64, pCst P n = some (.inr v) → Cond.constantLong own n v ∈ lw_tbl) (hd : decode cc pc = .ok (.ldc2_w n, 3)) (hk : ∀ st, k st = some r → mWP p l e R s m args below meth c Q nL D A eb tL tB ad0 σ0 c0 s0 st) (h : x_ldc2_w KT P n (pc + 3) pc tg L S σ c1 s1 k = some r) : mWP p l e R s m args below meth c Q nL D A eb tL tB ad0 σ0 c0 s0 (pc, L, S, σ, c1, s1) := by
  unfold x_ldc2_w at h
  split at h
  · rename_i x hl
    intro ad H locs ls hW hS hv hL
    exact lv_ldc2 hx hb hown (hT.use (hw _ hl) rfl) hd (hk _ h ad H locs ls hW hS ⟨mlJ _ hv.1, hv.2⟩ hL)
  · cases h
theorem s_iadd (hx : p.tables.exec = Jvm.exec) (hb : c.code = cc) {P : MP} {pc : Nat} {tg : List Nat} {L : List (Option MV)} {S : List MV} {σ : MSto} {c1 s1 : Nat} {k : MK} {r : MST}  (hd : decode cc pc = .ok (.iadd, 1)) (hk : ∀ st, k st = some r → mWP p l e R s m args below meth c Q nL D A eb tL tB ad0 σ0 c0 s0 st) (h : x_iadd KT P  (pc + 1) pc tg L S σ c1 s1 k = some r) : mWP p l e R s m args below meth c Q nL D A eb tL tB ad0 σ0 c0 s0 (pc, L, S, σ, c1, s1) := by
  unfold x_iadd at h
  split at h
  · intro ad H locs ls hW hS hv hL
    exact lv_iadd hx hb hd (hk _ h ad H locs ls hW hS ⟨mlI _ (mlT (mlT hv.1)), hv.2⟩ hL)
  · cases h
theorem s_isub (hx : p.tables.exec = Jvm.exec) (hb : c.code = cc) {P : MP} {pc : Nat} {tg : List Nat} {L : List (Option MV)} {S : List MV} {σ : MSto} {c1 s1 : Nat} {k : MK} {r : MST}  (hd : decode cc pc = .ok (.isub, 1)) (hk : ∀ st, k st = some r → mWP p l e R s m args below meth c Q nL D A eb tL tB ad0 σ0 c0 s0 st) (h : x_isub KT P  (pc + 1) pc tg L S σ c1 s1 k = some r) : mWP p l e R s m args below meth c Q nL D A eb tL tB ad0 σ0 c0 s0 (pc, L, S, σ, c1, s1) := by
  unfold x_isub at h
  split at h
  · intro ad H locs ls hW hS hv hL
    exact lv_isub hx hb hd (hk _ h ad H locs ls hW hS ⟨mlI _ (mlT (mlT hv.1)), hv.2⟩ hL)
  · cases h
theorem s_imul (hx : p.tables.exec = Jvm.exec) (hb : c.code = cc) {P : MP} {pc : Nat} {tg : List Nat} {L : List (Option MV)} {S : List MV} {σ : MSto} {c1 s1 : Nat} {k : MK} {r : MST}  (hd : decode cc pc = .ok (.imul, 1)) (hk : ∀ st, k st = some r → mWP p l e R s m args below meth c Q nL D A eb tL tB ad0 σ0 c0 s0 st) (h : x_imul KT P  (pc + 1) pc tg L S σ c1 s1 k = some r) : mWP p l e R s m args below meth c Q nL D A eb tL tB ad0 σ0 c0 s0 (pc, L, S, σ, c1, s1) := by
  unfold x_imul at h
  split at h
  · intro ad H locs ls hW hS hv hL
    exact lv_imul hx hb hd (hk _ h ad H locs ls hW hS ⟨mlI _ (mlT (mlT hv.1)), hv.2⟩ hL)
  · cases h
theorem s_iand (hx : p.tables.exec = Jvm.exec) (hb : c.code = cc) {P : MP} {pc : Nat} {tg : List Nat} {L : List (Option MV)} {S : List MV} {σ : MSto} {c1 s1 : Nat} {k : MK} {r : MST}  (hd : decode cc pc = .ok (.iand, 1)) (hk : ∀ st, k st = some r → mWP p l e R s m args below meth c Q nL D A eb tL tB ad0 σ0 c0 s0 st) (h : x_iand KT P  (pc + 1) pc tg L S σ c1 s1 k = some r) : mWP p l e R s m args below meth c Q nL D A eb tL tB ad0 σ0 c0 s0 (pc, L, S, σ, c1, s1) := by
  unfold x_iand at h
  split at h
  · intro ad H locs ls hW hS hv hL
    exact lv_iand hx hb hd (hk _ h ad H locs ls hW hS ⟨mlI _ (mlT (mlT hv.1)), hv.2⟩ hL)
  · cases h
theorem s_ior (hx : p.tables.exec = Jvm.exec) (hb : c.code = cc) {P : MP} {pc : Nat} {tg : List Nat} {L : List (Option MV)} {S : List MV} {σ : MSto} {c1 s1 : Nat} {k : MK} {r : MST}  (hd : decode cc pc = .ok (.ior, 1)) (hk : ∀ st, k st = some r → mWP p l e R s m args below meth c Q nL D A eb tL tB ad0 σ0 c0 s0 st) (h : x_ior KT P  (pc + 1) pc tg L S σ c1 s1 k = some r) : mWP p l e R s m args below meth c Q nL D A eb tL tB ad0 σ0 c0 s0 (pc, L, S, σ, c1, s1) := by
  unfold x_ior at h
  split at h
  · intro ad H locs ls hW hS hv hL
    exact lv_ior hx hb hd (hk _ h ad H locs ls hW hS ⟨mlI _ (mlT (mlT hv.1)), hv.2⟩ hL)
  · cases h
theorem s_ixor (hx : p.tables.exec = Jvm.exec) (hb : c.code = cc) {P : MP} {pc : Nat} {tg : List Nat} {L : List (Option MV)} {S : List MV} {σ : MSto} {c1 s1 : Nat} {k : MK} {r : MST}  (hd : decode cc pc = .ok (.ixor, 1)) (hk : ∀ st, k st = some r → mWP p l e R s m args below meth c Q nL D A eb tL tB ad0 σ0 c0 s0 st) (h : x_ixor KT P  (pc + 1) pc tg L S σ c1 s1 k = some r) : mWP p l e R s m args below meth c Q nL D A eb tL tB ad0 σ0 c0 s0 (pc, L, S, σ, c1, s1) := by
  unfold x_ixor at h
  split at h
  · intro ad H locs ls hW hS hv hL
    exact lv_ixor hx hb hd (hk _ h ad H locs ls hW hS ⟨mlI _ (mlT (mlT hv.1)), hv.2⟩ hL)
  · cases h
theorem s_ishl (hx : p.tables.exec = Jvm.exec) (hb : c.code = cc) {P : MP} {pc : Nat} {tg : List Nat} {L : List (Option MV)} {S : List MV} {σ : MSto} {c1 s1 : Nat} {k : MK} {r : MST}  (hd : decode cc pc = .ok (.ishl, 1)) (hk : ∀ st, k st = some r → mWP p l e R s m args below meth c Q nL D A eb tL tB ad0 σ0 c0 s0 st) (h : x_ishl KT P  (pc + 1) pc tg L S σ c1 s1 k = some r) : mWP p l e R s m args below meth c Q nL D A eb tL tB ad0 σ0 c0 s0 (pc, L, S, σ, c1, s1) := by
  unfold x_ishl at h
  split at h
  · intro ad H locs ls hW hS hv hL
    exact lv_ishl hx hb hd (hk _ h ad H locs ls hW hS ⟨mlI _ (mlT (mlT hv.1)), hv.2⟩ hL)
  · cases h
theorem s_ishr (hx : p.tables.exec = Jvm.exec) (hb : c.code = cc) {P : MP} {pc : Nat} {tg : List Nat} {L : List (Option MV)} {S : List MV} {σ : MSto} {c1 s1 : Nat} {k : MK} {r : MST}  (hd : decode cc pc = .ok (.ishr, 1)) (hk : ∀ st, k st = some r → mWP p l e R s m args below meth c Q nL D A eb tL tB ad0 σ0 c0 s0 st) (h : x_ishr KT P  (pc + 1) pc tg L S σ c1 s1 k = some r) : mWP p l e R s m args below meth c Q nL D A eb tL tB ad0 σ0 c0 s0 (pc, L, S, σ, c1, s1) := by
  unfold x_ishr at h
  split at h
  · intro ad H locs ls hW hS hv hL
    exact lv_ishr hx hb hd (hk _ h ad H locs ls hW hS ⟨mlI _ (mlT (mlT hv.1)), hv.2⟩ hL)
  · cases h
theorem s_iushr (hx : p.tables.exec = Jvm.exec) (hb : c.code = cc) {P : MP} {pc : Nat} {tg : List Nat} {L : List (Option MV)} {S : List MV} {σ : MSto} {c1 s1 : Nat} {k : MK} {r : MST}  (hd : decode cc pc = .ok (.iushr, 1)) (hk : ∀ st, k st = some r → mWP p l e R s m args below meth c Q nL D A eb tL tB ad0 σ0 c0 s0 st) (h : x_iushr KT P  (pc + 1) pc tg L S σ c1 s1 k = some r) : mWP p l e R s m args below meth c Q nL D A eb tL tB ad0 σ0 c0 s0 (pc, L, S, σ, c1, s1) := by
  unfold x_iushr at h
  split at h
  · intro ad H locs ls hW hS hv hL
    exact lv_iushr hx hb hd rfl (hk _ h ad H locs ls hW hS ⟨mlI _ (mlT (mlT hv.1)), hv.2⟩ hL)
  · cases h
theorem s_ladd (hx : p.tables.exec = Jvm.exec) (hb : c.code = cc) {P : MP} {pc : Nat} {tg : List Nat} {L : List (Option MV)} {S : List MV} {σ : MSto} {c1 s1 : Nat} {k : MK} {r : MST}  (hd : decode cc pc = .ok (.ladd, 1)) (hk : ∀ st, k st = some r → mWP p l e R s m args below meth c Q nL D A eb tL tB ad0 σ0 c0 s0 st) (h : x_ladd KT P  (pc + 1) pc tg L S σ c1 s1 k = some r) : mWP p l e R s m args below meth c Q nL D A eb tL tB ad0 σ0 c0 s0 (pc, L, S, σ, c1, s1) := by
  unfold x_ladd at h
  split at h
  · intro ad H locs ls hW hS hv hL
    exact lv_ladd hx hb hd (hk _ h ad H locs ls hW hS ⟨mlJ _ (mlT (mlT hv.1)), hv.2⟩ hL)
  · cases h
theorem s_lsub (hx : p.tables.exec = Jvm.exec) (hb : c.code = cc) {P : MP} {pc : Nat} {tg : List Nat} {L : List (Option MV)} {S : List MV} {σ : MSto} {c1 s1 : Nat} {k : MK} {r : MST}  (hd : decode cc pc = .ok (.lsub, 1)) (hk : ∀ st, k st = some r → mWP p l e R s m args below meth c Q nL D A eb tL tB ad0 σ0 c0 s0 st) (h : x_lsub KT P  (pc + 1) pc tg L S σ c1 s1 k = some r) : mWP p l e R s m args below meth c Q nL D A eb tL tB ad0 σ0 c0 s0 (pc, L, S, σ, c1, s1) := by
  unfold x_lsub at h
  split at h
  · intro ad H locs ls hW hS hv hL
    exact lv_lsub hx hb hd (hk _ h ad H locs ls hW hS ⟨mlJ _ (mlT (mlT hv.1)), hv.2⟩ hL)
  · cases h
theorem s_lmul (hx : p.tables.exec = Jvm.exec) (hb : c.code = cc) {P : MP} {pc : Nat} {tg : List Nat} {L : List (Option MV)} {S : List MV} {σ : MSto} {c1 s1 : Nat} {k : MK} {r : MST}  (hd : decode cc pc = .ok (.lmul, 1)) (hk : ∀ st, k st = some r → mWP p l e R s m args below meth c Q nL D A eb tL tB ad0 σ0 c0 s0 st) (h : x_lmul KT P  (pc + 1) pc tg L S σ c1 s1 k = some r) : mWP p l e R s m args below meth c Q nL D A eb tL tB ad0 σ0 c0 s0 (pc, L, S, σ, c1, s1) := by
  unfold x_lmul at h
  split at h
  · intro ad H locs ls hW hS hv hL
    exact lv_lmul hx hb hd (hk _ h ad H locs ls hW hS ⟨mlJ _ (mlT (mlT hv.1)), hv.2⟩ hL)
  · cases h
theorem s_lcmp (hx : p.tables.exec = Jvm.exec) (hb : c.code = cc) {P : MP} {pc : Nat} {tg : List Nat} {L : List (Option MV)} {S : List MV} {σ : MSto} {c1 s1 : Nat} {k : MK} {r : MST}  (hd : decode cc pc = .ok (.lcmp, 1)) (hk : ∀ st, k st = some r → mWP p l e R s m args below meth c Q nL D A eb tL tB ad0 σ0 c0 s0 st) (h : x_lcmp KT P  (pc + 1) pc tg L S σ c1 s1 k = some r) : mWP p l e R s m args below meth c Q nL D A eb tL tB ad0 σ0 c0 s0 (pc, L, S, σ, c1, s1) := by
  unfold x_lcmp at h
  split at h
  · intro ad H locs ls hW hS hv hL
    exact W.lcmp hx hb hd (hk _ h ad H locs ls hW hS ⟨mlI _ (mlT (mlT hv.1)), hv.2⟩ hL)
  · cases h
theorem s_idiv (hx : p.tables.exec = Jvm.exec) (hb : c.code = cc) {P : MP} {pc : Nat} {tg : List Nat} {L : List (Option MV)} {S : List MV} {σ : MSto} {c1 s1 : Nat} {k : MK} {r : MST}  (hd : decode cc pc = .ok (.idiv, 1)) (hk : ∀ st, k st = some r → mWP p l e R s m args below meth c Q nL D A eb tL tB ad0 σ0 c0 s0 st) (h : x_idiv KT P  (pc + 1) pc tg L S σ c1 s1 k = some r) : mWP p l e R s m args below meth c Q nL D A eb tL tB ad0 σ0 c0 s0 (pc, L, S, σ, c1, s1) := by
  unfold x_idiv at h
  split at h
  · obtain ⟨hne, h⟩ := mG_some h
    intro ad H locs ls hW hS hv hL
    exact lv_idiv hx hb hd hne (hk _ h ad H locs ls hW hS ⟨mlI _ (mlT (mlT hv.1)), hv.2⟩ hL)
  · cases h
theorem s_irem (hx : p.tables.exec = Jvm.exec) (hb : c.code = cc) {P : MP} {pc : Nat} {tg : List Nat} {L : List (Option MV)} {S : List MV} {σ : MSto} {c1 s1 : Nat} {k : MK} {r : MST}  (hd : decode cc pc = .ok (.irem, 1)) (hk : ∀ st, k st = some r → mWP p l e R s m args below meth c Q nL D A eb tL tB ad0 σ0 c0 s0 st) (h : x_irem KT P  (pc + 1) pc tg L S σ c1 s1 k = some r) : mWP p l e R s m args below meth c Q nL D A eb tL tB ad0 σ0 c0 s0 (pc, L, S, σ, c1, s1) := by
  unfold x_irem at h
  split at h
  · obtain ⟨hne, h⟩ := mG_some h
    intro ad H locs ls hW hS hv hL
    exact lv_irem hx hb hd hne (hk _ h ad H locs ls hW hS ⟨mlI _ (mlT (mlT hv.1)), hv.2⟩ hL)
  · cases h
theorem s_ldiv (hx : p.tables.exec = Jvm.exec) (hb : c.code = cc) {P : MP} {pc : Nat} {tg : List Nat} {L : List (Option MV)} {S : List MV} {σ : MSto} {c1 s1 : Nat} {k : MK} {r : MST}  (hd : decode cc pc = .ok (.ldiv, 1)) (hk : ∀ st, k st = some r → mWP p l e R s m args below meth c Q nL D A eb tL tB ad0 σ0 c0 s0 st) (h : x_ldiv KT P  (pc + 1) pc tg L S σ c1 s1 k = some r) : mWP p l e R s m args below meth c Q nL D A eb tL tB ad0 σ0 c0 s0 (pc, L, S, σ, c1, s1) := by
  unfold x_ldiv at h
  split at h
  · obtain ⟨hne, h⟩ := mG_some h
    intro ad H locs ls hW hS hv hL
    exact lv_ldiv hx hb hd hne (hk _ h ad H locs ls hW hS ⟨mlJ _ (mlT (mlT hv.1)), hv.2⟩ hL)
  · cases h
theorem s_lrem (hx : p.tables.exec = Jvm.exec) (hb : c.code = cc) {P : MP} {pc : Nat} {tg : List Nat} {L : List (Option MV)} {S : List MV} {σ : MSto} {c1 s1 : Nat} {k : MK} {r : MST}  (hd : decode cc pc = .ok (.lrem, 1)) (hk : ∀ st, k st = some r → mWP p l e R s m args below meth c Q nL D A eb tL tB ad0 σ0 c0 s0 st) (h : x_lrem KT P  (pc + 1) pc tg L S σ c1 s1 k = some r) : mWP p l e R s m args below meth c Q nL D A eb tL tB ad0 σ0 c0 s0 (pc, L, S, σ, c1, s1) := by
  unfold x_lrem at h
  split at h
  · obtain ⟨hne, h⟩ := mG_some h
    intro ad H locs ls hW hS hv hL
    exact lv_lrem hx hb hd hne (hk _ h ad H locs ls hW hS ⟨mlJ _ (mlT (mlT hv.1)), hv.2⟩ hL)
  · cases h
theorem s_ineg (hx : p.tables.exec = Jvm.exec) (hb : c.code = cc) {P : MP} {pc : Nat} {tg : List Nat} {L : List (Option MV)} {S : List MV} {σ : MSto} {c1 s1 : Nat} {k : MK} {r : MST}  (hd : decode cc pc = .ok (.ineg, 1)) (hk : ∀ st, k st = some r → mWP p l e R s m args below meth c Q nL D A eb tL tB ad0 σ0 c0 s0 st) (h : x_ineg KT P  (pc + 1) pc tg L S σ c1 s1 k = some r) : mWP p l e R s m args below meth c Q nL D A eb tL tB ad0 σ0 c0 s0 (pc, L, S, σ, c1, s1) := by
  unfold x_ineg at h
  split at h
  · intro ad H locs ls hW hS hv hL
    exact lv_ineg hx hb hd (hk _ h ad H locs ls hW hS ⟨mlI _ (mlT hv.1), hv.2⟩ hL)
  · cases h
theorem s_lneg (hx : p.tables.exec = Jvm.exec) (hb : c.code = cc) {P : MP} {pc : Nat} {tg : List Nat} {L : List (Option MV)} {S : List MV} {σ : MSto} {c1 s1 : Nat} {k : MK} {r : MST}  (hd : decode cc pc = .ok (.lneg, 1)) (hk : ∀ st, k st = some r → mWP p l e R s m args below meth c Q nL D A eb tL tB ad0 σ0 c0 s0 st) (h : x_lneg KT P  (pc + 1) pc tg L S σ c1 s1 k = some r) : mWP p l e R s m args below meth c Q nL D A eb tL tB ad0 σ0 c0 s0 (pc, L, S, σ, c1, s1) := by
  unfold x_lneg at h
  split at h
  · intro ad H locs ls hW hS hv hL
    exact lv_lneg hx hb hd (hk _ h ad H locs ls hW hS ⟨mlJ _ (mlT hv.1), hv.2⟩ hL)
  · cases h
theorem s_i2l (hx : p.tables.exec = Jvm.exec) (hb : c.code = cc) {P : MP} {pc : Nat} {tg : List Nat} {L : List (Option MV)} {S : List MV} {σ : MSto} {c1 s1 : Nat} {k : MK} {r : MST}  (hd : decode cc pc = .ok (.i2l, 1)) (hk : ∀ st, k st = some r → mWP p l e R s m args below meth c Q nL D A eb tL tB ad0 σ0 c0 s0 st) (h : x_i2l KT P  (pc + 1) pc tg L S σ c1 s1 k = some r) : mWP p l e R s m args below meth c Q nL D A eb tL tB ad0 σ0 c0 s0 (pc, L, S, σ, c1, s1) := by
  unfold x_i2l at h
  split at h
  · intro ad H locs ls hW hS hv hL
    exact lv_i2l hx hb hd rfl (hk _ h ad H locs ls hW hS ⟨mlJ _ (mlT hv.1), hv.2⟩ hL)
  · cases h
theorem s_l2i (hx : p.tables.exec = Jvm.exec) (hb : c.code = cc) {P : MP} {pc : Nat} {tg : List Nat} {L : List (Option MV)} {S : List MV} {σ : MSto} {c1 s1 : Nat} {k : MK} {r : MST}  (hd : decode cc pc = .ok (.l2i, 1)) (hk : ∀ st, k st = some r → mWP p l e R s m args below meth c Q nL D A eb tL tB ad0 σ0 c0 s0 st) (h : x_l2i KT P  (pc + 1) pc tg L S σ c1 s1 k = some r) : mWP p l e R s m args below meth c Q nL D A eb tL tB ad0 σ0 c0 s0 (pc, L, S, σ, c1, s1) := by
  unfold x_l2i at h
  split at h
  · intro ad H locs ls hW hS hv hL
    exact lv_l2i hx hb hd rfl (hk _ h ad H locs ls hW hS ⟨mlI _ (mlT hv.1), hv.2⟩ hL)
  · cases h
theorem s_i2b (hx : p.tables.exec = Jvm.exec) (hb : c.code = cc) {P : MP} {pc : Nat} {tg : List Nat} {L : List (Option MV)} {S : List MV} {σ : MSto} {c1 s1 : Nat} {k : MK} {r : MST}  (hd : decode cc pc = .ok (.i2b, 1)) (hk : ∀ st, k st = some r → mWP p l e R s m args below meth c Q nL D A eb tL tB ad0 σ0 c0 s0 st) (h : x_i2b KT P  (pc + 1) pc tg L S σ c1 s1 k = some r) : mWP p l e R s m args below meth c Q nL D A eb tL tB ad0 σ0 c0 s0 (pc, L, S, σ, c1, s1) := by
  unfold x_i2b at h
  split at h
  · intro ad H locs ls hW hS hv hL
    exact lv_i2b hx hb hd rfl (hk _ h ad H locs ls hW hS ⟨mlI _ (mlT hv.1), hv.2⟩ hL)
  · cases h
theorem s_i2s (hx : p.tables.exec = Jvm.exec) (hb : c.code = cc) {P : MP} {pc : Nat} {tg : List Nat} {L : List (Option MV)} {S : List MV} {σ : MSto} {c1 s1 : Nat} {k : MK} {r : MST}  (hd : decode cc pc = .ok (.i2s, 1)) (hk : ∀ st, k st = some r → mWP p l e R s m args below meth c Q nL D A eb tL tB ad0 σ0 c0 s0 st) (h : x_i2s KT P  (pc + 1) pc tg L S σ c1 s1 k = some r) : mWP p l e R s m args below meth c Q nL D A eb tL tB ad0 σ0 c0 s0 (pc, L, S, σ, c1, s1) := by
  unfold x_i2s at h
  split at h
  · intro ad H locs ls hW hS hv hL
    exact lv_i2s hx hb hd rfl (hk _ h ad H locs ls hW hS ⟨mlI _ (mlT hv.1), hv.2⟩ hL)
  · cases h
theorem s_i2c (hx : p.tables.exec = Jvm.exec) (hb : c.code = cc) {P : MP} {pc : Nat} {tg : List Nat} {L : List (Option MV)} {S : List MV} {σ : MSto} {c1 s1 : Nat} {k : MK} {r : MST}  (hd : decode cc pc = .ok (.i2c, 1)) (hk : ∀ st, k st = some r → mWP p l e R s m args below meth c Q nL D A eb tL tB ad0 σ0 c0 s0 st) (h : x_i2c KT P  (pc + 1) pc tg L S σ c1 s1 k = some r) : mWP p l e R s m args below meth c Q nL D A eb tL tB ad0 σ0 c0 s0 (pc, L, S, σ, c1, s1) := by
  unfold x_i2c at h
  split at h
  · intro ad H locs ls hW hS hv hL
    exact lv_i2c hx hb hd rfl (hk _ h ad H locs ls hW hS ⟨mlI _ (mlT hv.1), hv.2⟩ hL)
  · cases h
theorem s_dup (hx : p.tables.exec = Jvm.exec) (hb : c.code = cc) {P : MP} {pc : Nat} {tg : List Nat} {L : List (Option MV)} {S : List MV} {σ : MSto} {c1 s1 : Nat} {k : MK} {r : MST}  (hd : decode cc pc = .ok (.dup, 1)) (hk : ∀ st, k st = some r → mWP p l e R s m args below meth c Q nL D A eb tL tB ad0 σ0 c0 s0 st) (h : x_dup KT P  (pc + 1) pc tg L S σ c1 s1 k = some r) : mWP p l e R s m args below meth c Q nL D A eb tL tB ad0 σ0 c0 s0 (pc, L, S, σ, c1, s1) := by
  unfold x_dup at h
  split at h
  · rename_i v rr
    cases hc : Nat.beq (mcat v) 1 with
    | false => rw [hc] at h; cases h
    | true =>
      rw [hc] at h
      intro ad H locs ls hW hS hv hL
      exact lv_dup hx hb hd (by rw [mVal_cat]; exact Nat.eq_of_beq_eq_true hc) (hk _ h ad H locs ls hW hS ⟨mlC (mlH hv.1) hv.1, hv.2⟩ hL)
  · cases h
theorem s_pop (hx : p.tables.exec = Jvm.exec) (hb : c.code = cc) {P : MP} {pc : Nat} {tg : List Nat} {L : List (Option MV)} {S : List MV} {σ : MSto} {c1 s1 : Nat} {k : MK} {r : MST}  (hd : decode cc pc = .ok (.pop, 1)) (hk : ∀ st, k st = some r → mWP p l e R s m args below meth c Q nL D A eb tL tB ad0 σ0 c0 s0 st) (h : x_pop KT P  (pc + 1) pc tg L S σ c1 s1 k = some r) : mWP p l e R s m args below meth c Q nL D A eb tL tB ad0 σ0 c0 s0 (pc, L, S, σ, c1, s1) := by
  unfold x_pop at h
  split at h
  · rename_i v rr
    cases hc : Nat.beq (mcat v) 1 with
    | false => rw [hc] at h; cases h
    | true =>
      rw [hc] at h
      intro ad H locs ls hW hS hv hL
      exact lv_pop hx hb hd (by rw [mVal_cat]; exact Nat.eq_of_beq_eq_true hc) (hk _ h ad H locs ls hW hS ⟨mlT hv.1, hv.2⟩ hL)
  · cases h
theorem s_dup_x1 (hx : p.tables.exec = Jvm.exec) (hb : c.code = cc) {P : MP} {pc : Nat} {tg : List Nat} {L : List (Option MV)} {S : List MV} {σ : MSto} {c1 s1 : Nat} {k : MK} {r : MST}  (hd : decode cc pc = .ok (.dup_x1, 1)) (hk : ∀ st, k st = some r → mWP p l e R s m args below meth c Q nL D A eb tL tB ad0 σ0 c0 s0 st) (h : x_dup_x1 KT P  (pc + 1) pc tg L S σ c1 s1 k = some r) : mWP p l e R s m args below meth c Q nL D A eb tL tB ad0 σ0 c0 s0 (pc, L, S, σ, c1, s1) := by
  unfold x_dup_x1 at h
  split at h
  · rename_i v u rr
    cases hc : (Nat.beq (mcat v) 1 && Nat.beq (mcat u) 1) with
    | false => rw [hc] at h; cases h
    | true =>
      rw [hc] at h
      rw [Bool.and_eq_true] at hc
      intro ad H locs ls hW hS hv hL
      exact lv_dup_x1 hx hb hd (by rw [mVal_cat]; exact Nat.eq_of_beq_eq_true hc.1) (by rw [mVal_cat]; exact Nat.eq_of_beq_eq_true hc.2) (hk _ h ad H locs ls hW hS ⟨mlC (mlH hv.1) (mlC (mlH (mlT hv.1)) (mlC (mlH hv.1) (mlT (mlT hv.1)))), hv.2⟩ hL)
  · cases h
theorem s_dup2 (hx : p.tables.exec = Jvm.exec) (hb : c.code = cc) {P : MP} {pc : Nat} {tg : List Nat} {L : List (Option MV)} {S : List MV} {σ : MSto} {c1 s1 : Nat} {k : MK} {r : MST}  (hd : decode cc pc = .ok (.dup2, 1)) (hk : ∀ st, k st = some r → mWP p l e R s m args below meth c Q nL D A eb tL tB ad0 σ0 c0 s0 st) (h : x_dup2 KT P  (pc + 1) pc tg L S σ c1 s1 k = some r) : mWP p l e R s m args below meth c Q nL D A eb tL tB ad0 σ0 c0 s0 (pc, L, S, σ, c1, s1) := by
  unfold x_dup2 at h
  split at h
  · rename_i v u rr
    cases hc : (Nat.beq (mcat v) 1 && Nat.beq (mcat u) 1) with
    | false => rw [hc] at h; cases h
    | true =>
      rw [hc] at h
      rw [Bool.and_eq_true] at hc
      intro ad H locs ls hW hS hv hL
      exact lv_dup2_11 hx hb hd (by rw [mVal_cat]; exact Nat.eq_of_beq_eq_true hc.1) (by rw [mVal_cat]; exact Nat.eq_of_beq_eq_true hc.2) (hk _ h ad H locs ls hW hS ⟨mlC (mlH hv.1) (mlC (mlH (mlT hv.1)) hv.1), hv.2⟩ hL)
  · cases h
theorem s_goto (hx : p.tables.exec = Jvm.exec) (hb : c.code = cc) {P : MP} {pc : Nat} {tg : List Nat} {L : List (Option MV)} {S : List MV} {σ : MSto} {c1 s1 : Nat} {k : MK} {r : MST} {off : Int} (ht : ∀ t, tg = [t] → (pc : Int) + off = (t : Int)) (hd : decode cc pc = .ok (.goto off, 3)) (hk : ∀ st, k st = some r → mWP p l e R s m args below meth c Q nL D A eb tL tB ad0 σ0 c0 s0 st) (h : x_goto KT P  (pc + 3) pc tg L S σ c1 s1 k = some r) : mWP p l e R s m args below meth c Q nL D A eb tL tB ad0 σ0 c0 s0 (pc, L, S, σ, c1, s1) := by
  unfold x_goto at h
  split at h
  · intro ad H locs ls hW hS hv hL
    exact lv_goto hx hb hd (ht _ rfl) (hk _ h ad H locs ls hW hS hv hL)
  · cases h
theorem s_ifCond (hx : p.tables.exec = Jvm.exec) (hb : c.code = cc) {P : MP} {pc : Nat} {tg : List Nat} {L : List (Option MV)} {S : List MV} {σ : MSto} {c1 s1 : Nat} {k : MK} {r : MST} {cd : ClassFile.Cond} {off : Int} (ht : ∀ t, tg = [t] → (pc : Int) + off = (t : Int)) (hd : decode cc pc = .ok (.ifCond cd off, 3)) (hk : ∀ st, k st = some r → mWP p l e R s m args below meth c Q nL D A eb tL tB ad0 σ0 c0 s0 st) (h : x_ifCond KT P cd (pc + 3) pc tg L S σ c1 s1 k = some r) : mWP p l e R s m args below meth c Q nL D A eb tL tB ad0 σ0 c0 s0 (pc, L, S, σ, c1, s1) := by
  unfold x_ifCond at h
  split at h
  · intro ad H locs ls hW hS hv hL
    cases cd <;> simp only [mCond] at h
    · exact lv_if_eq hx hb hd (ht _ rfl) (fun hc => by rw [mIf_t hc] at h; exact hk _ h ad H locs ls hW hS ⟨mlT hv.1, hv.2⟩ hL) (fun hc => by rw [mIf_f hc] at h; exact hk _ h ad H locs ls hW hS ⟨mlT hv.1, hv.2⟩ hL)
    · exact lv_if_ne hx hb hd (ht _ rfl) (fun hc => by rw [mIf_f hc] at h; exact hk _ h ad H locs ls hW hS ⟨mlT hv.1, hv.2⟩ hL) (fun hc => by rw [mIf_t hc] at h; exact hk _ h ad H locs ls hW hS ⟨mlT hv.1, hv.2⟩ hL)
    · exact lv_if_lt hx hb hd (ht _ rfl) (fun hc => by rw [mIf_t hc] at h; exact hk _ h ad H locs ls hW hS ⟨mlT hv.1, hv.2⟩ hL) (fun hc => by rw [mIf_f hc] at h; exact hk _ h ad H locs ls hW hS ⟨mlT hv.1, hv.2⟩ hL)
    · exact lv_if_ge hx hb hd (ht _ rfl) (fun hc => by rw [mIf_t hc] at h; exact hk _ h ad H locs ls hW hS ⟨mlT hv.1, hv.2⟩ hL) (fun hc => by rw [mIf_f hc] at h; exact hk _ h ad H locs ls hW hS ⟨mlT hv.1, hv.2⟩ hL)
    · exact lv_if_gt hx hb hd (ht _ rfl) (fun hc => by rw [mIf_t hc] at h; exact hk _ h ad H locs ls hW hS ⟨mlT hv.1, hv.2⟩ hL) (fun hc => by rw [mIf_f hc] at h; exact hk _ h ad H locs ls hW hS ⟨mlT hv.1, hv.2⟩ hL)
    · exact lv_if_le hx hb hd (ht _ rfl) (fun hc => by rw [mIf_t hc] at h; exact hk _ h ad H locs ls hW hS ⟨mlT hv.1, hv.2⟩ hL) (fun hc => by rw [mIf_f hc] at h; exact hk _ h ad H locs ls hW hS ⟨mlT hv.1, hv.2⟩ hL)
  · cases h
theorem s_if_icmp (hx : p.tables.exec = Jvm.exec) (hb : c.code = cc) {P : MP} {pc : Nat} {tg : List Nat} {L : List (Option MV)} {S : List MV} {σ : MSto} {c1 s1 : Nat} {k : MK} {r : MST} {cd : ClassFile.Cond} {off : Int} (ht : ∀ t, tg = [t] → (pc : Int) + off = (t : Int)) (hd : decode cc pc = .ok (.if_icmp cd off, 3)) (hk : ∀ st, k st = some r → mWP p l e R s m args below meth c Q nL D A eb tL tB ad0 σ0 c0 s0 st) (h : x_if_icmp KT P cd (pc + 3) pc tg L S σ c1 s1 k = some r) : mWP p l e R s m args below meth c Q nL D A eb tL tB ad0 σ0 c0 s0 (pc, L, S, σ, c1, s1) := by
  unfold x_if_icmp at h
  split at h
  · intro ad H locs ls hW hS hv hL
    cases cd <;> simp only [mCond] at h
    · exact lv_icmp_eq hx hb hd (ht _ rfl) (fun hc => by rw [mIf_t hc] at h; exact hk _ h ad H locs ls hW hS ⟨mlT (mlT hv.1), hv.2⟩ hL) (fun hc => by rw [mIf_f hc] at h; exact hk _ h ad H locs ls hW hS ⟨mlT (mlT hv.1), hv.2⟩ hL)
    · exact lv_icmp_ne hx hb hd (ht _ rfl) (fun hc => by rw [mIf_f hc] at h; exact hk _ h ad H locs ls hW hS ⟨mlT (mlT hv.1), hv.2⟩ hL) (fun hc => by rw [mIf_t hc] at h; exact hk _ h ad H locs ls hW hS ⟨mlT (mlT hv.1), hv.2⟩ hL)
    · exact lv_icmp_lt hx hb hd (ht _ rfl) (fun hc => by rw [mIf_t hc] at h; exact hk _ h ad H locs ls hW hS ⟨mlT (mlT hv.1), hv.2⟩ hL) (fun hc => by rw [mIf_f hc] at h; exact hk _ h ad H locs ls hW hS ⟨mlT (mlT hv.1), hv.2⟩ hL)
    · exact lv_icmp_ge hx hb hd (ht _ rfl) (fun hc => by rw [mIf_t hc] at h; exact hk _ h ad H locs ls hW hS ⟨mlT (mlT hv.1), hv.2⟩ hL) (fun hc => by rw [mIf_f hc] at h; exact hk _ h ad H locs ls hW hS ⟨mlT (mlT hv.1), hv.2⟩ hL)
    · exact lv_icmp_gt hx hb hd (ht _ rfl) (fun hc => by rw [mIf_t hc] at h; exact hk _ h ad H locs ls hW hS ⟨mlT (mlT hv.1), hv.2⟩ hL) (fun hc => by rw [mIf_f hc] at h; exact hk _ h ad H locs ls hW hS ⟨mlT (mlT hv.1), hv.2⟩ hL)
    · exact lv_icmp_le hx hb hd (ht _ rfl) (fun hc => by rw [mIf_t hc] at h; exact hk _ h ad H locs ls hW hS ⟨mlT (mlT hv.1), hv.2⟩ hL) (fun hc => by rw [mIf_f hc] at h; exact hk _ h ad H locs ls hW hS ⟨mlT (mlT hv.1), hv.2⟩ hL)
  · cases h
theorem s_ifnull (hx : p.tables.exec = Jvm.exec) (hb : c.code = cc) {P : MP} {pc : Nat} {tg : List Nat} {L : List (Option MV)} {S : List MV} {σ : MSto} {c1 s1 : Nat} {k : MK} {r : MST} {off : Int} (ht : ∀ t, tg = [t] → (pc : Int) + off = (t : Int)) (hd : decode cc pc = .ok (.ifnull off, 3)) (hk : ∀ st, k st = some r → mWP p l e R s m args below meth c Q nL D A eb tL tB ad0 σ0 c0 s0 st) (h : x_ifnull KT P  (pc + 3) pc tg L S σ c1 s1 k = some r) : mWP p l e R s m args below meth c Q nL D A eb tL tB ad0 σ0 c0 s0 (pc, L, S, σ, c1, s1) := by
  unfold x_ifnull at h
  split at h
  · intro ad H locs ls hW hS hv hL
    exact lv_ifnullN hx hb hd (ht _ rfl) (hk _ h ad H locs ls hW hS ⟨mlT hv.1, hv.2⟩ hL)
  · intro ad H locs ls hW hS hv hL
    exact lv_ifnull hx hb hd (hk _ h ad H locs ls hW hS ⟨mlT hv.1, hv.2⟩ hL)
  · cases h
theorem s_ifnonnull (hx : p.tables.exec = Jvm.exec) (hb : c.code = cc) {P : MP} {pc : Nat} {tg : List Nat} {L : List (Option MV)} {S : List MV} {σ : MSto} {c1 s1 : Nat} {k : MK} {r : MST} {off : Int} (ht : ∀ t, tg = [t] → (pc : Int) + off = (t : Int)) (hd : decode cc pc = .ok (.ifnonnull off, 3)) (hk : ∀ st, k st = some r → mWP p l e R s m args below meth c Q nL D A eb tL tB ad0 σ0 c0 s0 st) (h : x_ifnonnull KT P  (pc + 3) pc tg L S σ c1 s1 k = some r) : mWP p l e R s m args below meth c Q nL D A eb tL tB ad0 σ0 c0 s0 (pc, L, S, σ, c1, s1) := by
  unfold x_ifnonnull at h
  split at h
  · intro ad H locs ls hW hS hv hL
    exact lv_ifnonnullN hx hb hd (hk _ h ad H locs ls hW hS ⟨mlT hv.1, hv.2⟩ hL)
  · intro ad H locs ls hW hS hv hL
    exact lv_ifnonnull hx hb hd (ht _ rfl) (hk _ h ad H locs ls hW hS ⟨mlT hv.1, hv.2⟩ hL)
  · cases h
end SIM
