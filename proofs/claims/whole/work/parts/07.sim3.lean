theorem mLayWs {C : String} {T : u_T} {N : Nat} {args : Array Value} {s : State} (hT : mTab s) (hin : ∀ w ∈ u_ws C T N, w ∈ lw_tbl) : ∀ w ∈ u_ws C T N, w.before args s = true := by
  intro w hw
  refine hT.use (hin w hw) ?_
  unfold u_ws at hw
  obtain ⟨k, -, rfl⟩ := List.mem_map.mp hw
  unfold u_lay
  by_cases h : (T k).2.2.2 = true
  · rw [if_pos h]; rfl
  · rw [if_neg h]; rfl
/-- the tables' words of the classes -/
def mLay : Prop := ∀ (ci : Nat) (C : String) (T : u_T) (N : Nat), mCl[ci]? = some (C, T, N) → (∀ w ∈ u_ws C T N, w ∈ lw_tbl) ∧ (∀ a, a < N → ∀ b, b < N → a ≠ b → (T a).2.1 ≠ (T b).2.1) ∧ ∃ ty : Nat → FieldType, ∀ k, k < N → parseFieldDescriptor (T k).2.2.1 = some (ty k)
/-- an entry of a class's pool that names a field -/
def mFOK (own : String) (x ci f : Nat) (ty : FieldType) (fin : Bool) : Prop := ∃ (C : String) (T : u_T) (N : Nat), mCl[ci]? = some (C, T, N) ∧ f < N ∧ ci ≠ 0 ∧ (T f).2.2.2 = fin ∧ parseFieldDescriptor (T f).2.2.1 = some ty ∧
  (Cond.fieldLink own x (T f).1 (T f).2.1 (T f).2.2.1 ∈ lw_tbl ∨ (fin = false ∧ ∃ host, Cond.fieldLinkNest own x (T f).1 (T f).2.1 (T f).2.2.1 host ∈ lw_tbl) ∨ (∃ host, Cond.fieldLinkNest own x (T f).1 (T f).2.1 (T f).2.2.1 host ∈ lw_tbl))
section SIM
variable {p : Program} {l : Launch} {e : Env} {R : Room} {s : State} {m : MethodId} {args : Array Value} {below : List Frame} {meth : Method} {c : Code} {Q : State → Prop}
variable {cc : ByteArray} {nL : Nat} {D : va_G} {A : Nat → Prop} {eb tL tB c0 s0 : Nat} {own : String}
variable {H : Heap} {locs : List Loc} {cells slots : Nat} {pc : Nat} {ls : Array Slot} {rest : List Value}
theorem r_get (hx : p.tables.exec = Jvm.exec) (hb : c.code = cc) (hown : s.vm.findClass own = some m.cls) (hT : mTab s) (hK : va_K D mCl [] s) (hLay : mLay) {x ci f : Nat} {ty : FieldType} {fin : Bool} (hF : mFOK own x ci f ty fin) {a N0 : Nat} {V : Nat → Value} (ho : t_OB a (D.1 ci) N0 (D.2 ci) H V) (hN0 : ∀ r : vw_C, mCl[ci]? = some r → r.2.2 = N0) (hd : decode cc pc = .ok (.getfield x, 3))
    (kk : W p l e R s m args below meth c H locs cells slots Q (F0 m (pc + 3) ls (V f :: rest))) : W p l e R s m args below meth c H locs cells slots Q (F0 m pc ls (.ref a :: rest)) := by
  obtain ⟨C, T, N, h1, h2, -, h3, h4, h5⟩ := hF
  have hN : N = N0 := hN0 _ h1
  subst hN
  obtain ⟨hin, -, -⟩ := hLay ci C T N h1
  have hts := mLayWs (args := args) hT hin
  obtain ⟨cell, q1, q2, q3, q4⟩ := ho
  obtain ⟨hS, hfc, kC, hkC, hkind⟩ := hK.1 ci _ h1
  obtain ⟨cf, kf, fi, fd, hi, hsl⟩ := hS f h2
  have hst := (u_facts hfc hkC (u_lays hts (fun w h => h) h2) hi).1
  have hv : cell.slots[fd.slot]? = some (V f) := by rw [hsl, q4 f h2]
  have hkn : cell.vm ≠ .unknown := by rw [q3]; exact fun h => by cases h
  rcases h5 with h5 | ⟨-, host, h5⟩ | ⟨host, h5⟩
  · exact W.getf hx hb hown (hT.use h5 rfl) hi hst q1 hkn hv rfl rfl hd kk
  · exact va_Wgetf hx hb hown (hT.use h5 rfl) hi hst q1 hkn hv rfl rfl hd kk
  · exact va_Wgetf hx hb hown (hT.use h5 rfl) hi hst q1 hkn hv rfl rfl hd kk
theorem r_put (hx : p.tables.exec = Jvm.exec) (hb : c.code = cc) (hown : s.vm.findClass own = some m.cls) (hT : mTab s) (hK : va_K D mCl [] s) (hLay : mLay) {x ci f : Nat} {ty : FieldType} {fin : Bool} (hF : mFOK own x ci f ty fin) (hini : fin = true → meth.name = "<init>") {a N0 : Nat} {V : Nat → Value} (ho : t_OB a (D.1 ci) N0 (D.2 ci) H V) (hN0 : ∀ r : vw_C, mCl[ci]? = some r → r.2.2 = N0) {v : Value} (hn : narrow ty v = v) (hfit : fits ty v = true) (hd : decode cc pc = .ok (.putfield x, 3))
    (kk : ∀ (H1 : Heap) (j : Nat), t_OB a (D.1 ci) N0 (D.2 ci) H1 (updV V f v) → H1.size = H.size → (∀ q : Nat, q ≠ a → H1[q]? = H[q]?) → W p l e R s m args below meth c H1 (locs ++ [⟨a, j⟩]) cells slots Q (F0 m (pc + 3) ls rest)) (hnf : fin = true → (Cond.fieldLink own x (((mCl[ci]?).getD ("", fun _ => ("", "", "", false), 0)).2.1 f).1 (((mCl[ci]?).getD ("", fun _ => ("", "", "", false), 0)).2.1 f).2.1 (((mCl[ci]?).getD ("", fun _ => ("", "", "", false), 0)).2.1 f).2.2.1 ∈ lw_tbl ∧ (((mCl[ci]?).getD ("", fun _ => ("", "", "", false), 0)).2.1 f).1 = own)) : W p l e R s m args below meth c H locs cells slots Q (F0 m pc ls (v :: .ref a :: rest)) := by
  obtain ⟨C, T, N, h1, h2, -, h3, h4, h5⟩ := hF
  have hN : N = N0 := hN0 _ h1
  subst hN
  obtain ⟨hin, hnm, ty0, hty⟩ := hLay ci C T N h1
  have hts := mLayWs (args := args) hT hin
  have hap := va_apart (own := own) hts (fun w h => h) ty0 hty hnm hK h1
  obtain ⟨cell, q1, q2, q3, q4⟩ := ho
  obtain ⟨hS, hfc, kC, hkC, hkind⟩ := hK.1 ci _ h1
  obtain ⟨cf, kf, fi, fd, hi, hsl⟩ := hS f h2
  have hlay := hts _ (u_in_lay h2)
  unfold u_lay at hlay
  have hst := (u_facts hfc hkC (u_lays hts (fun w h => h) h2) hi).1
  have hhas : fd.slot < cell.slots.size := by rw [hsl]; exact k2_hasslot (q4 f h2)
  cases fin with
  | false =>
    rw [if_neg (by rw [h3]; decide)] at hlay
    have h6 := u_store hfc hkC hkind hlay hi h4 hn hfit
    rcases h5 with h5 | ⟨-, host, h5⟩ | ⟨host, h5⟩
    · refine W.putK hx hb (f := fd) ⟨hown, hT.use h5 rfl, ⟨_, _, _, hi⟩, hst⟩ (by rw [q2]; exact h6) q1 q3 hhas rfl rfl hd fun H' e1 e2 e3 => ?_
      rw [hsl] at e1 ⊢
      exact kk H' _ ⟨_, e1, q2, q3, t_set q4 hap h2 v⟩ e2 e3
    · refine va_WputK hx hb (f := fd) hown (hT.use h5 rfl) hi hst (by rw [q2]; exact h6) q1 q3 hhas rfl rfl hd fun H' e1 e2 e3 => ?_
      rw [hsl] at e1 ⊢
      exact kk H' _ ⟨_, e1, q2, q3, t_set q4 hap h2 v⟩ e2 e3
    · refine va_WputK hx hb (f := fd) hown (hT.use h5 rfl) hi hst (by rw [q2]; exact h6) q1 q3 hhas rfl rfl hd fun H' e1 e2 e3 => ?_
      rw [hsl] at e1 ⊢
      exact kk H' _ ⟨_, e1, q2, q3, t_set q4 hap h2 v⟩ e2 e3
  | true =>
    obtain ⟨h5, hdecl⟩ := hnf rfl
    rw [h1] at h5 hdecl
    simp only [Option.getD_some] at h5 hdecl
    rw [if_pos h3] at hlay
    have hcf : m.cls = cf := by
      obtain ⟨_, _, c', _, _, _, -, -, hf', -, -, -, hown2, -⟩ := Cond.laysFinal_spec hlay
      have e1 : c' = cf := by have := hi.symm.trans hf'; simp at this; exact this.1.symm
      rw [hdecl] at hown2
      rw [← e1]; exact Option.some.inj (hown.symm.trans hown2)
    have h6 := u_fits hfc hkC hkind (Or.inr hlay) hi h4 hn hfit
    refine W.putFinK hx hb hown (hT.use h5 rfl) hi hst hcf (hini rfl) (by rw [q2]; exact h6) q1 q3 hhas rfl rfl hd fun H' e1 e2 e3 => ?_
    rw [hsl] at e1 ⊢
    exact kk H' _ ⟨_, e1, q2, q3, t_set q4 hap h2 v⟩ e2 e3
end SIM
