/-! the law's cases, in three blocks each -/
/-- the law's table, with stops behind the two calls of a case -/
noncomputable def P3_L (a b : Nat) : MP := (T_L, (fun _ => none), (fun _ => none), (fun k => mLook k N_L), (fun k => mLook k [(17, 98)]), (fun _ => none), (fun _ => none), (fun k => mLook k [(a, [true, true, true, true, true, false, false, false]), (b, [true, true, true, true, true, false, false, false]), (2235, [true, true, true, true, true, false, false, false])]), (fun _ => false), (12, 297, 100, 2500), false, (fun k => mLook k [(0, E_newC), (8, E_newM)]))
theorem ok3_L (l : Launch) (a b : Nat) : mPOK l "ClothWithManLaw" code (P3_L a b) := ok_L l
theorem hRm_3 {R : Room} {c0 s0 a b : Nat} (h1 : 2000 ≤ R.frames) (h2 : 80000 ≤ R.locals) (h3 : c0 + 100 ≤ R.cells) (h4 : s0 + 2500 ≤ R.slots) : mRoomOK R (P3_L a b) c0 s0 := ⟨h3, h4, Nat.le_trans (Nat.le_of_ble_eq_true rfl) h1, Nat.le_trans (Nat.le_of_ble_eq_true rfl) h2⟩
section S3
variable {p : Program} {l : Launch} {e : Env} {R : Room} {s : State} {m : MethodId} {args : Array Value} {below : List Frame} {meth : Method} {c : Code} {Q : State → Prop}
variable {D : va_G} {A : Nat → Prop} {eb tL tB c0 s0 : Nat} {ad0 : Nat → Nat → Nat} {σ0 : MSto}
theorem s_run3 (X : mCx p s m meth c code 8 "ClothWithManLaw" D A eb tL tB P_L) {a b n : Nat} {st r : MST} (hRm : mRoomOK R (P3_L a b) c0 s0) (hr : mWP p l e R s m args below meth c Q 8 D A eb tL tB ad0 σ0 c0 s0 r) (h : mrun KT (P3_L a b) (fun st => some st) n st = some r) : mWP p l e R s m args below meth c Q 8 D A eb tL tB ad0 σ0 c0 s0 st :=
  s_run (P := P3_L a b) X mLay_ok hRm (ok3_L l a b) hr (fun st' h' => by have e : st' = r := Option.some.inj h'; rw [e]; exact hr) n st h
end S3


