/-! ClothWithManModel.fewest(I)I -/
noncomputable def t_M_fewest_202 (x2 : Int32) (x4 : Int32) (x5 : Int32) (c : Int32) (σ : MSto) (s : Int32) : Int32 := (if (gI σ 13 0 10) ≤ c then s else (if (v_M_has x5 c σ) = 0 then (s ||| 0) else (s ||| (gI σ 86 0 (Int32.toNatClampNeg c)))))
noncomputable def q_M_fewest_202s (x2 : Int32) (x4 : Int32) (x5 : Int32) (c : Int32) (σ : MSto) (s : Int32) : Nat := (if (gI σ 13 0 10) ≤ c then 1 else (if (v_M_has x5 c σ) = 0 then 0 else 0))
def g_M_fewest_202 (x2 : Int32) (x4 : Int32) (x5 : Int32) (c : Int32) (σ : MSto) (s : Int32) : Prop := (¬ ((gI σ 13 0 10) ≤ c) → (¬ ((v_M_has x5 c σ) = 0) → (vp_in c 12)))
noncomputable def f_M_fewest_202 (x2 : Int32) (x4 : Int32) (x5 : Int32) (c0 : Int32) (σ : MSto) (s0 : Int32) (n : Nat) : Int32 := nfold (fun i s => t_M_fewest_202 x2 x4 x5 (c0 + nI i) σ s) s0 n
noncomputable def n_M_fewest_202 (x2 : Int32) (x4 : Int32) (x5 : Int32) (c0 : Int32) (σ : MSto) (s0 : Int32) : Nat := nM σ 10
noncomputable def t_M_fewest_163 (x2 : Int32) (c : Int32) (σ : MSto) (s : Int32) : Int32 := (if (1 <<< ((gI σ 13 0 10) &&& 31)) ≤ c then s else (if s = (-1) then (if (f_M_fewest_202 x2 s c 0 σ 0 (n_M_fewest_202 x2 s c 0 σ 0)) = x2 then c else s) else (if (v_In_bitCount c σ) < (v_In_bitCount s σ) then (if (f_M_fewest_202 x2 s c 0 σ 0 (n_M_fewest_202 x2 s c 0 σ 0)) = x2 then c else s) else s)))
noncomputable def q_M_fewest_163s (x2 : Int32) (c : Int32) (σ : MSto) (s : Int32) : Nat := (if (1 <<< ((gI σ 13 0 10) &&& 31)) ≤ c then 1 else (if s = (-1) then (if (f_M_fewest_202 x2 s c 0 σ 0 (n_M_fewest_202 x2 s c 0 σ 0)) = x2 then 0 else 0) else (if (v_In_bitCount c σ) < (v_In_bitCount s σ) then (if (f_M_fewest_202 x2 s c 0 σ 0 (n_M_fewest_202 x2 s c 0 σ 0)) = x2 then 0 else 0) else 0)))
def g_M_fewest_163 (x2 : Int32) (c : Int32) (σ : MSto) (s : Int32) : Prop := (¬ ((1 <<< ((gI σ 13 0 10) &&& 31)) ≤ c) → (((s = (-1)) → ((∀ i, i < (n_M_fewest_202 x2 s c 0 σ 0) → g_M_fewest_202 x2 s c (0 + nI i) σ (f_M_fewest_202 x2 s c 0 σ 0 i) ∧ ¬ q_M_fewest_202s x2 s c (0 + nI i) σ (f_M_fewest_202 x2 s c 0 σ 0 i) = 1) ∧ (¬ ((gI σ 13 0 10) ≤ (0 + nI (n_M_fewest_202 x2 s c 0 σ 0))) → False))) ∧ (¬ (s = (-1)) → (((v_In_bitCount c σ) < (v_In_bitCount s σ)) → ((∀ i, i < (n_M_fewest_202 x2 s c 0 σ 0) → g_M_fewest_202 x2 s c (0 + nI i) σ (f_M_fewest_202 x2 s c 0 σ 0 i) ∧ ¬ q_M_fewest_202s x2 s c (0 + nI i) σ (f_M_fewest_202 x2 s c 0 σ 0 i) = 1) ∧ (¬ ((gI σ 13 0 10) ≤ (0 + nI (n_M_fewest_202 x2 s c 0 σ 0))) → False))))))
noncomputable def f_M_fewest_163 (x2 : Int32) (c0 : Int32) (σ : MSto) (s0 : Int32) (n : Nat) : Int32 := nfold (fun i s => t_M_fewest_163 x2 (c0 + nI i) σ s) s0 n
noncomputable def n_M_fewest_163 (x2 : Int32) (c0 : Int32) (σ : MSto) (s0 : Int32) : Nat := 2^(nM σ 10)
noncomputable def t_M_fewest_75 (x1 : Int32) (x2 : Int32) (x3 : Int32) (x4 : Int32) (x5 : Int32) (c : Int32) (s : MSto) : MSto := (if (gI s 13 0 10) ≤ c then s else (if (v_M_areParted x4 x5 (gI s 47 0 (Int32.toNatClampNeg c)) (gI s 48 0 (Int32.toNatClampNeg c)) (gI s 49 0 (Int32.toNatClampNeg c)) (gI s 50 0 (Int32.toNatClampNeg c)) x1 s) = 0 then s else (sI s 86 0 (Int32.toNatClampNeg c) ((gI s 86 0 (Int32.toNatClampNeg c)) ||| x3))))
noncomputable def q_M_fewest_75s (x1 : Int32) (x2 : Int32) (x3 : Int32) (x4 : Int32) (x5 : Int32) (c : Int32) (s : MSto) : Nat := (if (gI s 13 0 10) ≤ c then 1 else (if (v_M_areParted x4 x5 (gI s 47 0 (Int32.toNatClampNeg c)) (gI s 48 0 (Int32.toNatClampNeg c)) (gI s 49 0 (Int32.toNatClampNeg c)) (gI s 50 0 (Int32.toNatClampNeg c)) x1 s) = 0 then 0 else 0))
def g_M_fewest_75 (x1 : Int32) (x2 : Int32) (x3 : Int32) (x4 : Int32) (x5 : Int32) (c : Int32) (s : MSto) : Prop := (¬ ((gI s 13 0 10) ≤ c) → ((vp_in c 12) ∧ ((vp_in c 12) ∧ ((vp_in c 12) ∧ ((vp_in c 12) ∧ ((p_M_areParted x4 x5 (gI s 47 0 (Int32.toNatClampNeg c)) (gI s 48 0 (Int32.toNatClampNeg c)) (gI s 49 0 (Int32.toNatClampNeg c)) (gI s 50 0 (Int32.toNatClampNeg c)) x1 s) ∧ (¬ ((v_M_areParted x4 x5 (gI s 47 0 (Int32.toNatClampNeg c)) (gI s 48 0 (Int32.toNatClampNeg c)) (gI s 49 0 (Int32.toNatClampNeg c)) (gI s 50 0 (Int32.toNatClampNeg c)) x1 s) = 0) → ((vp_in c 12) ∧ (vp_in c 12)))))))))
noncomputable def f_M_fewest_75 (x1 : Int32) (x2 : Int32) (x3 : Int32) (x4 : Int32) (x5 : Int32) (c0 : Int32) (s0 : MSto) (n : Nat) : MSto := nfold (fun i s => t_M_fewest_75 x1 x2 x3 x4 x5 (c0 + nI i) s) s0 n
noncomputable def n_M_fewest_75 (x1 : Int32) (x2 : Int32) (x3 : Int32) (x4 : Int32) (x5 : Int32) (c0 : Int32) (s0 : MSto) : Nat := nM s0 10
noncomputable def t_M_fewest_59 (x1 : Int32) (x4 : Int32) (c : Int32) (s : Int32 × Int32 × MSto) : Int32 × Int32 × MSto := (if (gI (s.2.2) 13 0 17) ≤ c then s else (((s.1) ||| (s.2.1)), ((s.2.1) <<< (1 &&& 31)), (f_M_fewest_75 x1 ((s.1) ||| (s.2.1)) (s.2.1) x4 c 0 (s.2.2) (n_M_fewest_75 x1 ((s.1) ||| (s.2.1)) (s.2.1) x4 c 0 (s.2.2)))))
noncomputable def q_M_fewest_59s (x1 : Int32) (x4 : Int32) (c : Int32) (s : Int32 × Int32 × MSto) : Nat := (if (gI (s.2.2) 13 0 17) ≤ c then 1 else 0)
def g_M_fewest_59 (x1 : Int32) (x4 : Int32) (c : Int32) (s : Int32 × Int32 × MSto) : Prop := (¬ ((gI (s.2.2) 13 0 17) ≤ c) → ((∀ i, i < (n_M_fewest_75 x1 ((s.1) ||| (s.2.1)) (s.2.1) x4 c 0 (s.2.2)) → g_M_fewest_75 x1 ((s.1) ||| (s.2.1)) (s.2.1) x4 c (0 + nI i) (f_M_fewest_75 x1 ((s.1) ||| (s.2.1)) (s.2.1) x4 c 0 (s.2.2) i) ∧ ¬ q_M_fewest_75s x1 ((s.1) ||| (s.2.1)) (s.2.1) x4 c (0 + nI i) (f_M_fewest_75 x1 ((s.1) ||| (s.2.1)) (s.2.1) x4 c 0 (s.2.2) i) = 1) ∧ (¬ ((gI (f_M_fewest_75 x1 ((s.1) ||| (s.2.1)) (s.2.1) x4 c 0 (s.2.2) (n_M_fewest_75 x1 ((s.1) ||| (s.2.1)) (s.2.1) x4 c 0 (s.2.2))) 13 0 10) ≤ (0 + nI (n_M_fewest_75 x1 ((s.1) ||| (s.2.1)) (s.2.1) x4 c 0 (s.2.2)))) → False)))
noncomputable def f_M_fewest_59 (x1 : Int32) (x4 : Int32) (c0 : Int32) (s0 : Int32 × Int32 × MSto) (n : Nat) : Int32 × Int32 × MSto := nfold (fun i s => t_M_fewest_59 x1 x4 (c0 + nI i) s) s0 n
noncomputable def n_M_fewest_59 (x1 : Int32) (x4 : Int32) (c0 : Int32) (s0 : Int32 × Int32 × MSto) : Nat := (nM (s0.2.2) 17 - c0.toNatClampNeg)
noncomputable def t_M_fewest_44 (x1 : Int32) (c : Int32) (s : Int32 × Int32 × MSto) : Int32 × Int32 × MSto := (if (gI (s.2.2) 13 0 17) ≤ c then s else (((f_M_fewest_59 x1 c (c + 1) ((s.1), (s.2.1), (s.2.2)) (n_M_fewest_59 x1 c (c + 1) ((s.1), (s.2.1), (s.2.2)))).1), ((f_M_fewest_59 x1 c (c + 1) ((s.1), (s.2.1), (s.2.2)) (n_M_fewest_59 x1 c (c + 1) ((s.1), (s.2.1), (s.2.2)))).2.1), ((f_M_fewest_59 x1 c (c + 1) ((s.1), (s.2.1), (s.2.2)) (n_M_fewest_59 x1 c (c + 1) ((s.1), (s.2.1), (s.2.2)))).2.2)))
noncomputable def q_M_fewest_44s (x1 : Int32) (c : Int32) (s : Int32 × Int32 × MSto) : Nat := (if (gI (s.2.2) 13 0 17) ≤ c then 1 else 0)
def g_M_fewest_44 (x1 : Int32) (c : Int32) (s : Int32 × Int32 × MSto) : Prop := (¬ ((gI (s.2.2) 13 0 17) ≤ c) → ((∀ i, i < (n_M_fewest_59 x1 c (c + 1) ((s.1), (s.2.1), (s.2.2))) → g_M_fewest_59 x1 c ((c + 1) + nI i) (f_M_fewest_59 x1 c (c + 1) ((s.1), (s.2.1), (s.2.2)) i) ∧ ¬ q_M_fewest_59s x1 c ((c + 1) + nI i) (f_M_fewest_59 x1 c (c + 1) ((s.1), (s.2.1), (s.2.2)) i) = 1) ∧ (¬ ((gI ((f_M_fewest_59 x1 c (c + 1) ((s.1), (s.2.1), (s.2.2)) (n_M_fewest_59 x1 c (c + 1) ((s.1), (s.2.1), (s.2.2)))).2.2) 13 0 17) ≤ ((c + 1) + nI (n_M_fewest_59 x1 c (c + 1) ((s.1), (s.2.1), (s.2.2))))) → False)))
noncomputable def f_M_fewest_44 (x1 : Int32) (c0 : Int32) (s0 : Int32 × Int32 × MSto) (n : Nat) : Int32 × Int32 × MSto := nfold (fun i s => t_M_fewest_44 x1 (c0 + nI i) s) s0 n
noncomputable def n_M_fewest_44 (x1 : Int32) (c0 : Int32) (s0 : Int32 × Int32 × MSto) : Nat := nM (s0.2.2) 17
noncomputable def t_M_fewest_18 (x1 : Int32) (x2 : Int32) (c : Int32) (s : MSto) : MSto := (if (gI s 13 0 10) ≤ c then s else (sI s 86 0 (Int32.toNatClampNeg c) 0))
noncomputable def q_M_fewest_18s (x1 : Int32) (x2 : Int32) (c : Int32) (s : MSto) : Nat := (if (gI s 13 0 10) ≤ c then 1 else 0)
def g_M_fewest_18 (x1 : Int32) (x2 : Int32) (c : Int32) (s : MSto) : Prop := (¬ ((gI s 13 0 10) ≤ c) → (vp_in c 12))
noncomputable def f_M_fewest_18 (x1 : Int32) (x2 : Int32) (c0 : Int32) (s0 : MSto) (n : Nat) : MSto := nfold (fun i s => t_M_fewest_18 x1 x2 (c0 + nI i) s) s0 n
noncomputable def n_M_fewest_18 (x1 : Int32) (x2 : Int32) (c0 : Int32) (s0 : MSto) : Nat := nM s0 10
noncomputable def v_M_fewest (a1 : Int32) (σ : MSto) : Int32 := (if (v_M_isYear a1 (sI σ 13 0 52 0)) = 0 then (-1) else (if (f_M_fewest_163 ((f_M_fewest_44 a1 0 (0, 1, (f_M_fewest_18 a1 0 0 (sI σ 13 0 52 0) (n_M_fewest_18 a1 0 0 (sI σ 13 0 52 0)))) (n_M_fewest_44 a1 0 (0, 1, (f_M_fewest_18 a1 0 0 (sI σ 13 0 52 0) (n_M_fewest_18 a1 0 0 (sI σ 13 0 52 0)))))).1) 0 ((f_M_fewest_44 a1 0 (0, 1, (f_M_fewest_18 a1 0 0 (sI σ 13 0 52 0) (n_M_fewest_18 a1 0 0 (sI σ 13 0 52 0)))) (n_M_fewest_44 a1 0 (0, 1, (f_M_fewest_18 a1 0 0 (sI σ 13 0 52 0) (n_M_fewest_18 a1 0 0 (sI σ 13 0 52 0)))))).2.2) (-1) (n_M_fewest_163 ((f_M_fewest_44 a1 0 (0, 1, (f_M_fewest_18 a1 0 0 (sI σ 13 0 52 0) (n_M_fewest_18 a1 0 0 (sI σ 13 0 52 0)))) (n_M_fewest_44 a1 0 (0, 1, (f_M_fewest_18 a1 0 0 (sI σ 13 0 52 0) (n_M_fewest_18 a1 0 0 (sI σ 13 0 52 0)))))).1) 0 ((f_M_fewest_44 a1 0 (0, 1, (f_M_fewest_18 a1 0 0 (sI σ 13 0 52 0) (n_M_fewest_18 a1 0 0 (sI σ 13 0 52 0)))) (n_M_fewest_44 a1 0 (0, 1, (f_M_fewest_18 a1 0 0 (sI σ 13 0 52 0) (n_M_fewest_18 a1 0 0 (sI σ 13 0 52 0)))))).2.2) (-1))) = (-1) then (-2) else (v_In_bitCount (f_M_fewest_163 ((f_M_fewest_44 a1 0 (0, 1, (f_M_fewest_18 a1 0 0 (sI σ 13 0 52 0) (n_M_fewest_18 a1 0 0 (sI σ 13 0 52 0)))) (n_M_fewest_44 a1 0 (0, 1, (f_M_fewest_18 a1 0 0 (sI σ 13 0 52 0) (n_M_fewest_18 a1 0 0 (sI σ 13 0 52 0)))))).1) 0 ((f_M_fewest_44 a1 0 (0, 1, (f_M_fewest_18 a1 0 0 (sI σ 13 0 52 0) (n_M_fewest_18 a1 0 0 (sI σ 13 0 52 0)))) (n_M_fewest_44 a1 0 (0, 1, (f_M_fewest_18 a1 0 0 (sI σ 13 0 52 0) (n_M_fewest_18 a1 0 0 (sI σ 13 0 52 0)))))).2.2) (-1) (n_M_fewest_163 ((f_M_fewest_44 a1 0 (0, 1, (f_M_fewest_18 a1 0 0 (sI σ 13 0 52 0) (n_M_fewest_18 a1 0 0 (sI σ 13 0 52 0)))) (n_M_fewest_44 a1 0 (0, 1, (f_M_fewest_18 a1 0 0 (sI σ 13 0 52 0) (n_M_fewest_18 a1 0 0 (sI σ 13 0 52 0)))))).1) 0 ((f_M_fewest_44 a1 0 (0, 1, (f_M_fewest_18 a1 0 0 (sI σ 13 0 52 0) (n_M_fewest_18 a1 0 0 (sI σ 13 0 52 0)))) (n_M_fewest_44 a1 0 (0, 1, (f_M_fewest_18 a1 0 0 (sI σ 13 0 52 0) (n_M_fewest_18 a1 0 0 (sI σ 13 0 52 0)))))).2.2) (-1))) (e_M_tell (Int32.toInt64 (f_M_fewest_163 ((f_M_fewest_44 a1 0 (0, 1, (f_M_fewest_18 a1 0 0 (sI σ 13 0 52 0) (n_M_fewest_18 a1 0 0 (sI σ 13 0 52 0)))) (n_M_fewest_44 a1 0 (0, 1, (f_M_fewest_18 a1 0 0 (sI σ 13 0 52 0) (n_M_fewest_18 a1 0 0 (sI σ 13 0 52 0)))))).1) 0 ((f_M_fewest_44 a1 0 (0, 1, (f_M_fewest_18 a1 0 0 (sI σ 13 0 52 0) (n_M_fewest_18 a1 0 0 (sI σ 13 0 52 0)))) (n_M_fewest_44 a1 0 (0, 1, (f_M_fewest_18 a1 0 0 (sI σ 13 0 52 0) (n_M_fewest_18 a1 0 0 (sI σ 13 0 52 0)))))).2.2) (-1) (n_M_fewest_163 ((f_M_fewest_44 a1 0 (0, 1, (f_M_fewest_18 a1 0 0 (sI σ 13 0 52 0) (n_M_fewest_18 a1 0 0 (sI σ 13 0 52 0)))) (n_M_fewest_44 a1 0 (0, 1, (f_M_fewest_18 a1 0 0 (sI σ 13 0 52 0) (n_M_fewest_18 a1 0 0 (sI σ 13 0 52 0)))))).1) 0 ((f_M_fewest_44 a1 0 (0, 1, (f_M_fewest_18 a1 0 0 (sI σ 13 0 52 0) (n_M_fewest_18 a1 0 0 (sI σ 13 0 52 0)))) (n_M_fewest_44 a1 0 (0, 1, (f_M_fewest_18 a1 0 0 (sI σ 13 0 52 0) (n_M_fewest_18 a1 0 0 (sI σ 13 0 52 0)))))).2.2) (-1)))) (sI ((f_M_fewest_44 a1 0 (0, 1, (f_M_fewest_18 a1 0 0 (sI σ 13 0 52 0) (n_M_fewest_18 a1 0 0 (sI σ 13 0 52 0)))) (n_M_fewest_44 a1 0 (0, 1, (f_M_fewest_18 a1 0 0 (sI σ 13 0 52 0) (n_M_fewest_18 a1 0 0 (sI σ 13 0 52 0)))))).2.2) 13 0 51 0)))))
def p_M_fewest (a1 : Int32) (σ : MSto) : Prop := (¬ ((v_M_isYear a1 (sI σ 13 0 52 0)) = 0) → ((∀ i, i < (n_M_fewest_18 a1 0 0 (sI σ 13 0 52 0)) → g_M_fewest_18 a1 0 (0 + nI i) (f_M_fewest_18 a1 0 0 (sI σ 13 0 52 0) i) ∧ ¬ q_M_fewest_18s a1 0 (0 + nI i) (f_M_fewest_18 a1 0 0 (sI σ 13 0 52 0) i) = 1) ∧ ((((gI (f_M_fewest_18 a1 0 0 (sI σ 13 0 52 0) (n_M_fewest_18 a1 0 0 (sI σ 13 0 52 0))) 13 0 10) ≤ (0 + nI (n_M_fewest_18 a1 0 0 (sI σ 13 0 52 0)))) → ((∀ i, i < (n_M_fewest_44 a1 0 (0, 1, (f_M_fewest_18 a1 0 0 (sI σ 13 0 52 0) (n_M_fewest_18 a1 0 0 (sI σ 13 0 52 0))))) → g_M_fewest_44 a1 (0 + nI i) (f_M_fewest_44 a1 0 (0, 1, (f_M_fewest_18 a1 0 0 (sI σ 13 0 52 0) (n_M_fewest_18 a1 0 0 (sI σ 13 0 52 0)))) i) ∧ ¬ q_M_fewest_44s a1 (0 + nI i) (f_M_fewest_44 a1 0 (0, 1, (f_M_fewest_18 a1 0 0 (sI σ 13 0 52 0) (n_M_fewest_18 a1 0 0 (sI σ 13 0 52 0)))) i) = 1) ∧ ((((gI ((f_M_fewest_44 a1 0 (0, 1, (f_M_fewest_18 a1 0 0 (sI σ 13 0 52 0) (n_M_fewest_18 a1 0 0 (sI σ 13 0 52 0)))) (n_M_fewest_44 a1 0 (0, 1, (f_M_fewest_18 a1 0 0 (sI σ 13 0 52 0) (n_M_fewest_18 a1 0 0 (sI σ 13 0 52 0)))))).2.2) 13 0 17) ≤ (0 + nI (n_M_fewest_44 a1 0 (0, 1, (f_M_fewest_18 a1 0 0 (sI σ 13 0 52 0) (n_M_fewest_18 a1 0 0 (sI σ 13 0 52 0))))))) → ((∀ i, i < (n_M_fewest_163 ((f_M_fewest_44 a1 0 (0, 1, (f_M_fewest_18 a1 0 0 (sI σ 13 0 52 0) (n_M_fewest_18 a1 0 0 (sI σ 13 0 52 0)))) (n_M_fewest_44 a1 0 (0, 1, (f_M_fewest_18 a1 0 0 (sI σ 13 0 52 0) (n_M_fewest_18 a1 0 0 (sI σ 13 0 52 0)))))).1) 0 ((f_M_fewest_44 a1 0 (0, 1, (f_M_fewest_18 a1 0 0 (sI σ 13 0 52 0) (n_M_fewest_18 a1 0 0 (sI σ 13 0 52 0)))) (n_M_fewest_44 a1 0 (0, 1, (f_M_fewest_18 a1 0 0 (sI σ 13 0 52 0) (n_M_fewest_18 a1 0 0 (sI σ 13 0 52 0)))))).2.2) (-1)) → g_M_fewest_163 ((f_M_fewest_44 a1 0 (0, 1, (f_M_fewest_18 a1 0 0 (sI σ 13 0 52 0) (n_M_fewest_18 a1 0 0 (sI σ 13 0 52 0)))) (n_M_fewest_44 a1 0 (0, 1, (f_M_fewest_18 a1 0 0 (sI σ 13 0 52 0) (n_M_fewest_18 a1 0 0 (sI σ 13 0 52 0)))))).1) (0 + nI i) ((f_M_fewest_44 a1 0 (0, 1, (f_M_fewest_18 a1 0 0 (sI σ 13 0 52 0) (n_M_fewest_18 a1 0 0 (sI σ 13 0 52 0)))) (n_M_fewest_44 a1 0 (0, 1, (f_M_fewest_18 a1 0 0 (sI σ 13 0 52 0) (n_M_fewest_18 a1 0 0 (sI σ 13 0 52 0)))))).2.2) (f_M_fewest_163 ((f_M_fewest_44 a1 0 (0, 1, (f_M_fewest_18 a1 0 0 (sI σ 13 0 52 0) (n_M_fewest_18 a1 0 0 (sI σ 13 0 52 0)))) (n_M_fewest_44 a1 0 (0, 1, (f_M_fewest_18 a1 0 0 (sI σ 13 0 52 0) (n_M_fewest_18 a1 0 0 (sI σ 13 0 52 0)))))).1) 0 ((f_M_fewest_44 a1 0 (0, 1, (f_M_fewest_18 a1 0 0 (sI σ 13 0 52 0) (n_M_fewest_18 a1 0 0 (sI σ 13 0 52 0)))) (n_M_fewest_44 a1 0 (0, 1, (f_M_fewest_18 a1 0 0 (sI σ 13 0 52 0) (n_M_fewest_18 a1 0 0 (sI σ 13 0 52 0)))))).2.2) (-1) i) ∧ ¬ q_M_fewest_163s ((f_M_fewest_44 a1 0 (0, 1, (f_M_fewest_18 a1 0 0 (sI σ 13 0 52 0) (n_M_fewest_18 a1 0 0 (sI σ 13 0 52 0)))) (n_M_fewest_44 a1 0 (0, 1, (f_M_fewest_18 a1 0 0 (sI σ 13 0 52 0) (n_M_fewest_18 a1 0 0 (sI σ 13 0 52 0)))))).1) (0 + nI i) ((f_M_fewest_44 a1 0 (0, 1, (f_M_fewest_18 a1 0 0 (sI σ 13 0 52 0) (n_M_fewest_18 a1 0 0 (sI σ 13 0 52 0)))) (n_M_fewest_44 a1 0 (0, 1, (f_M_fewest_18 a1 0 0 (sI σ 13 0 52 0) (n_M_fewest_18 a1 0 0 (sI σ 13 0 52 0)))))).2.2) (f_M_fewest_163 ((f_M_fewest_44 a1 0 (0, 1, (f_M_fewest_18 a1 0 0 (sI σ 13 0 52 0) (n_M_fewest_18 a1 0 0 (sI σ 13 0 52 0)))) (n_M_fewest_44 a1 0 (0, 1, (f_M_fewest_18 a1 0 0 (sI σ 13 0 52 0) (n_M_fewest_18 a1 0 0 (sI σ 13 0 52 0)))))).1) 0 ((f_M_fewest_44 a1 0 (0, 1, (f_M_fewest_18 a1 0 0 (sI σ 13 0 52 0) (n_M_fewest_18 a1 0 0 (sI σ 13 0 52 0)))) (n_M_fewest_44 a1 0 (0, 1, (f_M_fewest_18 a1 0 0 (sI σ 13 0 52 0) (n_M_fewest_18 a1 0 0 (sI σ 13 0 52 0)))))).2.2) (-1) i) = 1) ∧ ((((1 <<< ((gI ((f_M_fewest_44 a1 0 (0, 1, (f_M_fewest_18 a1 0 0 (sI σ 13 0 52 0) (n_M_fewest_18 a1 0 0 (sI σ 13 0 52 0)))) (n_M_fewest_44 a1 0 (0, 1, (f_M_fewest_18 a1 0 0 (sI σ 13 0 52 0) (n_M_fewest_18 a1 0 0 (sI σ 13 0 52 0)))))).2.2) 13 0 10) &&& 31)) ≤ (0 + nI (n_M_fewest_163 ((f_M_fewest_44 a1 0 (0, 1, (f_M_fewest_18 a1 0 0 (sI σ 13 0 52 0) (n_M_fewest_18 a1 0 0 (sI σ 13 0 52 0)))) (n_M_fewest_44 a1 0 (0, 1, (f_M_fewest_18 a1 0 0 (sI σ 13 0 52 0) (n_M_fewest_18 a1 0 0 (sI σ 13 0 52 0)))))).1) 0 ((f_M_fewest_44 a1 0 (0, 1, (f_M_fewest_18 a1 0 0 (sI σ 13 0 52 0) (n_M_fewest_18 a1 0 0 (sI σ 13 0 52 0)))) (n_M_fewest_44 a1 0 (0, 1, (f_M_fewest_18 a1 0 0 (sI σ 13 0 52 0) (n_M_fewest_18 a1 0 0 (sI σ 13 0 52 0)))))).2.2) (-1)))) → (¬ ((f_M_fewest_163 ((f_M_fewest_44 a1 0 (0, 1, (f_M_fewest_18 a1 0 0 (sI σ 13 0 52 0) (n_M_fewest_18 a1 0 0 (sI σ 13 0 52 0)))) (n_M_fewest_44 a1 0 (0, 1, (f_M_fewest_18 a1 0 0 (sI σ 13 0 52 0) (n_M_fewest_18 a1 0 0 (sI σ 13 0 52 0)))))).1) 0 ((f_M_fewest_44 a1 0 (0, 1, (f_M_fewest_18 a1 0 0 (sI σ 13 0 52 0) (n_M_fewest_18 a1 0 0 (sI σ 13 0 52 0)))) (n_M_fewest_44 a1 0 (0, 1, (f_M_fewest_18 a1 0 0 (sI σ 13 0 52 0) (n_M_fewest_18 a1 0 0 (sI σ 13 0 52 0)))))).2.2) (-1) (n_M_fewest_163 ((f_M_fewest_44 a1 0 (0, 1, (f_M_fewest_18 a1 0 0 (sI σ 13 0 52 0) (n_M_fewest_18 a1 0 0 (sI σ 13 0 52 0)))) (n_M_fewest_44 a1 0 (0, 1, (f_M_fewest_18 a1 0 0 (sI σ 13 0 52 0) (n_M_fewest_18 a1 0 0 (sI σ 13 0 52 0)))))).1) 0 ((f_M_fewest_44 a1 0 (0, 1, (f_M_fewest_18 a1 0 0 (sI σ 13 0 52 0) (n_M_fewest_18 a1 0 0 (sI σ 13 0 52 0)))) (n_M_fewest_44 a1 0 (0, 1, (f_M_fewest_18 a1 0 0 (sI σ 13 0 52 0) (n_M_fewest_18 a1 0 0 (sI σ 13 0 52 0)))))).2.2) (-1))) = (-1)) → (p_M_tell (Int32.toInt64 (f_M_fewest_163 ((f_M_fewest_44 a1 0 (0, 1, (f_M_fewest_18 a1 0 0 (sI σ 13 0 52 0) (n_M_fewest_18 a1 0 0 (sI σ 13 0 52 0)))) (n_M_fewest_44 a1 0 (0, 1, (f_M_fewest_18 a1 0 0 (sI σ 13 0 52 0) (n_M_fewest_18 a1 0 0 (sI σ 13 0 52 0)))))).1) 0 ((f_M_fewest_44 a1 0 (0, 1, (f_M_fewest_18 a1 0 0 (sI σ 13 0 52 0) (n_M_fewest_18 a1 0 0 (sI σ 13 0 52 0)))) (n_M_fewest_44 a1 0 (0, 1, (f_M_fewest_18 a1 0 0 (sI σ 13 0 52 0) (n_M_fewest_18 a1 0 0 (sI σ 13 0 52 0)))))).2.2) (-1) (n_M_fewest_163 ((f_M_fewest_44 a1 0 (0, 1, (f_M_fewest_18 a1 0 0 (sI σ 13 0 52 0) (n_M_fewest_18 a1 0 0 (sI σ 13 0 52 0)))) (n_M_fewest_44 a1 0 (0, 1, (f_M_fewest_18 a1 0 0 (sI σ 13 0 52 0) (n_M_fewest_18 a1 0 0 (sI σ 13 0 52 0)))))).1) 0 ((f_M_fewest_44 a1 0 (0, 1, (f_M_fewest_18 a1 0 0 (sI σ 13 0 52 0) (n_M_fewest_18 a1 0 0 (sI σ 13 0 52 0)))) (n_M_fewest_44 a1 0 (0, 1, (f_M_fewest_18 a1 0 0 (sI σ 13 0 52 0) (n_M_fewest_18 a1 0 0 (sI σ 13 0 52 0)))))).2.2) (-1)))) (sI ((f_M_fewest_44 a1 0 (0, 1, (f_M_fewest_18 a1 0 0 (sI σ 13 0 52 0) (n_M_fewest_18 a1 0 0 (sI σ 13 0 52 0)))) (n_M_fewest_44 a1 0 (0, 1, (f_M_fewest_18 a1 0 0 (sI σ 13 0 52 0) (n_M_fewest_18 a1 0 0 (sI σ 13 0 52 0)))))).2.2) 13 0 51 0)))) ∧ (¬ ((1 <<< ((gI ((f_M_fewest_44 a1 0 (0, 1, (f_M_fewest_18 a1 0 0 (sI σ 13 0 52 0) (n_M_fewest_18 a1 0 0 (sI σ 13 0 52 0)))) (n_M_fewest_44 a1 0 (0, 1, (f_M_fewest_18 a1 0 0 (sI σ 13 0 52 0) (n_M_fewest_18 a1 0 0 (sI σ 13 0 52 0)))))).2.2) 13 0 10) &&& 31)) ≤ (0 + nI (n_M_fewest_163 ((f_M_fewest_44 a1 0 (0, 1, (f_M_fewest_18 a1 0 0 (sI σ 13 0 52 0) (n_M_fewest_18 a1 0 0 (sI σ 13 0 52 0)))) (n_M_fewest_44 a1 0 (0, 1, (f_M_fewest_18 a1 0 0 (sI σ 13 0 52 0) (n_M_fewest_18 a1 0 0 (sI σ 13 0 52 0)))))).1) 0 ((f_M_fewest_44 a1 0 (0, 1, (f_M_fewest_18 a1 0 0 (sI σ 13 0 52 0) (n_M_fewest_18 a1 0 0 (sI σ 13 0 52 0)))) (n_M_fewest_44 a1 0 (0, 1, (f_M_fewest_18 a1 0 0 (sI σ 13 0 52 0) (n_M_fewest_18 a1 0 0 (sI σ 13 0 52 0)))))).2.2) (-1)))) → False)))) ∧ (¬ ((gI ((f_M_fewest_44 a1 0 (0, 1, (f_M_fewest_18 a1 0 0 (sI σ 13 0 52 0) (n_M_fewest_18 a1 0 0 (sI σ 13 0 52 0)))) (n_M_fewest_44 a1 0 (0, 1, (f_M_fewest_18 a1 0 0 (sI σ 13 0 52 0) (n_M_fewest_18 a1 0 0 (sI σ 13 0 52 0)))))).2.2) 13 0 17) ≤ (0 + nI (n_M_fewest_44 a1 0 (0, 1, (f_M_fewest_18 a1 0 0 (sI σ 13 0 52 0) (n_M_fewest_18 a1 0 0 (sI σ 13 0 52 0))))))) → False)))) ∧ (¬ ((gI (f_M_fewest_18 a1 0 0 (sI σ 13 0 52 0) (n_M_fewest_18 a1 0 0 (sI σ 13 0 52 0))) 13 0 10) ≤ (0 + nI (n_M_fewest_18 a1 0 0 (sI σ 13 0 52 0)))) → False))))
noncomputable def e_M_fewest (a1 : Int32) (σ : MSto) : MSto := (if (v_M_isYear a1 (sI σ 13 0 52 0)) = 0 then (sI σ 13 0 52 0) else (if (f_M_fewest_163 ((f_M_fewest_44 a1 0 (0, 1, (f_M_fewest_18 a1 0 0 (sI σ 13 0 52 0) (n_M_fewest_18 a1 0 0 (sI σ 13 0 52 0)))) (n_M_fewest_44 a1 0 (0, 1, (f_M_fewest_18 a1 0 0 (sI σ 13 0 52 0) (n_M_fewest_18 a1 0 0 (sI σ 13 0 52 0)))))).1) 0 ((f_M_fewest_44 a1 0 (0, 1, (f_M_fewest_18 a1 0 0 (sI σ 13 0 52 0) (n_M_fewest_18 a1 0 0 (sI σ 13 0 52 0)))) (n_M_fewest_44 a1 0 (0, 1, (f_M_fewest_18 a1 0 0 (sI σ 13 0 52 0) (n_M_fewest_18 a1 0 0 (sI σ 13 0 52 0)))))).2.2) (-1) (n_M_fewest_163 ((f_M_fewest_44 a1 0 (0, 1, (f_M_fewest_18 a1 0 0 (sI σ 13 0 52 0) (n_M_fewest_18 a1 0 0 (sI σ 13 0 52 0)))) (n_M_fewest_44 a1 0 (0, 1, (f_M_fewest_18 a1 0 0 (sI σ 13 0 52 0) (n_M_fewest_18 a1 0 0 (sI σ 13 0 52 0)))))).1) 0 ((f_M_fewest_44 a1 0 (0, 1, (f_M_fewest_18 a1 0 0 (sI σ 13 0 52 0) (n_M_fewest_18 a1 0 0 (sI σ 13 0 52 0)))) (n_M_fewest_44 a1 0 (0, 1, (f_M_fewest_18 a1 0 0 (sI σ 13 0 52 0) (n_M_fewest_18 a1 0 0 (sI σ 13 0 52 0)))))).2.2) (-1))) = (-1) then ((f_M_fewest_44 a1 0 (0, 1, (f_M_fewest_18 a1 0 0 (sI σ 13 0 52 0) (n_M_fewest_18 a1 0 0 (sI σ 13 0 52 0)))) (n_M_fewest_44 a1 0 (0, 1, (f_M_fewest_18 a1 0 0 (sI σ 13 0 52 0) (n_M_fewest_18 a1 0 0 (sI σ 13 0 52 0)))))).2.2) else (e_M_tell (Int32.toInt64 (f_M_fewest_163 ((f_M_fewest_44 a1 0 (0, 1, (f_M_fewest_18 a1 0 0 (sI σ 13 0 52 0) (n_M_fewest_18 a1 0 0 (sI σ 13 0 52 0)))) (n_M_fewest_44 a1 0 (0, 1, (f_M_fewest_18 a1 0 0 (sI σ 13 0 52 0) (n_M_fewest_18 a1 0 0 (sI σ 13 0 52 0)))))).1) 0 ((f_M_fewest_44 a1 0 (0, 1, (f_M_fewest_18 a1 0 0 (sI σ 13 0 52 0) (n_M_fewest_18 a1 0 0 (sI σ 13 0 52 0)))) (n_M_fewest_44 a1 0 (0, 1, (f_M_fewest_18 a1 0 0 (sI σ 13 0 52 0) (n_M_fewest_18 a1 0 0 (sI σ 13 0 52 0)))))).2.2) (-1) (n_M_fewest_163 ((f_M_fewest_44 a1 0 (0, 1, (f_M_fewest_18 a1 0 0 (sI σ 13 0 52 0) (n_M_fewest_18 a1 0 0 (sI σ 13 0 52 0)))) (n_M_fewest_44 a1 0 (0, 1, (f_M_fewest_18 a1 0 0 (sI σ 13 0 52 0) (n_M_fewest_18 a1 0 0 (sI σ 13 0 52 0)))))).1) 0 ((f_M_fewest_44 a1 0 (0, 1, (f_M_fewest_18 a1 0 0 (sI σ 13 0 52 0) (n_M_fewest_18 a1 0 0 (sI σ 13 0 52 0)))) (n_M_fewest_44 a1 0 (0, 1, (f_M_fewest_18 a1 0 0 (sI σ 13 0 52 0) (n_M_fewest_18 a1 0 0 (sI σ 13 0 52 0)))))).2.2) (-1)))) (sI ((f_M_fewest_44 a1 0 (0, 1, (f_M_fewest_18 a1 0 0 (sI σ 13 0 52 0) (n_M_fewest_18 a1 0 0 (sI σ 13 0 52 0)))) (n_M_fewest_44 a1 0 (0, 1, (f_M_fewest_18 a1 0 0 (sI σ 13 0 52 0) (n_M_fewest_18 a1 0 0 (sI σ 13 0 52 0)))))).2.2) 13 0 51 0))))
noncomputable def S_M_fewest : List MV → MSto → Option Prop × Option MV × MSto := fun as σ => match as with
  | [.inr (.inr (some (13, 0))), .inl a0] => (some (p_M_fewest a0 σ), some (mI (v_M_fewest a0 σ)), e_M_fewest a0 σ)
  | _ => (some False, none, σ)
noncomputable def E_M_fewest : MEnt := ((1, 1, 13), (4, 104, 0, 0), S_M_fewest, ((⟨"ClothWithManModel", "fewest", "(I)I"⟩ : MethodName), prog_14_method_89_code, 8, (some .int)))

def T_M_fewest : Nat → Option (Instr × Nat × List Nat) := fun k => bif Nat.blt k 286 then (bif Nat.blt k 132 then (bif Nat.blt k 65 then (bif Nat.blt k 31 then (bif Nat.blt k 15 then (bif Nat.blt k 6 then (bif Nat.blt k 2 then (bif Nat.blt k 1 then (bif Nat.beq k 0 then some (.aload_n 0, 1, []) else none) else (bif Nat.beq k 1 then some (.iconst 0, 2, []) else none)) else (bif Nat.blt k 5 then (bif Nat.beq k 2 then some (.putfield 161, 5, []) else none) else (bif Nat.beq k 5 then some (.iload_n 1, 6, []) else none))) else (bif Nat.blt k 12 then (bif Nat.blt k 9 then (bif Nat.beq k 6 then some (.invokestatic 228, 9, []) else none) else (bif Nat.beq k 9 then some (.ifCond .ne 5, 12, [14]) else none)) else (bif Nat.blt k 13 then (bif Nat.beq k 12 then some (.iconst (-1), 13, []) else none) else (bif Nat.blt k 14 then (bif Nat.beq k 13 then some (.ireturn, 14, []) else none) else (bif Nat.beq k 14 then some (.iconst 0, 15, []) else none))))) else (bif Nat.blt k 20 then (bif Nat.blt k 17 then (bif Nat.blt k 16 then (bif Nat.beq k 15 then some (.istore_n 2, 16, []) else none) else (bif Nat.beq k 16 then some (.iconst 0, 17, []) else none)) else (bif Nat.blt k 18 then (bif Nat.beq k 17 then some (.istore_n 3, 18, []) else none) else (bif Nat.blt k 19 then (bif Nat.beq k 18 then some (.iload_n 3, 19, []) else none) else (bif Nat.beq k 19 then some (.aload_n 0, 20, []) else none)))) else (bif Nat.blt k 26 then (bif Nat.blt k 23 then (bif Nat.beq k 20 then some (.getfield 185, 23, []) else none) else (bif Nat.beq k 23 then some (.if_icmp .ge 16, 26, [39]) else none)) else (bif Nat.blt k 27 then (bif Nat.beq k 26 then some (.aload_n 0, 27, []) else none) else (bif Nat.blt k 30 then (bif Nat.beq k 27 then some (.getfield 158, 30, []) else none) else (bif Nat.beq k 30 then some (.iload_n 3, 31, []) else none)))))) else (bif Nat.blt k 46 then (bif Nat.blt k 39 then (bif Nat.blt k 33 then (bif Nat.blt k 32 then (bif Nat.beq k 31 then some (.iconst 0, 32, []) else none) else (bif Nat.beq k 32 then some (.iastore, 33, []) else none)) else (bif Nat.blt k 36 then (bif Nat.beq k 33 then some (.iinc 3 1, 36, []) else none) else (bif Nat.beq k 36 then some (.goto (-18), 39, [18]) else none))) else (bif Nat.blt k 41 then (bif Nat.blt k 40 then (bif Nat.beq k 39 then some (.iconst 1, 40, []) else none) else (bif Nat.beq k 40 then some (.istore_n 3, 41, []) else none)) else (bif Nat.blt k 42 then (bif Nat.beq k 41 then some (.iconst 0, 42, []) else none) else (bif Nat.blt k 44 then (bif Nat.beq k 42 then some (.istore 4, 44, []) else none) else (bif Nat.beq k 44 then some (.iload 4, 46, []) else none))))) else (bif Nat.blt k 56 then (bif Nat.blt k 50 then (bif Nat.blt k 47 then (bif Nat.beq k 46 then some (.aload_n 0, 47, []) else none) else (bif Nat.beq k 47 then some (.getfield 188, 50, []) else none)) else (bif Nat.blt k 53 then (bif Nat.beq k 50 then some (.if_icmp .ge 107, 53, [157]) else none) else (bif Nat.blt k 55 then (bif Nat.beq k 53 then some (.iload 4, 55, []) else none) else (bif Nat.beq k 55 then some (.iconst 1, 56, []) else none)))) else (bif Nat.blt k 59 then (bif Nat.blt k 57 then (bif Nat.beq k 56 then some (.iadd, 57, []) else none) else (bif Nat.beq k 57 then some (.istore 5, 59, []) else none)) else (bif Nat.blt k 61 then (bif Nat.beq k 59 then some (.iload 5, 61, []) else none) else (bif Nat.blt k 62 then (bif Nat.beq k 61 then some (.aload_n 0, 62, []) else none) else (bif Nat.beq k 62 then some (.getfield 188, 65, []) else none))))))) else (bif Nat.blt k 97 then (bif Nat.blt k 78 then (bif Nat.blt k 71 then (bif Nat.blt k 69 then (bif Nat.blt k 68 then (bif Nat.beq k 65 then some (.if_icmp .ge 86, 68, [151]) else none) else (bif Nat.beq k 68 then some (.iload_n 2, 69, []) else none)) else (bif Nat.blt k 70 then (bif Nat.beq k 69 then some (.iload_n 3, 70, []) else none) else (bif Nat.beq k 70 then some (.ior, 71, []) else none))) else (bif Nat.blt k 73 then (bif Nat.blt k 72 then (bif Nat.beq k 71 then some (.istore_n 2, 72, []) else none) else (bif Nat.beq k 72 then some (.iconst 0, 73, []) else none)) else (bif Nat.blt k 75 then (bif Nat.beq k 73 then some (.istore 6, 75, []) else none) else (bif Nat.blt k 77 then (bif Nat.beq k 75 then some (.iload 6, 77, []) else none) else (bif Nat.beq k 77 then some (.aload_n 0, 78, []) else none))))) else (bif Nat.blt k 89 then (bif Nat.blt k 84 then (bif Nat.blt k 81 then (bif Nat.beq k 78 then some (.getfield 185, 81, []) else none) else (bif Nat.beq k 81 then some (.if_icmp .ge 60, 84, [141]) else none)) else (bif Nat.blt k 85 then (bif Nat.beq k 84 then some (.aload_n 0, 85, []) else none) else (bif Nat.blt k 87 then (bif Nat.beq k 85 then some (.iload 4, 87, []) else none) else (bif Nat.beq k 87 then some (.iload 5, 89, []) else none)))) else (bif Nat.blt k 93 then (bif Nat.blt k 90 then (bif Nat.beq k 89 then some (.aload_n 0, 90, []) else none) else (bif Nat.beq k 90 then some (.getfield 35, 93, []) else none)) else (bif Nat.blt k 95 then (bif Nat.beq k 93 then some (.iload 6, 95, []) else none) else (bif Nat.blt k 96 then (bif Nat.beq k 95 then some (.iaload, 96, []) else none) else (bif Nat.beq k 96 then some (.aload_n 0, 97, []) else none)))))) else (bif Nat.blt k 114 then (bif Nat.blt k 104 then (bif Nat.blt k 102 then (bif Nat.blt k 100 then (bif Nat.beq k 97 then some (.getfield 38, 100, []) else none) else (bif Nat.beq k 100 then some (.iload 6, 102, []) else none)) else (bif Nat.blt k 103 then (bif Nat.beq k 102 then some (.iaload, 103, []) else none) else (bif Nat.beq k 103 then some (.aload_n 0, 104, []) else none))) else (bif Nat.blt k 109 then (bif Nat.blt k 107 then (bif Nat.beq k 104 then some (.getfield 41, 107, []) else none) else (bif Nat.beq k 107 then some (.iload 6, 109, []) else none)) else (bif Nat.blt k 110 then (bif Nat.beq k 109 then some (.iaload, 110, []) else none) else (bif Nat.blt k 111 then (bif Nat.beq k 110 then some (.aload_n 0, 111, []) else none) else (bif Nat.beq k 111 then some (.getfield 44, 114, []) else none))))) else (bif Nat.blt k 124 then (bif Nat.blt k 117 then (bif Nat.blt k 116 then (bif Nat.beq k 114 then some (.iload 6, 116, []) else none) else (bif Nat.beq k 116 then some (.iaload, 117, []) else none)) else (bif Nat.blt k 118 then (bif Nat.beq k 117 then some (.iload_n 1, 118, []) else none) else (bif Nat.blt k 121 then (bif Nat.beq k 118 then some (.invokevirtual 414, 121, []) else none) else (bif Nat.beq k 121 then some (.ifCond .eq 14, 124, [135]) else none)))) else (bif Nat.blt k 128 then (bif Nat.blt k 125 then (bif Nat.beq k 124 then some (.aload_n 0, 125, []) else none) else (bif Nat.beq k 125 then some (.getfield 158, 128, []) else none)) else (bif Nat.blt k 130 then (bif Nat.beq k 128 then some (.iload 6, 130, []) else none) else (bif Nat.blt k 131 then (bif Nat.beq k 130 then some (.dup2, 131, []) else none) else (bif Nat.beq k 131 then some (.iaload, 132, []) else none)))))))) else (bif Nat.blt k 205 then (bif Nat.blt k 166 then (bif Nat.blt k 145 then (bif Nat.blt k 138 then (bif Nat.blt k 134 then (bif Nat.blt k 133 then (bif Nat.beq k 132 then some (.iload_n 3, 133, []) else none) else (bif Nat.beq k 133 then some (.ior, 134, []) else none)) else (bif Nat.blt k 135 then (bif Nat.beq k 134 then some (.iastore, 135, []) else none) else (bif Nat.beq k 135 then some (.iinc 6 1, 138, []) else none))) else (bif Nat.blt k 142 then (bif Nat.blt k 141 then (bif Nat.beq k 138 then some (.goto (-63), 141, [75]) else none) else (bif Nat.beq k 141 then some (.iload_n 3, 142, []) else none)) else (bif Nat.blt k 143 then (bif Nat.beq k 142 then some (.iconst 1, 143, []) else none) else (bif Nat.blt k 144 then (bif Nat.beq k 143 then some (.ishl, 144, []) else none) else (bif Nat.beq k 144 then some (.istore_n 3, 145, []) else none))))) else (bif Nat.blt k 158 then (bif Nat.blt k 151 then (bif Nat.blt k 148 then (bif Nat.beq k 145 then some (.iinc 5 1, 148, []) else none) else (bif Nat.beq k 148 then some (.goto (-89), 151, [59]) else none)) else (bif Nat.blt k 154 then (bif Nat.beq k 151 then some (.iinc 4 1, 154, []) else none) else (bif Nat.blt k 157 then (bif Nat.beq k 154 then some (.goto (-110), 157, [44]) else none) else (bif Nat.beq k 157 then some (.iconst (-1), 158, []) else none)))) else (bif Nat.blt k 161 then (bif Nat.blt k 160 then (bif Nat.beq k 158 then some (.istore 4, 160, []) else none) else (bif Nat.beq k 160 then some (.iconst 0, 161, []) else none)) else (bif Nat.blt k 163 then (bif Nat.beq k 161 then some (.istore 5, 163, []) else none) else (bif Nat.blt k 165 then (bif Nat.beq k 163 then some (.iload 5, 165, []) else none) else (bif Nat.beq k 165 then some (.iconst 1, 166, []) else none)))))) else (bif Nat.blt k 185 then (bif Nat.blt k 174 then (bif Nat.blt k 170 then (bif Nat.blt k 167 then (bif Nat.beq k 166 then some (.aload_n 0, 167, []) else none) else (bif Nat.beq k 167 then some (.getfield 185, 170, []) else none)) else (bif Nat.blt k 171 then (bif Nat.beq k 170 then some (.ishl, 171, []) else none) else (bif Nat.beq k 171 then some (.if_icmp .ge 88, 174, [259]) else none))) else (bif Nat.blt k 177 then (bif Nat.blt k 176 then (bif Nat.beq k 174 then some (.iload 4, 176, []) else none) else (bif Nat.beq k 176 then some (.iconst (-1), 177, []) else none)) else (bif Nat.blt k 180 then (bif Nat.beq k 177 then some (.if_icmp .eq 19, 180, [196]) else none) else (bif Nat.blt k 182 then (bif Nat.beq k 180 then some (.iload 5, 182, []) else none) else (bif Nat.beq k 182 then some (.invokestatic 296, 185, []) else none))))) else (bif Nat.blt k 197 then (bif Nat.blt k 190 then (bif Nat.blt k 187 then (bif Nat.beq k 185 then some (.iload 4, 187, []) else none) else (bif Nat.beq k 187 then some (.invokestatic 296, 190, []) else none)) else (bif Nat.blt k 193 then (bif Nat.beq k 190 then some (.if_icmp .lt 6, 193, [196]) else none) else (bif Nat.blt k 196 then (bif Nat.beq k 193 then some (.goto 60, 196, [253]) else none) else (bif Nat.beq k 196 then some (.iconst 0, 197, []) else none)))) else (bif Nat.blt k 200 then (bif Nat.blt k 199 then (bif Nat.beq k 197 then some (.istore 6, 199, []) else none) else (bif Nat.beq k 199 then some (.iconst 0, 200, []) else none)) else (bif Nat.blt k 202 then (bif Nat.beq k 200 then some (.istore 7, 202, []) else none) else (bif Nat.blt k 204 then (bif Nat.beq k 202 then some (.iload 7, 204, []) else none) else (bif Nat.beq k 204 then some (.aload_n 0, 205, []) else none))))))) else (bif Nat.blt k 246 then (bif Nat.blt k 227 then (bif Nat.blt k 215 then (bif Nat.blt k 211 then (bif Nat.blt k 208 then (bif Nat.beq k 205 then some (.getfield 185, 208, []) else none) else (bif Nat.beq k 208 then some (.if_icmp .ge 35, 211, [243]) else none)) else (bif Nat.blt k 213 then (bif Nat.beq k 211 then some (.iload 6, 213, []) else none) else (bif Nat.beq k 213 then some (.iload 5, 215, []) else none))) else (bif Nat.blt k 220 then (bif Nat.blt k 217 then (bif Nat.beq k 215 then some (.iload 7, 217, []) else none) else (bif Nat.beq k 217 then some (.invokestatic 301, 220, []) else none)) else (bif Nat.blt k 223 then (bif Nat.beq k 220 then some (.ifCond .eq 13, 223, [233]) else none) else (bif Nat.blt k 224 then (bif Nat.beq k 223 then some (.aload_n 0, 224, []) else none) else (bif Nat.beq k 224 then some (.getfield 158, 227, []) else none))))) else (bif Nat.blt k 235 then (bif Nat.blt k 230 then (bif Nat.blt k 229 then (bif Nat.beq k 227 then some (.iload 7, 229, []) else none) else (bif Nat.beq k 229 then some (.iaload, 230, []) else none)) else (bif Nat.blt k 233 then (bif Nat.beq k 230 then some (.goto 4, 233, [234]) else none) else (bif Nat.blt k 234 then (bif Nat.beq k 233 then some (.iconst 0, 234, []) else none) else (bif Nat.beq k 234 then some (.ior, 235, []) else none)))) else (bif Nat.blt k 240 then (bif Nat.blt k 237 then (bif Nat.beq k 235 then some (.istore 6, 237, []) else none) else (bif Nat.beq k 237 then some (.iinc 7 1, 240, []) else none)) else (bif Nat.blt k 243 then (bif Nat.beq k 240 then some (.goto (-38), 243, [202]) else none) else (bif Nat.blt k 245 then (bif Nat.beq k 243 then some (.iload 6, 245, []) else none) else (bif Nat.beq k 245 then some (.iload_n 2, 246, []) else none)))))) else (bif Nat.blt k 268 then (bif Nat.blt k 259 then (bif Nat.blt k 251 then (bif Nat.blt k 249 then (bif Nat.beq k 246 then some (.if_icmp .ne 7, 249, [253]) else none) else (bif Nat.beq k 249 then some (.iload 5, 251, []) else none)) else (bif Nat.blt k 253 then (bif Nat.beq k 251 then some (.istore 4, 253, []) else none) else (bif Nat.blt k 256 then (bif Nat.beq k 253 then some (.iinc 5 1, 256, []) else none) else (bif Nat.beq k 256 then some (.goto (-93), 259, [163]) else none)))) else (bif Nat.blt k 262 then (bif Nat.blt k 261 then (bif Nat.beq k 259 then some (.iload 4, 261, []) else none) else (bif Nat.beq k 261 then some (.iconst (-1), 262, []) else none)) else (bif Nat.blt k 265 then (bif Nat.beq k 262 then some (.if_icmp .ne 6, 265, [268]) else none) else (bif Nat.blt k 267 then (bif Nat.beq k 265 then some (.bipush (-2), 267, []) else none) else (bif Nat.beq k 267 then some (.ireturn, 268, []) else none))))) else (bif Nat.blt k 276 then (bif Nat.blt k 270 then (bif Nat.blt k 269 then (bif Nat.beq k 268 then some (.aload_n 0, 269, []) else none) else (bif Nat.beq k 269 then some (.iconst 0, 270, []) else none)) else (bif Nat.blt k 273 then (bif Nat.beq k 270 then some (.putfield 164, 273, []) else none) else (bif Nat.blt k 274 then (bif Nat.beq k 273 then some (.aload_n 0, 274, []) else none) else (bif Nat.beq k 274 then some (.iload 4, 276, []) else none)))) else (bif Nat.blt k 280 then (bif Nat.blt k 277 then (bif Nat.beq k 276 then some (.i2l, 277, []) else none) else (bif Nat.beq k 277 then some (.invokevirtual 177, 280, []) else none)) else (bif Nat.blt k 282 then (bif Nat.beq k 280 then some (.iload 4, 282, []) else none) else (bif Nat.blt k 285 then (bif Nat.beq k 282 then some (.invokestatic 296, 285, []) else none) else (bif Nat.beq k 285 then some (.ireturn, 286, []) else none))))))))) else none
noncomputable def P_M_fewest : MP := (T_M_fewest, (fun k => mLook k [(35, (13, 11, (.array .int), true)), (38, (13, 12, (.array .int), true)), (41, (13, 13, (.array .int), true)), (44, (13, 14, (.array .int), true)), (158, (13, 70, (.array .int), true)), (161, (13, 52, .int, false)), (164, (13, 51, .int, false)), (185, (13, 10, .int, false)), (188, (13, 17, .int, false))]), (fun k => mLook k []), (fun k => mLook k [(177, E_M_tell), (228, E_M_isYear), (296, E_In_bitCount), (301, E_M_has), (414, E_M_areParted)]), (fun k => mLook k []), (fun k => mLook k []), (fun k => mLook k []), (fun k => mLook k [(18, [true, true, true, true, false, false, false, false]), (44, [true, true, true, true, true, false, false, false]), (59, [true, true, true, true, true, true, false, false]), (75, [true, true, true, true, true, true, true, false]), (163, [true, false, true, false, true, true, false, false]), (202, [true, false, true, false, true, true, true, true])]), (fun k => [13, 267, 285].any (Nat.beq k)), (4, 104, 0, 0), false, (fun _ => none))
set_option maxRecDepth 100000 in
set_option maxHeartbeats 4000000 in
theorem q_M_fewest_e (a1 : Int32) (σ : MSto) (n : Nat) : mexe KT P_M_fewest (n + 1) (0, [some (mR 13 0), some (mI a1), none, none, none, none, none, none], [], σ, 0, 0) = (if (v_M_isYear a1 (sI σ 13 0 52 0)) = 0 then some (13, [], [(mI (-1))], (sI σ 13 0 52 0), 0, 0) else mexe KT P_M_fewest n (18, [some (mR 13 0), some (mI a1), some (mI 0), some (mI 0), none, none, none, none], [], (sI σ 13 0 52 0), 0, 0)) := rfl
set_option maxRecDepth 100000 in
set_option maxHeartbeats 4000000 in
theorem q_M_fewest_18 (x1 : Int32) (x2 : Int32) (x3 : Int32) (σ : MSto) (n : Nat) : mexe KT P_M_fewest (n + 1) (18, [some (mR 13 0), some (mI x1), some (mI x2), some (mI x3), none, none, none, none], [], σ, 0, 0) = (if (gI σ 13 0 10) ≤ x3 then mexe KT P_M_fewest n (44, [some (mR 13 0), some (mI x1), some (mI x2), some (mI 1), some (mI 0), none, none, none], [], σ, 0, 0) else mG (vp_in x3 12) (mexe KT P_M_fewest n (18, [some (mR 13 0), some (mI x1), some (mI x2), some (mI (x3 + 1)), none, none, none, none], [], (sI σ 86 0 (Int32.toNatClampNeg x3) 0), 0, 0))) := rfl
set_option maxRecDepth 100000 in
set_option maxHeartbeats 4000000 in
theorem q_M_fewest_44 (x1 : Int32) (x2 : Int32) (x3 : Int32) (x4 : Int32) (σ : MSto) (n : Nat) : mexe KT P_M_fewest (n + 1) (44, [some (mR 13 0), some (mI x1), some (mI x2), some (mI x3), some (mI x4), none, none, none], [], σ, 0, 0) = (if (gI σ 13 0 17) ≤ x4 then mexe KT P_M_fewest n (163, [some (mR 13 0), none, some (mI x2), none, some (mI (-1)), some (mI 0), none, none], [], σ, 0, 0) else mexe KT P_M_fewest n (59, [some (mR 13 0), some (mI x1), some (mI x2), some (mI x3), some (mI x4), some (mI (x4 + 1)), none, none], [], σ, 0, 0)) := rfl
set_option maxRecDepth 100000 in
set_option maxHeartbeats 4000000 in
theorem q_M_fewest_59 (x1 : Int32) (x2 : Int32) (x3 : Int32) (x4 : Int32) (x5 : Int32) (σ : MSto) (n : Nat) : mexe KT P_M_fewest (n + 1) (59, [some (mR 13 0), some (mI x1), some (mI x2), some (mI x3), some (mI x4), some (mI x5), none, none], [], σ, 0, 0) = (if (gI σ 13 0 17) ≤ x5 then mexe KT P_M_fewest n (44, [some (mR 13 0), some (mI x1), some (mI x2), some (mI x3), some (mI (x4 + 1)), none, none, none], [], σ, 0, 0) else mexe KT P_M_fewest n (75, [some (mR 13 0), some (mI x1), some (mI (x2 ||| x3)), some (mI x3), some (mI x4), some (mI x5), some (mI 0), none], [], σ, 0, 0)) := rfl
set_option maxRecDepth 100000 in
set_option maxHeartbeats 4000000 in
theorem q_M_fewest_75 (x1 : Int32) (x2 : Int32) (x3 : Int32) (x4 : Int32) (x5 : Int32) (x6 : Int32) (σ : MSto) (n : Nat) : mexe KT P_M_fewest (n + 1) (75, [some (mR 13 0), some (mI x1), some (mI x2), some (mI x3), some (mI x4), some (mI x5), some (mI x6), none], [], σ, 0, 0) = (if (gI σ 13 0 10) ≤ x6 then mexe KT P_M_fewest n (59, [some (mR 13 0), some (mI x1), some (mI x2), some (mI (x3 <<< (1 &&& 31))), some (mI x4), some (mI (x5 + 1)), none, none], [], σ, 0, 0) else mG (vp_in x6 12) (mG (vp_in x6 12) (mG (vp_in x6 12) (mG (vp_in x6 12) (mG (p_M_areParted x4 x5 (gI σ 47 0 (Int32.toNatClampNeg x6)) (gI σ 48 0 (Int32.toNatClampNeg x6)) (gI σ 49 0 (Int32.toNatClampNeg x6)) (gI σ 50 0 (Int32.toNatClampNeg x6)) x1 σ) ((if (v_M_areParted x4 x5 (gI σ 47 0 (Int32.toNatClampNeg x6)) (gI σ 48 0 (Int32.toNatClampNeg x6)) (gI σ 49 0 (Int32.toNatClampNeg x6)) (gI σ 50 0 (Int32.toNatClampNeg x6)) x1 σ) = 0 then mexe KT P_M_fewest n (75, [some (mR 13 0), some (mI x1), some (mI x2), some (mI x3), some (mI x4), some (mI x5), some (mI (x6 + 1)), none], [], σ, 0, 0) else mG (vp_in x6 12) (mG (vp_in x6 12) (mexe KT P_M_fewest n (75, [some (mR 13 0), some (mI x1), some (mI x2), some (mI x3), some (mI x4), some (mI x5), some (mI (x6 + 1)), none], [], (sI σ 86 0 (Int32.toNatClampNeg x6) ((gI σ 86 0 (Int32.toNatClampNeg x6)) ||| x3)), 0, 0)))))))))) := rfl
set_option maxRecDepth 100000 in
set_option maxHeartbeats 4000000 in
theorem q_M_fewest_163 (x2 : Int32) (x4 : Int32) (x5 : Int32) (σ : MSto) (n : Nat) : mexe KT P_M_fewest (n + 1) (163, [some (mR 13 0), none, some (mI x2), none, some (mI x4), some (mI x5), none, none], [], σ, 0, 0) = (if (1 <<< ((gI σ 13 0 10) &&& 31)) ≤ x5 then (if x4 = (-1) then some (267, [], [(mI (-2))], σ, 0, 0) else mG (p_M_tell (Int32.toInt64 x4) (sI σ 13 0 51 0)) (some (285, [], [(mI (v_In_bitCount x4 (e_M_tell (Int32.toInt64 x4) (sI σ 13 0 51 0))))], (e_M_tell (Int32.toInt64 x4) (sI σ 13 0 51 0)), 0, 0))) else (if x4 = (-1) then mexe KT P_M_fewest n (202, [some (mR 13 0), none, some (mI x2), none, some (mI x4), some (mI x5), some (mI 0), some (mI 0)], [], σ, 0, 0) else (if (v_In_bitCount x5 σ) < (v_In_bitCount x4 σ) then mexe KT P_M_fewest n (202, [some (mR 13 0), none, some (mI x2), none, some (mI x4), some (mI x5), some (mI 0), some (mI 0)], [], σ, 0, 0) else mexe KT P_M_fewest n (163, [some (mR 13 0), none, some (mI x2), none, some (mI x4), some (mI (x5 + 1)), none, none], [], σ, 0, 0)))) := rfl
set_option maxRecDepth 100000 in
set_option maxHeartbeats 4000000 in
theorem q_M_fewest_202 (x2 : Int32) (x4 : Int32) (x5 : Int32) (x6 : Int32) (x7 : Int32) (σ : MSto) (n : Nat) : mexe KT P_M_fewest (n + 1) (202, [some (mR 13 0), none, some (mI x2), none, some (mI x4), some (mI x5), some (mI x6), some (mI x7)], [], σ, 0, 0) = (if (gI σ 13 0 10) ≤ x7 then (if x6 = x2 then mexe KT P_M_fewest n (163, [some (mR 13 0), none, some (mI x2), none, some (mI x5), some (mI (x5 + 1)), none, none], [], σ, 0, 0) else mexe KT P_M_fewest n (163, [some (mR 13 0), none, some (mI x2), none, some (mI x4), some (mI (x5 + 1)), none, none], [], σ, 0, 0)) else (if (v_M_has x5 x7 σ) = 0 then mexe KT P_M_fewest n (202, [some (mR 13 0), none, some (mI x2), none, some (mI x4), some (mI x5), some (mI (x6 ||| 0)), some (mI (x7 + 1))], [], σ, 0, 0) else mG (vp_in x7 12) (mexe KT P_M_fewest n (202, [some (mR 13 0), none, some (mI x2), none, some (mI x4), some (mI x5), some (mI (x6 ||| (gI σ 86 0 (Int32.toNatClampNeg x7)))), some (mI (x7 + 1))], [], σ, 0, 0)))) := rfl
set_option maxRecDepth 100000 in
theorem lp_M_fewest_202 {Post : MST → Prop} (x2 : Int32) (x4 : Int32) (x5 : Int32) (c0 : Int32) (σ : MSto) (s0 : Int32) (N : Nat) (hb : ∀ i, i < N → g_M_fewest_202 x2 x4 x5 (c0 + nI i) σ (f_M_fewest_202 x2 x4 x5 c0 σ s0 i) ∧ ¬ q_M_fewest_202s x2 x4 x5 (c0 + nI i) σ (f_M_fewest_202 x2 x4 x5 c0 σ s0 i) = 1) (h : mW1 P_M_fewest (202, [some (mR 13 0), none, some (mI x2), none, some (mI x4), some (mI x5), some (mI (f_M_fewest_202 x2 x4 x5 c0 σ s0 N)), some (mI (c0 + nI N))], [], σ, 0, 0) Post) : mW1 P_M_fewest (202, [some (mR 13 0), none, some (mI x2), none, some (mI x4), some (mI x5), some (mI s0), some (mI c0)], [], σ, 0, 0) Post := by
  refine mW1_st (mW1_loop (fun i => (202, [some (mR 13 0), none, some (mI x2), none, some (mI x4), some (mI x5), some (mI (f_M_fewest_202 x2 x4 x5 c0 σ s0 i)), some (mI (c0 + nI i))], [], σ, 0, 0)) N (fun i hlt hn => ?_) h) (by rw [show nI 0 = 0 from rfl, Int32.add_zero] <;> rfl)
  obtain ⟨hp, hq⟩ := hb i hlt
  have hn : mW1 P_M_fewest (202, [some (mR 13 0), none, some (mI x2), none, some (mI x4), some (mI x5), some (mI (t_M_fewest_202 x2 x4 x5 (c0 + nI i) σ (f_M_fewest_202 x2 x4 x5 c0 σ s0 i))), some (mI (c0 + nI i + 1))], [], σ, 0, 0) Post := by
    rw [Int32.add_assoc, nI_s]
    exact hn
  try dsimp only
  generalize (f_M_fewest_202 x2 x4 x5 c0 σ s0 i) = s at *
  generalize c0 + nI i = c at *
  clear hb h hlt
  unfold g_M_fewest_202 at hp
  refine mW1_eq (q_M_fewest_202 _ _ _ _ _ _) ?_
  refine mTr_if (fun h0 => ?_) (fun h0 => ?_)
  · skip
    exact absurd (by unfold q_M_fewest_202s; first | (rw [if_pos h0]; done) | (rw [if_pos h0]; rfl)) hq
  · skip
    have hp := hp h0
    refine mTr_if (fun h1 => ?_) (fun h1 => ?_)
    · skip
      have e : t_M_fewest_202 x2 x4 x5 c σ s = (s ||| 0) := (by unfold t_M_fewest_202; first | (rw [if_neg h0, if_pos h1]; done) | (rw [if_neg h0, if_pos h1]; rfl))
      rw [e] at hn
      exact mTr_k hn
    · skip
      have hp := hp h1
      refine mTr_g hp ?_
      have e : t_M_fewest_202 x2 x4 x5 c σ s = (s ||| (gI σ 86 0 (Int32.toNatClampNeg c))) := (by unfold t_M_fewest_202; first | (rw [if_neg h0, if_neg h1]; done) | (rw [if_neg h0, if_neg h1]; rfl))
      rw [e] at hn
      exact mTr_k hn
set_option maxRecDepth 100000 in
theorem lp_M_fewest_163 {Post : MST → Prop} (x2 : Int32) (c0 : Int32) (σ : MSto) (s0 : Int32) (N : Nat) (hb : ∀ i, i < N → g_M_fewest_163 x2 (c0 + nI i) σ (f_M_fewest_163 x2 c0 σ s0 i) ∧ ¬ q_M_fewest_163s x2 (c0 + nI i) σ (f_M_fewest_163 x2 c0 σ s0 i) = 1) (h : mW1 P_M_fewest (163, [some (mR 13 0), none, some (mI x2), none, some (mI (f_M_fewest_163 x2 c0 σ s0 N)), some (mI (c0 + nI N)), none, none], [], σ, 0, 0) Post) : mW1 P_M_fewest (163, [some (mR 13 0), none, some (mI x2), none, some (mI s0), some (mI c0), none, none], [], σ, 0, 0) Post := by
  refine mW1_st (mW1_loop (fun i => (163, [some (mR 13 0), none, some (mI x2), none, some (mI (f_M_fewest_163 x2 c0 σ s0 i)), some (mI (c0 + nI i)), none, none], [], σ, 0, 0)) N (fun i hlt hn => ?_) h) (by rw [show nI 0 = 0 from rfl, Int32.add_zero] <;> rfl)
  obtain ⟨hp, hq⟩ := hb i hlt
  have hn : mW1 P_M_fewest (163, [some (mR 13 0), none, some (mI x2), none, some (mI (t_M_fewest_163 x2 (c0 + nI i) σ (f_M_fewest_163 x2 c0 σ s0 i))), some (mI (c0 + nI i + 1)), none, none], [], σ, 0, 0) Post := by
    rw [Int32.add_assoc, nI_s]
    exact hn
  try dsimp only
  generalize (f_M_fewest_163 x2 c0 σ s0 i) = s at *
  generalize c0 + nI i = c at *
  clear hb h hlt
  unfold g_M_fewest_163 at hp
  refine mW1_eq (q_M_fewest_163 _ _ _ _) ?_
  refine mTr_if (fun h0 => ?_) (fun h0 => ?_)
  · skip
    exact absurd (by unfold q_M_fewest_163s; first | (rw [if_pos h0]; done) | (rw [if_pos h0]; rfl)) hq
  · skip
    have hp := hp h0
    refine mTr_if (fun h1 => ?_) (fun h1 => ?_)
    · skip
      have hp := hp.1 h1
      refine mTr_k (lp_M_fewest_202 x2 s c 0 σ 0 (n_M_fewest_202 x2 s c 0 σ 0) hp.1 ?_)
      have hp := hp.2
      refine mW1_eq (q_M_fewest_202 _ _ _ _ _ _) ?_
      refine mTr_if (fun h2 => ?_) (fun h2 => ?_)
      · skip
        refine mTr_if (fun h3 => ?_) (fun h3 => ?_)
        · skip
          have e : t_M_fewest_163 x2 c σ s = c := (by unfold t_M_fewest_163; first | (rw [if_neg h0, if_pos h1, if_pos h3]; done) | (rw [if_neg h0, if_pos h1, if_pos h3]; rfl))
          rw [e] at hn
          exact mTr_k hn
        · skip
          have e : t_M_fewest_163 x2 c σ s = s := (by unfold t_M_fewest_163; first | (rw [if_neg h0, if_pos h1, if_neg h3]; done) | (rw [if_neg h0, if_pos h1, if_neg h3]; rfl))
          rw [e] at hn
          exact mTr_k hn
      · skip
        have hp := hp h2
        exact hp.elim
    · skip
      have hp := hp.2 h1
      refine mTr_if (fun h2 => ?_) (fun h2 => ?_)
      · skip
        have hp := hp h2
        refine mTr_k (lp_M_fewest_202 x2 s c 0 σ 0 (n_M_fewest_202 x2 s c 0 σ 0) hp.1 ?_)
        have hp := hp.2
        refine mW1_eq (q_M_fewest_202 _ _ _ _ _ _) ?_
        refine mTr_if (fun h3 => ?_) (fun h3 => ?_)
        · skip
          refine mTr_if (fun h4 => ?_) (fun h4 => ?_)
          · skip
            have e : t_M_fewest_163 x2 c σ s = c := (by unfold t_M_fewest_163; first | (rw [if_neg h0, if_neg h1, if_pos h2, if_pos h4]; done) | (rw [if_neg h0, if_neg h1, if_pos h2, if_pos h4]; rfl))
            rw [e] at hn
            exact mTr_k hn
          · skip
            have e : t_M_fewest_163 x2 c σ s = s := (by unfold t_M_fewest_163; first | (rw [if_neg h0, if_neg h1, if_pos h2, if_neg h4]; done) | (rw [if_neg h0, if_neg h1, if_pos h2, if_neg h4]; rfl))
            rw [e] at hn
            exact mTr_k hn
        · skip
          have hp := hp h3
          exact hp.elim
      · skip
        have e : t_M_fewest_163 x2 c σ s = s := (by unfold t_M_fewest_163; first | (rw [if_neg h0, if_neg h1, if_neg h2]; done) | (rw [if_neg h0, if_neg h1, if_neg h2]; rfl))
        rw [e] at hn
        exact mTr_k hn
set_option maxRecDepth 100000 in
theorem lp_M_fewest_75 {Post : MST → Prop} (x1 : Int32) (x2 : Int32) (x3 : Int32) (x4 : Int32) (x5 : Int32) (c0 : Int32) (s0 : MSto) (N : Nat) (hb : ∀ i, i < N → g_M_fewest_75 x1 x2 x3 x4 x5 (c0 + nI i) (f_M_fewest_75 x1 x2 x3 x4 x5 c0 s0 i) ∧ ¬ q_M_fewest_75s x1 x2 x3 x4 x5 (c0 + nI i) (f_M_fewest_75 x1 x2 x3 x4 x5 c0 s0 i) = 1) (h : mW1 P_M_fewest (75, [some (mR 13 0), some (mI x1), some (mI x2), some (mI x3), some (mI x4), some (mI x5), some (mI (c0 + nI N)), none], [], (f_M_fewest_75 x1 x2 x3 x4 x5 c0 s0 N), 0, 0) Post) : mW1 P_M_fewest (75, [some (mR 13 0), some (mI x1), some (mI x2), some (mI x3), some (mI x4), some (mI x5), some (mI c0), none], [], s0, 0, 0) Post := by
  refine mW1_st (mW1_loop (fun i => (75, [some (mR 13 0), some (mI x1), some (mI x2), some (mI x3), some (mI x4), some (mI x5), some (mI (c0 + nI i)), none], [], (f_M_fewest_75 x1 x2 x3 x4 x5 c0 s0 i), 0, 0)) N (fun i hlt hn => ?_) h) (by rw [show nI 0 = 0 from rfl, Int32.add_zero] <;> rfl)
  obtain ⟨hp, hq⟩ := hb i hlt
  have hn : mW1 P_M_fewest (75, [some (mR 13 0), some (mI x1), some (mI x2), some (mI x3), some (mI x4), some (mI x5), some (mI (c0 + nI i + 1)), none], [], (t_M_fewest_75 x1 x2 x3 x4 x5 (c0 + nI i) (f_M_fewest_75 x1 x2 x3 x4 x5 c0 s0 i)), 0, 0) Post := by
    rw [Int32.add_assoc, nI_s]
    exact hn
  try dsimp only
  generalize (f_M_fewest_75 x1 x2 x3 x4 x5 c0 s0 i) = s at *
  generalize c0 + nI i = c at *
  clear hb h hlt
  unfold g_M_fewest_75 at hp
  refine mW1_eq (q_M_fewest_75 _ _ _ _ _ _ _) ?_
  refine mTr_if (fun h0 => ?_) (fun h0 => ?_)
  · skip
    exact absurd (by unfold q_M_fewest_75s; first | (rw [if_pos h0]; done) | (rw [if_pos h0]; rfl)) hq
  · skip
    have hp := hp h0
    refine mTr_g hp.1 ?_
    have hp := hp.2
    refine mTr_g hp.1 ?_
    have hp := hp.2
    refine mTr_g hp.1 ?_
    have hp := hp.2
    refine mTr_g hp.1 ?_
    have hp := hp.2
    refine mTr_g hp.1 ?_
    have hp := hp.2
    refine mTr_if (fun h1 => ?_) (fun h1 => ?_)
    · skip
      have e : t_M_fewest_75 x1 x2 x3 x4 x5 c s = s := (by unfold t_M_fewest_75; first | (rw [if_neg h0, if_pos h1]; done) | (rw [if_neg h0, if_pos h1]; rfl))
      rw [e] at hn
      exact mTr_k hn
    · skip
      have hp := hp h1
      refine mTr_g hp.1 ?_
      have hp := hp.2
      refine mTr_g hp ?_
      have e : t_M_fewest_75 x1 x2 x3 x4 x5 c s = (sI s 86 0 (Int32.toNatClampNeg c) ((gI s 86 0 (Int32.toNatClampNeg c)) ||| x3)) := (by unfold t_M_fewest_75; first | (rw [if_neg h0, if_neg h1]; done) | (rw [if_neg h0, if_neg h1]; rfl))
      rw [e] at hn
      exact mTr_k hn
set_option maxRecDepth 100000 in
theorem lp_M_fewest_59 {Post : MST → Prop} (x1 : Int32) (x4 : Int32) (c0 : Int32) (s0 : Int32 × Int32 × MSto) (N : Nat) (hb : ∀ i, i < N → g_M_fewest_59 x1 x4 (c0 + nI i) (f_M_fewest_59 x1 x4 c0 s0 i) ∧ ¬ q_M_fewest_59s x1 x4 (c0 + nI i) (f_M_fewest_59 x1 x4 c0 s0 i) = 1) (h : mW1 P_M_fewest (59, [some (mR 13 0), some (mI x1), some (mI ((f_M_fewest_59 x1 x4 c0 s0 N).1)), some (mI ((f_M_fewest_59 x1 x4 c0 s0 N).2.1)), some (mI x4), some (mI (c0 + nI N)), none, none], [], ((f_M_fewest_59 x1 x4 c0 s0 N).2.2), 0, 0) Post) : mW1 P_M_fewest (59, [some (mR 13 0), some (mI x1), some (mI (s0.1)), some (mI (s0.2.1)), some (mI x4), some (mI c0), none, none], [], (s0.2.2), 0, 0) Post := by
  refine mW1_st (mW1_loop (fun i => (59, [some (mR 13 0), some (mI x1), some (mI ((f_M_fewest_59 x1 x4 c0 s0 i).1)), some (mI ((f_M_fewest_59 x1 x4 c0 s0 i).2.1)), some (mI x4), some (mI (c0 + nI i)), none, none], [], ((f_M_fewest_59 x1 x4 c0 s0 i).2.2), 0, 0)) N (fun i hlt hn => ?_) h) (by rw [show nI 0 = 0 from rfl, Int32.add_zero] <;> rfl)
  obtain ⟨hp, hq⟩ := hb i hlt
  have hn : mW1 P_M_fewest (59, [some (mR 13 0), some (mI x1), some (mI ((t_M_fewest_59 x1 x4 (c0 + nI i) (f_M_fewest_59 x1 x4 c0 s0 i)).1)), some (mI ((t_M_fewest_59 x1 x4 (c0 + nI i) (f_M_fewest_59 x1 x4 c0 s0 i)).2.1)), some (mI x4), some (mI (c0 + nI i + 1)), none, none], [], ((t_M_fewest_59 x1 x4 (c0 + nI i) (f_M_fewest_59 x1 x4 c0 s0 i)).2.2), 0, 0) Post := by
    rw [Int32.add_assoc, nI_s]
    exact hn
  try dsimp only
  generalize (f_M_fewest_59 x1 x4 c0 s0 i) = s at *
  generalize c0 + nI i = c at *
  clear hb h hlt
  unfold g_M_fewest_59 at hp
  refine mW1_eq (q_M_fewest_59 _ _ _ _ _ _) ?_
  refine mTr_if (fun h0 => ?_) (fun h0 => ?_)
  · skip
    exact absurd (by unfold q_M_fewest_59s; first | (rw [if_pos h0]; done) | (rw [if_pos h0]; rfl)) hq
  · skip
    have hp := hp h0
    refine mTr_k (lp_M_fewest_75 x1 ((s.1) ||| (s.2.1)) (s.2.1) x4 c 0 (s.2.2) (n_M_fewest_75 x1 ((s.1) ||| (s.2.1)) (s.2.1) x4 c 0 (s.2.2)) hp.1 ?_)
    have hp := hp.2
    refine mW1_eq (q_M_fewest_75 _ _ _ _ _ _ _) ?_
    refine mTr_if (fun h1 => ?_) (fun h1 => ?_)
    · skip
      have e : t_M_fewest_59 x1 x4 c s = (((s.1) ||| (s.2.1)), ((s.2.1) <<< (1 &&& 31)), (f_M_fewest_75 x1 ((s.1) ||| (s.2.1)) (s.2.1) x4 c 0 (s.2.2) (n_M_fewest_75 x1 ((s.1) ||| (s.2.1)) (s.2.1) x4 c 0 (s.2.2)))) := (by unfold t_M_fewest_59; first | (rw [if_neg h0]; done) | (rw [if_neg h0]; rfl))
      rw [e] at hn
      exact mTr_k hn
    · skip
      have hp := hp h1
      exact hp.elim
set_option maxRecDepth 100000 in
theorem lp_M_fewest_44 {Post : MST → Prop} (x1 : Int32) (c0 : Int32) (s0 : Int32 × Int32 × MSto) (N : Nat) (hb : ∀ i, i < N → g_M_fewest_44 x1 (c0 + nI i) (f_M_fewest_44 x1 c0 s0 i) ∧ ¬ q_M_fewest_44s x1 (c0 + nI i) (f_M_fewest_44 x1 c0 s0 i) = 1) (h : mW1 P_M_fewest (44, [some (mR 13 0), some (mI x1), some (mI ((f_M_fewest_44 x1 c0 s0 N).1)), some (mI ((f_M_fewest_44 x1 c0 s0 N).2.1)), some (mI (c0 + nI N)), none, none, none], [], ((f_M_fewest_44 x1 c0 s0 N).2.2), 0, 0) Post) : mW1 P_M_fewest (44, [some (mR 13 0), some (mI x1), some (mI (s0.1)), some (mI (s0.2.1)), some (mI c0), none, none, none], [], (s0.2.2), 0, 0) Post := by
  refine mW1_st (mW1_loop (fun i => (44, [some (mR 13 0), some (mI x1), some (mI ((f_M_fewest_44 x1 c0 s0 i).1)), some (mI ((f_M_fewest_44 x1 c0 s0 i).2.1)), some (mI (c0 + nI i)), none, none, none], [], ((f_M_fewest_44 x1 c0 s0 i).2.2), 0, 0)) N (fun i hlt hn => ?_) h) (by rw [show nI 0 = 0 from rfl, Int32.add_zero] <;> rfl)
  obtain ⟨hp, hq⟩ := hb i hlt
  have hn : mW1 P_M_fewest (44, [some (mR 13 0), some (mI x1), some (mI ((t_M_fewest_44 x1 (c0 + nI i) (f_M_fewest_44 x1 c0 s0 i)).1)), some (mI ((t_M_fewest_44 x1 (c0 + nI i) (f_M_fewest_44 x1 c0 s0 i)).2.1)), some (mI (c0 + nI i + 1)), none, none, none], [], ((t_M_fewest_44 x1 (c0 + nI i) (f_M_fewest_44 x1 c0 s0 i)).2.2), 0, 0) Post := by
    rw [Int32.add_assoc, nI_s]
    exact hn
  try dsimp only
  generalize (f_M_fewest_44 x1 c0 s0 i) = s at *
  generalize c0 + nI i = c at *
  clear hb h hlt
  unfold g_M_fewest_44 at hp
  refine mW1_eq (q_M_fewest_44 _ _ _ _ _) ?_
  refine mTr_if (fun h0 => ?_) (fun h0 => ?_)
  · skip
    exact absurd (by unfold q_M_fewest_44s; first | (rw [if_pos h0]; done) | (rw [if_pos h0]; rfl)) hq
  · skip
    have hp := hp h0
    refine mTr_k (lp_M_fewest_59 x1 c (c + 1) ((s.1), (s.2.1), (s.2.2)) (n_M_fewest_59 x1 c (c + 1) ((s.1), (s.2.1), (s.2.2))) hp.1 ?_)
    have hp := hp.2
    refine mW1_eq (q_M_fewest_59 _ _ _ _ _ _) ?_
    refine mTr_if (fun h1 => ?_) (fun h1 => ?_)
    · skip
      have e : t_M_fewest_44 x1 c s = (((f_M_fewest_59 x1 c (c + 1) ((s.1), (s.2.1), (s.2.2)) (n_M_fewest_59 x1 c (c + 1) ((s.1), (s.2.1), (s.2.2)))).1), ((f_M_fewest_59 x1 c (c + 1) ((s.1), (s.2.1), (s.2.2)) (n_M_fewest_59 x1 c (c + 1) ((s.1), (s.2.1), (s.2.2)))).2.1), ((f_M_fewest_59 x1 c (c + 1) ((s.1), (s.2.1), (s.2.2)) (n_M_fewest_59 x1 c (c + 1) ((s.1), (s.2.1), (s.2.2)))).2.2)) := (by unfold t_M_fewest_44; first | (rw [if_neg h0]; done) | (rw [if_neg h0]; rfl))
      rw [e] at hn
      exact mTr_k hn
    · skip
      have hp := hp h1
      exact hp.elim
set_option maxRecDepth 100000 in
theorem lp_M_fewest_18 {Post : MST → Prop} (x1 : Int32) (x2 : Int32) (c0 : Int32) (s0 : MSto) (N : Nat) (hb : ∀ i, i < N → g_M_fewest_18 x1 x2 (c0 + nI i) (f_M_fewest_18 x1 x2 c0 s0 i) ∧ ¬ q_M_fewest_18s x1 x2 (c0 + nI i) (f_M_fewest_18 x1 x2 c0 s0 i) = 1) (h : mW1 P_M_fewest (18, [some (mR 13 0), some (mI x1), some (mI x2), some (mI (c0 + nI N)), none, none, none, none], [], (f_M_fewest_18 x1 x2 c0 s0 N), 0, 0) Post) : mW1 P_M_fewest (18, [some (mR 13 0), some (mI x1), some (mI x2), some (mI c0), none, none, none, none], [], s0, 0, 0) Post := by
  refine mW1_st (mW1_loop (fun i => (18, [some (mR 13 0), some (mI x1), some (mI x2), some (mI (c0 + nI i)), none, none, none, none], [], (f_M_fewest_18 x1 x2 c0 s0 i), 0, 0)) N (fun i hlt hn => ?_) h) (by rw [show nI 0 = 0 from rfl, Int32.add_zero] <;> rfl)
  obtain ⟨hp, hq⟩ := hb i hlt
  have hn : mW1 P_M_fewest (18, [some (mR 13 0), some (mI x1), some (mI x2), some (mI (c0 + nI i + 1)), none, none, none, none], [], (t_M_fewest_18 x1 x2 (c0 + nI i) (f_M_fewest_18 x1 x2 c0 s0 i)), 0, 0) Post := by
    rw [Int32.add_assoc, nI_s]
    exact hn
  try dsimp only
  generalize (f_M_fewest_18 x1 x2 c0 s0 i) = s at *
  generalize c0 + nI i = c at *
  clear hb h hlt
  unfold g_M_fewest_18 at hp
  refine mW1_eq (q_M_fewest_18 _ _ _ _) ?_
  refine mTr_if (fun h0 => ?_) (fun h0 => ?_)
  · skip
    exact absurd (by unfold q_M_fewest_18s; first | (rw [if_pos h0]; done) | (rw [if_pos h0]; rfl)) hq
  · skip
    have hp := hp h0
    refine mTr_g hp ?_
    have e : t_M_fewest_18 x1 x2 c s = (sI s 86 0 (Int32.toNatClampNeg c) 0) := (by unfold t_M_fewest_18; first | (rw [if_neg h0]; done) | (rw [if_neg h0]; rfl))
    rw [e] at hn
    exact mTr_k hn
set_option maxRecDepth 100000 in
set_option maxHeartbeats 4000000 in
theorem d_M_fewest (a1 : Int32) (σ : MSto) (hp : p_M_fewest a1 σ) : mW1 P_M_fewest (0, [some (mR 13 0), some (mI a1), none, none, none, none, none, none], [], σ, 0, 0) (mF [13, 267, 285] [mI (v_M_fewest a1 σ)] (e_M_fewest a1 σ) 0 0) := by
  refine mW1_eq (q_M_fewest_e _ _) ?_
  unfold p_M_fewest at hp
  refine mTr_if (fun h0 => ?_) (fun h0 => ?_)
  · skip
    exact mTr_e (by decide) (by unfold v_M_fewest; first | (rw [if_pos h0]; done) | (rw [if_pos h0]; rfl)) (by unfold e_M_fewest; first | (rw [if_pos h0]; done) | (rw [if_pos h0]; rfl)) (by decide) (by decide)
  · skip
    have hp := hp h0
    refine mTr_k (lp_M_fewest_18 a1 0 0 (sI σ 13 0 52 0) (n_M_fewest_18 a1 0 0 (sI σ 13 0 52 0)) hp.1 ?_)
    have hp := hp.2
    refine mW1_eq (q_M_fewest_18 _ _ _ _) ?_
    refine mTr_if (fun h1 => ?_) (fun h1 => ?_)
    · skip
      have hp := hp.1 h1
      refine mTr_k (lp_M_fewest_44 a1 0 (0, 1, (f_M_fewest_18 a1 0 0 (sI σ 13 0 52 0) (n_M_fewest_18 a1 0 0 (sI σ 13 0 52 0)))) (n_M_fewest_44 a1 0 (0, 1, (f_M_fewest_18 a1 0 0 (sI σ 13 0 52 0) (n_M_fewest_18 a1 0 0 (sI σ 13 0 52 0))))) hp.1 ?_)
      have hp := hp.2
      refine mW1_eq (q_M_fewest_44 _ _ _ _ _) ?_
      refine mTr_if (fun h2 => ?_) (fun h2 => ?_)
      · skip
        have hp := hp.1 h2
        refine mTr_k (lp_M_fewest_163 ((f_M_fewest_44 a1 0 (0, 1, (f_M_fewest_18 a1 0 0 (sI σ 13 0 52 0) (n_M_fewest_18 a1 0 0 (sI σ 13 0 52 0)))) (n_M_fewest_44 a1 0 (0, 1, (f_M_fewest_18 a1 0 0 (sI σ 13 0 52 0) (n_M_fewest_18 a1 0 0 (sI σ 13 0 52 0)))))).1) 0 ((f_M_fewest_44 a1 0 (0, 1, (f_M_fewest_18 a1 0 0 (sI σ 13 0 52 0) (n_M_fewest_18 a1 0 0 (sI σ 13 0 52 0)))) (n_M_fewest_44 a1 0 (0, 1, (f_M_fewest_18 a1 0 0 (sI σ 13 0 52 0) (n_M_fewest_18 a1 0 0 (sI σ 13 0 52 0)))))).2.2) (-1) (n_M_fewest_163 ((f_M_fewest_44 a1 0 (0, 1, (f_M_fewest_18 a1 0 0 (sI σ 13 0 52 0) (n_M_fewest_18 a1 0 0 (sI σ 13 0 52 0)))) (n_M_fewest_44 a1 0 (0, 1, (f_M_fewest_18 a1 0 0 (sI σ 13 0 52 0) (n_M_fewest_18 a1 0 0 (sI σ 13 0 52 0)))))).1) 0 ((f_M_fewest_44 a1 0 (0, 1, (f_M_fewest_18 a1 0 0 (sI σ 13 0 52 0) (n_M_fewest_18 a1 0 0 (sI σ 13 0 52 0)))) (n_M_fewest_44 a1 0 (0, 1, (f_M_fewest_18 a1 0 0 (sI σ 13 0 52 0) (n_M_fewest_18 a1 0 0 (sI σ 13 0 52 0)))))).2.2) (-1)) hp.1 ?_)
        have hp := hp.2
        refine mW1_eq (q_M_fewest_163 _ _ _ _) ?_
        refine mTr_if (fun h3 => ?_) (fun h3 => ?_)
        · skip
          have hp := hp.1 h3
          refine mTr_if (fun h4 => ?_) (fun h4 => ?_)
          · skip
            exact mTr_e (by decide) (by unfold v_M_fewest; first | (rw [if_neg h0, if_pos h4]; done) | (rw [if_neg h0, if_pos h4]; rfl)) (by unfold e_M_fewest; first | (rw [if_neg h0, if_pos h4]; done) | (rw [if_neg h0, if_pos h4]; rfl)) (by decide) (by decide)
          · skip
            have hp := hp h4
            refine mTr_g hp ?_
            exact mTr_e (by decide) (by unfold v_M_fewest; first | (rw [if_neg h0, if_neg h4]; done) | (rw [if_neg h0, if_neg h4]; rfl)) (by unfold e_M_fewest; first | (rw [if_neg h0, if_neg h4]; done) | (rw [if_neg h0, if_neg h4]; rfl)) (by decide) (by decide)
        · skip
          have hp := hp.2 h3
          exact hp.elim
      · skip
        have hp := hp.2 h2
        exact hp.elim
    · skip
      have hp := hp.2 h1
      exact hp.elim





theorem tk_M_fewest : ∀ pc i nx tg, T_M_fewest pc = some (i, nx, tg) → mOkB prog_14_method_89_code pc i nx tg = true := code_ok (N := 286) (fun k h => by unfold T_M_fewest; rw [h]; rfl) (by decide +kernel)
theorem ok_M_fewest (l : Launch) : mPOK l "ClothWithManModel" prog_14_method_89_code P_M_fewest := by
  refine ⟨tk_M_fewest, ?_, ?_, ?_, (fun pc i nx tg kd _ h => by cases h), ?_, ?_, fun pc en h => by cases h⟩
  · intro x ci f ty fin h
    exact mLook_all (Q := fun x v => mFOK "ClothWithManModel" x v.1 v.2.1 v.2.2.1 v.2.2.2 ∧ (v.2.2.2 = true → pIni P_M_fewest = true → (Cond.fieldLink "ClothWithManModel" x (((mCl[v.1]?).getD ("", fun _ => ("", "", "", false), 0)).2.1 v.2.1).1 (((mCl[v.1]?).getD ("", fun _ => ("", "", "", false), 0)).2.1 v.2.1).2.1 (((mCl[v.1]?).getD ("", fun _ => ("", "", "", false), 0)).2.1 v.2.1).2.2.1 ∈ lw_tbl ∧ (((mCl[v.1]?).getD ("", fun _ => ("", "", "", false), 0)).2.1 v.2.1).1 = "ClothWithManModel"))) (fcC ⟨fo_M_35, fun h1 h2 => by cases h2⟩ (fcC ⟨fo_M_38, fun h1 h2 => by cases h2⟩ (fcC ⟨fo_M_41, fun h1 h2 => by cases h2⟩ (fcC ⟨fo_M_44, fun h1 h2 => by cases h2⟩ (fcC ⟨fo_M_158, fun h1 h2 => by cases h2⟩ (fcC ⟨fo_M_161, fun h1 h2 => by cases h1⟩ (fcC ⟨fo_M_164, fun h1 h2 => by cases h1⟩ (fcC ⟨fo_M_185, fun h1 h2 => by cases h1⟩ (fcC ⟨fo_M_188, fun h1 h2 => by cases h1⟩ fcN))))))))) x (ci, f, ty, fin) h
  · intro x
    have hh := mLook_all (l := ([] : List (Nat × (Int32 ⊕ Int64)))) (Q := fun x (v : Int32 ⊕ Int64) => (∀ w, v = .inl w → Cond.constant "ClothWithManModel" x w ∈ lw_tbl) ∧ (∀ w, v = .inr w → Cond.constantLong "ClothWithManModel" x w ∈ lw_tbl)) fcN x
    exact ⟨fun w h => (hh _ h).1 w rfl, fun w h => (hh _ h).2 w rfl⟩
  · exact fun x en h => mLook_all (Q := fun x en => mLink "ClothWithManModel" x en ∧ mCtr l en ∧ (en.1.1 = 2 → en.2.2.2.2.2.2 = none)) (fcC ⟨li_M_177, c_M_tell l, (fun h => by cases h)⟩ (fcC ⟨li_M_228, c_M_isYear l, (fun h => by cases h)⟩ (fcC ⟨li_M_296, c_In_bitCount l, (fun h => by cases h)⟩ (fcC ⟨li_M_301, c_M_has l, (fun h => by cases h)⟩ (fcC ⟨li_M_414, c_M_areParted l, (fun h => by cases h)⟩ fcN))))) x en h
  · exact fun x kd h => mLook_all (Q := fun x kd => (kd = 95 ∧ Cond.fieldLink "ClothWithManModel" x "ClothWithMan" "LIKENESSES" "[I" ∈ lw_tbl) ∨ (kd = 96 ∧ Cond.fieldLink "ClothWithManModel" x "ClothWithMan" "APART_BOUNDS" "[I" ∈ lw_tbl)) fcN x kd h
  · exact fun x ci h => mLook_all (Q := fun x ci => ci ≠ 0 ∧ ∃ (C : String) (T : u_T) (N : Nat), mCl[ci]? = some (C, T, N) ∧ Cond.classLink "ClothWithManModel" x C ∈ lw_tbl ∧ Cond.castable C C ∈ lw_tbl) fcN x ci h
set_option maxRecDepth 100000 in
theorem c_M_fewest (l : Launch) : mCtr l E_M_fewest := mCtr_of (P := P_M_fewest) (own := "ClothWithManModel") mLay_ok rfl (by decide +kernel) rfl (ok_M_fewest l) (fun h => by cases h) (fun as σ pr rv σ' hF hpr hlv => by
  unfold E_M_fewest S_M_fewest at hF
  simp only [] at hF
  split at hF
  · cases hF
    obtain ⟨n, pcF, c1, s1, g1, g2, g3, g4⟩ := mF_inv (d_M_fewest _ σ (hpr _ rfl))
    exact ⟨Nat.le_of_ble_eq_true rfl, (fun v h => by cases h; trivial), n, pcF, c1, s1, g1, ⟨mEnd_of (i := .ireturn) (P := P_M_fewest) (rets := [13, 267, 285]) rfl g2, rfl⟩, g3, g4⟩
  · cases hF
    exact (hpr _ rfl).elim)

