/-! the law's isWhole() -/
section LAW5
variable {X : xLC} {c : Nat} {z t : Nat → Int32} {u0 u1 : Option (Nat → Int32)} {h : xHp} {P B S : Nat}
variable (d n : Nat)
theorem w_0 (hS : ST X c z t u0 u1 h) (hI : GI z P B S) (hSb : S ≤ 10000) (k : Nat) (hk : k < 10) (hz : zt z k = true) (p i o w : Nat) (p1 : p < 8 * P) (p2 : z (10 + 7 * k) = nI p) (p3 : z (10 + 7 * k + 3) = nI i) (p4 : z (10 + 7 * k + 4) = nI o) (p5 : z (10 + 7 * k + 5) = nI w) (p6 : Rl P p i o w) (p7 : w ≤ 10000) (v : Option Value) (h' : xHp) (kk : Rn (d + 5) 88 129 [(0, .ref 3), (1, .int (2 * z 0)), (2, .int (mSet z (k + 1))), (3, .int (mSum z 1 (k + 1))), (4, .int (mSum z 5 (k + 1))), (5, .int (mMany z (k + 1))), (6, .int (bi (brB z k))), (7, .int (bi (mEmp z k))), (9, .int (nI k)), (10, .int (nI (p / 4))), (11, .int (nI (p % 4))), (12, .int (nI i + nI o))] [] h n v h' n) : Rn (d + 5) 88 44 [(0, .ref 3), (1, .int (2 * z 0)), (2, .int (mSet z k)), (3, .int (mSum z 1 k)), (4, .int (mSum z 5 k)), (5, .int (mMany z k)), (6, .int (bi (brB z k))), (7, .int (bi (mEmp z k))), (8, .int 1), (9, .int (nI k))] [] h n v h' n := by
  have hG := hI.gp
  have hf := hG.2.2.2.2.1
  have h6 := hG.2.2.1
  obtain ⟨fs, hb⟩ := hS.h3
  have q0 := k_of_0 (d + 2) n hS k hk hz
  have q1 := k_of_1 (d + 2) n hS k hk hz
  have q2 := k_of_2 (d + 2) n hS k hk hz
  have q4 := k_of_4 (d + 2) n hS k hk hz
  have q5 := k_of_5 (d + 2) n hS k hk hz
  have q6 := k_of_6 (d + 2) n hS k hk hz
  rw [p2, show nI p / 4 = nI (p / 4) from pk_div (d := 4) (by omega) (by omega) (by omega)] at q0
  rw [p2, show rm (nI p) 4 = nI (p % 4) from rm_n (b := 4) (by omega) (by omega) (by omega)] at q1
  rw [p3] at q4
  rw [p4] at q5
  have s2 : mSet z (k + 1) = mSet z k ||| (1 <<< (nI k &&& 31)) := by
    show mSet z k ||| cond (zt z k) (1 <<< (nI k &&& 31)) 0 = _
    rw [hz]
    rfl
  have s3 : mSum z 1 (k + 1) = mSum z 1 k + z (10 + 7 * k + 1) := by rw [mSum_s]; unfold tm; rw [hz]; rfl
  have s4 : mSum z 5 (k + 1) = mSum z 5 k + z (10 + 7 * k + 5) := by rw [mSum_s]; unfold tm; rw [hz]; rfl
  have s5 : mMany z (k + 1) = mMany z k + 1 := by rw [mMany_s, hz]; rfl
  refine Rn.bf 3 rfl (nI_ge (a := k) (b := 10) hk (by omega)) ?_
  refine Rn.steps 5 rfl ?_
  refine Rn.callO rfl rfl rfl hb rfl rfl rfl rfl rfl rfl (q0) ?_
  refine Rn.bf 3 rfl (nI_pos (by omega)) ?_
  refine Rn.steps 3 rfl ?_
  refine Rn.callO rfl rfl rfl hb rfl rfl rfl rfl rfl rfl (q1) ?_
  refine Rn.steps 4 rfl ?_
  refine Rn.callO rfl rfl rfl hb rfl rfl rfl rfl rfl rfl (q4) ?_
  refine Rn.steps 3 rfl ?_
  refine Rn.callO rfl rfl rfl hb rfl rfl rfl rfl rfl rfl (q5) ?_
  refine Rn.steps 13 rfl ?_
  refine Rn.callO rfl rfl rfl hb rfl rfl rfl rfl rfl rfl (q2) ?_
  refine Rn.steps 6 rfl ?_
  refine Rn.callO rfl rfl rfl hb rfl rfl rfl rfl rfl rfl (q6) ?_
  refine Rn.steps 2 rfl ?_
  exact Rn.lx [(0, .ref 3), (1, .int (2 * z 0)), (2, .int (mSet z (k + 1))), (3, .int (mSum z 1 (k + 1))), (4, .int (mSum z 5 (k + 1))), (5, .int (mMany z (k + 1))), (6, .int (bi (brB z k))), (7, .int (bi (mEmp z k))), (9, .int (nI k)), (10, .int (nI (p / 4))), (11, .int (nI (p % 4))), (12, .int (nI i + nI o))] [0, 1, 2, 3, 4, 5, 6, 7, 9, 10, 11, 12] rfl (by decide) ⟨rfl, rfl, (by rw [s2]; rfl), (by rw [s3]; rfl), (by rw [s4]; rfl), (by rw [s5]; rfl), rfl, rfl, rfl, rfl, rfl, rfl, trivial⟩ kk
theorem w_1 (hS : ST X c z t u0 u1 h) (hI : GI z P B S) (hSb : S ≤ 10000) (k : Nat) (hk : k < 10) (hz : zt z k = true) (p i o w : Nat) (p1 : p < 8 * P) (p2 : z (10 + 7 * k) = nI p) (p3 : z (10 + 7 * k + 3) = nI i) (p4 : z (10 + 7 * k + 4) = nI o) (p5 : z (10 + 7 * k + 5) = nI w) (p6 : Rl P p i o w) (p7 : w ≤ 10000) (v : Option Value) (h' : xHp) (kk : Rn (d + 5) 88 152 [(0, .ref 3), (1, .int (2 * z 0)), (2, .int (mSet z (k + 1))), (3, .int (mSum z 1 (k + 1))), (4, .int (mSum z 5 (k + 1))), (5, .int (mMany z (k + 1))), (6, .int (bi (brB z (k + 1)))), (7, .int (bi (mEmp z k))), (9, .int (nI k)), (10, .int (nI (p / 4))), (11, .int (nI (p % 4))), (12, .int (nI i + nI o))] [] h n v h' n) : Rn (d + 5) 88 129 [(0, .ref 3), (1, .int (2 * z 0)), (2, .int (mSet z (k + 1))), (3, .int (mSum z 1 (k + 1))), (4, .int (mSum z 5 (k + 1))), (5, .int (mMany z (k + 1))), (6, .int (bi (brB z k))), (7, .int (bi (mEmp z k))), (9, .int (nI k)), (10, .int (nI (p / 4))), (11, .int (nI (p % 4))), (12, .int (nI i + nI o))] [] h n v h' n := by
  have hf := hI.gp.2.2.2.2.1
  obtain ⟨fs, hb⟩ := hS.h3
  have q3 := k_of_3 (d + 2) n hS hf k hk hz
  have sb : brB z (k + 1) = (brB z k || decide (z (10 + 7 * k + 2) = 1)) := by rw [brB_s, hz, Bool.true_and]
  cases hb0 : brB z k with
  | true =>
    rw [hb0, Bool.true_or] at sb
    refine Rn.steps 5 rfl ?_
    exact Rn.lx [(0, .ref 3), (1, .int (2 * z 0)), (2, .int (mSet z (k + 1))), (3, .int (mSum z 1 (k + 1))), (4, .int (mSum z 5 (k + 1))), (5, .int (mMany z (k + 1))), (6, .int (bi (brB z (k + 1)))), (7, .int (bi (mEmp z k))), (9, .int (nI k)), (10, .int (nI (p / 4))), (11, .int (nI (p % 4))), (12, .int (nI i + nI o))] [0, 1, 2, 3, 4, 5, 6, 7, 9, 10, 11, 12] rfl (by decide) ⟨rfl, rfl, rfl, rfl, rfl, rfl, (by rw [sb]; rfl), rfl, rfl, rfl, rfl, rfl, trivial⟩ kk
  | false =>
    rw [hb0, Bool.false_or] at sb
    by_cases g : z (10 + 7 * k + 2) = 1
    · rw [decide_eq_true g] at sb
      refine Rn.steps 5 rfl ?_
      refine Rn.callO rfl rfl rfl hb rfl rfl rfl rfl rfl rfl (q3) ?_
      refine Rn.bt 2 rfl (g) ?_
      refine Rn.steps 3 rfl ?_
      exact Rn.lx [(0, .ref 3), (1, .int (2 * z 0)), (2, .int (mSet z (k + 1))), (3, .int (mSum z 1 (k + 1))), (4, .int (mSum z 5 (k + 1))), (5, .int (mMany z (k + 1))), (6, .int (bi (brB z (k + 1)))), (7, .int (bi (mEmp z k))), (9, .int (nI k)), (10, .int (nI (p / 4))), (11, .int (nI (p % 4))), (12, .int (nI i + nI o))] [0, 1, 2, 3, 4, 5, 6, 7, 9, 10, 11, 12] rfl (by decide) ⟨rfl, rfl, rfl, rfl, rfl, rfl, (by rw [sb]; rfl), rfl, rfl, rfl, rfl, rfl, trivial⟩ kk
    · rw [decide_eq_false g] at sb
      refine Rn.steps 5 rfl ?_
      refine Rn.callO rfl rfl rfl hb rfl rfl rfl rfl rfl rfl (q3) ?_
      refine Rn.bf 2 rfl (g) ?_
      refine Rn.steps 2 rfl ?_
      exact Rn.lx [(0, .ref 3), (1, .int (2 * z 0)), (2, .int (mSet z (k + 1))), (3, .int (mSum z 1 (k + 1))), (4, .int (mSum z 5 (k + 1))), (5, .int (mMany z (k + 1))), (6, .int (bi (brB z (k + 1)))), (7, .int (bi (mEmp z k))), (9, .int (nI k)), (10, .int (nI (p / 4))), (11, .int (nI (p % 4))), (12, .int (nI i + nI o))] [0, 1, 2, 3, 4, 5, 6, 7, 9, 10, 11, 12] rfl (by decide) ⟨rfl, rfl, rfl, rfl, rfl, rfl, (by rw [sb]; rfl), rfl, rfl, rfl, rfl, rfl, trivial⟩ kk
theorem w_2 (hS : ST X c z t u0 u1 h) (hI : GI z P B S) (hSb : S ≤ 10000) (k : Nat) (hk : k < 10) (hz : zt z k = true) (p i o w : Nat) (p1 : p < 8 * P) (p2 : z (10 + 7 * k) = nI p) (p3 : z (10 + 7 * k + 3) = nI i) (p4 : z (10 + 7 * k + 4) = nI o) (p5 : z (10 + 7 * k + 5) = nI w) (p6 : Rl P p i o w) (p7 : w ≤ 10000) (v : Option Value) (h' : xHp) (kk : Rn (d + 5) 88 174 [(0, .ref 3), (1, .int (2 * z 0)), (2, .int (mSet z (k + 1))), (3, .int (mSum z 1 (k + 1))), (4, .int (mSum z 5 (k + 1))), (5, .int (mMany z (k + 1))), (6, .int (bi (brB z (k + 1)))), (7, .int (bi (mEmp z (k + 1)))), (9, .int (nI k)), (10, .int (nI (p / 4))), (11, .int (nI (p % 4))), (12, .int (nI i + nI o))] [] h n v h' n) : Rn (d + 5) 88 152 [(0, .ref 3), (1, .int (2 * z 0)), (2, .int (mSet z (k + 1))), (3, .int (mSum z 1 (k + 1))), (4, .int (mSum z 5 (k + 1))), (5, .int (mMany z (k + 1))), (6, .int (bi (brB z (k + 1)))), (7, .int (bi (mEmp z k))), (9, .int (nI k)), (10, .int (nI (p / 4))), (11, .int (nI (p % 4))), (12, .int (nI i + nI o))] [] h n v h' n := by
  obtain ⟨fs, hb⟩ := hS.h3
  have q2 := k_of_2 (d + 2) n hS k hk hz
  have sb : mEmp z (k + 1) = (mEmp z k || decide (z (10 + 7 * k + 1) = 0)) := by
    show (mEmp z k || (zt z k && decide (z (10 + 7 * k + 1) = 0))) = _
    rw [hz, Bool.true_and]
  cases hb0 : mEmp z k with
  | true =>
    rw [hb0, Bool.true_or] at sb
    refine Rn.steps 5 rfl ?_
    exact Rn.lx [(0, .ref 3), (1, .int (2 * z 0)), (2, .int (mSet z (k + 1))), (3, .int (mSum z 1 (k + 1))), (4, .int (mSum z 5 (k + 1))), (5, .int (mMany z (k + 1))), (6, .int (bi (brB z (k + 1)))), (7, .int (bi (mEmp z (k + 1)))), (9, .int (nI k)), (10, .int (nI (p / 4))), (11, .int (nI (p % 4))), (12, .int (nI i + nI o))] [0, 1, 2, 3, 4, 5, 6, 7, 9, 10, 11, 12] rfl (by decide) ⟨rfl, rfl, rfl, rfl, rfl, rfl, rfl, (by rw [sb]; rfl), rfl, rfl, rfl, rfl, trivial⟩ kk
  | false =>
    rw [hb0, Bool.false_or] at sb
    by_cases g : z (10 + 7 * k + 1) = 0
    · rw [decide_eq_true g] at sb
      refine Rn.steps 5 rfl ?_
      refine Rn.callO rfl rfl rfl hb rfl rfl rfl rfl rfl rfl (q2) ?_
      refine Rn.bt 1 rfl (g) ?_
      refine Rn.steps 3 rfl ?_
      exact Rn.lx [(0, .ref 3), (1, .int (2 * z 0)), (2, .int (mSet z (k + 1))), (3, .int (mSum z 1 (k + 1))), (4, .int (mSum z 5 (k + 1))), (5, .int (mMany z (k + 1))), (6, .int (bi (brB z (k + 1)))), (7, .int (bi (mEmp z (k + 1)))), (9, .int (nI k)), (10, .int (nI (p / 4))), (11, .int (nI (p % 4))), (12, .int (nI i + nI o))] [0, 1, 2, 3, 4, 5, 6, 7, 9, 10, 11, 12] rfl (by decide) ⟨rfl, rfl, rfl, rfl, rfl, rfl, rfl, (by rw [sb]; rfl), rfl, rfl, rfl, rfl, trivial⟩ kk
    · rw [decide_eq_false g] at sb
      refine Rn.steps 5 rfl ?_
      refine Rn.callO rfl rfl rfl hb rfl rfl rfl rfl rfl rfl (q2) ?_
      refine Rn.bf 1 rfl (g) ?_
      refine Rn.steps 2 rfl ?_
      exact Rn.lx [(0, .ref 3), (1, .int (2 * z 0)), (2, .int (mSet z (k + 1))), (3, .int (mSum z 1 (k + 1))), (4, .int (mSum z 5 (k + 1))), (5, .int (mMany z (k + 1))), (6, .int (bi (brB z (k + 1)))), (7, .int (bi (mEmp z (k + 1)))), (9, .int (nI k)), (10, .int (nI (p / 4))), (11, .int (nI (p % 4))), (12, .int (nI i + nI o))] [0, 1, 2, 3, 4, 5, 6, 7, 9, 10, 11, 12] rfl (by decide) ⟨rfl, rfl, rfl, rfl, rfl, rfl, rfl, (by rw [sb]; rfl), rfl, rfl, rfl, rfl, trivial⟩ kk
theorem w_3 (hS : ST X c z t u0 u1 h) (hI : GI z P B S) (hSb : S ≤ 10000) (k : Nat) (hk : k < 10) (hz : zt z k = true) (p i o w : Nat) (p1 : p < 8 * P) (p2 : z (10 + 7 * k) = nI p) (p3 : z (10 + 7 * k + 3) = nI i) (p4 : z (10 + 7 * k + 4) = nI o) (p5 : z (10 + 7 * k + 5) = nI w) (p6 : Rl P p i o w) (p7 : w ≤ 10000) (v : Option Value) (h' : xHp) (kk : Rn (d + 5) 88 219 [(0, .ref 3), (1, .int (2 * z 0)), (2, .int (mSet z (k + 1))), (3, .int (mSum z 1 (k + 1))), (4, .int (mSum z 5 (k + 1))), (5, .int (mMany z (k + 1))), (6, .int (bi (brB z (k + 1)))), (7, .int (bi (mEmp z (k + 1)))), (9, .int (nI k)), (10, .int (nI (p / 4))), (11, .int (nI (p % 4))), (12, .int (nI i + nI o)), (13, .int (-6))] [] h n v h' n) : Rn (d + 5) 88 174 [(0, .ref 3), (1, .int (2 * z 0)), (2, .int (mSet z (k + 1))), (3, .int (mSum z 1 (k + 1))), (4, .int (mSum z 5 (k + 1))), (5, .int (mMany z (k + 1))), (6, .int (bi (brB z (k + 1)))), (7, .int (bi (mEmp z (k + 1)))), (9, .int (nI k)), (10, .int (nI (p / 4))), (11, .int (nI (p % 4))), (12, .int (nI i + nI o))] [] h n v h' n := by
  have hG := hI.gp
  have h2 := hG.2.1
  have h6 := hG.2.2.1
  obtain ⟨fs, hb⟩ := hS.h3
  have hne := x2ne hG.1 h2 h6
  have ha : p / 4 < 2 * P := by omega
  have no : p % 2 = 0 → fIn z (nI (oN P p)) 10 0 = -6 := fun ev => by
    have := (perm_ok h2 h6 p1).2.2.2.1
    refine (fin_no hG (by omega)).mpr (fun q => ?_)
    obtain ⟨e, e1, e2, e3⟩ := (pl_mem hG.2.2.2.1 h6 (by omega) 10 (Nat.le_refl _)).mp q
    exact hI.2.1 k e hk e1 hz e2 p p1 p2 ev e3
  by_cases b0 : p % 4 = 0
  · obtain ⟨c1, c2, c3⟩ := bes_0 hG ha
    have g1 := k_atN (d + 2) n hS hG _ 2 c3 (by omega)
    rw [← c2, show 4 * (p / 4) = p by omega, no (by omega)] at g1
    refine Rn.bt 2 rfl (by rw [b0]; rfl) ?_
    refine Rn.steps 5 rfl ?_
    refine Rn.irem rfl rfl (hne) ?_
    rw [c1]
    refine Rn.steps 1 rfl ?_
    refine Rn.callO rfl rfl rfl hb rfl rfl rfl rfl rfl rfl (g1) ?_
    refine Rn.steps 2 rfl ?_
    exact Rn.lx [(0, .ref 3), (1, .int (2 * z 0)), (2, .int (mSet z (k + 1))), (3, .int (mSum z 1 (k + 1))), (4, .int (mSum z 5 (k + 1))), (5, .int (mMany z (k + 1))), (6, .int (bi (brB z (k + 1)))), (7, .int (bi (mEmp z (k + 1)))), (9, .int (nI k)), (10, .int (nI (p / 4))), (11, .int (nI (p % 4))), (12, .int (nI i + nI o)), (13, .int (-6))] [0, 1, 2, 3, 4, 5, 6, 7, 9, 10, 11, 12, 13] rfl (by decide) ⟨rfl, rfl, rfl, rfl, rfl, rfl, rfl, rfl, rfl, rfl, rfl, rfl, rfl, trivial⟩ kk
  · have e0 : ¬ nI (p % 4) = 0 := fun q => b0 ((nI_eq (b := 0) (by omega) (by omega)).mp q)
    by_cases b2 : p % 4 = 2
    · obtain ⟨c1, c2, c3⟩ := bes_2 hG ha
      have g1 := k_atN (d + 2) n hS hG _ 0 c3 (by omega)
      rw [← c2, show 4 * (p / 4) + 2 = p by omega, no (by omega)] at g1
      refine Rn.bf 2 rfl (e0) ?_
      refine Rn.bt 3 rfl (by rw [b2]; rfl) ?_
      refine Rn.steps 7 rfl ?_
      refine Rn.irem rfl rfl (hne) ?_
      rw [c1]
      refine Rn.steps 1 rfl ?_
      refine Rn.callO rfl rfl rfl hb rfl rfl rfl rfl rfl rfl (g1) ?_
      refine Rn.steps 2 rfl ?_
      exact Rn.lx [(0, .ref 3), (1, .int (2 * z 0)), (2, .int (mSet z (k + 1))), (3, .int (mSum z 1 (k + 1))), (4, .int (mSum z 5 (k + 1))), (5, .int (mMany z (k + 1))), (6, .int (bi (brB z (k + 1)))), (7, .int (bi (mEmp z (k + 1)))), (9, .int (nI k)), (10, .int (nI (p / 4))), (11, .int (nI (p % 4))), (12, .int (nI i + nI o)), (13, .int (-6))] [0, 1, 2, 3, 4, 5, 6, 7, 9, 10, 11, 12, 13] rfl (by decide) ⟨rfl, rfl, rfl, rfl, rfl, rfl, rfl, rfl, rfl, rfl, rfl, rfl, rfl, trivial⟩ kk
    · have e2 : ¬ nI (p % 4) = 2 := fun q => b2 ((nI_eq (b := 2) (by omega) (by omega)).mp q)
      refine Rn.bf 2 rfl (e0) ?_
      refine Rn.bf 3 rfl (e2) ?_
      refine Rn.steps 2 rfl ?_
      exact Rn.lx [(0, .ref 3), (1, .int (2 * z 0)), (2, .int (mSet z (k + 1))), (3, .int (mSum z 1 (k + 1))), (4, .int (mSum z 5 (k + 1))), (5, .int (mMany z (k + 1))), (6, .int (bi (brB z (k + 1)))), (7, .int (bi (mEmp z (k + 1)))), (9, .int (nI k)), (10, .int (nI (p / 4))), (11, .int (nI (p % 4))), (12, .int (nI i + nI o)), (13, .int (-6))] [0, 1, 2, 3, 4, 5, 6, 7, 9, 10, 11, 12, 13] rfl (by decide) ⟨rfl, rfl, rfl, rfl, rfl, rfl, rfl, rfl, rfl, rfl, rfl, rfl, rfl, trivial⟩ kk
theorem w_4 (hS : ST X c z t u0 u1 h) (hI : GI z P B S) (hSb : S ≤ 10000) (k : Nat) (hk : k < 10) (hz : zt z k = true) (p i o w : Nat) (p1 : p < 8 * P) (p2 : z (10 + 7 * k) = nI p) (p3 : z (10 + 7 * k + 3) = nI i) (p4 : z (10 + 7 * k + 4) = nI o) (p5 : z (10 + 7 * k + 5) = nI w) (p6 : Rl P p i o w) (p7 : w ≤ 10000) (v : Option Value) (h' : xHp) (kk : Rn (d + 5) 88 249 [(0, .ref 3), (1, .int (2 * z 0)), (2, .int (mSet z (k + 1))), (3, .int (mSum z 1 (k + 1))), (4, .int (mSum z 5 (k + 1))), (5, .int (mMany z (k + 1))), (6, .int (bi (brB z (k + 1)))), (7, .int (bi (mEmp z (k + 1)))), (9, .int (nI k)), (10, .int (nI (p / 4))), (11, .int (nI (p % 4))), (12, .int (nI i + nI o)), (13, .int (-6)), (14, .int (bi (guF (nI p))))] [] h n v h' n) : Rn (d + 5) 88 219 [(0, .ref 3), (1, .int (2 * z 0)), (2, .int (mSet z (k + 1))), (3, .int (mSum z 1 (k + 1))), (4, .int (mSum z 5 (k + 1))), (5, .int (mMany z (k + 1))), (6, .int (bi (brB z (k + 1)))), (7, .int (bi (mEmp z (k + 1)))), (9, .int (nI k)), (10, .int (nI (p / 4))), (11, .int (nI (p % 4))), (12, .int (nI i + nI o)), (13, .int (-6))] [] h n v h' n := by
  have h6 := hI.gp.2.2.1
  have eg : guF (nI p) = (decide (nI (p % 4) = 2) || decide (nI (p % 4) = (if rm (nI (p / 4)) 2 = 0 then 3 else 1))) := by
    unfold guF
    rw [show nI p / 4 = nI (p / 4) from pk_div (d := 4) (by omega) (by omega) (by omega), show rm (nI p) 4 = nI (p % 4) from rm_n (b := 4) (by omega) (by omega) (by omega)]
  by_cases b2 : nI (p % 4) = 2
  · rw [decide_eq_true b2, Bool.true_or] at eg
    refine Rn.bt 3 rfl (b2) ?_
    refine Rn.steps 3 rfl ?_
    exact Rn.lx [(0, .ref 3), (1, .int (2 * z 0)), (2, .int (mSet z (k + 1))), (3, .int (mSum z 1 (k + 1))), (4, .int (mSum z 5 (k + 1))), (5, .int (mMany z (k + 1))), (6, .int (bi (brB z (k + 1)))), (7, .int (bi (mEmp z (k + 1)))), (9, .int (nI k)), (10, .int (nI (p / 4))), (11, .int (nI (p % 4))), (12, .int (nI i + nI o)), (13, .int (-6)), (14, .int (bi (guF (nI p))))] [0, 1, 2, 3, 4, 5, 6, 7, 9, 10, 11, 12, 13, 14] rfl (by decide) ⟨rfl, rfl, rfl, rfl, rfl, rfl, rfl, rfl, rfl, rfl, rfl, rfl, rfl, (by rw [eg]; rfl), trivial⟩ kk
  · rw [decide_eq_false b2, Bool.false_or] at eg
    by_cases ev : rm (nI (p / 4)) 2 = 0
    · rw [if_pos ev] at eg
      by_cases g : nI (p % 4) = 3
      · rw [decide_eq_true g] at eg
        refine Rn.bf 3 rfl (b2) ?_
        refine Rn.steps 3 rfl ?_
        refine Rn.irem rfl rfl (by decide) ?_
        refine Rn.bt 1 rfl (ev) ?_
        refine Rn.bt 3 rfl (g) ?_
        refine Rn.steps 3 rfl ?_
        exact Rn.lx [(0, .ref 3), (1, .int (2 * z 0)), (2, .int (mSet z (k + 1))), (3, .int (mSum z 1 (k + 1))), (4, .int (mSum z 5 (k + 1))), (5, .int (mMany z (k + 1))), (6, .int (bi (brB z (k + 1)))), (7, .int (bi (mEmp z (k + 1)))), (9, .int (nI k)), (10, .int (nI (p / 4))), (11, .int (nI (p % 4))), (12, .int (nI i + nI o)), (13, .int (-6)), (14, .int (bi (guF (nI p))))] [0, 1, 2, 3, 4, 5, 6, 7, 9, 10, 11, 12, 13, 14] rfl (by decide) ⟨rfl, rfl, rfl, rfl, rfl, rfl, rfl, rfl, rfl, rfl, rfl, rfl, rfl, (by rw [eg]; rfl), trivial⟩ kk
      · rw [decide_eq_false g] at eg
        refine Rn.bf 3 rfl (b2) ?_
        refine Rn.steps 3 rfl ?_
        refine Rn.irem rfl rfl (by decide) ?_
        refine Rn.bt 1 rfl (ev) ?_
        refine Rn.bf 3 rfl (g) ?_
        refine Rn.steps 2 rfl ?_
        exact Rn.lx [(0, .ref 3), (1, .int (2 * z 0)), (2, .int (mSet z (k + 1))), (3, .int (mSum z 1 (k + 1))), (4, .int (mSum z 5 (k + 1))), (5, .int (mMany z (k + 1))), (6, .int (bi (brB z (k + 1)))), (7, .int (bi (mEmp z (k + 1)))), (9, .int (nI k)), (10, .int (nI (p / 4))), (11, .int (nI (p % 4))), (12, .int (nI i + nI o)), (13, .int (-6)), (14, .int (bi (guF (nI p))))] [0, 1, 2, 3, 4, 5, 6, 7, 9, 10, 11, 12, 13, 14] rfl (by decide) ⟨rfl, rfl, rfl, rfl, rfl, rfl, rfl, rfl, rfl, rfl, rfl, rfl, rfl, (by rw [eg]; rfl), trivial⟩ kk
    · rw [if_neg ev] at eg
      by_cases g : nI (p % 4) = 1
      · rw [decide_eq_true g] at eg
        refine Rn.bf 3 rfl (b2) ?_
        refine Rn.steps 3 rfl ?_
        refine Rn.irem rfl rfl (by decide) ?_
        refine Rn.bf 1 rfl (ev) ?_
        refine Rn.bt 2 rfl (g) ?_
        refine Rn.steps 3 rfl ?_
        exact Rn.lx [(0, .ref 3), (1, .int (2 * z 0)), (2, .int (mSet z (k + 1))), (3, .int (mSum z 1 (k + 1))), (4, .int (mSum z 5 (k + 1))), (5, .int (mMany z (k + 1))), (6, .int (bi (brB z (k + 1)))), (7, .int (bi (mEmp z (k + 1)))), (9, .int (nI k)), (10, .int (nI (p / 4))), (11, .int (nI (p % 4))), (12, .int (nI i + nI o)), (13, .int (-6)), (14, .int (bi (guF (nI p))))] [0, 1, 2, 3, 4, 5, 6, 7, 9, 10, 11, 12, 13, 14] rfl (by decide) ⟨rfl, rfl, rfl, rfl, rfl, rfl, rfl, rfl, rfl, rfl, rfl, rfl, rfl, (by rw [eg]; rfl), trivial⟩ kk
      · rw [decide_eq_false g] at eg
        refine Rn.bf 3 rfl (b2) ?_
        refine Rn.steps 3 rfl ?_
        refine Rn.irem rfl rfl (by decide) ?_
        refine Rn.bf 1 rfl (ev) ?_
        refine Rn.bf 2 rfl (g) ?_
        refine Rn.steps 2 rfl ?_
        exact Rn.lx [(0, .ref 3), (1, .int (2 * z 0)), (2, .int (mSet z (k + 1))), (3, .int (mSum z 1 (k + 1))), (4, .int (mSum z 5 (k + 1))), (5, .int (mMany z (k + 1))), (6, .int (bi (brB z (k + 1)))), (7, .int (bi (mEmp z (k + 1)))), (9, .int (nI k)), (10, .int (nI (p / 4))), (11, .int (nI (p % 4))), (12, .int (nI i + nI o)), (13, .int (-6)), (14, .int (bi (guF (nI p))))] [0, 1, 2, 3, 4, 5, 6, 7, 9, 10, 11, 12, 13, 14] rfl (by decide) ⟨rfl, rfl, rfl, rfl, rfl, rfl, rfl, rfl, rfl, rfl, rfl, rfl, rfl, (by rw [eg]; rfl), trivial⟩ kk
theorem w_5 (hS : ST X c z t u0 u1 h) (hI : GI z P B S) (hSb : S ≤ 10000) (k : Nat) (hk : k < 10) (hz : zt z k = true) (p i o w : Nat) (p1 : p < 8 * P) (p2 : z (10 + 7 * k) = nI p) (p3 : z (10 + 7 * k + 3) = nI i) (p4 : z (10 + 7 * k + 4) = nI o) (p5 : z (10 + 7 * k + 5) = nI w) (p6 : Rl P p i o w) (p7 : w ≤ 10000) (v : Option Value) (h' : xHp) (kk : Rn (d + 5) 88 44 [(0, .ref 3), (1, .int (2 * z 0)), (2, .int (mSet z (k + 1))), (3, .int (mSum z 1 (k + 1))), (4, .int (mSum z 5 (k + 1))), (5, .int (mMany z (k + 1))), (6, .int (bi (brB z (k + 1)))), (7, .int (bi (mEmp z (k + 1)))), (8, .int 1), (9, .int (nI (k + 1)))] [] h n v h' n) : Rn (d + 5) 88 249 [(0, .ref 3), (1, .int (2 * z 0)), (2, .int (mSet z (k + 1))), (3, .int (mSum z 1 (k + 1))), (4, .int (mSum z 5 (k + 1))), (5, .int (mMany z (k + 1))), (6, .int (bi (brB z (k + 1)))), (7, .int (bi (mEmp z (k + 1)))), (9, .int (nI k)), (10, .int (nI (p / 4))), (11, .int (nI (p % 4))), (12, .int (nI i + nI o)), (13, .int (-6)), (14, .int (bi (guF (nI p))))] [] h n v h' n := by
  have hG := hI.gp
  have h2 := hG.2.1
  have h6 := hG.2.2.1
  obtain ⟨fs, hb⟩ := hS.h3
  have ha : p / 4 < 2 * P := by omega
  have hb4 : p % 4 < 4 := Nat.mod_lt _ (by omega)
  have g0 := k_atN (d + 2) n hS hG (p / 4) (p % 4) ha hb4
  rw [show 4 * (p / 4) + p % 4 = p by omega, ← p2, fin_at hG hk hz] at g0
  have q2 := k_of_2 (d + 2) n hS k hk hz
  have q4 := k_of_4 (d + 2) n hS k hk hz
  have q5 := k_of_5 (d + 2) n hS k hk hz
  have q6 := k_of_6 (d + 2) n hS k hk hz
  have q7 := k_of_7 (d + 2) n hS k hk hz
  obtain ⟨x, x1, x2⟩ := hG.2.2.2.2.2.2.1 k hk
  rw [x2] at q2
  rw [p3] at q4
  rw [p4] at q5
  rw [p5] at q6
  rw [p2] at q7
  obtain ⟨r1, r2, r3, r4⟩ := p6.out
  have c1 : ¬ 2 * z 0 ≤ nI (p / 4) := by rw [hG.hn]; exact nI_ge ha (by omega)
  have c2 : ¬ (4 : Int32) ≤ nI (p % 4) := nI_ge (b := 4) hb4 (by omega)
  have e2 : (2 : Int32) * (nI i + nI o) = nI (2 * (i + o)) := by rw [nI_add, show (2 : Int32) = nI 2 from rfl, pk_mul]
  have c3 : ¬ nI w + 1 < 2 * (nI i + nI o) := by rw [e2, nI_1]; exact nI_nlt (by omega) (by omega)
  have c4 : ¬ 2 * (nI i + nI o) + 1 < nI w := by rw [e2, nI_1]; exact nI_nlt (by omega) (by omega)
  have sub2 : ∀ a b : Nat, a < b + 2 → a < 100000 → b < 100000 → ¬ (2 : Int32) ≤ nI a - nI b := fun a b h1 h3 h4 q => by
    have q := Int32.le_iff_toInt_le.mp q
    rw [pk_sub_toInt (by omega) (by omega), show (2 : Int32).toInt = 2 from rfl] at q
    omega
  have c5 := sub2 i o r3 (by omega) (by omega)
  have c6 := sub2 o i r4 (by omega) (by omega)
  cases hgu : guF (nI p) with
  | true =>
    rw [hgu] at q7
    refine Rn.bf 3 rfl (c1) ?_
    refine Rn.bf 2 rfl (nI_pos (by omega)) ?_
    refine Rn.bf 3 rfl (c2) ?_
    refine Rn.steps 3 rfl ?_
    refine Rn.callO rfl rfl rfl hb rfl rfl rfl rfl rfl rfl (g0) ?_
    refine Rn.bt 2 rfl (rfl) ?_
    refine Rn.steps 6 rfl ?_
    refine Rn.callO rfl rfl rfl hb rfl rfl rfl rfl rfl rfl (q2) ?_
    refine Rn.bf 1 rfl (nI_pos (by omega)) ?_
    refine Rn.steps 3 rfl ?_
    refine Rn.callO rfl rfl rfl hb rfl rfl rfl rfl rfl rfl (q7) ?_
    refine Rn.steps 11 rfl ?_
    refine Rn.callO rfl rfl rfl hb rfl rfl rfl rfl rfl rfl (q6) ?_
    refine Rn.bf 3 rfl (c3) ?_
    refine Rn.steps 3 rfl ?_
    refine Rn.callO rfl rfl rfl hb rfl rfl rfl rfl rfl rfl (q6) ?_
    refine Rn.bf 6 rfl (c4) ?_
    refine Rn.steps 3 rfl ?_
    refine Rn.callO rfl rfl rfl hb rfl rfl rfl rfl rfl rfl (q4) ?_
    refine Rn.steps 3 rfl ?_
    refine Rn.callO rfl rfl rfl hb rfl rfl rfl rfl rfl rfl (q5) ?_
    refine Rn.bf 3 rfl (c5) ?_
    refine Rn.steps 3 rfl ?_
    refine Rn.callO rfl rfl rfl hb rfl rfl rfl rfl rfl rfl (q5) ?_
    refine Rn.steps 3 rfl ?_
    refine Rn.callO rfl rfl rfl hb rfl rfl rfl rfl rfl rfl (q4) ?_
    refine Rn.bf 3 rfl (c6) ?_
    refine Rn.steps 5 rfl ?_
    exact Rn.lx [(0, .ref 3), (1, .int (2 * z 0)), (2, .int (mSet z (k + 1))), (3, .int (mSum z 1 (k + 1))), (4, .int (mSum z 5 (k + 1))), (5, .int (mMany z (k + 1))), (6, .int (bi (brB z (k + 1)))), (7, .int (bi (mEmp z (k + 1)))), (8, .int 1), (9, .int (nI (k + 1)))] [0, 1, 2, 3, 4, 5, 6, 7, 8, 9] rfl (by decide) ⟨rfl, rfl, rfl, rfl, rfl, rfl, rfl, rfl, rfl, (by rw [← nI_1 k]; rfl), trivial⟩ kk
  | false =>
    rw [hgu] at q7
    refine Rn.bf 3 rfl (c1) ?_
    refine Rn.bf 2 rfl (nI_pos (by omega)) ?_
    refine Rn.bf 3 rfl (c2) ?_
    refine Rn.steps 3 rfl ?_
    refine Rn.callO rfl rfl rfl hb rfl rfl rfl rfl rfl rfl (g0) ?_
    refine Rn.bt 2 rfl (rfl) ?_
    refine Rn.steps 6 rfl ?_
    refine Rn.callO rfl rfl rfl hb rfl rfl rfl rfl rfl rfl (q2) ?_
    refine Rn.bf 1 rfl (nI_pos (by omega)) ?_
    refine Rn.steps 3 rfl ?_
    refine Rn.callO rfl rfl rfl hb rfl rfl rfl rfl rfl rfl (q7) ?_
    refine Rn.steps 10 rfl ?_
    refine Rn.callO rfl rfl rfl hb rfl rfl rfl rfl rfl rfl (q6) ?_
    refine Rn.bf 3 rfl (c3) ?_
    refine Rn.steps 3 rfl ?_
    refine Rn.callO rfl rfl rfl hb rfl rfl rfl rfl rfl rfl (q6) ?_
    refine Rn.bf 6 rfl (c4) ?_
    refine Rn.steps 3 rfl ?_
    refine Rn.callO rfl rfl rfl hb rfl rfl rfl rfl rfl rfl (q4) ?_
    refine Rn.steps 3 rfl ?_
    refine Rn.callO rfl rfl rfl hb rfl rfl rfl rfl rfl rfl (q5) ?_
    refine Rn.bf 3 rfl (c5) ?_
    refine Rn.steps 3 rfl ?_
    refine Rn.callO rfl rfl rfl hb rfl rfl rfl rfl rfl rfl (q5) ?_
    refine Rn.steps 3 rfl ?_
    refine Rn.callO rfl rfl rfl hb rfl rfl rfl rfl rfl rfl (q4) ?_
    refine Rn.bf 3 rfl (c6) ?_
    refine Rn.steps 5 rfl ?_
    exact Rn.lx [(0, .ref 3), (1, .int (2 * z 0)), (2, .int (mSet z (k + 1))), (3, .int (mSum z 1 (k + 1))), (4, .int (mSum z 5 (k + 1))), (5, .int (mMany z (k + 1))), (6, .int (bi (brB z (k + 1)))), (7, .int (bi (mEmp z (k + 1)))), (8, .int 1), (9, .int (nI (k + 1)))] [0, 1, 2, 3, 4, 5, 6, 7, 8, 9] rfl (by decide) ⟨rfl, rfl, rfl, rfl, rfl, rfl, rfl, rfl, rfl, (by rw [← nI_1 k]; rfl), trivial⟩ kk
theorem w_c (hS : ST X c z t u0 u1 h) (hI : GI z P B S) (hSb : S ≤ 10000) (k : Nat) (hk : k < 10) (v : Option Value) (h' : xHp) (kk : Rn (d + 5) 88 44 [(0, .ref 3), (1, .int (2 * z 0)), (2, .int (mSet z (k + 1))), (3, .int (mSum z 1 (k + 1))), (4, .int (mSum z 5 (k + 1))), (5, .int (mMany z (k + 1))), (6, .int (bi (brB z (k + 1)))), (7, .int (bi (mEmp z (k + 1)))), (8, .int 1), (9, .int (nI (k + 1)))] [] h n v h' n) : Rn (d + 5) 88 44 [(0, .ref 3), (1, .int (2 * z 0)), (2, .int (mSet z k)), (3, .int (mSum z 1 k)), (4, .int (mSum z 5 k)), (5, .int (mMany z k)), (6, .int (bi (brB z k))), (7, .int (bi (mEmp z k))), (8, .int 1), (9, .int (nI k))] [] h n v h' n := by
  have hG := hI.gp
  obtain ⟨fs, hb⟩ := hS.h3
  cases hz : zt z k with
  | false =>
    have q0 := k_of_bad (d + 2) n hS (nI k) 0 (isC_no hk hz)
    have s2 : mSet z (k + 1) = mSet z k := by
      show mSet z k ||| cond (zt z k) (1 <<< (nI k &&& 31)) 0 = _
      rw [hz]
      exact or0 _
    have s3 : mSum z 1 (k + 1) = mSum z 1 k := by rw [mSum_s]; unfold tm; rw [hz]; exact Int32.add_zero _
    have s4 : mSum z 5 (k + 1) = mSum z 5 k := by rw [mSum_s]; unfold tm; rw [hz]; exact Int32.add_zero _
    have s5 : mMany z (k + 1) = mMany z k := by rw [mMany_s, hz]; exact Int32.add_zero _
    have s6 : brB z (k + 1) = brB z k := by rw [brB_s, hz, Bool.false_and, Bool.or_false]
    have s7 : mEmp z (k + 1) = mEmp z k := by
      show (mEmp z k || (zt z k && decide (z (10 + 7 * k + 1) = 0))) = _
      rw [hz, Bool.false_and, Bool.or_false]
    refine Rn.bf 3 rfl (nI_ge (a := k) (b := 10) hk (by omega)) ?_
    refine Rn.steps 5 rfl ?_
    refine Rn.callO rfl rfl rfl hb rfl rfl rfl rfl rfl rfl (q0) ?_
    refine Rn.steps 5 rfl ?_
    exact Rn.lx [(0, .ref 3), (1, .int (2 * z 0)), (2, .int (mSet z (k + 1))), (3, .int (mSum z 1 (k + 1))), (4, .int (mSum z 5 (k + 1))), (5, .int (mMany z (k + 1))), (6, .int (bi (brB z (k + 1)))), (7, .int (bi (mEmp z (k + 1)))), (8, .int 1), (9, .int (nI (k + 1)))] [0, 1, 2, 3, 4, 5, 6, 7, 8, 9] rfl (by decide) ⟨rfl, rfl, (by rw [s2]; rfl), (by rw [s3]; rfl), (by rw [s4]; rfl), (by rw [s5]; rfl), (by rw [s6]; rfl), (by rw [s7]; rfl), rfl, (by rw [← nI_1 k]; rfl), trivial⟩ kk
  | true =>
    obtain ⟨st, cd, sp, e1, e2, e3, e4, e5, e6, e7, e8, e9⟩ := hI.2.2.1
    obtain ⟨p, i, o, w, p1, p2, p3, p4, p5, p6, p7⟩ := e9 k hk hz
    have a : w ≤ 10000 := by omega
    exact w_0 d n hS hI hSb k hk hz p i o w p1 p2 p3 p4 p5 p6 a v h' (w_1 d n hS hI hSb k hk hz p i o w p1 p2 p3 p4 p5 p6 a v h' (w_2 d n hS hI hSb k hk hz p i o w p1 p2 p3 p4 p5 p6 a v h' (w_3 d n hS hI hSb k hk hz p i o w p1 p2 p3 p4 p5 p6 a v h' (w_4 d n hS hI hSb k hk hz p i o w p1 p2 p3 p4 p5 p6 a v h' (w_5 d n hS hI hSb k hk hz p i o w p1 p2 p3 p4 p5 p6 a v h' kk)))))
theorem w_p (hS : ST X c z t u0 u1 h) (hG : GP z P) (p : Nat) (hp : p < 8 * P) (v : Option Value) (h' : xHp) (kk : Rn (d + 5) 88 408 [(0, .ref 3), (1, .int (2 * z 0)), (2, .int (mSet z 10)), (3, .int (mSum z 1 10)), (4, .int (mSum z 5 10)), (5, .int (mMany z 10)), (6, .int (bi (brB z 10))), (7, .int (bi (mEmp z 10))), (8, .int 1), (9, .int (nI (rkN z (p + 1)))), (10, .int (nI (p + 1)))] [] h n v h' n) : Rn (d + 5) 88 408 [(0, .ref 3), (1, .int (2 * z 0)), (2, .int (mSet z 10)), (3, .int (mSum z 1 10)), (4, .int (mSum z 5 10)), (5, .int (mMany z 10)), (6, .int (bi (brB z 10))), (7, .int (bi (mEmp z 10))), (8, .int 1), (9, .int (nI (rkN z p))), (10, .int (nI p))] [] h n v h' n := by
  have h2 := hG.2.1
  have h6 := hG.2.2.1
  obtain ⟨fs, hb⟩ := hS.h3
  have c1 : ¬ 4 * (2 * z 0) ≤ nI p := by rw [hG.1, x8P]; exact nI_ge hp (by omega)
  have g0 := k_atN (d + 2) n hS hG (p / 4) (p % 4) (by omega) (Nat.mod_lt _ (by omega))
  rw [show 4 * (p / 4) + p % 4 = p by omega] at g0
  have e1 : nI p / 4 = nI (p / 4) := pk_div (d := 4) (by omega) (by omega) (by omega)
  have e2 : rm (nI p) 4 = nI (p % 4) := rm_n (b := 4) (by omega) (by omega) (by omega)
  have e3 := fin_neg z (nI p)
  have e4 := rkN_s z p
  by_cases g : fIn z (nI p) 10 0 = -6
  · rw [if_pos g] at e4
    rw [g] at g0
    refine Rn.bf 5 rfl (c1) ?_
    refine Rn.steps 5 rfl ?_
    refine Rn.idiv rfl rfl (by decide) ?_
    rw [e1]
    refine Rn.steps 2 rfl ?_
    refine Rn.irem rfl rfl (by decide) ?_
    rw [e2]
    refine Rn.callO rfl rfl rfl hb rfl rfl rfl rfl rfl rfl (g0) ?_
    refine Rn.steps 15 rfl ?_
    exact Rn.lx [(0, .ref 3), (1, .int (2 * z 0)), (2, .int (mSet z 10)), (3, .int (mSum z 1 10)), (4, .int (mSum z 5 10)), (5, .int (mMany z 10)), (6, .int (bi (brB z 10))), (7, .int (bi (mEmp z 10))), (8, .int 1), (9, .int (nI (rkN z (p + 1)))), (10, .int (nI (p + 1)))] [0, 1, 2, 3, 4, 5, 6, 7, 8, 9, 10] rfl (by decide) ⟨rfl, rfl, rfl, rfl, rfl, rfl, rfl, rfl, rfl, (by rw [e4, ← nI_add]; rfl), (by rw [← nI_1 p]; rfl), trivial⟩ kk
  · rw [if_neg g] at e4
    have ge0 : ¬ fIn z (nI p) 10 0 < 0 := fun q => g (e3.mp q)
    have ge1 : 0 ≤ fIn z (nI p) 10 0 := Int32.not_lt.mp ge0
    have q := k_around (d + 2) n hS hG (nI (rkN z p))
    have a := ar_at (z := z) g (by omega) (8 * P) 0 (Nat.zero_le _) (by omega)
    rw [show rkN z p - rkN z 0 = rkN z p from rfl] at a
    rw [a] at q
    refine Rn.bf 5 rfl (c1) ?_
    refine Rn.steps 5 rfl ?_
    refine Rn.idiv rfl rfl (by decide) ?_
    rw [e1]
    refine Rn.steps 2 rfl ?_
    refine Rn.irem rfl rfl (by decide) ?_
    rw [e2]
    refine Rn.callO rfl rfl rfl hb rfl rfl rfl rfl rfl rfl (g0) ?_
    refine Rn.bf 3 rfl (ge0) ?_
    refine Rn.steps 2 rfl ?_
    refine Rn.callO rfl rfl rfl hb rfl rfl rfl rfl rfl rfl (q) ?_
    refine Rn.bt 2 rfl (rfl) ?_
    refine Rn.bt 6 rfl (ge1) ?_
    refine Rn.steps 5 rfl ?_
    exact Rn.lx [(0, .ref 3), (1, .int (2 * z 0)), (2, .int (mSet z 10)), (3, .int (mSum z 1 10)), (4, .int (mSum z 5 10)), (5, .int (mMany z 10)), (6, .int (bi (brB z 10))), (7, .int (bi (mEmp z 10))), (8, .int 1), (9, .int (nI (rkN z (p + 1)))), (10, .int (nI (p + 1)))] [0, 1, 2, 3, 4, 5, 6, 7, 8, 9, 10] rfl (by decide) ⟨rfl, rfl, rfl, rfl, rfl, rfl, rfl, rfl, rfl, (by rw [e4, ← nI_1]; rfl), (by rw [← nI_1 p]; rfl), trivial⟩ kk
theorem w_e4 (hS : ST X c z t u0 u1 h) (hG : GP z P) : Rn (d + 5) 88 669 [(0, .ref 3), (5, .int (mMany z 10)), (6, .int (bi (brB z 10))), (7, .int (bi (mEmp z 10))), (10, .int (hiF z)), (11, .int (meF z))] [] h n (some (.int 1)) h n := by
  obtain ⟨fs, hb⟩ := hS.h3
  by_cases g : meF z = -6
  · by_cases g0 : mMany z 10 = 0
    · refine Rn.bt 3 rfl (g) ?_
      refine Rn.bt 2 rfl (g0) ?_
      refine Rn.steps 2 rfl ?_
      exact Rn.retE rfl rfl rfl rfl rfl
    · have t0 : ¬ tkF z 10 = 0 := fun q => g0 (by rw [many_n, hG.tk0.mp q]; rfl)
      obtain ⟨k, k1, k2, k3⟩ := per_pos hG g
      have q := k_per d n hS t0
      rw [k3] at q
      refine Rn.bt 3 rfl (g) ?_
      refine Rn.bf 2 rfl (g0) ?_
      refine Rn.steps 1 rfl ?_
      refine Rn.callO rfl rfl rfl hb rfl rfl rfl rfl rfl rfl (q) ?_
      refine Rn.bf 1 rfl (nI_nle k1 (by omega)) ?_
      refine Rn.steps 2 rfl ?_
      exact Rn.retE rfl rfl rfl rfl rfl
  · refine Rn.bf 3 rfl (g) ?_
    refine Rn.steps 2 rfl ?_
    exact Rn.retE rfl rfl rfl rfl rfl
theorem w_e3 (hS : ST X c z t u0 u1 h) (hG : GP z P) : Rn (d + 5) 88 644 [(0, .ref 3), (5, .int (mMany z 10)), (6, .int (bi (brB z 10))), (7, .int (bi (mEmp z 10))), (10, .int (hiF z)), (11, .int (meF z))] [] h n (some (.int 1)) h n := by
  obtain ⟨fs, hb⟩ := hS.h3
  have k4 := w_e4 d n hS hG
  have hl := hi_la hG
  have hle := la_le z P
  have q := k_lasts d n hS hG
  by_cases g : hiF z = 0
  · have g1 : ¬ nI (la z P) ≤ 0 := nI_nle (hl.mp g) (by omega)
    refine Rn.bt 2 rfl (g) ?_
    refine Rn.steps 3 rfl ?_
    refine Rn.callO rfl rfl rfl hb rfl rfl rfl rfl rfl rfl (q) ?_
    refine Rn.bf 1 rfl (g1) ?_
    refine Rn.steps 3 rfl ?_
    exact Rn.lx [(0, .ref 3), (5, .int (mMany z 10)), (6, .int (bi (brB z 10))), (7, .int (bi (mEmp z 10))), (10, .int (hiF z)), (11, .int (meF z))] [0, 5, 6, 7, 10, 11] rfl (by decide) ⟨rfl, rfl, rfl, rfl, rfl, rfl, trivial⟩ k4
  · have g1 : nI (la z P) ≤ 0 := by
      have : la z P = 0 := by
        rcases Nat.eq_zero_or_pos (la z P) with e | e
        · exact e
        · exact (g (hl.mpr e)).elim
      rw [this]
      decide
    refine Rn.bf 2 rfl (g) ?_
    refine Rn.steps 2 rfl ?_
    refine Rn.callO rfl rfl rfl hb rfl rfl rfl rfl rfl rfl (q) ?_
    refine Rn.bt 1 rfl (g1) ?_
    refine Rn.steps 2 rfl ?_
    exact Rn.lx [(0, .ref 3), (5, .int (mMany z 10)), (6, .int (bi (brB z 10))), (7, .int (bi (mEmp z 10))), (10, .int (hiF z)), (11, .int (meF z))] [0, 5, 6, 7, 10, 11] rfl (by decide) ⟨rfl, rfl, rfl, rfl, rfl, rfl, trivial⟩ k4
theorem w_e2 (hS : ST X c z t u0 u1 h) (hG : GP z P) : Rn (d + 5) 88 601 [(0, .ref 3), (5, .int (mMany z 10)), (6, .int (bi (brB z 10))), (7, .int (bi (mEmp z 10))), (10, .int (hiF z)), (11, .int (meF z))] [] h n (some (.int 1)) h n := by
  have k3 := w_e3 d n hS hG
  have hw := why_val hG
  have e0 : mMany z 10 = 0 ↔ tpm z 10 = 0 := by
    have := tpm_le z 10
    rw [many_n]
    exact nI_eq (b := 0) (by omega) (by omega)
  by_cases g : tpm z 10 = 0
  · rw [if_pos g] at hw
    refine Rn.bt 3 rfl (e0.mpr g) ?_
    refine Rn.bt 3 rfl (hw) ?_
    exact Rn.lx [(0, .ref 3), (5, .int (mMany z 10)), (6, .int (bi (brB z 10))), (7, .int (bi (mEmp z 10))), (10, .int (hiF z)), (11, .int (meF z))] [0, 5, 6, 7, 10, 11] rfl (by decide) ⟨rfl, rfl, rfl, rfl, rfl, rfl, trivial⟩ k3
  · rw [if_neg g] at hw
    have g1 : ¬ mMany z 10 = 0 := fun q => g (e0.mp q)
    cases h1 : brB z 10 with
    | true =>
      rw [h1] at hw k3
      refine Rn.bf 3 rfl (g1) ?_
      refine Rn.bt 5 rfl (hw) ?_
      exact Rn.lx [(0, .ref 3), (5, .int (mMany z 10)), (6, .int (bi true)), (7, .int (bi (mEmp z 10))), (10, .int (hiF z)), (11, .int (meF z))] [0, 5, 6, 7, 10, 11] rfl (by decide) ⟨rfl, rfl, rfl, rfl, rfl, rfl, trivial⟩ k3
    | false =>
      rw [h1] at hw k3
      cases h2 : mEmp z 10 with
      | true =>
        rw [h2] at hw k3
        refine Rn.bf 3 rfl (g1) ?_
        refine Rn.bt 7 rfl (hw) ?_
        exact Rn.lx [(0, .ref 3), (5, .int (mMany z 10)), (6, .int (bi false)), (7, .int (bi true)), (10, .int (hiF z)), (11, .int (meF z))] [0, 5, 6, 7, 10, 11] rfl (by decide) ⟨rfl, rfl, rfl, rfl, rfl, rfl, trivial⟩ k3
      | false =>
        rw [h2] at hw k3
        have hw : hiF z = if meF z = 1 then 4 else 0 := hw
        by_cases g2 : meF z = 1
        · rw [if_pos g2] at hw
          refine Rn.bf 3 rfl (g1) ?_
          refine Rn.bt 7 rfl (g2) ?_
          refine Rn.bt 3 rfl (hw) ?_
          exact Rn.lx [(0, .ref 3), (5, .int (mMany z 10)), (6, .int (bi false)), (7, .int (bi false)), (10, .int (hiF z)), (11, .int (meF z))] [0, 5, 6, 7, 10, 11] rfl (by decide) ⟨rfl, rfl, rfl, rfl, rfl, rfl, trivial⟩ k3
        · rw [if_neg g2] at hw
          refine Rn.bf 3 rfl (g1) ?_
          refine Rn.bf 7 rfl (g2) ?_
          refine Rn.bt 2 rfl (hw) ?_
          exact Rn.lx [(0, .ref 3), (5, .int (mMany z 10)), (6, .int (bi false)), (7, .int (bi false)), (10, .int (hiF z)), (11, .int (meF z))] [0, 5, 6, 7, 10, 11] rfl (by decide) ⟨rfl, rfl, rfl, rfl, rfl, rfl, trivial⟩ k3
theorem w_e1 (hS : ST X c z t u0 u1 h) (hI : GI z P B S) (hSb : S ≤ 10000) : Rn (d + 5) 88 479 [(0, .ref 3), (1, .int (2 * z 0)), (2, .int (mSet z 10)), (3, .int (mSum z 1 10)), (4, .int (mSum z 5 10)), (5, .int (mMany z 10)), (6, .int (bi (brB z 10))), (7, .int (bi (mEmp z 10))), (8, .int 1), (9, .int (nI (rkN z (8 * P)))), (10, .int (nI (8 * P)))] [] h n (some (.int 1)) h n := by
  have hG := hI.gp
  have h6 := hG.2.2.1
  obtain ⟨fs, hb⟩ := hS.h3
  have k2 := w_e2 d n hS hG
  obtain ⟨st, cd, sp, e1, e2, e3, e4, e5, e6, e7, e8, e9⟩ := hI.2.2.1
  have ht := tpm_le z 10
  have c1 : nI (rkN z (8 * P)) = mMany z 10 := by rw [rk_all hG, many_n]
  have q1 := k_around (d + 2) n hS hG (mMany z 10)
  have a1 : arF z (8 * P) (mMany z 10) 0 = -1 := by
    rw [many_n]
    exact ar_end (8 * P) 0 _ (by rw [Nat.zero_add, rk_all hG]; omega) (by omega)
  rw [a1] at q1
  have c2 : ¬ z 8 < mSum z 5 10 := by
    rw [e3, mSum_n 10 (fun e he hz => by
      obtain ⟨p, i, o, w, p1, p2, p3, p4, p5, p6, p7⟩ := e9 e he hz
      exact ⟨w, by omega, p5⟩)]
    exact nI_nlt e8 (by omega)
  have c3 := hI.2.2.2.1
  have c4 : ¬ z 4 < z 3 := by rw [e1, e2]; exact nI_nlt (by omega) (by omega)
  have c5 : ¬ 9 * z 3 < z 4 := by rw [e1, e2, show (9 : Int32) = nI 9 from rfl, pk_mul]; exact nI_nlt (by omega) (by omega)
  refine Rn.steps 1 rfl ?_
  refine Rn.callO rfl rfl rfl hb rfl rfl rfl rfl rfl rfl (k_why (d + 1) n hS hG.2.2.2.2.1) ?_
  refine Rn.steps 3 rfl ?_
  refine Rn.callO rfl rfl rfl hb rfl rfl rfl rfl rfl rfl (k_me_0 d n hS) ?_
  refine Rn.bt 6 rfl (c1) ?_
  refine Rn.steps 2 rfl ?_
  refine Rn.callO rfl rfl rfl hb rfl rfl rfl rfl rfl rfl (q1) ?_
  refine Rn.steps 5 rfl ?_
  refine Rn.callO rfl rfl rfl hb rfl rfl rfl rfl rfl rfl (k_count_1 (d + 2) n hS) ?_
  refine Rn.bt 1 rfl (rfl) ?_
  refine Rn.steps 3 rfl ?_
  refine Rn.callO rfl rfl rfl hb rfl rfl rfl rfl rfl rfl (k_count_7 (d + 2) n hS) ?_
  refine Rn.bt 1 rfl (rfl) ?_
  refine Rn.steps 3 rfl ?_
  refine Rn.callO rfl rfl rfl hb rfl rfl rfl rfl rfl rfl (k_count_8 (d + 2) n hS) ?_
  refine Rn.bf 1 rfl (c2) ?_
  refine Rn.steps 2 rfl ?_
  refine Rn.callO rfl rfl rfl hb rfl rfl rfl rfl rfl rfl (k_count_6 (d + 2) n hS) ?_
  refine Rn.steps 2 rfl ?_
  refine Rn.callO rfl rfl rfl hb rfl rfl rfl rfl rfl rfl (k_count_5 (d + 2) n hS) ?_
  refine Rn.steps 2 rfl ?_
  refine Rn.callO rfl rfl rfl hb rfl rfl rfl rfl rfl rfl (k_count_7 (d + 2) n hS) ?_
  refine Rn.steps 3 rfl ?_
  refine Rn.callO rfl rfl rfl hb rfl rfl rfl rfl rfl rfl (k_count_8 (d + 2) n hS) ?_
  refine Rn.bt 2 rfl (c3) ?_
  refine Rn.steps 2 rfl ?_
  refine Rn.callO rfl rfl rfl hb rfl rfl rfl rfl rfl rfl (k_count_3 (d + 2) n hS) ?_
  refine Rn.steps 2 rfl ?_
  refine Rn.callO rfl rfl rfl hb rfl rfl rfl rfl rfl rfl (k_count_2 (d + 2) n hS) ?_
  refine Rn.bf 1 rfl (c4) ?_
  refine Rn.steps 2 rfl ?_
  refine Rn.callO rfl rfl rfl hb rfl rfl rfl rfl rfl rfl (k_count_3 (d + 2) n hS) ?_
  refine Rn.steps 3 rfl ?_
  refine Rn.callO rfl rfl rfl hb rfl rfl rfl rfl rfl rfl (k_count_2 (d + 2) n hS) ?_
  refine Rn.bf 2 rfl (c5) ?_
  exact Rn.lx [(0, .ref 3), (5, .int (mMany z 10)), (6, .int (bi (brB z 10))), (7, .int (bi (mEmp z 10))), (10, .int (hiF z)), (11, .int (meF z))] [0, 5, 6, 7, 10, 11] rfl (by decide) ⟨rfl, rfl, rfl, rfl, rfl, rfl, trivial⟩ k2
theorem l_whole (hS : ST X c z t u0 u1 h) (hI : GI z P B S) (hSb : S ≤ 10000) : Rn (d + 5) 88 0 [(0, .ref 3)] [] h n (some (.int 1)) h n := by
  have hG := hI.gp
  have h6 := hG.2.2.1
  obtain ⟨fs, hb⟩ := hS.h3
  refine Rn.steps 2 rfl ?_
  refine Rn.callO rfl rfl rfl hb rfl rfl rfl rfl rfl rfl (k_count_0 (d + 2) n hS) ?_
  refine Rn.steps 17 rfl ?_
  refine Rn.callO rfl rfl rfl hb rfl rfl rfl rfl rfl rfl (k_count_10 (d + 2) n hS) ?_
  refine Rn.bt 2 rfl (rfl) ?_
  refine Rn.steps 5 rfl ?_
  refine Rn.lx [(0, .ref 3), (1, .int (2 * z 0)), (2, .int (mSet z 0)), (3, .int (mSum z 1 0)), (4, .int (mSum z 5 0)), (5, .int (mMany z 0)), (6, .int (bi (brB z 0))), (7, .int (bi (mEmp z 0))), (8, .int 1), (9, .int (nI 0))] [0, 1, 2, 3, 4, 5, 6, 7, 8, 9] rfl (by decide) ⟨rfl, rfl, rfl, rfl, rfl, rfl, rfl, rfl, rfl, rfl, trivial⟩ ?_
  refine xloop (fun k => Rn (d + 5) 88 44 [(0, .ref 3), (1, .int (2 * z 0)), (2, .int (mSet z k)), (3, .int (mSum z 1 k)), (4, .int (mSum z 5 k)), (5, .int (mMany z k)), (6, .int (bi (brB z k))), (7, .int (bi (mEmp z k))), (8, .int 1), (9, .int (nI k))] [] h n (some (.int 1)) h n) 10 ?_ (fun k hk ih => w_c d n hS hI hSb k hk _ _ ih)
  show Rn (d + 5) 88 44 [(0, .ref 3), (1, .int (2 * z 0)), (2, .int (mSet z 10)), (3, .int (mSum z 1 10)), (4, .int (mSum z 5 10)), (5, .int (mMany z 10)), (6, .int (bi (brB z 10))), (7, .int (bi (mEmp z 10))), (8, .int 1), (9, .int (nI 10))] [] h n (some (.int 1)) h n
  refine Rn.steps 7 rfl ?_
  refine Rn.lx [(0, .ref 3), (1, .int (2 * z 0)), (2, .int (mSet z 10)), (3, .int (mSum z 1 10)), (4, .int (mSum z 5 10)), (5, .int (mMany z 10)), (6, .int (bi (brB z 10))), (7, .int (bi (mEmp z 10))), (8, .int 1), (9, .int (nI (rkN z 0))), (10, .int (nI 0))] [0, 1, 2, 3, 4, 5, 6, 7, 8, 9, 10] rfl (by decide) ⟨rfl, rfl, rfl, rfl, rfl, rfl, rfl, rfl, rfl, rfl, rfl, trivial⟩ ?_
  refine xloop (fun p => Rn (d + 5) 88 408 [(0, .ref 3), (1, .int (2 * z 0)), (2, .int (mSet z 10)), (3, .int (mSum z 1 10)), (4, .int (mSum z 5 10)), (5, .int (mMany z 10)), (6, .int (bi (brB z 10))), (7, .int (bi (mEmp z 10))), (8, .int 1), (9, .int (nI (rkN z p))), (10, .int (nI p))] [] h n (some (.int 1)) h n) (8 * P) ?_ (fun p hp ih => w_p d n hS hG p hp _ _ ih)
  have k1 := w_e1 d n hS hI hSb
  have c1 : 4 * (2 * z 0) ≤ nI (8 * P) := by rw [hG.1, x8P]; exact Int32.le_refl _
  show Rn (d + 5) 88 408 [(0, .ref 3), (1, .int (2 * z 0)), (2, .int (mSet z 10)), (3, .int (mSum z 1 10)), (4, .int (mSum z 5 10)), (5, .int (mMany z 10)), (6, .int (bi (brB z 10))), (7, .int (bi (mEmp z 10))), (8, .int 1), (9, .int (nI (rkN z (8 * P)))), (10, .int (nI (8 * P)))] [] h n (some (.int 1)) h n
  refine Rn.bt 5 rfl (c1) ?_
  exact Rn.lx [(0, .ref 3), (1, .int (2 * z 0)), (2, .int (mSet z 10)), (3, .int (mSum z 1 10)), (4, .int (mSum z 5 10)), (5, .int (mMany z 10)), (6, .int (bi (brB z 10))), (7, .int (bi (mEmp z 10))), (8, .int 1), (9, .int (nI (rkN z (8 * P)))), (10, .int (nI (8 * P)))] [0, 1, 2, 3, 4, 5, 6, 7, 8, 9, 10] rfl (by decide) ⟨rfl, rfl, rfl, rfl, rfl, rfl, rfl, rfl, rfl, rfl, rfl, trivial⟩ k1
end LAW5
