/-! the law's puts(), run(), end() -/
/-- what an act of the law does: 0 refused, 1 done -/
def AO (X : xLC) (c : Nat) (z t : Nat → Int32) (u0 u1 : Option (Nat → Int32)) (B S : Nat) (r : Int32) (h' : xHp) : Prop := (r = 0 ∧ ST X c z t u0 u1 h') ∨ (r = 1 ∧ ∃ z' P', ST X (up c) z' z u0 u1 h' ∧ GI z' P' B S)
section LAW3
variable {X : xLC} {c : Nat} {z t : Nat → Int32} {u0 u1 : Option (Nat → Int32)} {h : xHp} {P B S : Nat}
variable (d n : Nat)
theorem isPl_ok (hG : GP z P) {a b : Nat} (ha : a < 2 * P) (hb : b < 4) : isPl (2 * z 0) (nI a) (nI b) = true := by
  have h6 := hG.2.2.1
  unfold isPl
  rw [hG.hn, show nI (2 * P) - 1 = nI (2 * P - 1) from pk_sub (b := 1) (by omega), Bool.and_eq_true, decide_eq_true_eq, decide_eq_true_eq]
  exact ⟨⟨nI_pos' (by omega), (nI_leI (by omega) (by omega)).mpr (by omega)⟩, nI_pos' (by omega), (nI_leI (b := 3) (by omega) (by omega)).mpr (by omega)⟩
theorem n4 (a b : Nat) : 4 * nI a + nI b = nI (4 * a + b) := by rw [show (4 : Int32) = nI 4 from rfl, pk_mul, nI_add]
/-- who is beside a place of a contact -/
theorem bes_0 (hG : GP z P) {a : Nat} (ha : a < 2 * P) : rm (nI a + 1) (2 * z 0) = nI ((a + 1) % (2 * P)) ∧ oN P (4 * a) = 4 * ((a + 1) % (2 * P)) + 2 ∧ (a + 1) % (2 * P) < 2 * P := by
  have h2 := hG.2.1
  have h6 := hG.2.2.1
  refine ⟨?_, ?_, Nat.mod_lt _ (by omega)⟩
  · rw [hG.hn, nI_1]; exact rm_n (by omega) (by omega) (by omega)
  · unfold oN
    rw [if_pos (by omega), show 4 * a / 4 = a by omega]
theorem bes_2 (hG : GP z P) {a : Nat} (ha : a < 2 * P) : rm (nI a + 2 * z 0 - 1) (2 * z 0) = nI ((a + 2 * P - 1) % (2 * P)) ∧ oN P (4 * a + 2) = 4 * ((a + 2 * P - 1) % (2 * P)) + 0 ∧ (a + 2 * P - 1) % (2 * P) < 2 * P := by
  have h2 := hG.2.1
  have h6 := hG.2.2.1
  refine ⟨?_, ?_, Nat.mod_lt _ (by omega)⟩
  · rw [hG.hn, nI_add, show nI (a + 2 * P) - 1 = nI (a + 2 * P - 1) from pk_sub (b := 1) (by omega)]
    exact rm_n (by omega) (by omega) (by omega)
  · unfold oN
    rw [if_neg (by omega), if_pos (by omega), show (4 * a + 2) / 4 = a by omega]
    rfl
theorem k_atN (hS : ST X c z t u0 u1 h) (hG : GP z P) (a b : Nat) (ha : a < 2 * P) (hb : b < 4) : Rn (d + 2) 69 0 [(0, .ref 3), (1, .int (nI a)), (2, .int (nI b))] [] h n (some (.int (fIn z (nI (4 * a + b)) 10 0))) h n :=
  k_at d n hS hG (nI a) (nI b) (isPl_ok hG ha hb) (4 * a + b) (by have := hG.2.2.1; omega) (n4 a b)
theorem fin_ge (hG : GP z P) {p : Nat} (hp : p < 48) : 0 ≤ fIn z (nI p) 10 0 ↔ p ∈ pl z 10 := by
  have e1 := fin_no hG hp
  have e2 := fin_neg z (nI p)
  rw [← Int32.not_lt, e2, e1]
  exact Decidable.not_not
theorem not_all (hz : ¬ ∀ j, j < 10 → zt z j = true) : ffree z < 10 ∧ zt z (ffree z) = false ∧ ∀ j, j < ffree z → zt z j = true := by
  refine ffree_ok (fun q => hz ?_)
  obtain ⟨k, k1, k2, k3⟩ := many_ok (z := z) 10
  rw [k2] at q
  exact k3 ((nI_eq (b := 10) (by omega) (by omega)).mp q)
theorem l_putA (hS : ST X c z t u0 u1 h) (hG : GP z P) (a b : Nat) (ha : a < 2 * P) (hb4 : b < 4) : ∃ tk : Bool, (tk = true ↔ ¬ (¬ 4 * a + b ∈ pl z 10 ∧ ¬ oN P (4 * a + b) ∈ pl z 10)) ∧ ∀ v h', Rn (d + 4) 92 91 [(0, .ref 3), (1, .int (nI a)), (2, .int (nI b)), (3, .int (2 * z 0)), (4, .int (mSet z 10)), (5, .int (z 2)), (6, .int (z 7)), (8, .int (bi tk))] [] h n v h' n → Rn (d + 4) 92 0 [(0, .ref 3), (1, .int (nI a)), (2, .int (nI b))] [] h n v h' n := by
  obtain ⟨fs, hb⟩ := hS.h3
  have h2 := hG.2.1
  have h6 := hG.2.2.1
  have q1 := k_count_0 (d + 1) n hS
  have q2 := k_count_1 (d + 1) n hS
  have q3 := k_count_12 (d + 1) n hS
  have q4 := k_count_6 (d + 1) n hS
  have hne := x2ne hG.1 h2 h6
  have g0 := k_atN (d + 1) n hS hG a b ha hb4
  have f0 := fin_ge hG (p := 4 * a + b) (by omega)
  by_cases b0 : b = 0
  · subst b0
    obtain ⟨c1, c2, c3⟩ := bes_0 hG ha
    have g1 := k_atN (d + 1) n hS hG _ 2 c3 (by omega)
    have f1 := fin_ge hG (p := 4 * ((a + 1) % (2 * P)) + 2) (by omega)
    rw [← c2] at f1 g1
    by_cases m1 : 4 * a + 0 ∈ pl z 10
    · refine ⟨true, ⟨fun _ g => g.1 m1, fun _ => rfl⟩, fun v h' kk => ?_⟩
      refine Rn.steps 2 rfl ?_
      refine Rn.callO rfl rfl rfl hb rfl rfl rfl rfl rfl rfl (q1) ?_
      refine Rn.steps 3 rfl ?_
      refine Rn.callO rfl rfl rfl hb rfl rfl rfl rfl rfl rfl (q2) ?_
      refine Rn.steps 3 rfl ?_
      refine Rn.callO rfl rfl rfl hb rfl rfl rfl rfl rfl rfl (q3) ?_
      refine Rn.steps 3 rfl ?_
      refine Rn.callO rfl rfl rfl hb rfl rfl rfl rfl rfl rfl (q4) ?_
      refine Rn.steps 8 rfl ?_
      refine Rn.irem rfl rfl (hne) ?_
      rw [c1]
      refine Rn.steps 1 rfl ?_
      refine Rn.callO rfl rfl rfl hb rfl rfl rfl rfl rfl rfl (g1) ?_
      refine Rn.steps 5 rfl ?_
      refine Rn.callO rfl rfl rfl hb rfl rfl rfl rfl rfl rfl (g0) ?_
      refine Rn.bt 1 rfl (f0.mpr m1) ?_
      refine Rn.steps 3 rfl ?_
      exact Rn.lx [(0, .ref 3), (1, .int (nI a)), (2, .int (nI 0)), (3, .int (2 * z 0)), (4, .int (mSet z 10)), (5, .int (z 2)), (6, .int (z 7)), (8, .int (bi true))] [0, 1, 2, 3, 4, 5, 6, 8] rfl (by decide) ⟨rfl, rfl, rfl, rfl, rfl, rfl, rfl, rfl, trivial⟩ kk
    · by_cases m2 : oN P (4 * a + 0) ∈ pl z 10
      · refine ⟨true, ⟨fun _ g => g.2 m2, fun _ => rfl⟩, fun v h' kk => ?_⟩
        refine Rn.steps 2 rfl ?_
        refine Rn.callO rfl rfl rfl hb rfl rfl rfl rfl rfl rfl (q1) ?_
        refine Rn.steps 3 rfl ?_
        refine Rn.callO rfl rfl rfl hb rfl rfl rfl rfl rfl rfl (q2) ?_
        refine Rn.steps 3 rfl ?_
        refine Rn.callO rfl rfl rfl hb rfl rfl rfl rfl rfl rfl (q3) ?_
        refine Rn.steps 3 rfl ?_
        refine Rn.callO rfl rfl rfl hb rfl rfl rfl rfl rfl rfl (q4) ?_
        refine Rn.steps 8 rfl ?_
        refine Rn.irem rfl rfl (hne) ?_
        rw [c1]
        refine Rn.steps 1 rfl ?_
        refine Rn.callO rfl rfl rfl hb rfl rfl rfl rfl rfl rfl (g1) ?_
        refine Rn.steps 5 rfl ?_
        refine Rn.callO rfl rfl rfl hb rfl rfl rfl rfl rfl rfl (g0) ?_
        refine Rn.bf 1 rfl (fun q => m1 (f0.mp q)) ?_
        refine Rn.bf 2 rfl (Int32.not_lt.mpr (f1.mpr m2)) ?_
        refine Rn.steps 3 rfl ?_
        exact Rn.lx [(0, .ref 3), (1, .int (nI a)), (2, .int (nI 0)), (3, .int (2 * z 0)), (4, .int (mSet z 10)), (5, .int (z 2)), (6, .int (z 7)), (8, .int (bi true))] [0, 1, 2, 3, 4, 5, 6, 8] rfl (by decide) ⟨rfl, rfl, rfl, rfl, rfl, rfl, rfl, rfl, trivial⟩ kk
      · refine ⟨false, ⟨fun q => (by cases q), fun q => (q ⟨m1, m2⟩).elim⟩, fun v h' kk => ?_⟩
        refine Rn.steps 2 rfl ?_
        refine Rn.callO rfl rfl rfl hb rfl rfl rfl rfl rfl rfl (q1) ?_
        refine Rn.steps 3 rfl ?_
        refine Rn.callO rfl rfl rfl hb rfl rfl rfl rfl rfl rfl (q2) ?_
        refine Rn.steps 3 rfl ?_
        refine Rn.callO rfl rfl rfl hb rfl rfl rfl rfl rfl rfl (q3) ?_
        refine Rn.steps 3 rfl ?_
        refine Rn.callO rfl rfl rfl hb rfl rfl rfl rfl rfl rfl (q4) ?_
        refine Rn.steps 8 rfl ?_
        refine Rn.irem rfl rfl (hne) ?_
        rw [c1]
        refine Rn.steps 1 rfl ?_
        refine Rn.callO rfl rfl rfl hb rfl rfl rfl rfl rfl rfl (g1) ?_
        refine Rn.steps 5 rfl ?_
        refine Rn.callO rfl rfl rfl hb rfl rfl rfl rfl rfl rfl (g0) ?_
        refine Rn.bf 1 rfl (fun q => m1 (f0.mp q)) ?_
        refine Rn.bt 2 rfl (Int32.not_le.mp (fun q => m2 (f1.mp q))) ?_
        refine Rn.steps 2 rfl ?_
        exact Rn.lx [(0, .ref 3), (1, .int (nI a)), (2, .int (nI 0)), (3, .int (2 * z 0)), (4, .int (mSet z 10)), (5, .int (z 2)), (6, .int (z 7)), (8, .int (bi false))] [0, 1, 2, 3, 4, 5, 6, 8] rfl (by decide) ⟨rfl, rfl, rfl, rfl, rfl, rfl, rfl, rfl, trivial⟩ kk
  by_cases b2 : b = 2
  · subst b2
    obtain ⟨c1, c2, c3⟩ := bes_2 hG ha
    have g1 := k_atN (d + 1) n hS hG _ 0 c3 (by omega)
    have f1 := fin_ge hG (p := 4 * ((a + 2 * P - 1) % (2 * P)) + 0) (by omega)
    rw [← c2] at f1 g1
    by_cases m1 : 4 * a + 2 ∈ pl z 10
    · refine ⟨true, ⟨fun _ g => g.1 m1, fun _ => rfl⟩, fun v h' kk => ?_⟩
      refine Rn.steps 2 rfl ?_
      refine Rn.callO rfl rfl rfl hb rfl rfl rfl rfl rfl rfl (q1) ?_
      refine Rn.steps 3 rfl ?_
      refine Rn.callO rfl rfl rfl hb rfl rfl rfl rfl rfl rfl (q2) ?_
      refine Rn.steps 3 rfl ?_
      refine Rn.callO rfl rfl rfl hb rfl rfl rfl rfl rfl rfl (q3) ?_
      refine Rn.steps 3 rfl ?_
      refine Rn.callO rfl rfl rfl hb rfl rfl rfl rfl rfl rfl (q4) ?_
      refine Rn.steps 13 rfl ?_
      refine Rn.irem rfl rfl (hne) ?_
      rw [c1]
      refine Rn.steps 1 rfl ?_
      refine Rn.callO rfl rfl rfl hb rfl rfl rfl rfl rfl rfl (g1) ?_
      refine Rn.steps 5 rfl ?_
      refine Rn.callO rfl rfl rfl hb rfl rfl rfl rfl rfl rfl (g0) ?_
      refine Rn.bt 1 rfl (f0.mpr m1) ?_
      refine Rn.steps 3 rfl ?_
      exact Rn.lx [(0, .ref 3), (1, .int (nI a)), (2, .int (nI 2)), (3, .int (2 * z 0)), (4, .int (mSet z 10)), (5, .int (z 2)), (6, .int (z 7)), (8, .int (bi true))] [0, 1, 2, 3, 4, 5, 6, 8] rfl (by decide) ⟨rfl, rfl, rfl, rfl, rfl, rfl, rfl, rfl, trivial⟩ kk
    · by_cases m2 : oN P (4 * a + 2) ∈ pl z 10
      · refine ⟨true, ⟨fun _ g => g.2 m2, fun _ => rfl⟩, fun v h' kk => ?_⟩
        refine Rn.steps 2 rfl ?_
        refine Rn.callO rfl rfl rfl hb rfl rfl rfl rfl rfl rfl (q1) ?_
        refine Rn.steps 3 rfl ?_
        refine Rn.callO rfl rfl rfl hb rfl rfl rfl rfl rfl rfl (q2) ?_
        refine Rn.steps 3 rfl ?_
        refine Rn.callO rfl rfl rfl hb rfl rfl rfl rfl rfl rfl (q3) ?_
        refine Rn.steps 3 rfl ?_
        refine Rn.callO rfl rfl rfl hb rfl rfl rfl rfl rfl rfl (q4) ?_
        refine Rn.steps 13 rfl ?_
        refine Rn.irem rfl rfl (hne) ?_
        rw [c1]
        refine Rn.steps 1 rfl ?_
        refine Rn.callO rfl rfl rfl hb rfl rfl rfl rfl rfl rfl (g1) ?_
        refine Rn.steps 5 rfl ?_
        refine Rn.callO rfl rfl rfl hb rfl rfl rfl rfl rfl rfl (g0) ?_
        refine Rn.bf 1 rfl (fun q => m1 (f0.mp q)) ?_
        refine Rn.bf 2 rfl (Int32.not_lt.mpr (f1.mpr m2)) ?_
        refine Rn.steps 3 rfl ?_
        exact Rn.lx [(0, .ref 3), (1, .int (nI a)), (2, .int (nI 2)), (3, .int (2 * z 0)), (4, .int (mSet z 10)), (5, .int (z 2)), (6, .int (z 7)), (8, .int (bi true))] [0, 1, 2, 3, 4, 5, 6, 8] rfl (by decide) ⟨rfl, rfl, rfl, rfl, rfl, rfl, rfl, rfl, trivial⟩ kk
      · refine ⟨false, ⟨fun q => (by cases q), fun q => (q ⟨m1, m2⟩).elim⟩, fun v h' kk => ?_⟩
        refine Rn.steps 2 rfl ?_
        refine Rn.callO rfl rfl rfl hb rfl rfl rfl rfl rfl rfl (q1) ?_
        refine Rn.steps 3 rfl ?_
        refine Rn.callO rfl rfl rfl hb rfl rfl rfl rfl rfl rfl (q2) ?_
        refine Rn.steps 3 rfl ?_
        refine Rn.callO rfl rfl rfl hb rfl rfl rfl rfl rfl rfl (q3) ?_
        refine Rn.steps 3 rfl ?_
        refine Rn.callO rfl rfl rfl hb rfl rfl rfl rfl rfl rfl (q4) ?_
        refine Rn.steps 13 rfl ?_
        refine Rn.irem rfl rfl (hne) ?_
        rw [c1]
        refine Rn.steps 1 rfl ?_
        refine Rn.callO rfl rfl rfl hb rfl rfl rfl rfl rfl rfl (g1) ?_
        refine Rn.steps 5 rfl ?_
        refine Rn.callO rfl rfl rfl hb rfl rfl rfl rfl rfl rfl (g0) ?_
        refine Rn.bf 1 rfl (fun q => m1 (f0.mp q)) ?_
        refine Rn.bt 2 rfl (Int32.not_le.mp (fun q => m2 (f1.mp q))) ?_
        refine Rn.steps 2 rfl ?_
        exact Rn.lx [(0, .ref 3), (1, .int (nI a)), (2, .int (nI 2)), (3, .int (2 * z 0)), (4, .int (mSet z 10)), (5, .int (z 2)), (6, .int (z 7)), (8, .int (bi false))] [0, 1, 2, 3, 4, 5, 6, 8] rfl (by decide) ⟨rfl, rfl, rfl, rfl, rfl, rfl, rfl, rfl, trivial⟩ kk
  have e0 : ¬ nI b = 0 := fun q => b0 ((nI_eq (b := 0) (by omega) (by omega)).mp q)
  have e2 : ¬ nI b = 2 := fun q => b2 ((nI_eq (b := 2) (by omega) (by omega)).mp q)
  have eo : oN P (4 * a + b) = 4 * a + b := by
    unfold oN
    rw [if_neg (by omega), if_neg (by omega)]
  rw [eo]
  by_cases m1 : 4 * a + b ∈ pl z 10
  · refine ⟨true, ⟨fun _ g => g.1 m1, fun _ => rfl⟩, fun v h' kk => ?_⟩
    refine Rn.steps 2 rfl ?_
    refine Rn.callO rfl rfl rfl hb rfl rfl rfl rfl rfl rfl (q1) ?_
    refine Rn.steps 3 rfl ?_
    refine Rn.callO rfl rfl rfl hb rfl rfl rfl rfl rfl rfl (q2) ?_
    refine Rn.steps 3 rfl ?_
    refine Rn.callO rfl rfl rfl hb rfl rfl rfl rfl rfl rfl (q3) ?_
    refine Rn.steps 3 rfl ?_
    refine Rn.callO rfl rfl rfl hb rfl rfl rfl rfl rfl rfl (q4) ?_
    refine Rn.bf 3 rfl (e0) ?_
    refine Rn.bf 3 rfl (e2) ?_
    refine Rn.steps 5 rfl ?_
    refine Rn.callO rfl rfl rfl hb rfl rfl rfl rfl rfl rfl (g0) ?_
    refine Rn.bt 1 rfl (f0.mpr m1) ?_
    refine Rn.steps 3 rfl ?_
    exact Rn.lx [(0, .ref 3), (1, .int (nI a)), (2, .int (nI b)), (3, .int (2 * z 0)), (4, .int (mSet z 10)), (5, .int (z 2)), (6, .int (z 7)), (8, .int (bi true))] [0, 1, 2, 3, 4, 5, 6, 8] rfl (by decide) ⟨rfl, rfl, rfl, rfl, rfl, rfl, rfl, rfl, trivial⟩ kk
  · refine ⟨false, ⟨fun q => (by cases q), fun q => (q ⟨m1, m1⟩).elim⟩, fun v h' kk => ?_⟩
    refine Rn.steps 2 rfl ?_
    refine Rn.callO rfl rfl rfl hb rfl rfl rfl rfl rfl rfl (q1) ?_
    refine Rn.steps 3 rfl ?_
    refine Rn.callO rfl rfl rfl hb rfl rfl rfl rfl rfl rfl (q2) ?_
    refine Rn.steps 3 rfl ?_
    refine Rn.callO rfl rfl rfl hb rfl rfl rfl rfl rfl rfl (q3) ?_
    refine Rn.steps 3 rfl ?_
    refine Rn.callO rfl rfl rfl hb rfl rfl rfl rfl rfl rfl (q4) ?_
    refine Rn.bf 3 rfl (e0) ?_
    refine Rn.bf 3 rfl (e2) ?_
    refine Rn.steps 5 rfl ?_
    refine Rn.callO rfl rfl rfl hb rfl rfl rfl rfl rfl rfl (g0) ?_
    refine Rn.bf 1 rfl (fun q => m1 (f0.mp q)) ?_
    refine Rn.steps 4 rfl ?_
    exact Rn.lx [(0, .ref 3), (1, .int (nI a)), (2, .int (nI b)), (3, .int (2 * z 0)), (4, .int (mSet z 10)), (5, .int (z 2)), (6, .int (z 7)), (8, .int (bi false))] [0, 1, 2, 3, 4, 5, 6, 8] rfl (by decide) ⟨rfl, rfl, rfl, rfl, rfl, rfl, rfl, rfl, trivial⟩ kk
theorem l_puts (hS : ST X c z t u0 u1 h) (hI : GI z P B S) (a b : Nat) (ha : a < 2 * P) (hb4 : b < 4) : ∃ r h', Rn (d + 4) 92 0 [(0, .ref 3), (1, .int (nI a)), (2, .int (nI b))] [] h n (some (.int r)) h' n ∧ AO X c z t u0 u1 B S r h' := by
  have hG := hI.gp
  have h2 := hG.2.1
  have h6 := hG.2.2.1
  obtain ⟨fs, hb⟩ := hS.h3
  have hp8 : 4 * a + b < 8 * P := by omega
  have hpl := isPl_ok hG ha hb4
  obtain ⟨tk, t1, A⟩ := l_putA d n hS hG a b ha hb4
  obtain ⟨x1, x2, x3⟩ := set_sx z
  cases tk with
  | true =>
    obtain ⟨h1, S1, r1⟩ := c_car_fit (d + 0) n hS hG (nI a) (nI b) hpl (4 * a + b) hp8 (n4 a b) (t1.mp rfl)
    refine ⟨0, h1, A _ _ ?_, Or.inl ⟨rfl, S1⟩⟩
    refine Rn.steps 3 rfl ?_
    refine Rn.callO rfl rfl rfl hb rfl rfl rfl rfl rfl rfl (r1) ?_
    refine Rn.steps 11 rfl ?_
    exact Rn.retE rfl rfl rfl rfl rfl
  | false =>
    have hfit : ¬ 4 * a + b ∈ pl z 10 ∧ ¬ oN P (4 * a + b) ∈ pl z 10 := Decidable.not_not.mp (fun q => by have := t1.mpr q; cases this)
    by_cases hall : ∀ j, j < 10 → zt z j = true
    · obtain ⟨h1, S1, r1⟩ := c_car_full (d + 0) n hS hG (nI a) (nI b) hpl (4 * a + b) hp8 (n4 a b) hfit hall
      refine ⟨0, h1, A _ _ ?_, Or.inl ⟨rfl, S1⟩⟩
      refine Rn.steps 3 rfl ?_
      refine Rn.callO rfl rfl rfl hb rfl rfl rfl rfl rfl rfl (r1) ?_
      refine Rn.bt 6 rfl (x1.mpr hall) ?_
      refine Rn.steps 7 rfl ?_
      exact Rn.retE rfl rfl rfl rfl rfl
    · obtain ⟨w1, w2, w3⟩ := not_all hall
      generalize ffree z = e at w1 w2 w3
      obtain ⟨h1, S1, r1⟩ := c_car_ok (d + 0) n hS hG (nI a) (nI b) hpl (4 * a + b) hp8 (n4 a b) hfit e w1 w2 w3
      obtain ⟨f1, b1⟩ := S1.h3
      have hzt := newZ_zt (z := z) e (4 * a + b) (by omega)
      have o0 := k_of_0 (d + 1) n S1 e w1 hzt
      have o1 := k_of_1 (d + 1) n S1 e w1 hzt
      have o2 := k_of_2 (d + 1) n S1 e w1 hzt
      have o3 := k_of_3 (d + 1) n S1 (hI.new w1 w2 hp8 hfit.1 hfit.2).gp.2.2.2.2.1 e w1 hzt
      have o4 := k_of_4 (d + 1) n S1 e w1 hzt
      have o5 := k_of_5 (d + 1) n S1 e w1 hzt
      have o6 := k_of_6 (d + 1) n S1 e w1 hzt
      have o7 := k_count_6 (d + 1) n S1
      obtain ⟨n3, n4', n5⟩ := newZ_345 (z := z) e (nI (4 * a + b))
      rw [newZ_0, show nI (4 * a + b) / 4 = nI ((4 * a + b) / 4) from pk_div (d := 4) (by omega) (by omega) (by omega), show (4 * a + b) / 4 = a by omega] at o0
      rw [newZ_0, show rm (nI (4 * a + b)) 4 = nI ((4 * a + b) % 4) from rm_n (b := 4) (by omega) (by omega) (by omega), show (4 * a + b) % 4 = b by omega] at o1
      rw [newZ_1] at o2
      rw [newZ_2] at o3
      rw [n3] at o4
      rw [n4'] at o5
      rw [n5] at o6
      rw [newZ_7] at o7
      refine ⟨1, h1, A _ _ ?_, Or.inr ⟨rfl, _, P, S1, hI.new w1 w2 hp8 hfit.1 hfit.2⟩⟩
      refine Rn.steps 3 rfl ?_
      refine Rn.callO rfl rfl rfl hb rfl rfl rfl rfl rfl rfl (r1) ?_
      refine Rn.bf 6 rfl (fun q => hall (x1.mp q)) ?_
      refine Rn.steps 2 rfl ?_
      refine Rn.lx [(0, .ref 3), (1, .int (nI a)), (2, .int (nI b)), (4, .int (mSet z 10)), (5, .int (z 2)), (6, .int (z 7)), (9, .int (nI e)), (10, .int (nI 0))] [0, 1, 2, 4, 5, 6, 9, 10] rfl (by decide) ⟨rfl, rfl, rfl, rfl, rfl, rfl, rfl, rfl, trivial⟩ ?_
      refine xloop (fun j => Rn (d + 4) 92 139 [(0, .ref 3), (1, .int (nI a)), (2, .int (nI b)), (4, .int (mSet z 10)), (5, .int (z 2)), (6, .int (z 7)), (9, .int (nI e)), (10, .int (nI j))] [] h1 n (some (.int 1)) h1 n) e ?_ (fun j hj ih => ?_)
      · refine Rn.bf 7 rfl (by rw [x3 e w1, w2]; decide) ?_
        refine Rn.bt 3 rfl (rfl) ?_
        refine Rn.steps 3 rfl ?_
        refine Rn.callO rfl rfl rfl b1 rfl rfl rfl rfl rfl rfl (o0) ?_
        refine Rn.bt 2 rfl (rfl) ?_
        refine Rn.steps 3 rfl ?_
        refine Rn.callO rfl rfl rfl b1 rfl rfl rfl rfl rfl rfl (o1) ?_
        refine Rn.bt 2 rfl (rfl) ?_
        refine Rn.steps 3 rfl ?_
        refine Rn.callO rfl rfl rfl b1 rfl rfl rfl rfl rfl rfl (o2) ?_
        refine Rn.bt 2 rfl (rfl) ?_
        refine Rn.steps 3 rfl ?_
        refine Rn.callO rfl rfl rfl b1 rfl rfl rfl rfl rfl rfl (o3) ?_
        refine Rn.steps 4 rfl ?_
        refine Rn.callO rfl rfl rfl b1 rfl rfl rfl rfl rfl rfl (o4) ?_
        refine Rn.steps 4 rfl ?_
        refine Rn.callO rfl rfl rfl b1 rfl rfl rfl rfl rfl rfl (o5) ?_
        refine Rn.steps 4 rfl ?_
        refine Rn.callO rfl rfl rfl b1 rfl rfl rfl rfl rfl rfl (o6) ?_
        refine Rn.steps 3 rfl ?_
        refine Rn.callO rfl rfl rfl b1 rfl rfl rfl rfl rfl rfl (o7) ?_
        refine Rn.bt 4 rfl (rfl) ?_
        refine Rn.steps 2 rfl ?_
        exact Rn.retE rfl rfl rfl rfl rfl
      · refine Rn.bt 7 rfl (by rw [x3 j (by omega), w3 j hj]; rfl) ?_
        refine Rn.steps 2 rfl ?_
        exact Rn.lx [(0, .ref 3), (1, .int (nI a)), (2, .int (nI b)), (4, .int (mSet z 10)), (5, .int (z 2)), (6, .int (z 7)), (9, .int (nI e)), (10, .int (nI (j + 1)))] [0, 1, 2, 4, 5, 6, 9, 10] rfl (by decide) ⟨rfl, rfl, rfl, rfl, rfl, rfl, rfl, (by rw [← nI_1 j]; rfl), trivial⟩ ih
theorem l_run (hS : ST X c z t u0 u1 h) (hI : GI z P B S) (hSb : S ≤ 9900) (N : Nat) (h1 : 1 ≤ N) (h9 : N ≤ 99) : ∃ r h', Rn (d + 5) 93 0 [(0, .ref 3), (1, .int (nI N))] [] h n (some (.int r)) h' n ∧ AO X c z t u0 u1 B (S + 99) r h' := by
  have hG := hI.gp
  obtain ⟨fs, hb⟩ := hS.h3
  obtain ⟨a1, a2, a3, a4, a5, a6, a7, a8⟩ := ad_la N 0 S z hI (by omega)
  have a8 := a8 h1
  obtain ⟨st, cd, sp, e1, e2, e3, e4, e5⟩ := hI.2.2.1
  have hlim : z 3 + nI N ≤ 9999 := by rw [e1, nI_add]; exact (nI_leI (b := 9999) (by omega) (by omega)).mpr (by omega)
  have hla := la_le z P
  rw [Nat.zero_add] at a1
  obtain ⟨g1, S1, r1⟩ := c_run_ok (d + 0) n hS hG N h1 h9 hlim (by omega)
  obtain ⟨f1, b1⟩ := S1.h3
  have hG1 := a2.gp
  have q1 := k_count_1 (d + 2) n hS
  have q2 := k_count_2 (d + 2) n hS
  have q3 := k_count_3 (d + 2) n hS
  have q8 := k_count_8 (d + 2) n hS
  have ql := k_lasts (d + 0) n hS hG
  have qb := l_bits (d + 4) n (h := h) z
  have p2 := k_count_2 (d + 2) n S1
  have p3 := k_count_3 (d + 2) n S1
  have p8 := k_count_8 (d + 2) n S1
  have p9 := k_count_9 (d + 2) n S1
  have p11 := k_count_11 (d + 2) n S1
  have pl := k_lasts (d + 0) n S1 hG1
  have pw := k_why (d + 1) n S1 hG1.2.2.2.2.1
  have hAO := (show AO X c z t u0 u1 B (S + 99) 1 g1 from Or.inr ⟨rfl, _, P, S1, a2.le (Nat.le_refl _) (by omega)⟩)
  rw [a3] at p2
  rw [a4] at p3
  rw [a5] at p8
  rw [a6] at p11
  rw [a7] at pl
  rw [a8] at p9
  rw [a1] at r1
  refine ⟨1, g1, ?_, hAO⟩
  generalize (adF N 0 z).2 = z1 at *
  by_cases hN : N ≤ la z P
  · rw [Nat.min_eq_right hN] at p2 p3 p8 pl r1
    rw [if_neg (by omega)] at p9
    have c1 : nI N ≤ nI (la z P) := nI_le hN (by omega)
    refine Rn.steps 2 rfl ?_
    refine Rn.callO rfl rfl rfl hb rfl rfl rfl rfl rfl rfl (q1) ?_
    refine Rn.call rfl rfl rfl (qb) ?_
    refine Rn.steps 3 rfl ?_
    refine Rn.callO rfl rfl rfl hb rfl rfl rfl rfl rfl rfl (q2) ?_
    refine Rn.steps 3 rfl ?_
    refine Rn.callO rfl rfl rfl hb rfl rfl rfl rfl rfl rfl (q3) ?_
    refine Rn.steps 3 rfl ?_
    refine Rn.callO rfl rfl rfl hb rfl rfl rfl rfl rfl rfl (q8) ?_
    refine Rn.steps 2 rfl ?_
    refine Rn.callO rfl rfl rfl hb rfl rfl rfl rfl rfl rfl (ql) ?_
    refine Rn.steps 3 rfl ?_
    refine Rn.callO rfl rfl rfl hb rfl rfl rfl rfl rfl rfl (r1) ?_
    refine Rn.bt 4 rfl (c1) ?_
    refine Rn.bt 5 rfl (rfl) ?_
    refine Rn.steps 2 rfl ?_
    refine Rn.callO rfl rfl rfl b1 rfl rfl rfl rfl rfl rfl (p2) ?_
    refine Rn.bt 4 rfl (rfl) ?_
    refine Rn.steps 2 rfl ?_
    refine Rn.callO rfl rfl rfl b1 rfl rfl rfl rfl rfl rfl (p3) ?_
    refine Rn.steps 4 rfl ?_
    refine Rn.callO rfl rfl rfl b1 rfl rfl rfl rfl rfl rfl (p11) ?_
    refine Rn.bt 3 rfl (rfl) ?_
    refine Rn.steps 2 rfl ?_
    refine Rn.callO rfl rfl rfl b1 rfl rfl rfl rfl rfl rfl (p8) ?_
    refine Rn.bt 6 rfl (rfl) ?_
    refine Rn.steps 2 rfl ?_
    refine Rn.callO rfl rfl rfl b1 rfl rfl rfl rfl rfl rfl (p9) ?_
    refine Rn.bt 3 rfl (c1) ?_
    refine Rn.steps 3 rfl ?_
    refine Rn.callO rfl rfl rfl b1 rfl rfl rfl rfl rfl rfl (pl) ?_
    refine Rn.bt 4 rfl ((pk_sub hN).symm) ?_
    refine Rn.steps 2 rfl ?_
    exact Rn.retE rfl rfl rfl rfl rfl
  · have hl : la z P < N := by omega
    rw [Nat.min_eq_left (by omega)] at p2 p3 p8 pl r1
    rw [if_pos hl] at p9
    have c1 : ¬ nI N ≤ nI (la z P) := nI_ge hl (by omega)
    refine Rn.steps 2 rfl ?_
    refine Rn.callO rfl rfl rfl hb rfl rfl rfl rfl rfl rfl (q1) ?_
    refine Rn.call rfl rfl rfl (qb) ?_
    refine Rn.steps 3 rfl ?_
    refine Rn.callO rfl rfl rfl hb rfl rfl rfl rfl rfl rfl (q2) ?_
    refine Rn.steps 3 rfl ?_
    refine Rn.callO rfl rfl rfl hb rfl rfl rfl rfl rfl rfl (q3) ?_
    refine Rn.steps 3 rfl ?_
    refine Rn.callO rfl rfl rfl hb rfl rfl rfl rfl rfl rfl (q8) ?_
    refine Rn.steps 2 rfl ?_
    refine Rn.callO rfl rfl rfl hb rfl rfl rfl rfl rfl rfl (ql) ?_
    refine Rn.steps 3 rfl ?_
    refine Rn.callO rfl rfl rfl hb rfl rfl rfl rfl rfl rfl (r1) ?_
    refine Rn.bf 4 rfl (c1) ?_
    refine Rn.bt 6 rfl (rfl) ?_
    refine Rn.steps 2 rfl ?_
    refine Rn.callO rfl rfl rfl b1 rfl rfl rfl rfl rfl rfl (p2) ?_
    refine Rn.bt 4 rfl (rfl) ?_
    refine Rn.steps 2 rfl ?_
    refine Rn.callO rfl rfl rfl b1 rfl rfl rfl rfl rfl rfl (p3) ?_
    refine Rn.steps 4 rfl ?_
    refine Rn.callO rfl rfl rfl b1 rfl rfl rfl rfl rfl rfl (p11) ?_
    refine Rn.bt 3 rfl (rfl) ?_
    refine Rn.steps 2 rfl ?_
    refine Rn.callO rfl rfl rfl b1 rfl rfl rfl rfl rfl rfl (p8) ?_
    refine Rn.bt 6 rfl (rfl) ?_
    refine Rn.steps 2 rfl ?_
    refine Rn.callO rfl rfl rfl b1 rfl rfl rfl rfl rfl rfl (p9) ?_
    refine Rn.bf 3 rfl (c1) ?_
    refine Rn.steps 1 rfl ?_
    refine Rn.callO rfl rfl rfl b1 rfl rfl rfl rfl rfl rfl (pw) ?_
    refine Rn.bt 2 rfl (rfl) ?_
    refine Rn.steps 1 rfl ?_
    refine Rn.callO rfl rfl rfl b1 rfl rfl rfl rfl rfl rfl (pl) ?_
    refine Rn.bt 4 rfl ((pk_sub (Nat.le_refl _)).symm) ?_
    refine Rn.steps 2 rfl ?_
    exact Rn.retE rfl rfl rfl rfl rfl
theorem of3_01 (hf : Fl z) {k : Nat} (hk : k < 10) : (zt z k = false ∧ ofV z k 3 = -1) ∨ (zt z k = true ∧ ofV z k 3 = z (10 + 7 * k + 2)) := by
  unfold ofV
  cases hz : zt z k with
  | false => exact Or.inl ⟨rfl, rfl⟩
  | true => exact Or.inr ⟨rfl, rfl⟩
theorem tm_of3 (hf : Fl z) {k : Nat} (hk : k < 10) : tm z 2 k = if ofV z k 3 = 1 then 1 else 0 := by
  unfold tm
  rcases of3_01 hf hk with ⟨e1, e2⟩ | ⟨e1, e2⟩
  · rw [e1, e2]; rfl
  · rw [e1, e2]
    rcases hf k hk with g | g
    · rw [g]; rfl
    · rw [g]; rfl
theorem l_endA (hS : ST X c z t u0 u1 h) (hG : GP z P) (k : Nat) (hk : k < 10) (b : Int32) : ∀ v h', Rn (d + 4) 94 54 [(0, .ref 3), (1, .int (nI k)), (2, .int b), (3, .int (ofV z k 3)), (4, .int (z 5)), (5, .int (mSum z 2 10))] [] h n v h' n → Rn (d + 4) 94 0 [(0, .ref 3), (1, .int (nI k)), (2, .int b)] [] h n v h' n := by
  intro v h' kk
  have hf := hG.2.2.2.2.1
  obtain ⟨fs, hb⟩ := hS.h3
  have q3 := k_ofN (d + 1) n hS hf k 3 hk (by omega)
  have q4 := k_count_4 (d + 1) n hS
  refine Rn.steps 3 rfl ?_
  refine Rn.callO rfl rfl rfl hb rfl rfl rfl rfl rfl rfl (q3) ?_
  refine Rn.steps 3 rfl ?_
  refine Rn.callO rfl rfl rfl hb rfl rfl rfl rfl rfl rfl (q4) ?_
  refine Rn.steps 5 rfl ?_
  refine Rn.lx [(0, .ref 3), (1, .int (nI k)), (2, .int b), (3, .int (ofV z k 3)), (4, .int (z 5)), (5, .int (mSum z 2 0)), (6, .int (nI 0))] [0, 1, 2, 3, 4, 5, 6] rfl (by decide) ⟨rfl, rfl, rfl, rfl, rfl, rfl, rfl, trivial⟩ ?_
  refine xloop (fun i => Rn (d + 4) 94 20 [(0, .ref 3), (1, .int (nI k)), (2, .int b), (3, .int (ofV z k 3)), (4, .int (z 5)), (5, .int (mSum z 2 i)), (6, .int (nI i))] [] h n v h' n) 10 ?_ (fun i hi ih => ?_)
  · show Rn (d + 4) 94 20 [(0, .ref 3), (1, .int (nI k)), (2, .int b), (3, .int (ofV z k 3)), (4, .int (z 5)), (5, .int (mSum z 2 10)), (6, .int (nI 10))] [] h n v h' n
    refine Rn.steps 3 rfl ?_
    exact Rn.lx [(0, .ref 3), (1, .int (nI k)), (2, .int b), (3, .int (ofV z k 3)), (4, .int (z 5)), (5, .int (mSum z 2 10))] [0, 1, 2, 3, 4, 5] rfl (by decide) ⟨rfl, rfl, rfl, rfl, rfl, rfl, trivial⟩ kk
  · have qi := k_ofN (d + 1) n hS hf i 3 hi (by omega)
    have ti := tm_of3 hf hi
    by_cases g : ofV z i 3 = 1
    · rw [if_pos g] at ti
      refine Rn.bf 3 rfl (nI_ge (a := i) (b := 10) hi (by omega)) ?_
      refine Rn.steps 4 rfl ?_
      refine Rn.callO rfl rfl rfl hb rfl rfl rfl rfl rfl rfl (qi) ?_
      refine Rn.bt 2 rfl (g) ?_
      refine Rn.steps 6 rfl ?_
      exact Rn.lx [(0, .ref 3), (1, .int (nI k)), (2, .int b), (3, .int (ofV z k 3)), (4, .int (z 5)), (5, .int (mSum z 2 (i + 1))), (6, .int (nI (i + 1)))] [0, 1, 2, 3, 4, 5, 6] rfl (by decide) ⟨rfl, rfl, rfl, rfl, rfl, (by rw [mSum_s, ti]; rfl), (by rw [← nI_1 i]; rfl), trivial⟩ ih
    · rw [if_neg g] at ti
      refine Rn.bf 3 rfl (nI_ge (a := i) (b := 10) hi (by omega)) ?_
      refine Rn.steps 4 rfl ?_
      refine Rn.callO rfl rfl rfl hb rfl rfl rfl rfl rfl rfl (qi) ?_
      refine Rn.bf 2 rfl (g) ?_
      refine Rn.steps 5 rfl ?_
      exact Rn.lx [(0, .ref 3), (1, .int (nI k)), (2, .int b), (3, .int (ofV z k 3)), (4, .int (z 5)), (5, .int (mSum z 2 (i + 1))), (6, .int (nI (i + 1)))] [0, 1, 2, 3, 4, 5, 6] rfl (by decide) ⟨rfl, rfl, rfl, rfl, rfl, (by rw [mSum_s, ti]; rfl), (by rw [← nI_1 i]; rfl), trivial⟩ ih
theorem l_end1 (hS : ST X c z t u0 u1 h) (hI : GI z P B S) (hB : B ≤ 1000000) (k : Nat) (hk : k < 10) : ∃ r h', Rn (d + 4) 94 0 [(0, .ref 3), (1, .int (nI k)), (2, .int 1)] [] h n (some (.int r)) h' n ∧ AO X c z t u0 u1 (B + 1) S r h' := by
  have hG := hI.gp
  have hf := hG.2.2.2.2.1
  obtain ⟨fs, hb⟩ := hS.h3
  have A := l_endA d n hS hG k hk 1
  rcases of3_01 hf hk with ⟨e1, e2⟩ | ⟨e1, e2⟩
  · obtain ⟨h1, S1, r1⟩ := c_tie_bad (d + 0) n hS hf (nI k) (isC_no hk e1)
    refine ⟨0, h1, A _ _ ?_, Or.inl ⟨rfl, S1⟩⟩
    rw [e2]
    refine Rn.steps 4 rfl ?_
    refine Rn.callO rfl rfl rfl hb rfl rfl rfl rfl rfl rfl (r1) ?_
    refine Rn.steps 9 rfl ?_
    exact Rn.retE rfl rfl rfl rfl rfl
  · rcases hf k hk with g | g
    · obtain ⟨h1, S1, r1⟩ := c_tie_not (d + 0) n hS hf k hk e1 g
      refine ⟨0, h1, A _ _ ?_, Or.inl ⟨rfl, S1⟩⟩
      rw [e2, g]
      refine Rn.steps 4 rfl ?_
      refine Rn.callO rfl rfl rfl hb rfl rfl rfl rfl rfl rfl (r1) ?_
      refine Rn.steps 15 rfl ?_
      exact Rn.retE rfl rfl rfl rfl rfl
    · obtain ⟨kn, kn1, kn2⟩ := hI.1.2.2
      obtain ⟨h1, S1, r1⟩ := c_tie_ok (d + 0) n hS hf k hk e1 (by rw [g]; decide) kn (by omega) kn2
      have hI1 := hI.tie hk
      obtain ⟨f1, b1⟩ := S1.h3
      have hz1 : zt (tieZ z k) k = true := by unfold zt at e1 ⊢; rw [tieZ_o k (by omega) (by omega)]; exact e1
      have o3 := k_of_3 (d + 1) n S1 hI1.gp.2.2.2.2.1 k hk hz1
      have o4 := k_count_4 (d + 1) n S1
      rw [show tieZ z k (10 + 7 * k + 2) = 0 by unfold tieZ; rw [upd_ne (by omega), upd_eq]] at o3
      rw [tieZ_5] at o4
      refine ⟨1, h1, A _ _ ?_, Or.inr ⟨rfl, _, P, S1, hI1⟩⟩
      rw [e2, g]
      refine Rn.steps 4 rfl ?_
      refine Rn.callO rfl rfl rfl hb rfl rfl rfl rfl rfl rfl (r1) ?_
      refine Rn.bt 18 rfl (rfl) ?_
      refine Rn.steps 3 rfl ?_
      refine Rn.callO rfl rfl rfl b1 rfl rfl rfl rfl rfl rfl (o3) ?_
      refine Rn.steps 6 rfl ?_
      refine Rn.callO rfl rfl rfl b1 rfl rfl rfl rfl rfl rfl (o4) ?_
      refine Rn.bt 7 rfl (rfl) ?_
      refine Rn.steps 2 rfl ?_
      exact Rn.retE rfl rfl rfl rfl rfl
theorem l_end0 (hS : ST X c z t u0 u1 h) (hI : GI z P B S) (hB : B ≤ 1000000) (k : Nat) (hk : k < 10) : ∃ r h', Rn (d + 4) 94 0 [(0, .ref 3), (1, .int (nI k)), (2, .int 0)] [] h n (some (.int r)) h' n ∧ AO X c z t u0 u1 (B + 1) S r h' := by
  have hG := hI.gp
  have hf := hG.2.2.2.2.1
  obtain ⟨fs, hb⟩ := hS.h3
  have A := l_endA d n hS hG k hk 0
  rcases of3_01 hf hk with ⟨e1, e2⟩ | ⟨e1, e2⟩
  · obtain ⟨h1, S1, r1⟩ := c_snap_bad (d + 0) n hS hf (nI k) (isC_no hk e1)
    refine ⟨0, h1, A _ _ ?_, Or.inl ⟨rfl, S1⟩⟩
    rw [e2]
    refine Rn.steps 4 rfl ?_
    refine Rn.callO rfl rfl rfl hb rfl rfl rfl rfl rfl rfl (r1) ?_
    refine Rn.steps 8 rfl ?_
    exact Rn.retE rfl rfl rfl rfl rfl
  · rcases hf k hk with g | g
    · obtain ⟨h1, S1, r1⟩ := c_snap_ok (d + 0) n hS hG k hk e1 g
      have hI1 := hI.brk (c := k) hk
      obtain ⟨f1, b1⟩ := S1.h3
      have hz1 : zt (upd z (10 + 7 * k + 2) 1) k = true := (zt_ne (by omega)).trans e1
      have o3 := k_of_3 (d + 1) n S1 hI1.gp.2.2.2.2.1 k hk hz1
      have o4 := k_count_4 (d + 1) n S1
      rw [upd_eq] at o3
      rw [upd_ne (by omega)] at o4
      refine ⟨1, h1, A _ _ ?_, Or.inr ⟨rfl, _, P, S1, hI1.le (by omega) (Nat.le_refl _)⟩⟩
      rw [e2, g]
      refine Rn.steps 4 rfl ?_
      refine Rn.callO rfl rfl rfl hb rfl rfl rfl rfl rfl rfl (r1) ?_
      refine Rn.bt 15 rfl (rfl) ?_
      refine Rn.steps 3 rfl ?_
      refine Rn.callO rfl rfl rfl b1 rfl rfl rfl rfl rfl rfl (o3) ?_
      refine Rn.steps 6 rfl ?_
      refine Rn.callO rfl rfl rfl b1 rfl rfl rfl rfl rfl rfl (o4) ?_
      refine Rn.bt 6 rfl ((Int32.add_zero _).symm) ?_
      refine Rn.steps 2 rfl ?_
      exact Rn.retE rfl rfl rfl rfl rfl
    · obtain ⟨h1, S1, r1⟩ := c_snap_not (d + 0) n hS hf k hk e1 (by rw [g]; decide)
      refine ⟨0, h1, A _ _ ?_, Or.inl ⟨rfl, S1⟩⟩
      rw [e2, g]
      refine Rn.steps 4 rfl ?_
      refine Rn.callO rfl rfl rfl hb rfl rfl rfl rfl rfl rfl (r1) ?_
      refine Rn.steps 13 rfl ?_
      exact Rn.retE rfl rfl rfl rfl rfl
end LAW3
