/-! the law's act() -/
theorem AO.le {X : xLC} {c : Nat} {z t : Nat → Int32} {u0 u1 : Option (Nat → Int32)} {B S B' S' : Nat} {r : Int32} {h' : xHp} (h : AO X c z t u0 u1 B S r h') (hB : B ≤ B') (hS : S ≤ S') : AO X c z t u0 u1 B' S' r h' := by
  rcases h with g | ⟨e, z', P', g1, g2⟩
  · exact Or.inl g
  · exact Or.inr ⟨e, z', P', g1, g2.le hB hS⟩
theorem tpm_0 {z : Nat → Int32} : ∀ c, tpm z c = 0 → ∀ j, j < c → zt z j = false := by
  intro c
  induction c with
  | zero => intro _ j hj; omega
  | succ c ih =>
    intro h j hj
    rw [tpm_s] at h
    cases hz : zt z c with
    | true => rw [hz] at h; have h : tpm z c + 1 = 0 := h; omega
    | false =>
      rw [hz] at h
      by_cases e : j = c
      · subst e; exact hz
      · exact ih h j (by omega)
theorem set_none {z : Nat → Int32} (h : mSet z 10 = 0) : ∀ j, j < 10 → zt z j = false := by
  have h1 := (set_many z).2.mp h
  rw [many_n] at h1
  refine tpm_0 10 ?_
  rcases Nat.eq_zero_or_pos (tpm z 10) with q | q
  · exact q
  · have := tpm_le z 10
    exact (h1 (nI_lt (a := 0) q (by omega))).elim
theorem mSet_cg {z z' : Nat → Int32} : ∀ n, (∀ e, e < n → zt z' e = zt z e) → mSet z' n = mSet z n := by
  intro n
  induction n with
  | zero => intro _; rfl
  | succ n ih => intro h; unfold mSet; rw [ih (fun e he => h e (by omega)), h n (by omega)]
section LAW4
variable {X : xLC} {c : Nat} {z t : Nat → Int32} {u0 u1 : Option (Nat → Int32)} {h : xHp} {P B S : Nat}
variable (d n : Nat)
theorem l_act0 (hS : ST X c z t u0 u1 h) (hI : GI z P B S) (x m y : Nat) (hy : y < 2 ^ 31) (hm : m < 5) : ∃ r h', Rn (d + 6) 95 16 [(0, .ref 3), (1, .int (nI x)), (2, .int (nI m)), (3, .int (nI y)), (4, .int (nI (y % 10)))] [] h n (some (.int r)) h' n ∧ AO X c z t u0 u1 (B + 1) (S + 99) r h' := by
  have hG := hI.gp
  have h2 := hG.2.1
  have h6 := hG.2.2.1
  obtain ⟨fs, hb⟩ := hS.h3
  have hne := x2ne hG.1 h2 h6
  have q0 := k_count_0 (d + 3) n hS
  have e1 : rm (nI y) (2 * z 0) = nI (y % (2 * P)) := by rw [hG.hn]; exact rm_n hy (by omega) (by omega)
  have e2 : nI y / 12 = nI (y / 12) := pk_div (d := 12) hy (by omega) (by omega)
  have e3 : rm (nI (y / 12)) 4 = nI (y / 12 % 4) := rm_n (b := 4) (by omega) (by omega) (by omega)
  obtain ⟨r, h', r1, r2⟩ := l_puts (d + 1) n hS hI (y % (2 * P)) (y / 12 % 4) (Nat.mod_lt _ (by omega)) (Nat.mod_lt _ (by omega))
  refine ⟨r, h', ?_, r2.le (by omega) (by omega)⟩
  refine Rn.bf 3 rfl (fun q => by have := (nI_leI (a := 5) (by omega) (by omega)).mp q; omega) ?_
  refine Rn.steps 4 rfl ?_
  refine Rn.callO rfl rfl rfl hb rfl rfl rfl rfl rfl rfl (q0) ?_
  refine Rn.irem rfl rfl (hne) ?_
  rw [e1]
  refine Rn.steps 2 rfl ?_
  refine Rn.idiv rfl rfl (by decide) ?_
  rw [e2]
  refine Rn.steps 1 rfl ?_
  refine Rn.irem rfl rfl (by decide) ?_
  rw [e3]
  refine Rn.call rfl rfl rfl (r1) ?_
  exact Rn.retE rfl rfl rfl rfl rfl
theorem l_act1 (hS : ST X c z t u0 u1 h) (hI : GI z P B S) (x m y : Nat) (hy : y < 2 ^ 31) (hSb : S ≤ 9900) (hm : 5 ≤ m) (hm2 : m < 9) : ∃ r h', Rn (d + 6) 95 16 [(0, .ref 3), (1, .int (nI x)), (2, .int (nI m)), (3, .int (nI y)), (4, .int (nI (y % 10)))] [] h n (some (.int r)) h' n ∧ AO X c z t u0 u1 (B + 1) (S + 99) r h' := by
  have e0 : nI y / 4 = nI (y / 4) := pk_div (d := 4) hy (by omega) (by omega)
  by_cases g : rm (nI y) 4 = 0
  · have e1 : rm (nI (y / 4)) 99 = nI (y / 4 % 99) := rm_n (b := 99) (by omega) (by omega) (by omega)
    have e2 : (1 : Int32) + nI (y / 4 % 99) = nI (1 + y / 4 % 99) := nI_add 1 _
    obtain ⟨r, h', r1, r2⟩ := l_run (d + 0) n hS hI hSb (1 + y / 4 % 99) (by omega) (by omega)
    refine ⟨r, h', ?_, r2.le (by omega) (by omega)⟩
    refine Rn.bt 3 rfl ((nI_leI (a := 5) (by omega) (by omega)).mpr (by omega)) ?_
    refine Rn.bf 3 rfl (fun q => by have := (nI_leI (a := 9) (by omega) (by omega)).mp q; omega) ?_
    refine Rn.steps 3 rfl ?_
    refine Rn.irem rfl rfl (by decide) ?_
    refine Rn.bt 1 rfl (g) ?_
    refine Rn.steps 3 rfl ?_
    refine Rn.idiv rfl rfl (by decide) ?_
    rw [e0]
    refine Rn.steps 1 rfl ?_
    refine Rn.irem rfl rfl (by decide) ?_
    rw [e1]
    refine Rn.steps 1 rfl ?_
    rw [e2]
    refine Rn.steps 1 rfl ?_
    refine Rn.call rfl rfl rfl (r1) ?_
    exact Rn.retE rfl rfl rfl rfl rfl
  · have e1 : rm (nI (y / 4)) 9 = nI (y / 4 % 9) := rm_n (b := 9) (by omega) (by omega) (by omega)
    have e2 : (1 : Int32) + nI (y / 4 % 9) = nI (1 + y / 4 % 9) := nI_add 1 _
    obtain ⟨r, h', r1, r2⟩ := l_run (d + 0) n hS hI hSb (1 + y / 4 % 9) (by omega) (by omega)
    refine ⟨r, h', ?_, r2.le (by omega) (by omega)⟩
    refine Rn.bt 3 rfl ((nI_leI (a := 5) (by omega) (by omega)).mpr (by omega)) ?_
    refine Rn.bf 3 rfl (fun q => by have := (nI_leI (a := 9) (by omega) (by omega)).mp q; omega) ?_
    refine Rn.steps 3 rfl ?_
    refine Rn.irem rfl rfl (by decide) ?_
    refine Rn.bf 1 rfl (g) ?_
    refine Rn.steps 3 rfl ?_
    refine Rn.idiv rfl rfl (by decide) ?_
    rw [e0]
    refine Rn.steps 1 rfl ?_
    refine Rn.irem rfl rfl (by decide) ?_
    rw [e1]
    refine Rn.steps 1 rfl ?_
    rw [e2]
    refine Rn.call rfl rfl rfl (r1) ?_
    exact Rn.retE rfl rfl rfl rfl rfl
theorem l_act2 (hS : ST X c z t u0 u1 h) (hI : GI z P B S) (x m y : Nat) (hy : y < 2 ^ 31) (hB : B ≤ 1000000) (hm : 9 ≤ m) (hm2 : m < 11) : ∃ r h', Rn (d + 6) 95 16 [(0, .ref 3), (1, .int (nI x)), (2, .int (nI m)), (3, .int (nI y)), (4, .int (nI (y % 10)))] [] h n (some (.int r)) h' n ∧ AO X c z t u0 u1 (B + 1) (S + 99) r h' := by
  have hk : y % 10 < 10 := Nat.mod_lt _ (by omega)
  have e0 : nI y / 10 = nI (y / 10) := pk_div (d := 10) hy (by omega) (by omega)
  obtain ⟨r, h', r1, r2⟩ := l_end1 (d + 1) n hS hI hB (y % 10) hk
  obtain ⟨w, g', w1, w2⟩ := l_end0 (d + 1) n hS hI hB (y % 10) hk
  by_cases g : m = 10
  · refine ⟨r, h', ?_, r2.le (by omega) (by omega)⟩
    refine Rn.bt 3 rfl ((nI_leI (a := 5) (by omega) (by omega)).mpr (by omega)) ?_
    refine Rn.bt 3 rfl ((nI_leI (a := 9) (by omega) (by omega)).mpr (by omega)) ?_
    refine Rn.bf 3 rfl (fun q => by have := (nI_leI (a := 11) (by omega) (by omega)).mp q; omega) ?_
    refine Rn.bt 5 rfl (by rw [g]; rfl) ?_
    refine Rn.steps 2 rfl ?_
    refine Rn.call rfl rfl rfl (r1) ?_
    exact Rn.retE rfl rfl rfl rfl rfl
  · have g1 : ¬ nI m = 10 := fun q => g ((nI_eq (b := 10) (by omega) (by omega)).mp q)
    by_cases g2 : rm (nI (y / 10)) 3 = 0
    · refine ⟨r, h', ?_, r2.le (by omega) (by omega)⟩
      refine Rn.bt 3 rfl ((nI_leI (a := 5) (by omega) (by omega)).mpr (by omega)) ?_
      refine Rn.bt 3 rfl ((nI_leI (a := 9) (by omega) (by omega)).mpr (by omega)) ?_
      refine Rn.bf 3 rfl (fun q => by have := (nI_leI (a := 11) (by omega) (by omega)).mp q; omega) ?_
      refine Rn.bf 5 rfl (g1) ?_
      refine Rn.steps 2 rfl ?_
      refine Rn.idiv rfl rfl (by decide) ?_
      rw [e0]
      refine Rn.steps 1 rfl ?_
      refine Rn.irem rfl rfl (by decide) ?_
      refine Rn.bt 1 rfl (g2) ?_
      refine Rn.steps 2 rfl ?_
      refine Rn.call rfl rfl rfl (r1) ?_
      exact Rn.retE rfl rfl rfl rfl rfl
    · refine ⟨w, g', ?_, w2.le (by omega) (by omega)⟩
      refine Rn.bt 3 rfl ((nI_leI (a := 5) (by omega) (by omega)).mpr (by omega)) ?_
      refine Rn.bt 3 rfl ((nI_leI (a := 9) (by omega) (by omega)).mpr (by omega)) ?_
      refine Rn.bf 3 rfl (fun q => by have := (nI_leI (a := 11) (by omega) (by omega)).mp q; omega) ?_
      refine Rn.bf 5 rfl (g1) ?_
      refine Rn.steps 2 rfl ?_
      refine Rn.idiv rfl rfl (by decide) ?_
      rw [e0]
      refine Rn.steps 1 rfl ?_
      refine Rn.irem rfl rfl (by decide) ?_
      refine Rn.bf 1 rfl (g2) ?_
      refine Rn.steps 1 rfl ?_
      refine Rn.call rfl rfl rfl (w1) ?_
      exact Rn.retE rfl rfl rfl rfl rfl
theorem l_act3 (hS : ST X c z t u0 u1 h) (hI : GI z P B S) (x m y : Nat) (hy : y < 2 ^ 31) (hm : 11 ≤ m) (hm2 : m < 14) : ∃ r h', Rn (d + 6) 95 16 [(0, .ref 3), (1, .int (nI x)), (2, .int (nI m)), (3, .int (nI y)), (4, .int (nI (y % 10)))] [] h n (some (.int r)) h' n ∧ AO X c z t u0 u1 (B + 1) (S + 99) r h' := by
  have hG := hI.gp
  have hf := hG.2.2.2.2.1
  obtain ⟨fs, hb⟩ := hS.h3
  have hk : y % 10 < 10 := Nat.mod_lt _ (by omega)
  have q2 := k_ofN (d + 3) n hS hf (y % 10) 2 hk (by omega)
  have q5 := k_count_5 (d + 3) n hS
  have q6 := k_count_6 (d + 3) n hS
  generalize y % 10 = k at hk q2 ⊢
  by_cases g : m = 11
  · have g1 : nI m = 11 := by rw [g]; rfl
    cases hz : zt z k with
    | false =>
      have e : ofV z k 2 = -1 := by unfold ofV; rw [hz]; rfl
      rw [e] at q2
      obtain ⟨h1, S1, r1⟩ := c_to_bad (d + 2) n hS hf (nI k) (isC_no hk hz)
      refine ⟨0, h1, ?_, Or.inl ⟨rfl, S1⟩⟩
      refine Rn.bt 3 rfl ((nI_leI (a := 5) (by omega) (by omega)).mpr (by omega)) ?_
      refine Rn.bt 3 rfl ((nI_leI (a := 9) (by omega) (by omega)).mpr (by omega)) ?_
      refine Rn.bt 3 rfl ((nI_leI (a := 11) (by omega) (by omega)).mpr (by omega)) ?_
      refine Rn.bf 3 rfl (fun q => by have := (nI_leI (a := 14) (by omega) (by omega)).mp q; omega) ?_
      refine Rn.steps 3 rfl ?_
      refine Rn.callO rfl rfl rfl hb rfl rfl rfl rfl rfl rfl (q2) ?_
      refine Rn.steps 3 rfl ?_
      refine Rn.callO rfl rfl rfl hb rfl rfl rfl rfl rfl rfl (q5) ?_
      refine Rn.steps 3 rfl ?_
      refine Rn.callO rfl rfl rfl hb rfl rfl rfl rfl rfl rfl (q6) ?_
      refine Rn.bt 4 rfl (g1) ?_
      refine Rn.steps 2 rfl ?_
      refine Rn.callO rfl rfl rfl hb rfl rfl rfl rfl rfl rfl (r1) ?_
      refine Rn.steps 9 rfl ?_
      exact Rn.retE rfl rfl rfl rfl rfl
    | true =>
      have e : ofV z k 2 = z (10 + 7 * k + 1) := by unfold ofV; rw [hz]; rfl
      rw [e] at q2
      obtain ⟨v, v1, v2⟩ := hG.2.2.2.2.2.2.1 k hk
      have ge0 : 0 ≤ z (10 + 7 * k + 1) := by rw [v2]; exact nI_pos' (by omega)
      obtain ⟨h1, S1, r1⟩ := c_to_ok (d + 2) n hS hG k hk hz
      obtain ⟨f1, b1⟩ := S1.h3
      have hI1 := hI.to hk hz
      have p5 := k_count_5 (d + 3) n S1
      have p6 := k_count_6 (d + 3) n S1
      have p12 := k_count_12 (d + 3) n S1
      have p2 := k_ofN (d + 3) n S1 hI1.gp.2.2.2.2.1 k 2 hk (by omega)
      rw [show ofV (toZ z k) k 2 = -1 by unfold ofV; rw [toZ_zt]; rfl] at p2
      rw [toZ_6] at p5
      rw [toZ_o k (by omega) (by omega)] at p6
      refine ⟨1, h1, ?_, Or.inr ⟨rfl, _, P, S1, hI1.le (by omega) (by omega)⟩⟩
      refine Rn.bt 3 rfl ((nI_leI (a := 5) (by omega) (by omega)).mpr (by omega)) ?_
      refine Rn.bt 3 rfl ((nI_leI (a := 9) (by omega) (by omega)).mpr (by omega)) ?_
      refine Rn.bt 3 rfl ((nI_leI (a := 11) (by omega) (by omega)).mpr (by omega)) ?_
      refine Rn.bf 3 rfl (fun q => by have := (nI_leI (a := 14) (by omega) (by omega)).mp q; omega) ?_
      refine Rn.steps 3 rfl ?_
      refine Rn.callO rfl rfl rfl hb rfl rfl rfl rfl rfl rfl (q2) ?_
      refine Rn.steps 3 rfl ?_
      refine Rn.callO rfl rfl rfl hb rfl rfl rfl rfl rfl rfl (q5) ?_
      refine Rn.steps 3 rfl ?_
      refine Rn.callO rfl rfl rfl hb rfl rfl rfl rfl rfl rfl (q6) ?_
      refine Rn.bt 4 rfl (g1) ?_
      refine Rn.steps 2 rfl ?_
      refine Rn.callO rfl rfl rfl hb rfl rfl rfl rfl rfl rfl (r1) ?_
      refine Rn.bt 4 rfl (ge0) ?_
      refine Rn.bt 3 rfl (rfl) ?_
      refine Rn.steps 2 rfl ?_
      refine Rn.callO rfl rfl rfl b1 rfl rfl rfl rfl rfl rfl (p5) ?_
      refine Rn.bt 4 rfl (rfl) ?_
      refine Rn.steps 2 rfl ?_
      refine Rn.callO rfl rfl rfl b1 rfl rfl rfl rfl rfl rfl (p6) ?_
      refine Rn.bt 4 rfl (g1) ?_
      refine Rn.bt 4 rfl ((Int32.add_zero _).symm) ?_
      refine Rn.steps 3 rfl ?_
      refine Rn.callO rfl rfl rfl b1 rfl rfl rfl rfl rfl rfl (p2) ?_
      refine Rn.bt 3 rfl (g1) ?_
      refine Rn.steps 5 rfl ?_
      exact Rn.retE rfl rfl rfl rfl rfl
  · have g1 : ¬ nI m = 11 := fun q => g ((nI_eq (b := 11) (by omega) (by omega)).mp q)
    cases hz : zt z k with
    | false =>
      have e : ofV z k 2 = -1 := by unfold ofV; rw [hz]; rfl
      rw [e] at q2
      obtain ⟨h1, S1, r1⟩ := c_ref_bad (d + 2) n hS hf (nI k) (isC_no hk hz)
      refine ⟨0, h1, ?_, Or.inl ⟨rfl, S1⟩⟩
      refine Rn.bt 3 rfl ((nI_leI (a := 5) (by omega) (by omega)).mpr (by omega)) ?_
      refine Rn.bt 3 rfl ((nI_leI (a := 9) (by omega) (by omega)).mpr (by omega)) ?_
      refine Rn.bt 3 rfl ((nI_leI (a := 11) (by omega) (by omega)).mpr (by omega)) ?_
      refine Rn.bf 3 rfl (fun q => by have := (nI_leI (a := 14) (by omega) (by omega)).mp q; omega) ?_
      refine Rn.steps 3 rfl ?_
      refine Rn.callO rfl rfl rfl hb rfl rfl rfl rfl rfl rfl (q2) ?_
      refine Rn.steps 3 rfl ?_
      refine Rn.callO rfl rfl rfl hb rfl rfl rfl rfl rfl rfl (q5) ?_
      refine Rn.steps 3 rfl ?_
      refine Rn.callO rfl rfl rfl hb rfl rfl rfl rfl rfl rfl (q6) ?_
      refine Rn.bf 4 rfl (g1) ?_
      refine Rn.steps 2 rfl ?_
      refine Rn.callO rfl rfl rfl hb rfl rfl rfl rfl rfl rfl (r1) ?_
      refine Rn.steps 8 rfl ?_
      exact Rn.retE rfl rfl rfl rfl rfl
    | true =>
      have e : ofV z k 2 = z (10 + 7 * k + 1) := by unfold ofV; rw [hz]; rfl
      rw [e] at q2
      obtain ⟨v, v1, v2⟩ := hG.2.2.2.2.2.2.1 k hk
      have ge0 : 0 ≤ z (10 + 7 * k + 1) := by rw [v2]; exact nI_pos' (by omega)
      obtain ⟨h1, S1, r1⟩ := c_ref_ok (d + 2) n hS hG k hk hz
      obtain ⟨f1, b1⟩ := S1.h3
      have hI1 := hI.ref hk hz
      have p5 := k_count_5 (d + 3) n S1
      have p6 := k_count_6 (d + 3) n S1
      have p12 := k_count_12 (d + 3) n S1
      have p2 := k_ofN (d + 3) n S1 hI1.gp.2.2.2.2.1 k 2 hk (by omega)
      rw [show ofV (refZ z k) k 2 = z 2 by unfold ofV; rw [refZ_zt, hz]; exact refZ_1 k] at p2
      rw [refZ_6] at p5
      rw [refZ_7] at p6
      rw [refZ_o k (by omega) (by omega) (by omega)] at p12
      refine ⟨1, h1, ?_, Or.inr ⟨rfl, _, P, S1, hI1.le (by omega) (by omega)⟩⟩
      refine Rn.bt 3 rfl ((nI_leI (a := 5) (by omega) (by omega)).mpr (by omega)) ?_
      refine Rn.bt 3 rfl ((nI_leI (a := 9) (by omega) (by omega)).mpr (by omega)) ?_
      refine Rn.bt 3 rfl ((nI_leI (a := 11) (by omega) (by omega)).mpr (by omega)) ?_
      refine Rn.bf 3 rfl (fun q => by have := (nI_leI (a := 14) (by omega) (by omega)).mp q; omega) ?_
      refine Rn.steps 3 rfl ?_
      refine Rn.callO rfl rfl rfl hb rfl rfl rfl rfl rfl rfl (q2) ?_
      refine Rn.steps 3 rfl ?_
      refine Rn.callO rfl rfl rfl hb rfl rfl rfl rfl rfl rfl (q5) ?_
      refine Rn.steps 3 rfl ?_
      refine Rn.callO rfl rfl rfl hb rfl rfl rfl rfl rfl rfl (q6) ?_
      refine Rn.bf 4 rfl (g1) ?_
      refine Rn.steps 2 rfl ?_
      refine Rn.callO rfl rfl rfl hb rfl rfl rfl rfl rfl rfl (r1) ?_
      refine Rn.bt 3 rfl (ge0) ?_
      refine Rn.bt 3 rfl (rfl) ?_
      refine Rn.steps 2 rfl ?_
      refine Rn.callO rfl rfl rfl b1 rfl rfl rfl rfl rfl rfl (p5) ?_
      refine Rn.bt 4 rfl (rfl) ?_
      refine Rn.steps 2 rfl ?_
      refine Rn.callO rfl rfl rfl b1 rfl rfl rfl rfl rfl rfl (p6) ?_
      refine Rn.bf 4 rfl (g1) ?_
      refine Rn.steps 2 rfl ?_
      refine Rn.callO rfl rfl rfl b1 rfl rfl rfl rfl rfl rfl (p12) ?_
      refine Rn.bt 2 rfl (rfl) ?_
      refine Rn.steps 3 rfl ?_
      refine Rn.callO rfl rfl rfl b1 rfl rfl rfl rfl rfl rfl (p2) ?_
      refine Rn.bf 3 rfl (g1) ?_
      refine Rn.steps 2 rfl ?_
      refine Rn.callO rfl rfl rfl b1 rfl rfl rfl rfl rfl rfl (p12) ?_
      refine Rn.bt 1 rfl (rfl) ?_
      refine Rn.steps 2 rfl ?_
      exact Rn.retE rfl rfl rfl rfl rfl
theorem l_act4 (hS : ST X c z t u0 u1 h) (hI : GI z P B S) (x m y : Nat) (hy : y < 2 ^ 31) (hm : 14 ≤ m) (hm2 : m < 16) : ∃ r h', Rn (d + 6) 95 16 [(0, .ref 3), (1, .int (nI x)), (2, .int (nI m)), (3, .int (nI y)), (4, .int (nI (y % 10)))] [] h n (some (.int r)) h' n ∧ AO X c z t u0 u1 (B + 1) (S + 99) r h' := by
  have hG := hI.gp
  have hf := hG.2.2.2.2.1
  have h2 := hG.2.1
  have h6 := hG.2.2.1
  obtain ⟨fs, hb⟩ := hS.h3
  have e0 : rm (nI y) 3 = nI (y % 3) := rm_n (b := 3) hy (by omega) (by omega)
  have e1 : nI y / 3 = nI (y / 3) := pk_div (d := 3) hy (by omega) (by omega)
  rcases (by omega : y % 3 = 0 ∨ y % 3 = 1 ∨ y % 3 = 2) with w | w | w
  · rw [w] at e0
    have e2 : rm (nI (y / 3)) 5 = nI (y / 3 % 5) := rm_n (b := 5) (by omega) (by omega) (by omega)
    have e3 : (2 : Int32) + nI (y / 3 % 5) = nI (2 + y / 3 % 5) := nI_add 2 _
    have hv : 2 ≤ 2 + y / 3 % 5 ∧ 2 + y / 3 % 5 ≤ 6 := by omega
    generalize 2 + y / 3 % 5 = vv at e3 hv
    have hV : isV 0 (nI vv) = true := by
      unfold isV
      rw [if_pos rfl]
      exact decide_eq_true ⟨(nI_leI (a := 2) (by omega) (by omega)).mpr (by omega), (nI_leI (b := 6) (by omega) (by omega)).mpr (by omega)⟩
    have q := k_count_10 (d + 3) n hS
    by_cases g : mSet z 10 = 0
    · obtain ⟨h1, S1, r1⟩ := c_set_0 (d + 2) n hS hG (nI vv) hV g
      obtain ⟨f1, b1⟩ := S1.h3
      have p1 := k_count_1 (d + 3) n S1
      have p10 := k_count_10 (d + 3) n S1
      rw [upd_eq] at p10
      rw [mSet_cg 10 (fun e he => zt_ne (by omega)), g] at p1
      refine ⟨1, h1, ?_, Or.inr ⟨rfl, _, vv, S1, (hI.set0 (set_none g) hv.1 hv.2).le (by omega) (by omega)⟩⟩
      refine Rn.bt 3 rfl ((nI_leI (a := 5) (by omega) (by omega)).mpr (by omega)) ?_
      refine Rn.bt 3 rfl ((nI_leI (a := 9) (by omega) (by omega)).mpr (by omega)) ?_
      refine Rn.bt 3 rfl ((nI_leI (a := 11) (by omega) (by omega)).mpr (by omega)) ?_
      refine Rn.bt 3 rfl ((nI_leI (a := 14) (by omega) (by omega)).mpr (by omega)) ?_
      refine Rn.steps 2 rfl ?_
      refine Rn.irem rfl rfl (by decide) ?_
      rw [e0]
      refine Rn.steps 5 rfl ?_
      rw [show (10 : Int32) + nI 0 = 10 from rfl]
      refine Rn.callO rfl rfl rfl hb rfl rfl rfl rfl rfl rfl (q) ?_
      refine Rn.steps 6 rfl ?_
      refine Rn.idiv rfl rfl (by decide) ?_
      rw [e1]
      refine Rn.steps 1 rfl ?_
      refine Rn.irem rfl rfl (by decide) ?_
      rw [e2]
      refine Rn.steps 1 rfl ?_
      rw [e3]
      refine Rn.steps 5 rfl ?_
      refine Rn.callO rfl rfl rfl hb rfl rfl rfl rfl rfl rfl (r1) ?_
      refine Rn.steps 5 rfl ?_
      refine Rn.callO rfl rfl rfl b1 rfl rfl rfl rfl rfl rfl (p1) ?_
      refine Rn.bt 4 rfl (rfl) ?_
      refine Rn.steps 4 rfl ?_
      rw [show (10 : Int32) + nI 0 = 10 from rfl]
      refine Rn.callO rfl rfl rfl b1 rfl rfl rfl rfl rfl rfl (p10) ?_
      refine Rn.bt 2 rfl (rfl) ?_
      refine Rn.steps 2 rfl ?_
      exact Rn.retE rfl rfl rfl rfl rfl
    · obtain ⟨h1, S1, r1⟩ := c_set_not (d + 2) n hS hf (nI vv) hV g
      obtain ⟨f1, b1⟩ := S1.h3
      have p1 := k_count_1 (d + 3) n S1
      have g2 : ¬ mSet z 10 ≤ 0 := Int32.not_le.mpr ((set_sx z).2.1.mpr g)
      refine ⟨0, h1, ?_, Or.inl ⟨rfl, S1⟩⟩
      refine Rn.bt 3 rfl ((nI_leI (a := 5) (by omega) (by omega)).mpr (by omega)) ?_
      refine Rn.bt 3 rfl ((nI_leI (a := 9) (by omega) (by omega)).mpr (by omega)) ?_
      refine Rn.bt 3 rfl ((nI_leI (a := 11) (by omega) (by omega)).mpr (by omega)) ?_
      refine Rn.bt 3 rfl ((nI_leI (a := 14) (by omega) (by omega)).mpr (by omega)) ?_
      refine Rn.steps 2 rfl ?_
      refine Rn.irem rfl rfl (by decide) ?_
      rw [e0]
      refine Rn.steps 5 rfl ?_
      rw [show (10 : Int32) + nI 0 = 10 from rfl]
      refine Rn.callO rfl rfl rfl hb rfl rfl rfl rfl rfl rfl (q) ?_
      refine Rn.steps 6 rfl ?_
      refine Rn.idiv rfl rfl (by decide) ?_
      rw [e1]
      refine Rn.steps 1 rfl ?_
      refine Rn.irem rfl rfl (by decide) ?_
      rw [e2]
      refine Rn.steps 1 rfl ?_
      rw [e3]
      refine Rn.steps 5 rfl ?_
      refine Rn.callO rfl rfl rfl hb rfl rfl rfl rfl rfl rfl (r1) ?_
      refine Rn.steps 5 rfl ?_
      refine Rn.callO rfl rfl rfl b1 rfl rfl rfl rfl rfl rfl (p1) ?_
      refine Rn.bf 1 rfl (g2) ?_
      refine Rn.steps 5 rfl ?_
      exact Rn.retE rfl rfl rfl rfl rfl
  · rw [w] at e0
    have e2 : rm (nI (y / 3)) 9 = nI (y / 3 % 9) := rm_n (b := 9) (by omega) (by omega) (by omega)
    have e3 : (1 : Int32) + nI (y / 3 % 9) = nI (1 + y / 3 % 9) := nI_add 1 _
    have hv : 1 ≤ 1 + y / 3 % 9 ∧ 1 + y / 3 % 9 ≤ 9 := by omega
    generalize 1 + y / 3 % 9 = vv at e3 hv
    have hV : isV 1 (nI vv) = true := by
      unfold isV
      rw [if_neg (by decide), if_pos rfl]
      exact decide_eq_true ⟨(nI_leI (a := 1) (by omega) (by omega)).mpr (by omega), (nI_leI (b := 9) (by omega) (by omega)).mpr (by omega)⟩
    obtain ⟨u, u1', u2', u3'⟩ := hI.2.2.2.2
    obtain ⟨h1, S1, r1⟩ := c_set_1 (d + 2) n hS hf (by rw [u3']; exact nI_pos (by omega)) (nI vv) hV
    have hI1 := hI.set1 hv.1 hv.2
    have q := k_count_11 (d + 3) n hS
    obtain ⟨f1, b1⟩ := S1.h3
    have p := k_count_11 (d + 3) n S1
    rw [upd_eq] at p
    refine ⟨1, h1, ?_, Or.inr ⟨rfl, _, P, S1, hI1.le (by omega) (by omega)⟩⟩
    refine Rn.bt 3 rfl ((nI_leI (a := 5) (by omega) (by omega)).mpr (by omega)) ?_
    refine Rn.bt 3 rfl ((nI_leI (a := 9) (by omega) (by omega)).mpr (by omega)) ?_
    refine Rn.bt 3 rfl ((nI_leI (a := 11) (by omega) (by omega)).mpr (by omega)) ?_
    refine Rn.bt 3 rfl ((nI_leI (a := 14) (by omega) (by omega)).mpr (by omega)) ?_
    refine Rn.steps 2 rfl ?_
    refine Rn.irem rfl rfl (by decide) ?_
    rw [e0]
    refine Rn.steps 5 rfl ?_
    rw [show (10 : Int32) + nI 1 = 11 from rfl]
    refine Rn.callO rfl rfl rfl hb rfl rfl rfl rfl rfl rfl (q) ?_
    refine Rn.steps 9 rfl ?_
    refine Rn.idiv rfl rfl (by decide) ?_
    rw [e1]
    refine Rn.steps 1 rfl ?_
    refine Rn.irem rfl rfl (by decide) ?_
    rw [e2]
    refine Rn.steps 1 rfl ?_
    rw [e3]
    refine Rn.steps 5 rfl ?_
    refine Rn.callO rfl rfl rfl hb rfl rfl rfl rfl rfl rfl (r1) ?_
    refine Rn.bt 6 rfl (rfl) ?_
    refine Rn.steps 4 rfl ?_
    rw [show (10 : Int32) + nI 1 = 11 from rfl]
    refine Rn.callO rfl rfl rfl b1 rfl rfl rfl rfl rfl rfl (p) ?_
    refine Rn.bt 2 rfl (rfl) ?_
    refine Rn.steps 2 rfl ?_
    exact Rn.retE rfl rfl rfl rfl rfl
  · rw [w] at e0
    have e2 : rm (nI (y / 3)) 200 = nI (y / 3 % 200) := rm_n (b := 200) (by omega) (by omega) (by omega)
    have e3 : (1 : Int32) + nI (y / 3 % 200) = nI (1 + y / 3 % 200) := nI_add 1 _
    have hv : 1 ≤ 1 + y / 3 % 200 ∧ 1 + y / 3 % 200 ≤ 200 := by omega
    generalize 1 + y / 3 % 200 = vv at e3 hv
    have hV : isV 2 (nI vv) = true := by
      unfold isV
      rw [if_neg (by decide), if_neg (by decide), Bool.and_eq_true, decide_eq_true_eq, decide_eq_true_eq]
      exact ⟨rfl, (nI_leI (a := 1) (by omega) (by omega)).mpr (by omega), (nI_leI (b := 999) (by omega) (by omega)).mpr (by omega)⟩
    obtain ⟨h1, S1, r1⟩ := c_set_2 (d + 2) n hS hG (nI vv) hV
    have hI1 := hI.set2 (v := vv) (by omega)
    have q := k_count_12 (d + 3) n hS
    obtain ⟨f1, b1⟩ := S1.h3
    have p := k_count_12 (d + 3) n S1
    rw [upd_eq] at p
    refine ⟨1, h1, ?_, Or.inr ⟨rfl, _, P, S1, hI1.le (by omega) (by omega)⟩⟩
    refine Rn.bt 3 rfl ((nI_leI (a := 5) (by omega) (by omega)).mpr (by omega)) ?_
    refine Rn.bt 3 rfl ((nI_leI (a := 9) (by omega) (by omega)).mpr (by omega)) ?_
    refine Rn.bt 3 rfl ((nI_leI (a := 11) (by omega) (by omega)).mpr (by omega)) ?_
    refine Rn.bt 3 rfl ((nI_leI (a := 14) (by omega) (by omega)).mpr (by omega)) ?_
    refine Rn.steps 2 rfl ?_
    refine Rn.irem rfl rfl (by decide) ?_
    rw [e0]
    refine Rn.steps 5 rfl ?_
    rw [show (10 : Int32) + nI 2 = 12 from rfl]
    refine Rn.callO rfl rfl rfl hb rfl rfl rfl rfl rfl rfl (q) ?_
    refine Rn.steps 9 rfl ?_
    refine Rn.idiv rfl rfl (by decide) ?_
    rw [e1]
    refine Rn.steps 1 rfl ?_
    refine Rn.irem rfl rfl (by decide) ?_
    rw [e2]
    refine Rn.steps 1 rfl ?_
    rw [e3]
    refine Rn.steps 4 rfl ?_
    refine Rn.callO rfl rfl rfl hb rfl rfl rfl rfl rfl rfl (r1) ?_
    refine Rn.bt 6 rfl (rfl) ?_
    refine Rn.steps 4 rfl ?_
    rw [show (10 : Int32) + nI 2 = 12 from rfl]
    refine Rn.callO rfl rfl rfl b1 rfl rfl rfl rfl rfl rfl (p) ?_
    refine Rn.bt 2 rfl (rfl) ?_
    refine Rn.steps 2 rfl ?_
    exact Rn.retE rfl rfl rfl rfl rfl
theorem l_act (hS : ST X c z t u0 u1 h) (hI : GI z P B S) (hB : B ≤ 1000000) (hSb : S ≤ 9900) (x : Nat) (hx : x < 2 ^ 31) : ∃ r h', Rn (d + 6) 95 0 [(0, .ref 3), (1, .int (nI x))] [] h n (some (.int r)) h' n ∧ AO X c z t u0 u1 (B + 1) (S + 99) r h' := by
  have e1 : rm (nI x) 16 = nI (x % 16) := rm_n (b := 16) hx (by omega) (by omega)
  have e2 : nI x / 16 = nI (x / 16) := pk_div (d := 16) hx (by omega) (by omega)
  have e3 : rm (nI (x / 16)) 10 = nI (x / 16 % 10) := rm_n (b := 10) (by omega) (by omega) (by omega)
  have hm : x % 16 < 16 := Nat.mod_lt _ (by omega)
  have hy : x / 16 < 2 ^ 31 := by omega
  have key : ∃ r h', Rn (d + 6) 95 16 [(0, .ref 3), (1, .int (nI x)), (2, .int (nI (x % 16))), (3, .int (nI (x / 16))), (4, .int (nI (x / 16 % 10)))] [] h n (some (.int r)) h' n ∧ AO X c z t u0 u1 (B + 1) (S + 99) r h' := by
    rcases (by omega : x % 16 < 5 ∨ (5 ≤ x % 16 ∧ x % 16 < 9) ∨ (9 ≤ x % 16 ∧ x % 16 < 11) ∨ (11 ≤ x % 16 ∧ x % 16 < 14) ∨ 14 ≤ x % 16) with g | g | g | g | g
    · exact l_act0 d n hS hI x _ _ hy g
    · exact l_act1 d n hS hI x _ _ hy hSb g.1 g.2
    · exact l_act2 d n hS hI x _ _ hy hB g.1 g.2
    · exact l_act3 d n hS hI x _ _ hy g.1 g.2
    · exact l_act4 d n hS hI x _ _ hy g hm
  obtain ⟨r, h', k1, k2⟩ := key
  refine ⟨r, h', ?_, k2⟩
  refine Rn.steps 2 rfl ?_
  refine Rn.irem rfl rfl (by decide) ?_
  rw [e1]
  refine Rn.steps 3 rfl ?_
  refine Rn.idiv rfl rfl (by decide) ?_
  rw [e2]
  refine Rn.steps 3 rfl ?_
  refine Rn.irem rfl rfl (by decide) ?_
  rw [e3]
  refine Rn.steps 1 rfl ?_
  exact Rn.lx [(0, .ref 3), (1, .int (nI x)), (2, .int (nI (x % 16))), (3, .int (nI (x / 16))), (4, .int (nI (x / 16 % 10)))] [0, 1, 2, 3, 4] rfl (by decide) ⟨rfl, rfl, rfl, rfl, rfl, trivial⟩ k1
end LAW4
