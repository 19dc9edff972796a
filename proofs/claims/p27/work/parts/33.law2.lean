/-! the law's refusesAny(), refuses() -/
theorem isPl_lo {hn x q : Int32} (h : x < 0 ∨ q < 0) : isPl hn x q = false := by
  unfold isPl
  rcases h with h | h
  · rw [decide_eq_false (fun g => absurd g.1 (Int32.not_le.mpr h)), Bool.false_and]
  · rw [decide_eq_false (p := 0 ≤ q ∧ q ≤ 3) (fun g => absurd g.1 (Int32.not_le.mpr h)), Bool.and_false]
theorem isPl_hi1 {z : Nat → Int32} {P : Nat} (hG : GP z P) (y : Nat) (hy : y < 1000) (q : Int32) : isPl (2 * z 0) (2 * z 0 + nI y) q = false := by
  have h2 := hG.2.1
  have h6 := hG.2.2.1
  unfold isPl
  rw [hG.hn, nI_add, show nI (2 * P) - 1 = nI (2 * P - 1) from pk_sub (b := 1) (by omega), decide_eq_false (fun g => absurd ((nI_leI (by omega) (by omega)).mp g.2) (by omega)), Bool.false_and]
theorem isPl_hi2 (hn x : Int32) (y : Nat) (hy : y < 1000) : isPl hn x (4 + nI y) = false := by
  unfold isPl
  rw [show (4 : Int32) = nI 4 from rfl, nI_add, decide_eq_false (p := 0 ≤ nI (4 + y) ∧ nI (4 + y) ≤ 3) (fun g => absurd ((nI_leI (a := 4 + y) (b := 3) (by omega) (by omega)).mp g.2) (by omega)), Bool.and_false]
theorem isC_lo {z : Nat → Int32} {x : Int32} (h : x < 0) : isC z x = false := by
  unfold isC
  rw [decide_eq_false (fun g => absurd g.1 (Int32.not_le.mpr h)), Bool.false_and]
theorem isC_hi (z : Nat → Int32) (y : Nat) (hy : y < 1000) : isC z (10 + nI y) = false := by
  unfold isC
  rw [show (10 : Int32) = nI 10 from rfl, nI_add, decide_eq_false (fun g => absurd ((nI_leI (a := 10 + y) (b := 9) (by omega) (by omega)).mp g.2) (by omega)), Bool.false_and]
section LAW2
variable {X : xLC} {c : Nat} {z t : Nat → Int32} {u0 u1 : Option (Nat → Int32)} {h : xHp} {P : Nat}
variable (d n : Nat)
theorem pl_of (hG : GP z P) {e : Nat} (he : e < 10) (hz : zt z e = true) : ∃ p, p < 8 * P ∧ z (10 + 7 * e) = nI p ∧ p ∈ pl z 10 ∧ z (10 + 7 * e) / 4 = nI (p / 4) ∧ rm (z (10 + 7 * e)) 4 = nI (p % 4) ∧ isPl (2 * z 0) (nI (p / 4)) (nI (p % 4)) = true ∧ 4 * nI (p / 4) + nI (p % 4) = nI p := by
  have h2 := hG.2.1
  have h6 := hG.2.2.1
  obtain ⟨p, p1, p2⟩ := hG.2.2.2.1 e he hz
  refine ⟨p, p1, p2, (pl_mem hG.2.2.2.1 h6 (by omega) 10 (Nat.le_refl _)).mpr ⟨e, he, hz, p2⟩, ?_, ?_, ?_, ?_⟩
  · rw [p2]; exact pk_div (d := 4) (by omega) (by omega) (by omega)
  · rw [p2]; exact rm_n (b := 4) (by omega) (by omega) (by omega)
  · unfold isPl
    rw [hG.hn, show nI (2 * P) - 1 = nI (2 * P - 1) from pk_sub (b := 1) (by omega), Bool.and_eq_true, decide_eq_true_eq, decide_eq_true_eq]
    exact ⟨⟨nI_pos' (by omega), (nI_leI (by omega) (by omega)).mpr (by omega)⟩, nI_pos' (by omega), (nI_leI (b := 3) (by omega) (by omega)).mpr (by omega)⟩
  · rw [show (4 : Int32) = nI 4 from rfl, pk_mul, nI_add]
    congr 1
    omega
theorem l_refA_e (hS : ST X c z t u0 u1 h) (hG : GP z P) (x : Nat) (hx : x < 2 ^ 31) (hp : rm (nI x) 2 = 0) (no horn notch : Int32) (a1 : isC z no = false) (a2 : isPl (2 * z 0) horn 0 = false) (a3 : isPl (2 * z 0) 0 notch = false) : ∃ h1, ST X c z t u0 u1 h1 ∧ ∀ v h', Rn (d + 6) 89 268 [(0, .ref 3), (1, .int (nI x)), (2, .int no), (3, .int horn), (4, .int notch), (5, .int 1)] [] h1 n v h' n → Rn (d + 6) 89 72 [(0, .ref 3), (1, .int (nI x)), (2, .int no), (3, .int horn), (4, .int notch)] [] h n v h' n := by
  have hf := hG.2.2.2.2.1
  have e5 : rm (nI x) 5 = nI (x % 5) := rm_n (b := 5) hx (by omega) (by omega)
  obtain ⟨fs, hb⟩ := hS.h3
  obtain ⟨g1, S1, r1⟩ := c_set_bad (d + 2) n hS hf (-1) 1 (by decide)
  obtain ⟨f1, b1⟩ := S1.h3
  obtain ⟨g2, S2, r2⟩ := c_set_bad (d + 2) n S1 hf 0 1 (by decide)
  obtain ⟨f2, b2⟩ := S2.h3
  obtain ⟨g3, S3, r3⟩ := c_set_bad (d + 2) n S2 hf 1 0 (by decide)
  obtain ⟨f3, b3⟩ := S3.h3
  obtain ⟨g4, S4, r4⟩ := c_set_bad (d + 2) n S3 hf 2 0 (by decide)
  obtain ⟨f4, b4⟩ := S4.h3
  by_cases m0 : mSet z 10 = 0
  · obtain ⟨g6, S6, r6⟩ := c_car_bad (d + 2) n S4 hG horn 0 a2
    obtain ⟨f6, b6⟩ := S6.h3
    obtain ⟨g7, S7, r7⟩ := c_car_bad (d + 2) n S6 hG 0 notch a3
    obtain ⟨f7, b7⟩ := S7.h3
    obtain ⟨g8, S8, r8⟩ := c_to_bad (d + 2) n S7 hf no a1
    obtain ⟨f8, b8⟩ := S8.h3
    obtain ⟨g9, S9, r9⟩ := c_run_bad (d + 1) n S8 hf 0 (by decide)
    obtain ⟨f9, b9⟩ := S9.h3
    obtain ⟨g10, S10, r10⟩ := c_snap_bad (d + 2) n S9 hf no a1
    obtain ⟨f10, b10⟩ := S10.h3
    obtain ⟨g11, S11, r11⟩ := c_tie_bad (d + 2) n S10 hf no a1
    obtain ⟨f11, b11⟩ := S11.h3
    obtain ⟨g12, S12, r12⟩ := c_ref_bad (d + 2) n S11 hf no a1
    refine ⟨g12, S12, fun v h' kk => ?_⟩
    refine Rn.steps 3 rfl ?_
    refine Rn.irem rfl rfl (by decide) ?_
    refine Rn.bt 1 rfl (hp) ?_
    refine Rn.steps 3 rfl ?_
    refine Rn.callO rfl rfl rfl hb rfl rfl rfl rfl rfl rfl (r1) ?_
    refine Rn.steps 6 rfl ?_
    refine Rn.irem rfl rfl (by decide) ?_
    refine Rn.bt 1 rfl (hp) ?_
    refine Rn.steps 2 rfl ?_
    refine Rn.callO rfl rfl rfl b1 rfl rfl rfl rfl rfl rfl (r2) ?_
    refine Rn.steps 6 rfl ?_
    refine Rn.irem rfl rfl (by decide) ?_
    refine Rn.bt 1 rfl (hp) ?_
    refine Rn.steps 2 rfl ?_
    refine Rn.callO rfl rfl rfl b2 rfl rfl rfl rfl rfl rfl (r3) ?_
    refine Rn.steps 6 rfl ?_
    refine Rn.irem rfl rfl (by decide) ?_
    refine Rn.bt 1 rfl (hp) ?_
    refine Rn.steps 2 rfl ?_
    refine Rn.callO rfl rfl rfl b3 rfl rfl rfl rfl rfl rfl (r4) ?_
    refine Rn.steps 4 rfl ?_
    refine Rn.callO rfl rfl rfl b4 rfl rfl rfl rfl rfl rfl (k_count_1 (d + 3) n S4) ?_
    refine Rn.bt 1 rfl (m0) ?_
    refine Rn.steps 3 rfl ?_
    refine Rn.callO rfl rfl rfl b4 rfl rfl rfl rfl rfl rfl (r6) ?_
    refine Rn.steps 5 rfl ?_
    refine Rn.callO rfl rfl rfl b6 rfl rfl rfl rfl rfl rfl (r7) ?_
    refine Rn.steps 4 rfl ?_
    refine Rn.callO rfl rfl rfl b7 rfl rfl rfl rfl rfl rfl (r8) ?_
    refine Rn.steps 5 rfl ?_
    refine Rn.irem rfl rfl (by decide) ?_
    refine Rn.bt 1 rfl (hp) ?_
    refine Rn.steps 2 rfl ?_
    refine Rn.callO rfl rfl rfl b8 rfl rfl rfl rfl rfl rfl (r9) ?_
    refine Rn.steps 4 rfl ?_
    refine Rn.callO rfl rfl rfl b9 rfl rfl rfl rfl rfl rfl (r10) ?_
    refine Rn.steps 4 rfl ?_
    refine Rn.callO rfl rfl rfl b10 rfl rfl rfl rfl rfl rfl (r11) ?_
    refine Rn.steps 4 rfl ?_
    refine Rn.callO rfl rfl rfl b11 rfl rfl rfl rfl rfl rfl (r12) ?_
    refine Rn.steps 5 rfl ?_
    exact Rn.lx [(0, .ref 3), (1, .int (nI x)), (2, .int no), (3, .int horn), (4, .int notch), (5, .int 1)] [0, 1, 2, 3, 4, 5] rfl (by decide) ⟨rfl, rfl, rfl, rfl, rfl, rfl, trivial⟩ kk
  · obtain ⟨g5, S5, r5⟩ := c_set_not (d + 2) n S4 hf (2 + nI (x % 5)) (by
      have e : (2 : Int32) + nI (x % 5) = nI (2 + x % 5) := nI_add 2 (x % 5)
      rw [e]
      unfold isV
      rw [if_pos rfl]
      exact decide_eq_true ⟨(nI_leI (a := 2) (by omega) (by omega)).mpr (by omega), (nI_leI (b := 6) (by omega) (by omega)).mpr (by omega)⟩) m0
    obtain ⟨f5, b5⟩ := S5.h3
    obtain ⟨g6, S6, r6⟩ := c_car_bad (d + 2) n S5 hG horn 0 a2
    obtain ⟨f6, b6⟩ := S6.h3
    obtain ⟨g7, S7, r7⟩ := c_car_bad (d + 2) n S6 hG 0 notch a3
    obtain ⟨f7, b7⟩ := S7.h3
    obtain ⟨g8, S8, r8⟩ := c_to_bad (d + 2) n S7 hf no a1
    obtain ⟨f8, b8⟩ := S8.h3
    obtain ⟨g9, S9, r9⟩ := c_run_bad (d + 1) n S8 hf 0 (by decide)
    obtain ⟨f9, b9⟩ := S9.h3
    obtain ⟨g10, S10, r10⟩ := c_snap_bad (d + 2) n S9 hf no a1
    obtain ⟨f10, b10⟩ := S10.h3
    obtain ⟨g11, S11, r11⟩ := c_tie_bad (d + 2) n S10 hf no a1
    obtain ⟨f11, b11⟩ := S11.h3
    obtain ⟨g12, S12, r12⟩ := c_ref_bad (d + 2) n S11 hf no a1
    refine ⟨g12, S12, fun v h' kk => ?_⟩
    refine Rn.steps 3 rfl ?_
    refine Rn.irem rfl rfl (by decide) ?_
    refine Rn.bt 1 rfl (hp) ?_
    refine Rn.steps 3 rfl ?_
    refine Rn.callO rfl rfl rfl hb rfl rfl rfl rfl rfl rfl (r1) ?_
    refine Rn.steps 6 rfl ?_
    refine Rn.irem rfl rfl (by decide) ?_
    refine Rn.bt 1 rfl (hp) ?_
    refine Rn.steps 2 rfl ?_
    refine Rn.callO rfl rfl rfl b1 rfl rfl rfl rfl rfl rfl (r2) ?_
    refine Rn.steps 6 rfl ?_
    refine Rn.irem rfl rfl (by decide) ?_
    refine Rn.bt 1 rfl (hp) ?_
    refine Rn.steps 2 rfl ?_
    refine Rn.callO rfl rfl rfl b2 rfl rfl rfl rfl rfl rfl (r3) ?_
    refine Rn.steps 6 rfl ?_
    refine Rn.irem rfl rfl (by decide) ?_
    refine Rn.bt 1 rfl (hp) ?_
    refine Rn.steps 2 rfl ?_
    refine Rn.callO rfl rfl rfl b3 rfl rfl rfl rfl rfl rfl (r4) ?_
    refine Rn.steps 4 rfl ?_
    refine Rn.callO rfl rfl rfl b4 rfl rfl rfl rfl rfl rfl (k_count_1 (d + 3) n S4) ?_
    refine Rn.bf 1 rfl (m0) ?_
    refine Rn.steps 5 rfl ?_
    refine Rn.irem rfl rfl (by decide) ?_
    rw [e5]
    refine Rn.steps 1 rfl ?_
    refine Rn.callO rfl rfl rfl b4 rfl rfl rfl rfl rfl rfl (r5) ?_
    refine Rn.steps 5 rfl ?_
    refine Rn.callO rfl rfl rfl b5 rfl rfl rfl rfl rfl rfl (r6) ?_
    refine Rn.steps 5 rfl ?_
    refine Rn.callO rfl rfl rfl b6 rfl rfl rfl rfl rfl rfl (r7) ?_
    refine Rn.steps 4 rfl ?_
    refine Rn.callO rfl rfl rfl b7 rfl rfl rfl rfl rfl rfl (r8) ?_
    refine Rn.steps 5 rfl ?_
    refine Rn.irem rfl rfl (by decide) ?_
    refine Rn.bt 1 rfl (hp) ?_
    refine Rn.steps 2 rfl ?_
    refine Rn.callO rfl rfl rfl b8 rfl rfl rfl rfl rfl rfl (r9) ?_
    refine Rn.steps 4 rfl ?_
    refine Rn.callO rfl rfl rfl b9 rfl rfl rfl rfl rfl rfl (r10) ?_
    refine Rn.steps 4 rfl ?_
    refine Rn.callO rfl rfl rfl b10 rfl rfl rfl rfl rfl rfl (r11) ?_
    refine Rn.steps 4 rfl ?_
    refine Rn.callO rfl rfl rfl b11 rfl rfl rfl rfl rfl rfl (r12) ?_
    refine Rn.steps 5 rfl ?_
    exact Rn.lx [(0, .ref 3), (1, .int (nI x)), (2, .int no), (3, .int horn), (4, .int notch), (5, .int 1)] [0, 1, 2, 3, 4, 5] rfl (by decide) ⟨rfl, rfl, rfl, rfl, rfl, rfl, trivial⟩ kk
theorem l_refB_e (hS : ST X c z t u0 u1 h) (hG : GP z P) (x : Nat) (hp : rm (nI x) 2 = 0) (no horn notch : Int32) : ∃ h1, ST X c z t u0 u1 h1 ∧ ∀ v h', Rn (d + 6) 89 374 [(0, .ref 3), (1, .int (nI x)), (2, .int no), (3, .int horn), (4, .int notch), (5, .int 1)] [] h1 n v h' n → Rn (d + 6) 89 268 [(0, .ref 3), (1, .int (nI x)), (2, .int no), (3, .int horn), (4, .int notch), (5, .int 1)] [] h n v h' n := by
  have hf := hG.2.2.2.2.1
  obtain ⟨fs, hb⟩ := hS.h3
  have r0 := k_around (d + 3) n hS hG 0
  rcases ar_or (8 * P) 0 0 with q0 | ⟨e, he, hz, q0⟩
  · rw [q0] at r0
    refine ⟨h, hS, fun v h' kk => ?_⟩
    refine Rn.steps 2 rfl ?_
    refine Rn.callO rfl rfl rfl hb rfl rfl rfl rfl rfl rfl (r0) ?_
    refine Rn.steps 8 rfl ?_
    exact Rn.lx [(0, .ref 3), (1, .int (nI x)), (2, .int no), (3, .int horn), (4, .int notch), (5, .int 1)] [0, 1, 2, 3, 4, 5] rfl (by decide) ⟨rfl, rfl, rfl, rfl, rfl, rfl, trivial⟩ kk
  · rw [q0] at r0
    obtain ⟨p, p1, p2, p3, p4, p5, p6, p7⟩ := pl_of hG he hz
    have r1 := k_of_0 (d + 3) n hS e he hz
    have r2 := k_of_1 (d + 3) n hS e he hz
    rw [p4] at r1
    rw [p5] at r2
    obtain ⟨g3, S3, r3⟩ := c_car_fit (d + 2) n hS hG (nI (p / 4)) (nI (p % 4)) p6 p p1 p7 (fun g => g.1 p3)
    obtain ⟨f3, b3⟩ := S3.h3
    have r4 := k_of_3 (d + 3) n S3 hf e he hz
    have n0 : ¬ nI e < 0 := nI_pos (by omega)
    rcases hf e he with w0 | w0
    · obtain ⟨g5, S5, r5⟩ := c_tie_not (d + 2) n S3 hf e he hz w0
      obtain ⟨f5, b5⟩ := S5.h3
      refine ⟨g5, S5, fun v h' kk => ?_⟩
      refine Rn.steps 2 rfl ?_
      refine Rn.callO rfl rfl rfl hb rfl rfl rfl rfl rfl rfl (r0) ?_
      refine Rn.bf 5 rfl (n0) ?_
      refine Rn.steps 4 rfl ?_
      refine Rn.callO rfl rfl rfl hb rfl rfl rfl rfl rfl rfl (r1) ?_
      refine Rn.steps 3 rfl ?_
      refine Rn.callO rfl rfl rfl hb rfl rfl rfl rfl rfl rfl (r2) ?_
      refine Rn.callO rfl rfl rfl hb rfl rfl rfl rfl rfl rfl (r3) ?_
      refine Rn.steps 5 rfl ?_
      refine Rn.callO rfl rfl rfl b3 rfl rfl rfl rfl rfl rfl (r4) ?_
      refine Rn.bf 2 rfl (by rw [w0]; decide) ?_
      refine Rn.steps 2 rfl ?_
      refine Rn.callO rfl rfl rfl b3 rfl rfl rfl rfl rfl rfl (r5) ?_
      refine Rn.steps 6 rfl ?_
      refine Rn.irem rfl rfl (by decide) ?_
      refine Rn.bt 1 rfl (hp) ?_
      refine Rn.steps 2 rfl ?_
      refine Rn.callO rfl rfl rfl b5 rfl rfl rfl rfl rfl rfl (k_of_out (d + 3) n S5 e he hz (-1) (by decide)) ?_
      refine Rn.steps 5 rfl ?_
      exact Rn.lx [(0, .ref 3), (1, .int (nI x)), (2, .int no), (3, .int horn), (4, .int notch), (5, .int 1)] [0, 1, 2, 3, 4, 5] rfl (by decide) ⟨rfl, rfl, rfl, rfl, rfl, rfl, trivial⟩ kk
    · obtain ⟨g5, S5, r5⟩ := c_snap_not (d + 2) n S3 hf e he hz (by rw [w0]; decide)
      obtain ⟨f5, b5⟩ := S5.h3
      refine ⟨g5, S5, fun v h' kk => ?_⟩
      refine Rn.steps 2 rfl ?_
      refine Rn.callO rfl rfl rfl hb rfl rfl rfl rfl rfl rfl (r0) ?_
      refine Rn.bf 5 rfl (n0) ?_
      refine Rn.steps 4 rfl ?_
      refine Rn.callO rfl rfl rfl hb rfl rfl rfl rfl rfl rfl (r1) ?_
      refine Rn.steps 3 rfl ?_
      refine Rn.callO rfl rfl rfl hb rfl rfl rfl rfl rfl rfl (r2) ?_
      refine Rn.callO rfl rfl rfl hb rfl rfl rfl rfl rfl rfl (r3) ?_
      refine Rn.steps 5 rfl ?_
      refine Rn.callO rfl rfl rfl b3 rfl rfl rfl rfl rfl rfl (r4) ?_
      refine Rn.bt 2 rfl (w0) ?_
      refine Rn.steps 2 rfl ?_
      refine Rn.callO rfl rfl rfl b3 rfl rfl rfl rfl rfl rfl (r5) ?_
      refine Rn.steps 7 rfl ?_
      refine Rn.irem rfl rfl (by decide) ?_
      refine Rn.bt 1 rfl (hp) ?_
      refine Rn.steps 2 rfl ?_
      refine Rn.callO rfl rfl rfl b5 rfl rfl rfl rfl rfl rfl (k_of_out (d + 3) n S5 e he hz (-1) (by decide)) ?_
      refine Rn.steps 5 rfl ?_
      exact Rn.lx [(0, .ref 3), (1, .int (nI x)), (2, .int no), (3, .int horn), (4, .int notch), (5, .int 1)] [0, 1, 2, 3, 4, 5] rfl (by decide) ⟨rfl, rfl, rfl, rfl, rfl, rfl, trivial⟩ kk
theorem l_refC_e (hS : ST X c z t u0 u1 h) (hG : GP z P) (x : Nat) (hx : x < 2 ^ 31) (hp : rm (nI x) 2 = 0) (no horn notch : Int32) (a1 : isC z no = false) (a2 : isPl (2 * z 0) horn 0 = false) (a3 : isPl (2 * z 0) 0 notch = false) : Rn (d + 6) 89 374 [(0, .ref 3), (1, .int (nI x)), (2, .int no), (3, .int horn), (4, .int notch), (5, .int 1)] [] h n (some (.int 1)) h n := by
  obtain ⟨fs, hb⟩ := hS.h3
  have e9 : rm (nI x) 99 = nI (x % 99) := rm_n (b := 99) hx (by omega) (by omega)
  have k1 := k_around (d + 3) n hS hG 10
  have k2 := k_around (d + 3) n hS hG (-1 - nI (x % 99))
  have h6 := hG.2.2.1
  rw [show (10 : Int32) = nI 10 from rfl, ar_end (8 * P) 0 10 (by rw [Nat.zero_add, rk_all hG]; have := tpm_le z 10; omega) (by omega)] at k1
  rw [ar_neg (8 * P) 0 (x % 99) (by omega)] at k2
  refine Rn.steps 5 rfl ?_
  refine Rn.callO rfl rfl rfl hb rfl rfl rfl rfl rfl rfl (k_of_bad (d + 3) n hS no 99 a1) ?_
  refine Rn.steps 5 rfl ?_
  refine Rn.callO rfl rfl rfl hb rfl rfl rfl rfl rfl rfl (k_at_bad (d + 3) n hS hG horn 0 a2) ?_
  refine Rn.steps 5 rfl ?_
  refine Rn.callO rfl rfl rfl hb rfl rfl rfl rfl rfl rfl (k_at_bad (d + 3) n hS hG 0 notch a3) ?_
  refine Rn.steps 4 rfl ?_
  refine Rn.callO rfl rfl rfl hb rfl rfl rfl rfl rfl rfl (k1) ?_
  refine Rn.steps 6 rfl ?_
  refine Rn.irem rfl rfl (by decide) ?_
  rw [e9]
  refine Rn.steps 1 rfl ?_
  refine Rn.callO rfl rfl rfl hb rfl rfl rfl rfl rfl rfl (k2) ?_
  refine Rn.steps 5 rfl ?_
  refine Rn.irem rfl rfl (by decide) ?_
  refine Rn.bt 1 rfl (hp) ?_
  refine Rn.steps 2 rfl ?_
  refine Rn.callO rfl rfl rfl hb rfl rfl rfl rfl rfl rfl (k_count_out (d + 3) n hS (-1) (by decide)) ?_
  refine Rn.steps 5 rfl ?_
  refine Rn.irem rfl rfl (by decide) ?_
  refine Rn.bt 1 rfl (hp) ?_
  refine Rn.steps 2 rfl ?_
  refine Rn.callO rfl rfl rfl hb rfl rfl rfl rfl rfl rfl (k_me_bad (d + 1) n hS (-1) (by decide)) ?_
  refine Rn.steps 5 rfl ?_
  refine Rn.irem rfl rfl (by decide) ?_
  refine Rn.bt 1 rfl (hp) ?_
  refine Rn.steps 2 rfl ?_
  refine Rn.callO rfl rfl rfl hb rfl rfl rfl rfl rfl rfl (k_save_bad (d + 3) n hS (-1) (by decide)) ?_
  refine Rn.steps 5 rfl ?_
  refine Rn.irem rfl rfl (by decide) ?_
  refine Rn.bt 1 rfl (hp) ?_
  refine Rn.steps 2 rfl ?_
  refine Rn.callO rfl rfl rfl hb rfl rfl rfl rfl rfl rfl (k_res_bad (d + 3) n hS (-1) (by decide)) ?_
  refine Rn.steps 8 rfl ?_
  refine Rn.callO rfl rfl rfl hb rfl rfl rfl rfl rfl rfl (k_wipe (d + 4) n hS) ?_
  refine Rn.steps 2 rfl ?_
  refine Rn.callO rfl rfl rfl hb rfl rfl rfl rfl rfl rfl (k_co d n hS) ?_
  refine Rn.steps 3 rfl ?_
  refine Rn.callO rfl rfl rfl hb rfl rfl rfl rfl rfl rfl (k_fault (d + 2) n hS) ?_
  refine Rn.steps 3 rfl ?_
  exact Rn.retE rfl rfl rfl rfl rfl
theorem l_refA_o (hS : ST X c z t u0 u1 h) (hG : GP z P) (x : Nat) (hx : x < 2 ^ 31) (hp : ¬ rm (nI x) 2 = 0) (no horn notch : Int32) (a1 : isC z no = false) (a2 : isPl (2 * z 0) horn 0 = false) (a3 : isPl (2 * z 0) 0 notch = false) : ∃ h1, ST X c z t u0 u1 h1 ∧ ∀ v h', Rn (d + 6) 89 268 [(0, .ref 3), (1, .int (nI x)), (2, .int no), (3, .int horn), (4, .int notch), (5, .int 1)] [] h1 n v h' n → Rn (d + 6) 89 72 [(0, .ref 3), (1, .int (nI x)), (2, .int no), (3, .int horn), (4, .int notch)] [] h n v h' n := by
  have hf := hG.2.2.2.2.1
  have e5 : rm (nI x) 5 = nI (x % 5) := rm_n (b := 5) hx (by omega) (by omega)
  obtain ⟨fs, hb⟩ := hS.h3
  obtain ⟨g1, S1, r1⟩ := c_set_bad (d + 2) n hS hf (3) 1 (by decide)
  obtain ⟨f1, b1⟩ := S1.h3
  obtain ⟨g2, S2, r2⟩ := c_set_bad (d + 2) n S1 hf 0 7 (by decide)
  obtain ⟨f2, b2⟩ := S2.h3
  obtain ⟨g3, S3, r3⟩ := c_set_bad (d + 2) n S2 hf 1 10 (by decide)
  obtain ⟨f3, b3⟩ := S3.h3
  obtain ⟨g4, S4, r4⟩ := c_set_bad (d + 2) n S3 hf 2 1000 (by decide)
  obtain ⟨f4, b4⟩ := S4.h3
  by_cases m0 : mSet z 10 = 0
  · obtain ⟨g6, S6, r6⟩ := c_car_bad (d + 2) n S4 hG horn 0 a2
    obtain ⟨f6, b6⟩ := S6.h3
    obtain ⟨g7, S7, r7⟩ := c_car_bad (d + 2) n S6 hG 0 notch a3
    obtain ⟨f7, b7⟩ := S7.h3
    obtain ⟨g8, S8, r8⟩ := c_to_bad (d + 2) n S7 hf no a1
    obtain ⟨f8, b8⟩ := S8.h3
    obtain ⟨g9, S9, r9⟩ := c_run_bad (d + 1) n S8 hf 100 (by decide)
    obtain ⟨f9, b9⟩ := S9.h3
    obtain ⟨g10, S10, r10⟩ := c_snap_bad (d + 2) n S9 hf no a1
    obtain ⟨f10, b10⟩ := S10.h3
    obtain ⟨g11, S11, r11⟩ := c_tie_bad (d + 2) n S10 hf no a1
    obtain ⟨f11, b11⟩ := S11.h3
    obtain ⟨g12, S12, r12⟩ := c_ref_bad (d + 2) n S11 hf no a1
    refine ⟨g12, S12, fun v h' kk => ?_⟩
    refine Rn.steps 3 rfl ?_
    refine Rn.irem rfl rfl (by decide) ?_
    refine Rn.bf 1 rfl (hp) ?_
    refine Rn.steps 2 rfl ?_
    refine Rn.callO rfl rfl rfl hb rfl rfl rfl rfl rfl rfl (r1) ?_
    refine Rn.steps 6 rfl ?_
    refine Rn.irem rfl rfl (by decide) ?_
    refine Rn.bf 1 rfl (hp) ?_
    refine Rn.steps 1 rfl ?_
    refine Rn.callO rfl rfl rfl b1 rfl rfl rfl rfl rfl rfl (r2) ?_
    refine Rn.steps 6 rfl ?_
    refine Rn.irem rfl rfl (by decide) ?_
    refine Rn.bf 1 rfl (hp) ?_
    refine Rn.steps 1 rfl ?_
    refine Rn.callO rfl rfl rfl b2 rfl rfl rfl rfl rfl rfl (r3) ?_
    refine Rn.steps 6 rfl ?_
    refine Rn.irem rfl rfl (by decide) ?_
    refine Rn.bf 1 rfl (hp) ?_
    refine Rn.steps 1 rfl ?_
    refine Rn.callO rfl rfl rfl b3 rfl rfl rfl rfl rfl rfl (r4) ?_
    refine Rn.steps 4 rfl ?_
    refine Rn.callO rfl rfl rfl b4 rfl rfl rfl rfl rfl rfl (k_count_1 (d + 3) n S4) ?_
    refine Rn.bt 1 rfl (m0) ?_
    refine Rn.steps 3 rfl ?_
    refine Rn.callO rfl rfl rfl b4 rfl rfl rfl rfl rfl rfl (r6) ?_
    refine Rn.steps 5 rfl ?_
    refine Rn.callO rfl rfl rfl b6 rfl rfl rfl rfl rfl rfl (r7) ?_
    refine Rn.steps 4 rfl ?_
    refine Rn.callO rfl rfl rfl b7 rfl rfl rfl rfl rfl rfl (r8) ?_
    refine Rn.steps 5 rfl ?_
    refine Rn.irem rfl rfl (by decide) ?_
    refine Rn.bf 1 rfl (hp) ?_
    refine Rn.steps 1 rfl ?_
    refine Rn.callO rfl rfl rfl b8 rfl rfl rfl rfl rfl rfl (r9) ?_
    refine Rn.steps 4 rfl ?_
    refine Rn.callO rfl rfl rfl b9 rfl rfl rfl rfl rfl rfl (r10) ?_
    refine Rn.steps 4 rfl ?_
    refine Rn.callO rfl rfl rfl b10 rfl rfl rfl rfl rfl rfl (r11) ?_
    refine Rn.steps 4 rfl ?_
    refine Rn.callO rfl rfl rfl b11 rfl rfl rfl rfl rfl rfl (r12) ?_
    refine Rn.steps 5 rfl ?_
    exact Rn.lx [(0, .ref 3), (1, .int (nI x)), (2, .int no), (3, .int horn), (4, .int notch), (5, .int 1)] [0, 1, 2, 3, 4, 5] rfl (by decide) ⟨rfl, rfl, rfl, rfl, rfl, rfl, trivial⟩ kk
  · obtain ⟨g5, S5, r5⟩ := c_set_not (d + 2) n S4 hf (2 + nI (x % 5)) (by
      have e : (2 : Int32) + nI (x % 5) = nI (2 + x % 5) := nI_add 2 (x % 5)
      rw [e]
      unfold isV
      rw [if_pos rfl]
      exact decide_eq_true ⟨(nI_leI (a := 2) (by omega) (by omega)).mpr (by omega), (nI_leI (b := 6) (by omega) (by omega)).mpr (by omega)⟩) m0
    obtain ⟨f5, b5⟩ := S5.h3
    obtain ⟨g6, S6, r6⟩ := c_car_bad (d + 2) n S5 hG horn 0 a2
    obtain ⟨f6, b6⟩ := S6.h3
    obtain ⟨g7, S7, r7⟩ := c_car_bad (d + 2) n S6 hG 0 notch a3
    obtain ⟨f7, b7⟩ := S7.h3
    obtain ⟨g8, S8, r8⟩ := c_to_bad (d + 2) n S7 hf no a1
    obtain ⟨f8, b8⟩ := S8.h3
    obtain ⟨g9, S9, r9⟩ := c_run_bad (d + 1) n S8 hf 100 (by decide)
    obtain ⟨f9, b9⟩ := S9.h3
    obtain ⟨g10, S10, r10⟩ := c_snap_bad (d + 2) n S9 hf no a1
    obtain ⟨f10, b10⟩ := S10.h3
    obtain ⟨g11, S11, r11⟩ := c_tie_bad (d + 2) n S10 hf no a1
    obtain ⟨f11, b11⟩ := S11.h3
    obtain ⟨g12, S12, r12⟩ := c_ref_bad (d + 2) n S11 hf no a1
    refine ⟨g12, S12, fun v h' kk => ?_⟩
    refine Rn.steps 3 rfl ?_
    refine Rn.irem rfl rfl (by decide) ?_
    refine Rn.bf 1 rfl (hp) ?_
    refine Rn.steps 2 rfl ?_
    refine Rn.callO rfl rfl rfl hb rfl rfl rfl rfl rfl rfl (r1) ?_
    refine Rn.steps 6 rfl ?_
    refine Rn.irem rfl rfl (by decide) ?_
    refine Rn.bf 1 rfl (hp) ?_
    refine Rn.steps 1 rfl ?_
    refine Rn.callO rfl rfl rfl b1 rfl rfl rfl rfl rfl rfl (r2) ?_
    refine Rn.steps 6 rfl ?_
    refine Rn.irem rfl rfl (by decide) ?_
    refine Rn.bf 1 rfl (hp) ?_
    refine Rn.steps 1 rfl ?_
    refine Rn.callO rfl rfl rfl b2 rfl rfl rfl rfl rfl rfl (r3) ?_
    refine Rn.steps 6 rfl ?_
    refine Rn.irem rfl rfl (by decide) ?_
    refine Rn.bf 1 rfl (hp) ?_
    refine Rn.steps 1 rfl ?_
    refine Rn.callO rfl rfl rfl b3 rfl rfl rfl rfl rfl rfl (r4) ?_
    refine Rn.steps 4 rfl ?_
    refine Rn.callO rfl rfl rfl b4 rfl rfl rfl rfl rfl rfl (k_count_1 (d + 3) n S4) ?_
    refine Rn.bf 1 rfl (m0) ?_
    refine Rn.steps 5 rfl ?_
    refine Rn.irem rfl rfl (by decide) ?_
    rw [e5]
    refine Rn.steps 1 rfl ?_
    refine Rn.callO rfl rfl rfl b4 rfl rfl rfl rfl rfl rfl (r5) ?_
    refine Rn.steps 5 rfl ?_
    refine Rn.callO rfl rfl rfl b5 rfl rfl rfl rfl rfl rfl (r6) ?_
    refine Rn.steps 5 rfl ?_
    refine Rn.callO rfl rfl rfl b6 rfl rfl rfl rfl rfl rfl (r7) ?_
    refine Rn.steps 4 rfl ?_
    refine Rn.callO rfl rfl rfl b7 rfl rfl rfl rfl rfl rfl (r8) ?_
    refine Rn.steps 5 rfl ?_
    refine Rn.irem rfl rfl (by decide) ?_
    refine Rn.bf 1 rfl (hp) ?_
    refine Rn.steps 1 rfl ?_
    refine Rn.callO rfl rfl rfl b8 rfl rfl rfl rfl rfl rfl (r9) ?_
    refine Rn.steps 4 rfl ?_
    refine Rn.callO rfl rfl rfl b9 rfl rfl rfl rfl rfl rfl (r10) ?_
    refine Rn.steps 4 rfl ?_
    refine Rn.callO rfl rfl rfl b10 rfl rfl rfl rfl rfl rfl (r11) ?_
    refine Rn.steps 4 rfl ?_
    refine Rn.callO rfl rfl rfl b11 rfl rfl rfl rfl rfl rfl (r12) ?_
    refine Rn.steps 5 rfl ?_
    exact Rn.lx [(0, .ref 3), (1, .int (nI x)), (2, .int no), (3, .int horn), (4, .int notch), (5, .int 1)] [0, 1, 2, 3, 4, 5] rfl (by decide) ⟨rfl, rfl, rfl, rfl, rfl, rfl, trivial⟩ kk
theorem l_refB_o (hS : ST X c z t u0 u1 h) (hG : GP z P) (x : Nat) (hp : ¬ rm (nI x) 2 = 0) (no horn notch : Int32) : ∃ h1, ST X c z t u0 u1 h1 ∧ ∀ v h', Rn (d + 6) 89 374 [(0, .ref 3), (1, .int (nI x)), (2, .int no), (3, .int horn), (4, .int notch), (5, .int 1)] [] h1 n v h' n → Rn (d + 6) 89 268 [(0, .ref 3), (1, .int (nI x)), (2, .int no), (3, .int horn), (4, .int notch), (5, .int 1)] [] h n v h' n := by
  have hf := hG.2.2.2.2.1
  obtain ⟨fs, hb⟩ := hS.h3
  have r0 := k_around (d + 3) n hS hG 0
  rcases ar_or (8 * P) 0 0 with q0 | ⟨e, he, hz, q0⟩
  · rw [q0] at r0
    refine ⟨h, hS, fun v h' kk => ?_⟩
    refine Rn.steps 2 rfl ?_
    refine Rn.callO rfl rfl rfl hb rfl rfl rfl rfl rfl rfl (r0) ?_
    refine Rn.steps 8 rfl ?_
    exact Rn.lx [(0, .ref 3), (1, .int (nI x)), (2, .int no), (3, .int horn), (4, .int notch), (5, .int 1)] [0, 1, 2, 3, 4, 5] rfl (by decide) ⟨rfl, rfl, rfl, rfl, rfl, rfl, trivial⟩ kk
  · rw [q0] at r0
    obtain ⟨p, p1, p2, p3, p4, p5, p6, p7⟩ := pl_of hG he hz
    have r1 := k_of_0 (d + 3) n hS e he hz
    have r2 := k_of_1 (d + 3) n hS e he hz
    rw [p4] at r1
    rw [p5] at r2
    obtain ⟨g3, S3, r3⟩ := c_car_fit (d + 2) n hS hG (nI (p / 4)) (nI (p % 4)) p6 p p1 p7 (fun g => g.1 p3)
    obtain ⟨f3, b3⟩ := S3.h3
    have r4 := k_of_3 (d + 3) n S3 hf e he hz
    have n0 : ¬ nI e < 0 := nI_pos (by omega)
    rcases hf e he with w0 | w0
    · obtain ⟨g5, S5, r5⟩ := c_tie_not (d + 2) n S3 hf e he hz w0
      obtain ⟨f5, b5⟩ := S5.h3
      refine ⟨g5, S5, fun v h' kk => ?_⟩
      refine Rn.steps 2 rfl ?_
      refine Rn.callO rfl rfl rfl hb rfl rfl rfl rfl rfl rfl (r0) ?_
      refine Rn.bf 5 rfl (n0) ?_
      refine Rn.steps 4 rfl ?_
      refine Rn.callO rfl rfl rfl hb rfl rfl rfl rfl rfl rfl (r1) ?_
      refine Rn.steps 3 rfl ?_
      refine Rn.callO rfl rfl rfl hb rfl rfl rfl rfl rfl rfl (r2) ?_
      refine Rn.callO rfl rfl rfl hb rfl rfl rfl rfl rfl rfl (r3) ?_
      refine Rn.steps 5 rfl ?_
      refine Rn.callO rfl rfl rfl b3 rfl rfl rfl rfl rfl rfl (r4) ?_
      refine Rn.bf 2 rfl (by rw [w0]; decide) ?_
      refine Rn.steps 2 rfl ?_
      refine Rn.callO rfl rfl rfl b3 rfl rfl rfl rfl rfl rfl (r5) ?_
      refine Rn.steps 6 rfl ?_
      refine Rn.irem rfl rfl (by decide) ?_
      refine Rn.bf 1 rfl (hp) ?_
      refine Rn.steps 1 rfl ?_
      refine Rn.callO rfl rfl rfl b5 rfl rfl rfl rfl rfl rfl (k_of_out (d + 3) n S5 e he hz (8) (by decide)) ?_
      refine Rn.steps 5 rfl ?_
      exact Rn.lx [(0, .ref 3), (1, .int (nI x)), (2, .int no), (3, .int horn), (4, .int notch), (5, .int 1)] [0, 1, 2, 3, 4, 5] rfl (by decide) ⟨rfl, rfl, rfl, rfl, rfl, rfl, trivial⟩ kk
    · obtain ⟨g5, S5, r5⟩ := c_snap_not (d + 2) n S3 hf e he hz (by rw [w0]; decide)
      obtain ⟨f5, b5⟩ := S5.h3
      refine ⟨g5, S5, fun v h' kk => ?_⟩
      refine Rn.steps 2 rfl ?_
      refine Rn.callO rfl rfl rfl hb rfl rfl rfl rfl rfl rfl (r0) ?_
      refine Rn.bf 5 rfl (n0) ?_
      refine Rn.steps 4 rfl ?_
      refine Rn.callO rfl rfl rfl hb rfl rfl rfl rfl rfl rfl (r1) ?_
      refine Rn.steps 3 rfl ?_
      refine Rn.callO rfl rfl rfl hb rfl rfl rfl rfl rfl rfl (r2) ?_
      refine Rn.callO rfl rfl rfl hb rfl rfl rfl rfl rfl rfl (r3) ?_
      refine Rn.steps 5 rfl ?_
      refine Rn.callO rfl rfl rfl b3 rfl rfl rfl rfl rfl rfl (r4) ?_
      refine Rn.bt 2 rfl (w0) ?_
      refine Rn.steps 2 rfl ?_
      refine Rn.callO rfl rfl rfl b3 rfl rfl rfl rfl rfl rfl (r5) ?_
      refine Rn.steps 7 rfl ?_
      refine Rn.irem rfl rfl (by decide) ?_
      refine Rn.bf 1 rfl (hp) ?_
      refine Rn.steps 1 rfl ?_
      refine Rn.callO rfl rfl rfl b5 rfl rfl rfl rfl rfl rfl (k_of_out (d + 3) n S5 e he hz (8) (by decide)) ?_
      refine Rn.steps 5 rfl ?_
      exact Rn.lx [(0, .ref 3), (1, .int (nI x)), (2, .int no), (3, .int horn), (4, .int notch), (5, .int 1)] [0, 1, 2, 3, 4, 5] rfl (by decide) ⟨rfl, rfl, rfl, rfl, rfl, rfl, trivial⟩ kk
theorem l_refC_o (hS : ST X c z t u0 u1 h) (hG : GP z P) (x : Nat) (hx : x < 2 ^ 31) (hp : ¬ rm (nI x) 2 = 0) (no horn notch : Int32) (a1 : isC z no = false) (a2 : isPl (2 * z 0) horn 0 = false) (a3 : isPl (2 * z 0) 0 notch = false) : Rn (d + 6) 89 374 [(0, .ref 3), (1, .int (nI x)), (2, .int no), (3, .int horn), (4, .int notch), (5, .int 1)] [] h n (some (.int 1)) h n := by
  obtain ⟨fs, hb⟩ := hS.h3
  have e9 : rm (nI x) 99 = nI (x % 99) := rm_n (b := 99) hx (by omega) (by omega)
  have k1 := k_around (d + 3) n hS hG 10
  have k2 := k_around (d + 3) n hS hG (-1 - nI (x % 99))
  have h6 := hG.2.2.1
  rw [show (10 : Int32) = nI 10 from rfl, ar_end (8 * P) 0 10 (by rw [Nat.zero_add, rk_all hG]; have := tpm_le z 10; omega) (by omega)] at k1
  rw [ar_neg (8 * P) 0 (x % 99) (by omega)] at k2
  refine Rn.steps 5 rfl ?_
  refine Rn.callO rfl rfl rfl hb rfl rfl rfl rfl rfl rfl (k_of_bad (d + 3) n hS no 99 a1) ?_
  refine Rn.steps 5 rfl ?_
  refine Rn.callO rfl rfl rfl hb rfl rfl rfl rfl rfl rfl (k_at_bad (d + 3) n hS hG horn 0 a2) ?_
  refine Rn.steps 5 rfl ?_
  refine Rn.callO rfl rfl rfl hb rfl rfl rfl rfl rfl rfl (k_at_bad (d + 3) n hS hG 0 notch a3) ?_
  refine Rn.steps 4 rfl ?_
  refine Rn.callO rfl rfl rfl hb rfl rfl rfl rfl rfl rfl (k1) ?_
  refine Rn.steps 6 rfl ?_
  refine Rn.irem rfl rfl (by decide) ?_
  rw [e9]
  refine Rn.steps 1 rfl ?_
  refine Rn.callO rfl rfl rfl hb rfl rfl rfl rfl rfl rfl (k2) ?_
  refine Rn.steps 5 rfl ?_
  refine Rn.irem rfl rfl (by decide) ?_
  refine Rn.bf 1 rfl (hp) ?_
  refine Rn.steps 1 rfl ?_
  refine Rn.callO rfl rfl rfl hb rfl rfl rfl rfl rfl rfl (k_count_out (d + 3) n hS (15) (by decide)) ?_
  refine Rn.steps 5 rfl ?_
  refine Rn.irem rfl rfl (by decide) ?_
  refine Rn.bf 1 rfl (hp) ?_
  refine Rn.steps 1 rfl ?_
  refine Rn.callO rfl rfl rfl hb rfl rfl rfl rfl rfl rfl (k_me_bad (d + 1) n hS (4) (by decide)) ?_
  refine Rn.steps 5 rfl ?_
  refine Rn.irem rfl rfl (by decide) ?_
  refine Rn.bf 1 rfl (hp) ?_
  refine Rn.steps 1 rfl ?_
  refine Rn.callO rfl rfl rfl hb rfl rfl rfl rfl rfl rfl (k_save_bad (d + 3) n hS (2) (by decide)) ?_
  refine Rn.steps 5 rfl ?_
  refine Rn.irem rfl rfl (by decide) ?_
  refine Rn.bf 1 rfl (hp) ?_
  refine Rn.steps 1 rfl ?_
  refine Rn.callO rfl rfl rfl hb rfl rfl rfl rfl rfl rfl (k_res_bad (d + 3) n hS (2) (by decide)) ?_
  refine Rn.steps 8 rfl ?_
  refine Rn.callO rfl rfl rfl hb rfl rfl rfl rfl rfl rfl (k_wipe (d + 4) n hS) ?_
  refine Rn.steps 2 rfl ?_
  refine Rn.callO rfl rfl rfl hb rfl rfl rfl rfl rfl rfl (k_co d n hS) ?_
  refine Rn.steps 3 rfl ?_
  refine Rn.callO rfl rfl rfl hb rfl rfl rfl rfl rfl rfl (k_fault (d + 2) n hS) ?_
  refine Rn.steps 3 rfl ?_
  exact Rn.retE rfl rfl rfl rfl rfl
theorem l_refAny (hS : ST X c z t u0 u1 h) (hG : GP z P) (x : Nat) (hx : x < 2 ^ 31) : ∃ h', ST X c z t u0 u1 h' ∧ Rn (d + 6) 89 0 [(0, .ref 3), (1, .int (nI x))] [] h n (some (.int 1)) h' n := by
  obtain ⟨fs, hb⟩ := hS.h3
  have e9 : rm (nI x) 99 = nI (x % 99) := rm_n (b := 99) hx (by omega) (by omega)
  have e2 : rm (nI x) 2 = nI (x % 2) := rm_n (b := 2) hx (by omega) (by omega)
  by_cases hp : rm (nI x) 2 = 0
  · have a1 : isC z (-1 - nI (x % 99)) = false := (isC_lo (ng_lt (by omega)))
    have a2 : isPl (2 * z 0) (-1 - nI (x % 99)) 0 = false := (isPl_lo (Or.inl (ng_lt (by omega))))
    have a3 : isPl (2 * z 0) 0 (-1 - nI (x % 99)) = false := (isPl_lo (Or.inr (ng_lt (by omega))))
    obtain ⟨g1, S1, A⟩ := l_refA_e d n hS hG x hx hp _ _ _ a1 a2 a3
    obtain ⟨g2, S2, B⟩ := l_refB_e d n S1 hG x hp (-1 - nI (x % 99)) (-1 - nI (x % 99)) (-1 - nI (x % 99))
    refine ⟨g2, S2, ?_⟩
    have C := A _ _ (B _ _ (l_refC_e d n S2 hG x hx hp _ _ _ a1 a2 a3))
    refine Rn.steps 2 rfl ?_
    refine Rn.irem rfl rfl (by decide) ?_
    refine Rn.bt 1 rfl (hp) ?_
    refine Rn.steps 3 rfl ?_
    refine Rn.irem rfl rfl (by decide) ?_
    rw [e9]
    refine Rn.steps 5 rfl ?_
    refine Rn.irem rfl rfl (by decide) ?_
    refine Rn.bt 1 rfl (hp) ?_
    refine Rn.steps 3 rfl ?_
    refine Rn.irem rfl rfl (by decide) ?_
    rw [e9]
    refine Rn.steps 5 rfl ?_
    refine Rn.irem rfl rfl (by decide) ?_
    refine Rn.bt 1 rfl (hp) ?_
    refine Rn.steps 3 rfl ?_
    refine Rn.irem rfl rfl (by decide) ?_
    rw [e9]
    refine Rn.steps 3 rfl ?_
    exact Rn.lx [(0, .ref 3), (1, .int (nI x)), (2, .int (-1 - nI (x % 99))), (3, .int (-1 - nI (x % 99))), (4, .int (-1 - nI (x % 99)))] [0, 1, 2, 3, 4] rfl (by decide) ⟨rfl, rfl, rfl, rfl, rfl, trivial⟩ C
  · have a1 : isC z (10 + nI (x % 99)) = false := (isC_hi z (x % 99) (by omega))
    have a2 : isPl (2 * z 0) (2 * z 0 + nI (x % 99)) 0 = false := (isPl_hi1 hG (x % 99) (by omega) 0)
    have a3 : isPl (2 * z 0) 0 (4 + nI (x % 99)) = false := (isPl_hi2 _ 0 (x % 99) (by omega))
    obtain ⟨g1, S1, A⟩ := l_refA_o d n hS hG x hx hp _ _ _ a1 a2 a3
    obtain ⟨g2, S2, B⟩ := l_refB_o d n S1 hG x hp (10 + nI (x % 99)) (2 * z 0 + nI (x % 99)) (4 + nI (x % 99))
    refine ⟨g2, S2, ?_⟩
    have C := A _ _ (B _ _ (l_refC_o d n S2 hG x hx hp _ _ _ a1 a2 a3))
    refine Rn.steps 2 rfl ?_
    refine Rn.irem rfl rfl (by decide) ?_
    refine Rn.bf 1 rfl (hp) ?_
    refine Rn.steps 3 rfl ?_
    refine Rn.irem rfl rfl (by decide) ?_
    rw [e9]
    refine Rn.steps 4 rfl ?_
    refine Rn.irem rfl rfl (by decide) ?_
    refine Rn.bf 1 rfl (hp) ?_
    refine Rn.steps 2 rfl ?_
    refine Rn.callO rfl rfl rfl hb rfl rfl rfl rfl rfl rfl (k_count_0 (d + 3) n hS) ?_
    refine Rn.steps 2 rfl ?_
    refine Rn.irem rfl rfl (by decide) ?_
    rw [e9]
    refine Rn.steps 4 rfl ?_
    refine Rn.irem rfl rfl (by decide) ?_
    refine Rn.bf 1 rfl (hp) ?_
    refine Rn.steps 3 rfl ?_
    refine Rn.irem rfl rfl (by decide) ?_
    rw [e9]
    refine Rn.steps 2 rfl ?_
    exact Rn.lx [(0, .ref 3), (1, .int (nI x)), (2, .int (10 + nI (x % 99))), (3, .int (2 * z 0 + nI (x % 99))), (4, .int (4 + nI (x % 99)))] [0, 1, 2, 3, 4] rfl (by decide) ⟨rfl, rfl, rfl, rfl, rfl, trivial⟩ C
theorem l_refuses (hS : ST X c z t u0 u1 h) (hG : GP z P) (x : Nat) (hx : x < 2 ^ 31) : ∃ h', ST X c z t u0 u1 h' ∧ Rn (d + 7) 90 0 [(0, .ref 3), (1, .int (nI x))] [] h n (some (.int 1)) h' n := by
  have hf := hG.2.2.2.2.1
  obtain ⟨fs, hb⟩ := hS.h3
  obtain ⟨g1, S1, r1⟩ := l_refAny d n hS hG x hx
  obtain ⟨f1, b1⟩ := S1.h3
  refine ⟨g1, S1, ?_⟩
  have r0 := l_seen (d + 3) n hS hf
  have r2 := l_seen (d + 3) n S1 hf
  generalize snF z = sn at r0 r2
  refine Rn.steps 1 rfl ?_
  refine Rn.call rfl rfl rfl (r0) ?_
  refine Rn.steps 3 rfl ?_
  refine Rn.callO rfl rfl rfl hb rfl rfl rfl rfl rfl rfl (k_count_14 (d + 4) n hS) ?_
  refine Rn.steps 3 rfl ?_
  refine Rn.call rfl rfl rfl (r1) ?_
  refine Rn.steps 2 rfl ?_
  refine Rn.call rfl rfl rfl (r2) ?_
  refine Rn.bt 3 rfl (lg0.mpr rfl) ?_
  refine Rn.steps 2 rfl ?_
  refine Rn.callO rfl rfl rfl b1 rfl rfl rfl rfl rfl rfl (k_count_14 (d + 4) n S1) ?_
  refine Rn.bt 2 rfl (rfl) ?_
  refine Rn.steps 2 rfl ?_
  exact Rn.retE rfl rfl rfl rfl rfl
end LAW2
