/-! what looks, texts, undo, slots: both alike -/
section CALLS2
variable {X : xLC} {B : Nat} {hp : xHp}
theorem bi_of {b : Bool} {p : Prop} [Decidable p] (h : b = true ↔ p) : bi b = if p then 1 else 0 := by
  by_cases g : p
  · rw [if_pos g, h.mpr g]; rfl
  · rw [if_neg g, show b = false by cases hb : b with | false => rfl | true => exact (g (h.mp hb)).elim]; rfl
theorem in_range {y : Int32} {N : Nat} (hN : N < 2 ^ 30) (h : ¬ (y.toInt < 0 ∨ (N : Int) < y.toInt)) : ∃ k, k ≤ N ∧ y = nI k := by
  refine ⟨y.toInt.toNat, by omega, ?_⟩
  apply Int32.toInt_inj.mp
  rw [nI_toInt (by omega)]
  omega
theorem s_of (h : SG X B hp) (x y : Int32) : Both 68 128 [(1, .int x), (2, .int y)] X B hp := by
  obtain ⟨A, w, c, R, R2, hr, Z, S, s, q, P, ty, rfl, hG, hX, K⟩ := h
  have hf := hG.1.2.2.2.2.1
  have fin := fin_look hG hX K (A' := A) (w' := w) (s := s) rfl rfl rfl rfl rfl rfl rfl (B' := B + 28) (by omega)
  cases hC : isC (A 0) x with
  | false => exact ⟨_, _, _, b_of_bad 6 147 x y hC, c_of_bad 6 147 A w _ x y hC, fin, (FF_q (Or.inl (by omega))).trans hX, ⟨_, rfl⟩⟩
  | true =>
    obtain ⟨c', hc, e, hz⟩ := isC_of hC
    subst e
    by_cases hy : y.toInt < 0 ∨ 7 < y.toInt
    · exact ⟨_, _, _, b_of_out 6 147 c' hc hz y hy, c_of_out 6 147 A w _ c' hc hz y hy, fin, (FF_q (Or.inl (by omega))).trans hX, ⟨_, rfl⟩⟩
    · obtain ⟨k, k1, k2⟩ := in_range (N := 7) (by omega) hy
      subst k2
      rcases (by omega : k = 0 ∨ k = 1 ∨ k = 2 ∨ k = 3 ∨ k = 4 ∨ k = 5 ∨ k = 6 ∨ k = 7) with g | g | g | g | g | g | g | g <;> subst g
      · exact ⟨_, _, _, b_of_0 6 147 c' hc hz, c_of_0 6 147 A w _ c' hc hz, fin, (FF_q (Or.inl (by omega))).trans hX, ⟨_, rfl⟩⟩
      · exact ⟨_, _, _, b_of_1 6 147 c' hc hz, c_of_1 6 147 A w _ c' hc hz, fin, (FF_q (Or.inl (by omega))).trans hX, ⟨_, rfl⟩⟩
      · exact ⟨_, _, _, b_of_2 6 147 c' hc hz, c_of_2 6 147 A w _ c' hc hz, fin, (FF_q (Or.inl (by omega))).trans hX, ⟨_, rfl⟩⟩
      · exact ⟨_, _, _, b_of_3 6 147 c' hc hz hf, c_of_3 6 147 A w _ c' hc hz, fin, (FF_q (Or.inl (by omega))).trans hX, ⟨_, rfl⟩⟩
      · exact ⟨_, _, _, b_of_4 6 147 c' hc hz, c_of_4 6 147 A w _ c' hc hz, fin, (FF_q (Or.inl (by omega))).trans hX, ⟨_, rfl⟩⟩
      · exact ⟨_, _, _, b_of_5 6 147 c' hc hz, c_of_5 6 147 A w _ c' hc hz, fin, (FF_q (Or.inl (by omega))).trans hX, ⟨_, rfl⟩⟩
      · exact ⟨_, _, _, b_of_6 6 147 c' hc hz, c_of_6 6 147 A w _ c' hc hz, fin, (FF_q (Or.inl (by omega))).trans hX, ⟨_, rfl⟩⟩
      · refine ⟨_, _, _, b_of_7 6 147 c' hc hz, Rn.val ?_ (c_of_7 6 147 A w _ c' hc hz), fin, (FF_q (Or.inl (by omega))).trans hX, ⟨_, rfl⟩⟩
        refine (bi_of ?_).symm
        unfold guF
        rw [Bool.or_eq_true, decide_eq_true_eq, decide_eq_true_eq]
theorem s_at (h : SG X B hp) (x y : Int32) : Both 69 129 [(1, .int x), (2, .int y)] X B hp := by
  obtain ⟨A, w, c, R, R2, hr, Z, S, s, q, P, ty, rfl, hG, hX, K⟩ := h
  have fin := fin_look hG hX K (A' := A) (w' := w) (s := s) rfl rfl rfl rfl rfl rfl rfl (B' := B + 28) (by omega)
  have h6 := hG.1.2.2.1
  cases hC : isPl (2 * A 0 0) x y with
  | false => exact ⟨_, _, _, b_at_bad 6 147 P hG.1.1 hG.1.2.1 h6 x y hC, Rn.val (by rw [hC]; rfl) (c_at 5 147 A w _ x y), fin, (FF_q (Or.inl (by omega))).trans hX, ⟨_, rfl⟩⟩
  | true =>
    obtain ⟨p, p1, p2⟩ := isPl_p hG.1.1 hG.1.2.1 h6 hC
    exact ⟨_, _, _, b_at 6 147 P hG.1.1 hG.1.2.1 h6 x y hC p (by omega) p2, Rn.val (by rw [hC, p2]; exact (hG.1.fin _).symm) (c_at 5 147 A w _ x y), fin, (FF_q (Or.inl (by omega))).trans hX, ⟨_, rfl⟩⟩
theorem s_around (h : SG X B hp) (x : Int32) : Both 70 130 [(1, .int x)] X B hp := by
  obtain ⟨A, w, c, R, R2, hr, Z, S, s, q, P, ty, rfl, hG, hX, K⟩ := h
  have fin := fin_look hG hX K (A' := A) (w' := w) (s := s) rfl rfl rfl rfl rfl rfl rfl (B' := B + 28) (by omega)
  exact ⟨_, _, _, b_around 6 147 P hG.1.1 hG.1.2.2.1 x, Rn.val (hG.1.around x).symm (c_around 5 147 A w _ x P hG.1.1 hG.1.2.2.1), fin, (FF_q (Or.inl (by omega))).trans hX, ⟨_, rfl⟩⟩
theorem s_count (h : SG X B hp) (x : Int32) : Both 71 132 [(1, .int x)] X B hp := by
  obtain ⟨A, w, c, R, R2, hr, Z, S, s, q, P, ty, rfl, hG, hX, K⟩ := h
  have fin := fin_look hG hX K (A' := A) (w' := w) (s := s) rfl rfl rfl rfl rfl rfl rfl (B' := B + 28) (by omega)
  by_cases hy : x.toInt < 0 ∨ 14 < x.toInt
  · exact ⟨_, _, _, b_count_out 6 147 x hy, c_count_out 5 147 A w _ x hy, fin, (FF_q (Or.inl (by omega))).trans hX, ⟨_, rfl⟩⟩
  · obtain ⟨k, k1, k2⟩ := in_range (N := 14) (by omega) hy
    subst k2
    rcases (by omega : k = 0 ∨ k = 1 ∨ k = 2 ∨ k = 3 ∨ k = 4 ∨ k = 5 ∨ k = 6 ∨ k = 7 ∨ k = 8 ∨ k = 9 ∨ k = 10 ∨ k = 11 ∨ k = 12 ∨ k = 13 ∨ k = 14) with g | g | g | g | g | g | g | g | g | g | g | g | g | g | g <;> subst g
    · exact ⟨_, _, _, b_count_0 6 147, c_count_0 5 147 A w _, fin, (FF_q (Or.inl (by omega))).trans hX, ⟨_, rfl⟩⟩
    · exact ⟨_, _, _, b_count_1 6 147, c_count_1 5 147 A w _, fin, (FF_q (Or.inl (by omega))).trans hX, ⟨_, rfl⟩⟩
    · exact ⟨_, _, _, b_count_2 6 147, c_count_2 5 147 A w _, fin, (FF_q (Or.inl (by omega))).trans hX, ⟨_, rfl⟩⟩
    · exact ⟨_, _, _, b_count_3 6 147, c_count_3 5 147 A w _, fin, (FF_q (Or.inl (by omega))).trans hX, ⟨_, rfl⟩⟩
    · exact ⟨_, _, _, b_count_4 6 147, c_count_4 5 147 A w _, fin, (FF_q (Or.inl (by omega))).trans hX, ⟨_, rfl⟩⟩
    · exact ⟨_, _, _, b_count_5 6 147, c_count_5 5 147 A w _, fin, (FF_q (Or.inl (by omega))).trans hX, ⟨_, rfl⟩⟩
    · exact ⟨_, _, _, b_count_6 6 147, c_count_6 5 147 A w _, fin, (FF_q (Or.inl (by omega))).trans hX, ⟨_, rfl⟩⟩
    · exact ⟨_, _, _, b_count_7 6 147, c_count_7 5 147 A w _, fin, (FF_q (Or.inl (by omega))).trans hX, ⟨_, rfl⟩⟩
    · exact ⟨_, _, _, b_count_8 6 147, c_count_8 5 147 A w _, fin, (FF_q (Or.inl (by omega))).trans hX, ⟨_, rfl⟩⟩
    · exact ⟨_, _, _, b_count_9 6 147, c_count_9 5 147 A w _, fin, (FF_q (Or.inl (by omega))).trans hX, ⟨_, rfl⟩⟩
    · exact ⟨_, _, _, b_count_10 6 147, c_count_10 5 147 A w _, fin, (FF_q (Or.inl (by omega))).trans hX, ⟨_, rfl⟩⟩
    · exact ⟨_, _, _, b_count_11 6 147, c_count_11 5 147 A w _, fin, (FF_q (Or.inl (by omega))).trans hX, ⟨_, rfl⟩⟩
    · exact ⟨_, _, _, b_count_12 6 147, c_count_12 5 147 A w _, fin, (FF_q (Or.inl (by omega))).trans hX, ⟨_, rfl⟩⟩
    · exact ⟨_, _, _, b_count_13 6 147, c_count_13 5 147 A w _, fin, (FF_q (Or.inl (by omega))).trans hX, ⟨_, rfl⟩⟩
    · exact ⟨_, _, _, b_count_14 6 147, Rn.val K.1 (c_count_14 5 147 A w _), fin, (FF_q (Or.inl (by omega))).trans hX, ⟨_, rfl⟩⟩
theorem s_why (h : SG X B hp) : Both 72 117 [] X B hp := by
  obtain ⟨A, w, c, R, R2, hr, Z, S, s, q, P, ty, rfl, hG, hX, K⟩ := h
  have m := k_why 5 147 A w (pOn (A 4) (w 1) (bO (nI c) R R2 (A 3) (tOn (A 0) s q))) (A 0) (A 5) (w 2) P hG.1.1 hG.1.2.1 hG.1.2.2.1
  rw [← xeta] at m
  exact ⟨_, _, _, b_why 5 147 hG.1.2.2.2.2.1 K.2.2.2.2.2.2.2.1, Rn.val hG.1.gwhy.symm m, fin_look hG hX K (A' := mZ A (A 0) _) (w' := upd w 2 _) rfl rfl rfl rfl rfl rfl rfl (by omega), (FF_q (Or.inl (by omega))).trans hX, ⟨_, rfl⟩⟩
theorem s_free (h : SG X B hp) : Both 74 137 [] X B hp := by
  obtain ⟨A, w, c, R, R2, hr, Z, S, s, q, P, ty, rfl, hG, hX, K⟩ := h
  obtain ⟨a', x', m⟩ := k_free 3 147 A w (pOn (A 4) (w 1) (bO (nI c) R R2 (A 3) (tOn (A 0) s q))) (A 0) (A 5) (w 2) P hG.1.1 hG.1.2.1 hG.1.2.2.1
  rw [← xeta] at m
  exact ⟨_, _, _, b_free 3 147 P hG.1.1 hG.1.2.2.1, Rn.val (hG.1.free _ (Nat.le_refl _)).symm m, fin_look hG hX K (A' := mZ A (A 0) a') (w' := upd w 2 x') rfl rfl rfl rfl rfl rfl rfl (by omega), (FF_q (Or.inl (by omega))).trans hX, ⟨_, rfl⟩⟩
theorem s_ffree (h : SG X B hp) : Both 75 138 [] X B hp := by
  obtain ⟨A, w, c, R, R2, hr, Z, S, s, q, P, ty, rfl, hG, hX, K⟩ := h
  obtain ⟨a', x', m⟩ := k_firstFree 3 147 A w (pOn (A 4) (w 1) (bO (nI c) R R2 (A 3) (tOn (A 0) s q))) (A 0) (A 5) (w 2) P hG.1.1 hG.1.2.1 hG.1.2.2.1
  rw [← xeta] at m
  exact ⟨_, _, _, b_ffree 3 147 P hG.1.1 hG.1.2.2.1, Rn.val (hG.1.ffree _ 0 (by omega)).symm m, fin_look hG hX K (A' := mZ A (A 0) a') (w' := upd w 2 x') rfl rfl rfl rfl rfl rfl rfl (by omega), (FF_q (Or.inl (by omega))).trans hX, ⟨_, rfl⟩⟩
theorem s_period (h : SG X B hp) : Both 76 140 [] X B hp := by
  obtain ⟨A, w, c, R, R2, hr, Z, S, s, q, P, ty, rfl, hG, hX, K⟩ := h
  obtain ⟨a', x', m⟩ := k_period 5 147 A w (pOn (A 4) (w 1) (bO (nI c) R R2 (A 3) (tOn (A 0) s q))) (A 0) (A 5) (w 2) P hG.1.1 hG.1.2.1 hG.1.2.2.1
  rw [← xeta] at m
  have fin := fin_look hG hX K (A' := mZ A (A 0) a') (w' := upd w 2 x') (s := s) rfl rfl rfl rfl rfl rfl rfl (B' := B + 28) (by omega)
  have e := hG.1.perR
  by_cases g : tkF (A 0) 10 = 0
  · rw [if_pos g] at e
    exact ⟨_, _, _, b_per_no 4 147 g, Rn.val e.symm m, fin, (FF_q (Or.inl (by omega))).trans hX, ⟨_, rfl⟩⟩
  · rw [if_neg g] at e
    exact ⟨_, _, _, b_per 4 147 g, Rn.val e.symm m, fin, (FF_q (Or.inl (by omega))).trans hX, ⟨_, rfl⟩⟩
theorem s_lasts (h : SG X B hp) : Both 77 142 [] X B hp := by
  obtain ⟨A, w, c, R, R2, hr, Z, S, s, q, P, ty, rfl, hG, hX, K⟩ := h
  obtain ⟨L, L1, L2, L3, L4⟩ := le_least hG.1.2.2.2.2.2.2.1 10 (Nat.le_refl _)
  obtain ⟨a', x', m⟩ := k_lasts 5 147 A w (pOn (A 4) (w 1) (bO (nI c) R R2 (A 3) (tOn (A 0) s q))) (A 0) (A 5) (w 2) P hG.1.1 hG.1.2.1 hG.1.2.2.1 L L2 L1
  rw [← xeta] at m
  have fin := fin_look hG hX K (A' := mZ A (A 0) a') (w' := upd w 2 x') (s := s) rfl rfl rfl rfl rfl rfl rfl (B' := B + 28) (by omega)
  have e := hG.1.las L2 L1
  have hf := hG.1.2.2.2.2.1
  have hg := K.2.2.2.2.2.2.2.1
  by_cases g : hiF (A 0) = 0
  · rw [if_pos g] at e
    have ht : ¬ tpm (A 0) 10 = 0 := by
      intro q0
      unfold hiF at g
      rw [if_pos (hG.1.tk0.mpr q0)] at g
      exact absurd g (by decide)
    rw [if_neg ht] at L4
    exact ⟨_, _, _, b_las 4 147 hf hg g L L4 (by omega), Rn.val e.symm m, fin, (FF_q (Or.inl (by omega))).trans hX, ⟨_, rfl⟩⟩
  · rw [if_neg g] at e
    exact ⟨_, _, _, b_las_0 4 147 hf hg g, Rn.val e.symm m, fin, (FF_q (Or.inl (by omega))).trans hX, ⟨_, rfl⟩⟩
theorem s_meeting (h : SG X B hp) (y : Int32) : Both 73 135 [(1, .int y)] X B hp := by
  obtain ⟨A, w, c, R, R2, hr, Z, S, s, q, P, ty, rfl, hG, hX, K⟩ := h
  cases hy : decide (0 ≤ y ∧ y ≤ 3) with
  | false => exact ⟨_, _, _, b_me_bad 4 147 y hy, c_meeting_bad 7 147 A w _ y hy, fin_look hG hX K (A' := A) (w' := w) rfl rfl rfl rfl rfl rfl rfl (by omega), (FF_q (Or.inl (by omega))).trans hX, ⟨_, rfl⟩⟩
  | true =>
    obtain ⟨a', x', m⟩ := k_meeting 4 147 A w (pOn (A 4) (w 1) (bO (nI c) R R2 (A 3) (tOn (A 0) s q))) (A 0) (A 5) (w 2) P hG.1.1 hG.1.2.1 hG.1.2.2.1 y hy
    rw [← xeta] at m
    have fin := fin_look hG hX K (A' := mZ A (A 0) a') (w' := upd w 2 x') (s := s) rfl rfl rfl rfl rfl rfl rfl (B' := B + 28) (by omega)
    have e1 := hG.1.gmiR
    have e2 := hG.1.gmi
    have e3 := hG.1.gfm 100
    have h2 := hG.1.2.1
    have h6 := hG.1.2.2.1
    unfold meR at m
    rw [← e1, e2] at m
    by_cases g : srF (mt P (pl (A 0) 10)) 100 0 < 100
    · rw [if_pos g] at e3
      obtain ⟨ct, c1, c2, c3⟩ := hG.1.con rfl g
      have n6 : ¬ fM (tkF (A 0) 10) (2 * A 0 0) 100 1 (tkF (A 0) 10) = -6 := by rw [e3]; exact nI_n6 _ (by omega)
      rw [if_neg n6, c3] at m
      have hcn : ¬ mcF (mts (aT (bIt (2 * A 0 0) (srF (mt P (pl (A 0) 10)) 100 0) (tkF (A 0) 10))) (2 * A 0 0)) (2 * P) 0 = -6 := by rw [c2]; exact nI_n6 _ (by omega)
      have x4 : (4 : Int32) * nI ct = nI (4 * ct) := by rw [show (4 : Int32) = nI 4 from rfl, pk_mul]
      have k4 := place_ok h2 h6 (show 4 * ct < 8 * P by omega)
      obtain ⟨hy1, hy2⟩ := of_decide_eq_true hy
      obtain ⟨k, k1, k2⟩ := nI_of2 (M := 3) (n := 3) rfl (Int32.not_lt.mpr hy1) hy2
      subst k2
      rcases (by omega : k = 0 ∨ k = 1 ∨ k = 2 ∨ k = 3) with u | u | u | u <;> subst u
      · rw [if_pos (show nI 0 = 0 from rfl)] at m
        exact ⟨_, _, _, b_me_0 4 147, m, fin, (FF_q (Or.inl (by omega))).trans hX, ⟨_, rfl⟩⟩
      · rw [if_neg (show ¬ nI 1 = 0 by decide), if_pos (show nI 1 = 1 from rfl)] at m
        exact ⟨_, _, _, b_me_1 4 147 P hG.1.1 h2 h6 _ g e3, Rn.val c2.symm m, fin, (FF_q (Or.inl (by omega))).trans hX, ⟨_, rfl⟩⟩
      · rw [if_neg (show ¬ nI 2 = 0 by decide), if_neg (show ¬ nI 2 = 1 by decide), if_pos (show nI 2 = 2 from rfl), x4, ← hG.1.tt _ (show 4 * ct < 8 * P by omega)] at m
        have b := b_me_2 (A := A) (w := w) (p := A 4) (ln := w 1) (ch := nI c) (R := R) (R2 := R2) (sv := A 3) (s := s) (q := q) 4 147 P hG.1.1 h2 h6 _ g e3 hcn
        rw [c2, x4] at b
        exact ⟨_, _, _, b, m, fin, (FF_q (Or.inl (by omega))).trans hX, ⟨_, rfl⟩⟩
      · rw [if_neg (show ¬ nI 3 = 0 by decide), if_neg (show ¬ nI 3 = 1 by decide), if_neg (show ¬ nI 3 = 2 by decide), x4, hG.1.1, k4.2.1, ← hG.1.1, ← hG.1.tt _ k4.2.2.2.2] at m
        have b := b_me_3 (A := A) (w := w) (p := A 4) (ln := w 1) (ch := nI c) (R := R) (R2 := R2) (sv := A 3) (s := s) (q := q) 4 147 P hG.1.1 h2 h6 _ g e3 hcn
        rw [c2, x4, show pF (2 * A 0 0) (nI (4 * ct)) = nI (oN P (4 * ct)) by rw [hG.1.1]; exact k4.2.2.1] at b
        exact ⟨_, _, _, b, m, fin, (FF_q (Or.inl (by omega))).trans hX, ⟨_, rfl⟩⟩
    · rw [if_neg g] at e3
      rw [if_pos e3] at m
      exact ⟨_, _, _, b_me_no 4 147 y hy e3, m, fin, (FF_q (Or.inl (by omega))).trans hX, ⟨_, rfl⟩⟩
/-! the pad -/
theorem Kp.pad {a1 a2 a3 a4 a4' : Nat → Int32} {w0 w1 : Int32} {c : Nat} {R R2 : Nat → Option Nat} {hr : Nat → Nat} {Z S : Nat → Nat → Int32} {q : xHp} {ty ty' : Nat} (K : Kp a1 a2 a3 a4 w0 w1 c R R2 hr Z S q ty B) (h8 : ty' ≤ 80) (hp : Pc a4') : Kp a1 a2 a3 a4' w0 (nI ty') c R R2 hr Z S q ty' B := by
  obtain ⟨k0, k1, k2, k3, k4, k5, k6, k7, k8, k9, k10, k11, k12⟩ := K
  exact ⟨k0, k1, k2, k3, k4, k5, k6, k7, rfl, h8, hp, k11, k12⟩
theorem s_put (h : SG X B hp) (x : Int64) : Both 78 143 [(1, .long x)] X B hp := by
  obtain ⟨A, w, c, R, R2, hr, Z, S, s, q, P, ty, rfl, hG, hX, K⟩ := h
  have hw : w 1 = nI ty := K.2.2.2.2.2.2.2.2.1
  have h80 : ty ≤ 80 := K.2.2.2.2.2.2.2.2.2.1
  have hpc : Pc (A 4) := K.2.2.2.2.2.2.2.2.2.2.1
  have fin := fin_look hG hX K (A' := A) (w' := w) (s := s) rfl rfl rfl rfl rfl rfl rfl (B' := B + 28) (by omega)
  have h8 : (ccF 8 x 0).getD 0 ≤ 8 := by
    cases hc : ccF 8 x 0 with
    | none => exact Nat.zero_le _
    | some m => have := ccF_le 8 x 0 m hc; show m ≤ 8; omega
  by_cases h0 : (ccF 8 x 0).getD 0 = 0
  · have b := b_put_bad (A := A) (w := w) (p := A 4) (ch := nI c) (R := R) (R2 := R2) (sv := A 3) (z := A 0) (s := s) (q := q) 6 147 ty x h0
    rw [← hw] at b
    exact ⟨_, _, _, b, c_put_bad 7 147 A w _ x h0, fin, (FF_q (Or.inl (by omega))).trans hX, ⟨_, rfl⟩⟩
  · by_cases hm : 80 < ty + (ccF 8 x 0).getD 0
    · have b := b_put_many (A := A) (w := w) (p := A 4) (ch := nI c) (R := R) (R2 := R2) (sv := A 3) (z := A 0) (s := s) (q := q) 6 147 ty _ h80 x rfl (by omega) h8 hm
      rw [← hw] at b
      exact ⟨_, _, _, b, c_put_many 7 147 A w _ ty _ hw h80 x rfl (by omega) h8 hm, fin, (FF_q (Or.inl (by omega))).trans hX, ⟨_, rfl⟩⟩
    · have b := b_put (A := A) (w := w) (p := A 4) (ch := nI c) (R := R) (R2 := R2) (sv := A 3) (z := A 0) (s := s) (q := q) 6 147 ty _ x rfl (by omega) (by omega)
      rw [← hw] at b
      refine ⟨_, _, _, b, c_put 7 147 A w _ ty _ hw x rfl (by omega) (by omega), ?_, (FF_q (Or.inl (by omega))).trans hX, ⟨_, rfl⟩⟩
      exact ⟨va_up A 4 (wrP x ((ccF 8 x 0).getD 0) (A 4) ty), upd w 1 (nI (ty + (ccF 8 x 0).getD 0)), c, R, R2, hr, Z, S, s, q, P, ty + (ccF 8 x 0).getD 0, rfl, hG.le (by omega), hX, (K.pad (by omega) (wrP_c x _ _ _ hpc)).le (by omega)⟩
theorem s_wipe (h : SG X B hp) : Both 79 144 [] X B hp := by
  obtain ⟨A, w, c, R, R2, hr, Z, S, s, q, P, ty, rfl, hG, hX, K⟩ := h
  have hpc : Pc (A 4) := K.2.2.2.2.2.2.2.2.2.2.1
  refine ⟨_, _, _, b_wipe 7 147, c_wipe 8 147 A w _, ?_, (FF_q (Or.inl (by omega))).trans hX, ⟨_, rfl⟩⟩
  exact ⟨A, upd w 1 0, c, R, R2, hr, Z, S, s, q, P, 0, rfl, hG.le (by omega), hX, (K.pad (ty' := 0) (by omega) hpc).le (by omega)⟩
theorem s_fault (h : SG X B hp) : Both 80 150 [] X B hp := by
  obtain ⟨A, w, c, R, R2, hr, Z, S, s, q, P, ty, rfl, hG, hX, K⟩ := h
  have hw : w 1 = nI ty := K.2.2.2.2.2.2.2.2.1
  have h80 : ty ≤ 80 := K.2.2.2.2.2.2.2.2.2.1
  have b := b_fault (A := A) (w := w) (p := A 4) (ch := nI c) (R := R) (R2 := R2) (sv := A 3) (z := A 0) (s := s) (q := q) 5 147 ty h80
  rw [← hw] at b
  exact ⟨_, _, _, b, Rn.val (rd_all h80 (A 6)).1.symm (c_fault 3 147 A w _ ty hw h80), fin_look hG hX K (A' := va_up A 6 _) (w' := wT w _ _) rfl rfl rfl rfl rfl rfl rfl (by omega), (FF_q (Or.inl (by omega))).trans hX, ⟨_, rfl⟩⟩
theorem nuF_3 (p : Nat → Int32) (ty sp : Nat) (g : Int32) : (nuF p ty sp g).2 ≤ sp + 2 := (nuF_le p ty sp g).2
theorem roS_le (p : Nat → Int32) (ty sp : Nat) : roS p ty sp ≤ sp + 6 := by
  unfold roS
  cases isLe (leF p ty sp) with
  | false => show sp ≤ _; omega
  | true =>
    have h1 : (fiF p ty sp).2 ≤ sp + 3 := by unfold fiF; have := nuF_3 p ty (sp + 1) (if leF p ty sp = 99 ∨ leF p ty sp = 114 then 2 else 1); omega
    show (seS p ty sp).2 ≤ _
    unfold seS
    cases (decide (¬ (fiF p ty sp).1 = -6) && decide (leF p ty sp = 99)) with
    | false => show (fiF p ty sp).2 ≤ _; omega
    | true =>
      cases seF p ty (fiF p ty sp).2 46 46 with
      | false => show (fiF p ty sp).2 ≤ _; omega
      | true => have := nuF_3 p ty ((fiF p ty sp).2 + 1) 1; show (nuF p ty ((fiF p ty sp).2 + 1) 1).2 ≤ _; omega
theorem rpF_sp (p : Nat → Int32) (ty : Nat) (h80 : ty ≤ 80) : ∀ r sp tm t, sp ≤ 90 → (rpF p ty r sp tm t).2.1 ≤ 90 := by
  intro r
  induction r with
  | zero => intro sp tm t h; exact h
  | succ r ih =>
    intro sp tm t h
    unfold rpF
    by_cases hl : sp < ty
    · rw [if_pos hl]
      cases seF p ty sp 59 59 with
      | false => exact h
      | true =>
        have hr := roS_le p ty (sp + 1)
        simp only [cond]
        cases roB p ty (sp + 1) with
        | false => show roS p ty (sp + 1) ≤ 90; omega
        | true => exact ih _ _ _ (by omega)
    · rw [if_neg hl]; exact h
theorem rdF_sp (p : Nat → Int32) (ty : Nat) (h80 : ty ≤ 80) (t : Nat → Int32) : (rdF p ty t).2.1 ≤ 90 := by
  unfold rdF
  have hr := roS_le p ty 0
  cases roB p ty 0 with
  | false => show roS p ty 0 ≤ 90; omega
  | true => exact rpF_sp p ty h80 _ _ _ _ (by omega)
theorem s_carryOut (h : SG X B hp) (hB : B ≤ 800000) : Both 82 153 [] X B hp := by
  obtain ⟨A, w, c, R, R2, hr, Z, S, s, q, P, ty, rfl, hG, hX, K⟩ := h
  have hw : w 1 = nI ty := K.2.2.2.2.2.2.2.2.1
  have h80 : ty ≤ 80 := K.2.2.2.2.2.2.2.2.2.1
  have hpc : Pc (A 4) := K.2.2.2.2.2.2.2.2.2.2.1
  obtain ⟨r1, r2⟩ := rd_all (p := A 4) h80 (A 6)
  cases hg : (rdF (A 4) ty (A 6)).1 with
  | false =>
    rw [hg] at r1
    have b := b_co_bad (A := A) (w := w) (p := A 4) (ch := nI c) (R := R) (R2 := R2) (sv := A 3) (z := A 0) (s := s) (q := q) 3 147 ty h80 (by rw [r1]; exact nI_n6 _ (by have := rdF_sp (A 4) ty h80 (A 6); omega))
    rw [← hw] at b
    exact ⟨_, _, _, b, c_carryOut_bad 2 147 A w _ ty hw h80 hg, fin_look hG hX K (A' := va_up A 6 _) (w' := wT w _ _) rfl rfl rfl rfl rfl rfl rfl (by omega), (FF_q (Or.inl (by omega))).trans hX, ⟨_, rfl⟩⟩
  | true =>
    rw [hg] at r1
    obtain ⟨o1, o2⟩ := r2 hg
    have o3 := (rdF_ok hg).2
    obtain ⟨x1, x2, x3⟩ := K.2.2.1 c (by have := K.2.1; omega)
    have hb := bs_in x2 (by omega : hr c < 10)
    have hH2 := Hq_at (z1 := A 0) (s1 := s) K.2.2.2.2.2.1 x2 (by omega : hr c < 10)
    have hq2 := (tAt_lo (z1 := A 0) (s1 := s) (q := q) (b := bs (hr c)) (by omega) (by omega)).trans K.2.2.2.2.2.2.2.1
    obtain ⟨s', k1, k2, k3⟩ := co_loop (A := A) (w := w) (R2 := R2) (sv := A 3) (P := P) 3 147 hpc hq2 h80 o3 o1 o2 K.2.2.1 hH2 K.2.1 rfl _ 0 (A 0) s B (Nat.zero_add _) (by omega) hG
    have b := b_co_st 3 147 hr Z S K.2.2.1 K.2.2.2.2.2.1 c K.2.1 hG.1.2.2.2.2.1 ty h80 r1 k1
    rw [← hw] at b
    obtain ⟨a', x', m⟩ := c_carryOut 2 147 A w (pOn (A 4) 0 (bO (nI (rcC (nI (coR (rdF (A 4) ty (A 6)).2.2.2 P (rdF (A 4) ty (A 6)).2.2.1 0 (A 0)).1) c)) (rcR (nI (coR (rdF (A 4) ty (A 6)).2.2.2 P (rdF (A 4) ty (A 6)).2.2.1 0 (A 0)).1) c R) R2 (A 3) (tOn (coR (rdF (A 4) ty (A 6)).2.2.2 P (rdF (A 4) ty (A 6)).2.2.1 0 (A 0)).2 s' (tAt (bs (hr c)) (A 0) s q)))) ty hw h80 hg c K.1 K.2.1 P hG.1.1 hG.1.2.1 hG.1.2.2.1
    refine ⟨_, _, _, b, m, ?_, (FF_q (Or.inl (by omega))).trans (tAt_0 (hb3 K.2.2.1 K.2.1) hX), ⟨_, rfl⟩⟩
    have K2 := ((K.ok (r := nI (coR (rdF (A 4) ty (A 6)).2.2.2 P (rdF (A 4) ty (A 6)).2.2.1 0 (A 0)).1) (nI_pos (by omega)) s hG).pad (ty' := 0) (by omega) hpc).le (B' := B + 28) (by omega)
    exact ⟨mZ (rA (va_up A 6 (rdF (A 4) ty (A 6)).2.2.2) c) (coR (rdF (A 4) ty (A 6)).2.2.2 P (rdF (A 4) ty (A 6)).2.2.1 0 (A 0)).2 a', upd (upd (rW (wT w (rdF (A 4) ty (A 6)).2.1 (rdF (A 4) ty (A 6)).2.2.1) c) 2 x') 1 0, rcC (nI (coR (rdF (A 4) ty (A 6)).2.2.2 P (rdF (A 4) ty (A 6)).2.2.1 0 (A 0)).1) c, rcR (nI (coR (rdF (A 4) ty (A 6)).2.2.2 P (rdF (A 4) ty (A 6)).2.2.1 0 (A 0)).1) c R, R2, hr2 c hr, va_up Z (hr c) (A 0), va_up S (hr c) s, s', tAt (bs (hr c)) (A 0) s q, P, 0, rfl, k2.le (by omega), tAt_0 (by omega) hX, K2⟩
/-! undo, slots -/
theorem cpN_at {a b : Nat → Int32} {fa j : Nat} (h : j < 80) : cpN a b fa 0 80 j = a (fa + j) := by
  unfold cpN
  rw [if_pos (by omega), Nat.sub_zero]
theorem s_undo (h : SG X B hp) : Both 83 97 [] X B hp := by
  obtain ⟨A, w, c, R, R2, hr, Z, S, s, q, P, ty, rfl, hG, hX, K⟩ := h
  have m := c_undo 7 147 A w (pOn (A 4) (w 1) (bO (nI c) R R2 (A 3) (tOn (A 0) s q))) c K.1 K.2.1
  by_cases h0 : c = 0
  · subst h0
    rw [if_pos rfl, if_pos rfl] at m
    exact ⟨_, _, _, b_undo_no 6 147, m, fin_look hG hX K (A' := A) (w' := w) rfl rfl rfl rfl rfl rfl rfl (by omega), (FF_q (Or.inl (by omega))).trans hX, ⟨_, rfl⟩⟩
  · obtain ⟨e, he⟩ : ∃ e, c = e + 1 := ⟨c - 1, by omega⟩
    subst he
    obtain ⟨k0, k1, k2, k3, k4, k5, k6, k7, k8, k9, k10, k11, k12⟩ := K
    obtain ⟨i1, P', i2⟩ := k11 e (by omega)
    have ez : E80 (Z (hr e)) (cpN (A 1) (A 0) (80 * e) 0 80) := fun j hj => by rw [cpN_at hj]; exact i1 j hj
    have m2 := c_undo 7 147 A w (pOn (A 4) (w 1) (bO (nI e) R R2 (A 3) (tOn (cpN (A 1) (A 0) (80 * e) 0 80) (S (hr e)) q))) (e + 1) k0 k1
    rw [if_neg h0, if_neg h0, Nat.add_sub_cancel] at m2
    refine ⟨_, _, _, b_undo 6 147 hr Z S k2 k5 e (by omega) i2.1.2.2.2.2.1 _ ez, m2, ?_, (FF_q (Or.inl (by omega))).trans hX, ⟨_, rfl⟩⟩
    exact ⟨va_up A 0 (cpN (A 1) (A 0) (80 * e) 0 80), upd w 0 (nI e), e, R, R2, hr, Z, S, S (hr e), q, P', ty, rfl, (i2.e80 ez).le (by omega), hX, (show Kp (A 1) (A 2) (A 3) (A 4) (nI e) (w 1) e R R2 hr Z S q ty B from ⟨rfl, by omega, k2, k3, k4, k5, k6, k7, k8, k9, k10, fun i hi => k11 i (by omega), k12⟩).le (by omega)⟩
theorem R2_at {R2 : Nat → Option Nat} (h : R2 0 = some (bs 8) ∧ R2 1 = some (bs 9)) {t : Nat} (ht : t < 2) : R2 t = some (bs (8 + t)) := by
  rcases (by omega : t = 0 ∨ t = 1) with e | e <;> subst e
  · exact h.1
  · exact h.2
theorem s_save (h : SG X B hp) (x : Int32) : Both 84 98 [(1, .int x)] X B hp := by
  obtain ⟨A, w, c, R, R2, hr, Z, S, s, q, P, ty, rfl, hG, hX, K⟩ := h
  cases hx : decide (0 ≤ x ∧ x ≤ 1) with
  | false => exact ⟨_, _, _, b_save_bad 6 147 x hx, c_save_bad 7 147 A w _ x hx, fin_look hG hX K (A' := A) (w' := w) rfl rfl rfl rfl rfl rfl rfl (by omega), (FF_q (Or.inl (by omega))).trans hX, ⟨_, rfl⟩⟩
  | true =>
    obtain ⟨t, ht, e⟩ := xin2 (of_decide_eq_true hx)
    subst e
    obtain ⟨k0, k1, k2, k3, k4, k5, k6, k7, k8, k9, k10, k11, k12⟩ := K
    have hb := bs_in (t := 8 + t) (by omega) (by omega)
    refine ⟨_, _, _, b_save 6 147 Z S k5 t ht (R2_at k4 ht) hG.1.2.2.2.2.1, c_save 5 147 A w _ t ht, ?_, (FF_q (Or.inl (by omega))).trans (tAt_0 (by omega) hX), ⟨_, rfl⟩⟩
    refine ⟨va_up (va_up A 2 (cpN (A 0) (A 2) 0 (80 * t) 80)) 3 (upd (A 3) t 1), w, c, R, R2, hr, va_up Z (8 + t) (A 0), va_up S (8 + t) s, s, tAt (bs (8 + t)) (A 0) s q, P, ty, rfl, hG.le (by omega), tAt_0 (by omega) hX, ?_⟩
    refine (show Kp (A 1) (cpN (A 0) (A 2) 0 (80 * t) 80) (upd (A 3) t 1) (A 4) (w 0) (w 1) c R R2 hr _ _ _ ty B from ⟨k0, k1, k2, k3, k4, Hq_at k5 (by omega) (by omega), (tAt_lo (by omega) (by omega)).trans k6, (tAt_lo (by omega) (by omega)).trans k7, k8, k9, k10, fun i hi => ?_, fun u hu h0 => ?_⟩).le (by omega)
    · have h3 := (k2 i (by omega)).2.2
      rw [vz_up (show ¬ hr i = 8 + t by omega)]
      exact k11 i hi
    · by_cases g : u = t
      · subst g
        rw [va_up_self]
        refine ⟨fun j hj => ?_, P, hG⟩
        unfold cpN
        rw [if_pos (by omega), show 0 + (80 * u + j - 80 * u) = j by omega]
      · rw [upd_ne g] at h0
        rw [vz_up (show ¬ 8 + u = 8 + t by omega)]
        obtain ⟨a, b⟩ := k12 u hu h0
        refine ⟨fun j hj => (a j hj).trans ?_, b⟩
        unfold cpN
        rw [if_neg (by omega)]
theorem s_restore (h : SG X B hp) (x : Int32) : Both 85 99 [(1, .int x)] X B hp := by
  obtain ⟨A, w, c, R, R2, hr, Z, S, s, q, P, ty, rfl, hG, hX, K⟩ := h
  cases hx : decide (0 ≤ x ∧ x ≤ 1) with
  | false => exact ⟨_, _, _, b_res_bad 6 147 x hx, c_restore_bad 7 147 A w _ x hx, fin_look hG hX K (A' := A) (w' := w) rfl rfl rfl rfl rfl rfl rfl (by omega), (FF_q (Or.inl (by omega))).trans hX, ⟨_, rfl⟩⟩
  | true =>
    obtain ⟨t, ht, e⟩ := xin2 (of_decide_eq_true hx)
    subst e
    by_cases hv : A 3 t = 0
    · exact ⟨_, _, _, b_res_not 6 147 t ht hv, c_restore_not 7 147 A w _ t ht hv, fin_look hG hX K (A' := A) (w' := w) rfl rfl rfl rfl rfl rfl rfl (by omega), (FF_q (Or.inl (by omega))).trans hX, ⟨_, rfl⟩⟩
    · have K' := K
      obtain ⟨k0, k1, k2, k3, k4, k5, k6, k7, k8, k9, k10, k11, k12⟩ := K'
      obtain ⟨i1, P', i2⟩ := k12 t ht hv
      have ez : E80 (Z (8 + t)) (cpN (A 2) (A 0) (80 * t) 0 80) := fun j hj => by rw [cpN_at hj]; exact i1 j hj
      obtain ⟨mk, m1, m2, m3⟩ := many_0 (z := cpN (A 2) (A 0) (80 * t) 0 80) 10
      exact ⟨_, _, _, b_res 5 147 hr Z S k2 k5 c k1 hG.1.2.2.2.2.1 t ht (R2_at k4 ht) hv i2.1.2.2.2.2.1 _ ez, c_restore 5 147 A w _ c k0 k1 t ht hv, fin_ok hG hX K (by rw [m2]; exact nI_pos (by omega)) (A' := va_up (rA A c) 0 (cpN (A 2) (A 0) (80 * t) 0 80)) (w' := rW w c) rfl rfl rfl rfl rfl rfl ((i2.e80 ez).le (by omega)) (by omega) (S (8 + t)), (FF_q (Or.inl (by omega))).trans (tAt_0 (hb3 K.2.2.1 K.2.1) hX), ⟨_, rfl⟩⟩
end CALLS2
