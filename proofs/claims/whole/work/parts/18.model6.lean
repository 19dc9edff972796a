/-! the reference: period, lasts, meeting, of, count -/
def laR (z : Nat → Int32) (P L : Nat) : Nat := if tpm z 10 = 0 then 0 else if 0 < mSum z 2 10 then 0 else laN z (tpm z 10) P (plz z) L 0
def meR (z : Nat → Int32) (P : Nat) (y : Int32) : Int32 :=
  if miR z (tpm z 10) P (plz z) = -6 then -6 else if y = 0 then miR z (tpm z 10) P (plz z) else if y = 1 then mtz z (pls (2 * z 0) (tpm z 10) (plz z) (mi z (tpm z 10) P (plz z) 100 0)) (tpm z 10) P
  else (mCt z (pls (2 * z 0) (tpm z 10) (plz z) (mi z (tpm z 10) P (plz z) 100 0)) (if y = 2 then 4 * mtz z (pls (2 * z 0) (tpm z 10) (plz z) (mi z (tpm z 10) P (plz z) 100 0)) (tpm z 10) P else o32 (2 * z 0) (4 * mtz z (pls (2 * z 0) (tpm z 10) (plz z) (mi z (tpm z 10) P (plz z) 100 0)) (tpm z 10) P)) 10).1
section MODEL6
variable (d n : Nat) (A : Nat → Nat → Int32) (w : Nat → Int32) (g h : xHp)
theorem k_period (z a : Nat → Int32) (x : Int32) (P : Nat) (hP : z 0 = nI P) (h2 : 2 ≤ P) (h6 : P ≤ 6) : ∃ a' x', Rn (d + 3) 140 0 [(0, .ref 139)] [] (mOn (mZ A z a) (upd w 2 x) g) n (some (.int (peR z P))) (mOn (mZ A z a') (upd w 2 x') g) n := by
  have hm10 := tpm_le z 10
  have key : ∀ (q : Nat → Int32) (m : Nat), m ≤ 11 → ∀ a, Ag m a (pls (2 * z 0) m q 0) → ∃ a', Rn (d + 3) 140 16 [(0, .ref 139), (1, .int (nI (0 + 1)))] [] (mOn (mZ A z a) (upd w 2 (nI m)) g) n (some (.int (match peN z m P q (100 - 0) 0 with | some c => nI c | none => -6))) (mOn (mZ A z a') (upd w 2 (nI m)) g) n := by
    intro q m hm
    refine xloop (fun c => ∀ a, Ag m a (pls (2 * z 0) m q c) → ∃ a', Rn (d + 3) 140 16 [(0, .ref 139), (1, .int (nI (c + 1)))] [] (mOn (mZ A z a) (upd w 2 (nI m)) g) n (some (.int (match peN z m P q (100 - c) c with | some c => nI c | none => -6))) (mOn (mZ A z a') (upd w 2 (nI m)) g) n) 100 ?_ (fun c hc ih => ?_)
    · intro a ha
      refine ⟨a, ?_⟩
      refine Rn.steps 4 rfl ?_
      exact Rn.retE rfl rfl rfl rfl rfl
    · intro a ha
      have hs : 100 - c = (100 - (c + 1)) + 1 := by omega
      by_cases hz : mtz z (pls (2 * z 0) m q c) m P = -6
      · have hst : Ag m (sPl (2 * z 0) a m) (pls (2 * z 0) m q (c + 1)) := ha.st _
        cases hb : mAb z (pls (2 * z 0) m q (c + 1)) m 10 with
        | true =>
          refine ⟨sPl (2 * z 0) a m, ?_⟩
          rw [show peN z m P q (100 - c) c = some (c + 1) by rw [hs, peN, if_pos hz, hb]; rfl]
          refine Rn.br 3 rfl (fun hc19 => ?_) (fun hc19 => ?_)
          · exact (nI_nlt (a := 100) (b := c + 1) (by omega) (by omega) hc19).elim
          · refine Rn.steps 1 rfl ?_
            refine Rn.call rfl rfl rfl (k_meetAt d n A w g z a _ m P hP h2 h6 hm ha) ?_
            refine Rn.br 2 rfl (fun hc28 => ?_) (fun hc28 => ?_)
            · refine Rn.steps 1 rfl ?_
              refine Rn.call rfl rfl rfl (k_step d n A w g z a m P hP h2 h6 hm) ?_
              refine Rn.steps 1 rfl ?_
              refine Rn.call rfl rfl rfl (c_areBack d n (mZ A z (sPl (2 * z 0) a m)) _ g m upd_eq hm) ?_
              refine Rn.br 1 rfl (fun hc42 => ?_) (fun hc42 => ?_)
              · exact absurd (bi_eq0 hc42) (by rw [show mAb (mZ A z (sPl (2 * z 0) a m) 0) (mZ A z (sPl (2 * z 0) a m) 5) m 10 = true from (hst.ab z 10).trans hb]; decide)
              · refine Rn.steps 1 rfl ?_
                exact Rn.retE rfl rfl rfl rfl rfl
            · exact (hc28 hz).elim
        | false =>
          obtain ⟨a', g2⟩ := ih (sPl (2 * z 0) a m) hst
          refine ⟨a', ?_⟩
          rw [show peN z m P q (100 - c) c = peN z m P q (100 - (c + 1)) (c + 1) by rw [hs, peN, if_pos hz, hb]; rfl]
          refine Rn.br 3 rfl (fun hc19 => ?_) (fun hc19 => ?_)
          · exact (nI_nlt (a := 100) (b := c + 1) (by omega) (by omega) hc19).elim
          · refine Rn.steps 1 rfl ?_
            refine Rn.call rfl rfl rfl (k_meetAt d n A w g z a _ m P hP h2 h6 hm ha) ?_
            refine Rn.br 2 rfl (fun hc28 => ?_) (fun hc28 => ?_)
            · refine Rn.steps 1 rfl ?_
              refine Rn.call rfl rfl rfl (k_step d n A w g z a m P hP h2 h6 hm) ?_
              refine Rn.steps 1 rfl ?_
              refine Rn.call rfl rfl rfl (c_areBack d n (mZ A z (sPl (2 * z 0) a m)) _ g m upd_eq hm) ?_
              refine Rn.br 1 rfl (fun hc42 => ?_) (fun hc42 => ?_)
              · refine Rn.steps 2 rfl ?_
                exact Rn.l2 rfl rfl (by rw [← nI_1 (c + 1)]; rfl) g2
              · exact absurd (bi_ne0 hc42) (by rw [show mAb (mZ A z (sPl (2 * z 0) a m) 0) (mZ A z (sPl (2 * z 0) a m) 5) m 10 = false from (hst.ab z 10).trans hb]; decide)
            · exact (hc28 hz).elim
      · refine ⟨a, ?_⟩
        rw [show peN z m P q (100 - c) c = none by rw [hs, peN, if_neg hz]]
        refine Rn.br 3 rfl (fun hc19 => ?_) (fun hc19 => ?_)
        · exact (nI_nlt (a := 100) (b := c + 1) (by omega) (by omega) hc19).elim
        · refine Rn.steps 1 rfl ?_
          refine Rn.call rfl rfl rfl (k_meetAt d n A w g z a _ m P hP h2 h6 hm ha) ?_
          refine Rn.br 2 rfl (fun hc28 => ?_) (fun hc28 => ?_)
          · exact (hz hc28).elim
          · refine Rn.steps 1 rfl ?_
            exact Rn.retE rfl rfl rfl rfl rfl
  by_cases h0 : tpm z 10 = 0
  · refine ⟨tpl z a 10, nI (tpm z 10), ?_⟩
    unfold peR
    rw [if_pos h0]
    refine Rn.steps 1 rfl ?_
    refine Rn.call rfl rfl rfl (k_take (d) n A w g z a x) ?_
    refine Rn.br 3 rfl (fun hc8 => ?_) (fun hc8 => ?_)
    · refine Rn.steps 1 rfl ?_
      exact Rn.retE rfl rfl rfl rfl rfl
    · exact (hc8 (by show nI (tpm z 10) = 0; rw [h0]; rfl)).elim
  · obtain ⟨a', g2⟩ := key (plz z) (tpm z 10) (by omega) (tpl z a 10) (Ag.tp z a _ 10)
    refine ⟨a', nI (tpm z 10), ?_⟩
    unfold peR
    rw [if_neg h0]
    refine Rn.steps 1 rfl ?_
    refine Rn.call rfl rfl rfl (k_take d n A w g z a x) ?_
    refine Rn.br 3 rfl (fun hc8 => ?_) (fun hc8 => ?_)
    · exact (h0 ((nI_eq (a := tpm z 10) (b := 0) (by omega) (by omega)).mp hc8)).elim
    · refine Rn.steps 2 rfl ?_
      exact Rn.l2 rfl rfl rfl g2
theorem k_lasts (z a : Nat → Int32) (x : Int32) (P : Nat) (hP : z 0 = nI P) (h2 : 2 ≤ P) (h6 : P ≤ 6) (L : Nat) (hL : mLeast z 10 = nI L) (hL9 : L ≤ 999) : ∃ a' x', Rn (d + 3) 142 0 [(0, .ref 139)] [] (mOn (mZ A z a) (upd w 2 x) g) n (some (.int (nI (laR z P L)))) (mOn (mZ A z a') (upd w 2 x') g) n := by
  have hm10 := tpm_le z 10
  have key : ∀ (q : Nat → Int32) (m L : Nat), m ≤ 11 → L ≤ 999 → ∀ a, Ag m a (pls (2 * z 0) m q 0) → ∃ a', Rn (d + 3) 142 30 [(0, .ref 139), (1, .int (nI L)), (2, .int (nI 0))] [] (mOn (mZ A z a) (upd w 2 (nI m)) g) n (some (.int (nI (laN z m P q (L - 0) 0)))) (mOn (mZ A z a') (upd w 2 (nI m)) g) n := by
    intro q m L hm hL9
    refine xloop (fun c => ∀ a, Ag m a (pls (2 * z 0) m q c) → ∃ a', Rn (d + 3) 142 30 [(0, .ref 139), (1, .int (nI L)), (2, .int (nI c))] [] (mOn (mZ A z a) (upd w 2 (nI m)) g) n (some (.int (nI (laN z m P q (L - c) c)))) (mOn (mZ A z a') (upd w 2 (nI m)) g) n) L ?_ (fun c hc ih => ?_)
    · intro a ha
      refine ⟨a, ?_⟩
      rw [show laN z m P q (L - L) L = L by rw [Nat.sub_self]; rfl]
      refine Rn.br 3 rfl (fun hc32 => ?_) (fun hc32 => ?_)
      · refine Rn.steps 1 rfl ?_
        exact Rn.retE rfl rfl rfl rfl rfl
      · exact (hc32 (nI_le (Nat.le_refl _) (by omega))).elim
    · intro a ha
      have hs : L - c = (L - (c + 1)) + 1 := by omega
      by_cases hz : mtz z (pls (2 * z 0) m q c) m P = -6
      · obtain ⟨a', g2⟩ := ih (sPl (2 * z 0) a m) (ha.st _)
        refine ⟨a', ?_⟩
        rw [show laN z m P q (L - c) c = laN z m P q (L - (c + 1)) (c + 1) by rw [hs, laN, if_pos hz]]
        refine Rn.br 3 rfl (fun hc32 => ?_) (fun hc32 => ?_)
        · exact (nI_ge hc (by omega) hc32).elim
        · refine Rn.steps 1 rfl ?_
          refine Rn.call rfl rfl rfl (k_meetAt d n A w g z a _ m P hP h2 h6 hm ha) ?_
          refine Rn.br 2 rfl (fun hc41 => ?_) (fun hc41 => ?_)
          · refine Rn.steps 1 rfl ?_
            refine Rn.call rfl rfl rfl (k_step d n A w g z a m P hP h2 h6 hm) ?_
            refine Rn.steps 2 rfl ?_
            exact Rn.l3 rfl rfl rfl (by rw [← nI_1]; rfl) g2
          · exact (hc41 hz).elim
      · refine ⟨a, ?_⟩
        rw [show laN z m P q (L - c) c = c by rw [hs, laN, if_neg hz]]
        refine Rn.br 3 rfl (fun hc32 => ?_) (fun hc32 => ?_)
        · exact (nI_ge hc (by omega) hc32).elim
        · refine Rn.steps 1 rfl ?_
          refine Rn.call rfl rfl rfl (k_meetAt d n A w g z a _ m P hP h2 h6 hm ha) ?_
          refine Rn.br 2 rfl (fun hc41 => ?_) (fun hc41 => ?_)
          · exact (hz hc41).elim
          · refine Rn.steps 1 rfl ?_
            exact Rn.retE rfl rfl rfl rfl rfl
  by_cases h0 : tpm z 10 = 0
  · obtain ⟨a', g2⟩ := key (plz z) (tpm z 10) 0 (by omega) (by omega) (tpl z a 10) (Ag.tp z a _ 10)
    refine ⟨a', nI (tpm z 10), ?_⟩
    unfold laR
    rw [if_pos h0]
    refine Rn.steps 1 rfl ?_
    refine Rn.call rfl rfl rfl (k_take d n A w g z a x) ?_
    refine Rn.br 3 rfl (fun hc8 => ?_) (fun hc8 => ?_)
    · refine Rn.steps 5 rfl ?_
      exact Rn.l3 rfl rfl rfl rfl g2
    · exact (hc8 (by show nI (tpm z 10) = 0; rw [h0]; rfl)).elim
  · by_cases hsm : 0 < mSum z 2 10
    · obtain ⟨a', g2⟩ := key (plz z) (tpm z 10) 0 (by omega) (by omega) (tpl z a 10) (Ag.tp z a _ 10)
      refine ⟨a', nI (tpm z 10), ?_⟩
      unfold laR
      rw [if_neg h0, if_pos hsm]
      refine Rn.steps 1 rfl ?_
      refine Rn.call rfl rfl rfl (k_take d n A w g z a x) ?_
      refine Rn.br 3 rfl (fun hc8 => ?_) (fun hc8 => ?_)
      · exact (h0 ((nI_eq (a := tpm z 10) (b := 0) (by omega) (by omega)).mp hc8)).elim
      · refine Rn.steps 2 rfl ?_
        refine Rn.call rfl rfl rfl (c_sum d n (mZ A z (tpl z a 10)) _ g 2 (by omega)) ?_
        refine Rn.br 1 rfl (fun hc16 => ?_) (fun hc16 => ?_)
        · exact absurd hsm (Int32.not_lt.mpr hc16)
        · refine Rn.steps 5 rfl ?_
          exact Rn.l3 rfl rfl rfl rfl g2
    · obtain ⟨a', g2⟩ := key (plz z) (tpm z 10) L (by omega) hL9 (tpl z a 10) (Ag.tp z a _ 10)
      refine ⟨a', nI (tpm z 10), ?_⟩
      unfold laR
      rw [if_neg h0, if_neg hsm]
      refine Rn.steps 1 rfl ?_
      refine Rn.call rfl rfl rfl (k_take d n A w g z a x) ?_
      refine Rn.br 3 rfl (fun hc8 => ?_) (fun hc8 => ?_)
      · exact (h0 ((nI_eq (a := tpm z 10) (b := 0) (by omega) (by omega)).mp hc8)).elim
      · refine Rn.steps 2 rfl ?_
        refine Rn.call rfl rfl rfl (c_sum d n (mZ A z (tpl z a 10)) _ g 2 (by omega)) ?_
        refine Rn.br 1 rfl (fun hc16 => ?_) (fun hc16 => ?_)
        · refine Rn.steps 1 rfl ?_
          refine Rn.call rfl rfl rfl (c_leastElls d n (mZ A z (tpl z a 10)) _ g) ?_
          refine Rn.steps 3 rfl ?_
          exact Rn.l3 rfl rfl (by rw [← hL]; rfl) rfl g2
        · exact absurd (Int32.not_le.mp hc16) hsm
theorem c_meeting_bad (y : Int32) (hy : decide (0 ≤ y ∧ y ≤ 3) = false) : Rn (d + 1) 135 0 [(0, .ref 139), (1, .int y)] [] (mOn A w g) n (some (.int (-2))) (mOn A w g) n := by
  refine Rn.steps 3 rfl ?_
  refine Rn.call rfl rfl rfl (c_in d n _ _ _ _) ?_
  refine Rn.br 1 rfl (fun hc6 => ?_) (fun hc6 => ?_)
  · refine Rn.steps 1 rfl ?_
    exact Rn.retE rfl rfl rfl rfl rfl
  · exact absurd (bi_ne0 hc6) (by rw [hy]; decide)
theorem k_meeting (z a : Nat → Int32) (x : Int32) (P : Nat) (hP : z 0 = nI P) (h2 : 2 ≤ P) (h6 : P ≤ 6) (y : Int32) (hy : decide (0 ≤ y ∧ y ≤ 3) = true) : ∃ a' x', Rn (d + 4) 135 0 [(0, .ref 139), (1, .int y)] [] (mOn (mZ A z a) (upd w 2 x) g) n (some (.int (meR z P y))) (mOn (mZ A z a') (upd w 2 x') g) n := by
  have hm10 := tpm_le z 10
  obtain ⟨a', g1, g2⟩ := k_meetsIn d n A w g z (plz z) (tpm z 10) P hP h2 h6 (by omega) (tpl z a 10) (Ag.tp z a _ 10)
  refine ⟨a', nI (tpm z 10), ?_⟩
  refine Rn.steps 3 rfl ?_
  refine Rn.call rfl rfl rfl (c_in (d + 3) n _ _ _ _) ?_
  refine Rn.br 1 rfl (fun hc6 => ?_) (fun hc6 => ?_)
  · exact absurd (bi_eq0 hc6) (by rw [hy]; decide)
  · refine Rn.steps 1 rfl ?_
    refine Rn.call rfl rfl rfl (k_take (d + 1) n A w g z a x) ?_
    refine Rn.steps 1 rfl ?_
    refine Rn.call rfl rfl rfl g2 ?_
    refine Rn.br 4 rfl (fun hc24 => ?_) (fun hc24 => ?_)
    · refine Rn.steps 1 rfl ?_
      exact Rn.retE rfl rfl rfl (by unfold meR; first | (rw [if_pos hc24]; rw [hc24]; done) | (rw [if_neg hc24, if_pos hc28]; done) | (rw [hc24]; rw [if_pos rfl]; done)) rfl
    · refine Rn.br 2 rfl (fun hc28 => ?_) (fun hc28 => ?_)
      · refine Rn.steps 1 rfl ?_
        exact Rn.retE rfl rfl rfl (by unfold meR; first | (rw [if_pos hc24]; rw [hc24]; done) | (rw [if_neg hc24, if_pos hc28]; done) | (rw [hc24]; rw [if_pos rfl]; done)) rfl
      · refine Rn.steps 1 rfl ?_
        refine Rn.call rfl rfl rfl (k_meetAt (d + 1) n A w g z a' _ (tpm z 10) P hP h2 h6 (by omega) g1) ?_
        refine Rn.br 4 rfl (fun hc40 => ?_) (fun hc40 => ?_)
        · refine Rn.steps 2 rfl ?_
          exact Rn.retE rfl rfl rfl (by unfold meR; rw [if_neg hc24, if_neg hc28]; first | (rw [if_pos hc40]; done) | (rw [if_neg hc40]; show some (Value.int (mCt z a' _ 10).1) = _; rw [g1.ct z _ 10 (Nat.le_refl _)]; first | (rw [if_pos hc50]; done) | (rw [if_neg hc50]; done) | (rw [if_neg hc50]; rfl))) rfl
        · refine Rn.br 4 rfl (fun hc50 => ?_) (fun hc50 => ?_)
          · refine Rn.steps 4 rfl ?_
            refine Rn.call rfl rfl rfl (c_turnedTo (d + 1) n (mZ A z a') _ g _) ?_
            exact Rn.retE rfl rfl rfl (by unfold meR; rw [if_neg hc24, if_neg hc28]; first | (rw [if_pos hc40]; done) | (rw [if_neg hc40]; show some (Value.int (mCt z a' _ 10).1) = _; rw [g1.ct z _ 10 (Nat.le_refl _)]; first | (rw [if_pos hc50]; done) | (rw [if_neg hc50]; done) | (rw [if_neg hc50]; rfl))) rfl
          · refine Rn.steps 4 rfl ?_
            refine Rn.call rfl rfl rfl (c_otherSide (d + 2) n (mZ A z a') _ g (x2ne hP h2 h6) _) ?_
            refine Rn.call rfl rfl rfl (c_turnedTo (d + 1) n (mZ A z a') _ g _) ?_
            exact Rn.retE rfl rfl rfl (by unfold meR; rw [if_neg hc24, if_neg hc28]; first | (rw [if_pos hc40]; done) | (rw [if_neg hc40]; show some (Value.int (mCt z a' _ 10).1) = _; rw [g1.ct z _ 10 (Nat.le_refl _)]; first | (rw [if_pos hc50]; done) | (rw [if_neg hc50]; done) | (rw [if_neg hc50]; rfl))) rfl
theorem c_of_bad (x y : Int32) (hx : isC (A 0) x = false) : Rn (d + 2) 128 0 [(0, .ref 139), (1, .int x), (2, .int y)] [] (mOn A w g) n (some (.int (-1))) (mOn A w g) n := by
  refine Rn.steps 2 rfl ?_
  refine Rn.call rfl rfl rfl (c_isCx d n A w g x) ?_
  refine Rn.br 1 rfl (fun hc5 => ?_) (fun hc5 => ?_)
  · refine Rn.steps 1 rfl ?_
    exact Rn.retE rfl rfl rfl rfl rfl
  · exact absurd (bi_ne0 hc5) (by rw [hx]; decide)
theorem c_of_0 (c : Nat) (hc : c < 10) (hz : zt (A 0) c = true) : Rn (d + 2) 128 0 [(0, .ref 139), (1, .int (nI c)), (2, .int 0)] [] (mOn A w g) n (some (.int (A 0 (10 + 7 * c) / 4))) (mOn A w g) n := by
  refine Rn.steps 2 rfl ?_
  refine Rn.call rfl rfl rfl (c_isC d n A w g c hc) ?_
  refine Rn.br 1 rfl (fun hc5 => ?_) (fun hc5 => ?_)
  · exact absurd (bi_eq0 hc5) (by rw [hz]; decide)
  · refine Rn.steps 3 rfl ?_
    refine Rn.call rfl rfl rfl (c_of1 (d + 1) n A w g c 0 hc (by omega)) ?_
    refine Rn.steps 2 rfl ?_
    refine Rn.steps 1 rfl ?_
    refine Rn.steps 3 rfl ?_
    exact Rn.retE rfl rfl rfl rfl rfl
theorem c_of_1 (c : Nat) (hc : c < 10) (hz : zt (A 0) c = true) : Rn (d + 2) 128 0 [(0, .ref 139), (1, .int (nI c)), (2, .int 1)] [] (mOn A w g) n (some (.int (rm (A 0 (10 + 7 * c)) 4))) (mOn A w g) n := by
  refine Rn.steps 2 rfl ?_
  refine Rn.call rfl rfl rfl (c_isC d n A w g c hc) ?_
  refine Rn.br 1 rfl (fun hc5 => ?_) (fun hc5 => ?_)
  · exact absurd (bi_eq0 hc5) (by rw [hz]; decide)
  · refine Rn.steps 3 rfl ?_
    refine Rn.call rfl rfl rfl (c_of1 (d + 1) n A w g c 0 hc (by omega)) ?_
    refine Rn.steps 2 rfl ?_
    refine Rn.steps 1 rfl ?_
    refine Rn.steps 3 rfl ?_
    exact Rn.retE rfl rfl rfl rfl rfl
theorem c_of_2 (c : Nat) (hc : c < 10) (hz : zt (A 0) c = true) : Rn (d + 2) 128 0 [(0, .ref 139), (1, .int (nI c)), (2, .int 2)] [] (mOn A w g) n (some (.int (A 0 (10 + 7 * c + 1)))) (mOn A w g) n := by
  refine Rn.steps 2 rfl ?_
  refine Rn.call rfl rfl rfl (c_isC d n A w g c hc) ?_
  refine Rn.br 1 rfl (fun hc5 => ?_) (fun hc5 => ?_)
  · exact absurd (bi_eq0 hc5) (by rw [hz]; decide)
  · refine Rn.steps 3 rfl ?_
    refine Rn.call rfl rfl rfl (c_of1 (d + 1) n A w g c 0 hc (by omega)) ?_
    refine Rn.steps 2 rfl ?_
    refine Rn.steps 1 rfl ?_
    refine Rn.steps 5 rfl ?_
    refine Rn.call rfl rfl rfl (c_of1 (d + 1) n A w g c 1 hc (by omega)) ?_
    exact Rn.retE rfl rfl rfl rfl rfl
theorem c_of_3 (c : Nat) (hc : c < 10) (hz : zt (A 0) c = true) : Rn (d + 2) 128 0 [(0, .ref 139), (1, .int (nI c)), (2, .int 3)] [] (mOn A w g) n (some (.int (A 0 (10 + 7 * c + 2)))) (mOn A w g) n := by
  refine Rn.steps 2 rfl ?_
  refine Rn.call rfl rfl rfl (c_isC d n A w g c hc) ?_
  refine Rn.br 1 rfl (fun hc5 => ?_) (fun hc5 => ?_)
  · exact absurd (bi_eq0 hc5) (by rw [hz]; decide)
  · refine Rn.steps 3 rfl ?_
    refine Rn.call rfl rfl rfl (c_of1 (d + 1) n A w g c 0 hc (by omega)) ?_
    refine Rn.steps 2 rfl ?_
    refine Rn.steps 1 rfl ?_
    refine Rn.steps 5 rfl ?_
    refine Rn.call rfl rfl rfl (c_of1 (d + 1) n A w g c 2 hc (by omega)) ?_
    exact Rn.retE rfl rfl rfl rfl rfl
theorem c_of_4 (c : Nat) (hc : c < 10) (hz : zt (A 0) c = true) : Rn (d + 2) 128 0 [(0, .ref 139), (1, .int (nI c)), (2, .int 4)] [] (mOn A w g) n (some (.int (A 0 (10 + 7 * c + 3)))) (mOn A w g) n := by
  refine Rn.steps 2 rfl ?_
  refine Rn.call rfl rfl rfl (c_isC d n A w g c hc) ?_
  refine Rn.br 1 rfl (fun hc5 => ?_) (fun hc5 => ?_)
  · exact absurd (bi_eq0 hc5) (by rw [hz]; decide)
  · refine Rn.steps 3 rfl ?_
    refine Rn.call rfl rfl rfl (c_of1 (d + 1) n A w g c 0 hc (by omega)) ?_
    refine Rn.steps 2 rfl ?_
    refine Rn.steps 1 rfl ?_
    refine Rn.steps 5 rfl ?_
    refine Rn.call rfl rfl rfl (c_of1 (d + 1) n A w g c 3 hc (by omega)) ?_
    exact Rn.retE rfl rfl rfl rfl rfl
theorem c_of_5 (c : Nat) (hc : c < 10) (hz : zt (A 0) c = true) : Rn (d + 2) 128 0 [(0, .ref 139), (1, .int (nI c)), (2, .int 5)] [] (mOn A w g) n (some (.int (A 0 (10 + 7 * c + 4)))) (mOn A w g) n := by
  refine Rn.steps 2 rfl ?_
  refine Rn.call rfl rfl rfl (c_isC d n A w g c hc) ?_
  refine Rn.br 1 rfl (fun hc5 => ?_) (fun hc5 => ?_)
  · exact absurd (bi_eq0 hc5) (by rw [hz]; decide)
  · refine Rn.steps 3 rfl ?_
    refine Rn.call rfl rfl rfl (c_of1 (d + 1) n A w g c 0 hc (by omega)) ?_
    refine Rn.steps 2 rfl ?_
    refine Rn.steps 1 rfl ?_
    refine Rn.steps 5 rfl ?_
    refine Rn.call rfl rfl rfl (c_of1 (d + 1) n A w g c 4 hc (by omega)) ?_
    exact Rn.retE rfl rfl rfl rfl rfl
theorem c_of_6 (c : Nat) (hc : c < 10) (hz : zt (A 0) c = true) : Rn (d + 2) 128 0 [(0, .ref 139), (1, .int (nI c)), (2, .int 6)] [] (mOn A w g) n (some (.int (A 0 (10 + 7 * c + 5)))) (mOn A w g) n := by
  refine Rn.steps 2 rfl ?_
  refine Rn.call rfl rfl rfl (c_isC d n A w g c hc) ?_
  refine Rn.br 1 rfl (fun hc5 => ?_) (fun hc5 => ?_)
  · exact absurd (bi_eq0 hc5) (by rw [hz]; decide)
  · refine Rn.steps 3 rfl ?_
    refine Rn.call rfl rfl rfl (c_of1 (d + 1) n A w g c 0 hc (by omega)) ?_
    refine Rn.steps 2 rfl ?_
    refine Rn.steps 1 rfl ?_
    refine Rn.steps 5 rfl ?_
    refine Rn.call rfl rfl rfl (c_of1 (d + 1) n A w g c 5 hc (by omega)) ?_
    exact Rn.retE rfl rfl rfl rfl rfl
theorem c_of_7 (c : Nat) (hc : c < 10) (hz : zt (A 0) c = true) : Rn (d + 2) 128 0 [(0, .ref 139), (1, .int (nI c)), (2, .int 7)] [] (mOn A w g) n (some (.int (if rm (A 0 (10 + 7 * c)) 4 = 2 ∨ rm (A 0 (10 + 7 * c)) 4 = (if rm (A 0 (10 + 7 * c) / 4) 2 = 0 then 3 else 1) then 1 else 0))) (mOn A w g) n := by
  refine Rn.steps 2 rfl ?_
  refine Rn.call rfl rfl rfl (c_isC d n A w g c hc) ?_
  refine Rn.br 1 rfl (fun hc5 => ?_) (fun hc5 => ?_)
  · exact absurd (bi_eq0 hc5) (by rw [hz]; decide)
  · refine Rn.steps 3 rfl ?_
    refine Rn.call rfl rfl rfl (c_of1 (d + 1) n A w g c 0 hc (by omega)) ?_
    refine Rn.steps 2 rfl ?_
    refine Rn.steps 1 rfl ?_
    refine Rn.br 5 rfl (fun hc85 => ?_) (fun hc85 => ?_)
    · have k1 : rm (A 0 (10 + 7 * c)) 4 = 2 := hc85
      refine Rn.steps 2 rfl ?_
      exact Rn.retE rfl rfl rfl (by first | (rw [if_pos (Or.inl k1)]; done) | (rw [if_pos (Or.inr k3)]; done) | (rw [if_neg (fun q => q.elim k1 k3)]; done)) rfl
    · have k1 : ¬ rm (A 0 (10 + 7 * c)) 4 = 2 := hc85
      refine Rn.br 9 rfl (fun hc96 => ?_) (fun hc96 => ?_)
      · have k4 : (if rm (A 0 (10 + 7 * c) / 4) 2 = 0 then (3 : Int32) else 1) = 3 := if_pos hc96
        refine Rn.br 3 rfl (fun hc104 => ?_) (fun hc104 => ?_)
        · have k3 : rm (A 0 (10 + 7 * c)) 4 = (if rm (A 0 (10 + 7 * c) / 4) 2 = 0 then (3 : Int32) else 1) := by rw [k4]; exact hc104
          refine Rn.steps 2 rfl ?_
          exact Rn.retE rfl rfl rfl (by first | (rw [if_pos (Or.inl k1)]; done) | (rw [if_pos (Or.inr k3)]; done) | (rw [if_neg (fun q => q.elim k1 k3)]; done)) rfl
        · have k3 : ¬ rm (A 0 (10 + 7 * c)) 4 = (if rm (A 0 (10 + 7 * c) / 4) 2 = 0 then (3 : Int32) else 1) := by rw [k4]; exact hc104
          refine Rn.steps 1 rfl ?_
          exact Rn.retE rfl rfl rfl (by first | (rw [if_pos (Or.inl k1)]; done) | (rw [if_pos (Or.inr k3)]; done) | (rw [if_neg (fun q => q.elim k1 k3)]; done)) rfl
      · have k4 : (if rm (A 0 (10 + 7 * c) / 4) 2 = 0 then (3 : Int32) else 1) = 1 := if_neg hc96
        refine Rn.br 2 rfl (fun hc104 => ?_) (fun hc104 => ?_)
        · have k3 : rm (A 0 (10 + 7 * c)) 4 = (if rm (A 0 (10 + 7 * c) / 4) 2 = 0 then (3 : Int32) else 1) := by rw [k4]; exact hc104
          refine Rn.steps 2 rfl ?_
          exact Rn.retE rfl rfl rfl (by first | (rw [if_pos (Or.inl k1)]; done) | (rw [if_pos (Or.inr k3)]; done) | (rw [if_neg (fun q => q.elim k1 k3)]; done)) rfl
        · have k3 : ¬ rm (A 0 (10 + 7 * c)) 4 = (if rm (A 0 (10 + 7 * c) / 4) 2 = 0 then (3 : Int32) else 1) := by rw [k4]; exact hc104
          refine Rn.steps 1 rfl ?_
          exact Rn.retE rfl rfl rfl (by first | (rw [if_pos (Or.inl k1)]; done) | (rw [if_pos (Or.inr k3)]; done) | (rw [if_neg (fun q => q.elim k1 k3)]; done)) rfl
theorem c_of_out (c : Nat) (hc : c < 10) (hz : zt (A 0) c = true) (y : Int32) (hy : y.toInt < 0 ∨ 7 < y.toInt) : Rn (d + 2) 128 0 [(0, .ref 139), (1, .int (nI c)), (2, .int y)] [] (mOn A w g) n (some (.int (-2))) (mOn A w g) n := by
  refine Rn.steps 2 rfl ?_
  refine Rn.call rfl rfl rfl (c_isC d n A w g c hc) ?_
  refine Rn.br 1 rfl (fun hc5 => ?_) (fun hc5 => ?_)
  · exact absurd (bi_eq0 hc5) (by rw [hz]; decide)
  · refine Rn.steps 3 rfl ?_
    refine Rn.call rfl rfl rfl (c_of1 (d + 1) n A w g c 0 hc (by omega)) ?_
    refine Rn.steps 2 rfl ?_
    refine Rn.swOut rfl rfl hy 113 rfl ?_
    refine Rn.steps 1 rfl ?_
    exact Rn.retE rfl rfl rfl rfl rfl
theorem c_count_0 : Rn (d + 3) 132 0 [(0, .ref 139), (1, .int 0)] [] (mOn A w g) n (some (.int (2 * A 0 0))) (mOn A w g) n := by
  refine Rn.steps 2 rfl ?_
  refine Rn.steps 1 rfl ?_
  refine Rn.call rfl rfl rfl (c_horns (d + 2) n A w g) ?_
  exact Rn.retE rfl rfl rfl rfl rfl
theorem c_count_1 : Rn (d + 3) 132 0 [(0, .ref 139), (1, .int 1)] [] (mOn A w g) n (some (.int (mSet (A 0) 10))) (mOn A w g) n := by
  refine Rn.steps 2 rfl ?_
  refine Rn.steps 1 rfl ?_
  refine Rn.call rfl rfl rfl (c_set0 d n A w g) ?_
  exact Rn.retE rfl rfl rfl rfl rfl
theorem c_count_2 : Rn (d + 3) 132 0 [(0, .ref 139), (1, .int 2)] [] (mOn A w g) n (some (.int (A 0 3))) (mOn A w g) n := by
  refine Rn.steps 2 rfl ?_
  refine Rn.steps 3 rfl ?_
  refine Rn.ialdN (m := 3) rfl rfl rfl (rfl) (by omega) (Nat.le_of_ble_eq_true rfl) ?_
  exact Rn.retE rfl rfl rfl rfl rfl
theorem c_count_3 : Rn (d + 3) 132 0 [(0, .ref 139), (1, .int 3)] [] (mOn A w g) n (some (.int (A 0 4))) (mOn A w g) n := by
  refine Rn.steps 2 rfl ?_
  refine Rn.steps 3 rfl ?_
  refine Rn.ialdN (m := 4) rfl rfl rfl (rfl) (by omega) (Nat.le_of_ble_eq_true rfl) ?_
  exact Rn.retE rfl rfl rfl rfl rfl
theorem c_count_4 : Rn (d + 3) 132 0 [(0, .ref 139), (1, .int 4)] [] (mOn A w g) n (some (.int (A 0 5))) (mOn A w g) n := by
  refine Rn.steps 2 rfl ?_
  refine Rn.steps 3 rfl ?_
  refine Rn.ialdN (m := 5) rfl rfl rfl (rfl) (by omega) (Nat.le_of_ble_eq_true rfl) ?_
  exact Rn.retE rfl rfl rfl rfl rfl
theorem c_count_5 : Rn (d + 3) 132 0 [(0, .ref 139), (1, .int 5)] [] (mOn A w g) n (some (.int (A 0 6))) (mOn A w g) n := by
  refine Rn.steps 2 rfl ?_
  refine Rn.steps 3 rfl ?_
  refine Rn.ialdN (m := 6) rfl rfl rfl (rfl) (by omega) (Nat.le_of_ble_eq_true rfl) ?_
  exact Rn.retE rfl rfl rfl rfl rfl
theorem c_count_6 : Rn (d + 3) 132 0 [(0, .ref 139), (1, .int 6)] [] (mOn A w g) n (some (.int (A 0 7))) (mOn A w g) n := by
  refine Rn.steps 2 rfl ?_
  refine Rn.steps 3 rfl ?_
  refine Rn.ialdN (m := 7) rfl rfl rfl (rfl) (by omega) (Nat.le_of_ble_eq_true rfl) ?_
  exact Rn.retE rfl rfl rfl rfl rfl
theorem c_count_7 : Rn (d + 3) 132 0 [(0, .ref 139), (1, .int 7)] [] (mOn A w g) n (some (.int (mSum (A 0) 1 10))) (mOn A w g) n := by
  refine Rn.steps 2 rfl ?_
  refine Rn.steps 2 rfl ?_
  refine Rn.call rfl rfl rfl (c_sum d n A w g 1 (by omega)) ?_
  exact Rn.retE rfl rfl rfl rfl rfl
theorem c_count_8 : Rn (d + 3) 132 0 [(0, .ref 139), (1, .int 8)] [] (mOn A w g) n (some (.int (A 0 8))) (mOn A w g) n := by
  refine Rn.steps 2 rfl ?_
  refine Rn.steps 3 rfl ?_
  refine Rn.ialdN (m := 8) rfl rfl rfl (rfl) (by omega) (Nat.le_of_ble_eq_true rfl) ?_
  exact Rn.retE rfl rfl rfl rfl rfl
theorem c_count_9 : Rn (d + 3) 132 0 [(0, .ref 139), (1, .int 9)] [] (mOn A w g) n (some (.int (A 0 9))) (mOn A w g) n := by
  refine Rn.steps 2 rfl ?_
  refine Rn.steps 3 rfl ?_
  refine Rn.ialdN (m := 9) rfl rfl rfl (rfl) (by omega) (Nat.le_of_ble_eq_true rfl) ?_
  exact Rn.retE rfl rfl rfl rfl rfl
theorem c_count_10 : Rn (d + 3) 132 0 [(0, .ref 139), (1, .int 10)] [] (mOn A w g) n (some (.int (A 0 0))) (mOn A w g) n := by
  refine Rn.steps 2 rfl ?_
  refine Rn.steps 5 rfl ?_
  refine Rn.ialdN (m := 0) rfl rfl rfl (rfl) (by omega) (Nat.le_of_ble_eq_true rfl) ?_
  exact Rn.retE rfl rfl rfl rfl rfl
theorem c_count_11 : Rn (d + 3) 132 0 [(0, .ref 139), (1, .int 11)] [] (mOn A w g) n (some (.int (A 0 1))) (mOn A w g) n := by
  refine Rn.steps 2 rfl ?_
  refine Rn.steps 5 rfl ?_
  refine Rn.ialdN (m := 1) rfl rfl rfl (rfl) (by omega) (Nat.le_of_ble_eq_true rfl) ?_
  exact Rn.retE rfl rfl rfl rfl rfl
theorem c_count_12 : Rn (d + 3) 132 0 [(0, .ref 139), (1, .int 12)] [] (mOn A w g) n (some (.int (A 0 2))) (mOn A w g) n := by
  refine Rn.steps 2 rfl ?_
  refine Rn.steps 5 rfl ?_
  refine Rn.ialdN (m := 2) rfl rfl rfl (rfl) (by omega) (Nat.le_of_ble_eq_true rfl) ?_
  exact Rn.retE rfl rfl rfl rfl rfl
theorem c_count_13 : Rn (d + 3) 132 0 [(0, .ref 139), (1, .int 13)] [] (mOn A w g) n (some (.int (w 1))) (mOn A w g) n := by
  refine Rn.steps 2 rfl ?_
  refine Rn.steps 2 rfl ?_
  exact Rn.retE rfl rfl rfl rfl rfl
theorem c_count_14 : Rn (d + 3) 132 0 [(0, .ref 139), (1, .int 14)] [] (mOn A w g) n (some (.int (w 0))) (mOn A w g) n := by
  refine Rn.steps 2 rfl ?_
  refine Rn.steps 2 rfl ?_
  exact Rn.retE rfl rfl rfl rfl rfl
theorem c_count_out (y : Int32) (hy : y.toInt < 0 ∨ 14 < y.toInt) : Rn (d + 3) 132 0 [(0, .ref 139), (1, .int y)] [] (mOn A w g) n (some (.int (-2))) (mOn A w g) n := by
  refine Rn.steps 1 rfl ?_
  refine Rn.swOut rfl rfl hy 165 rfl ?_
  refine Rn.steps 1 rfl ?_
  exact Rn.retE rfl rfl rfl rfl rfl
end MODEL6
