/-! the reference: texts -/
def wT (w : Nat → Int32) (sp tm : Nat) : Nat → Int32 := upd (upd w 3 (nI sp)) 4 (nI tm)
theorem wT_3 {w : Nat → Int32} {sp tm s2 : Nat} : upd (wT w sp tm) 3 (nI s2) = wT w s2 tm := by
  funext j
  unfold wT upd
  by_cases h3 : j = 3
  · subst h3; rfl
  · rw [if_neg h3]
    by_cases h4 : j = 4
    · rw [if_pos h4, if_pos h4]
    · rw [if_neg h4, if_neg h4, if_neg h3, if_neg h3]
theorem wT_4 {w : Nat → Int32} {sp tm t2 : Nat} : upd (wT w sp tm) 4 (nI t2) = wT w sp t2 := by
  unfold wT
  rw [upd_upd]
def seF (p : Nat → Int32) (ty sp : Nat) (lo hi : Int32) : Bool := decide (sp < ty) && decide (lo ≤ p sp ∧ p sp ≤ hi)
def taS (p : Nat → Int32) (ty sp : Nat) (c : Int32) : Nat := cond (seF p ty sp c c) (sp + 1) sp
/-- a number: its value, or -6, and where the reading stands then -/
def nuF (p : Nat → Int32) (ty sp : Nat) (dg : Int32) : Int32 × Nat := cond (seF p ty sp 48 57) (cond (decide (0 < p sp - 48) && (decide (1 < dg) && seF p ty (sp + 1) 48 57)) (10 * (p sp - 48) + p (sp + 1) - 48, sp + 2) (p sp - 48, sp + 1)) (-6, sp)
theorem nuF_le (p : Nat → Int32) (ty sp : Nat) (dg : Int32) : sp ≤ (nuF p ty sp dg).2 ∧ (nuF p ty sp dg).2 ≤ sp + 2 := by
  unfold nuF
  cases seF p ty sp 48 57 with
  | false => exact ⟨Nat.le_refl _, by simp only [cond]; omega⟩
  | true =>
    simp only [cond]
    split <;> simp only <;> omega
section MODEL7
variable (d n : Nat) (A : Nat → Nat → Int32) (w : Nat → Int32) (g h : xHp) (ty : Nat)
theorem c_sees (hty : w 1 = nI ty) (ht8 : ty ≤ 80) (sp tm : Nat) (hsp : sp ≤ 100) (lo hi : Int32) : Rn (d + 1) 145 0 [(0, .ref 139), (1, .int lo), (2, .int hi)] [] (mOn A (wT w (sp) (tm)) g) n (some (.int (bi (seF (A 4) ty sp lo hi)))) (mOn A (wT w (sp) (tm)) g) n := by
  refine Rn.br 5 rfl (fun hc8 => ?_) (fun hc8 => ?_)
  · have hb : ¬ sp < ty := fun q => nI_ge (a := sp) (b := ty) q (by omega) (by rw [← hty]; exact hc8)
    exact Rn.steps 1 rfl (Rn.retE rfl rfl rfl (by unfold seF; rw [decide_eq_false hb]; rfl) rfl)
  · have hb : sp < ty := by
      rcases Nat.lt_or_ge sp ty with q | q
      · exact q
      · exact (hc8 (by show w 1 ≤ nI sp; rw [hty]; exact nI_le q (by omega))).elim
    refine Rn.steps 4 rfl ?_
    refine Rn.ialdN (m := sp) rfl rfl rfl (rfl) (by omega) (Nat.le_of_ble_eq_true rfl) ?_
    refine Rn.steps 2 rfl ?_
    refine Rn.call rfl rfl rfl (c_in d n _ _ _ _) ?_
    refine Rn.br 1 rfl (fun hc25 => ?_) (fun hc25 => ?_)
    · have hz : seF (A 4) ty sp lo hi = false := by unfold seF; rw [decide_eq_true hb, bi_eq0 hc25]; rfl
      refine Rn.steps 1 rfl ?_
      exact Rn.retE rfl rfl rfl (by rw [hz]; rfl) rfl
    · have hz : seF (A 4) ty sp lo hi = true := by unfold seF; rw [decide_eq_true hb, bi_ne0 hc25]; rfl
      refine Rn.steps 2 rfl ?_
      exact Rn.retE rfl rfl rfl (by rw [hz]; rfl) rfl
theorem c_takes (hty : w 1 = nI ty) (ht8 : ty ≤ 80) (sp tm : Nat) (hsp : sp ≤ 100) (c : Int32) : Rn (d + 2) 146 0 [(0, .ref 139), (1, .int c)] [] (mOn A (wT w (sp) (tm)) g) n (some (.int (bi (seF (A 4) ty sp c c)))) (mOn A (wT w (taS (A 4) ty sp c) (tm)) g) n := by
  refine Rn.steps 3 rfl ?_
  refine Rn.call rfl rfl rfl (c_sees d n A w g ty hty ht8 sp tm hsp c c) ?_
  refine Rn.br 6 rfl (fun hc13 => ?_) (fun hc13 => ?_)
  · have hz := bi_eq0 hc13
    refine Rn.steps 2 rfl ?_
    refine Rn.stk (st2 := [.int (nI (taS (A 4) ty sp c)), .ref 139]) (by unfold taS; rw [hz]; first | (show [Value.int (nI sp + 0), Value.ref 139] = _; rw [Int32.add_zero]; rfl) | (show [Value.int (nI sp + 1), Value.ref 139] = _; rw [nI_1]; rfl)) ?_
    refine Rn.steps 1 rfl ?_
    refine Rn.heap mOn_w3 ?_
    rw [wT_3]
    refine Rn.steps 1 rfl ?_
    exact Rn.retZ rfl rfl rfl rfl rfl
  · have hz := bi_ne0 hc13
    refine Rn.steps 3 rfl ?_
    refine Rn.stk (st2 := [.int (nI (taS (A 4) ty sp c)), .ref 139]) (by unfold taS; rw [hz]; first | (show [Value.int (nI sp + 0), Value.ref 139] = _; rw [Int32.add_zero]; rfl) | (show [Value.int (nI sp + 1), Value.ref 139] = _; rw [nI_1]; rfl)) ?_
    refine Rn.steps 1 rfl ?_
    refine Rn.heap mOn_w3 ?_
    rw [wT_3]
    refine Rn.steps 1 rfl ?_
    exact Rn.retZ rfl rfl rfl rfl rfl
theorem c_number (hty : w 1 = nI ty) (ht8 : ty ≤ 80) (sp tm : Nat) (hsp : sp ≤ 98) (dg : Int32) : Rn (d + 2) 147 0 [(0, .ref 139), (1, .int dg)] [] (mOn A (wT w (sp) (tm)) g) n (some (.int ((nuF (A 4) ty sp dg).1))) (mOn A (wT w ((nuF (A 4) ty sp dg).2) (tm)) g) n := by
  refine Rn.steps 3 rfl ?_
  refine Rn.call rfl rfl rfl (c_sees d n A w g ty hty ht8 sp tm (by omega) 48 57) ?_
  refine Rn.br 1 rfl (fun hc8 => ?_) (fun hc8 => ?_)
  · have hz := bi_eq0 hc8
    rw [show nuF (A 4) ty sp dg = (-6, sp) by unfold nuF; rw [hz]; rfl]
    refine Rn.steps 1 rfl ?_
    exact Rn.retE rfl rfl rfl rfl rfl
  · have hz := bi_ne0 hc8
    have hlt : sp < ty := by
      have h1 := hz
      unfold seF at h1
      exact of_decide_eq_true ((Bool.and_eq_true _ _ ▸ h1 : _ ∧ _).1)
    refine Rn.steps 4 rfl ?_
    refine Rn.ialdN (m := sp) rfl rfl rfl (rfl) (by omega) (Nat.le_of_ble_eq_true rfl) ?_
    refine Rn.steps 8 rfl ?_
    refine Rn.stk (st2 := [.int (nI (sp + 1)), .ref 139]) (by rw [← nI_1]; rfl) ?_
    refine Rn.steps 1 rfl ?_
    refine Rn.heap mOn_w3 ?_
    rw [wT_3]
    refine Rn.br 2 rfl (fun hc38 => ?_) (fun hc38 => ?_)
    · have e1 : nuF (A 4) ty sp dg = (A 4 sp - 48, sp + 1) := by unfold nuF; rw [hz, decide_eq_false (Int32.not_lt.mpr hc38)]; rfl
      rw [e1]
      refine Rn.steps 1 rfl ?_
      exact Rn.retE rfl rfl rfl rfl rfl
    · have e2 : 0 < A 4 sp - 48 := Int32.not_le.mp hc38
      refine Rn.br 3 rfl (fun hc43 => ?_) (fun hc43 => ?_)
      · have e1 : nuF (A 4) ty sp dg = (A 4 sp - 48, sp + 1) := by unfold nuF; rw [hz, decide_eq_true e2, decide_eq_false (Int32.not_lt.mpr hc43)]; rfl
        rw [e1]
        refine Rn.steps 1 rfl ?_
        exact Rn.retE rfl rfl rfl rfl rfl
      · have e3 : 1 < dg := Int32.not_le.mp hc43
        refine Rn.steps 3 rfl ?_
        refine Rn.call rfl rfl rfl (c_sees d n A w g ty hty ht8 (sp + 1) tm (by omega) 48 57) ?_
        refine Rn.br 1 rfl (fun hc54 => ?_) (fun hc54 => ?_)
        · have e1 : nuF (A 4) ty sp dg = (A 4 sp - 48, sp + 1) := by unfold nuF; rw [hz, decide_eq_true e2, decide_eq_true e3, bi_eq0 hc54]; rfl
          rw [e1]
          refine Rn.steps 1 rfl ?_
          exact Rn.retE rfl rfl rfl rfl rfl
        · have e1 : nuF (A 4) ty sp dg = (10 * (A 4 sp - 48) + A 4 (sp + 1) - 48, sp + 2) := by unfold nuF; rw [hz, decide_eq_true e2, decide_eq_true e3, bi_ne0 hc54]; rfl
          rw [e1]
          have hlt2 : sp + 1 < ty := by
            have h1 := bi_ne0 hc54
            unfold seF at h1
            exact of_decide_eq_true ((Bool.and_eq_true _ _ ▸ h1 : _ ∧ _).1)
          refine Rn.steps 7 rfl ?_
          refine Rn.ialdN (m := sp + 1) rfl rfl rfl (rfl) (by omega) (Nat.le_of_ble_eq_true rfl) ?_
          refine Rn.steps 9 rfl ?_
          refine Rn.stk (st2 := [.int (nI (sp + 2)), .ref 139]) (by rw [show sp + 2 = sp + 1 + 1 from rfl, ← nI_1 (sp + 1)]; rfl) ?_
          refine Rn.steps 1 rfl ?_
          refine Rn.heap mOn_w3 ?_
          rw [wT_3]
          refine Rn.steps 1 rfl ?_
          exact Rn.retE rfl rfl rfl rfl rfl
def leF (p : Nat → Int32) (ty sp : Nat) : Int32 := if sp < ty then p sp else 0
def isLe (l : Int32) : Bool := decide (l = 99) || (decide (l = 120) || (decide (l = 114) || (decide (l = 98) || (decide (l = 107) || decide (l = 102)))))
def fiF (p : Nat → Int32) (ty sp : Nat) : Int32 × Nat := nuF p ty (sp + 1) (if leF p ty sp = 99 ∨ leF p ty sp = 114 then 2 else 1)
def seS (p : Nat → Int32) (ty sp : Nat) : Int32 × Nat := cond (decide (¬ (fiF p ty sp).1 = -6) && decide (leF p ty sp = 99)) (cond (seF p ty (fiF p ty sp).2 46 46) (nuF p ty ((fiF p ty sp).2 + 1) 1) (-6, (fiF p ty sp).2)) (0, (fiF p ty sp).2)
def roB (p : Nat → Int32) (ty sp : Nat) : Bool := isLe (leF p ty sp) && (decide (¬ (fiF p ty sp).1 = -6) && decide (¬ (seS p ty sp).1 = -6))
def roS (p : Nat → Int32) (ty sp : Nat) : Nat := cond (isLe (leF p ty sp)) (seS p ty sp).2 sp
def roM (p : Nat → Int32) (ty sp tm : Nat) : Nat := cond (isLe (leF p ty sp)) (tm + 1) tm
def roT (p : Nat → Int32) (ty sp tm : Nat) (t : Nat → Int32) : Nat → Int32 := cond (isLe (leF p ty sp)) (upd (upd (upd t (3 * tm) (leF p ty sp)) (3 * tm + 1) (fiF p ty sp).1) (3 * tm + 2) (seS p ty sp).1) t
theorem x3t (t : Nat) : (3 : Int32) * nI t = nI (3 * t) := by rw [show (3 : Int32) = nI 3 from rfl, pk_mul]
theorem c_readOrder (hty : w 1 = nI ty) (ht8 : ty ≤ 80) (sp tm : Nat) (hsp : sp ≤ 90) (htm : tm ≤ 39) : Rn (d + 3) 148 0 [(0, .ref 139)] [] (mOn A (wT w (sp) (tm)) g) n (some (.int (bi (roB (A 4) ty sp)))) (mOn (va_up A 6 (roT (A 4) ty sp tm (A 6))) (wT w (roS (A 4) ty sp) (roM (A 4) ty sp tm)) g) n := by
  have hfb : (fiF (A 4) ty sp).2 ≤ sp + 3 := by have := nuF_le (A 4) ty (sp + 1) (if leF (A 4) ty sp = 99 ∨ leF (A 4) ty sp = 114 then 2 else 1); unfold fiF; omega
  have kend : ∀ l, leF (A 4) ty sp = l → isLe l = true → ∀ s9, (seS (A 4) ty sp).2 = s9 → Rn (d + 3) 148 129 [(0, .ref 139), (1, .int l), (2, .int (fiF (A 4) ty sp).1), (3, .int (seS (A 4) ty sp).1)] [] (mOn A (wT w s9 tm) g) n (some (.int (bi (roB (A 4) ty sp)))) (mOn (va_up A 6 (roT (A 4) ty sp tm (A 6))) (wT w (roS (A 4) ty sp) (roM (A 4) ty sp tm)) g) n := by
    intro l hle hl s9 hs9
    subst hle; subst hs9
    have e1 : roT (A 4) ty sp tm (A 6) = upd (upd (upd (A 6) (3 * tm) (leF (A 4) ty sp)) (3 * tm + 1) (fiF (A 4) ty sp).1) (3 * tm + 2) (seS (A 4) ty sp).1 := by unfold roT; rw [hl]; rfl
    have e2 : roS (A 4) ty sp = (seS (A 4) ty sp).2 := by unfold roS; rw [hl]; rfl
    have e3 : roM (A 4) ty sp tm = tm + 1 := by unfold roM; rw [hl]; rfl
    rw [e1, e2, e3]
    refine Rn.steps 7 rfl ?_
    refine Rn.iastN (m := 3 * tm) rfl rfl rfl rfl (x3t tm) (by omega) (Nat.le_of_ble_eq_true rfl) ?_
    rw [mOn_6]
    refine Rn.steps 9 rfl ?_
    refine Rn.iastN (m := 3 * tm + 1) rfl rfl rfl rfl ((by rw [← nI_1, ← x3t]; rfl)) (by omega) (Nat.le_of_ble_eq_true rfl) ?_
    rw [mOn_6, bx_uu]
    refine Rn.steps 9 rfl ?_
    refine Rn.iastN (m := 3 * tm + 2) rfl rfl rfl rfl ((by rw [← nI_add, ← x3t]; rfl)) (by omega) (Nat.le_of_ble_eq_true rfl) ?_
    rw [mOn_6, bx_uu]
    refine Rn.steps 5 rfl ?_
    refine Rn.stk (st2 := [.int (nI (tm + 1)), .ref 139]) (by rw [← nI_1]; rfl) ?_
    refine Rn.steps 1 rfl ?_
    refine Rn.heap mOn_w4 ?_
    rw [wT_4]
    refine Rn.br 3 rfl (fun hc182 => ?_) (fun hc182 => ?_)
    · have hb : roB (A 4) ty sp = false := by unfold roB; rw [hl, decide_eq_false (fun q => q hc182)]; rfl
      refine Rn.steps 1 rfl ?_
      exact Rn.retE rfl rfl rfl (by rw [hb]; rfl) rfl
    · refine Rn.br 3 rfl (fun hc188 => ?_) (fun hc188 => ?_)
      · have hb : roB (A 4) ty sp = false := by unfold roB; rw [hl, decide_eq_true hc182, decide_eq_false (fun q => q hc188)]; rfl
        refine Rn.steps 1 rfl ?_
        exact Rn.retE rfl rfl rfl (by rw [hb]; rfl) rfl
      · have hb : roB (A 4) ty sp = true := by unfold roB; rw [hl, decide_eq_true hc182, decide_eq_true hc188]; rfl
        refine Rn.steps 2 rfl ?_
        exact Rn.retE rfl rfl rfl (by rw [hb]; rfl) rfl
  have kmid : ∀ l, leF (A 4) ty sp = l → isLe l = true → Rn (d + 3) 148 94 [(0, .ref 139), (1, .int l)] [.int (fiF (A 4) ty sp).1] (mOn A (wT w (fiF (A 4) ty sp).2 tm) g) n (some (.int (bi (roB (A 4) ty sp)))) (mOn (va_up A 6 (roT (A 4) ty sp tm (A 6))) (wT w (roS (A 4) ty sp) (roM (A 4) ty sp tm)) g) n := by
    intro l hle hl
    refine Rn.br 6 rfl (fun hc100 => ?_) (fun hc100 => ?_)
    · have hse : seS (A 4) ty sp = (0, (fiF (A 4) ty sp).2) := by unfold seS; rw [decide_eq_false (fun q => q hc100)]; rfl
      exact Rn.l4 (by decide) rfl rfl rfl (by rw [hse]; rfl) (kend l hle hl _ (by rw [hse]))
    · refine Rn.br 3 rfl (fun hc106 => ?_) (fun hc106 => ?_)
      · have h9 : (decide (¬ (fiF (A 4) ty sp).1 = -6) && decide (leF (A 4) ty sp = 99)) = true := by rw [decide_eq_true hc100, hle, decide_eq_true hc106]; rfl
        refine Rn.steps 2 rfl ?_
        refine Rn.call rfl rfl rfl (c_takes (d) n A w g ty hty ht8 (fiF (A 4) ty sp).2 tm (by omega) 46) ?_
        refine Rn.br 1 rfl (fun hc115 => ?_) (fun hc115 => ?_)
        · have hz := bi_eq0 hc115
          have hse : seS (A 4) ty sp = (-6, (fiF (A 4) ty sp).2) := by unfold seS; rw [h9, hz]; rfl
          rw [show taS (A 4) ty (fiF (A 4) ty sp).2 46 = (fiF (A 4) ty sp).2 by unfold taS; rw [hz]; rfl]
          refine Rn.steps 2 rfl ?_
          exact Rn.l4 (by decide) rfl rfl rfl (by rw [hse]; rfl) (kend l hle hl _ (by rw [hse]))
        · have hz := bi_ne0 hc115
          have hse : seS (A 4) ty sp = nuF (A 4) ty ((fiF (A 4) ty sp).2 + 1) 1 := by unfold seS; rw [h9, hz]; rfl
          rw [show taS (A 4) ty (fiF (A 4) ty sp).2 46 = (fiF (A 4) ty sp).2 + 1 by unfold taS; rw [hz]; rfl]
          refine Rn.steps 2 rfl ?_
          refine Rn.call rfl rfl rfl (c_number d n A w g ty hty ht8 ((fiF (A 4) ty sp).2 + 1) tm (by omega) 1) ?_
          refine Rn.steps 2 rfl ?_
          exact Rn.l4 (by decide) rfl rfl rfl (by rw [hse]; rfl) (kend l hle hl _ (by rw [hse]))
      · have hse : seS (A 4) ty sp = (0, (fiF (A 4) ty sp).2) := by unfold seS; rw [hle, decide_eq_false hc106, Bool.and_false]; rfl
        exact Rn.l4 (by decide) rfl rfl rfl (by rw [hse]; rfl) (kend l hle hl _ (by rw [hse]))
  have k63 : ∀ l, leF (A 4) ty sp = l → isLe l = true → Rn (d + 3) 148 63 [(0, .ref 139), (1, .int l)] [] (mOn A (wT w sp tm) g) n (some (.int (bi (roB (A 4) ty sp)))) (mOn (va_up A 6 (roT (A 4) ty sp tm (A 6))) (wT w (roS (A 4) ty sp) (roM (A 4) ty sp tm)) g) n := by
    intro l hle hl
    refine Rn.steps 5 rfl ?_
    refine Rn.stk (st2 := [.int (nI (sp + 1)), .ref 139]) (by rw [← nI_1]; rfl) ?_
    refine Rn.steps 1 rfl ?_
    refine Rn.heap mOn_w3 ?_
    rw [wT_3]
    refine Rn.br 4 rfl (fun hc77 => ?_) (fun hc77 => ?_)
    · have hdg : (if leF (A 4) ty sp = 99 ∨ leF (A 4) ty sp = 114 then (2 : Int32) else 1) = 2 := if_pos (Or.inl (by rw [hle]; exact hc77))
      refine Rn.steps 2 rfl ?_
      refine Rn.call rfl rfl rfl (c_number d n A w g ty hty ht8 (sp + 1) tm (by omega) _) ?_
      have k1 := kmid l hle hl
      unfold fiF at k1
      rw [hdg] at k1
      exact k1
    · refine Rn.br 3 rfl (fun hc83 => ?_) (fun hc83 => ?_)
      · have hdg : (if leF (A 4) ty sp = 99 ∨ leF (A 4) ty sp = 114 then (2 : Int32) else 1) = 2 := if_pos (Or.inr (by rw [hle]; exact hc83))
        refine Rn.steps 2 rfl ?_
        refine Rn.call rfl rfl rfl (c_number d n A w g ty hty ht8 (sp + 1) tm (by omega) _) ?_
        have k1 := kmid l hle hl
        unfold fiF at k1
        rw [hdg] at k1
        exact k1
      · have hdg : (if leF (A 4) ty sp = 99 ∨ leF (A 4) ty sp = 114 then (2 : Int32) else 1) = 1 := if_neg (by rw [hle]; exact fun q => q.elim hc77 hc83)
        refine Rn.steps 1 rfl ?_
        refine Rn.call rfl rfl rfl (c_number d n A w g ty hty ht8 (sp + 1) tm (by omega) _) ?_
        have k1 := kmid l hle hl
        unfold fiF at k1
        rw [hdg] at k1
        exact k1
  have k25 : ∀ l, leF (A 4) ty sp = l → Rn (d + 3) 148 25 [(0, .ref 139), (1, .int l)] [] (mOn A (wT w sp tm) g) n (some (.int (bi (roB (A 4) ty sp)))) (mOn (va_up A 6 (roT (A 4) ty sp tm (A 6))) (wT w (roS (A 4) ty sp) (roM (A 4) ty sp tm)) g) n := by
    intro l hle
    refine Rn.br 3 rfl (fun hc28 => ?_) (fun hc28 => ?_)
    · have hl : isLe l = true := by rw [hc28]; decide
      exact Rn.l2 rfl rfl rfl (k63 l hle hl)
    · refine Rn.br 3 rfl (fun hc34 => ?_) (fun hc34 => ?_)
      · have hl : isLe l = true := by rw [hc34]; decide
        exact Rn.l2 rfl rfl rfl (k63 l hle hl)
      · refine Rn.br 3 rfl (fun hc40 => ?_) (fun hc40 => ?_)
        · have hl : isLe l = true := by rw [hc40]; decide
          exact Rn.l2 rfl rfl rfl (k63 l hle hl)
        · refine Rn.br 3 rfl (fun hc46 => ?_) (fun hc46 => ?_)
          · have hl : isLe l = true := by rw [hc46]; decide
            exact Rn.l2 rfl rfl rfl (k63 l hle hl)
          · refine Rn.br 3 rfl (fun hc52 => ?_) (fun hc52 => ?_)
            · have hl : isLe l = true := by rw [hc52]; decide
              exact Rn.l2 rfl rfl rfl (k63 l hle hl)
            · refine Rn.br 3 rfl (fun hc58 => ?_) (fun hc58 => ?_)
              · have hl : isLe l = true := by rw [hc58]; decide
                exact Rn.l2 rfl rfl rfl (k63 l hle hl)
              · have hl : isLe l = false := by unfold isLe; rw [decide_eq_false hc28, decide_eq_false hc34, decide_eq_false hc40, decide_eq_false hc46, decide_eq_false hc52, decide_eq_false hc58]; rfl
                rw [← hle] at hl
                have hb : roB (A 4) ty sp = false := by unfold roB; rw [hl]; rfl
                have e1 : roT (A 4) ty sp tm (A 6) = A 6 := by unfold roT; rw [hl]; rfl
                have e2 : roS (A 4) ty sp = sp := by unfold roS; rw [hl]; rfl
                have e3 : roM (A 4) ty sp tm = tm := by unfold roM; rw [hl]; rfl
                refine Rn.steps 1 rfl ?_
                exact Rn.retE rfl rfl rfl (by rw [hb]; rfl) (by rw [e1, e2, e3, xup_self])
  refine Rn.br 5 rfl (fun hc8 => ?_) (fun hc8 => ?_)
  · have hb : ¬ sp < ty := fun q => nI_ge (a := sp) (b := ty) q (by omega) (by rw [← hty]; exact hc8)
    have hle : leF (A 4) ty sp = 0 := if_neg hb
    refine Rn.steps 2 rfl ?_
    exact Rn.l2 rfl rfl rfl (k25 _ hle)
  · have hb : sp < ty := by
      rcases Nat.lt_or_ge sp ty with q | q
      · exact q
      · exact (hc8 (by show w 1 ≤ nI sp; rw [hty]; exact nI_le q (by omega))).elim
    have hle : leF (A 4) ty sp = A 4 sp := if_pos hb
    refine Rn.steps 4 rfl ?_
    refine Rn.ialdN (m := sp) rfl rfl rfl (rfl) (by omega) (Nat.le_of_ble_eq_true rfl) ?_
    refine Rn.steps 2 rfl ?_
    exact Rn.l2 rfl rfl rfl (k25 _ hle)
theorem nuF_some {p : Nat → Int32} {ty sp : Nat} {dg : Int32} (h : ¬ (nuF p ty sp dg).1 = -6) : sp < ty ∧ sp + 1 ≤ (nuF p ty sp dg).2 ∧ (nuF p ty sp dg).2 ≤ ty := by
  unfold nuF at h ⊢
  cases hz : seF p ty sp 48 57 with
  | false => rw [hz] at h; exact absurd rfl h
  | true =>
    have h1 : sp < ty := by
      unfold seF at hz
      exact of_decide_eq_true ((Bool.and_eq_true _ _ ▸ hz : _ ∧ _).1)
    simp only [cond]
    cases hq : (decide (0 < p sp - 48) && (decide (1 < dg) && seF p ty (sp + 1) 48 57)) with
    | false => simp only; omega
    | true =>
      obtain ⟨_, q2⟩ := (Bool.and_eq_true _ _ ▸ hq : _ ∧ _)
      obtain ⟨_, q4⟩ := (Bool.and_eq_true _ _ ▸ q2 : _ ∧ _)
      unfold seF at q4
      have h2 : sp + 1 < ty := of_decide_eq_true ((Bool.and_eq_true _ _ ▸ q4 : _ ∧ _).1)
      simp only
      omega
/-- a good order is two characters at least, and ends within the text -/
theorem roB_adv {p : Nat → Int32} {ty sp : Nat} (h : roB p ty sp = true) : sp + 2 ≤ roS p ty sp ∧ roS p ty sp ≤ ty ∧ isLe (leF p ty sp) = true := by
  unfold roB at h
  obtain ⟨h1, h2⟩ := (Bool.and_eq_true _ _ ▸ h : _ ∧ _)
  obtain ⟨h3, h4⟩ := (Bool.and_eq_true _ _ ▸ h2 : _ ∧ _)
  have h5 := of_decide_eq_true h3
  have h6 := of_decide_eq_true h4
  have f1 : sp + 1 < ty ∧ sp + 1 + 1 ≤ (fiF p ty sp).2 ∧ (fiF p ty sp).2 ≤ ty := nuF_some h5
  have e2 : roS p ty sp = (seS p ty sp).2 := by unfold roS; rw [h1]; rfl
  refine ⟨?_, ?_, h1⟩
  · rw [e2]
    unfold seS
    cases (decide (¬ (fiF p ty sp).1 = -6) && decide (leF p ty sp = 99)) with
    | false => show sp + 2 ≤ (fiF p ty sp).2; omega
    | true =>
      cases seF p ty (fiF p ty sp).2 46 46 with
      | false => show sp + 2 ≤ (fiF p ty sp).2; omega
      | true =>
        have := (nuF_le p ty ((fiF p ty sp).2 + 1) 1).1
        show sp + 2 ≤ (nuF p ty ((fiF p ty sp).2 + 1) 1).2
        omega
  · rw [e2]
    unfold seS at h6 ⊢
    cases hq : (decide (¬ (fiF p ty sp).1 = -6) && decide (leF p ty sp = 99)) with
    | false => exact f1.2.2
    | true =>
      rw [hq] at h6
      cases hz : seF p ty (fiF p ty sp).2 46 46 with
      | false => rw [hz] at h6; exact absurd rfl h6
      | true =>
        rw [hz] at h6
        exact (nuF_some h6).2.2
/-- the reading of the pad behind an order: fuel, where it stands, how many orders, what was told; the answer, the end -/
def rpF (p : Nat → Int32) (ty : Nat) : Nat → Nat → Nat → (Nat → Int32) → Bool × Nat × Nat × (Nat → Int32)
  | 0, sp, tm, t => (true, sp, tm, t)
  | r + 1, sp, tm, t => if sp < ty then cond (seF p ty sp 59 59) (cond (roB p ty (sp + 1)) (rpF p ty r (roS p ty (sp + 1)) (roM p ty (sp + 1) tm) (roT p ty (sp + 1) tm t)) (false, roS p ty (sp + 1), roM p ty (sp + 1) tm, roT p ty (sp + 1) tm t)) (false, sp, tm, t) else (true, sp, tm, t)
def rdF (p : Nat → Int32) (ty : Nat) (t : Nat → Int32) : Bool × Nat × Nat × (Nat → Int32) := cond (roB p ty 0) (rpF p ty 27 (roS p ty 0) (roM p ty 0 0) (roT p ty 0 0 t)) (false, roS p ty 0, roM p ty 0 0, roT p ty 0 0 t)
end MODEL7
