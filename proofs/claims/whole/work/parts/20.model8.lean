/-! the reference: the pad read, faults, orders -/
section RN8
variable {d i pc : Nat} {ls : xLs} {st : List Value} {h h' : xHp} {n n' : Nat} {v : Option Value}
theorem Rn.lsw {e : xEn} {df : Int} {qs : Array (Int × Int)} {x : Int32} {r : List Value} (hf : xfind i pc = some e) (he : e.1 = .lookupswitch df qs) {off : Int} (ho : Op.lookupswitch.offset qs.toList df x.toInt = off) (tgt : Nat) (ht : (pc : Int) + off = (tgt : Int)) (kk : Rn d i tgt ls r h n v h' n') : Rn d i pc ls (.int x :: r) h n v h' n' := by
  obtain ⟨ins, e2⟩ := e
  dsimp only at he
  subst he
  refine Rn.step1 hf rfl ?_ kk
  show xgp (0 ≤ (pc : Int) + Op.lookupswitch.offset qs.toList df x.toInt) _ = _
  rw [ho, ht, xgp_pos (Int.natCast_nonneg tgt)]
  rfl
end RN8
def ordW (z : Nat → Int32) (l a b : Int32) : Int32 := if l = 98 then wne z a 0 else if l = 99 then whyNC z a b else if l = 107 then wne z a 1 else if l = 114 then wnr z a else cond (isC z a) 0 (-1)
section MODEL8
variable (d n : Nat) (A : Nat → Nat → Int32) (w : Nat → Int32) (g h : xHp) (ty : Nat)
theorem c_rp (hty : w 1 = nI ty) (ht8 : ty ≤ 80) : ∀ (r sp tm : Nat) (t : Nat → Int32), sp ≤ ty → 80 ≤ sp + 3 * r → tm + r ≤ 38 → Rn (d + 4) 149 15 [(0, .ref 139), (1, .int 1)] [] (mOn (va_up A 6 t) (wT w sp tm) g) n (some (.int (bi (rpF (A 4) ty r sp tm t).1))) (mOn (va_up A 6 (rpF (A 4) ty r sp tm t).2.2.2) (wT w (rpF (A 4) ty r sp tm t).2.1 (rpF (A 4) ty r sp tm t).2.2.1) g) n := by
  intro r
  induction r with
  | zero =>
    intro sp tm t h1 h2 h3
    have hs : sp = ty := by omega
    subst hs
    refine Rn.br 7 rfl (fun hc27 => ?_) (fun hc27 => ?_)
    · refine Rn.steps 1 rfl ?_
      exact Rn.retE rfl rfl rfl rfl rfl
    · exact (hc27 (by show w 1 ≤ nI sp; rw [hty]; exact nI_le (Nat.le_refl _) (by omega))).elim
  | succ r ih =>
    intro sp tm t h1 h2 h3
    by_cases hlt : sp < ty
    · have e0 : rpF (A 4) ty (r + 1) sp tm t = cond (seF (A 4) ty sp 59 59) (cond (roB (A 4) ty (sp + 1)) (rpF (A 4) ty r (roS (A 4) ty (sp + 1)) (roM (A 4) ty (sp + 1) tm) (roT (A 4) ty (sp + 1) tm t)) (false, roS (A 4) ty (sp + 1), roM (A 4) ty (sp + 1) tm, roT (A 4) ty (sp + 1) tm t)) (false, sp, tm, t) := by rw [rpF, if_pos hlt]
      cases hz : seF (A 4) ty sp 59 59 with
      | false =>
        rw [show rpF (A 4) ty (r + 1) sp tm t = (false, sp, tm, t) by rw [e0, hz]; rfl]
        refine Rn.br 7 rfl (fun hc27 => ?_) (fun hc27 => ?_)
        · exact (nI_ge hlt (by omega) (by rw [← hty]; exact hc27)).elim
        · refine Rn.steps 2 rfl ?_
          refine Rn.call rfl rfl rfl (c_takes (d + 1) n (va_up A 6 t) w g ty hty ht8 sp tm (by omega) 59) ?_
          rw [show taS (va_up A 6 t 4) ty sp 59 = sp by unfold taS; rw [show seF (va_up A 6 t 4) ty sp 59 59 = false from hz]; rfl]
          refine Rn.br 1 rfl (fun hc36 => ?_) (fun hc36 => ?_)
          · refine Rn.steps 3 rfl ?_
            refine Rn.steps 3 rfl ?_
            exact Rn.retE rfl rfl rfl rfl rfl
          · exact absurd (bi_ne0 hc36) (by rw [show seF (va_up A 6 t 4) ty sp 59 59 = false from hz]; decide)
      | true =>
        cases hb : roB (A 4) ty (sp + 1) with
        | false =>
          rw [show rpF (A 4) ty (r + 1) sp tm t = (false, roS (A 4) ty (sp + 1), roM (A 4) ty (sp + 1) tm, roT (A 4) ty (sp + 1) tm t) by rw [e0, hz, hb]; rfl]
          refine Rn.br 7 rfl (fun hc27 => ?_) (fun hc27 => ?_)
          · exact (nI_ge hlt (by omega) (by rw [← hty]; exact hc27)).elim
          · refine Rn.steps 2 rfl ?_
            refine Rn.call rfl rfl rfl (c_takes (d + 1) n (va_up A 6 t) w g ty hty ht8 sp tm (by omega) 59) ?_
            rw [show taS (va_up A 6 t 4) ty sp 59 = sp + 1 by unfold taS; rw [show seF (va_up A 6 t 4) ty sp 59 59 = true from hz]; rfl]
            refine Rn.br 1 rfl (fun hc36 => ?_) (fun hc36 => ?_)
            · exact absurd (bi_eq0 hc36) (by rw [show seF (va_up A 6 t 4) ty sp 59 59 = true from hz]; decide)
            · refine Rn.steps 1 rfl ?_
              refine Rn.call rfl rfl rfl (c_readOrder d n (va_up A 6 t) w g ty hty ht8 (sp + 1) tm (by omega) (by omega)) ?_
              rw [bx_uu]
              refine Rn.br 1 rfl (fun hc43 => ?_) (fun hc43 => ?_)
              · refine Rn.steps 3 rfl ?_
                refine Rn.steps 3 rfl ?_
                exact Rn.retE rfl rfl rfl rfl rfl
              · exact absurd (bi_ne0 hc43) (by rw [show roB (va_up A 6 t 4) ty (sp + 1) = false from hb]; decide)
        | true =>
          have hadv := roB_adv hb
          have hm : roM (A 4) ty (sp + 1) tm = tm + 1 := by unfold roM; rw [hadv.2.2]; rfl
          have k1 := ih (roS (A 4) ty (sp + 1)) (roM (A 4) ty (sp + 1) tm) (roT (A 4) ty (sp + 1) tm t) hadv.2.1 (by omega) (by omega)
          rw [show rpF (A 4) ty (r + 1) sp tm t = rpF (A 4) ty r (roS (A 4) ty (sp + 1)) (roM (A 4) ty (sp + 1) tm) (roT (A 4) ty (sp + 1) tm t) by rw [e0, hz, hb]; rfl]
          refine Rn.br 7 rfl (fun hc27 => ?_) (fun hc27 => ?_)
          · exact (nI_ge hlt (by omega) (by rw [← hty]; exact hc27)).elim
          · refine Rn.steps 2 rfl ?_
            refine Rn.call rfl rfl rfl (c_takes (d + 1) n (va_up A 6 t) w g ty hty ht8 sp tm (by omega) 59) ?_
            rw [show taS (va_up A 6 t 4) ty sp 59 = sp + 1 by unfold taS; rw [show seF (va_up A 6 t 4) ty sp 59 59 = true from hz]; rfl]
            refine Rn.br 1 rfl (fun hc36 => ?_) (fun hc36 => ?_)
            · exact absurd (bi_eq0 hc36) (by rw [show seF (va_up A 6 t 4) ty sp 59 59 = true from hz]; decide)
            · refine Rn.steps 1 rfl ?_
              refine Rn.call rfl rfl rfl (c_readOrder d n (va_up A 6 t) w g ty hty ht8 (sp + 1) tm (by omega) (by omega)) ?_
              rw [bx_uu]
              refine Rn.br 1 rfl (fun hc43 => ?_) (fun hc43 => ?_)
              · exact absurd (bi_eq0 hc43) (by rw [show roB (va_up A 6 t 4) ty (sp + 1) = true from hb]; decide)
              · refine Rn.steps 4 rfl ?_
                exact Rn.l2 rfl rfl rfl k1
    · rw [show rpF (A 4) ty (r + 1) sp tm t = (true, sp, tm, t) by rw [rpF, if_neg hlt]]
      refine Rn.br 7 rfl (fun hc27 => ?_) (fun hc27 => ?_)
      · refine Rn.steps 1 rfl ?_
        exact Rn.retE rfl rfl rfl rfl rfl
      · exact (hc27 (by show w 1 ≤ nI sp; rw [hty]; exact nI_le (by omega) (by omega))).elim
theorem c_readPad (hty : w 1 = nI ty) (ht8 : ty ≤ 80) : Rn (d + 4) 149 0 [(0, .ref 139)] [] (mOn A w g) n (some (.int (bi (rdF (A 4) ty (A 6)).1))) (mOn (va_up A 6 (rdF (A 4) ty (A 6)).2.2.2) (wT w (rdF (A 4) ty (A 6)).2.1 (rdF (A 4) ty (A 6)).2.2.1) g) n := by
  cases hb : roB (A 4) ty 0 with
  | false =>
    rw [show rdF (A 4) ty (A 6) = (false, roS (A 4) ty 0, roM (A 4) ty 0 0, roT (A 4) ty 0 0 (A 6)) by unfold rdF; rw [hb]; rfl]
    refine Rn.steps 3 rfl ?_
    refine Rn.heap mOn_w3 ?_
    refine Rn.steps 3 rfl ?_
    refine Rn.heap (h2 := mOn A (wT w 0 0) g) mOn_w4 ?_
    refine Rn.steps 1 rfl ?_
    refine Rn.call rfl rfl rfl (c_readOrder d n A w g ty hty ht8 0 0 (by omega) (by omega)) ?_
    refine Rn.br 3 rfl (fun hc16 => ?_) (fun hc16 => ?_)
    · refine Rn.l2 (a := 0) (b := 1) (x := .ref 139) (y := .int 0) rfl rfl (by show some (Value.int (bi (roB (A 4) ty 0))) = _; rw [hb]; rfl) ?_
      refine Rn.steps 1 rfl ?_
      exact Rn.retE rfl rfl rfl rfl rfl
    · exact absurd (bi_ne0 hc16) (by rw [hb]; decide)
  | true =>
    have hadv := roB_adv hb
    have hm : roM (A 4) ty 0 0 = 1 := by unfold roM; rw [hadv.2.2]; rfl
    have k1 := c_rp d n A w g ty hty ht8 27 (roS (A 4) ty 0) (roM (A 4) ty 0 0) (roT (A 4) ty 0 0 (A 6)) hadv.2.1 (by omega) (by omega)
    rw [show rdF (A 4) ty (A 6) = rpF (A 4) ty 27 (roS (A 4) ty 0) (roM (A 4) ty 0 0) (roT (A 4) ty 0 0 (A 6)) by unfold rdF; rw [hb]; rfl]
    refine Rn.steps 3 rfl ?_
    refine Rn.heap mOn_w3 ?_
    refine Rn.steps 3 rfl ?_
    refine Rn.heap (h2 := mOn A (wT w 0 0) g) mOn_w4 ?_
    refine Rn.steps 1 rfl ?_
    refine Rn.call rfl rfl rfl (c_readOrder d n A w g ty hty ht8 0 0 (by omega) (by omega)) ?_
    refine Rn.steps 1 rfl ?_
    exact Rn.l2 rfl rfl (by show some (Value.int (bi (roB (A 4) ty 0))) = _; rw [hb]; rfl) k1
theorem c_fault (hty : w 1 = nI ty) (ht8 : ty ≤ 80) : Rn (d + 5) 150 0 [(0, .ref 139)] [] (mOn A w g) n (some (.int (cond (rdF (A 4) ty (A 6)).1 (-6) (nI (rdF (A 4) ty (A 6)).2.1)))) (mOn (va_up A 6 (rdF (A 4) ty (A 6)).2.2.2) (wT w (rdF (A 4) ty (A 6)).2.1 (rdF (A 4) ty (A 6)).2.2.1) g) n := by
  refine Rn.steps 1 rfl ?_
  refine Rn.call rfl rfl rfl (c_readPad d n A w g ty hty ht8) ?_
  refine Rn.br 1 rfl (fun hc4 => ?_) (fun hc4 => ?_)
  · have hz := bi_eq0 hc4
    refine Rn.steps 2 rfl ?_
    exact Rn.retE rfl rfl rfl (by rw [hz]; rfl) rfl
  · have hz := bi_ne0 hc4
    refine Rn.steps 2 rfl ?_
    exact Rn.retE rfl rfl rfl (by rw [hz]; rfl) rfl
theorem c_wipe : Rn d 144 0 [(0, .ref 139)] [] (mOn A w g) n (some (.int (w 1))) (mOn A (upd w 1 0) g) n := by
  refine Rn.steps 6 rfl ?_
  refine Rn.heap mOn_w1 ?_
  refine Rn.steps 1 rfl ?_
  exact Rn.retE rfl rfl rfl rfl rfl
theorem c_whyNot_b (hne : ¬ 2 * A 0 0 = 0) (k : Nat) (hk : k ≤ 39) (hl : A 6 (3 * k) = 98) : Rn (d + 5) 151 0 [(0, .ref 139), (1, .int (nI k))] [] (mOn A w g) n (some (.int (ordW (A 0) (A 6 (3 * k)) (A 6 (3 * k + 1)) (A 6 (3 * k + 2))))) (mOn A w g) n := by
  refine Rn.steps 7 rfl ?_
  refine Rn.ialdN (m := 3 * k + 1) rfl rfl rfl ((by rw [← nI_1, ← x3t])) (by omega) (Nat.le_of_ble_eq_true rfl) ?_
  refine Rn.steps 6 rfl ?_
  refine Rn.ialdN (m := 3 * k) rfl rfl rfl (x3t k) (by omega) (Nat.le_of_ble_eq_true rfl) ?_
  rw [hl]
  refine Rn.steps 1 rfl ?_
  refine Rn.steps 3 rfl ?_
  refine Rn.call rfl rfl rfl (c_whyNotEnd (d + 2) n A w g _ 0) ?_
  exact Rn.retE rfl rfl rfl rfl rfl
theorem c_whyNot_k (hne : ¬ 2 * A 0 0 = 0) (k : Nat) (hk : k ≤ 39) (hl : A 6 (3 * k) = 107) : Rn (d + 5) 151 0 [(0, .ref 139), (1, .int (nI k))] [] (mOn A w g) n (some (.int (ordW (A 0) (A 6 (3 * k)) (A 6 (3 * k + 1)) (A 6 (3 * k + 2))))) (mOn A w g) n := by
  refine Rn.steps 7 rfl ?_
  refine Rn.ialdN (m := 3 * k + 1) rfl rfl rfl ((by rw [← nI_1, ← x3t])) (by omega) (Nat.le_of_ble_eq_true rfl) ?_
  refine Rn.steps 6 rfl ?_
  refine Rn.ialdN (m := 3 * k) rfl rfl rfl (x3t k) (by omega) (Nat.le_of_ble_eq_true rfl) ?_
  rw [hl]
  refine Rn.steps 1 rfl ?_
  refine Rn.steps 3 rfl ?_
  refine Rn.call rfl rfl rfl (c_whyNotEnd (d + 2) n A w g _ 1) ?_
  exact Rn.retE rfl rfl rfl rfl rfl
theorem c_whyNot_r (hne : ¬ 2 * A 0 0 = 0) (k : Nat) (hk : k ≤ 39) (hl : A 6 (3 * k) = 114) : Rn (d + 5) 151 0 [(0, .ref 139), (1, .int (nI k))] [] (mOn A w g) n (some (.int (ordW (A 0) (A 6 (3 * k)) (A 6 (3 * k + 1)) (A 6 (3 * k + 2))))) (mOn A w g) n := by
  refine Rn.steps 7 rfl ?_
  refine Rn.ialdN (m := 3 * k + 1) rfl rfl rfl ((by rw [← nI_1, ← x3t])) (by omega) (Nat.le_of_ble_eq_true rfl) ?_
  refine Rn.steps 6 rfl ?_
  refine Rn.ialdN (m := 3 * k) rfl rfl rfl (x3t k) (by omega) (Nat.le_of_ble_eq_true rfl) ?_
  rw [hl]
  refine Rn.steps 1 rfl ?_
  refine Rn.steps 2 rfl ?_
  refine Rn.call rfl rfl rfl (c_whyNotRun (d + 3) n A w g _) ?_
  exact Rn.retE rfl rfl rfl rfl rfl
theorem c_whyNot_c (hne : ¬ 2 * A 0 0 = 0) (k : Nat) (hk : k ≤ 39) (hl : A 6 (3 * k) = 99) : Rn (d + 5) 151 0 [(0, .ref 139), (1, .int (nI k))] [] (mOn A w g) n (some (.int (ordW (A 0) (A 6 (3 * k)) (A 6 (3 * k + 1)) (A 6 (3 * k + 2))))) (mOn A w g) n := by
  refine Rn.steps 7 rfl ?_
  refine Rn.ialdN (m := 3 * k + 1) rfl rfl rfl ((by rw [← nI_1, ← x3t])) (by omega) (Nat.le_of_ble_eq_true rfl) ?_
  refine Rn.steps 6 rfl ?_
  refine Rn.ialdN (m := 3 * k) rfl rfl rfl (x3t k) (by omega) (Nat.le_of_ble_eq_true rfl) ?_
  rw [hl]
  refine Rn.steps 1 rfl ?_
  refine Rn.steps 9 rfl ?_
  refine Rn.ialdN (m := 3 * k + 2) rfl rfl rfl ((by rw [← nI_add, ← x3t]; rfl)) (by omega) (Nat.le_of_ble_eq_true rfl) ?_
  refine Rn.call rfl rfl rfl (c_whyNotCarrier d n A w g hne _ _) ?_
  exact Rn.retE rfl rfl rfl rfl rfl
theorem c_whyNot_o (k : Nat) (hk : k ≤ 39) (hl : A 6 (3 * k) = 120 ∨ A 6 (3 * k) = 102) : Rn (d + 5) 151 0 [(0, .ref 139), (1, .int (nI k))] [] (mOn A w g) n (some (.int (ordW (A 0) (A 6 (3 * k)) (A 6 (3 * k + 1)) (A 6 (3 * k + 2))))) (mOn A w g) n := by
  have e : ∀ l, (l = 120 ∨ l = 102) → ∀ z a b, ordW z l a b = cond (isC z a) 0 (-1) := by
    intro l hl z a b
    rcases hl with rfl | rfl <;> rfl
  rw [e _ hl]
  refine Rn.steps 7 rfl ?_
  refine Rn.ialdN (m := 3 * k + 1) rfl rfl rfl ((by rw [← nI_1, ← x3t])) (by omega) (Nat.le_of_ble_eq_true rfl) ?_
  refine Rn.steps 6 rfl ?_
  refine Rn.ialdN (m := 3 * k) rfl rfl rfl (x3t k) (by omega) (Nat.le_of_ble_eq_true rfl) ?_
  rcases hl with hl | hl
  · rw [hl]
    refine Rn.steps 1 rfl ?_
    refine Rn.steps 2 rfl ?_
    refine Rn.call rfl rfl rfl (c_isCx (d + 3) n A w g _) ?_
    refine Rn.br 1 rfl (fun hc101 => ?_) (fun hc101 => ?_)
    · have hz := bi_eq0 hc101
      refine Rn.steps 1 rfl ?_
      exact Rn.retE rfl rfl rfl (by rw [hz]; rfl) rfl
    · have hz := bi_ne0 hc101
      refine Rn.steps 2 rfl ?_
      exact Rn.retE rfl rfl rfl (by rw [hz]; rfl) rfl
  · rw [hl]
    refine Rn.steps 1 rfl ?_
    refine Rn.steps 2 rfl ?_
    refine Rn.call rfl rfl rfl (c_isCx (d + 3) n A w g _) ?_
    refine Rn.br 1 rfl (fun hc101 => ?_) (fun hc101 => ?_)
    · have hz := bi_eq0 hc101
      refine Rn.steps 1 rfl ?_
      exact Rn.retE rfl rfl rfl (by rw [hz]; rfl) rfl
    · have hz := bi_ne0 hc101
      refine Rn.steps 2 rfl ?_
      exact Rn.retE rfl rfl rfl (by rw [hz]; rfl) rfl
end MODEL8
