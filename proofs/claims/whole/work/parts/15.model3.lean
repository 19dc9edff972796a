/-! the reference's methods that change -/
def cpN (f t : Nat → Int32) (fa ta c : Nat) : Nat → Int32 := fun j => if ta ≤ j ∧ j < ta + c then f (fa + (j - ta)) else t j
theorem cpN_0 (f t : Nat → Int32) (fa ta : Nat) : cpN f t fa ta 0 = t := by
  funext j
  unfold cpN
  rw [if_neg (by omega)]
theorem cpN_s (f t : Nat → Int32) (fa ta c : Nat) : upd (cpN f t fa ta c) (ta + c) (f (fa + c)) = cpN f t fa ta (c + 1) := by
  funext j
  unfold upd cpN
  by_cases hj : j = ta + c
  · subst hj; rw [if_pos rfl, if_pos (by omega), show ta + c - ta = c by omega]
  · rw [if_neg hj]
    by_cases h2 : ta ≤ j ∧ j < ta + c
    · rw [if_pos h2, if_pos (by omega)]
    · rw [if_neg h2, if_neg (by omega)]
def shN (p : Nat → Int32) (c : Nat) : Nat → Int32 := fun j => if j < c then p (j + 80) else p j
theorem shN_s (p : Nat → Int32) (c : Nat) : upd (shN p c) c (shN p c (c + 80)) = shN p (c + 1) := by
  funext j
  unfold upd shN
  by_cases hj : j = c
  · subst hj; rw [if_pos rfl, if_neg (by omega), if_pos (Nat.lt_succ_self _)]
  · rw [if_neg hj]
    by_cases h2 : j < c
    · rw [if_pos h2, if_pos (by omega)]
    · rw [if_neg h2, if_neg (by omega)]
def recP (z p : Nat → Int32) (s : Nat) : Nat → Int32 := if s = 6 then cpN z (shN p 400) 0 400 80 else cpN z p 0 (80 * s) 80
theorem xup_self {α : Type} (A : Nat → α) (k : Nat) : va_up A k (A k) = A := by
  funext j
  unfold va_up
  by_cases hj : j = k
  · rw [if_pos hj, hj]
  · rw [if_neg hj]
def fillZ (z : Nat → Int32) (c : Nat) : Nat → Int32 := upd (upd z (10 + 7 * c + 1) (z 2)) 7 (upd z (10 + 7 * c + 1) (z 2) 7 + upd z (10 + 7 * c + 1) (z 2) 2)
def layN (z : Nat → Int32) (c k : Nat) : Nat → Int32 := fun j => if 10 + 7 * c ≤ j ∧ j < 10 + 7 * c + k then 0 else z j
theorem layN_0 (z : Nat → Int32) (c : Nat) : layN z c 0 = z := by
  funext j
  unfold layN
  rw [if_neg (by omega)]
theorem layN_s (z : Nat → Int32) (c k : Nat) : upd (layN z c k) (10 + 7 * c + k) 0 = layN z c (k + 1) := by
  funext j
  unfold upd layN
  by_cases hj : j = 10 + 7 * c + k
  · subst hj; rw [if_pos rfl, if_pos (by omega)]
  · rw [if_neg hj]
    by_cases h2 : 10 + 7 * c ≤ j ∧ j < 10 + 7 * c + k
    · rw [if_pos h2, if_pos (by omega)]
    · rw [if_neg h2, if_neg (by omega)]
def newZ (z : Nat → Int32) (c : Nat) (p : Int32) : Nat → Int32 := fillZ (upd (layN z c 7) (10 + 7 * c + 0) p) c
def toZ (z : Nat → Int32) (c : Nat) : Nat → Int32 := upd (upd z 6 (z 6 + z (10 + 7 * c + 1))) (10 + 7 * c + 0) (-6)
def tieZ (z : Nat → Int32) (c : Nat) : Nat → Int32 := upd (upd z (10 + 7 * c + 2) 0) 5 (upd z (10 + 7 * c + 2) 0 5 + 1)
def refZ (z : Nat → Int32) (c : Nat) : Nat → Int32 := fillZ (upd z 6 (z 6 + z (10 + 7 * c + 1))) c
theorem isC_of {z : Nat → Int32} {x : Int32} (h : isC z x = true) : ∃ c : Nat, c < 10 ∧ x = nI c ∧ zt z c = true := by
  have h3 := h
  unfold isC at h3
  obtain ⟨h4, h5⟩ := (Bool.and_eq_true _ _ ▸ h3 : _ ∧ _)
  obtain ⟨c, hc, rfl⟩ := xin10 (of_decide_eq_true h4)
  exact ⟨c, hc, rfl, by rw [← isC_nI hc]; exact h⟩
section MODEL3
variable (d n : Nat) (A : Nat → Nat → Int32) (w : Nat → Int32) (g h : xHp)
theorem c_copy01 (fa ta : Nat) (hf : fa + 80 ≤ 80) (ht : ta + 80 ≤ 480) : Rn d 95 0 [(0, .ref 140), (1, .int (nI fa)), (2, .ref 141), (3, .int (nI ta))] [] (mOn A w g) n none (mOn (va_up A 1 (cpN (A 0) (A 1) fa ta 80)) w g) n := by
  refine Rn.steps 2 rfl ?_
  refine Rn.l5 (by decide) rfl rfl rfl rfl rfl (Rn.heap (h2 := mOn (va_up A 1 (cpN (A 0) (A 1) fa ta 0)) w g) (by rw [cpN_0, xup_self]) (xloop (fun c => Rn d 95 3 [(0, .ref 140), (1, .int (nI fa)), (2, .ref 141), (3, .int (nI ta)), (4, .int (nI c))] [] (mOn (va_up A 1 (cpN (A 0) (A 1) fa ta c)) w g) n none (mOn (va_up A 1 (cpN (A 0) (A 1) fa ta 80)) w g) n) 80 ?_ (fun c hc ih => ?_)))
  · refine Rn.steps 3 rfl ?_
    exact Rn.retE rfl rfl rfl rfl rfl
  · refine Rn.br 3 rfl (fun hc7 => ?_) (fun hc7 => ?_)
    · exact (nI_ge hc (by omega) hc7).elim
    · refine Rn.steps 8 rfl ?_
      refine Rn.ialdN (m := fa + c) rfl rfl rfl (nI_add fa c) (by omega) (Nat.le_of_ble_eq_true rfl) ?_
      refine Rn.iastN (m := ta + c) rfl rfl rfl rfl (nI_add ta c) (by omega) (Nat.le_of_ble_eq_true rfl) ?_
      rw [mOn_1, bx_uu]
      rw [show upd (va_up A 1 (cpN (A 0) (A 1) fa ta c) 1) (ta + c) (va_up A 1 (cpN (A 0) (A 1) fa ta c) 0 (fa + c)) = cpN (A 0) (A 1) fa ta (c + 1) from cpN_s _ _ _ _ _]
      refine Rn.steps 2 rfl ?_
      exact Rn.l5 (by decide) rfl rfl rfl rfl (by rw [← nI_1]; rfl) ih
theorem c_copy10 (fa ta : Nat) (hf : fa + 80 ≤ 480) (ht : ta + 80 ≤ 80) : Rn d 95 0 [(0, .ref 141), (1, .int (nI fa)), (2, .ref 140), (3, .int (nI ta))] [] (mOn A w g) n none (mOn (va_up A 0 (cpN (A 1) (A 0) fa ta 80)) w g) n := by
  refine Rn.steps 2 rfl ?_
  refine Rn.l5 (by decide) rfl rfl rfl rfl rfl (Rn.heap (h2 := mOn (va_up A 0 (cpN (A 1) (A 0) fa ta 0)) w g) (by rw [cpN_0, xup_self]) (xloop (fun c => Rn d 95 3 [(0, .ref 141), (1, .int (nI fa)), (2, .ref 140), (3, .int (nI ta)), (4, .int (nI c))] [] (mOn (va_up A 0 (cpN (A 1) (A 0) fa ta c)) w g) n none (mOn (va_up A 0 (cpN (A 1) (A 0) fa ta 80)) w g) n) 80 ?_ (fun c hc ih => ?_)))
  · refine Rn.steps 3 rfl ?_
    exact Rn.retE rfl rfl rfl rfl rfl
  · refine Rn.br 3 rfl (fun hc7 => ?_) (fun hc7 => ?_)
    · exact (nI_ge hc (by omega) hc7).elim
    · refine Rn.steps 8 rfl ?_
      refine Rn.ialdN (m := fa + c) rfl rfl rfl (nI_add fa c) (by omega) (Nat.le_of_ble_eq_true rfl) ?_
      refine Rn.iastN (m := ta + c) rfl rfl rfl rfl (nI_add ta c) (by omega) (Nat.le_of_ble_eq_true rfl) ?_
      rw [mOn_0, bx_uu]
      rw [show upd (va_up A 0 (cpN (A 1) (A 0) fa ta c) 0) (ta + c) (va_up A 0 (cpN (A 1) (A 0) fa ta c) 1 (fa + c)) = cpN (A 1) (A 0) fa ta (c + 1) from cpN_s _ _ _ _ _]
      refine Rn.steps 2 rfl ?_
      exact Rn.l5 (by decide) rfl rfl rfl rfl (by rw [← nI_1]; rfl) ih
theorem c_copy02 (fa ta : Nat) (hf : fa + 80 ≤ 80) (ht : ta + 80 ≤ 160) : Rn d 95 0 [(0, .ref 140), (1, .int (nI fa)), (2, .ref 142), (3, .int (nI ta))] [] (mOn A w g) n none (mOn (va_up A 2 (cpN (A 0) (A 2) fa ta 80)) w g) n := by
  refine Rn.steps 2 rfl ?_
  refine Rn.l5 (by decide) rfl rfl rfl rfl rfl (Rn.heap (h2 := mOn (va_up A 2 (cpN (A 0) (A 2) fa ta 0)) w g) (by rw [cpN_0, xup_self]) (xloop (fun c => Rn d 95 3 [(0, .ref 140), (1, .int (nI fa)), (2, .ref 142), (3, .int (nI ta)), (4, .int (nI c))] [] (mOn (va_up A 2 (cpN (A 0) (A 2) fa ta c)) w g) n none (mOn (va_up A 2 (cpN (A 0) (A 2) fa ta 80)) w g) n) 80 ?_ (fun c hc ih => ?_)))
  · refine Rn.steps 3 rfl ?_
    exact Rn.retE rfl rfl rfl rfl rfl
  · refine Rn.br 3 rfl (fun hc7 => ?_) (fun hc7 => ?_)
    · exact (nI_ge hc (by omega) hc7).elim
    · refine Rn.steps 8 rfl ?_
      refine Rn.ialdN (m := fa + c) rfl rfl rfl (nI_add fa c) (by omega) (Nat.le_of_ble_eq_true rfl) ?_
      refine Rn.iastN (m := ta + c) rfl rfl rfl rfl (nI_add ta c) (by omega) (Nat.le_of_ble_eq_true rfl) ?_
      rw [mOn_2, bx_uu]
      rw [show upd (va_up A 2 (cpN (A 0) (A 2) fa ta c) 2) (ta + c) (va_up A 2 (cpN (A 0) (A 2) fa ta c) 0 (fa + c)) = cpN (A 0) (A 2) fa ta (c + 1) from cpN_s _ _ _ _ _]
      refine Rn.steps 2 rfl ?_
      exact Rn.l5 (by decide) rfl rfl rfl rfl (by rw [← nI_1]; rfl) ih
theorem c_copy20 (fa ta : Nat) (hf : fa + 80 ≤ 160) (ht : ta + 80 ≤ 80) : Rn d 95 0 [(0, .ref 142), (1, .int (nI fa)), (2, .ref 140), (3, .int (nI ta))] [] (mOn A w g) n none (mOn (va_up A 0 (cpN (A 2) (A 0) fa ta 80)) w g) n := by
  refine Rn.steps 2 rfl ?_
  refine Rn.l5 (by decide) rfl rfl rfl rfl rfl (Rn.heap (h2 := mOn (va_up A 0 (cpN (A 2) (A 0) fa ta 0)) w g) (by rw [cpN_0, xup_self]) (xloop (fun c => Rn d 95 3 [(0, .ref 142), (1, .int (nI fa)), (2, .ref 140), (3, .int (nI ta)), (4, .int (nI c))] [] (mOn (va_up A 0 (cpN (A 2) (A 0) fa ta c)) w g) n none (mOn (va_up A 0 (cpN (A 2) (A 0) fa ta 80)) w g) n) 80 ?_ (fun c hc ih => ?_)))
  · refine Rn.steps 3 rfl ?_
    exact Rn.retE rfl rfl rfl rfl rfl
  · refine Rn.br 3 rfl (fun hc7 => ?_) (fun hc7 => ?_)
    · exact (nI_ge hc (by omega) hc7).elim
    · refine Rn.steps 8 rfl ?_
      refine Rn.ialdN (m := fa + c) rfl rfl rfl (nI_add fa c) (by omega) (Nat.le_of_ble_eq_true rfl) ?_
      refine Rn.iastN (m := ta + c) rfl rfl rfl rfl (nI_add ta c) (by omega) (Nat.le_of_ble_eq_true rfl) ?_
      rw [mOn_0, bx_uu]
      rw [show upd (va_up A 0 (cpN (A 2) (A 0) fa ta c) 0) (ta + c) (va_up A 0 (cpN (A 2) (A 0) fa ta c) 2 (fa + c)) = cpN (A 2) (A 0) fa ta (c + 1) from cpN_s _ _ _ _ _]
      refine Rn.steps 2 rfl ?_
      exact Rn.l5 (by decide) rfl rfl rfl rfl (by rw [← nI_1]; rfl) ih
theorem x80 (s : Nat) : (80 : Int32) * nI s = nI (80 * s) := by rw [show (80 : Int32) = nI 80 from rfl, pk_mul]
theorem c_record (s : Nat) (hs : w 0 = nI s) (h6 : s ≤ 6) : Rn (d + 1) 96 0 [(0, .ref 139)] [] (mOn A w g) n none (mOn (va_up A 1 (recP (A 0) (A 1) s)) (upd w 0 (nI (if s = 6 then 6 else s + 1))) g) n := by
  refine Rn.br 4 rfl (fun hc6 => ?_) (fun hc6 => ?_)
  · have hs6 : s = 6 := by
      rw [hs] at hc6
      exact (nI_eq (by omega) (by omega)).mp hc6
    subst hs6
    refine Rn.steps 2 rfl ?_
    refine Rn.l2 rfl rfl rfl (Rn.heap (h2 := mOn (va_up A 1 (shN (A 1) 0)) w g) (by rw [show shN (A 1) 0 = A 1 from rfl, xup_self]) (xloop (fun c => Rn (d + 1) 96 11 [(0, .ref 139), (1, .int (nI c))] [] (mOn (va_up A 1 (shN (A 1) c)) w g) n none (mOn (va_up A 1 (recP (A 0) (A 1) 6)) (upd w 0 (nI (if 6 = 6 then 6 else 6 + 1))) g) n) 400 ?_ (fun c hc ih => ?_)))
    · refine Rn.steps 8 rfl ?_
      refine Rn.stk (st2 := [.int (nI 5), .ref 139]) (by show [Value.int (w 0 - 1), Value.ref 139] = _; rw [hs]; rfl) ?_
      refine Rn.steps 1 rfl ?_
      refine Rn.heap (mOn_w0 (x := nI 5)) ?_
      refine Rn.steps 9 rfl ?_
      refine Rn.call rfl rfl rfl (c_copy01 d n (va_up A 1 (shN (A 1) 400)) (upd w 0 (nI 5)) g 0 400 (by omega) (by omega)) ?_
      rw [bx_uu]
      refine Rn.steps 6 rfl ?_
      refine Rn.heap (mOn_w0 (x := nI 6)) ?_
      rw [upd_upd]
      exact Rn.retE rfl rfl rfl rfl rfl
    · refine Rn.br 3 rfl (fun hc15 => ?_) (fun hc15 => ?_)
      · exact (nI_ge hc (by omega) hc15).elim
      · refine Rn.steps 8 rfl ?_
        refine Rn.ialdN (m := c + 80) rfl rfl rfl ((by rw [show (80 : Int32) = nI 80 from rfl, nI_add])) (by omega) (Nat.le_of_ble_eq_true rfl) ?_
        refine Rn.iastN (m := c) rfl rfl rfl rfl (rfl) (by omega) (Nat.le_of_ble_eq_true rfl) ?_
        rw [mOn_1, bx_uu]
        rw [show upd (va_up A 1 (shN (A 1) c) 1) c (va_up A 1 (shN (A 1) c) 1 (c + 80)) = shN (A 1) (c + 1) from shN_s _ _]
        refine Rn.steps 2 rfl ?_
        exact Rn.l2 rfl rfl (by rw [← nI_1]; rfl) ih
  · have hs6 : ¬ s = 6 := fun q => hc6 (by rw [hs, q]; rfl)
    refine Rn.steps 9 rfl ?_
    refine Rn.stk (st2 := [.int (nI (80 * s)), .ref 141, .int (nI 0), .ref 140]) (by show [Value.int (80 * w 0), Value.ref 141, Value.int 0, Value.ref 140] = _; rw [hs, x80]; rfl) ?_
    refine Rn.call rfl rfl rfl (c_copy01 d n A w g 0 (80 * s) (by omega) (by omega)) ?_
    refine Rn.steps 5 rfl ?_
    refine Rn.stk (st2 := [.int (nI (s + 1)), .ref 139]) (by show [Value.int (w 0 + 1), Value.ref 139] = _; rw [hs, nI_1]) ?_
    refine Rn.steps 1 rfl ?_
    refine Rn.heap (mOn_w0 (x := nI (s + 1))) ?_
    exact Rn.retE rfl rfl rfl rfl (by unfold recP; rw [if_neg hs6, if_neg hs6])
theorem c_undo (s : Nat) (hs : w 0 = nI s) (h6 : s ≤ 6) : Rn (d + 1) 97 0 [(0, .ref 139)] [] (mOn A w g) n (some (.int (if s = 0 then -5 else nI (s - 1)))) (if s = 0 then mOn A w g else mOn (va_up A 0 (cpN (A 1) (A 0) (80 * (s - 1)) 0 80)) (upd w 0 (nI (s - 1))) g) n := by
  refine Rn.br 3 rfl (fun hc4 => ?_) (fun hc4 => ?_)
  · have h0 : s = 0 := by
      rw [hs] at hc4
      exact (nI_eq (b := 0) (by omega) (by omega)).mp hc4
    refine Rn.steps 1 rfl ?_
    exact Rn.retE rfl rfl rfl (by first | (rw [if_pos h0]; done) | (rw [if_neg h0]; rfl)) (by first | (rw [if_pos h0]; done) | (rw [if_neg h0]; done))
  · have h0 : ¬ s = 0 := fun q => hc4 (by rw [hs, q]; rfl)
    have e1 : w 0 - 1 = nI (s - 1) := by rw [hs, show (1 : Int32) = nI 1 from rfl, pk_sub (by omega)]
    refine Rn.steps 5 rfl ?_
    refine Rn.stk (st2 := [.int (nI (s - 1)), .ref 139]) (by show [Value.int (w 0 - 1), Value.ref 139] = _; rw [e1]) ?_
    refine Rn.steps 1 rfl ?_
    refine Rn.heap (mOn_w0 (x := nI (s - 1))) ?_
    refine Rn.steps 9 rfl ?_
    refine Rn.stk (st2 := [.int (nI 0), .ref 140, .int (nI (80 * (s - 1))), .ref 141]) (by show [Value.int 0, Value.ref 140, Value.int (80 * nI (s - 1)), Value.ref 141] = _; rw [x80]; rfl) ?_
    refine Rn.call rfl rfl rfl (c_copy10 d n A (upd w 0 (nI (s - 1))) g (80 * (s - 1)) 0 (by omega) (by omega)) ?_
    refine Rn.steps 2 rfl ?_
    exact Rn.retE rfl rfl rfl (by first | (rw [if_pos h0]; done) | (rw [if_neg h0]; rfl)) (by first | (rw [if_pos h0]; done) | (rw [if_neg h0]; done))
theorem xin2 {x : Int32} (h : 0 ≤ x ∧ x ≤ 1) : ∃ c : Nat, c < 2 ∧ x = nI c := by
  obtain ⟨j, hj, e⟩ := nI_of2 (M := 1) (n := 1) rfl (Int32.not_lt.mpr h.1) h.2
  exact ⟨j, by omega, e⟩
theorem c_save_bad (x : Int32) (hx : decide (0 ≤ x ∧ x ≤ 1) = false) : Rn (d + 1) 98 0 [(0, .ref 139), (1, .int x)] [] (mOn A w g) n (some (.int (-2))) (mOn A w g) n := by
  refine Rn.steps 3 rfl ?_
  refine Rn.call rfl rfl rfl (c_in d n _ _ _ _) ?_
  refine Rn.br 1 rfl (fun hc6 => ?_) (fun hc6 => ?_)
  · refine Rn.steps 1 rfl ?_
    exact Rn.retE rfl rfl rfl rfl rfl
  · exact absurd (bi_ne0 hc6) (by rw [hx]; decide)
theorem c_save (s : Nat) (hs : s < 2) : Rn (d + 3) 98 0 [(0, .ref 139), (1, .int (nI s))] [] (mOn A w g) n (some (.int (mMany (A 0) 10))) (mOn (va_up (va_up A 2 (cpN (A 0) (A 2) 0 (80 * s) 80)) 3 (upd (A 3) s 1)) w g) n := by
  refine Rn.steps 3 rfl ?_
  refine Rn.call rfl rfl rfl (c_in (d + 2) n _ _ _ _) ?_
  refine Rn.br 1 rfl (fun hc6 => ?_) (fun hc6 => ?_)
  · exact absurd (bi_eq0 hc6) (by rw [decide_eq_true (⟨nI_pos' (by omega), nI_le (b := 1) (by omega) (by omega)⟩ : 0 ≤ nI s ∧ nI s ≤ 1)]; decide)
  · refine Rn.steps 8 rfl ?_
    refine Rn.stk (st2 := [.int (nI (80 * s)), .ref 142, .int (nI 0), .ref 140]) (by show [Value.int (80 * nI s), Value.ref 142, Value.int 0, Value.ref 140] = _; rw [x80]; rfl) ?_
    refine Rn.call rfl rfl rfl (c_copy02 (d + 2) n A w g 0 (80 * s) (by omega) (by omega)) ?_
    refine Rn.steps 4 rfl ?_
    refine Rn.bastN (m := s) rfl rfl rfl rfl (rfl) (by omega) (Nat.le_of_ble_eq_true rfl) ?_
    rw [mOn_3]
    refine Rn.steps 1 rfl ?_
    refine Rn.call rfl rfl rfl (c_many d n _ _ g) ?_
    exact Rn.retE rfl rfl rfl rfl rfl
theorem c_fill (c : Nat) (hc : c < 10) : Rn (d + 1) 111 0 [(0, .ref 139), (1, .int (nI c))] [] (mOn A w g) n (none) (mOn (va_up A 0 (fillZ (A 0) c)) w g) n := by
  refine Rn.steps 6 rfl ?_
  refine Rn.ialdN (m := 2) rfl rfl rfl (rfl) (by omega) (Nat.le_of_ble_eq_true rfl) ?_
  refine Rn.call rfl rfl rfl (c_lay d n A w g c 1 (A 0 2) hc (by omega)) ?_
  refine Rn.steps 4 rfl ?_
  refine Rn.ialdN (m := 7) rfl rfl rfl (rfl) (by omega) (Nat.le_of_ble_eq_true rfl) ?_
  refine Rn.steps 3 rfl ?_
  refine Rn.ialdN (m := 2) rfl rfl rfl (rfl) (by omega) (Nat.le_of_ble_eq_true rfl) ?_
  refine Rn.steps 1 rfl ?_
  refine Rn.iastN (m := 7) rfl rfl rfl rfl (rfl) (by omega) (Nat.le_of_ble_eq_true rfl) ?_
  rw [mOn_0, bx_uu]
  exact Rn.retE rfl rfl rfl rfl rfl
theorem c_carrierNow (c : Nat) (hc : c < 10) (hf : zt (A 0) c = false) (hb : ∀ j, j < c → zt (A 0) j = true) (x q : Int32) : Rn (d + 2) 112 0 [(0, .ref 139), (1, .int x), (2, .int q)] [] (mOn A w g) n (some (.int (nI c))) (mOn (va_up A 0 (newZ (A 0) c (4 * x + q))) w g) n := by
  refine Rn.steps 2 rfl ?_
  refine Rn.l4 (by decide) rfl rfl rfl rfl (xloop (fun j => Rn (d + 2) 112 2 [(0, .ref 139), (1, .int x), (2, .int q), (3, .int (nI j))] [] (mOn A w g) n (some (.int (nI c))) (mOn (va_up A 0 (newZ (A 0) c (4 * x + q))) w g) n) c ?_ (fun j hj ih => ?_))
  · refine Rn.steps 2 rfl ?_
    refine Rn.call rfl rfl rfl (c_isC (d) n A w g c hc) ?_
    refine Rn.br 1 rfl (fun hc7 => ?_) (fun hc7 => ?_)
    · refine Rn.steps 2 rfl ?_
      refine Rn.l5 (by decide) rfl rfl rfl rfl rfl (Rn.heap (h2 := mOn (va_up A 0 (layN (A 0) c 0)) w g) (by rw [layN_0, xup_self]) (xloop (fun k => Rn (d + 2) 112 19 [(0, .ref 139), (1, .int x), (2, .int q), (3, .int (nI c)), (4, .int (nI k))] [] (mOn (va_up A 0 (layN (A 0) c k)) w g) n (some (.int (nI c))) (mOn (va_up A 0 (newZ (A 0) c (4 * x + q))) w g) n) 7 ?_ (fun k hk ih => ?_)))
      · refine Rn.steps 11 rfl ?_
        refine Rn.call rfl rfl rfl (c_lay (d + 1) n _ w g c 0 _ hc (by omega)) ?_
        rw [bx_uu]
        refine Rn.steps 2 rfl ?_
        refine Rn.call rfl rfl rfl (c_fill d n _ w g c hc) ?_
        rw [bx_uu]
        refine Rn.steps 1 rfl ?_
        exact Rn.retE rfl rfl rfl rfl rfl
      · refine Rn.br 3 rfl (fun hc23 => ?_) (fun hc23 => ?_)
        · exact (nI_ge hk (by omega) hc23).elim
        · refine Rn.steps 4 rfl ?_
          refine Rn.call rfl rfl rfl (c_lay (d + 1) n _ w g c k 0 hc (by omega)) ?_
          rw [bx_uu]
          rw [show upd (va_up A 0 (layN (A 0) c k) 0) (10 + 7 * c + k) 0 = layN (A 0) c (k + 1) from layN_s _ _ _]
          refine Rn.steps 2 rfl ?_
          exact Rn.l5 (by decide) rfl rfl rfl rfl (by rw [← nI_1]; rfl) ih
    · exact absurd (bi_ne0 hc7) (by rw [hf]; decide)
  · refine Rn.steps 2 rfl ?_
    refine Rn.call rfl rfl rfl (c_isC d n A w g j (by omega)) ?_
    refine Rn.br 1 rfl (fun hc7 => ?_) (fun hc7 => ?_)
    · exact absurd (bi_eq0 hc7) (by rw [hb j hj]; decide)
    · refine Rn.steps 2 rfl ?_
      exact Rn.l4 (by decide) rfl rfl rfl (by rw [← nI_1]; rfl) ih
theorem c_takeOutNow (c : Nat) (hc : c < 10) : Rn (d + 1) 114 0 [(0, .ref 139), (1, .int (nI c))] [] (mOn A w g) n (none) (mOn (va_up A 0 (toZ (A 0) c)) w g) n := by
  refine Rn.steps 4 rfl ?_
  refine Rn.ialdN (m := 6) rfl rfl rfl (rfl) (by omega) (Nat.le_of_ble_eq_true rfl) ?_
  refine Rn.steps 3 rfl ?_
  refine Rn.call rfl rfl rfl (c_of1 d n A w g c 1 hc (by omega)) ?_
  refine Rn.steps 1 rfl ?_
  refine Rn.iastN (m := 6) rfl rfl rfl rfl (rfl) (by omega) (Nat.le_of_ble_eq_true rfl) ?_
  rw [mOn_0]
  refine Rn.steps 4 rfl ?_
  refine Rn.call rfl rfl rfl (c_lay d n _ w g c 0 (-6) hc (by omega)) ?_
  rw [bx_uu]
  exact Rn.retE rfl rfl rfl rfl rfl
theorem c_tieNow (c : Nat) (hc : c < 10) : Rn (d + 1) 124 0 [(0, .ref 139), (1, .int (nI c))] [] (mOn A w g) n (none) (mOn (va_up A 0 (tieZ (A 0) c)) w g) n := by
  refine Rn.steps 4 rfl ?_
  refine Rn.call rfl rfl rfl (c_lay d n A w g c 2 0 hc (by omega)) ?_
  refine Rn.steps 4 rfl ?_
  refine Rn.ialdN (m := 5) rfl rfl rfl (rfl) (by omega) (Nat.le_of_ble_eq_true rfl) ?_
  refine Rn.steps 2 rfl ?_
  refine Rn.iastN (m := 5) rfl rfl rfl rfl (rfl) (by omega) (Nat.le_of_ble_eq_true rfl) ?_
  rw [mOn_0, bx_uu]
  exact Rn.retE rfl rfl rfl rfl rfl
theorem c_refillNow (c : Nat) (hc : c < 10) : Rn (d + 2) 126 0 [(0, .ref 139), (1, .int (nI c))] [] (mOn A w g) n (none) (mOn (va_up A 0 (refZ (A 0) c)) w g) n := by
  refine Rn.steps 4 rfl ?_
  refine Rn.ialdN (m := 6) rfl rfl rfl (rfl) (by omega) (Nat.le_of_ble_eq_true rfl) ?_
  refine Rn.steps 3 rfl ?_
  refine Rn.call rfl rfl rfl (c_of1 (d + 1) n A w g c 1 hc (by omega)) ?_
  refine Rn.steps 1 rfl ?_
  refine Rn.iastN (m := 6) rfl rfl rfl rfl (rfl) (by omega) (Nat.le_of_ble_eq_true rfl) ?_
  rw [mOn_0]
  refine Rn.steps 2 rfl ?_
  refine Rn.call rfl rfl rfl (c_fill d n _ w g c hc) ?_
  rw [bx_uu]
  exact Rn.retE rfl rfl rfl rfl rfl
/-- the rows and numbers behind a record -/
def rA (A : Nat → Nat → Int32) (s : Nat) : Nat → Nat → Int32 := va_up A 1 (recP (A 0) (A 1) s)
def rW (w : Nat → Int32) (s : Nat) : Nat → Int32 := upd w 0 (nI (if s = 6 then 6 else s + 1))
theorem c_takeOut_bad (x : Int32) (hx : isC (A 0) x = false) : Rn (d + 2) 115 0 [(0, .ref 139), (1, .int x)] [] (mOn A w g) n (some (.int (-1))) (mOn A w g) n := by
  refine Rn.steps 2 rfl ?_
  refine Rn.call rfl rfl rfl (c_isCx d n A w g x) ?_
  refine Rn.br 1 rfl (fun hc5 => ?_) (fun hc5 => ?_)
  · refine Rn.steps 1 rfl ?_
    exact Rn.retE rfl rfl rfl rfl rfl
  · exact absurd (bi_ne0 hc5) (by rw [hx]; decide)
theorem c_takeOut (s : Nat) (hs : w 0 = nI s) (h6 : s ≤ 6) (c : Nat) (hc : c < 10) (hz : zt (A 0) c = true) : Rn (d + 2) 115 0 [(0, .ref 139), (1, .int (nI c))] [] (mOn A w g) n (some (.int (toZ (A 0) c (10 + 7 * c + 1)))) (mOn (va_up (rA A s) 0 (toZ (A 0) c)) (rW w s) g) n := by
  refine Rn.steps 2 rfl ?_
  refine Rn.call rfl rfl rfl (c_isC d n A w g c hc) ?_
  refine Rn.br 1 rfl (fun hc5 => ?_) (fun hc5 => ?_)
  · exact absurd (bi_eq0 hc5) (by rw [hz]; decide)
  · refine Rn.steps 1 rfl ?_
    refine Rn.call rfl rfl rfl (c_record d n A w g s hs h6) ?_
    refine Rn.steps 2 rfl ?_
    refine Rn.call rfl rfl rfl (c_takeOutNow d n (rA A s) (rW w s) g c hc) ?_
    refine Rn.steps 3 rfl ?_
    refine Rn.call rfl rfl rfl (c_of1 (d + 1) n _ (rW w s) g c 1 hc (by omega)) ?_
    exact Rn.retE rfl rfl rfl rfl rfl
theorem c_refill_bad (x : Int32) (hx : isC (A 0) x = false) : Rn (d + 2) 127 0 [(0, .ref 139), (1, .int x)] [] (mOn A w g) n (some (.int (-1))) (mOn A w g) n := by
  refine Rn.steps 2 rfl ?_
  refine Rn.call rfl rfl rfl (c_isCx d n A w g x) ?_
  refine Rn.br 1 rfl (fun hc5 => ?_) (fun hc5 => ?_)
  · refine Rn.steps 1 rfl ?_
    exact Rn.retE rfl rfl rfl rfl rfl
  · exact absurd (bi_ne0 hc5) (by rw [hx]; decide)
theorem c_refill (s : Nat) (hs : w 0 = nI s) (h6 : s ≤ 6) (c : Nat) (hc : c < 10) (hz : zt (A 0) c = true) : Rn (d + 3) 127 0 [(0, .ref 139), (1, .int (nI c))] [] (mOn A w g) n (some (.int (A 0 (10 + 7 * c + 1)))) (mOn (va_up (rA A s) 0 (refZ (A 0) c)) (rW w s) g) n := by
  refine Rn.steps 2 rfl ?_
  refine Rn.call rfl rfl rfl (c_isC (d + 1) n A w g c hc) ?_
  refine Rn.br 1 rfl (fun hc5 => ?_) (fun hc5 => ?_)
  · exact absurd (bi_eq0 hc5) (by rw [hz]; decide)
  · refine Rn.steps 1 rfl ?_
    refine Rn.call rfl rfl rfl (c_record (d + 1) n A w g s hs h6) ?_
    refine Rn.steps 3 rfl ?_
    refine Rn.call rfl rfl rfl (c_of1 (d + 2) n (rA A s) (rW w s) g c 1 hc (by omega)) ?_
    refine Rn.steps 3 rfl ?_
    refine Rn.call rfl rfl rfl (c_refillNow d n (rA A s) (rW w s) g c hc) ?_
    refine Rn.steps 1 rfl ?_
    exact Rn.retE rfl rfl rfl rfl rfl
theorem c_snap_bad (x : Int32) (hx : wne (A 0) x 0 < 0) : Rn (d + 3) 123 0 [(0, .ref 139), (1, .int x)] [] (mOn A w g) n (some (.int (wne (A 0) x 0))) (mOn A w g) n := by
  refine Rn.steps 3 rfl ?_
  refine Rn.call rfl rfl rfl (c_whyNotEnd d n A w g x 0) ?_
  refine Rn.br 3 rfl (fun hc8 => ?_) (fun hc8 => ?_)
  · exact absurd hx (Int32.not_lt.mpr hc8)
  · refine Rn.steps 1 rfl ?_
    exact Rn.retE rfl rfl rfl rfl rfl
theorem c_tie_bad (x : Int32) (hx : wne (A 0) x 1 < 0) : Rn (d + 3) 125 0 [(0, .ref 139), (1, .int x)] [] (mOn A w g) n (some (.int (wne (A 0) x 1))) (mOn A w g) n := by
  refine Rn.steps 3 rfl ?_
  refine Rn.call rfl rfl rfl (c_whyNotEnd d n A w g x 1) ?_
  refine Rn.br 3 rfl (fun hc8 => ?_) (fun hc8 => ?_)
  · exact absurd hx (Int32.not_lt.mpr hc8)
  · refine Rn.steps 1 rfl ?_
    exact Rn.retE rfl rfl rfl rfl rfl
theorem c_snap (s : Nat) (hs : w 0 = nI s) (h6 : s ≤ 6) (c : Nat) (hc : c < 10) (hx : ¬ wne (A 0) (nI c) 0 < 0) : Rn (d + 3) 123 0 [(0, .ref 139), (1, .int (nI c))] [] (mOn A w g) n (some (.int (mSum (upd (A 0) (10 + 7 * c + 2) 1) 2 10))) (mOn (va_up (rA A s) 0 (upd (A 0) (10 + 7 * c + 2) 1)) (rW w s) g) n := by
  refine Rn.steps 3 rfl ?_
  refine Rn.call rfl rfl rfl (c_whyNotEnd (d) n A w g (nI c) 0) ?_
  refine Rn.br 3 rfl (fun hc8 => ?_) (fun hc8 => ?_)
  · refine Rn.steps 1 rfl ?_
    refine Rn.call rfl rfl rfl (c_record (d + 1) n A w g s hs h6) ?_
    refine Rn.steps 4 rfl ?_
    refine Rn.call rfl rfl rfl (c_lay (d + 2) n (rA A s) (rW w s) g c 2 1 hc (by omega)) ?_
    refine Rn.steps 2 rfl ?_
    refine Rn.call rfl rfl rfl (c_sum d n _ (rW w s) g 2 (by omega)) ?_
    exact Rn.retE rfl rfl rfl rfl rfl
  · exact absurd (Int32.not_le.mp hc8) hx
theorem c_tie (s : Nat) (hs : w 0 = nI s) (h6 : s ≤ 6) (c : Nat) (hc : c < 10) (hx : ¬ wne (A 0) (nI c) 1 < 0) : Rn (d + 3) 125 0 [(0, .ref 139), (1, .int (nI c))] [] (mOn A w g) n (some (.int (tieZ (A 0) c 5))) (mOn (va_up (rA A s) 0 (tieZ (A 0) c)) (rW w s) g) n := by
  refine Rn.steps 3 rfl ?_
  refine Rn.call rfl rfl rfl (c_whyNotEnd d n A w g (nI c) 1) ?_
  refine Rn.br 3 rfl (fun hc8 => ?_) (fun hc8 => ?_)
  · refine Rn.steps 1 rfl ?_
    refine Rn.call rfl rfl rfl (c_record (d + 1) n A w g s hs h6) ?_
    refine Rn.steps 2 rfl ?_
    refine Rn.call rfl rfl rfl (c_tieNow (d + 1) n (rA A s) (rW w s) g c hc) ?_
    refine Rn.steps 3 rfl ?_
    refine Rn.ialdN (m := 5) rfl rfl rfl (rfl) (by omega) (Nat.le_of_ble_eq_true rfl) ?_
    exact Rn.retE rfl rfl rfl rfl rfl
  · exact absurd (Int32.not_le.mp hc8) hx
theorem c_carrier_bad (hne : ¬ 2 * A 0 0 = 0) (x q : Int32) (hx : whyNC (A 0) x q < 0) : Rn (d + 5) 113 0 [(0, .ref 139), (1, .int x), (2, .int q)] [] (mOn A w g) n (some (.int (whyNC (A 0) x q))) (mOn A w g) n := by
  refine Rn.steps 3 rfl ?_
  refine Rn.call rfl rfl rfl (c_whyNotCarrier d n A w g hne x q) ?_
  refine Rn.br 3 rfl (fun hc8 => ?_) (fun hc8 => ?_)
  · exact absurd hx (Int32.not_lt.mpr hc8)
  · refine Rn.steps 1 rfl ?_
    exact Rn.retE rfl rfl rfl rfl rfl
theorem c_carrier (s : Nat) (hs : w 0 = nI s) (h6 : s ≤ 6) (hne : ¬ 2 * A 0 0 = 0) (x q : Int32) (hx : ¬ whyNC (A 0) x q < 0) (c : Nat) (hc : c < 10) (hf : zt (A 0) c = false) (hb : ∀ j, j < c → zt (A 0) j = true) : Rn (d + 5) 113 0 [(0, .ref 139), (1, .int x), (2, .int q)] [] (mOn A w g) n (some (.int (nI c))) (mOn (va_up (rA A s) 0 (newZ (A 0) c (4 * x + q))) (rW w s) g) n := by
  refine Rn.steps 3 rfl ?_
  refine Rn.call rfl rfl rfl (c_whyNotCarrier d n A w g hne x q) ?_
  refine Rn.br 3 rfl (fun hc8 => ?_) (fun hc8 => ?_)
  · refine Rn.steps 1 rfl ?_
    refine Rn.call rfl rfl rfl (c_record (d + 3) n A w g s hs h6) ?_
    refine Rn.steps 3 rfl ?_
    refine Rn.call rfl rfl rfl (c_carrierNow (d + 2) n (rA A s) (rW w s) g c hc hf hb x q) ?_
    exact Rn.retE rfl rfl rfl rfl rfl
  · exact absurd (Int32.not_le.mp hc8) hx
theorem c_set_bad (k x : Int32) (hx : isV k x = false) : Rn (d + 2) 107 0 [(0, .ref 139), (1, .int k), (2, .int x)] [] (mOn A w g) n (some (.int (-2))) (mOn A w g) n := by
  refine Rn.steps 2 rfl ?_
  refine Rn.call rfl rfl rfl (c_isValue d n _ k x) ?_
  refine Rn.br 1 rfl (fun hc5 => ?_) (fun hc5 => ?_)
  · refine Rn.steps 1 rfl ?_
    exact Rn.retE rfl rfl rfl rfl rfl
  · exact absurd (bi_ne0 hc5) (by rw [hx]; decide)
theorem c_set_not (x : Int32) (hx : isV 0 x = true) (hm : 0 < mMany (A 0) 10) : Rn (d + 3) 107 0 [(0, .ref 139), (1, .int 0), (2, .int x)] [] (mOn A w g) n (some (.int (-5))) (mOn A w g) n := by
  refine Rn.steps 2 rfl ?_
  refine Rn.call rfl rfl rfl (c_isValue (d + 1) n _ 0 x) ?_
  refine Rn.br 1 rfl (fun hc5 => ?_) (fun hc5 => ?_)
  · exact absurd (bi_eq0 hc5) (by rw [hx]; decide)
  · refine Rn.steps 3 rfl ?_
    refine Rn.call rfl rfl rfl (c_many d n A w g) ?_
    refine Rn.br 1 rfl (fun hc19 => ?_) (fun hc19 => ?_)
    · exact absurd hm (Int32.not_lt.mpr hc19)
    · refine Rn.steps 1 rfl ?_
      exact Rn.retE rfl rfl rfl rfl rfl
theorem c_set (s : Nat) (hs : w 0 = nI s) (h6 : s ≤ 6) (k : Nat) (hk : k < 3) (x : Int32) (hx : isV (nI k) x = true) (hm : k = 0 → ¬ 0 < mMany (A 0) 10) : Rn (d + 3) 107 0 [(0, .ref 139), (1, .int (nI k)), (2, .int x)] [] (mOn A w g) n (some (.int (A 0 k))) (mOn (va_up (rA A s) 0 (upd (A 0) k x)) (rW w s) g) n := by
  refine Rn.steps 2 rfl ?_
  refine Rn.call rfl rfl rfl (c_isValue (d + 1) n _ (nI k) x) ?_
  refine Rn.br 1 rfl (fun hc5 => ?_) (fun hc5 => ?_)
  · exact absurd (bi_eq0 hc5) (by rw [hx]; decide)
  · refine Rn.br 2 rfl (fun hc12 => ?_) (fun hc12 => ?_)
    · refine Rn.steps 1 rfl ?_
      refine Rn.call rfl rfl rfl (c_many d n A w g) ?_
      refine Rn.br 1 rfl (fun hc19 => ?_) (fun hc19 => ?_)
      · refine Rn.steps 1 rfl ?_
        refine Rn.call rfl rfl rfl (c_record (d + 1) n A w g s hs h6) ?_
        refine Rn.steps 3 rfl ?_
        refine Rn.ialdN (m := k) rfl rfl rfl (rfl) (by omega) (Nat.le_of_ble_eq_true rfl) ?_
        refine Rn.steps 5 rfl ?_
        refine Rn.iastN (m := k) rfl rfl rfl rfl (rfl) (by omega) (Nat.le_of_ble_eq_true rfl) ?_
        rw [mOn_0]
        refine Rn.steps 1 rfl ?_
        exact Rn.retE rfl rfl rfl rfl rfl
      · exact absurd (Int32.not_le.mp hc19) (hm ((nI_eq (a := k) (b := 0) (by omega) (by omega)).mp hc12))
    · refine Rn.steps 1 rfl ?_
      refine Rn.call rfl rfl rfl (c_record (d + 1) n A w g s hs h6) ?_
      refine Rn.steps 3 rfl ?_
      refine Rn.ialdN (m := k) rfl rfl rfl (rfl) (by omega) (Nat.le_of_ble_eq_true rfl) ?_
      refine Rn.steps 5 rfl ?_
      refine Rn.iastN (m := k) rfl rfl rfl rfl (rfl) (by omega) (Nat.le_of_ble_eq_true rfl) ?_
      rw [mOn_0]
      refine Rn.steps 1 rfl ?_
      exact Rn.retE rfl rfl rfl rfl rfl
theorem c_restore_bad (x : Int32) (hx : decide (0 ≤ x ∧ x ≤ 1) = false) : Rn (d + 1) 99 0 [(0, .ref 139), (1, .int x)] [] (mOn A w g) n (some (.int (-2))) (mOn A w g) n := by
  refine Rn.steps 3 rfl ?_
  refine Rn.call rfl rfl rfl (c_in d n _ _ _ _) ?_
  refine Rn.br 1 rfl (fun hc6 => ?_) (fun hc6 => ?_)
  · refine Rn.steps 1 rfl ?_
    exact Rn.retE rfl rfl rfl rfl rfl
  · exact absurd (bi_ne0 hc6) (by rw [hx]; decide)
theorem c_restore_not (t : Nat) (ht : t < 2) (hv : A 3 t = 0) : Rn (d + 1) 99 0 [(0, .ref 139), (1, .int (nI t))] [] (mOn A w g) n (some (.int (-5))) (mOn A w g) n := by
  refine Rn.steps 3 rfl ?_
  refine Rn.call rfl rfl rfl (c_in d n _ _ _ _) ?_
  refine Rn.br 1 rfl (fun hc6 => ?_) (fun hc6 => ?_)
  · exact absurd (bi_eq0 hc6) (by rw [decide_eq_true (⟨nI_pos' (by omega), nI_le (b := 1) (by omega) (by omega)⟩ : 0 ≤ nI t ∧ nI t ≤ 1)]; decide)
  · refine Rn.steps 3 rfl ?_
    refine Rn.baldN (m := t) rfl rfl rfl (rfl) (by omega) (Nat.le_of_ble_eq_true rfl) ?_
    refine Rn.br 1 rfl (fun hc18 => ?_) (fun hc18 => ?_)
    · refine Rn.steps 1 rfl ?_
      exact Rn.retE rfl rfl rfl rfl rfl
    · exact absurd hv hc18
theorem c_restore (s : Nat) (hs : w 0 = nI s) (h6 : s ≤ 6) (t : Nat) (ht : t < 2) (hv : ¬ A 3 t = 0) : Rn (d + 3) 99 0 [(0, .ref 139), (1, .int (nI t))] [] (mOn A w g) n (some (.int (mMany (cpN (A 2) (A 0) (80 * t) 0 80) 10))) (mOn (va_up (rA A s) 0 (cpN (A 2) (A 0) (80 * t) 0 80)) (rW w s) g) n := by
  refine Rn.steps 3 rfl ?_
  refine Rn.call rfl rfl rfl (c_in (d + 2) n _ _ _ _) ?_
  refine Rn.br 1 rfl (fun hc6 => ?_) (fun hc6 => ?_)
  · exact absurd (bi_eq0 hc6) (by rw [decide_eq_true (⟨nI_pos' (by omega), nI_le (b := 1) (by omega) (by omega)⟩ : 0 ≤ nI t ∧ nI t ≤ 1)]; decide)
  · refine Rn.steps 3 rfl ?_
    refine Rn.baldN (m := t) rfl rfl rfl (rfl) (by omega) (Nat.le_of_ble_eq_true rfl) ?_
    refine Rn.br 1 rfl (fun hc18 => ?_) (fun hc18 => ?_)
    · exact absurd hc18 hv
    · refine Rn.steps 1 rfl ?_
      refine Rn.call rfl rfl rfl (c_record (d + 1) n A w g s hs h6) ?_
      refine Rn.steps 8 rfl ?_
      refine Rn.stk (st2 := [.int (nI 0), .ref 140, .int (nI (80 * t)), .ref 142]) (by show [Value.int 0, Value.ref 140, Value.int (80 * nI t), Value.ref 142] = _; rw [x80]; rfl) ?_
      refine Rn.call rfl rfl rfl (c_copy20 (d + 2) n (rA A s) (rW w s) g (80 * t) 0 (by omega) (by omega)) ?_
      refine Rn.steps 1 rfl ?_
      refine Rn.call rfl rfl rfl (c_many d n _ _ g) ?_
      exact Rn.retE rfl rfl rfl rfl rfl
end MODEL3
