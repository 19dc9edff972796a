/-! one track copied into another -/
section RN5
variable {d i pc : Nat} {ls : xLs} {st : List Value} {h h' : xHp} {n n' : Nat} {v : Option Value}
theorem Rn.alen {e : xEn} {k t len : Nat} {c : (Nat → Int32) ⊕ (Nat → Option Nat)} {r : List Value} (hf : xfind i pc = some e) (he : e.1 = .arraylength) (hk : h k = .inl (t, len, c)) (ht : Nat.ble t 4 = true) (kk : Rn d i (pc + 1) ls (.int (Int32.ofNat len) :: r) h n v h' n') : Rn d i pc ls (.ref k :: r) h n v h' n' := by
  obtain ⟨ins, e2⟩ := e
  dsimp only at he
  subst he
  refine Rn.step1 hf rfl ?_ kk
  show xcN (h k) _ = _
  rw [hk]
  show xgd (Nat.ble t 4) _ = _
  rw [ht]
  rfl
theorem Rn.acopy {e : xEn} {k0 k1 : Nat} {f f1 : Nat → Int32} {r : List Value} (hf : xfind i pc = some e) {idx : Nat} (he : e.1 = .invokestatic idx) (hi : e.2.2.1 = 1001) (h0 : h k0 = .inl (0, 3, .inl f)) (h1 : h k1 = .inl (0, 3, .inl f1)) (hb0 : Nat.ble 3 k0 = true) (hb1 : Nat.ble 3 k1 = true) (hw : Nat.ble (xcw r) 8 = true) (hd : Nat.ble 1 d = true) (kk : Rn d i (pc + 3) ls r (xup h k1 (.inl (0, 3, .inl (va_cpy f f1 0 0 3)))) n v h' n') : Rn d i pc ls (.int 3 :: .int 0 :: .ref k1 :: .int 0 :: .ref k0 :: r) h n v h' n' := by
  obtain ⟨ins, len, r1, e2⟩ := e
  dsimp only at he hi
  subst he; subst hi
  refine Rn.step1 hf rfl ?_ kk
  show xcI (h k0) _ = _
  rw [h0]
  show xcI (h k1) _ = _
  rw [h1]
  show xgd (Nat.ble 3 k0 && (Nat.ble 3 k1 && (true && (true && (Nat.ble (xcw r) 8 && Nat.ble 1 d))))) (xgp _ _) = _
  rw [hb0, hb1, hw, hd]
  rfl
end RN5
theorem xup_ne {h : xHp} {k j : Nat} {c : xLC} (hn : ¬ j = k) : xup h k c j = h j := if_neg hn
theorem bi_fit (b : Bool) : fits .boolean (.int (bi b)) = true := by cases b <;> decide
theorem fl_fit {x : Int32} (h : x = 0 ∨ x = 1) : fits .boolean (.int x) = true := by
  rcases h with rfl | rfl <;> decide
section CLASS5
variable (d n : Nat) (h : xHp)
theorem m_ccopy (a a' : Nat) (ne : a ≠ a') (z s z1 s1 : Nat → Int32) (c c1 : Nat) (h1 : h a = .inr (0, cf z1 s1 c1)) (h2 : h a' = .inr (0, cf z s c)) (hfl : z (10 + 7 * c + 2) = 0 ∨ z (10 + 7 * c + 2) = 1) : Rn d 2 0 [(0, .ref a), (1, .ref a')] [] h n none (xup h a (.inr (0, cf z s c))) n := by
  refine Rn.steps 2 rfl ?_
  refine Rn.getf rfl rfl (fs := cf z s c) h2 rfl ?_
  refine Rn.putf rfl rfl h1 (bi_fit _) rfl ?_
  refine Rn.steps 2 rfl ?_
  refine Rn.getf rfl rfl (fs := cf z s c) (by rw [xup_ne (Ne.symm ne)]; exact h2) rfl ?_
  refine Rn.putf rfl rfl xup_same rfl rfl ?_
  rw [xup_xup]
  refine Rn.steps 2 rfl ?_
  refine Rn.getf rfl rfl (fs := cf z s c) (by rw [xup_ne (Ne.symm ne)]; exact h2) rfl ?_
  refine Rn.putf rfl rfl xup_same rfl rfl ?_
  rw [xup_xup]
  refine Rn.steps 2 rfl ?_
  refine Rn.getf rfl rfl (fs := cf z s c) (by rw [xup_ne (Ne.symm ne)]; exact h2) rfl ?_
  refine Rn.putf rfl rfl xup_same (fl_fit hfl) rfl ?_
  rw [xup_xup]
  refine Rn.steps 2 rfl ?_
  refine Rn.getf rfl rfl (fs := cf z s c) (by rw [xup_ne (Ne.symm ne)]; exact h2) rfl ?_
  refine Rn.putf rfl rfl xup_same rfl rfl ?_
  rw [xup_xup]
  refine Rn.steps 2 rfl ?_
  refine Rn.getf rfl rfl (fs := cf z s c) (by rw [xup_ne (Ne.symm ne)]; exact h2) rfl ?_
  refine Rn.putf rfl rfl xup_same rfl rfl ?_
  rw [xup_xup]
  refine Rn.steps 2 rfl ?_
  refine Rn.getf rfl rfl (fs := cf z s c) (by rw [xup_ne (Ne.symm ne)]; exact h2) rfl ?_
  refine Rn.putf rfl rfl xup_same rfl rfl ?_
  rw [xup_xup]
  exact Rn.retE rfl rfl rfl rfl rfl
end CLASS5
/-- a track's cells laid over a heap -/
def tAt (b : Nat) (z s : Nat → Int32) (h : xHp) : xHp := fun k => if b ≤ k ∧ k ≤ b + 12 then tc b z s (k - b) else h k
theorem tAt_in {b : Nat} {z s : Nat → Int32} {h : xHp} {o : Nat} (ho : o ≤ 12) : tAt b z s h (b + o) = tc b z s o := by
  unfold tAt
  rw [if_pos (by omega), show b + o - b = o by omega]
theorem tc_car {b : Nat} {z s : Nat → Int32} {c : Nat} : tc b z s (3 + c) = .inr (0, cf z s c) := by
  unfold tc
  rw [xbeq_no (by omega : ¬ 3 + c = 0), xbeq_no (by omega : ¬ 3 + c = 1), xbeq_no (by omega : ¬ 3 + c = 2), show 3 + c - 3 = c by omega]
  rfl
/-- the copy of the first carriers -/
def cpH (b : Nat) (z s : Nat → Int32) (h : xHp) (c : Nat) : xHp := fun k => if k = b + 1 then .inl (0, 3, .inl (s3 z)) else if b + 3 ≤ k ∧ k < b + 3 + c then tc b z s (k - b) else h k
theorem cpH_0 {b : Nat} {z s z1 : Nat → Int32} {h : xHp} : xup h (b + 1) (.inl (0, 3, .inl (va_cpy (s3 z) (s3 z1) 0 0 3))) = cpH b z s h 0 := by
  funext k
  unfold xup cpH
  by_cases hk : k = b + 1
  · rw [if_pos hk, if_pos hk, show va_cpy (s3 z) (s3 z1) 0 0 3 = s3 z by
      funext j
      unfold va_cpy s3
      by_cases hj : j < 3
      · rw [if_pos (by omega), show 0 + (j - 0) = j by omega]
      · rw [if_neg (by omega), show Nat.blt j 3 = false by cases hb : Nat.blt j 3 with | false => rfl | true => exact absurd (Nat.le_of_ble_eq_true hb) (by omega)]
        rfl]
  · rw [if_neg hk, if_neg hk, if_neg (by omega)]
theorem cpH_s {b : Nat} {z s : Nat → Int32} {h : xHp} {c : Nat} : xup (cpH b z s h c) (b + 3 + c) (.inr (0, cf z s c)) = cpH b z s h (c + 1) := by
  funext k
  unfold xup cpH
  by_cases hk : k = b + 3 + c
  · rw [if_pos hk, if_neg (by omega), if_pos (by omega), hk, show b + 3 + c - b = 3 + c by omega, tc_car]
  · rw [if_neg hk]
    by_cases h1 : k = b + 1
    · rw [if_pos h1, if_pos h1]
    · rw [if_neg h1, if_neg h1]
      by_cases h2 : b + 3 ≤ k ∧ k < b + 3 + c
      · rw [if_pos h2, if_pos (by omega)]
      · rw [if_neg h2, if_neg (by omega)]
theorem cpH_out {b : Nat} {z s : Nat → Int32} {h : xHp} {c k : Nat} (hk : ¬ k = b + 1) (h2 : k < b + 3 ∨ b + 3 + c ≤ k) : cpH b z s h c k = h k := by
  unfold cpH
  rw [if_neg hk, if_neg (by omega)]
theorem cpH_end {b : Nat} {z s : Nat → Int32} {h : xHp} (h2 : h (b + 2) = tc b z s 2) : xup (cpH b z s h 10) b (.inr (2, [.ref (b + 1), .ref (b + 2), .int (z 3), .int (z 4), .int (z 5), .int (z 6), .int (z 7), .int (z 8), .int (z 9)])) = tAt b z s h := by
  funext k
  unfold xup cpH tAt
  by_cases hk : k = b
  · rw [if_pos hk, if_pos (by omega), hk, Nat.sub_self]
    rfl
  · rw [if_neg hk]
    by_cases h1 : k = b + 1
    · rw [if_pos h1, if_pos (by omega), h1, show b + 1 - b = 1 by omega]
      rfl
    · rw [if_neg h1]
      by_cases h3 : b + 3 ≤ k ∧ k < b + 3 + 10
      · rw [if_pos h3, if_pos (by omega)]
      · rw [if_neg h3]
        by_cases h4 : k = b + 2
        · rw [h4, if_pos (by omega), show b + 2 - b = 2 by omega, h2]
        · rw [if_neg (by omega)]
theorem brow {b c : Nat} (hc : c < 10) : cond (Nat.blt c 10) (some (b + 3 + c)) none = some (b + 3 + c) := by
  rw [show Nat.blt c 10 = true from Nat.ble_eq_true_of_le hc]
  rfl
section CLASS6
variable (d n : Nat) (h : xHp)
theorem m_tcopy (b b' : Nat) (hb : 3 ≤ b) (hb' : 3 ≤ b') (hdis : b + 12 < b' ∨ b' + 12 < b) (z s z1 s1 : Nat → Int32) (hd : ∀ o, o ≤ 12 → h (b + o) = tc b z1 s1 o) (hs : ∀ o, o ≤ 12 → h (b' + o) = tc b' z s o) (hf : Fl z) : Rn (d + 1) 33 0 [(0, .ref b), (1, .ref b')] [] h n none (tAt b z s h) n := by
  refine Rn.steps 1 rfl ?_
  refine Rn.getf rfl rfl (hs 0 (by omega)) rfl ?_
  refine Rn.steps 2 rfl ?_
  refine Rn.getf rfl rfl (hd 0 (by omega)) rfl ?_
  refine Rn.steps 2 rfl ?_
  refine Rn.getf rfl rfl (hd 0 (by omega)) rfl ?_
  refine Rn.alen rfl rfl (hd 1 (by omega)) rfl ?_
  refine Rn.acopy rfl rfl rfl (hs 1 (by omega)) (hd 1 (by omega)) (Nat.ble_eq_true_of_le (by omega)) (Nat.ble_eq_true_of_le (by omega)) rfl rfl ?_
  rw [cpH_0 (s := s)]
  refine Rn.steps 2 rfl ?_
  refine Rn.l3 rfl rfl rfl rfl (xloop (fun c => Rn (d + 1) 33 20 [(0, .ref b), (1, .ref b'), (2, .int (nI c))] [] (cpH b z s h c) n none (tAt b z s h) n) 10 ?_ (fun c hc ih => ?_))
  · refine Rn.steps 2 rfl ?_
    refine Rn.getf rfl rfl (by rw [cpH_out (by omega) (by omega)]; exact hd 0 (by omega)) rfl ?_
    refine Rn.alen rfl rfl (by rw [cpH_out (by omega) (by omega)]; exact hd 2 (by omega)) rfl ?_
    refine Rn.steps 3 rfl ?_
    refine Rn.getf rfl rfl (by rw [cpH_out (by omega) (by omega)]; exact hs 0 (by omega)) rfl ?_
    refine Rn.putf rfl rfl (by rw [cpH_out (by omega) (by omega)]; exact hd 0 (by omega)) rfl rfl ?_
    refine Rn.steps 2 rfl ?_
    refine Rn.getf rfl rfl (by rw [xup_ne (by omega), cpH_out (by omega) (by omega)]; exact hs 0 (by omega)) rfl ?_
    refine Rn.putf rfl rfl xup_same rfl rfl ?_
    rw [xup_xup]
    refine Rn.steps 2 rfl ?_
    refine Rn.getf rfl rfl (by rw [xup_ne (by omega), cpH_out (by omega) (by omega)]; exact hs 0 (by omega)) rfl ?_
    refine Rn.putf rfl rfl xup_same rfl rfl ?_
    rw [xup_xup]
    refine Rn.steps 2 rfl ?_
    refine Rn.getf rfl rfl (by rw [xup_ne (by omega), cpH_out (by omega) (by omega)]; exact hs 0 (by omega)) rfl ?_
    refine Rn.putf rfl rfl xup_same rfl rfl ?_
    rw [xup_xup]
    refine Rn.steps 2 rfl ?_
    refine Rn.getf rfl rfl (by rw [xup_ne (by omega), cpH_out (by omega) (by omega)]; exact hs 0 (by omega)) rfl ?_
    refine Rn.putf rfl rfl xup_same rfl rfl ?_
    rw [xup_xup]
    refine Rn.steps 2 rfl ?_
    refine Rn.getf rfl rfl (by rw [xup_ne (by omega), cpH_out (by omega) (by omega)]; exact hs 0 (by omega)) rfl ?_
    refine Rn.putf rfl rfl xup_same rfl rfl ?_
    rw [xup_xup]
    refine Rn.steps 2 rfl ?_
    refine Rn.getf rfl rfl (by rw [xup_ne (by omega), cpH_out (by omega) (by omega)]; exact hs 0 (by omega)) rfl ?_
    refine Rn.putf rfl rfl xup_same rfl rfl ?_
    rw [xup_xup]
    exact Rn.retE rfl rfl rfl rfl (cpH_end (by rw [hd 2 (by omega)]; rfl))
  · refine Rn.steps 2 rfl ?_
    refine Rn.getf rfl rfl (by rw [cpH_out (by omega) (by omega)]; exact hd 0 (by omega)) rfl ?_
    refine Rn.alen rfl rfl (by rw [cpH_out (by omega) (by omega)]; exact hd 2 (by omega)) rfl ?_
    refine Rn.br 1 rfl (fun hc26 => ?_) (fun hc26 => ?_)
    · exact (nI_ge hc (by omega) hc26).elim
    · have hcell : cpH b z s h c (b + 3 + c) = .inr (0, cf z1 s1 c) := by rw [cpH_out (by omega) (by omega), show b + 3 + c = b + (3 + c) by omega, hd (3 + c) (by omega), tc_car]
      have hcel2 : cpH b z s h c (b' + 3 + c) = .inr (0, cf z s c) := by rw [cpH_out (by omega) (by omega), show b' + 3 + c = b' + (3 + c) by omega, hs (3 + c) (by omega), tc_car]
      refine Rn.steps 1 rfl ?_
      refine Rn.getf rfl rfl (by rw [cpH_out (by omega) (by omega)]; exact hd 0 (by omega)) rfl ?_
      refine Rn.steps 1 rfl ?_
      refine Rn.aaldN (m := c) rfl rfl (by rw [cpH_out (by omega) (by omega)]; exact hd 2 (by omega)) rfl rfl hc (Nat.le_of_ble_eq_true rfl) (brow hc) ?_
      refine Rn.steps 1 rfl ?_
      refine Rn.getf rfl rfl (by rw [cpH_out (by omega) (by omega)]; exact hs 0 (by omega)) rfl ?_
      refine Rn.steps 1 rfl ?_
      refine Rn.aaldN (m := c) rfl rfl (by rw [cpH_out (by omega) (by omega)]; exact hs 2 (by omega)) rfl rfl hc (Nat.le_of_ble_eq_true rfl) (brow hc) ?_
      refine Rn.callO rfl rfl rfl hcell rfl rfl rfl rfl rfl rfl (m_ccopy d n (cpH b z s h c) (b + 3 + c) (b' + 3 + c) (by omega) z s z1 s1 c c hcell hcel2 (hf c hc)) ?_
      rw [cpH_s]
      refine Rn.steps 2 rfl ?_
      exact Rn.l3 rfl rfl rfl (by rw [← nI_1 c]; rfl) ih
end CLASS6
