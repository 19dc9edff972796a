/-! sums over the carriers, sets of carriers, what a step makes of the numbers -/
def tm (z : Nat → Int32) (q e : Nat) : Int32 := cond (zt z e) (z (10 + 7 * e + q)) 0
theorem mSum_s (z : Nat → Int32) (q c : Nat) : mSum z q (c + 1) = mSum z q c + tm z q c := rfl
theorem mMany_s (z : Nat → Int32) (c : Nat) : mMany z (c + 1) = mMany z c + bi (zt z c) := rfl
theorem mSum_cg {z z' : Nat → Int32} {q q' : Nat} : ∀ n, (∀ e, e < n → tm z' q' e = tm z q e) → mSum z' q' n = mSum z q n := by
  intro n
  induction n with
  | zero => intro _; rfl
  | succ n ih => intro h; rw [mSum_s, mSum_s, ih (fun e he => h e (by omega)), h n (by omega)]
theorem mMany_cg {z z' : Nat → Int32} : ∀ n, (∀ e, e < n → zt z' e = zt z e) → mMany z' n = mMany z n := by
  intro n
  induction n with
  | zero => intro _; rfl
  | succ n ih => intro h; rw [mMany_s, mMany_s, ih (fun e he => h e (by omega)), h n (by omega)]
theorem mSum_ch {z z' : Nat → Int32} {q c : Nat} : ∀ n, c < n → (∀ e, e < n → ¬ e = c → tm z' q e = tm z q e) → mSum z' q n + tm z q c = mSum z q n + tm z' q c := by
  intro n
  induction n with
  | zero => intro h; omega
  | succ n ih =>
    intro h g
    rw [mSum_s, mSum_s]
    by_cases e : c = n
    · subst e
      rw [mSum_cg c (fun e he => g e (by omega) (by omega))]
      grind
    · have := ih (by omega) (fun e he => g e (by omega))
      rw [g n (by omega) (fun q => e q.symm)]
      grind
/-- what the law's loop over a set of bits finds -/
def btF : Nat → Int32 → Int32 → Option Int32 | 0, _, _ => none | r + 1, x, n => if x = 0 then some n else btF r (x &&& (x - 1)) (n + 1)
theorem bt_all : ∀ b0 b1 b2 b3 b4 b5 b6 b7 b8 b9 : Bool, decide (btF 11 (sb b9 9 (sb b8 8 (sb b7 7 (sb b6 6 (sb b5 5 (sb b4 4 (sb b3 3 (sb b2 2 (sb b1 1 (sb b0 0 0)))))))))) 0 = some (0 + bi b0 + bi b1 + bi b2 + bi b3 + bi b4 + bi b5 + bi b6 + bi b7 + bi b8 + bi b9)) = true := by decide +kernel
theorem set_bt (z : Nat → Int32) : btF 11 (mSet z 10) 0 = some (mMany z 10) := of_decide_eq_true (bt_all (zt z 0) (zt z 1) (zt z 2) (zt z 3) (zt z 4) (zt z 5) (zt z 6) (zt z 7) (zt z 8) (zt z 9))
theorem sx_all : ∀ b0 b1 b2 b3 b4 b5 b6 b7 b8 b9 : Bool, ((decide ((sb b9 9 (sb b8 8 (sb b7 7 (sb b6 6 (sb b5 5 (sb b4 4 (sb b3 3 (sb b2 2 (sb b1 1 (sb b0 0 0)))))))))) = 1023) == (b0 && b1 && b2 && b3 && b4 && b5 && b6 && b7 && b8 && b9)) && ((decide (0 < (sb b9 9 (sb b8 8 (sb b7 7 (sb b6 6 (sb b5 5 (sb b4 4 (sb b3 3 (sb b2 2 (sb b1 1 (sb b0 0 0))))))))))) == !decide ((sb b9 9 (sb b8 8 (sb b7 7 (sb b6 6 (sb b5 5 (sb b4 4 (sb b3 3 (sb b2 2 (sb b1 1 (sb b0 0 0)))))))))) = 0)) && (List.range 10).all (fun j => decide (((sb b9 9 (sb b8 8 (sb b7 7 (sb b6 6 (sb b5 5 (sb b4 4 (sb b3 3 (sb b2 2 (sb b1 1 (sb b0 0 0)))))))))) >>> (nI j &&& 31)) &&& 1 = bi ([b0, b1, b2, b3, b4, b5, b6, b7, b8, b9].getD j false))))) = true := by decide +kernel
theorem set_sx (z : Nat → Int32) : (mSet z 10 = 1023 ↔ ∀ j, j < 10 → zt z j = true) ∧ (0 < mSet z 10 ↔ ¬ mSet z 10 = 0) ∧ ∀ j, j < 10 → (mSet z 10 >>> (nI j &&& 31)) &&& 1 = bi (zt z j) := by
  have h := sx_all (zt z 0) (zt z 1) (zt z 2) (zt z 3) (zt z 4) (zt z 5) (zt z 6) (zt z 7) (zt z 8) (zt z 9)
  rw [Bool.and_eq_true, Bool.and_eq_true] at h
  obtain ⟨h1, h2, h3⟩ := h
  have h1 : decide (mSet z 10 = 1023) = (zt z 0 && zt z 1 && zt z 2 && zt z 3 && zt z 4 && zt z 5 && zt z 6 && zt z 7 && zt z 8 && zt z 9) := beq_iff_eq.mp h1
  have h2 : decide (0 < mSet z 10) = !decide (mSet z 10 = 0) := beq_iff_eq.mp h2
  refine ⟨?_, ?_, fun j hj => ?_⟩
  · constructor
    · intro e
      rw [decide_eq_true e] at h1
      have h1 := h1.symm
      simp only [Bool.and_eq_true] at h1
      intro j hj
      rcases (by omega : j = 0 ∨ j = 1 ∨ j = 2 ∨ j = 3 ∨ j = 4 ∨ j = 5 ∨ j = 6 ∨ j = 7 ∨ j = 8 ∨ j = 9) with e | e | e | e | e | e | e | e | e | e <;> subst e <;> simp only [h1]
    · intro g
      rw [g 0 (by omega), g 1 (by omega), g 2 (by omega), g 3 (by omega), g 4 (by omega), g 5 (by omega), g 6 (by omega), g 7 (by omega), g 8 (by omega), g 9 (by omega)] at h1
      exact of_decide_eq_true h1
  · by_cases g : mSet z 10 = 0
    · rw [decide_eq_true g] at h2
      exact ⟨fun q => absurd q (of_decide_eq_false h2), fun q => absurd g q⟩
    · rw [decide_eq_false g] at h2
      exact ⟨fun _ => g, fun _ => of_decide_eq_true h2⟩
  · have := of_decide_eq_true (List.all_eq_true.mp h3 j (List.mem_range.mpr hj))
    rcases (by omega : j = 0 ∨ j = 1 ∨ j = 2 ∨ j = 3 ∨ j = 4 ∨ j = 5 ∨ j = 6 ∨ j = 7 ∨ j = 8 ∨ j = 9) with e | e | e | e | e | e | e | e | e | e <;> subst e <;> exact this
/-! a step -/
theorem stC_3 {z : Nat → Int32} {c : Nat} : stC z c (10 + 7 * c + 3) = z (10 + 7 * c + 3) + (if rm (t32 (z (10 + 7 * c))) 4 = 1 then 1 else 0) := by
  unfold stC stX sx6 sx5 sx4 sx3 sx2 sx1
  rw [upd_ne (by omega), upd_ne (by omega), upd_ne (by omega), upd_ne (by omega), upd_ne (by omega), upd_eq]
theorem stC_4 {z : Nat → Int32} {c : Nat} : stC z c (10 + 7 * c + 4) = z (10 + 7 * c + 4) + (if rm (t32 (z (10 + 7 * c))) 4 = 3 then 1 else 0) := by
  unfold stC stX sx6 sx5 sx4 sx3 sx2 sx1
  rw [upd_ne (by omega), upd_ne (by omega), upd_ne (by omega), upd_ne (by omega), upd_eq, upd_ne (by omega)]
theorem stC_5 {z : Nat → Int32} {c : Nat} : stC z c (10 + 7 * c + 5) = z (10 + 7 * c + 5) + 1 := by
  unfold stC stX sx6 sx5
  rw [upd_ne (by omega), upd_eq]
  unfold sx4 sx3 sx2 sx1
  rw [upd_ne (by omega), upd_ne (by omega), upd_ne (by omega), upd_ne (by omega)]
theorem stC_8 {z : Nat → Int32} {c : Nat} : stC z c 8 = z 8 + 1 := by
  unfold stC stX sx6
  rw [upd_eq]
  unfold sx5 sx4 sx3 sx2 sx1
  rw [upd_ne (by omega), upd_ne (by omega), upd_ne (by omega), upd_ne (by omega), upd_ne (by omega)]
theorem stZ_8 (z : Nat → Int32) : ∀ c, stZ z c 8 = z 8 + mMany z c := by
  intro c
  induction c with
  | zero => exact (Int32.add_zero _).symm
  | succ c ih =>
    rw [mMany_s]
    unfold stZ
    rw [stZ_zt z c c (Nat.le_refl _)]
    cases zt z c with
    | false =>
      show stZ z c 8 = z 8 + (mMany z c + 0)
      rw [ih]
      grind
    | true =>
      show stC (stZ z c) c 8 = z 8 + (mMany z c + 1)
      rw [stC_8, ih]
      grind
theorem stZ_lo3 (z : Nat → Int32) : ∀ c e, e < c → stZ z c (10 + 7 * e + 3) = cond (zt z e) (z (10 + 7 * e + 3) + (if rm (t32 (z (10 + 7 * e))) 4 = 1 then 1 else 0)) (z (10 + 7 * e + 3)) ∧ stZ z c (10 + 7 * e + 4) = cond (zt z e) (z (10 + 7 * e + 4) + (if rm (t32 (z (10 + 7 * e))) 4 = 3 then 1 else 0)) (z (10 + 7 * e + 4)) ∧ stZ z c (10 + 7 * e + 5) = cond (zt z e) (z (10 + 7 * e + 5) + 1) (z (10 + 7 * e + 5)) := by
  intro c
  induction c with
  | zero => intro e h; exact absurd h (Nat.not_lt_zero _)
  | succ c ih =>
    intro e he
    rcases Nat.lt_or_ge e c with h | h
    · have k1 := ih e h
      unfold stZ
      cases zt (stZ z c) c with
      | false => exact k1
      | true => exact ⟨(stC_out (by omega) (by omega)).trans k1.1, (stC_out (by omega) (by omega)).trans k1.2.1, (stC_out (by omega) (by omega)).trans k1.2.2⟩
    · have e1 : e = c := by omega
      subst e1
      unfold stZ
      rw [stZ_zt z e e (Nat.le_refl _)]
      cases hz : zt z e with
      | false => exact ⟨stZ_hi z e _ (by omega), stZ_hi z e _ (by omega), stZ_hi z e _ (by omega)⟩
      | true =>
        refine ⟨?_, ?_, ?_⟩
        · show stC (stZ z e) e (10 + 7 * e + 3) = _
          rw [stC_3, stZ_hi z e _ (Nat.le_refl _), stZ_hi z e _ (by omega)]
          rfl
        · show stC (stZ z e) e (10 + 7 * e + 4) = _
          rw [stC_4, stZ_hi z e _ (Nat.le_refl _), stZ_hi z e _ (by omega)]
          rfl
        · show stC (stZ z e) e (10 + 7 * e + 5) = _
          rw [stC_5, stZ_hi z e _ (by omega)]
          rfl
theorem stF_345 (z : Nat → Int32) {e : Nat} (he : e < 10) : stF z (10 + 7 * e + 3) = cond (zt z e) (z (10 + 7 * e + 3) + (if rm (t32 (z (10 + 7 * e))) 4 = 1 then 1 else 0)) (z (10 + 7 * e + 3)) ∧ stF z (10 + 7 * e + 4) = cond (zt z e) (z (10 + 7 * e + 4) + (if rm (t32 (z (10 + 7 * e))) 4 = 3 then 1 else 0)) (z (10 + 7 * e + 4)) ∧ stF z (10 + 7 * e + 5) = cond (zt z e) (z (10 + 7 * e + 5) + 1) (z (10 + 7 * e + 5)) := by
  have h := stZ_lo3 z 10 e he
  unfold stF
  refine ⟨?_, ?_, ?_⟩ <;> rw [upd_ne (by omega), upd_ne (by omega)]
  · exact h.1
  · exact h.2.1
  · exact h.2.2
theorem stF_lo2 (z : Nat → Int32) {j : Nat} (h : j < 8) (h3 : ¬ j = 3) (h4 : ¬ j = 4) : stF z j = z j := by
  unfold stF
  rw [upd_ne h3, upd_ne h4]
  exact stZ_lo z 10 j h
theorem stF_3 (z : Nat → Int32) : stF z 3 = z 3 + 1 := by
  unfold stF
  rw [upd_eq, stZ_lo z 10 3 (by omega)]
theorem stF_4 (z : Nat → Int32) : stF z 4 = z 4 + z 1 := by
  unfold stF
  rw [upd_ne (by omega), upd_eq, stZ_lo z 10 4 (by omega), stZ_lo z 10 1 (by omega)]
theorem stF_8 (z : Nat → Int32) : stF z 8 = z 8 + mMany z 10 := by
  unfold stF
  rw [upd_ne (by omega), upd_ne (by omega)]
  exact stZ_8 z 10
