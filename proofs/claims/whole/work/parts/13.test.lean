section MODEL1
variable (d n : Nat) (A : Nat → Nat → Int32) (w : Nat → Int32) (g h : xHp)
theorem c_of1 (c q : Nat) (hc : c < 10) (hq : q < 7) : Rn d 89 0 [(0, .ref 139), (1, .int (nI c)), (2, .int (nI q))] [] (mOn A w g) n (some (.int (A 0 (10 + 7 * c + q)))) (mOn A w g) n := by
  refine Rn.steps 9 rfl ?_
  refine Rn.ialdN (m := 10 + 7 * c + q) (len := 80) (f := A 0) rfl rfl rfl ?_ (by omega) (by omega) ?_
  · rw [show (10 : Int32) = nI 10 from rfl, show (7 : Int32) = nI 7 from rfl, pk_mul, nI_add, nI_add]
  · exact Rn.ret rfl rfl rfl
theorem c_in (x a b : Int32) : Rn d 88 0 [(0, .int x), (1, .int a), (2, .int b)] [] h n (some (.int (bi (decide (a ≤ x ∧ x ≤ b))))) h n := by
  refine Rn.br 3 rfl (fun hc => ?_) (fun hc => ?_)
  · refine Rn.steps 1 rfl ?_
    exact Rn.retE rfl rfl rfl (by rw [decide_eq_false (fun q => Int32.not_le.mpr hc q.1)]; rfl) rfl
  · refine Rn.br 3 rfl (fun hc2 => ?_) (fun hc2 => ?_)
    · refine Rn.steps 1 rfl ?_
      exact Rn.retE rfl rfl rfl (by rw [decide_eq_false (fun q => Int32.not_le.mpr hc2 q.2)]; rfl) rfl
    · refine Rn.steps 2 rfl ?_
      exact Rn.retE rfl rfl rfl (by rw [decide_eq_true (⟨Int32.not_lt.mp hc, Int32.not_lt.mp hc2⟩ : a ≤ x ∧ x ≤ b)]; rfl) rfl
end MODEL1
