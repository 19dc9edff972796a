/-! rules for runs of the interpreter that make no cell -/
theorem xadd_of {kc ks : Nat} {r : Option xOut} {q : Nat} {sq : List Value} {v : Option Value} {h : xHp} {n a b : Nat} (hr : r = some (q, sq, v, h, n, a, b)) : xadd kc ks r = some (q, sq, v, h, n, kc + a, ks + b) := by rw [hr]; rfl
/-- more fuel does no harm -/
theorem xex_more : ∀ (f d i pc : Nat) (ls : xLs) (st : List Value) (h : xHp) (n : Nat) (r : xOut), xex f d i pc ls st h n = some r → xex (f + 1) d i pc ls st h n = some r := by
  intro f
  induction f with
  | zero => intro d i pc ls st h n r hr; cases hr
  | succ f ih =>
    intro d i pc ls st h n r hr
    unfold xex at hr ⊢
    cases hfd : xfind i pc with
    | none => rw [hfd] at hr; cases hr
    | some e =>
      rw [hfd] at hr
      dsimp only at hr ⊢
      split at hr
      · exact hr
      · split at hr
        · cases hr
        · next j as r0 hc =>
          split at hr
          · cases hr
          · next d' =>
            split at hr
            · cases hr
            · next q9 sq9 v9 h9 n9 kc9 ks9 hsub =>
              obtain ⟨q, sq, v, h1, n1, a, b⟩ := r
              obtain ⟨a', b', hrest, rfl, rfl⟩ := xadd_some hr
              rw [ih _ _ _ _ _ _ _ _ hsub]
              exact xadd_of (ih _ _ _ _ _ _ _ _ hrest)
      · split at hr
        · cases hr
        · next pc9 ls9 st9 h9 n9 kc9 ks9 hst =>
          obtain ⟨q, sq, v, h1, n1, a, b⟩ := r
          obtain ⟨a', b', hrest, rfl, rfl⟩ := xadd_some hr
          exact xadd_of (ih _ _ _ _ _ _ _ _ hrest)
theorem xex_le {f f' d i pc : Nat} {ls : xLs} {st : List Value} {h : xHp} {n : Nat} {r : xOut} (hle : f ≤ f') (hr : xex f d i pc ls st h n = some r) : xex f' d i pc ls st h n = some r := by
  induction f' with
  | zero => rw [Nat.le_zero.mp hle] at hr; exact hr
  | succ k ih =>
    by_cases hk : f ≤ k
    · exact xex_more _ _ _ _ _ _ _ _ _ (ih hk)
    · rw [show f = k + 1 by omega] at hr; exact hr
/-- the method's run from here returns v with the heap h' -/
def Rn (d i pc : Nat) (ls : xLs) (st : List Value) (h : xHp) (n : Nat) (v : Option Value) (h' : xHp) (n' : Nat) : Prop := ∃ f q sq, xex f d i pc ls st h n = some (q, sq, v, h', n', 0, 0)
/-- a row of instructions that are no calls, no returns and make no cell -/
def xit (d i : Nat) : Nat → Nat → xLs → List Value → xHp → Nat → Option (Nat × xLs × List Value × xHp × Nat)
  | 0, pc, ls, st, h, n => some (pc, ls, st, h, n)
  | k + 1, pc, ls, st, h, n => match xfind i pc with
    | none => none
    | some e => cond (Nat.beq (xkind e) 2) (match xstp d e pc ls st h n with
      | none => none
      | some (pc1, ls1, st1, h1, n1, kc, ks) => cond (Nat.beq kc 0) (cond (Nat.beq ks 0) (xit d i k pc1 ls1 st1 h1 n1) none) none) none
section RN
variable {d i pc : Nat} {ls : xLs} {st : List Value} {h h' : xHp} {n n' : Nat} {v : Option Value}
theorem Rn.ret {e : xEn} (hf : xfind i pc = some e) (hk : xkind e = 0) (hr : xret i e st = some v) : Rn d i pc ls st h n v h n := ⟨1, pc, st, by unfold xex; simp only [hf, hk, hr]⟩
theorem Rn.step1 {e : xEn} {pc1 : Nat} {ls1 : xLs} {st1 : List Value} {h1 : xHp} {n1 : Nat} (hf : xfind i pc = some e) (hk : xkind e = 2) (hs : xstp d e pc ls st h n = some (pc1, ls1, st1, h1, n1, 0, 0)) (kk : Rn d i pc1 ls1 st1 h1 n1 v h' n') : Rn d i pc ls st h n v h' n' := by
  obtain ⟨f, q, sq, hr⟩ := kk
  refine ⟨f + 1, q, sq, ?_⟩
  unfold xex
  simp only [hf, hk, hs, hr]
  rfl
theorem Rn.call {e : xEn} {j : Nat} {as r : List Value} {v1 : Option Value} {h1 : xHp} {n1 : Nat} (hf : xfind i pc = some e) (hk : xkind e = 1) (hs : xcall e st h = some (j, as, r)) (hc : Rn d j 0 (lv_args 0 as) [] h n v1 h1 n1) (kk : Rn (d + 1) i (pc + 3) ls (v1.toList ++ r) h1 n1 v h' n') : Rn (d + 1) i pc ls st h n v h' n' := by
  obtain ⟨f1, q1, sq1, hr1⟩ := hc
  obtain ⟨f2, q, sq, hr⟩ := kk
  refine ⟨max f1 f2 + 1, q, sq, ?_⟩
  have e1 := xex_le (Nat.le_max_left f1 f2) hr1
  have e2 := xex_le (Nat.le_max_right f1 f2) hr
  unfold xex
  simp only [hf, hk, hs, e1, e2]
  rfl
theorem Rn.steps : ∀ (k : Nat) {pc : Nat} {ls : xLs} {st : List Value} {h : xHp} {n pc1 : Nat} {ls1 : xLs} {st1 : List Value} {h1 : xHp} {n1 : Nat} (_ : xit d i k pc ls st h n = some (pc1, ls1, st1, h1, n1)) (_ : Rn d i pc1 ls1 st1 h1 n1 v h' n'), Rn d i pc ls st h n v h' n' := by
  intro k
  induction k with
  | zero =>
    intro pc ls st h n pc1 ls1 st1 h1 n1 hx kk
    cases hx
    exact kk
  | succ k ih =>
    intro pc ls st h n pc1 ls1 st1 h1 n1 hx kk
    unfold xit at hx
    cases hf : xfind i pc with
    | none => rw [hf] at hx; cases hx
    | some e =>
      rw [hf] at hx
      dsimp only at hx
      cases hk : Nat.beq (xkind e) 2 with
      | false => rw [hk] at hx; cases hx
      | true =>
        rw [hk] at hx
        dsimp only [cond] at hx
        split at hx
        · cases hx
        · next pc2 ls2 st2 h2 n2 kc ks hs =>
          cases hkc : Nat.beq kc 0 with
          | false => rw [hkc] at hx; cases hx
          | true =>
            cases hks : Nat.beq ks 0 with
            | false => rw [hkc, hks] at hx; cases hx
            | true =>
              rw [hkc, hks] at hx
              have e1 : kc = 0 := Nat.eq_of_beq_eq_true hkc
              have e2 : ks = 0 := Nat.eq_of_beq_eq_true hks
              subst e1; subst e2
              exact Rn.step1 hf (Nat.eq_of_beq_eq_true hk) hs (ih hx kk)
/-- a branch behind such a row -/
theorem Rn.br (k : Nat) {c : Prop} [Decidable c] {a b : Nat} {ls1 : xLs} {st1 : List Value} {h1 : xHp} {n1 : Nat} (hx : xit d i k pc ls st h n = some (if c then a else b, ls1, st1, h1, n1)) (kt : c → Rn d i a ls1 st1 h1 n1 v h' n') (kf : ¬ c → Rn d i b ls1 st1 h1 n1 v h' n') : Rn d i pc ls st h n v h' n' := by
  refine Rn.steps k hx ?_
  by_cases hc : c
  · rw [if_pos hc]; exact kt hc
  · rw [if_neg hc]; exact kf hc
end RN
