/-! the orders of a text, carried out by the class -/
section ORDERS
variable {A : Nat → Nat → Int32} {w : Nat → Int32} {p : Nat → Int32} {ch : Int32} {R R2 : Nat → Option Nat} {sv z s : Nat → Int32} {q : xHp} {P B : Nat}
variable (d n : Nat)
theorem G2_of (hg : q 2 = .inl (0, 3, .inl xhi)) (ln : Int32) : mOn A w (pOn p ln (bO ch R R2 sv q)) 2 = .inl (0, 3, .inl xhi) := by
  rw [mOn_out (by omega), pOn_out (by omega), bO_out (by omega) (by omega) (by omega) (by omega)]
  exact hg
theorem G1_of (hg : q 1 = .inl (0, 3, .inl xlo)) (ln : Int32) : mOn A w (pOn p ln (bO ch R R2 sv q)) 1 = .inl (0, 3, .inl xlo) := by
  rw [mOn_out (by omega), pOn_out (by omega), bO_out (by omega) (by omega) (by omega) (by omega)]
  exact hg
theorem isLe_or {l : Int32} (h : isLe l = true) : l = 98 ∨ l = 99 ∨ l = 107 ∨ l = 114 ∨ l = 120 ∨ l = 102 := by
  unfold isLe at h
  simp only [Bool.or_eq_true, decide_eq_true_eq] at h
  rcases h with h | h | h | h | h | h
  · exact Or.inr (Or.inl h)
  · exact Or.inr (Or.inr (Or.inr (Or.inr (Or.inl h))))
  · exact Or.inr (Or.inr (Or.inr (Or.inl h)))
  · exact Or.inl h
  · exact Or.inr (Or.inr (Or.inl h))
  · exact Or.inr (Or.inr (Or.inr (Or.inr (Or.inr h))))
theorem ord_any (h : GB z P B) (hB : B ≤ 1000000) (hp : Pc p) (hg : q 2 = .inl (0, 3, .inl xhi)) {ty i : Nat} (hty : ty ≤ 80) (hi : i < ty) (hl : isLe (p i) = true) (hn : p i = 99 → bdF p (ty - (i + 1)) (i + 1) + 1 ≤ ty) (b : Int32) (hb : p i = 99 → noC p ty i = b) : ∃ r z' s', Rn (d + 4) 81 0 [(0, .ref 3), (1, .int (nI i))] [] (FF A w p (nI ty) ch R R2 sv z s q) n (some (.int r)) (FF A w p (nI ty) ch R R2 sv z' s' q) n ∧ GB z' P (B + 1) ∧ ((ordW z (p i) (nuC p ty i) b = 0 ∧ ¬ r < 0 ∧ z' = ordZ z P (p i) (nuC p ty i) b) ∨ (¬ ordW z (p i) (nuC p ty i) b = 0 ∧ r < 0 ∧ z' = z)) := by
  have n0 : ∀ x : Int32, x < 0 → ¬ x = 0 := fun x g e => by subst e; exact absurd g (by decide)
  rcases isLe_or hl with e | e | e | e | e | e
  · obtain ⟨r, z', s', t1, t2, t3⟩ := o_98 d n s (G := mOn A w (pOn p (nI ty) (bO ch R R2 sv q))) h (nuC p ty i)
    refine ⟨r, z', s', b_ord_98 d n hp ty i hty hi e r z' s' t1, t2, ?_⟩
    rw [e]
    have eW : ordW z 98 (nuC p ty i) b = wne z (nuC p ty i) 0 := if_pos rfl
    rw [eW]
    rcases t3 with ⟨a1, a2, c, c1, c2, c3, c4, c5⟩ | ⟨a1, a2, a3⟩
    · refine Or.inl ⟨a1, a2, c4.trans ?_⟩
      rw [c2]
      show _ = upd z (10 + 7 * (nI c).toNatClampNeg + 2) 1
      rw [xnc (by omega)]
    · exact Or.inr ⟨n0 _ a1, by rw [a2]; exact a1, a3⟩
  · obtain ⟨r, z', s', t1, t2, t3⟩ := o_99 d n s (G := mOn A w (pOn p (nI ty) (bO ch R R2 sv q))) h (nuC p ty i) b
    have t1' := t1
    rw [← hb e] at t1'
    refine ⟨r, z', s', b_ord_99 d n hp ty i hty hi e (hn e) r z' s' t1', t2, ?_⟩
    rw [e]
    have eW : ordW z 99 (nuC p ty i) b = whyNC z (nuC p ty i) b := rfl
    rw [eW]
    rcases t3 with ⟨a1, a2, c1, c2, c3, c4, c5⟩ | ⟨a1, a2, a3⟩
    · exact Or.inl ⟨a1, a2, c4⟩
    · exact Or.inr ⟨n0 _ a1, by rw [a2]; exact a1, a3⟩
  · obtain ⟨r, z', s', t1, t2, t3⟩ := o_107 d n s (G := mOn A w (pOn p (nI ty) (bO ch R R2 sv q))) h hB (nuC p ty i)
    refine ⟨r, z', s', b_ord_107 d n hp ty i hty hi e r z' s' t1, t2, ?_⟩
    rw [e]
    have eW : ordW z 107 (nuC p ty i) b = wne z (nuC p ty i) 1 := rfl
    rw [eW]
    rcases t3 with ⟨a1, a2, c, c1, c2, c3, c4, c5⟩ | ⟨a1, a2, a3⟩
    · refine Or.inl ⟨a1, a2, c4.trans ?_⟩
      rw [c2]
      show _ = tieZ z (nI c).toNatClampNeg
      rw [xnc (by omega)]
    · exact Or.inr ⟨n0 _ a1, by rw [a2]; exact a1, a3⟩
  · obtain ⟨r, z', s', t1, t2, t3⟩ := o_114 d n s (G := mOn A w (pOn p (nI ty) (bO ch R R2 sv q))) h (G2_of hg _) (nuC p ty i)
    refine ⟨r, z', s', b_ord_114 d n hp ty i hty hi e r z' s' t1, t2, ?_⟩
    rw [e]
    have eW : ordW z 114 (nuC p ty i) b = wnr z (nuC p ty i) := rfl
    rw [eW]
    rcases t3 with ⟨a1, a2, N, c1, c2, c3, c4, c5⟩ | ⟨a1, a2, a3⟩
    · refine Or.inl ⟨a1, a2, c4.trans ?_⟩
      rw [c3]
      show _ = (runZ P (nI N).toNatClampNeg z).2
      rw [xnc (by omega)]
    · exact Or.inr ⟨n0 _ a1, by rw [a2]; exact a1, a3⟩
  · obtain ⟨r, z', s', t1, t2, t3⟩ := o_120 d n s (G := mOn A w (pOn p (nI ty) (bO ch R R2 sv q))) h (nuC p ty i)
    refine ⟨r, z', s', b_ord_120 d n hp ty i hty hi e r z' s' t1, t2, ?_⟩
    rw [e]
    have eW : ordW z 120 (nuC p ty i) b = cond (isC z (nuC p ty i)) 0 (-1) := rfl
    rw [eW]
    rcases t3 with ⟨a1, a2, c, c1, c2, c3, c4, c5⟩ | ⟨a1, a2, a3⟩
    · refine Or.inl ⟨by rw [a1]; rfl, a2, c4.trans ?_⟩
      rw [c2]
      show _ = toZ z (nI c).toNatClampNeg
      rw [xnc (by omega)]
    · exact Or.inr ⟨by rw [a1]; decide, by rw [a2]; decide, a3⟩
  · obtain ⟨r, z', s', t1, t2, t3⟩ := o_102 d n s (G := mOn A w (pOn p (nI ty) (bO ch R R2 sv q))) h (nuC p ty i)
    refine ⟨r, z', s', b_ord_102 d n hp ty i hty hi e r z' s' t1, t2, ?_⟩
    rw [e]
    have eW : ordW z 102 (nuC p ty i) b = cond (isC z (nuC p ty i)) 0 (-1) := rfl
    rw [eW]
    rcases t3 with ⟨a1, a2, c, c1, c2, c3, c4, c5⟩ | ⟨a1, a2, a3⟩
    · refine Or.inl ⟨by rw [a1]; rfl, a2, c4.trans ?_⟩
      rw [c2]
      show _ = refZ z (nI c).toNatClampNeg
      rw [xnc (by omega)]
    · exact Or.inr ⟨by rw [a1]; decide, by rw [a2]; decide, a3⟩
theorem co_loop (hp : Pc p) (hg : q 2 = .inl (0, 3, .inl xhi)) {ty : Nat} (hty : ty ≤ 80) {T : Nat → Int32} {m : Nat} (hm : m ≤ 28) (hst : stO p ty m = ty + 1) (hT : ∀ k, k < m → oF p ty T k) {hr : Nat → Nat} {Z S : Nat → Nat → Int32} (hR : HR R hr) (hH : Hq q Z S) {c : Nat} (hc : c ≤ 6) (hch : ch = nI c) : ∀ (r k : Nat) (z s : Nat → Int32) (B : Nat), k + r = m → B + r ≤ 900000 → GB z P B → ∃ s', Rn (d + 5) 82 23 [(0, .ref 3), (1, .int (nI k)), (2, .int (nI (stO p ty k)))] [] (FF A w p (nI ty) ch R R2 sv z s q) n (some (.int (nI (coR T P r k z).1))) (FF A w p 0 (nI (rcC (nI (coR T P r k z).1) c)) (rcR (nI (coR T P r k z).1) c R) R2 sv (coR T P r k z).2 s' q) n ∧ GB (coR T P r k z).2 P (B + r) ∧ (coR T P r k z).1 ≤ m := by
  subst hch
  intro r
  induction r with
  | zero =>
    intro k z s B hk hB h
    have e : k = m := by omega
    subst e
    rw [hst]
    exact ⟨s, b_co_e1 d n ty hty k (ty + 1) (by omega) (by omega) (b_co_end d n hr Z S hR hH c hc k), h, Nat.le_refl _⟩
  | succ r ih =>
    intro k z s B hk hB h
    obtain ⟨a1, a2, a3, a4, a5, a6⟩ := hT k (by omega)
    have ok := (ok_all (p := p) (ty := ty) (sp := stO p ty k) (by omega)).2 a2
    have hle := (roB_adv a2).2
    obtain ⟨o1, o2, o3⟩ := ok
    obtain ⟨o4, o5⟩ := o3 a3
    have el : leF p ty (stO p ty k) = p (stO p ty k) := if_pos a1
    rw [el] at o5 a4
    have hl := hle.2
    rw [el] at hl
    obtain ⟨r0, z', s', t1, t2, t3⟩ := ord_any (A := A) (w := w) (ch := nI c) (R := R) (R2 := R2) (sv := sv) (s := s) (q := q) d n h (by omega) hp hg hty a1 hl (fun e => (o5 e).1) (T (3 * k + 2)) (fun e => by rw [(o5 e).2, a6])
    rw [o4, ← a5, ← a4] at t3
    unfold coR
    rcases t3 with ⟨w1, w2, w3⟩ | ⟨w1, w2, w3⟩
    · rw [if_pos w1]
      obtain ⟨s2, k1, k2, k3⟩ := ih (k + 1) z' s' (B + 1) (by omega) (by omega) t2
      have hno : noF p (ty - stO p ty k) (stO p ty k) = stO p ty (k + 1) := no_stop (p := p) (ty := ty) (e := roS p ty (stO p ty k)) _ _ (by omega) (by have := (roB_adv a2).1; omega) hle.1 o2 a3
      rw [← w3]
      refine ⟨s2, b_co_s d n hp ty hty k _ _ (by omega) a1 z' s' r0 w2 t1 hno k1, ?_, k3⟩
      rw [show B + (r + 1) = B + 1 + r by omega]
      exact k2
    · rw [if_neg w1]
      subst w3
      exact ⟨s', b_co_e2 d n ty hty k _ (by omega) a1 r0 z' s' w2 t1 (b_co_end d n hr Z S hR hH c hc k), h.le (by omega), by show k ≤ m; omega⟩
end ORDERS
