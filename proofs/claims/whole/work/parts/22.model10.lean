/-! the reference: a whole text carried out; signs put on the pad -/
theorem upd_id {f : Nat → Int32} {k : Nat} : upd f k (f k) = f := by
  funext j
  unfold upd
  by_cases hj : j = k
  · rw [if_pos hj, hj]
  · rw [if_neg hj]
def coR (t : Nat → Int32) (P : Nat) : Nat → Nat → (Nat → Int32) → Nat × (Nat → Int32)
  | 0, k, z => (k, z)
  | r + 1, k, z => if ordW z (t (3 * k)) (t (3 * k + 1)) (t (3 * k + 2)) = 0 then coR t P r (k + 1) (ordZ z P (t (3 * k)) (t (3 * k + 1)) (t (3 * k + 2))) else (k, z)
/-- every order that was read has a letter -/
def tOk (t : Nat → Int32) (m : Nat) : Prop := ∀ j, j < m → isLe (t (3 * j)) = true
theorem roT_ok {p : Nat → Int32} {ty sp tm : Nat} {t : Nat → Int32} (hl : isLe (leF p ty sp) = true) (h : tOk t tm) : tOk (roT p ty sp tm t) (tm + 1) := by
  intro j hj
  unfold roT
  rw [hl]
  simp only [cond]
  by_cases q : j = tm
  · subst q
    rw [upd_ne (by omega), upd_ne (by omega), upd_eq]
    exact hl
  · rw [upd_ne (by omega), upd_ne (by omega), upd_ne (by omega)]
    exact h j (by omega)
theorem rpF_ok (p : Nat → Int32) (ty : Nat) : ∀ (r sp tm : Nat) (t : Nat → Int32), tOk t tm → (rpF p ty r sp tm t).1 = true → tOk (rpF p ty r sp tm t).2.2.2 (rpF p ty r sp tm t).2.2.1 ∧ (rpF p ty r sp tm t).2.2.1 ≤ tm + r := by
  intro r
  induction r with
  | zero => intro sp tm t h _; exact ⟨h, Nat.le_refl _⟩
  | succ r ih =>
    intro sp tm t h hg
    unfold rpF at hg ⊢
    by_cases hlt : sp < ty
    · rw [if_pos hlt] at hg ⊢
      cases hz : seF p ty sp 59 59 with
      | false => rw [hz] at hg; exact absurd (show false = true from hg) (by decide)
      | true =>
        rw [hz] at hg
        simp only [cond] at hg ⊢
        cases hb : roB p ty (sp + 1) with
        | false => rw [hb] at hg; exact absurd (show false = true from hg) (by decide)
        | true =>
          rw [hb] at hg
          simp only [cond] at hg ⊢
          have hl := (roB_adv hb).2.2
          have hm : roM p ty (sp + 1) tm = tm + 1 := by unfold roM; rw [hl]; rfl
          rw [hm] at hg ⊢
          have k1 := ih _ _ _ (roT_ok hl h) hg
          exact ⟨k1.1, by have := k1.2; omega⟩
    · rw [if_neg hlt]
      exact ⟨h, by show tm ≤ tm + (r + 1); omega⟩
theorem rdF_ok {p : Nat → Int32} {ty : Nat} {t : Nat → Int32} (hg : (rdF p ty t).1 = true) : tOk (rdF p ty t).2.2.2 (rdF p ty t).2.2.1 ∧ (rdF p ty t).2.2.1 ≤ 28 := by
  unfold rdF at hg ⊢
  cases hb : roB p ty 0 with
  | false => rw [hb] at hg; exact absurd (show false = true from hg) (by decide)
  | true =>
    rw [hb] at hg
    simp only [cond] at hg ⊢
    have hl := (roB_adv hb).2.2
    have hm : roM p ty 0 0 = 1 := by unfold roM; rw [hl]; rfl
    rw [hm] at hg ⊢
    have k1 := rpF_ok p ty 27 _ _ _ (roT_ok (tm := 0) hl (fun j hj => absurd hj (Nat.not_lt_zero _))) hg
    exact ⟨k1.1, k1.2⟩
section MODEL10
variable (d n : Nat) (A : Nat → Nat → Int32) (w : Nat → Int32) (g h : xHp) (ty : Nat)
theorem k_coL (tm : Nat) (hw : w 4 = nI tm) (htm : tm ≤ 39) (ht : tOk (A 6) tm) (P : Nat) (h2 : 2 ≤ P) (h6 : P ≤ 6) : ∀ (r k : Nat) (z a : Nat → Int32) (x : Int32), k + r = tm → z 0 = nI P → ∃ a' x', Rn (d + 6) 153 16 [(0, .ref 139), (1, .int (nI k))] [] (mOn (mZ A z a) (upd w 2 x) g) n (some (.int (nI (coR (A 6) P r k z).1))) (mOn (mZ A (coR (A 6) P r k z).2 a') (upd (upd w 2 x') 1 0) g) n := by
  intro r
  induction r with
  | zero =>
    intro k z a x hk hz
    refine ⟨a, x, ?_⟩
    have hk2 : k = tm := hk
    refine Rn.br 4 rfl (fun hc21 => ?_) (fun hc21 => ?_)
    · refine Rn.steps 3 rfl ?_
      refine Rn.heap mOn_w1 ?_
      refine Rn.steps 1 rfl ?_
      exact Rn.retE rfl rfl rfl rfl rfl
    · exact (hc21 (by show w 4 ≤ nI k; rw [hw, hk2]; exact nI_le (Nat.le_refl _) (by omega))).elim
  | succ r ih =>
    intro k z a x hk hz
    by_cases h0 : ordW z (A 6 (3 * k)) (A 6 (3 * k + 1)) (A 6 (3 * k + 2)) = 0
    · rw [show coR (A 6) P (r + 1) k z = coR (A 6) P r (k + 1) (ordZ z P (A 6 (3 * k)) (A 6 (3 * k + 1)) (A 6 (3 * k + 2))) by rw [coR, if_pos h0]]
      obtain ⟨a1, x1, g1⟩ := k_do d n A w g z a x P hz h2 h6 k (by omega) (ht k (by omega)) h0
      obtain ⟨a2, x2, g2⟩ := ih (k + 1) (ordZ z P (A 6 (3 * k)) (A 6 (3 * k + 1)) (A 6 (3 * k + 2))) a1 x1 (by omega) (by rw [ordZ_0]; exact hz)
      refine ⟨a2, x2, ?_⟩
      refine Rn.br 4 rfl (fun hc21 => ?_) (fun hc21 => ?_)
      · exact (nI_ge (show k < tm by omega) (by omega) (by rw [← hw]; exact hc21)).elim
      · refine Rn.steps 2 rfl ?_
        refine Rn.call rfl rfl rfl (c_whyNot d n (mZ A z a) (upd w 2 x) g (by show ¬ 2 * z 0 = 0; exact x2ne hz h2 h6) k (by omega) (ht k (by omega))) ?_
        refine Rn.br 1 rfl (fun hc29 => ?_) (fun hc29 => ?_)
        · refine Rn.steps 2 rfl ?_
          refine Rn.call rfl rfl rfl g1 ?_
          refine Rn.steps 2 rfl ?_
          exact Rn.l2 rfl rfl (by rw [← nI_1]; rfl) g2
        · exact (hc29 h0).elim
    · rw [show coR (A 6) P (r + 1) k z = (k, z) by rw [coR, if_neg h0]]
      refine ⟨a, x, ?_⟩
      refine Rn.br 4 rfl (fun hc21 => ?_) (fun hc21 => ?_)
      · exact (nI_ge (show k < tm by omega) (by omega) (by rw [← hw]; exact hc21)).elim
      · refine Rn.steps 2 rfl ?_
        refine Rn.call rfl rfl rfl (c_whyNot d n (mZ A z a) (upd w 2 x) g (by show ¬ 2 * z 0 = 0; exact x2ne hz h2 h6) k (by omega) (ht k (by omega))) ?_
        refine Rn.br 1 rfl (fun hc29 => ?_) (fun hc29 => ?_)
        · exact (h0 hc29).elim
        · refine Rn.steps 3 rfl ?_
          refine Rn.heap mOn_w1 ?_
          refine Rn.steps 1 rfl ?_
          exact Rn.retE rfl rfl rfl rfl rfl
theorem c_carryOut_bad (hty : w 1 = nI ty) (ht8 : ty ≤ 80) (hb : (rdF (A 4) ty (A 6)).1 = false) : Rn (d + 6) 153 0 [(0, .ref 139)] [] (mOn A w g) n (some (.int (-3))) (mOn (va_up A 6 (rdF (A 4) ty (A 6)).2.2.2) (wT w (rdF (A 4) ty (A 6)).2.1 (rdF (A 4) ty (A 6)).2.2.1) g) n := by
  refine Rn.steps 1 rfl ?_
  refine Rn.call rfl rfl rfl (c_readPad (d + 1) n A w g ty hty ht8) ?_
  rw [hb]
  refine Rn.steps 2 rfl ?_
  exact Rn.retE rfl rfl rfl rfl rfl
theorem c_carryOut (hty : w 1 = nI ty) (ht8 : ty ≤ 80) (hb : (rdF (A 4) ty (A 6)).1 = true) (s : Nat) (hs : w 0 = nI s) (s6 : s ≤ 6) (P : Nat) (hP : A 0 0 = nI P) (h2 : 2 ≤ P) (h6 : P ≤ 6) : ∃ a' x', Rn (d + 6) 153 0 [(0, .ref 139)] [] (mOn A w g) n (some (.int (nI (coR (rdF (A 4) ty (A 6)).2.2.2 P (rdF (A 4) ty (A 6)).2.2.1 0 (A 0)).1))) (mOn (mZ (rA (va_up A 6 (rdF (A 4) ty (A 6)).2.2.2) s) (coR (rdF (A 4) ty (A 6)).2.2.2 P (rdF (A 4) ty (A 6)).2.2.1 0 (A 0)).2 a') (upd (upd (rW (wT w (rdF (A 4) ty (A 6)).2.1 (rdF (A 4) ty (A 6)).2.2.1) s) 2 x') 1 0) g) n := by
  obtain ⟨o1, o2⟩ := rdF_ok hb
  generalize hR : rdF (A 4) ty (A 6) = R at *
  obtain ⟨a', x', g1⟩ := k_coL d n (rA (va_up A 6 R.2.2.2) s) (rW (wT w R.2.1 R.2.2.1) s) g R.2.2.1 rfl (by omega) o1 P h2 h6 R.2.2.1 0 (A 0) (A 5) (w 2) (by omega) hP
  refine ⟨a', x', ?_⟩
  have k1 := c_readPad (d + 1) n A w g ty hty ht8
  rw [hR] at k1
  rw [hb] at k1
  refine Rn.steps 1 rfl ?_
  refine Rn.call rfl rfl rfl k1 ?_
  refine Rn.steps 2 rfl ?_
  refine Rn.call rfl rfl rfl (c_record (d + 4) n (va_up A 6 R.2.2.2) (wT w R.2.1 R.2.2.1) g s hs s6) ?_
  refine Rn.steps 2 rfl ?_
  refine Rn.l2 (a := 0) (b := 1) (x := .ref 139) (y := .int (nI 0)) rfl rfl rfl ?_
  refine Rn.heap (h2 := mOn (mZ (rA (va_up A 6 R.2.2.2) s) (A 0) (A 5)) (upd (rW (wT w R.2.1 R.2.2.1) s) 2 (w 2)) g) ?_ g1
  show _ = mOn (mZ (rA (va_up A 6 R.2.2.2) s) (rA (va_up A 6 R.2.2.2) s 0) (rA (va_up A 6 R.2.2.2) s 5)) (upd (rW (wT w R.2.1 R.2.2.1) s) 2 (rW (wT w R.2.1 R.2.2.1) s 2)) g
  rw [mZ_self, upd_id]
  rfl
end MODEL10
