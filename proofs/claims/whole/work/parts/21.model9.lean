/-! the reference: orders carried out -/
def fr (z : Nat → Int32) : Nat → Nat → Nat | 0, c => c | r + 1, c => cond (zt z c) (fr z r (c + 1)) c
def ffree (z : Nat → Int32) : Nat := fr z 10 0
theorem fr_spec (z : Nat → Int32) : ∀ r c, (∀ j, j < c → zt z j = true) → (fr z r c ≤ c + r ∧ c ≤ fr z r c) ∧ (∀ j, j < fr z r c → zt z j = true) ∧ (fr z r c < c + r → zt z (fr z r c) = false) := by
  intro r
  induction r with
  | zero => intro c hc; exact ⟨⟨Nat.le_refl _, Nat.le_refl _⟩, hc, fun h => absurd h (Nat.lt_irrefl _)⟩
  | succ r ih =>
    intro c hc
    unfold fr
    cases hz : zt z c with
    | false => exact ⟨⟨by simp only [cond]; omega, Nat.le_refl _⟩, hc, fun _ => hz⟩
    | true =>
      have h1 := ih (c + 1) (fun j hj => by
        rcases Nat.lt_or_ge j c with q | q
        · exact hc j q
        · rw [show j = c by omega]; exact hz)
      simp only [cond]
      exact ⟨⟨by omega, by omega⟩, h1.2.1, fun h => h1.2.2 (by omega)⟩
theorem many_all (z : Nat → Int32) : ∀ c, (∀ j, j < c → zt z j = true) → mMany z c = nI c := by
  intro c
  induction c with
  | zero => intro _; rfl
  | succ c ih =>
    intro h
    unfold mMany
    rw [ih (fun j hj => h j (by omega)), h c (by omega)]
    exact nI_1 c
theorem ffree_ok {z : Nat → Int32} (h : ¬ mMany z 10 = 10) : ffree z < 10 ∧ zt z (ffree z) = false ∧ ∀ j, j < ffree z → zt z j = true := by
  have h1 := fr_spec z 10 0 (fun j hj => absurd hj (Nat.not_lt_zero _))
  have h2 : ffree z < 10 := by
    rcases Nat.lt_or_ge (ffree z) 10 with q | q
    · exact q
    · exact (h (many_all z 10 (fun j hj => h1.2.1 j (Nat.lt_of_lt_of_le hj q)))).elim
  exact ⟨h2, h1.2.2 (by show ffree z < 0 + 10; omega), h1.2.1⟩
theorem whyNC_ok {z : Nat → Int32} {x q : Int32} (h : ¬ whyNC z x q < 0) : isPl (2 * z 0) x q = true ∧ isFr z (4 * x + q) = true ∧ ¬ mMany z 10 = 10 := by
  unfold whyNC at h
  cases h1 : isPl (2 * z 0) x q with
  | false => rw [h1] at h; exact absurd (show (-1 : Int32) < 0 by decide) h
  | true =>
    rw [h1] at h
    cases h2 : isFr z (4 * x + q) with
    | false => rw [h2] at h; exact absurd (show (-5 : Int32) < 0 by decide) h
    | true =>
      rw [h2] at h
      refine ⟨rfl, rfl, fun h3 => ?_⟩
      simp only [cond] at h
      rw [if_pos h3] at h
      exact absurd (by decide) h
theorem wnr_ok {z : Nat → Int32} {x : Int32} (h : ¬ wnr z x < 0) : ∃ N : Nat, 1 ≤ N ∧ N ≤ 99 ∧ x = nI N ∧ z 3 + x ≤ 9999 := by
  unfold wnr at h
  cases h1 : decide (1 ≤ x ∧ x ≤ 99) with
  | false => rw [h1] at h; exact absurd (show (-2 : Int32) < 0 by decide) h
  | true =>
    rw [h1] at h
    obtain ⟨h2, h3⟩ := of_decide_eq_true h1
    obtain ⟨j, hj, e⟩ := nI_of2 (M := 99) (n := 99) rfl (Int32.not_lt.mpr (Int32.le_trans (by decide) h2)) h3
    refine ⟨j, ?_, hj, e, ?_⟩
    · rcases Nat.lt_or_ge j 1 with q | q
      · rw [e, show j = 0 by omega] at h2
        exact absurd h2 (by decide)
      · exact q
    · rcases Int32.le_total (z 3 + x) 9999 with q | q
      · exact q
      · by_cases q2 : z 3 + x ≤ 9999
        · exact q2
        · simp only [cond] at h
          rw [if_neg q2] at h
          exact absurd (by decide) h
theorem wne_ok {z : Nat → Int32} {x e : Int32} (h : ¬ wne z x e < 0) : ∃ c : Nat, c < 10 ∧ x = nI c ∧ zt z c = true ∧ z (10 + 7 * c + 2) = e := by
  unfold wne at h
  cases h1 : isC z x with
  | false => rw [h1] at h; exact absurd (show (-1 : Int32) < 0 by decide) h
  | true =>
    obtain ⟨c, hc, rfl, hz⟩ := isC_of h1
    refine ⟨c, hc, rfl, hz, ?_⟩
    rw [h1] at h
    simp only [cond] at h
    rw [nI_clamp (by omega)] at h
    by_cases q : z (10 + 7 * c + 2) = e
    · exact q
    · rw [if_neg q] at h; exact absurd (by decide) h
def ordZ (z : Nat → Int32) (P : Nat) (l a b : Int32) : Nat → Int32 := if l = 98 then upd z (10 + 7 * a.toNatClampNeg + 2) 1 else if l = 99 then newZ z (ffree z) (4 * a + b) else if l = 107 then tieZ z a.toNatClampNeg else if l = 114 then (runZ P a.toNatClampNeg z).2 else if l = 120 then toZ z a.toNatClampNeg else refZ z a.toNatClampNeg
theorem rz_0 (P : Nat) : ∀ r i z, (rz P r i z).2 0 = z 0 := by
  intro r
  induction r with
  | zero => intro i z; rfl
  | succ r ih =>
    intro i z
    unfold rz
    split
    · rw [ih, upd_ne (by omega), stF_0]
    · rfl
theorem ordZ_0 (z : Nat → Int32) (P : Nat) (l a b : Int32) : ordZ z P l a b 0 = z 0 := by
  unfold ordZ
  split
  · exact upd_ne (by omega)
  · split
    · unfold newZ fillZ
      rw [upd_ne (by omega), upd_ne (by omega), upd_ne (by omega)]
      unfold layN
      rw [if_neg (by omega)]
    · split
      · unfold tieZ
        rw [upd_ne (by omega), upd_ne (by omega)]
      · split
        · unfold runZ
          rw [rz_0, upd_ne (by omega)]
        · split
          · unfold toZ
            rw [upd_ne (by omega), upd_ne (by omega)]
          · unfold refZ fillZ
            rw [upd_ne (by omega), upd_ne (by omega), upd_ne (by omega)]
section MODEL9
variable (d n : Nat) (A : Nat → Nat → Int32) (w : Nat → Int32) (g h : xHp) (ty : Nat)
theorem k_do_b (z a : Nat → Int32) (x : Int32) (P : Nat) (hP : z 0 = nI P) (h2 : 2 ≤ P) (h6 : P ≤ 6) (k : Nat) (hk : k ≤ 39) (hl : A 6 (3 * k) = 98) (ho : ordW z 98 (A 6 (3 * k + 1)) (A 6 (3 * k + 2)) = 0) : ∃ a' x', Rn (d + 5) 152 0 [(0, .ref 139), (1, .int (nI k))] [] (mOn (mZ A z a) (upd w 2 x) g) n none (mOn (mZ A (ordZ z P 98 (A 6 (3 * k + 1)) (A 6 (3 * k + 2))) a') (upd w 2 x') g) n := by
  obtain ⟨c, hc, e1, hz, e2⟩ := wne_ok (z := z) (x := A 6 (3 * k + 1)) (e := 0) (by
    have q : wne z (A 6 (3 * k + 1)) 0 = 0 := ho
    rw [q]
    decide)
  rw [e1]
  rw [show ordZ z P 98 (nI c) (A 6 (3 * k + 2)) = upd z (10 + 7 * c + 2) 1 by show upd z (10 + 7 * (nI c).toNatClampNeg + 2) 1 = _; rw [nI_clamp (by omega)]]
  refine ⟨a, x, ?_⟩
  refine Rn.steps 7 rfl ?_
  refine Rn.ialdN (m := 3 * k + 1) rfl rfl rfl ((by rw [← nI_1, ← x3t])) (by omega) (Nat.le_of_ble_eq_true rfl) ?_
  refine Rn.steps 6 rfl ?_
  refine Rn.ialdN (m := 3 * k) rfl rfl rfl (x3t k) (by omega) (Nat.le_of_ble_eq_true rfl) ?_
  rw [show mZ A z a 6 (3 * k) = 98 from hl]
  refine Rn.steps 1 rfl ?_
  refine Rn.steps 4 rfl ?_
  refine Rn.stk (st2 := [.int 1, .int (nI 2), .int (nI c), .ref 139]) (by rw [← e1]; rfl) ?_
  refine Rn.call rfl rfl rfl (c_lay (d + 4) n (mZ A z a) _ g c 2 1 hc (by omega)) ?_
  rw [mZ_up0]
  refine Rn.steps 1 rfl ?_
  exact Rn.retE rfl rfl rfl rfl rfl
theorem k_do_k (z a : Nat → Int32) (x : Int32) (P : Nat) (hP : z 0 = nI P) (h2 : 2 ≤ P) (h6 : P ≤ 6) (k : Nat) (hk : k ≤ 39) (hl : A 6 (3 * k) = 107) (ho : ordW z 107 (A 6 (3 * k + 1)) (A 6 (3 * k + 2)) = 0) : ∃ a' x', Rn (d + 5) 152 0 [(0, .ref 139), (1, .int (nI k))] [] (mOn (mZ A z a) (upd w 2 x) g) n none (mOn (mZ A (ordZ z P 107 (A 6 (3 * k + 1)) (A 6 (3 * k + 2))) a') (upd w 2 x') g) n := by
  obtain ⟨c, hc, e1, hz, e2⟩ := wne_ok (z := z) (x := A 6 (3 * k + 1)) (e := 1) (by
    have q : wne z (A 6 (3 * k + 1)) 1 = 0 := ho
    rw [q]
    decide)
  rw [e1]
  rw [show ordZ z P 107 (nI c) (A 6 (3 * k + 2)) = tieZ z c by show tieZ z (nI c).toNatClampNeg = _; rw [nI_clamp (by omega)]]
  refine ⟨a, x, ?_⟩
  refine Rn.steps 7 rfl ?_
  refine Rn.ialdN (m := 3 * k + 1) rfl rfl rfl ((by rw [← nI_1, ← x3t])) (by omega) (Nat.le_of_ble_eq_true rfl) ?_
  refine Rn.steps 6 rfl ?_
  refine Rn.ialdN (m := 3 * k) rfl rfl rfl (x3t k) (by omega) (Nat.le_of_ble_eq_true rfl) ?_
  rw [show mZ A z a 6 (3 * k) = 107 from hl]
  refine Rn.steps 1 rfl ?_
  refine Rn.steps 2 rfl ?_
  refine Rn.stk (st2 := [.int (nI c), .ref 139]) (by rw [← e1]; rfl) ?_
  refine Rn.call rfl rfl rfl (c_tieNow (d + 3) n (mZ A z a) _ g c hc) ?_
  rw [mZ_up0]
  refine Rn.steps 1 rfl ?_
  exact Rn.retE rfl rfl rfl rfl rfl
theorem k_do_x (z a : Nat → Int32) (x : Int32) (P : Nat) (hP : z 0 = nI P) (h2 : 2 ≤ P) (h6 : P ≤ 6) (k : Nat) (hk : k ≤ 39) (hl : A 6 (3 * k) = 120) (ho : ordW z 120 (A 6 (3 * k + 1)) (A 6 (3 * k + 2)) = 0) : ∃ a' x', Rn (d + 5) 152 0 [(0, .ref 139), (1, .int (nI k))] [] (mOn (mZ A z a) (upd w 2 x) g) n none (mOn (mZ A (ordZ z P 120 (A 6 (3 * k + 1)) (A 6 (3 * k + 2))) a') (upd w 2 x') g) n := by
  obtain ⟨c, hc, e1, hz⟩ := isC_of (z := z) (x := A 6 (3 * k + 1)) (by
    cases q : isC z (A 6 (3 * k + 1)) with
    | true => rfl
    | false =>
      have q2 : cond (isC z (A 6 (3 * k + 1))) (0 : Int32) (-1) = 0 := ho
      rw [q] at q2
      exact absurd q2 (by decide))
  rw [e1]
  rw [show ordZ z P 120 (nI c) (A 6 (3 * k + 2)) = toZ z c by show toZ z (nI c).toNatClampNeg = _; rw [nI_clamp (by omega)]]
  refine ⟨a, x, ?_⟩
  refine Rn.steps 7 rfl ?_
  refine Rn.ialdN (m := 3 * k + 1) rfl rfl rfl ((by rw [← nI_1, ← x3t])) (by omega) (Nat.le_of_ble_eq_true rfl) ?_
  refine Rn.steps 6 rfl ?_
  refine Rn.ialdN (m := 3 * k) rfl rfl rfl (x3t k) (by omega) (Nat.le_of_ble_eq_true rfl) ?_
  rw [show mZ A z a 6 (3 * k) = 120 from hl]
  refine Rn.steps 1 rfl ?_
  refine Rn.steps 2 rfl ?_
  refine Rn.stk (st2 := [.int (nI c), .ref 139]) (by rw [← e1]; rfl) ?_
  refine Rn.call rfl rfl rfl (c_takeOutNow (d + 3) n (mZ A z a) _ g c hc) ?_
  rw [mZ_up0]
  refine Rn.steps 1 rfl ?_
  exact Rn.retE rfl rfl rfl rfl rfl
theorem k_do_f (z a : Nat → Int32) (x : Int32) (P : Nat) (hP : z 0 = nI P) (h2 : 2 ≤ P) (h6 : P ≤ 6) (k : Nat) (hk : k ≤ 39) (hl : A 6 (3 * k) = 102) (ho : ordW z 102 (A 6 (3 * k + 1)) (A 6 (3 * k + 2)) = 0) : ∃ a' x', Rn (d + 5) 152 0 [(0, .ref 139), (1, .int (nI k))] [] (mOn (mZ A z a) (upd w 2 x) g) n none (mOn (mZ A (ordZ z P 102 (A 6 (3 * k + 1)) (A 6 (3 * k + 2))) a') (upd w 2 x') g) n := by
  obtain ⟨c, hc, e1, hz⟩ := isC_of (z := z) (x := A 6 (3 * k + 1)) (by
    cases q : isC z (A 6 (3 * k + 1)) with
    | true => rfl
    | false =>
      have q2 : cond (isC z (A 6 (3 * k + 1))) (0 : Int32) (-1) = 0 := ho
      rw [q] at q2
      exact absurd q2 (by decide))
  rw [e1]
  rw [show ordZ z P 102 (nI c) (A 6 (3 * k + 2)) = refZ z c by show refZ z (nI c).toNatClampNeg = _; rw [nI_clamp (by omega)]]
  refine ⟨a, x, ?_⟩
  refine Rn.steps 7 rfl ?_
  refine Rn.ialdN (m := 3 * k + 1) rfl rfl rfl ((by rw [← nI_1, ← x3t])) (by omega) (Nat.le_of_ble_eq_true rfl) ?_
  refine Rn.steps 6 rfl ?_
  refine Rn.ialdN (m := 3 * k) rfl rfl rfl (x3t k) (by omega) (Nat.le_of_ble_eq_true rfl) ?_
  rw [show mZ A z a 6 (3 * k) = 102 from hl]
  refine Rn.steps 1 rfl ?_
  refine Rn.steps 2 rfl ?_
  refine Rn.stk (st2 := [.int (nI c), .ref 139]) (by rw [← e1]; rfl) ?_
  refine Rn.call rfl rfl rfl (c_refillNow (d + 2) n (mZ A z a) _ g c hc) ?_
  rw [mZ_up0]
  exact Rn.retE rfl rfl rfl rfl rfl
theorem k_do_c (z a : Nat → Int32) (x : Int32) (P : Nat) (hP : z 0 = nI P) (h2 : 2 ≤ P) (h6 : P ≤ 6) (k : Nat) (hk : k ≤ 39) (hl : A 6 (3 * k) = 99) (ho : ordW z 99 (A 6 (3 * k + 1)) (A 6 (3 * k + 2)) = 0) : ∃ a' x', Rn (d + 5) 152 0 [(0, .ref 139), (1, .int (nI k))] [] (mOn (mZ A z a) (upd w 2 x) g) n none (mOn (mZ A (ordZ z P 99 (A 6 (3 * k + 1)) (A 6 (3 * k + 2))) a') (upd w 2 x') g) n := by
  have hn : ¬ whyNC z (A 6 (3 * k + 1)) (A 6 (3 * k + 2)) < 0 := by
    have q : whyNC z (A 6 (3 * k + 1)) (A 6 (3 * k + 2)) = 0 := ho
    rw [q]
    decide
  obtain ⟨f1, f2, f3⟩ := ffree_ok (whyNC_ok hn).2.2
  refine ⟨a, x, ?_⟩
  refine Rn.steps 7 rfl ?_
  refine Rn.ialdN (m := 3 * k + 1) rfl rfl rfl ((by rw [← nI_1, ← x3t])) (by omega) (Nat.le_of_ble_eq_true rfl) ?_
  refine Rn.steps 6 rfl ?_
  refine Rn.ialdN (m := 3 * k) rfl rfl rfl (x3t k) (by omega) (Nat.le_of_ble_eq_true rfl) ?_
  rw [show mZ A z a 6 (3 * k) = 99 from hl]
  refine Rn.steps 1 rfl ?_
  refine Rn.steps 9 rfl ?_
  refine Rn.ialdN (m := 3 * k + 2) rfl rfl rfl ((by rw [← nI_add, ← x3t]; rfl)) (by omega) (Nat.le_of_ble_eq_true rfl) ?_
  refine Rn.call rfl rfl rfl (c_carrierNow (d + 2) n (mZ A z a) _ g (ffree z) f1 f2 f3 _ _) ?_
  rw [mZ_up0]
  refine Rn.steps 2 rfl ?_
  exact Rn.retE rfl rfl rfl rfl rfl
theorem k_do_r (z a : Nat → Int32) (x : Int32) (P : Nat) (hP : z 0 = nI P) (h2 : 2 ≤ P) (h6 : P ≤ 6) (k : Nat) (hk : k ≤ 39) (hl : A 6 (3 * k) = 114) (ho : ordW z 114 (A 6 (3 * k + 1)) (A 6 (3 * k + 2)) = 0) : ∃ a' x', Rn (d + 5) 152 0 [(0, .ref 139), (1, .int (nI k))] [] (mOn (mZ A z a) (upd w 2 x) g) n none (mOn (mZ A (ordZ z P 114 (A 6 (3 * k + 1)) (A 6 (3 * k + 2))) a') (upd w 2 x') g) n := by
  obtain ⟨N, n1, n9, e1, -⟩ := wnr_ok (z := z) (x := A 6 (3 * k + 1)) (by
    have q : wnr z (A 6 (3 * k + 1)) = 0 := ho
    rw [q]
    decide)
  rw [e1]
  rw [show ordZ z P 114 (nI N) (A 6 (3 * k + 2)) = (runZ P N z).2 by show (runZ P (nI N).toNatClampNeg z).2 = _; rw [nI_clamp (by omega)]]
  obtain ⟨a', x', g2⟩ := k_runNow d n A w g z a x P hP h2 h6 N n9
  refine ⟨a', x', ?_⟩
  refine Rn.steps 7 rfl ?_
  refine Rn.ialdN (m := 3 * k + 1) rfl rfl rfl ((by rw [← nI_1, ← x3t])) (by omega) (Nat.le_of_ble_eq_true rfl) ?_
  refine Rn.steps 6 rfl ?_
  refine Rn.ialdN (m := 3 * k) rfl rfl rfl (x3t k) (by omega) (Nat.le_of_ble_eq_true rfl) ?_
  rw [show mZ A z a 6 (3 * k) = 114 from hl]
  refine Rn.steps 1 rfl ?_
  refine Rn.steps 2 rfl ?_
  refine Rn.stk (st2 := [.int (nI N), .ref 139]) (by rw [← e1]; rfl) ?_
  refine Rn.call rfl rfl rfl g2 ?_
  refine Rn.steps 2 rfl ?_
  exact Rn.retE rfl rfl rfl rfl rfl
theorem k_do (z a : Nat → Int32) (x : Int32) (P : Nat) (hP : z 0 = nI P) (h2 : 2 ≤ P) (h6 : P ≤ 6) (k : Nat) (hk : k ≤ 39) (hl : isLe (A 6 (3 * k)) = true) (ho : ordW z (A 6 (3 * k)) (A 6 (3 * k + 1)) (A 6 (3 * k + 2)) = 0) : ∃ a' x', Rn (d + 5) 152 0 [(0, .ref 139), (1, .int (nI k))] [] (mOn (mZ A z a) (upd w 2 x) g) n none (mOn (mZ A (ordZ z P (A 6 (3 * k)) (A 6 (3 * k + 1)) (A 6 (3 * k + 2))) a') (upd w 2 x') g) n := by
  have h3 := hl
  unfold isLe at h3
  simp only [Bool.or_eq_true, decide_eq_true_eq] at h3
  rcases h3 with q | q | q | q | q | q <;> rw [q] at ho ⊢
  · exact k_do_c d n A w g z a x P hP h2 h6 k hk q ho
  · exact k_do_x d n A w g z a x P hP h2 h6 k hk q ho
  · exact k_do_r d n A w g z a x P hP h2 h6 k hk q ho
  · exact k_do_b d n A w g z a x P hP h2 h6 k hk q ho
  · exact k_do_k d n A w g z a x P hP h2 h6 k hk q ho
  · exact k_do_f d n A w g z a x P hP h2 h6 k hk q ho
theorem c_whyNot (hne : ¬ 2 * A 0 0 = 0) (k : Nat) (hk : k ≤ 39) (hl : isLe (A 6 (3 * k)) = true) : Rn (d + 5) 151 0 [(0, .ref 139), (1, .int (nI k))] [] (mOn A w g) n (some (.int (ordW (A 0) (A 6 (3 * k)) (A 6 (3 * k + 1)) (A 6 (3 * k + 2))))) (mOn A w g) n := by
  have h3 := hl
  unfold isLe at h3
  simp only [Bool.or_eq_true, decide_eq_true_eq] at h3
  rcases h3 with q | q | q | q | q | q
  · exact c_whyNot_c d n A w g hne k hk q
  · exact c_whyNot_o d n A w g k hk (Or.inl q)
  · exact c_whyNot_r d n A w g hne k hk q
  · exact c_whyNot_b d n A w g hne k hk q
  · exact c_whyNot_k d n A w g hne k hk q
  · exact c_whyNot_o d n A w g k hk (Or.inr q)
end MODEL9
