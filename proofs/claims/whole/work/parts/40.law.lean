/-! the law -/
theorem SG.h0 {X : xLC} {B : Nat} {h : xHp} (H : SG X B h) : h 0 = X := by
  obtain ⟨A, w, c, R, R2, hr, Z, S, s, q, P, ty, rfl, hG, hX, K⟩ := H
  exact (FF_q (Or.inl (by omega))).trans hX
theorem SG.h3 {X : xLC} {B : Nat} {h : xHp} (H : SG X B h) : ∃ fs, h 3 = .inr (3, fs) := by
  obtain ⟨A, w, c, R, R2, hr, Z, S, s, q, P, ty, rfl, hG, hX, K⟩ := H
  exact ⟨_, rfl⟩
theorem SG.le {X : xLC} {B B' : Nat} {h : xHp} (H : SG X B h) (hB : B ≤ B') : SG X B' h := by
  obtain ⟨A, w, c, R, R2, hr, Z, S, s, q, P, ty, e, hG, hX, K⟩ := H
  exact ⟨A, w, c, R, R2, hr, Z, S, s, q, P, ty, e, hG.le hB, hX, K.le hB⟩
def lPut (x y : Int32) : Int64 := (x.toInt64 <<< ((32 : Int32).toInt64 &&& 63)) ||| (y.toInt64 &&& 4294967295)
section LAW
variable {L : Nat} {xs : Nat → Int32} {B i : Nat} {h : xHp}
theorem l_0 (hL : L ≤ 1536) (hi : i + 3 ≤ L) (hB : B ≤ 800000) (hS : SG (.inl (0, L, .inl xs)) B h) (K : ∀ h2, SG (.inl (0, L, .inl xs)) (B + 28) h2 → ∃ h', Rn 9 155 676 [(0, .ref 0), (1, .ref 3), (2, .ref 139), (3, .int (nI i))] [] h2 147 (some (.int 1)) h' 147) : ∃ h', Rn 9 155 144 [(0, .ref 0), (1, .ref 3), (2, .ref 139), (3, .int (nI i))] [] h 147 (some (.int 1)) h' 147 := by
  obtain ⟨v, h1, h2, b1, b2, g2, x1, fs, m1⟩ := s_set hS (xs (i + 1)) (xs (i + 2))
  obtain ⟨h', k⟩ := K h2 g2
  have x0 := hS.h0
  obtain ⟨f3, m0⟩ := hS.h3
  refine ⟨h', ?_⟩
  refine Rn.steps 5 rfl ?_
  refine Rn.ialdN (m := i + 1) rfl rfl x0 (nI_1 i) (by omega) (by omega) ?_
  refine Rn.steps 4 rfl ?_
  refine Rn.ialdN (m := i + 2) rfl rfl x0 (nI_add i 2) (by omega) (by omega) ?_
  refine Rn.callO rfl rfl rfl m0 rfl rfl rfl rfl rfl rfl b1 ?_
  refine Rn.steps 5 rfl ?_
  refine Rn.ialdN (m := i + 1) rfl rfl x1 (nI_1 i) (by omega) (by omega) ?_
  refine Rn.steps 4 rfl ?_
  refine Rn.ialdN (m := i + 2) rfl rfl x1 (nI_add i 2) (by omega) (by omega) ?_
  refine Rn.callO rfl rfl rfl m1 rfl rfl rfl rfl rfl rfl b2 ?_
  refine Rn.br 1 rfl (fun hc172 => ?_) (fun hc172 => ?_)
  · exact k
  · exact (hc172 rfl).elim
theorem l_1 (hL : L ≤ 1536) (hi : i + 3 ≤ L) (hB : B ≤ 800000) (hS : SG (.inl (0, L, .inl xs)) B h) (K : ∀ h2, SG (.inl (0, L, .inl xs)) (B + 28) h2 → ∃ h', Rn 9 155 676 [(0, .ref 0), (1, .ref 3), (2, .ref 139), (3, .int (nI i))] [] h2 147 (some (.int 1)) h' 147) : ∃ h', Rn 9 155 177 [(0, .ref 0), (1, .ref 3), (2, .ref 139), (3, .int (nI i))] [] h 147 (some (.int 1)) h' 147 := by
  obtain ⟨v, h1, h2, b1, b2, g2, x1, fs, m1⟩ := s_carrier hS (xs (i + 1)) (xs (i + 2))
  obtain ⟨h', k⟩ := K h2 g2
  have x0 := hS.h0
  obtain ⟨f3, m0⟩ := hS.h3
  refine ⟨h', ?_⟩
  refine Rn.steps 5 rfl ?_
  refine Rn.ialdN (m := i + 1) rfl rfl x0 (nI_1 i) (by omega) (by omega) ?_
  refine Rn.steps 4 rfl ?_
  refine Rn.ialdN (m := i + 2) rfl rfl x0 (nI_add i 2) (by omega) (by omega) ?_
  refine Rn.callO rfl rfl rfl m0 rfl rfl rfl rfl rfl rfl b1 ?_
  refine Rn.steps 5 rfl ?_
  refine Rn.ialdN (m := i + 1) rfl rfl x1 (nI_1 i) (by omega) (by omega) ?_
  refine Rn.steps 4 rfl ?_
  refine Rn.ialdN (m := i + 2) rfl rfl x1 (nI_add i 2) (by omega) (by omega) ?_
  refine Rn.callO rfl rfl rfl m1 rfl rfl rfl rfl rfl rfl b2 ?_
  refine Rn.br 1 rfl (fun hc205 => ?_) (fun hc205 => ?_)
  · exact k
  · exact (hc205 rfl).elim
theorem l_2 (hL : L ≤ 1536) (hi : i + 3 ≤ L) (hB : B ≤ 800000) (hS : SG (.inl (0, L, .inl xs)) B h) (K : ∀ h2, SG (.inl (0, L, .inl xs)) (B + 28) h2 → ∃ h', Rn 9 155 676 [(0, .ref 0), (1, .ref 3), (2, .ref 139), (3, .int (nI i))] [] h2 147 (some (.int 1)) h' 147) : ∃ h', Rn 9 155 210 [(0, .ref 0), (1, .ref 3), (2, .ref 139), (3, .int (nI i))] [] h 147 (some (.int 1)) h' 147 := by
  obtain ⟨v, h1, h2, b1, b2, g2, x1, fs, m1⟩ := s_takeOut hS (xs (i + 1))
  obtain ⟨h', k⟩ := K h2 g2
  have x0 := hS.h0
  obtain ⟨f3, m0⟩ := hS.h3
  refine ⟨h', ?_⟩
  refine Rn.steps 5 rfl ?_
  refine Rn.ialdN (m := i + 1) rfl rfl x0 (nI_1 i) (by omega) (by omega) ?_
  refine Rn.callO rfl rfl rfl m0 rfl rfl rfl rfl rfl rfl b1 ?_
  refine Rn.steps 5 rfl ?_
  refine Rn.ialdN (m := i + 1) rfl rfl x1 (nI_1 i) (by omega) (by omega) ?_
  refine Rn.callO rfl rfl rfl m1 rfl rfl rfl rfl rfl rfl b2 ?_
  refine Rn.br 1 rfl (fun hc228 => ?_) (fun hc228 => ?_)
  · exact k
  · exact (hc228 rfl).elim
theorem l_3 (hL : L ≤ 1536) (hi : i + 3 ≤ L) (hB : B ≤ 800000) (hS : SG (.inl (0, L, .inl xs)) B h) (K : ∀ h2, SG (.inl (0, L, .inl xs)) (B + 28) h2 → ∃ h', Rn 9 155 676 [(0, .ref 0), (1, .ref 3), (2, .ref 139), (3, .int (nI i))] [] h2 147 (some (.int 1)) h' 147) : ∃ h', Rn 9 155 233 [(0, .ref 0), (1, .ref 3), (2, .ref 139), (3, .int (nI i))] [] h 147 (some (.int 1)) h' 147 := by
  obtain ⟨v, h1, h2, b1, b2, g2, x1, fs, m1⟩ := s_run hS (xs (i + 1))
  obtain ⟨h', k⟩ := K h2 g2
  have x0 := hS.h0
  obtain ⟨f3, m0⟩ := hS.h3
  refine ⟨h', ?_⟩
  refine Rn.steps 5 rfl ?_
  refine Rn.ialdN (m := i + 1) rfl rfl x0 (nI_1 i) (by omega) (by omega) ?_
  refine Rn.callO rfl rfl rfl m0 rfl rfl rfl rfl rfl rfl b1 ?_
  refine Rn.steps 5 rfl ?_
  refine Rn.ialdN (m := i + 1) rfl rfl x1 (nI_1 i) (by omega) (by omega) ?_
  refine Rn.callO rfl rfl rfl m1 rfl rfl rfl rfl rfl rfl b2 ?_
  refine Rn.br 1 rfl (fun hc251 => ?_) (fun hc251 => ?_)
  · exact k
  · exact (hc251 rfl).elim
theorem l_4 (hL : L ≤ 1536) (hi : i + 3 ≤ L) (hB : B ≤ 800000) (hS : SG (.inl (0, L, .inl xs)) B h) (K : ∀ h2, SG (.inl (0, L, .inl xs)) (B + 28) h2 → ∃ h', Rn 9 155 676 [(0, .ref 0), (1, .ref 3), (2, .ref 139), (3, .int (nI i))] [] h2 147 (some (.int 1)) h' 147) : ∃ h', Rn 9 155 256 [(0, .ref 0), (1, .ref 3), (2, .ref 139), (3, .int (nI i))] [] h 147 (some (.int 1)) h' 147 := by
  obtain ⟨v, h1, h2, b1, b2, g2, x1, fs, m1⟩ := s_snap hS (xs (i + 1))
  obtain ⟨h', k⟩ := K h2 g2
  have x0 := hS.h0
  obtain ⟨f3, m0⟩ := hS.h3
  refine ⟨h', ?_⟩
  refine Rn.steps 5 rfl ?_
  refine Rn.ialdN (m := i + 1) rfl rfl x0 (nI_1 i) (by omega) (by omega) ?_
  refine Rn.callO rfl rfl rfl m0 rfl rfl rfl rfl rfl rfl b1 ?_
  refine Rn.steps 5 rfl ?_
  refine Rn.ialdN (m := i + 1) rfl rfl x1 (nI_1 i) (by omega) (by omega) ?_
  refine Rn.callO rfl rfl rfl m1 rfl rfl rfl rfl rfl rfl b2 ?_
  refine Rn.br 1 rfl (fun hc274 => ?_) (fun hc274 => ?_)
  · exact k
  · exact (hc274 rfl).elim
theorem l_5 (hL : L ≤ 1536) (hi : i + 3 ≤ L) (hB : B ≤ 800000) (hS : SG (.inl (0, L, .inl xs)) B h) (K : ∀ h2, SG (.inl (0, L, .inl xs)) (B + 28) h2 → ∃ h', Rn 9 155 676 [(0, .ref 0), (1, .ref 3), (2, .ref 139), (3, .int (nI i))] [] h2 147 (some (.int 1)) h' 147) : ∃ h', Rn 9 155 279 [(0, .ref 0), (1, .ref 3), (2, .ref 139), (3, .int (nI i))] [] h 147 (some (.int 1)) h' 147 := by
  obtain ⟨v, h1, h2, b1, b2, g2, x1, fs, m1⟩ := s_tie hS (by omega) (xs (i + 1))
  obtain ⟨h', k⟩ := K h2 g2
  have x0 := hS.h0
  obtain ⟨f3, m0⟩ := hS.h3
  refine ⟨h', ?_⟩
  refine Rn.steps 5 rfl ?_
  refine Rn.ialdN (m := i + 1) rfl rfl x0 (nI_1 i) (by omega) (by omega) ?_
  refine Rn.callO rfl rfl rfl m0 rfl rfl rfl rfl rfl rfl b1 ?_
  refine Rn.steps 5 rfl ?_
  refine Rn.ialdN (m := i + 1) rfl rfl x1 (nI_1 i) (by omega) (by omega) ?_
  refine Rn.callO rfl rfl rfl m1 rfl rfl rfl rfl rfl rfl b2 ?_
  refine Rn.br 1 rfl (fun hc297 => ?_) (fun hc297 => ?_)
  · exact k
  · exact (hc297 rfl).elim
theorem l_6 (hL : L ≤ 1536) (hi : i + 3 ≤ L) (hB : B ≤ 800000) (hS : SG (.inl (0, L, .inl xs)) B h) (K : ∀ h2, SG (.inl (0, L, .inl xs)) (B + 28) h2 → ∃ h', Rn 9 155 676 [(0, .ref 0), (1, .ref 3), (2, .ref 139), (3, .int (nI i))] [] h2 147 (some (.int 1)) h' 147) : ∃ h', Rn 9 155 302 [(0, .ref 0), (1, .ref 3), (2, .ref 139), (3, .int (nI i))] [] h 147 (some (.int 1)) h' 147 := by
  obtain ⟨v, h1, h2, b1, b2, g2, x1, fs, m1⟩ := s_refill hS (xs (i + 1))
  obtain ⟨h', k⟩ := K h2 g2
  have x0 := hS.h0
  obtain ⟨f3, m0⟩ := hS.h3
  refine ⟨h', ?_⟩
  refine Rn.steps 5 rfl ?_
  refine Rn.ialdN (m := i + 1) rfl rfl x0 (nI_1 i) (by omega) (by omega) ?_
  refine Rn.callO rfl rfl rfl m0 rfl rfl rfl rfl rfl rfl b1 ?_
  refine Rn.steps 5 rfl ?_
  refine Rn.ialdN (m := i + 1) rfl rfl x1 (nI_1 i) (by omega) (by omega) ?_
  refine Rn.callO rfl rfl rfl m1 rfl rfl rfl rfl rfl rfl b2 ?_
  refine Rn.br 1 rfl (fun hc320 => ?_) (fun hc320 => ?_)
  · exact k
  · exact (hc320 rfl).elim
theorem l_7 (hL : L ≤ 1536) (hi : i + 3 ≤ L) (hB : B ≤ 800000) (hS : SG (.inl (0, L, .inl xs)) B h) (K : ∀ h2, SG (.inl (0, L, .inl xs)) (B + 28) h2 → ∃ h', Rn 9 155 676 [(0, .ref 0), (1, .ref 3), (2, .ref 139), (3, .int (nI i))] [] h2 147 (some (.int 1)) h' 147) : ∃ h', Rn 9 155 325 [(0, .ref 0), (1, .ref 3), (2, .ref 139), (3, .int (nI i))] [] h 147 (some (.int 1)) h' 147 := by
  obtain ⟨v, h1, h2, b1, b2, g2, x1, fs, m1⟩ := s_of hS (xs (i + 1)) (xs (i + 2))
  obtain ⟨h', k⟩ := K h2 g2
  have x0 := hS.h0
  obtain ⟨f3, m0⟩ := hS.h3
  refine ⟨h', ?_⟩
  refine Rn.steps 5 rfl ?_
  refine Rn.ialdN (m := i + 1) rfl rfl x0 (nI_1 i) (by omega) (by omega) ?_
  refine Rn.steps 4 rfl ?_
  refine Rn.ialdN (m := i + 2) rfl rfl x0 (nI_add i 2) (by omega) (by omega) ?_
  refine Rn.callO rfl rfl rfl m0 rfl rfl rfl rfl rfl rfl b1 ?_
  refine Rn.steps 5 rfl ?_
  refine Rn.ialdN (m := i + 1) rfl rfl x1 (nI_1 i) (by omega) (by omega) ?_
  refine Rn.steps 4 rfl ?_
  refine Rn.ialdN (m := i + 2) rfl rfl x1 (nI_add i 2) (by omega) (by omega) ?_
  refine Rn.callO rfl rfl rfl m1 rfl rfl rfl rfl rfl rfl b2 ?_
  refine Rn.br 1 rfl (fun hc353 => ?_) (fun hc353 => ?_)
  · exact k
  · exact (hc353 rfl).elim
theorem l_8 (hL : L ≤ 1536) (hi : i + 3 ≤ L) (hB : B ≤ 800000) (hS : SG (.inl (0, L, .inl xs)) B h) (K : ∀ h2, SG (.inl (0, L, .inl xs)) (B + 28) h2 → ∃ h', Rn 9 155 676 [(0, .ref 0), (1, .ref 3), (2, .ref 139), (3, .int (nI i))] [] h2 147 (some (.int 1)) h' 147) : ∃ h', Rn 9 155 358 [(0, .ref 0), (1, .ref 3), (2, .ref 139), (3, .int (nI i))] [] h 147 (some (.int 1)) h' 147 := by
  obtain ⟨v, h1, h2, b1, b2, g2, x1, fs, m1⟩ := s_at hS (xs (i + 1)) (xs (i + 2))
  obtain ⟨h', k⟩ := K h2 g2
  have x0 := hS.h0
  obtain ⟨f3, m0⟩ := hS.h3
  refine ⟨h', ?_⟩
  refine Rn.steps 5 rfl ?_
  refine Rn.ialdN (m := i + 1) rfl rfl x0 (nI_1 i) (by omega) (by omega) ?_
  refine Rn.steps 4 rfl ?_
  refine Rn.ialdN (m := i + 2) rfl rfl x0 (nI_add i 2) (by omega) (by omega) ?_
  refine Rn.callO rfl rfl rfl m0 rfl rfl rfl rfl rfl rfl b1 ?_
  refine Rn.steps 5 rfl ?_
  refine Rn.ialdN (m := i + 1) rfl rfl x1 (nI_1 i) (by omega) (by omega) ?_
  refine Rn.steps 4 rfl ?_
  refine Rn.ialdN (m := i + 2) rfl rfl x1 (nI_add i 2) (by omega) (by omega) ?_
  refine Rn.callO rfl rfl rfl m1 rfl rfl rfl rfl rfl rfl b2 ?_
  refine Rn.br 1 rfl (fun hc386 => ?_) (fun hc386 => ?_)
  · exact k
  · exact (hc386 rfl).elim
theorem l_9 (hL : L ≤ 1536) (hi : i + 3 ≤ L) (hB : B ≤ 800000) (hS : SG (.inl (0, L, .inl xs)) B h) (K : ∀ h2, SG (.inl (0, L, .inl xs)) (B + 28) h2 → ∃ h', Rn 9 155 676 [(0, .ref 0), (1, .ref 3), (2, .ref 139), (3, .int (nI i))] [] h2 147 (some (.int 1)) h' 147) : ∃ h', Rn 9 155 391 [(0, .ref 0), (1, .ref 3), (2, .ref 139), (3, .int (nI i))] [] h 147 (some (.int 1)) h' 147 := by
  obtain ⟨v, h1, h2, b1, b2, g2, x1, fs, m1⟩ := s_around hS (xs (i + 1))
  obtain ⟨h', k⟩ := K h2 g2
  have x0 := hS.h0
  obtain ⟨f3, m0⟩ := hS.h3
  refine ⟨h', ?_⟩
  refine Rn.steps 5 rfl ?_
  refine Rn.ialdN (m := i + 1) rfl rfl x0 (nI_1 i) (by omega) (by omega) ?_
  refine Rn.callO rfl rfl rfl m0 rfl rfl rfl rfl rfl rfl b1 ?_
  refine Rn.steps 5 rfl ?_
  refine Rn.ialdN (m := i + 1) rfl rfl x1 (nI_1 i) (by omega) (by omega) ?_
  refine Rn.callO rfl rfl rfl m1 rfl rfl rfl rfl rfl rfl b2 ?_
  refine Rn.br 1 rfl (fun hc409 => ?_) (fun hc409 => ?_)
  · exact k
  · exact (hc409 rfl).elim
theorem l_10 (hL : L ≤ 1536) (hi : i + 3 ≤ L) (hB : B ≤ 800000) (hS : SG (.inl (0, L, .inl xs)) B h) (K : ∀ h2, SG (.inl (0, L, .inl xs)) (B + 28) h2 → ∃ h', Rn 9 155 676 [(0, .ref 0), (1, .ref 3), (2, .ref 139), (3, .int (nI i))] [] h2 147 (some (.int 1)) h' 147) : ∃ h', Rn 9 155 414 [(0, .ref 0), (1, .ref 3), (2, .ref 139), (3, .int (nI i))] [] h 147 (some (.int 1)) h' 147 := by
  obtain ⟨v, h1, h2, b1, b2, g2, x1, fs, m1⟩ := s_count hS (xs (i + 1))
  obtain ⟨h', k⟩ := K h2 g2
  have x0 := hS.h0
  obtain ⟨f3, m0⟩ := hS.h3
  refine ⟨h', ?_⟩
  refine Rn.steps 5 rfl ?_
  refine Rn.ialdN (m := i + 1) rfl rfl x0 (nI_1 i) (by omega) (by omega) ?_
  refine Rn.callO rfl rfl rfl m0 rfl rfl rfl rfl rfl rfl b1 ?_
  refine Rn.steps 5 rfl ?_
  refine Rn.ialdN (m := i + 1) rfl rfl x1 (nI_1 i) (by omega) (by omega) ?_
  refine Rn.callO rfl rfl rfl m1 rfl rfl rfl rfl rfl rfl b2 ?_
  refine Rn.br 1 rfl (fun hc432 => ?_) (fun hc432 => ?_)
  · exact k
  · exact (hc432 rfl).elim
theorem l_11 (hL : L ≤ 1536) (hi : i + 3 ≤ L) (hB : B ≤ 800000) (hS : SG (.inl (0, L, .inl xs)) B h) (K : ∀ h2, SG (.inl (0, L, .inl xs)) (B + 28) h2 → ∃ h', Rn 9 155 676 [(0, .ref 0), (1, .ref 3), (2, .ref 139), (3, .int (nI i))] [] h2 147 (some (.int 1)) h' 147) : ∃ h', Rn 9 155 437 [(0, .ref 0), (1, .ref 3), (2, .ref 139), (3, .int (nI i))] [] h 147 (some (.int 1)) h' 147 := by
  obtain ⟨v, h1, h2, b1, b2, g2, x1, fs, m1⟩ := s_why hS
  obtain ⟨h', k⟩ := K h2 g2
  have x0 := hS.h0
  obtain ⟨f3, m0⟩ := hS.h3
  refine ⟨h', ?_⟩
  refine Rn.steps 1 rfl ?_
  refine Rn.callO rfl rfl rfl m0 rfl rfl rfl rfl rfl rfl b1 ?_
  refine Rn.steps 1 rfl ?_
  refine Rn.callO rfl rfl rfl m1 rfl rfl rfl rfl rfl rfl b2 ?_
  refine Rn.br 1 rfl (fun hc445 => ?_) (fun hc445 => ?_)
  · exact k
  · exact (hc445 rfl).elim
theorem l_12 (hL : L ≤ 1536) (hi : i + 3 ≤ L) (hB : B ≤ 800000) (hS : SG (.inl (0, L, .inl xs)) B h) (K : ∀ h2, SG (.inl (0, L, .inl xs)) (B + 28) h2 → ∃ h', Rn 9 155 676 [(0, .ref 0), (1, .ref 3), (2, .ref 139), (3, .int (nI i))] [] h2 147 (some (.int 1)) h' 147) : ∃ h', Rn 9 155 450 [(0, .ref 0), (1, .ref 3), (2, .ref 139), (3, .int (nI i))] [] h 147 (some (.int 1)) h' 147 := by
  obtain ⟨v, h1, h2, b1, b2, g2, x1, fs, m1⟩ := s_meeting hS (xs (i + 1))
  obtain ⟨h', k⟩ := K h2 g2
  have x0 := hS.h0
  obtain ⟨f3, m0⟩ := hS.h3
  refine ⟨h', ?_⟩
  refine Rn.steps 5 rfl ?_
  refine Rn.ialdN (m := i + 1) rfl rfl x0 (nI_1 i) (by omega) (by omega) ?_
  refine Rn.callO rfl rfl rfl m0 rfl rfl rfl rfl rfl rfl b1 ?_
  refine Rn.steps 5 rfl ?_
  refine Rn.ialdN (m := i + 1) rfl rfl x1 (nI_1 i) (by omega) (by omega) ?_
  refine Rn.callO rfl rfl rfl m1 rfl rfl rfl rfl rfl rfl b2 ?_
  refine Rn.br 1 rfl (fun hc468 => ?_) (fun hc468 => ?_)
  · exact k
  · exact (hc468 rfl).elim
theorem l_13 (hL : L ≤ 1536) (hi : i + 3 ≤ L) (hB : B ≤ 800000) (hS : SG (.inl (0, L, .inl xs)) B h) (K : ∀ h2, SG (.inl (0, L, .inl xs)) (B + 28) h2 → ∃ h', Rn 9 155 676 [(0, .ref 0), (1, .ref 3), (2, .ref 139), (3, .int (nI i))] [] h2 147 (some (.int 1)) h' 147) : ∃ h', Rn 9 155 473 [(0, .ref 0), (1, .ref 3), (2, .ref 139), (3, .int (nI i))] [] h 147 (some (.int 1)) h' 147 := by
  obtain ⟨v, h1, h2, b1, b2, g2, x1, fs, m1⟩ := s_free hS
  obtain ⟨h', k⟩ := K h2 g2
  have x0 := hS.h0
  obtain ⟨f3, m0⟩ := hS.h3
  refine ⟨h', ?_⟩
  refine Rn.steps 1 rfl ?_
  refine Rn.callO rfl rfl rfl m0 rfl rfl rfl rfl rfl rfl b1 ?_
  refine Rn.steps 1 rfl ?_
  refine Rn.callO rfl rfl rfl m1 rfl rfl rfl rfl rfl rfl b2 ?_
  refine Rn.br 1 rfl (fun hc481 => ?_) (fun hc481 => ?_)
  · exact k
  · exact (hc481 rfl).elim
theorem l_14 (hL : L ≤ 1536) (hi : i + 3 ≤ L) (hB : B ≤ 800000) (hS : SG (.inl (0, L, .inl xs)) B h) (K : ∀ h2, SG (.inl (0, L, .inl xs)) (B + 28) h2 → ∃ h', Rn 9 155 676 [(0, .ref 0), (1, .ref 3), (2, .ref 139), (3, .int (nI i))] [] h2 147 (some (.int 1)) h' 147) : ∃ h', Rn 9 155 486 [(0, .ref 0), (1, .ref 3), (2, .ref 139), (3, .int (nI i))] [] h 147 (some (.int 1)) h' 147 := by
  obtain ⟨v, h1, h2, b1, b2, g2, x1, fs, m1⟩ := s_ffree hS
  obtain ⟨h', k⟩ := K h2 g2
  have x0 := hS.h0
  obtain ⟨f3, m0⟩ := hS.h3
  refine ⟨h', ?_⟩
  refine Rn.steps 1 rfl ?_
  refine Rn.callO rfl rfl rfl m0 rfl rfl rfl rfl rfl rfl b1 ?_
  refine Rn.steps 1 rfl ?_
  refine Rn.callO rfl rfl rfl m1 rfl rfl rfl rfl rfl rfl b2 ?_
  refine Rn.br 1 rfl (fun hc494 => ?_) (fun hc494 => ?_)
  · exact k
  · exact (hc494 rfl).elim
theorem l_15 (hL : L ≤ 1536) (hi : i + 3 ≤ L) (hB : B ≤ 800000) (hS : SG (.inl (0, L, .inl xs)) B h) (K : ∀ h2, SG (.inl (0, L, .inl xs)) (B + 28) h2 → ∃ h', Rn 9 155 676 [(0, .ref 0), (1, .ref 3), (2, .ref 139), (3, .int (nI i))] [] h2 147 (some (.int 1)) h' 147) : ∃ h', Rn 9 155 499 [(0, .ref 0), (1, .ref 3), (2, .ref 139), (3, .int (nI i))] [] h 147 (some (.int 1)) h' 147 := by
  obtain ⟨v, h1, h2, b1, b2, g2, x1, fs, m1⟩ := s_period hS
  obtain ⟨h', k⟩ := K h2 g2
  have x0 := hS.h0
  obtain ⟨f3, m0⟩ := hS.h3
  refine ⟨h', ?_⟩
  refine Rn.steps 1 rfl ?_
  refine Rn.callO rfl rfl rfl m0 rfl rfl rfl rfl rfl rfl b1 ?_
  refine Rn.steps 1 rfl ?_
  refine Rn.callO rfl rfl rfl m1 rfl rfl rfl rfl rfl rfl b2 ?_
  refine Rn.br 1 rfl (fun hc507 => ?_) (fun hc507 => ?_)
  · exact k
  · exact (hc507 rfl).elim
theorem l_16 (hL : L ≤ 1536) (hi : i + 3 ≤ L) (hB : B ≤ 800000) (hS : SG (.inl (0, L, .inl xs)) B h) (K : ∀ h2, SG (.inl (0, L, .inl xs)) (B + 28) h2 → ∃ h', Rn 9 155 676 [(0, .ref 0), (1, .ref 3), (2, .ref 139), (3, .int (nI i))] [] h2 147 (some (.int 1)) h' 147) : ∃ h', Rn 9 155 512 [(0, .ref 0), (1, .ref 3), (2, .ref 139), (3, .int (nI i))] [] h 147 (some (.int 1)) h' 147 := by
  obtain ⟨v, h1, h2, b1, b2, g2, x1, fs, m1⟩ := s_lasts hS
  obtain ⟨h', k⟩ := K h2 g2
  have x0 := hS.h0
  obtain ⟨f3, m0⟩ := hS.h3
  refine ⟨h', ?_⟩
  refine Rn.steps 1 rfl ?_
  refine Rn.callO rfl rfl rfl m0 rfl rfl rfl rfl rfl rfl b1 ?_
  refine Rn.steps 1 rfl ?_
  refine Rn.callO rfl rfl rfl m1 rfl rfl rfl rfl rfl rfl b2 ?_
  refine Rn.br 1 rfl (fun hc520 => ?_) (fun hc520 => ?_)
  · exact k
  · exact (hc520 rfl).elim
theorem l_17 (hL : L ≤ 1536) (hi : i + 3 ≤ L) (hB : B ≤ 800000) (hS : SG (.inl (0, L, .inl xs)) B h) (K : ∀ h2, SG (.inl (0, L, .inl xs)) (B + 28) h2 → ∃ h', Rn 9 155 676 [(0, .ref 0), (1, .ref 3), (2, .ref 139), (3, .int (nI i))] [] h2 147 (some (.int 1)) h' 147) : ∃ h', Rn 9 155 525 [(0, .ref 0), (1, .ref 3), (2, .ref 139), (3, .int (nI i))] [] h 147 (some (.int 1)) h' 147 := by
  obtain ⟨v, h1, h2, b1, b2, g2, x1, fs, m1⟩ := s_put hS (lPut (xs (i + 1)) (xs (i + 2)))
  obtain ⟨h', k⟩ := K h2 g2
  have x0 := hS.h0
  obtain ⟨f3, m0⟩ := hS.h3
  refine ⟨h', ?_⟩
  refine Rn.steps 5 rfl ?_
  refine Rn.ialdN (m := i + 1) rfl rfl x0 (nI_1 i) (by omega) (by omega) ?_
  refine Rn.steps 7 rfl ?_
  refine Rn.ialdN (m := i + 2) rfl rfl x0 (nI_add i 2) (by omega) (by omega) ?_
  refine Rn.steps 4 rfl ?_
  refine Rn.callO rfl rfl rfl m0 rfl rfl rfl rfl rfl rfl b1 ?_
  refine Rn.steps 5 rfl ?_
  refine Rn.ialdN (m := i + 1) rfl rfl x1 (nI_1 i) (by omega) (by omega) ?_
  refine Rn.steps 7 rfl ?_
  refine Rn.ialdN (m := i + 2) rfl rfl x1 (nI_add i 2) (by omega) (by omega) ?_
  refine Rn.steps 4 rfl ?_
  refine Rn.callO rfl rfl rfl m1 rfl rfl rfl rfl rfl rfl b2 ?_
  refine Rn.br 1 rfl (fun hc573 => ?_) (fun hc573 => ?_)
  · exact k
  · exact (hc573 rfl).elim
theorem l_18 (hL : L ≤ 1536) (hi : i + 3 ≤ L) (hB : B ≤ 800000) (hS : SG (.inl (0, L, .inl xs)) B h) (K : ∀ h2, SG (.inl (0, L, .inl xs)) (B + 28) h2 → ∃ h', Rn 9 155 676 [(0, .ref 0), (1, .ref 3), (2, .ref 139), (3, .int (nI i))] [] h2 147 (some (.int 1)) h' 147) : ∃ h', Rn 9 155 578 [(0, .ref 0), (1, .ref 3), (2, .ref 139), (3, .int (nI i))] [] h 147 (some (.int 1)) h' 147 := by
  obtain ⟨v, h1, h2, b1, b2, g2, x1, fs, m1⟩ := s_wipe hS
  obtain ⟨h', k⟩ := K h2 g2
  have x0 := hS.h0
  obtain ⟨f3, m0⟩ := hS.h3
  refine ⟨h', ?_⟩
  refine Rn.steps 1 rfl ?_
  refine Rn.callO rfl rfl rfl m0 rfl rfl rfl rfl rfl rfl b1 ?_
  refine Rn.steps 1 rfl ?_
  refine Rn.callO rfl rfl rfl m1 rfl rfl rfl rfl rfl rfl b2 ?_
  refine Rn.br 1 rfl (fun hc586 => ?_) (fun hc586 => ?_)
  · exact k
  · exact (hc586 rfl).elim
theorem l_19 (hL : L ≤ 1536) (hi : i + 3 ≤ L) (hB : B ≤ 800000) (hS : SG (.inl (0, L, .inl xs)) B h) (K : ∀ h2, SG (.inl (0, L, .inl xs)) (B + 28) h2 → ∃ h', Rn 9 155 676 [(0, .ref 0), (1, .ref 3), (2, .ref 139), (3, .int (nI i))] [] h2 147 (some (.int 1)) h' 147) : ∃ h', Rn 9 155 591 [(0, .ref 0), (1, .ref 3), (2, .ref 139), (3, .int (nI i))] [] h 147 (some (.int 1)) h' 147 := by
  obtain ⟨v, h1, h2, b1, b2, g2, x1, fs, m1⟩ := s_fault hS
  obtain ⟨h', k⟩ := K h2 g2
  have x0 := hS.h0
  obtain ⟨f3, m0⟩ := hS.h3
  refine ⟨h', ?_⟩
  refine Rn.steps 1 rfl ?_
  refine Rn.callO rfl rfl rfl m0 rfl rfl rfl rfl rfl rfl b1 ?_
  refine Rn.steps 1 rfl ?_
  refine Rn.callO rfl rfl rfl m1 rfl rfl rfl rfl rfl rfl b2 ?_
  refine Rn.br 1 rfl (fun hc599 => ?_) (fun hc599 => ?_)
  · exact k
  · exact (hc599 rfl).elim
theorem l_20 (hL : L ≤ 1536) (hi : i + 3 ≤ L) (hB : B ≤ 800000) (hS : SG (.inl (0, L, .inl xs)) B h) (K : ∀ h2, SG (.inl (0, L, .inl xs)) (B + 28) h2 → ∃ h', Rn 9 155 676 [(0, .ref 0), (1, .ref 3), (2, .ref 139), (3, .int (nI i))] [] h2 147 (some (.int 1)) h' 147) : ∃ h', Rn 9 155 604 [(0, .ref 0), (1, .ref 3), (2, .ref 139), (3, .int (nI i))] [] h 147 (some (.int 1)) h' 147 := by
  obtain ⟨v, h1, h2, b1, b2, g2, x1, fs, m1⟩ := s_carryOut hS (by omega)
  obtain ⟨h', k⟩ := K h2 g2
  have x0 := hS.h0
  obtain ⟨f3, m0⟩ := hS.h3
  refine ⟨h', ?_⟩
  refine Rn.steps 1 rfl ?_
  refine Rn.callO rfl rfl rfl m0 rfl rfl rfl rfl rfl rfl b1 ?_
  refine Rn.steps 1 rfl ?_
  refine Rn.callO rfl rfl rfl m1 rfl rfl rfl rfl rfl rfl b2 ?_
  refine Rn.br 1 rfl (fun hc612 => ?_) (fun hc612 => ?_)
  · exact k
  · exact (hc612 rfl).elim
theorem l_21 (hL : L ≤ 1536) (hi : i + 3 ≤ L) (hB : B ≤ 800000) (hS : SG (.inl (0, L, .inl xs)) B h) (K : ∀ h2, SG (.inl (0, L, .inl xs)) (B + 28) h2 → ∃ h', Rn 9 155 676 [(0, .ref 0), (1, .ref 3), (2, .ref 139), (3, .int (nI i))] [] h2 147 (some (.int 1)) h' 147) : ∃ h', Rn 9 155 617 [(0, .ref 0), (1, .ref 3), (2, .ref 139), (3, .int (nI i))] [] h 147 (some (.int 1)) h' 147 := by
  obtain ⟨v, h1, h2, b1, b2, g2, x1, fs, m1⟩ := s_undo hS
  obtain ⟨h', k⟩ := K h2 g2
  have x0 := hS.h0
  obtain ⟨f3, m0⟩ := hS.h3
  refine ⟨h', ?_⟩
  refine Rn.steps 1 rfl ?_
  refine Rn.callO rfl rfl rfl m0 rfl rfl rfl rfl rfl rfl b1 ?_
  refine Rn.steps 1 rfl ?_
  refine Rn.callO rfl rfl rfl m1 rfl rfl rfl rfl rfl rfl b2 ?_
  refine Rn.br 1 rfl (fun hc625 => ?_) (fun hc625 => ?_)
  · exact k
  · exact (hc625 rfl).elim
theorem l_22 (hL : L ≤ 1536) (hi : i + 3 ≤ L) (hB : B ≤ 800000) (hS : SG (.inl (0, L, .inl xs)) B h) (K : ∀ h2, SG (.inl (0, L, .inl xs)) (B + 28) h2 → ∃ h', Rn 9 155 676 [(0, .ref 0), (1, .ref 3), (2, .ref 139), (3, .int (nI i))] [] h2 147 (some (.int 1)) h' 147) : ∃ h', Rn 9 155 630 [(0, .ref 0), (1, .ref 3), (2, .ref 139), (3, .int (nI i))] [] h 147 (some (.int 1)) h' 147 := by
  obtain ⟨v, h1, h2, b1, b2, g2, x1, fs, m1⟩ := s_save hS (xs (i + 1))
  obtain ⟨h', k⟩ := K h2 g2
  have x0 := hS.h0
  obtain ⟨f3, m0⟩ := hS.h3
  refine ⟨h', ?_⟩
  refine Rn.steps 5 rfl ?_
  refine Rn.ialdN (m := i + 1) rfl rfl x0 (nI_1 i) (by omega) (by omega) ?_
  refine Rn.callO rfl rfl rfl m0 rfl rfl rfl rfl rfl rfl b1 ?_
  refine Rn.steps 5 rfl ?_
  refine Rn.ialdN (m := i + 1) rfl rfl x1 (nI_1 i) (by omega) (by omega) ?_
  refine Rn.callO rfl rfl rfl m1 rfl rfl rfl rfl rfl rfl b2 ?_
  refine Rn.br 1 rfl (fun hc648 => ?_) (fun hc648 => ?_)
  · exact k
  · exact (hc648 rfl).elim
theorem l_23 (hL : L ≤ 1536) (hi : i + 3 ≤ L) (hB : B ≤ 800000) (hS : SG (.inl (0, L, .inl xs)) B h) (K : ∀ h2, SG (.inl (0, L, .inl xs)) (B + 28) h2 → ∃ h', Rn 9 155 676 [(0, .ref 0), (1, .ref 3), (2, .ref 139), (3, .int (nI i))] [] h2 147 (some (.int 1)) h' 147) : ∃ h', Rn 9 155 653 [(0, .ref 0), (1, .ref 3), (2, .ref 139), (3, .int (nI i))] [] h 147 (some (.int 1)) h' 147 := by
  obtain ⟨v, h1, h2, b1, b2, g2, x1, fs, m1⟩ := s_restore hS (xs (i + 1))
  obtain ⟨h', k⟩ := K h2 g2
  have x0 := hS.h0
  obtain ⟨f3, m0⟩ := hS.h3
  refine ⟨h', ?_⟩
  refine Rn.steps 5 rfl ?_
  refine Rn.ialdN (m := i + 1) rfl rfl x0 (nI_1 i) (by omega) (by omega) ?_
  refine Rn.callO rfl rfl rfl m0 rfl rfl rfl rfl rfl rfl b1 ?_
  refine Rn.steps 5 rfl ?_
  refine Rn.ialdN (m := i + 1) rfl rfl x1 (nI_1 i) (by omega) (by omega) ?_
  refine Rn.callO rfl rfl rfl m1 rfl rfl rfl rfl rfl rfl b2 ?_
  refine Rn.br 1 rfl (fun hc671 => ?_) (fun hc671 => ?_)
  · exact k
  · exact (hc671 rfl).elim
theorem l_go (hL : L ≤ 1536) (hi : i + 3 ≤ L) (hB : B ≤ 800000) (hS : SG (.inl (0, L, .inl xs)) B h) (K : ∀ h2, SG (.inl (0, L, .inl xs)) (B + 28) h2 → ∃ h', Rn 9 155 676 [(0, .ref 0), (1, .ref 3), (2, .ref 139), (3, .int (nI i))] [] h2 147 (some (.int 1)) h' 147) : ∃ h', Rn 9 155 32 [(0, .ref 0), (1, .ref 3), (2, .ref 139), (3, .int (nI i))] [.int (xs i &&& 31)] h 147 (some (.int 1)) h' 147 := by
  obtain ⟨j, j1, j2⟩ := pk_andE (xs i) (m := 31) 5 (by decide)
  rw [j2]
  rcases (by omega : j = 0 ∨ j = 1 ∨ j = 2 ∨ j = 3 ∨ j = 4 ∨ j = 5 ∨ j = 6 ∨ j = 7 ∨ j = 8 ∨ j = 9 ∨ j = 10 ∨ j = 11 ∨ j = 12 ∨ j = 13 ∨ j = 14 ∨ j = 15 ∨ j = 16 ∨ j = 17 ∨ j = 18 ∨ j = 19 ∨ j = 20 ∨ j = 21 ∨ j = 22 ∨ j = 23 ∨ 24 ≤ j) with e | e | e | e | e | e | e | e | e | e | e | e | e | e | e | e | e | e | e | e | e | e | e | e | e
  · subst e
    obtain ⟨h', g⟩ := l_0 hL hi hB hS K
    exact ⟨h', Rn.steps 1 rfl g⟩
  · subst e
    obtain ⟨h', g⟩ := l_1 hL hi hB hS K
    exact ⟨h', Rn.steps 1 rfl g⟩
  · subst e
    obtain ⟨h', g⟩ := l_2 hL hi hB hS K
    exact ⟨h', Rn.steps 1 rfl g⟩
  · subst e
    obtain ⟨h', g⟩ := l_3 hL hi hB hS K
    exact ⟨h', Rn.steps 1 rfl g⟩
  · subst e
    obtain ⟨h', g⟩ := l_4 hL hi hB hS K
    exact ⟨h', Rn.steps 1 rfl g⟩
  · subst e
    obtain ⟨h', g⟩ := l_5 hL hi hB hS K
    exact ⟨h', Rn.steps 1 rfl g⟩
  · subst e
    obtain ⟨h', g⟩ := l_6 hL hi hB hS K
    exact ⟨h', Rn.steps 1 rfl g⟩
  · subst e
    obtain ⟨h', g⟩ := l_7 hL hi hB hS K
    exact ⟨h', Rn.steps 1 rfl g⟩
  · subst e
    obtain ⟨h', g⟩ := l_8 hL hi hB hS K
    exact ⟨h', Rn.steps 1 rfl g⟩
  · subst e
    obtain ⟨h', g⟩ := l_9 hL hi hB hS K
    exact ⟨h', Rn.steps 1 rfl g⟩
  · subst e
    obtain ⟨h', g⟩ := l_10 hL hi hB hS K
    exact ⟨h', Rn.steps 1 rfl g⟩
  · subst e
    obtain ⟨h', g⟩ := l_11 hL hi hB hS K
    exact ⟨h', Rn.steps 1 rfl g⟩
  · subst e
    obtain ⟨h', g⟩ := l_12 hL hi hB hS K
    exact ⟨h', Rn.steps 1 rfl g⟩
  · subst e
    obtain ⟨h', g⟩ := l_13 hL hi hB hS K
    exact ⟨h', Rn.steps 1 rfl g⟩
  · subst e
    obtain ⟨h', g⟩ := l_14 hL hi hB hS K
    exact ⟨h', Rn.steps 1 rfl g⟩
  · subst e
    obtain ⟨h', g⟩ := l_15 hL hi hB hS K
    exact ⟨h', Rn.steps 1 rfl g⟩
  · subst e
    obtain ⟨h', g⟩ := l_16 hL hi hB hS K
    exact ⟨h', Rn.steps 1 rfl g⟩
  · subst e
    obtain ⟨h', g⟩ := l_17 hL hi hB hS K
    exact ⟨h', Rn.steps 1 rfl g⟩
  · subst e
    obtain ⟨h', g⟩ := l_18 hL hi hB hS K
    exact ⟨h', Rn.steps 1 rfl g⟩
  · subst e
    obtain ⟨h', g⟩ := l_19 hL hi hB hS K
    exact ⟨h', Rn.steps 1 rfl g⟩
  · subst e
    obtain ⟨h', g⟩ := l_20 hL hi hB hS K
    exact ⟨h', Rn.steps 1 rfl g⟩
  · subst e
    obtain ⟨h', g⟩ := l_21 hL hi hB hS K
    exact ⟨h', Rn.steps 1 rfl g⟩
  · subst e
    obtain ⟨h', g⟩ := l_22 hL hi hB hS K
    exact ⟨h', Rn.steps 1 rfl g⟩
  · subst e
    obtain ⟨h', g⟩ := l_23 hL hi hB hS K
    exact ⟨h', Rn.steps 1 rfl g⟩
  · obtain ⟨h', g⟩ := K h (hS.le (by omega))
    exact ⟨h', Rn.swOut rfl rfl (Or.inr (by rw [nI_toInt (by omega)]; omega)) 676 rfl g⟩
theorem l_cond {L i : Nat} (hL : L ≤ 1536) (hi : i ≤ 1600) : nI L - 3 < nI i ↔ L < i + 3 := by
  rw [Int32.lt_iff_toInt_lt, show nI L - 3 = nI L - nI 3 from rfl, pk_sub_toInt (by omega) (by omega), nI_toInt (by omega)]
  omega
theorem l_loop (hL : L ≤ 1536) : ∀ m i B h, L < i + 3 * (m + 1) → i ≤ 1600 → B + 28 * m ≤ 800000 → SG (.inl (0, L, .inl xs)) B h → ∃ h', Rn 9 155 18 [(0, .ref 0), (1, .ref 3), (2, .ref 139), (3, .int (nI i))] [] h 147 (some (.int 1)) h' 147 := by
  have hend : ∀ i B h, i ≤ 1600 → L < i + 3 → SG (.inl (0, L, .inl xs)) B h → ∃ h', Rn 9 155 18 [(0, .ref 0), (1, .ref 3), (2, .ref 139), (3, .int (nI i))] [] h 147 (some (.int 1)) h' 147 := by
    intro i B h hi he hS
    have x0 := hS.h0
    refine ⟨h, ?_⟩
    refine Rn.steps 2 rfl ?_
    refine Rn.alen rfl rfl x0 rfl ?_
    refine Rn.br 3 rfl (fun hc23 => ?_) (fun hc23 => ?_)
    · refine Rn.steps 1 rfl ?_
      exact Rn.retE rfl rfl rfl rfl rfl
    · exact (hc23 ((l_cond hL hi).mpr he)).elim
  intro m
  induction m with
  | zero =>
    intro i B h h1 h2 h3 hS
    exact hend i B h h2 (by omega) hS
  | succ m ih =>
    intro i B h h1 h2 h3 hS
    by_cases he : L < i + 3
    · exact hend i B h h2 he hS
    · have x0 := hS.h0
      obtain ⟨h', g⟩ := l_go (B := B) hL (show i + 3 ≤ L by omega) (by omega) hS (fun h2 g2 => by
        obtain ⟨h', k⟩ := ih (i + 3) (B + 28) h2 (by omega) (by omega) (by omega) g2
        exact ⟨h', Rn.steps 2 rfl (Rn.l4 (by decide) rfl rfl rfl (by rw [← nI_add]; rfl) k)⟩)
      refine ⟨h', ?_⟩
      refine Rn.steps 2 rfl ?_
      refine Rn.alen rfl rfl x0 rfl ?_
      refine Rn.br 3 rfl (fun hc23 => ?_) (fun hc23 => ?_)
      · exact (he ((l_cond hL h2).mp hc23)).elim
      · refine Rn.steps 2 rfl ?_
        refine Rn.ialdN (m := i) rfl rfl x0 (rfl) (by omega) (by omega) ?_
        refine Rn.steps 2 rfl ?_
        exact g
theorem pOn_id {p : Nat → Int32} {ln : Int32} {g : xHp} (h1 : g 137 = .inr (1, [.ref 138, .int ln])) (h2 : g 138 = .inl (2, 80, .inl p)) : pOn p ln g = g := by
  funext k
  by_cases e1 : k = 137
  · rw [e1, h1]; rfl
  · by_cases e2 : k = 138
    · rw [e2, h2]; rfl
    · exact pOn_out (by omega)
theorem bO_id {ch : Int32} {R R2 : Nat → Option Nat} {sv : Nat → Int32} {g : xHp} (h3 : g 3 = .inr (3, [.ref 4, .ref 17, .int ch, .ref 109, .ref 136, .ref 137])) (h17 : g 17 = .inl (3, 7, .inr R)) (h109 : g 109 = .inl (3, 2, .inr R2)) (h136 : g 136 = .inl (1, 2, .inl sv)) : bO ch R R2 sv g = g := by
  funext k
  by_cases e1 : k = 3
  · rw [e1, h3]; rfl
  · by_cases e2 : k = 17
    · rw [e2, h17]; rfl
    · by_cases e3 : k = 109
      · rw [e3, h109]; rfl
      · by_cases e4 : k = 136
        · rw [e4, h136]; rfl
        · exact bO_out e1 e2 e3 e4
theorem tOn_id {z s : Nat → Int32} {g : xHp} (h : ∀ o, o ≤ 12 → g (4 + o) = tc 4 z s o) : tOn z s g = g := by
  funext k
  by_cases hk : 4 ≤ k ∧ k ≤ 16
  · obtain ⟨o, ho, e⟩ : ∃ o, o ≤ 12 ∧ k = 4 + o := ⟨k - 4, by omega, by omega⟩
    subst e
    rw [tOn_in ho, h o ho]
  · exact tOn_out (by omega)
theorem z0_gb : GB z0 3 0 := by
  obtain ⟨e1, e2⟩ := z0_v
  refine ⟨⟨rfl, by omega, by omega, fun c hc q => ?_, fun c hc => Or.inl (e2 c hc).2.1, fun c e hc he q => ?_, fun c hc => ⟨0, by omega, (e2 c hc).1⟩, ⟨60, by omega, rfl⟩⟩, ⟨2, by omega, rfl⟩, 0, by omega, rfl⟩
  · rw [e1 c hc] at q; cases q
  · rw [e1 c hc] at q; cases q
theorem sg_init {g : xHp} (H : PO L xs g) : SG (.inl (0, L, .inl xs)) 0 (mOn (va_up A00 0 z0) w00 g) := by
  obtain ⟨⟨a0, a1, a2, a3, a4, a5⟩, ⟨R, r1, r2⟩, ⟨R2, q1, q2⟩, b1, b2, b3⟩ := H
  have e : pOn (fun _ => 0) 0 (bO (nI 0) R R2 (fun _ => 0) (tOn z0 s0z g)) = g := by
    rw [tOn_id a4, bO_id (ch := nI 0) (show g 3 = .inr (3, [.ref 4, .ref 17, .int (nI 0), .ref 109, .ref 136, .ref 137]) from a3) r1 q1 b1, pOn_id b2 b3]
  refine ⟨va_up A00 0 z0, w00, 0, R, R2, fun i => 1 + i, fun _ => z0, fun _ => s0z, s0z, g, 3, 0, ?_, z0_gb, a0, rfl, by omega, fun k hk => ⟨r2 k hk, by show 1 ≤ 1 + k; omega, by show 1 + k ≤ 7; omega⟩, fun k m _ _ q => by have q2 : 1 + k = 1 + m := q; omega, ⟨q2 0 (by omega), q2 1 (by omega)⟩, fun t t1 t2 => a5 t t1 t2, a1, a2, rfl, by omega, fun j => ⟨0, by omega, rfl⟩, fun k hk => absurd hk (Nat.not_lt_zero _), fun t _ h0 => (h0 rfl).elim⟩
  show mOn (va_up A00 0 z0) w00 g = mOn (va_up A00 0 z0) w00 (pOn (fun _ => 0) 0 (bO (nI 0) R R2 (fun _ => 0) (tOn z0 s0z g)))
  rw [e]
theorem law_run (hL : L ≤ 1536) : ∃ h', RC 600000 7302250 9 155 0 [(0, .ref 0)] [] (xh0 L xs) 3 (some (.int 1)) h' 147 := by
  obtain ⟨hc, c1, c2⟩ := i_class (d := 5) L xs
  obtain ⟨h', k⟩ := l_loop (L := L) (xs := xs) hL 512 0 0 _ (by omega) (by omega) (by omega) (sg_init c2)
  refine ⟨h', ?_⟩
  refine RC.step (a := 599999) (b := 7302244) (pc1 := 3) (c1 := 1) (s1 := 6) (h1 := xup (xh0 L xs) 3 (.inr (3, xdef 3))) (n1 := 4) rfl rfl rfl (by omega) (by omega) ?_
  refine RC.steps 1 rfl ?_
  refine RC.call (a1 := 140) (b1 := 1100) (a2 := 500000) (b2 := 7000000) rfl rfl rfl (by omega) (by omega) c1 ?_
  refine RC.steps 1 rfl ?_
  refine RC.step (a := 499999) (b := 6999988) (pc1 := 11) (c1 := 1) (s1 := 12) (h1 := xup hc 139 (.inr (4, xdef 4))) (n1 := 140) rfl rfl rfl (by omega) (by omega) ?_
  refine RC.steps 1 rfl ?_
  refine RC.call (a1 := 7) (b1 := 936) (a2 := 0) (b2 := 0) rfl rfl rfl (by omega) (by omega) (i_model 7 hc) ?_
  refine RC.steps 3 rfl ?_
  exact RC.of (Rn.l4 (by decide) rfl rfl rfl rfl k)
end LAW
