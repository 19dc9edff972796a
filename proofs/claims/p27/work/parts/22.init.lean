/-! runs that make cells: their number and size bounded -/
def RC (a b d i pc : Nat) (ls : xLs) (st : List Value) (h : xHp) (n : Nat) (v : Option Value) (h' : xHp) (n' : Nat) : Prop := ∃ f q sq kc ks, xex f d i pc ls st h n = some (q, sq, v, h', n', kc, ks) ∧ kc ≤ a ∧ ks ≤ b
section RCS
variable {a b a' b' d i pc : Nat} {ls : xLs} {st : List Value} {h h' : xHp} {n n' : Nat} {v : Option Value}
theorem RC.of (kk : Rn d i pc ls st h n v h' n') : RC a b d i pc ls st h n v h' n' := by
  obtain ⟨f, q, sq, hr⟩ := kk
  exact ⟨f, q, sq, 0, 0, hr, Nat.zero_le _, Nat.zero_le _⟩
theorem RC.step {e : xEn} {c1 s1 pc1 : Nat} {ls1 : xLs} {st1 : List Value} {h1 : xHp} {n1 : Nat} (hf : xfind i pc = some e) (hk : xkind e = 2) (hs : xstp d e pc ls st h n = some (pc1, ls1, st1, h1, n1, c1, s1)) (ha : c1 + a ≤ a') (hb : s1 + b ≤ b') (kk : RC a b d i pc1 ls1 st1 h1 n1 v h' n') : RC a' b' d i pc ls st h n v h' n' := by
  obtain ⟨f, q, sq, kc, ks, hr, l1, l2⟩ := kk
  refine ⟨f + 1, q, sq, c1 + kc, s1 + ks, ?_, by omega, by omega⟩
  unfold xex
  simp only [hf, hk, hs, hr]
  rfl
theorem RC.step1 {e : xEn} {pc1 : Nat} {ls1 : xLs} {st1 : List Value} {h1 : xHp} {n1 : Nat} (hf : xfind i pc = some e) (hk : xkind e = 2) (hs : xstp d e pc ls st h n = some (pc1, ls1, st1, h1, n1, 0, 0)) (kk : RC a b d i pc1 ls1 st1 h1 n1 v h' n') : RC a b d i pc ls st h n v h' n' := RC.step hf hk hs (by omega) (by omega) kk
theorem RC.call {e : xEn} {j a1 b1 a2 b2 : Nat} {as r : List Value} {v1 : Option Value} {h1 : xHp} {n1 : Nat} (hf : xfind i pc = some e) (hk : xkind e = 1) (hs : xcall e st h = some (j, as, r)) (ha : a1 + a2 ≤ a) (hb : b1 + b2 ≤ b) (hc : RC a1 b1 d j 0 (lv_args 0 as) [] h n v1 h1 n1) (kk : RC a2 b2 (d + 1) i (pc + 3) ls (v1.toList ++ r) h1 n1 v h' n') : RC a b (d + 1) i pc ls st h n v h' n' := by
  obtain ⟨f1, q1, sq1, kc1, ks1, hr1, l1, l2⟩ := hc
  obtain ⟨f2, q, sq, kc2, ks2, hr, l3, l4⟩ := kk
  refine ⟨max f1 f2 + 1, q, sq, kc1 + kc2, ks1 + ks2, ?_, by omega, by omega⟩
  have e1 := xex_le (Nat.le_max_left f1 f2) hr1
  have e2 := xex_le (Nat.le_max_right f1 f2) hr
  unfold xex
  simp only [hf, hk, hs, e1, e2]
  rfl
theorem RC.locals (ls0 : xLs) (hn : xnk ls0) (hs : ∀ q ∈ ls0, xld ls q.1 = some q.2) (kk : RC a b d i pc ls0 st h n v h' n') : RC a b d i pc ls st h n v h' n' := by
  obtain ⟨f, q, sq, kc, ks, hr, l1, l2⟩ := kk
  exact ⟨f, q, sq, kc, ks, xex_sub f d i pc ls0 ls st h n _ hn (xsub_of hs) hr, l1, l2⟩
theorem RC.heap {h2 : xHp} (e : h = h2) (kk : RC a b d i pc ls st h2 n v h' n') : RC a b d i pc ls st h n v h' n' := e ▸ kk
theorem RC.retE {e : xEn} {v0 : Option Value} (hf : xfind i pc = some e) (hk : xkind e = 0) (hr : xret i e st = some v0) (hv : v0 = v) (hh : h = h') : RC a b d i pc ls st h n v h' n := RC.of (Rn.retE hf hk hr hv hh)
theorem RC.steps : ∀ (k : Nat) {pc : Nat} {ls : xLs} {st : List Value} {h : xHp} {n pc1 : Nat} {ls1 : xLs} {st1 : List Value} {h1 : xHp} {n1 : Nat} (_ : xit d i k pc ls st h n = some (pc1, ls1, st1, h1, n1)) (_ : RC a b d i pc1 ls1 st1 h1 n1 v h' n'), RC a b d i pc ls st h n v h' n' := by
  intro k
  induction k with
  | zero =>
    intro pc ls st h n pc1 ls1 st1 h1 n1 hx kk
    cases hx
    exact kk
  | succ k ih =>
    intro pc ls st h n pc1 ls1 st1 h1 n1 hx kk
    unfold xit at hx
    cases hf : xfind i pc with
    | none => rw [hf] at hx; cases hx
    | some e =>
      rw [hf] at hx
      dsimp only at hx
      cases hk : Nat.beq (xkind e) 2 with
      | false => rw [hk] at hx; cases hx
      | true =>
        rw [hk] at hx
        dsimp only [cond] at hx
        split at hx
        · cases hx
        · next pc2 ls2 st2 h2 n2 kc ks hs =>
          cases hkc : Nat.beq kc 0 with
          | false => rw [hkc] at hx; cases hx
          | true =>
            cases hks : Nat.beq ks 0 with
            | false => rw [hkc, hks] at hx; cases hx
            | true =>
              rw [hkc, hks] at hx
              have e1 : kc = 0 := Nat.eq_of_beq_eq_true hkc
              have e2 : ks = 0 := Nat.eq_of_beq_eq_true hks
              subst e1; subst e2
              exact RC.step1 hf (Nat.eq_of_beq_eq_true hk) hs (ih hx kk)
theorem RC.br (k : Nat) {c : Prop} [Decidable c] {u w : Nat} {ls1 : xLs} {st1 : List Value} {h1 : xHp} {n1 : Nat} (hx : xit d i k pc ls st h n = some (if c then u else w, ls1, st1, h1, n1)) (kt : c → RC a b d i u ls1 st1 h1 n1 v h' n') (kf : ¬ c → RC a b d i w ls1 st1 h1 n1 v h' n') : RC a b d i pc ls st h n v h' n' := by
  refine RC.steps k hx ?_
  by_cases hc : c
  · rw [if_pos hc]; exact kt hc
  · rw [if_neg hc]; exact kf hc
theorem RC.l1 (u : Nat) (x : Value) (h1 : xld ls u = some x) (kk : RC a b d i pc [(u, x)] st h n v h' n') : RC a b d i pc ls st h n v h' n' := RC.locals [(u, x)] (by simp [xnk]) (by intro q hq; rw [List.mem_singleton.mp hq]; exact h1) kk
theorem RC.l2 {u w : Nat} {x y : Value} (hab : Nat.beq u w = false) (h1 : xld ls u = some x) (h2 : xld ls w = some y) (kk : RC a b d i pc [(u, x), (w, y)] st h n v h' n') : RC a b d i pc ls st h n v h' n' := RC.locals [(u, x), (w, y)] (by have := Nat.ne_of_beq_eq_false hab; simp [xnk, this]) (by intro q hq; simp only [List.mem_cons, List.not_mem_nil, or_false] at hq; rcases hq with rfl | rfl <;> assumption) kk
theorem RC.iastN {e : xEn} {k len m : Nat} {f : Nat → Int32} {j x : Int32} {r : List Value} (hf : xfind i pc = some e) (he : e.1 = .iastore) (hk : h k = .inl (0, len, .inl f)) (h3 : Nat.ble 3 k = true) (hj : j = nI m) (hm : m < len) (hl : len < 2 ^ 31) (kk : RC a b d i (pc + 1) ls r (xup h k (.inl (0, len, .inl (upd f m x)))) n v h' n') : RC a b d i pc ls (.int x :: .int j :: .ref k :: r) h n v h' n' := by
  obtain ⟨ins, e2⟩ := e
  dsimp only at he
  subst he
  refine RC.step1 hf rfl ?_ kk
  subst hj
  show xcI (h k) _ = _
  rw [hk]
  show xgd (Nat.ble 3 k) (xgd true (xgp (¬ (nI m < 0 ∨ len ≤ (nI m).toNatClampNeg)) _)) = _
  rw [xgp_pos (xin_nI hm hl), nI_clamp (Nat.lt_trans hm hl), h3]
  rfl
theorem RC.getf {e : xEn} {k : Nat} {fs : List Value} {x : Value} {r : List Value} (hf : xfind i pc = some e) {idx : Nat} (he : e.1 = .getfield idx) (hk : h k = .inr (e.2.2.1, fs)) (hx : fs[e.2.2.2.1]? = some x) (kk : RC a b d i (pc + 3) ls (x :: r) h n v h' n') : RC a b d i pc ls (.ref k :: r) h n v h' n' := by
  obtain ⟨ins, len, r1, r2, v0, ps⟩ := e
  dsimp only at he hk hx
  subst he
  refine RC.step1 hf rfl ?_ kk
  show xcO (h k) _ = _
  rw [hk]
  show xgd (Nat.beq r1 r1) (xgO fs[r2]? _) = _
  rw [hx, Nat.beq_refl]
  rfl
theorem RC.putf {e : xEn} {k : Nat} {fs : List Value} {x : Value} {r : List Value} (hf : xfind i pc = some e) {idx : Nat} (he : e.1 = .putfield idx) (hk : h k = .inr (e.2.2.1, fs)) (hx : fits (xfty e.2.2.1 e.2.2.2.1) x = true) (hl : Nat.blt e.2.2.2.1 fs.length = true) (kk : RC a b d i (pc + 3) ls r (xup h k (.inr (e.2.2.1, fs.set e.2.2.2.1 x))) n v h' n') : RC a b d i pc ls (x :: .ref k :: r) h n v h' n' := by
  obtain ⟨ins, len, r1, r2, v0, ps⟩ := e
  dsimp only at he hk hx hl
  subst he
  refine RC.step1 hf rfl ?_ kk
  show xcO (h k) _ = _
  rw [hk]
  show xgd (Nat.beq r1 r1) (xgd (fits (xfty r1 r2) x) (xgd (Nat.blt r2 fs.length) _)) = _
  rw [hx, hl, Nat.beq_refl]
  rfl
theorem RC.alen {e : xEn} {k t len : Nat} {c : (Nat → Int32) ⊕ (Nat → Option Nat)} {r : List Value} (hf : xfind i pc = some e) (he : e.1 = .arraylength) (hk : h k = .inl (t, len, c)) (ht : Nat.ble t 4 = true) (kk : RC a b d i (pc + 1) ls (.int (Int32.ofNat len) :: r) h n v h' n') : RC a b d i pc ls (.ref k :: r) h n v h' n' := by
  obtain ⟨ins, e2⟩ := e
  dsimp only at he
  subst he
  refine RC.step1 hf rfl ?_ kk
  show xcN (h k) _ = _
  rw [hk]
  show xgd (Nat.ble t 4) _ = _
  rw [ht]
  rfl
theorem RC.aastN {e : xEn} {k t len m y ci : Nat} {f : Nat → Option Nat} {fs : List Value} {j : Int32} {r : List Value} (hf : xfind i pc = some e) (he : e.1 = .aastore) (hk : h k = .inl (t, len, .inr f)) (hb : h y = .inr (ci, fs)) (ht : ((Nat.beq t 3 && Nat.beq ci 2) || (Nat.beq t 4 && Nat.beq ci 0)) = true) (hj : j = nI m) (hm : m < len) (hl : len < 2 ^ 31) (kk : RC a b d i (pc + 1) ls r (xup h k (.inl (t, len, .inr (va_up f m (some y))))) n v h' n') : RC a b d i pc ls (.ref y :: .int j :: .ref k :: r) h n v h' n' := by
  obtain ⟨ins, e2⟩ := e
  dsimp only at he
  subst he
  refine RC.step1 hf rfl ?_ kk
  subst hj
  show xcQ (h k) _ = _
  rw [hk]
  show xcO (h y) _ = _
  rw [hb]
  show xgd ((Nat.beq t 3 && Nat.beq ci 2) || (Nat.beq t 4 && Nat.beq ci 0)) (xgp (¬ (nI m < 0 ∨ len ≤ (nI m).toNatClampNeg)) _) = _
  rw [xgp_pos (xin_nI hm hl), nI_clamp (Nat.lt_trans hm hl), ht]
  rfl
end RCS
/-- what a new track holds -/
def iz : Nat → Nat → Int32 | 0 => upd (upd (upd (fun _ => 0) 0 3) 1 2) 2 60 | c + 1 => upd (iz c) (10 + 7 * c + 0) (-6)
def z0 : Nat → Int32 := iz 10
def s0z : Nat → Int32 := fun _ => 0
theorem z0_v : (∀ c, c < 10 → zt z0 c = false) ∧ (∀ c, c < 10 → z0 (10 + 7 * c + 1) = 0 ∧ z0 (10 + 7 * c + 2) = 0 ∧ z0 (10 + 7 * c + 3) = 0 ∧ z0 (10 + 7 * c + 4) = 0 ∧ z0 (10 + 7 * c + 5) = 0) := by decide +kernel
theorem z0_cf {c : Nat} (hc : c < 10) : cf z0 s0z c = xdef 0 := by
  obtain ⟨e1, e2, e3, e4, e5⟩ := z0_v.2 c hc
  unfold cf
  rw [z0_v.1 c hc, e1, e2, e3, e4, e5]
  rfl
theorem z0_s3 : upd (upd (upd (fun _ => 0) 0 3) 1 2) 2 60 = s3 z0 := by
  funext k
  match k with
  | 0 => rfl
  | 1 => rfl
  | 2 => rfl
  | k + 3 =>
    show _ = cond (Nat.blt (k + 3) 3) (z0 (k + 3)) 0
    rw [show Nat.blt (k + 3) 3 = false from ble_no (by omega), upd_ne (by omega), upd_ne (by omega), upd_ne (by omega)]
    rfl
/-- a track being made: so many carriers -/
def hT (y c : Nat) (h : xHp) : xHp := fun k => if k = y then .inr (2, [.ref (y + 1), .ref (y + 2), .int 0, .int 0, .int 0, .int 0, .int 0, .int 0, .int 0]) else if k = y + 1 then .inl (0, 3, .inl (s3 z0)) else if k = y + 2 then .inl (4, 10, .inr (fun i => if i < c then some (y + 3 + i) else none)) else if y + 3 ≤ k ∧ k < y + 3 + c then .inr (0, xdef 0) else h k
theorem hT_s {y c : Nat} {h : xHp} : xup (xup (hT y c h) (y + 3 + c) (.inr (0, xdef 0))) (y + 2) (.inl (4, 10, .inr (va_up (fun i => if i < c then some (y + 3 + i) else none) c (some (y + 3 + c))))) = hT y (c + 1) h := by
  funext k
  unfold xup hT
  by_cases h2 : k = y + 2
  · rw [if_pos h2, if_neg (by omega), if_neg (by omega), if_pos h2]
    refine congrArg (fun f => (Sum.inl (4, 10, Sum.inr f) : xLC)) ?_
    funext i
    unfold va_up
    by_cases g : i = c
    · rw [if_pos g, if_pos (by omega), g]
    · rw [if_neg g]
      show (if i < c then some (y + 3 + i) else none) = _
      by_cases g2 : i < c
      · rw [if_pos g2, if_pos (by omega)]
      · rw [if_neg g2, if_neg (by omega)]
  · rw [if_neg h2]
    by_cases h3 : k = y + 3 + c
    · rw [if_pos h3, if_neg (by omega), if_neg (by omega), if_neg h2, if_pos (by omega)]
    · rw [if_neg h3]
      by_cases h0 : k = y
      · rw [if_pos h0, if_pos h0]
      · rw [if_neg h0, if_neg h0]
        by_cases h1 : k = y + 1
        · rw [if_pos h1, if_pos h1]
        · rw [if_neg h1, if_neg h1, if_neg h2, if_neg h2]
          by_cases h4 : y + 3 ≤ k ∧ k < y + 3 + c
          · rw [if_pos h4, if_pos (by omega)]
          · rw [if_neg h4, if_neg (by omega)]
theorem hT_e {y : Nat} {h : xHp} : hT y 10 h = tAt y z0 s0z h := by
  funext k
  unfold hT tAt
  by_cases h0 : k = y
  · rw [if_pos h0, if_pos (by omega), h0, Nat.sub_self]
    rfl
  · rw [if_neg h0]
    by_cases h1 : k = y + 1
    · rw [if_pos h1, if_pos (by omega), h1, show y + 1 - y = 1 by omega]
      rfl
    · rw [if_neg h1]
      by_cases h2 : k = y + 2
      · rw [if_pos h2, if_pos (by omega), h2, show y + 2 - y = 2 by omega]
        show _ = Sum.inl (4, 10, Sum.inr (fun i => cond (Nat.blt i 10) (some (y + 3 + i)) none))
        refine congrArg (fun f => (Sum.inl (4, 10, Sum.inr f) : xLC)) ?_
        funext i
        by_cases g : i < 10
        · rw [if_pos g, show Nat.blt i 10 = true from Nat.ble_eq_true_of_le g]; rfl
        · rw [if_neg g, show Nat.blt i 10 = false from ble_no (by omega)]; rfl
      · rw [if_neg h2]
        by_cases h4 : y + 3 ≤ k ∧ k < y + 3 + 10
        · obtain ⟨c, hc, e⟩ : ∃ c, c < 10 ∧ k = y + (3 + c) := ⟨k - y - 3, by omega, by omega⟩
          rw [if_pos h4, if_pos (by omega), e, show y + (3 + c) - y = 3 + c by omega, tc_car, z0_cf hc]
        · rw [if_neg h4, if_neg (by omega)]
section INIT
variable {d n : Nat} {h : xHp}
theorem i_car (y : Nat) : Rn (d + 1) 0 0 [(0, .ref y)] [] h n none h n := by
  refine Rn.steps 2 rfl ?_
  exact Rn.retE rfl rfl rfl rfl rfl
theorem i_track (y : Nat) (hy : 3 ≤ y) (h0 : h y = .inr (2, xdef 2)) : RC 12 83 (d + 2) 32 0 [(0, .ref y)] [] h (y + 1) none (tAt y z0 s0z h) (y + 13) := by
  refine RC.steps 4 rfl ?_
  refine RC.step (a := 11) (b := 80) (pc1 := 8) (c1 := 1) (s1 := 3) (h1 := xup h (y + 1) (.inl (0, 3, .inl (fun _ => 0)))) (n1 := y + 2) rfl rfl rfl (by omega) (by omega) ?_
  refine RC.steps 3 rfl ?_
  refine RC.iastN (m := 0) (len := 3) (f := fun _ => 0) rfl rfl xup_same (Nat.ble_eq_true_of_le (by omega)) rfl (by omega) (Nat.le_of_ble_eq_true rfl) ?_
  rw [xup_xup]
  refine RC.steps 3 rfl ?_
  refine RC.iastN (m := 1) (len := 3) (f := upd (fun _ => 0) 0 3) rfl rfl xup_same (Nat.ble_eq_true_of_le (by omega)) rfl (by omega) (Nat.le_of_ble_eq_true rfl) ?_
  rw [xup_xup]
  refine RC.steps 3 rfl ?_
  refine RC.iastN (m := 2) (len := 3) (f := upd (upd (fun _ => 0) 0 3) 1 2) rfl rfl xup_same (Nat.ble_eq_true_of_le (by omega)) rfl (by omega) (Nat.le_of_ble_eq_true rfl) ?_
  rw [xup_xup, z0_s3]
  refine RC.putf rfl rfl (fs := xdef 2) ((xup_ne (by omega)).trans h0) rfl rfl ?_
  refine RC.steps 2 rfl ?_
  refine RC.step (a := 10) (b := 70) (pc1 := 30) (c1 := 1) (s1 := 10) (h1 := xup (xup (xup h (y + 1) (.inl (0, 3, .inl (s3 z0)))) y (.inr (2, [.ref (y + 1), .null, .int 0, .int 0, .int 0, .int 0, .int 0, .int 0, .int 0]))) (y + 2) (.inl (4, 10, .inr (fun _ => none)))) (n1 := y + 3) rfl rfl rfl (by omega) (by omega) ?_
  refine RC.putf rfl rfl (fs := [.ref (y + 1), .null, .int 0, .int 0, .int 0, .int 0, .int 0, .int 0, .int 0]) ((xup_ne (by omega)).trans xup_same) rfl rfl ?_
  refine RC.heap (h2 := hT y 0 h) ?_ ?_
  · funext k
    unfold hT
    by_cases g0 : k = y
    · rw [if_pos g0, g0]; exact xup_same
    · rw [if_neg g0, xup_ne g0]
      by_cases g2 : k = y + 2
      · rw [if_neg (by omega), if_pos g2, g2]
        refine xup_same.trans ?_
        rfl
      · rw [xup_ne g2, xup_ne g0]
        by_cases g1 : k = y + 1
        · rw [if_pos g1, g1]; exact xup_same
        · rw [if_neg g1, if_neg g2, xup_ne g1, if_neg (by omega)]
  refine RC.steps 2 rfl ?_
  have key : ∀ r c, c + r = 10 → RC r (7 * r) (d + 2) 32 35 [(0, .ref y), (1, .int (nI c))] [] (hT y c h) (y + 3 + c) none (tAt y z0 s0z h) (y + 13) := by
    intro r
    induction r with
    | zero =>
      intro c hc
      have e : c = 10 := by omega
      subst e
      refine RC.steps 2 rfl ?_
      refine RC.getf rfl rfl (fs := [.ref (y + 1), .ref (y + 2), .int 0, .int 0, .int 0, .int 0, .int 0, .int 0, .int 0]) (if_pos rfl) rfl ?_
      refine RC.alen (len := 10) (t := 4) (c := .inr (fun i => if i < 10 then some (y + 3 + i) else none)) rfl rfl (by show hT y 10 h (y + 2) = _; unfold hT; rw [if_neg (by omega), if_neg (by omega), if_pos rfl]) rfl ?_
      refine RC.steps 1 rfl ?_
      exact RC.retE rfl rfl rfl rfl hT_e
    | succ r ih =>
      intro c hc
      have e2 : hT y c h (y + 2) = .inl (4, 10, .inr (fun i => if i < c then some (y + 3 + i) else none)) := by unfold hT; rw [if_neg (by omega), if_neg (by omega), if_pos rfl]
      refine RC.steps 2 rfl ?_
      refine RC.getf rfl rfl (fs := [.ref (y + 1), .ref (y + 2), .int 0, .int 0, .int 0, .int 0, .int 0, .int 0, .int 0]) (if_pos rfl) rfl ?_
      refine RC.alen (len := 10) (t := 4) rfl rfl e2 rfl ?_
      refine RC.br 1 rfl (fun hc41 => ?_) (fun hc41 => ?_)
      · exact (nI_ge (show c < 10 by omega) (by omega) hc41).elim
      refine RC.steps 1 rfl ?_
      refine RC.getf rfl rfl (fs := [.ref (y + 1), .ref (y + 2), .int 0, .int 0, .int 0, .int 0, .int 0, .int 0, .int 0]) (if_pos rfl) rfl ?_
      refine RC.steps 1 rfl ?_
      refine RC.step (a := r) (b := 7 * r) (pc1 := 52) (c1 := 1) (s1 := 7) (h1 := xup (hT y c h) (y + 3 + c) (.inr (0, xdef 0))) (n1 := y + 3 + c + 1) rfl rfl rfl (by omega) (by omega) ?_
      refine RC.steps 1 rfl ?_
      refine RC.call (a1 := 0) (b1 := 0) (a2 := r) (b2 := 7 * r) rfl rfl rfl (by omega) (by omega) (RC.of (i_car (y + 3 + c))) ?_
      refine RC.aastN (m := c) (len := 10) (t := 4) (ci := 0) (fs := xdef 0) rfl rfl ((xup_ne (by omega)).trans e2) xup_same rfl rfl (by omega) (Nat.le_of_ble_eq_true rfl) ?_
      rw [hT_s]
      refine RC.steps 2 rfl ?_
      exact RC.l2 rfl rfl (by rw [← nI_1 c]; rfl) (ih (c + 1) (by omega))
  exact RC.l2 rfl rfl rfl (key 10 0 rfl)
end INIT
theorem bs_lt {t e : Nat} (h1 : 1 ≤ t) (h2 : t < e) (h3 : e < 10) : bs t + 12 < bs e := by
  rcases Nat.lt_or_ge t 8 with h | h <;> rcases Nat.lt_or_ge e 8 with g | g
  · rw [bs_h h1 h, bs_h (by omega) g]; omega
  · rw [bs_h h1 h, bs_s g]; omega
  · omega
  · rw [bs_s h, bs_s g]; omega
def QQ (L : Nat) (xs : Nat → Int32) (fs : List Value) (N : Nat) (h : xHp) : Prop := h 0 = .inl (0, L, .inl xs) ∧ h 1 = .inl (0, 3, .inl xlo) ∧ h 2 = .inl (0, 3, .inl xhi) ∧ h 3 = .inr (3, fs) ∧ (∀ o, o ≤ 12 → h (4 + o) = tc 4 z0 s0z o) ∧ (∀ t, 1 ≤ t → t < N → ∀ o, o ≤ 12 → h (bs t + o) = tc (bs t) z0 s0z o)
def RR (c : Nat) (h : xHp) : Prop := ∃ R, h 17 = .inl (3, 7, .inr R) ∧ ∀ i, i < c → R i = some (bs (1 + i))
def SS (c : Nat) (h : xHp) : Prop := ∃ R, h 109 = .inl (3, 2, .inr R) ∧ ∀ i, i < c → R i = some (bs (8 + i))
theorem QQ.cg {L : Nat} {xs : Nat → Int32} {fs fs' : List Value} {N : Nat} {h h' : xHp} (hN : N ≤ 10) (H : QQ L xs fs N h) (hs : ∀ k, (k < 3 ∨ (4 ≤ k ∧ k ≤ 16) ∨ (18 ≤ k ∧ k ≤ 108) ∨ (110 ≤ k ∧ k ≤ 135)) → h' k = h k) (h3 : h' 3 = .inr (3, fs')) : QQ L xs fs' N h' := by
  obtain ⟨a0, a1, a2, a3, a4, a5⟩ := H
  refine ⟨(hs 0 (by omega)).trans a0, (hs 1 (by omega)).trans a1, (hs 2 (by omega)).trans a2, h3, fun o ho => (hs _ (by omega)).trans (a4 o ho), fun t h1 h2 o ho => (hs _ ?_).trans (a5 t h1 h2 o ho)⟩
  have := bs_in h1 (by omega : t < 10)
  omega
/-- one more track -/
theorem QQ.new {L : Nat} {xs : Nat → Int32} {fs : List Value} {t : Nat} {h : xHp} (h1 : 1 ≤ t) (h2 : t < 10) (H : QQ L xs fs t h) {c : xLC} : QQ L xs fs (t + 1) (tAt (bs t) z0 s0z (xup h (bs t) c)) := by
  have hb := bs_in h1 h2
  obtain ⟨a0, a1, a2, a3, a4, a5⟩ := H
  have hl : ∀ k, k < bs t → tAt (bs t) z0 s0z (xup h (bs t) c) k = h k := by
    intro k hk
    unfold tAt
    rw [if_neg (by omega), xup_ne (by omega)]
  refine ⟨(hl 0 (by omega)).trans a0, (hl 1 (by omega)).trans a1, (hl 2 (by omega)).trans a2, (hl 3 (by omega)).trans a3, fun o ho => (hl _ (by omega)).trans (a4 o ho), fun e e1 e2 o ho => ?_⟩
  by_cases g : e = t
  · subst g; exact tAt_in ho
  · have := bs_lt e1 (show e < t by omega) h2
    exact (hl _ (by omega)).trans (a5 e e1 (by omega) o ho)
theorem tl_lo {y : Nat} {z s : Nat → Int32} {h : xHp} {c : xLC} {k : Nat} (hk : k < y) : tAt y z s (xup h y c) k = h k := by
  unfold tAt
  rw [if_neg (by omega), xup_ne (by omega)]
def PO (L : Nat) (xs : Nat → Int32) (h : xHp) : Prop := QQ L xs [.ref 4, .ref 17, .int 0, .ref 109, .ref 136, .ref 137] 10 h ∧ RR 7 h ∧ SS 2 h ∧ h 136 = .inl (1, 2, .inl (fun _ => 0)) ∧ h 137 = .inr (1, [.ref 138, .int 0]) ∧ h 138 = .inl (2, 80, .inl (fun _ => 0))
section INIT2
variable {d n : Nat} {h : xHp} {L : Nat} {xs : Nat → Int32}
theorem i_pad (y : Nat) (h0 : h y = .inr (1, xdef 1)) : RC 1 80 (d + 1) 19 0 [(0, .ref y)] [] h (y + 1) none (xup (xup h (y + 1) (.inl (2, 80, .inl (fun _ => 0)))) y (.inr (1, [.ref (y + 1), .int 0]))) (y + 2) := by
  refine RC.steps 4 rfl ?_
  refine RC.step (a := 0) (b := 0) (pc1 := 9) (c1 := 1) (s1 := 80) (h1 := xup h (y + 1) (.inl (2, 80, .inl (fun _ => 0)))) (n1 := y + 2) rfl rfl rfl (by omega) (by omega) ?_
  refine RC.putf rfl rfl (fs := xdef 1) ((xup_ne (by omega)).trans h0) rfl rfl ?_
  refine RC.steps 2 rfl ?_
  refine RC.putf rfl rfl (fs := [.ref (y + 1), .int 0]) xup_same rfl rfl ?_
  rw [xup_xup]
  exact RC.retE rfl rfl rfl rfl rfl
theorem i_l1 {a b : Nat} (K : ∀ h, QQ L xs [.ref 4, .ref 17, .int 0, .null, .null, .null] 8 h → RR 7 h → ∃ h', RC a b (d + 3) 58 54 [(0, .ref 3)] [] h 109 none h' 139 ∧ PO L xs h') : ∀ r c h, c + r = 7 → QQ L xs [.ref 4, .ref 17, .int 0, .null, .null, .null] (1 + c) h → RR c h → ∃ h', RC (13 * r + a) (92 * r + b) (d + 3) 58 26 [(0, .ref 3), (1, .int (nI c))] [] h (18 + 13 * c) none h' 139 ∧ PO L xs h' := by
  intro r
  induction r with
  | zero =>
    intro c h hc H hR
    have e : c = 7 := by omega
    subst e
    obtain ⟨h', k1, k2⟩ := K h H hR
    obtain ⟨R, r1, r2⟩ := hR
    refine ⟨h', ?_, k2⟩
    rw [Nat.mul_zero, Nat.zero_add, Nat.zero_add]
    refine RC.steps 2 rfl ?_
    refine RC.getf rfl rfl H.2.2.2.1 rfl ?_
    refine RC.alen (len := 7) (t := 3) rfl rfl r1 rfl ?_
    refine RC.steps 1 rfl ?_
    exact RC.l1 0 _ rfl k1
  | succ r ih =>
    intro c h hc H hR
    obtain ⟨R, r1, r2⟩ := hR
    have eb : bs (1 + c) = 18 + 13 * c := by rw [bs_h (by omega) (by omega)]; omega
    have H2 := H.new (by omega) (by omega) (c := .inr (2, xdef 2))
    rw [eb] at H2
    have hR17 : tAt (18 + 13 * c) z0 s0z (xup h (18 + 13 * c) (.inr (2, xdef 2))) 17 = .inl (3, 7, .inr R) := (tl_lo (by omega)).trans r1
    have H3 : QQ L xs [.ref 4, .ref 17, .int 0, .null, .null, .null] (1 + c + 1) (xup (tAt (18 + 13 * c) z0 s0z (xup h (18 + 13 * c) (.inr (2, xdef 2)))) 17 (.inl (3, 7, .inr (va_up R c (some (18 + 13 * c)))))) := H2.cg (by omega) (fun k hk => xup_ne (by omega)) ((xup_ne (by omega)).trans H2.2.2.2.1)
    obtain ⟨h', k1, k2⟩ := ih (c + 1) _ (by omega) (by rw [show 1 + (c + 1) = 1 + c + 1 by omega]; exact H3) ⟨_, xup_same, fun i hi => by
      by_cases g : i = c
      · subst g; rw [va_up_self, eb]
      · rw [vz_up g]; exact r2 i (by omega)⟩
    refine ⟨h', ?_, k2⟩
    refine RC.steps 2 rfl ?_
    refine RC.getf rfl rfl H.2.2.2.1 rfl ?_
    refine RC.alen (len := 7) (t := 3) rfl rfl r1 rfl ?_
    refine RC.br 1 rfl (fun hc32 => ?_) (fun hc32 => ?_)
    · exact (nI_ge (show c < 7 by omega) (by omega) hc32).elim
    refine RC.steps 1 rfl ?_
    refine RC.getf rfl rfl H.2.2.2.1 rfl ?_
    refine RC.steps 1 rfl ?_
    refine RC.step (a := 12 + (13 * r + a)) (b := 83 + (92 * r + b)) (pc1 := 43) (c1 := 1) (s1 := 9) (h1 := xup h (18 + 13 * c) (.inr (2, xdef 2))) (n1 := 18 + 13 * c + 1) rfl rfl rfl (by omega) (by omega) ?_
    refine RC.steps 1 rfl ?_
    refine RC.call (a1 := 12) (b1 := 83) (a2 := 13 * r + a) (b2 := 92 * r + b) rfl rfl rfl (by omega) (by omega) (i_track (d := d) (18 + 13 * c) (by omega) xup_same) ?_
    refine RC.aastN (m := c) (len := 7) (t := 3) (ci := 2) (fs := _) rfl rfl hR17 (tAt_in (b := 18 + 13 * c) (o := 0) (Nat.zero_le _)) rfl rfl (by omega) (Nat.le_of_ble_eq_true rfl) ?_
    refine RC.steps 2 rfl ?_
    exact RC.l2 rfl rfl (by rw [← nI_1 c]; rfl) k1
theorem i_l2 {a b : Nat} (K : ∀ h, QQ L xs [.ref 4, .ref 17, .int 0, .ref 109, .null, .null] 10 h → RR 7 h → SS 2 h → ∃ h', RC a b (d + 3) 58 97 [(0, .ref 3)] [] h 136 none h' 139 ∧ PO L xs h') : ∀ r c h, c + r = 2 → QQ L xs [.ref 4, .ref 17, .int 0, .ref 109, .null, .null] (8 + c) h → RR 7 h → SS c h → ∃ h', RC (13 * r + a) (92 * r + b) (d + 3) 58 69 [(0, .ref 3), (1, .int (nI c))] [] h (110 + 13 * c) none h' 139 ∧ PO L xs h' := by
  intro r
  induction r with
  | zero =>
    intro c h hc H hR hS
    have e : c = 2 := by omega
    subst e
    obtain ⟨h', k1, k2⟩ := K h H hR hS
    obtain ⟨R, r1, r2⟩ := hS
    refine ⟨h', ?_, k2⟩
    rw [Nat.mul_zero, Nat.zero_add, Nat.zero_add]
    refine RC.steps 2 rfl ?_
    refine RC.getf rfl rfl H.2.2.2.1 rfl ?_
    refine RC.alen (len := 2) (t := 3) rfl rfl r1 rfl ?_
    refine RC.steps 1 rfl ?_
    exact RC.l1 0 _ rfl k1
  | succ r ih =>
    intro c h hc H hR hS
    obtain ⟨R, r1, r2⟩ := hS
    obtain ⟨R7, q1, q2⟩ := hR
    have eb : bs (8 + c) = 110 + 13 * c := by rw [bs_s (by omega)]; omega
    have H2 := H.new (by omega) (by omega) (c := .inr (2, xdef 2))
    rw [eb] at H2
    have hR17 : tAt (110 + 13 * c) z0 s0z (xup h (110 + 13 * c) (.inr (2, xdef 2))) 109 = .inl (3, 2, .inr R) := (tl_lo (by omega)).trans r1
    have H3 : QQ L xs [.ref 4, .ref 17, .int 0, .ref 109, .null, .null] (8 + c + 1) (xup (tAt (110 + 13 * c) z0 s0z (xup h (110 + 13 * c) (.inr (2, xdef 2)))) 109 (.inl (3, 2, .inr (va_up R c (some (110 + 13 * c)))))) := H2.cg (by omega) (fun k hk => xup_ne (by omega)) ((xup_ne (by omega)).trans H2.2.2.2.1)
    obtain ⟨h', k1, k2⟩ := ih (c + 1) _ (by omega) (by rw [show 8 + (c + 1) = 8 + c + 1 by omega]; exact H3) ⟨R7, (xup_ne (by omega)).trans ((tl_lo (by omega)).trans q1), q2⟩ ⟨_, xup_same, fun i hi => by
      by_cases g : i = c
      · subst g; rw [va_up_self, eb]
      · rw [vz_up g]; exact r2 i (by omega)⟩
    refine ⟨h', ?_, k2⟩
    refine RC.steps 2 rfl ?_
    refine RC.getf rfl rfl H.2.2.2.1 rfl ?_
    refine RC.alen (len := 2) (t := 3) rfl rfl r1 rfl ?_
    refine RC.br 1 rfl (fun hc32 => ?_) (fun hc32 => ?_)
    · exact (nI_ge (show c < 2 by omega) (by omega) hc32).elim
    refine RC.steps 1 rfl ?_
    refine RC.getf rfl rfl H.2.2.2.1 rfl ?_
    refine RC.steps 1 rfl ?_
    refine RC.step (a := 12 + (13 * r + a)) (b := 83 + (92 * r + b)) (pc1 := 86) (c1 := 1) (s1 := 9) (h1 := xup h (110 + 13 * c) (.inr (2, xdef 2))) (n1 := 110 + 13 * c + 1) rfl rfl rfl (by omega) (by omega) ?_
    refine RC.steps 1 rfl ?_
    refine RC.call (a1 := 12) (b1 := 83) (a2 := 13 * r + a) (b2 := 92 * r + b) rfl rfl rfl (by omega) (by omega) (i_track (d := d) (110 + 13 * c) (by omega) xup_same) ?_
    refine RC.aastN (m := c) (len := 2) (t := 3) (ci := 2) (fs := _) rfl rfl hR17 (tAt_in (b := 110 + 13 * c) (o := 0) (Nat.zero_le _)) rfl rfl (by omega) (Nat.le_of_ble_eq_true rfl) ?_
    refine RC.steps 2 rfl ?_
    exact RC.l2 rfl rfl (by rw [← nI_1 c]; rfl) k1
theorem i_end (h : xHp) (H : QQ L xs [.ref 4, .ref 17, .int 0, .ref 109, .null, .null] 10 h) (hR : RR 7 h) (hS : SS 2 h) : ∃ h', RC 3 84 (d + 3) 58 97 [(0, .ref 3)] [] h 136 none h' 139 ∧ PO L xs h' := by
  obtain ⟨R, r1, r2⟩ := hR
  obtain ⟨R2, q1, q2⟩ := hS
  refine ⟨xup (xup (xup (xup (xup (xup h 136 (.inl (1, 2, .inl (fun _ => 0)))) 3 (.inr (3, [.ref 4, .ref 17, .int 0, .ref 109, .ref 136, .null]))) 137 (.inr (1, xdef 1))) 138 (.inl (2, 80, .inl (fun _ => 0)))) 137 (.inr (1, [.ref 138, .int 0]))) 3 (.inr (3, [.ref 4, .ref 17, .int 0, .ref 109, .ref 136, .ref 137])), ?_, ?_⟩
  · refine RC.steps 2 rfl ?_
    refine RC.step (a := 2) (b := 82) (pc1 := 101) (c1 := 1) (s1 := 2) (h1 := xup h 136 (.inl (1, 2, .inl (fun _ => 0)))) (n1 := 137) rfl rfl rfl (by omega) (by omega) ?_
    refine RC.putf rfl rfl ((xup_ne (by omega)).trans H.2.2.2.1) rfl rfl ?_
    refine RC.steps 1 rfl ?_
    refine RC.step (a := 1) (b := 80) (pc1 := 108) (c1 := 1) (s1 := 2) (h1 := xup (xup (xup h 136 (.inl (1, 2, .inl (fun _ => 0)))) 3 (.inr (3, [.ref 4, .ref 17, .int 0, .ref 109, .ref 136, .null]))) 137 (.inr (1, xdef 1))) (n1 := 138) rfl rfl rfl (by omega) (by omega) ?_
    refine RC.steps 1 rfl ?_
    refine RC.call (a1 := 1) (b1 := 80) (a2 := 0) (b2 := 0) rfl rfl rfl (by omega) (by omega) (i_pad (d := d + 1) 137 xup_same) ?_
    refine RC.putf rfl rfl (fs := [.ref 4, .ref 17, .int 0, .ref 109, .ref 136, .null]) rfl rfl rfl ?_
    exact RC.retE rfl rfl rfl rfl rfl
  · have hl : ∀ k, ¬ k = 3 → k < 136 → xup (xup (xup (xup (xup (xup h 136 (.inl (1, 2, .inl (fun _ => 0)))) 3 (.inr (3, [.ref 4, .ref 17, .int 0, .ref 109, .ref 136, .null]))) 137 (.inr (1, xdef 1))) 138 (.inl (2, 80, .inl (fun _ => 0)))) 137 (.inr (1, [.ref 138, .int 0]))) 3 (.inr (3, [.ref 4, .ref 17, .int 0, .ref 109, .ref 136, .ref 137])) k = h k := by
      intro k h3 hk
      rw [xup_ne h3, xup_ne (by omega), xup_ne (by omega), xup_ne (by omega), xup_ne h3, xup_ne (by omega)]
    exact ⟨H.cg (by omega) (fun k hk => hl k (by omega) (by omega)) rfl, ⟨R, (hl 17 (by omega) (by omega)).trans r1, r2⟩, ⟨R2, (hl 109 (by omega) (by omega)).trans q1, q2⟩, rfl, rfl, rfl⟩
theorem i_mid (h : xHp) (H : QQ L xs [.ref 4, .ref 17, .int 0, .null, .null, .null] 8 h) (hR : RR 7 h) : ∃ h', RC 30 270 (d + 3) 58 54 [(0, .ref 3)] [] h 109 none h' 139 ∧ PO L xs h' := by
  obtain ⟨R, r1, r2⟩ := hR
  have H1 : QQ L xs [.ref 4, .ref 17, .int 0, .ref 109, .null, .null] 8 (xup (xup (xup h 3 (.inr (3, [.ref 4, .ref 17, .int 0, .null, .null, .null]))) 109 (.inl (3, 2, .inr (fun _ => none)))) 3 (.inr (3, [.ref 4, .ref 17, .int 0, .ref 109, .null, .null]))) := H.cg (by omega) (fun k hk => by rw [xup_ne (by omega), xup_ne (by omega), xup_ne (by omega)]) rfl
  obtain ⟨h', k1, k2⟩ := i_l2 (d := d) (L := L) (xs := xs) (a := 3) (b := 84) (fun h a b c => i_end h a b c) 2 0 _ rfl H1 ⟨R, ((xup_ne (by omega)).trans ((xup_ne (by omega)).trans (xup_ne (by omega)))).trans r1, r2⟩ ⟨fun _ => none, rfl, fun i hi => absurd hi (Nat.not_lt_zero _)⟩
  refine ⟨h', ?_, k2⟩
  refine RC.steps 2 rfl ?_
  refine RC.putf rfl rfl H.2.2.2.1 rfl rfl ?_
  refine RC.steps 2 rfl ?_
  refine RC.step (a := 29) (b := 268) (pc1 := 64) (c1 := 1) (s1 := 2) (h1 := xup (xup h 3 (.inr (3, [.ref 4, .ref 17, .int 0, .null, .null, .null]))) 109 (.inl (3, 2, .inr (fun _ => none)))) (n1 := 110) rfl rfl rfl (by omega) (by omega) ?_
  refine RC.putf rfl rfl (fs := [.ref 4, .ref 17, .int 0, .null, .null, .null]) rfl rfl rfl ?_
  refine RC.steps 2 rfl ?_
  exact RC.l2 rfl rfl rfl k1
theorem i_class (L : Nat) (xs : Nat → Int32) : ∃ h', RC 140 1100 (d + 3) 58 0 [(0, .ref 3)] [] (xup (xh0 L xs) 3 (.inr (3, xdef 3))) 4 none h' 139 ∧ PO L xs h' := by
  have hh : ∀ k, k < 3 → tAt 4 z0 s0z (xup (xup (xh0 L xs) 3 (.inr (3, xdef 3))) 4 (.inr (2, xdef 2))) k = xh0 L xs k := by
    intro k hk
    rw [tl_lo (by omega), xup_ne (by omega)]
  have h3 : tAt 4 z0 s0z (xup (xup (xh0 L xs) 3 (.inr (3, xdef 3))) 4 (.inr (2, xdef 2))) 3 = .inr (3, xdef 3) := (tl_lo (by omega)).trans xup_same
  have hl : ∀ k, ¬ k = 3 → ¬ k = 17 → xup (xup (xup (tAt 4 z0 s0z (xup (xup (xh0 L xs) 3 (.inr (3, xdef 3))) 4 (.inr (2, xdef 2)))) 3 (.inr (3, [.ref 4, .null, .int 0, .null, .null, .null]))) 17 (.inl (3, 7, .inr (fun _ => none)))) 3 (.inr (3, [.ref 4, .ref 17, .int 0, .null, .null, .null])) k = tAt 4 z0 s0z (xup (xup (xh0 L xs) 3 (.inr (3, xdef 3))) 4 (.inr (2, xdef 2))) k := by
    intro k g3 g17
    rw [xup_ne g3, xup_ne g17, xup_ne g3]
  have H1 : QQ L xs [.ref 4, .ref 17, .int 0, .null, .null, .null] 1 (xup (xup (xup (tAt 4 z0 s0z (xup (xup (xh0 L xs) 3 (.inr (3, xdef 3))) 4 (.inr (2, xdef 2)))) 3 (.inr (3, [.ref 4, .null, .int 0, .null, .null, .null]))) 17 (.inl (3, 7, .inr (fun _ => none)))) 3 (.inr (3, [.ref 4, .ref 17, .int 0, .null, .null, .null]))) := by
    refine ⟨((hl 0 (by omega) (by omega)).trans (hh 0 (by omega))).trans rfl, ((hl 1 (by omega) (by omega)).trans (hh 1 (by omega))).trans rfl, ((hl 2 (by omega) (by omega)).trans (hh 2 (by omega))).trans rfl, rfl, fun o ho => (hl _ (by omega) (by omega)).trans (tAt_in ho), fun t t1 t2 => by omega⟩
  obtain ⟨h', k1, k2⟩ := i_l1 (d := d) (L := L) (xs := xs) (a := 30) (b := 270) (fun h a b => i_mid h a b) 7 0 _ rfl H1 ⟨fun _ => none, rfl, fun i hi => absurd hi (Nat.not_lt_zero _)⟩
  refine ⟨h', ?_, k2⟩
  refine RC.steps 3 rfl ?_
  refine RC.step (a := 139) (b := 1091) (pc1 := 8) (c1 := 1) (s1 := 9) (h1 := xup (xup (xh0 L xs) 3 (.inr (3, xdef 3))) 4 (.inr (2, xdef 2))) (n1 := 5) rfl rfl rfl (by omega) (by omega) ?_
  refine RC.steps 1 rfl ?_
  refine RC.call (a1 := 12) (b1 := 83) (a2 := 127) (b2 := 1008) rfl rfl rfl (by omega) (by omega) (i_track (d := d) 4 (by omega) xup_same) ?_
  refine RC.putf rfl rfl (fs := xdef 3) h3 rfl rfl ?_
  refine RC.steps 2 rfl ?_
  refine RC.step (a := 126) (b := 1001) (pc1 := 21) (c1 := 1) (s1 := 7) (h1 := xup (xup (tAt 4 z0 s0z (xup (xup (xh0 L xs) 3 (.inr (3, xdef 3))) 4 (.inr (2, xdef 2)))) 3 (.inr (3, [.ref 4, .null, .int 0, .null, .null, .null]))) 17 (.inl (3, 7, .inr (fun _ => none)))) (n1 := 18) rfl rfl rfl (by omega) (by omega) ?_
  refine RC.putf rfl rfl (fs := [.ref 4, .null, .int 0, .null, .null, .null]) rfl rfl rfl ?_
  refine RC.steps 2 rfl ?_
  obtain ⟨f, q, sq, kc, ks, e1, e2, e3⟩ := k1
  exact RC.l2 rfl rfl rfl ⟨f, q, sq, kc, ks, e1, by omega, by omega⟩
/-! the reference's object -/
end INIT2
theorem pOn_id {p : Nat → Int32} {ln : Int32} {g : xHp} (h1 : g 137 = .inr (1, [.ref 138, .int ln])) (h2 : g 138 = .inl (2, 80, .inl p)) : pOn p ln g = g := by
  funext k
  by_cases e1 : k = 137
  · rw [e1, h1]; rfl
  · by_cases e2 : k = 138
    · rw [e2, h2]; rfl
    · exact pOn_out (by omega)
theorem bO_id {ch : Int32} {R R2 : Nat → Option Nat} {sv : Nat → Int32} {g : xHp} (h3 : g 3 = .inr (3, [.ref 4, .ref 17, .int ch, .ref 109, .ref 136, .ref 137])) (h17 : g 17 = .inl (3, 7, .inr R)) (h109 : g 109 = .inl (3, 2, .inr R2)) (h136 : g 136 = .inl (1, 2, .inl sv)) : bO ch R R2 sv g = g := by
  funext k
  by_cases e1 : k = 3
  · rw [e1, h3]; rfl
  · by_cases e2 : k = 17
    · rw [e2, h17]; rfl
    · by_cases e3 : k = 109
      · rw [e3, h109]; rfl
      · by_cases e4 : k = 136
        · rw [e4, h136]; rfl
        · exact bO_out e1 e2 e3 e4
theorem tOn_id {z s : Nat → Int32} {g : xHp} (h : ∀ o, o ≤ 12 → g (4 + o) = tc 4 z s o) : tOn z s g = g := by
  funext k
  by_cases hk : 4 ≤ k ∧ k ≤ 16
  · obtain ⟨o, ho, e⟩ : ∃ o, o ≤ 12 ∧ k = 4 + o := ⟨k - 4, by omega, by omega⟩
    subst e
    rw [tOn_in ho, h o ho]
  · exact tOn_out (by omega)
