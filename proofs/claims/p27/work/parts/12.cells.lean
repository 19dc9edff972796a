/-! rules for reads and writes of rows, fields and cells -/
theorem xgp_pos {α : Type} {c : Prop} [Decidable c] {a : Option α} (h : c) : xgp c a = a := if_pos h
theorem xin_nI {m len : Nat} (hm : m < len) (hl : len < 2 ^ 31) : ¬ (nI m < 0 ∨ len ≤ (nI m).toNatClampNeg) := vp_in_nI hm hl
theorem xbeq_no {a b : Nat} (h : ¬ a = b) : Nat.beq a b = false := by
  cases hb : Nat.beq a b with
  | true => exact absurd (Nat.eq_of_beq_eq_true hb) h
  | false => rfl
section RN3
variable {d i pc : Nat} {ls : xLs} {st : List Value} {h h' : xHp} {n n' : Nat} {v : Option Value}
theorem Rn.ialdN {e : xEn} {k len m : Nat} {f : Nat → Int32} {j : Int32} {r : List Value} (hf : xfind i pc = some e) (he : e.1 = .iaload) (hk : h k = .inl (0, len, .inl f)) (hj : j = nI m) (hm : m < len) (hl : len < 2 ^ 31) (kk : Rn d i (pc + 1) ls (.int (f m) :: r) h n v h' n') : Rn d i pc ls (.int j :: .ref k :: r) h n v h' n' := by
  obtain ⟨ins, e2⟩ := e
  dsimp only at he
  subst he
  refine Rn.step1 hf rfl ?_ kk
  subst hj
  show xcI (h k) _ = _
  rw [hk]
  show xgd true (xgp (¬ (nI m < 0 ∨ len ≤ (nI m).toNatClampNeg)) _) = _
  rw [xgp_pos (xin_nI hm hl), nI_clamp (Nat.lt_trans hm hl)]
  rfl
theorem Rn.baldN {e : xEn} {k len m : Nat} {f : Nat → Int32} {j : Int32} {r : List Value} (hf : xfind i pc = some e) (he : e.1 = .baload) (hk : h k = .inl (1, len, .inl f)) (hj : j = nI m) (hm : m < len) (hl : len < 2 ^ 31) (kk : Rn d i (pc + 1) ls (.int (f m) :: r) h n v h' n') : Rn d i pc ls (.int j :: .ref k :: r) h n v h' n' := by
  obtain ⟨ins, e2⟩ := e
  dsimp only at he
  subst he
  refine Rn.step1 hf rfl ?_ kk
  subst hj
  show xcI (h k) _ = _
  rw [hk]
  show xgd true (xgp (¬ (nI m < 0 ∨ len ≤ (nI m).toNatClampNeg)) _) = _
  rw [xgp_pos (xin_nI hm hl), nI_clamp (Nat.lt_trans hm hl)]
  rfl
theorem Rn.caldN {e : xEn} {k len m : Nat} {f : Nat → Int32} {j : Int32} {r : List Value} (hf : xfind i pc = some e) (he : e.1 = .caload) (hk : h k = .inl (2, len, .inl f)) (hj : j = nI m) (hm : m < len) (hl : len < 2 ^ 31) (kk : Rn d i (pc + 1) ls (.int (f m) :: r) h n v h' n') : Rn d i pc ls (.int j :: .ref k :: r) h n v h' n' := by
  obtain ⟨ins, e2⟩ := e
  dsimp only at he
  subst he
  refine Rn.step1 hf rfl ?_ kk
  subst hj
  show xcI (h k) _ = _
  rw [hk]
  show xgd true (xgp (¬ (nI m < 0 ∨ len ≤ (nI m).toNatClampNeg)) _) = _
  rw [xgp_pos (xin_nI hm hl), nI_clamp (Nat.lt_trans hm hl)]
  rfl
theorem Rn.iastN {e : xEn} {k len m : Nat} {f : Nat → Int32} {j x : Int32} {r : List Value} (hf : xfind i pc = some e) (he : e.1 = .iastore) (hk : h k = .inl (0, len, .inl f)) (h3 : Nat.ble 3 k = true) (hj : j = nI m) (hm : m < len) (hl : len < 2 ^ 31) (kk : Rn d i (pc + 1) ls r (xup h k (.inl (0, len, .inl (upd f m x)))) n v h' n') : Rn d i pc ls (.int x :: .int j :: .ref k :: r) h n v h' n' := by
  obtain ⟨ins, e2⟩ := e
  dsimp only at he
  subst he
  refine Rn.step1 hf rfl ?_ kk
  subst hj
  show xcI (h k) _ = _
  rw [hk]
  show xgd (Nat.ble 3 k) (xgd true (xgp (¬ (nI m < 0 ∨ len ≤ (nI m).toNatClampNeg)) _)) = _
  rw [xgp_pos (xin_nI hm hl), nI_clamp (Nat.lt_trans hm hl), h3]
  rfl
theorem Rn.bastN {e : xEn} {k len m : Nat} {f : Nat → Int32} {j x : Int32} {r : List Value} (hf : xfind i pc = some e) (he : e.1 = .bastore) (hk : h k = .inl (1, len, .inl f)) (h3 : Nat.ble 3 k = true) (hj : j = nI m) (hm : m < len) (hl : len < 2 ^ 31) (kk : Rn d i (pc + 1) ls r (xup h k (.inl (1, len, .inl (upd f m (vp_nar .boolean x))))) n v h' n') : Rn d i pc ls (.int x :: .int j :: .ref k :: r) h n v h' n' := by
  obtain ⟨ins, e2⟩ := e
  dsimp only at he
  subst he
  refine Rn.step1 hf rfl ?_ kk
  subst hj
  show xcI (h k) _ = _
  rw [hk]
  show xgd (Nat.ble 3 k) (xgd true (xgp (¬ (nI m < 0 ∨ len ≤ (nI m).toNatClampNeg)) _)) = _
  rw [xgp_pos (xin_nI hm hl), nI_clamp (Nat.lt_trans hm hl), h3]
  rfl
theorem Rn.castN {e : xEn} {k len m : Nat} {f : Nat → Int32} {j x : Int32} {r : List Value} (hf : xfind i pc = some e) (he : e.1 = .castore) (hk : h k = .inl (2, len, .inl f)) (h3 : Nat.ble 3 k = true) (hj : j = nI m) (hm : m < len) (hl : len < 2 ^ 31) (kk : Rn d i (pc + 1) ls r (xup h k (.inl (2, len, .inl (upd f m (vp_nar .char x))))) n v h' n') : Rn d i pc ls (.int x :: .int j :: .ref k :: r) h n v h' n' := by
  obtain ⟨ins, e2⟩ := e
  dsimp only at he
  subst he
  refine Rn.step1 hf rfl ?_ kk
  subst hj
  show xcI (h k) _ = _
  rw [hk]
  show xgd (Nat.ble 3 k) (xgd true (xgp (¬ (nI m < 0 ∨ len ≤ (nI m).toNatClampNeg)) _)) = _
  rw [xgp_pos (xin_nI hm hl), nI_clamp (Nat.lt_trans hm hl), h3]
  rfl
theorem Rn.aaldN {e : xEn} {k t len m q : Nat} {f : Nat → Option Nat} {j : Int32} {r : List Value} (hf : xfind i pc = some e) (he : e.1 = .aaload) (hk : h k = .inl (t, len, .inr f)) (ht : (Nat.beq t 3 || Nat.beq t 4) = true) (hj : j = nI m) (hm : m < len) (hl : len < 2 ^ 31) (hq : f m = some q) (kk : Rn d i (pc + 1) ls (.ref q :: r) h n v h' n') : Rn d i pc ls (.int j :: .ref k :: r) h n v h' n' := by
  obtain ⟨ins, e2⟩ := e
  dsimp only at he
  subst he
  refine Rn.step1 hf rfl ?_ kk
  subst hj
  show xcQ (h k) _ = _
  rw [hk]
  show xgd (Nat.beq t 3 || Nat.beq t 4) (xgp (¬ (nI m < 0 ∨ len ≤ (nI m).toNatClampNeg)) (xgO (f (nI m).toNatClampNeg) _)) = _
  rw [xgp_pos (xin_nI hm hl), nI_clamp (Nat.lt_trans hm hl), ht, hq]
  rfl
theorem Rn.getf {e : xEn} {k : Nat} {fs : List Value} {x : Value} {r : List Value} (hf : xfind i pc = some e) {idx : Nat} (he : e.1 = .getfield idx) (hk : h k = .inr (e.2.2.1, fs)) (hx : fs[e.2.2.2.1]? = some x) (kk : Rn d i (pc + 3) ls (x :: r) h n v h' n') : Rn d i pc ls (.ref k :: r) h n v h' n' := by
  obtain ⟨ins, len, r1, r2, v0, ps⟩ := e
  dsimp only at he hk hx
  subst he
  refine Rn.step1 hf rfl ?_ kk
  show xcO (h k) _ = _
  rw [hk]
  show xgd (Nat.beq r1 r1) (xgO fs[r2]? _) = _
  rw [hx, Nat.beq_refl]
  rfl
theorem Rn.putf {e : xEn} {k : Nat} {fs : List Value} {x : Value} {r : List Value} (hf : xfind i pc = some e) {idx : Nat} (he : e.1 = .putfield idx) (hk : h k = .inr (e.2.2.1, fs)) (hx : fits (xfty e.2.2.1 e.2.2.2.1) x = true) (hl : Nat.blt e.2.2.2.1 fs.length = true) (kk : Rn d i (pc + 3) ls r (xup h k (.inr (e.2.2.1, fs.set e.2.2.2.1 x))) n v h' n') : Rn d i pc ls (x :: .ref k :: r) h n v h' n' := by
  obtain ⟨ins, len, r1, r2, v0, ps⟩ := e
  dsimp only at he hk hx hl
  subst he
  refine Rn.step1 hf rfl ?_ kk
  show xcO (h k) _ = _
  rw [hk]
  show xgd (Nat.beq r1 r1) (xgd (fits (xfty r1 r2) x) (xgd (Nat.blt r2 fs.length) _)) = _
  rw [hx, hl, Nat.beq_refl]
  rfl
/-- a call of an object's method, the object read by a row -/
theorem Rn.callO {e : xEn} {j ci b : Nat} {fs as r : List Value} {v1 : Option Value} {h1 : xHp} {n1 : Nat} (hf : xfind i pc = some e) {idx : Nat} (he : e.1 = .invokevirtual idx) (hd : st.drop e.2.2.2.1 = .ref b :: r) (hb : h b = .inr (ci, fs)) (hci : Nat.beq ci (xcm e.2.2.1) = true) (hl : Nat.ble e.2.2.2.1 st.length = true) (hw : Nat.ble (xcw r) 8 = true) (hw2 : Nat.ble (xcw (.ref b :: (st.take e.2.2.2.1).reverse)) (xMt e.2.2.1).2.2.1 = true) (has : .ref b :: (st.take e.2.2.2.1).reverse = as) (hj : e.2.2.1 = j)
    (hc : Rn d j 0 (lv_args 0 as) [] h n v1 h1 n1) (kk : Rn (d + 1) i (pc + 3) ls (v1.toList ++ r) h1 n1 v h' n') : Rn (d + 1) i pc ls st h n v h' n' := by
  obtain ⟨ins, len, r1, r2, v0, ps⟩ := e
  dsimp only at he hd hci hl hw2 has hj
  subst he; subst hj; subst has
  refine Rn.call hf rfl ?_ hc kk
  show xpR (st.drop r2) _ = _
  rw [hd]
  show xcO (h b) _ = _
  rw [hb]
  show xgd (Nat.ble r2 st.length) (xgd (Nat.ble (xcw r) 8) (xgd (Nat.beq ci (xcm r1)) (xgd (Nat.ble (xcw (.ref b :: (st.take r2).reverse)) (xMt r1).2.2.1) _))) = _
  rw [hl, hw, hci, hw2]
  rfl
/-- a loop that counts up -/
theorem xloop (P : Nat → Prop) (N : Nat) (hN : P N) (hs : ∀ c, c < N → P (c + 1) → P c) : P 0 := by
  have key : ∀ k, k ≤ N → P (N - k) := by
    intro k
    induction k with
    | zero => intro _; exact hN
    | succ k ih =>
      intro hk
      have := ih (by omega)
      exact hs (N - (k + 1)) (by omega) (by rw [show N - (k + 1) + 1 = N - k by omega]; exact this)
  have := key N (Nat.le_refl _)
  rwa [Nat.sub_self] at this
theorem xloopA (P : Nat → Prop) (a N : Nat) (ha : a ≤ N) (hN : P N) (hs : ∀ c, a ≤ c → c < N → P (c + 1) → P c) : P a := by
  have key : ∀ k, k ≤ N - a → P (N - k) := by
    intro k
    induction k with
    | zero => intro _; exact hN
    | succ k ih =>
      intro hk
      have := ih (by omega)
      exact hs (N - (k + 1)) (by omega) (by omega) (by rw [show N - (k + 1) + 1 = N - k by omega]; exact this)
  have := key (N - a) (Nat.le_refl _)
  rwa [show N - (N - a) = a by omega] at this
theorem Rn.l3 {a b c : Nat} {x y z : Value} (hab : (Nat.beq a b || (Nat.beq a c || Nat.beq b c)) = false) (h1 : xld ls a = some x) (h2 : xld ls b = some y) (h3 : xld ls c = some z) (kk : Rn d i pc [(a, x), (b, y), (c, z)] st h n v h' n') : Rn d i pc ls st h n v h' n' := by
  simp only [Bool.or_eq_false_iff] at hab
  have n1 := Nat.ne_of_beq_eq_false hab.1
  have n2 := Nat.ne_of_beq_eq_false hab.2.1
  have n3 := Nat.ne_of_beq_eq_false hab.2.2
  exact Rn.locals [(a, x), (b, y), (c, z)] (by simp [xnk, n1, n2, n3]) (by intro q hq; simp only [List.mem_cons, List.not_mem_nil, or_false] at hq; rcases hq with rfl | rfl | rfl <;> assumption) kk
theorem Rn.l4 {a b c e : Nat} {x y z u : Value} (hab : (List.Nodup [a, b, c, e])) (h1 : xld ls a = some x) (h2 : xld ls b = some y) (h3 : xld ls c = some z) (h4 : xld ls e = some u) (kk : Rn d i pc [(a, x), (b, y), (c, z), (e, u)] st h n v h' n') : Rn d i pc ls st h n v h' n' :=
  Rn.locals [(a, x), (b, y), (c, z), (e, u)] hab (by intro q hq; simp only [List.mem_cons, List.not_mem_nil, or_false] at hq; rcases hq with rfl | rfl | rfl | rfl <;> assumption) kk
theorem Rn.l5 {a b c e f : Nat} {x y z u t : Value} (hab : (List.Nodup [a, b, c, e, f])) (h1 : xld ls a = some x) (h2 : xld ls b = some y) (h3 : xld ls c = some z) (h4 : xld ls e = some u) (h5 : xld ls f = some t) (kk : Rn d i pc [(a, x), (b, y), (c, z), (e, u), (f, t)] st h n v h' n') : Rn d i pc ls st h n v h' n' :=
  Rn.locals [(a, x), (b, y), (c, z), (e, u), (f, t)] hab (by intro q hq; simp only [List.mem_cons, List.not_mem_nil, or_false] at hq; rcases hq with rfl | rfl | rfl | rfl | rfl <;> assumption) kk
end RN3
def bi (b : Bool) : Int32 := cond b 1 0
