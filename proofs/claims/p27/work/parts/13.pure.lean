/-! words for the track, rules of runs (of whole's parts 13 to 22 what does not speak of the reference) -/
theorem bi_eq0 {b : Bool} (h : bi b = 0) : b = false := by cases b with | false => rfl | true => exact absurd h (by decide)
theorem bi_ne0 {b : Bool} (h : ¬ bi b = 0) : b = true := by cases b with | true => rfl | false => exact absurd rfl h
theorem xidx (c q : Nat) : (10 : Int32) + 7 * nI c + nI q = nI (10 + 7 * c + q) := by
  rw [show (10 : Int32) = nI 10 from rfl, show (7 : Int32) = nI 7 from rfl, pk_mul, nI_add, nI_add]
theorem xin10 {x : Int32} (h : 0 ≤ x ∧ x ≤ 9) : ∃ c : Nat, c < 10 ∧ x = nI c := by
  obtain ⟨j, hj, e⟩ := nI_of2 (M := 9) (n := 9) rfl (Int32.not_lt.mpr h.1) h.2
  exact ⟨j, by omega, e⟩
theorem xnc {c : Nat} (hc : c < 2 ^ 31) : (nI c).toNatClampNeg = c := nI_clamp hc
def rm (x y : Int32) : Int32 := x - x / y * y
def zt (z : Nat → Int32) (c : Nat) : Bool := decide (¬ z (10 + 7 * c) = -6)
def isC (z : Nat → Int32) (x : Int32) : Bool := decide (0 ≤ x ∧ x ≤ 9) && zt z x.toNatClampNeg
theorem isC_nI {z : Nat → Int32} {c : Nat} (hc : c < 10) : isC z (nI c) = zt z c := by
  unfold isC
  rw [decide_eq_true (⟨nI_pos' (by omega), nI_le (b := 9) (by omega) (by omega)⟩ : 0 ≤ nI c ∧ nI c ≤ 9), nI_clamp (by omega)]
  rfl
def mMany (z : Nat → Int32) : Nat → Int32 | 0 => 0 | c + 1 => mMany z c + bi (zt z c)
def mSum (z : Nat → Int32) (q : Nat) : Nat → Int32 | 0 => 0 | c + 1 => mSum z q c + cond (zt z c) (z (10 + 7 * c + q)) 0
def mIn (z : Nat → Int32) (p : Int32) : Nat → Int32 | 0 => -6 | c + 1 => cond (zt z c && decide (z (10 + 7 * c) = p)) (nI c) (mIn z p c)
def t32 (p : Int32) : Int32 := 4 * (p / 4) + rm (p + (if rm (p / 4) 2 = 0 then 1 else 3)) 4
def o32 (hn p : Int32) : Int32 := if rm p 4 = 0 then 4 * rm (p / 4 + 1) hn + 2 else if rm p 4 = 2 then 4 * rm (p / 4 + hn - 1) hn else p
section RN4
variable {d i pc : Nat} {ls : xLs} {st : List Value} {h h' : xHp} {n n' : Nat} {v : Option Value}
theorem Rn.irem {e : xEn} {x y : Int32} {r : List Value} (hf : xfind i pc = some e) (he : e.1 = .irem) (hy : ¬ y = 0) (kk : Rn d i (pc + 1) ls (.int (rm x y) :: r) h n v h' n') : Rn d i pc ls (.int y :: .int x :: r) h n v h' n' := by
  obtain ⟨ins, e2⟩ := e
  dsimp only at he
  subst he
  refine Rn.step1 hf rfl ?_ kk
  show xgp (¬ y = 0) _ = _
  rw [xgp_pos hy]
  rfl
theorem xnok_bi (b : Bool) : xnok .boolean (bi b) = true := by cases b <;> decide
theorem Rn.retZ {e : xEn} {b : Bool} (hf : xfind i pc = some e) (he : e.1 = .ireturn) (hty : (xMt i).2.2.2.1 = some .boolean) (hv : some (Value.int (bi b)) = v) (hh : h = h') : Rn d i pc ls [.int (bi b)] h n v h' n := by
  subst hv; subst hh
  obtain ⟨ins, e2⟩ := e
  dsimp only at he
  subst he
  refine Rn.ret hf rfl ?_
  show xgd true (match (xMt i).2.2.2.1 with | some ty => xgd (xnok ty (bi b)) (some (some (Value.int (bi b)))) | none => none) = _
  rw [hty]
  show xgd (xnok .boolean (bi b)) _ = _
  rw [xnok_bi]
  rfl
end RN4
def isPl (hn x q : Int32) : Bool := decide (0 ≤ x ∧ x ≤ hn - 1) && decide (0 ≤ q ∧ q ≤ 3)
def isFr (z : Nat → Int32) (p : Int32) : Bool := decide (mIn z p 10 = -6) && decide (mIn z (o32 (2 * z 0) p) 10 = -6)
def whyNC (z : Nat → Int32) (x q : Int32) : Int32 := cond (isPl (2 * z 0) x q) (cond (isFr z (4 * x + q)) (if mMany z 10 = 10 then -4 else 0) (-5)) (-1)
def isV (s x : Int32) : Bool := if s = 0 then decide (2 ≤ x ∧ x ≤ 6) else if s = 1 then decide (1 ≤ x ∧ x ≤ 9) else decide (s = 2) && decide (1 ≤ x ∧ x ≤ 999)
def wnr (z : Nat → Int32) (s : Int32) : Int32 := cond (decide (1 ≤ s ∧ s ≤ 99)) (if z 3 + s ≤ 9999 then 0 else -5) (-2)
def wne (z : Nat → Int32) (x e : Int32) : Int32 := cond (isC z x) (if z (10 + 7 * x.toNatClampNeg + 2) = e then 0 else -5) (-1)
def mSet (z : Nat → Int32) : Nat → Int32 | 0 => 0 | c + 1 => mSet z c ||| cond (zt z c) (1 <<< (nI c &&& 31)) 0
def tpm (z : Nat → Int32) : Nat → Nat | 0 => 0 | c + 1 => cond (zt z c) (tpm z c + 1) (tpm z c)
theorem tpm_le (z : Nat → Int32) (c : Nat) : tpm z c ≤ c := by
  induction c with
  | zero => exact Nat.le_refl _
  | succ c ih => unfold tpm; cases zt z c <;> simp only [cond] <;> omega
theorem upd_upd {f : Nat → Int32} {k : Nat} {x y : Int32} : upd (upd f k x) k y = upd f k y := by
  funext j
  unfold upd
  by_cases hj : j = k
  · rw [if_pos hj, if_pos hj]
  · rw [if_neg hj, if_neg hj, if_neg hj]
theorem x8P {P : Nat} : (4 : Int32) * (2 * nI P) = nI (8 * P) := by
  rw [show (2 : Int32) = nI 2 from rfl, show (4 : Int32) = nI 4 from rfl, pk_mul, pk_mul]
  congr 1
  omega
theorem x2P {P : Nat} : (2 : Int32) * nI P = nI (2 * P) := by rw [show (2 : Int32) = nI 2 from rfl, pk_mul]
theorem x2ne {P : Nat} {x : Int32} (h : x = nI P) (h2 : 2 ≤ P) (h6 : P ≤ 6) : ¬ 2 * x = 0 := by
  rw [h, x2P]
  exact nI_ne0 (by omega) (by omega)
theorem xdown (k : Nat) : nI (k + 1) + (-1) = nI k := pk_m1 k
theorem xup_self {α : Type} (A : Nat → α) (k : Nat) : va_up A k (A k) = A := by
  funext j
  unfold va_up
  by_cases hj : j = k
  · rw [if_pos hj, hj]
  · rw [if_neg hj]
def fillZ (z : Nat → Int32) (c : Nat) : Nat → Int32 := upd (upd z (10 + 7 * c + 1) (z 2)) 7 (upd z (10 + 7 * c + 1) (z 2) 7 + upd z (10 + 7 * c + 1) (z 2) 2)
def layN (z : Nat → Int32) (c k : Nat) : Nat → Int32 := fun j => if 10 + 7 * c ≤ j ∧ j < 10 + 7 * c + k then 0 else z j
theorem layN_0 (z : Nat → Int32) (c : Nat) : layN z c 0 = z := by
  funext j
  unfold layN
  rw [if_neg (by omega)]
theorem layN_s (z : Nat → Int32) (c k : Nat) : upd (layN z c k) (10 + 7 * c + k) 0 = layN z c (k + 1) := by
  funext j
  unfold upd layN
  by_cases hj : j = 10 + 7 * c + k
  · subst hj; rw [if_pos rfl, if_pos (by omega)]
  · rw [if_neg hj]
    by_cases h2 : 10 + 7 * c ≤ j ∧ j < 10 + 7 * c + k
    · rw [if_pos h2, if_pos (by omega)]
    · rw [if_neg h2, if_neg (by omega)]
def newZ (z : Nat → Int32) (c : Nat) (p : Int32) : Nat → Int32 := fillZ (upd (layN z c 7) (10 + 7 * c + 0) p) c
def toZ (z : Nat → Int32) (c : Nat) : Nat → Int32 := upd (upd z 6 (z 6 + z (10 + 7 * c + 1))) (10 + 7 * c + 0) (-6)
def tieZ (z : Nat → Int32) (c : Nat) : Nat → Int32 := upd (upd z (10 + 7 * c + 2) 0) 5 (upd z (10 + 7 * c + 2) 0 5 + 1)
def refZ (z : Nat → Int32) (c : Nat) : Nat → Int32 := fillZ (upd z 6 (z 6 + z (10 + 7 * c + 1))) c
theorem isC_of {z : Nat → Int32} {x : Int32} (h : isC z x = true) : ∃ c : Nat, c < 10 ∧ x = nI c ∧ zt z c = true := by
  have h3 := h
  unfold isC at h3
  obtain ⟨h4, h5⟩ := (Bool.and_eq_true _ _ ▸ h3 : _ ∧ _)
  obtain ⟨c, hc, rfl⟩ := xin10 (of_decide_eq_true h4)
  exact ⟨c, hc, rfl, by rw [← isC_nI hc]; exact h⟩
theorem xin2 {x : Int32} (h : 0 ≤ x ∧ x ≤ 1) : ∃ c : Nat, c < 2 ∧ x = nI c := by
  obtain ⟨j, hj, e⟩ := nI_of2 (M := 1) (n := 1) rfl (Int32.not_lt.mpr h.1) h.2
  exact ⟨j, by omega, e⟩
theorem tpm_mono (z : Nat → Int32) (c e : Nat) (h : c ≤ e) : tpm z c ≤ tpm z e := by
  induction e with
  | zero => rw [Nat.le_zero.mp h]; exact Nat.le_refl _
  | succ e ih =>
    by_cases hc : c ≤ e
    · refine Nat.le_trans (ih hc) ?_
      rw [show tpm z (e + 1) = cond (zt z e) (tpm z e + 1) (tpm z e) from rfl]
      cases zt z e <;> simp only [cond] <;> omega
    · rw [show c = e + 1 by omega]; exact Nat.le_refl _
def sx1 (z : Nat → Int32) (c : Nat) (x : Int32) : Nat → Int32 := upd z (10 + 7 * c + 3) (z (10 + 7 * c + 3) + x)
def sx2 (z : Nat → Int32) (c : Nat) (x : Int32) : Nat → Int32 := upd z (10 + 7 * c + 4) (z (10 + 7 * c + 4) + x)
def sx3 (z : Nat → Int32) (c : Nat) (p : Int32) : Nat → Int32 := upd z (10 + 7 * c + 0) (o32 (2 * z 0) p)
def sx4 (z : Nat → Int32) (c : Nat) : Nat → Int32 := upd z (10 + 7 * c + 1) (z (10 + 7 * c + 1) - 1)
def sx5 (z : Nat → Int32) (c : Nat) : Nat → Int32 := upd z (10 + 7 * c + 5) (z (10 + 7 * c + 5) + 1)
def sx6 (z : Nat → Int32) : Nat → Int32 := upd z 8 (z 8 + 1)
def stX (z : Nat → Int32) (c : Nat) (p x y : Int32) : Nat → Int32 := sx6 (sx5 (sx4 (sx3 (sx2 (sx1 z c x) c y) c p) c) c)
def stC (z : Nat → Int32) (c : Nat) : Nat → Int32 := stX z c (t32 (z (10 + 7 * c))) (if rm (t32 (z (10 + 7 * c))) 4 = 1 then 1 else 0) (if rm (t32 (z (10 + 7 * c))) 4 = 3 then 1 else 0)
def stZ (z : Nat → Int32) : Nat → Nat → Int32 | 0 => z | c + 1 => cond (zt (stZ z c) c) (stC (stZ z c) c) (stZ z c)
theorem stZ_f {z : Nat → Int32} {c : Nat} (hz : zt (stZ z c) c = false) : stZ z (c + 1) = stZ z c := by rw [stZ, hz]; rfl
theorem stZ_t {z : Nat → Int32} {c : Nat} {p x y : Int32} (hz : zt (stZ z c) c = true) (hp : p = t32 (stZ z c (10 + 7 * c))) (hx : (if rm p 4 = 1 then (1 : Int32) else 0) = x) (hy : (if rm p 4 = 3 then (1 : Int32) else 0) = y) : stZ z (c + 1) = sx6 (sx5 (sx4 (sx3 (sx2 (sx1 (stZ z c) c x) c y) c p) c) c) := by
  rw [stZ, hz]
  show stC (stZ z c) c = _
  unfold stC stX
  rw [← hp, hx, hy]
def stF (z : Nat → Int32) : Nat → Int32 := upd (upd (stZ z 10) 4 (stZ z 10 4 + stZ z 10 1)) 3 (stZ z 10 3 + 1)
theorem upd_ne {f : Nat → Int32} {k j : Nat} {x : Int32} (h : ¬ j = k) : upd f k x j = f j := if_neg h
theorem upd_eq {f : Nat → Int32} {k : Nat} {x : Int32} : upd f k x k = x := if_pos rfl
theorem stZ_lo (z : Nat → Int32) (c j : Nat) (hj : j < 8) : stZ z c j = z j := by
  induction c with
  | zero => rfl
  | succ c ih =>
    unfold stZ
    cases zt (stZ z c) c with
    | false => exact ih
    | true =>
      show stX _ _ _ _ _ j = z j
      unfold stX sx6 sx5 sx4 sx3 sx2 sx1
      rw [upd_ne (by omega), upd_ne (by omega), upd_ne (by omega), upd_ne (by omega), upd_ne (by omega), upd_ne (by omega)]
      exact ih
theorem upd_self {f : Nat → Int32} {k : Nat} : upd f k (f k) = f := by
  funext j
  unfold upd
  by_cases hj : j = k
  · rw [if_pos hj, hj]
  · rw [if_neg hj]
theorem stF_0 (z : Nat → Int32) : stF z 0 = z 0 := by
  unfold stF
  rw [upd_ne (by omega), upd_ne (by omega), stZ_lo _ _ _ (by omega)]
theorem bi_1 {b : Bool} (h : b = true) : (1 : Int32) = bi b := by rw [h]; rfl
theorem bi_0 {b : Bool} (h : b = false) : (0 : Int32) = bi b := by rw [h]; rfl
section RN6
variable {d i pc : Nat} {ls : xLs} {st : List Value} {h h' : xHp} {n n' : Nat} {v : Option Value}
theorem Rn.swOut {e : xEn} {df lo hi : Int} {offs : Array Int} {x : Int32} {r : List Value} (hf : xfind i pc = some e) (he : e.1 = .tableswitch df lo hi offs) (hx : x.toInt < lo ∨ hi < x.toInt) (tgt : Nat) (ht : (pc : Int) + df = (tgt : Int)) (kk : Rn d i tgt ls r h n v h' n') : Rn d i pc ls (.int x :: r) h n v h' n' := by
  obtain ⟨ins, e2⟩ := e
  dsimp only at he
  subst he
  refine Rn.step1 hf rfl ?_ kk
  show xgp (0 ≤ (pc : Int) + xsw x.toInt df lo hi offs) _ = _
  have e1 : xsw x.toInt df lo hi offs = df := if_pos hx
  rw [e1, ht, xgp_pos (Int.natCast_nonneg tgt)]
  rfl
end RN6
section RN8
variable {d i pc : Nat} {ls : xLs} {st : List Value} {h h' : xHp} {n n' : Nat} {v : Option Value}
theorem Rn.lsw {e : xEn} {df : Int} {qs : Array (Int × Int)} {x : Int32} {r : List Value} (hf : xfind i pc = some e) (he : e.1 = .lookupswitch df qs) {off : Int} (ho : Op.lookupswitch.offset qs.toList df x.toInt = off) (tgt : Nat) (ht : (pc : Int) + off = (tgt : Int)) (kk : Rn d i tgt ls r h n v h' n') : Rn d i pc ls (.int x :: r) h n v h' n' := by
  obtain ⟨ins, e2⟩ := e
  dsimp only at he
  subst he
  refine Rn.step1 hf rfl ?_ kk
  show xgp (0 ≤ (pc : Int) + Op.lookupswitch.offset qs.toList df x.toInt) _ = _
  rw [ho, ht, xgp_pos (Int.natCast_nonneg tgt)]
  rfl
end RN8
def fr (z : Nat → Int32) : Nat → Nat → Nat | 0, c => c | r + 1, c => cond (zt z c) (fr z r (c + 1)) c
def ffree (z : Nat → Int32) : Nat := fr z 10 0
theorem fr_spec (z : Nat → Int32) : ∀ r c, (∀ j, j < c → zt z j = true) → (fr z r c ≤ c + r ∧ c ≤ fr z r c) ∧ (∀ j, j < fr z r c → zt z j = true) ∧ (fr z r c < c + r → zt z (fr z r c) = false) := by
  intro r
  induction r with
  | zero => intro c hc; exact ⟨⟨Nat.le_refl _, Nat.le_refl _⟩, hc, fun h => absurd h (Nat.lt_irrefl _)⟩
  | succ r ih =>
    intro c hc
    unfold fr
    cases hz : zt z c with
    | false => exact ⟨⟨by simp only [cond]; omega, Nat.le_refl _⟩, hc, fun _ => hz⟩
    | true =>
      have h1 := ih (c + 1) (fun j hj => by
        rcases Nat.lt_or_ge j c with q | q
        · exact hc j q
        · rw [show j = c by omega]; exact hz)
      simp only [cond]
      exact ⟨⟨by omega, by omega⟩, h1.2.1, fun h => h1.2.2 (by omega)⟩
theorem many_all (z : Nat → Int32) : ∀ c, (∀ j, j < c → zt z j = true) → mMany z c = nI c := by
  intro c
  induction c with
  | zero => intro _; rfl
  | succ c ih =>
    intro h
    unfold mMany
    rw [ih (fun j hj => h j (by omega)), h c (by omega)]
    exact nI_1 c
theorem ffree_ok {z : Nat → Int32} (h : ¬ mMany z 10 = 10) : ffree z < 10 ∧ zt z (ffree z) = false ∧ ∀ j, j < ffree z → zt z j = true := by
  have h1 := fr_spec z 10 0 (fun j hj => absurd hj (Nat.not_lt_zero _))
  have h2 : ffree z < 10 := by
    rcases Nat.lt_or_ge (ffree z) 10 with q | q
    · exact q
    · exact (h (many_all z 10 (fun j hj => h1.2.1 j (Nat.lt_of_lt_of_le hj q)))).elim
  exact ⟨h2, h1.2.2 (by show ffree z < 0 + 10; omega), h1.2.1⟩
theorem whyNC_ok {z : Nat → Int32} {x q : Int32} (h : ¬ whyNC z x q < 0) : isPl (2 * z 0) x q = true ∧ isFr z (4 * x + q) = true ∧ ¬ mMany z 10 = 10 := by
  unfold whyNC at h
  cases h1 : isPl (2 * z 0) x q with
  | false => rw [h1] at h; exact absurd (show (-1 : Int32) < 0 by decide) h
  | true =>
    rw [h1] at h
    cases h2 : isFr z (4 * x + q) with
    | false => rw [h2] at h; exact absurd (show (-5 : Int32) < 0 by decide) h
    | true =>
      rw [h2] at h
      refine ⟨rfl, rfl, fun h3 => ?_⟩
      simp only [cond] at h
      rw [if_pos h3] at h
      exact absurd (by decide) h
theorem wnr_ok {z : Nat → Int32} {x : Int32} (h : ¬ wnr z x < 0) : ∃ N : Nat, 1 ≤ N ∧ N ≤ 99 ∧ x = nI N ∧ z 3 + x ≤ 9999 := by
  unfold wnr at h
  cases h1 : decide (1 ≤ x ∧ x ≤ 99) with
  | false => rw [h1] at h; exact absurd (show (-2 : Int32) < 0 by decide) h
  | true =>
    rw [h1] at h
    obtain ⟨h2, h3⟩ := of_decide_eq_true h1
    obtain ⟨j, hj, e⟩ := nI_of2 (M := 99) (n := 99) rfl (Int32.not_lt.mpr (Int32.le_trans (by decide) h2)) h3
    refine ⟨j, ?_, hj, e, ?_⟩
    · rcases Nat.lt_or_ge j 1 with q | q
      · rw [e, show j = 0 by omega] at h2
        exact absurd h2 (by decide)
      · exact q
    · rcases Int32.le_total (z 3 + x) 9999 with q | q
      · exact q
      · by_cases q2 : z 3 + x ≤ 9999
        · exact q2
        · simp only [cond] at h
          rw [if_neg q2] at h
          exact absurd (by decide) h
theorem wne_ok {z : Nat → Int32} {x e : Int32} (h : ¬ wne z x e < 0) : ∃ c : Nat, c < 10 ∧ x = nI c ∧ zt z c = true ∧ z (10 + 7 * c + 2) = e := by
  unfold wne at h
  cases h1 : isC z x with
  | false => rw [h1] at h; exact absurd (show (-1 : Int32) < 0 by decide) h
  | true =>
    obtain ⟨c, hc, rfl, hz⟩ := isC_of h1
    refine ⟨c, hc, rfl, hz, ?_⟩
    rw [h1] at h
    simp only [cond] at h
    rw [nI_clamp (by omega)] at h
    by_cases q : z (10 + 7 * c + 2) = e
    · exact q
    · rw [if_neg q] at h; exact absurd (by decide) h
theorem upd_id {f : Nat → Int32} {k : Nat} : upd f k (f k) = f := by
  funext j
  unfold upd
  by_cases hj : j = k
  · rw [if_pos hj, hj]
  · rw [if_neg hj]
