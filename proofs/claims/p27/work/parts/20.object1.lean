/-! the class's object: its cells laid over a heap -/
def bs (t : Nat) : Nat := if t = 0 then 4 else if t < 8 then 5 + 13 * t else 6 + 13 * t
theorem bs_h {t : Nat} (h1 : 1 ≤ t) (h2 : t < 8) : bs t = 5 + 13 * t := by unfold bs; rw [if_neg (by omega), if_pos h2]
theorem bs_s {t : Nat} (h2 : 8 ≤ t) : bs t = 6 + 13 * t := by unfold bs; rw [if_neg (by omega), if_neg (by omega)]
theorem bs_in {t : Nat} (h1 : 1 ≤ t) (h2 : t < 10) : (18 ≤ bs t ∧ bs t + 12 ≤ 108) ∨ (110 ≤ bs t ∧ bs t + 12 ≤ 135) := by
  rcases Nat.lt_or_ge t 8 with h | h
  · rw [bs_h h1 h]; omega
  · rw [bs_s h]; omega
theorem bs_dis {t e : Nat} (h1 : 1 ≤ t) (h2 : t < 10) (g1 : 1 ≤ e) (g2 : e < 10) (ne : ¬ t = e) : bs t + 12 < bs e ∨ bs e + 12 < bs t := by
  rcases Nat.lt_or_ge t 8 with h | h <;> rcases Nat.lt_or_ge e 8 with g | g
  · rw [bs_h h1 h, bs_h g1 g]; omega
  · rw [bs_h h1 h, bs_s g]; omega
  · rw [bs_s h, bs_h g1 g]; omega
  · rw [bs_s h, bs_s g]; omega
def bO (ch : Int32) (R R2 : Nat → Option Nat) (sv : Nat → Int32) (g : xHp) : xHp := fun k =>
  cond (Nat.beq k 3) (.inr (3, [.ref 4, .ref 17, .int ch, .ref 109, .ref 136, .ref 137]))
  (cond (Nat.beq k 17) (.inl (3, 7, .inr R)) (cond (Nat.beq k 109) (.inl (3, 2, .inr R2)) (cond (Nat.beq k 136) (.inl (1, 2, .inl sv)) (g k))))
abbrev FF (p : Nat → Int32) (ln ch : Int32) (R R2 : Nat → Option Nat) (sv z s : Nat → Int32) (q : xHp) : xHp := (pOn p ln (bO ch R R2 sv (tOn z s q)))
theorem pOn_out {p : Nat → Int32} {ln : Int32} {g : xHp} {k : Nat} (h : k < 137 ∨ 138 < k) : pOn p ln g k = g k := by
  unfold pOn
  rw [xbeq_no (by omega : ¬ k = 137), xbeq_no (by omega : ¬ k = 138)]
  rfl
theorem pOn_cg {p : Nat → Int32} {ln : Int32} {g g' : xHp} {k : Nat} (h : g k = g' k) : pOn p ln g k = pOn p ln g' k := by
  unfold pOn
  rw [h]
theorem bO_out {ch : Int32} {R R2 : Nat → Option Nat} {sv : Nat → Int32} {g : xHp} {k : Nat} (h3 : ¬ k = 3) (h17 : ¬ k = 17) (h109 : ¬ k = 109) (h136 : ¬ k = 136) : bO ch R R2 sv g k = g k := by
  unfold bO
  rw [xbeq_no h3, xbeq_no h17, xbeq_no h109, xbeq_no h136]
  rfl
theorem bO_cg {ch : Int32} {R R2 : Nat → Option Nat} {sv : Nat → Int32} {g g' : xHp} {k : Nat} (h : g k = g' k) : bO ch R R2 sv g k = bO ch R R2 sv g' k := by
  unfold bO
  rw [h]
theorem tOn_in {z s : Nat → Int32} {g : xHp} {o : Nat} (h : o ≤ 12) : tOn z s g (4 + o) = tc 4 z s o := by
  unfold tOn
  rw [show Nat.ble 4 (4 + o) = true from Nat.ble_eq_true_of_le (by omega), show Nat.ble (4 + o) 16 = true from Nat.ble_eq_true_of_le (by omega), show 4 + o - 4 = o by omega]
  rfl
theorem ble_no {a b : Nat} (h : b < a) : Nat.ble a b = false := by
  cases hb : Nat.ble a b with
  | false => rfl
  | true => exact absurd (Nat.le_of_ble_eq_true hb) (by omega)
theorem tOn_out {z s : Nat → Int32} {g : xHp} {k : Nat} (h : k < 4 ∨ 16 < k) : tOn z s g k = g k := by
  unfold tOn
  rcases h with h | h
  · rw [ble_no h]; rfl
  · rw [ble_no (by omega : 16 < k), Bool.and_false]; rfl
variable {p : Nat → Int32} {ln ch : Int32} {R R2 : Nat → Option Nat} {sv z s : Nat → Int32} {q : xHp}
theorem FF_t : FF p ln ch R R2 sv z s q = tOn z s ((pOn p ln (bO ch R R2 sv q))) := by
  funext k
  by_cases h : 4 ≤ k ∧ k ≤ 16
  · obtain ⟨o, ho, e⟩ : ∃ o, o ≤ 12 ∧ k = 4 + o := ⟨k - 4, by omega, by omega⟩
    subst e
    rw [tOn_in ho]
    show pOn p ln (bO ch R R2 sv (tOn z s q)) (4 + o) = _
    rw [pOn_out (by omega), bO_out (by omega) (by omega) (by omega) (by omega), tOn_in ho]
  · rw [tOn_out (by omega)]
    exact pOn_cg (bO_cg (tOn_out (by omega)))
theorem FF_p : FF p ln ch R R2 sv z s q = pOn p ln ((bO ch R R2 sv (tOn z s q))) := rfl
theorem FF_q {k : Nat} (h : k < 3 ∨ (18 ≤ k ∧ k ≤ 108) ∨ (110 ≤ k ∧ k ≤ 135)) : FF p ln ch R R2 sv z s q k = q k := by
  show pOn p ln (bO ch R R2 sv (tOn z s q)) k = _
  rw [pOn_out (by omega), bO_out (by omega) (by omega) (by omega) (by omega), tOn_out (by omega)]
theorem FF_at {b : Nat} {z1 s1 : Nat → Int32} (h : (18 ≤ b ∧ b + 12 ≤ 108) ∨ (110 ≤ b ∧ b + 12 ≤ 135)) : tAt b z1 s1 (FF p ln ch R R2 sv z s q) = FF p ln ch R R2 sv z s (tAt b z1 s1 q) := by
  funext k
  unfold tAt
  by_cases hk : b ≤ k ∧ k ≤ b + 12
  · rw [if_pos hk, FF_q (by omega), if_pos hk]
  · rw [if_neg hk]
    by_cases hq : k < 3 ∨ (18 ≤ k ∧ k ≤ 108) ∨ (110 ≤ k ∧ k ≤ 135)
    · rw [FF_q hq, FF_q hq, if_neg hk]
    · refine pOn_cg (bO_cg ?_)
      by_cases h4 : k < 4 ∨ 16 < k
      · rw [tOn_out h4, tOn_out h4, if_neg hk]
      · obtain ⟨o, ho, e⟩ : ∃ o, o ≤ 12 ∧ k = 4 + o := ⟨k - 4, by omega, by omega⟩
        subst e
        rw [tOn_in ho, tOn_in ho]
def E80 (a b : Nat → Int32) : Prop := ∀ j, j < 80 → a j = b j
theorem cf_cg {a b : Nat → Int32} {s : Nat → Int32} {c : Nat} (hc : c < 10) (h : E80 a b) : cf a s c = cf b s c := by
  unfold cf zt
  rw [h (10 + 7 * c) (by omega), h (10 + 7 * c + 1) (by omega), h (10 + 7 * c + 2) (by omega), h (10 + 7 * c + 3) (by omega), h (10 + 7 * c + 4) (by omega), h (10 + 7 * c + 5) (by omega)]
theorem tc_cg {b : Nat} {z z' s : Nat → Int32} {o : Nat} (ho : o ≤ 12) (h : E80 z z') : tc b z s o = tc b z' s o :=
  tc_eq o b (fun j hj => h j (by omega)) (fun h3 => cf_cg (by omega) h)
theorem FF_at4 {z1 s1 z2 : Nat → Int32} (h : E80 z1 z2) : tAt 4 z1 s1 (FF p ln ch R R2 sv z s q) = FF p ln ch R R2 sv z2 s1 q := by
  rw [FF_t, FF_t]
  funext k
  unfold tAt
  by_cases hk : 4 ≤ k ∧ k ≤ 16
  · obtain ⟨o, ho, e⟩ : ∃ o, o ≤ 12 ∧ k = 4 + o := ⟨k - 4, by omega, by omega⟩
    subst e
    rw [if_pos (by omega), tOn_in ho, show 4 + o - 4 = o by omega]
    exact tc_cg ho h
  · rw [if_neg (by omega), tOn_out (by omega), tOn_out (by omega)]
theorem FF_z {z2 : Nat → Int32} (h : E80 z z2) : FF p ln ch R R2 sv z s q = FF p ln ch R R2 sv z2 s q := by
  rw [FF_t, FF_t]
  funext k
  by_cases hk : 4 ≤ k ∧ k ≤ 16
  · obtain ⟨o, ho, e⟩ : ∃ o, o ≤ 12 ∧ k = 4 + o := ⟨k - 4, by omega, by omega⟩
    subst e
    rw [tOn_in ho, tOn_in ho]
    exact tc_cg ho h
  · rw [tOn_out (by omega), tOn_out (by omega)]
theorem FF_4 {o : Nat} (ho : o ≤ 12) : FF p ln ch R R2 sv z s q (4 + o) = tc 4 z s o := by
  rw [FF_t, tOn_in ho]
theorem FF_ch {x : Int32} : xup (FF p ln ch R R2 sv z s q) 3 (.inr (3, [.ref 4, .ref 17, .int x, .ref 109, .ref 136, .ref 137])) = FF p ln x R R2 sv z s q := by
  funext k
  by_cases hk : k = 3
  · subst hk; rfl
  · unfold xup
    rw [if_neg hk]
    refine pOn_cg ?_
    unfold bO
    rw [xbeq_no hk]
    rfl
theorem FF_R {R' : Nat → Option Nat} : xup (FF p ln ch R R2 sv z s q) 17 (.inl (3, 7, .inr R')) = FF p ln ch R' R2 sv z s q := by
  funext k
  by_cases hk : k = 17
  · subst hk; rfl
  · unfold xup
    rw [if_neg hk]
    refine pOn_cg ?_
    unfold bO
    rw [xbeq_no hk]
    rfl
theorem FF_sv {f f' : Nat → Int32} (hf : f = f') : xup (FF p ln ch R R2 sv z s q) 136 (.inl (1, 2, .inl f)) = FF p ln ch R R2 f' z s q := by
  subst hf
  funext k
  by_cases hk : k = 136
  · subst hk; rfl
  · unfold xup
    rw [if_neg hk]
    refine pOn_cg ?_
    unfold bO
    rw [xbeq_no hk]
    rfl
/-- the tracks of the history and the slots -/
def Hq (q : xHp) (Z S : Nat → Nat → Int32) : Prop := ∀ t, 1 ≤ t → t < 10 → ∀ o, o ≤ 12 → q (bs t + o) = tc (bs t) (Z t) (S t) o
theorem Hq_at {Z S : Nat → Nat → Int32} {t : Nat} {z1 s1 : Nat → Int32} (h : Hq q Z S) (h1 : 1 ≤ t) (h2 : t < 10) : Hq (tAt (bs t) z1 s1 q) (va_up Z t z1) (va_up S t s1) := by
  intro e g1 g2 o ho
  by_cases he : e = t
  · subst he
    rw [tAt_in ho, va_up_self, va_up_self]
  · rw [va_up_ne _ _ he, va_up_ne _ _ he]
    have hd := bs_dis h1 h2 g1 g2 (fun x => he x.symm)
    unfold tAt
    rw [if_neg (by omega)]
    exact h e g1 g2 o ho
theorem tAt_lo {b : Nat} {z1 s1 : Nat → Int32} {k : Nat} (hb : 3 ≤ b) (hk : k < 3) : tAt b z1 s1 q k = q k := by
  unfold tAt
  rw [if_neg (by omega)]
section RN7
variable {d i pc : Nat} {ls : xLs} {st : List Value} {h h' : xHp} {n n' : Nat} {v : Option Value}
theorem Rn.tk {z' s' : Nat → Int32} (hc : Rn d i pc ls st (tOn z s ((pOn p ln (bO ch R R2 sv q)))) n v (tOn z' s' ((pOn p ln (bO ch R R2 sv q)))) n') : Rn d i pc ls st (FF p ln ch R R2 sv z s q) n v (FF p ln ch R R2 sv z' s' q) n' := by
  rw [FF_t, FF_t]
  exact hc
theorem Rn.pk {p' : Nat → Int32} {ln' : Int32} (hc : Rn d i pc ls st (pOn p ln ((bO ch R R2 sv (tOn z s q)))) n v (pOn p' ln' ((bO ch R R2 sv (tOn z s q)))) n') : Rn d i pc ls st (FF p ln ch R R2 sv z s q) n v (FF p' ln' ch R R2 sv z s q) n' := by
  rw [FF_p, FF_p]
  exact hc
theorem Rn.aastN {e : xEn} {k t len m b ci : Nat} {f : Nat → Option Nat} {fs : List Value} {j : Int32} {r : List Value} (hf : xfind i pc = some e) (he : e.1 = .aastore) (hk : h k = .inl (t, len, .inr f)) (hb : h b = .inr (ci, fs)) (ht : ((Nat.beq t 3 && Nat.beq ci 2) || (Nat.beq t 4 && Nat.beq ci 0)) = true) (hj : j = nI m) (hm : m < len) (hl : len < 2 ^ 31) (kk : Rn d i (pc + 1) ls r (xup h k (.inl (t, len, .inr (va_up f m (some b))))) n v h' n') : Rn d i pc ls (.ref b :: .int j :: .ref k :: r) h n v h' n' := by
  obtain ⟨ins, e2⟩ := e
  dsimp only at he
  subst he
  refine Rn.step1 hf rfl ?_ kk
  subst hj
  show xcQ (h k) _ = _
  rw [hk]
  show xcO (h b) _ = _
  rw [hb]
  show xgd ((Nat.beq t 3 && Nat.beq ci 2) || (Nat.beq t 4 && Nat.beq ci 0)) (xgp (¬ (nI m < 0 ∨ len ≤ (nI m).toNatClampNeg)) _) = _
  rw [xgp_pos (xin_nI hm hl), nI_clamp (Nat.lt_trans hm hl), ht]
  rfl
end RN7
theorem vz_up {α : Type} {f : Nat → α} {k j : Nat} {x : α} (h : ¬ j = k) : va_up f k x j = f j := if_neg h
def shR (R : Nat → Option Nat) (c : Nat) : Nat → Option Nat := fun i => if i < c then R (i + 1) else R i
theorem shR_k {c : Nat} : shR R c (c + 1) = R (c + 1) := if_neg (by omega)
theorem shR_s {c : Nat} {b : Nat} (h : R (c + 1) = some b) : va_up (shR R c) c (some b) = shR R (c + 1) := by
  funext i
  unfold va_up shR
  by_cases hi : i = c
  · subst hi; rw [if_pos rfl, if_pos (by omega), h]
  · rw [if_neg hi]
    by_cases hl : i < c
    · rw [if_pos hl, if_pos (by omega)]
    · rw [if_neg hl, if_neg (by omega)]
def rotR (R : Nat → Option Nat) : Nat → Option Nat := va_up (shR R 6) 6 (R 0)
def rcC (r : Int32) (c : Nat) : Nat := if r < 0 then c else if c < 6 then c + 1 else c
def rcR (r : Int32) (c : Nat) (R : Nat → Option Nat) : Nat → Option Nat := if r < 0 then R else if c < 6 then R else rotR R
def HR (R : Nat → Option Nat) (hr : Nat → Nat) : Prop := ∀ i, i < 7 → R i = some (bs (hr i)) ∧ 1 ≤ hr i ∧ hr i ≤ 7
def kQ (R : Nat → Option Nat) (hr : Nat → Nat) (c : Nat) (z s : Nat → Int32) (q : xHp) : xHp := tAt (bs (hr c)) z s q
section CLASS8
variable (d n : Nat) (hr : Nat → Nat) (Z S : Nat → Nat → Int32)
theorem FF_hd {c : Nat} (hH : Hq q Z S) {t : Nat} (h1 : 1 ≤ t) (h2 : t < 10) {o : Nat} (ho : o ≤ 12) : FF p ln ch R R2 sv z s q (bs t + o) = tc (bs t) (Z t) (S t) o := by
  have := bs_in h1 h2
  rw [FF_q (by omega)]
  exact hH t h1 h2 o ho
theorem m_keep (hR : HR R hr) (hH : Hq q Z S) (c : Nat) (hc : c ≤ 6) (hf : Fl z) : Rn (d + 2) 59 0 [(0, .ref 3)] [] (FF p ln (nI c) R R2 sv z s q) n none (FF p ln (nI c) R R2 sv z s (tAt (bs (hr c)) z s q)) n := by
  obtain ⟨e1, e2, e3⟩ := hR c (by omega)
  have hb := bs_in e2 (by omega : hr c < 10)
  refine Rn.steps 4 rfl ?_
  refine Rn.aaldN (m := c) rfl rfl rfl rfl rfl (by omega) (Nat.le_of_ble_eq_true rfl) e1 ?_
  refine Rn.steps 2 rfl ?_
  refine Rn.callO rfl rfl rfl (show (FF p ln (nI c) R R2 sv z s q) (bs (hr c)) = .inr (2, _) from FF_hd (c := c) Z S hH e2 (by omega) (o := 0) (by omega)) rfl rfl rfl rfl rfl rfl (m_tcopy d n _ (bs (hr c)) 4 (by omega) (by omega) (by omega) z s (Z (hr c)) (S (hr c)) (fun o ho => FF_hd (c := c) Z S hH e2 (by omega) ho) (fun o ho => FF_4 ho) hf) ?_
  refine Rn.heap (FF_at hb) ?_
  exact Rn.retE rfl rfl rfl rfl rfl
theorem m_rec (hR : HR R hr) (hH : Hq q Z S) (c : Nat) (hc : c ≤ 6) (r : Int32) : Rn d 60 0 [(0, .ref 3), (1, .int r)] [] (FF p ln (nI c) R R2 sv z s q) n (some (.int r)) (FF p ln (nI (rcC r c)) (rcR r c R) R2 sv z s q) n := by
  refine Rn.br 2 rfl (fun hc1 => ?_) (fun hc1 => ?_)
  · have h0 : ¬ r < 0 := Int32.not_lt.mpr hc1
    refine Rn.br 4 rfl (fun hc12 => ?_) (fun hc12 => ?_)
    · have h6 : c = 6 := by
        rcases Nat.lt_or_ge c 6 with q1 | q1
        · exact (nI_ge q1 (by omega) hc12).elim
        · omega
      subst h6
      rw [show rcC r 6 = 6 by unfold rcC; rw [if_neg h0, if_neg (by omega)], show rcR r 6 R = rotR R by unfold rcR; rw [if_neg h0, if_neg (by omega)]]
      obtain ⟨e1, e2, e3⟩ := hR 0 (by omega)
      refine Rn.steps 3 rfl ?_
      refine Rn.aaldN (m := 0) rfl rfl rfl rfl rfl (by omega) (Nat.le_of_ble_eq_true rfl) e1 ?_
      refine Rn.steps 3 rfl ?_
      refine Rn.l4 (by decide) rfl rfl rfl rfl (xloop (fun e => Rn d 60 36 [(0, .ref 3), (1, .int r), (2, .ref (bs (hr 0))), (3, .int (nI e))] [] (FF p ln (nI 6) (shR R e) R2 sv z s q) n (some (.int r)) (FF p ln (nI 6) (rotR R) R2 sv z s q) n) 6 ?_ (fun e he ih => ?_))
      · show Rn d 60 36 [(0, .ref 3), (1, .int r), (2, .ref (bs (hr 0))), (3, .int (nI 6))] [] (FF p ln (nI 6) (shR R 6) R2 sv z s q) n _ _ n
        refine Rn.steps 7 rfl ?_
        refine Rn.aastN (m := 6) rfl rfl rfl (show (FF p ln (nI 6) (shR R 6) R2 sv z s q) (bs (hr 0)) = .inr (2, _) from FF_hd (c := 6) Z S hH e2 (by omega) (o := 0) (by omega)) rfl rfl (by omega) (Nat.le_of_ble_eq_true rfl) ?_
        refine Rn.heap FF_R ?_
        refine Rn.steps 1 rfl ?_
        exact Rn.retE rfl rfl rfl rfl (by rw [show rotR R = va_up (shR R 6) 6 (some (bs (hr 0))) by unfold rotR; rw [e1]])
      · obtain ⟨u1, u2, u3⟩ := hR (e + 1) (by omega)
        refine Rn.br 3 rfl (fun hc39 => ?_) (fun hc39 => ?_)
        · exact (nI_ge (show e < 6 by omega) (by omega) hc39).elim
        · refine Rn.steps 8 rfl ?_
          refine Rn.aaldN (m := e + 1) rfl rfl rfl rfl (by rw [← nI_1]) (by omega) (Nat.le_of_ble_eq_true rfl) (shR_k.trans u1) ?_
          refine Rn.aastN (m := e) rfl rfl rfl (show (FF p ln (nI 6) (shR R e) R2 sv z s q) (bs (hr (e + 1))) = .inr (2, _) from FF_hd (c := 6) Z S hH u2 (by omega) (o := 0) (by omega)) rfl rfl (by omega) (Nat.le_of_ble_eq_true rfl) ?_
          refine Rn.heap FF_R ?_
          rw [shR_s u1]
          refine Rn.steps 2 rfl ?_
          exact Rn.l4 (by decide) rfl rfl rfl (by rw [← nI_1 e]; rfl) ih
    · have h6 : c < 6 := by
        rcases Nat.lt_or_ge c 6 with q1 | q1
        · exact q1
        · exact (hc12 (nI_le (a := 6) q1 (by omega))).elim
      rw [show rcC r c = c + 1 by unfold rcC; rw [if_neg h0, if_pos h6], show rcR r c R = R by unfold rcR; rw [if_neg h0, if_pos h6]]
      refine Rn.steps 6 rfl ?_
      refine Rn.heap FF_ch ?_
      rw [nI_1]
      refine Rn.steps 1 rfl ?_
      exact Rn.retE rfl rfl rfl rfl rfl
  · rw [show rcC r c = c from if_pos (Int32.not_le.mp hc1), show rcR r c R = R from if_pos (Int32.not_le.mp hc1)]
    refine Rn.steps 1 rfl ?_
    exact Rn.retE rfl rfl rfl rfl rfl
theorem b_set (hR : HR R hr) (hH : Hq q Z S) (c : Nat) (hc : c ≤ 6) (hf : Fl z) (x y : Int32) (r : Int32) (z' s' : Nat → Int32) (hm : Rn (d + 2) 49 0 [(0, .ref 4), (1, .int x), (2, .int y)] [] (tOn z s ((pOn p ln (bO (nI c) R R2 sv (tAt (bs (hr c)) z s q))))) n (some (.int r)) (tOn z' s' ((pOn p ln (bO (nI c) R R2 sv (tAt (bs (hr c)) z s q))))) n) : Rn (d + 3) 61 0 [(0, .ref 3), (1, .int x), (2, .int y)] [] (FF p ln (nI c) R R2 sv z s q) n (some (.int r)) (FF p ln (nI (rcC r c)) (rcR r c R) R2 sv z' s' (tAt (bs (hr c)) z s q)) n := by
  obtain ⟨e1, e2, e3⟩ := hR c (by omega)
  have hH2 := Hq_at (z1 := z) (s1 := s) hH e2 (by omega : hr c < 10)
  refine Rn.steps 1 rfl ?_
  refine Rn.call rfl rfl rfl (m_keep d n hr Z S hR hH c hc hf) ?_
  refine Rn.steps 5 rfl ?_
  refine Rn.call rfl rfl rfl (Rn.tk hm) ?_
  refine Rn.call rfl rfl rfl (m_rec (d + 2) n hr _ _ hR hH2 c hc r) ?_
  exact Rn.retE rfl rfl rfl rfl rfl
theorem b_carrier (hR : HR R hr) (hH : Hq q Z S) (c : Nat) (hc : c ≤ 6) (hf : Fl z) (x y : Int32) (r : Int32) (z' s' : Nat → Int32) (hm : Rn (d + 2) 50 0 [(0, .ref 4), (1, .int x), (2, .int y)] [] (tOn z s ((pOn p ln (bO (nI c) R R2 sv (tAt (bs (hr c)) z s q))))) n (some (.int r)) (tOn z' s' ((pOn p ln (bO (nI c) R R2 sv (tAt (bs (hr c)) z s q))))) n) : Rn (d + 3) 62 0 [(0, .ref 3), (1, .int x), (2, .int y)] [] (FF p ln (nI c) R R2 sv z s q) n (some (.int r)) (FF p ln (nI (rcC r c)) (rcR r c R) R2 sv z' s' (tAt (bs (hr c)) z s q)) n := by
  obtain ⟨e1, e2, e3⟩ := hR c (by omega)
  have hH2 := Hq_at (z1 := z) (s1 := s) hH e2 (by omega : hr c < 10)
  refine Rn.steps 1 rfl ?_
  refine Rn.call rfl rfl rfl (m_keep d n hr Z S hR hH c hc hf) ?_
  refine Rn.steps 5 rfl ?_
  refine Rn.call rfl rfl rfl (Rn.tk hm) ?_
  refine Rn.call rfl rfl rfl (m_rec (d + 2) n hr _ _ hR hH2 c hc r) ?_
  exact Rn.retE rfl rfl rfl rfl rfl
theorem b_takeOut (hR : HR R hr) (hH : Hq q Z S) (c : Nat) (hc : c ≤ 6) (hf : Fl z) (x : Int32) (r : Int32) (z' s' : Nat → Int32) (hm : Rn (d + 2) 51 0 [(0, .ref 4), (1, .int x)] [] (tOn z s ((pOn p ln (bO (nI c) R R2 sv (tAt (bs (hr c)) z s q))))) n (some (.int r)) (tOn z' s' ((pOn p ln (bO (nI c) R R2 sv (tAt (bs (hr c)) z s q))))) n) : Rn (d + 3) 63 0 [(0, .ref 3), (1, .int x)] [] (FF p ln (nI c) R R2 sv z s q) n (some (.int r)) (FF p ln (nI (rcC r c)) (rcR r c R) R2 sv z' s' (tAt (bs (hr c)) z s q)) n := by
  obtain ⟨e1, e2, e3⟩ := hR c (by omega)
  have hH2 := Hq_at (z1 := z) (s1 := s) hH e2 (by omega : hr c < 10)
  refine Rn.steps 1 rfl ?_
  refine Rn.call rfl rfl rfl (m_keep d n hr Z S hR hH c hc hf) ?_
  refine Rn.steps 4 rfl ?_
  refine Rn.call rfl rfl rfl (Rn.tk hm) ?_
  refine Rn.call rfl rfl rfl (m_rec (d + 2) n hr _ _ hR hH2 c hc r) ?_
  exact Rn.retE rfl rfl rfl rfl rfl
theorem b_run (hR : HR R hr) (hH : Hq q Z S) (c : Nat) (hc : c ≤ 6) (hf : Fl z) (x : Int32) (r : Int32) (z' s' : Nat → Int32) (hm : Rn (d + 3) 53 0 [(0, .ref 4), (1, .int x)] [] (tOn z s ((pOn p ln (bO (nI c) R R2 sv (tAt (bs (hr c)) z s q))))) n (some (.int r)) (tOn z' s' ((pOn p ln (bO (nI c) R R2 sv (tAt (bs (hr c)) z s q))))) n) : Rn (d + 4) 64 0 [(0, .ref 3), (1, .int x)] [] (FF p ln (nI c) R R2 sv z s q) n (some (.int r)) (FF p ln (nI (rcC r c)) (rcR r c R) R2 sv z' s' (tAt (bs (hr c)) z s q)) n := by
  obtain ⟨e1, e2, e3⟩ := hR c (by omega)
  have hH2 := Hq_at (z1 := z) (s1 := s) hH e2 (by omega : hr c < 10)
  refine Rn.steps 1 rfl ?_
  refine Rn.call rfl rfl rfl (m_keep (d + 1) n hr Z S hR hH c hc hf) ?_
  refine Rn.steps 4 rfl ?_
  refine Rn.call rfl rfl rfl (Rn.tk hm) ?_
  refine Rn.call rfl rfl rfl (m_rec (d + 3) n hr _ _ hR hH2 c hc r) ?_
  exact Rn.retE rfl rfl rfl rfl rfl
theorem b_snap (hR : HR R hr) (hH : Hq q Z S) (c : Nat) (hc : c ≤ 6) (hf : Fl z) (x : Int32) (r : Int32) (z' s' : Nat → Int32) (hm : Rn (d + 2) 54 0 [(0, .ref 4), (1, .int x)] [] (tOn z s ((pOn p ln (bO (nI c) R R2 sv (tAt (bs (hr c)) z s q))))) n (some (.int r)) (tOn z' s' ((pOn p ln (bO (nI c) R R2 sv (tAt (bs (hr c)) z s q))))) n) : Rn (d + 3) 65 0 [(0, .ref 3), (1, .int x)] [] (FF p ln (nI c) R R2 sv z s q) n (some (.int r)) (FF p ln (nI (rcC r c)) (rcR r c R) R2 sv z' s' (tAt (bs (hr c)) z s q)) n := by
  obtain ⟨e1, e2, e3⟩ := hR c (by omega)
  have hH2 := Hq_at (z1 := z) (s1 := s) hH e2 (by omega : hr c < 10)
  refine Rn.steps 1 rfl ?_
  refine Rn.call rfl rfl rfl (m_keep d n hr Z S hR hH c hc hf) ?_
  refine Rn.steps 4 rfl ?_
  refine Rn.call rfl rfl rfl (Rn.tk hm) ?_
  refine Rn.call rfl rfl rfl (m_rec (d + 2) n hr _ _ hR hH2 c hc r) ?_
  exact Rn.retE rfl rfl rfl rfl rfl
theorem b_tie (hR : HR R hr) (hH : Hq q Z S) (c : Nat) (hc : c ≤ 6) (hf : Fl z) (x : Int32) (r : Int32) (z' s' : Nat → Int32) (hm : Rn (d + 2) 55 0 [(0, .ref 4), (1, .int x)] [] (tOn z s ((pOn p ln (bO (nI c) R R2 sv (tAt (bs (hr c)) z s q))))) n (some (.int r)) (tOn z' s' ((pOn p ln (bO (nI c) R R2 sv (tAt (bs (hr c)) z s q))))) n) : Rn (d + 3) 66 0 [(0, .ref 3), (1, .int x)] [] (FF p ln (nI c) R R2 sv z s q) n (some (.int r)) (FF p ln (nI (rcC r c)) (rcR r c R) R2 sv z' s' (tAt (bs (hr c)) z s q)) n := by
  obtain ⟨e1, e2, e3⟩ := hR c (by omega)
  have hH2 := Hq_at (z1 := z) (s1 := s) hH e2 (by omega : hr c < 10)
  refine Rn.steps 1 rfl ?_
  refine Rn.call rfl rfl rfl (m_keep d n hr Z S hR hH c hc hf) ?_
  refine Rn.steps 4 rfl ?_
  refine Rn.call rfl rfl rfl (Rn.tk hm) ?_
  refine Rn.call rfl rfl rfl (m_rec (d + 2) n hr _ _ hR hH2 c hc r) ?_
  exact Rn.retE rfl rfl rfl rfl rfl
theorem b_refill (hR : HR R hr) (hH : Hq q Z S) (c : Nat) (hc : c ≤ 6) (hf : Fl z) (x : Int32) (r : Int32) (z' s' : Nat → Int32) (hm : Rn (d + 2) 56 0 [(0, .ref 4), (1, .int x)] [] (tOn z s ((pOn p ln (bO (nI c) R R2 sv (tAt (bs (hr c)) z s q))))) n (some (.int r)) (tOn z' s' ((pOn p ln (bO (nI c) R R2 sv (tAt (bs (hr c)) z s q))))) n) : Rn (d + 3) 67 0 [(0, .ref 3), (1, .int x)] [] (FF p ln (nI c) R R2 sv z s q) n (some (.int r)) (FF p ln (nI (rcC r c)) (rcR r c R) R2 sv z' s' (tAt (bs (hr c)) z s q)) n := by
  obtain ⟨e1, e2, e3⟩ := hR c (by omega)
  have hH2 := Hq_at (z1 := z) (s1 := s) hH e2 (by omega : hr c < 10)
  refine Rn.steps 1 rfl ?_
  refine Rn.call rfl rfl rfl (m_keep d n hr Z S hR hH c hc hf) ?_
  refine Rn.steps 4 rfl ?_
  refine Rn.call rfl rfl rfl (Rn.tk hm) ?_
  refine Rn.call rfl rfl rfl (m_rec (d + 2) n hr _ _ hR hH2 c hc r) ?_
  exact Rn.retE rfl rfl rfl rfl rfl
end CLASS8
