/-! the reference: what if, steps, runs -/
def mZ (A : Nat → Nat → Int32) (z a : Nat → Int32) : Nat → Nat → Int32 := va_up (va_up A 0 z) 5 a
theorem mZ_up5 {A : Nat → Nat → Int32} {z a b : Nat → Int32} : va_up (mZ A z a) 5 b = mZ A z b := bx_uu _ _ _ _
theorem mZ_up0 {A : Nat → Nat → Int32} {z a z' : Nat → Int32} : va_up (mZ A z a) 0 z' = mZ A z' a := by
  funext j
  unfold mZ va_up
  by_cases h0 : j = 0
  · subst h0; rfl
  · by_cases h5 : j = 5
    · subst h5; rfl
    · rw [if_neg h0, if_neg h5, if_neg h5, if_neg h0, if_neg h0]
theorem mZ_self (A : Nat → Nat → Int32) : mZ A (A 0) (A 5) = A := by
  unfold mZ
  rw [xup_self, xup_self]
def Ag (m : Nat) (a q : Nat → Int32) : Prop := ∀ k, k < m → a k = q k
theorem Ag.rf (m : Nat) (a : Nat → Int32) : Ag m a a := fun _ _ => rfl
theorem Ag.hr {m : Nat} {a q : Nat → Int32} (h : Ag m a q) (hn ct : Int32) : ∀ k, k ≤ m → mHr a hn ct k = mHr q hn ct k := by
  intro k
  induction k with
  | zero => intro _; rfl
  | succ k ih => intro hk; unfold mHr; rw [ih (by omega), h k (by omega)]
theorem Ag.mt {m : Nat} {a q : Nat → Int32} (h : Ag m a q) (H : Nat) (hn : Int32) : ∀ j, mMt a m H hn j = mMt q m H hn j := by
  intro j
  induction j with
  | zero => rfl
  | succ j ih => unfold mMt; rw [ih, h.hr hn _ m (Nat.le_refl _)]
theorem Ag.st {m : Nat} {a q : Nat → Int32} (h : Ag m a q) (hn : Int32) : Ag m (sPl hn a m) (sPl hn q m) := by
  intro k hk
  unfold sPl
  rw [if_pos hk, if_pos hk, h k hk]
theorem Ag.tk {m : Nat} {a q : Nat → Int32} (h : Ag m a q) (p : Int32) : ∀ k, k ≤ m → mTk a p k = mTk q p k := by
  intro k
  induction k with
  | zero => intro _; rfl
  | succ k ih => intro hk; unfold mTk; rw [ih (by omega), h k (by omega)]
theorem Ag.ab {m : Nat} {a q : Nat → Int32} (h : Ag m a q) (z : Nat → Int32) : ∀ c, mAb z a m c = mAb z q m c := by
  intro c
  induction c with
  | zero => rfl
  | succ c ih => unfold mAb; rw [ih, h.tk _ m (Nat.le_refl _)]
theorem tpm_mono (z : Nat → Int32) (c e : Nat) (h : c ≤ e) : tpm z c ≤ tpm z e := by
  induction e with
  | zero => rw [Nat.le_zero.mp h]; exact Nat.le_refl _
  | succ e ih =>
    by_cases hc : c ≤ e
    · refine Nat.le_trans (ih hc) ?_
      rw [show tpm z (e + 1) = cond (zt z e) (tpm z e + 1) (tpm z e) from rfl]
      cases zt z e <;> simp only [cond] <;> omega
    · rw [show c = e + 1 by omega]; exact Nat.le_refl _
theorem Ag.ct {m : Nat} {a q : Nat → Int32} (h : Ag m a q) (z : Nat → Int32) (p : Int32) : ∀ c, tpm z c ≤ m → mCt z a p c = mCt z q p c := by
  intro c
  induction c with
  | zero => intro _; rfl
  | succ c ih =>
    intro hc
    have h1 := tpm_mono z c (c + 1) (Nat.le_succ _)
    unfold mCt
    rw [ih (by omega)]
    cases hz : zt z c with
    | false => rfl
    | true =>
      have h2 : tpm z (c + 1) = tpm z c + 1 := by rw [show tpm z (c + 1) = cond (zt z c) (tpm z c + 1) (tpm z c) from rfl, hz]; rfl
      rw [h (mCt z q p c).2 (by rw [mCt_le]; omega)]
theorem Ag.tp (z a b : Nat → Int32) : ∀ c, Ag (tpm z c) (tpl z a c) (tpl z b c) := by
  intro c
  induction c with
  | zero => intro k hk; exact absurd hk (Nat.not_lt_zero _)
  | succ c ih =>
    intro k hk
    unfold tpl
    unfold tpm at hk
    cases hz : zt z c with
    | false => rw [hz] at hk; exact ih k hk
    | true =>
      rw [hz] at hk
      simp only [cond] at hk ⊢
      unfold upd
      by_cases hk2 : k = tpm z c
      · rw [if_pos hk2, if_pos hk2]
      · rw [if_neg hk2, if_neg hk2]; exact ih k (by omega)
def plz (z : Nat → Int32) : Nat → Int32 := tpl z (fun _ => 0) 10
/-- where two meet now: the contact, or -6 -/
def mtz (z q : Nat → Int32) (m P : Nat) : Int32 := mMt q m (2 * P) (2 * z 0) (2 * P)
def pls (hn : Int32) (m : Nat) (q : Nat → Int32) : Nat → Nat → Int32 | 0 => q | i + 1 => sPl hn (pls hn m q i) m
/-- how many steps are done up to a meeting: fuel, steps already done -/
def mi (z : Nat → Int32) (m P : Nat) (q : Nat → Int32) : Nat → Nat → Nat | 0, c => c | r + 1, c => if mtz z (pls (2 * z 0) m q c) m P = -6 then mi z m P q r (c + 1) else c
def miR (z : Nat → Int32) (m P : Nat) (q : Nat → Int32) : Int32 := if mi z m P q 100 0 < 100 then nI (mi z m P q 100 0 + 1) else -6
theorem mi_ge (z : Nat → Int32) (m P : Nat) (q : Nat → Int32) : ∀ r c, c ≤ mi z m P q r c := by
  intro r
  induction r with
  | zero => intro c; exact Nat.le_refl _
  | succ r ih =>
    intro c
    unfold mi
    split
    · exact Nat.le_trans (Nat.le_succ _) (ih (c + 1))
    · exact Nat.le_refl _
theorem mi_le (z : Nat → Int32) (m P : Nat) (q : Nat → Int32) : ∀ r c, mi z m P q r c ≤ c + r := by
  intro r
  induction r with
  | zero => intro c; exact Nat.le_refl _
  | succ r ih =>
    intro c
    unfold mi
    split
    · have := ih (c + 1); omega
    · omega
def whyF (z : Nat → Int32) (P : Nat) : Int32 := if tpm z 10 = 0 then 1 else if 0 < mSum z 2 10 then 2 else cond (mEmp z 10) 3 (if mtz z (plz z) (tpm z 10) P = -6 then 0 else 4)
def sx1 (z : Nat → Int32) (c : Nat) (x : Int32) : Nat → Int32 := upd z (10 + 7 * c + 3) (z (10 + 7 * c + 3) + x)
def sx2 (z : Nat → Int32) (c : Nat) (x : Int32) : Nat → Int32 := upd z (10 + 7 * c + 4) (z (10 + 7 * c + 4) + x)
def sx3 (z : Nat → Int32) (c : Nat) (p : Int32) : Nat → Int32 := upd z (10 + 7 * c + 0) (o32 (2 * z 0) p)
def sx4 (z : Nat → Int32) (c : Nat) : Nat → Int32 := upd z (10 + 7 * c + 1) (z (10 + 7 * c + 1) - 1)
def sx5 (z : Nat → Int32) (c : Nat) : Nat → Int32 := upd z (10 + 7 * c + 5) (z (10 + 7 * c + 5) + 1)
def sx6 (z : Nat → Int32) : Nat → Int32 := upd z 8 (z 8 + 1)
def stX (z : Nat → Int32) (c : Nat) (p x y : Int32) : Nat → Int32 := sx6 (sx5 (sx4 (sx3 (sx2 (sx1 z c x) c y) c p) c) c)
def stC (z : Nat → Int32) (c : Nat) : Nat → Int32 := stX z c (t32 (z (10 + 7 * c))) (if rm (t32 (z (10 + 7 * c))) 4 = 1 then 1 else 0) (if rm (t32 (z (10 + 7 * c))) 4 = 3 then 1 else 0)
def stZ (z : Nat → Int32) : Nat → Nat → Int32 | 0 => z | c + 1 => cond (zt (stZ z c) c) (stC (stZ z c) c) (stZ z c)
theorem stZ_f {z : Nat → Int32} {c : Nat} (hz : zt (stZ z c) c = false) : stZ z (c + 1) = stZ z c := by rw [stZ, hz]; rfl
theorem stZ_t {z : Nat → Int32} {c : Nat} {p x y : Int32} (hz : zt (stZ z c) c = true) (hp : p = t32 (stZ z c (10 + 7 * c))) (hx : (if rm p 4 = 1 then (1 : Int32) else 0) = x) (hy : (if rm p 4 = 3 then (1 : Int32) else 0) = y) : stZ z (c + 1) = sx6 (sx5 (sx4 (sx3 (sx2 (sx1 (stZ z c) c x) c y) c p) c) c) := by
  rw [stZ, hz]
  show stC (stZ z c) c = _
  unfold stC stX
  rw [← hp, hx, hy]
def stF (z : Nat → Int32) : Nat → Int32 := upd (upd (stZ z 10) 4 (stZ z 10 4 + stZ z 10 1)) 3 (stZ z 10 3 + 1)
theorem upd_ne {f : Nat → Int32} {k j : Nat} {x : Int32} (h : ¬ j = k) : upd f k x j = f j := if_neg h
theorem upd_eq {f : Nat → Int32} {k : Nat} {x : Int32} : upd f k x k = x := if_pos rfl
theorem stZ_lo (z : Nat → Int32) (c j : Nat) (hj : j < 8) : stZ z c j = z j := by
  induction c with
  | zero => rfl
  | succ c ih =>
    unfold stZ
    cases zt (stZ z c) c with
    | false => exact ih
    | true =>
      show stX _ _ _ _ _ j = z j
      unfold stX sx6 sx5 sx4 sx3 sx2 sx1
      rw [upd_ne (by omega), upd_ne (by omega), upd_ne (by omega), upd_ne (by omega), upd_ne (by omega), upd_ne (by omega)]
      exact ih
section MODEL4
variable (d n : Nat) (A : Nat → Nat → Int32) (w : Nat → Int32) (g h : xHp)
theorem k_meetAt (z a q : Nat → Int32) (m P : Nat) (hP : z 0 = nI P) (h2 : 2 ≤ P) (h6 : P ≤ 6) (hm : m ≤ 11) (hq : Ag m a q) : Rn (d + 2) 104 0 [(0, .ref 139)] [] (mOn (mZ A z a) (upd w 2 (nI m)) g) n (some (.int (mtz z q m P))) (mOn (mZ A z a) (upd w 2 (nI m)) g) n := by
  have k1 := c_meetAt d n (mZ A z a) (upd w 2 (nI m)) g P hP h2 h6 m upd_eq hm
  rw [show mMt (mZ A z a 5) m (2 * P) (2 * mZ A z a 0 0) (2 * P) = mtz z q m P from hq.mt _ _ _] at k1
  exact k1
theorem k_step (z a : Nat → Int32) (m P : Nat) (hP : z 0 = nI P) (h2 : 2 ≤ P) (h6 : P ≤ 6) (hm : m ≤ 11) : Rn (d + 2) 105 0 [(0, .ref 139)] [] (mOn (mZ A z a) (upd w 2 (nI m)) g) n none (mOn (mZ A z (sPl (2 * z 0) a m)) (upd w 2 (nI m)) g) n := by
  have k1 := c_stepPlaces d n (mZ A z a) (upd w 2 (nI m)) g (x2ne hP h2 h6) m upd_eq hm
  rw [mZ_up5] at k1
  exact k1
theorem k_take (z a : Nat → Int32) (x : Int32) : Rn (d + 2) 102 0 [(0, .ref 139)] [] (mOn (mZ A z a) (upd w 2 x) g) n none (mOn (mZ A z (tpl z a 10)) (upd w 2 (nI (tpm z 10))) g) n := by
  have k1 := c_takePlaces d n (mZ A z a) (upd w 2 x) g
  rw [mZ_up5, upd_upd] at k1
  exact k1
theorem k_meetsIn (z q : Nat → Int32) (m P : Nat) (hP : z 0 = nI P) (h2 : 2 ≤ P) (h6 : P ≤ 6) (hm : m ≤ 11) (a : Nat → Int32) (hq : Ag m a q) : ∃ a', Ag m a' (pls (2 * z 0) m q (mi z m P q 100 0)) ∧ Rn (d + 3) 133 0 [(0, .ref 139)] [] (mOn (mZ A z a) (upd w 2 (nI m)) g) n (some (.int (miR z m P q))) (mOn (mZ A z a') (upd w 2 (nI m)) g) n := by
  have key : ∀ a, Ag m a (pls (2 * z 0) m q 0) → ∃ a', Ag m a' (pls (2 * z 0) m q (mi z m P q (100 - 0) 0)) ∧ Rn (d + 3) 133 2 [(0, .ref 139), (1, .int (nI (0 + 1)))] [] (mOn (mZ A z a) (upd w 2 (nI m)) g) n (some (.int (if mi z m P q (100 - 0) 0 < 100 then nI (mi z m P q (100 - 0) 0 + 1) else -6))) (mOn (mZ A z a') (upd w 2 (nI m)) g) n := by
    refine xloop (fun c => ∀ a, Ag m a (pls (2 * z 0) m q c) → ∃ a', Ag m a' (pls (2 * z 0) m q (mi z m P q (100 - c) c)) ∧ Rn (d + 3) 133 2 [(0, .ref 139), (1, .int (nI (c + 1)))] [] (mOn (mZ A z a) (upd w 2 (nI m)) g) n (some (.int (if mi z m P q (100 - c) c < 100 then nI (mi z m P q (100 - c) c + 1) else -6))) (mOn (mZ A z a') (upd w 2 (nI m)) g) n) 100 ?_ (fun c hc ih => ?_)
    · intro a ha
      refine ⟨a, ha, ?_⟩
      rw [if_neg (by show ¬ mi z m P q 0 100 < 100; unfold mi; omega)]
      refine Rn.steps 7 rfl ?_
      exact Rn.retE rfl rfl rfl rfl rfl
    · intro a ha
      have hs : 100 - c = (100 - (c + 1)) + 1 := by omega
      by_cases hz : mtz z (pls (2 * z 0) m q c) m P = -6
      · have hmi : mi z m P q (100 - c) c = mi z m P q (100 - (c + 1)) (c + 1) := by rw [hs, mi, if_pos hz]
        rw [hmi]
        obtain ⟨a', g1, g2⟩ := ih (sPl (2 * z 0) a m) (ha.st _)
        refine ⟨a', g1, ?_⟩
        refine Rn.br 3 rfl (fun hc5 => ?_) (fun hc5 => ?_)
        · exact (nI_nlt (a := 100) (b := c + 1) (by omega) (by omega) hc5).elim
        · refine Rn.steps 1 rfl ?_
          refine Rn.call rfl rfl rfl (k_meetAt (d) n A w g z a _ m P hP h2 h6 hm ha) ?_
          refine Rn.br 2 rfl (fun hc14 => ?_) (fun hc14 => ?_)
          · refine Rn.steps 1 rfl ?_
            refine Rn.call rfl rfl rfl (k_step d n A w g z a m P hP h2 h6 hm) ?_
            refine Rn.steps 2 rfl ?_
            exact Rn.l2 rfl rfl (by rw [← nI_1 (c + 1)]; rfl) g2
          · exact (hc14 hz).elim
      · have hmi : mi z m P q (100 - c) c = c := by rw [hs, mi, if_neg hz]
        rw [hmi, if_pos hc]
        refine ⟨a, ha, ?_⟩
        refine Rn.br 3 rfl (fun hc5 => ?_) (fun hc5 => ?_)
        · exact (nI_nlt (a := 100) (b := c + 1) (by omega) (by omega) hc5).elim
        · refine Rn.steps 1 rfl ?_
          refine Rn.call rfl rfl rfl (k_meetAt (d) n A w g z a _ m P hP h2 h6 hm ha) ?_
          refine Rn.br 2 rfl (fun hc14 => ?_) (fun hc14 => ?_)
          · exact (hz hc14).elim
          · refine Rn.br 3 rfl (fun hc30 => ?_) (fun hc30 => ?_)
            · exact (nI_nlt (a := 100) (b := c + 1) (by omega) (by omega) hc30).elim
            · refine Rn.steps 2 rfl ?_
              exact Rn.retE rfl rfl rfl rfl rfl
  obtain ⟨a', g1, g2⟩ := key a hq
  exact ⟨a', g1, Rn.steps 2 rfl (Rn.l2 rfl rfl rfl g2)⟩
theorem k_why (z a : Nat → Int32) (x : Int32) (P : Nat) (hP : z 0 = nI P) (h2 : 2 ≤ P) (h6 : P ≤ 6) : Rn (d + 3) 117 0 [(0, .ref 139)] [] (mOn (mZ A z a) (upd w 2 x) g) n (some (.int (whyF z P))) (mOn (mZ A z (tpl z a 10)) (upd w 2 (nI (tpm z 10))) g) n := by
  have hm := tpm_le z 10
  refine Rn.steps 1 rfl ?_
  refine Rn.call rfl rfl rfl (k_take (d) n A w g z a x) ?_
  refine Rn.br 3 rfl (fun hc8 => ?_) (fun hc8 => ?_)
  · have e1 : tpm z 10 = 0 := (nI_eq (a := tpm z 10) (b := 0) (by omega) (by omega)).mp hc8
    refine Rn.steps 2 rfl ?_
    exact Rn.retE rfl rfl rfl (by unfold whyF; first | (rw [if_pos e1]; done) | (rw [if_neg e1]; first | (rw [if_pos e2]; done) | (rw [if_neg e2, e3]; first | rfl | (simp only [cond]; first | (rw [if_pos hc44]; done) | (rw [if_neg hc44]; done))))) rfl
  · have e1 : ¬ tpm z 10 = 0 := fun q => hc8 (by show nI (tpm z 10) = 0; rw [q]; rfl)
    refine Rn.steps 2 rfl ?_
    refine Rn.call rfl rfl rfl (c_sum d n (mZ A z (tpl z a 10)) _ g 2 (by omega)) ?_
    refine Rn.br 1 rfl (fun hc20 => ?_) (fun hc20 => ?_)
    · have e2 : ¬ 0 < mSum z 2 10 := Int32.not_lt.mpr hc20
      refine Rn.steps 1 rfl ?_
      refine Rn.call rfl rfl rfl (c_isEmpty d n (mZ A z (tpl z a 10)) _ g) ?_
      refine Rn.br 1 rfl (fun hc31 => ?_) (fun hc31 => ?_)
      · have e3 : mEmp z 10 = false := bi_eq0 hc31
        refine Rn.steps 1 rfl ?_
        refine Rn.call rfl rfl rfl (k_meetAt d n A w g z (tpl z a 10) (plz z) (tpm z 10) P hP h2 h6 (by omega) (Ag.tp z a _ 10)) ?_
        refine Rn.br 2 rfl (fun hc44 => ?_) (fun hc44 => ?_)
        · refine Rn.steps 1 rfl ?_
          exact Rn.retE rfl rfl rfl (by unfold whyF; first | (rw [if_pos e1]; done) | (rw [if_neg e1]; first | (rw [if_pos e2]; done) | (rw [if_neg e2, e3]; first | rfl | (simp only [cond]; first | (rw [if_pos hc44]; done) | (rw [if_neg hc44]; done))))) rfl
        · refine Rn.steps 2 rfl ?_
          exact Rn.retE rfl rfl rfl (by unfold whyF; first | (rw [if_pos e1]; done) | (rw [if_neg e1]; first | (rw [if_pos e2]; done) | (rw [if_neg e2, e3]; first | rfl | (simp only [cond]; first | (rw [if_pos hc44]; done) | (rw [if_neg hc44]; done))))) rfl
      · have e3 : mEmp z 10 = true := bi_ne0 hc31
        refine Rn.steps 2 rfl ?_
        exact Rn.retE rfl rfl rfl (by unfold whyF; first | (rw [if_pos e1]; done) | (rw [if_neg e1]; first | (rw [if_pos e2]; done) | (rw [if_neg e2, e3]; first | rfl | (simp only [cond]; first | (rw [if_pos hc44]; done) | (rw [if_neg hc44]; done))))) rfl
    · have e2 : 0 < mSum z 2 10 := Int32.not_le.mp hc20
      refine Rn.steps 2 rfl ?_
      exact Rn.retE rfl rfl rfl (by unfold whyF; first | (rw [if_pos e1]; done) | (rw [if_neg e1]; first | (rw [if_pos e2]; done) | (rw [if_neg e2, e3]; first | rfl | (simp only [cond]; first | (rw [if_pos hc44]; done) | (rw [if_neg hc44]; done))))) rfl
theorem c_step (hne : ¬ 2 * A 0 0 = 0) : Rn (d + 2) 118 0 [(0, .ref 139)] [] (mOn A w g) n none (mOn (va_up A 0 (stF (A 0))) w g) n := by
  refine Rn.steps 2 rfl ?_
  refine Rn.l2 rfl rfl rfl (Rn.heap (h2 := mOn (va_up A 0 (stZ (A 0) 0)) w g) (by rw [show stZ (A 0) 0 = A 0 from rfl, xup_self]) (xloop (fun c => Rn (d + 2) 118 2 [(0, .ref 139), (1, .int (nI c))] [] (mOn (va_up A 0 (stZ (A 0) c)) w g) n none (mOn (va_up A 0 (stF (A 0))) w g) n) 10 ?_ (fun c hc ih => ?_)))
  · refine Rn.steps 7 rfl ?_
    refine Rn.ialdN (m := 4) rfl rfl rfl (rfl) (by omega) (Nat.le_of_ble_eq_true rfl) ?_
    refine Rn.steps 3 rfl ?_
    refine Rn.ialdN (m := 1) rfl rfl rfl (rfl) (by omega) (Nat.le_of_ble_eq_true rfl) ?_
    refine Rn.steps 1 rfl ?_
    refine Rn.iastN (m := 4) rfl rfl rfl rfl (rfl) (by omega) (Nat.le_of_ble_eq_true rfl) ?_
    rw [mOn_0, bx_uu]
    refine Rn.steps 4 rfl ?_
    refine Rn.ialdN (m := 3) rfl rfl rfl (rfl) (by omega) (Nat.le_of_ble_eq_true rfl) ?_
    refine Rn.steps 2 rfl ?_
    refine Rn.iastN (m := 3) rfl rfl rfl rfl (rfl) (by omega) (Nat.le_of_ble_eq_true rfl) ?_
    rw [mOn_0, bx_uu]
    exact Rn.retE rfl rfl rfl rfl rfl
  · have hne2 : ¬ 2 * stZ (A 0) c 0 = 0 := by rw [stZ_lo _ _ _ (by omega)]; exact hne
    obtain ⟨p, hp⟩ : ∃ p, p = t32 (stZ (A 0) c (10 + 7 * c)) := ⟨_, rfl⟩
    have hne3 : ∀ x y, ¬ 2 * sx2 (sx1 (stZ (A 0) c) c x) c y 0 = 0 := by
      intro x y
      unfold sx2 sx1
      rw [upd_ne (by omega), upd_ne (by omega)]
      exact hne2
    refine Rn.br 3 rfl (fun hc5 => ?_) (fun hc5 => ?_)
    · exact (nI_ge hc (by omega) hc5).elim
    · refine Rn.steps 2 rfl ?_
      refine Rn.call rfl rfl rfl (c_isC d n (va_up A 0 (stZ (A 0) c)) w g c hc) ?_
      refine Rn.br 1 rfl (fun hc13 => ?_) (fun hc13 => ?_)
      · have hz : zt (stZ (A 0) c) c = false := bi_eq0 hc13
        refine Rn.steps 2 rfl ?_
        first
        | exact Rn.l2 rfl rfl (by rw [← nI_1]; rfl) (Rn.heap (by rw [stZ_f hz]) ih)
        | exact Rn.l2 rfl rfl (by rw [← nI_1]; rfl) (Rn.heap (by rw [stZ_t hz hp e1 e3]) ih)
      · have hz : zt (stZ (A 0) c) c = true := bi_ne0 hc13
        refine Rn.steps 3 rfl ?_
        refine Rn.call rfl rfl rfl (c_of1 (d + 1) n _ w g c 0 hc (by omega)) ?_
        refine Rn.call rfl rfl rfl (c_turned (d + 1) n _ _) ?_
        refine Rn.stk (st2 := [.int p]) (by rw [hp]; rfl) ?_
        refine Rn.steps 7 rfl ?_
        refine Rn.call rfl rfl rfl (c_of1 (d + 1) n _ w g c 3 hc (by omega)) ?_
        refine Rn.br 5 rfl (fun hc39 => ?_) (fun hc39 => ?_)
        · obtain ⟨x, hx⟩ : ∃ x : Int32, x = 1 := ⟨_, rfl⟩
          have e1 : (if rm p 4 = 1 then (1 : Int32) else 0) = x := by rw [hx]; exact if_pos hc39
          refine Rn.steps 3 rfl ?_
          refine Rn.call rfl rfl rfl (c_lay (d + 1) n _ w g c 3 _ hc (by omega)) ?_
          rw [bx_uu]
          refine Rn.heap (h2 := mOn (va_up A 0 (sx1 (stZ (A 0) c) c x)) w g) (by rw [hx]; rfl) ?_
          refine Rn.steps 6 rfl ?_
          refine Rn.call rfl rfl rfl (c_of1 (d + 1) n _ w g c 4 hc (by omega)) ?_
          refine Rn.br 5 rfl (fun hc64 => ?_) (fun hc64 => ?_)
          · obtain ⟨y, hy⟩ : ∃ y : Int32, y = 1 := ⟨_, rfl⟩
            have e3 : (if rm p 4 = 3 then (1 : Int32) else 0) = y := by rw [hy]; exact if_pos hc64
            refine Rn.steps 3 rfl ?_
            refine Rn.call rfl rfl rfl (c_lay (d + 1) n _ w g c 4 _ hc (by omega)) ?_
            rw [bx_uu]
            refine Rn.heap (h2 := mOn (va_up A 0 (sx2 (sx1 (stZ (A 0) c) c x) c y)) w g) (by rw [hy]; rfl) ?_
            refine Rn.steps 5 rfl ?_
            refine Rn.call rfl rfl rfl (c_otherSide d n _ w g (hne3 x y) _) ?_
            refine Rn.call rfl rfl rfl (c_lay (d + 1) n _ w g c 0 _ hc (by omega)) ?_
            rw [bx_uu]
            refine Rn.heap (h2 := mOn (va_up A 0 (sx3 (sx2 (sx1 (stZ (A 0) c) c x) c y) c p)) w g) (by rfl) ?_
            refine Rn.steps 6 rfl ?_
            refine Rn.call rfl rfl rfl (c_of1 (d + 1) n _ w g c 1 hc (by omega)) ?_
            refine Rn.steps 2 rfl ?_
            refine Rn.call rfl rfl rfl (c_lay (d + 1) n _ w g c 1 _ hc (by omega)) ?_
            rw [bx_uu]
            refine Rn.heap (h2 := mOn (va_up A 0 (sx4 (sx3 (sx2 (sx1 (stZ (A 0) c) c x) c y) c p) c)) w g) (by rfl) ?_
            refine Rn.steps 6 rfl ?_
            refine Rn.call rfl rfl rfl (c_of1 (d + 1) n _ w g c 5 hc (by omega)) ?_
            refine Rn.steps 2 rfl ?_
            refine Rn.call rfl rfl rfl (c_lay (d + 1) n _ w g c 5 _ hc (by omega)) ?_
            rw [bx_uu]
            refine Rn.heap (h2 := mOn (va_up A 0 (sx5 (sx4 (sx3 (sx2 (sx1 (stZ (A 0) c) c x) c y) c p) c) c)) w g) (by rfl) ?_
            refine Rn.steps 4 rfl ?_
            refine Rn.ialdN (m := 8) rfl rfl rfl (rfl) (by omega) (Nat.le_of_ble_eq_true rfl) ?_
            refine Rn.steps 2 rfl ?_
            refine Rn.iastN (m := 8) rfl rfl rfl rfl (rfl) (by omega) (Nat.le_of_ble_eq_true rfl) ?_
            rw [mOn_0, bx_uu]
            refine Rn.heap (h2 := mOn (va_up A 0 (sx6 (sx5 (sx4 (sx3 (sx2 (sx1 (stZ (A 0) c) c x) c y) c p) c) c))) w g) rfl ?_
            refine Rn.steps 2 rfl ?_
            first
            | exact Rn.l2 rfl rfl (by rw [← nI_1]; rfl) (Rn.heap (by rw [stZ_f hz]) ih)
            | exact Rn.l2 rfl rfl (by rw [← nI_1]; rfl) (Rn.heap (by rw [stZ_t hz hp e1 e3]) ih)
          · obtain ⟨y, hy⟩ : ∃ y : Int32, y = 0 := ⟨_, rfl⟩
            have e3 : (if rm p 4 = 3 then (1 : Int32) else 0) = y := by rw [hy]; exact if_neg hc64
            refine Rn.steps 2 rfl ?_
            refine Rn.call rfl rfl rfl (c_lay (d + 1) n _ w g c 4 _ hc (by omega)) ?_
            rw [bx_uu]
            refine Rn.heap (h2 := mOn (va_up A 0 (sx2 (sx1 (stZ (A 0) c) c x) c y)) w g) (by rw [hy]; rfl) ?_
            refine Rn.steps 5 rfl ?_
            refine Rn.call rfl rfl rfl (c_otherSide d n _ w g (hne3 x y) _) ?_
            refine Rn.call rfl rfl rfl (c_lay (d + 1) n _ w g c 0 _ hc (by omega)) ?_
            rw [bx_uu]
            refine Rn.heap (h2 := mOn (va_up A 0 (sx3 (sx2 (sx1 (stZ (A 0) c) c x) c y) c p)) w g) (by rfl) ?_
            refine Rn.steps 6 rfl ?_
            refine Rn.call rfl rfl rfl (c_of1 (d + 1) n _ w g c 1 hc (by omega)) ?_
            refine Rn.steps 2 rfl ?_
            refine Rn.call rfl rfl rfl (c_lay (d + 1) n _ w g c 1 _ hc (by omega)) ?_
            rw [bx_uu]
            refine Rn.heap (h2 := mOn (va_up A 0 (sx4 (sx3 (sx2 (sx1 (stZ (A 0) c) c x) c y) c p) c)) w g) (by rfl) ?_
            refine Rn.steps 6 rfl ?_
            refine Rn.call rfl rfl rfl (c_of1 (d + 1) n _ w g c 5 hc (by omega)) ?_
            refine Rn.steps 2 rfl ?_
            refine Rn.call rfl rfl rfl (c_lay (d + 1) n _ w g c 5 _ hc (by omega)) ?_
            rw [bx_uu]
            refine Rn.heap (h2 := mOn (va_up A 0 (sx5 (sx4 (sx3 (sx2 (sx1 (stZ (A 0) c) c x) c y) c p) c) c)) w g) (by rfl) ?_
            refine Rn.steps 4 rfl ?_
            refine Rn.ialdN (m := 8) rfl rfl rfl (rfl) (by omega) (Nat.le_of_ble_eq_true rfl) ?_
            refine Rn.steps 2 rfl ?_
            refine Rn.iastN (m := 8) rfl rfl rfl rfl (rfl) (by omega) (Nat.le_of_ble_eq_true rfl) ?_
            rw [mOn_0, bx_uu]
            refine Rn.heap (h2 := mOn (va_up A 0 (sx6 (sx5 (sx4 (sx3 (sx2 (sx1 (stZ (A 0) c) c x) c y) c p) c) c))) w g) rfl ?_
            refine Rn.steps 2 rfl ?_
            first
            | exact Rn.l2 rfl rfl (by rw [← nI_1]; rfl) (Rn.heap (by rw [stZ_f hz]) ih)
            | exact Rn.l2 rfl rfl (by rw [← nI_1]; rfl) (Rn.heap (by rw [stZ_t hz hp e1 e3]) ih)
        · obtain ⟨x, hx⟩ : ∃ x : Int32, x = 0 := ⟨_, rfl⟩
          have e1 : (if rm p 4 = 1 then (1 : Int32) else 0) = x := by rw [hx]; exact if_neg hc39
          refine Rn.steps 2 rfl ?_
          refine Rn.call rfl rfl rfl (c_lay (d + 1) n _ w g c 3 _ hc (by omega)) ?_
          rw [bx_uu]
          refine Rn.heap (h2 := mOn (va_up A 0 (sx1 (stZ (A 0) c) c x)) w g) (by rw [hx]; rfl) ?_
          refine Rn.steps 6 rfl ?_
          refine Rn.call rfl rfl rfl (c_of1 (d + 1) n _ w g c 4 hc (by omega)) ?_
          refine Rn.br 5 rfl (fun hc64 => ?_) (fun hc64 => ?_)
          · obtain ⟨y, hy⟩ : ∃ y : Int32, y = 1 := ⟨_, rfl⟩
            have e3 : (if rm p 4 = 3 then (1 : Int32) else 0) = y := by rw [hy]; exact if_pos hc64
            refine Rn.steps 3 rfl ?_
            refine Rn.call rfl rfl rfl (c_lay (d + 1) n _ w g c 4 _ hc (by omega)) ?_
            rw [bx_uu]
            refine Rn.heap (h2 := mOn (va_up A 0 (sx2 (sx1 (stZ (A 0) c) c x) c y)) w g) (by rw [hy]; rfl) ?_
            refine Rn.steps 5 rfl ?_
            refine Rn.call rfl rfl rfl (c_otherSide d n _ w g (hne3 x y) _) ?_
            refine Rn.call rfl rfl rfl (c_lay (d + 1) n _ w g c 0 _ hc (by omega)) ?_
            rw [bx_uu]
            refine Rn.heap (h2 := mOn (va_up A 0 (sx3 (sx2 (sx1 (stZ (A 0) c) c x) c y) c p)) w g) (by rfl) ?_
            refine Rn.steps 6 rfl ?_
            refine Rn.call rfl rfl rfl (c_of1 (d + 1) n _ w g c 1 hc (by omega)) ?_
            refine Rn.steps 2 rfl ?_
            refine Rn.call rfl rfl rfl (c_lay (d + 1) n _ w g c 1 _ hc (by omega)) ?_
            rw [bx_uu]
            refine Rn.heap (h2 := mOn (va_up A 0 (sx4 (sx3 (sx2 (sx1 (stZ (A 0) c) c x) c y) c p) c)) w g) (by rfl) ?_
            refine Rn.steps 6 rfl ?_
            refine Rn.call rfl rfl rfl (c_of1 (d + 1) n _ w g c 5 hc (by omega)) ?_
            refine Rn.steps 2 rfl ?_
            refine Rn.call rfl rfl rfl (c_lay (d + 1) n _ w g c 5 _ hc (by omega)) ?_
            rw [bx_uu]
            refine Rn.heap (h2 := mOn (va_up A 0 (sx5 (sx4 (sx3 (sx2 (sx1 (stZ (A 0) c) c x) c y) c p) c) c)) w g) (by rfl) ?_
            refine Rn.steps 4 rfl ?_
            refine Rn.ialdN (m := 8) rfl rfl rfl (rfl) (by omega) (Nat.le_of_ble_eq_true rfl) ?_
            refine Rn.steps 2 rfl ?_
            refine Rn.iastN (m := 8) rfl rfl rfl rfl (rfl) (by omega) (Nat.le_of_ble_eq_true rfl) ?_
            rw [mOn_0, bx_uu]
            refine Rn.heap (h2 := mOn (va_up A 0 (sx6 (sx5 (sx4 (sx3 (sx2 (sx1 (stZ (A 0) c) c x) c y) c p) c) c))) w g) rfl ?_
            refine Rn.steps 2 rfl ?_
            first
            | exact Rn.l2 rfl rfl (by rw [← nI_1]; rfl) (Rn.heap (by rw [stZ_f hz]) ih)
            | exact Rn.l2 rfl rfl (by rw [← nI_1]; rfl) (Rn.heap (by rw [stZ_t hz hp e1 e3]) ih)
          · obtain ⟨y, hy⟩ : ∃ y : Int32, y = 0 := ⟨_, rfl⟩
            have e3 : (if rm p 4 = 3 then (1 : Int32) else 0) = y := by rw [hy]; exact if_neg hc64
            refine Rn.steps 2 rfl ?_
            refine Rn.call rfl rfl rfl (c_lay (d + 1) n _ w g c 4 _ hc (by omega)) ?_
            rw [bx_uu]
            refine Rn.heap (h2 := mOn (va_up A 0 (sx2 (sx1 (stZ (A 0) c) c x) c y)) w g) (by rw [hy]; rfl) ?_
            refine Rn.steps 5 rfl ?_
            refine Rn.call rfl rfl rfl (c_otherSide d n _ w g (hne3 x y) _) ?_
            refine Rn.call rfl rfl rfl (c_lay (d + 1) n _ w g c 0 _ hc (by omega)) ?_
            rw [bx_uu]
            refine Rn.heap (h2 := mOn (va_up A 0 (sx3 (sx2 (sx1 (stZ (A 0) c) c x) c y) c p)) w g) (by rfl) ?_
            refine Rn.steps 6 rfl ?_
            refine Rn.call rfl rfl rfl (c_of1 (d + 1) n _ w g c 1 hc (by omega)) ?_
            refine Rn.steps 2 rfl ?_
            refine Rn.call rfl rfl rfl (c_lay (d + 1) n _ w g c 1 _ hc (by omega)) ?_
            rw [bx_uu]
            refine Rn.heap (h2 := mOn (va_up A 0 (sx4 (sx3 (sx2 (sx1 (stZ (A 0) c) c x) c y) c p) c)) w g) (by rfl) ?_
            refine Rn.steps 6 rfl ?_
            refine Rn.call rfl rfl rfl (c_of1 (d + 1) n _ w g c 5 hc (by omega)) ?_
            refine Rn.steps 2 rfl ?_
            refine Rn.call rfl rfl rfl (c_lay (d + 1) n _ w g c 5 _ hc (by omega)) ?_
            rw [bx_uu]
            refine Rn.heap (h2 := mOn (va_up A 0 (sx5 (sx4 (sx3 (sx2 (sx1 (stZ (A 0) c) c x) c y) c p) c) c)) w g) (by rfl) ?_
            refine Rn.steps 4 rfl ?_
            refine Rn.ialdN (m := 8) rfl rfl rfl (rfl) (by omega) (Nat.le_of_ble_eq_true rfl) ?_
            refine Rn.steps 2 rfl ?_
            refine Rn.iastN (m := 8) rfl rfl rfl rfl (rfl) (by omega) (Nat.le_of_ble_eq_true rfl) ?_
            rw [mOn_0, bx_uu]
            refine Rn.heap (h2 := mOn (va_up A 0 (sx6 (sx5 (sx4 (sx3 (sx2 (sx1 (stZ (A 0) c) c x) c y) c p) c) c))) w g) rfl ?_
            refine Rn.steps 2 rfl ?_
            first
            | exact Rn.l2 rfl rfl (by rw [← nI_1]; rfl) (Rn.heap (by rw [stZ_f hz]) ih)
            | exact Rn.l2 rfl rfl (by rw [← nI_1]; rfl) (Rn.heap (by rw [stZ_t hz hp e1 e3]) ih)
end MODEL4
