/-! the reference's methods that look at all carriers and places -/
def isPl (hn x q : Int32) : Bool := decide (0 ≤ x ∧ x ≤ hn - 1) && decide (0 ≤ q ∧ q ≤ 3)
def isFr (z : Nat → Int32) (p : Int32) : Bool := decide (mIn z p 10 = -6) && decide (mIn z (o32 (2 * z 0) p) 10 = -6)
def whyNC (z : Nat → Int32) (x q : Int32) : Int32 := cond (isPl (2 * z 0) x q) (cond (isFr z (4 * x + q)) (if mMany z 10 = 10 then -4 else 0) (-5)) (-1)
def isV (s x : Int32) : Bool := if s = 0 then decide (2 ≤ x ∧ x ≤ 6) else if s = 1 then decide (1 ≤ x ∧ x ≤ 9) else decide (s = 2) && decide (1 ≤ x ∧ x ≤ 999)
def wnr (z : Nat → Int32) (s : Int32) : Int32 := cond (decide (1 ≤ s ∧ s ≤ 99)) (if z 3 + s ≤ 9999 then 0 else -5) (-2)
def wne (z : Nat → Int32) (x e : Int32) : Int32 := cond (isC z x) (if z (10 + 7 * x.toNatClampNeg + 2) = e then 0 else -5) (-1)
def mEmp (z : Nat → Int32) : Nat → Bool | 0 => false | c + 1 => mEmp z c || (zt z c && decide (z (10 + 7 * c + 1) = 0))
def mLeast (z : Nat → Int32) : Nat → Int32 | 0 => 999 | c + 1 => cond (zt z c && decide (z (10 + 7 * c + 1) < mLeast z c)) (z (10 + 7 * c + 1)) (mLeast z c)
def mSet (z : Nat → Int32) : Nat → Int32 | 0 => 0 | c + 1 => mSet z c ||| cond (zt z c) (1 <<< (nI c &&& 31)) 0
def mAr (z : Nat → Int32) (rk : Int32) : Nat → Int32 × Int32 | 0 => (-1, 0) | c + 1 => (cond (decide (¬ mIn z (nI c) 10 = -6) && decide ((mAr z rk c).2 = rk)) (mIn z (nI c) 10) (mAr z rk c).1, (mAr z rk c).2 + (if mIn z (nI c) 10 = -6 then 0 else 1))
def tpm (z : Nat → Int32) : Nat → Nat | 0 => 0 | c + 1 => cond (zt z c) (tpm z c + 1) (tpm z c)
def tpl (z pl : Nat → Int32) : Nat → Nat → Int32 | 0 => pl | c + 1 => cond (zt z c) (upd (tpl z pl c) (tpm z c) (z (10 + 7 * c))) (tpl z pl c)
theorem tpm_le (z : Nat → Int32) (c : Nat) : tpm z c ≤ c := by
  induction c with
  | zero => exact Nat.le_refl _
  | succ c ih => unfold tpm; cases zt z c <;> simp only [cond] <;> omega
def mTk (pl : Nat → Int32) (p : Int32) : Nat → Bool | 0 => false | k + 1 => mTk pl p k || decide (pl k = p)
def mHr (pl : Nat → Int32) (hn ct : Int32) : Nat → Int32 | 0 => 0 | k + 1 => mHr pl hn ct k + (if t32 (pl k) = 4 * ct ∨ t32 (pl k) = o32 hn (4 * ct) then 1 else 0)
def mMt (pl : Nat → Int32) (m H : Nat) (hn : Int32) : Nat → Int32 | 0 => -6 | j + 1 => if mHr pl hn (nI (H - (j + 1))) m = 2 then nI (H - (j + 1)) else mMt pl m H hn j
def sPl (hn : Int32) (pl : Nat → Int32) (k : Nat) : Nat → Int32 := fun j => if j < k then o32 hn (t32 (pl j)) else pl j
def mAb (z pl : Nat → Int32) (m : Nat) : Nat → Bool | 0 => true | c + 1 => mAb z pl m c && (!zt z c || mTk pl (z (10 + 7 * c)) m)
def mCt (z pl : Nat → Int32) (p : Int32) : Nat → Int32 × Nat | 0 => (-6, 0) | c + 1 => cond (zt z c) (if t32 (pl (mCt z pl p c).2) = p then nI c else (mCt z pl p c).1, (mCt z pl p c).2 + 1) (mCt z pl p c)
theorem mCt_le (z pl : Nat → Int32) (p : Int32) (c : Nat) : (mCt z pl p c).2 = tpm z c := by
  induction c with
  | zero => rfl
  | succ c ih => unfold mCt tpm; cases zt z c <;> simp only [cond] <;> omega
theorem upd_upd {f : Nat → Int32} {k : Nat} {x y : Int32} : upd (upd f k x) k y = upd f k y := by
  funext j
  unfold upd
  by_cases hj : j = k
  · rw [if_pos hj, if_pos hj]
  · rw [if_neg hj, if_neg hj, if_neg hj]
theorem sPl_s (hn : Int32) (pl : Nat → Int32) (k : Nat) : upd (sPl hn pl k) k (o32 hn (t32 (pl k))) = sPl hn pl (k + 1) := by
  funext j
  unfold upd sPl
  by_cases hj : j = k
  · subst hj; rw [if_pos rfl, if_pos (Nat.lt_succ_self _)]
  · rw [if_neg hj]
    by_cases h2 : j < k
    · rw [if_pos h2, if_pos (by omega)]
    · rw [if_neg h2, if_neg (by omega)]
theorem sPl_k (hn : Int32) (pl : Nat → Int32) (k : Nat) : sPl hn pl k k = pl k := if_neg (Nat.lt_irrefl k)
theorem sPl_0 (hn : Int32) (pl : Nat → Int32) : sPl hn pl 0 = pl := rfl
theorem x8P {P : Nat} : (4 : Int32) * (2 * nI P) = nI (8 * P) := by
  rw [show (2 : Int32) = nI 2 from rfl, show (4 : Int32) = nI 4 from rfl, pk_mul, pk_mul]
  congr 1
  omega
theorem x2P {P : Nat} : (2 : Int32) * nI P = nI (2 * P) := by rw [show (2 : Int32) = nI 2 from rfl, pk_mul]
theorem x2ne {P : Nat} {x : Int32} (h : x = nI P) (h2 : 2 ≤ P) (h6 : P ≤ 6) : ¬ 2 * x = 0 := by
  rw [h, x2P]
  exact nI_ne0 (by omega) (by omega)
section MODEL2
variable (d n : Nat) (A : Nat → Nat → Int32) (w : Nat → Int32) (g h : xHp)
theorem c_isPlace (x q : Int32) : Rn (d + 1) 108 0 [(0, .ref 139), (1, .int x), (2, .int q)] [] (mOn A w g) n (some (.int (bi (isPl (2 * A 0 0) x q)))) (mOn A w g) n := by
  refine Rn.steps 3 rfl ?_
  refine Rn.call rfl rfl rfl (c_horns d n A w g) ?_
  refine Rn.steps 2 rfl ?_
  refine Rn.call rfl rfl rfl (c_in d n _ _ _ _) ?_
  refine Rn.br 1 rfl (fun hc11 => ?_) (fun hc11 => ?_)
  · have hb := bi_eq0 hc11
    refine Rn.steps 1 rfl ?_
    exact Rn.retE rfl rfl rfl (by unfold isPl; rw [hb]; first | rfl | (rw [hb2]; rfl)) rfl
  · have hb := bi_ne0 hc11
    refine Rn.steps 3 rfl ?_
    refine Rn.call rfl rfl rfl (c_in d n _ _ _ _) ?_
    refine Rn.br 1 rfl (fun hc20 => ?_) (fun hc20 => ?_)
    · have hb2 := bi_eq0 hc20
      refine Rn.steps 1 rfl ?_
      exact Rn.retE rfl rfl rfl (by unfold isPl; rw [hb]; first | rfl | (rw [hb2]; rfl)) rfl
    · have hb2 := bi_ne0 hc20
      refine Rn.steps 2 rfl ?_
      exact Rn.retE rfl rfl rfl (by unfold isPl; rw [hb]; first | rfl | (rw [hb2]; rfl)) rfl
theorem c_isFree (hne : ¬ 2 * A 0 0 = 0) (p : Int32) : Rn (d + 3) 109 0 [(0, .ref 139), (1, .int p)] [] (mOn A w g) n (some (.int (bi (isFr (A 0) p)))) (mOn A w g) n := by
  refine Rn.steps 2 rfl ?_
  refine Rn.call rfl rfl rfl (c_carrierIn d n A w g p) ?_
  refine Rn.br 2 rfl (fun hc7 => ?_) (fun hc7 => ?_)
  · have hb : decide (mIn (A 0) p 10 = -6) = true := decide_eq_true hc7
    refine Rn.steps 3 rfl ?_
    refine Rn.call rfl rfl rfl (c_otherSide (d + 1) n A w g hne p) ?_
    refine Rn.call rfl rfl rfl (c_carrierIn d n A w g _) ?_
    refine Rn.br 2 rfl (fun hc21 => ?_) (fun hc21 => ?_)
    · have hb2 : decide (mIn (A 0) (o32 (2 * A 0 0) p) 10 = -6) = true := decide_eq_true hc21
      refine Rn.steps 2 rfl ?_
      exact Rn.retE rfl rfl rfl (by unfold isFr; rw [hb]; first | rfl | (rw [hb2]; rfl)) rfl
    · have hb2 : decide (mIn (A 0) (o32 (2 * A 0 0) p) 10 = -6) = false := decide_eq_false hc21
      refine Rn.steps 1 rfl ?_
      exact Rn.retE rfl rfl rfl (by unfold isFr; rw [hb]; first | rfl | (rw [hb2]; rfl)) rfl
  · have hb : decide (mIn (A 0) p 10 = -6) = false := decide_eq_false hc7
    refine Rn.steps 1 rfl ?_
    exact Rn.retE rfl rfl rfl (by unfold isFr; rw [hb]; first | rfl | (rw [hb2]; rfl)) rfl
theorem c_whyNotCarrier (hne : ¬ 2 * A 0 0 = 0) (x q : Int32) : Rn (d + 4) 110 0 [(0, .ref 139), (1, .int x), (2, .int q)] [] (mOn A w g) n (some (.int (whyNC (A 0) x q))) (mOn A w g) n := by
  refine Rn.steps 3 rfl ?_
  refine Rn.call rfl rfl rfl (c_isPlace (d + 2) n A w g x q) ?_
  refine Rn.br 1 rfl (fun hc6 => ?_) (fun hc6 => ?_)
  · have hb := bi_eq0 hc6
    refine Rn.steps 2 rfl ?_
    exact Rn.retE rfl rfl rfl (by unfold whyNC; rw [hb]; first | rfl | (rw [hb2]; first | rfl | (simp only [cond]; first | (rw [if_pos hc36]) | (rw [if_neg hc36])))) rfl
  · have hb := bi_ne0 hc6
    refine Rn.steps 6 rfl ?_
    refine Rn.call rfl rfl rfl (c_isFree d n A w g hne _) ?_
    refine Rn.br 1 rfl (fun hc22 => ?_) (fun hc22 => ?_)
    · have hb2 := bi_eq0 hc22
      refine Rn.steps 2 rfl ?_
      exact Rn.retE rfl rfl rfl (by unfold whyNC; rw [hb]; first | rfl | (rw [hb2]; first | rfl | (simp only [cond]; first | (rw [if_pos hc36]) | (rw [if_neg hc36])))) rfl
    · have hb2 := bi_ne0 hc22
      refine Rn.steps 1 rfl ?_
      refine Rn.call rfl rfl rfl (c_many (d + 1) n A w g) ?_
      refine Rn.br 2 rfl (fun hc36 => ?_) (fun hc36 => ?_)
      · refine Rn.steps 2 rfl ?_
        exact Rn.retE rfl rfl rfl (by unfold whyNC; rw [hb]; first | rfl | (rw [hb2]; first | rfl | (simp only [cond]; first | (rw [if_pos hc36]) | (rw [if_neg hc36])))) rfl
      · refine Rn.steps 1 rfl ?_
        exact Rn.retE rfl rfl rfl (by unfold whyNC; rw [hb]; first | rfl | (rw [hb2]; first | rfl | (simp only [cond]; first | (rw [if_pos hc36]) | (rw [if_neg hc36])))) rfl
theorem c_isValue (s x : Int32) : Rn (d + 1) 106 0 [(0, .int s), (1, .int x)] [] h n (some (.int (bi (isV s x)))) h n := by
  refine Rn.br 2 rfl (fun hc1 => ?_) (fun hc1 => ?_)
  · refine Rn.steps 3 rfl ?_
    refine Rn.call rfl rfl rfl (c_in d n _ _ _ _) ?_
    refine Rn.steps 1 rfl ?_
    exact Rn.retZ rfl rfl rfl (by unfold isV; first | (rw [if_pos hc1]) | (rw [if_neg hc1]; first | (rw [if_pos hc16]) | (rw [if_neg hc16]; first | (rw [decide_eq_true hc31, hb]; rfl) | (rw [decide_eq_false hc31]; rfl)))) rfl
  · refine Rn.br 3 rfl (fun hc16 => ?_) (fun hc16 => ?_)
    · refine Rn.steps 3 rfl ?_
      refine Rn.call rfl rfl rfl (c_in d n _ _ _ _) ?_
      refine Rn.steps 1 rfl ?_
      exact Rn.retZ rfl rfl rfl (by unfold isV; first | (rw [if_pos hc1]) | (rw [if_neg hc1]; first | (rw [if_pos hc16]) | (rw [if_neg hc16]; first | (rw [decide_eq_true hc31, hb]; rfl) | (rw [decide_eq_false hc31]; rfl)))) rfl
    · refine Rn.br 3 rfl (fun hc31 => ?_) (fun hc31 => ?_)
      · refine Rn.steps 3 rfl ?_
        refine Rn.call rfl rfl rfl (c_in d n _ _ _ _) ?_
        refine Rn.br 1 rfl (fun hc42 => ?_) (fun hc42 => ?_)
        · have hb := bi_eq0 hc42
          refine Rn.steps 1 rfl ?_
          exact Rn.retE rfl rfl rfl (by unfold isV; first | (rw [if_pos hc1]) | (rw [if_neg hc1]; first | (rw [if_pos hc16]) | (rw [if_neg hc16]; first | (rw [decide_eq_true hc31, hb]; rfl) | (rw [decide_eq_false hc31]; rfl)))) rfl
        · have hb := bi_ne0 hc42
          refine Rn.steps 2 rfl ?_
          exact Rn.retE rfl rfl rfl (by unfold isV; first | (rw [if_pos hc1]) | (rw [if_neg hc1]; first | (rw [if_pos hc16]) | (rw [if_neg hc16]; first | (rw [decide_eq_true hc31, hb]; rfl) | (rw [decide_eq_false hc31]; rfl)))) rfl
      · refine Rn.steps 1 rfl ?_
        exact Rn.retE rfl rfl rfl (by unfold isV; first | (rw [if_pos hc1]) | (rw [if_neg hc1]; first | (rw [if_pos hc16]) | (rw [if_neg hc16]; first | (rw [decide_eq_true hc31, hb]; rfl) | (rw [decide_eq_false hc31]; rfl)))) rfl
theorem c_whyNotRun (s : Int32) : Rn (d + 1) 119 0 [(0, .ref 139), (1, .int s)] [] (mOn A w g) n (some (.int (wnr (A 0) s))) (mOn A w g) n := by
  refine Rn.steps 3 rfl ?_
  refine Rn.call rfl rfl rfl (c_in d n _ _ _ _) ?_
  refine Rn.br 1 rfl (fun hc7 => ?_) (fun hc7 => ?_)
  · have hb := bi_eq0 hc7
    refine Rn.steps 2 rfl ?_
    exact Rn.retE rfl rfl rfl (by unfold wnr; rw [hb]; first | rfl | (simp only [cond]; first | (rw [if_pos hc26]) | (rw [if_neg hc26]))) rfl
  · have hb := bi_ne0 hc7
    refine Rn.steps 3 rfl ?_
    refine Rn.ialdN (m := 3) rfl rfl rfl (rfl) (by omega) (Nat.le_of_ble_eq_true rfl) ?_
    refine Rn.br 4 rfl (fun hc26 => ?_) (fun hc26 => ?_)
    · refine Rn.steps 1 rfl ?_
      exact Rn.retE rfl rfl rfl (by unfold wnr; rw [hb]; first | rfl | (simp only [cond]; first | (rw [if_pos hc26]) | (rw [if_neg hc26]))) rfl
    · refine Rn.steps 2 rfl ?_
      exact Rn.retE rfl rfl rfl (by unfold wnr; rw [hb]; first | rfl | (simp only [cond]; first | (rw [if_pos hc26]) | (rw [if_neg hc26]))) rfl
theorem c_whyNotEnd (x e : Int32) : Rn (d + 2) 122 0 [(0, .ref 139), (1, .int x), (2, .int e)] [] (mOn A w g) n (some (.int (wne (A 0) x e))) (mOn A w g) n := by
  refine Rn.steps 2 rfl ?_
  refine Rn.call rfl rfl rfl (c_isCx d n A w g x) ?_
  refine Rn.br 1 rfl (fun hc5 => ?_) (fun hc5 => ?_)
  · have hb := bi_eq0 hc5
    refine Rn.steps 2 rfl ?_
    exact Rn.retE rfl rfl rfl (by unfold wne; rw [hb]; first | rfl | (simp only [cond]; rw [nI_clamp (by omega)]; first | (rw [if_pos hc19]) | (rw [if_neg hc19]))) rfl
  · have hb := bi_ne0 hc5
    have hb3 := hb
    unfold isC at hb3
    obtain ⟨hb4, hb5⟩ := (Bool.and_eq_true _ _ ▸ hb3 : _ ∧ _)
    obtain ⟨c, hc, rfl⟩ := xin10 (of_decide_eq_true hb4)
    refine Rn.steps 3 rfl ?_
    refine Rn.call rfl rfl rfl (c_of1 (d + 1) n A w g c 2 hc (by omega)) ?_
    refine Rn.br 2 rfl (fun hc19 => ?_) (fun hc19 => ?_)
    · refine Rn.steps 2 rfl ?_
      exact Rn.retE rfl rfl rfl (by unfold wne; rw [hb]; first | rfl | (simp only [cond]; rw [nI_clamp (by omega)]; first | (rw [if_pos hc19]) | (rw [if_neg hc19]))) rfl
    · refine Rn.steps 1 rfl ?_
      exact Rn.retE rfl rfl rfl (by unfold wne; rw [hb]; first | rfl | (simp only [cond]; rw [nI_clamp (by omega)]; first | (rw [if_pos hc19]) | (rw [if_neg hc19]))) rfl
theorem c_isEmpty : Rn (d + 2) 116 0 [(0, .ref 139)] [] (mOn A w g) n (some (.int (bi (mEmp (A 0) 10)))) (mOn A w g) n := by
  refine Rn.steps 4 rfl ?_
  refine Rn.l3 rfl rfl rfl rfl (xloop (fun c => Rn (d + 2) 116 4 [(0, .ref 139), (1, .int (bi (mEmp (A 0) c))), (2, .int (nI c))] [] (mOn A w g) n (some (.int (bi (mEmp (A 0) 10)))) (mOn A w g) n) 10 ?_ (fun c hc ih => ?_))
  · refine Rn.steps 4 rfl ?_
    exact Rn.retZ rfl rfl rfl rfl rfl
  · refine Rn.br 3 rfl (fun hc7 => ?_) (fun hc7 => ?_)
    · exact (nI_ge hc (by omega) hc7).elim
    · refine Rn.br 2 rfl (fun hc11 => ?_) (fun hc11 => ?_)
      · have hb := bi_eq0 hc11
        refine Rn.steps 2 rfl ?_
        refine Rn.call rfl rfl rfl (c_isC d n A w g c hc) ?_
        refine Rn.br 1 rfl (fun hc19 => ?_) (fun hc19 => ?_)
        · have hz : (mEmp (A 0) c || (zt (A 0) c && decide (A 0 (10 + 7 * c + 1) = 0))) = false := by rw [hb, bi_eq0 hc19]; rfl
          refine Rn.steps 4 rfl ?_
          exact Rn.l3 rfl rfl (by rw [mEmp, hz]; rfl) (by rw [← nI_1]; rfl) ih
        · have hb2 := bi_ne0 hc19
          refine Rn.steps 3 rfl ?_
          refine Rn.call rfl rfl rfl (c_of1 (d + 1) n A w g c 1 hc (by omega)) ?_
          refine Rn.br 1 rfl (fun hc28 => ?_) (fun hc28 => ?_)
          · have hz : (mEmp (A 0) c || (zt (A 0) c && decide (A 0 (10 + 7 * c + 1) = 0))) = true := by rw [hb, hb2, decide_eq_true hc28]; rfl
            refine Rn.steps 5 rfl ?_
            exact Rn.l3 rfl rfl (by rw [mEmp, hz]; rfl) (by rw [← nI_1]; rfl) ih
          · have hz : (mEmp (A 0) c || (zt (A 0) c && decide (A 0 (10 + 7 * c + 1) = 0))) = false := by rw [hb, hb2, decide_eq_false hc28]; rfl
            refine Rn.steps 4 rfl ?_
            exact Rn.l3 rfl rfl (by rw [mEmp, hz]; rfl) (by rw [← nI_1]; rfl) ih
      · have hz : (mEmp (A 0) c || (zt (A 0) c && decide (A 0 (10 + 7 * c + 1) = 0))) = true := by rw [bi_ne0 hc11]; rfl
        refine Rn.steps 5 rfl ?_
        exact Rn.l3 rfl rfl (by rw [mEmp, hz]; rfl) (by rw [← nI_1]; rfl) ih
theorem c_leastElls : Rn (d + 2) 141 0 [(0, .ref 139)] [] (mOn A w g) n (some (.int (mLeast (A 0) 10))) (mOn A w g) n := by
  refine Rn.steps 4 rfl ?_
  refine Rn.l3 rfl rfl rfl rfl (xloop (fun c => Rn (d + 2) 141 6 [(0, .ref 139), (1, .int (mLeast (A 0) c)), (2, .int (nI c))] [] (mOn A w g) n (some (.int (mLeast (A 0) 10))) (mOn A w g) n) 10 ?_ (fun c hc ih => ?_))
  · refine Rn.steps 4 rfl ?_
    exact Rn.retE rfl rfl rfl rfl rfl
  · refine Rn.br 3 rfl (fun hc9 => ?_) (fun hc9 => ?_)
    · exact (nI_ge hc (by omega) hc9).elim
    · refine Rn.steps 2 rfl ?_
      refine Rn.call rfl rfl rfl (c_isC d n A w g c hc) ?_
      refine Rn.br 1 rfl (fun hc17 => ?_) (fun hc17 => ?_)
      · have hz : (zt (A 0) c && decide (A 0 (10 + 7 * c + 1) < mLeast (A 0) c)) = false := by rw [bi_eq0 hc17]; rfl
        refine Rn.steps 4 rfl ?_
        exact Rn.l3 rfl rfl (by rw [mLeast, hz]; rfl) (by rw [← nI_1]; rfl) ih
      · have hb := bi_ne0 hc17
        refine Rn.steps 3 rfl ?_
        refine Rn.call rfl rfl rfl (c_of1 (d + 1) n A w g c 1 hc (by omega)) ?_
        refine Rn.br 2 rfl (fun hc27 => ?_) (fun hc27 => ?_)
        · have hz : (zt (A 0) c && decide (A 0 (10 + 7 * c + 1) < mLeast (A 0) c)) = false := by rw [hb, decide_eq_false (Int32.not_lt.mpr hc27)]; rfl
          refine Rn.steps 4 rfl ?_
          exact Rn.l3 rfl rfl (by rw [mLeast, hz]; rfl) (by rw [← nI_1]; rfl) ih
        · have hz : (zt (A 0) c && decide (A 0 (10 + 7 * c + 1) < mLeast (A 0) c)) = true := by rw [hb, decide_eq_true (Int32.not_le.mp hc27)]; rfl
          refine Rn.steps 3 rfl ?_
          refine Rn.call rfl rfl rfl (c_of1 (d + 1) n A w g c 1 hc (by omega)) ?_
          refine Rn.steps 4 rfl ?_
          exact Rn.l3 rfl rfl (by rw [mLeast, hz]; rfl) (by rw [← nI_1]; rfl) ih
theorem c_set0 : Rn (d + 2) 131 0 [(0, .ref 139)] [] (mOn A w g) n (some (.int (mSet (A 0) 10))) (mOn A w g) n := by
  refine Rn.steps 4 rfl ?_
  refine Rn.l3 rfl rfl rfl rfl (xloop (fun c => Rn (d + 2) 131 4 [(0, .ref 139), (1, .int (mSet (A 0) c)), (2, .int (nI c))] [] (mOn A w g) n (some (.int (mSet (A 0) 10))) (mOn A w g) n) 10 ?_ (fun c hc ih => ?_))
  · refine Rn.steps 4 rfl ?_
    exact Rn.retE rfl rfl rfl rfl rfl
  · refine Rn.br 3 rfl (fun hc7 => ?_) (fun hc7 => ?_)
    · exact (nI_ge hc (by omega) hc7).elim
    · refine Rn.steps 3 rfl ?_
      refine Rn.call rfl rfl rfl (c_isC d n A w g c hc) ?_
      refine Rn.br 1 rfl (fun hc16 => ?_) (fun hc16 => ?_)
      · have hz := bi_eq0 hc16
        refine Rn.steps 5 rfl ?_
        exact Rn.l3 rfl rfl (by rw [mSet, hz]; rfl) (by rw [← nI_1]; rfl) ih
      · have hz := bi_ne0 hc16
        refine Rn.steps 8 rfl ?_
        exact Rn.l3 rfl rfl (by rw [mSet, hz]; rfl) (by rw [← nI_1]; rfl) ih
theorem c_at (x q : Int32) : Rn (d + 3) 129 0 [(0, .ref 139), (1, .int x), (2, .int q)] [] (mOn A w g) n (some (.int (cond (isPl (2 * A 0 0) x q) (mIn (A 0) (4 * x + q) 10) (-1)))) (mOn A w g) n := by
  refine Rn.steps 3 rfl ?_
  refine Rn.call rfl rfl rfl (c_isPlace (d + 1) n A w g x q) ?_
  refine Rn.br 1 rfl (fun hc6 => ?_) (fun hc6 => ?_)
  · have hb := bi_eq0 hc6
    refine Rn.steps 1 rfl ?_
    exact Rn.retE rfl rfl rfl (by rw [hb]; rfl) rfl
  · have hb := bi_ne0 hc6
    refine Rn.steps 6 rfl ?_
    refine Rn.call rfl rfl rfl (c_carrierIn d n A w g _) ?_
    refine Rn.steps 1 rfl ?_
    exact Rn.retE rfl rfl rfl (by rw [hb]; rfl) rfl
theorem c_around (rk : Int32) (P : Nat) (hP : A 0 0 = nI P) (h6 : P ≤ 6) : Rn (d + 3) 130 0 [(0, .ref 139), (1, .int rk)] [] (mOn A w g) n (some (.int (mAr (A 0) rk (8 * P)).1)) (mOn A w g) n := by
  refine Rn.steps 6 rfl ?_
  refine Rn.l5 (by decide) rfl rfl rfl rfl rfl (xloop (fun c => Rn (d + 3) 130 7 [(0, .ref 139), (1, .int rk), (2, .int (mAr (A 0) rk c).1), (3, .int (mAr (A 0) rk c).2), (4, .int (nI c))] [] (mOn A w g) n (some (.int (mAr (A 0) rk (8 * P)).1)) (mOn A w g) n) (8 * P) ?_ (fun c hc ih => ?_))
  · refine Rn.steps 3 rfl ?_
    refine Rn.call rfl rfl rfl (c_horns (d + 2) n A w g) ?_
    refine Rn.br 2 rfl (fun hc15 => ?_) (fun hc15 => ?_)
    · refine Rn.steps 1 rfl ?_
      exact Rn.retE rfl rfl rfl rfl rfl
    · exact (hc15 (by rw [hP, x8P]; exact nI_le (Nat.le_refl _) (by omega))).elim
  · refine Rn.steps 3 rfl ?_
    refine Rn.call rfl rfl rfl (c_horns (d + 2) n A w g) ?_
    refine Rn.br 2 rfl (fun hc15 => ?_) (fun hc15 => ?_)
    · exact (nI_ge hc (by omega) (by rw [hP, x8P] at hc15; exact hc15)).elim
    · refine Rn.steps 2 rfl ?_
      refine Rn.call rfl rfl rfl (c_carrierIn d n A w g (nI c)) ?_
      refine Rn.br 4 rfl (fun hc30 => ?_) (fun hc30 => ?_)
      · have hz : (decide (¬ mIn (A 0) (nI c) 10 = -6) && decide ((mAr (A 0) rk c).2 = rk)) = false := by rw [decide_eq_false (fun q => q hc30)]; rfl
        refine Rn.br 6 rfl (fun hc50 => ?_) (fun hc50 => ?_)
        · have hy : (if mIn (A 0) (nI c) 10 = -6 then (0 : Int32) else 1) = 0 := if_pos hc50
          refine Rn.steps 6 rfl ?_
          exact Rn.l5 (by decide) rfl rfl (by rw [mAr, hz]; rfl) (by rw [mAr, hy]; rfl) (by rw [← nI_1]; rfl) ih
        · have hy : (if mIn (A 0) (nI c) 10 = -6 then (0 : Int32) else 1) = 1 := if_neg hc50
          refine Rn.steps 5 rfl ?_
          exact Rn.l5 (by decide) rfl rfl (by rw [mAr, hz]; rfl) (by rw [mAr, hy]; rfl) (by rw [← nI_1]; rfl) ih
      · have hb : decide (¬ mIn (A 0) (nI c) 10 = -6) = true := decide_eq_true hc30
        refine Rn.br 3 rfl (fun hc35 => ?_) (fun hc35 => ?_)
        · have hz : (decide (¬ mIn (A 0) (nI c) 10 = -6) && decide ((mAr (A 0) rk c).2 = rk)) = true := by rw [hb, decide_eq_true hc35]; rfl
          refine Rn.br 7 rfl (fun hc50 => ?_) (fun hc50 => ?_)
          · have hy : (if mIn (A 0) (nI c) 10 = -6 then (0 : Int32) else 1) = 0 := if_pos hc50
            refine Rn.steps 6 rfl ?_
            exact Rn.l5 (by decide) rfl rfl (by rw [mAr, hz]; rfl) (by rw [mAr, hy]; rfl) (by rw [← nI_1]; rfl) ih
          · have hy : (if mIn (A 0) (nI c) 10 = -6 then (0 : Int32) else 1) = 1 := if_neg hc50
            refine Rn.steps 5 rfl ?_
            exact Rn.l5 (by decide) rfl rfl (by rw [mAr, hz]; rfl) (by rw [mAr, hy]; rfl) (by rw [← nI_1]; rfl) ih
        · have hz : (decide (¬ mIn (A 0) (nI c) 10 = -6) && decide ((mAr (A 0) rk c).2 = rk)) = false := by rw [hb, decide_eq_false hc35]; rfl
          refine Rn.br 6 rfl (fun hc50 => ?_) (fun hc50 => ?_)
          · have hy : (if mIn (A 0) (nI c) 10 = -6 then (0 : Int32) else 1) = 0 := if_pos hc50
            refine Rn.steps 6 rfl ?_
            exact Rn.l5 (by decide) rfl rfl (by rw [mAr, hz]; rfl) (by rw [mAr, hy]; rfl) (by rw [← nI_1]; rfl) ih
          · have hy : (if mIn (A 0) (nI c) 10 = -6 then (0 : Int32) else 1) = 1 := if_neg hc50
            refine Rn.steps 5 rfl ?_
            exact Rn.l5 (by decide) rfl rfl (by rw [mAr, hz]; rfl) (by rw [mAr, hy]; rfl) (by rw [← nI_1]; rfl) ih
theorem c_takePlaces : Rn (d + 2) 102 0 [(0, .ref 139)] [] (mOn A w g) n none (mOn (va_up A 5 (tpl (A 0) (A 5) 10)) (upd w 2 (nI (tpm (A 0) 10))) g) n := by
  have e0 : va_up A 5 (A 5) = A := by
    funext k
    unfold va_up
    by_cases hk : k = 5
    · rw [if_pos hk, hk]
    · rw [if_neg hk]
  refine Rn.steps 3 rfl ?_
  refine Rn.heap mOn_w2 ?_
  refine Rn.steps 2 rfl ?_
  refine Rn.l2 rfl rfl rfl (Rn.heap (h2 := mOn (va_up A 5 (tpl (A 0) (A 5) 0)) (upd w 2 (nI (tpm (A 0) 0))) g) (by show _ = mOn (va_up A 5 (A 5)) _ g; rw [e0]; rfl) (xloop (fun c => Rn (d + 2) 102 7 [(0, .ref 139), (1, .int (nI c))] [] (mOn (va_up A 5 (tpl (A 0) (A 5) c)) (upd w 2 (nI (tpm (A 0) c))) g) n none (mOn (va_up A 5 (tpl (A 0) (A 5) 10)) (upd w 2 (nI (tpm (A 0) 10))) g) n) 10 ?_ (fun c hc ih => ?_)))
  · refine Rn.steps 3 rfl ?_
    exact Rn.retE rfl rfl rfl rfl rfl
  · refine Rn.br 3 rfl (fun hc10 => ?_) (fun hc10 => ?_)
    · exact (nI_ge hc (by omega) hc10).elim
    · refine Rn.steps 2 rfl ?_
      refine Rn.call rfl rfl rfl (c_isC d n (va_up A 5 (tpl (A 0) (A 5) c)) _ g c hc) ?_
      refine Rn.br 1 rfl (fun hc18 => ?_) (fun hc18 => ?_)
      · have hz : zt (A 0) c = false := bi_eq0 hc18
        refine Rn.steps 2 rfl ?_
        exact Rn.l2 rfl rfl (by rw [← nI_1]; rfl) (Rn.heap (by rw [tpl, tpm, hz]; try rfl) ih)
      · have hz : zt (A 0) c = true := bi_ne0 hc18
        refine Rn.steps 7 rfl ?_
        refine Rn.call rfl rfl rfl (c_of1 (d + 1) n (va_up A 5 (tpl (A 0) (A 5) c)) _ g c 0 hc (by omega)) ?_
        refine Rn.iastN (m := tpm (A 0) c) rfl rfl rfl rfl (rfl) (by have := tpm_le (A 0) c; omega) (Nat.le_of_ble_eq_true rfl) ?_
        rw [mOn_5, bx_uu]
        refine Rn.steps 6 rfl ?_
        refine Rn.heap mOn_w2 ?_
        rw [upd_upd]
        rw [show upd w 2 (nI (tpm (A 0) c)) 2 + 1 = nI (tpm (A 0) c + 1) from (nI_1 _)]
        refine Rn.steps 2 rfl ?_
        exact Rn.l2 rfl rfl (by rw [← nI_1]; rfl) (Rn.heap (by rw [tpl, tpm, hz]; try rfl) ih)
theorem c_isTaken (p : Int32) (m : Nat) (hm : w 2 = nI m) (hm11 : m ≤ 11) : Rn d 103 0 [(0, .ref 139), (1, .int p)] [] (mOn A w g) n (some (.int (bi (mTk (A 5) p m)))) (mOn A w g) n := by
  refine Rn.steps 4 rfl ?_
  refine Rn.l4 (by decide) rfl rfl rfl rfl (xloop (fun c => Rn d 103 4 [(0, .ref 139), (1, .int p), (2, .int (bi (mTk (A 5) p c))), (3, .int (nI c))] [] (mOn A w g) n (some (.int (bi (mTk (A 5) p m)))) (mOn A w g) n) m ?_ (fun c hc ih => ?_))
  · refine Rn.br 4 rfl (fun hc9 => ?_) (fun hc9 => ?_)
    · refine Rn.steps 1 rfl ?_
      exact Rn.retZ rfl rfl rfl rfl rfl
    · exact (hc9 (by rw [hm]; exact nI_le (Nat.le_refl _) (by omega))).elim
  · refine Rn.br 4 rfl (fun hc9 => ?_) (fun hc9 => ?_)
    · exact (nI_ge hc (by omega) (by rw [← hm]; exact hc9)).elim
    · refine Rn.br 2 rfl (fun hc13 => ?_) (fun hc13 => ?_)
      · have hb := bi_eq0 hc13
        refine Rn.steps 3 rfl ?_
        refine Rn.ialdN (m := c) rfl rfl rfl (rfl) (by omega) (Nat.le_of_ble_eq_true rfl) ?_
        refine Rn.br 2 rfl (fun hc23 => ?_) (fun hc23 => ?_)
        · have hz : (mTk (A 5) p c || decide (A 5 c = p)) = true := by rw [hb, decide_eq_true hc23]; rfl
          refine Rn.steps 5 rfl ?_
          exact Rn.l4 (by decide) rfl rfl (by rw [mTk, hz]; rfl) (by rw [← nI_1]; rfl) ih
        · have hz : (mTk (A 5) p c || decide (A 5 c = p)) = false := by rw [hb, decide_eq_false hc23]; rfl
          refine Rn.steps 4 rfl ?_
          exact Rn.l4 (by decide) rfl rfl (by rw [mTk, hz]; rfl) (by rw [← nI_1]; rfl) ih
      · have hz : (mTk (A 5) p c || decide (A 5 c = p)) = true := by rw [bi_ne0 hc13]; rfl
        refine Rn.steps 5 rfl ?_
        exact Rn.l4 (by decide) rfl rfl (by rw [mTk, hz]; rfl) (by rw [← nI_1]; rfl) ih
theorem c_hr (ct : Int32) (fd : Int32) (hne : ¬ 2 * A 0 0 = 0) (m : Nat) (hm : w 2 = nI m) (hm11 : m ≤ 11) {v : Option Value} {h' : xHp} {n' : Nat} (kk : Rn (d + 2) 104 74 [(0, .ref 139), (1, .int fd), (2, .int ct), (3, .int (mHr (A 5) (2 * A 0 0) ct m))] [] (mOn A w g) n v h' n') : Rn (d + 2) 104 19 [(0, .ref 139), (1, .int fd), (2, .int ct), (3, .int 0), (4, .int 0)] [] (mOn A w g) n v h' n' := by
  refine xloop (fun c => Rn (d + 2) 104 19 [(0, .ref 139), (1, .int fd), (2, .int ct), (3, .int (mHr (A 5) (2 * A 0 0) ct c)), (4, .int (nI c))] [] (mOn A w g) n v h' n') m ?_ (fun c hc ih => ?_)
  · refine Rn.br 4 rfl (fun hc25 => ?_) (fun hc25 => ?_)
    · exact Rn.l4 (by decide) rfl rfl rfl rfl kk
    · exact (hc25 (by rw [hm]; exact nI_le (Nat.le_refl _) (by omega))).elim
  · refine Rn.br 4 rfl (fun hc25 => ?_) (fun hc25 => ?_)
    · exact (nI_ge hc (by omega) (by rw [← hm]; exact hc25)).elim
    · refine Rn.steps 3 rfl ?_
      refine Rn.ialdN (m := c) rfl rfl rfl (rfl) (by omega) (Nat.le_of_ble_eq_true rfl) ?_
      refine Rn.call rfl rfl rfl (c_turned (d + 1) n _ _) ?_
      refine Rn.br 7 rfl (fun hc46 => ?_) (fun hc46 => ?_)
      · have hz : (if t32 (A 5 c) = 4 * ct ∨ t32 (A 5 c) = o32 (2 * A 0 0) (4 * ct) then (1 : Int32) else 0) = 1 := if_pos (Or.inl hc46)
        refine Rn.steps 6 rfl ?_
        exact Rn.l5 (by decide) rfl rfl rfl (by rw [mHr, hz]; rfl) (by rw [← nI_1]; rfl) ih
      · refine Rn.steps 5 rfl ?_
        refine Rn.call rfl rfl rfl (c_otherSide d n A w g hne _) ?_
        refine Rn.br 1 rfl (fun hc58 => ?_) (fun hc58 => ?_)
        · have hz : (if t32 (A 5 c) = 4 * ct ∨ t32 (A 5 c) = o32 (2 * A 0 0) (4 * ct) then (1 : Int32) else 0) = 1 := if_pos (Or.inr hc58)
          refine Rn.steps 6 rfl ?_
          exact Rn.l5 (by decide) rfl rfl rfl (by rw [mHr, hz]; rfl) (by rw [← nI_1]; rfl) ih
        · have hz : (if t32 (A 5 c) = 4 * ct ∨ t32 (A 5 c) = o32 (2 * A 0 0) (4 * ct) then (1 : Int32) else 0) = 0 := if_neg (fun q => q.elim hc46 hc58)
          refine Rn.steps 5 rfl ?_
          exact Rn.l5 (by decide) rfl rfl rfl (by rw [mHr, hz]; rfl) (by rw [← nI_1]; rfl) ih
theorem xdown (k : Nat) : nI (k + 1) + (-1) = nI k := pk_m1 k
theorem c_meetAt (P : Nat) (hP : A 0 0 = nI P) (h2 : 2 ≤ P) (h6 : P ≤ 6) (m : Nat) (hm : w 2 = nI m) (hm11 : m ≤ 11) : Rn (d + 2) 104 0 [(0, .ref 139)] [] (mOn A w g) n (some (.int (mMt (A 5) m (2 * P) (2 * A 0 0) (2 * P)))) (mOn A w g) n := by
  refine Rn.steps 3 rfl ?_
  refine Rn.call rfl rfl rfl (c_horns (d + 1) n A w g) ?_
  refine Rn.steps 3 rfl ?_
  refine Rn.l3 rfl rfl rfl (by show some (Value.int (2 * A 0 0 - 1)) = _; rw [hP, x2P, show (1 : Int32) = nI 1 from rfl, pk_sub (by omega), if_neg (by omega)]) (xloop (fun c => Rn (d + 2) 104 10 [(0, .ref 139), (1, .int (mMt (A 5) m (2 * P) (2 * A 0 0) c)), (2, .int (if c = 2 * P then -1 else nI (2 * P - (c + 1))))] [] (mOn A w g) n (some (.int (mMt (A 5) m (2 * P) (2 * A 0 0) (2 * P)))) (mOn A w g) n) (2 * P) ?_ (fun c hc ih => ?_))
  · rw [if_pos rfl]
    refine Rn.steps 3 rfl ?_
    exact Rn.retE rfl rfl rfl rfl rfl
  · rw [if_neg (by omega)]
    refine Rn.br 2 rfl (fun hc11 => ?_) (fun hc11 => ?_)
    · exact (nI_pos (by omega) hc11).elim
    · refine Rn.steps 4 rfl ?_
      refine Rn.l5 (by decide) rfl rfl rfl rfl rfl (c_hr d n A w g _ _ (x2ne hP h2 h6) m hm hm11 ?_)
      refine Rn.br 3 rfl (fun hc76 => ?_) (fun hc76 => ?_)
      · have hz : (if mHr (A 5) (2 * A 0 0) (nI (2 * P - (c + 1))) m = 2 then nI (2 * P - (c + 1)) else mMt (A 5) m (2 * P) (2 * A 0 0) c) = nI (2 * P - (c + 1)) := if_pos hc76
        refine Rn.steps 5 rfl ?_
        refine Rn.l3 rfl rfl (by rw [mMt, hz]; rfl) ?_ ih
        show some (Value.int (nI (2 * P - (c + 1)) + (-1))) = some (Value.int (if c + 1 = 2 * P then -1 else nI (2 * P - (c + 1 + 1))))
        by_cases hl : c + 1 = 2 * P
        · rw [if_pos hl, show 2 * P - (c + 1) = 0 by omega]; rfl
        · rw [if_neg hl, show 2 * P - (c + 1) = (2 * P - (c + 1 + 1)) + 1 by omega, xdown]
      · have hz : (if mHr (A 5) (2 * A 0 0) (nI (2 * P - (c + 1))) m = 2 then nI (2 * P - (c + 1)) else mMt (A 5) m (2 * P) (2 * A 0 0) c) = mMt (A 5) m (2 * P) (2 * A 0 0) c := if_neg hc76
        refine Rn.steps 4 rfl ?_
        refine Rn.l3 rfl rfl (by rw [mMt, hz]; rfl) ?_ ih
        show some (Value.int (nI (2 * P - (c + 1)) + (-1))) = some (Value.int (if c + 1 = 2 * P then -1 else nI (2 * P - (c + 1 + 1))))
        by_cases hl : c + 1 = 2 * P
        · rw [if_pos hl, show 2 * P - (c + 1) = 0 by omega]; rfl
        · rw [if_neg hl, show 2 * P - (c + 1) = (2 * P - (c + 1 + 1)) + 1 by omega, xdown]
theorem c_stepPlaces (hne : ¬ 2 * A 0 0 = 0) (m : Nat) (hm : w 2 = nI m) (hm11 : m ≤ 11) : Rn (d + 2) 105 0 [(0, .ref 139)] [] (mOn A w g) n none (mOn (va_up A 5 (sPl (2 * A 0 0) (A 5) m)) w g) n := by
  have e0 : va_up A 5 (A 5) = A := by
    funext k
    unfold va_up
    by_cases hk : k = 5
    · rw [if_pos hk, hk]
    · rw [if_neg hk]
  refine Rn.steps 2 rfl ?_
  refine Rn.l2 rfl rfl rfl (Rn.heap (h2 := mOn (va_up A 5 (sPl (2 * A 0 0) (A 5) 0)) w g) (by rw [sPl_0, e0]) (xloop (fun c => Rn (d + 2) 105 2 [(0, .ref 139), (1, .int (nI c))] [] (mOn (va_up A 5 (sPl (2 * A 0 0) (A 5) c)) w g) n none (mOn (va_up A 5 (sPl (2 * A 0 0) (A 5) m)) w g) n) m ?_ (fun c hc ih => ?_)))
  · refine Rn.br 4 rfl (fun hc7 => ?_) (fun hc7 => ?_)
    · exact Rn.retE rfl rfl rfl rfl rfl
    · exact (hc7 (by rw [hm]; exact nI_le (Nat.le_refl _) (by omega))).elim
  · refine Rn.br 4 rfl (fun hc7 => ?_) (fun hc7 => ?_)
    · exact (nI_ge hc (by omega) (by rw [← hm]; exact hc7)).elim
    · refine Rn.steps 7 rfl ?_
      refine Rn.ialdN (m := c) rfl rfl rfl (rfl) (by omega) (Nat.le_of_ble_eq_true rfl) ?_
      refine Rn.call rfl rfl rfl (c_turned (d + 1) n _ _) ?_
      refine Rn.call rfl rfl rfl (c_otherSide d n (va_up A 5 (sPl (2 * A 0 0) (A 5) c)) w g hne _) ?_
      refine Rn.iastN (m := c) rfl rfl rfl rfl (rfl) (by omega) (Nat.le_of_ble_eq_true rfl) ?_
      rw [mOn_5, bx_uu]
      rw [show upd (va_up A 5 (sPl (2 * A 0 0) (A 5) c) 5) c (o32 (2 * va_up A 5 (sPl (2 * A 0 0) (A 5) c) 0 0) (t32 (va_up A 5 (sPl (2 * A 0 0) (A 5) c) 5 c))) = sPl (2 * A 0 0) (A 5) (c + 1) from (by show upd (sPl (2 * A 0 0) (A 5) c) c (o32 (2 * A 0 0) (t32 (sPl (2 * A 0 0) (A 5) c c))) = _; rw [sPl_k, sPl_s])]
      refine Rn.steps 2 rfl ?_
      exact Rn.l2 rfl rfl (by rw [← nI_1]; rfl) ih
theorem c_areBack (m : Nat) (hm : w 2 = nI m) (hm11 : m ≤ 11) : Rn (d + 2) 139 0 [(0, .ref 139)] [] (mOn A w g) n (some (.int (bi (mAb (A 0) (A 5) m 10)))) (mOn A w g) n := by
  refine Rn.steps 4 rfl ?_
  refine Rn.l3 rfl rfl rfl rfl (xloop (fun c => Rn (d + 2) 139 4 [(0, .ref 139), (1, .int (bi (mAb (A 0) (A 5) m c))), (2, .int (nI c))] [] (mOn A w g) n (some (.int (bi (mAb (A 0) (A 5) m 10)))) (mOn A w g) n) 10 ?_ (fun c hc ih => ?_))
  · refine Rn.steps 4 rfl ?_
    exact Rn.retZ rfl rfl rfl rfl rfl
  · refine Rn.br 3 rfl (fun hc7 => ?_) (fun hc7 => ?_)
    · exact (nI_ge hc (by omega) hc7).elim
    · refine Rn.br 2 rfl (fun hc11 => ?_) (fun hc11 => ?_)
      · have hz : (mAb (A 0) (A 5) m c && (!zt (A 0) c || mTk (A 5) (A 0 (10 + 7 * c)) m)) = false := by rw [bi_eq0 hc11]; rfl
        refine Rn.steps 4 rfl ?_
        exact Rn.l3 rfl rfl (by rw [mAb, hz]; rfl) (by rw [← nI_1]; rfl) ih
      · have hb := bi_ne0 hc11
        refine Rn.steps 2 rfl ?_
        refine Rn.call rfl rfl rfl (c_isC d n A w g c hc) ?_
        refine Rn.br 1 rfl (fun hc19 => ?_) (fun hc19 => ?_)
        · have hz : (mAb (A 0) (A 5) m c && (!zt (A 0) c || mTk (A 5) (A 0 (10 + 7 * c)) m)) = true := by rw [hb, bi_eq0 hc19]; rfl
          refine Rn.steps 5 rfl ?_
          exact Rn.l3 rfl rfl (by rw [mAb, hz]; rfl) (by rw [← nI_1]; rfl) ih
        · have hb2 := bi_ne0 hc19
          refine Rn.steps 4 rfl ?_
          refine Rn.call rfl rfl rfl (c_of1 (d + 1) n A w g c 0 hc (by omega)) ?_
          refine Rn.call rfl rfl rfl (c_isTaken (d + 1) n A w g _ m hm hm11) ?_
          refine Rn.br 1 rfl (fun hc32 => ?_) (fun hc32 => ?_)
          · have hz : (mAb (A 0) (A 5) m c && (!zt (A 0) c || mTk (A 5) (A 0 (10 + 7 * c)) m)) = false := by rw [hb, hb2, show mTk (A 5) (A 0 (10 + 7 * c)) m = false from bi_eq0 hc32]; rfl
            refine Rn.steps 4 rfl ?_
            exact Rn.l3 rfl rfl (by rw [mAb, hz]; rfl) (by rw [← nI_1]; rfl) ih
          · have hz : (mAb (A 0) (A 5) m c && (!zt (A 0) c || mTk (A 5) (A 0 (10 + 7 * c)) m)) = true := by rw [hb, hb2, show mTk (A 5) (A 0 (10 + 7 * c)) m = true from bi_ne0 hc32]; rfl
            refine Rn.steps 5 rfl ?_
            exact Rn.l3 rfl rfl (by rw [mAb, hz]; rfl) (by rw [← nI_1]; rfl) ih
theorem c_turnedTo (p : Int32) : Rn (d + 2) 134 0 [(0, .ref 139), (1, .int p)] [] (mOn A w g) n (some (.int (mCt (A 0) (A 5) p 10).1)) (mOn A w g) n := by
  refine Rn.steps 6 rfl ?_
  refine Rn.l5 (by decide) rfl rfl rfl rfl rfl (xloop (fun c => Rn (d + 2) 134 8 [(0, .ref 139), (1, .int p), (2, .int (mCt (A 0) (A 5) p c).1), (3, .int (nI (mCt (A 0) (A 5) p c).2)), (4, .int (nI c))] [] (mOn A w g) n (some (.int (mCt (A 0) (A 5) p 10).1)) (mOn A w g) n) 10 ?_ (fun c hc ih => ?_))
  · refine Rn.steps 4 rfl ?_
    exact Rn.retE rfl rfl rfl rfl rfl
  · refine Rn.br 3 rfl (fun hc12 => ?_) (fun hc12 => ?_)
    · exact (nI_ge hc (by omega) hc12).elim
    · refine Rn.steps 2 rfl ?_
      refine Rn.call rfl rfl rfl (c_isC d n A w g c hc) ?_
      refine Rn.br 1 rfl (fun hc21 => ?_) (fun hc21 => ?_)
      · have hz := bi_eq0 hc21
        refine Rn.steps 2 rfl ?_
        exact Rn.l5 (by decide) rfl rfl (by rw [mCt, hz]; first | rfl | (simp only [cond]; first | (rw [if_pos hc34]; rfl) | (rw [if_neg hc34]; rfl))) (by rw [mCt, hz]; first | rfl | (simp only [cond]; rw [← nI_1]; rfl)) (by rw [← nI_1]; rfl) ih
      · have hz := bi_ne0 hc21
        refine Rn.steps 3 rfl ?_
        refine Rn.ialdN (m := (mCt (A 0) (A 5) p c).2) rfl rfl rfl (rfl) (by rw [mCt_le]; have := tpm_le (A 0) c; omega) (Nat.le_of_ble_eq_true rfl) ?_
        refine Rn.call rfl rfl rfl (c_turned (d + 1) n _ _) ?_
        refine Rn.br 2 rfl (fun hc34 => ?_) (fun hc34 => ?_)
        · refine Rn.steps 6 rfl ?_
          exact Rn.l5 (by decide) rfl rfl (by rw [mCt, hz]; first | rfl | (simp only [cond]; first | (rw [if_pos hc34]; rfl) | (rw [if_neg hc34]; rfl))) (by rw [mCt, hz]; first | rfl | (simp only [cond]; rw [← nI_1]; rfl)) (by rw [← nI_1]; rfl) ih
        · refine Rn.steps 5 rfl ?_
          exact Rn.l5 (by decide) rfl rfl (by rw [mCt, hz]; first | rfl | (simp only [cond]; first | (rw [if_pos hc34]; rfl) | (rw [if_neg hc34]; rfl))) (by rw [mCt, hz]; first | rfl | (simp only [cond]; rw [← nI_1]; rfl)) (by rw [← nI_1]; rfl) ih
end MODEL2
