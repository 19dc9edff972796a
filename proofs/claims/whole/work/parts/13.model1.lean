/-! the reference's methods that only look: what they answer -/
theorem bi_eq0 {b : Bool} (h : bi b = 0) : b = false := by cases b with | false => rfl | true => exact absurd h (by decide)
theorem bi_ne0 {b : Bool} (h : ¬ bi b = 0) : b = true := by cases b with | true => rfl | false => exact absurd rfl h
theorem xidx (c q : Nat) : (10 : Int32) + 7 * nI c + nI q = nI (10 + 7 * c + q) := by
  rw [show (10 : Int32) = nI 10 from rfl, show (7 : Int32) = nI 7 from rfl, pk_mul, nI_add, nI_add]
theorem xin10 {x : Int32} (h : 0 ≤ x ∧ x ≤ 9) : ∃ c : Nat, c < 10 ∧ x = nI c := by
  obtain ⟨j, hj, e⟩ := nI_of2 (M := 9) (n := 9) rfl (Int32.not_lt.mpr h.1) h.2
  exact ⟨j, by omega, e⟩
theorem xnc {c : Nat} (hc : c < 2 ^ 31) : (nI c).toNatClampNeg = c := nI_clamp hc
def rm (x y : Int32) : Int32 := x - x / y * y
def zt (z : Nat → Int32) (c : Nat) : Bool := decide (¬ z (10 + 7 * c) = -6)
def isC (z : Nat → Int32) (x : Int32) : Bool := decide (0 ≤ x ∧ x ≤ 9) && zt z x.toNatClampNeg
theorem isC_nI {z : Nat → Int32} {c : Nat} (hc : c < 10) : isC z (nI c) = zt z c := by
  unfold isC
  rw [decide_eq_true (⟨nI_pos' (by omega), nI_le (b := 9) (by omega) (by omega)⟩ : 0 ≤ nI c ∧ nI c ≤ 9), nI_clamp (by omega)]
  rfl
def mMany (z : Nat → Int32) : Nat → Int32 | 0 => 0 | c + 1 => mMany z c + bi (zt z c)
def mSum (z : Nat → Int32) (q : Nat) : Nat → Int32 | 0 => 0 | c + 1 => mSum z q c + cond (zt z c) (z (10 + 7 * c + q)) 0
def mIn (z : Nat → Int32) (p : Int32) : Nat → Int32 | 0 => -6 | c + 1 => cond (zt z c && decide (z (10 + 7 * c) = p)) (nI c) (mIn z p c)
def t32 (p : Int32) : Int32 := 4 * (p / 4) + rm (p + (if rm (p / 4) 2 = 0 then 1 else 3)) 4
def o32 (hn p : Int32) : Int32 := if rm p 4 = 0 then 4 * rm (p / 4 + 1) hn + 2 else if rm p 4 = 2 then 4 * rm (p / 4 + hn - 1) hn else p
section RN4
variable {d i pc : Nat} {ls : xLs} {st : List Value} {h h' : xHp} {n n' : Nat} {v : Option Value}
theorem Rn.irem {e : xEn} {x y : Int32} {r : List Value} (hf : xfind i pc = some e) (he : e.1 = .irem) (hy : ¬ y = 0) (kk : Rn d i (pc + 1) ls (.int (rm x y) :: r) h n v h' n') : Rn d i pc ls (.int y :: .int x :: r) h n v h' n' := by
  obtain ⟨ins, e2⟩ := e
  dsimp only at he
  subst he
  refine Rn.step1 hf rfl ?_ kk
  show xgp (¬ y = 0) _ = _
  rw [xgp_pos hy]
  rfl
theorem xnok_bi (b : Bool) : xnok .boolean (bi b) = true := by cases b <;> decide
theorem Rn.retZ {e : xEn} {b : Bool} (hf : xfind i pc = some e) (he : e.1 = .ireturn) (hty : (xMt i).2.2.2.1 = some .boolean) (hv : some (Value.int (bi b)) = v) (hh : h = h') : Rn d i pc ls [.int (bi b)] h n v h' n := by
  subst hv; subst hh
  obtain ⟨ins, e2⟩ := e
  dsimp only at he
  subst he
  refine Rn.ret hf rfl ?_
  show xgd true (match (xMt i).2.2.2.1 with | some ty => xgd (xnok ty (bi b)) (some (some (Value.int (bi b)))) | none => none) = _
  rw [hty]
  show xgd (xnok .boolean (bi b)) _ = _
  rw [xnok_bi]
  rfl
end RN4
section MODEL1
variable (d n : Nat) (A : Nat → Nat → Int32) (w : Nat → Int32) (g h : xHp)
theorem c_of1 (c q : Nat) (hc : c < 10) (hq : q < 7) : Rn d 89 0 [(0, .ref 139), (1, .int (nI c)), (2, .int (nI q))] [] (mOn A w g) n (some (.int (A 0 (10 + 7 * c + q)))) (mOn A w g) n := by
  refine Rn.steps 9 rfl ?_
  refine Rn.ialdN (m := 10 + 7 * c + q) rfl rfl rfl (xidx c q) (by omega) (by omega) ?_
  exact Rn.ret rfl rfl rfl
theorem c_in (x a b : Int32) : Rn d 88 0 [(0, .int x), (1, .int a), (2, .int b)] [] h n (some (.int (bi (decide (a ≤ x ∧ x ≤ b))))) h n := by
  refine Rn.br 3 rfl (fun hc => ?_) (fun hc => ?_)
  · refine Rn.steps 1 rfl ?_
    exact Rn.retE rfl rfl rfl (by rw [decide_eq_false (fun q => Int32.not_le.mpr hc q.1)]; rfl) rfl
  · refine Rn.br 3 rfl (fun hc2 => ?_) (fun hc2 => ?_)
    · refine Rn.steps 1 rfl ?_
      exact Rn.retE rfl rfl rfl (by rw [decide_eq_false (fun q => Int32.not_le.mpr hc2 q.2)]; rfl) rfl
    · refine Rn.steps 2 rfl ?_
      exact Rn.retE rfl rfl rfl (by rw [decide_eq_true (⟨Int32.not_lt.mp hc, Int32.not_lt.mp hc2⟩ : a ≤ x ∧ x ≤ b)]; rfl) rfl
theorem c_lay (c q : Nat) (x : Int32) (hc : c < 10) (hq : q < 7) : Rn d 86 0 [(0, .ref 139), (1, .int (nI c)), (2, .int (nI q)), (3, .int x)] [] (mOn A w g) n (none) (mOn (va_up A 0 (upd (A 0) (10 + 7 * c + q) x)) w g) n := by
  refine Rn.steps 10 rfl ?_
  refine Rn.iastN (m := 10 + 7 * c + q) rfl rfl rfl rfl (xidx c q) (by omega) (Nat.le_of_ble_eq_true rfl) ?_
  rw [mOn_0]
  exact Rn.retE rfl rfl rfl rfl rfl
theorem c_isCx (x : Int32) : Rn (d + 1) 90 0 [(0, .ref 139), (1, .int x)] [] (mOn A w g) n (some (.int (bi (isC (A 0) x)))) (mOn A w g) n := by
  refine Rn.steps 3 rfl ?_
  refine Rn.call rfl rfl rfl (c_in d n _ _ _ _) ?_
  refine Rn.br 1 rfl (fun hc7 => ?_) (fun hc7 => ?_)
  · have hb := bi_eq0 hc7
    refine Rn.steps 1 rfl ?_
    exact Rn.retE rfl rfl rfl (by first | (rw [hz]; rfl) | (unfold isC; rw [hb]; rfl)) rfl
  · have hb := bi_ne0 hc7
    obtain ⟨c, hc, rfl⟩ := xin10 (of_decide_eq_true hb)
    rw [isC_nI hc]
    refine Rn.steps 3 rfl ?_
    refine Rn.call rfl rfl rfl (c_of1 d n A w g c 0 hc (by omega)) ?_
    refine Rn.br 2 rfl (fun hc18 => ?_) (fun hc18 => ?_)
    · have hz : zt (A 0) c = false := decide_eq_false (fun q => q hc18)
      refine Rn.steps 1 rfl ?_
      exact Rn.retE rfl rfl rfl (by first | (rw [hz]; rfl) | (unfold isC; rw [hb]; rfl)) rfl
    · have hz : zt (A 0) c = true := decide_eq_true hc18
      refine Rn.steps 2 rfl ?_
      exact Rn.retE rfl rfl rfl (by first | (rw [hz]; rfl) | (unfold isC; rw [hb]; rfl)) rfl
theorem c_isC (c : Nat) (hc : c < 10) : Rn (d + 1) 90 0 [(0, .ref 139), (1, .int (nI c))] [] (mOn A w g) n (some (.int (bi (zt (A 0) c)))) (mOn A w g) n := by
  rw [← isC_nI hc]
  exact c_isCx d n A w g (nI c)
theorem c_horns : Rn d 91 0 [(0, .ref 139)] [] (mOn A w g) n (some (.int (2 * A 0 0))) (mOn A w g) n := by
  refine Rn.steps 4 rfl ?_
  refine Rn.ialdN (m := 0) rfl rfl rfl (rfl) (by omega) (Nat.le_of_ble_eq_true rfl) ?_
  refine Rn.steps 1 rfl ?_
  exact Rn.retE rfl rfl rfl rfl rfl
theorem c_many : Rn (d + 2) 92 0 [(0, .ref 139)] [] (mOn A w g) n (some (.int (mMany (A 0) 10))) (mOn A w g) n := by
  refine Rn.steps 4 rfl ?_
  refine Rn.l3 rfl rfl rfl rfl (xloop (fun c => Rn (d + 2) 92 4 [(0, .ref 139), (1, .int (mMany (A 0) c)), (2, .int (nI c))] [] (mOn A w g) n (some (.int (mMany (A 0) 10))) (mOn A w g) n) 10 ?_ (fun c hc ih => ?_))
  · refine Rn.steps 4 rfl ?_
    exact Rn.retE rfl rfl rfl rfl rfl
  · refine Rn.br 3 rfl (fun hc7 => ?_) (fun hc7 => ?_)
    · exact (nI_ge hc (by omega) hc7).elim
    · refine Rn.steps 3 rfl ?_
      refine Rn.call rfl rfl rfl (c_isC d n A w g c hc) ?_
      refine Rn.br 1 rfl (fun hc16 => ?_) (fun hc16 => ?_)
      · have hz := bi_eq0 hc16
        refine Rn.steps 5 rfl ?_
        exact Rn.l3 rfl rfl (by rw [mMany, hz]; rfl) (by rw [← nI_1]; rfl) ih
      · have hz := bi_ne0 hc16
        refine Rn.steps 6 rfl ?_
        exact Rn.l3 rfl rfl (by rw [mMany, hz]; rfl) (by rw [← nI_1]; rfl) ih
theorem c_sum (q : Nat) (hq : q < 7) : Rn (d + 2) 93 0 [(0, .ref 139), (1, .int (nI q))] [] (mOn A w g) n (some (.int (mSum (A 0) q 10))) (mOn A w g) n := by
  refine Rn.steps 4 rfl ?_
  refine Rn.l4 (by decide) rfl rfl rfl rfl (xloop (fun c => Rn (d + 2) 93 4 [(0, .ref 139), (1, .int (nI q)), (2, .int (mSum (A 0) q c)), (3, .int (nI c))] [] (mOn A w g) n (some (.int (mSum (A 0) q 10))) (mOn A w g) n) 10 ?_ (fun c hc ih => ?_))
  · refine Rn.steps 4 rfl ?_
    exact Rn.retE rfl rfl rfl rfl rfl
  · refine Rn.br 3 rfl (fun hc7 => ?_) (fun hc7 => ?_)
    · exact (nI_ge hc (by omega) hc7).elim
    · refine Rn.steps 3 rfl ?_
      refine Rn.call rfl rfl rfl (c_isC d n A w g c hc) ?_
      refine Rn.br 1 rfl (fun hc16 => ?_) (fun hc16 => ?_)
      · have hz := bi_eq0 hc16
        refine Rn.steps 5 rfl ?_
        exact Rn.l4 (by decide) rfl rfl (by rw [mSum, hz]; rfl) (by rw [← nI_1]; rfl) ih
      · have hz := bi_ne0 hc16
        refine Rn.steps 3 rfl ?_
        refine Rn.call rfl rfl rfl (c_of1 (d + 1) n A w g c q hc hq) ?_
        refine Rn.steps 5 rfl ?_
        exact Rn.l4 (by decide) rfl rfl (by rw [mSum, hz]; rfl) (by rw [← nI_1]; rfl) ih
theorem c_carrierIn (p : Int32) : Rn (d + 2) 94 0 [(0, .ref 139), (1, .int p)] [] (mOn A w g) n (some (.int (mIn (A 0) p 10))) (mOn A w g) n := by
  refine Rn.steps 4 rfl ?_
  refine Rn.l4 (by decide) rfl rfl rfl rfl (xloop (fun c => Rn (d + 2) 94 5 [(0, .ref 139), (1, .int p), (2, .int (mIn (A 0) p c)), (3, .int (nI c))] [] (mOn A w g) n (some (.int (mIn (A 0) p 10))) (mOn A w g) n) 10 ?_ (fun c hc ih => ?_))
  · refine Rn.steps 4 rfl ?_
    exact Rn.retE rfl rfl rfl rfl rfl
  · refine Rn.br 3 rfl (fun hc8 => ?_) (fun hc8 => ?_)
    · exact (nI_ge hc (by omega) hc8).elim
    · refine Rn.steps 2 rfl ?_
      refine Rn.call rfl rfl rfl (c_isC d n A w g c hc) ?_
      refine Rn.br 1 rfl (fun hc16 => ?_) (fun hc16 => ?_)
      · have hz : (zt (A 0) c && decide (A 0 (10 + 7 * c) = p)) = false := by rw [bi_eq0 hc16]; rfl
        refine Rn.steps 4 rfl ?_
        exact Rn.l4 (by decide) rfl rfl (by rw [mIn, hz]; rfl) (by rw [← nI_1]; rfl) ih
      · have hz0 := bi_ne0 hc16
        refine Rn.steps 3 rfl ?_
        refine Rn.call rfl rfl rfl (c_of1 (d + 1) n A w g c 0 hc (by omega)) ?_
        refine Rn.br 2 rfl (fun hc26 => ?_) (fun hc26 => ?_)
        · have hz : (zt (A 0) c && decide (A 0 (10 + 7 * c) = p)) = true := by rw [hz0, decide_eq_true (show A 0 (10 + 7 * c) = p from hc26)]; rfl
          refine Rn.steps 5 rfl ?_
          exact Rn.l4 (by decide) rfl rfl (by rw [mIn, hz]; rfl) (by rw [← nI_1]; rfl) ih
        · have hz : (zt (A 0) c && decide (A 0 (10 + 7 * c) = p)) = false := by rw [hz0, decide_eq_false (show ¬ A 0 (10 + 7 * c) = p from hc26)]; rfl
          refine Rn.steps 4 rfl ?_
          exact Rn.l4 (by decide) rfl rfl (by rw [mIn, hz]; rfl) (by rw [← nI_1]; rfl) ih
theorem c_turned (p : Int32) : Rn d 101 0 [(0, .int p)] [] h n (some (.int (t32 p))) h n := by
  refine Rn.br 12 rfl (fun hc11 => ?_) (fun hc11 => ?_)
  · refine Rn.steps 6 rfl ?_
    exact Rn.retE rfl rfl rfl (by unfold t32; rw [show rm (p / 4) 2 = p / 4 - p / 4 / 2 * 2 from rfl]; first | (rw [if_pos hc11]; rfl) | (rw [if_neg hc11]; rfl)) rfl
  · refine Rn.steps 5 rfl ?_
    exact Rn.retE rfl rfl rfl (by unfold t32; rw [show rm (p / 4) 2 = p / 4 - p / 4 / 2 * 2 from rfl]; first | (rw [if_pos hc11]; rfl) | (rw [if_neg hc11]; rfl)) rfl
theorem c_otherSide (hne : ¬ 2 * A 0 0 = 0) (p : Int32) : Rn (d + 1) 100 0 [(0, .ref 139), (1, .int p)] [] (mOn A w g) n (some (.int (o32 (2 * A 0 0) p))) (mOn A w g) n := by
  refine Rn.br 10 rfl (fun hc9 => ?_) (fun hc9 => ?_)
  · refine Rn.steps 5 rfl ?_
    refine Rn.call rfl rfl rfl (c_horns d n A w g) ?_
    refine Rn.irem rfl rfl hne ?_
    refine Rn.steps 3 rfl ?_
    exact Rn.retE rfl rfl rfl (by unfold o32; rw [if_pos (show rm p 4 = 0 from hc9)]) rfl
  · refine Rn.br 3 rfl (fun hc27 => ?_) (fun hc27 => ?_)
    · refine Rn.steps 3 rfl ?_
      refine Rn.call rfl rfl rfl (c_horns d n A w g) ?_
      refine Rn.steps 4 rfl ?_
      refine Rn.call rfl rfl rfl (c_horns d n A w g) ?_
      refine Rn.irem rfl rfl hne ?_
      refine Rn.steps 2 rfl ?_
      exact Rn.retE rfl rfl rfl (by unfold o32; rw [if_neg (show ¬ rm p 4 = 0 from hc9)]; first | (rw [if_pos (show rm p 4 = 2 from hc27)]) | (rw [if_neg (show ¬ rm p 4 = 2 from hc27)])) rfl
    · refine Rn.steps 1 rfl ?_
      exact Rn.retE rfl rfl rfl (by unfold o32; rw [if_neg (show ¬ rm p 4 = 0 from hc9)]; first | (rw [if_pos (show rm p 4 = 2 from hc27)]) | (rw [if_neg (show ¬ rm p 4 = 2 from hc27)])) rfl
end MODEL1
