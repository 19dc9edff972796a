/-! the class's track, laid over a heap: what its methods that look answer -/
def cf (z s : Nat → Int32) (c : Nat) : List Value := [.int (bi (zt z c)), .int (cond (zt z c) (z (10 + 7 * c)) (s c)), .int (z (10 + 7 * c + 1)), .int (z (10 + 7 * c + 2)), .int (z (10 + 7 * c + 3)), .int (z (10 + 7 * c + 4)), .int (z (10 + 7 * c + 5))]
def s3 (z : Nat → Int32) : Nat → Int32 := fun k => cond (Nat.blt k 3) (z k) 0
def tc (b : Nat) (z s : Nat → Int32) (o : Nat) : xLC := cond (Nat.beq o 0) (.inr (2, [.ref (b + 1), .ref (b + 2), .int (z 3), .int (z 4), .int (z 5), .int (z 6), .int (z 7), .int (z 8), .int (z 9)])) (cond (Nat.beq o 1) (.inl (0, 3, .inl (s3 z))) (cond (Nat.beq o 2) (.inl (4, 10, .inr (fun k => cond (Nat.blt k 10) (some (b + 3 + k)) none))) (.inr (0, cf z s (o - 3)))))
def tOn (z s : Nat → Int32) (g : xHp) : xHp := fun k => cond (Nat.ble 4 k && Nat.ble k 16) (tc 4 z s (k - 4)) (g k)
theorem tOn_c {z s : Nat → Int32} {g : xHp} {c : Nat} (hc : c < 10) : tOn z s g (7 + c) = .inr (0, cf z s c) := by
  unfold tOn
  rw [show (Nat.ble 4 (7 + c) && Nat.ble (7 + c) 16) = true by rw [Bool.and_eq_true]; exact ⟨Nat.ble_eq_true_of_le (by omega), Nat.ble_eq_true_of_le (by omega)⟩]
  show tc 4 z s (7 + c - 4) = _
  rw [show 7 + c - 4 = c + 3 by omega]
  unfold tc
  rw [xbeq_no (by omega : ¬ c + 3 = 0), xbeq_no (by omega : ¬ c + 3 = 1), xbeq_no (by omega : ¬ c + 3 = 2)]
  rfl
theorem crow {c : Nat} (hc : c < 10) : cond (Nat.blt c 10) (some (4 + 3 + c)) none = some (7 + c) := by
  rw [show Nat.blt c 10 = true from Nat.ble_eq_true_of_le hc]
  rfl
theorem cf_p {z s : Nat → Int32} {c : Nat} (hz : zt z c = true) : (cf z s c)[1]? = some (.int (z (10 + 7 * c))) := by
  show some (Value.int (cond (zt z c) (z (10 + 7 * c)) (s c))) = _
  rw [hz]
  rfl
theorem tc_eq {z z' s s' : Nat → Int32} (o : Nat) (b : Nat) (h1 : ∀ j, j < 10 → z' j = z j) (h2 : 3 ≤ o → cf z' s' (o - 3) = cf z s (o - 3)) : tc b z' s' o = tc b z s o := by
  unfold tc
  cases e0 : Nat.beq o 0 with
  | true =>
    simp only [cond]
    rw [h1 3 (by omega), h1 4 (by omega), h1 5 (by omega), h1 6 (by omega), h1 7 (by omega), h1 8 (by omega), h1 9 (by omega)]
  | false =>
    cases e1 : Nat.beq o 1 with
    | true =>
      simp only [cond]
      rw [show s3 z' = s3 z from by
        funext k
        unfold s3
        cases hk : Nat.blt k 3 with
        | false => rfl
        | true => exact h1 k (by have := Nat.le_of_ble_eq_true hk; omega)]
    | false =>
      cases e2 : Nat.beq o 2 with
      | true => rfl
      | false =>
        simp only [cond]
        have n0 := Nat.ne_of_beq_eq_false e0
        have n1 := Nat.ne_of_beq_eq_false e1
        have n2 := Nat.ne_of_beq_eq_false e2
        rw [h2 (by omega)]
theorem cf_ne {z z' s s' : Nat → Int32} {c e : Nat} (hz : ∀ j, 10 ≤ j → (j < 10 + 7 * c ∨ 10 + 7 * c + 7 ≤ j) → z' j = z j) (hs : ∀ j, ¬ j = c → s' j = s j) (he : ¬ e = c) : cf z' s' e = cf z s e := by
  unfold cf zt
  rw [hz (10 + 7 * e) (by omega) (by omega), hz (10 + 7 * e + 1) (by omega) (by omega), hz (10 + 7 * e + 2) (by omega) (by omega), hz (10 + 7 * e + 3) (by omega) (by omega), hz (10 + 7 * e + 4) (by omega) (by omega), hz (10 + 7 * e + 5) (by omega) (by omega), hs e he]
theorem tOn_car {z z' s s' : Nat → Int32} {g : xHp} {c : Nat} {fs : List Value} (hc : c < 10) (hz : ∀ j, (j < 10 + 7 * c ∨ 10 + 7 * c + 7 ≤ j) → z' j = z j) (hs : ∀ j, ¬ j = c → s' j = s j) (hf : fs = cf z' s' c) : xup (tOn z s g) (7 + c) (.inr (0, fs)) = tOn z' s' g := by
  funext k
  unfold xup
  by_cases hk : k = 7 + c
  · subst hk
    rw [if_pos rfl, tOn_c hc, hf]
  · rw [if_neg hk]
    unfold tOn
    cases hb : (Nat.ble 4 k && Nat.ble k 16) with
    | false => rfl
    | true =>
      simp only [cond]
      rw [Bool.and_eq_true] at hb
      have b1 := Nat.le_of_ble_eq_true hb.1
      have b2 := Nat.le_of_ble_eq_true hb.2
      exact (tc_eq (k - 4) 4 (fun j hj => hz j (by omega)) (fun h3 => cf_ne (c := c) (fun j _ h => hz j h) hs (by omega))).symm
theorem tOn_sc {z z' s : Nat → Int32} {g : xHp} {fs : List Value} (hz : ∀ j, (j < 3 ∨ 10 ≤ j) → z' j = z j) (hf : fs = [.ref 5, .ref 6, .int (z' 3), .int (z' 4), .int (z' 5), .int (z' 6), .int (z' 7), .int (z' 8), .int (z' 9)]) : xup (tOn z s g) 4 (.inr (2, fs)) = tOn z' s g := by
  funext k
  unfold xup
  by_cases hk : k = 4
  · subst hk
    rw [if_pos rfl, hf]
    rfl
  · rw [if_neg hk]
    unfold tOn
    cases hb : (Nat.ble 4 k && Nat.ble k 16) with
    | false => rfl
    | true =>
      simp only [cond]
      rw [Bool.and_eq_true] at hb
      have b1 := Nat.le_of_ble_eq_true hb.1
      have b2 := Nat.le_of_ble_eq_true hb.2
      unfold tc
      rw [xbeq_no (by omega : ¬ k - 4 = 0)]
      simp only [cond]
      have e1 : s3 z = s3 z' := by
        funext k
        unfold s3
        cases hk : Nat.blt k 3 with
        | false => rfl
        | true => exact (hz k (Or.inl (by have := Nat.le_of_ble_eq_true hk; omega))).symm
      have e2 : ∀ e, cf z s e = cf z' s e := by
        intro e
        unfold cf zt
        rw [hz (10 + 7 * e) (by omega), hz (10 + 7 * e + 1) (by omega), hz (10 + 7 * e + 2) (by omega), hz (10 + 7 * e + 3) (by omega), hz (10 + 7 * e + 4) (by omega), hz (10 + 7 * e + 5) (by omega)]
      rw [e1, e2]
theorem tOn_st {z s : Nat → Int32} {g : xHp} {k : Nat} {x : Int32} (hk3 : k < 3) : xup (tOn z s g) 5 (.inl (0, 3, .inl (upd (s3 z) k x))) = tOn (upd z k x) s g := by
  funext q
  unfold xup
  by_cases hk : q = 5
  · subst hk
    rw [if_pos rfl]
    show _ = (.inl (0, 3, .inl (s3 (upd z k x))) : xLC)
    rw [show s3 (upd z k x) = upd (s3 z) k x by
      funext j
      unfold s3 upd
      by_cases hj : j = k
      · rw [if_pos hj, if_pos hj, hj, show Nat.blt k 3 = true from Nat.ble_eq_true_of_le hk3]; rfl
      · rw [if_neg hj, if_neg hj]]
  · rw [if_neg hk]
    unfold tOn
    cases hb : (Nat.ble 4 q && Nat.ble q 16) with
    | false => rfl
    | true =>
      simp only [cond]
      rw [Bool.and_eq_true] at hb
      have b1 := Nat.le_of_ble_eq_true hb.1
      have b2 := Nat.le_of_ble_eq_true hb.2
      unfold tc
      rw [xbeq_no (by omega : ¬ q - 4 = 1), upd_ne (by omega), upd_ne (by omega), upd_ne (by omega), upd_ne (by omega), upd_ne (by omega), upd_ne (by omega), upd_ne (by omega)]
      have e2 : ∀ e, cf z s e = cf (upd z k x) s e := by
        intro e
        unfold cf zt
        rw [upd_ne (by omega), upd_ne (by omega), upd_ne (by omega), upd_ne (by omega), upd_ne (by omega), upd_ne (by omega)]
      rw [e2]
      rfl
theorem tOn_p2 {z s : Nat → Int32} {g : xHp} {c : Nat} {x : Int32} (hc : c < 10) : xup (tOn z s g) (7 + c) (.inr (0, (cf z s c).set 2 (.int x))) = tOn (upd z (10 + 7 * c + 1) x) s g := by
  refine tOn_car hc (fun j hj => upd_ne (by omega)) (fun _ _ => rfl) ?_
  unfold cf zt
  rw [upd_ne (by omega : ¬ 10 + 7 * c = 10 + 7 * c + 1), upd_eq, upd_ne (by omega : ¬ 10 + 7 * c + 2 = 10 + 7 * c + 1), upd_ne (by omega : ¬ 10 + 7 * c + 3 = 10 + 7 * c + 1), upd_ne (by omega : ¬ 10 + 7 * c + 4 = 10 + 7 * c + 1), upd_ne (by omega : ¬ 10 + 7 * c + 5 = 10 + 7 * c + 1)]
  rfl
theorem tOn_p3 {z s : Nat → Int32} {g : xHp} {c : Nat} {x : Int32} (hc : c < 10) : xup (tOn z s g) (7 + c) (.inr (0, (cf z s c).set 3 (.int x))) = tOn (upd z (10 + 7 * c + 2) x) s g := by
  refine tOn_car hc (fun j hj => upd_ne (by omega)) (fun _ _ => rfl) ?_
  unfold cf zt
  rw [upd_ne (by omega : ¬ 10 + 7 * c = 10 + 7 * c + 2), upd_ne (by omega : ¬ 10 + 7 * c + 1 = 10 + 7 * c + 2), upd_eq, upd_ne (by omega : ¬ 10 + 7 * c + 3 = 10 + 7 * c + 2), upd_ne (by omega : ¬ 10 + 7 * c + 4 = 10 + 7 * c + 2), upd_ne (by omega : ¬ 10 + 7 * c + 5 = 10 + 7 * c + 2)]
  rfl
theorem tOn_p4 {z s : Nat → Int32} {g : xHp} {c : Nat} {x : Int32} (hc : c < 10) : xup (tOn z s g) (7 + c) (.inr (0, (cf z s c).set 4 (.int x))) = tOn (upd z (10 + 7 * c + 3) x) s g := by
  refine tOn_car hc (fun j hj => upd_ne (by omega)) (fun _ _ => rfl) ?_
  unfold cf zt
  rw [upd_ne (by omega : ¬ 10 + 7 * c = 10 + 7 * c + 3), upd_ne (by omega : ¬ 10 + 7 * c + 1 = 10 + 7 * c + 3), upd_ne (by omega : ¬ 10 + 7 * c + 2 = 10 + 7 * c + 3), upd_eq, upd_ne (by omega : ¬ 10 + 7 * c + 4 = 10 + 7 * c + 3), upd_ne (by omega : ¬ 10 + 7 * c + 5 = 10 + 7 * c + 3)]
  rfl
theorem tOn_p5 {z s : Nat → Int32} {g : xHp} {c : Nat} {x : Int32} (hc : c < 10) : xup (tOn z s g) (7 + c) (.inr (0, (cf z s c).set 5 (.int x))) = tOn (upd z (10 + 7 * c + 4) x) s g := by
  refine tOn_car hc (fun j hj => upd_ne (by omega)) (fun _ _ => rfl) ?_
  unfold cf zt
  rw [upd_ne (by omega : ¬ 10 + 7 * c = 10 + 7 * c + 4), upd_ne (by omega : ¬ 10 + 7 * c + 1 = 10 + 7 * c + 4), upd_ne (by omega : ¬ 10 + 7 * c + 2 = 10 + 7 * c + 4), upd_ne (by omega : ¬ 10 + 7 * c + 3 = 10 + 7 * c + 4), upd_eq, upd_ne (by omega : ¬ 10 + 7 * c + 5 = 10 + 7 * c + 4)]
  rfl
theorem tOn_p6 {z s : Nat → Int32} {g : xHp} {c : Nat} {x : Int32} (hc : c < 10) : xup (tOn z s g) (7 + c) (.inr (0, (cf z s c).set 6 (.int x))) = tOn (upd z (10 + 7 * c + 5) x) s g := by
  refine tOn_car hc (fun j hj => upd_ne (by omega)) (fun _ _ => rfl) ?_
  unfold cf zt
  rw [upd_ne (by omega : ¬ 10 + 7 * c = 10 + 7 * c + 5), upd_ne (by omega : ¬ 10 + 7 * c + 1 = 10 + 7 * c + 5), upd_ne (by omega : ¬ 10 + 7 * c + 2 = 10 + 7 * c + 5), upd_ne (by omega : ¬ 10 + 7 * c + 3 = 10 + 7 * c + 5), upd_ne (by omega : ¬ 10 + 7 * c + 4 = 10 + 7 * c + 5), upd_eq]
  rfl
theorem tOn_p1 {z s : Nat → Int32} {g : xHp} {c : Nat} {x : Int32} (hc : c < 10) (hz : zt z c = true) (hx : ¬ x = -6) : xup (tOn z s g) (7 + c) (.inr (0, (cf z s c).set 1 (.int x))) = tOn (upd z (10 + 7 * c) x) s g := by
  refine tOn_car hc (fun j hj => upd_ne (by omega)) (fun _ _ => rfl) ?_
  have e : zt (upd z (10 + 7 * c) x) c = true := by unfold zt; rw [upd_eq]; exact decide_eq_true hx
  unfold cf
  rw [e, hz, upd_eq, upd_ne (by omega), upd_ne (by omega), upd_ne (by omega), upd_ne (by omega), upd_ne (by omega)]
  rfl
theorem tOn_p0 {z s : Nat → Int32} {g : xHp} {c : Nat} (hc : c < 10) (hz : zt z c = true) : xup (tOn z s g) (7 + c) (.inr (0, (cf z s c).set 0 (.int 0))) = tOn (upd z (10 + 7 * c) (-6)) (upd s c (z (10 + 7 * c))) g := by
  refine tOn_car hc (fun j hj => upd_ne (by omega)) (fun _ h => upd_ne h) ?_
  have e : zt (upd z (10 + 7 * c) (-6)) c = false := by unfold zt; rw [upd_eq]; exact decide_eq_false (fun h => h rfl)
  unfold cf
  rw [e, hz, upd_eq (f := z), upd_eq (f := s), upd_ne (by omega), upd_ne (by omega), upd_ne (by omega), upd_ne (by omega), upd_ne (by omega)]
  rfl
theorem tOn_w2 {z s : Nat → Int32} {g : xHp} {x : Int32} : xup (tOn z s g) 4 (.inr (2, [.ref 5, .ref 6, .int x, .int (z 4), .int (z 5), .int (z 6), .int (z 7), .int (z 8), .int (z 9)])) = tOn (upd z 3 x) s g := by
  refine tOn_sc (fun j hj => upd_ne (by omega)) ?_
  rfl
theorem tOn_w3 {z s : Nat → Int32} {g : xHp} {x : Int32} : xup (tOn z s g) 4 (.inr (2, [.ref 5, .ref 6, .int (z 3), .int x, .int (z 5), .int (z 6), .int (z 7), .int (z 8), .int (z 9)])) = tOn (upd z 4 x) s g := by
  refine tOn_sc (fun j hj => upd_ne (by omega)) ?_
  rfl
theorem tOn_w4 {z s : Nat → Int32} {g : xHp} {x : Int32} : xup (tOn z s g) 4 (.inr (2, [.ref 5, .ref 6, .int (z 3), .int (z 4), .int x, .int (z 6), .int (z 7), .int (z 8), .int (z 9)])) = tOn (upd z 5 x) s g := by
  refine tOn_sc (fun j hj => upd_ne (by omega)) ?_
  rfl
theorem tOn_w5 {z s : Nat → Int32} {g : xHp} {x : Int32} : xup (tOn z s g) 4 (.inr (2, [.ref 5, .ref 6, .int (z 3), .int (z 4), .int (z 5), .int x, .int (z 7), .int (z 8), .int (z 9)])) = tOn (upd z 6 x) s g := by
  refine tOn_sc (fun j hj => upd_ne (by omega)) ?_
  rfl
theorem tOn_w6 {z s : Nat → Int32} {g : xHp} {x : Int32} : xup (tOn z s g) 4 (.inr (2, [.ref 5, .ref 6, .int (z 3), .int (z 4), .int (z 5), .int (z 6), .int x, .int (z 8), .int (z 9)])) = tOn (upd z 7 x) s g := by
  refine tOn_sc (fun j hj => upd_ne (by omega)) ?_
  rfl
theorem tOn_w7 {z s : Nat → Int32} {g : xHp} {x : Int32} : xup (tOn z s g) 4 (.inr (2, [.ref 5, .ref 6, .int (z 3), .int (z 4), .int (z 5), .int (z 6), .int (z 7), .int x, .int (z 9)])) = tOn (upd z 8 x) s g := by
  refine tOn_sc (fun j hj => upd_ne (by omega)) ?_
  rfl
theorem tOn_w8 {z s : Nat → Int32} {g : xHp} {x : Int32} : xup (tOn z s g) 4 (.inr (2, [.ref 5, .ref 6, .int (z 3), .int (z 4), .int (z 5), .int (z 6), .int (z 7), .int (z 8), .int x])) = tOn (upd z 9 x) s g := by
  refine tOn_sc (fun j hj => upd_ne (by omega)) ?_
  rfl
def fIn (z : Nat → Int32) (p : Int32) : Nat → Nat → Int32 | 0, _ => -6 | r + 1, c => cond (zt z c && decide (z (10 + 7 * c) = p)) (nI c) (fIn z p r (c + 1))
def tpF (hn : Int32) : Nat → Int32 → Int32 | 0, x => x | k + 1, x => tpF hn k (t32 (pF hn x))
def fTt (z : Nat → Int32) (p : Int32) (L : Nat) : Nat → Nat → Int32 | 0, _ => -6 | r + 1, c => cond (zt z c && decide (tpF (2 * z 0) L (t32 (z (10 + 7 * c))) = p)) (nI c) (fTt z p L r (c + 1))
def arF (z : Nat → Int32) : Nat → Int32 → Nat → Int32 | 0, _, _ => -1 | r + 1, l, p => if fIn z (nI p) 10 0 = -6 then arF z r l (p + 1) else if l = 0 then fIn z (nI p) 10 0 else arF z r (l + (-1)) (p + 1)
def tkF (z : Nat → Int32) : Nat → Int64 | 0 => 0 | c + 1 => cond (zt z c) (tkF z c ||| shl 1 (z (10 + 7 * c))) (tkF z c)
def leF2 (z : Nat → Int32) : Nat → Int32 | 0 => 1000 | c + 1 => cond (zt z c) (if z (10 + 7 * c + 1) < leF2 z c then z (10 + 7 * c + 1) else leF2 z c) (leF2 z c)
def hiF (z : Nat → Int32) : Int32 := if tkF z 10 = 0 then 1 else if 0 < mSum z 2 10 then 2 else if leF2 z 10 = 0 then 3 else if mts (aT (tkF z 10)) (2 * z 0) = 0 then 0 else 4
/-- broken ends are 0 or 1 -/
def Fl (z : Nat → Int32) : Prop := ∀ c, c < 10 → z (10 + 7 * c + 2) = 0 ∨ z (10 + 7 * c + 2) = 1
theorem or0 (x : Int32) : x ||| 0 = x := by
  apply Int32.toBitVec_inj.mp
  show x.toBitVec ||| 0#32 = x.toBitVec
  exact BitVec.or_zero
theorem xP {P : Nat} (h2 : 2 ≤ P) (h6 : P ≤ 6) : P = 2 ∨ P = 3 ∨ P = 4 ∨ P = 5 ∨ P = 6 := by omega
theorem xlt1 {x y : Int32} {P : Nat} (hP : y = nI P) (h2 : 2 ≤ P) (h6 : P ≤ 6) : x ≤ 2 * y - 1 ↔ ¬ 2 * y ≤ x := by
  subst hP
  rw [Int32.le_iff_toInt_le, Int32.le_iff_toInt_le]
  rcases xP h2 h6 with rfl | rfl | rfl | rfl | rfl
  · rw [show (2 * nI 2 - 1 : Int32).toInt = 3 by decide, show (2 * nI 2 : Int32).toInt = 4 by decide]; omega
  · rw [show (2 * nI 3 - 1 : Int32).toInt = 5 by decide, show (2 * nI 3 : Int32).toInt = 6 by decide]; omega
  · rw [show (2 * nI 4 - 1 : Int32).toInt = 7 by decide, show (2 * nI 4 : Int32).toInt = 8 by decide]; omega
  · rw [show (2 * nI 5 - 1 : Int32).toInt = 9 by decide, show (2 * nI 5 : Int32).toInt = 10 by decide]; omega
  · rw [show (2 * nI 6 - 1 : Int32).toInt = 11 by decide, show (2 * nI 6 : Int32).toInt = 12 by decide]; omega
theorem xle3 {x : Int32} : x ≤ 3 ↔ ¬ 4 ≤ x := by
  rw [Int32.le_iff_toInt_le, Int32.le_iff_toInt_le, show (4 : Int32).toInt = 4 by decide, show (3 : Int32).toInt = 3 by decide]
  omega
theorem xle9 {x : Int32} (h : ¬ 10 ≤ x) : x ≤ 9 := by
  rw [Int32.le_iff_toInt_le] at h ⊢
  have e1 : (10 : Int32).toInt = 10 := by decide
  have e2 : (9 : Int32).toInt = 9 := by decide
  omega
section CLASS2
variable (d n : Nat) (z s : Nat → Int32) (g : xHp)
theorem t_horns : Rn d 34 0 [(0, .ref 4)] [] (tOn z s g) n (some (.int (2 * z 0))) (tOn z s g) n := by
  refine Rn.steps 4 rfl ?_
  refine Rn.ialdN (m := 0) rfl rfl rfl (rfl) (by omega) (Nat.le_of_ble_eq_true rfl) ?_
  refine Rn.steps 1 rfl ?_
  exact Rn.retE rfl rfl rfl rfl rfl
theorem t_has (x : Int32) : Rn d 35 0 [(0, .ref 4), (1, .int x)] [] (tOn z s g) n (some (.int (bi (isC z x)))) (tOn z s g) n := by
  by_cases q : 0 ≤ x ∧ x ≤ 9
  · obtain ⟨c, hc, rfl⟩ := xin10 q
    rw [isC_nI hc]
    refine Rn.br 2 rfl (fun hc1 => ?_) (fun hc1 => ?_)
    · exact (Int32.not_lt.mpr q.1 hc1).elim
    · refine Rn.br 3 rfl (fun hc7 => ?_) (fun hc7 => ?_)
      · exact (nI_ge hc (by omega) hc7).elim
      · refine Rn.steps 3 rfl ?_
        refine Rn.aaldN (m := c) rfl rfl rfl rfl rfl hc (Nat.le_of_ble_eq_true rfl) (crow hc) ?_
        refine Rn.getf rfl rfl (tOn_c hc) rfl ?_
        refine Rn.br 1 rfl (fun hc19 => ?_) (fun hc19 => ?_)
        · have hz := bi_eq0 hc19
          refine Rn.steps 1 rfl ?_
          exact Rn.retE rfl rfl rfl (by rw [hz]; rfl) rfl
        · have hz := bi_ne0 hc19
          refine Rn.steps 2 rfl ?_
          exact Rn.retE rfl rfl rfl (by rw [hz]; rfl) rfl
  · have hz : isC z x = false := by unfold isC; rw [decide_eq_false q]; rfl
    refine Rn.br 2 rfl (fun hc1 => ?_) (fun hc1 => ?_)
    · refine Rn.steps 1 rfl ?_
      exact Rn.retE rfl rfl rfl (by rw [hz]; rfl) rfl
    · refine Rn.br 3 rfl (fun hc7 => ?_) (fun hc7 => ?_)
      · refine Rn.steps 1 rfl ?_
        exact Rn.retE rfl rfl rfl (by rw [hz]; rfl) rfl
      · exact (q ⟨Int32.not_lt.mp hc1, xle9 hc7⟩).elim
theorem t_placeOf (P : Nat) (hP : z 0 = nI P) (h2 : 2 ≤ P) (h6 : P ≤ 6) (x q : Int32) : Rn (d + 1) 36 0 [(0, .ref 4), (1, .int x), (2, .int q)] [] (tOn z s g) n (some (.int (cond (isPl (2 * z 0) x q) (4 * x + q) (-1)))) (tOn z s g) n := by
  refine Rn.br 2 rfl (fun hc1 => ?_) (fun hc1 => ?_)
  · have hz : isPl (2 * z 0) x q = false := by unfold isPl; rw [decide_eq_false (fun h => Int32.not_lt.mpr h.1 hc1)]; rfl
    refine Rn.steps 1 rfl ?_
    exact Rn.retE rfl rfl rfl (by rw [hz]; rfl) rfl
  · refine Rn.steps 2 rfl ?_
    refine Rn.call rfl rfl rfl (t_horns d n z s g) ?_
    refine Rn.br 1 rfl (fun hc9 => ?_) (fun hc9 => ?_)
    · have hz : isPl (2 * z 0) x q = false := by unfold isPl; rw [decide_eq_false (fun h => (xlt1 hP h2 h6).mp h.2 hc9)]; rfl
      refine Rn.steps 1 rfl ?_
      exact Rn.retE rfl rfl rfl (by rw [hz]; rfl) rfl
    · refine Rn.br 2 rfl (fun hc13 => ?_) (fun hc13 => ?_)
      · have hz : isPl (2 * z 0) x q = false := by unfold isPl; rw [decide_eq_false (fun h : 0 ≤ q ∧ q ≤ 3 => Int32.not_lt.mpr h.1 hc13), Bool.and_false]
        refine Rn.steps 1 rfl ?_
        exact Rn.retE rfl rfl rfl (by rw [hz]; rfl) rfl
      · refine Rn.br 3 rfl (fun hc18 => ?_) (fun hc18 => ?_)
        · have hz : isPl (2 * z 0) x q = true := by unfold isPl; rw [decide_eq_true ⟨Int32.not_lt.mp hc1, (xlt1 hP h2 h6).mpr hc9⟩, decide_eq_true ⟨Int32.not_lt.mp hc13, xle3.mpr (Int32.not_le.mpr hc18)⟩]; rfl
          refine Rn.steps 5 rfl ?_
          exact Rn.retE rfl rfl rfl (by rw [hz]; rfl) rfl
        · have hz : isPl (2 * z 0) x q = false := by unfold isPl; rw [decide_eq_false (fun h : 0 ≤ q ∧ q ≤ 3 => hc18 (Int32.not_le.mp (xle3.mp h.2))), Bool.and_false]
          refine Rn.steps 1 rfl ?_
          exact Rn.retE rfl rfl rfl (by rw [hz]; rfl) rfl
theorem t_in (p : Int32) : Rn d 37 0 [(0, .ref 4), (1, .int p)] [] (tOn z s g) n (some (.int (fIn z p 10 0))) (tOn z s g) n := by
  have key : ∀ r c, c + r = 10 → Rn d 37 2 [(0, .ref 4), (1, .int p), (2, .int (nI c))] [] (tOn z s g) n (some (.int (fIn z p r c))) (tOn z s g) n := by
    intro r
    induction r with
    | zero =>
      intro c hk
      have hk2 : c = 10 := hk
      subst hk2
      refine Rn.steps 4 rfl ?_
      exact Rn.retE rfl rfl rfl rfl rfl
    | succ r ih =>
      intro c hk
      have hc : c < 10 := by omega
      refine Rn.br 3 rfl (fun hc5 => ?_) (fun hc5 => ?_)
      · exact (nI_ge hc (by omega) hc5).elim
      · refine Rn.steps 3 rfl ?_
        refine Rn.aaldN (m := c) rfl rfl rfl rfl rfl hc (Nat.le_of_ble_eq_true rfl) (crow hc) ?_
        refine Rn.getf rfl rfl (tOn_c hc) rfl ?_
        refine Rn.br 1 rfl (fun hc17 => ?_) (fun hc17 => ?_)
        · have hz := bi_eq0 hc17
          rw [show fIn z p (r + 1) c = fIn z p r (c + 1) by rw [fIn, hz]; rfl]
          refine Rn.steps 2 rfl ?_
          exact Rn.l3 rfl rfl rfl (by rw [← nI_1 c]; rfl) (ih (c + 1) (by omega))
        · have hz := bi_ne0 hc17
          refine Rn.steps 3 rfl ?_
          refine Rn.aaldN (m := c) rfl rfl rfl rfl rfl hc (Nat.le_of_ble_eq_true rfl) (crow hc) ?_
          refine Rn.getf rfl rfl (tOn_c hc) (cf_p hz) ?_
          refine Rn.br 2 rfl (fun hc30 => ?_) (fun hc30 => ?_)
          · rw [show fIn z p (r + 1) c = nI c by rw [fIn, hz, decide_eq_true hc30]; rfl]
            refine Rn.steps 1 rfl ?_
            exact Rn.retE rfl rfl rfl rfl rfl
          · rw [show fIn z p (r + 1) c = fIn z p r (c + 1) by rw [fIn, hz, decide_eq_false hc30]; rfl]
            refine Rn.steps 2 rfl ?_
            exact Rn.l3 rfl rfl rfl (by rw [← nI_1 c]; rfl) (ih (c + 1) (by omega))
  refine Rn.steps 2 rfl ?_
  exact Rn.l3 rfl rfl rfl rfl (key 10 0 rfl)
theorem t_turnedPlace (x : Int32) (L : Nat) (hL : L ≤ 2000) : Rn (d + 1) 38 0 [(0, .ref 4), (1, .int x), (2, .int (nI (L + 1)))] [] (tOn z s g) n (some (.int (tpF (2 * z 0) L (t32 x)))) (tOn z s g) n := by
  have key : ∀ r k now, k + r = L + 1 → Rn (d + 1) 38 8 [(0, .ref 4), (2, .int (nI (L + 1))), (3, .int now), (4, .int (nI k))] [] (tOn z s g) n (some (.int (tpF (2 * z 0) r now))) (tOn z s g) n := by
    intro r
    induction r with
    | zero =>
      intro k now hk
      refine Rn.br 3 rfl (fun hc11 => ?_) (fun hc11 => ?_)
      · refine Rn.steps 1 rfl ?_
        exact Rn.retE rfl rfl rfl rfl rfl
      · exact (hc11 (nI_le (show L + 1 ≤ k by omega) (by omega))).elim
    | succ r ih =>
      intro k now hk
      refine Rn.br 3 rfl (fun hc11 => ?_) (fun hc11 => ?_)
      · exact (nI_ge (show k < L + 1 by omega) (by omega) hc11).elim
      · refine Rn.steps 2 rfl ?_
        refine Rn.call rfl rfl rfl (t_horns d n z s g) ?_
        refine Rn.call rfl rfl rfl (m_passed d n _ _ _) ?_
        refine Rn.call rfl rfl rfl (m_turned d n _ _) ?_
        refine Rn.steps 3 rfl ?_
        exact Rn.l4 (by decide) rfl rfl rfl (by rw [← nI_1 k]; rfl) (ih (k + 1) _ (by omega))
  refine Rn.steps 1 rfl ?_
  refine Rn.call rfl rfl rfl (m_turned d n _ _) ?_
  refine Rn.steps 3 rfl ?_
  exact Rn.l4 (by decide) rfl rfl rfl rfl (key L 1 _ (by omega))
theorem t_turnedTo (p : Int32) (L : Nat) (hL : L ≤ 2000) : Rn (d + 2) 39 0 [(0, .ref 4), (1, .int p), (2, .int (nI (L + 1)))] [] (tOn z s g) n (some (.int (fTt z p L 10 0))) (tOn z s g) n := by
  have key : ∀ r c, c + r = 10 → Rn (d + 2) 39 2 [(0, .ref 4), (1, .int p), (2, .int (nI (L + 1))), (3, .int (nI c))] [] (tOn z s g) n (some (.int (fTt z p L r c))) (tOn z s g) n := by
    intro r
    induction r with
    | zero =>
      intro c hk
      have hk2 : c = 10 := hk
      subst hk2
      refine Rn.steps 4 rfl ?_
      exact Rn.retE rfl rfl rfl rfl rfl
    | succ r ih =>
      intro c hk
      have hc : c < 10 := by omega
      refine Rn.br 3 rfl (fun hc5 => ?_) (fun hc5 => ?_)
      · exact (nI_ge hc (by omega) hc5).elim
      · refine Rn.steps 3 rfl ?_
        refine Rn.aaldN (m := c) rfl rfl rfl rfl rfl hc (Nat.le_of_ble_eq_true rfl) (crow hc) ?_
        refine Rn.getf rfl rfl (tOn_c hc) rfl ?_
        refine Rn.br 1 rfl (fun hc17 => ?_) (fun hc17 => ?_)
        · have hz := bi_eq0 hc17
          rw [show fTt z p L (r + 1) c = fTt z p L r (c + 1) by rw [fTt, hz]; rfl]
          refine Rn.steps 2 rfl ?_
          exact Rn.l4 (by decide) rfl rfl rfl (by rw [← nI_1 c]; rfl) (ih (c + 1) (by omega))
        · have hz := bi_ne0 hc17
          refine Rn.steps 4 rfl ?_
          refine Rn.aaldN (m := c) rfl rfl rfl rfl rfl hc (Nat.le_of_ble_eq_true rfl) (crow hc) ?_
          refine Rn.getf rfl rfl (tOn_c hc) (cf_p hz) ?_
          refine Rn.steps 1 rfl ?_
          refine Rn.call rfl rfl rfl (t_turnedPlace d n z s g _ L hL) ?_
          refine Rn.br 2 rfl (fun hc35 => ?_) (fun hc35 => ?_)
          · rw [show fTt z p L (r + 1) c = nI c by rw [fTt, hz, decide_eq_true hc35]; rfl]
            refine Rn.steps 1 rfl ?_
            exact Rn.retE rfl rfl rfl rfl rfl
          · rw [show fTt z p L (r + 1) c = fTt z p L r (c + 1) by rw [fTt, hz, decide_eq_false hc35]; rfl]
            refine Rn.steps 2 rfl ?_
            exact Rn.l4 (by decide) rfl rfl rfl (by rw [← nI_1 c]; rfl) (ih (c + 1) (by omega))
  refine Rn.steps 2 rfl ?_
  exact Rn.l4 (by decide) rfl rfl rfl rfl (key 10 0 rfl)
theorem t_rank (P : Nat) (hP : z 0 = nI P) (h6 : P ≤ 6) (l0 : Int32) : Rn (d + 1) 40 0 [(0, .ref 4), (1, .int l0)] [] (tOn z s g) n (some (.int (arF z (8 * P) l0 0))) (tOn z s g) n := by
  have e8 : (4 : Int32) * (2 * z 0) = nI (8 * P) := by rw [hP, show (4 : Int32) = nI 4 from rfl, show (2 : Int32) = nI 2 from rfl, pk_mul, pk_mul, show 4 * (2 * P) = 8 * P by omega]
  have key : ∀ r p l, p + r = 8 * P → Rn (d + 1) 40 4 [(0, .ref 4), (2, .int l), (3, .int (nI p))] [] (tOn z s g) n (some (.int (arF z r l p))) (tOn z s g) n := by
    intro r
    induction r with
    | zero =>
      intro p l hk
      refine Rn.steps 3 rfl ?_
      refine Rn.call rfl rfl rfl (t_horns d n z s g) ?_
      refine Rn.br 2 rfl (fun hc11 => ?_) (fun hc11 => ?_)
      · refine Rn.steps 1 rfl ?_
        exact Rn.retE rfl rfl rfl rfl rfl
      · exact (hc11 (by rw [e8]; exact nI_le (show 8 * P ≤ p by omega) (by omega))).elim
    | succ r ih =>
      intro p l hk
      refine Rn.steps 3 rfl ?_
      refine Rn.call rfl rfl rfl (t_horns d n z s g) ?_
      refine Rn.br 2 rfl (fun hc11 => ?_) (fun hc11 => ?_)
      · exact (nI_ge (show p < 8 * P by omega) (by omega) (by rw [← e8]; exact hc11)).elim
      · refine Rn.steps 2 rfl ?_
        refine Rn.call rfl rfl rfl (t_in d n z s g _) ?_
        refine Rn.br 4 rfl (fun hc25 => ?_) (fun hc25 => ?_)
        · rw [show arF z (r + 1) l p = arF z r l (p + 1) by rw [arF, if_pos hc25]]
          refine Rn.steps 2 rfl ?_
          exact Rn.l3 rfl rfl rfl (by rw [← nI_1 p]; rfl) (ih (p + 1) _ (by omega))
        · refine Rn.br 2 rfl (fun hc29 => ?_) (fun hc29 => ?_)
          · rw [show arF z (r + 1) l p = fIn z (nI p) 10 0 by rw [arF, if_neg hc25, if_pos hc29]]
            refine Rn.steps 1 rfl ?_
            exact Rn.retE rfl rfl rfl rfl rfl
          · rw [show arF z (r + 1) l p = arF z r (l + (-1)) (p + 1) by rw [arF, if_neg hc25, if_neg hc29]]
            refine Rn.steps 3 rfl ?_
            exact Rn.l3 rfl rfl rfl (by rw [← nI_1 p]; rfl) (ih (p + 1) _ (by omega))
  refine Rn.steps 4 rfl ?_
  exact Rn.l3 rfl rfl rfl rfl (key (8 * P) 0 l0 (by omega))
theorem t_taken : Rn d 41 0 [(0, .ref 4)] [] (tOn z s g) n (some (.long (tkF z 10))) (tOn z s g) n := by
  refine Rn.steps 4 rfl ?_
  refine Rn.l3 rfl rfl rfl rfl (xloop (fun c => Rn d 41 4 [(0, .ref 4), (1, .long (tkF z c)), (3, .int (nI c))] [] (tOn z s g) n (some (.long (tkF z 10))) (tOn z s g) n) 10 ?_ (fun c hc ih => ?_))
  · refine Rn.steps 4 rfl ?_
    exact Rn.retE rfl rfl rfl rfl rfl
  · refine Rn.br 3 rfl (fun hc7 => ?_) (fun hc7 => ?_)
    · exact (nI_ge hc (by omega) hc7).elim
    · refine Rn.steps 3 rfl ?_
      refine Rn.aaldN (m := c) rfl rfl rfl rfl rfl hc (Nat.le_of_ble_eq_true rfl) (crow hc) ?_
      refine Rn.getf rfl rfl (tOn_c hc) rfl ?_
      refine Rn.br 1 rfl (fun hc19 => ?_) (fun hc19 => ?_)
      · have hz := bi_eq0 hc19
        refine Rn.steps 2 rfl ?_
        exact Rn.l3 rfl rfl (by rw [tkF, hz]; rfl) (by rw [← nI_1 c]; rfl) ih
      · have hz := bi_ne0 hc19
        refine Rn.steps 5 rfl ?_
        refine Rn.aaldN (m := c) rfl rfl rfl rfl rfl hc (Nat.le_of_ble_eq_true rfl) (crow hc) ?_
        refine Rn.getf rfl rfl (tOn_c hc) (cf_p hz) ?_
        refine Rn.steps 5 rfl ?_
        exact Rn.l3 rfl rfl (by rw [tkF, hz]; rfl) (by rw [← nI_1 c]; rfl) ih
theorem t_cset : Rn d 42 0 [(0, .ref 4)] [] (tOn z s g) n (some (.int (mSet z 10))) (tOn z s g) n := by
  refine Rn.steps 4 rfl ?_
  refine Rn.l3 rfl rfl rfl rfl (xloop (fun c => Rn d 42 4 [(0, .ref 4), (1, .int (mSet z c)), (2, .int (nI c))] [] (tOn z s g) n (some (.int (mSet z 10))) (tOn z s g) n) 10 ?_ (fun c hc ih => ?_))
  · refine Rn.steps 4 rfl ?_
    exact Rn.retE rfl rfl rfl rfl rfl
  · refine Rn.br 3 rfl (fun hc7 => ?_) (fun hc7 => ?_)
    · exact (nI_ge hc (by omega) hc7).elim
    · refine Rn.steps 3 rfl ?_
      refine Rn.aaldN (m := c) rfl rfl rfl rfl rfl hc (Nat.le_of_ble_eq_true rfl) (crow hc) ?_
      refine Rn.getf rfl rfl (tOn_c hc) rfl ?_
      refine Rn.br 1 rfl (fun hc19 => ?_) (fun hc19 => ?_)
      · have hz := bi_eq0 hc19
        refine Rn.steps 2 rfl ?_
        exact Rn.l3 rfl rfl (by rw [mSet, hz]; first | rfl | (simp only [cond]; rw [or0]; rfl)) (by rw [← nI_1 c]; rfl) ih
      · have hz := bi_ne0 hc19
        refine Rn.steps 8 rfl ?_
        exact Rn.l3 rfl rfl (by rw [mSet, hz]; first | rfl | (simp only [cond]; rw [or0]; rfl)) (by rw [← nI_1 c]; rfl) ih
theorem t_broken (hf : Fl z) : Rn d 45 0 [(0, .ref 4)] [] (tOn z s g) n (some (.int (mSum z 2 10))) (tOn z s g) n := by
  refine Rn.steps 4 rfl ?_
  refine Rn.l3 rfl rfl rfl rfl (xloop (fun c => Rn d 45 4 [(0, .ref 4), (1, .int (mSum z 2 c)), (2, .int (nI c))] [] (tOn z s g) n (some (.int (mSum z 2 10))) (tOn z s g) n) 10 ?_ (fun c hc ih => ?_))
  · refine Rn.steps 4 rfl ?_
    exact Rn.retE rfl rfl rfl rfl rfl
  · refine Rn.br 3 rfl (fun hc7 => ?_) (fun hc7 => ?_)
    · exact (nI_ge hc (by omega) hc7).elim
    · refine Rn.steps 3 rfl ?_
      refine Rn.aaldN (m := c) rfl rfl rfl rfl rfl hc (Nat.le_of_ble_eq_true rfl) (crow hc) ?_
      refine Rn.getf rfl rfl (tOn_c hc) rfl ?_
      refine Rn.br 1 rfl (fun hc19 => ?_) (fun hc19 => ?_)
      · have hz := bi_eq0 hc19
        refine Rn.steps 2 rfl ?_
        exact Rn.l3 rfl rfl (by rw [mSum, hz]; first | (simp only [cond]; rw [hb]; first | rfl | (rw [Int32.add_zero]; rfl)) | (simp only [cond]; rw [Int32.add_zero]; rfl)) (by rw [← nI_1 c]; rfl) ih
      · have hz := bi_ne0 hc19
        refine Rn.steps 3 rfl ?_
        refine Rn.aaldN (m := c) rfl rfl rfl rfl rfl hc (Nat.le_of_ble_eq_true rfl) (crow hc) ?_
        refine Rn.getf rfl rfl (tOn_c hc) rfl ?_
        refine Rn.br 1 rfl (fun hc31 => ?_) (fun hc31 => ?_)
        · have hb : z (10 + 7 * c + 2) = 0 := hc31
          refine Rn.steps 2 rfl ?_
          exact Rn.l3 rfl rfl (by rw [mSum, hz]; first | (simp only [cond]; rw [hb]; first | rfl | (rw [Int32.add_zero]; rfl)) | (simp only [cond]; rw [Int32.add_zero]; rfl)) (by rw [← nI_1 c]; rfl) ih
        · have hb : z (10 + 7 * c + 2) = 1 := (hf c hc).resolve_left hc31
          refine Rn.steps 3 rfl ?_
          exact Rn.l3 rfl rfl (by rw [mSum, hz]; first | (simp only [cond]; rw [hb]; first | rfl | (rw [Int32.add_zero]; rfl)) | (simp only [cond]; rw [Int32.add_zero]; rfl)) (by rw [← nI_1 c]; rfl) ih
theorem t_all : Rn d 46 0 [(0, .ref 4)] [] (tOn z s g) n (some (.int (mSum z 1 10))) (tOn z s g) n := by
  refine Rn.steps 4 rfl ?_
  refine Rn.l3 rfl rfl rfl rfl (xloop (fun c => Rn d 46 4 [(0, .ref 4), (1, .int (mSum z 1 c)), (2, .int (nI c))] [] (tOn z s g) n (some (.int (mSum z 1 10))) (tOn z s g) n) 10 ?_ (fun c hc ih => ?_))
  · refine Rn.steps 4 rfl ?_
    exact Rn.retE rfl rfl rfl rfl rfl
  · refine Rn.br 3 rfl (fun hc7 => ?_) (fun hc7 => ?_)
    · exact (nI_ge hc (by omega) hc7).elim
    · refine Rn.steps 3 rfl ?_
      refine Rn.aaldN (m := c) rfl rfl rfl rfl rfl hc (Nat.le_of_ble_eq_true rfl) (crow hc) ?_
      refine Rn.getf rfl rfl (tOn_c hc) rfl ?_
      refine Rn.br 1 rfl (fun hc19 => ?_) (fun hc19 => ?_)
      · have hz := bi_eq0 hc19
        refine Rn.steps 2 rfl ?_
        exact Rn.l3 rfl rfl (by rw [mSum, hz]; first | rfl | (simp only [cond]; rw [Int32.add_zero]; rfl)) (by rw [← nI_1 c]; rfl) ih
      · have hz := bi_ne0 hc19
        refine Rn.steps 4 rfl ?_
        refine Rn.aaldN (m := c) rfl rfl rfl rfl rfl hc (Nat.le_of_ble_eq_true rfl) (crow hc) ?_
        refine Rn.getf rfl rfl (tOn_c hc) rfl ?_
        refine Rn.steps 4 rfl ?_
        exact Rn.l3 rfl rfl (by rw [mSum, hz]; first | rfl | (simp only [cond]; rw [Int32.add_zero]; rfl)) (by rw [← nI_1 c]; rfl) ih
theorem t_least (hg : g 2 = .inl (0, 3, .inl xhi)) : Rn (d + 1) 47 0 [(0, .ref 4)] [] (tOn z s g) n (some (.int (leF2 z 10))) (tOn z s g) n := by
  refine Rn.steps 2 rfl ?_
  refine Rn.ialdN (m := 2) rfl rfl hg (rfl) (by omega) (Nat.le_of_ble_eq_true rfl) ?_
  refine Rn.steps 5 rfl ?_
  refine Rn.l3 rfl rfl rfl rfl (xloop (fun c => Rn (d + 1) 47 10 [(0, .ref 4), (1, .int (leF2 z c)), (2, .int (nI c))] [] (tOn z s g) n (some (.int (leF2 z 10))) (tOn z s g) n) 10 ?_ (fun c hc ih => ?_))
  · refine Rn.steps 4 rfl ?_
    exact Rn.retE rfl rfl rfl rfl rfl
  · refine Rn.br 3 rfl (fun hc13 => ?_) (fun hc13 => ?_)
    · exact (nI_ge hc (by omega) hc13).elim
    · refine Rn.steps 3 rfl ?_
      refine Rn.aaldN (m := c) rfl rfl rfl rfl rfl hc (Nat.le_of_ble_eq_true rfl) (crow hc) ?_
      refine Rn.getf rfl rfl (tOn_c hc) rfl ?_
      refine Rn.br 1 rfl (fun hc25 => ?_) (fun hc25 => ?_)
      · have hz := bi_eq0 hc25
        refine Rn.steps 2 rfl ?_
        exact Rn.l3 rfl rfl (by rw [leF2, hz]; rfl) (by rw [← nI_1 c]; rfl) ih
      · have hz := bi_ne0 hc25
        refine Rn.steps 4 rfl ?_
        refine Rn.aaldN (m := c) rfl rfl rfl rfl rfl hc (Nat.le_of_ble_eq_true rfl) (crow hc) ?_
        refine Rn.getf rfl rfl (tOn_c hc) rfl ?_
        refine Rn.steps 4 rfl ?_
        exact Rn.l3 rfl rfl (by rw [leF2, hz]; rfl) (by rw [← nI_1 c]; rfl) ih
theorem t_hind (hf : Fl z) (hg : g 2 = .inl (0, 3, .inl xhi)) : Rn (d + 2) 48 0 [(0, .ref 4)] [] (tOn z s g) n (some (.int (hiF z))) (tOn z s g) n := by
  refine Rn.steps 1 rfl ?_
  refine Rn.call rfl rfl rfl (t_taken (d + 1) n z s g) ?_
  refine Rn.br 5 rfl (fun hc8 => ?_) (fun hc8 => ?_)
  · have q1 : tkF z 10 = 0 := lg0.mp hc8
    refine Rn.steps 1 rfl ?_
    exact Rn.retE rfl rfl rfl (by unfold hiF; first | (rw [if_pos q1]) | (rw [if_neg q1, if_pos q2]) | (rw [if_neg q1, if_neg q2, if_pos hc26]) | (rw [if_neg q1, if_neg q2, if_neg hc26, if_pos q4]) | (rw [if_neg q1, if_neg q2, if_neg hc26, if_neg q4])) rfl
  · have q1 : ¬ tkF z 10 = 0 := fun q => hc8 (lg0.mpr q)
    refine Rn.steps 1 rfl ?_
    refine Rn.call rfl rfl rfl (t_broken (d + 1) n z s g hf) ?_
    refine Rn.br 1 rfl (fun hc17 => ?_) (fun hc17 => ?_)
    · have q2 : ¬ 0 < mSum z 2 10 := Int32.not_lt.mpr hc17
      refine Rn.steps 1 rfl ?_
      refine Rn.call rfl rfl rfl (t_least d n z s g hg) ?_
      refine Rn.br 1 rfl (fun hc26 => ?_) (fun hc26 => ?_)
      · refine Rn.steps 1 rfl ?_
        exact Rn.retE rfl rfl rfl (by unfold hiF; first | (rw [if_pos q1]) | (rw [if_neg q1, if_pos q2]) | (rw [if_neg q1, if_neg q2, if_pos hc26]) | (rw [if_neg q1, if_neg q2, if_neg hc26, if_pos q4]) | (rw [if_neg q1, if_neg q2, if_neg hc26, if_neg q4])) rfl
      · refine Rn.steps 1 rfl ?_
        refine Rn.call rfl rfl rfl (m_allTurned (d + 1) n _ _) ?_
        refine Rn.steps 1 rfl ?_
        refine Rn.call rfl rfl rfl (t_horns (d + 1) n z s g) ?_
        refine Rn.call rfl rfl rfl (m_meetings d n _ _ _) ?_
        refine Rn.br 3 rfl (fun hc44 => ?_) (fun hc44 => ?_)
        · have q4 : mts (aT (tkF z 10)) (2 * z 0) = 0 := lg0.mp hc44
          refine Rn.steps 2 rfl ?_
          exact Rn.retE rfl rfl rfl (by unfold hiF; first | (rw [if_pos q1]) | (rw [if_neg q1, if_pos q2]) | (rw [if_neg q1, if_neg q2, if_pos hc26]) | (rw [if_neg q1, if_neg q2, if_neg hc26, if_pos q4]) | (rw [if_neg q1, if_neg q2, if_neg hc26, if_neg q4])) rfl
        · have q4 : ¬ mts (aT (tkF z 10)) (2 * z 0) = 0 := fun q => hc44 (lg0.mpr q)
          refine Rn.steps 1 rfl ?_
          exact Rn.retE rfl rfl rfl (by unfold hiF; first | (rw [if_pos q1]) | (rw [if_neg q1, if_pos q2]) | (rw [if_neg q1, if_neg q2, if_pos hc26]) | (rw [if_neg q1, if_neg q2, if_neg hc26, if_pos q4]) | (rw [if_neg q1, if_neg q2, if_neg hc26, if_neg q4])) rfl
    · have q2 : 0 < mSum z 2 10 := Int32.not_le.mp hc17
      refine Rn.steps 1 rfl ?_
      exact Rn.retE rfl rfl rfl (by unfold hiF; first | (rw [if_pos q1]) | (rw [if_neg q1, if_pos q2]) | (rw [if_neg q1, if_neg q2, if_pos hc26]) | (rw [if_neg q1, if_neg q2, if_neg hc26, if_pos q4]) | (rw [if_neg q1, if_neg q2, if_neg hc26, if_neg q4])) rfl
end CLASS2
