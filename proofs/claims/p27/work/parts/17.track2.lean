/-! the class's track: steps, ends, bobbins, settings -/
theorem upd_comm {f : Nat → Int32} {a b : Nat} {x y : Int32} (h : ¬ a = b) : upd (upd f a x) b y = upd (upd f b y) a x := by
  funext j
  unfold upd
  by_cases h1 : j = b
  · rw [if_pos h1, if_neg (by omega), if_pos h1]
  · rw [if_neg h1]
    by_cases h2 : j = a
    · rw [if_pos h2, if_pos h2]
    · rw [if_neg h2, if_neg h2, if_neg h1]
theorem stC_out {z : Nat → Int32} {c j : Nat} (h : j < 10 + 7 * c ∨ 10 + 7 * c + 6 ≤ j) (h8 : ¬ j = 8) : stC z c j = z j := by
  unfold stC stX sx6 sx5 sx4 sx3 sx2 sx1
  rw [upd_ne h8, upd_ne (by omega), upd_ne (by omega), upd_ne (by omega), upd_ne (by omega), upd_ne (by omega)]
theorem stC_2 {z : Nat → Int32} {c : Nat} : stC z c (10 + 7 * c + 2) = z (10 + 7 * c + 2) := by
  unfold stC stX sx6 sx5 sx4 sx3 sx2 sx1
  rw [upd_ne (by omega), upd_ne (by omega), upd_ne (by omega), upd_ne (by omega), upd_ne (by omega), upd_ne (by omega)]
theorem stC_1 {z : Nat → Int32} {c : Nat} : stC z c (10 + 7 * c + 1) = z (10 + 7 * c + 1) - 1 := by
  unfold stC stX sx6 sx5 sx4 sx3 sx2 sx1
  rw [upd_ne (by omega), upd_ne (by omega), upd_eq, upd_ne (by omega), upd_ne (by omega), upd_ne (by omega)]
theorem stC_0 {z : Nat → Int32} {c : Nat} : stC z c (10 + 7 * c) = o32 (2 * z 0) (t32 (z (10 + 7 * c))) := by
  unfold stC stX sx6 sx5 sx4 sx3
  rw [upd_ne (by omega), upd_ne (by omega), upd_ne (by omega), Nat.add_zero, upd_eq]
  unfold sx2 sx1
  rw [upd_ne (by omega), upd_ne (by omega)]
theorem stZ_hi (z : Nat → Int32) : ∀ c j, 10 + 7 * c ≤ j → stZ z c j = z j := by
  intro c
  induction c with
  | zero => intro j _; rfl
  | succ c ih =>
    intro j hj
    unfold stZ
    cases zt (stZ z c) c with
    | false => exact ih j (by omega)
    | true => exact (stC_out (by omega) (by omega)).trans (ih j (by omega))
theorem stZ_zt (z : Nat → Int32) (c e : Nat) (h : c ≤ e) : zt (stZ z c) e = zt z e := by
  unfold zt
  rw [stZ_hi z c _ (by omega)]
/-- what a step makes of a carrier: its place, its ells; its end stays -/
theorem stZ_lo2 (z : Nat → Int32) : ∀ c e, e < c → stZ z c (10 + 7 * e) = cond (zt z e) (o32 (2 * z 0) (t32 (z (10 + 7 * e)))) (z (10 + 7 * e)) ∧ stZ z c (10 + 7 * e + 1) = cond (zt z e) (z (10 + 7 * e + 1) - 1) (z (10 + 7 * e + 1)) := by
  intro c
  induction c with
  | zero => intro e h; exact absurd h (Nat.not_lt_zero _)
  | succ c ih =>
    intro e he
    rcases Nat.lt_or_ge e c with h | h
    · have k1 := ih e h
      unfold stZ
      cases zt (stZ z c) c with
      | false => exact k1
      | true => exact ⟨(stC_out (by omega) (by omega)).trans k1.1, (stC_out (by omega) (by omega)).trans k1.2⟩
    · have e1 : e = c := by omega
      subst e1
      unfold stZ
      rw [stZ_zt z e e (Nat.le_refl _)]
      cases hz : zt z e with
      | false => exact ⟨stZ_hi z e _ (Nat.le_refl _), stZ_hi z e _ (by omega)⟩
      | true =>
        refine ⟨?_, ?_⟩
        · show stC (stZ z e) e (10 + 7 * e) = _
          rw [stC_0, stZ_hi z e _ (Nat.le_refl _), stZ_lo z e 0 (by omega)]
          rfl
        · show stC (stZ z e) e (10 + 7 * e + 1) = _
          rw [stC_1, stZ_hi z e _ (by omega)]
          rfl
theorem stZ_2 (z : Nat → Int32) : ∀ c e, stZ z c (10 + 7 * e + 2) = z (10 + 7 * e + 2) := by
  intro c
  induction c with
  | zero => intro e; rfl
  | succ c ih =>
    intro e
    unfold stZ
    cases zt (stZ z c) c with
    | false => exact ih e
    | true =>
      by_cases he : e = c
      · subst he; exact stC_2.trans (ih e)
      · exact (stC_out (by omega) (by omega)).trans (ih e)
theorem stF_pl (z : Nat → Int32) {e : Nat} (he : e < 10) : stF z (10 + 7 * e) = cond (zt z e) (o32 (2 * z 0) (t32 (z (10 + 7 * e)))) (z (10 + 7 * e)) := by
  unfold stF
  rw [upd_ne (by omega), upd_ne (by omega)]
  exact (stZ_lo2 z 10 e he).1
theorem stF_el (z : Nat → Int32) {e : Nat} (he : e < 10) : stF z (10 + 7 * e + 1) = cond (zt z e) (z (10 + 7 * e + 1) - 1) (z (10 + 7 * e + 1)) := by
  unfold stF
  rw [upd_ne (by omega), upd_ne (by omega)]
  exact (stZ_lo2 z 10 e he).2
theorem stF_br (z : Nat → Int32) (e : Nat) : stF z (10 + 7 * e + 2) = z (10 + 7 * e + 2) := by
  unfold stF
  rw [upd_ne (by omega), upd_ne (by omega)]
  exact stZ_2 z 10 e
theorem stF_in {z : Nat → Int32} {P : Nat} (hP : z 0 = nI P) (h2 : 2 ≤ P) (h6 : P ≤ 6) (hi : In z P) {e : Nat} (he : e < 10) (hz : zt z e = true) : ∃ q, q < 8 * P ∧ z (10 + 7 * e) = nI q ∧ stF z (10 + 7 * e) = nI (oN P (tN q)) ∧ oN P (tN q) < 8 * P := by
  obtain ⟨q, hq, e1⟩ := hi e he hz
  have k1 := place_ok h2 h6 hq
  have k2 := place_ok h2 h6 k1.2.2.2.1
  refine ⟨q, hq, e1, ?_, k2.2.2.2.2⟩
  rw [stF_pl z he, hz, e1, hP]
  show o32 (2 * nI P) (t32 (nI q)) = _
  rw [k1.1, k2.2.1]
theorem stF_zt {z : Nat → Int32} {P : Nat} (hP : z 0 = nI P) (h2 : 2 ≤ P) (h6 : P ≤ 6) (hi : In z P) {e : Nat} (he : e < 10) : zt (stF z) e = zt z e := by
  cases hz : zt z e with
  | false =>
    unfold zt
    rw [stF_pl z he, hz]
    exact hz
  | true =>
    obtain ⟨q, -, -, h3, h4⟩ := stF_in hP h2 h6 hi he hz
    unfold zt
    rw [h3]
    exact decide_eq_true (nI_no6 (by omega))
theorem stF_In {z : Nat → Int32} {P : Nat} (hP : z 0 = nI P) (h2 : 2 ≤ P) (h6 : P ≤ 6) (hi : In z P) : In (stF z) P := by
  intro c hc hz
  rw [stF_zt hP h2 h6 hi hc] at hz
  obtain ⟨q, -, -, h3, h4⟩ := stF_in hP h2 h6 hi hc hz
  exact ⟨_, h4, h3⟩
theorem stF_Fl {z : Nat → Int32} (h : Fl z) : Fl (stF z) := by
  intro c hc
  rw [stF_br]
  exact h c hc
theorem mvZ_st {z : Nat → Int32} {c : Nat} {x y : Int32} {p : Int32} (hp : pF (2 * z 0) p = o32 (2 * z 0) p) : upd (mvZ (2 * z 0) z c p x y) 8 (mvZ (2 * z 0) z c p x y 8 + 1) = stX z c p x y := by
  have e : mvZ (2 * z 0) z c p x y = sx5 (sx4 (sx3 (sx2 (sx1 z c x) c y) c p) c) c := by
    unfold mvZ sx3
    rw [show sx2 (sx1 z c x) c y 0 = z 0 by unfold sx2 sx1; rw [upd_ne (by omega), upd_ne (by omega)], hp]
    rfl
  rw [e]
  rfl
theorem bob_eq (z : Nat → Int32) (c : Nat) : refZ z c = upd (upd (upd z (10 + 7 * c + 1) (s3 z 2)) 6 (upd z (10 + 7 * c + 1) (s3 z 2) 6 + z (10 + 7 * c + 1))) 7 (upd (upd z (10 + 7 * c + 1) (s3 z 2)) 6 (upd z (10 + 7 * c + 1) (s3 z 2) 6 + z (10 + 7 * c + 1)) 7 + s3 (upd (upd z (10 + 7 * c + 1) (s3 z 2)) 6 (upd z (10 + 7 * c + 1) (s3 z 2) 6 + z (10 + 7 * c + 1))) 2) := by
  show refZ z c = upd (upd (upd z (10 + 7 * c + 1) (z 2)) 6 (upd z (10 + 7 * c + 1) (z 2) 6 + z (10 + 7 * c + 1))) 7 (upd (upd z (10 + 7 * c + 1) (z 2)) 6 (upd z (10 + 7 * c + 1) (z 2) 6 + z (10 + 7 * c + 1)) 7 + (upd (upd z (10 + 7 * c + 1) (z 2)) 6 (upd z (10 + 7 * c + 1) (z 2) 6 + z (10 + 7 * c + 1))) 2)
  unfold refZ fillZ
  rw [upd_ne (f := z) (by omega : ¬ 6 = 10 + 7 * c + 1), upd_ne (by omega : ¬ 2 = 6), upd_comm (a := 6) (b := 10 + 7 * c + 1) (by omega), upd_ne (by omega : ¬ 2 = 6), upd_ne (by omega : ¬ 2 = 10 + 7 * c + 1)]
theorem newZ_beg2 (z : Nat → Int32) (c : Nat) (p : Int32) : newZ z c p = upd (begZ z c p (s3 z 2)) 7 (begZ z c p (s3 z 2) 7 + s3 (begZ z c p (s3 z 2)) 2) := by
  rw [newZ_beg]
  show upd (begZ z c p (z 2)) 7 (z 7 + z 2) = upd (begZ z c p (z 2)) 7 (begZ z c p (z 2) 7 + begZ z c p (z 2) 2)
  rw [show begZ z c p (z 2) 7 = z 7 by unfold begZ; rw [upd_ne (by omega), upd_ne (by omega), layN_out (by omega)], show begZ z c p (z 2) 2 = z 2 by unfold begZ; rw [upd_ne (by omega), upd_ne (by omega), layN_out (by omega)]]
def adF : Nat → Nat → (Nat → Int32) → Nat × (Nat → Int32)
  | 0, k, z => (k, z)
  | r + 1, k, z => if hiF z = 0 then adF r (k + 1) (stF (upd z 9 (hiF z))) else (k, upd z 9 (hiF z))
def bcF (x : Int32) : Int32 :=
  let a := x - ((x.toUInt32 >>> (Int32.toUInt32 1 &&& Int32.toUInt32 31)).toInt32 &&& 1431655765)
  let b := (a &&& 858993459) + ((a.toUInt32 >>> (Int32.toUInt32 2 &&& Int32.toUInt32 31)).toInt32 &&& 858993459)
  let c := (b + (b.toUInt32 >>> (Int32.toUInt32 4 &&& Int32.toUInt32 31)).toInt32) &&& 252645135
  let e := c + (c.toUInt32 >>> (Int32.toUInt32 8 &&& Int32.toUInt32 31)).toInt32
  (e + (e.toUInt32 >>> (Int32.toUInt32 16 &&& Int32.toUInt32 31)).toInt32) &&& 63
def sb (b : Bool) (k : Nat) (x : Int32) : Int32 := x ||| cond b (1 <<< (nI k &&& 31)) 0
theorem bits_all : ∀ b0 b1 b2 b3 b4 b5 b6 b7 b8 b9 : Bool, (decide (bcF (sb b9 9 (sb b8 8 (sb b7 7 (sb b6 6 (sb b5 5 (sb b4 4 (sb b3 3 (sb b2 2 (sb b1 1 (sb b0 0 0)))))))))) = 0 + bi b0 + bi b1 + bi b2 + bi b3 + bi b4 + bi b5 + bi b6 + bi b7 + bi b8 + bi b9) && (decide (sb b9 9 (sb b8 8 (sb b7 7 (sb b6 6 (sb b5 5 (sb b4 4 (sb b3 3 (sb b2 2 (sb b1 1 (sb b0 0 0))))))))) = 0) == decide (¬ 0 < 0 + bi b0 + bi b1 + bi b2 + bi b3 + bi b4 + bi b5 + bi b6 + bi b7 + bi b8 + bi b9))) = true := by decide +kernel
theorem set_many (z : Nat → Int32) : bcF (mSet z 10) = mMany z 10 ∧ (mSet z 10 = 0 ↔ ¬ 0 < mMany z 10) := by
  have h := bits_all (zt z 0) (zt z 1) (zt z 2) (zt z 3) (zt z 4) (zt z 5) (zt z 6) (zt z 7) (zt z 8) (zt z 9)
  rw [Bool.and_eq_true] at h
  refine ⟨of_decide_eq_true h.1, ?_⟩
  have h2 := beq_iff_eq.mp h.2
  exact decide_eq_decide.mp h2
theorem xset3 {x : Int32} (h0 : ¬ x = 0) (h1 : ¬ x = 1) (h2 : ¬ x = 2) (g0 : ¬ x < 0) : ¬ x ≤ 2 := by
  intro h
  obtain ⟨j, hj, e⟩ := nI_of2 (M := 2) (n := 2) rfl g0 h
  rcases (by omega : j = 0 ∨ j = 1 ∨ j = 2) with q | q | q <;> subst q
  · exact h0 e
  · exact h1 e
  · exact h2 e
theorem nI_no1 {p : Nat} (hp : p < 48) : ¬ nI p = -1 := by
  intro h
  have h2 : ∀ q, q < 48 → ¬ nI q = -1 := by decide
  exact h2 p hp h
section CLASS4
variable (d n : Nat) (z s : Nat → Int32) (g : xHp)
theorem t_step (P : Nat) (hP : z 0 = nI P) (h2 : 2 ≤ P) (h6 : P ≤ 6) (hi : In z P) : Rn (d + 2) 52 0 [(0, .ref 4)] [] (tOn z s g) n none (tOn (stF z) s g) n := by
  refine Rn.steps 2 rfl ?_
  refine Rn.l2 rfl rfl rfl (xloop (fun c => Rn (d + 2) 52 2 [(0, .ref 4), (1, .int (nI c))] [] (tOn (stZ z c) s g) n none (tOn (stF z) s g) n) 10 ?_ (fun c hc ih => ?_))
  · show Rn (d + 2) 52 2 [(0, .ref 4), (1, .int (nI 10))] [] (tOn (stZ z 10) s g) n none (tOn (stF z) s g) n
    unfold stF
    generalize stZ z 10 = Z
    refine Rn.steps 9 rfl ?_
    refine Rn.ialdN (m := 1) rfl rfl rfl (rfl) (by omega) (Nat.le_of_ble_eq_true rfl) ?_
    refine Rn.steps 2 rfl ?_
    refine Rn.heap tOn_w3 ?_
    refine Rn.steps 6 rfl ?_
    refine Rn.heap tOn_w2 ?_
    exact Rn.retE rfl rfl rfl rfl rfl
  · refine Rn.br 3 rfl (fun hc5 => ?_) (fun hc5 => ?_)
    · exact (nI_ge hc (by omega) hc5).elim
    · refine Rn.steps 3 rfl ?_
      refine Rn.aaldN (m := c) rfl rfl rfl rfl rfl hc (Nat.le_of_ble_eq_true rfl) (crow hc) ?_
      refine Rn.getf rfl rfl (tOn_c hc) rfl ?_
      refine Rn.br 1 rfl (fun hc17 => ?_) (fun hc17 => ?_)
      · have hz := bi_eq0 hc17
        rw [stZ_f hz] at ih
        refine Rn.steps 2 rfl ?_
        exact Rn.l2 rfl rfl (by rw [← nI_1 c]; rfl) ih
      · have hz := bi_ne0 hc17
        have hz0 : zt z c = true := by rw [← stZ_zt z c c (Nat.le_refl _)]; exact hz
        obtain ⟨q, hq, e1⟩ := hi c hc hz0
        have e2 : stZ z c (10 + 7 * c) = nI q := by rw [stZ_hi z c _ (Nat.le_refl _)]; exact e1
        have e3 : stZ z c 0 = nI P := by rw [stZ_lo z c 0 (by omega)]; exact hP
        have k1 := place_ok h2 h6 hq
        have k2 := place_ok h2 h6 k1.2.2.2.1
        have hp : pF (2 * stZ z c 0) (t32 (stZ z c (10 + 7 * c))) = o32 (2 * stZ z c 0) (t32 (stZ z c (10 + 7 * c))) := by rw [e2, e3, k1.1, k2.2.2.1, k2.2.1]
        have hx : ¬ pF (2 * stZ z c 0) (t32 (stZ z c (10 + 7 * c))) = -6 := by rw [e2, e3, k1.1, k2.2.2.1]; exact nI_no6 (by omega)
        refine Rn.steps 3 rfl ?_
        refine Rn.aaldN (m := c) rfl rfl rfl rfl rfl hc (Nat.le_of_ble_eq_true rfl) (crow hc) ?_
        refine Rn.steps 1 rfl ?_
        refine Rn.call rfl rfl rfl (t_horns (d + 1) n (stZ z c) s g) ?_
        refine Rn.callO rfl rfl rfl (tOn_c hc) rfl rfl rfl rfl rfl rfl (t_move d n (stZ z c) s g c hc hz _ hx) ?_
        refine Rn.steps 6 rfl ?_
        refine Rn.heap tOn_w7 ?_
        rw [mvZ_st hp]
        rw [show stZ z (c + 1) = stX (stZ z c) c (t32 (stZ z c (10 + 7 * c))) (if rm (t32 (stZ z c (10 + 7 * c))) 4 = 1 then 1 else 0) (if rm (t32 (stZ z c (10 + 7 * c))) 4 = 3 then 1 else 0) by rw [stZ, hz]; rfl] at ih
        refine Rn.steps 2 rfl ?_
        exact Rn.l2 rfl rfl (by rw [← nI_1 c]; rfl) ih
theorem t_adv_bad (x : Int32) (hx : wnr z x < 0) : Rn (d + 3) 53 0 [(0, .ref 4), (1, .int x)] [] (tOn z s g) n (some (.int (wnr z x))) (tOn z s g) n := by
  refine Rn.br 3 rfl (fun hc2 => ?_) (fun hc2 => ?_)
  · have e : wnr z x = -2 := by unfold wnr; rw [decide_eq_false (fun h => Int32.not_le.mpr hc2 h.1)]; rfl
    refine Rn.steps 1 rfl ?_
    exact Rn.retE rfl rfl rfl (by rw [e]) rfl
  · refine Rn.br 3 rfl (fun hc8 => ?_) (fun hc8 => ?_)
    · refine Rn.br 6 rfl (fun hc23 => ?_) (fun hc23 => ?_)
      · have e : wnr z x = 0 := by unfold wnr; rw [decide_eq_true ⟨Int32.not_lt.mp hc2, hc8⟩]; exact if_pos hc23
        exact absurd hx (by rw [e]; decide)
      · have e : wnr z x = -5 := by unfold wnr; rw [decide_eq_true ⟨Int32.not_lt.mp hc2, hc8⟩]; exact if_neg hc23
        refine Rn.steps 1 rfl ?_
        exact Rn.retE rfl rfl rfl (by rw [e]) rfl
    · have e : wnr z x = -2 := by unfold wnr; rw [decide_eq_false (fun h => hc8 h.2)]; rfl
      refine Rn.steps 1 rfl ?_
      exact Rn.retE rfl rfl rfl (by rw [e]) rfl
theorem t_advL (hg : g 2 = .inl (0, 3, .inl xhi)) (P : Nat) (h2 : 2 ≤ P) (h6 : P ≤ 6) (N : Nat) (hN : N ≤ 99) : ∀ (r k : Nat) (z : Nat → Int32), k + r = N → z 0 = nI P → Fl z → In z P → Rn (d + 3) 53 31 [(0, .ref 4), (1, .int (nI N)), (2, .int (nI k))] [] (tOn z s g) n (some (.int (nI (adF r k z).1))) (tOn (adF r k z).2 s g) n := by
  intro r
  induction r with
  | zero =>
    intro k z hk hP hf hi
    have hk2 : k = N := hk
    refine Rn.br 3 rfl (fun hc33 => ?_) (fun hc33 => ?_)
    · refine Rn.steps 1 rfl ?_
      exact Rn.retE rfl rfl rfl (by rw [hk2]; rfl) rfl
    · exact (hc33 (by rw [hk2]; exact nI_le (Nat.le_refl _) (by omega))).elim
  | succ r ih =>
    intro k z hk hP hf hi
    refine Rn.br 3 rfl (fun hc33 => ?_) (fun hc33 => ?_)
    · exact (nI_ge (show k < N by omega) (by omega) hc33).elim
    · refine Rn.steps 2 rfl ?_
      refine Rn.call rfl rfl rfl (t_hind d n z s g hf hg) ?_
      refine Rn.steps 1 rfl ?_
      refine Rn.heap tOn_w8 ?_
      refine Rn.br 3 rfl (fun hc48 => ?_) (fun hc48 => ?_)
      · have q0 : hiF z = 0 := hc48
        rw [show adF (r + 1) k z = adF r (k + 1) (stF (upd z 9 (hiF z))) by rw [adF, if_pos q0]]
        have i2 : In (upd z 9 (hiF z)) P := by
          intro c hc hz
          rw [zt_ne (by omega)] at hz
          rw [upd_ne (by omega)]
          exact hi c hc hz
        have hP2 : upd z 9 (hiF z) 0 = nI P := hP
        have f2 : Fl (upd z 9 (hiF z)) := by
          intro c hc
          rw [upd_ne (by omega)]
          exact hf c hc
        refine Rn.steps 1 rfl ?_
        refine Rn.call rfl rfl rfl (t_step d n (upd z 9 (hiF z)) s g P hP2 h2 h6 i2) ?_
        refine Rn.steps 2 rfl ?_
        exact Rn.l3 rfl rfl rfl (by rw [← nI_1 k]; rfl) (ih (k + 1) _ (by omega) (by rw [stF_0]; exact hP2) (stF_Fl f2) (stF_In hP2 h2 h6 i2))
      · have q0 : ¬ hiF z = 0 := hc48
        rw [show adF (r + 1) k z = (k, upd z 9 (hiF z)) by rw [adF, if_neg q0]]
        refine Rn.steps 1 rfl ?_
        exact Rn.retE rfl rfl rfl rfl rfl
theorem t_adv (hg : g 2 = .inl (0, 3, .inl xhi)) (P : Nat) (hP : z 0 = nI P) (h2 : 2 ≤ P) (h6 : P ≤ 6) (hf : Fl z) (hi : In z P) (N : Nat) (h1 : 1 ≤ N) (hN : N ≤ 99) (hs : z 3 + nI N ≤ 9999) : Rn (d + 3) 53 0 [(0, .ref 4), (1, .int (nI N))] [] (tOn z s g) n (some (.int (nI (adF N 0 z).1))) (tOn (adF N 0 z).2 s g) n := by
  refine Rn.br 3 rfl (fun hc2 => ?_) (fun hc2 => ?_)
  · exact (Int32.not_lt.mpr (nI_le (show 1 ≤ N by omega) (by omega)) hc2).elim
  · refine Rn.br 3 rfl (fun hc8 => ?_) (fun hc8 => ?_)
    · refine Rn.br 6 rfl (fun hc23 => ?_) (fun hc23 => ?_)
      · refine Rn.steps 2 rfl ?_
        exact Rn.l3 rfl rfl rfl rfl (t_advL d n s g hg P h2 h6 N hN N 0 z (by omega) hP hf hi)
      · exact (hc23 hs).elim
    · exact (hc8 (nI_le (b := 99) hN (by omega))).elim
theorem t_brk_bad (x : Int32) (hx : isC z x = false) : Rn (d + 1) 54 0 [(0, .ref 4), (1, .int x)] [] (tOn z s g) n (some (.int (-1))) (tOn z s g) n := by
  refine Rn.steps 2 rfl ?_
  refine Rn.call rfl rfl rfl (t_has d n z s g _) ?_
  rw [hx]
  refine Rn.steps 2 rfl ?_
  exact Rn.retE rfl rfl rfl rfl rfl
theorem t_mend_bad (x : Int32) (hx : isC z x = false) : Rn (d + 1) 55 0 [(0, .ref 4), (1, .int x)] [] (tOn z s g) n (some (.int (-1))) (tOn z s g) n := by
  refine Rn.steps 2 rfl ?_
  refine Rn.call rfl rfl rfl (t_has d n z s g _) ?_
  rw [hx]
  refine Rn.steps 2 rfl ?_
  exact Rn.retE rfl rfl rfl rfl rfl
theorem t_bob_bad (x : Int32) (hx : isC z x = false) : Rn (d + 1) 56 0 [(0, .ref 4), (1, .int x)] [] (tOn z s g) n (some (.int (-1))) (tOn z s g) n := by
  refine Rn.steps 2 rfl ?_
  refine Rn.call rfl rfl rfl (t_has d n z s g _) ?_
  rw [hx]
  refine Rn.steps 2 rfl ?_
  exact Rn.retE rfl rfl rfl rfl rfl
theorem t_rem_bad (x : Int32) (hx : isC z x = false) : Rn (d + 1) 51 0 [(0, .ref 4), (1, .int x)] [] (tOn z s g) n (some (.int (-1))) (tOn z s g) n := by
  refine Rn.steps 2 rfl ?_
  refine Rn.call rfl rfl rfl (t_has d n z s g _) ?_
  rw [hx]
  refine Rn.steps 2 rfl ?_
  exact Rn.retE rfl rfl rfl rfl rfl
theorem t_brk_not (c : Nat) (hc : c < 10) (hz : zt z c = true) (hb : ¬ z (10 + 7 * c + 2) = 0) : Rn (d + 1) 54 0 [(0, .ref 4), (1, .int (nI c))] [] (tOn z s g) n (some (.int (-5))) (tOn z s g) n := by
  refine Rn.steps 2 rfl ?_
  refine Rn.call rfl rfl rfl (t_has d n z s g _) ?_
  rw [isC_nI hc, hz]
  refine Rn.steps 4 rfl ?_
  refine Rn.aaldN (m := c) rfl rfl rfl rfl rfl hc (Nat.le_of_ble_eq_true rfl) (crow hc) ?_
  refine Rn.getf rfl rfl (tOn_c hc) rfl ?_
  refine Rn.br 1 rfl (fun hc19 => ?_) (fun hc19 => ?_)
  · exact (hb hc19).elim
  · refine Rn.steps 1 rfl ?_
    exact Rn.retE rfl rfl rfl rfl rfl
theorem t_brk (c : Nat) (hc : c < 10) (hz : zt z c = true) (hb : z (10 + 7 * c + 2) = 0) (hf : Fl (upd z (10 + 7 * c + 2) 1)) : Rn (d + 1) 54 0 [(0, .ref 4), (1, .int (nI c))] [] (tOn z s g) n (some (.int (mSum (upd z (10 + 7 * c + 2) 1) 2 10))) (tOn (upd z (10 + 7 * c + 2) 1) s g) n := by
  refine Rn.steps 2 rfl ?_
  refine Rn.call rfl rfl rfl (t_has d n z s g _) ?_
  rw [isC_nI hc, hz]
  refine Rn.steps 4 rfl ?_
  refine Rn.aaldN (m := c) rfl rfl rfl rfl rfl hc (Nat.le_of_ble_eq_true rfl) (crow hc) ?_
  refine Rn.getf rfl rfl (tOn_c hc) rfl ?_
  refine Rn.br 1 rfl (fun hc19 => ?_) (fun hc19 => ?_)
  · refine Rn.steps 3 rfl ?_
    refine Rn.aaldN (m := c) rfl rfl rfl rfl rfl hc (Nat.le_of_ble_eq_true rfl) (crow hc) ?_
    refine Rn.steps 1 rfl ?_
    refine Rn.putf rfl rfl (tOn_c hc) rfl rfl ?_
    refine Rn.heap (tOn_p3 hc) ?_
    refine Rn.steps 1 rfl ?_
    refine Rn.call rfl rfl rfl (t_broken d n (upd z (10 + 7 * c + 2) 1) s g hf) ?_
    exact Rn.retE rfl rfl rfl rfl rfl
  · exact (hc19 hb).elim
theorem t_mend_not (c : Nat) (hc : c < 10) (hz : zt z c = true) (hb : z (10 + 7 * c + 2) = 0) : Rn (d + 1) 55 0 [(0, .ref 4), (1, .int (nI c))] [] (tOn z s g) n (some (.int (-5))) (tOn z s g) n := by
  refine Rn.steps 2 rfl ?_
  refine Rn.call rfl rfl rfl (t_has d n z s g _) ?_
  rw [isC_nI hc, hz]
  refine Rn.steps 4 rfl ?_
  refine Rn.aaldN (m := c) rfl rfl rfl rfl rfl hc (Nat.le_of_ble_eq_true rfl) (crow hc) ?_
  refine Rn.getf rfl rfl (tOn_c hc) rfl ?_
  refine Rn.br 1 rfl (fun hc19 => ?_) (fun hc19 => ?_)
  · refine Rn.steps 1 rfl ?_
    exact Rn.retE rfl rfl rfl rfl rfl
  · exact (hc19 hb).elim
theorem t_mend (c : Nat) (hc : c < 10) (hz : zt z c = true) (hb : ¬ z (10 + 7 * c + 2) = 0) : Rn (d + 1) 55 0 [(0, .ref 4), (1, .int (nI c))] [] (tOn z s g) n (some (.int (tieZ z c 5))) (tOn (tieZ z c) s g) n := by
  refine Rn.steps 2 rfl ?_
  refine Rn.call rfl rfl rfl (t_has d n z s g _) ?_
  rw [isC_nI hc, hz]
  refine Rn.steps 4 rfl ?_
  refine Rn.aaldN (m := c) rfl rfl rfl rfl rfl hc (Nat.le_of_ble_eq_true rfl) (crow hc) ?_
  refine Rn.getf rfl rfl (tOn_c hc) rfl ?_
  refine Rn.br 1 rfl (fun hc19 => ?_) (fun hc19 => ?_)
  · exact (hb hc19).elim
  · refine Rn.steps 3 rfl ?_
    refine Rn.aaldN (m := c) rfl rfl rfl rfl rfl hc (Nat.le_of_ble_eq_true rfl) (crow hc) ?_
    refine Rn.steps 1 rfl ?_
    refine Rn.putf rfl rfl (tOn_c hc) rfl rfl ?_
    refine Rn.heap (tOn_p3 hc) ?_
    refine Rn.steps 6 rfl ?_
    refine Rn.heap tOn_w4 ?_
    refine Rn.steps 2 rfl ?_
    exact Rn.retE rfl rfl rfl rfl rfl
theorem t_bob (c : Nat) (hc : c < 10) (hz : zt z c = true) : Rn (d + 1) 56 0 [(0, .ref 4), (1, .int (nI c))] [] (tOn z s g) n (some (.int (z (10 + 7 * c + 1)))) (tOn (refZ z c) s g) n := by
  refine Rn.steps 2 rfl ?_
  refine Rn.call rfl rfl rfl (t_has d n z s g _) ?_
  rw [isC_nI hc, hz]
  refine Rn.steps 4 rfl ?_
  refine Rn.aaldN (m := c) rfl rfl rfl rfl rfl hc (Nat.le_of_ble_eq_true rfl) (crow hc) ?_
  refine Rn.getf rfl rfl (tOn_c hc) rfl ?_
  refine Rn.steps 4 rfl ?_
  refine Rn.aaldN (m := c) rfl rfl rfl rfl rfl hc (Nat.le_of_ble_eq_true rfl) (crow hc) ?_
  refine Rn.steps 3 rfl ?_
  refine Rn.ialdN (m := 2) rfl rfl rfl (rfl) (by omega) (Nat.le_of_ble_eq_true rfl) ?_
  refine Rn.putf rfl rfl (tOn_c hc) rfl rfl ?_
  refine Rn.heap (tOn_p2 hc) ?_
  refine Rn.steps 6 rfl ?_
  refine Rn.heap tOn_w5 ?_
  refine Rn.steps 6 rfl ?_
  refine Rn.ialdN (m := 2) rfl rfl rfl (rfl) (by omega) (Nat.le_of_ble_eq_true rfl) ?_
  refine Rn.steps 2 rfl ?_
  refine Rn.heap tOn_w6 ?_
  refine Rn.steps 1 rfl ?_
  exact Rn.retE rfl rfl rfl rfl (by rw [bob_eq])
theorem t_rem (c : Nat) (hc : c < 10) (hz : zt z c = true) : Rn (d + 1) 51 0 [(0, .ref 4), (1, .int (nI c))] [] (tOn z s g) n (some (.int (z (10 + 7 * c + 1)))) (tOn (toZ z c) (upd s c (z (10 + 7 * c))) g) n := by
  have e : toZ z c = upd (upd z (10 + 7 * c) (-6)) 6 (z 6 + z (10 + 7 * c + 1)) := by
    show upd (upd z 6 (z 6 + z (10 + 7 * c + 1))) (10 + 7 * c) (-6) = _
    rw [upd_comm (by omega)]
  rw [e]
  refine Rn.steps 2 rfl ?_
  refine Rn.call rfl rfl rfl (t_has d n z s g _) ?_
  rw [isC_nI hc, hz]
  refine Rn.steps 4 rfl ?_
  refine Rn.aaldN (m := c) rfl rfl rfl rfl rfl hc (Nat.le_of_ble_eq_true rfl) (crow hc) ?_
  refine Rn.getf rfl rfl (tOn_c hc) rfl ?_
  refine Rn.steps 4 rfl ?_
  refine Rn.aaldN (m := c) rfl rfl rfl rfl rfl hc (Nat.le_of_ble_eq_true rfl) (crow hc) ?_
  refine Rn.steps 1 rfl ?_
  refine Rn.putf rfl rfl (tOn_c hc) rfl rfl ?_
  refine Rn.heap (tOn_p0 hc hz) ?_
  refine Rn.steps 6 rfl ?_
  refine Rn.heap tOn_w5 ?_
  refine Rn.steps 1 rfl ?_
  exact Rn.retE rfl rfl rfl rfl (by rw [show upd z (10 + 7 * c) (-6) 6 = z 6 from upd_ne (by omega)])
theorem m_bits (x : Int32) (h : xHp) : Rn d 43 0 [(0, .int x)] [] h n (some (.int (bcF x))) h n := by
  refine Rn.steps 41 rfl ?_
  exact Rn.retE rfl rfl rfl rfl rfl
theorem t_count : Rn (d + 1) 44 0 [(0, .ref 4)] [] (tOn z s g) n (some (.int (mMany z 10))) (tOn z s g) n := by
  refine Rn.steps 1 rfl ?_
  refine Rn.call rfl rfl rfl (t_cset d n z s g) ?_
  refine Rn.call rfl rfl rfl (m_bits d n _ _) ?_
  exact Rn.retE rfl rfl rfl (by rw [(set_many z).1]) rfl
theorem t_cs_bad (hg1 : g 1 = .inl (0, 3, .inl xlo)) (hg2 : g 2 = .inl (0, 3, .inl xhi)) (k x : Int32) (hx : isV k x = false) : Rn (d + 1) 49 0 [(0, .ref 4), (1, .int k), (2, .int x)] [] (tOn z s g) n (some (.int (-2))) (tOn z s g) n := by
  by_cases k0 : k = 0
  · subst k0
    have hx2 : ¬ (2 ≤ x ∧ x ≤ 6) := of_decide_eq_false hx
    refine Rn.steps 8 rfl ?_
    refine Rn.ialdN (m := 0) rfl rfl hg1 (rfl) (by omega) (Nat.le_of_ble_eq_true rfl) ?_
    refine Rn.br 1 rfl (fun hc18 => ?_) (fun hc18 => ?_)
    · refine Rn.steps 1 rfl ?_
      exact Rn.retE rfl rfl rfl rfl rfl
    · refine Rn.steps 3 rfl ?_
      refine Rn.ialdN (m := 0) rfl rfl hg2 (rfl) (by omega) (Nat.le_of_ble_eq_true rfl) ?_
      refine Rn.br 1 rfl (fun hc27 => ?_) (fun hc27 => ?_)
      · exact (hx2 ⟨Int32.not_lt.mp hc18, hc27⟩).elim
      · refine Rn.steps 1 rfl ?_
        exact Rn.retE rfl rfl rfl rfl rfl
  ·
    by_cases k1 : k = 1
    · subst k1
      have hx2 : ¬ (1 ≤ x ∧ x ≤ 9) := of_decide_eq_false hx
      refine Rn.steps 8 rfl ?_
      refine Rn.ialdN (m := 1) rfl rfl hg1 (rfl) (by omega) (Nat.le_of_ble_eq_true rfl) ?_
      refine Rn.br 1 rfl (fun hc18 => ?_) (fun hc18 => ?_)
      · refine Rn.steps 1 rfl ?_
        exact Rn.retE rfl rfl rfl rfl rfl
      · refine Rn.steps 3 rfl ?_
        refine Rn.ialdN (m := 1) rfl rfl hg2 (rfl) (by omega) (Nat.le_of_ble_eq_true rfl) ?_
        refine Rn.br 1 rfl (fun hc27 => ?_) (fun hc27 => ?_)
        · exact (hx2 ⟨Int32.not_lt.mp hc18, hc27⟩).elim
        · refine Rn.steps 1 rfl ?_
          exact Rn.retE rfl rfl rfl rfl rfl
    ·
      by_cases k2 : k = 2
      · subst k2
        have hx2 : ¬ (1 ≤ x ∧ x ≤ 999) := of_decide_eq_false hx
        refine Rn.steps 8 rfl ?_
        refine Rn.ialdN (m := 2) rfl rfl hg1 (rfl) (by omega) (Nat.le_of_ble_eq_true rfl) ?_
        refine Rn.br 1 rfl (fun hc18 => ?_) (fun hc18 => ?_)
        · refine Rn.steps 1 rfl ?_
          exact Rn.retE rfl rfl rfl rfl rfl
        · refine Rn.steps 3 rfl ?_
          refine Rn.ialdN (m := 2) rfl rfl hg2 (rfl) (by omega) (Nat.le_of_ble_eq_true rfl) ?_
          refine Rn.br 1 rfl (fun hc27 => ?_) (fun hc27 => ?_)
          · exact (hx2 ⟨Int32.not_lt.mp hc18, hc27⟩).elim
          · refine Rn.steps 1 rfl ?_
            exact Rn.retE rfl rfl rfl rfl rfl
      ·
        refine Rn.br 2 rfl (fun hc1 => ?_) (fun hc1 => ?_)
        · refine Rn.steps 1 rfl ?_
          exact Rn.retE rfl rfl rfl rfl rfl
        · refine Rn.br 3 rfl (fun hc6 => ?_) (fun hc6 => ?_)
          · exact (xset3 k0 k1 k2 hc1 hc6).elim
          · refine Rn.steps 1 rfl ?_
            exact Rn.retE rfl rfl rfl rfl rfl
theorem t_cs_not (hg1 : g 1 = .inl (0, 3, .inl xlo)) (hg2 : g 2 = .inl (0, 3, .inl xhi)) (x : Int32) (hx : isV 0 x = true) (hm : ¬ mSet z 10 = 0) : Rn (d + 1) 49 0 [(0, .ref 4), (1, .int 0), (2, .int x)] [] (tOn z s g) n (some (.int (-5))) (tOn z s g) n := by
  have hx2 : 2 ≤ x ∧ x ≤ 6 := of_decide_eq_true hx
  refine Rn.steps 8 rfl ?_
  refine Rn.ialdN (m := 0) rfl rfl hg1 (rfl) (by omega) (Nat.le_of_ble_eq_true rfl) ?_
  refine Rn.br 1 rfl (fun hc18 => ?_) (fun hc18 => ?_)
  · exact (Int32.not_lt.mpr hx2.1 hc18).elim
  · refine Rn.steps 3 rfl ?_
    refine Rn.ialdN (m := 0) rfl rfl hg2 (rfl) (by omega) (Nat.le_of_ble_eq_true rfl) ?_
    refine Rn.br 1 rfl (fun hc27 => ?_) (fun hc27 => ?_)
    · refine Rn.steps 3 rfl ?_
      refine Rn.call rfl rfl rfl (t_cset d n z s g) ?_
      refine Rn.br 1 rfl (fun hc41 => ?_) (fun hc41 => ?_)
      · exact (hm hc41).elim
      · refine Rn.steps 1 rfl ?_
        exact Rn.retE rfl rfl rfl rfl rfl
    · exact (hc27 hx2.2).elim
theorem t_cs_0 (hg1 : g 1 = .inl (0, 3, .inl xlo)) (hg2 : g 2 = .inl (0, 3, .inl xhi)) (x : Int32) (hx : isV 0 x = true) (hm : mSet z 10 = 0) : Rn (d + 1) 49 0 [(0, .ref 4), (1, .int 0), (2, .int x)] [] (tOn z s g) n (some (.int (z 0))) (tOn (upd z 0 x) s g) n := by
  have hx2 : 2 ≤ x ∧ x ≤ 6 := of_decide_eq_true hx
  refine Rn.steps 8 rfl ?_
  refine Rn.ialdN (m := 0) rfl rfl hg1 (rfl) (by omega) (Nat.le_of_ble_eq_true rfl) ?_
  refine Rn.br 1 rfl (fun hc18 => ?_) (fun hc18 => ?_)
  · exact (Int32.not_lt.mpr hx2.1 hc18).elim
  · refine Rn.steps 3 rfl ?_
    refine Rn.ialdN (m := 0) rfl rfl hg2 (rfl) (by omega) (Nat.le_of_ble_eq_true rfl) ?_
    refine Rn.br 1 rfl (fun hc27 => ?_) (fun hc27 => ?_)
    · refine Rn.steps 3 rfl ?_
      refine Rn.call rfl rfl rfl (t_cset d n z s g) ?_
      refine Rn.br 1 rfl (fun hc41 => ?_) (fun hc41 => ?_)
      · refine Rn.steps 3 rfl ?_
        refine Rn.ialdN (m := 0) rfl rfl rfl (rfl) (by omega) (Nat.le_of_ble_eq_true rfl) ?_
        refine Rn.steps 5 rfl ?_
        refine Rn.iastN (m := 0) rfl rfl rfl rfl (rfl) (by omega) (Nat.le_of_ble_eq_true rfl) ?_
        refine Rn.heap (tOn_st (by omega)) ?_
        refine Rn.steps 1 rfl ?_
        exact Rn.retE rfl rfl rfl rfl rfl
      · exact (hc41 hm).elim
    · exact (hc27 hx2.2).elim
theorem t_cs_1 (hg1 : g 1 = .inl (0, 3, .inl xlo)) (hg2 : g 2 = .inl (0, 3, .inl xhi)) (x : Int32) (hx : isV 1 x = true) : Rn (d + 1) 49 0 [(0, .ref 4), (1, .int 1), (2, .int x)] [] (tOn z s g) n (some (.int (z 1))) (tOn (upd z 1 x) s g) n := by
  have hx2 : 1 ≤ x ∧ x ≤ 9 := of_decide_eq_true hx
  refine Rn.steps 8 rfl ?_
  refine Rn.ialdN (m := 1) rfl rfl hg1 (rfl) (by omega) (Nat.le_of_ble_eq_true rfl) ?_
  refine Rn.br 1 rfl (fun hc18 => ?_) (fun hc18 => ?_)
  · exact (Int32.not_lt.mpr hx2.1 hc18).elim
  · refine Rn.steps 3 rfl ?_
    refine Rn.ialdN (m := 1) rfl rfl hg2 (rfl) (by omega) (Nat.le_of_ble_eq_true rfl) ?_
    refine Rn.br 1 rfl (fun hc27 => ?_) (fun hc27 => ?_)
    · refine Rn.steps 5 rfl ?_
      refine Rn.ialdN (m := 1) rfl rfl rfl (rfl) (by omega) (Nat.le_of_ble_eq_true rfl) ?_
      refine Rn.steps 5 rfl ?_
      refine Rn.iastN (m := 1) rfl rfl rfl rfl (rfl) (by omega) (Nat.le_of_ble_eq_true rfl) ?_
      refine Rn.heap (tOn_st (by omega)) ?_
      refine Rn.steps 1 rfl ?_
      exact Rn.retE rfl rfl rfl rfl rfl
    · exact (hc27 hx2.2).elim
theorem t_cs_2 (hg1 : g 1 = .inl (0, 3, .inl xlo)) (hg2 : g 2 = .inl (0, 3, .inl xhi)) (x : Int32) (hx : isV 2 x = true) : Rn (d + 1) 49 0 [(0, .ref 4), (1, .int 2), (2, .int x)] [] (tOn z s g) n (some (.int (z 2))) (tOn (upd z 2 x) s g) n := by
  have hx2 : 1 ≤ x ∧ x ≤ 999 := of_decide_eq_true hx
  refine Rn.steps 8 rfl ?_
  refine Rn.ialdN (m := 2) rfl rfl hg1 (rfl) (by omega) (Nat.le_of_ble_eq_true rfl) ?_
  refine Rn.br 1 rfl (fun hc18 => ?_) (fun hc18 => ?_)
  · exact (Int32.not_lt.mpr hx2.1 hc18).elim
  · refine Rn.steps 3 rfl ?_
    refine Rn.ialdN (m := 2) rfl rfl hg2 (rfl) (by omega) (Nat.le_of_ble_eq_true rfl) ?_
    refine Rn.br 1 rfl (fun hc27 => ?_) (fun hc27 => ?_)
    · refine Rn.steps 5 rfl ?_
      refine Rn.ialdN (m := 2) rfl rfl rfl (rfl) (by omega) (Nat.le_of_ble_eq_true rfl) ?_
      refine Rn.steps 5 rfl ?_
      refine Rn.iastN (m := 2) rfl rfl rfl rfl (rfl) (by omega) (Nat.le_of_ble_eq_true rfl) ?_
      refine Rn.heap (tOn_st (by omega)) ?_
      refine Rn.steps 1 rfl ?_
      exact Rn.retE rfl rfl rfl rfl rfl
    · exact (hc27 hx2.2).elim
theorem t_ins_pl (P : Nat) (hP : z 0 = nI P) (h2 : 2 ≤ P) (h6 : P ≤ 6) (x q : Int32) (hp : isPl (2 * z 0) x q = false) : Rn (d + 2) 50 0 [(0, .ref 4), (1, .int x), (2, .int q)] [] (tOn z s g) n (some (.int (-1))) (tOn z s g) n := by
  refine Rn.steps 3 rfl ?_
  refine Rn.call rfl rfl rfl (t_placeOf (d + 0) n z s g P hP h2 h6 x q) ?_
  rw [hp]
  refine Rn.steps 5 rfl ?_
  exact Rn.retE rfl rfl rfl rfl rfl
theorem t_ins_skip (p x q : Int32) {v : Option Value} {h' : xHp} {n' : Nat} (c : Nat) (hc10 : c ≤ 10) (ha : ∀ j, j < c → zt z j = true) (kk : Rn (d + 2) 50 35 [(0, .ref 4), (1, .int x), (2, .int q), (3, .int p), (4, .int (nI c))] [] (tOn z s g) n v h' n') : Rn (d + 2) 50 35 [(0, .ref 4), (1, .int x), (2, .int q), (3, .int p), (4, .int 0)] [] (tOn z s g) n v h' n' := by
  refine xloop (fun c => Rn (d + 2) 50 35 [(0, .ref 4), (1, .int x), (2, .int q), (3, .int p), (4, .int (nI c))] [] (tOn z s g) n v h' n') c kk (fun e he ih => ?_)
  have hc : e < 10 := by omega
  refine Rn.br 3 rfl (fun hc39 => ?_) (fun hc39 => ?_)
  · exact (nI_ge hc (by omega) hc39).elim
  · refine Rn.steps 3 rfl ?_
    refine Rn.aaldN (m := e) rfl rfl rfl rfl rfl hc (Nat.le_of_ble_eq_true rfl) (crow hc) ?_
    refine Rn.getf rfl rfl (tOn_c hc) rfl ?_
    refine Rn.br 1 rfl (fun hc52 => ?_) (fun hc52 => ?_)
    · exact absurd (bi_eq0 hc52) (by rw [ha e he]; decide)
    · refine Rn.steps 2 rfl ?_
      exact Rn.l5 (by decide) rfl rfl rfl rfl (by rw [← nI_1 e]; rfl) ih
theorem t_ins_fit (P : Nat) (hP : z 0 = nI P) (h2 : 2 ≤ P) (h6 : P ≤ 6) (x q : Int32) (hp : isPl (2 * z 0) x q = true) (p : Nat) (hp8 : p < 8 * P) (hpe : 4 * x + q = nI p) (hfit : fitsF (tkF z 10) (2 * z 0) (nI p) = false) : Rn (d + 2) 50 0 [(0, .ref 4), (1, .int x), (2, .int q)] [] (tOn z s g) n (some (.int (-5))) (tOn z s g) n := by
  refine Rn.steps 3 rfl ?_
  refine Rn.call rfl rfl rfl (t_placeOf (d + 0) n z s g P hP h2 h6 x q) ?_
  rw [hp]
  simp only [cond]
  rw [hpe]
  refine Rn.br 4 rfl (fun hc9 => ?_) (fun hc9 => ?_)
  · exact (nI_no1 (by omega) hc9).elim
  · refine Rn.steps 1 rfl ?_
    refine Rn.call rfl rfl rfl (t_taken (d + 1) n z s g) ?_
    refine Rn.steps 1 rfl ?_
    refine Rn.call rfl rfl rfl (t_horns (d + 1) n z s g) ?_
    refine Rn.steps 1 rfl ?_
    refine Rn.call rfl rfl rfl (m_fits d n _ _ _ _) ?_
    rw [hfit]
    refine Rn.steps 2 rfl ?_
    exact Rn.retE rfl rfl rfl rfl rfl
theorem t_ins_full (P : Nat) (hP : z 0 = nI P) (h2 : 2 ≤ P) (h6 : P ≤ 6) (x q : Int32) (hp : isPl (2 * z 0) x q = true) (p : Nat) (hp8 : p < 8 * P) (hpe : 4 * x + q = nI p) (hfit : fitsF (tkF z 10) (2 * z 0) (nI p) = true) (ha : ∀ j, j < 10 → zt z j = true) : Rn (d + 2) 50 0 [(0, .ref 4), (1, .int x), (2, .int q)] [] (tOn z s g) n (some (.int (-4))) (tOn z s g) n := by
  refine Rn.steps 3 rfl ?_
  refine Rn.call rfl rfl rfl (t_placeOf (d + 0) n z s g P hP h2 h6 x q) ?_
  rw [hp]
  simp only [cond]
  rw [hpe]
  refine Rn.br 4 rfl (fun hc9 => ?_) (fun hc9 => ?_)
  · exact (nI_no1 (by omega) hc9).elim
  · refine Rn.steps 1 rfl ?_
    refine Rn.call rfl rfl rfl (t_taken (d + 1) n z s g) ?_
    refine Rn.steps 1 rfl ?_
    refine Rn.call rfl rfl rfl (t_horns (d + 1) n z s g) ?_
    refine Rn.steps 1 rfl ?_
    refine Rn.call rfl rfl rfl (m_fits d n _ _ _ _) ?_
    rw [hfit]
    refine Rn.steps 3 rfl ?_
    refine Rn.l5 (by decide) rfl rfl rfl rfl rfl (t_ins_skip d n z s g (nI p) x q 10 (Nat.le_refl _) ha ?_)
    refine Rn.steps 4 rfl ?_
    exact Rn.retE rfl rfl rfl rfl rfl
theorem t_ins (P : Nat) (hP : z 0 = nI P) (h2 : 2 ≤ P) (h6 : P ≤ 6) (x q : Int32) (hp : isPl (2 * z 0) x q = true) (p : Nat) (hp8 : p < 8 * P) (hpe : 4 * x + q = nI p) (hfit : fitsF (tkF z 10) (2 * z 0) (nI p) = true) (c : Nat) (hc : c < 10) (hf : zt z c = false) (ha : ∀ j, j < c → zt z j = true) : Rn (d + 2) 50 0 [(0, .ref 4), (1, .int x), (2, .int q)] [] (tOn z s g) n (some (.int (nI c))) (tOn (newZ z c (nI p)) s g) n := by
  refine Rn.steps 3 rfl ?_
  refine Rn.call rfl rfl rfl (t_placeOf (d + 0) n z s g P hP h2 h6 x q) ?_
  rw [hp]
  simp only [cond]
  rw [hpe]
  refine Rn.br 4 rfl (fun hc9 => ?_) (fun hc9 => ?_)
  · exact (nI_no1 (by omega) hc9).elim
  · refine Rn.steps 1 rfl ?_
    refine Rn.call rfl rfl rfl (t_taken (d + 1) n z s g) ?_
    refine Rn.steps 1 rfl ?_
    refine Rn.call rfl rfl rfl (t_horns (d + 1) n z s g) ?_
    refine Rn.steps 1 rfl ?_
    refine Rn.call rfl rfl rfl (m_fits d n _ _ _ _) ?_
    rw [hfit]
    refine Rn.steps 3 rfl ?_
    refine Rn.l5 (by decide) rfl rfl rfl rfl rfl (t_ins_skip d n z s g (nI p) x q c (by omega) ha ?_)
    refine Rn.br 3 rfl (fun hc39 => ?_) (fun hc39 => ?_)
    · exact (nI_ge hc (by omega) hc39).elim
    · refine Rn.steps 3 rfl ?_
      refine Rn.aaldN (m := c) rfl rfl rfl rfl rfl hc (Nat.le_of_ble_eq_true rfl) (crow hc) ?_
      refine Rn.getf rfl rfl (tOn_c hc) rfl ?_
      refine Rn.br 1 rfl (fun hc52 => ?_) (fun hc52 => ?_)
      · refine Rn.steps 3 rfl ?_
        refine Rn.aaldN (m := c) rfl rfl rfl rfl rfl hc (Nat.le_of_ble_eq_true rfl) (crow hc) ?_
        refine Rn.steps 4 rfl ?_
        refine Rn.ialdN (m := 2) rfl rfl rfl (rfl) (by omega) (Nat.le_of_ble_eq_true rfl) ?_
        refine Rn.callO rfl rfl rfl (tOn_c hc) rfl rfl rfl rfl rfl rfl (t_begin (d + 1) n z s g c hc _ _ (nI_no6 (by omega))) ?_
        refine Rn.steps 6 rfl ?_
        refine Rn.ialdN (m := 2) rfl rfl rfl (rfl) (by omega) (Nat.le_of_ble_eq_true rfl) ?_
        refine Rn.steps 2 rfl ?_
        refine Rn.heap tOn_w6 ?_
        refine Rn.steps 1 rfl ?_
        exact Rn.retE rfl rfl rfl rfl (by rw [newZ_beg2])
      · exact absurd (bi_ne0 hc52) (by rw [hf]; decide)
theorem t_tell_0 : Rn (d + 1) 57 0 [(0, .ref 4), (1, .int 0)] [] (tOn z s g) n (some (.int (2 * z 0))) (tOn z s g) n := by
  refine Rn.steps 2 rfl ?_
  refine Rn.steps 1 rfl ?_
  refine Rn.call rfl rfl rfl (t_horns d n z s g) ?_
  exact Rn.retE rfl rfl rfl rfl rfl
theorem t_tell_1 : Rn (d + 1) 57 0 [(0, .ref 4), (1, .int 1)] [] (tOn z s g) n (some (.int (mSet z 10))) (tOn z s g) n := by
  refine Rn.steps 2 rfl ?_
  refine Rn.steps 1 rfl ?_
  refine Rn.call rfl rfl rfl (t_cset d n z s g) ?_
  exact Rn.retE rfl rfl rfl rfl rfl
theorem t_tell_2 : Rn (d + 1) 57 0 [(0, .ref 4), (1, .int 2)] [] (tOn z s g) n (some (.int (z 3))) (tOn z s g) n := by
  refine Rn.steps 2 rfl ?_
  refine Rn.steps 2 rfl ?_
  exact Rn.retE rfl rfl rfl rfl rfl
theorem t_tell_3 : Rn (d + 1) 57 0 [(0, .ref 4), (1, .int 3)] [] (tOn z s g) n (some (.int (z 4))) (tOn z s g) n := by
  refine Rn.steps 2 rfl ?_
  refine Rn.steps 2 rfl ?_
  exact Rn.retE rfl rfl rfl rfl rfl
theorem t_tell_4 : Rn (d + 1) 57 0 [(0, .ref 4), (1, .int 4)] [] (tOn z s g) n (some (.int (z 5))) (tOn z s g) n := by
  refine Rn.steps 2 rfl ?_
  refine Rn.steps 2 rfl ?_
  exact Rn.retE rfl rfl rfl rfl rfl
theorem t_tell_5 : Rn (d + 1) 57 0 [(0, .ref 4), (1, .int 5)] [] (tOn z s g) n (some (.int (z 6))) (tOn z s g) n := by
  refine Rn.steps 2 rfl ?_
  refine Rn.steps 2 rfl ?_
  exact Rn.retE rfl rfl rfl rfl rfl
theorem t_tell_6 : Rn (d + 1) 57 0 [(0, .ref 4), (1, .int 6)] [] (tOn z s g) n (some (.int (z 7))) (tOn z s g) n := by
  refine Rn.steps 2 rfl ?_
  refine Rn.steps 2 rfl ?_
  exact Rn.retE rfl rfl rfl rfl rfl
theorem t_tell_7 : Rn (d + 1) 57 0 [(0, .ref 4), (1, .int 7)] [] (tOn z s g) n (some (.int (mSum z 1 10))) (tOn z s g) n := by
  refine Rn.steps 2 rfl ?_
  refine Rn.steps 1 rfl ?_
  refine Rn.call rfl rfl rfl (t_all d n z s g) ?_
  exact Rn.retE rfl rfl rfl rfl rfl
theorem t_tell_8 : Rn (d + 1) 57 0 [(0, .ref 4), (1, .int 8)] [] (tOn z s g) n (some (.int (z 8))) (tOn z s g) n := by
  refine Rn.steps 2 rfl ?_
  refine Rn.steps 2 rfl ?_
  exact Rn.retE rfl rfl rfl rfl rfl
theorem t_tell_9 : Rn (d + 1) 57 0 [(0, .ref 4), (1, .int 9)] [] (tOn z s g) n (some (.int (z 9))) (tOn z s g) n := by
  refine Rn.steps 2 rfl ?_
  refine Rn.steps 2 rfl ?_
  exact Rn.retE rfl rfl rfl rfl rfl
theorem t_tell_10 : Rn (d + 1) 57 0 [(0, .ref 4), (1, .int 10)] [] (tOn z s g) n (some (.int (z 0))) (tOn z s g) n := by
  refine Rn.steps 2 rfl ?_
  refine Rn.steps 3 rfl ?_
  refine Rn.ialdN (m := 0) rfl rfl rfl (rfl) (by omega) (Nat.le_of_ble_eq_true rfl) ?_
  exact Rn.retE rfl rfl rfl rfl rfl
theorem t_tell_11 : Rn (d + 1) 57 0 [(0, .ref 4), (1, .int 11)] [] (tOn z s g) n (some (.int (z 1))) (tOn z s g) n := by
  refine Rn.steps 2 rfl ?_
  refine Rn.steps 3 rfl ?_
  refine Rn.ialdN (m := 1) rfl rfl rfl (rfl) (by omega) (Nat.le_of_ble_eq_true rfl) ?_
  exact Rn.retE rfl rfl rfl rfl rfl
theorem t_tell_12 : Rn (d + 1) 57 0 [(0, .ref 4), (1, .int 12)] [] (tOn z s g) n (some (.int (z 2))) (tOn z s g) n := by
  refine Rn.steps 2 rfl ?_
  refine Rn.steps 3 rfl ?_
  refine Rn.ialdN (m := 2) rfl rfl rfl (rfl) (by omega) (Nat.le_of_ble_eq_true rfl) ?_
  exact Rn.retE rfl rfl rfl rfl rfl
end CLASS4
