/-! the class's track: what its methods change -/
def tN (p : Nat) : Nat := 4 * (p / 4) + (p + (if p / 4 % 2 = 0 then 1 else 3)) % 4
def oN (P p : Nat) : Nat := if p % 4 = 0 then 4 * ((p / 4 + 1) % (2 * P)) + 2 else if p % 4 = 2 then 4 * ((p / 4 + 2 * P - 1) % (2 * P)) else p
def placeB (P p : Nat) : Bool := decide (t32 (nI p) = nI (tN p)) && (decide (o32 (2 * nI P) (nI p) = nI (oN P p)) && (decide (pF (2 * nI P) (nI p) = nI (oN P p)) && (Nat.blt (tN p) (8 * P) && Nat.blt (oN P p) (8 * P))))
theorem place_all : ((List.range 7).all fun P => (List.range 48).all fun p => !(Nat.ble 2 P && Nat.blt p (8 * P)) || placeB P p) = true := by decide +kernel
theorem place_ok {P p : Nat} (h2 : 2 ≤ P) (h6 : P ≤ 6) (hp : p < 8 * P) : t32 (nI p) = nI (tN p) ∧ o32 (2 * nI P) (nI p) = nI (oN P p) ∧ pF (2 * nI P) (nI p) = nI (oN P p) ∧ tN p < 8 * P ∧ oN P p < 8 * P := by
  have h := List.all_eq_true.mp (List.all_eq_true.mp place_all P (List.mem_range.mpr (by omega))) p (List.mem_range.mpr (by omega))
  rw [Nat.ble_eq_true_of_le h2, show Nat.blt p (8 * P) = true from Nat.ble_eq_true_of_le hp] at h
  have h3 : placeB P p = true := h
  unfold placeB at h3
  simp only [Bool.and_eq_true, decide_eq_true_eq] at h3
  exact ⟨h3.1, h3.2.1, h3.2.2.1, Nat.le_of_ble_eq_true h3.2.2.2.1, Nat.le_of_ble_eq_true h3.2.2.2.2⟩
theorem nI_no6 {p : Nat} (hp : p < 48) : ¬ nI p = -6 := by
  intro h
  have h2 : ∀ q, q < 48 → ¬ nI q = -6 := by decide
  exact h2 p hp h
/-- carriers are in places of the track -/
def In (z : Nat → Int32) (P : Nat) : Prop := ∀ c, c < 10 → zt z c = true → ∃ q, q < 8 * P ∧ z (10 + 7 * c) = nI q
theorem xup_same {h : xHp} {k : Nat} {c : xLC} : xup h k c k = c := if_pos rfl
theorem xup_xup {h : xHp} {k : Nat} {c e : xLC} : xup (xup h k c) k e = xup h k e := by
  funext j
  unfold xup
  by_cases hj : j = k
  · rw [if_pos hj, if_pos hj]
  · rw [if_neg hj, if_neg hj, if_neg hj]
def begZ (z : Nat → Int32) (c : Nat) (p e : Int32) : Nat → Int32 := upd (upd (layN z c 7) (10 + 7 * c) p) (10 + 7 * c + 1) e
theorem layN_in {z : Nat → Int32} {c j : Nat} (h : 10 + 7 * c ≤ j ∧ j < 10 + 7 * c + 7) : layN z c 7 j = 0 := if_pos h
theorem layN_out {z : Nat → Int32} {c j : Nat} (h : j < 10 + 7 * c ∨ 10 + 7 * c + 7 ≤ j) : layN z c 7 j = z j := if_neg (by omega)
theorem begZ_cf {z s : Nat → Int32} {c : Nat} {p e : Int32} (hp : ¬ p = -6) : [.int 1, .int p, .int e, .int 0, .int 0, .int 0, .int 0] = cf (begZ z c p e) s c := by
  have hz : zt (begZ z c p e) c = true := by
    unfold zt begZ
    rw [upd_ne (by omega), upd_eq]
    exact decide_eq_true hp
  unfold cf
  rw [hz]
  unfold begZ
  rw [upd_ne (by omega : ¬ 10 + 7 * c = 10 + 7 * c + 1), upd_eq (f := layN z c 7), upd_eq, upd_ne (by omega : ¬ 10 + 7 * c + 2 = 10 + 7 * c + 1), upd_ne (by omega : ¬ 10 + 7 * c + 2 = 10 + 7 * c), upd_ne (by omega : ¬ 10 + 7 * c + 3 = 10 + 7 * c + 1), upd_ne (by omega : ¬ 10 + 7 * c + 3 = 10 + 7 * c), upd_ne (by omega : ¬ 10 + 7 * c + 4 = 10 + 7 * c + 1), upd_ne (by omega : ¬ 10 + 7 * c + 4 = 10 + 7 * c), upd_ne (by omega : ¬ 10 + 7 * c + 5 = 10 + 7 * c + 1), upd_ne (by omega : ¬ 10 + 7 * c + 5 = 10 + 7 * c), layN_in (by omega), layN_in (by omega), layN_in (by omega), layN_in (by omega)]
  rfl
theorem newZ_beg (z : Nat → Int32) (c : Nat) (p : Int32) : newZ z c p = upd (begZ z c p (z 2)) 7 (z 7 + z 2) := by
  unfold newZ fillZ begZ
  rw [Nat.add_zero]
  rw [upd_ne (f := upd (layN z c 7) (10 + 7 * c) p) (by omega : ¬ 7 = 10 + 7 * c + 1), upd_ne (f := upd (layN z c 7) (10 + 7 * c) p) (by omega : ¬ 2 = 10 + 7 * c + 1), upd_ne (f := layN z c 7) (by omega : ¬ 7 = 10 + 7 * c), upd_ne (f := layN z c 7) (by omega : ¬ 2 = 10 + 7 * c), layN_out (by omega), layN_out (by omega)]
section CLASS3
variable (d n : Nat) (z s : Nat → Int32) (g : xHp)
theorem t_begin (c : Nat) (hc : c < 10) (p e : Int32) (hp : ¬ p = -6) : Rn d 1 0 [(0, .ref (7 + c)), (1, .int p), (2, .int e)] [] (tOn z s g) n none (tOn (begZ z c p e) s g) n := by
  refine Rn.steps 2 rfl ?_
  refine Rn.putf rfl rfl (tOn_c hc) rfl rfl ?_
  refine Rn.steps 2 rfl ?_
  refine Rn.putf rfl rfl xup_same rfl rfl ?_
  rw [xup_xup]
  refine Rn.steps 2 rfl ?_
  refine Rn.putf rfl rfl xup_same rfl rfl ?_
  rw [xup_xup]
  refine Rn.steps 2 rfl ?_
  refine Rn.putf rfl rfl xup_same rfl rfl ?_
  rw [xup_xup]
  refine Rn.steps 2 rfl ?_
  refine Rn.putf rfl rfl xup_same rfl rfl ?_
  rw [xup_xup]
  refine Rn.steps 2 rfl ?_
  refine Rn.putf rfl rfl xup_same rfl rfl ?_
  rw [xup_xup]
  refine Rn.steps 2 rfl ?_
  refine Rn.putf rfl rfl xup_same rfl rfl ?_
  rw [xup_xup]
  exact Rn.retE rfl rfl rfl rfl (tOn_car hc (fun j hj => by unfold begZ; rw [upd_ne (by omega), upd_ne (by omega), layN_out hj]) (fun _ _ => rfl) (begZ_cf hp))
theorem zt_ne {z : Nat → Int32} {c k : Nat} {x : Int32} (h : ¬ 10 + 7 * c = k) : zt (upd z k x) c = zt z c := by unfold zt; rw [upd_ne h]
theorem upd_add0 {z : Nat → Int32} {k : Nat} : upd z k (z k + 0) = z := by rw [Int32.add_zero, upd_id]
/-- what a carrier's move makes of the state -/
def mvZ (hn : Int32) (z : Nat → Int32) (c : Nat) (p x y : Int32) : Nat → Int32 := sx5 (sx4 (upd (sx2 (sx1 z c x) c y) (10 + 7 * c) (pF hn p)) c) c
theorem t_move (c : Nat) (hc : c < 10) (hz : zt z c = true) (hn : Int32) (hx : ¬ pF hn (t32 (z (10 + 7 * c))) = -6) : Rn (d + 1) 5 0 [(0, .ref (7 + c)), (1, .int hn)] [] (tOn z s g) n none (tOn (mvZ hn z c (t32 (z (10 + 7 * c))) (if rm (t32 (z (10 + 7 * c))) 4 = 1 then 1 else 0) (if rm (t32 (z (10 + 7 * c))) 4 = 3 then 1 else 0)) s g) n := by
  by_cases q1 : rm (t32 (z (10 + 7 * c))) 4 = 1
  · have e1 : mvZ hn z c (t32 (z (10 + 7 * c))) (if rm (t32 (z (10 + 7 * c))) 4 = 1 then 1 else 0) (if rm (t32 (z (10 + 7 * c))) 4 = 3 then 1 else 0) = sx5 (sx4 (upd (sx1 z c 1) (10 + 7 * c) (pF hn (t32 (z (10 + 7 * c))))) c) c := by
      rw [if_pos q1, if_neg (by rw [q1]; decide)]
      unfold mvZ sx2
      rw [upd_add0]
    have hz1 : zt (upd z (10 + 7 * c + 3) (z (10 + 7 * c + 3) + 1)) c = true := by rw [zt_ne (by omega)]; exact hz
    refine Rn.steps 1 rfl ?_
    refine Rn.getf rfl rfl (tOn_c hc) (cf_p hz) ?_
    refine Rn.call rfl rfl rfl (m_turned d n _ _) ?_
    refine Rn.steps 4 rfl ?_
    refine Rn.lsw rfl rfl (off := 25) (by show Op.lookupswitch.offset _ _ (rm (t32 (z (10 + 7 * c))) 4).toInt = _; rw [q1]; rfl) 36 rfl ?_
    refine Rn.steps 2 rfl ?_
    refine Rn.getf rfl rfl (tOn_c hc) rfl ?_
    refine Rn.steps 2 rfl ?_
    refine Rn.putf rfl rfl (tOn_c hc) rfl rfl ?_
    refine Rn.heap (tOn_p4 hc) ?_
    refine Rn.steps 4 rfl ?_
    refine Rn.call rfl rfl rfl (m_passed d n _ _ _) ?_
    refine Rn.putf rfl rfl (tOn_c hc) rfl rfl ?_
    refine Rn.heap (tOn_p1 hc hz1 hx) ?_
    refine Rn.steps 2 rfl ?_
    refine Rn.getf rfl rfl (tOn_c hc) rfl ?_
    refine Rn.steps 2 rfl ?_
    refine Rn.putf rfl rfl (tOn_c hc) rfl rfl ?_
    refine Rn.heap (tOn_p2 hc) ?_
    refine Rn.steps 2 rfl ?_
    refine Rn.getf rfl rfl (tOn_c hc) rfl ?_
    refine Rn.steps 2 rfl ?_
    refine Rn.putf rfl rfl (tOn_c hc) rfl rfl ?_
    refine Rn.heap (tOn_p6 hc) ?_
    exact Rn.retE rfl rfl rfl rfl (by rw [e1]; rfl)
  · by_cases q3 : rm (t32 (z (10 + 7 * c))) 4 = 3
    · have e1 : mvZ hn z c (t32 (z (10 + 7 * c))) (if rm (t32 (z (10 + 7 * c))) 4 = 1 then 1 else 0) (if rm (t32 (z (10 + 7 * c))) 4 = 3 then 1 else 0) = sx5 (sx4 (upd (sx2 z c 1) (10 + 7 * c) (pF hn (t32 (z (10 + 7 * c))))) c) c := by
        rw [if_neg q1, if_pos q3]
        unfold mvZ sx1
        rw [upd_add0]
      have hz2 : zt (upd z (10 + 7 * c + 4) (z (10 + 7 * c + 4) + 1)) c = true := by rw [zt_ne (by omega)]; exact hz
      refine Rn.steps 1 rfl ?_
      refine Rn.getf rfl rfl (tOn_c hc) (cf_p hz) ?_
      refine Rn.call rfl rfl rfl (m_turned d n _ _) ?_
      refine Rn.steps 4 rfl ?_
      refine Rn.lsw rfl rfl (off := 38) (by show Op.lookupswitch.offset _ _ (rm (t32 (z (10 + 7 * c))) 4).toInt = _; rw [q3]; rfl) 49 rfl ?_
      refine Rn.steps 2 rfl ?_
      refine Rn.getf rfl rfl (tOn_c hc) rfl ?_
      refine Rn.steps 2 rfl ?_
      refine Rn.putf rfl rfl (tOn_c hc) rfl rfl ?_
      refine Rn.heap (tOn_p5 hc) ?_
      refine Rn.steps 4 rfl ?_
      refine Rn.call rfl rfl rfl (m_passed d n _ _ _) ?_
      refine Rn.putf rfl rfl (tOn_c hc) rfl rfl ?_
      refine Rn.heap (tOn_p1 hc hz2 hx) ?_
      refine Rn.steps 2 rfl ?_
      refine Rn.getf rfl rfl (tOn_c hc) rfl ?_
      refine Rn.steps 2 rfl ?_
      refine Rn.putf rfl rfl (tOn_c hc) rfl rfl ?_
      refine Rn.heap (tOn_p2 hc) ?_
      refine Rn.steps 2 rfl ?_
      refine Rn.getf rfl rfl (tOn_c hc) rfl ?_
      refine Rn.steps 2 rfl ?_
      refine Rn.putf rfl rfl (tOn_c hc) rfl rfl ?_
      refine Rn.heap (tOn_p6 hc) ?_
      exact Rn.retE rfl rfl rfl rfl (by rw [e1]; rfl)
    · have e1 : mvZ hn z c (t32 (z (10 + 7 * c))) (if rm (t32 (z (10 + 7 * c))) 4 = 1 then 1 else 0) (if rm (t32 (z (10 + 7 * c))) 4 = 3 then 1 else 0) = sx5 (sx4 (upd z (10 + 7 * c) (pF hn (t32 (z (10 + 7 * c))))) c) c := by
        rw [if_neg q1, if_neg q3]
        unfold mvZ sx2 sx1
        rw [upd_add0, upd_add0]
      refine Rn.steps 1 rfl ?_
      refine Rn.getf rfl rfl (tOn_c hc) (cf_p hz) ?_
      refine Rn.call rfl rfl rfl (m_turned d n _ _) ?_
      refine Rn.steps 4 rfl ?_
      refine Rn.lsw rfl rfl (off := 51) (lsw2 (tI_ne (y := 1) q1) (tI_ne (y := 3) q3)) 62 rfl ?_
      refine Rn.steps 3 rfl ?_
      refine Rn.call rfl rfl rfl (m_passed d n _ _ _) ?_
      refine Rn.putf rfl rfl (tOn_c hc) rfl rfl ?_
      refine Rn.heap (tOn_p1 hc hz hx) ?_
      refine Rn.steps 2 rfl ?_
      refine Rn.getf rfl rfl (tOn_c hc) rfl ?_
      refine Rn.steps 2 rfl ?_
      refine Rn.putf rfl rfl (tOn_c hc) rfl rfl ?_
      refine Rn.heap (tOn_p2 hc) ?_
      refine Rn.steps 2 rfl ?_
      refine Rn.getf rfl rfl (tOn_c hc) rfl ?_
      refine Rn.steps 2 rfl ?_
      refine Rn.putf rfl rfl (tOn_c hc) rfl rfl ?_
      refine Rn.heap (tOn_p6 hc) ?_
      exact Rn.retE rfl rfl rfl rfl (by rw [e1]; rfl)
end CLASS3
