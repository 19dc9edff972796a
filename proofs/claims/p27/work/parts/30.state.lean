/-! the object's state as the law sees it: X the script's cell, c changes that can be undone, z the track, t the state before the latest change, u0 u1 what the slots hold -/
def up (c : Nat) : Nat := if c < 6 then c + 1 else 6
def UK (u : Option (Nat → Int32)) (sv : Int32) (Zk : Nat → Int32) : Prop := match u with | none => sv = 0 | some w => ¬ sv = 0 ∧ E80 Zk w ∧ Fl w
def KQ (c : Nat) (t : Nat → Int32) (u0 u1 : Option (Nat → Int32)) (R R2 : Nat → Option Nat) (hr : Nat → Nat) (Z S : Nat → Nat → Int32) (sv : Nat → Int32) (q : xHp) : Prop :=
  c ≤ 6 ∧ HR R hr ∧ (∀ i j, i < 7 → j < 7 → hr i = hr j → i = j) ∧ (R2 0 = some (bs 8) ∧ R2 1 = some (bs 9)) ∧ Hq q Z S ∧ q 1 = .inl (0, 3, .inl xlo) ∧ q 2 = .inl (0, 3, .inl xhi) ∧ (∀ i, i < c → Fl (Z (hr i))) ∧ (0 < c → E80 (Z (hr (c - 1))) t) ∧ UK u0 (sv 0) (Z 8) ∧ UK u1 (sv 1) (Z 9)
def ST (X : xLC) (c : Nat) (z t : Nat → Int32) (u0 u1 : Option (Nat → Int32)) (h : xHp) : Prop := ∃ p R R2 hr Z S s sv q, h = FF p 0 (nI c) R R2 sv z s q ∧ q 0 = X ∧ KQ c t u0 u1 R R2 hr Z S sv q
def hr2 (c : Nat) (hr : Nat → Nat) : Nat → Nat := fun i => if c < 6 then hr i else if i < 6 then hr (i + 1) else hr 0
theorem Fl.e80 {a b : Nat → Int32} (h : Fl b) (e : E80 a b) : Fl a := fun c hc => by rw [e (10 + 7 * c + 2) (by omega)]; exact h c hc
theorem E80.rf (a : Nat → Int32) : E80 a a := fun _ _ => rfl
theorem rc_up {r : Int32} {c : Nat} (hc : c ≤ 6) (h : ¬ r < 0) : rcC r c = up c := by
  unfold rcC up
  rw [if_neg h]
  by_cases g : c < 6
  · rw [if_pos g, if_pos g]
  · rw [if_neg g, if_neg g]; omega
theorem rc_neg {r : Int32} {c : Nat} {R : Nat → Option Nat} (h : r < 0) : rcC r c = c ∧ rcR r c R = R := ⟨if_pos h, if_pos h⟩
theorem Rn.val {d i pc : Nat} {ls : xLs} {st : List Value} {h h' : xHp} {n n' : Nat} {v v' : Int32} (e : v = v') (kk : Rn d i pc ls st h n (some (.int v)) h' n') : Rn d i pc ls st h n (some (.int v')) h' n' := e ▸ kk
section STATE
variable {c : Nat} {t : Nat → Int32} {u0 u1 : Option (Nat → Int32)} {R R2 : Nat → Option Nat} {hr : Nat → Nat} {Z S : Nat → Nat → Int32} {sv : Nat → Int32} {q : xHp}
theorem hb3 (h : HR R hr) (hc : c ≤ 6) : 3 ≤ bs (hr c) := by
  obtain ⟨x1, x2, x3⟩ := h c (by omega)
  have hb := bs_in x2 (by omega : hr c < 10)
  omega
theorem KQ.err (K : KQ c t u0 u1 R R2 hr Z S sv q) (z1 s1 : Nat → Int32) : KQ c t u0 u1 R R2 hr (va_up Z (hr c) z1) (va_up S (hr c) s1) sv (tAt (bs (hr c)) z1 s1 q) := by
  obtain ⟨k1, k2, k3, k4, k5, k6, k7, k8, k9, k10, k11⟩ := K
  obtain ⟨e1, e2, e3⟩ := k2 c (by omega)
  have hb := bs_in e2 (by omega : hr c < 10)
  have hne : ∀ i, i < c → ¬ hr i = hr c := fun i hi x => by have := k3 i c (by omega) (by omega) x; omega
  refine ⟨k1, k2, k3, k4, Hq_at k5 e2 (by omega), (tAt_lo (by omega) (by omega)).trans k6, (tAt_lo (by omega) (by omega)).trans k7, fun i hi => ?_, fun h0 => ?_, ?_, ?_⟩
  · rw [vz_up (hne i hi)]; exact k8 i hi
  · rw [vz_up (hne (c - 1) (by omega))]; exact k9 h0
  · rw [vz_up (show ¬ 8 = hr c by omega)]; exact k10
  · rw [vz_up (show ¬ 9 = hr c by omega)]; exact k11
theorem KQ.ok (K : KQ c t u0 u1 R R2 hr Z S sv q) {r : Int32} (h0 : ¬ r < 0) {z1 : Nat → Int32} (s1 : Nat → Int32) (hf : Fl z1) : KQ (up c) z1 u0 u1 (rcR r c R) R2 (hr2 c hr) (va_up Z (hr c) z1) (va_up S (hr c) s1) sv (tAt (bs (hr c)) z1 s1 q) := by
  have K2 := K.err z1 s1
  obtain ⟨k1, k2, k3, k4, k5, k6, k7, k8, k9, k10, k11⟩ := K
  obtain ⟨_, _, _, _, u5, u6, u7, u8, u9, u10, u11⟩ := K2
  by_cases h6 : c < 6
  · have ec : up c = c + 1 := if_pos h6
    have eR : rcR r c R = R := by unfold rcR; rw [if_neg h0, if_pos h6]
    have eh : hr2 c hr = hr := by funext i; unfold hr2; rw [if_pos h6]
    rw [ec, eR, eh]
    refine ⟨by omega, k2, k3, k4, u5, u6, u7, fun i hi => ?_, fun _ => ?_, u10, u11⟩
    · by_cases e : i = c
      · subst e; rw [va_up_self]; exact hf
      · exact u8 i (by omega)
    · rw [show c + 1 - 1 = c by omega, va_up_self]
      exact E80.rf _
  · have e6 : c = 6 := by omega
    subst e6
    have ec : up 6 = 6 := rfl
    have eR : rcR r 6 R = rotR R := by unfold rcR; rw [if_neg h0, if_neg h6]
    have eh : ∀ i, hr2 6 hr i = if i < 6 then hr (i + 1) else hr 0 := fun i => by unfold hr2; rw [if_neg (by omega)]
    rw [ec, eR]
    refine ⟨by omega, fun i hi => ?_, fun i j hi hj x => ?_, k4, u5, u6, u7, fun i hi => ?_, fun _ => ?_, u10, u11⟩
    · rw [eh]
      by_cases e : i < 6
      · rw [if_pos e]
        have k := k2 (i + 1) (by omega)
        refine ⟨?_, k.2⟩
        unfold rotR
        rw [vz_up (by omega)]
        show (if i < 6 then R (i + 1) else R i) = _
        rw [if_pos e]
        exact k.1
      · rw [if_neg e]
        have k := k2 0 (by omega)
        refine ⟨?_, k.2⟩
        rw [show i = 6 by omega]
        exact k.1
    · rw [eh, eh] at x
      by_cases e : i < 6
      · rw [if_pos e] at x
        by_cases g : j < 6
        · rw [if_pos g] at x
          have := k3 _ _ (by omega) (by omega) x
          omega
        · rw [if_neg g] at x
          have := k3 _ _ (by omega) (by omega) x
          omega
      · rw [if_neg e] at x
        by_cases g : j < 6
        · rw [if_pos g] at x
          have := k3 _ _ (by omega) (by omega) x
          omega
        · omega
    · rw [eh, if_pos hi]
      by_cases e : i = 5
      · subst e
        show Fl (va_up Z (hr 6) z1 (hr 6))
        rw [va_up_self]
        exact hf
      · exact u8 (i + 1) (by omega)
    · show E80 (va_up Z (hr 6) z1 (hr2 6 hr 5)) z1
      rw [eh, if_pos (by omega)]
      show E80 (va_up Z (hr 6) z1 (hr 6)) z1
      rw [va_up_self]
      exact E80.rf _
end STATE
section CALLS
variable {X : xLC} {c : Nat} {z t : Nat → Int32} {u0 u1 : Option (Nat → Int32)} {h : xHp}
theorem ST.h3 (hS : ST X c z t u0 u1 h) : ∃ fs, h 3 = .inr (3, fs) := by
  obtain ⟨p, R, R2, hr, Z, S, s, sv, q, rfl, hX, K⟩ := hS
  exact ⟨_, rfl⟩
theorem ST.h0 (hS : ST X c z t u0 u1 h) : h 0 = X := by
  obtain ⟨p, R, R2, hr, Z, S, s, sv, q, rfl, hX, K⟩ := hS
  exact (FF_q (Or.inl (by omega))).trans hX
theorem ST.c6 (hS : ST X c z t u0 u1 h) : c ≤ 6 := by
  obtain ⟨p, R, R2, hr, Z, S, s, sv, q, rfl, hX, K⟩ := hS
  exact K.1
theorem G_of {p : Nat → Int32} {ch : Int32} {R R2 : Nat → Option Nat} {sv : Nat → Int32} {q : xHp} {k : Nat} {C : xLC} (hk : k < 3) (hq : q k = C) (ln : Int32) : (pOn p ln (bO ch R R2 sv q)) k = C := by
  rw [pOn_out (by omega), bO_out (by omega) (by omega) (by omega) (by omega)]
  exact hq
variable (d n : Nat)
theorem k_of_bad (hS : ST X c z t u0 u1 h) (x y : Int32) (hx : isC z x = false) : Rn (d + 2) 68 0 [(0, .ref 3), (1, .int x), (2, .int y)] [] h n (some (.int (-1))) h n := by
  obtain ⟨p, R, R2, hr, Z, S, s, sv, q, rfl, hX, K⟩ := hS
  exact b_of_bad d n x y hx
theorem k_of_0 (hS : ST X c z t u0 u1 h) (e : Nat) (he : e < 10) (hz : zt z e = true) : Rn (d + 2) 68 0 [(0, .ref 3), (1, .int (nI e)), (2, .int 0)] [] h n (some (.int (z (10 + 7 * e) / 4))) h n := by
  obtain ⟨p, R, R2, hr, Z, S, s, sv, q, rfl, hX, K⟩ := hS
  exact b_of_0 d n e he hz
theorem k_of_1 (hS : ST X c z t u0 u1 h) (e : Nat) (he : e < 10) (hz : zt z e = true) : Rn (d + 2) 68 0 [(0, .ref 3), (1, .int (nI e)), (2, .int 1)] [] h n (some (.int (rm (z (10 + 7 * e)) 4))) h n := by
  obtain ⟨p, R, R2, hr, Z, S, s, sv, q, rfl, hX, K⟩ := hS
  exact b_of_1 d n e he hz
theorem k_of_2 (hS : ST X c z t u0 u1 h) (e : Nat) (he : e < 10) (hz : zt z e = true) : Rn (d + 2) 68 0 [(0, .ref 3), (1, .int (nI e)), (2, .int 2)] [] h n (some (.int (z (10 + 7 * e + 1)))) h n := by
  obtain ⟨p, R, R2, hr, Z, S, s, sv, q, rfl, hX, K⟩ := hS
  exact b_of_2 d n e he hz
theorem k_of_3 (hS : ST X c z t u0 u1 h) (hf : Fl z) (e : Nat) (he : e < 10) (hz : zt z e = true) : Rn (d + 2) 68 0 [(0, .ref 3), (1, .int (nI e)), (2, .int 3)] [] h n (some (.int (z (10 + 7 * e + 2)))) h n := by
  obtain ⟨p, R, R2, hr, Z, S, s, sv, q, rfl, hX, K⟩ := hS
  exact b_of_3 d n e he hz hf
theorem k_of_4 (hS : ST X c z t u0 u1 h) (e : Nat) (he : e < 10) (hz : zt z e = true) : Rn (d + 2) 68 0 [(0, .ref 3), (1, .int (nI e)), (2, .int 4)] [] h n (some (.int (z (10 + 7 * e + 3)))) h n := by
  obtain ⟨p, R, R2, hr, Z, S, s, sv, q, rfl, hX, K⟩ := hS
  exact b_of_4 d n e he hz
theorem k_of_5 (hS : ST X c z t u0 u1 h) (e : Nat) (he : e < 10) (hz : zt z e = true) : Rn (d + 2) 68 0 [(0, .ref 3), (1, .int (nI e)), (2, .int 5)] [] h n (some (.int (z (10 + 7 * e + 4)))) h n := by
  obtain ⟨p, R, R2, hr, Z, S, s, sv, q, rfl, hX, K⟩ := hS
  exact b_of_5 d n e he hz
theorem k_of_6 (hS : ST X c z t u0 u1 h) (e : Nat) (he : e < 10) (hz : zt z e = true) : Rn (d + 2) 68 0 [(0, .ref 3), (1, .int (nI e)), (2, .int 6)] [] h n (some (.int (z (10 + 7 * e + 5)))) h n := by
  obtain ⟨p, R, R2, hr, Z, S, s, sv, q, rfl, hX, K⟩ := hS
  exact b_of_6 d n e he hz
theorem k_of_7 (hS : ST X c z t u0 u1 h) (e : Nat) (he : e < 10) (hz : zt z e = true) : Rn (d + 2) 68 0 [(0, .ref 3), (1, .int (nI e)), (2, .int 7)] [] h n (some (.int (bi (guF (z (10 + 7 * e)))))) h n := by
  obtain ⟨p, R, R2, hr, Z, S, s, sv, q, rfl, hX, K⟩ := hS
  exact b_of_7 d n e he hz
theorem k_of_out (hS : ST X c z t u0 u1 h) (e : Nat) (he : e < 10) (hz : zt z e = true) (y : Int32) (hy : y.toInt < 0 ∨ 7 < y.toInt) : Rn (d + 2) 68 0 [(0, .ref 3), (1, .int (nI e)), (2, .int y)] [] h n (some (.int (-2))) h n := by
  obtain ⟨p, R, R2, hr, Z, S, s, sv, q, rfl, hX, K⟩ := hS
  exact b_of_out d n e he hz y hy
theorem k_at_bad (hS : ST X c z t u0 u1 h) {P : Nat} (hG : GP z P) (x y : Int32) (hp : isPl (2 * z 0) x y = false) : Rn (d + 2) 69 0 [(0, .ref 3), (1, .int x), (2, .int y)] [] h n (some (.int (-1))) h n := by
  obtain ⟨p, R, R2, hr, Z, S, s, sv, q, rfl, hX, K⟩ := hS
  exact b_at_bad d n P hG.1 hG.2.1 hG.2.2.1 x y hp
theorem k_at (hS : ST X c z t u0 u1 h) {P : Nat} (hG : GP z P) (x y : Int32) (hp : isPl (2 * z 0) x y = true) (e : Nat) (he : e < 48) (hxy : 4 * x + y = nI e) : Rn (d + 2) 69 0 [(0, .ref 3), (1, .int x), (2, .int y)] [] h n (some (.int (fIn z (nI e) 10 0))) h n := by
  obtain ⟨p, R, R2, hr, Z, S, s, sv, q, rfl, hX, K⟩ := hS
  exact b_at d n P hG.1 hG.2.1 hG.2.2.1 x y hp e he hxy
theorem k_around (hS : ST X c z t u0 u1 h) {P : Nat} (hG : GP z P) (l0 : Int32) : Rn (d + 2) 70 0 [(0, .ref 3), (1, .int l0)] [] h n (some (.int (arF z (8 * P) l0 0))) h n := by
  obtain ⟨p, R, R2, hr, Z, S, s, sv, q, rfl, hX, K⟩ := hS
  exact b_around d n P hG.1 hG.2.2.1 l0
theorem k_count_0 (hS : ST X c z t u0 u1 h) : Rn (d + 2) 71 0 [(0, .ref 3), (1, .int 0)] [] h n (some (.int (2 * z 0))) h n := by
  obtain ⟨p, R, R2, hr, Z, S, s, sv, q, rfl, hX, K⟩ := hS
  exact b_count_0 d n
theorem k_count_1 (hS : ST X c z t u0 u1 h) : Rn (d + 2) 71 0 [(0, .ref 3), (1, .int 1)] [] h n (some (.int (mSet z 10))) h n := by
  obtain ⟨p, R, R2, hr, Z, S, s, sv, q, rfl, hX, K⟩ := hS
  exact b_count_1 d n
theorem k_count_2 (hS : ST X c z t u0 u1 h) : Rn (d + 2) 71 0 [(0, .ref 3), (1, .int 2)] [] h n (some (.int (z 3))) h n := by
  obtain ⟨p, R, R2, hr, Z, S, s, sv, q, rfl, hX, K⟩ := hS
  exact b_count_2 d n
theorem k_count_3 (hS : ST X c z t u0 u1 h) : Rn (d + 2) 71 0 [(0, .ref 3), (1, .int 3)] [] h n (some (.int (z 4))) h n := by
  obtain ⟨p, R, R2, hr, Z, S, s, sv, q, rfl, hX, K⟩ := hS
  exact b_count_3 d n
theorem k_count_4 (hS : ST X c z t u0 u1 h) : Rn (d + 2) 71 0 [(0, .ref 3), (1, .int 4)] [] h n (some (.int (z 5))) h n := by
  obtain ⟨p, R, R2, hr, Z, S, s, sv, q, rfl, hX, K⟩ := hS
  exact b_count_4 d n
theorem k_count_5 (hS : ST X c z t u0 u1 h) : Rn (d + 2) 71 0 [(0, .ref 3), (1, .int 5)] [] h n (some (.int (z 6))) h n := by
  obtain ⟨p, R, R2, hr, Z, S, s, sv, q, rfl, hX, K⟩ := hS
  exact b_count_5 d n
theorem k_count_6 (hS : ST X c z t u0 u1 h) : Rn (d + 2) 71 0 [(0, .ref 3), (1, .int 6)] [] h n (some (.int (z 7))) h n := by
  obtain ⟨p, R, R2, hr, Z, S, s, sv, q, rfl, hX, K⟩ := hS
  exact b_count_6 d n
theorem k_count_7 (hS : ST X c z t u0 u1 h) : Rn (d + 2) 71 0 [(0, .ref 3), (1, .int 7)] [] h n (some (.int (mSum z 1 10))) h n := by
  obtain ⟨p, R, R2, hr, Z, S, s, sv, q, rfl, hX, K⟩ := hS
  exact b_count_7 d n
theorem k_count_8 (hS : ST X c z t u0 u1 h) : Rn (d + 2) 71 0 [(0, .ref 3), (1, .int 8)] [] h n (some (.int (z 8))) h n := by
  obtain ⟨p, R, R2, hr, Z, S, s, sv, q, rfl, hX, K⟩ := hS
  exact b_count_8 d n
theorem k_count_9 (hS : ST X c z t u0 u1 h) : Rn (d + 2) 71 0 [(0, .ref 3), (1, .int 9)] [] h n (some (.int (z 9))) h n := by
  obtain ⟨p, R, R2, hr, Z, S, s, sv, q, rfl, hX, K⟩ := hS
  exact b_count_9 d n
theorem k_count_10 (hS : ST X c z t u0 u1 h) : Rn (d + 2) 71 0 [(0, .ref 3), (1, .int 10)] [] h n (some (.int (z 0))) h n := by
  obtain ⟨p, R, R2, hr, Z, S, s, sv, q, rfl, hX, K⟩ := hS
  exact b_count_10 d n
theorem k_count_11 (hS : ST X c z t u0 u1 h) : Rn (d + 2) 71 0 [(0, .ref 3), (1, .int 11)] [] h n (some (.int (z 1))) h n := by
  obtain ⟨p, R, R2, hr, Z, S, s, sv, q, rfl, hX, K⟩ := hS
  exact b_count_11 d n
theorem k_count_12 (hS : ST X c z t u0 u1 h) : Rn (d + 2) 71 0 [(0, .ref 3), (1, .int 12)] [] h n (some (.int (z 2))) h n := by
  obtain ⟨p, R, R2, hr, Z, S, s, sv, q, rfl, hX, K⟩ := hS
  exact b_count_12 d n
theorem k_count_14 (hS : ST X c z t u0 u1 h) : Rn (d + 2) 71 0 [(0, .ref 3), (1, .int 14)] [] h n (some (.int (nI c))) h n := by
  obtain ⟨p, R, R2, hr, Z, S, s, sv, q, rfl, hX, K⟩ := hS
  exact b_count_14 d n
theorem k_count_out (hS : ST X c z t u0 u1 h) (y : Int32) (hy : y.toInt < 0 ∨ 14 < y.toInt) : Rn (d + 2) 71 0 [(0, .ref 3), (1, .int y)] [] h n (some (.int (-2))) h n := by
  obtain ⟨p, R, R2, hr, Z, S, s, sv, q, rfl, hX, K⟩ := hS
  exact b_count_out d n y hy
theorem k_why (hS : ST X c z t u0 u1 h) (hf : Fl z) : Rn (d + 3) 72 0 [(0, .ref 3)] [] h n (some (.int (hiF z))) h n := by
  obtain ⟨p, R, R2, hr, Z, S, s, sv, q, rfl, hX, K⟩ := hS
  exact b_why d n hf K.2.2.2.2.2.2.1
theorem k_me_bad (hS : ST X c z t u0 u1 h) (y : Int32) (hy : decide (0 ≤ y ∧ y ≤ 3) = false) : Rn (d + 4) 73 0 [(0, .ref 3), (1, .int y)] [] h n (some (.int (-2))) h n := by
  obtain ⟨p, R, R2, hr, Z, S, s, sv, q, rfl, hX, K⟩ := hS
  exact b_me_bad d n y hy
theorem k_me_0 (hS : ST X c z t u0 u1 h) : Rn (d + 4) 73 0 [(0, .ref 3), (1, .int 0)] [] h n (some (.int (meF z))) h n := by
  obtain ⟨p, R, R2, hr, Z, S, s, sv, q, rfl, hX, K⟩ := hS
  exact b_me_0 d n
theorem k_per (hS : ST X c z t u0 u1 h) (hz : ¬ tkF z 10 = 0) : Rn (d + 4) 76 0 [(0, .ref 3)] [] h n (some (.int (fR (tkF z 10) (2 * z 0) 100 1 (tkF z 10)))) h n := by
  obtain ⟨p, R, R2, hr, Z, S, s, sv, q, rfl, hX, K⟩ := hS
  exact b_per d n hz
theorem k_lasts (hS : ST X c z t u0 u1 h) {P : Nat} (hG : GP z P) : Rn (d + 4) 77 0 [(0, .ref 3)] [] h n (some (.int (nI (la z P)))) h n := by
  obtain ⟨p, R, R2, hr, Z, S, s, sv, q, rfl, hX, K⟩ := hS
  have hf := hG.2.2.2.2.1
  by_cases g : hiF z = 0
  · exact Rn.val (la_val hG g) (b_las d n hf K.2.2.2.2.2.2.1 g (lmN z 10) (le_lm hG.2.2.2.2.2.2.1 10 (Nat.le_refl _)) (lmN_le z 10))
  · have l0 : la z P = 0 := by
      rcases Nat.eq_zero_or_pos (la z P) with e | e
      · exact e
      · exact (g ((hi_la hG).mpr e)).elim
    exact Rn.val (by rw [l0]; rfl) (b_las_0 d n hf K.2.2.2.2.2.2.1 g)
theorem k_wipe (hS : ST X c z t u0 u1 h) : Rn (d + 1) 79 0 [(0, .ref 3)] [] h n (some (.int (0))) h n := by
  obtain ⟨p, R, R2, hr, Z, S, s, sv, q, rfl, hX, K⟩ := hS
  exact b_wipe d n
theorem k_fault (hS : ST X c z t u0 u1 h) : Rn (d + 3) 80 0 [(0, .ref 3)] [] h n (some (.int (0))) h n := by
  obtain ⟨p, R, R2, hr, Z, S, s, sv, q, rfl, hX, K⟩ := hS
  exact b_fault d n 0 (by omega)
theorem k_co (hS : ST X c z t u0 u1 h) : Rn (d + 5) 82 0 [(0, .ref 3)] [] h n (some (.int (-3))) h n := by
  obtain ⟨p, R, R2, hr, Z, S, s, sv, q, rfl, hX, K⟩ := hS
  exact b_co_bad d n 0 (by omega) (by show ¬ (if (0 : Nat) = 7 ∨ (0 : Nat) = 5 then (-6 : Int32) else nI 0) = -6; decide)
theorem k_undo_no (hS : ST X c z t u0 u1 h) (hc : c = 0) : Rn (d + 2) 83 0 [(0, .ref 3)] [] h n (some (.int (-5))) h n := by
  obtain ⟨p, R, R2, hr, Z, S, s, sv, q, rfl, hX, K⟩ := hS
  exact (by subst hc; exact b_undo_no d n)
theorem k_save_bad (hS : ST X c z t u0 u1 h) (x : Int32) (hx : decide (0 ≤ x ∧ x ≤ 1) = false) : Rn (d + 2) 84 0 [(0, .ref 3), (1, .int x)] [] h n (some (.int (-2))) h n := by
  obtain ⟨p, R, R2, hr, Z, S, s, sv, q, rfl, hX, K⟩ := hS
  exact b_save_bad d n x hx
theorem k_res_bad (hS : ST X c z t u0 u1 h) (x : Int32) (hx : decide (0 ≤ x ∧ x ≤ 1) = false) : Rn (d + 2) 85 0 [(0, .ref 3), (1, .int x)] [] h n (some (.int (-2))) h n := by
  obtain ⟨p, R, R2, hr, Z, S, s, sv, q, rfl, hX, K⟩ := hS
  exact b_res_bad d n x hx
theorem k_res_not0 (hS : ST X c z t none u1 h) : Rn (d + 2) 85 0 [(0, .ref 3), (1, .int 0)] [] h n (some (.int (-5))) h n := by
  obtain ⟨p, R, R2, hr, Z, S, s, sv, q, rfl, hX, K⟩ := hS
  exact b_res_not d n 0 (by omega) K.2.2.2.2.2.2.2.2.2.1
theorem k_res_not1 (hS : ST X c z t u0 none h) : Rn (d + 2) 85 0 [(0, .ref 3), (1, .int 1)] [] h n (some (.int (-5))) h n := by
  obtain ⟨p, R, R2, hr, Z, S, s, sv, q, rfl, hX, K⟩ := hS
  exact b_res_not d n 1 (by omega) K.2.2.2.2.2.2.2.2.2.2
theorem k_undo {c : Nat} (hS : ST X (c + 1) z t u0 u1 h) (hf : Fl t) : ∃ h' t', ST X c t t' u0 u1 h' ∧ Rn (d + 2) 83 0 [(0, .ref 3)] [] h n (some (.int (nI c))) h' n := by
  obtain ⟨p, R, R2, hr, Z, S, s, sv, q, rfl, hX, K⟩ := hS
  obtain ⟨k1, k2, k3, k4, k5, k6, k7, k8, k9, k10, k11⟩ := K
  have e := k9 (by omega)
  rw [show c + 1 - 1 = c by omega] at e
  refine ⟨_, Z (hr (c - 1)), ⟨p, R, R2, hr, Z, S, S (hr c), sv, q, rfl, hX, by omega, k2, k3, k4, k5, k6, k7, fun i hi => k8 i (by omega), fun _ => E80.rf _, k10, k11⟩, b_undo d n hr Z S k2 k5 c (by omega) (hf.e80 e) t e⟩
theorem k_save0 (hS : ST X c z t u0 u1 h) (hf : Fl z) : ∃ h', ST X c z t (some z) u1 h' ∧ Rn (d + 2) 84 0 [(0, .ref 3), (1, .int 0)] [] h n (some (.int (mMany z 10))) h' n := by
  obtain ⟨p, R, R2, hr, Z, S, s, sv, q, rfl, hX, K⟩ := hS
  obtain ⟨k1, k2, k3, k4, k5, k6, k7, k8, k9, k10, k11⟩ := K
  have hb := bs_in (t := 8) (by omega) (by omega)
  have hne : ∀ i, i < 7 → ¬ hr i = 8 := fun i hi e => by have := (k2 i hi).2.2; omega
  refine ⟨_, ⟨p, R, R2, hr, va_up Z 8 z, va_up S 8 s, s, upd sv 0 1, tAt (bs 8) z s q, rfl, (tAt_lo (by omega) (by omega)).trans hX, k1, k2, k3, k4, Hq_at k5 (by omega) (by omega), (tAt_lo (by omega) (by omega)).trans k6, (tAt_lo (by omega) (by omega)).trans k7, fun i hi => ?_, fun h0 => ?_, ?_, ?_⟩, b_save d n Z S k5 0 (by omega) k4.1 hf⟩
  · rw [vz_up (hne i (by omega))]; exact k8 i hi
  · rw [vz_up (hne (c - 1) (by omega))]; exact k9 h0
  · exact ⟨by rw [upd_eq]; decide, by rw [va_up_self]; exact E80.rf _, hf⟩
  · rw [upd_ne (by omega), vz_up (by omega)]; exact k11
theorem k_save1 (hS : ST X c z t u0 u1 h) (hf : Fl z) : ∃ h', ST X c z t u0 (some z) h' ∧ Rn (d + 2) 84 0 [(0, .ref 3), (1, .int 1)] [] h n (some (.int (mMany z 10))) h' n := by
  obtain ⟨p, R, R2, hr, Z, S, s, sv, q, rfl, hX, K⟩ := hS
  obtain ⟨k1, k2, k3, k4, k5, k6, k7, k8, k9, k10, k11⟩ := K
  have hb := bs_in (t := 9) (by omega) (by omega)
  have hne : ∀ i, i < 7 → ¬ hr i = 9 := fun i hi e => by have := (k2 i hi).2.2; omega
  refine ⟨_, ⟨p, R, R2, hr, va_up Z 9 z, va_up S 9 s, s, upd sv 1 1, tAt (bs 9) z s q, rfl, (tAt_lo (by omega) (by omega)).trans hX, k1, k2, k3, k4, Hq_at k5 (by omega) (by omega), (tAt_lo (by omega) (by omega)).trans k6, (tAt_lo (by omega) (by omega)).trans k7, fun i hi => ?_, fun h0 => ?_, ?_, ?_⟩, b_save d n Z S k5 1 (by omega) k4.2 hf⟩
  · rw [vz_up (hne i (by omega))]; exact k8 i hi
  · rw [vz_up (hne (c - 1) (by omega))]; exact k9 h0
  · rw [upd_ne (by omega), vz_up (by omega)]; exact k10
  · exact ⟨by rw [upd_eq]; decide, by rw [va_up_self]; exact E80.rf _, hf⟩
theorem k_res0 {w : Nat → Int32} (hS : ST X c z t (some w) u1 h) (hf : Fl z) : ∃ h', ST X (up c) w z (some w) u1 h' ∧ Rn (d + 3) 85 0 [(0, .ref 3), (1, .int 0)] [] h n (some (.int (mMany w 10))) h' n := by
  obtain ⟨p, R, R2, hr, Z, S, s, sv, q, rfl, hX, K⟩ := hS
  have r0 : ¬ mMany w 10 < 0 := by
    have := tpm_le w 10
    rw [many_n]
    exact nI_pos (by omega)
  have K2 := K.ok r0 s hf
  obtain ⟨k1, k2, k3, k4, k5, k6, k7, k8, k9, k10, k11⟩ := K
  obtain ⟨v1, v2, v3⟩ : ¬ sv 0 = 0 ∧ E80 (Z 8) w ∧ Fl w := k10
  have b := b_res (p := p) (ln := 0) (R2 := R2) (z := z) (s := s) d n hr Z S k2 k5 c k1 hf 0 (by omega) k4.1 v1 (v3.e80 v2) w v2
  rw [rc_up k1 r0] at b
  exact ⟨_, ⟨p, _, R2, _, _, _, S 8, sv, _, rfl, (tAt_lo (hb3 k2 k1) (by omega)).trans hX, K2⟩, b⟩
theorem k_res1 {w : Nat → Int32} (hS : ST X c z t u0 (some w) h) (hf : Fl z) : ∃ h', ST X (up c) w z u0 (some w) h' ∧ Rn (d + 3) 85 0 [(0, .ref 3), (1, .int 1)] [] h n (some (.int (mMany w 10))) h' n := by
  obtain ⟨p, R, R2, hr, Z, S, s, sv, q, rfl, hX, K⟩ := hS
  have r0 : ¬ mMany w 10 < 0 := by
    have := tpm_le w 10
    rw [many_n]
    exact nI_pos (by omega)
  have K2 := K.ok r0 s hf
  obtain ⟨k1, k2, k3, k4, k5, k6, k7, k8, k9, k10, k11⟩ := K
  obtain ⟨v1, v2, v3⟩ : ¬ sv 1 = 0 ∧ E80 (Z 9) w ∧ Fl w := k11
  have b := b_res (p := p) (ln := 0) (R2 := R2) (z := z) (s := s) d n hr Z S k2 k5 c k1 hf 1 (by omega) k4.2 v1 (v3.e80 v2) w v2
  rw [rc_up k1 r0] at b
  exact ⟨_, ⟨p, _, R2, _, _, _, S 9, sv, _, rfl, (tAt_lo (hb3 k2 k1) (by omega)).trans hX, K2⟩, b⟩
theorem g_set_ok (hS : ST X c z t u0 u1 h) (hf : Fl z) (x y r : Int32) (z' : Nat → Int32) (h0 : ¬ r < 0) (hm : ∀ s G, G 1 = .inl (0, 3, .inl xlo) → G 2 = .inl (0, 3, .inl xhi) → ∃ s', Rn (d + 2) 49 0 [(0, .ref 4), (1, .int x), (2, .int y)] [] (tOn z s G) n (some (.int r)) (tOn z' s' G) n) : ∃ h', ST X (up c) z' z u0 u1 h' ∧ Rn (d + 3) 61 0 [(0, .ref 3), (1, .int x), (2, .int y)] [] h n (some (.int r)) h' n := by
  obtain ⟨p, R, R2, hr, Z, S, s, sv, q, rfl, hX, K⟩ := hS
  have h3 := hb3 K.2.1 K.1
  obtain ⟨s', m⟩ := hm s (pOn p 0 (bO (nI c) R R2 sv (tAt (bs (hr c)) z s q))) (G_of (by omega) ((tAt_lo h3 (by omega)).trans K.2.2.2.2.2.1) 0) (G_of (by omega) ((tAt_lo h3 (by omega)).trans K.2.2.2.2.2.2.1) 0)
  have b := b_set d n hr Z S K.2.1 K.2.2.2.2.1 c K.1 hf x y r z' s' m
  have K2 := K.ok h0 s hf
  rw [rc_up K.1 h0] at b
  exact ⟨_, ⟨p, _, R2, _, _, _, s', sv, _, rfl, (tAt_lo h3 (by omega)).trans hX, K2⟩, b⟩
theorem g_set_no (hS : ST X c z t u0 u1 h) (hf : Fl z) (x y r : Int32) (h0 : r < 0) (hm : ∀ s G, G 1 = .inl (0, 3, .inl xlo) → G 2 = .inl (0, 3, .inl xhi) → ∃ s', Rn (d + 2) 49 0 [(0, .ref 4), (1, .int x), (2, .int y)] [] (tOn z s G) n (some (.int r)) (tOn z s' G) n) : ∃ h', ST X c z t u0 u1 h' ∧ Rn (d + 3) 61 0 [(0, .ref 3), (1, .int x), (2, .int y)] [] h n (some (.int r)) h' n := by
  obtain ⟨p, R, R2, hr, Z, S, s, sv, q, rfl, hX, K⟩ := hS
  have h3 := hb3 K.2.1 K.1
  obtain ⟨s', m⟩ := hm s (pOn p 0 (bO (nI c) R R2 sv (tAt (bs (hr c)) z s q))) (G_of (by omega) ((tAt_lo h3 (by omega)).trans K.2.2.2.2.2.1) 0) (G_of (by omega) ((tAt_lo h3 (by omega)).trans K.2.2.2.2.2.2.1) 0)
  have b := b_set d n hr Z S K.2.1 K.2.2.2.2.1 c K.1 hf x y r z s' m
  have K2 := K.err z s
  rw [(rc_neg (R := R) h0).1, (rc_neg h0).2] at b
  exact ⟨_, ⟨p, _, R2, _, _, _, s', sv, _, rfl, (tAt_lo h3 (by omega)).trans hX, K2⟩, b⟩
theorem g_carrier_ok (hS : ST X c z t u0 u1 h) (hf : Fl z) (x y r : Int32) (z' : Nat → Int32) (h0 : ¬ r < 0) (hm : ∀ s G, G 1 = .inl (0, 3, .inl xlo) → G 2 = .inl (0, 3, .inl xhi) → ∃ s', Rn (d + 2) 50 0 [(0, .ref 4), (1, .int x), (2, .int y)] [] (tOn z s G) n (some (.int r)) (tOn z' s' G) n) : ∃ h', ST X (up c) z' z u0 u1 h' ∧ Rn (d + 3) 62 0 [(0, .ref 3), (1, .int x), (2, .int y)] [] h n (some (.int r)) h' n := by
  obtain ⟨p, R, R2, hr, Z, S, s, sv, q, rfl, hX, K⟩ := hS
  have h3 := hb3 K.2.1 K.1
  obtain ⟨s', m⟩ := hm s (pOn p 0 (bO (nI c) R R2 sv (tAt (bs (hr c)) z s q))) (G_of (by omega) ((tAt_lo h3 (by omega)).trans K.2.2.2.2.2.1) 0) (G_of (by omega) ((tAt_lo h3 (by omega)).trans K.2.2.2.2.2.2.1) 0)
  have b := b_carrier d n hr Z S K.2.1 K.2.2.2.2.1 c K.1 hf x y r z' s' m
  have K2 := K.ok h0 s hf
  rw [rc_up K.1 h0] at b
  exact ⟨_, ⟨p, _, R2, _, _, _, s', sv, _, rfl, (tAt_lo h3 (by omega)).trans hX, K2⟩, b⟩
theorem g_carrier_no (hS : ST X c z t u0 u1 h) (hf : Fl z) (x y r : Int32) (h0 : r < 0) (hm : ∀ s G, G 1 = .inl (0, 3, .inl xlo) → G 2 = .inl (0, 3, .inl xhi) → ∃ s', Rn (d + 2) 50 0 [(0, .ref 4), (1, .int x), (2, .int y)] [] (tOn z s G) n (some (.int r)) (tOn z s' G) n) : ∃ h', ST X c z t u0 u1 h' ∧ Rn (d + 3) 62 0 [(0, .ref 3), (1, .int x), (2, .int y)] [] h n (some (.int r)) h' n := by
  obtain ⟨p, R, R2, hr, Z, S, s, sv, q, rfl, hX, K⟩ := hS
  have h3 := hb3 K.2.1 K.1
  obtain ⟨s', m⟩ := hm s (pOn p 0 (bO (nI c) R R2 sv (tAt (bs (hr c)) z s q))) (G_of (by omega) ((tAt_lo h3 (by omega)).trans K.2.2.2.2.2.1) 0) (G_of (by omega) ((tAt_lo h3 (by omega)).trans K.2.2.2.2.2.2.1) 0)
  have b := b_carrier d n hr Z S K.2.1 K.2.2.2.2.1 c K.1 hf x y r z s' m
  have K2 := K.err z s
  rw [(rc_neg (R := R) h0).1, (rc_neg h0).2] at b
  exact ⟨_, ⟨p, _, R2, _, _, _, s', sv, _, rfl, (tAt_lo h3 (by omega)).trans hX, K2⟩, b⟩
theorem g_takeOut_ok (hS : ST X c z t u0 u1 h) (hf : Fl z) (x r : Int32) (z' : Nat → Int32) (h0 : ¬ r < 0) (hm : ∀ s G, G 1 = .inl (0, 3, .inl xlo) → G 2 = .inl (0, 3, .inl xhi) → ∃ s', Rn (d + 2) 51 0 [(0, .ref 4), (1, .int x)] [] (tOn z s G) n (some (.int r)) (tOn z' s' G) n) : ∃ h', ST X (up c) z' z u0 u1 h' ∧ Rn (d + 3) 63 0 [(0, .ref 3), (1, .int x)] [] h n (some (.int r)) h' n := by
  obtain ⟨p, R, R2, hr, Z, S, s, sv, q, rfl, hX, K⟩ := hS
  have h3 := hb3 K.2.1 K.1
  obtain ⟨s', m⟩ := hm s (pOn p 0 (bO (nI c) R R2 sv (tAt (bs (hr c)) z s q))) (G_of (by omega) ((tAt_lo h3 (by omega)).trans K.2.2.2.2.2.1) 0) (G_of (by omega) ((tAt_lo h3 (by omega)).trans K.2.2.2.2.2.2.1) 0)
  have b := b_takeOut d n hr Z S K.2.1 K.2.2.2.2.1 c K.1 hf x r z' s' m
  have K2 := K.ok h0 s hf
  rw [rc_up K.1 h0] at b
  exact ⟨_, ⟨p, _, R2, _, _, _, s', sv, _, rfl, (tAt_lo h3 (by omega)).trans hX, K2⟩, b⟩
theorem g_takeOut_no (hS : ST X c z t u0 u1 h) (hf : Fl z) (x r : Int32) (h0 : r < 0) (hm : ∀ s G, G 1 = .inl (0, 3, .inl xlo) → G 2 = .inl (0, 3, .inl xhi) → ∃ s', Rn (d + 2) 51 0 [(0, .ref 4), (1, .int x)] [] (tOn z s G) n (some (.int r)) (tOn z s' G) n) : ∃ h', ST X c z t u0 u1 h' ∧ Rn (d + 3) 63 0 [(0, .ref 3), (1, .int x)] [] h n (some (.int r)) h' n := by
  obtain ⟨p, R, R2, hr, Z, S, s, sv, q, rfl, hX, K⟩ := hS
  have h3 := hb3 K.2.1 K.1
  obtain ⟨s', m⟩ := hm s (pOn p 0 (bO (nI c) R R2 sv (tAt (bs (hr c)) z s q))) (G_of (by omega) ((tAt_lo h3 (by omega)).trans K.2.2.2.2.2.1) 0) (G_of (by omega) ((tAt_lo h3 (by omega)).trans K.2.2.2.2.2.2.1) 0)
  have b := b_takeOut d n hr Z S K.2.1 K.2.2.2.2.1 c K.1 hf x r z s' m
  have K2 := K.err z s
  rw [(rc_neg (R := R) h0).1, (rc_neg h0).2] at b
  exact ⟨_, ⟨p, _, R2, _, _, _, s', sv, _, rfl, (tAt_lo h3 (by omega)).trans hX, K2⟩, b⟩
theorem g_run_ok (hS : ST X c z t u0 u1 h) (hf : Fl z) (x r : Int32) (z' : Nat → Int32) (h0 : ¬ r < 0) (hm : ∀ s G, G 1 = .inl (0, 3, .inl xlo) → G 2 = .inl (0, 3, .inl xhi) → ∃ s', Rn (d + 3) 53 0 [(0, .ref 4), (1, .int x)] [] (tOn z s G) n (some (.int r)) (tOn z' s' G) n) : ∃ h', ST X (up c) z' z u0 u1 h' ∧ Rn (d + 4) 64 0 [(0, .ref 3), (1, .int x)] [] h n (some (.int r)) h' n := by
  obtain ⟨p, R, R2, hr, Z, S, s, sv, q, rfl, hX, K⟩ := hS
  have h3 := hb3 K.2.1 K.1
  obtain ⟨s', m⟩ := hm s (pOn p 0 (bO (nI c) R R2 sv (tAt (bs (hr c)) z s q))) (G_of (by omega) ((tAt_lo h3 (by omega)).trans K.2.2.2.2.2.1) 0) (G_of (by omega) ((tAt_lo h3 (by omega)).trans K.2.2.2.2.2.2.1) 0)
  have b := b_run d n hr Z S K.2.1 K.2.2.2.2.1 c K.1 hf x r z' s' m
  have K2 := K.ok h0 s hf
  rw [rc_up K.1 h0] at b
  exact ⟨_, ⟨p, _, R2, _, _, _, s', sv, _, rfl, (tAt_lo h3 (by omega)).trans hX, K2⟩, b⟩
theorem g_run_no (hS : ST X c z t u0 u1 h) (hf : Fl z) (x r : Int32) (h0 : r < 0) (hm : ∀ s G, G 1 = .inl (0, 3, .inl xlo) → G 2 = .inl (0, 3, .inl xhi) → ∃ s', Rn (d + 3) 53 0 [(0, .ref 4), (1, .int x)] [] (tOn z s G) n (some (.int r)) (tOn z s' G) n) : ∃ h', ST X c z t u0 u1 h' ∧ Rn (d + 4) 64 0 [(0, .ref 3), (1, .int x)] [] h n (some (.int r)) h' n := by
  obtain ⟨p, R, R2, hr, Z, S, s, sv, q, rfl, hX, K⟩ := hS
  have h3 := hb3 K.2.1 K.1
  obtain ⟨s', m⟩ := hm s (pOn p 0 (bO (nI c) R R2 sv (tAt (bs (hr c)) z s q))) (G_of (by omega) ((tAt_lo h3 (by omega)).trans K.2.2.2.2.2.1) 0) (G_of (by omega) ((tAt_lo h3 (by omega)).trans K.2.2.2.2.2.2.1) 0)
  have b := b_run d n hr Z S K.2.1 K.2.2.2.2.1 c K.1 hf x r z s' m
  have K2 := K.err z s
  rw [(rc_neg (R := R) h0).1, (rc_neg h0).2] at b
  exact ⟨_, ⟨p, _, R2, _, _, _, s', sv, _, rfl, (tAt_lo h3 (by omega)).trans hX, K2⟩, b⟩
theorem g_snap_ok (hS : ST X c z t u0 u1 h) (hf : Fl z) (x r : Int32) (z' : Nat → Int32) (h0 : ¬ r < 0) (hm : ∀ s G, G 1 = .inl (0, 3, .inl xlo) → G 2 = .inl (0, 3, .inl xhi) → ∃ s', Rn (d + 2) 54 0 [(0, .ref 4), (1, .int x)] [] (tOn z s G) n (some (.int r)) (tOn z' s' G) n) : ∃ h', ST X (up c) z' z u0 u1 h' ∧ Rn (d + 3) 65 0 [(0, .ref 3), (1, .int x)] [] h n (some (.int r)) h' n := by
  obtain ⟨p, R, R2, hr, Z, S, s, sv, q, rfl, hX, K⟩ := hS
  have h3 := hb3 K.2.1 K.1
  obtain ⟨s', m⟩ := hm s (pOn p 0 (bO (nI c) R R2 sv (tAt (bs (hr c)) z s q))) (G_of (by omega) ((tAt_lo h3 (by omega)).trans K.2.2.2.2.2.1) 0) (G_of (by omega) ((tAt_lo h3 (by omega)).trans K.2.2.2.2.2.2.1) 0)
  have b := b_snap d n hr Z S K.2.1 K.2.2.2.2.1 c K.1 hf x r z' s' m
  have K2 := K.ok h0 s hf
  rw [rc_up K.1 h0] at b
  exact ⟨_, ⟨p, _, R2, _, _, _, s', sv, _, rfl, (tAt_lo h3 (by omega)).trans hX, K2⟩, b⟩
theorem g_snap_no (hS : ST X c z t u0 u1 h) (hf : Fl z) (x r : Int32) (h0 : r < 0) (hm : ∀ s G, G 1 = .inl (0, 3, .inl xlo) → G 2 = .inl (0, 3, .inl xhi) → ∃ s', Rn (d + 2) 54 0 [(0, .ref 4), (1, .int x)] [] (tOn z s G) n (some (.int r)) (tOn z s' G) n) : ∃ h', ST X c z t u0 u1 h' ∧ Rn (d + 3) 65 0 [(0, .ref 3), (1, .int x)] [] h n (some (.int r)) h' n := by
  obtain ⟨p, R, R2, hr, Z, S, s, sv, q, rfl, hX, K⟩ := hS
  have h3 := hb3 K.2.1 K.1
  obtain ⟨s', m⟩ := hm s (pOn p 0 (bO (nI c) R R2 sv (tAt (bs (hr c)) z s q))) (G_of (by omega) ((tAt_lo h3 (by omega)).trans K.2.2.2.2.2.1) 0) (G_of (by omega) ((tAt_lo h3 (by omega)).trans K.2.2.2.2.2.2.1) 0)
  have b := b_snap d n hr Z S K.2.1 K.2.2.2.2.1 c K.1 hf x r z s' m
  have K2 := K.err z s
  rw [(rc_neg (R := R) h0).1, (rc_neg h0).2] at b
  exact ⟨_, ⟨p, _, R2, _, _, _, s', sv, _, rfl, (tAt_lo h3 (by omega)).trans hX, K2⟩, b⟩
theorem g_tie_ok (hS : ST X c z t u0 u1 h) (hf : Fl z) (x r : Int32) (z' : Nat → Int32) (h0 : ¬ r < 0) (hm : ∀ s G, G 1 = .inl (0, 3, .inl xlo) → G 2 = .inl (0, 3, .inl xhi) → ∃ s', Rn (d + 2) 55 0 [(0, .ref 4), (1, .int x)] [] (tOn z s G) n (some (.int r)) (tOn z' s' G) n) : ∃ h', ST X (up c) z' z u0 u1 h' ∧ Rn (d + 3) 66 0 [(0, .ref 3), (1, .int x)] [] h n (some (.int r)) h' n := by
  obtain ⟨p, R, R2, hr, Z, S, s, sv, q, rfl, hX, K⟩ := hS
  have h3 := hb3 K.2.1 K.1
  obtain ⟨s', m⟩ := hm s (pOn p 0 (bO (nI c) R R2 sv (tAt (bs (hr c)) z s q))) (G_of (by omega) ((tAt_lo h3 (by omega)).trans K.2.2.2.2.2.1) 0) (G_of (by omega) ((tAt_lo h3 (by omega)).trans K.2.2.2.2.2.2.1) 0)
  have b := b_tie d n hr Z S K.2.1 K.2.2.2.2.1 c K.1 hf x r z' s' m
  have K2 := K.ok h0 s hf
  rw [rc_up K.1 h0] at b
  exact ⟨_, ⟨p, _, R2, _, _, _, s', sv, _, rfl, (tAt_lo h3 (by omega)).trans hX, K2⟩, b⟩
theorem g_tie_no (hS : ST X c z t u0 u1 h) (hf : Fl z) (x r : Int32) (h0 : r < 0) (hm : ∀ s G, G 1 = .inl (0, 3, .inl xlo) → G 2 = .inl (0, 3, .inl xhi) → ∃ s', Rn (d + 2) 55 0 [(0, .ref 4), (1, .int x)] [] (tOn z s G) n (some (.int r)) (tOn z s' G) n) : ∃ h', ST X c z t u0 u1 h' ∧ Rn (d + 3) 66 0 [(0, .ref 3), (1, .int x)] [] h n (some (.int r)) h' n := by
  obtain ⟨p, R, R2, hr, Z, S, s, sv, q, rfl, hX, K⟩ := hS
  have h3 := hb3 K.2.1 K.1
  obtain ⟨s', m⟩ := hm s (pOn p 0 (bO (nI c) R R2 sv (tAt (bs (hr c)) z s q))) (G_of (by omega) ((tAt_lo h3 (by omega)).trans K.2.2.2.2.2.1) 0) (G_of (by omega) ((tAt_lo h3 (by omega)).trans K.2.2.2.2.2.2.1) 0)
  have b := b_tie d n hr Z S K.2.1 K.2.2.2.2.1 c K.1 hf x r z s' m
  have K2 := K.err z s
  rw [(rc_neg (R := R) h0).1, (rc_neg h0).2] at b
  exact ⟨_, ⟨p, _, R2, _, _, _, s', sv, _, rfl, (tAt_lo h3 (by omega)).trans hX, K2⟩, b⟩
theorem g_refill_ok (hS : ST X c z t u0 u1 h) (hf : Fl z) (x r : Int32) (z' : Nat → Int32) (h0 : ¬ r < 0) (hm : ∀ s G, G 1 = .inl (0, 3, .inl xlo) → G 2 = .inl (0, 3, .inl xhi) → ∃ s', Rn (d + 2) 56 0 [(0, .ref 4), (1, .int x)] [] (tOn z s G) n (some (.int r)) (tOn z' s' G) n) : ∃ h', ST X (up c) z' z u0 u1 h' ∧ Rn (d + 3) 67 0 [(0, .ref 3), (1, .int x)] [] h n (some (.int r)) h' n := by
  obtain ⟨p, R, R2, hr, Z, S, s, sv, q, rfl, hX, K⟩ := hS
  have h3 := hb3 K.2.1 K.1
  obtain ⟨s', m⟩ := hm s (pOn p 0 (bO (nI c) R R2 sv (tAt (bs (hr c)) z s q))) (G_of (by omega) ((tAt_lo h3 (by omega)).trans K.2.2.2.2.2.1) 0) (G_of (by omega) ((tAt_lo h3 (by omega)).trans K.2.2.2.2.2.2.1) 0)
  have b := b_refill d n hr Z S K.2.1 K.2.2.2.2.1 c K.1 hf x r z' s' m
  have K2 := K.ok h0 s hf
  rw [rc_up K.1 h0] at b
  exact ⟨_, ⟨p, _, R2, _, _, _, s', sv, _, rfl, (tAt_lo h3 (by omega)).trans hX, K2⟩, b⟩
theorem g_refill_no (hS : ST X c z t u0 u1 h) (hf : Fl z) (x r : Int32) (h0 : r < 0) (hm : ∀ s G, G 1 = .inl (0, 3, .inl xlo) → G 2 = .inl (0, 3, .inl xhi) → ∃ s', Rn (d + 2) 56 0 [(0, .ref 4), (1, .int x)] [] (tOn z s G) n (some (.int r)) (tOn z s' G) n) : ∃ h', ST X c z t u0 u1 h' ∧ Rn (d + 3) 67 0 [(0, .ref 3), (1, .int x)] [] h n (some (.int r)) h' n := by
  obtain ⟨p, R, R2, hr, Z, S, s, sv, q, rfl, hX, K⟩ := hS
  have h3 := hb3 K.2.1 K.1
  obtain ⟨s', m⟩ := hm s (pOn p 0 (bO (nI c) R R2 sv (tAt (bs (hr c)) z s q))) (G_of (by omega) ((tAt_lo h3 (by omega)).trans K.2.2.2.2.2.1) 0) (G_of (by omega) ((tAt_lo h3 (by omega)).trans K.2.2.2.2.2.2.1) 0)
  have b := b_refill d n hr Z S K.2.1 K.2.2.2.2.1 c K.1 hf x r z s' m
  have K2 := K.err z s
  rw [(rc_neg (R := R) h0).1, (rc_neg h0).2] at b
  exact ⟨_, ⟨p, _, R2, _, _, _, s', sv, _, rfl, (tAt_lo h3 (by omega)).trans hX, K2⟩, b⟩
end CALLS
