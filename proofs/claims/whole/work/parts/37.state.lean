/-! the state of both: the relation -/
def Kp (a1 a2 a3 a4 : Nat → Int32) (w0 w1 : Int32) (c : Nat) (R R2 : Nat → Option Nat) (hr : Nat → Nat) (Z S : Nat → Nat → Int32) (q : xHp) (ty B : Nat) : Prop :=
  w0 = nI c ∧ c ≤ 6 ∧ HR R hr ∧ (∀ i j, i < 7 → j < 7 → hr i = hr j → i = j) ∧ (R2 0 = some (bs 8) ∧ R2 1 = some (bs 9)) ∧ Hq q Z S ∧ q 1 = .inl (0, 3, .inl xlo) ∧ q 2 = .inl (0, 3, .inl xhi) ∧ w1 = nI ty ∧ ty ≤ 80 ∧ Pc a4 ∧ (∀ i, i < c → (∀ j, j < 80 → Z (hr i) j = a1 (80 * i + j)) ∧ ∃ P, GB (Z (hr i)) P B) ∧ (∀ t, t < 2 → ¬ a3 t = 0 → (∀ j, j < 80 → Z (8 + t) j = a2 (80 * t + j)) ∧ ∃ P, GB (Z (8 + t)) P B)
def SG (X : xLC) (B : Nat) (h : xHp) : Prop := ∃ A w c R R2 hr Z S s q P ty, h = FF A w (A 4) (w 1) (nI c) R R2 (A 3) (A 0) s q ∧ GB (A 0) P B ∧ q 0 = X ∧ Kp (A 1) (A 2) (A 3) (A 4) (w 0) (w 1) c R R2 hr Z S q ty B
def Both (j k : Nat) (as : xLs) (X : xLC) (B : Nat) (h : xHp) : Prop := ∃ v h1 h2, Rn 8 j 0 ((0, .ref 3) :: as) [] h 147 (some (.int v)) h1 147 ∧ Rn 8 k 0 ((0, .ref 139) :: as) [] h1 147 (some (.int v)) h2 147 ∧ SG X (B + 28) h2 ∧ h1 0 = X ∧ ∃ fs, h1 139 = .inr (4, fs)
theorem Rn.val {d i pc : Nat} {ls : xLs} {st : List Value} {h h' : xHp} {n n' : Nat} {v v' : Int32} (e : v = v') (kk : Rn d i pc ls st h n (some (.int v)) h' n') : Rn d i pc ls st h n (some (.int v')) h' n' := e ▸ kk
theorem rc_neg {r : Int32} {c : Nat} {R : Nat → Option Nat} (h : r < 0) : rcC r c = c ∧ rcR r c R = R := ⟨if_pos h, if_pos h⟩
section STATE
variable {a1 a2 a3 a4 : Nat → Int32} {w0 w1 : Int32} {c : Nat} {R R2 : Nat → Option Nat} {hr : Nat → Nat} {Z S : Nat → Nat → Int32} {q : xHp} {ty B : Nat}
theorem Kp.le (K : Kp a1 a2 a3 a4 w0 w1 c R R2 hr Z S q ty B) {B' : Nat} (hB : B ≤ B') : Kp a1 a2 a3 a4 w0 w1 c R R2 hr Z S q ty B' := by
  obtain ⟨k0, k1, k2, k3, k4, k5, k6, k7, k8, k9, k10, k11, k12⟩ := K
  refine ⟨k0, k1, k2, k3, k4, k5, k6, k7, k8, k9, k10, fun i hi => ?_, fun t ht h0 => ?_⟩
  · obtain ⟨e, P, g⟩ := k11 i hi
    exact ⟨e, P, g.le hB⟩
  · obtain ⟨e, P, g⟩ := k12 t ht h0
    exact ⟨e, P, g.le hB⟩
theorem Kp.err (K : Kp a1 a2 a3 a4 w0 w1 c R R2 hr Z S q ty B) (z1 s1 : Nat → Int32) : Kp a1 a2 a3 a4 w0 w1 c R R2 hr (va_up Z (hr c) z1) (va_up S (hr c) s1) (tAt (bs (hr c)) z1 s1 q) ty B := by
  obtain ⟨k0, k1, k2, k3, k4, k5, k6, k7, k8, k9, k10, k11, k12⟩ := K
  obtain ⟨e1, e2, e3⟩ := k2 c (by omega)
  have hb := bs_in e2 (by omega : hr c < 10)
  refine ⟨k0, k1, k2, k3, k4, Hq_at k5 e2 (by omega), (tAt_lo (by omega) (by omega)).trans k6, (tAt_lo (by omega) (by omega)).trans k7, k8, k9, k10, fun i hi => ?_, fun t ht h0 => ?_⟩
  · have hne : ¬ hr i = hr c := fun x => by have := k3 i c (by omega) (by omega) x; omega
    rw [vz_up hne]
    exact k11 i hi
  · rw [vz_up (show ¬ 8 + t = hr c by omega)]
    exact k12 t ht h0
def hr2 (c : Nat) (hr : Nat → Nat) : Nat → Nat := fun i => if c < 6 then hr i else if i < 6 then hr (i + 1) else hr 0
theorem Kp.ok (K : Kp a1 a2 a3 a4 w0 w1 c R R2 hr Z S q ty B) {r : Int32} (h0 : ¬ r < 0) {z1 : Nat → Int32} (s1 : Nat → Int32) {P : Nat} (hG : GB z1 P B) : Kp (recP z1 a1 c) a2 a3 a4 (nI (if c = 6 then 6 else c + 1)) w1 (rcC r c) (rcR r c R) R2 (hr2 c hr) (va_up Z (hr c) z1) (va_up S (hr c) s1) (tAt (bs (hr c)) z1 s1 q) ty B := by
  have K2 := K.err z1 s1
  obtain ⟨k0, k1, k2, k3, k4, k5, k6, k7, k8, k9, k10, k11, k12⟩ := K
  obtain ⟨_, _, _, _, _, u5, u6, u7, _, _, _, u11, u12⟩ := K2
  by_cases h6 : c < 6
  · have ec : rcC r c = c + 1 := by unfold rcC; rw [if_neg h0, if_pos h6]
    have eR : rcR r c R = R := by unfold rcR; rw [if_neg h0, if_pos h6]
    have eh : hr2 c hr = hr := by funext i; unfold hr2; rw [if_pos h6]
    rw [ec, eR, eh, if_neg (by omega)]
    refine ⟨rfl, by omega, k2, k3, k4, u5, u6, u7, k8, k9, k10, fun i hi => ?_, u12⟩
    by_cases e : i = c
    · subst e
      rw [va_up_self]
      refine ⟨fun j hj => ?_, P, hG⟩
      unfold recP
      rw [if_neg (by omega)]
      show z1 j = if 80 * i ≤ 80 * i + j ∧ 80 * i + j < 80 * i + 80 then z1 (0 + (80 * i + j - 80 * i)) else _
      rw [if_pos (by omega), show 0 + (80 * i + j - 80 * i) = j by omega]
    · obtain ⟨a, b⟩ := u11 i (by omega)
      refine ⟨fun j hj => (a j hj).trans ?_, b⟩
      unfold recP
      rw [if_neg (by omega)]
      show a1 (80 * i + j) = if 80 * c ≤ 80 * i + j ∧ 80 * i + j < 80 * c + 80 then _ else a1 (80 * i + j)
      rw [if_neg (by omega)]
  · have e6 : c = 6 := by omega
    subst e6
    have ec : rcC r 6 = 6 := by unfold rcC; rw [if_neg h0, if_neg h6]
    have eR : rcR r 6 R = rotR R := by unfold rcR; rw [if_neg h0, if_neg h6]
    have eh : ∀ i, hr2 6 hr i = if i < 6 then hr (i + 1) else hr 0 := fun i => by unfold hr2; rw [if_neg (by omega)]
    rw [ec, eR, if_pos rfl]
    refine ⟨rfl, by omega, fun i hi => ?_, fun i j hi hj x => ?_, k4, u5, u6, u7, k8, k9, k10, fun i hi => ?_, u12⟩
    · rw [eh]
      by_cases e : i < 6
      · rw [if_pos e]
        have k := k2 (i + 1) (by omega)
        refine ⟨?_, k.2⟩
        unfold rotR
        rw [vz_up (by omega)]
        show (if i < 6 then R (i + 1) else R i) = _
        rw [if_pos e]
        exact k.1
      · rw [if_neg e]
        have k := k2 0 (by omega)
        refine ⟨?_, k.2⟩
        rw [show i = 6 by omega]
        exact k.1
    · rw [eh, eh] at x
      by_cases e : i < 6
      · rw [if_pos e] at x
        by_cases g : j < 6
        · rw [if_pos g] at x
          have := k3 _ _ (by omega) (by omega) x
          omega
        · rw [if_neg g] at x
          have := k3 _ _ (by omega) (by omega) x
          omega
      · rw [if_neg e] at x
        by_cases g : j < 6
        · rw [if_pos g] at x
          have := k3 _ _ (by omega) (by omega) x
          omega
        · omega
    · rw [eh, if_pos hi]
      by_cases e : i = 5
      · subst e
        show (∀ j, j < 80 → va_up Z (hr 6) z1 (hr 6) j = _) ∧ ∃ P, GB (va_up Z (hr 6) z1 (hr 6)) P B
        rw [va_up_self]
        refine ⟨fun j hj => ?_, P, hG⟩
        unfold recP
        rw [if_pos rfl]
        show z1 j = if 400 ≤ 80 * 5 + j ∧ 80 * 5 + j < 400 + 80 then z1 (0 + (80 * 5 + j - 400)) else _
        rw [if_pos (by omega), show 0 + (80 * 5 + j - 400) = j by omega]
      · obtain ⟨a, b⟩ := u11 (i + 1) (by omega)
        refine ⟨fun j hj => (a j hj).trans ?_, b⟩
        unfold recP
        rw [if_pos rfl]
        show a1 (80 * (i + 1) + j) = if 400 ≤ 80 * i + j ∧ 80 * i + j < 400 + 80 then _ else (if 80 * i + j < 400 then a1 (80 * i + j + 80) else a1 (80 * i + j))
        rw [if_neg (by omega), if_pos (by omega), show 80 * (i + 1) + j = 80 * i + j + 80 by omega]
end STATE
theorem hb3 {R : Nat → Option Nat} {hr : Nat → Nat} {c : Nat} (h : HR R hr) (hc : c ≤ 6) : 3 ≤ bs (hr c) := by
  obtain ⟨x1, x2, x3⟩ := h c (by omega)
  have hb := bs_in x2 (by omega : hr c < 10)
  omega
section STATE2
variable {A : Nat → Nat → Int32} {w : Nat → Int32} {c : Nat} {R R2 : Nat → Option Nat} {hr : Nat → Nat} {Z S : Nat → Nat → Int32} {s : Nat → Int32} {q : xHp} {P ty B : Nat} {X : xLC}
theorem tAt_0 {b : Nat} {z1 s1 : Nat → Int32} (hb : 3 ≤ b) (hX : q 0 = X) : tAt b z1 s1 q 0 = X := (tAt_lo hb (by omega)).trans hX
theorem fin_ok (hG : GB (A 0) P B) (hX : q 0 = X) (K : Kp (A 1) (A 2) (A 3) (A 4) (w 0) (w 1) c R R2 hr Z S q ty B) {r : Int32} (h0 : ¬ r < 0) {A' : Nat → Nat → Int32} {w' : Nat → Int32} (e1 : A' 1 = recP (A 0) (A 1) c) (e2 : A' 2 = A 2) (e3 : A' 3 = A 3) (e4 : A' 4 = A 4) (f0 : w' 0 = nI (if c = 6 then 6 else c + 1)) (f1 : w' 1 = w 1) {P' B' : Nat} (g : GB (A' 0) P' B') (hB : B ≤ B') (s' : Nat → Int32) : SG X B' (FF A' w' (A 4) (w 1) (nI (rcC r c)) (rcR r c R) R2 (A 3) (A' 0) s' (tAt (bs (hr c)) (A 0) s q)) := by
  have K2 := (K.ok h0 s hG).le hB
  obtain ⟨x1, x2, x3⟩ := K.2.2.1 c (by have := K.2.1; omega)
  have hb := bs_in x2 (by omega : hr c < 10)
  refine ⟨A', w', rcC r c, rcR r c R, R2, hr2 c hr, va_up Z (hr c) (A 0), va_up S (hr c) s, s', tAt (bs (hr c)) (A 0) s q, P', ty, ?_, g, tAt_0 (by omega) hX, ?_⟩
  · rw [e3, e4, f1]
  · rw [e1, e2, e3, e4, f0, f1]
    exact K2
theorem fin_err (hG : GB (A 0) P B) (hX : q 0 = X) (K : Kp (A 1) (A 2) (A 3) (A 4) (w 0) (w 1) c R R2 hr Z S q ty B) {B' : Nat} (hB : B ≤ B') (s' : Nat → Int32) : SG X B' (FF A w (A 4) (w 1) (nI c) R R2 (A 3) (A 0) s' (tAt (bs (hr c)) (A 0) s q)) := by
  obtain ⟨x1, x2, x3⟩ := K.2.2.1 c (by have := K.2.1; omega)
  have hb := bs_in x2 (by omega : hr c < 10)
  exact ⟨A, w, c, R, R2, hr, va_up Z (hr c) (A 0), va_up S (hr c) s, s', tAt (bs (hr c)) (A 0) s q, P, ty, rfl, hG.le hB, tAt_0 (by omega) hX, (K.err (A 0) s).le hB⟩
theorem fin_look (hG : GB (A 0) P B) (hX : q 0 = X) (K : Kp (A 1) (A 2) (A 3) (A 4) (w 0) (w 1) c R R2 hr Z S q ty B) {A' : Nat → Nat → Int32} {w' : Nat → Int32} (e0 : A' 0 = A 0) (e1 : A' 1 = A 1) (e2 : A' 2 = A 2) (e3 : A' 3 = A 3) (e4 : A' 4 = A 4) (f0 : w' 0 = w 0) (f1 : w' 1 = w 1) {B' : Nat} (hB : B ≤ B') : SG X B' (FF A' w' (A 4) (w 1) (nI c) R R2 (A 3) (A 0) s q) := by
  refine ⟨A', w', c, R, R2, hr, Z, S, s, q, P, ty, ?_, ?_, hX, ?_⟩
  · rw [e0, e3, e4, f1]
  · rw [e0]; exact hG.le hB
  · rw [e1, e2, e3, e4, f0, f1]
    exact K.le hB
end STATE2
/-! changes -/
section CALLS1
variable {X : xLC} {B : Nat} {hp : xHp}
theorem s_takeOut (h : SG X B hp) (x : Int32) : Both 63 115 [(1, .int x)] X B hp := by
  obtain ⟨A, w, c, R, R2, hr, Z, S, s, q, P, ty, rfl, hG, hX, K⟩ := h
  have hf := hG.1.2.2.2.2.1
  obtain ⟨r, z', s', t1, t2, t3⟩ := o_120 4 147 s (G := mOn A w (pOn (A 4) (w 1) (bO (nI c) R R2 (A 3) (tAt (bs (hr c)) (A 0) s q)))) hG x
  have b := b_takeOut 5 147 hr Z S K.2.2.1 K.2.2.2.2.2.1 c K.2.1 hf x r z' s' t1
  rcases t3 with ⟨a1, a2, c', c1, c2, c3, c4, c5⟩ | ⟨a1, a2, a3⟩
  · subst c2; subst c4
    exact ⟨r, _, _, b, Rn.val (by rw [c5]; exact toZ_o c' (by omega) (by omega)) (c_takeOut 6 147 A w _ c K.1 K.2.1 c' c1 c3), fin_ok hG hX K a2 (A' := va_up (rA A c) 0 (toZ (A 0) c')) (w' := rW w c) rfl rfl rfl rfl rfl rfl (t2.le (by omega)) (by omega) s', (FF_q (Or.inl (by omega))).trans (tAt_0 (hb3 K.2.2.1 K.2.1) hX), ⟨_, rfl⟩⟩
  · subst a3; subst a2
    rw [(rc_neg (R := R) (by decide)).1, (rc_neg (by decide)).2] at b
    exact ⟨-1, _, _, b, c_takeOut_bad 6 147 A w _ x a1, fin_err hG hX K (by omega) s', (FF_q (Or.inl (by omega))).trans (tAt_0 (hb3 K.2.2.1 K.2.1) hX), ⟨_, rfl⟩⟩
theorem s_refill (h : SG X B hp) (x : Int32) : Both 67 127 [(1, .int x)] X B hp := by
  obtain ⟨A, w, c, R, R2, hr, Z, S, s, q, P, ty, rfl, hG, hX, K⟩ := h
  have hf := hG.1.2.2.2.2.1
  obtain ⟨r, z', s', t1, t2, t3⟩ := o_102 4 147 s (G := mOn A w (pOn (A 4) (w 1) (bO (nI c) R R2 (A 3) (tAt (bs (hr c)) (A 0) s q)))) hG x
  have b := b_refill 5 147 hr Z S K.2.2.1 K.2.2.2.2.2.1 c K.2.1 hf x r z' s' t1
  rcases t3 with ⟨a1, a2, c', c1, c2, c3, c4, c5⟩ | ⟨a1, a2, a3⟩
  · subst c2; subst c4
    exact ⟨r, _, _, b, Rn.val c5.symm (c_refill 5 147 A w _ c K.1 K.2.1 c' c1 c3), fin_ok hG hX K a2 (A' := va_up (rA A c) 0 (refZ (A 0) c')) (w' := rW w c) rfl rfl rfl rfl rfl rfl (t2.le (by omega)) (by omega) s', (FF_q (Or.inl (by omega))).trans (tAt_0 (hb3 K.2.2.1 K.2.1) hX), ⟨_, rfl⟩⟩
  · subst a3; subst a2
    rw [(rc_neg (R := R) (by decide)).1, (rc_neg (by decide)).2] at b
    exact ⟨-1, _, _, b, c_refill_bad 6 147 A w _ x a1, fin_err hG hX K (by omega) s', (FF_q (Or.inl (by omega))).trans (tAt_0 (hb3 K.2.2.1 K.2.1) hX), ⟨_, rfl⟩⟩
theorem s_snap (h : SG X B hp) (x : Int32) : Both 65 123 [(1, .int x)] X B hp := by
  obtain ⟨A, w, c, R, R2, hr, Z, S, s, q, P, ty, rfl, hG, hX, K⟩ := h
  have hf := hG.1.2.2.2.2.1
  obtain ⟨r, z', s', t1, t2, t3⟩ := o_98 4 147 s (G := mOn A w (pOn (A 4) (w 1) (bO (nI c) R R2 (A 3) (tAt (bs (hr c)) (A 0) s q)))) hG x
  have b := b_snap 5 147 hr Z S K.2.2.1 K.2.2.2.2.2.1 c K.2.1 hf x r z' s' t1
  rcases t3 with ⟨a1, a2, c', c1, c2, c3, c4, c5⟩ | ⟨a1, a2, a3⟩
  · subst c2; subst c4
    exact ⟨r, _, _, b, Rn.val c5.symm (c_snap 5 147 A w _ c K.1 K.2.1 c' c1 (by rw [a1]; decide)), fin_ok hG hX K a2 (A' := va_up (rA A c) 0 (upd (A 0) (10 + 7 * c' + 2) 1)) (w' := rW w c) rfl rfl rfl rfl rfl rfl (t2.le (by omega)) (by omega) s', (FF_q (Or.inl (by omega))).trans (tAt_0 (hb3 K.2.2.1 K.2.1) hX), ⟨_, rfl⟩⟩
  · subst a3; subst a2
    rw [(rc_neg (R := R) a1).1, (rc_neg a1).2] at b
    exact ⟨_, _, _, b, c_snap_bad 5 147 A w _ x a1, fin_err hG hX K (by omega) s', (FF_q (Or.inl (by omega))).trans (tAt_0 (hb3 K.2.2.1 K.2.1) hX), ⟨_, rfl⟩⟩
theorem s_tie (h : SG X B hp) (hB : B ≤ 900000) (x : Int32) : Both 66 125 [(1, .int x)] X B hp := by
  obtain ⟨A, w, c, R, R2, hr, Z, S, s, q, P, ty, rfl, hG, hX, K⟩ := h
  have hf := hG.1.2.2.2.2.1
  obtain ⟨r, z', s', t1, t2, t3⟩ := o_107 4 147 s (G := mOn A w (pOn (A 4) (w 1) (bO (nI c) R R2 (A 3) (tAt (bs (hr c)) (A 0) s q)))) hG (by omega) x
  have b := b_tie 5 147 hr Z S K.2.2.1 K.2.2.2.2.2.1 c K.2.1 hf x r z' s' t1
  rcases t3 with ⟨a1, a2, c', c1, c2, c3, c4, c5⟩ | ⟨a1, a2, a3⟩
  · subst c2; subst c4
    exact ⟨r, _, _, b, Rn.val c5.symm (c_tie 5 147 A w _ c K.1 K.2.1 c' c1 (by rw [a1]; decide)), fin_ok hG hX K a2 (A' := va_up (rA A c) 0 (tieZ (A 0) c')) (w' := rW w c) rfl rfl rfl rfl rfl rfl (t2.le (by omega)) (by omega) s', (FF_q (Or.inl (by omega))).trans (tAt_0 (hb3 K.2.2.1 K.2.1) hX), ⟨_, rfl⟩⟩
  · subst a3; subst a2
    rw [(rc_neg (R := R) a1).1, (rc_neg a1).2] at b
    exact ⟨_, _, _, b, c_tie_bad 5 147 A w _ x a1, fin_err hG hX K (by omega) s', (FF_q (Or.inl (by omega))).trans (tAt_0 (hb3 K.2.2.1 K.2.1) hX), ⟨_, rfl⟩⟩
theorem hne_of {z : Nat → Int32} {P : Nat} (h : GP z P) : ¬ 2 * z 0 = 0 := x2ne h.1 h.2.1 h.2.2.1
theorem s_carrier (h : SG X B hp) (x y : Int32) : Both 62 113 [(1, .int x), (2, .int y)] X B hp := by
  obtain ⟨A, w, c, R, R2, hr, Z, S, s, q, P, ty, rfl, hG, hX, K⟩ := h
  have hf := hG.1.2.2.2.2.1
  have hne := hne_of hG.1
  obtain ⟨r, z', s', t1, t2, t3⟩ := o_99 4 147 s (G := mOn A w (pOn (A 4) (w 1) (bO (nI c) R R2 (A 3) (tAt (bs (hr c)) (A 0) s q)))) hG x y
  have b := b_carrier 5 147 hr Z S K.2.2.1 K.2.2.2.2.2.1 c K.2.1 hf x y r z' s' t1
  rcases t3 with ⟨a1, a2, c1, c2, c3, c4, c5⟩ | ⟨a1, a2, a3⟩
  · subst c4
    exact ⟨r, _, _, b, Rn.val c5.symm (c_carrier 3 147 A w _ c K.1 K.2.1 hne x y (by rw [a1]; decide) (ffree (A 0)) c1 c2 c3), fin_ok hG hX K a2 (A' := va_up (rA A c) 0 (newZ (A 0) (ffree (A 0)) (4 * x + y))) (w' := rW w c) rfl rfl rfl rfl rfl rfl (t2.le (by omega)) (by omega) s', (FF_q (Or.inl (by omega))).trans (tAt_0 (hb3 K.2.2.1 K.2.1) hX), ⟨_, rfl⟩⟩
  · subst a3; subst a2
    rw [(rc_neg (R := R) a1).1, (rc_neg a1).2] at b
    exact ⟨_, _, _, b, c_carrier_bad 3 147 A w _ hne x y a1, fin_err hG hX K (by omega) s', (FF_q (Or.inl (by omega))).trans (tAt_0 (hb3 K.2.2.1 K.2.1) hX), ⟨_, rfl⟩⟩
theorem s_run (h : SG X B hp) (x : Int32) : Both 64 121 [(1, .int x)] X B hp := by
  obtain ⟨A, w, c, R, R2, hr, Z, S, s, q, P, ty, rfl, hG, hX, K⟩ := h
  have hf := hG.1.2.2.2.2.1
  obtain ⟨r, z', s', t1, t2, t3⟩ := o_114 4 147 s (G := mOn A w (pOn (A 4) (w 1) (bO (nI c) R R2 (A 3) (tAt (bs (hr c)) (A 0) s q)))) hG (G2_of ((tAt_lo (by
    obtain ⟨x1, x2, x3⟩ := K.2.2.1 c (by have := K.2.1; omega)
    have hb := bs_in x2 (by omega : hr c < 10)
    omega) (by omega)).trans K.2.2.2.2.2.2.2.1) _) x
  have b := b_run 4 147 hr Z S K.2.2.1 K.2.2.2.2.2.1 c K.2.1 hf x r z' s' t1
  rcases t3 with ⟨a1, a2, N, n1, n2, c3, c4, c5⟩ | ⟨a1, a2, a3⟩
  · subst c3; subst c4
    obtain ⟨a', x', m⟩ := c_run 3 147 A w (pOn (A 4) (w 1) (bO (nI (rcC r c)) (rcR r c R) R2 (A 3) (tOn (runZ P N (A 0)).2 s' (tAt (bs (hr c)) (A 0) s q)))) c K.1 K.2.1 P hG.1.1 hG.1.2.1 hG.1.2.2.1 N n2 (by rw [a1]; decide)
    exact ⟨r, _, _, b, Rn.val c5.symm m, fin_ok hG hX K a2 (A' := mZ (rA A c) (runZ P N (A 0)).2 a') (w' := upd (rW w c) 2 x') rfl rfl rfl rfl rfl rfl (t2.le (by omega)) (by omega) s', (FF_q (Or.inl (by omega))).trans (tAt_0 (hb3 K.2.2.1 K.2.1) hX), ⟨_, rfl⟩⟩
  · subst a3; subst a2
    rw [(rc_neg (R := R) a1).1, (rc_neg a1).2] at b
    exact ⟨_, _, _, b, c_run_bad 3 147 A w _ x a1, fin_err hG hX K (by omega) s', (FF_q (Or.inl (by omega))).trans (tAt_0 (hb3 K.2.2.1 K.2.1) hX), ⟨_, rfl⟩⟩
theorem many_0 {z : Nat → Int32} : ∀ c, ∃ k, k ≤ c ∧ mMany z c = nI k ∧ (k = 0 → ∀ j, j < c → zt z j = false) := by
  intro c
  induction c with
  | zero => exact ⟨0, Nat.le_refl _, rfl, fun _ j h => by omega⟩
  | succ c ih =>
    obtain ⟨k, k1, k2, k3⟩ := ih
    unfold mMany
    rw [k2]
    cases hz : zt z c with
    | false =>
      refine ⟨k, by omega, Int32.add_zero _, fun q j hj => ?_⟩
      by_cases e : j = c
      · subst e; exact hz
      · exact k3 q j (by omega)
    | true => exact ⟨k + 1, by omega, nI_1 k, fun q => by omega⟩
theorem isV_or {x y : Int32} (h : isV x y = true) : x = 0 ∨ x = 1 ∨ x = 2 := by
  unfold isV at h
  by_cases g0 : x = 0
  · exact Or.inl g0
  · by_cases g1 : x = 1
    · exact Or.inr (Or.inl g1)
    · rw [if_neg g0, if_neg g1, Bool.and_eq_true, decide_eq_true_eq] at h
      exact Or.inr (Or.inr h.1)
theorem s_set (h : SG X B hp) (x y : Int32) : Both 61 107 [(1, .int x), (2, .int y)] X B hp := by
  obtain ⟨A, w, c, R, R2, hr, Z, S, s, q, P, ty, rfl, hG, hX, K⟩ := h
  have hf := hG.1.2.2.2.2.1
  have h3 : 3 ≤ bs (hr c) := by
    obtain ⟨x1, x2, x3⟩ := K.2.2.1 c (by have := K.2.1; omega)
    have hb := bs_in x2 (by omega : hr c < 10)
    omega
  have g1 := G1_of (A := A) (w := w) (p := A 4) (ch := nI c) (R := R) (R2 := R2) (sv := A 3) ((tAt_lo (z1 := A 0) (s1 := s) h3 (by omega)).trans K.2.2.2.2.2.2.1) (w 1)
  have g2 := G2_of (A := A) (w := w) (p := A 4) (ch := nI c) (R := R) (R2 := R2) (sv := A 3) ((tAt_lo (z1 := A 0) (s1 := s) h3 (by omega)).trans K.2.2.2.2.2.2.2.1) (w 1)
  have hb := fun r z' s' => b_set (z := A 0) (s := s) (A := A) (w := w) (p := A 4) (ln := w 1) (R2 := R2) (sv := A 3) 5 147 hr Z S K.2.2.1 K.2.2.2.2.2.1 c K.2.1 hf x y r z' s'
  cases hv : isV x y with
  | false =>
    have b := hb (-2) (A 0) s (t_cs_bad 6 147 (A 0) s _ g1 g2 x y hv)
    rw [(rc_neg (R := R) (by decide)).1, (rc_neg (by decide)).2] at b
    exact ⟨-2, _, _, b, c_set_bad 6 147 A w _ x y hv, fin_err hG hX K (by omega) s, (FF_q (Or.inl (by omega))).trans (tAt_0 (hb3 K.2.2.1 K.2.1) hX), ⟨_, rfl⟩⟩
  | true =>
    obtain ⟨m, m1, m2, m3⟩ := many_0 (z := A 0) 10
    rcases isV_or hv with e | e | e
    · subst e
      by_cases hm : 0 < mMany (A 0) 10
      · have b := hb (-5) (A 0) s (t_cs_not 6 147 (A 0) s _ g1 g2 y hv (fun e => (set_many (A 0)).2.mp e hm))
        rw [(rc_neg (R := R) (by decide)).1, (rc_neg (by decide)).2] at b
        exact ⟨-5, _, _, b, c_set_not 5 147 A w _ y hv hm, fin_err hG hX K (by omega) s, (FF_q (Or.inl (by omega))).trans (tAt_0 (hb3 K.2.2.1 K.2.1) hX), ⟨_, rfl⟩⟩
      · have b := hb (A 0 0) (upd (A 0) 0 y) s (t_cs_0 6 147 (A 0) s _ g1 g2 y hv ((set_many (A 0)).2.mpr hm))
        have hz : ∀ j, j < 10 → zt (A 0) j = false := m3 (by
          rcases Nat.eq_zero_or_pos m with q | q
          · exact q
          · exact (hm (by rw [m2]; exact nI_lt (a := 0) q (by omega))).elim)
        have hy : 2 ≤ y ∧ y ≤ 6 := of_decide_eq_true hv
        obtain ⟨P', p1, p2⟩ := nI_of2 (M := 6) (n := 6) rfl (Int32.not_lt.mpr (Int32.le_trans (show (0 : Int32) ≤ 2 by decide) hy.1)) hy.2
        have p3 : 2 ≤ P' := by
          have := hy.1
          rw [p2] at this
          exact (nI_leI (a := 2) (by omega) (by omega)).mp this
        have zf : ∀ j, j < 10 → zt (upd (A 0) 0 y) j = false := fun j hj => by rw [zt_ne (by omega)]; exact hz j hj
        have gp : GP (upd (A 0) 0 y) P' := by
          refine ⟨upd_eq.trans p2, p3, p1, fun c hc q => ?_, fun c hc => ?_, fun c e hc he q => ?_, fun c hc => ?_, ?_⟩
          · rw [zf c hc] at q; cases q
          · rw [upd_ne (by omega)]; exact hf c hc
          · rw [zf c hc] at q; cases q
          · rw [upd_ne (by omega)]; exact hG.1.2.2.2.2.2.2.1 c hc
          · obtain ⟨v, v1, v2⟩ := hG.1.2.2.2.2.2.2.2
            exact ⟨v, v1, (upd_ne (by omega)).trans v2⟩
        have gb : GB (upd (A 0) 0 y) P' (B + 28) := ⟨gp, hG.2.cg (upd_ne (by omega)) (upd_ne (by omega)) (by omega)⟩
        exact ⟨_, _, _, b, c_set 5 147 A w _ c K.1 K.2.1 0 (by omega) y hv (fun _ => hm), fin_ok hG hX K (by rw [hG.1.1]; have := hG.1.2.2.1; exact nI_pos (by omega)) (A' := va_up (rA A c) 0 (upd (A 0) 0 y)) (w' := rW w c) rfl rfl rfl rfl rfl rfl gb (by omega) s, (FF_q (Or.inl (by omega))).trans (tAt_0 (hb3 K.2.2.1 K.2.1) hX), ⟨_, rfl⟩⟩
    · subst e
      have b := hb (A 0 1) (upd (A 0) 1 y) s (t_cs_1 6 147 (A 0) s _ g1 g2 y hv)
      have hy : 1 ≤ y ∧ y ≤ 9 := of_decide_eq_true hv
      obtain ⟨v, v1, v2⟩ := nI_of2 (M := 9) (n := 9) rfl (Int32.not_lt.mpr (Int32.le_trans (show (0 : Int32) ≤ 1 by decide) hy.1)) hy.2
      obtain ⟨u, u1, u2⟩ := hG.2.1
      obtain ⟨k, k1, k2⟩ := hG.2.2
      have gb : GB (upd (A 0) 1 y) P (B + 28) := ⟨hG.1.cg (upd_ne (by omega)) (upd_ne (by omega)) (fun e he i hi => upd_ne (by omega)), ⟨v, v1, upd_eq.trans v2⟩, k, by omega, (upd_ne (by omega)).trans k2⟩
      exact ⟨_, _, _, b, c_set 5 147 A w _ c K.1 K.2.1 1 (by omega) y hv (fun q => by omega), fin_ok hG hX K (by rw [u2]; exact nI_pos (by omega)) (A' := va_up (rA A c) 0 (upd (A 0) 1 y)) (w' := rW w c) rfl rfl rfl rfl rfl rfl gb (by omega) s, (FF_q (Or.inl (by omega))).trans (tAt_0 (hb3 K.2.2.1 K.2.1) hX), ⟨_, rfl⟩⟩
    · subst e
      have b := hb (A 0 2) (upd (A 0) 2 y) s (t_cs_2 6 147 (A 0) s _ g1 g2 y hv)
      have hy : 1 ≤ y ∧ y ≤ 999 := by
        unfold isV at hv
        rw [if_neg (by decide), if_neg (by decide), Bool.and_eq_true, decide_eq_true_eq, decide_eq_true_eq] at hv
        exact hv.2
      obtain ⟨v, v1, v2⟩ := nI_of2 (M := 999) (n := 999) rfl (Int32.not_lt.mpr (Int32.le_trans (show (0 : Int32) ≤ 1 by decide) hy.1)) hy.2
      obtain ⟨u, u1, u2⟩ := hG.1.2.2.2.2.2.2.2
      have gp : GP (upd (A 0) 2 y) P := by
        obtain ⟨b0, b1, b2, b3, b4, b5, b6, b7⟩ := hG.1
        refine ⟨(upd_ne (by omega)).trans b0, b1, b2, fun c hc q => ?_, fun c hc => ?_, fun c e hc he q1 q2 => ?_, fun c hc => ?_, ⟨v, v1, upd_eq.trans v2⟩⟩
        · rw [zt_ne (by omega)] at q; rw [upd_ne (by omega)]; exact b3 c hc q
        · rw [upd_ne (by omega)]; exact b4 c hc
        · rw [zt_ne (by omega)] at q1 q2; rw [upd_ne (by omega), upd_ne (by omega)]; exact b5 c e hc he q1 q2
        · rw [upd_ne (by omega)]; exact b6 c hc
      have gb : GB (upd (A 0) 2 y) P (B + 28) := ⟨gp, hG.2.cg (upd_ne (by omega)) (upd_ne (by omega)) (by omega)⟩
      exact ⟨_, _, _, b, c_set 5 147 A w _ c K.1 K.2.1 2 (by omega) y hv (fun q => by omega), fin_ok hG hX K (by rw [u2]; exact nI_pos (by omega)) (A' := va_up (rA A c) 0 (upd (A 0) 2 y)) (w' := rW w c) rfl rfl rfl rfl rfl rfl gb (by omega) s, (FF_q (Or.inl (by omega))).trans (tAt_0 (hb3 K.2.2.1 K.2.1) hX), ⟨_, rfl⟩⟩
end CALLS1
