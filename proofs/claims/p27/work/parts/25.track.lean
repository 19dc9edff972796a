/-! changes of the track (of whole's part 34 what does not speak of the reference) -/
def KB (z : Nat → Int32) (B : Nat) : Prop := (∃ v, v ≤ 9 ∧ z 1 = nI v) ∧ ∃ k, k ≤ B ∧ z 5 = nI k
def GB (z : Nat → Int32) (P B : Nat) : Prop := GP z P ∧ KB z B
section TRACK
variable {z : Nat → Int32} {P B : Nat}
theorem KB.cg {z' : Nat → Int32} (h : KB z B) (h1 : z' 1 = z 1) (h5 : z' 5 = z 5) {B' : Nat} (hB : B ≤ B') : KB z' B' := by
  obtain ⟨⟨v, v1, v2⟩, k, k1, k2⟩ := h
  exact ⟨⟨v, v1, h1.trans v2⟩, k, by omega, h5.trans k2⟩
theorem GB.le (h : GB z P B) {B' : Nat} (hB : B ≤ B') : GB z P B' := ⟨h.1, h.2.cg rfl rfl hB⟩
theorem GP.mk {z' : Nat → Int32} (h : GP z P) (c : Nat) (h0 : z' 0 = z 0) (hF : z' 2 = z 2) (hs : ∀ e, e < 10 → ¬ e = c → ∀ i, i < 3 → z' (10 + 7 * e + i) = z (10 + 7 * e + i)) (hin : zt z' c = true → ∃ q, q < 8 * P ∧ z' (10 + 7 * c) = nI q ∧ ∀ e, e < 10 → ¬ e = c → zt z e = true → ¬ z (10 + 7 * e) = nI q) (hfl : z' (10 + 7 * c + 2) = 0 ∨ z' (10 + 7 * c + 2) = 1) (hel : ∃ v, v ≤ 999 ∧ z' (10 + 7 * c + 1) = nI v) : GP z' P := by
  obtain ⟨a0, a2, a6, ai, af, ad, ae, av⟩ := h
  have s0 : ∀ e, e < 10 → ¬ e = c → z' (10 + 7 * e) = z (10 + 7 * e) := fun e he hn => hs e he hn 0 (by omega)
  have zs : ∀ e, e < 10 → ¬ e = c → zt z' e = zt z e := fun e he hn => by unfold zt; rw [s0 e he hn]
  refine ⟨h0.trans a0, a2, a6, fun e he hz => ?_, fun e he => ?_, fun e u he hu hz hw q => ?_, fun e he => ?_, ?_⟩
  · by_cases g : e = c
    · subst g
      obtain ⟨q, q1, q2, _⟩ := hin hz
      exact ⟨q, q1, q2⟩
    · rw [zs e he g] at hz
      rw [s0 e he g]
      exact ai e he hz
  · by_cases g : e = c
    · subst g; exact hfl
    · rw [hs e he g 2 (by omega)]; exact af e he
  · by_cases g : e = c
    · by_cases g2 : u = c
      · rw [g, g2]
      · subst g
        obtain ⟨x, q1, q2, q3⟩ := hin hz
        rw [zs u hu g2] at hw
        rw [q2, s0 u hu g2] at q
        exact (q3 u hu g2 hw q.symm).elim
    · by_cases g2 : u = c
      · subst g2
        obtain ⟨x, q1, q2, q3⟩ := hin hw
        rw [zs e he g] at hz
        rw [q2, s0 e he g] at q
        exact (q3 e he g hz q).elim
      · rw [zs e he g] at hz
        rw [zs u hu g2] at hw
        rw [s0 e he g, s0 u hu g2] at q
        exact ad e u he hu hz hw q
  · by_cases g : e = c
    · subst g; exact hel
    · rw [hs e he g 1 (by omega)]; exact ae e he
  · obtain ⟨v, v1, v2⟩ := av
    exact ⟨v, v1, hF.trans v2⟩
theorem GP.cg {z' : Nat → Int32} (h : GP z P) (h0 : z' 0 = z 0) (hF : z' 2 = z 2) (hs : ∀ e, e < 10 → ∀ i, i < 3 → z' (10 + 7 * e + i) = z (10 + 7 * e + i)) : GP z' P := by
  have hh := h
  obtain ⟨a0, a2, a6, ai, af, ad, ae, av⟩ := hh
  have e0 : z' (10 + 7 * 0) = z (10 + 7 * 0) := hs 0 (by omega) 0 (by omega)
  have ez : zt z' 0 = zt z 0 := by unfold zt; rw [e0]
  refine h.mk 0 h0 hF (fun e he _ => hs e he) (fun hz => ?_) ?_ ?_
  · rw [ez] at hz
    obtain ⟨q, q1, q2⟩ := ai 0 (by omega) hz
    exact ⟨q, q1, e0.trans q2, fun e he hn hw g => hn (ad e 0 he (by omega) hw hz (g.trans q2.symm))⟩
  · rw [hs 0 (by omega) 2 (by omega)]; exact af 0 (by omega)
  · rw [hs 0 (by omega) 1 (by omega)]; exact ae 0 (by omega)
def E80s (a b : Nat → Int32) : Prop := ∀ j, j < 80 → a j = b j
theorem GP.e80 {z' : Nat → Int32} (h : GP z P) (e : E80 z z') : GP z' P := h.cg (e 0 (by omega)).symm (e 2 (by omega)).symm (fun c hc i hi => (e _ (by omega)).symm)
theorem GB.e80 {z' : Nat → Int32} (h : GB z P B) (e : E80 z z') : GB z' P B := ⟨h.1.e80 e, h.2.cg (e 1 (by omega)).symm (e 5 (by omega)).symm (Nat.le_refl _)⟩
theorem GP.u9 (h : GP z P) (x : Int32) : GP (upd z 9 x) P := h.cg (upd_ne (by omega)) (upd_ne (by omega)) (fun c hc i hi => upd_ne (by omega))
theorem hi0_el (h : GP z P) (h0 : hiF z = 0) : ∀ c, c < 10 → zt z c = true → ∃ v, v + 1 ≤ 999 ∧ z (10 + 7 * c + 1) = nI (v + 1) := by
  intro c hc hz
  obtain ⟨u, u1, u2, u3⟩ := le_emp h.2.2.2.2.2.2.1 10 (Nat.le_refl _)
  have hm : mEmp z 10 = false := by
    cases g : mEmp z 10 with
    | false => rfl
    | true =>
      exfalso
      have e := u3.mpr g
      subst e
      unfold hiF at h0
      by_cases g1 : tkF z 10 = 0
      · rw [if_pos g1] at h0; exact absurd h0 (by decide)
      · rw [if_neg g1] at h0
        by_cases g2 : 0 < mSum z 2 10
        · rw [if_pos g2] at h0; exact absurd h0 (by decide)
        · rw [if_neg g2, if_pos (show leF2 z 10 = 0 from u2)] at h0; exact absurd h0 (by decide)
  have ha : ∀ n, mEmp z n = false → ∀ e, e < n → zt z e = true → ¬ z (10 + 7 * e + 1) = 0 := by
    intro n
    induction n with
    | zero => intro _ e he; omega
    | succ n ih =>
      intro g e he hw q
      unfold mEmp at g
      rw [Bool.or_eq_false_iff] at g
      by_cases q1 : e = n
      · subst q1
        rw [hw, decide_eq_true q] at g
        exact absurd g.2 (by decide)
      · exact ih g.1 e (by omega) hw q
  obtain ⟨v, v1, v2⟩ := h.2.2.2.2.2.2.1 c hc
  have hv : ¬ v = 0 := fun q => ha 10 hm c hc hz (by rw [v2, q]; rfl)
  exact ⟨v - 1, by omega, by rw [v2]; congr 1; omega⟩
theorem GP.st (h : GP z P) (h0 : hiF z = 0) : GP (stF z) P := by
  have hh := h
  obtain ⟨a0, a2, a6, ai, af, ad, ae, av⟩ := hh
  have f2 : stF z 2 = z 2 := by
    unfold stF
    rw [upd_ne (by omega), upd_ne (by omega)]
    exact stZ_lo z 10 2 (by omega)
  refine ⟨(stF_0 z).trans a0, a2, a6, stF_In a0 a2 a6 ai, stF_Fl af, fun c e hc he hz hw q => ?_, fun c hc => ?_, ?_⟩
  · rw [stF_zt a0 a2 a6 ai hc] at hz
    rw [stF_zt a0 a2 a6 ai he] at hw
    obtain ⟨x, x1, x2, x3, x4⟩ := stF_in a0 a2 a6 ai hc hz
    obtain ⟨y, y1, y2, y3, y4⟩ := stF_in a0 a2 a6 ai he hw
    rw [x3, y3] at q
    have q1 := (nI_eq (by omega) (by omega)).mp q
    have t1 := (perm_ok a2 a6 x1).2.2.1
    have t2 := (perm_ok a2 a6 y1).2.2.1
    have q2 := st_inj a2 a6 x1 y1 (so_inj a2 a6 t1 t2 q1)
    exact ad c e hc he hz hw (by rw [x2, y2, q2])
  · rw [stF_el z hc]
    cases hz : zt z c with
    | false => exact ae c hc
    | true =>
      obtain ⟨v, v1, v2⟩ := hi0_el h h0 c hc hz
      exact ⟨v, by omega, by show z (10 + 7 * c + 1) - 1 = nI v; rw [v2, nI_pred]⟩
  · obtain ⟨v, v1, v2⟩ := av
    exact ⟨v, v1, f2.trans v2⟩
theorem hi_u9 (z : Nat → Int32) (h : GP z P) (x : Int32) : hiF (upd z 9 x) = hiF z := by
  have e0 : ∀ c, zt (upd z 9 x) c = zt z c := fun c => zt_ne (by omega)
  have e1 : ∀ n, tkF (upd z 9 x) n = tkF z n := by
    intro n
    induction n with
    | zero => rfl
    | succ n ih => unfold tkF; rw [e0, ih, upd_ne (by omega)]
  have e2 : ∀ n, mSum (upd z 9 x) 2 n = mSum z 2 n := by
    intro n
    induction n with
    | zero => rfl
    | succ n ih => unfold mSum; rw [e0, ih, upd_ne (by omega)]
  have e3 : ∀ n, leF2 (upd z 9 x) n = leF2 z n := by
    intro n
    induction n with
    | zero => rfl
    | succ n ih => unfold leF2; rw [e0, ih, upd_ne (by omega)]
  unfold hiF
  rw [e1, e2, e3, upd_ne (by omega)]
theorem stF_lo (z : Nat → Int32) {j : Nat} (h : j = 1 ∨ j = 5) : stF z j = z j := by
  unfold stF
  rw [upd_ne (by omega), upd_ne (by omega)]
  exact stZ_lo z 10 j (by omega)
theorem stF_9 (z : Nat → Int32) : stF z 9 = z 9 := by
  unfold stF
  rw [upd_ne (by omega), upd_ne (by omega)]
  have key : ∀ c, stZ z c 9 = z 9 := by
    intro c
    induction c with
    | zero => rfl
    | succ c ih =>
      unfold stZ
      cases zt (stZ z c) c with
      | false => exact ih
      | true => exact (stC_out (by omega) (by omega)).trans ih
  exact key 10
theorem ad_gb : ∀ (r k : Nat) (z : Nat → Int32), GB z P B → GB (adF r k z).2 P B ∧ k ≤ (adF r k z).1 ∧ (adF r k z).1 ≤ k + r := by
  intro r
  induction r with
  | zero => intro k z h; exact ⟨h, Nat.le_refl _, Nat.le_refl _⟩
  | succ r ih =>
    intro k z h
    unfold adF
    by_cases g : hiF z = 0
    · rw [if_pos g]
      have hg := ih (k + 1) (stF (upd z 9 (hiF z))) ⟨(h.1.u9 _).st (by rw [hi_u9 z h.1]; exact g), h.2.cg ((stF_lo _ (Or.inl rfl)).trans (upd_ne (by omega))) ((stF_lo _ (Or.inr rfl)).trans (upd_ne (by omega))) (Nat.le_refl _)⟩
      exact ⟨hg.1, by omega, by omega⟩
    · rw [if_neg g]
      exact ⟨⟨h.1.u9 _, h.2.cg (upd_ne (by omega)) (upd_ne (by omega)) (Nat.le_refl _)⟩, Nat.le_refl _, by omega⟩
theorem fl_sum (hf : Fl z) : ∀ c, c ≤ 10 → ∃ k, k ≤ c ∧ mSum z 2 c = nI k := by
  intro c
  induction c with
  | zero => intro _; exact ⟨0, Nat.le_refl _, rfl⟩
  | succ c ih =>
    intro hc
    obtain ⟨k, k1, k2⟩ := ih (by omega)
    unfold mSum
    rw [k2]
    cases zt z c with
    | false => exact ⟨k, by omega, Int32.add_zero _⟩
    | true =>
      rcases hf c (by omega) with e | e
      · exact ⟨k, by omega, by show nI k + z (10 + 7 * c + 2) = _; rw [e, Int32.add_zero]⟩
      · exact ⟨k + 1, by omega, by show nI k + z (10 + 7 * c + 2) = _; rw [e, nI_1]⟩
theorem many_ok : ∀ c, ∃ k, k ≤ c ∧ mMany z c = nI k ∧ (k = c → ∀ j, j < c → zt z j = true) := by
  intro c
  induction c with
  | zero => exact ⟨0, Nat.le_refl _, rfl, fun _ j h => by omega⟩
  | succ c ih =>
    obtain ⟨k, k1, k2, k3⟩ := ih
    unfold mMany
    rw [k2]
    cases hz : zt z c with
    | false => exact ⟨k, by omega, Int32.add_zero _, fun q => by omega⟩
    | true =>
      refine ⟨k + 1, by omega, nI_1 k, fun q j hj => ?_⟩
      by_cases e : j = c
      · subst e; exact hz
      · exact k3 (by omega) j (by omega)
theorem isPl_p (hP : z 0 = nI P) (h2 : 2 ≤ P) (h6 : P ≤ 6) {x q : Int32} (h : isPl (2 * z 0) x q = true) : ∃ p, p < 8 * P ∧ 4 * x + q = nI p := by
  unfold isPl at h
  rw [Bool.and_eq_true, decide_eq_true_eq, decide_eq_true_eq, hP, x2P, show nI (2 * P) - 1 = nI (2 * P - 1) from pk_sub (b := 1) (by omega)] at h
  obtain ⟨⟨a1, a2⟩, b1, b2⟩ := h
  obtain ⟨j, j1, j2⟩ := nI_of2 (M := nI (2 * P - 1)) (n := 2 * P - 1) (nI_toInt (by omega)) (Int32.not_lt.mpr a1) a2
  obtain ⟨k, k1, k2⟩ := nI_of2 (M := 3) (n := 3) rfl (Int32.not_lt.mpr b1) b2
  exact ⟨4 * j + k, by omega, by rw [j2, k2, show (4 : Int32) = nI 4 from rfl, pk_mul, nI_add]⟩
/-- values behind a carrier is put, taken out, refilled -/
theorem newZ_o (c : Nat) (p : Int32) {j : Nat} (h : j < 10 + 7 * c ∨ 10 + 7 * c + 7 ≤ j) (h7 : ¬ j = 7) : newZ z c p j = z j := by
  rw [newZ_beg, upd_ne h7]
  unfold begZ
  rw [upd_ne (by omega), upd_ne (by omega), layN_out h]
theorem newZ_0 (c : Nat) (p : Int32) : newZ z c p (10 + 7 * c) = p := by
  rw [newZ_beg, upd_ne (by omega)]
  unfold begZ
  rw [upd_ne (by omega), upd_eq]
theorem newZ_1 (c : Nat) (p : Int32) : newZ z c p (10 + 7 * c + 1) = z 2 := by
  rw [newZ_beg, upd_ne (by omega)]
  unfold begZ
  rw [upd_eq]
theorem newZ_2 (c : Nat) (p : Int32) : newZ z c p (10 + 7 * c + 2) = 0 := by
  rw [newZ_beg, upd_ne (by omega)]
  unfold begZ
  rw [upd_ne (by omega), upd_ne (by omega), layN_in (by omega)]
theorem GB.new (h : GB z P B) {c p : Nat} (hc : c < 10) (hp : p < 8 * P) (hf : ¬ p ∈ pl z 10) : GB (newZ z c (nI p)) P B := by
  obtain ⟨v, v1, v2⟩ := h.1.2.2.2.2.2.2.2
  refine ⟨h.1.mk c (newZ_o c _ (by omega) (by omega)) (newZ_o c _ (by omega) (by omega)) (fun e he hn i hi => newZ_o c _ (by omega) (by omega)) (fun _ => ⟨p, hp, newZ_0 c _, fun e he hn hz q => hf ?_⟩) (Or.inl (newZ_2 c _)) ⟨v, v1, (newZ_1 c _).trans v2⟩, h.2.cg (newZ_o c _ (by omega) (by omega)) (newZ_o c _ (by omega) (by omega)) (Nat.le_refl _)⟩
  have := h.1.2.2.1
  exact (pl_mem h.1.2.2.2.1 this (by omega) 10 (Nat.le_refl _)).mpr ⟨e, he, hz, q⟩
theorem toZ_o (c : Nat) {j : Nat} (h : ¬ j = 10 + 7 * c) (h6 : ¬ j = 6) : toZ z c j = z j := by
  unfold toZ
  rw [upd_ne (by omega), upd_ne h6]
theorem GB.to (h : GB z P B) {c : Nat} (hc : c < 10) : GB (toZ z c) P B := by
  refine ⟨h.1.mk c (toZ_o c (by omega) (by omega)) (toZ_o c (by omega) (by omega)) (fun e he hn i hi => toZ_o c (by omega) (by omega)) (fun q => ?_) ?_ ?_, h.2.cg (toZ_o c (by omega) (by omega)) (toZ_o c (by omega) (by omega)) (Nat.le_refl _)⟩
  · have e : toZ z c (10 + 7 * c) = -6 := upd_eq
    unfold zt at q
    rw [e] at q
    exact absurd q (by decide)
  · rw [toZ_o c (by omega) (by omega)]; exact h.1.2.2.2.2.1 c hc
  · rw [toZ_o c (by omega) (by omega)]; exact h.1.2.2.2.2.2.2.1 c hc
theorem refZ_o (c : Nat) {j : Nat} (h : ¬ j = 10 + 7 * c + 1) (h6 : ¬ j = 6) (h7 : ¬ j = 7) : refZ z c j = z j := by
  unfold refZ fillZ
  rw [upd_ne h7, upd_ne h, upd_ne h6]
theorem refZ_1 (c : Nat) : refZ z c (10 + 7 * c + 1) = z 2 := by
  unfold refZ fillZ
  rw [upd_ne (by omega), upd_eq, upd_ne (by omega)]
theorem GP.own (h : GP z P) {c : Nat} (hc : c < 10) {z' : Nat → Int32} (e : z' (10 + 7 * c) = z (10 + 7 * c)) (hz : zt z' c = true) : ∃ q, q < 8 * P ∧ z' (10 + 7 * c) = nI q ∧ ∀ e, e < 10 → ¬ e = c → zt z e = true → ¬ z (10 + 7 * e) = nI q := by
  have hz2 : zt z c = true := by unfold zt at hz ⊢; rw [← e]; exact hz
  obtain ⟨q, q1, q2⟩ := h.2.2.2.1 c hc hz2
  exact ⟨q, q1, e.trans q2, fun u hu hn hw g => hn (h.2.2.2.2.2.1 u c hu hc hw hz2 (g.trans q2.symm))⟩
theorem GB.ref (h : GB z P B) {c : Nat} (hc : c < 10) : GB (refZ z c) P B := by
  obtain ⟨v, v1, v2⟩ := h.1.2.2.2.2.2.2.2
  refine ⟨h.1.mk c (refZ_o c (by omega) (by omega) (by omega)) (refZ_o c (by omega) (by omega) (by omega)) (fun e he hn i hi => refZ_o c (by omega) (by omega) (by omega)) (h.1.own hc (refZ_o c (by omega) (by omega) (by omega))) ?_ ⟨v, v1, (refZ_1 c).trans v2⟩, h.2.cg (refZ_o c (by omega) (by omega) (by omega)) (refZ_o c (by omega) (by omega) (by omega)) (Nat.le_refl _)⟩
  rw [refZ_o c (by omega) (by omega) (by omega)]
  exact h.1.2.2.2.2.1 c hc
theorem GB.brk (h : GB z P B) {c : Nat} (hc : c < 10) : GB (upd z (10 + 7 * c + 2) 1) P B := by
  refine ⟨h.1.mk c (upd_ne (by omega)) (upd_ne (by omega)) (fun e he hn i hi => upd_ne (by omega)) (h.1.own hc (upd_ne (by omega))) (Or.inr upd_eq) ?_, h.2.cg (upd_ne (by omega)) (upd_ne (by omega)) (Nat.le_refl _)⟩
  rw [upd_ne (by omega)]
  exact h.1.2.2.2.2.2.2.1 c hc
theorem tieZ_o (c : Nat) {j : Nat} (h : ¬ j = 10 + 7 * c + 2) (h5 : ¬ j = 5) : tieZ z c j = z j := by
  unfold tieZ
  rw [upd_ne h5, upd_ne h]
theorem tieZ_5 (c : Nat) : tieZ z c 5 = z 5 + 1 := by
  unfold tieZ
  rw [upd_eq, upd_ne (by omega)]
theorem GB.tie (h : GB z P B) {c : Nat} (hc : c < 10) : GB (tieZ z c) P (B + 1) := by
  obtain ⟨⟨v, v1, v2⟩, k, k1, k2⟩ := h.2
  refine ⟨h.1.mk c (tieZ_o c (by omega) (by omega)) (tieZ_o c (by omega) (by omega)) (fun e he hn i hi => tieZ_o c (by omega) (by omega)) (h.1.own hc (tieZ_o c (by omega) (by omega))) (Or.inl ?_) ?_, ⟨v, v1, (tieZ_o c (by omega) (by omega)).trans v2⟩, k + 1, by omega, by rw [tieZ_5, k2, nI_1]⟩
  · unfold tieZ
    rw [upd_ne (by omega), upd_eq]
  · rw [tieZ_o c (by omega) (by omega)]
    exact h.1.2.2.2.2.2.2.1 c hc
end TRACK
