/-! changes of the track: the class and the reference alike -/
def KB (z : Nat → Int32) (B : Nat) : Prop := (∃ v, v ≤ 9 ∧ z 1 = nI v) ∧ ∃ k, k ≤ B ∧ z 5 = nI k
def GB (z : Nat → Int32) (P B : Nat) : Prop := GP z P ∧ KB z B
section TRACK
variable {z : Nat → Int32} {P B : Nat}
theorem KB.cg {z' : Nat → Int32} (h : KB z B) (h1 : z' 1 = z 1) (h5 : z' 5 = z 5) {B' : Nat} (hB : B ≤ B') : KB z' B' := by
  obtain ⟨⟨v, v1, v2⟩, k, k1, k2⟩ := h
  exact ⟨⟨v, v1, h1.trans v2⟩, k, by omega, h5.trans k2⟩
theorem GB.le (h : GB z P B) {B' : Nat} (hB : B ≤ B') : GB z P B' := ⟨h.1, h.2.cg rfl rfl hB⟩
theorem GP.mk {z' : Nat → Int32} (h : GP z P) (c : Nat) (h0 : z' 0 = z 0) (hF : z' 2 = z 2) (hs : ∀ e, e < 10 → ¬ e = c → ∀ i, i < 3 → z' (10 + 7 * e + i) = z (10 + 7 * e + i)) (hin : zt z' c = true → ∃ q, q < 8 * P ∧ z' (10 + 7 * c) = nI q ∧ ∀ e, e < 10 → ¬ e = c → zt z e = true → ¬ z (10 + 7 * e) = nI q) (hfl : z' (10 + 7 * c + 2) = 0 ∨ z' (10 + 7 * c + 2) = 1) (hel : ∃ v, v ≤ 999 ∧ z' (10 + 7 * c + 1) = nI v) : GP z' P := by
  obtain ⟨a0, a2, a6, ai, af, ad, ae, av⟩ := h
  have s0 : ∀ e, e < 10 → ¬ e = c → z' (10 + 7 * e) = z (10 + 7 * e) := fun e he hn => hs e he hn 0 (by omega)
  have zs : ∀ e, e < 10 → ¬ e = c → zt z' e = zt z e := fun e he hn => by unfold zt; rw [s0 e he hn]
  refine ⟨h0.trans a0, a2, a6, fun e he hz => ?_, fun e he => ?_, fun e u he hu hz hw q => ?_, fun e he => ?_, ?_⟩
  · by_cases g : e = c
    · subst g
      obtain ⟨q, q1, q2, _⟩ := hin hz
      exact ⟨q, q1, q2⟩
    · rw [zs e he g] at hz
      rw [s0 e he g]
      exact ai e he hz
  · by_cases g : e = c
    · subst g; exact hfl
    · rw [hs e he g 2 (by omega)]; exact af e he
  · by_cases g : e = c
    · by_cases g2 : u = c
      · rw [g, g2]
      · subst g
        obtain ⟨x, q1, q2, q3⟩ := hin hz
        rw [zs u hu g2] at hw
        rw [q2, s0 u hu g2] at q
        exact (q3 u hu g2 hw q.symm).elim
    · by_cases g2 : u = c
      · subst g2
        obtain ⟨x, q1, q2, q3⟩ := hin hw
        rw [zs e he g] at hz
        rw [q2, s0 e he g] at q
        exact (q3 e he g hz q).elim
      · rw [zs e he g] at hz
        rw [zs u hu g2] at hw
        rw [s0 e he g, s0 u hu g2] at q
        exact ad e u he hu hz hw q
  · by_cases g : e = c
    · subst g; exact hel
    · rw [hs e he g 1 (by omega)]; exact ae e he
  · obtain ⟨v, v1, v2⟩ := av
    exact ⟨v, v1, hF.trans v2⟩
theorem GP.cg {z' : Nat → Int32} (h : GP z P) (h0 : z' 0 = z 0) (hF : z' 2 = z 2) (hs : ∀ e, e < 10 → ∀ i, i < 3 → z' (10 + 7 * e + i) = z (10 + 7 * e + i)) : GP z' P := by
  have hh := h
  obtain ⟨a0, a2, a6, ai, af, ad, ae, av⟩ := hh
  have e0 : z' (10 + 7 * 0) = z (10 + 7 * 0) := hs 0 (by omega) 0 (by omega)
  have ez : zt z' 0 = zt z 0 := by unfold zt; rw [e0]
  refine h.mk 0 h0 hF (fun e he _ => hs e he) (fun hz => ?_) ?_ ?_
  · rw [ez] at hz
    obtain ⟨q, q1, q2⟩ := ai 0 (by omega) hz
    exact ⟨q, q1, e0.trans q2, fun e he hn hw g => hn (ad e 0 he (by omega) hw hz (g.trans q2.symm))⟩
  · rw [hs 0 (by omega) 2 (by omega)]; exact af 0 (by omega)
  · rw [hs 0 (by omega) 1 (by omega)]; exact ae 0 (by omega)
def E80s (a b : Nat → Int32) : Prop := ∀ j, j < 80 → a j = b j
theorem GP.e80 {z' : Nat → Int32} (h : GP z P) (e : E80 z z') : GP z' P := h.cg (e 0 (by omega)).symm (e 2 (by omega)).symm (fun c hc i hi => (e _ (by omega)).symm)
theorem GB.e80 {z' : Nat → Int32} (h : GB z P B) (e : E80 z z') : GB z' P B := ⟨h.1.e80 e, h.2.cg (e 1 (by omega)).symm (e 5 (by omega)).symm (Nat.le_refl _)⟩
theorem GP.u9 (h : GP z P) (x : Int32) : GP (upd z 9 x) P := h.cg (upd_ne (by omega)) (upd_ne (by omega)) (fun c hc i hi => upd_ne (by omega))
theorem hi0_el (h : GP z P) (h0 : hiF z = 0) : ∀ c, c < 10 → zt z c = true → ∃ v, v + 1 ≤ 999 ∧ z (10 + 7 * c + 1) = nI (v + 1) := by
  intro c hc hz
  obtain ⟨u, u1, u2, u3⟩ := le_emp h.2.2.2.2.2.2.1 10 (Nat.le_refl _)
  have hm : mEmp z 10 = false := by
    cases g : mEmp z 10 with
    | false => rfl
    | true =>
      exfalso
      have e := u3.mpr g
      subst e
      unfold hiF at h0
      by_cases g1 : tkF z 10 = 0
      · rw [if_pos g1] at h0; exact absurd h0 (by decide)
      · rw [if_neg g1] at h0
        by_cases g2 : 0 < mSum z 2 10
        · rw [if_pos g2] at h0; exact absurd h0 (by decide)
        · rw [if_neg g2, if_pos (show leF2 z 10 = 0 from u2)] at h0; exact absurd h0 (by decide)
  have ha : ∀ n, mEmp z n = false → ∀ e, e < n → zt z e = true → ¬ z (10 + 7 * e + 1) = 0 := by
    intro n
    induction n with
    | zero => intro _ e he; omega
    | succ n ih =>
      intro g e he hw q
      unfold mEmp at g
      rw [Bool.or_eq_false_iff] at g
      by_cases q1 : e = n
      · subst q1
        rw [hw, decide_eq_true q] at g
        exact absurd g.2 (by decide)
      · exact ih g.1 e (by omega) hw q
  obtain ⟨v, v1, v2⟩ := h.2.2.2.2.2.2.1 c hc
  have hv : ¬ v = 0 := fun q => ha 10 hm c hc hz (by rw [v2, q]; rfl)
  exact ⟨v - 1, by omega, by rw [v2]; congr 1; omega⟩
theorem GP.st (h : GP z P) (h0 : hiF z = 0) : GP (stF z) P := by
  have hh := h
  obtain ⟨a0, a2, a6, ai, af, ad, ae, av⟩ := hh
  have f2 : stF z 2 = z 2 := by
    unfold stF
    rw [upd_ne (by omega), upd_ne (by omega)]
    exact stZ_lo z 10 2 (by omega)
  refine ⟨(stF_0 z).trans a0, a2, a6, stF_In a0 a2 a6 ai, stF_Fl af, fun c e hc he hz hw q => ?_, fun c hc => ?_, ?_⟩
  · rw [stF_zt a0 a2 a6 ai hc] at hz
    rw [stF_zt a0 a2 a6 ai he] at hw
    obtain ⟨x, x1, x2, x3, x4⟩ := stF_in a0 a2 a6 ai hc hz
    obtain ⟨y, y1, y2, y3, y4⟩ := stF_in a0 a2 a6 ai he hw
    rw [x3, y3] at q
    have q1 := (nI_eq (by omega) (by omega)).mp q
    have t1 := (perm_ok a2 a6 x1).2.2.1
    have t2 := (perm_ok a2 a6 y1).2.2.1
    have q2 := st_inj a2 a6 x1 y1 (so_inj a2 a6 t1 t2 q1)
    exact ad c e hc he hz hw (by rw [x2, y2, q2])
  · rw [stF_el z hc]
    cases hz : zt z c with
    | false => exact ae c hc
    | true =>
      obtain ⟨v, v1, v2⟩ := hi0_el h h0 c hc hz
      exact ⟨v, by omega, by show z (10 + 7 * c + 1) - 1 = nI v; rw [v2, nI_pred]⟩
  · obtain ⟨v, v1, v2⟩ := av
    exact ⟨v, v1, f2.trans v2⟩
theorem hi_u9 (z : Nat → Int32) (h : GP z P) (x : Int32) : hiF (upd z 9 x) = hiF z := by
  have e0 : ∀ c, zt (upd z 9 x) c = zt z c := fun c => zt_ne (by omega)
  have e1 : ∀ n, tkF (upd z 9 x) n = tkF z n := by
    intro n
    induction n with
    | zero => rfl
    | succ n ih => unfold tkF; rw [e0, ih, upd_ne (by omega)]
  have e2 : ∀ n, mSum (upd z 9 x) 2 n = mSum z 2 n := by
    intro n
    induction n with
    | zero => rfl
    | succ n ih => unfold mSum; rw [e0, ih, upd_ne (by omega)]
  have e3 : ∀ n, leF2 (upd z 9 x) n = leF2 z n := by
    intro n
    induction n with
    | zero => rfl
    | succ n ih => unfold leF2; rw [e0, ih, upd_ne (by omega)]
  unfold hiF
  rw [e1, e2, e3, upd_ne (by omega)]
theorem stF_lo (z : Nat → Int32) {j : Nat} (h : j = 1 ∨ j = 5) : stF z j = z j := by
  unfold stF
  rw [upd_ne (by omega), upd_ne (by omega)]
  exact stZ_lo z 10 j (by omega)
theorem stF_9 (z : Nat → Int32) : stF z 9 = z 9 := by
  unfold stF
  rw [upd_ne (by omega), upd_ne (by omega)]
  have key : ∀ c, stZ z c 9 = z 9 := by
    intro c
    induction c with
    | zero => rfl
    | succ c ih =>
      unfold stZ
      cases zt (stZ z c) c with
      | false => exact ih
      | true => exact (stC_out (by omega) (by omega)).trans ih
  exact key 10
theorem ad_rz : ∀ (r i : Nat) (z : Nat → Int32), GP z P → rz P (r + 1) i (upd z 9 (whyF z P)) = adF (r + 1) i z := by
  intro r
  induction r with
  | zero =>
    intro i z h
    unfold rz adF
    rw [← h.gwhy, upd_eq]
    by_cases g : hiF z = 0
    · rw [if_pos g, if_pos g, g, if_pos rfl]
      unfold rz adF
      have e : stF (upd z 9 0) 9 = 0 := by rw [stF_9, upd_eq]
      have e2 : upd (stF (upd z 9 0)) 9 0 = stF (upd z 9 0) := by
        have := upd_self (f := stF (upd z 9 0)) (k := 9)
        rw [e] at this
        exact this
      rw [e2]
    · rw [if_neg g, if_neg g]
  | succ r ih =>
    intro i z h
    have h9 : GP (upd z 9 (hiF z)) P := h.u9 _
    unfold rz adF
    rw [← h.gwhy, upd_eq]
    by_cases g : hiF z = 0
    · rw [if_pos g, if_pos g, if_neg (by omega)]
      exact ih (i + 1) _ (h9.st (by rw [hi_u9 z h]; exact g))
    · rw [if_neg g, if_neg g]
theorem ad_run (h : GP z P) {N : Nat} (hN : 1 ≤ N) : adF N 0 z = runZ P N z := by
  obtain ⟨m, e⟩ : ∃ m, N = m + 1 := ⟨N - 1, by omega⟩
  subst e
  exact (ad_rz m 0 z h).symm
theorem ad_gb : ∀ (r k : Nat) (z : Nat → Int32), GB z P B → GB (adF r k z).2 P B ∧ k ≤ (adF r k z).1 ∧ (adF r k z).1 ≤ k + r := by
  intro r
  induction r with
  | zero => intro k z h; exact ⟨h, Nat.le_refl _, Nat.le_refl _⟩
  | succ r ih =>
    intro k z h
    unfold adF
    by_cases g : hiF z = 0
    · rw [if_pos g]
      have hg := ih (k + 1) (stF (upd z 9 (hiF z))) ⟨(h.1.u9 _).st (by rw [hi_u9 z h.1]; exact g), h.2.cg ((stF_lo _ (Or.inl rfl)).trans (upd_ne (by omega))) ((stF_lo _ (Or.inr rfl)).trans (upd_ne (by omega))) (Nat.le_refl _)⟩
      exact ⟨hg.1, by omega, by omega⟩
    · rw [if_neg g]
      exact ⟨⟨h.1.u9 _, h.2.cg (upd_ne (by omega)) (upd_ne (by omega)) (Nat.le_refl _)⟩, Nat.le_refl _, by omega⟩
theorem fl_sum (hf : Fl z) : ∀ c, c ≤ 10 → ∃ k, k ≤ c ∧ mSum z 2 c = nI k := by
  intro c
  induction c with
  | zero => intro _; exact ⟨0, Nat.le_refl _, rfl⟩
  | succ c ih =>
    intro hc
    obtain ⟨k, k1, k2⟩ := ih (by omega)
    unfold mSum
    rw [k2]
    cases zt z c with
    | false => exact ⟨k, by omega, Int32.add_zero _⟩
    | true =>
      rcases hf c (by omega) with e | e
      · exact ⟨k, by omega, by show nI k + z (10 + 7 * c + 2) = _; rw [e, Int32.add_zero]⟩
      · exact ⟨k + 1, by omega, by show nI k + z (10 + 7 * c + 2) = _; rw [e, nI_1]⟩
theorem many_ok : ∀ c, ∃ k, k ≤ c ∧ mMany z c = nI k ∧ (k = c → ∀ j, j < c → zt z j = true) := by
  intro c
  induction c with
  | zero => exact ⟨0, Nat.le_refl _, rfl, fun _ j h => by omega⟩
  | succ c ih =>
    obtain ⟨k, k1, k2, k3⟩ := ih
    unfold mMany
    rw [k2]
    cases hz : zt z c with
    | false => exact ⟨k, by omega, Int32.add_zero _, fun q => by omega⟩
    | true =>
      refine ⟨k + 1, by omega, nI_1 k, fun q j hj => ?_⟩
      by_cases e : j = c
      · subst e; exact hz
      · exact k3 (by omega) j (by omega)
theorem isPl_p (hP : z 0 = nI P) (h2 : 2 ≤ P) (h6 : P ≤ 6) {x q : Int32} (h : isPl (2 * z 0) x q = true) : ∃ p, p < 8 * P ∧ 4 * x + q = nI p := by
  unfold isPl at h
  rw [Bool.and_eq_true, decide_eq_true_eq, decide_eq_true_eq, hP, x2P, show nI (2 * P) - 1 = nI (2 * P - 1) from pk_sub (b := 1) (by omega)] at h
  obtain ⟨⟨a1, a2⟩, b1, b2⟩ := h
  obtain ⟨j, j1, j2⟩ := nI_of2 (M := nI (2 * P - 1)) (n := 2 * P - 1) (nI_toInt (by omega)) (Int32.not_lt.mpr a1) a2
  obtain ⟨k, k1, k2⟩ := nI_of2 (M := 3) (n := 3) rfl (Int32.not_lt.mpr b1) b2
  exact ⟨4 * j + k, by omega, by rw [j2, k2, show (4 : Int32) = nI 4 from rfl, pk_mul, nI_add]⟩
/-- values behind a carrier is put, taken out, refilled -/
theorem newZ_o (c : Nat) (p : Int32) {j : Nat} (h : j < 10 + 7 * c ∨ 10 + 7 * c + 7 ≤ j) (h7 : ¬ j = 7) : newZ z c p j = z j := by
  rw [newZ_beg, upd_ne h7]
  unfold begZ
  rw [upd_ne (by omega), upd_ne (by omega), layN_out h]
theorem newZ_0 (c : Nat) (p : Int32) : newZ z c p (10 + 7 * c) = p := by
  rw [newZ_beg, upd_ne (by omega)]
  unfold begZ
  rw [upd_ne (by omega), upd_eq]
theorem newZ_1 (c : Nat) (p : Int32) : newZ z c p (10 + 7 * c + 1) = z 2 := by
  rw [newZ_beg, upd_ne (by omega)]
  unfold begZ
  rw [upd_eq]
theorem newZ_2 (c : Nat) (p : Int32) : newZ z c p (10 + 7 * c + 2) = 0 := by
  rw [newZ_beg, upd_ne (by omega)]
  unfold begZ
  rw [upd_ne (by omega), upd_ne (by omega), layN_in (by omega)]
theorem GB.new (h : GB z P B) {c p : Nat} (hc : c < 10) (hp : p < 8 * P) (hf : ¬ p ∈ pl z 10) : GB (newZ z c (nI p)) P B := by
  obtain ⟨v, v1, v2⟩ := h.1.2.2.2.2.2.2.2
  refine ⟨h.1.mk c (newZ_o c _ (by omega) (by omega)) (newZ_o c _ (by omega) (by omega)) (fun e he hn i hi => newZ_o c _ (by omega) (by omega)) (fun _ => ⟨p, hp, newZ_0 c _, fun e he hn hz q => hf ?_⟩) (Or.inl (newZ_2 c _)) ⟨v, v1, (newZ_1 c _).trans v2⟩, h.2.cg (newZ_o c _ (by omega) (by omega)) (newZ_o c _ (by omega) (by omega)) (Nat.le_refl _)⟩
  have := h.1.2.2.1
  exact (pl_mem h.1.2.2.2.1 this (by omega) 10 (Nat.le_refl _)).mpr ⟨e, he, hz, q⟩
theorem toZ_o (c : Nat) {j : Nat} (h : ¬ j = 10 + 7 * c) (h6 : ¬ j = 6) : toZ z c j = z j := by
  unfold toZ
  rw [upd_ne (by omega), upd_ne h6]
theorem GB.to (h : GB z P B) {c : Nat} (hc : c < 10) : GB (toZ z c) P B := by
  refine ⟨h.1.mk c (toZ_o c (by omega) (by omega)) (toZ_o c (by omega) (by omega)) (fun e he hn i hi => toZ_o c (by omega) (by omega)) (fun q => ?_) ?_ ?_, h.2.cg (toZ_o c (by omega) (by omega)) (toZ_o c (by omega) (by omega)) (Nat.le_refl _)⟩
  · have e : toZ z c (10 + 7 * c) = -6 := upd_eq
    unfold zt at q
    rw [e] at q
    exact absurd q (by decide)
  · rw [toZ_o c (by omega) (by omega)]; exact h.1.2.2.2.2.1 c hc
  · rw [toZ_o c (by omega) (by omega)]; exact h.1.2.2.2.2.2.2.1 c hc
theorem refZ_o (c : Nat) {j : Nat} (h : ¬ j = 10 + 7 * c + 1) (h6 : ¬ j = 6) (h7 : ¬ j = 7) : refZ z c j = z j := by
  unfold refZ fillZ
  rw [upd_ne h7, upd_ne h, upd_ne h6]
theorem refZ_1 (c : Nat) : refZ z c (10 + 7 * c + 1) = z 2 := by
  unfold refZ fillZ
  rw [upd_ne (by omega), upd_eq, upd_ne (by omega)]
theorem GP.own (h : GP z P) {c : Nat} (hc : c < 10) {z' : Nat → Int32} (e : z' (10 + 7 * c) = z (10 + 7 * c)) (hz : zt z' c = true) : ∃ q, q < 8 * P ∧ z' (10 + 7 * c) = nI q ∧ ∀ e, e < 10 → ¬ e = c → zt z e = true → ¬ z (10 + 7 * e) = nI q := by
  have hz2 : zt z c = true := by unfold zt at hz ⊢; rw [← e]; exact hz
  obtain ⟨q, q1, q2⟩ := h.2.2.2.1 c hc hz2
  exact ⟨q, q1, e.trans q2, fun u hu hn hw g => hn (h.2.2.2.2.2.1 u c hu hc hw hz2 (g.trans q2.symm))⟩
theorem GB.ref (h : GB z P B) {c : Nat} (hc : c < 10) : GB (refZ z c) P B := by
  obtain ⟨v, v1, v2⟩ := h.1.2.2.2.2.2.2.2
  refine ⟨h.1.mk c (refZ_o c (by omega) (by omega) (by omega)) (refZ_o c (by omega) (by omega) (by omega)) (fun e he hn i hi => refZ_o c (by omega) (by omega) (by omega)) (h.1.own hc (refZ_o c (by omega) (by omega) (by omega))) ?_ ⟨v, v1, (refZ_1 c).trans v2⟩, h.2.cg (refZ_o c (by omega) (by omega) (by omega)) (refZ_o c (by omega) (by omega) (by omega)) (Nat.le_refl _)⟩
  rw [refZ_o c (by omega) (by omega) (by omega)]
  exact h.1.2.2.2.2.1 c hc
theorem GB.brk (h : GB z P B) {c : Nat} (hc : c < 10) : GB (upd z (10 + 7 * c + 2) 1) P B := by
  refine ⟨h.1.mk c (upd_ne (by omega)) (upd_ne (by omega)) (fun e he hn i hi => upd_ne (by omega)) (h.1.own hc (upd_ne (by omega))) (Or.inr upd_eq) ?_, h.2.cg (upd_ne (by omega)) (upd_ne (by omega)) (Nat.le_refl _)⟩
  rw [upd_ne (by omega)]
  exact h.1.2.2.2.2.2.2.1 c hc
theorem tieZ_o (c : Nat) {j : Nat} (h : ¬ j = 10 + 7 * c + 2) (h5 : ¬ j = 5) : tieZ z c j = z j := by
  unfold tieZ
  rw [upd_ne h5, upd_ne h]
theorem tieZ_5 (c : Nat) : tieZ z c 5 = z 5 + 1 := by
  unfold tieZ
  rw [upd_eq, upd_ne (by omega)]
theorem GB.tie (h : GB z P B) {c : Nat} (hc : c < 10) : GB (tieZ z c) P (B + 1) := by
  obtain ⟨⟨v, v1, v2⟩, k, k1, k2⟩ := h.2
  refine ⟨h.1.mk c (tieZ_o c (by omega) (by omega)) (tieZ_o c (by omega) (by omega)) (fun e he hn i hi => tieZ_o c (by omega) (by omega)) (h.1.own hc (tieZ_o c (by omega) (by omega))) (Or.inl ?_) ?_, ⟨v, v1, (tieZ_o c (by omega) (by omega)).trans v2⟩, k + 1, by omega, by rw [tieZ_5, k2, nI_1]⟩
  · unfold tieZ
    rw [upd_ne (by omega), upd_eq]
  · rw [tieZ_o c (by omega) (by omega)]
    exact h.1.2.2.2.2.2.2.1 c hc
theorem wne_c {c : Nat} (hc : c < 10) (hz : zt z c = true) (e : Int32) : wne z (nI c) e = if z (10 + 7 * c + 2) = e then 0 else -5 := by
  unfold wne
  rw [isC_nI hc, hz, xnc (by omega)]
  rfl
theorem wne_no {x e : Int32} (h : isC z x = false) : wne z x e = -1 := by unfold wne; rw [h]; rfl
theorem wnr_3 (z : Nat → Int32) (x : Int32) : wnr z x = 0 ∨ wnr z x < 0 := by
  unfold wnr
  cases decide (1 ≤ x ∧ x ≤ 99) with
  | false => exact Or.inr (by show (-2 : Int32) < 0; decide)
  | true =>
    show (if z 3 + x ≤ 9999 then (0 : Int32) else -5) = 0 ∨ (if z 3 + x ≤ 9999 then (0 : Int32) else -5) < 0
    by_cases g : z 3 + x ≤ 9999
    · rw [if_pos g]; exact Or.inl rfl
    · rw [if_neg g]; exact Or.inr (by decide)
variable (d n : Nat) (s : Nat → Int32) {G : xHp}
theorem o_98 (h : GB z P B) (a : Int32) : ∃ r z' s', Rn (d + 3) 54 0 [(0, .ref 4), (1, .int a)] [] (tOn z s G) n (some (.int r)) (tOn z' s' G) n ∧ GB z' P (B + 1) ∧ ((wne z a 0 = 0 ∧ ¬ r < 0 ∧ ∃ c, c < 10 ∧ a = nI c ∧ zt z c = true ∧ z' = upd z (10 + 7 * c + 2) 1 ∧ r = mSum z' 2 10) ∨ (wne z a 0 < 0 ∧ r = wne z a 0 ∧ z' = z)) := by
  cases hC : isC z a with
  | false => exact ⟨-1, z, s, t_brk_bad (d + 2) n z s G a hC, h.le (by omega), Or.inr ⟨by rw [wne_no hC]; decide, (wne_no hC).symm, rfl⟩⟩
  | true =>
    obtain ⟨c, hc, e, hz⟩ := isC_of hC
    subst e
    have w := wne_c hc hz 0
    by_cases g : z (10 + 7 * c + 2) = 0
    · rw [if_pos g] at w
      have hb := h.brk hc
      obtain ⟨k, k1, k2⟩ := fl_sum hb.1.2.2.2.2.1 10 (Nat.le_refl _)
      exact ⟨_, _, _, t_brk (d + 2) n z s G c hc hz g hb.1.2.2.2.2.1, hb.le (by omega), Or.inl ⟨w, by rw [k2]; exact nI_pos (by omega), c, hc, rfl, hz, rfl, rfl⟩⟩
    · rw [if_neg g] at w
      exact ⟨-5, z, s, t_brk_not (d + 2) n z s G c hc hz g, h.le (by omega), Or.inr ⟨by rw [w]; decide, w.symm, rfl⟩⟩
theorem o_107 (h : GB z P B) (hB : B ≤ 1000000) (a : Int32) : ∃ r z' s', Rn (d + 3) 55 0 [(0, .ref 4), (1, .int a)] [] (tOn z s G) n (some (.int r)) (tOn z' s' G) n ∧ GB z' P (B + 1) ∧ ((wne z a 1 = 0 ∧ ¬ r < 0 ∧ ∃ c, c < 10 ∧ a = nI c ∧ zt z c = true ∧ z' = tieZ z c ∧ r = tieZ z c 5) ∨ (wne z a 1 < 0 ∧ r = wne z a 1 ∧ z' = z)) := by
  cases hC : isC z a with
  | false => exact ⟨-1, z, s, t_mend_bad (d + 2) n z s G a hC, h.le (by omega), Or.inr ⟨by rw [wne_no hC]; decide, (wne_no hC).symm, rfl⟩⟩
  | true =>
    obtain ⟨c, hc, e, hz⟩ := isC_of hC
    subst e
    have w := wne_c hc hz 1
    by_cases g : z (10 + 7 * c + 2) = 0
    · rw [if_neg (by rw [g]; decide)] at w
      exact ⟨-5, z, s, t_mend_not (d + 2) n z s G c hc hz g, h.le (by omega), Or.inr ⟨by rw [w]; decide, w.symm, rfl⟩⟩
    · rw [if_pos ((h.1.2.2.2.2.1 c hc).resolve_left g)] at w
      obtain ⟨k, k1, k2⟩ := h.2.2
      exact ⟨_, _, _, t_mend (d + 2) n z s G c hc hz g, h.tie hc, Or.inl ⟨w, by rw [tieZ_5, k2, nI_1]; exact nI_pos (by omega), c, hc, rfl, hz, rfl, rfl⟩⟩
theorem o_120 (h : GB z P B) (a : Int32) : ∃ r z' s', Rn (d + 3) 51 0 [(0, .ref 4), (1, .int a)] [] (tOn z s G) n (some (.int r)) (tOn z' s' G) n ∧ GB z' P (B + 1) ∧ ((isC z a = true ∧ ¬ r < 0 ∧ ∃ c, c < 10 ∧ a = nI c ∧ zt z c = true ∧ z' = toZ z c ∧ r = z (10 + 7 * c + 1)) ∨ (isC z a = false ∧ r = -1 ∧ z' = z)) := by
  cases hC : isC z a with
  | false => exact ⟨-1, z, s, t_rem_bad (d + 2) n z s G a hC, h.le (by omega), Or.inr ⟨rfl, rfl, rfl⟩⟩
  | true =>
    obtain ⟨c, hc, e, hz⟩ := isC_of hC
    subst e
    obtain ⟨v, v1, v2⟩ := h.1.2.2.2.2.2.2.1 c hc
    exact ⟨_, _, _, t_rem (d + 2) n z s G c hc hz, (h.to hc).le (by omega), Or.inl ⟨rfl, by rw [v2]; exact nI_pos (by omega), c, hc, rfl, hz, rfl, rfl⟩⟩
theorem o_102 (h : GB z P B) (a : Int32) : ∃ r z' s', Rn (d + 3) 56 0 [(0, .ref 4), (1, .int a)] [] (tOn z s G) n (some (.int r)) (tOn z' s' G) n ∧ GB z' P (B + 1) ∧ ((isC z a = true ∧ ¬ r < 0 ∧ ∃ c, c < 10 ∧ a = nI c ∧ zt z c = true ∧ z' = refZ z c ∧ r = z (10 + 7 * c + 1)) ∨ (isC z a = false ∧ r = -1 ∧ z' = z)) := by
  cases hC : isC z a with
  | false => exact ⟨-1, z, s, t_bob_bad (d + 2) n z s G a hC, h.le (by omega), Or.inr ⟨rfl, rfl, rfl⟩⟩
  | true =>
    obtain ⟨c, hc, e, hz⟩ := isC_of hC
    subst e
    obtain ⟨v, v1, v2⟩ := h.1.2.2.2.2.2.2.1 c hc
    exact ⟨_, _, _, t_bob (d + 2) n z s G c hc hz, (h.ref hc).le (by omega), Or.inl ⟨rfl, by rw [v2]; exact nI_pos (by omega), c, hc, rfl, hz, rfl, rfl⟩⟩
theorem o_114 (h : GB z P B) (hg : G 2 = .inl (0, 3, .inl xhi)) (a : Int32) : ∃ r z' s', Rn (d + 3) 53 0 [(0, .ref 4), (1, .int a)] [] (tOn z s G) n (some (.int r)) (tOn z' s' G) n ∧ GB z' P (B + 1) ∧ ((wnr z a = 0 ∧ ¬ r < 0 ∧ ∃ N, 1 ≤ N ∧ N ≤ 99 ∧ a = nI N ∧ z' = (runZ P N z).2 ∧ r = nI (runZ P N z).1) ∨ (wnr z a < 0 ∧ r = wnr z a ∧ z' = z)) := by
  by_cases g : wnr z a < 0
  · exact ⟨_, z, s, t_adv_bad d n z s G a g, h.le (by omega), Or.inr ⟨g, rfl, rfl⟩⟩
  · obtain ⟨N, n1, n2, n3, n4⟩ := wnr_ok g
    subst n3
    have e := ad_run h.1 n1
    have k := ad_gb N 0 z h
    rw [e] at k
    have t := t_adv d n z s G hg P h.1.1 h.1.2.1 h.1.2.2.1 h.1.2.2.2.2.1 h.1.2.2.2.1 N n1 n2 n4
    rw [e] at t
    exact ⟨_, _, _, t, k.1.le (by omega), Or.inl ⟨(wnr_3 z (nI N)).resolve_right g, nI_pos (by omega), N, n1, n2, rfl, rfl, rfl⟩⟩
theorem whyNC_no {x q : Int32} (h : isPl (2 * z 0) x q = false) : whyNC z x q = -1 := by unfold whyNC; rw [h]; rfl
theorem o_99 (h : GB z P B) (a b : Int32) : ∃ r z' s', Rn (d + 3) 50 0 [(0, .ref 4), (1, .int a), (2, .int b)] [] (tOn z s G) n (some (.int r)) (tOn z' s' G) n ∧ GB z' P (B + 1) ∧ ((whyNC z a b = 0 ∧ ¬ r < 0 ∧ ffree z < 10 ∧ zt z (ffree z) = false ∧ (∀ j, j < ffree z → zt z j = true) ∧ z' = newZ z (ffree z) (4 * a + b) ∧ r = nI (ffree z)) ∨ (whyNC z a b < 0 ∧ r = whyNC z a b ∧ z' = z)) := by
  have h1 := h.1.1
  have h2 := h.1.2.1
  have h6 := h.1.2.2.1
  cases hp : isPl (2 * z 0) a b with
  | false => exact ⟨-1, z, s, t_ins_pl (d + 1) n z s G P h1 h2 h6 a b hp, h.le (by omega), Or.inr ⟨by rw [whyNC_no hp]; decide, (whyNC_no hp).symm, rfl⟩⟩
  | true =>
    obtain ⟨p, p1, p2⟩ := isPl_p h1 h2 h6 hp
    have hfit := h.1.fit p1
    have ew : whyNC z a b = cond (isFr z (nI p)) (if mMany z 10 = 10 then -4 else 0) (-5) := by unfold whyNC; rw [hp, p2]; rfl
    cases hf : isFr z (nI p) with
    | false =>
      rw [hf] at hfit ew
      have ew : whyNC z a b = -5 := ew
      exact ⟨-5, z, s, t_ins_fit (d + 1) n z s G P h1 h2 h6 a b hp p p1 p2 hfit, h.le (by omega), Or.inr ⟨by rw [ew]; decide, ew.symm, rfl⟩⟩
    | true =>
      rw [hf] at hfit ew
      by_cases gm : mMany z 10 = 10
      · have ew : whyNC z a b = -4 := by rw [ew, if_pos gm]; rfl
        obtain ⟨k, k1, k2, k3⟩ := many_ok (z := z) 10
        rw [k2] at gm
        have hk : k = 10 := (nI_eq (b := 10) (by omega) (by omega)).mp gm
        exact ⟨-4, z, s, t_ins_full (d + 1) n z s G P h1 h2 h6 a b hp p p1 p2 hfit (k3 hk), h.le (by omega), Or.inr ⟨by rw [ew]; decide, ew.symm, rfl⟩⟩
      · have ew : whyNC z a b = 0 := by rw [ew, if_neg gm]; rfl
        obtain ⟨f1, f2, f3⟩ := ffree_ok gm
        have hn : ¬ p ∈ pl z 10 := by
          unfold isFr at hf
          rw [Bool.and_eq_true, decide_eq_true_eq] at hf
          exact (h.1.in6 (by omega)).mp hf.1
        have t := t_ins (d + 1) n z s G P h1 h2 h6 a b hp p p1 p2 hfit (ffree z) f1 f2 f3
        exact ⟨_, _, _, t, (h.new f1 p1 hn).le (by omega), Or.inl ⟨ew, nI_pos (by omega), f1, f2, f3, by rw [p2], rfl⟩⟩
end TRACK
