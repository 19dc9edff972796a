/-! texts: the class's reading and the reference's -/
theorem dg_ok {s : Int32} (h : dg s = true) : ∃ v, v ≤ 9 ∧ s = nI (48 + v) ∧ s - 48 = nI v := by
  obtain ⟨h1, h2⟩ := of_decide_eq_true h
  have h0 : ¬ s < 0 := Int32.not_lt.mpr (Int32.le_trans (show (0 : Int32) ≤ 48 by decide) h1)
  obtain ⟨j, j1, j2⟩ := nI_of2 (M := 57) (n := 57) rfl h0 h2
  have h3 : 48 ≤ j := by
    rw [j2] at h1
    exact (nI_leI (a := 48) (by omega) (by omega)).mp h1
  exact ⟨j - 48, by omega, by rw [j2]; congr 1; omega, by rw [j2]; exact pk_sub (b := 48) h3⟩
theorem seF_d {p : Nat → Int32} {ty i : Nat} : seF p ty i 48 57 = (decide (i < ty) && dg (p i)) := rfl
theorem seF_c {p : Nat → Int32} {ty i : Nat} {c : Int32} : seF p ty i c c = true ↔ i < ty ∧ p i = c := by
  unfold seF
  rw [Bool.and_eq_true, decide_eq_true_eq, decide_eq_true_eq]
  constructor
  · rintro ⟨a, b, c⟩; exact ⟨a, Int32.le_antisymm c b⟩
  · rintro ⟨a, b⟩; exact ⟨a, by rw [b]; exact ⟨Int32.le_refl _, Int32.le_refl _⟩⟩
section TEXT
variable {p : Nat → Int32} {ty : Nat}
theorem faS {i due : Nat} (h : i < ty) : faF p ty (ty - i) due i = match dbN due (p i) with | none => nI i | some k => faF p ty (ty - (i + 1)) k (i + 1) := by
  obtain ⟨r, e⟩ : ∃ r, ty - i = r + 1 := ⟨ty - i - 1, by omega⟩
  rw [e, show ty - (i + 1) = r by omega]
  rfl
theorem faE {due : Nat} : faF p ty (ty - ty) due ty = if due = 7 ∨ due = 5 then -6 else nI ty := by rw [Nat.sub_self]; rfl
theorem fa_n2 {D1 Dz Dn : Nat} (g1 : ∀ s, dbN D1 s = cond (dg s) (if s = 48 then some Dz else some Dn) none) (g2 : ∀ s, dg s = true → dbN Dn s = some Dz) (g3 : ∀ s, dg s = false → dbN Dn s = dbN Dz s) (g4 : ¬ (D1 = 7 ∨ D1 = 5)) (g5 : (Dn = 7 ∨ Dn = 5) ↔ (Dz = 7 ∨ Dz = 5)) {i : Nat} (hi : i ≤ ty) :
    (seF p ty i 48 57 = false → nuF p ty i 2 = (-6, i) ∧ faF p ty (ty - i) D1 i = nI i) ∧ (seF p ty i 48 57 = true → ∃ e v, nuF p ty i 2 = (nI v, e) ∧ v < 100 ∧ i < e ∧ e ≤ ty ∧ faF p ty (ty - i) D1 i = faF p ty (ty - e) Dz e ∧ (∀ j, i ≤ j → j < e → dg (p j) = true) ∧ nmF p (e - i) i 0 = nI v) := by
  constructor
  · intro h
    refine ⟨by unfold nuF; rw [h]; rfl, ?_⟩
    by_cases e : i = ty
    · subst e; rw [faE, if_neg g4]
    · rw [faS (by omega), g1]
      rw [seF_d, decide_eq_true (by omega : i < ty), Bool.true_and] at h
      rw [h]
      rfl
  · intro h
    have hh := h
    rw [seF_d, Bool.and_eq_true, decide_eq_true_eq] at hh
    obtain ⟨hlt, hd⟩ := hh
    obtain ⟨v, v1, v2, v3⟩ := dg_ok hd
    have e48 : (p i = 48) ↔ v = 0 := by
      rw [v2]
      constructor
      · intro q
        have := (nI_eq (b := 48) (by omega) (by omega)).mp q
        omega
      · intro q; subst q; rfl
    have n1 : nmF p (i + 1 - i) i 0 = nI v := by
      rw [show i + 1 - i = 1 by omega]
      show 10 * 0 + p i - 48 = nI v
      rw [show (10 : Int32) * 0 + p i = p i by rw [show (10 : Int32) * 0 = 0 from rfl, Int32.zero_add]]
      exact v3
    by_cases hv : v = 0
    · subst hv
      refine ⟨i + 1, 0, ?_, by omega, by omega, by omega, ?_, fun j j1 j2 => ?_, n1⟩
      · unfold nuF
        rw [h, v3]
        rfl
      · rw [faS hlt, g1, hd, if_pos (e48.mpr rfl)]
        rfl
      · rw [show j = i by omega]; exact hd
    · have hpos : 0 < nI v := nI_lt (a := 0) (b := v) (by omega) (by omega)
      by_cases h2 : seF p ty (i + 1) 48 57 = true
      · have hh2 := h2
        rw [seF_d, Bool.and_eq_true, decide_eq_true_eq] at hh2
        obtain ⟨u, u1, u2, u3⟩ := dg_ok hh2.2
        have ev : 10 * nI v + p (i + 1) - 48 = nI (10 * v + u) := by
          rw [u2, show (10 : Int32) = nI 10 from rfl, pk_mul, nI_add, show (48 : Int32) = nI 48 from rfl, pk_sub (by omega)]
          congr 1
          omega
        refine ⟨i + 2, 10 * v + u, ?_, by omega, by omega, by omega, ?_, fun j j1 j2 => ?_, ?_⟩
        · unfold nuF
          rw [h, v3, decide_eq_true hpos, h2, ev]
          rfl
        · rw [faS hlt, g1, hd, if_neg (fun q => hv (e48.mp q))]
          show faF p ty (ty - (i + 1)) Dn (i + 1) = _
          rw [faS hh2.1, g2 _ hh2.2]
        · rcases (by omega : j = i ∨ j = i + 1) with q | q <;> subst q
          · exact hd
          · exact hh2.2
        · rw [show i + 2 - i = 2 by omega]
          show 10 * (10 * 0 + p i - 48) + p (i + 1) - 48 = _
          rw [show (10 : Int32) * 0 + p i - 48 = nI v by rw [show (10 : Int32) * 0 + p i = p i by rw [show (10 : Int32) * 0 = 0 from rfl, Int32.zero_add]]; exact v3]
          exact ev
      · have h2 : seF p ty (i + 1) 48 57 = false := by cases q : seF p ty (i + 1) 48 57 with | true => exact (h2 q).elim | false => rfl
        refine ⟨i + 1, v, ?_, by omega, by omega, by omega, ?_, fun j j1 j2 => ?_, n1⟩
        · unfold nuF
          rw [h, v3, decide_eq_true hpos, h2]
          rfl
        · rw [faS hlt, g1, hd, if_neg (fun q => hv (e48.mp q))]
          show faF p ty (ty - (i + 1)) Dn (i + 1) = _
          by_cases e : i + 1 = ty
          · rw [e, faE, faE]
            by_cases q : Dn = 7 ∨ Dn = 5
            · rw [if_pos q, if_pos (g5.mp q)]
            · rw [if_neg q, if_neg (fun x => q (g5.mpr x))]
          · rw [seF_d, decide_eq_true (by omega : i + 1 < ty), Bool.true_and] at h2
            rw [faS (by omega), faS (by omega), g3 _ h2]
        · rw [show j = i by omega]; exact hd
theorem fa_n1 {i : Nat} (hi : i ≤ ty) :
    (seF p ty i 48 57 = false → nuF p ty i 1 = (-6, i) ∧ faF p ty (ty - i) 6 i = nI i) ∧ (seF p ty i 48 57 = true → ∃ e v, nuF p ty i 1 = (nI v, e) ∧ v < 100 ∧ i < e ∧ e ≤ ty ∧ faF p ty (ty - i) 6 i = faF p ty (ty - e) 7 e ∧ (∀ j, i ≤ j → j < e → dg (p j) = true) ∧ nmF p (e - i) i 0 = nI v) := by
  constructor
  · intro h
    refine ⟨by unfold nuF; rw [h]; rfl, ?_⟩
    by_cases e : i = ty
    · subst e; rw [faE, if_neg (by omega)]
    · rw [faS (by omega)]
      rw [seF_d, decide_eq_true (by omega : i < ty), Bool.true_and] at h
      show (match cond (dg (p i)) (some 7) none with | none => nI i | some k => faF p ty (ty - (i + 1)) k (i + 1)) = _
      rw [h]
      rfl
  · intro h
    have hh := h
    rw [seF_d, Bool.and_eq_true, decide_eq_true_eq] at hh
    obtain ⟨hlt, hd⟩ := hh
    obtain ⟨v, v1, v2, v3⟩ := dg_ok hd
    refine ⟨i + 1, v, ?_, by omega, by omega, by omega, ?_, fun j j1 j2 => ?_, ?_⟩
    · unfold nuF
      rw [h, v3, decide_eq_false (show ¬ (1 : Int32) < 1 by decide), Bool.false_and, Bool.and_false]
      rfl
    · rw [faS hlt]
      show (match cond (dg (p i)) (some 7) none with | none => nI i | some k => faF p ty (ty - (i + 1)) k (i + 1)) = _
      rw [hd]
      rfl
    · rw [show j = i by omega]; exact hd
    · rw [show i + 1 - i = 1 by omega]
      show 10 * 0 + p i - 48 = nI v
      rw [show (10 : Int32) * 0 + p i = p i by rw [show (10 : Int32) * 0 = 0 from rfl, Int32.zero_add]]
      exact v3
theorem bd_stop {e : Nat} : ∀ r i, i + r = ty → i ≤ e → e ≤ ty → (∀ j, i ≤ j → j < e → dg (p j) = true) → (e < ty → dg (p e) = false) → bdF p r i = e := by
  intro r
  induction r with
  | zero => intro i h1 h2 h3 _ _; show i = e; omega
  | succ r ih =>
    intro i h1 h2 h3 h4 h5
    unfold bdF
    by_cases g : i = e
    · subst g
      rw [h5 (by omega)]
      rfl
    · rw [h4 i (Nat.le_refl _) (by omega)]
      exact ih (i + 1) (by omega) (by omega) h3 (fun j j1 j2 => h4 j (by omega) j2) h5
theorem no_stop {e : Nat} : ∀ r i, i + r = ty → i ≤ e → e ≤ ty → (∀ j, i ≤ j → j < e → ¬ p j = 59) → (e < ty → p e = 59) → noF p r i = e + 1 := by
  intro r
  induction r with
  | zero => intro i h1 h2 h3 _ _; show i + 1 = e + 1; omega
  | succ r ih =>
    intro i h1 h2 h3 h4 h5
    unfold noF
    by_cases g : i = e
    · subst g
      rw [if_pos (h5 (by omega))]
    · rw [if_neg (h4 i (Nat.le_refl _) (by omega))]
      exact ih (i + 1) (by omega) (by omega) h3 (fun j j1 j2 => h4 j (by omega) j2) h5
theorem dg_59 {s : Int32} (h : dg s = true) : ¬ s = 59 := by
  intro q
  subst q
  exact absurd h (by decide)
theorem dg_46 {s : Int32} (h : s = 46 ∨ s = 59) : dg s = false := by rcases h with q | q <;> subst q <;> decide
/-- what an order is, read by the one and by the other -/
def OK (p : Nat → Int32) (ty sp : Nat) : Prop := (roB p ty sp = false → faF p ty (ty - sp) 0 sp = nI (roS p ty sp)) ∧ (roB p ty sp = true → faF p ty (ty - sp) 0 sp = faF p ty (ty - roS p ty sp) 7 (roS p ty sp) ∧ (∀ j, sp ≤ j → j < roS p ty sp → ¬ p j = 59) ∧ ((roS p ty sp < ty → p (roS p ty sp) = 59) → nuC p ty sp = (fiF p ty sp).1 ∧ (leF p ty sp = 99 → bdF p (ty - (sp + 1)) (sp + 1) + 1 ≤ ty ∧ noC p ty sp = (seS p ty sp).1)))
theorem ok_one {sp : Nat} (h : sp < ty) {l : Int32} (hl : p sp = l) (hs : l = 120 ∨ l = 98 ∨ l = 107 ∨ l = 102) : OK p ty sp := by
  have e1 : leF p ty sp = l := (if_pos h).trans hl
  have eI : isLe l = true := by rcases hs with q | q | q | q <;> subst q <;> decide
  have n99 : ¬ l = 99 := by rcases hs with q | q | q | q <;> subst q <;> decide
  have n114 : ¬ l = 114 := by rcases hs with q | q | q | q <;> subst q <;> decide
  have n59 : ¬ l = 59 := by rcases hs with q | q | q | q <;> subst q <;> decide
  have ef : fiF p ty sp = nuF p ty (sp + 1) 1 := by unfold fiF; rw [e1, if_neg (fun q => q.elim n99 n114)]
  have es : seS p ty sp = (0, (fiF p ty sp).2) := by unfold seS; rw [e1, decide_eq_false n99, Bool.and_false]; rfl
  have er : roS p ty sp = (fiF p ty sp).2 := by unfold roS; rw [e1, eI, es]; rfl
  have eb : roB p ty sp = decide (¬ (fiF p ty sp).1 = -6) := by unfold roB; rw [e1, eI, es]; show (true && (decide _ && true)) = _; rw [Bool.true_and, Bool.and_true]
  have e0 : faF p ty (ty - sp) 0 sp = faF p ty (ty - (sp + 1)) 6 (sp + 1) := by
    rw [faS h, hl]
    show (match (if l = 99 then some 1 else if l = 114 then some 4 else if l = 120 ∨ l = 98 ∨ l = 107 ∨ l = 102 then some 6 else none) with | none => nI sp | some k => faF p ty (ty - (sp + 1)) k (sp + 1)) = _
    rw [if_neg n99, if_neg n114, if_pos hs]
  have k := fa_n1 (p := p) (show sp + 1 ≤ ty from h)
  rw [← ef] at k
  unfold OK
  rw [er, eb, e0]
  cases hd : seF p ty (sp + 1) 48 57 with
  | false =>
    obtain ⟨k1, k2⟩ := k.1 hd
    rw [k1]
    exact ⟨fun _ => k2, fun q => absurd (show false = true from q) (by decide)⟩
  | true =>
    obtain ⟨e, v, k1, k2, k3, k4, k5, k6, k7⟩ := k.2 hd
    rw [k1]
    have nv : ¬ nI v = -6 := nI_n6 v (by omega)
    refine ⟨fun q => absurd nv (of_decide_eq_false q), fun _ => ⟨k5, fun j j1 j2 => ?_, fun hf => ⟨?_, fun q => ?_⟩⟩⟩
    · by_cases g : j = sp
      · subst g; rw [hl]; exact n59
      · exact dg_59 (k6 j (by omega) j2)
    · unfold nuC
      rw [bd_stop (p := p) (ty := ty) (e := e) _ _ (by omega) (by omega) k4 k6 (fun q => dg_46 (Or.inr (hf q)))]
      exact k7
    · rw [e1] at q; exact (n99 q).elim
theorem ok_r {sp : Nat} (h : sp < ty) (hl : p sp = 114) : OK p ty sp := by
  have e1 : leF p ty sp = 114 := (if_pos h).trans hl
  have ef : fiF p ty sp = nuF p ty (sp + 1) 2 := by unfold fiF; rw [e1, if_pos (Or.inr rfl)]
  have es : seS p ty sp = (0, (fiF p ty sp).2) := by unfold seS; rw [e1, decide_eq_false (show ¬ (114 : Int32) = 99 by decide), Bool.and_false]; rfl
  have er : roS p ty sp = (fiF p ty sp).2 := by unfold roS; rw [e1, es]; rfl
  have eb : roB p ty sp = decide (¬ (fiF p ty sp).1 = -6) := by unfold roB; rw [e1, es]; show (true && (decide _ && true)) = _; rw [Bool.true_and, Bool.and_true]
  have e0 : faF p ty (ty - sp) 0 sp = faF p ty (ty - (sp + 1)) 4 (sp + 1) := by rw [faS h, hl]; rfl
  have k := fa_n2 (p := p) (ty := ty) (D1 := 4) (Dz := 7) (Dn := 5) (fun s => rfl) (fun s q => by show cond (dg s) (some 7) _ = _; rw [q]; rfl) (fun s q => by show cond (dg s) (some 7) (if s = 59 then some 0 else none) = (if s = 59 then some 0 else none); rw [q]; rfl) (by omega) (by omega) (show sp + 1 ≤ ty from h)
  rw [← ef] at k
  unfold OK
  rw [er, eb, e0]
  cases hd : seF p ty (sp + 1) 48 57 with
  | false =>
    obtain ⟨k1, k2⟩ := k.1 hd
    rw [k1]
    exact ⟨fun _ => k2, fun q => absurd (show false = true from q) (by decide)⟩
  | true =>
    obtain ⟨e, v, k1, k2, k3, k4, k5, k6, k7⟩ := k.2 hd
    rw [k1]
    have nv : ¬ nI v = -6 := nI_n6 v (by omega)
    refine ⟨fun q => absurd nv (of_decide_eq_false q), fun _ => ⟨k5, fun j j1 j2 => ?_, fun hf => ⟨?_, fun q => ?_⟩⟩⟩
    · by_cases g : j = sp
      · subst g; rw [hl]; decide
      · exact dg_59 (k6 j (by omega) j2)
    · unfold nuC
      rw [bd_stop (p := p) (ty := ty) (e := e) _ _ (by omega) (by omega) k4 k6 (fun q => dg_46 (Or.inr (hf q)))]
      exact k7
    · rw [e1] at q; exact absurd q (by decide)
theorem ok_c {sp : Nat} (h : sp < ty) (hl : p sp = 99) : OK p ty sp := by
  have e1 : leF p ty sp = 99 := (if_pos h).trans hl
  have ef : fiF p ty sp = nuF p ty (sp + 1) 2 := by unfold fiF; rw [e1, if_pos (Or.inl rfl)]
  have er : roS p ty sp = (seS p ty sp).2 := by unfold roS; rw [e1]; rfl
  have eb : roB p ty sp = (decide (¬ (fiF p ty sp).1 = -6) && decide (¬ (seS p ty sp).1 = -6)) := by unfold roB; rw [e1]; show (true && _) = _; rw [Bool.true_and]
  have es : seS p ty sp = cond (decide (¬ (fiF p ty sp).1 = -6) && true) (cond (seF p ty (fiF p ty sp).2 46 46) (nuF p ty ((fiF p ty sp).2 + 1) 1) (-6, (fiF p ty sp).2)) (0, (fiF p ty sp).2) := by unfold seS; rw [e1]; rfl
  have e0 : faF p ty (ty - sp) 0 sp = faF p ty (ty - (sp + 1)) 1 (sp + 1) := by rw [faS h, hl]; rfl
  have k := fa_n2 (p := p) (ty := ty) (D1 := 1) (Dz := 3) (Dn := 2) (fun s => rfl) (fun s q => by show cond (dg s) (some 3) _ = _; rw [q]; rfl) (fun s q => by show cond (dg s) (some 3) (if s = 46 then some 6 else none) = (if s = 46 then some 6 else none); rw [q]; rfl) (by omega) (by omega) (show sp + 1 ≤ ty from h)
  rw [← ef] at k
  unfold OK
  rw [er, eb, e0]
  cases hd : seF p ty (sp + 1) 48 57 with
  | false =>
    obtain ⟨k1, k2⟩ := k.1 hd
    rw [k1] at es
    rw [es, k1]
    exact ⟨fun _ => k2, fun q => absurd (show false = true from q) (by decide)⟩
  | true =>
    obtain ⟨e, v, k1, k2, k3, k4, k5, k6, k7⟩ := k.2 hd
    have nv : ¬ nI v = -6 := nI_n6 v (by omega)
    rw [k1] at es
    rw [show (decide (¬ (nI v, e).1 = -6) && true) = true by rw [decide_eq_true (show ¬ (nI v, e).1 = -6 from nv)]; rfl] at es
    have es : seS p ty sp = cond (seF p ty e 46 46) (nuF p ty (e + 1) 1) (-6, e) := es
    rw [k1, k5]
    rw [show decide (¬ (nI v, e).1 = -6) = true from decide_eq_true nv, Bool.true_and]
    cases hd2 : seF p ty e 46 46 with
    | false =>
      rw [hd2] at es
      have es : seS p ty sp = (-6, e) := es
      rw [es]
      refine ⟨fun _ => ?_, fun q => absurd (show false = true from q) (by decide)⟩
      by_cases g : e = ty
      · rw [g, faE, if_neg (by omega)]
      · rw [faS (by omega)]
        show (match (if p e = 46 then some 6 else none) with | none => nI e | some k => faF p ty (ty - (e + 1)) k (e + 1)) = nI e
        rw [if_neg (fun q => by rw [seF_c.mpr ⟨by omega, q⟩] at hd2; cases hd2)]
    | true =>
      rw [hd2] at es
      have es : seS p ty sp = nuF p ty (e + 1) 1 := es
      obtain ⟨d1, d2⟩ := seF_c.mp hd2
      have u := fa_n1 (p := p) (show e + 1 ≤ ty from d1)
      rw [es]
      have f0 : faF p ty (ty - e) 3 e = faF p ty (ty - (e + 1)) 6 (e + 1) := by
        rw [faS d1]
        show (match (if p e = 46 then some 6 else none) with | none => nI e | some k => faF p ty (ty - (e + 1)) k (e + 1)) = _
        rw [if_pos d2]
      rw [f0]
      cases hd3 : seF p ty (e + 1) 48 57 with
      | false =>
        obtain ⟨u1, u2⟩ := u.1 hd3
        rw [u1]
        exact ⟨fun _ => u2, fun q => absurd (show false = true from q) (by decide)⟩
      | true =>
        obtain ⟨e2, v2, u1, u2, u3, u4, u5, u6, u7⟩ := u.2 hd3
        rw [u1]
        have nv2 : ¬ nI v2 = -6 := nI_n6 v2 (by omega)
        have b1 : bdF p (ty - (sp + 1)) (sp + 1) = e := bd_stop (p := p) (ty := ty) (e := e) _ _ (by omega) (by omega) k4 k6 (fun q => dg_46 (Or.inl d2))
        refine ⟨fun q => absurd nv2 (of_decide_eq_false q), fun _ => ⟨u5, fun j j1 j2 => ?_, fun hf => ⟨?_, fun _ => ⟨by rw [b1]; omega, ?_⟩⟩⟩⟩
        · by_cases g : j = sp
          · subst g; rw [hl]; decide
          · by_cases g2 : j < e
            · exact dg_59 (k6 j (by omega) g2)
            · by_cases g3 : j = e
              · subst g3; rw [d2]; decide
              · exact dg_59 (u6 j (by omega) j2)
        · unfold nuC
          rw [b1]
          exact k7
        · unfold noC
          rw [b1, bd_stop (p := p) (ty := ty) (e := e2) _ _ (by omega) (by omega) u4 u6 (fun q => dg_46 (Or.inr (hf q)))]
          exact u7
theorem ok_all {sp : Nat} (h : sp ≤ ty) : OK p ty sp := by
  by_cases e : sp = ty
  · have e1 : leF p ty sp = 0 := if_neg (by omega)
    have eb : roB p ty sp = false := by unfold roB; rw [e1]; rfl
    have er : roS p ty sp = sp := by unfold roS; rw [e1]; rfl
    unfold OK
    rw [eb, er]
    refine ⟨fun _ => ?_, fun q => absurd (show false = true from q) (by decide)⟩
    rw [e, faE, if_neg (by omega)]
  · have hlt : sp < ty := by omega
    by_cases h1 : p sp = 99
    · exact ok_c hlt h1
    · by_cases h2 : p sp = 114
      · exact ok_r hlt h2
      · by_cases h3 : p sp = 120 ∨ p sp = 98 ∨ p sp = 107 ∨ p sp = 102
        · exact ok_one hlt rfl h3
        · have e1 : leF p ty sp = p sp := if_pos hlt
          have ei : isLe (p sp) = false := by
            unfold isLe
            rw [decide_eq_false h1, decide_eq_false h2, decide_eq_false (fun q => h3 (Or.inl q)), decide_eq_false (fun q => h3 (Or.inr (Or.inl q))), decide_eq_false (fun q => h3 (Or.inr (Or.inr (Or.inl q)))), decide_eq_false (fun q => h3 (Or.inr (Or.inr (Or.inr q))))]
            rfl
          have eb : roB p ty sp = false := by unfold roB; rw [e1, ei]; rfl
          have er : roS p ty sp = sp := by unfold roS; rw [e1, ei]; rfl
          unfold OK
          rw [eb, er]
          refine ⟨fun _ => ?_, fun q => absurd (show false = true from q) (by decide)⟩
          rw [faS hlt]
          show (match (if p sp = 99 then some 1 else if p sp = 114 then some 4 else if p sp = 120 ∨ p sp = 98 ∨ p sp = 107 ∨ p sp = 102 then some 6 else none) with | none => nI sp | some k => faF p ty (ty - (sp + 1)) k (sp + 1)) = _
          rw [if_neg h1, if_neg h2, if_neg h3]
/-- where the orders start -/
def stO (p : Nat → Int32) (ty : Nat) : Nat → Nat | 0 => 0 | k + 1 => roS p ty (stO p ty k) + 1
/-- an order of the text, as it was told -/
def oF (p : Nat → Int32) (ty : Nat) (t : Nat → Int32) (k : Nat) : Prop := stO p ty k < ty ∧ roB p ty (stO p ty k) = true ∧ (roS p ty (stO p ty k) < ty → p (roS p ty (stO p ty k)) = 59) ∧ t (3 * k) = leF p ty (stO p ty k) ∧ t (3 * k + 1) = (fiF p ty (stO p ty k)).1 ∧ t (3 * k + 2) = (seS p ty (stO p ty k)).1
theorem roT_o {sp tm : Nat} {t : Nat → Int32} {j : Nat} (h : j < 3 * tm) : roT p ty sp tm t j = t j := by
  unfold roT
  cases isLe (leF p ty sp) with
  | false => rfl
  | true => show upd _ _ _ _ = _; rw [upd_ne (by omega), upd_ne (by omega), upd_ne (by omega)]
theorem roT_k {sp tm : Nat} {t : Nat → Int32} (h : isLe (leF p ty sp) = true) : roT p ty sp tm t (3 * tm) = leF p ty sp ∧ roT p ty sp tm t (3 * tm + 1) = (fiF p ty sp).1 ∧ roT p ty sp tm t (3 * tm + 2) = (seS p ty sp).1 := by
  unfold roT
  rw [h]
  refine ⟨?_, ?_, ?_⟩
  · show upd _ _ _ _ = _; rw [upd_ne (by omega), upd_ne (by omega), upd_eq]
  · show upd _ _ _ _ = _; rw [upd_ne (by omega), upd_eq]
  · show upd _ _ _ _ = _; rw [upd_eq]
theorem rp_all (hty : ty ≤ 80) : ∀ (r sp tm : Nat) (t : Nat → Int32), sp ≤ ty → 80 ≤ sp + 3 * r → stO p ty (tm + 1) = sp + 1 →
    (faF p ty (ty - sp) 7 sp = cond (rpF p ty r sp (tm + 1) t).1 (-6) (nI (rpF p ty r sp (tm + 1) t).2.1)) ∧ ((rpF p ty r sp (tm + 1) t).1 = true → (sp < ty → p sp = 59) ∧ ∃ m, tm + 1 ≤ m ∧ (rpF p ty r sp (tm + 1) t).2.2.1 = m ∧ stO p ty m = ty + 1 ∧ (∀ j, j < 3 * (tm + 1) → (rpF p ty r sp (tm + 1) t).2.2.2 j = t j) ∧ ∀ k, tm + 1 ≤ k → k < m → oF p ty (rpF p ty r sp (tm + 1) t).2.2.2 k) := by
  intro r
  induction r with
  | zero =>
    intro sp tm t h1 h2 h3
    have e : sp = ty := by omega
    subst e
    unfold rpF
    refine ⟨by rw [faE, if_pos (Or.inl rfl)]; rfl, fun _ => ⟨fun q => by omega, tm + 1, Nat.le_refl _, rfl, h3, fun j _ => rfl, fun k k1 k2 => by omega⟩⟩
  | succ r ih =>
    intro sp tm t h1 h2 h3
    by_cases hlt : sp < ty
    · have e7 : faF p ty (ty - sp) 7 sp = if p sp = 59 then faF p ty (ty - (sp + 1)) 0 (sp + 1) else nI sp := by
        rw [faS hlt]
        show (match (if p sp = 59 then some 0 else none) with | none => nI sp | some k => faF p ty (ty - (sp + 1)) k (sp + 1)) = _
        by_cases g : p sp = 59
        · rw [if_pos g, if_pos g]
        · rw [if_neg g, if_neg g]
      unfold rpF
      rw [if_pos hlt, e7]
      by_cases g : p sp = 59
      · rw [if_pos g, seF_c.mpr ⟨hlt, g⟩]
        have ok := ok_all (p := p) (show sp + 1 ≤ ty from hlt)
        simp only [cond]
        cases hb : roB p ty (sp + 1) with
        | false =>
          exact ⟨ok.1 hb, fun q => absurd (show false = true from q) (by decide)⟩
        | true =>
          obtain ⟨o1, o2, o3⟩ := ok.2 hb
          have ha := roB_adv hb
          have hm : roM p ty (sp + 1) (tm + 1) = tm + 1 + 1 := by unfold roM; rw [ha.2.2]; rfl
          have hst : stO p ty (tm + 1 + 1) = roS p ty (sp + 1) + 1 := by
            show roS p ty (stO p ty (tm + 1)) + 1 = _
            rw [h3]
          have k := ih (roS p ty (sp + 1)) (tm + 1) (roT p ty (sp + 1) (tm + 1) t) ha.2.1 (by omega) hst
          simp only
          rw [hm]
          refine ⟨o1.trans k.1, fun q => ⟨fun _ => g, ?_⟩⟩
          obtain ⟨k1, m, m1, m2, m3, m4, m5⟩ := k.2 q
          refine ⟨m, by omega, m2, m3, fun j hj => (m4 j (by omega)).trans (roT_o hj), fun c c1 c2 => ?_⟩
          by_cases e : c = tm + 1
          · subst e
            obtain ⟨w1, w2, w3⟩ := roT_k (p := p) (ty := ty) (sp := sp + 1) (tm := tm + 1) (t := t) ha.2.2
            unfold oF
            rw [h3, m4 _ (by omega), m4 _ (by omega), m4 _ (by omega), w1, w2, w3]
            exact ⟨by omega, hb, k1, rfl, rfl, rfl⟩
          · exact m5 c (by omega) c2
      · rw [if_neg g, show seF p ty sp 59 59 = false by
          cases q : seF p ty sp 59 59 with
          | false => rfl
          | true => exact (g (seF_c.mp q).2).elim]
        exact ⟨rfl, fun q => absurd (show false = true from q) (by decide)⟩
    · have e : sp = ty := by omega
      subst e
      unfold rpF
      rw [if_neg hlt]
      refine ⟨by rw [faE, if_pos (Or.inl rfl)]; rfl, fun _ => ⟨fun q => by omega, tm + 1, Nat.le_refl _, rfl, h3, fun j _ => rfl, fun k k1 k2 => by omega⟩⟩
theorem rd_all (hty : ty ≤ 80) (t : Nat → Int32) : (faF p ty ty 0 0 = cond (rdF p ty t).1 (-6) (nI (rdF p ty t).2.1)) ∧ ((rdF p ty t).1 = true → stO p ty (rdF p ty t).2.2.1 = ty + 1 ∧ ∀ k, k < (rdF p ty t).2.2.1 → oF p ty (rdF p ty t).2.2.2 k) := by
  have ok := ok_all (p := p) (ty := ty) (sp := 0) (by omega)
  unfold rdF
  cases hb : roB p ty 0 with
  | false => exact ⟨ok.1 hb, fun q => absurd (show false = true from q) (by decide)⟩
  | true =>
    obtain ⟨o1, o2, o3⟩ := ok.2 hb
    have ha := roB_adv hb
    have hm : roM p ty 0 0 = 0 + 1 := by unfold roM; rw [ha.2.2]; rfl
    have k := rp_all (p := p) hty 27 (roS p ty 0) 0 (roT p ty 0 0 t) ha.2.1 (by omega) rfl
    simp only [cond]
    rw [hm]
    refine ⟨o1.trans k.1, fun q => ?_⟩
    obtain ⟨k1, m, m1, m2, m3, m4, m5⟩ := k.2 q
    rw [m2]
    refine ⟨m3, fun c c2 => ?_⟩
    by_cases e : c = 0
    · subst e
      obtain ⟨w1, w2, w3⟩ := roT_k (p := p) (ty := ty) (sp := 0) (tm := 0) (t := t) ha.2.2
      unfold oF
      rw [show stO p ty 0 = 0 from rfl, m4 _ (by omega), m4 _ (by omega), m4 _ (by omega), w1, w2, w3]
      exact ⟨by omega, hb, k1, rfl, rfl, rfl⟩
    · exact m5 c (by omega) c2
end TEXT
