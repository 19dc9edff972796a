/-! places as lists, steps of lists, meetings (of whole's parts 32, 33 what does not speak of the reference) -/
def fcF (f : Nat → Bool) : Nat → Nat → Int32 | 0, _ => -6 | r + 1, c => cond (f c) (nI c) (fcF f r (c + 1))
def srF (f : Nat → Bool) : Nat → Nat → Nat | 0, c => c | r + 1, c => cond (f c) c (srF f r (c + 1))
theorem fcF_some {f : Nat → Bool} : ∀ r c e, c ≤ e → e < c + r → f e = true → (∀ j, c ≤ j → j < e → f j = false) → fcF f r c = nI e := by
  intro r
  induction r with
  | zero => intro c e h1 h2; omega
  | succ r ih =>
    intro c e h1 h2 h3 h4
    unfold fcF
    by_cases hc : c = e
    · subst hc; rw [h3]; rfl
    · rw [h4 c (Nat.le_refl _) (by omega)]
      exact ih (c + 1) e (by omega) (by omega) h3 (fun j g1 g2 => h4 j (by omega) g2)
theorem fcF_none {f : Nat → Bool} : ∀ r c, (∀ j, c ≤ j → j < c + r → f j = false) → fcF f r c = -6 := by
  intro r
  induction r with
  | zero => intro c _; rfl
  | succ r ih =>
    intro c h
    unfold fcF
    rw [h c (Nat.le_refl _) (by omega)]
    exact ih (c + 1) (fun j g1 g2 => h j (by omega) (by omega))
theorem fcF_cg {f g : Nat → Bool} : ∀ r c, (∀ j, c ≤ j → j < c + r → f j = g j) → fcF f r c = fcF g r c := by
  intro r
  induction r with
  | zero => intro c _; rfl
  | succ r ih =>
    intro c h
    unfold fcF
    rw [h c (Nat.le_refl _) (by omega), ih (c + 1) (fun j g1 g2 => h j (by omega) (by omega))]
theorem fcF_or (f : Nat → Bool) : ∀ r c, (∃ e, c ≤ e ∧ e < c + r ∧ f e = true ∧ fcF f r c = nI e) ∨ ((∀ j, c ≤ j → j < c + r → f j = false) ∧ fcF f r c = -6) := by
  intro r
  induction r with
  | zero => intro c; exact Or.inr ⟨fun j g1 g2 => by omega, rfl⟩
  | succ r ih =>
    intro c
    unfold fcF
    cases hf : f c with
    | true => exact Or.inl ⟨c, Nat.le_refl _, by omega, hf, rfl⟩
    | false =>
      rcases ih (c + 1) with ⟨e, h1, h2, h3, h4⟩ | ⟨h1, h2⟩
      · exact Or.inl ⟨e, by omega, by omega, h3, h4⟩
      · refine Or.inr ⟨fun j g1 g2 => ?_, h2⟩
        by_cases hj : j = c
        · subst hj; exact hf
        · exact h1 j (by omega) (by omega)
theorem nI_n6 : ∀ n, n < 2000 → ¬ nI n = -6 := by decide +kernel
theorem fcF_6 {f : Nat → Bool} {r c : Nat} (h : c + r ≤ 2000) : fcF f r c = -6 ↔ ∀ j, c ≤ j → j < c + r → f j = false := by
  constructor
  · intro q
    rcases fcF_or f r c with ⟨e, h1, h2, h3, h4⟩ | ⟨h1, h2⟩
    · rw [h4] at q; exact (nI_n6 e (by omega) q).elim
    · exact h1
  · exact fcF_none r c
theorem srF_ge (f : Nat → Bool) : ∀ r c, c ≤ srF f r c ∧ srF f r c ≤ c + r := by
  intro r
  induction r with
  | zero => intro c; exact ⟨Nat.le_refl _, Nat.le_refl _⟩
  | succ r ih =>
    intro c
    unfold srF
    cases f c with
    | true => exact ⟨Nat.le_refl _, Nat.le_add_right _ _⟩
    | false => have := ih (c + 1); simp only [cond]; omega
theorem srF_all {f : Nat → Bool} : ∀ r c, (∀ j, f j = false) → srF f r c = c + r := by
  intro r
  induction r with
  | zero => intro c _; rfl
  | succ r ih =>
    intro c h
    unfold srF
    rw [h c]
    have := ih (c + 1) h
    simp only [cond]
    omega
theorem srF_lt {f : Nat → Bool} : ∀ r c, srF f r c < c + r → f (srF f r c) = true := by
  intro r
  induction r with
  | zero => intro c h; unfold srF at h; omega
  | succ r ih =>
    intro c h
    unfold srF at h ⊢
    cases hf : f c with
    | true => exact hf
    | false =>
      rw [hf] at h
      simp only [cond] at h ⊢
      exact ih (c + 1) (by omega)
/-- the places of the carriers that are there -/
def pl (z : Nat → Int32) : Nat → List Nat | 0 => [] | c + 1 => cond (zt z c) (pl z c ++ [(z (10 + 7 * c)).toNatClampNeg]) (pl z c)
theorem pl_len (z : Nat → Int32) : ∀ c, (pl z c).length = tpm z c := by
  intro c
  induction c with
  | zero => rfl
  | succ c ih =>
    unfold pl tpm
    cases zt z c with
    | true => simp [ih]
    | false => exact ih
theorem In.at {z : Nat → Int32} {P : Nat} (hi : In z P) (h6 : P ≤ 6) {c : Nat} (hc : c < 10) (hz : zt z c = true) : (z (10 + 7 * c)).toNatClampNeg < 8 * P ∧ z (10 + 7 * c) = nI (z (10 + 7 * c)).toNatClampNeg := by
  obtain ⟨q, hq, e⟩ := hi c hc hz
  rw [e, xnc (by omega)]
  exact ⟨hq, rfl⟩
theorem pl_mem {z : Nat → Int32} {P : Nat} (hi : In z P) (h6 : P ≤ 6) {p : Nat} (hp : p < 48) : ∀ c, c ≤ 10 → (p ∈ pl z c ↔ ∃ e, e < c ∧ zt z e = true ∧ z (10 + 7 * e) = nI p) := by
  intro c
  induction c with
  | zero =>
    intro _
    constructor
    · intro h; simp [pl] at h
    · rintro ⟨e, h, _⟩; omega
  | succ c ih =>
    intro hc
    unfold pl
    cases hz : zt z c with
    | false =>
      show p ∈ pl z c ↔ _
      rw [ih (by omega)]
      constructor
      · rintro ⟨e, h1, h2, h3⟩; exact ⟨e, by omega, h2, h3⟩
      · rintro ⟨e, h1, h2, h3⟩
        by_cases he : e = c
        · subst he; rw [hz] at h2; cases h2
        · exact ⟨e, by omega, h2, h3⟩
    | true =>
      show p ∈ pl z c ++ [(z (10 + 7 * c)).toNatClampNeg] ↔ _
      obtain ⟨k1, k2⟩ := hi.at h6 (by omega : c < 10) hz
      rw [List.mem_append, ih (by omega), List.mem_singleton]
      constructor
      · rintro (⟨e, h1, h2, h3⟩ | h)
        · exact ⟨e, by omega, h2, h3⟩
        · exact ⟨c, by omega, hz, by rw [h]; exact k2⟩
      · rintro ⟨e, h1, h2, h3⟩
        by_cases he : e = c
        · subst he
          right
          rw [h3, xnc (by omega)]
        · exact Or.inl ⟨e, by omega, h2, h3⟩
theorem pl_lt {z : Nat → Int32} {P : Nat} (hi : In z P) (h6 : P ≤ 6) : ∀ c, c ≤ 10 → ∀ p, p ∈ pl z c → p < 8 * P := by
  intro c
  induction c with
  | zero => intro _ p h; simp [pl] at h
  | succ c ih =>
    intro hc p h
    unfold pl at h
    cases hz : zt z c with
    | false => rw [hz] at h; exact ih (by omega) p h
    | true =>
      rw [hz] at h
      have h : p ∈ pl z c ++ [(z (10 + 7 * c)).toNatClampNeg] := h
      rw [List.mem_append, List.mem_singleton] at h
      rcases h with h | h
      · exact ih (by omega) p h
      · rw [h]; exact (hi.at h6 (by omega : c < 10) hz).1
def Di (z : Nat → Int32) : Prop := ∀ c e, c < 10 → e < 10 → zt z c = true → zt z e = true → z (10 + 7 * c) = z (10 + 7 * e) → c = e
theorem pl_nd {z : Nat → Int32} {P : Nat} (hi : In z P) (h6 : P ≤ 6) (hd : Di z) : ∀ c, c ≤ 10 → (pl z c).Nodup := by
  intro c
  induction c with
  | zero => intro _; exact List.nodup_nil
  | succ c ih =>
    intro hc
    unfold pl
    cases hz : zt z c with
    | false => exact ih (by omega)
    | true =>
      show (pl z c ++ [(z (10 + 7 * c)).toNatClampNeg]).Nodup
      obtain ⟨k1, k2⟩ := hi.at h6 (by omega : c < 10) hz
      rw [List.nodup_append]
      refine ⟨ih (by omega), by simp, ?_⟩
      intro a ha b hb
      rw [List.mem_singleton] at hb
      subst hb
      intro h
      subst h
      obtain ⟨e, h1, h2, h3⟩ := (pl_mem hi h6 (by omega) c (by omega)).mp ha
      have := hd c e (by omega) (by omega) hz h2 (by rw [h3]; exact k2)
      omega
theorem pl_tk {z : Nat → Int32} {P : Nat} (hi : In z P) (h6 : P ≤ 6) : ∀ c, c ≤ 10 → tkF z c = msk (pl z c) := by
  intro c
  induction c with
  | zero => intro _; rfl
  | succ c ih =>
    intro hc
    unfold pl tkF
    cases hz : zt z c with
    | false => exact ih (by omega)
    | true =>
      show tkF z c ||| shl 1 (z (10 + 7 * c)) = msk (pl z c ++ [(z (10 + 7 * c)).toNatClampNeg])
      rw [msk_app, ih (by omega), ← (hi.at h6 (by omega : c < 10) hz).2]
def stp (P : Nat) (l : List Nat) : List Nat := l.map (fun p => oN P (tN p))
def itl (P : Nat) (l : List Nat) : Nat → List Nat | 0 => l | n + 1 => stp P (itl P l n)
def Vl (P : Nat) (l : List Nat) : Prop := l.Nodup ∧ ∀ p, p ∈ l → p < 8 * P
theorem st_inj {P p e : Nat} (h2 : 2 ≤ P) (h6 : P ≤ 6) (hp : p < 8 * P) (he : e < 8 * P) (h : tN p = tN e) : p = e := by
  rw [← (perm_ok h2 h6 hp).2.1, ← (perm_ok h2 h6 he).2.1, h]
theorem so_inj {P p e : Nat} (h2 : 2 ≤ P) (h6 : P ≤ 6) (hp : p < 8 * P) (he : e < 8 * P) (h : oN P p = oN P e) : p = e := by
  rw [← (perm_ok h2 h6 hp).1, ← (perm_ok h2 h6 he).1, h]
theorem nd_map {f : Nat → Nat} {l : List Nat} (hi : ∀ a b, a ∈ l → b ∈ l → f a = f b → a = b) (hn : l.Nodup) : (l.map f).Nodup := by
  induction l with
  | nil => exact List.nodup_nil
  | cons a r ih =>
    have h := List.nodup_cons.mp hn
    rw [List.map_cons]
    refine List.nodup_cons.mpr ⟨fun hm => ?_, ih (fun x y hx hy => hi x y (by simp [hx]) (by simp [hy])) h.2⟩
    obtain ⟨b, hb, e⟩ := List.mem_map.mp hm
    have := hi b a (by simp [hb]) (by simp) e
    subst this
    exact h.1 hb
theorem Vl.tn {P : Nat} {l : List Nat} (h2 : 2 ≤ P) (h6 : P ≤ 6) (h : Vl P l) : Vl P (l.map tN) := by
  refine ⟨nd_map (fun a b ha hb e => st_inj h2 h6 (h.2 a ha) (h.2 b hb) e) h.1, fun p hp => ?_⟩
  obtain ⟨a, ha, e⟩ := List.mem_map.mp hp
  subst e
  exact (perm_ok h2 h6 (h.2 a ha)).2.2.1
theorem Vl.on {P : Nat} {l : List Nat} (h2 : 2 ≤ P) (h6 : P ≤ 6) (h : Vl P l) : Vl P (l.map (oN P)) := by
  refine ⟨nd_map (fun a b ha hb e => so_inj h2 h6 (h.2 a ha) (h.2 b hb) e) h.1, fun p hp => ?_⟩
  obtain ⟨a, ha, e⟩ := List.mem_map.mp hp
  subst e
  exact (perm_ok h2 h6 (h.2 a ha)).2.2.2.1
theorem stp_eq (P : Nat) (l : List Nat) : stp P l = (l.map tN).map (oN P) := by
  unfold stp
  rw [List.map_map]
  rfl
theorem Vl.st {P : Nat} {l : List Nat} (h2 : 2 ≤ P) (h6 : P ≤ 6) (h : Vl P l) : Vl P (stp P l) := by
  rw [stp_eq]
  exact (h.tn h2 h6).on h2 h6
theorem Vl.it {P : Nat} {l : List Nat} (h2 : 2 ≤ P) (h6 : P ≤ 6) (h : Vl P l) : ∀ n, Vl P (itl P l n) := by
  intro n
  induction n with
  | zero => exact h
  | succ n ih => exact ih.st h2 h6
theorem Vl.lo {P : Nat} {l : List Nat} (h6 : P ≤ 6) (h : Vl P l) : Lo l := fun p hp => by have := h.2 p hp; omega
theorem itl_len (P : Nat) (l : List Nat) : ∀ n, (itl P l n).length = l.length := by
  intro n
  induction n with
  | zero => rfl
  | succ n ih => unfold itl stp; rw [List.length_map, ih]
def mtB (P : Nat) (t : List Nat) (c : Nat) : Bool := decide (4 * c ∈ t) && decide (oN P (4 * c) ∈ t)
theorem mtB_iff {P : Nat} {t : List Nat} {c : Nat} : mtB P t c = true ↔ mtg P t c := by
  unfold mtB mtg
  rw [Bool.and_eq_true, decide_eq_true_eq, decide_eq_true_eq]
/-- the first contact at which two meet behind the turning -/
def fm (P : Nat) (l : List Nat) : Int32 := fcF (mtB P (l.map tN)) (2 * P) 0
theorem mts_fm {P : Nat} {l : List Nat} (h2 : 2 ≤ P) (h6 : P ≤ 6) (h : Vl P l) : mts (aT (msk l)) (nI (2 * P)) = 0 ↔ fm P l = -6 := by
  unfold fm
  rw [aT_msk (h.lo h6), mts_0 h2 h6 (h.tn h2 h6).2, fcF_6 (by omega)]
  constructor
  · intro g j _ hj
    cases hb : mtB P (l.map tN) j with
    | true => exact (g j (by omega) (mtB_iff.mp hb)).elim
    | false => rfl
  · intro g c hc hm
    have := g c (by omega) (by omega)
    rw [mtB_iff.mpr hm] at this
    cases this
theorem aP_st {P : Nat} {l : List Nat} (h2 : 2 ≤ P) (h6 : P ≤ 6) (h : Vl P l) : aP (aT (msk l)) (nI (2 * P)) = msk (stp P l) := by
  rw [aT_msk (h.lo h6), aP_msk h2 h6 (h.tn h2 h6).2, stp_eq]
theorem bSt_st {P : Nat} {l : List Nat} (h2 : 2 ≤ P) (h6 : P ≤ 6) (h : Vl P l) : bSt (msk l) (nI (2 * P)) = if fm P l = -6 then msk (stp P l) else -1 := by
  unfold bSt
  rw [aP_st h2 h6 h]
  by_cases g : fm P l = -6
  · rw [if_pos g, if_pos ((mts_fm h2 h6 h).mpr g)]
  · rw [if_neg g, if_neg (fun q => g ((mts_fm h2 h6 h).mp q))]
def mt (P : Nat) (l : List Nat) (i : Nat) : Bool := decide (¬ fm P (itl P l i) = -6)
theorem itl_per {P : Nat} {l : List Nat} (h2 : 2 ≤ P) (h6 : P ≤ 6) (h : Vl P l) {c : Nat} (hm : msk (itl P l (c + 1)) = msk l) : ∀ j, msk (itl P l (j + (c + 1))) = msk (itl P l j) := by
  intro j
  induction j with
  | zero => rw [Nat.zero_add]; exact hm
  | succ j ih =>
    rw [show j + 1 + (c + 1) = j + (c + 1) + 1 by omega]
    show msk (stp P (itl P l (j + (c + 1)))) = msk (stp P (itl P l j))
    rw [← aP_st h2 h6 (h.it h2 h6 _), ← aP_st h2 h6 (h.it h2 h6 _), ih]
theorem mt_msk {P : Nat} {l : List Nat} (h2 : 2 ≤ P) (h6 : P ≤ 6) (h : Vl P l) {a b : Nat} (e : msk (itl P l a) = msk (itl P l b)) : mt P l a = mt P l b := by
  unfold mt
  refine decide_eq_decide.mpr ?_
  rw [← mts_fm h2 h6 (h.it h2 h6 a), ← mts_fm h2 h6 (h.it h2 h6 b), e]
theorem mt_per {P : Nat} {l : List Nat} (h2 : 2 ≤ P) (h6 : P ≤ 6) (h : Vl P l) {c : Nat} (hm : msk (itl P l (c + 1)) = msk l) (hn : ∀ j, j ≤ c → mt P l j = false) : ∀ n j, j < n → mt P l j = false := by
  intro n
  induction n with
  | zero => intro j hj; omega
  | succ n ih =>
    intro j hj
    by_cases g : j ≤ c
    · exact hn j g
    · have e := mt_msk h2 h6 h (itl_per h2 h6 h hm (j - (c + 1)))
      rw [show j - (c + 1) + (c + 1) = j by omega] at e
      rw [e]
      exact ih _ (by omega)
theorem fM_sr {P : Nat} {l : List Nat} (h2 : 2 ≤ P) (h6 : P ≤ 6) (h : Vl P l) : ∀ r c, (∀ j, j < c → mt P l j = false) → fM (msk l) (nI (2 * P)) r (c + 1) (msk (itl P l c)) = if srF (mt P l) r c < c + r then nI (srF (mt P l) r c + 1) else -6 := by
  intro r
  induction r with
  | zero => intro c _; unfold fM srF; rw [if_neg (by omega)]
  | succ r ih =>
    intro c hc
    have hv := h.it h2 h6 c
    unfold fM srF
    rw [bSt_st h2 h6 hv]
    cases hb : mt P l c with
    | true =>
      have g : ¬ fm P (itl P l c) = -6 := of_decide_eq_true hb
      rw [if_neg g, if_pos rfl]
      simp only [cond]
      rw [if_pos (by omega)]
    | false =>
      have g : fm P (itl P l c) = -6 := Decidable.not_not.mp (of_decide_eq_false hb)
      have hv1 := hv.st h2 h6
      rw [if_pos g, if_neg (msk_m1 (hv1.lo h6))]
      simp only [cond]
      have hc1 : ∀ j, j < c + 1 → mt P l j = false := by
        intro j hj
        by_cases e : j = c
        · subst e; exact hb
        · exact hc j (by omega)
      by_cases e : msk (stp P (itl P l c)) = msk l
      · rw [if_pos e]
        have ha : ∀ j, mt P l j = false := fun j => mt_per h2 h6 h e (fun j hj => hc1 j (by omega)) (j + 1) j (by omega)
        rw [srF_all r (c + 1) ha, if_neg (by omega)]
      · rw [if_neg e]
        have := ih (c + 1) hc1
        rw [show c + (r + 1) = c + 1 + r by omega]
        exact this
def mEmp (z : Nat → Int32) : Nat → Bool | 0 => false | c + 1 => mEmp z c || (zt z c && decide (z (10 + 7 * c + 1) = 0))
def El (z : Nat → Int32) : Prop := ∀ c, c < 10 → ∃ v, v ≤ 999 ∧ z (10 + 7 * c + 1) = nI v
def Fi (z : Nat → Int32) : Prop := ∃ v, v ≤ 999 ∧ z 2 = nI v
def GP (z : Nat → Int32) (P : Nat) : Prop := z 0 = nI P ∧ 2 ≤ P ∧ P ≤ 6 ∧ In z P ∧ Fl z ∧ Di z ∧ El z ∧ Fi z
section SAME
variable {z : Nat → Int32} {P : Nat}
theorem GP.vl (h : GP z P) : Vl P (pl z 10) := ⟨pl_nd h.2.2.2.1 h.2.2.1 h.2.2.2.2.2.1 10 (Nat.le_refl _), pl_lt h.2.2.2.1 h.2.2.1 10 (Nat.le_refl _)⟩
theorem GP.tk (h : GP z P) : tkF z 10 = msk (pl z 10) := pl_tk h.2.2.2.1 h.2.2.1 10 (Nat.le_refl _)
theorem GP.hn (h : GP z P) : 2 * z 0 = nI (2 * P) := by rw [h.1, x2P]
theorem GP.tk0 (h : GP z P) : tkF z 10 = 0 ↔ tpm z 10 = 0 := by
  rw [h.tk, msk_0 (h.vl.lo h.2.2.1), ← pl_len]
  exact List.length_eq_zero_iff.symm
theorem le_emp (h : El z) : ∀ c, c ≤ 10 → ∃ v, v ≤ 1000 ∧ leF2 z c = nI v ∧ (v = 0 ↔ mEmp z c = true) := by
  intro c
  induction c with
  | zero => intro _; exact ⟨1000, by omega, rfl, ⟨fun q => by omega, fun q => by cases q⟩⟩
  | succ c ih =>
    intro hc
    obtain ⟨v, h1, h2, h3⟩ := ih (by omega)
    obtain ⟨u, g1, g2⟩ := h c (by omega)
    unfold leF2 mEmp
    rw [h2, g2]
    cases hz : zt z c with
    | false =>
      refine ⟨v, h1, rfl, ?_⟩
      rw [h3]
      simp
    | true =>
      have e0 : (nI u = 0) ↔ u = 0 := nI_eq (b := 0) (by omega) (by omega)
      by_cases g : u < v
      · refine ⟨u, by omega, ?_, ?_⟩
        · show (if nI u < nI v then nI u else nI v) = _
          rw [if_pos (nI_lt g (by omega))]
        · have hv : mEmp z c = false := by
            cases hb : mEmp z c with
            | false => rfl
            | true => have := h3.mpr hb; omega
          rw [hv]
          simp [e0]
      · refine ⟨v, by omega, ?_, ?_⟩
        · show (if nI u < nI v then nI u else nI v) = _
          rw [if_neg (nI_nlt (by omega) (by omega))]
        · rw [h3]
          constructor
          · intro q; rw [q]; rfl
          · intro q
            rw [Bool.or_eq_true] at q
            rcases q with q | q
            · exact q
            · have : u = 0 := by simpa [e0] using q
              exact h3.mp (by omega)
theorem GP.gfm (h : GP z P) (L : Nat) : fM (tkF z 10) (2 * z 0) L 1 (tkF z 10) = if srF (mt P (pl z 10)) L 0 < L then nI (srF (mt P (pl z 10)) L 0 + 1) else -6 := by
  have e := fM_sr h.2.1 h.2.2.1 h.vl L 0 (fun j hj => by omega)
  rw [h.tk, h.hn]
  rw [Nat.zero_add] at e
  rw [Nat.zero_add] at e
  exact e
theorem srF_no {f : Nat → Bool} : ∀ r c j, c ≤ j → j < srF f r c → f j = false := by
  intro r
  induction r with
  | zero => intro c j h1 h2; unfold srF at h2; omega
  | succ r ih =>
    intro c j h1 h2
    unfold srF at h2
    cases hf : f c with
    | true => rw [hf] at h2; simp only [cond] at h2; omega
    | false =>
      rw [hf] at h2
      by_cases e : j = c
      · subst e; exact hf
      · exact ih (c + 1) j (by omega) h2
/-- the way of one place -/
def it1 (P : Nat) : Nat → Nat → Nat | 0, p => p | n + 1, p => oN P (tN (it1 P n p))
theorem it1_s (P : Nat) : ∀ n p, it1 P n (oN P (tN p)) = oN P (tN (it1 P n p)) := by
  intro n
  induction n with
  | zero => intro p; rfl
  | succ n ih => intro p; unfold it1; rw [ih]
theorem it1_lt (h2 : 2 ≤ P) (h6 : P ≤ 6) : ∀ n p, p < 8 * P → it1 P n p < 8 * P := by
  intro n
  induction n with
  | zero => intro p h; exact h
  | succ n ih =>
    intro p h
    exact (perm_ok h2 h6 (perm_ok h2 h6 (ih p h)).2.2.1).2.2.2.1
theorem it1_inj (h2 : 2 ≤ P) (h6 : P ≤ 6) : ∀ n p e, p < 8 * P → e < 8 * P → it1 P n p = it1 P n e → p = e := by
  intro n
  induction n with
  | zero => intro p e _ _ h; exact h
  | succ n ih =>
    intro p e hp he h
    have kp := it1_lt h2 h6 n p hp
    have ke := it1_lt h2 h6 n e he
    exact ih p e hp he (st_inj h2 h6 kp ke (so_inj h2 h6 (perm_ok h2 h6 kp).2.2.1 (perm_ok h2 h6 ke).2.2.1 h))
theorem itl_get (P : Nat) (l : List Nat) (k : Nat) : ∀ n, (itl P l n)[k]? = (l[k]?).map (it1 P n) := by
  intro n
  induction n with
  | zero => cases h : l[k]? <;> simp [itl, it1, h]
  | succ n ih =>
    unfold itl stp
    rw [List.getElem?_map, ih]
    cases l[k]? <;> rfl
theorem fIn_fc (p : Int32) : ∀ r c, fIn z p r c = fcF (fun e => zt z e && decide (z (10 + 7 * e) = p)) r c := by
  intro r
  induction r with
  | zero => intro c; rfl
  | succ r ih => intro c; unfold fIn fcF; rw [ih]
end SAME
