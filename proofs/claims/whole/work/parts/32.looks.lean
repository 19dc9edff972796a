/-! rows of places, lists of places, masks -/
def fcF (f : Nat → Bool) : Nat → Nat → Int32 | 0, _ => -6 | r + 1, c => cond (f c) (nI c) (fcF f r (c + 1))
def lsF (f : Nat → Bool) : Nat → Int32 | 0 => -6 | c + 1 => cond (f c) (nI c) (lsF f c)
def srF (f : Nat → Bool) : Nat → Nat → Nat | 0, c => c | r + 1, c => cond (f c) c (srF f r (c + 1))
theorem fcF_some {f : Nat → Bool} : ∀ r c e, c ≤ e → e < c + r → f e = true → (∀ j, c ≤ j → j < e → f j = false) → fcF f r c = nI e := by
  intro r
  induction r with
  | zero => intro c e h1 h2; omega
  | succ r ih =>
    intro c e h1 h2 h3 h4
    unfold fcF
    by_cases hc : c = e
    · subst hc; rw [h3]; rfl
    · rw [h4 c (Nat.le_refl _) (by omega)]
      exact ih (c + 1) e (by omega) (by omega) h3 (fun j g1 g2 => h4 j (by omega) g2)
theorem fcF_none {f : Nat → Bool} : ∀ r c, (∀ j, c ≤ j → j < c + r → f j = false) → fcF f r c = -6 := by
  intro r
  induction r with
  | zero => intro c _; rfl
  | succ r ih =>
    intro c h
    unfold fcF
    rw [h c (Nat.le_refl _) (by omega)]
    exact ih (c + 1) (fun j g1 g2 => h j (by omega) (by omega))
theorem fcF_cg {f g : Nat → Bool} : ∀ r c, (∀ j, c ≤ j → j < c + r → f j = g j) → fcF f r c = fcF g r c := by
  intro r
  induction r with
  | zero => intro c _; rfl
  | succ r ih =>
    intro c h
    unfold fcF
    rw [h c (Nat.le_refl _) (by omega), ih (c + 1) (fun j g1 g2 => h j (by omega) (by omega))]
theorem fcF_or (f : Nat → Bool) : ∀ r c, (∃ e, c ≤ e ∧ e < c + r ∧ f e = true ∧ fcF f r c = nI e) ∨ ((∀ j, c ≤ j → j < c + r → f j = false) ∧ fcF f r c = -6) := by
  intro r
  induction r with
  | zero => intro c; exact Or.inr ⟨fun j g1 g2 => by omega, rfl⟩
  | succ r ih =>
    intro c
    unfold fcF
    cases hf : f c with
    | true => exact Or.inl ⟨c, Nat.le_refl _, by omega, hf, rfl⟩
    | false =>
      rcases ih (c + 1) with ⟨e, h1, h2, h3, h4⟩ | ⟨h1, h2⟩
      · exact Or.inl ⟨e, by omega, by omega, h3, h4⟩
      · refine Or.inr ⟨fun j g1 g2 => ?_, h2⟩
        by_cases hj : j = c
        · subst hj; exact hf
        · exact h1 j (by omega) (by omega)
theorem lsF_some {f : Nat → Bool} : ∀ n e, e < n → f e = true → (∀ j, j < n → f j = true → j = e) → lsF f n = nI e := by
  intro n
  induction n with
  | zero => intro e h; omega
  | succ n ih =>
    intro e h1 h2 h3
    unfold lsF
    by_cases hn : n = e
    · subst hn; rw [h2]; rfl
    · cases hf : f n with
      | true => exact (hn (h3 n (by omega) hf)).elim
      | false => exact ih e (by omega) h2 (fun j g1 g2 => h3 j (by omega) g2)
theorem lsF_none {f : Nat → Bool} : ∀ n, (∀ j, j < n → f j = false) → lsF f n = -6 := by
  intro n
  induction n with
  | zero => intro _; rfl
  | succ n ih =>
    intro h
    unfold lsF
    rw [h n (by omega)]
    exact ih (fun j g => h j (by omega))
theorem fl_eq {f : Nat → Bool} {n : Nat} (h : ∀ j e, j < n → e < n → f j = true → f e = true → j = e) : fcF f n 0 = lsF f n := by
  rcases fcF_or f n 0 with ⟨e, h1, h2, h3, h4⟩ | ⟨h1, h2⟩
  · rw [h4, lsF_some n e (by omega) h3 (fun j g1 g2 => h j e g1 (by omega) g2 h3)]
  · rw [h2, lsF_none n (fun j g => h1 j (by omega) (by omega))]
theorem lsF_cg {f g : Nat → Bool} : ∀ n, (∀ j, j < n → f j = g j) → lsF f n = lsF g n := by
  intro n
  induction n with
  | zero => intro _; rfl
  | succ n ih =>
    intro h
    unfold lsF
    rw [h n (by omega), ih (fun j g => h j (by omega))]
theorem nI_n6 : ∀ n, n < 2000 → ¬ nI n = -6 := by decide +kernel
theorem fcF_6 {f : Nat → Bool} {r c : Nat} (h : c + r ≤ 2000) : fcF f r c = -6 ↔ ∀ j, c ≤ j → j < c + r → f j = false := by
  constructor
  · intro q
    rcases fcF_or f r c with ⟨e, h1, h2, h3, h4⟩ | ⟨h1, h2⟩
    · rw [h4] at q; exact (nI_n6 e (by omega) q).elim
    · exact h1
  · exact fcF_none r c
theorem srF_ge (f : Nat → Bool) : ∀ r c, c ≤ srF f r c ∧ srF f r c ≤ c + r := by
  intro r
  induction r with
  | zero => intro c; exact ⟨Nat.le_refl _, Nat.le_refl _⟩
  | succ r ih =>
    intro c
    unfold srF
    cases f c with
    | true => exact ⟨Nat.le_refl _, Nat.le_add_right _ _⟩
    | false => have := ih (c + 1); simp only [cond]; omega
theorem srF_all {f : Nat → Bool} : ∀ r c, (∀ j, f j = false) → srF f r c = c + r := by
  intro r
  induction r with
  | zero => intro c _; rfl
  | succ r ih =>
    intro c h
    unfold srF
    rw [h c]
    have := ih (c + 1) h
    simp only [cond]
    omega
theorem srF_lt {f : Nat → Bool} : ∀ r c, srF f r c < c + r → f (srF f r c) = true := by
  intro r
  induction r with
  | zero => intro c h; unfold srF at h; omega
  | succ r ih =>
    intro c h
    unfold srF at h ⊢
    cases hf : f c with
    | true => exact hf
    | false =>
      rw [hf] at h
      simp only [cond] at h ⊢
      exact ih (c + 1) (by omega)
/-- the places of the carriers that are there -/
def pl (z : Nat → Int32) : Nat → List Nat | 0 => [] | c + 1 => cond (zt z c) (pl z c ++ [(z (10 + 7 * c)).toNatClampNeg]) (pl z c)
theorem pl_len (z : Nat → Int32) : ∀ c, (pl z c).length = tpm z c := by
  intro c
  induction c with
  | zero => rfl
  | succ c ih =>
    unfold pl tpm
    cases zt z c with
    | true => simp [ih]
    | false => exact ih
theorem In.at {z : Nat → Int32} {P : Nat} (hi : In z P) (h6 : P ≤ 6) {c : Nat} (hc : c < 10) (hz : zt z c = true) : (z (10 + 7 * c)).toNatClampNeg < 8 * P ∧ z (10 + 7 * c) = nI (z (10 + 7 * c)).toNatClampNeg := by
  obtain ⟨q, hq, e⟩ := hi c hc hz
  rw [e, xnc (by omega)]
  exact ⟨hq, rfl⟩
theorem pl_mem {z : Nat → Int32} {P : Nat} (hi : In z P) (h6 : P ≤ 6) {p : Nat} (hp : p < 48) : ∀ c, c ≤ 10 → (p ∈ pl z c ↔ ∃ e, e < c ∧ zt z e = true ∧ z (10 + 7 * e) = nI p) := by
  intro c
  induction c with
  | zero =>
    intro _
    constructor
    · intro h; simp [pl] at h
    · rintro ⟨e, h, _⟩; omega
  | succ c ih =>
    intro hc
    unfold pl
    cases hz : zt z c with
    | false =>
      show p ∈ pl z c ↔ _
      rw [ih (by omega)]
      constructor
      · rintro ⟨e, h1, h2, h3⟩; exact ⟨e, by omega, h2, h3⟩
      · rintro ⟨e, h1, h2, h3⟩
        by_cases he : e = c
        · subst he; rw [hz] at h2; cases h2
        · exact ⟨e, by omega, h2, h3⟩
    | true =>
      show p ∈ pl z c ++ [(z (10 + 7 * c)).toNatClampNeg] ↔ _
      obtain ⟨k1, k2⟩ := hi.at h6 (by omega : c < 10) hz
      rw [List.mem_append, ih (by omega), List.mem_singleton]
      constructor
      · rintro (⟨e, h1, h2, h3⟩ | h)
        · exact ⟨e, by omega, h2, h3⟩
        · exact ⟨c, by omega, hz, by rw [h]; exact k2⟩
      · rintro ⟨e, h1, h2, h3⟩
        by_cases he : e = c
        · subst he
          right
          rw [h3, xnc (by omega)]
        · exact Or.inl ⟨e, by omega, h2, h3⟩
theorem pl_lt {z : Nat → Int32} {P : Nat} (hi : In z P) (h6 : P ≤ 6) : ∀ c, c ≤ 10 → ∀ p, p ∈ pl z c → p < 8 * P := by
  intro c
  induction c with
  | zero => intro _ p h; simp [pl] at h
  | succ c ih =>
    intro hc p h
    unfold pl at h
    cases hz : zt z c with
    | false => rw [hz] at h; exact ih (by omega) p h
    | true =>
      rw [hz] at h
      have h : p ∈ pl z c ++ [(z (10 + 7 * c)).toNatClampNeg] := h
      rw [List.mem_append, List.mem_singleton] at h
      rcases h with h | h
      · exact ih (by omega) p h
      · rw [h]; exact (hi.at h6 (by omega : c < 10) hz).1
def Di (z : Nat → Int32) : Prop := ∀ c e, c < 10 → e < 10 → zt z c = true → zt z e = true → z (10 + 7 * c) = z (10 + 7 * e) → c = e
theorem pl_nd {z : Nat → Int32} {P : Nat} (hi : In z P) (h6 : P ≤ 6) (hd : Di z) : ∀ c, c ≤ 10 → (pl z c).Nodup := by
  intro c
  induction c with
  | zero => intro _; exact List.nodup_nil
  | succ c ih =>
    intro hc
    unfold pl
    cases hz : zt z c with
    | false => exact ih (by omega)
    | true =>
      show (pl z c ++ [(z (10 + 7 * c)).toNatClampNeg]).Nodup
      obtain ⟨k1, k2⟩ := hi.at h6 (by omega : c < 10) hz
      rw [List.nodup_append]
      refine ⟨ih (by omega), by simp, ?_⟩
      intro a ha b hb
      rw [List.mem_singleton] at hb
      subst hb
      intro h
      subst h
      obtain ⟨e, h1, h2, h3⟩ := (pl_mem hi h6 (by omega) c (by omega)).mp ha
      have := hd c e (by omega) (by omega) hz h2 (by rw [h3]; exact k2)
      omega
theorem pl_tk {z : Nat → Int32} {P : Nat} (hi : In z P) (h6 : P ≤ 6) : ∀ c, c ≤ 10 → tkF z c = msk (pl z c) := by
  intro c
  induction c with
  | zero => intro _; rfl
  | succ c ih =>
    intro hc
    unfold pl tkF
    cases hz : zt z c with
    | false => exact ih (by omega)
    | true =>
      show tkF z c ||| shl 1 (z (10 + 7 * c)) = msk (pl z c ++ [(z (10 + 7 * c)).toNatClampNeg])
      rw [msk_app, ih (by omega), ← (hi.at h6 (by omega : c < 10) hz).2]
/-- a row holds a list -/
def Rw (q : Nat → Int32) (l : List Nat) : Prop := ∀ k x, l[k]? = some x → q k = nI x
theorem Rw.app {q : Nat → Int32} {l : List Nat} {x : Nat} (h : Rw q l) : Rw (upd q l.length (nI x)) (l ++ [x]) := by
  intro k y hy
  by_cases hk : k = l.length
  · subst hk
    rw [upd_eq]
    rw [List.getElem?_append_right (Nat.le_refl _), Nat.sub_self] at hy
    have : x = y := Option.some.inj hy
    rw [this]
  · rw [upd_ne hk]
    by_cases hl : k < l.length
    · rw [List.getElem?_append_left hl] at hy
      exact h k y hy
    · rw [List.getElem?_eq_none (by simp; omega)] at hy
      cases hy
theorem tpl_rw {z : Nat → Int32} {P : Nat} (hi : In z P) (h6 : P ≤ 6) (a : Nat → Int32) : ∀ c, c ≤ 10 → Rw (tpl z a c) (pl z c) := by
  intro c
  induction c with
  | zero => intro _ k x h; simp [pl] at h
  | succ c ih =>
    intro hc
    unfold pl tpl
    cases hz : zt z c with
    | false => exact ih (by omega)
    | true =>
      show Rw (upd (tpl z a c) (tpm z c) (z (10 + 7 * c))) (pl z c ++ [(z (10 + 7 * c)).toNatClampNeg])
      rw [← pl_len z c, (hi.at h6 (by omega : c < 10) hz).2, xnc (by have := (hi.at h6 (by omega : c < 10) hz).1; omega)]
      exact (ih (by omega)).app
def stp (P : Nat) (l : List Nat) : List Nat := l.map (fun p => oN P (tN p))
def itl (P : Nat) (l : List Nat) : Nat → List Nat | 0 => l | n + 1 => stp P (itl P l n)
def Vl (P : Nat) (l : List Nat) : Prop := l.Nodup ∧ ∀ p, p ∈ l → p < 8 * P
theorem st_inj {P p e : Nat} (h2 : 2 ≤ P) (h6 : P ≤ 6) (hp : p < 8 * P) (he : e < 8 * P) (h : tN p = tN e) : p = e := by
  rw [← (perm_ok h2 h6 hp).2.1, ← (perm_ok h2 h6 he).2.1, h]
theorem so_inj {P p e : Nat} (h2 : 2 ≤ P) (h6 : P ≤ 6) (hp : p < 8 * P) (he : e < 8 * P) (h : oN P p = oN P e) : p = e := by
  rw [← (perm_ok h2 h6 hp).1, ← (perm_ok h2 h6 he).1, h]
theorem nd_map {f : Nat → Nat} {l : List Nat} (hi : ∀ a b, a ∈ l → b ∈ l → f a = f b → a = b) (hn : l.Nodup) : (l.map f).Nodup := by
  induction l with
  | nil => exact List.nodup_nil
  | cons a r ih =>
    have h := List.nodup_cons.mp hn
    rw [List.map_cons]
    refine List.nodup_cons.mpr ⟨fun hm => ?_, ih (fun x y hx hy => hi x y (by simp [hx]) (by simp [hy])) h.2⟩
    obtain ⟨b, hb, e⟩ := List.mem_map.mp hm
    have := hi b a (by simp [hb]) (by simp) e
    subst this
    exact h.1 hb
theorem Vl.tn {P : Nat} {l : List Nat} (h2 : 2 ≤ P) (h6 : P ≤ 6) (h : Vl P l) : Vl P (l.map tN) := by
  refine ⟨nd_map (fun a b ha hb e => st_inj h2 h6 (h.2 a ha) (h.2 b hb) e) h.1, fun p hp => ?_⟩
  obtain ⟨a, ha, e⟩ := List.mem_map.mp hp
  subst e
  exact (perm_ok h2 h6 (h.2 a ha)).2.2.1
theorem Vl.on {P : Nat} {l : List Nat} (h2 : 2 ≤ P) (h6 : P ≤ 6) (h : Vl P l) : Vl P (l.map (oN P)) := by
  refine ⟨nd_map (fun a b ha hb e => so_inj h2 h6 (h.2 a ha) (h.2 b hb) e) h.1, fun p hp => ?_⟩
  obtain ⟨a, ha, e⟩ := List.mem_map.mp hp
  subst e
  exact (perm_ok h2 h6 (h.2 a ha)).2.2.2.1
theorem stp_eq (P : Nat) (l : List Nat) : stp P l = (l.map tN).map (oN P) := by
  unfold stp
  rw [List.map_map]
  rfl
theorem Vl.st {P : Nat} {l : List Nat} (h2 : 2 ≤ P) (h6 : P ≤ 6) (h : Vl P l) : Vl P (stp P l) := by
  rw [stp_eq]
  exact (h.tn h2 h6).on h2 h6
theorem Vl.it {P : Nat} {l : List Nat} (h2 : 2 ≤ P) (h6 : P ≤ 6) (h : Vl P l) : ∀ n, Vl P (itl P l n) := by
  intro n
  induction n with
  | zero => exact h
  | succ n ih => exact ih.st h2 h6
theorem Vl.lo {P : Nat} {l : List Nat} (h6 : P ≤ 6) (h : Vl P l) : Lo l := fun p hp => by have := h.2 p hp; omega
theorem itl_len (P : Nat) (l : List Nat) : ∀ n, (itl P l n).length = l.length := by
  intro n
  induction n with
  | zero => rfl
  | succ n ih => unfold itl stp; rw [List.length_map, ih]
theorem Rw.st {P : Nat} {l : List Nat} {q : Nat → Int32} (h2 : 2 ≤ P) (h6 : P ≤ 6) (h : Vl P l) (hr : Rw q l) : Rw (sPl (nI (2 * P)) q l.length) (stp P l) := by
  intro k x hx
  unfold stp at hx
  rw [List.getElem?_map] at hx
  cases hk : l[k]? with
  | none => rw [hk] at hx; cases hx
  | some p =>
    rw [hk] at hx
    have e : oN P (tN p) = x := Option.some.inj hx
    have hp : p < 8 * P := h.2 p (List.mem_of_getElem? hk)
    have hl : k < l.length := by
      rcases Nat.lt_or_ge k l.length with g | g
      · exact g
      · rw [List.getElem?_eq_none g] at hk; cases hk
    have k1 := place_ok h2 h6 hp
    have k2 := place_ok h2 h6 k1.2.2.2.1
    show (if k < l.length then o32 (nI (2 * P)) (t32 (q k)) else q k) = nI x
    rw [if_pos hl, hr k p hk, k1.1, ← x2P, k2.2.1, e]
theorem Rw.it {P : Nat} {l : List Nat} {q : Nat → Int32} (h2 : 2 ≤ P) (h6 : P ≤ 6) (h : Vl P l) (hr : Rw q l) : ∀ n, Rw (pls (nI (2 * P)) l.length q n) (itl P l n) := by
  intro n
  induction n with
  | zero => exact hr
  | succ n ih =>
    have := ih.st h2 h6 (h.it h2 h6 n)
    rw [itl_len] at this
    exact this
def mtB (P : Nat) (t : List Nat) (c : Nat) : Bool := decide (4 * c ∈ t) && decide (oN P (4 * c) ∈ t)
theorem mtB_iff {P : Nat} {t : List Nat} {c : Nat} : mtB P t c = true ↔ mtg P t c := by
  unfold mtB mtg
  rw [Bool.and_eq_true, decide_eq_true_eq, decide_eq_true_eq]
theorem cnt2 {a b : Nat} (hab : ¬ a = b) : ∀ t : List Nat, t.Nodup → (t.filter (fun x => decide (x = a ∨ x = b))).length = (if a ∈ t then 1 else 0) + (if b ∈ t then 1 else 0) := by
  intro t
  induction t with
  | nil => intro _; rfl
  | cons x r ih =>
    intro hn
    have h := List.nodup_cons.mp hn
    have e := ih h.2
    by_cases h1 : x = a
    · subst h1
      have : ¬ b = x := fun q => hab q.symm
      rw [List.filter_cons_of_pos (by simp), List.length_cons, e, if_neg h.1, if_pos (show x ∈ x :: r by simp)]
      by_cases hb : b ∈ r
      · rw [if_pos hb, if_pos (show b ∈ x :: r by simp [hb])]
      · rw [if_neg hb, if_neg (show ¬ b ∈ x :: r by simp [this, hb])]
    · by_cases h2 : x = b
      · subst h2
        rw [List.filter_cons_of_pos (by simp), List.length_cons, e, if_neg h.1, if_pos (show x ∈ x :: r by simp)]
        by_cases ha : a ∈ r
        · rw [if_pos ha, if_pos (show a ∈ x :: r by simp [ha])]
        · rw [if_neg ha, if_neg (show ¬ a ∈ x :: r by simp [hab, ha])]
      · have n1 : ¬ a = x := fun q => h1 q.symm
        have n2 : ¬ b = x := fun q => h2 q.symm
        rw [List.filter_cons_of_neg (by simp [h1, h2]), e]
        congr 1
        · by_cases ha : a ∈ r
          · rw [if_pos ha, if_pos (show a ∈ x :: r by simp [ha])]
          · rw [if_neg ha, if_neg (show ¬ a ∈ x :: r by simp [n1, ha])]
        · by_cases hb : b ∈ r
          · rw [if_pos hb, if_pos (show b ∈ x :: r by simp [hb])]
          · rw [if_neg hb, if_neg (show ¬ b ∈ x :: r by simp [n2, hb])]
theorem o4 {P c : Nat} (h2 : 2 ≤ P) (h6 : P ≤ 6) (hc : c < 2 * P) : o32 (nI (2 * P)) (4 * nI c) = nI (oN P (4 * c)) := by
  rw [show (4 : Int32) = nI 4 from rfl, pk_mul, ← x2P]
  exact (place_ok h2 h6 (by omega)).2.1
theorem hr_cnt {P : Nat} {l : List Nat} {q : Nat → Int32} (h2 : 2 ≤ P) (h6 : P ≤ 6) (h : Vl P l) (hr : Rw q l) {c : Nat} (hc : c < 2 * P) : ∀ k, k ≤ l.length → mHr q (nI (2 * P)) (nI c) k = nI ((((l.take k).map tN).filter (fun x => decide (x = 4 * c ∨ x = oN P (4 * c)))).length) := by
  intro k
  induction k with
  | zero => intro _; rfl
  | succ k ih =>
    intro hk
    have hx : l[k]? = some l[k] := List.getElem?_eq_getElem hk
    have hp : l[k] < 8 * P := h.2 _ (List.getElem_mem _)
    have k1 := place_ok h2 h6 hp
    unfold mHr
    rw [ih (by omega), hr k _ hx, k1.1, List.take_succ, hx, List.map_append, List.filter_append, List.length_append, ← nI_add, o4 h2 h6 hc, show (4 : Int32) * nI c = nI (4 * c) by rw [show (4 : Int32) = nI 4 from rfl, pk_mul]]
    congr 1
    have k3 := (perm_ok h2 h6 (show 4 * c < 8 * P by omega)).2.2.2.1
    have k4 : tN l[k] < 8 * P := k1.2.2.2.1
    by_cases g : tN l[k] = 4 * c ∨ tN l[k] = oN P (4 * c)
    · rw [if_pos (by rcases g with g | g <;> simp [g])]
      show (1 : Int32) = nI (([tN l[k]].filter (fun x => decide (x = 4 * c ∨ x = oN P (4 * c)))).length)
      rw [List.filter_cons_of_pos (p := fun x => decide (x = 4 * c ∨ x = oN P (4 * c))) (decide_eq_true g)]
      rfl
    · rw [if_neg (fun q => g (by
        rcases q with q | q
        · exact Or.inl ((nI_eq (by omega) (by omega)).mp q)
        · exact Or.inr ((nI_eq (by omega) (by omega)).mp q)))]
      show (0 : Int32) = nI (([tN l[k]].filter (fun x => decide (x = 4 * c ∨ x = oN P (4 * c)))).length)
      rw [List.filter_cons_of_neg (p := fun x => decide (x = 4 * c ∨ x = oN P (4 * c))) (by rw [decide_eq_false g]; decide)]
      rfl
theorem hr_2 {P : Nat} {l : List Nat} {q : Nat → Int32} (h2 : 2 ≤ P) (h6 : P ≤ 6) (h : Vl P l) (hr : Rw q l) {c : Nat} (hc : c < 2 * P) : mHr q (nI (2 * P)) (nI c) l.length = 2 ↔ mtB P (l.map tN) c = true := by
  rw [hr_cnt h2 h6 h hr hc l.length (Nat.le_refl _), List.take_length, cnt2 (by
    intro q
    have := (perm_ok h2 h6 (show 4 * c < 8 * P by omega)).2.2.2.2.2 (by omega)
    omega) _ (h.tn h2 h6).1, mtB_iff]
  unfold mtg
  by_cases ha : 4 * c ∈ l.map tN
  · rw [if_pos ha]
    by_cases hb : oN P (4 * c) ∈ l.map tN
    · rw [if_pos hb]; exact ⟨fun _ => ⟨ha, hb⟩, fun _ => rfl⟩
    · rw [if_neg hb]; exact ⟨fun q => absurd q (by decide), fun q => absurd q.2 hb⟩
  · rw [if_neg ha]
    by_cases hb : oN P (4 * c) ∈ l.map tN
    · rw [if_pos hb]; exact ⟨fun q => absurd q (by decide), fun q => absurd q.1 ha⟩
    · rw [if_neg hb]; exact ⟨fun q => absurd q (by decide), fun q => absurd q.1 ha⟩
/-- the first contact at which two meet behind the turning -/
def fm (P : Nat) (l : List Nat) : Int32 := fcF (mtB P (l.map tN)) (2 * P) 0
theorem mMt_fc {P : Nat} {l : List Nat} {q : Nat → Int32} (h2 : 2 ≤ P) (h6 : P ≤ 6) (h : Vl P l) (hr : Rw q l) : ∀ j, j ≤ 2 * P → mMt q l.length (2 * P) (nI (2 * P)) j = fcF (mtB P (l.map tN)) j (2 * P - j) := by
  intro j
  induction j with
  | zero => intro _; rfl
  | succ j ih =>
    intro hj
    unfold mMt fcF
    have e := hr_2 h2 h6 h hr (show 2 * P - (j + 1) < 2 * P by omega)
    cases hb : mtB P (l.map tN) (2 * P - (j + 1)) with
    | true => rw [if_pos (e.mpr hb)]; rfl
    | false =>
      rw [if_neg (fun q => by rw [e.mp q] at hb; cases hb), ih (by omega), show 2 * P - (j + 1) + 1 = 2 * P - j by omega]
      rfl
theorem mtz_fm {P : Nat} {l : List Nat} {q z : Nat → Int32} (hP : z 0 = nI P) (h2 : 2 ≤ P) (h6 : P ≤ 6) (h : Vl P l) (hr : Rw q l) : mtz z q l.length P = fm P l := by
  unfold mtz fm
  rw [hP, x2P, mMt_fc h2 h6 h hr (2 * P) (Nat.le_refl _), Nat.sub_self]
theorem mcF_fc {P : Nat} {t : List Nat} (h2 : 2 ≤ P) (h6 : P ≤ 6) (h : ∀ p, p ∈ t → p < 8 * P) : ∀ r c, c + r ≤ 16 → mcF (mts (msk t) (nI (2 * P))) r c = fcF (mtB P t) r c := by
  intro r
  induction r with
  | zero => intro c _; rfl
  | succ r ih =>
    intro c hc
    unfold mcF fcF
    have e := mts_bit h2 h6 h (c := c) (by omega)
    cases hb : mtB P t c with
    | true => rw [if_neg (fun q => (e.mp q) (mtB_iff.mp hb))]; rfl
    | false =>
      rw [if_pos (e.mpr (fun q => by rw [mtB_iff.mpr q] at hb; cases hb)), ih (c + 1) (by omega)]
      rfl
theorem mts_fm {P : Nat} {l : List Nat} (h2 : 2 ≤ P) (h6 : P ≤ 6) (h : Vl P l) : mts (aT (msk l)) (nI (2 * P)) = 0 ↔ fm P l = -6 := by
  unfold fm
  rw [aT_msk (h.lo h6), mts_0 h2 h6 (h.tn h2 h6).2, fcF_6 (by omega)]
  constructor
  · intro g j _ hj
    cases hb : mtB P (l.map tN) j with
    | true => exact (g j (by omega) (mtB_iff.mp hb)).elim
    | false => rfl
  · intro g c hc hm
    have := g c (by omega) (by omega)
    rw [mtB_iff.mpr hm] at this
    cases this
theorem aP_st {P : Nat} {l : List Nat} (h2 : 2 ≤ P) (h6 : P ≤ 6) (h : Vl P l) : aP (aT (msk l)) (nI (2 * P)) = msk (stp P l) := by
  rw [aT_msk (h.lo h6), aP_msk h2 h6 (h.tn h2 h6).2, stp_eq]
theorem bSt_st {P : Nat} {l : List Nat} (h2 : 2 ≤ P) (h6 : P ≤ 6) (h : Vl P l) : bSt (msk l) (nI (2 * P)) = if fm P l = -6 then msk (stp P l) else -1 := by
  unfold bSt
  rw [aP_st h2 h6 h]
  by_cases g : fm P l = -6
  · rw [if_pos g, if_pos ((mts_fm h2 h6 h).mpr g)]
  · rw [if_neg g, if_neg (fun q => g ((mts_fm h2 h6 h).mp q))]
def mt (P : Nat) (l : List Nat) (i : Nat) : Bool := decide (¬ fm P (itl P l i) = -6)
theorem itl_per {P : Nat} {l : List Nat} (h2 : 2 ≤ P) (h6 : P ≤ 6) (h : Vl P l) {c : Nat} (hm : msk (itl P l (c + 1)) = msk l) : ∀ j, msk (itl P l (j + (c + 1))) = msk (itl P l j) := by
  intro j
  induction j with
  | zero => rw [Nat.zero_add]; exact hm
  | succ j ih =>
    rw [show j + 1 + (c + 1) = j + (c + 1) + 1 by omega]
    show msk (stp P (itl P l (j + (c + 1)))) = msk (stp P (itl P l j))
    rw [← aP_st h2 h6 (h.it h2 h6 _), ← aP_st h2 h6 (h.it h2 h6 _), ih]
theorem mt_msk {P : Nat} {l : List Nat} (h2 : 2 ≤ P) (h6 : P ≤ 6) (h : Vl P l) {a b : Nat} (e : msk (itl P l a) = msk (itl P l b)) : mt P l a = mt P l b := by
  unfold mt
  refine decide_eq_decide.mpr ?_
  rw [← mts_fm h2 h6 (h.it h2 h6 a), ← mts_fm h2 h6 (h.it h2 h6 b), e]
theorem mt_per {P : Nat} {l : List Nat} (h2 : 2 ≤ P) (h6 : P ≤ 6) (h : Vl P l) {c : Nat} (hm : msk (itl P l (c + 1)) = msk l) (hn : ∀ j, j ≤ c → mt P l j = false) : ∀ n j, j < n → mt P l j = false := by
  intro n
  induction n with
  | zero => intro j hj; omega
  | succ n ih =>
    intro j hj
    by_cases g : j ≤ c
    · exact hn j g
    · have e := mt_msk h2 h6 h (itl_per h2 h6 h hm (j - (c + 1)))
      rw [show j - (c + 1) + (c + 1) = j by omega] at e
      rw [e]
      exact ih _ (by omega)
theorem fM_sr {P : Nat} {l : List Nat} (h2 : 2 ≤ P) (h6 : P ≤ 6) (h : Vl P l) : ∀ r c, (∀ j, j < c → mt P l j = false) → fM (msk l) (nI (2 * P)) r (c + 1) (msk (itl P l c)) = if srF (mt P l) r c < c + r then nI (srF (mt P l) r c + 1) else -6 := by
  intro r
  induction r with
  | zero => intro c _; unfold fM srF; rw [if_neg (by omega)]
  | succ r ih =>
    intro c hc
    have hv := h.it h2 h6 c
    unfold fM srF
    rw [bSt_st h2 h6 hv]
    cases hb : mt P l c with
    | true =>
      have g : ¬ fm P (itl P l c) = -6 := of_decide_eq_true hb
      rw [if_neg g, if_pos rfl]
      simp only [cond]
      rw [if_pos (by omega)]
    | false =>
      have g : fm P (itl P l c) = -6 := Decidable.not_not.mp (of_decide_eq_false hb)
      have hv1 := hv.st h2 h6
      rw [if_pos g, if_neg (msk_m1 (hv1.lo h6))]
      simp only [cond]
      have hc1 : ∀ j, j < c + 1 → mt P l j = false := by
        intro j hj
        by_cases e : j = c
        · subst e; exact hb
        · exact hc j (by omega)
      by_cases e : msk (stp P (itl P l c)) = msk l
      · rw [if_pos e]
        have ha : ∀ j, mt P l j = false := fun j => mt_per h2 h6 h e (fun j hj => hc1 j (by omega)) (j + 1) j (by omega)
        rw [srF_all r (c + 1) ha, if_neg (by omega)]
      · rw [if_neg e]
        have := ih (c + 1) hc1
        rw [show c + (r + 1) = c + 1 + r by omega]
        exact this
theorem mi_sr {P : Nat} {l : List Nat} {q z : Nat → Int32} (hP : z 0 = nI P) (h2 : 2 ≤ P) (h6 : P ≤ 6) (h : Vl P l) (hr : Rw q l) : ∀ r c, mi z l.length P q r c = srF (mt P l) r c := by
  intro r
  induction r with
  | zero => intro c; rfl
  | succ r ih =>
    intro c
    unfold mi srF mt
    have e := mtz_fm hP h2 h6 (h.it h2 h6 c) (hr.it h2 h6 h c)
    rw [itl_len] at e
    rw [hP, x2P, e]
    by_cases g : fm P (itl P l c) = -6
    · rw [if_pos g, decide_eq_false (fun q => q g)]; exact ih (c + 1)
    · rw [if_neg g, decide_eq_true g]; rfl
theorem laN_sr {P : Nat} {l : List Nat} {q z : Nat → Int32} (hP : z 0 = nI P) (h2 : 2 ≤ P) (h6 : P ≤ 6) (h : Vl P l) (hr : Rw q l) : ∀ r c, laN z l.length P q r c = srF (mt P l) r c := by
  intro r
  induction r with
  | zero => intro c; rfl
  | succ r ih =>
    intro c
    unfold laN srF mt
    have e := mtz_fm hP h2 h6 (h.it h2 h6 c) (hr.it h2 h6 h c)
    rw [itl_len] at e
    rw [hP, x2P, e]
    by_cases g : fm P (itl P l c) = -6
    · rw [if_pos g, decide_eq_false (fun q => q g)]; exact ih (c + 1)
    · rw [if_neg g, decide_eq_true g]; rfl
