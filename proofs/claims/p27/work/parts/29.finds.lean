/-! what the class finds: who is in a place, ranks, reasons, when all are back -/
section FINDS
variable {z : Nat → Int32} {P : Nat}
theorem fin_or (z : Nat → Int32) (p : Int32) : (∃ e, e < 10 ∧ zt z e = true ∧ z (10 + 7 * e) = p ∧ fIn z p 10 0 = nI e) ∨ ((∀ e, e < 10 → zt z e = true → ¬ z (10 + 7 * e) = p) ∧ fIn z p 10 0 = -6) := by
  rw [fIn_fc]
  rcases fcF_or (fun e => zt z e && decide (z (10 + 7 * e) = p)) 10 0 with ⟨e, h1, h2, h3, h4⟩ | ⟨h1, h2⟩
  · rw [Bool.and_eq_true, decide_eq_true_eq] at h3
    exact Or.inl ⟨e, by omega, h3.1, h3.2, h4⟩
  · refine Or.inr ⟨fun e he hz q => ?_, h2⟩
    have := h1 e (by omega) (by omega)
    rw [hz, decide_eq_true q] at this
    cases this
theorem fin_at (h : GP z P) {e : Nat} (he : e < 10) (hz : zt z e = true) : fIn z (z (10 + 7 * e)) 10 0 = nI e := by
  rcases fin_or z (z (10 + 7 * e)) with ⟨u, h1, h2, h3, h4⟩ | ⟨h1, h2⟩
  · rw [h4, h.2.2.2.2.2.1 u e h1 he h2 hz h3]
  · exact (h1 e he hz rfl).elim
theorem fin_no (h : GP z P) {p : Nat} (hp : p < 48) : fIn z (nI p) 10 0 = -6 ↔ ¬ p ∈ pl z 10 := by
  rw [pl_mem h.2.2.2.1 h.2.2.1 hp 10 (Nat.le_refl _)]
  rcases fin_or z (nI p) with ⟨u, h1, h2, h3, h4⟩ | ⟨h1, h2⟩
  · rw [h4]
    exact ⟨fun q => absurd q (nI_n6 u (by omega)), fun q => absurd ⟨u, h1, h2, h3⟩ q⟩
  · rw [h2]
    exact ⟨fun _ => fun ⟨e, a, b, c⟩ => h1 e a b c, fun _ => rfl⟩
theorem fin_neg (z : Nat → Int32) (p : Int32) : fIn z p 10 0 < 0 ↔ fIn z p 10 0 = -6 := by
  rcases fin_or z p with ⟨u, h1, h2, h3, h4⟩ | ⟨h1, h2⟩
  · rw [h4]
    exact ⟨fun q => absurd q (nI_pos (by omega)), fun q => absurd q (nI_n6 u (by omega))⟩
  · rw [h2]
    exact ⟨fun _ => rfl, fun _ => by decide⟩
theorem GP.fit (h : GP z P) {p : Nat} (hp : p < 8 * P) : fitsF (tkF z 10) (2 * z 0) (nI p) = decide (¬ p ∈ pl z 10 ∧ ¬ oN P p ∈ pl z 10) := by
  have h2 := h.2.1
  have h6 := h.2.2.1
  have k := place_ok h2 h6 hp
  have lo := h.vl.lo h6
  unfold fitsF
  rw [h.tk, h.hn, ← x2P, k.2.2.1]
  have e : msk (pl z 10) &&& (shl 1 (nI p) ||| shl 1 (nI (oN P p))) = 0 ↔ (¬ p ∈ pl z 10 ∧ ¬ oN P p ∈ pl z 10) := by
    constructor
    · intro q
      refine ⟨fun g => ?_, fun g => ?_⟩
      · have t : tb (msk (pl z 10) &&& (shl 1 (nI p) ||| shl 1 (nI (oN P p)))) p = false := by rw [q, tb_0]
        rw [tb_and, tb_or, msk_tb lo, decide_eq_true g, tb_shl1 (by omega), decide_eq_true (show p < 64 by omega), decide_eq_true (show p = p from rfl)] at t
        cases t
      · have t : tb (msk (pl z 10) &&& (shl 1 (nI p) ||| shl 1 (nI (oN P p)))) (oN P p) = false := by rw [q, tb_0]
        rw [tb_and, tb_or, msk_tb lo, decide_eq_true g, tb_shl1 (p := oN P p) (by omega), decide_eq_true (show oN P p < 64 by omega), decide_eq_true (show oN P p = oN P p from rfl), Bool.and_self, Bool.or_true] at t
        cases t
    · rintro ⟨q1, q2⟩
      refine tb_ext (fun j hj => ?_)
      rw [tb_and, tb_or, msk_tb lo, tb_shl1 (by omega), tb_shl1 (by omega), tb_0]
      by_cases g : j ∈ pl z 10
      · rw [decide_eq_false (show ¬ j = p from fun e => q1 (e ▸ g)), decide_eq_false (show ¬ j = oN P p from fun e => q2 (e ▸ g))]
        simp
      · rw [decide_eq_false g]; rfl
  exact decide_eq_decide.mpr e
/-- how many places below one have a carrier -/
def rkN (z : Nat → Int32) : Nat → Nat | 0 => 0 | p + 1 => rkN z p + (if fIn z (nI p) 10 0 = -6 then 0 else 1)
theorem rkN_s (z : Nat → Int32) (p : Nat) : rkN z (p + 1) = rkN z p + (if fIn z (nI p) 10 0 = -6 then 0 else 1) := rfl
theorem rkN_up (z : Nat → Int32) (q : Nat) : ∀ k, rkN z q ≤ rkN z (q + k) := by
  intro k
  induction k with
  | zero => exact Nat.le_refl _
  | succ k ih => rw [← Nat.add_assoc, rkN_s]; omega
theorem rkN_le (z : Nat → Int32) : ∀ p, rkN z p ≤ p := by
  intro p
  induction p with
  | zero => exact Nat.le_refl _
  | succ p ih =>
    rw [rkN_s]
    by_cases g : fIn z (nI p) 10 0 = -6
    · rw [if_pos g]; omega
    · rw [if_neg g]; omega
theorem arF_s (z : Nat → Int32) (r : Nat) (l : Int32) (p : Nat) : arF z (r + 1) l p = if fIn z (nI p) 10 0 = -6 then arF z r l (p + 1) else if l = 0 then fIn z (nI p) 10 0 else arF z r (l + (-1)) (p + 1) := rfl
theorem ar_at {p : Nat} (hf : ¬ fIn z (nI p) 10 0 = -6) (hp : p < 100) : ∀ r q, q ≤ p → p < q + r → arF z r (nI (rkN z p - rkN z q)) q = fIn z (nI p) 10 0 := by
  intro r
  induction r with
  | zero => intro q h1 h2; omega
  | succ r ih =>
    intro q h1 h2
    rw [arF_s]
    by_cases e : q = p
    · subst e
      rw [if_neg hf, Nat.sub_self, if_pos nI_0]
    · have k := ih (q + 1) (by omega) (by omega)
      rw [rkN_s] at k
      by_cases g : fIn z (nI q) 10 0 = -6
      · rw [if_pos g]
        rw [if_pos g] at k
        exact k
      · rw [if_neg g]
        rw [if_neg g] at k
        have hu := rkN_up z (q + 1) (p - (q + 1))
        rw [show q + 1 + (p - (q + 1)) = p by omega, rkN_s, if_neg g] at hu
        have hl := rkN_le z p
        rw [show rkN z p - rkN z q = rkN z p - (rkN z q + 1) + 1 by omega, if_neg (nI_ne0 (by omega) (by omega)), pk_m1]
        exact k
theorem ar_end : ∀ r q m, rkN z (q + r) ≤ m + rkN z q → m < 1000000 → arF z r (nI m) q = -1 := by
  intro r
  induction r with
  | zero => intro q m _ _; rfl
  | succ r ih =>
    intro q m h1 h2
    rw [arF_s]
    have hu := rkN_up z (q + 1) r
    rw [show q + 1 + r = q + (r + 1) by omega] at hu
    have hs := rkN_s z q
    by_cases g : fIn z (nI q) 10 0 = -6
    · rw [if_pos g]
      rw [if_pos g] at hs
      exact ih (q + 1) m (by rw [show q + 1 + r = q + (r + 1) by omega]; omega) h2
    · rw [if_neg g]
      rw [if_neg g] at hs
      obtain ⟨k, ek⟩ : ∃ k, m = k + 1 := ⟨m - 1, by omega⟩
      subst ek
      rw [if_neg (nI_ne0 (by omega) (by omega)), pk_m1]
      exact ih (q + 1) k (by rw [show q + 1 + r = q + (r + 1) by omega]; omega) (by omega)
theorem ng_lt {y : Nat} (hy : y < 2 ^ 29) : (-1 : Int32) - nI y < 0 := by
  have e : (-1 : Int32) - nI y = nI 0 - nI (y + 1) := by rw [← nI_1, show nI 0 = (0 : Int32) from rfl]; grind
  rw [e]
  exact pk_sneg (by omega) (by omega)
theorem ng_ne {y : Nat} (hy : y < 2 ^ 29) : ¬ (-1 : Int32) - nI y = 0 := by
  intro q
  have := ng_lt hy
  rw [q] at this
  exact absurd this (by decide)
theorem ar_neg : ∀ r q y, y + r < 2 ^ 28 → arF z r ((-1 : Int32) - nI y) q = -1 := by
  intro r
  induction r with
  | zero => intro q y _; rfl
  | succ r ih =>
    intro q y h
    rw [arF_s]
    by_cases g : fIn z (nI q) 10 0 = -6
    · rw [if_pos g]; exact ih (q + 1) y (by omega)
    · rw [if_neg g, if_neg (ng_ne (by omega))]
      have e : (-1 : Int32) - nI y + (-1) = -1 - nI (y + 1) := by rw [← nI_1]; grind
      rw [e]
      exact ih (q + 1) (y + 1) (by omega)
/-- an answer of around() is a carrier, or there are not so many -/
theorem ar_or : ∀ r q l, arF z r l q = -1 ∨ ∃ e, e < 10 ∧ zt z e = true ∧ arF z r l q = nI e := by
  intro r
  induction r with
  | zero => intro q l; exact Or.inl rfl
  | succ r ih =>
    intro q l
    rw [arF_s]
    by_cases g : fIn z (nI q) 10 0 = -6
    · rw [if_pos g]; exact ih (q + 1) l
    · rw [if_neg g]
      by_cases e : l = 0
      · rw [if_pos e]
        rcases fin_or z (nI q) with ⟨u, h1, h2, h3, h4⟩ | ⟨h1, h2⟩
        · exact Or.inr ⟨u, h1, h2, h4⟩
        · exact (g h2).elim
      · rw [if_neg e]; exact ih (q + 1) _
def cnF (f : Nat → Bool) : Nat → Nat | 0 => 0 | n + 1 => cnF f n + cond (f n) 1 0
theorem cnF_s (f : Nat → Bool) (n : Nat) : cnF f (n + 1) = cnF f n + cond (f n) 1 0 := rfl
theorem cnF_cg {f g : Nat → Bool} : ∀ n, (∀ j, j < n → f j = g j) → cnF f n = cnF g n := by
  intro n
  induction n with
  | zero => intro _; rfl
  | succ n ih => intro h; rw [cnF_s, cnF_s, ih (fun j hj => h j (by omega)), h n (by omega)]
theorem cnF_add {f : Nat → Bool} {a : Nat} (ha : f a = false) : ∀ n, cnF (fun p => decide (p = a) || f p) n = cnF f n + (if a < n then 1 else 0) := by
  intro n
  induction n with
  | zero => rfl
  | succ n ih =>
    rw [cnF_s, cnF_s, ih]
    by_cases e : n = a
    · subst e
      rw [ha, decide_eq_true rfl, if_neg (by omega), if_pos (by omega)]
      rfl
    · rw [decide_eq_false e, Bool.false_or]
      by_cases g : a < n
      · rw [if_pos g, if_pos (by omega)]; omega
      · rw [if_neg g, if_neg (by omega)]; omega
theorem cnF_len {N : Nat} : ∀ l : List Nat, l.Nodup → (∀ p, p ∈ l → p < N) → cnF (fun p => decide (p ∈ l)) N = l.length := by
  intro l
  induction l with
  | nil =>
    intro _ _
    have k : ∀ n, cnF (fun p => decide (p ∈ ([] : List Nat))) n = 0 := by
      intro n
      induction n with
      | zero => rfl
      | succ n ih => rw [cnF_s, ih]; simp
    exact k N
  | cons a r ih =>
    intro hn h
    have h2 := List.nodup_cons.mp hn
    have e : ∀ j, j < N → decide (j ∈ a :: r) = (decide (j = a) || decide (j ∈ r)) := by
      intro j _
      rw [← Bool.decide_or]
      exact decide_eq_decide.mpr List.mem_cons
    rw [cnF_cg N e, cnF_add (decide_eq_false h2.1) N, ih h2.2 (fun p hp => h p (List.mem_cons_of_mem _ hp)), if_pos (h a List.mem_cons_self)]
    rfl
theorem rk_all (h : GP z P) : rkN z (8 * P) = tpm z 10 := by
  have h6 := h.2.2.1
  have k : ∀ n, n ≤ 48 → rkN z n = cnF (fun p => decide (p ∈ pl z 10)) n := by
    intro n
    induction n with
    | zero => intro _; rfl
    | succ n ih =>
      intro hn
      rw [rkN_s, cnF_s, ih (by omega)]
      have e := fin_no h (p := n) (by omega)
      by_cases g : fIn z (nI n) 10 0 = -6
      · rw [if_pos g, decide_eq_false (e.mp g)]; rfl
      · rw [if_neg g, decide_eq_true (Decidable.not_not.mp (fun q => g (e.mpr q)))]; rfl
  rw [k _ (by omega), cnF_len _ h.vl.1 h.vl.2, pl_len]
/-- the reasons -/
def brB (z : Nat → Int32) : Nat → Bool | 0 => false | c + 1 => brB z c || (zt z c && decide (z (10 + 7 * c + 2) = 1))
theorem brB_s (z : Nat → Int32) (c : Nat) : brB z (c + 1) = (brB z c || (zt z c && decide (z (10 + 7 * c + 2) = 1))) := rfl
theorem br_sum (hf : Fl z) : ∀ c, c ≤ 10 → ∃ k, k ≤ c ∧ mSum z 2 c = nI k ∧ (0 < k ↔ brB z c = true) := by
  intro c
  induction c with
  | zero => intro _; exact ⟨0, Nat.le_refl _, rfl, ⟨fun q => absurd q (Nat.lt_irrefl 0), fun q => by cases q⟩⟩
  | succ c ih =>
    intro hc
    obtain ⟨k, k1, k2, k3⟩ := ih (by omega)
    rw [mSum_s, brB_s, k2]
    unfold tm
    cases zt z c with
    | false =>
      refine ⟨k, by omega, Int32.add_zero _, ?_⟩
      rw [Bool.false_and, Bool.or_false]
      exact k3
    | true =>
      rcases hf c (by omega) with e | e
      · refine ⟨k, by omega, by show nI k + z (10 + 7 * c + 2) = _; rw [e, Int32.add_zero], ?_⟩
        rw [e, decide_eq_false (by decide), Bool.and_false, Bool.or_false]
        exact k3
      · refine ⟨k + 1, by omega, by show nI k + z (10 + 7 * c + 2) = _; rw [e, nI_1], ?_⟩
        rw [e, decide_eq_true rfl, Bool.and_self, Bool.or_true]
        exact ⟨fun _ => rfl, fun _ => by omega⟩
/-- what meeting(0) tells -/
def meF (z : Nat → Int32) : Int32 := fM (tkF z 10) (2 * z 0) 100 1 (tkF z 10)
theorem me_1 (h : GP z P) : meF z = 1 ↔ mt P (pl z 10) 0 = true := by
  unfold meF
  rw [h.gfm 100]
  rw [show (100 : Nat) = 99 + 1 from rfl, srF_s (mt P (pl z 10)) 99 0]
  cases mt P (pl z 10) 0 with
  | true => exact ⟨fun _ => rfl, fun _ => rfl⟩
  | false =>
    have hs := srF_ge (mt P (pl z 10)) 99 1
    refine ⟨fun q => ?_, fun q => by cases q⟩
    exfalso
    have q : (if srF (mt P (pl z 10)) 99 (0 + 1) < 99 + 1 then nI (srF (mt P (pl z 10)) 99 (0 + 1) + 1) else -6) = 1 := q
    rw [Nat.zero_add] at q
    by_cases g : srF (mt P (pl z 10)) 99 1 < 99 + 1
    · rw [if_pos g] at q
      have := (nI_eq (b := 1) (by omega) (by omega)).mp q
      omega
    · rw [if_neg g] at q
      exact absurd q (by decide)
theorem why_val (h : GP z P) : hiF z = if tpm z 10 = 0 then 1 else cond (brB z 10) 2 (cond (mEmp z 10) 3 (if meF z = 1 then 4 else 0)) := by
  obtain ⟨v, v1, v2, v3⟩ := le_emp h.2.2.2.2.2.2.1 10 (Nat.le_refl _)
  obtain ⟨k, k1, k2, k3⟩ := br_sum h.2.2.2.2.1 10 (Nat.le_refl _)
  have e0 : (nI v = 0) ↔ v = 0 := nI_eq (b := 0) (by omega) (by omega)
  have e1 : (0 < nI k) ↔ 0 < k := nI_ltI (a := 0) (by omega) (by omega)
  have e4 := mt_0 h
  have e5 := me_1 h
  unfold hiF
  by_cases g1 : tpm z 10 = 0
  · rw [if_pos (h.tk0.mpr g1), if_pos g1]
  · rw [if_neg (fun q => g1 (h.tk0.mp q)), if_neg g1, k2]
    cases g2 : brB z 10 with
    | true => rw [if_pos (e1.mpr (k3.mpr g2))]; rfl
    | false =>
      rw [if_neg (fun q => by rw [k3.mp (e1.mp q)] at g2; cases g2), v2]
      cases g3 : mEmp z 10 with
      | true => rw [if_pos (e0.mpr (v3.mpr g3))]; rfl
      | false =>
        rw [if_neg (fun q => by rw [v3.mp (e0.mp q)] at g3; cases g3)]
        show _ = if meF z = 1 then 4 else 0
        cases g4 : mt P (pl z 10) 0 with
        | true => rw [if_neg (fun q => by rw [e4.mp q] at g4; cases g4), if_pos (e5.mpr g4)]
        | false => rw [if_pos (e4.mpr g4), if_neg (fun q => by rw [e5.mp q] at g4; cases g4)]
/-- when all are back -/
theorem back_all : ((List.range 7).all fun P => (List.range 48).all fun p => !(Nat.ble 2 P && Nat.blt p (8 * P)) || Nat.beq (it1 P (4 * P) p) p) = true := by decide +kernel
theorem back_ok {P p : Nat} (h2 : 2 ≤ P) (h6 : P ≤ 6) (hp : p < 8 * P) : it1 P (4 * P) p = p := by
  have h := List.all_eq_true.mp (List.all_eq_true.mp back_all P (List.mem_range.mpr (by omega))) p (List.mem_range.mpr (by omega))
  rw [show Nat.ble 2 P = true from Nat.ble_eq_true_of_le h2, show Nat.blt p (8 * P) = true from Nat.ble_eq_true_of_le hp] at h
  exact Nat.eq_of_beq_eq_true h
theorem back_l {l : List Nat} (h2 : 2 ≤ P) (h6 : P ≤ 6) (hv : Vl P l) : itl P l (4 * P) = l := by
  apply List.ext_getElem?
  intro k
  rw [itl_get]
  cases hk : l[k]? with
  | none => rfl
  | some x =>
    show some (it1 P (4 * P) x) = some x
    rw [back_ok h2 h6 (hv.2 x (List.mem_of_getElem? hk))]
theorem fR_pos {l : List Nat} (h2 : 2 ≤ P) (h6 : P ≤ 6) (hv : Vl P l) (hm : ∀ j, j < 100 → mt P l j = false) : ∀ r c, c + r = 100 → c < 4 * P → ∃ k, 0 < k ∧ k ≤ 100 ∧ fR (msk l) (nI (2 * P)) r (c + 1) (msk (itl P l c)) = nI k := by
  intro r
  induction r with
  | zero => intro c h1 h3; omega
  | succ r ih =>
    intro c h1 h3
    have hb := hm c (by omega)
    have g : fm P (itl P l c) = -6 := Decidable.not_not.mp (of_decide_eq_false hb)
    have hc := hv.it h2 h6 c
    unfold fR
    rw [bSt_st h2 h6 hc, if_pos g, if_neg (msk_m1 ((hc.st h2 h6).lo h6))]
    by_cases e : msk (stp P (itl P l c)) = msk l
    · rw [if_pos e]
      exact ⟨c + 1, by omega, by omega, rfl⟩
    · rw [if_neg e]
      have hlt : c + 1 < 4 * P := by
        rcases Nat.lt_or_ge (c + 1) (4 * P) with q | q
        · exact q
        · exfalso
          apply e
          have : c + 1 = 4 * P := by omega
          show msk (itl P l (c + 1)) = msk l
          rw [this, back_l h2 h6 hv]
      exact ih (c + 1) (by omega) hlt
theorem per_pos (h : GP z P) (hm : meF z = -6) : ∃ k, 0 < k ∧ k ≤ 100 ∧ fR (tkF z 10) (2 * z 0) 100 1 (tkF z 10) = nI k := by
  have h2 := h.2.1
  have h6 := h.2.2.1
  unfold meF at hm
  rw [h.gfm 100] at hm
  have hs : ¬ srF (mt P (pl z 10)) 100 0 < 100 := by
    intro g
    rw [if_pos g] at hm
    exact nI_n6 _ (by omega) hm
  rw [h.tk, h.hn]
  exact fR_pos h2 h6 h.vl (fun j hj => srF_no 100 0 j (by omega) (by omega)) 100 0 (by omega) (by omega)
end FINDS
