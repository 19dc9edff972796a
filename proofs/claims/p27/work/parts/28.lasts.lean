/-! a step keeps what holds; how many steps are done -/
theorem hi0 {z : Nat → Int32} (h : hiF z = 0) : ¬ tkF z 10 = 0 ∧ ¬ 0 < mSum z 2 10 ∧ ¬ leF2 z 10 = 0 ∧ mts (aT (tkF z 10)) (2 * z 0) = 0 := by
  unfold hiF at h
  by_cases g1 : tkF z 10 = 0
  · rw [if_pos g1] at h; exact absurd h (by decide)
  · rw [if_neg g1] at h
    by_cases g2 : 0 < mSum z 2 10
    · rw [if_pos g2] at h; exact absurd h (by decide)
    · rw [if_neg g2] at h
      by_cases g3 : leF2 z 10 = 0
      · rw [if_pos g3] at h; exact absurd h (by decide)
      · rw [if_neg g3] at h
        by_cases g4 : mts (aT (tkF z 10)) (2 * z 0) = 0
        · exact ⟨g1, g2, g3, g4⟩
        · rw [if_neg g4] at h; exact absurd h (by decide)
section LASTS
variable {z : Nat → Int32} {P B S : Nat}
theorem tnN {p : Nat} (hp : p < 48) : rm (nI (tN p)) 4 = nI (tN p % 4) := by
  have : tN p < 2 ^ 31 := by unfold tN; omega
  exact pk_rem (d := 4) this (by omega) (by omega)
theorem side_if {p k : Nat} (hp : p < 48) (hk : k < 4) : (if rm (nI (tN p)) 4 = nI k then (1 : Int32) else 0) = nI (if tN p % 4 = k then 1 else 0) := by
  rw [tnN hp]
  by_cases g : tN p % 4 = k
  · rw [if_pos g, if_pos (by rw [g])]; rfl
  · rw [if_neg g, if_neg (fun q => g ((nI_eq (by omega) (by omega)).mp q))]; rfl
theorem st_ct (h : GP z P) (h0 : hiF z = 0) : Ct (stF z) P := by
  obtain ⟨g1, g2, g3, g4⟩ := hi0 h0
  have h2 := h.2.1
  have h6 := h.2.2.1
  have hi := h.2.2.2.1
  have hv := h.vl
  rw [h.tk, h.hn, aT_msk (hv.lo h6)] at g4
  have g5 := (mts_0 h2 h6 (hv.tn h2 h6).2).mp g4
  intro c e hc he q1 q2 p hp q3 q4 q5
  rw [stF_zt h.1 h2 h6 hi hc] at q1
  rw [stF_zt h.1 h2 h6 hi he] at q2
  obtain ⟨x, x1, x2, x3, x4⟩ := stF_in h.1 h2 h6 hi hc q1
  obtain ⟨y, y1, y2, y3, y4⟩ := stF_in h.1 h2 h6 hi he q2
  have xl : tN x ∈ (pl z 10).map tN := List.mem_map.mpr ⟨x, (pl_mem hi h6 (by omega) 10 (Nat.le_refl _)).mpr ⟨c, hc, q1, x2⟩, rfl⟩
  have yl : tN y ∈ (pl z 10).map tN := List.mem_map.mpr ⟨y, (pl_mem hi h6 (by omega) 10 (Nat.le_refl _)).mpr ⟨e, he, q2, y2⟩, rfl⟩
  have tx := (perm_ok h2 h6 x1).2.2.1
  have ty := (perm_ok h2 h6 y1).2.2.1
  have px := perm_ok h2 h6 tx
  have py := perm_ok h2 h6 ty
  have pp := perm_ok h2 h6 hp
  rw [x3] at q3
  rw [y3] at q5
  have e1 : oN P (tN x) = p := (nI_eq (by omega) (by omega)).mp q3
  have e2 : oN P (tN y) = oN P p := (nI_eq (by omega) (by omega)).mp q5
  have e3 : tN y = p := so_inj h2 h6 ty hp e2
  have e4 : oN P p = tN x := by rw [← e1]; exact px.1
  rw [e3] at yl
  rw [← e4] at xl
  rcases (by omega : p % 4 = 0 ∨ p % 4 = 2) with m | m
  · have : p = 4 * (p / 4) := by omega
    exact g5 (p / 4) (by omega) ⟨by rw [← this]; exact yl, by rw [← this]; exact xl⟩
  · have m0 := pp.2.2.2.2.1 m
    have : oN P p = 4 * (oN P p / 4) := by omega
    exact g5 (oN P p / 4) (by have := pp.2.2.2.1; omega) ⟨by rw [← this]; exact xl, by rw [← this, pp.1]; exact yl⟩
theorem st_sum1 (h : GP z P) : ∀ n, n ≤ 10 → mSum (stF z) 1 n + mMany z n = mSum z 1 n := by
  intro n
  induction n with
  | zero => intro _; rfl
  | succ n ih =>
    intro hn
    have k := ih (by omega)
    rw [mSum_s, mSum_s, mMany_s]
    unfold tm
    rw [stF_zt h.1 h.2.1 h.2.2.1 h.2.2.2.1 (by omega), stF_el z (by omega)]
    cases zt z n with
    | false => show mSum (stF z) 1 n + 0 + (mMany z n + 0) = mSum z 1 n + 0; grind
    | true => show mSum (stF z) 1 n + (z (10 + 7 * n + 1) - 1) + (mMany z n + 1) = mSum z 1 n + z (10 + 7 * n + 1); grind
theorem st_sum5 (h : GP z P) {st : Nat} (hst : st ≤ 2000000) (hs : Sd z P st) : ∀ n, n ≤ 10 → nSum (stF z) 5 n = nSum z 5 n + tpm z n := by
  intro n
  induction n with
  | zero => intro _; rfl
  | succ n ih =>
    intro hn
    have k := ih (by omega)
    rw [nSum_s, nSum_s, tpm_s]
    unfold tmN
    rw [stF_zt h.1 h.2.1 h.2.2.1 h.2.2.2.1 (by omega), (stF_345 z (by omega)).2.2]
    cases hz : zt z n with
    | false => show nSum (stF z) 5 n + 0 = nSum z 5 n + 0 + tpm z n; omega
    | true =>
      obtain ⟨p, i, o, w, b1, b2, b3, b4, b5, b6, b7⟩ := hs n (by omega) hz
      show nSum (stF z) 5 n + (z (10 + 7 * n + 5) + 1).toNatClampNeg = nSum z 5 n + (z (10 + 7 * n + 5)).toNatClampNeg + (tpm z n + 1)
      rw [b5, nI_1, nI_clamp (by omega), nI_clamp (by omega)]
      omega
theorem GI.st (h : GI z P B S) (hS : S ≤ 1000000) (h0 : hiF z = 0) : GI (stF z) P B (S + 1) := by
  have hp := h.gp
  have h2 := hp.2.1
  have h6 := hp.2.2.1
  have hi := hp.2.2.2.1
  obtain ⟨a1, a2, a3, a4, v, v1, v9, a5⟩ := h
  refine ⟨⟨hp.st h0, a1.2.cg (stF_lo z (Or.inl rfl)) (stF_lo z (Or.inr rfl)) (Nat.le_refl _)⟩, st_ct hp h0, ?_, ?_, v, v1, v9, (stF_lo z (Or.inl rfl)).trans a5⟩
  · obtain ⟨st, cd, sp, b1, b2, b3, b4, b5, b6, b7, b8, b9⟩ := a3
    have hm := tpm_le z 10
    refine ⟨st + 1, cd + v, sp + tpm z 10, by rw [stF_3, b1, nI_1], by rw [stF_4, b2, a5, nI_add], by rw [stF_8, b3, many_n, nI_add], by omega, by omega, by omega, by omega, ?_, fun e he q => ?_⟩
    · rw [st_sum5 hp (by omega) b9 10 (Nat.le_refl _)]
      omega
    · rw [stF_zt hp.1 h2 h6 hi he] at q
      obtain ⟨p, i, o, w, c1, c2, c3, c4, c5, c6, c7⟩ := b9 e he q
      obtain ⟨x, x1, x2, x3, x4⟩ := stF_in hp.1 h2 h6 hi he q
      have ex : x = p := (nI_eq (by omega) (by omega)).mp (x2.symm.trans c2)
      subst ex
      obtain ⟨s3, s4, s5⟩ := stF_345 z he
      have tp := (place_ok h2 h6 c1).1
      refine ⟨oN P (tN x), _, _, w + 1, x4, x3, ?_, ?_, ?_, c6.st h2 h6 c1, by omega⟩
      · rw [s3, q, c2, tp, c3]
        show nI i + (if rm (nI (tN x)) 4 = nI 1 then 1 else 0) = _
        rw [side_if (by omega) (by omega), nI_add]
      · rw [s4, q, c2, tp, c4]
        show nI o + (if rm (nI (tN x)) 4 = nI 3 then 1 else 0) = _
        rw [side_if (by omega) (by omega), nI_add]
      · rw [s5, q, c5]
        exact nI_1 w
  · have k := st_sum1 hp 10 (Nat.le_refl _)
    rw [stF_8, stF_lo2 z (by omega) (by omega) (by omega), stF_lo2 z (by omega) (by omega) (by omega)]
    grind
/-- the ells on the emptiest bobbin -/
def lmN (z : Nat → Int32) : Nat → Nat | 0 => 1000 | c + 1 => cond (zt z c) (min (z (10 + 7 * c + 1)).toNatClampNeg (lmN z c)) (lmN z c)
theorem lmN_s (z : Nat → Int32) (c : Nat) : lmN z (c + 1) = cond (zt z c) (min (z (10 + 7 * c + 1)).toNatClampNeg (lmN z c)) (lmN z c) := rfl
theorem lmN_le (z : Nat → Int32) : ∀ c, lmN z c ≤ 1000 := by
  intro c
  induction c with
  | zero => exact Nat.le_refl _
  | succ c ih =>
    rw [lmN_s]
    cases zt z c with
    | false => exact ih
    | true => exact Nat.le_trans (Nat.min_le_right _ _) ih
theorem le_lm (h : El z) : ∀ c, c ≤ 10 → leF2 z c = nI (lmN z c) := by
  intro c
  induction c with
  | zero => intro _; rfl
  | succ c ih =>
    intro hc
    have k := ih (by omega)
    obtain ⟨u, u1, u2⟩ := h c (by omega)
    have hl := lmN_le z c
    rw [lmN_s]
    show cond (zt z c) (if z (10 + 7 * c + 1) < leF2 z c then z (10 + 7 * c + 1) else leF2 z c) (leF2 z c) = _
    rw [k, u2, nI_clamp (by omega)]
    cases zt z c with
    | false => rfl
    | true =>
      show (if nI u < nI (lmN z c) then nI u else nI (lmN z c)) = nI (min u (lmN z c))
      by_cases g : u < lmN z c
      · rw [if_pos (nI_lt g (by omega)), Nat.min_eq_left (by omega)]
      · rw [if_neg (nI_nlt (by omega) (by omega)), Nat.min_eq_right (by omega)]
theorem lm_st (h : GP z P) (h0 : hiF z = 0) : ∀ c, c ≤ 10 → (tpm z c = 0 → lmN (stF z) c = 1000 ∧ lmN z c = 1000) ∧ (0 < tpm z c → lmN (stF z) c + 1 = lmN z c) := by
  intro c
  induction c with
  | zero => intro _; exact ⟨fun _ => ⟨rfl, rfl⟩, fun q => absurd q (Nat.lt_irrefl 0)⟩
  | succ c ih =>
    intro hc
    obtain ⟨k1, k2⟩ := ih (by omega)
    have hs := hi0_el h h0 c (by omega)
    rw [lmN_s, lmN_s, tpm_s, stF_zt h.1 h.2.1 h.2.2.1 h.2.2.2.1 (by omega), stF_el z (by omega)]
    cases hz : zt z c with
    | false => exact ⟨k1, k2⟩
    | true =>
      obtain ⟨v, v1, v2⟩ := hs hz
      refine ⟨fun q => by have q : tpm z c + 1 = 0 := q; omega, fun _ => ?_⟩
      show min (z (10 + 7 * c + 1) - 1).toNatClampNeg (lmN (stF z) c) + 1 = min (z (10 + 7 * c + 1)).toNatClampNeg (lmN z c)
      rw [v2, nI_pred, nI_clamp (by omega), nI_clamp (by omega)]
      rcases Nat.eq_zero_or_pos (tpm z c) with q | q
      · obtain ⟨e1, e2⟩ := k1 q
        rw [e1, e2]
        omega
      · have := k2 q
        omega
/-- how many steps are done until one is not -/
def la (z : Nat → Int32) (P : Nat) : Nat := if tpm z 10 = 0 then 0 else if 0 < mSum z 2 10 then 0 else srF (mt P (pl z 10)) (lmN z 10) 0
theorem srF_s (f : Nat → Bool) (r c : Nat) : srF f (r + 1) c = cond (f c) c (srF f r (c + 1)) := rfl
theorem srF_sh (f : Nat → Bool) : ∀ r c, srF f r (c + 1) = srF (fun i => f (i + 1)) r c + 1 := by
  intro r
  induction r with
  | zero => intro c; rfl
  | succ r ih =>
    intro c
    rw [srF_s, srF_s, ih (c + 1)]
    cases f (c + 1) <;> rfl
theorem srF_st {f : Nat → Bool} (h : f 0 = false) (a : Nat) : srF f (a + 1) 0 = srF (fun i => f (i + 1)) a 0 + 1 := by
  rw [srF_s f a 0, h]
  exact srF_sh f a 0
theorem la_le (z : Nat → Int32) (P : Nat) : la z P ≤ 1000 := by
  unfold la
  by_cases g1 : tpm z 10 = 0
  · rw [if_pos g1]; omega
  · rw [if_neg g1]
    by_cases g2 : 0 < mSum z 2 10
    · rw [if_pos g2]; omega
    · rw [if_neg g2]
      have := (srF_ge (mt P (pl z 10)) (lmN z 10) 0).2
      have := lmN_le z 10
      omega
theorem mt_0 (h : GP z P) : mts (aT (tkF z 10)) (2 * z 0) = 0 ↔ mt P (pl z 10) 0 = false := by
  rw [h.tk, h.hn, mts_fm h.2.1 h.2.2.1 h.vl]
  show _ ↔ decide (¬ fm P (pl z 10) = -6) = false
  by_cases g : fm P (pl z 10) = -6
  · rw [decide_eq_false (fun q => q g)]; exact ⟨fun _ => rfl, fun _ => g⟩
  · rw [decide_eq_true g]; exact ⟨fun q => absurd q g, fun q => by cases q⟩
theorem hi_la (h : GP z P) : hiF z = 0 ↔ 0 < la z P := by
  have e1 := h.tk0
  have e2 : leF2 z 10 = 0 ↔ lmN z 10 = 0 := by
    rw [le_lm h.2.2.2.2.2.2.1 10 (Nat.le_refl _)]
    have := lmN_le z 10
    exact nI_eq (b := 0) (by omega) (by omega)
  have e3 := mt_0 h
  unfold hiF la
  by_cases g1 : tpm z 10 = 0
  · rw [if_pos (e1.mpr g1), if_pos g1]
    exact ⟨fun q => absurd q (by decide), fun q => absurd q (Nat.lt_irrefl 0)⟩
  · rw [if_neg (fun q => g1 (e1.mp q)), if_neg g1]
    by_cases g2 : 0 < mSum z 2 10
    · rw [if_pos g2, if_pos g2]
      exact ⟨fun q => absurd q (by decide), fun q => absurd q (Nat.lt_irrefl 0)⟩
    · rw [if_neg g2, if_neg g2]
      by_cases g3 : lmN z 10 = 0
      · rw [if_pos (e2.mpr g3), g3]
        exact ⟨fun q => absurd q (by decide), fun q => absurd q (Nat.lt_irrefl 0)⟩
      · rw [if_neg (fun q => g3 (e2.mp q))]
        obtain ⟨L, eL⟩ : ∃ L, lmN z 10 = L + 1 := ⟨lmN z 10 - 1, by omega⟩
        rw [eL, srF_s]
        cases hm : mt P (pl z 10) 0 with
        | true =>
          rw [if_neg (fun q => by rw [e3.mp q] at hm; cases hm)]
          exact ⟨fun q => absurd q (by decide), fun q => absurd q (Nat.lt_irrefl 0)⟩
        | false =>
          rw [if_pos (e3.mpr hm)]
          have := (srF_ge (mt P (pl z 10)) L 1).1
          exact ⟨fun _ => Nat.lt_of_lt_of_le Nat.zero_lt_one this, fun _ => rfl⟩
/-- what lasts() tells -/
theorem la_val (h : GP z P) (h0 : hiF z = 0) : (if fM (tkF z 10) (2 * z 0) (lmN z 10) 1 (tkF z 10) = -6 then nI (lmN z 10) else fM (tkF z 10) (2 * z 0) (lmN z 10) 1 (tkF z 10) - 1) = nI (la z P) := by
  obtain ⟨g1, g2, g3, g4⟩ := hi0 h0
  have e : la z P = srF (mt P (pl z 10)) (lmN z 10) 0 := by
    unfold la
    rw [if_neg (fun q => g1 (h.tk0.mpr q)), if_neg g2]
  have hl := lmN_le z 10
  have hs := (srF_ge (mt P (pl z 10)) (lmN z 10) 0).2
  rw [e, h.gfm (lmN z 10)]
  by_cases g : srF (mt P (pl z 10)) (lmN z 10) 0 < lmN z 10
  · rw [if_pos g, if_neg (nI_n6 _ (by omega)), nI_pred]
  · rw [if_neg g, if_pos rfl]
    congr 1
    omega
theorem pl_s (z : Nat → Int32) (c : Nat) : pl z (c + 1) = cond (zt z c) (pl z c ++ [(z (10 + 7 * c)).toNatClampNeg]) (pl z c) := rfl
theorem pl_st (h : GP z P) : ∀ c, c ≤ 10 → pl (stF z) c = stp P (pl z c) := by
  intro c
  induction c with
  | zero => intro _; rfl
  | succ c ih =>
    intro hc
    rw [pl_s, pl_s, ih (by omega), stF_zt h.1 h.2.1 h.2.2.1 h.2.2.2.1 (by omega)]
    cases hz : zt z c with
    | false => rfl
    | true =>
      obtain ⟨x, x1, x2, x3, x4⟩ := stF_in h.1 h.2.1 h.2.2.1 h.2.2.2.1 (by omega : c < 10) hz
      have := h.2.2.1
      show stp P (pl z c) ++ [(stF z (10 + 7 * c)).toNatClampNeg] = stp P (pl z c ++ [(z (10 + 7 * c)).toNatClampNeg])
      rw [x3, x2, nI_clamp (by omega), nI_clamp (by omega)]
      unfold stp
      rw [List.map_append]
      rfl
theorem itl_st (P : Nat) (l : List Nat) : ∀ i, itl P (stp P l) i = itl P l (i + 1) := by
  intro i
  induction i with
  | zero => rfl
  | succ i ih => show stp P (itl P (stp P l) i) = stp P (itl P l (i + 1)); rw [ih]
theorem tpm_st (h : GP z P) : ∀ c, c ≤ 10 → tpm (stF z) c = tpm z c := by
  intro c
  induction c with
  | zero => intro _; rfl
  | succ c ih => intro hc; rw [tpm_s, tpm_s, ih (by omega), stF_zt h.1 h.2.1 h.2.2.1 h.2.2.2.1 (by omega)]
theorem la_st (h : GP z P) (h0 : hiF z = 0) : la (stF z) P + 1 = la z P := by
  obtain ⟨g1, g2, g3, g4⟩ := hi0 h0
  have t0 : ¬ tpm z 10 = 0 := fun q => g1 (h.tk0.mpr q)
  have es : mSum (stF z) 2 10 = mSum z 2 10 := mSum_cg 10 (fun e he => by
    unfold tm
    rw [stF_zt h.1 h.2.1 h.2.2.1 h.2.2.2.1 he, stF_br z e])
  have el := (lm_st h h0 10 (Nat.le_refl _)).2 (Nat.pos_of_ne_zero t0)
  have e1 : la (stF z) P = srF (mt P (pl (stF z) 10)) (lmN (stF z) 10) 0 := by
    unfold la
    rw [if_neg (fun q => t0 ((tpm_st h 10 (Nat.le_refl _)).symm.trans q)), if_neg (by rw [es]; exact g2)]
  have e2 : la z P = srF (mt P (pl z 10)) (lmN z 10) 0 := by
    unfold la
    rw [if_neg t0, if_neg g2]
  have e3 : mt P (pl (stF z) 10) = fun i => mt P (pl z 10) (i + 1) := by
    rw [pl_st h 10 (Nat.le_refl _)]
    funext i
    unfold mt
    rw [itl_st]
  rw [e1, e2, e3]
  have hm := (mt_0 h).mp g4
  generalize lmN (stF z) 10 = a at el
  generalize lmN z 10 = b at el
  subst el
  exact (srF_st hm a).symm
theorem la_cg {z' : Nat → Int32} (hs : ∀ e, e < 10 → ∀ i, i < 3 → z' (10 + 7 * e + i) = z (10 + 7 * e + i)) : la z' P = la z P := by
  have h0 : ∀ e, e < 10 → z' (10 + 7 * e) = z (10 + 7 * e) := fun e he => hs e he 0 (by omega)
  have hz : ∀ e, e < 10 → zt z' e = zt z e := fun e he => by unfold zt; rw [h0 e he]
  have k : ∀ c, c ≤ 10 → tpm z' c = tpm z c ∧ pl z' c = pl z c ∧ lmN z' c = lmN z c := by
    intro c
    induction c with
    | zero => intro _; exact ⟨rfl, rfl, rfl⟩
    | succ c ih =>
      intro hc
      obtain ⟨e1, e2, e3⟩ := ih (by omega)
      rw [tpm_s, tpm_s, pl_s, pl_s, lmN_s, lmN_s, e1, e2, e3, hz c (by omega), h0 c (by omega), hs c (by omega) 1 (by omega)]
      exact ⟨rfl, rfl, rfl⟩
  obtain ⟨e1, e2, e3⟩ := k 10 (Nat.le_refl _)
  unfold la
  rw [e1, e2, e3, mSum_cg (z := z) 10 (fun e he => tm_cg (h0 e he) (hs e he 2 (by omega)))]
theorem la_u9 (x : Int32) : la (upd z 9 x) P = la z P := la_cg (fun e he i hi => upd_ne (by omega))
theorem many_u9 (x : Int32) : mMany (upd z 9 x) 10 = mMany z 10 := mMany_cg 10 (fun e he => zt_ne (by omega))
theorem many_st (h : GP z P) : mMany (stF z) 10 = mMany z 10 := mMany_cg 10 (fun e he => stF_zt h.1 h.2.1 h.2.2.1 h.2.2.2.1 he)
theorem adF_0 (k : Nat) (z : Nat → Int32) : adF 0 k z = (k, z) := rfl
theorem adF_s (r k : Nat) (z : Nat → Int32) : adF (r + 1) k z = if hiF z = 0 then adF r (k + 1) (stF (upd z 9 (hiF z))) else (k, upd z 9 (hiF z)) := rfl
/-- what a run does -/
theorem ad_la : ∀ (r k S : Nat) (z : Nat → Int32), GI z P B S → S + r ≤ 1000000 → (adF r k z).1 = k + min (la z P) r ∧ GI (adF r k z).2 P B (S + r) ∧ (adF r k z).2 3 = z 3 + nI (min (la z P) r) ∧ (adF r k z).2 4 = z 4 + nI (min (la z P) r) * z 1 ∧ (adF r k z).2 8 = z 8 + nI (min (la z P) r) * mMany z 10 ∧ (adF r k z).2 1 = z 1 ∧ la (adF r k z).2 P = la z P - min (la z P) r ∧ (1 ≤ r → (adF r k z).2 9 = if la z P < r then hiF (adF r k z).2 else 0) := by
  intro r
  induction r with
  | zero =>
    intro k S z h hS
    rw [Nat.min_zero, adF_0]
    refine ⟨rfl, h, ?_, ?_, ?_, rfl, rfl, fun q => by omega⟩
    · show z 3 = z 3 + 0; grind
    · show z 4 = z 4 + 0 * z 1; grind
    · show z 8 = z 8 + 0 * mMany z 10; grind
  | succ r ih =>
    intro k S z h hS
    have hp := h.gp
    rw [adF_s]
    by_cases g : hiF z = 0
    · rw [if_pos g]
      have h9 : GI (upd z 9 (hiF z)) P B S := h.u9 _
      have g9 : hiF (upd z 9 (hiF z)) = 0 := by rw [hi_u9 z hp]; exact g
      have hn := h9.st (by omega) g9
      have el := la_st h9.gp g9
      rw [la_u9] at el
      obtain ⟨c1, c2, c3, c4, c5, c6, c7, c8⟩ := ih (k + 1) (S + 1) _ hn (by omega)
      have em : min (la z P) (r + 1) = min (la (stF (upd z 9 (hiF z))) P) r + 1 := by omega
      have e1 : stF (upd z 9 (hiF z)) 1 = z 1 := (stF_lo _ (Or.inl rfl)).trans (upd_ne (by omega))
      have e3 : stF (upd z 9 (hiF z)) 3 = z 3 + 1 := by rw [stF_3, upd_ne (by omega)]
      have e4 : stF (upd z 9 (hiF z)) 4 = z 4 + z 1 := by rw [stF_4, upd_ne (by omega), upd_ne (by omega)]
      have e8 : stF (upd z 9 (hiF z)) 8 = z 8 + mMany z 10 := by rw [stF_8, many_u9, upd_ne (by omega)]
      have ey : mMany (stF (upd z 9 (hiF z))) 10 = mMany z 10 := by rw [many_st h9.gp, many_u9]
      rw [em, ← nI_1]
      refine ⟨by omega, by rw [show S + (r + 1) = S + 1 + r by omega]; exact c2, ?_, ?_, ?_, c6.trans e1, by omega, fun _ => ?_⟩
      · rw [c3, e3]; grind
      · rw [c4, e4, e1]; grind
      · rw [c5, e8, ey]; grind
      · rcases Nat.eq_zero_or_pos r with q | q
        · subst q
          rw [if_neg (by omega)]
          rw [adF_0]
          have e9 : stF (upd z 9 (hiF z)) 9 = 0 := by rw [stF_9, upd_eq]; exact g
          dsimp only
          exact e9
        · rw [c8 q]
          by_cases q2 : la z P < r + 1
          · rw [if_pos q2, if_pos (by omega)]
          · rw [if_neg q2, if_neg (by omega)]
    · rw [if_neg g]
      have l0 : la z P = 0 := by
        rcases Nat.eq_zero_or_pos (la z P) with q | q
        · exact q
        · exact (g ((hi_la hp).mpr q)).elim
      rw [l0, Nat.zero_min]
      refine ⟨rfl, (h.u9 _).le (S' := S + (r + 1)) (Nat.le_refl _) (by omega), ?_, ?_, ?_, (show upd z 9 (hiF z) 1 = z 1 from upd_ne (by omega)), ?_, fun _ => ?_⟩
      · show upd z 9 (hiF z) 3 = z 3 + 0; rw [upd_ne (by omega)]; grind
      · show upd z 9 (hiF z) 4 = z 4 + 0 * z 1; rw [upd_ne (by omega)]; grind
      · show upd z 9 (hiF z) 8 = z 8 + 0 * mMany z 10; rw [upd_ne (by omega)]; grind
      · rw [la_u9, l0]
      · rw [if_pos (by omega), hi_u9 z hp]
        dsimp only
        exact upd_eq
end LASTS
