/-! what the class finds with masks is what the reference finds with rows -/
def El (z : Nat → Int32) : Prop := ∀ c, c < 10 → ∃ v, v ≤ 999 ∧ z (10 + 7 * c + 1) = nI v
def Fi (z : Nat → Int32) : Prop := ∃ v, v ≤ 999 ∧ z 2 = nI v
def GP (z : Nat → Int32) (P : Nat) : Prop := z 0 = nI P ∧ 2 ≤ P ∧ P ≤ 6 ∧ In z P ∧ Fl z ∧ Di z ∧ El z ∧ Fi z
section SAME
variable {z : Nat → Int32} {P : Nat}
theorem GP.vl (h : GP z P) : Vl P (pl z 10) := ⟨pl_nd h.2.2.2.1 h.2.2.1 h.2.2.2.2.2.1 10 (Nat.le_refl _), pl_lt h.2.2.2.1 h.2.2.1 10 (Nat.le_refl _)⟩
theorem GP.rw (h : GP z P) : Rw (plz z) (pl z 10) := tpl_rw h.2.2.2.1 h.2.2.1 _ 10 (Nat.le_refl _)
theorem GP.tk (h : GP z P) : tkF z 10 = msk (pl z 10) := pl_tk h.2.2.2.1 h.2.2.1 10 (Nat.le_refl _)
theorem GP.hn (h : GP z P) : 2 * z 0 = nI (2 * P) := by rw [h.1, x2P]
theorem GP.tk0 (h : GP z P) : tkF z 10 = 0 ↔ tpm z 10 = 0 := by
  rw [h.tk, msk_0 (h.vl.lo h.2.2.1), ← pl_len]
  exact List.length_eq_zero_iff.symm
theorem le_emp (h : El z) : ∀ c, c ≤ 10 → ∃ v, v ≤ 1000 ∧ leF2 z c = nI v ∧ (v = 0 ↔ mEmp z c = true) := by
  intro c
  induction c with
  | zero => intro _; exact ⟨1000, by omega, rfl, ⟨fun q => by omega, fun q => by cases q⟩⟩
  | succ c ih =>
    intro hc
    obtain ⟨v, h1, h2, h3⟩ := ih (by omega)
    obtain ⟨u, g1, g2⟩ := h c (by omega)
    unfold leF2 mEmp
    rw [h2, g2]
    cases hz : zt z c with
    | false =>
      refine ⟨v, h1, rfl, ?_⟩
      rw [h3]
      simp
    | true =>
      have e0 : (nI u = 0) ↔ u = 0 := nI_eq (b := 0) (by omega) (by omega)
      by_cases g : u < v
      · refine ⟨u, by omega, ?_, ?_⟩
        · show (if nI u < nI v then nI u else nI v) = _
          rw [if_pos (nI_lt g (by omega))]
        · have hv : mEmp z c = false := by
            cases hb : mEmp z c with
            | false => rfl
            | true => have := h3.mpr hb; omega
          rw [hv]
          simp [e0]
      · refine ⟨v, by omega, ?_, ?_⟩
        · show (if nI u < nI v then nI u else nI v) = _
          rw [if_neg (nI_nlt (by omega) (by omega))]
        · rw [h3]
          constructor
          · intro q; rw [q]; rfl
          · intro q
            rw [Bool.or_eq_true] at q
            rcases q with q | q
            · exact q
            · have : u = 0 := by simpa [e0] using q
              exact h3.mp (by omega)
theorem le_least (h : El z) : ∀ c, c ≤ 10 → ∃ v, v ≤ 999 ∧ mLeast z c = nI v ∧ (tpm z c = 0 → v = 999) ∧ leF2 z c = if tpm z c = 0 then 1000 else nI v := by
  intro c
  induction c with
  | zero => intro _; exact ⟨999, by omega, rfl, fun _ => rfl, rfl⟩
  | succ c ih =>
    intro hc
    obtain ⟨v, h1, h2, h3, h4⟩ := ih (by omega)
    obtain ⟨u, g1, g2⟩ := h c (by omega)
    unfold leF2 mLeast tpm
    rw [h2, g2, h4]
    cases hz : zt z c with
    | false => exact ⟨v, h1, rfl, h3, rfl⟩
    | true =>
      have e1 : ¬ tpm z c + 1 = 0 := by omega
      by_cases g0 : tpm z c = 0
      · have h999 := h3 g0
        subst h999
        refine ⟨u, by omega, ?_, fun q => absurd q e1, ?_⟩
        · show cond (true && decide (nI u < nI 999)) (nI u) (nI 999) = nI u
          rw [Bool.true_and]
          by_cases g : u < 999
          · rw [decide_eq_true (nI_lt g (by omega))]; rfl
          · rw [decide_eq_false (nI_nlt (by omega) (by omega)), show u = 999 by omega]; rfl
        · show (if nI u < (if tpm z c = 0 then 1000 else nI 999) then nI u else (if tpm z c = 0 then 1000 else nI 999)) = if tpm z c + 1 = 0 then 1000 else nI u
          rw [if_neg e1, if_pos g0, if_pos (show nI u < 1000 from nI_lt (b := 1000) (by omega) (by omega))]
      · by_cases g : u < v
        · refine ⟨u, by omega, ?_, fun q => absurd q e1, ?_⟩
          · show cond (true && decide (nI u < nI v)) (nI u) (nI v) = nI u
            rw [Bool.true_and, decide_eq_true (nI_lt g (by omega))]; rfl
          · show (if nI u < (if tpm z c = 0 then 1000 else nI v) then nI u else (if tpm z c = 0 then 1000 else nI v)) = if tpm z c + 1 = 0 then 1000 else nI u
            rw [if_neg e1, if_neg g0, if_pos (nI_lt g (by omega))]
        · refine ⟨v, by omega, ?_, fun q => absurd q e1, ?_⟩
          · show cond (true && decide (nI u < nI v)) (nI u) (nI v) = nI v
            rw [Bool.true_and, decide_eq_false (nI_nlt (by omega) (by omega))]; rfl
          · show (if nI u < (if tpm z c = 0 then 1000 else nI v) then nI u else (if tpm z c = 0 then 1000 else nI v)) = if tpm z c + 1 = 0 then 1000 else nI v
            rw [if_neg e1, if_neg g0, if_neg (nI_nlt (by omega) (by omega))]
theorem GP.mt0 (h : GP z P) : mts (aT (tkF z 10)) (2 * z 0) = 0 ↔ mtz z (plz z) (tpm z 10) P = -6 := by
  have e := mtz_fm h.1 h.2.1 h.2.2.1 h.vl h.rw
  rw [pl_len] at e
  rw [h.tk, h.hn, e]
  exact mts_fm h.2.1 h.2.2.1 h.vl
theorem GP.gwhy (h : GP z P) : hiF z = whyF z P := by
  unfold hiF whyF
  obtain ⟨v, h1, h2, h3⟩ := le_emp h.2.2.2.2.2.2.1 10 (Nat.le_refl _)
  have e0 : (nI v = 0) ↔ v = 0 := nI_eq (b := 0) (by omega) (by omega)
  by_cases g1 : tpm z 10 = 0
  · rw [if_pos (h.tk0.mpr g1), if_pos g1]
  · rw [if_neg (fun q => g1 (h.tk0.mp q)), if_neg g1]
    by_cases g2 : 0 < mSum z 2 10
    · rw [if_pos g2, if_pos g2]
    · rw [if_neg g2, if_neg g2, h2]
      cases g3 : mEmp z 10 with
      | true => rw [if_pos (e0.mpr (h3.mpr g3))]; rfl
      | false =>
        rw [if_neg (fun q => by rw [h3.mp (e0.mp q)] at g3; cases g3)]
        show _ = if mtz z (plz z) (tpm z 10) P = -6 then 0 else 4
        by_cases g4 : mtz z (plz z) (tpm z 10) P = -6
        · rw [if_pos g4, if_pos (h.mt0.mpr g4)]
        · rw [if_neg g4, if_neg (fun q => g4 (h.mt0.mp q))]
theorem GP.gfm (h : GP z P) (L : Nat) : fM (tkF z 10) (2 * z 0) L 1 (tkF z 10) = if srF (mt P (pl z 10)) L 0 < L then nI (srF (mt P (pl z 10)) L 0 + 1) else -6 := by
  have e := fM_sr h.2.1 h.2.2.1 h.vl L 0 (fun j hj => by omega)
  rw [h.tk, h.hn]
  rw [Nat.zero_add] at e
  rw [Nat.zero_add] at e
  exact e
theorem GP.gmi (h : GP z P) : mi z (tpm z 10) P (plz z) 100 0 = srF (mt P (pl z 10)) 100 0 := by
  have e := mi_sr h.1 h.2.1 h.2.2.1 h.vl h.rw 100 0
  rw [pl_len] at e
  exact e
theorem GP.gmiR (h : GP z P) : fM (tkF z 10) (2 * z 0) 100 1 (tkF z 10) = miR z (tpm z 10) P (plz z) := by
  unfold miR
  rw [h.gfm, h.gmi]
theorem srF_no {f : Nat → Bool} : ∀ r c j, c ≤ j → j < srF f r c → f j = false := by
  intro r
  induction r with
  | zero => intro c j h1 h2; unfold srF at h2; omega
  | succ r ih =>
    intro c j h1 h2
    unfold srF at h2
    cases hf : f c with
    | true => rw [hf] at h2; simp only [cond] at h2; omega
    | false =>
      rw [hf] at h2
      by_cases e : j = c
      · subst e; exact hf
      · exact ih (c + 1) j (by omega) h2
theorem bIt_it {l : List Nat} (h2 : 2 ≤ P) (h6 : P ≤ 6) (h : Vl P l) : ∀ k c, (∀ j, c ≤ j → j < c + k → mt P l j = false) → bIt (nI (2 * P)) k (msk (itl P l c)) = msk (itl P l (c + k)) := by
  intro k
  induction k with
  | zero => intro c _; rfl
  | succ k ih =>
    intro c hn
    unfold bIt
    have hv := h.it h2 h6 c
    have g : fm P (itl P l c) = -6 := Decidable.not_not.mp (of_decide_eq_false (hn c (Nat.le_refl _) (by omega)))
    rw [bSt_st h2 h6 hv, if_pos g]
    have := ih (c + 1) (fun j g1 g2 => hn j (by omega) (by omega))
    rw [show c + (k + 1) = c + 1 + k by omega]
    exact this
/-- the contact at which two meet first -/
theorem GP.con (h : GP z P) {L : Nat} (hL : srF (mt P (pl z 10)) 100 0 = L) (h100 : L < 100) : ∃ ct, ct < 2 * P ∧ mcF (mts (aT (bIt (2 * z 0) L (tkF z 10))) (2 * z 0)) (2 * P) 0 = nI ct ∧ mtz z (pls (2 * z 0) (tpm z 10) (plz z) L) (tpm z 10) P = nI ct := by
  have hv := h.vl
  have h2 := h.2.1
  have h6 := h.2.2.1
  have hvL := hv.it h2 h6 L
  have e1 := bIt_it h2 h6 hv L 0 (fun j _ hj => srF_no 100 0 j (by omega) (by omega))
  have hm : mt P (pl z 10) L = true := by
    have := srF_lt (f := mt P (pl z 10)) 100 0 (by omega)
    rw [hL] at this
    exact this
  have g : ¬ fm P (itl P (pl z 10) L) = -6 := of_decide_eq_true hm
  have e2 := mtz_fm h.1 h2 h6 hvL (h.rw.it h2 h6 hv L)
  rw [itl_len, pl_len] at e2
  rw [Nat.zero_add] at e1
  rw [h.tk, h.hn, e2, show msk (pl z 10) = msk (itl P (pl z 10) 0) from rfl, e1, aT_msk (hvL.lo h6), mcF_fc h2 h6 (hvL.tn h2 h6).2 _ _ (by omega)]
  unfold fm at g ⊢
  rcases fcF_or (mtB P ((itl P (pl z 10) L).map tN)) (2 * P) 0 with ⟨e, h3, h4, h5, h7⟩ | ⟨h3, h4⟩
  · exact ⟨e, by omega, h7, h7⟩
  · exact (g h4).elim
/-- the way of one place -/
def it1 (P : Nat) : Nat → Nat → Nat | 0, p => p | n + 1, p => oN P (tN (it1 P n p))
theorem it1_s (P : Nat) : ∀ n p, it1 P n (oN P (tN p)) = oN P (tN (it1 P n p)) := by
  intro n
  induction n with
  | zero => intro p; rfl
  | succ n ih => intro p; unfold it1; rw [ih]
theorem it1_lt (h2 : 2 ≤ P) (h6 : P ≤ 6) : ∀ n p, p < 8 * P → it1 P n p < 8 * P := by
  intro n
  induction n with
  | zero => intro p h; exact h
  | succ n ih =>
    intro p h
    exact (perm_ok h2 h6 (perm_ok h2 h6 (ih p h)).2.2.1).2.2.2.1
theorem it1_inj (h2 : 2 ≤ P) (h6 : P ≤ 6) : ∀ n p e, p < 8 * P → e < 8 * P → it1 P n p = it1 P n e → p = e := by
  intro n
  induction n with
  | zero => intro p e _ _ h; exact h
  | succ n ih =>
    intro p e hp he h
    have kp := it1_lt h2 h6 n p hp
    have ke := it1_lt h2 h6 n e he
    exact ih p e hp he (st_inj h2 h6 kp ke (so_inj h2 h6 (perm_ok h2 h6 kp).2.2.1 (perm_ok h2 h6 ke).2.2.1 h))
theorem itl_get (P : Nat) (l : List Nat) (k : Nat) : ∀ n, (itl P l n)[k]? = (l[k]?).map (it1 P n) := by
  intro n
  induction n with
  | zero => cases h : l[k]? <;> simp [itl, it1, h]
  | succ n ih =>
    unfold itl stp
    rw [List.getElem?_map, ih]
    cases l[k]? <;> rfl
theorem tpF_it1 (h2 : 2 ≤ P) (h6 : P ≤ 6) : ∀ L p, p < 8 * P → tpF (nI (2 * P)) L (nI (tN p)) = nI (tN (it1 P L p)) := by
  intro L
  induction L with
  | zero => intro p _; rfl
  | succ L ih =>
    intro p hp
    have k1 := (perm_ok h2 h6 hp).2.2.1
    have k2 := place_ok h2 h6 k1
    have k3 := place_ok h2 h6 k2.2.2.2.2
    unfold tpF
    rw [← x2P, k2.2.2.1, k3.1, x2P, ih _ k2.2.2.2.2, it1_s]
    rfl
theorem pl_get {c : Nat} (hz : zt z c = true) : ∀ n, c < n → (pl z n)[tpm z c]? = some (z (10 + 7 * c)).toNatClampNeg := by
  intro n
  induction n with
  | zero => intro h; omega
  | succ n ih =>
    intro h
    unfold pl
    by_cases e : c = n
    · subst e
      rw [hz]
      show (pl z c ++ [(z (10 + 7 * c)).toNatClampNeg])[tpm z c]? = _
      rw [← pl_len, List.getElem?_append_right (Nat.le_refl _), Nat.sub_self]
      rfl
    · have k := ih (by omega)
      cases zt z n with
      | false => exact k
      | true =>
        show (pl z n ++ [_])[tpm z c]? = _
        have hl : tpm z c < (pl z n).length := by
          rcases Nat.lt_or_ge (tpm z c) (pl z n).length with g | g
          · exact g
          · rw [List.getElem?_eq_none g] at k; cases k
        rw [List.getElem?_append_left hl]
        exact k
theorem mCt_ls (z pl : Nat → Int32) (p : Int32) : ∀ c, (mCt z pl p c).1 = lsF (fun e => zt z e && decide (t32 (pl (tpm z e)) = p)) c := by
  intro c
  induction c with
  | zero => rfl
  | succ c ih =>
    unfold mCt lsF
    rw [mCt_le z pl p c]
    cases hz : zt z c with
    | false => exact ih
    | true =>
      show (if t32 (pl (tpm z c)) = p then nI c else (mCt z pl p c).1) = cond (true && decide (t32 (pl (tpm z c)) = p)) (nI c) _
      rw [Bool.true_and]
      by_cases g : t32 (pl (tpm z c)) = p
      · rw [if_pos g, decide_eq_true g]; rfl
      · rw [if_neg g, decide_eq_false g]; exact ih
theorem fTt_fc (p : Int32) (L : Nat) : ∀ r c, fTt z p L r c = fcF (fun e => zt z e && decide (tpF (2 * z 0) L (t32 (z (10 + 7 * e))) = p)) r c := by
  intro r
  induction r with
  | zero => intro c; rfl
  | succ r ih => intro c; unfold fTt fcF; rw [ih]
theorem GP.tt (h : GP z P) (L : Nat) {x : Nat} (hx : x < 8 * P) : fTt z (nI x) L 10 0 = (mCt z (pls (2 * z 0) (tpm z 10) (plz z) L) (nI x) 10).1 := by
  have h2 := h.2.1
  have h6 := h.2.2.1
  have hi := h.2.2.2.1
  have hw : ∀ e, e < 10 → zt z e = true → tpF (2 * z 0) L (t32 (z (10 + 7 * e))) = nI (tN (it1 P L (z (10 + 7 * e)).toNatClampNeg)) := by
    intro e he hz
    obtain ⟨k1, k2⟩ := hi.at h6 he hz
    rw [k2, (place_ok h2 h6 k1).1, h.hn, tpF_it1 h2 h6 L _ k1, xnc (by omega)]
  have hr : ∀ e, e < 10 → zt z e = true → t32 (pls (2 * z 0) (tpm z 10) (plz z) L (tpm z e)) = nI (tN (it1 P L (z (10 + 7 * e)).toNatClampNeg)) := by
    intro e he hz
    obtain ⟨k1, k2⟩ := hi.at h6 he hz
    have r := h.rw.it h2 h6 h.vl L (tpm z e) (it1 P L (z (10 + 7 * e)).toNatClampNeg) (by rw [itl_get, pl_get hz 10 he]; rfl)
    rw [pl_len] at r
    rw [h.hn, r, (place_ok h2 h6 (it1_lt h2 h6 L _ k1)).1]
  rw [fTt_fc, mCt_ls, fl_eq]
  · refine lsF_cg 10 (fun e he => ?_)
    cases hz : zt z e with
    | false => rfl
    | true => rw [hw e he hz, hr e he hz]
  · intro j e hj he fj fe
    rw [Bool.and_eq_true, decide_eq_true_eq] at fj fe
    obtain ⟨k1, k2⟩ := hi.at h6 hj fj.1
    obtain ⟨g1, g2⟩ := hi.at h6 he fe.1
    have q1 := fj.2
    have q2 := fe.2
    rw [hw j hj fj.1] at q1
    rw [hw e he fe.1] at q2
    have kp := it1_lt h2 h6 L _ k1
    have ke := it1_lt h2 h6 L _ g1
    have t1 := (perm_ok h2 h6 kp).2.2.1
    have t2 := (perm_ok h2 h6 ke).2.2.1
    have q3 : tN (it1 P L (z (10 + 7 * j)).toNatClampNeg) = tN (it1 P L (z (10 + 7 * e)).toNatClampNeg) := (nI_eq (by omega) (by omega)).mp (q1.trans q2.symm)
    have q4 := it1_inj h2 h6 L _ _ k1 g1 (st_inj h2 h6 kp ke q3)
    exact h.2.2.2.2.2.1 j e hj he fj.1 fe.1 (by rw [k2, g2, q4])
theorem mIn_ls (p : Int32) : ∀ c, mIn z p c = lsF (fun e => zt z e && decide (z (10 + 7 * e) = p)) c := by
  intro c
  induction c with
  | zero => rfl
  | succ c ih => unfold mIn lsF; rw [ih]
theorem fIn_fc (p : Int32) : ∀ r c, fIn z p r c = fcF (fun e => zt z e && decide (z (10 + 7 * e) = p)) r c := by
  intro r
  induction r with
  | zero => intro c; rfl
  | succ r ih => intro c; unfold fIn fcF; rw [ih]
theorem GP.fin (h : GP z P) (p : Int32) : fIn z p 10 0 = mIn z p 10 := by
  rw [fIn_fc, mIn_ls, fl_eq]
  intro j e hj he fj fe
  rw [Bool.and_eq_true, decide_eq_true_eq] at fj fe
  exact h.2.2.2.2.2.1 j e hj he fj.1 fe.1 (fj.2.trans fe.2.symm)
theorem GP.in6 (h : GP z P) {p : Nat} (hp : p < 48) : mIn z (nI p) 10 = -6 ↔ ¬ p ∈ pl z 10 := by
  rw [← h.fin, fIn_fc, fcF_6 (by omega), pl_mem h.2.2.2.1 h.2.2.1 hp 10 (Nat.le_refl _)]
  constructor
  · rintro q ⟨e, h1, h3, h4⟩
    have := q e (by omega) (by omega)
    rw [h3, decide_eq_true h4] at this
    cases this
  · intro q j _ hj
    cases hz : zt z j with
    | false => rfl
    | true =>
      show decide (z (10 + 7 * j) = nI p) = false
      exact decide_eq_false (fun g => q ⟨j, by omega, hz, g⟩)
theorem GP.fit (h : GP z P) {p : Nat} (hp : p < 8 * P) : fitsF (tkF z 10) (2 * z 0) (nI p) = isFr z (nI p) := by
  have h2 := h.2.1
  have h6 := h.2.2.1
  have k := place_ok h2 h6 hp
  have lo := h.vl.lo h6
  unfold fitsF isFr
  rw [h.tk, h.hn, ← x2P, k.2.2.1, k.2.1]
  have e : msk (pl z 10) &&& (shl 1 (nI p) ||| shl 1 (nI (oN P p))) = 0 ↔ (¬ p ∈ pl z 10 ∧ ¬ oN P p ∈ pl z 10) := by
    constructor
    · intro q
      refine ⟨fun g => ?_, fun g => ?_⟩
      · have t : tb (msk (pl z 10) &&& (shl 1 (nI p) ||| shl 1 (nI (oN P p)))) p = false := by rw [q, tb_0]
        rw [tb_and, tb_or, msk_tb lo, decide_eq_true g, tb_shl1 (by omega), decide_eq_true (show p < 64 by omega), decide_eq_true (show p = p from rfl)] at t
        cases t
      · have t : tb (msk (pl z 10) &&& (shl 1 (nI p) ||| shl 1 (nI (oN P p)))) (oN P p) = false := by rw [q, tb_0]
        rw [tb_and, tb_or, msk_tb lo, decide_eq_true g, tb_shl1 (p := oN P p) (by omega), decide_eq_true (show oN P p < 64 by omega), decide_eq_true (show oN P p = oN P p from rfl), Bool.and_self, Bool.or_true] at t
        cases t
    · rintro ⟨q1, q2⟩
      refine tb_ext (fun j hj => ?_)
      rw [tb_and, tb_or, msk_tb lo, tb_shl1 (by omega), tb_shl1 (by omega), tb_0]
      by_cases g : j ∈ pl z 10
      · rw [decide_eq_false (show ¬ j = p from fun e => q1 (e ▸ g)), decide_eq_false (show ¬ j = oN P p from fun e => q2 (e ▸ g))]
        simp
      · rw [decide_eq_false g]; rfl
  rw [decide_eq_decide.mpr e, decide_eq_decide.mpr (h.in6 (by omega : p < 48)), decide_eq_decide.mpr (h.in6 (by omega : oN P p < 48)), Bool.decide_and]
theorem GP.sf (h : GP z P) {p : Nat} (hp : p < 8 * P) : sfF (tkF z 10) (2 * z 0) (nI p) = caF z P (nI p) := by
  have h2 := h.2.1
  have h6 := h.2.2.1
  unfold sfF caF
  rw [h.fit hp]
  cases hf : isFr z (nI p) with
  | false => rfl
  | true =>
    have hn : ¬ p ∈ pl z 10 := by
      unfold isFr at hf
      rw [Bool.and_eq_true, decide_eq_true_eq] at hf
      exact (h.in6 (by omega)).mp hf.1
    have hv : Vl P (pl z 10 ++ [p]) := by
      refine ⟨?_, fun x hx => ?_⟩
      · rw [List.nodup_append]
        refine ⟨h.vl.1, by simp, ?_⟩
        intro a ha b hb
        rw [List.mem_singleton] at hb
        subst hb
        intro e
        subst e
        exact hn ha
      · rw [List.mem_append, List.mem_singleton] at hx
        rcases hx with hx | hx
        · exact h.vl.2 x hx
        · rw [hx]; exact hp
    have hr : Rw (upd (plz z) (tpm z 10) (nI p)) (pl z 10 ++ [p]) := by
      rw [← pl_len]
      exact h.rw.app
    have e1 := fM_sr h2 h6 hv 100 0 (fun j hj => by omega)
    have e2 := mi_sr h.1 h2 h6 hv hr 100 0
    rw [List.length_append, pl_len] at e2
    rw [Nat.zero_add, Nat.zero_add] at e1
    rw [h.tk, ← msk_app, h.hn, show fM (msk (pl z 10 ++ [p])) (nI (2 * P)) 100 1 (msk (pl z 10 ++ [p])) = _ from e1]
    rw [show mi z (tpm z 10 + 1) P (upd (plz z) (tpm z 10) (nI p)) 100 0 = srF (mt P (pl z 10 ++ [p])) 100 0 from e2]
    show decide _ = decide _
    refine decide_eq_decide.mpr ?_
    by_cases g : srF (mt P (pl z 10 ++ [p])) 100 0 < 100
    · rw [if_pos g]
      exact ⟨fun q => (nI_n6 _ (by omega) q).elim, fun q => (q g).elim⟩
    · rw [if_neg g]
      exact ⟨fun _ => g, fun _ => rfl⟩
theorem GP.free (h : GP z P) : ∀ c, c ≤ 8 * P → frC (tkF z 10) (2 * z 0) c = frN z P c := by
  intro c
  induction c with
  | zero => intro _; rfl
  | succ c ih => intro hc; unfold frC frN; rw [ih (by omega), h.sf (by omega)]
theorem ffN_ge (z : Nat → Int32) (P : Nat) : ∀ r c, c ≤ ffN z P r c := by
  intro r
  induction r with
  | zero => intro c; exact Nat.le_refl _
  | succ r ih =>
    intro c
    unfold ffN
    cases caF z P (nI c) with
    | true => exact Nat.le_refl _
    | false => have := ih (c + 1); simp only [cond]; omega
theorem GP.ffree (h : GP z P) : ∀ r c, c + r = 8 * P → ffC (tkF z 10) (2 * z 0) r c = if ffN z P r c < 8 * P then nI (ffN z P r c) else -6 := by
  intro r
  induction r with
  | zero => intro c hc; unfold ffC ffN; rw [if_neg (by omega)]
  | succ r ih =>
    intro c hc
    unfold ffC ffN
    rw [h.sf (show c < 8 * P by omega)]
    cases caF z P (nI c) with
    | true => simp only [cond]; rw [if_pos (by omega)]
    | false => exact ih (c + 1) (by omega)
theorem sub_eq : ∀ (l r : List Nat), l.Nodup → (∀ x, x ∈ l → x ∈ r) → r.length ≤ l.length → ∀ x, x ∈ r → x ∈ l := by
  intro l
  induction l with
  | nil =>
    intro r _ _ hl x hx
    have : r = [] := List.length_eq_zero_iff.mp (by simp at hl; simp [hl])
    subst this
    exact hx
  | cons a s ih =>
    intro r hn hs hl x hx
    have h := List.nodup_cons.mp hn
    have ha : a ∈ r := hs a (by simp)
    by_cases e : x = a
    · subst e; simp
    · have hle := List.length_erase_of_mem ha
      have := ih (r.erase a) h.2 (fun y hy => (List.mem_erase_of_ne (fun q => h.1 (by rw [← q]; exact hy))).mpr (hs y (by simp [hy]))) (by rw [hle]; simp at hl; omega) x ((List.mem_erase_of_ne e).mpr hx)
      simp [this]
theorem mTk_iff (rw_ : Nat → Int32) (p : Int32) : ∀ m, mTk rw_ p m = true ↔ ∃ k, k < m ∧ rw_ k = p := by
  intro m
  induction m with
  | zero => exact ⟨fun h => (by cases h), fun g => (by obtain ⟨k, h, _⟩ := g; omega)⟩
  | succ m ih =>
    unfold mTk
    rw [Bool.or_eq_true, ih, decide_eq_true_eq]
    constructor
    · rintro (⟨k, h1, h2⟩ | h)
      · exact ⟨k, by omega, h2⟩
      · exact ⟨m, by omega, h⟩
    · rintro ⟨k, h1, h2⟩
      by_cases e : k = m
      · subst e; exact Or.inr h2
      · exact Or.inl ⟨k, by omega, h2⟩
theorem mAb_iff (z rw_ : Nat → Int32) (m : Nat) : ∀ c, mAb z rw_ m c = true ↔ ∀ e, e < c → zt z e = true → mTk rw_ (z (10 + 7 * e)) m = true := by
  intro c
  induction c with
  | zero => exact ⟨fun _ e h => by omega, fun _ => rfl⟩
  | succ c ih =>
    unfold mAb
    rw [Bool.and_eq_true, ih]
    constructor
    · rintro ⟨h1, h2⟩ e he hz
      by_cases g : e = c
      · subst g; rw [hz] at h2; exact h2
      · exact h1 e (by omega) hz
    · intro h
      refine ⟨fun e he hz => h e (by omega) hz, ?_⟩
      cases hz : zt z c with
      | false => rfl
      | true => exact h c (by omega) hz
theorem Rw.mem {q : Nat → Int32} {l : List Nat} (hr : Rw q l) (hl : Lo l) {x : Nat} (hx : x < 48) : mTk q (nI x) l.length = true ↔ x ∈ l := by
  rw [mTk_iff]
  constructor
  · rintro ⟨k, h1, h2⟩
    have e := hr k l[k] (List.getElem?_eq_getElem h1)
    rw [h2] at e
    have := hl l[k] (List.getElem_mem _)
    have := (nI_eq (by omega) (by omega)).mp e
    rw [this]
    exact List.getElem_mem _
  · intro h
    obtain ⟨k, h1, h2⟩ := List.getElem_of_mem h
    exact ⟨k, h1, hr k x (by rw [← h2]; exact List.getElem?_eq_getElem h1)⟩
theorem GP.back (h : GP z P) (n : Nat) : mAb z (pls (2 * z 0) (tpm z 10) (plz z) n) (tpm z 10) 10 = true ↔ msk (itl P (pl z 10) n) = msk (pl z 10) := by
  have h2 := h.2.1
  have h6 := h.2.2.1
  have hv := h.vl
  have hvn := hv.it h2 h6 n
  have hr := h.rw.it h2 h6 hv n
  rw [pl_len] at hr
  have hk : ∀ x, x < 48 → (mTk (pls (2 * z 0) (tpm z 10) (plz z) n) (nI x) (tpm z 10) = true ↔ x ∈ itl P (pl z 10) n) := by
    intro x hx
    have := hr.mem (hvn.lo h6) hx
    rw [itl_len, pl_len] at this
    rw [h.hn]
    exact this
  rw [mAb_iff, msk_inj (hvn.lo h6) (hv.lo h6)]
  constructor
  · intro g
    have s : ∀ x, x ∈ pl z 10 → x ∈ itl P (pl z 10) n := by
      intro x hx
      have hx8 := hv.2 x hx
      obtain ⟨e, h1, h3, h4⟩ := (pl_mem h.2.2.2.1 h6 (by omega : x < 48) 10 (Nat.le_refl _)).mp hx
      have := g e h1 h3
      rw [h4] at this
      exact (hk x (by omega)).mp this
    intro j
    exact ⟨fun q => sub_eq _ _ hv.1 s (by rw [itl_len]; exact Nat.le_refl _) j q, s j⟩
  · intro g e he hz
    obtain ⟨k1, k2⟩ := h.2.2.2.1.at h6 he hz
    rw [k2]
    refine (hk _ (by omega)).mpr ((g _).mpr ?_)
    exact (pl_mem h.2.2.2.1 h6 (by omega) 10 (Nat.le_refl _)).mpr ⟨e, he, hz, k2⟩
theorem GP.per (h : GP z P) : ∀ r c, fR (tkF z 10) (2 * z 0) r (c + 1) (msk (itl P (pl z 10) c)) = match peN z (tpm z 10) P (plz z) r c with | some k => nI k | none => -6 := by
  have h2 := h.2.1
  have h6 := h.2.2.1
  have hv := h.vl
  intro r
  induction r with
  | zero => intro c; rfl
  | succ r ih =>
    intro c
    have hvc := hv.it h2 h6 c
    have e := mtz_fm h.1 h2 h6 hvc (h.rw.it h2 h6 hv c)
    rw [itl_len, pl_len] at e
    have ih := ih (c + 1)
    unfold fR peN
    rw [h.hn] at ih ⊢
    rw [bSt_st h2 h6 hvc, e]
    by_cases g : fm P (itl P (pl z 10) c) = -6
    · rw [if_pos g, if_pos g, if_neg (msk_m1 ((hvc.st h2 h6).lo h6))]
      have hb := h.back (c + 1)
      rw [h.hn] at hb
      rw [h.tk] at ih ⊢
      by_cases b : msk (stp P (itl P (pl z 10) c)) = msk (pl z 10)
      · rw [if_pos b, hb.mpr b]; rfl
      · rw [if_neg b, show mAb z (pls (nI (2 * P)) (tpm z 10) (plz z) (c + 1)) (tpm z 10) 10 = false by
          cases hx : mAb z (pls (nI (2 * P)) (tpm z 10) (plz z) (c + 1)) (tpm z 10) 10 with
          | false => rfl
          | true => exact (b (hb.mp hx)).elim]
        exact ih
    · rw [if_neg g, if_neg g, if_pos rfl]
theorem GP.perR (h : GP z P) : (if tkF z 10 = 0 then -5 else fR (tkF z 10) (2 * z 0) 100 1 (tkF z 10)) = peR z P := by
  unfold peR
  by_cases g : tpm z 10 = 0
  · rw [if_pos g, if_pos (h.tk0.mpr g)]
  · rw [if_neg g, if_neg (fun q => g (h.tk0.mp q))]
    have e := h.per 100 0
    rw [Nat.zero_add] at e
    rw [show fR (tkF z 10) (2 * z 0) 100 1 (tkF z 10) = fR (tkF z 10) (2 * z 0) 100 1 (msk (itl P (pl z 10) 0)) by rw [h.tk]; rfl]
    exact e
theorem GP.las (h : GP z P) {L : Nat} (hL : mLeast z 10 = nI L) (hL9 : L ≤ 999) : (if hiF z = 0 then (if fM (tkF z 10) (2 * z 0) L 1 (tkF z 10) = -6 then nI L else fM (tkF z 10) (2 * z 0) L 1 (tkF z 10) - 1) else 0) = nI (laR z P L) := by
  obtain ⟨v, h1, h3, h4, h5⟩ := le_least h.2.2.2.2.2.2.1 10 (Nat.le_refl _)
  have hv : v = L := (nI_eq (by omega) (by omega)).mp (h3.symm.trans hL)
  subst hv
  obtain ⟨u, u1, u2, u3⟩ := le_emp h.2.2.2.2.2.2.1 10 (Nat.le_refl _)
  have eN := laN_sr h.1 h.2.1 h.2.2.1 h.vl h.rw v 0
  rw [pl_len] at eN
  have eF := h.gfm v
  rw [h.gwhy]
  unfold whyF laR
  by_cases g1 : tpm z 10 = 0
  · rw [if_pos g1, if_pos g1, if_neg (by decide)]; rfl
  · rw [if_neg g1, if_neg g1]
    by_cases g2 : 0 < mSum z 2 10
    · rw [if_pos g2, if_pos g2, if_neg (by decide)]; rfl
    · rw [if_neg g2, if_neg g2, eN]
      rw [h5, if_neg g1] at u2
      have huv : v = u := (nI_eq (by omega) (by omega)).mp u2
      subst huv
      cases g3 : mEmp z 10 with
      | true =>
        have : v = 0 := u3.mpr g3
        subst this
        rw [show (cond true (3 : Int32) (if mtz z (plz z) (tpm z 10) P = -6 then 0 else 4)) = 3 from rfl, if_neg (by decide)]
        rfl
      | false =>
        have hv0 : ¬ v = 0 := fun q => by rw [u3.mp q] at g3; cases g3
        show (if (if mtz z (plz z) (tpm z 10) P = -6 then (0 : Int32) else 4) = 0 then _ else _) = _
        have e0 := mtz_fm h.1 h.2.1 h.2.2.1 h.vl h.rw
        rw [pl_len] at e0
        by_cases g4 : mtz z (plz z) (tpm z 10) P = -6
        · rw [if_pos g4, if_pos rfl, eF]
          have hs := srF_ge (mt P (pl z 10)) v 0
          by_cases g5 : srF (mt P (pl z 10)) v 0 < v
          · rw [if_pos g5, if_neg (nI_n6 _ (by omega)), nI_pred]
          · rw [if_neg g5, if_pos rfl, show srF (mt P (pl z 10)) v 0 = v by omega]
        · rw [if_neg g4, if_neg (by decide)]
          obtain ⟨m, hm⟩ : ∃ m, v = m + 1 := ⟨v - 1, by omega⟩
          subst hm
          unfold srF
          rw [show mt P (pl z 10) 0 = true from decide_eq_true (show ¬ fm P (pl z 10) = -6 by rw [← e0]; exact g4)]
          rfl
/-- around the track -/
theorem mAr_n (rk : Int32) : ∀ p, ∃ k, k ≤ p ∧ (mAr z rk p).2 = nI k := by
  intro p
  induction p with
  | zero => exact ⟨0, Nat.le_refl _, rfl⟩
  | succ p ih =>
    obtain ⟨k, h1, h2⟩ := ih
    unfold mAr
    by_cases g : mIn z (nI p) 10 = -6
    · exact ⟨k, by omega, by simp only; rw [h2, if_pos g, Int32.add_zero]⟩
    · exact ⟨k + 1, by omega, by simp only; rw [h2, if_neg g, nI_1]⟩
theorem mAr_stay (rk : Int32) {p k : Nat} (hk : k ≤ 48) (hr : rk = nI k) {k1 : Nat} (hk1 : k < k1) (h1 : (mAr z rk p).2 = nI k1) : ∀ j, j + k1 ≤ 200 → (mAr z rk (p + j)).1 = (mAr z rk p).1 ∧ ∃ m, k1 ≤ m ∧ m ≤ k1 + j ∧ (mAr z rk (p + j)).2 = nI m := by
  intro j
  induction j with
  | zero => intro _; exact ⟨rfl, k1, Nat.le_refl _, Nat.le_refl _, h1⟩
  | succ j ih =>
    intro hj
    obtain ⟨e1, m, m1, m2, e2⟩ := ih (by omega)
    rw [show p + (j + 1) = p + j + 1 by omega]
    have eS : mAr z rk (p + j + 1) = (cond (decide (¬ mIn z (nI (p + j)) 10 = -6) && decide ((mAr z rk (p + j)).2 = rk)) (mIn z (nI (p + j)) 10) (mAr z rk (p + j)).1, (mAr z rk (p + j)).2 + (if mIn z (nI (p + j)) 10 = -6 then 0 else 1)) := rfl
    rw [eS, e2, decide_eq_false (show ¬ nI m = rk from fun q => by rw [hr] at q; have := (nI_eq (by omega) (by omega)).mp q; omega), Bool.and_false]
    refine ⟨e1, ?_⟩
    by_cases g : mIn z (nI (p + j)) 10 = -6
    · exact ⟨m, by omega, by omega, by simp only; rw [if_pos g, Int32.add_zero]⟩
    · exact ⟨m + 1, by omega, by omega, by simp only; rw [if_neg g, nI_1]⟩
theorem sub0 {a b : Int32} : a - b = 0 ↔ b = a := by
  constructor
  · intro h
    have : a - b + b = 0 + b := by rw [h]
    rw [Int32.sub_add_cancel, Int32.zero_add] at this
    exact this.symm
  · intro h; rw [h, Int32.sub_self]
theorem GP.ar (h : GP z P) (rk : Int32) {N : Nat} (hN : N ≤ 48) : ∀ r p, p + r = N → (mAr z rk p).1 = -1 → arF z r (rk - (mAr z rk p).2) p = (mAr z rk N).1 := by
  intro r
  induction r with
  | zero =>
    intro p hp h1
    have e : p = N := by omega
    subst e
    exact h1.symm
  | succ r ih =>
    intro p hp h1
    obtain ⟨k, k1, k2⟩ := mAr_n (z := z) rk p
    have ih := ih (p + 1) (by omega)
    unfold arF
    rw [h.fin]
    by_cases g : mIn z (nI p) 10 = -6
    · rw [if_pos g]
      have e1 : (mAr z rk (p + 1)).1 = (mAr z rk p).1 := by
        conv => lhs; unfold mAr
        rw [decide_eq_false (fun q => q g)]
        rfl
      have e2 : (mAr z rk (p + 1)).2 = (mAr z rk p).2 := by
        conv => lhs; unfold mAr
        show (mAr z rk p).2 + (if mIn z (nI p) 10 = -6 then 0 else 1) = _
        rw [if_pos g, Int32.add_zero]
      rw [e1, e2] at ih
      exact ih h1
    · rw [if_neg g]
      have e2 : (mAr z rk (p + 1)).2 = (mAr z rk p).2 + 1 := by
        conv => lhs; unfold mAr
        show (mAr z rk p).2 + (if mIn z (nI p) 10 = -6 then 0 else 1) = _
        rw [if_neg g]
      by_cases g2 : (mAr z rk p).2 = rk
      · rw [if_pos (sub0.mpr g2)]
        have e1 : (mAr z rk (p + 1)).1 = mIn z (nI p) 10 := by
          conv => lhs; unfold mAr
          rw [decide_eq_true g, decide_eq_true g2]
          rfl
        have st := mAr_stay (z := z) rk (p := p + 1) (k := k) (by omega) (by rw [← g2]; exact k2) (k1 := k + 1) (by omega) (by rw [e2, k2, nI_1]) r (by omega)
        rw [show N = p + 1 + r by omega, st.1, e1]
      · rw [if_neg (fun q => g2 (sub0.mp q))]
        have e1 : (mAr z rk (p + 1)).1 = (mAr z rk p).1 := by
          conv => lhs; unfold mAr
          rw [decide_eq_false g2, Bool.and_false]
          rfl
        rw [e1, e2] at ih
        rw [show rk - (mAr z rk p).2 + (-1) = rk - ((mAr z rk p).2 + 1) by first | grind | bv_omega]
        exact ih h1
theorem GP.around (h : GP z P) (rk : Int32) : arF z (8 * P) rk 0 = (mAr z rk (8 * P)).1 := by
  have e := h.ar rk (N := 8 * P) (by have := h.2.2.1; omega) (8 * P) 0 (by omega) rfl
  rw [show rk - (mAr z rk 0).2 = rk from Int32.sub_zero _] at e
  exact e
end SAME
