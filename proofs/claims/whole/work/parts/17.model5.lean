/-! the reference: runs, what-if answers, of, count -/
def rz (P : Nat) : Nat → Nat → (Nat → Int32) → Nat × (Nat → Int32) | 0, i, z => (i, z) | r + 1, i, z => if z 9 = 0 then rz P r (i + 1) (upd (stF z) 9 (if r = 0 then 0 else whyF (stF z) P)) else (i, z)
def runZ (P N : Nat) (z : Nat → Int32) : Nat × (Nat → Int32) := rz P N 0 (upd z 9 (whyF z P))
theorem upd_self {f : Nat → Int32} {k : Nat} : upd f k (f k) = f := by
  funext j
  unfold upd
  by_cases hj : j = k
  · rw [if_pos hj, hj]
  · rw [if_neg hj]
theorem stF_0 (z : Nat → Int32) : stF z 0 = z 0 := by
  unfold stF
  rw [upd_ne (by omega), upd_ne (by omega), stZ_lo _ _ _ (by omega)]
theorem xeta {A : Nat → Nat → Int32} {w : Nat → Int32} {g : xHp} : mOn A w g = mOn (mZ A (A 0) (A 5)) (upd w 2 (w 2)) g := by rw [mZ_self, upd_self]
def caF (z : Nat → Int32) (P : Nat) (p : Int32) : Bool := isFr z p && decide (¬ mi z (tpm z 10 + 1) P (upd (plz z) (tpm z 10) p) 100 0 < 100)
def frN (z : Nat → Int32) (P : Nat) : Nat → Int32 | 0 => 0 | c + 1 => frN z P c + bi (caF z P (nI c))
def ffN (z : Nat → Int32) (P : Nat) : Nat → Nat → Nat | 0, c => c | r + 1, c => cond (caF z P (nI c)) c (ffN z P r (c + 1))
/-- period: fuel, steps done: none if two meet or 100 are done -/
def peN (z : Nat → Int32) (m P : Nat) (q : Nat → Int32) : Nat → Nat → Option Nat | 0, _ => none | r + 1, c => if mtz z (pls (2 * z 0) m q c) m P = -6 then cond (mAb z (pls (2 * z 0) m q (c + 1)) m 10) (some (c + 1)) (peN z m P q r (c + 1)) else none
def peR (z : Nat → Int32) (P : Nat) : Int32 := if tpm z 10 = 0 then -5 else match peN z (tpm z 10) P (plz z) 100 0 with | some c => nI c | none => -6
/-- lasts: most, steps done -/
def laN (z : Nat → Int32) (m P : Nat) (q : Nat → Int32) : Nat → Nat → Nat | 0, c => c | r + 1, c => if mtz z (pls (2 * z 0) m q c) m P = -6 then laN z m P q r (c + 1) else c
theorem bi_1 {b : Bool} (h : b = true) : (1 : Int32) = bi b := by rw [h]; rfl
theorem bi_0 {b : Bool} (h : b = false) : (0 : Int32) = bi b := by rw [h]; rfl
section RN6
variable {d i pc : Nat} {ls : xLs} {st : List Value} {h h' : xHp} {n n' : Nat} {v : Option Value}
theorem Rn.swOut {e : xEn} {df lo hi : Int} {offs : Array Int} {x : Int32} {r : List Value} (hf : xfind i pc = some e) (he : e.1 = .tableswitch df lo hi offs) (hx : x.toInt < lo ∨ hi < x.toInt) (tgt : Nat) (ht : (pc : Int) + df = (tgt : Int)) (kk : Rn d i tgt ls r h n v h' n') : Rn d i pc ls (.int x :: r) h n v h' n' := by
  obtain ⟨ins, e2⟩ := e
  dsimp only at he
  subst he
  refine Rn.step1 hf rfl ?_ kk
  show xgp (0 ≤ (pc : Int) + xsw x.toInt df lo hi offs) _ = _
  have e1 : xsw x.toInt df lo hi offs = df := if_pos hx
  rw [e1, ht, xgp_pos (Int.natCast_nonneg tgt)]
  rfl
end RN6
section MODEL5
variable (d n : Nat) (A : Nat → Nat → Int32) (w : Nat → Int32) (g h : xHp)
theorem k_runNow (z a : Nat → Int32) (x : Int32) (P : Nat) (hP : z 0 = nI P) (h2 : 2 ≤ P) (h6 : P ≤ 6) (N : Nat) (hN : N ≤ 99) : ∃ a' x', Rn (d + 4) 120 0 [(0, .ref 139), (1, .int (nI N))] [] (mOn (mZ A z a) (upd w 2 x) g) n (some (.int (nI (runZ P N z).1))) (mOn (mZ A (runZ P N z).2 a') (upd w 2 x') g) n := by
  have key : ∀ z a x, z 0 = nI P → ∃ a' x', Rn (d + 4) 120 13 [(0, .ref 139), (1, .int (nI N)), (2, .int (nI 0))] [] (mOn (mZ A z a) (upd w 2 x) g) n (some (.int (nI (rz P (N - 0) 0 z).1))) (mOn (mZ A (rz P (N - 0) 0 z).2 a') (upd w 2 x') g) n := by
    refine xloop (fun c => ∀ z a x, z 0 = nI P → ∃ a' x', Rn (d + 4) 120 13 [(0, .ref 139), (1, .int (nI N)), (2, .int (nI c))] [] (mOn (mZ A z a) (upd w 2 x) g) n (some (.int (nI (rz P (N - c) c z).1))) (mOn (mZ A (rz P (N - c) c z).2 a') (upd w 2 x') g) n) N ?_ (fun c hc ih => ?_)
    · intro z a x hP
      refine ⟨a, x, ?_⟩
      rw [show rz P (N - N) N z = (N, z) by rw [Nat.sub_self]; rfl]
      refine Rn.br 3 rfl (fun hc15 => ?_) (fun hc15 => ?_)
      · refine Rn.steps 1 rfl ?_
        exact Rn.retE rfl rfl rfl rfl rfl
      · exact (hc15 (nI_le (Nat.le_refl _) (by omega))).elim
    · intro z a x hP
      have hs : N - c = (N - (c + 1)) + 1 := by omega
      by_cases hz : z 9 = 0
      · by_cases hr : c + 1 = N
        · have hrz : rz P (N - c) c z = rz P (N - (c + 1)) (c + 1) (upd (stF z) 9 0) := by rw [hs, rz, if_pos hz, if_pos (by omega)]
          rw [hrz]
          obtain ⟨a', x', g2⟩ := ih (upd (stF z) 9 0) a x (by rw [upd_ne (by omega), stF_0]; exact hP)
          refine ⟨a', x', ?_⟩
          refine Rn.br 3 rfl (fun hc15 => ?_) (fun hc15 => ?_)
          · exact (nI_ge hc (by omega) hc15).elim
          · refine Rn.steps 3 rfl ?_
            refine Rn.ialdN (m := 9) rfl rfl rfl (rfl) (by omega) (Nat.le_of_ble_eq_true rfl) ?_
            refine Rn.br 1 rfl (fun hc25 => ?_) (fun hc25 => ?_)
            · refine Rn.steps 1 rfl ?_
              refine Rn.call rfl rfl rfl (c_step (d + 1) n (mZ A z a) _ g (x2ne hP h2 h6)) ?_
              rw [mZ_up0]
              refine Rn.br 7 rfl (fun hc43 => ?_) (fun hc43 => ?_)
              · refine Rn.steps 1 rfl ?_
                refine Rn.iastN (m := 9) rfl rfl rfl rfl (rfl) (by omega) (Nat.le_of_ble_eq_true rfl) ?_
                rw [mOn_0, mZ_up0]
                refine Rn.steps 1 rfl ?_
                exact Rn.l3 rfl rfl rfl (by rw [← nI_1]; rfl) g2
              · exact (hc43 (by rw [nI_1]; exact nI_le (by omega) (by omega))).elim
            · exact (hc25 hz).elim
        · have hrz : rz P (N - c) c z = rz P (N - (c + 1)) (c + 1) (upd (stF z) 9 (whyF (stF z) P)) := by rw [hs, rz, if_pos hz, if_neg (by omega)]
          rw [hrz]
          obtain ⟨a', x', g2⟩ := ih (upd (stF z) 9 (whyF (stF z) P)) (tpl (stF z) a 10) (nI (tpm (stF z) 10)) (by rw [upd_ne (by omega), stF_0]; exact hP)
          refine ⟨a', x', ?_⟩
          refine Rn.br 3 rfl (fun hc15 => ?_) (fun hc15 => ?_)
          · exact (nI_ge hc (by omega) hc15).elim
          · refine Rn.steps 3 rfl ?_
            refine Rn.ialdN (m := 9) rfl rfl rfl (rfl) (by omega) (Nat.le_of_ble_eq_true rfl) ?_
            refine Rn.br 1 rfl (fun hc25 => ?_) (fun hc25 => ?_)
            · refine Rn.steps 1 rfl ?_
              refine Rn.call rfl rfl rfl (c_step (d + 1) n (mZ A z a) _ g (x2ne hP h2 h6)) ?_
              rw [mZ_up0]
              refine Rn.br 7 rfl (fun hc43 => ?_) (fun hc43 => ?_)
              · exact (nI_ge (a := c + 1) (b := N) (by omega) (by omega) (by rw [← nI_1]; exact hc43)).elim
              · refine Rn.steps 1 rfl ?_
                refine Rn.call rfl rfl rfl (k_why d n A w g (stF z) a x P (by rw [stF_0]; exact hP) h2 h6) ?_
                refine Rn.steps 1 rfl ?_
                refine Rn.iastN (m := 9) rfl rfl rfl rfl (rfl) (by omega) (Nat.le_of_ble_eq_true rfl) ?_
                rw [mOn_0, mZ_up0]
                refine Rn.steps 1 rfl ?_
                exact Rn.l3 rfl rfl rfl (by rw [← nI_1]; rfl) g2
            · exact (hc25 hz).elim
      · have hrz : rz P (N - c) c z = (c, z) := by rw [hs, rz, if_neg hz]
        rw [hrz]
        refine ⟨a, x, ?_⟩
        refine Rn.br 3 rfl (fun hc15 => ?_) (fun hc15 => ?_)
        · exact (nI_ge hc (by omega) hc15).elim
        · refine Rn.steps 3 rfl ?_
          refine Rn.ialdN (m := 9) rfl rfl rfl (rfl) (by omega) (Nat.le_of_ble_eq_true rfl) ?_
          refine Rn.br 1 rfl (fun hc25 => ?_) (fun hc25 => ?_)
          · exact (hz hc25).elim
          · refine Rn.steps 1 rfl ?_
            exact Rn.retE rfl rfl rfl rfl rfl
  obtain ⟨a', x', g2⟩ := key (upd z 9 (whyF z P)) (tpl z a 10) (nI (tpm z 10)) (by rw [upd_ne (by omega)]; exact hP)
  refine ⟨a', x', ?_⟩
  refine Rn.steps 6 rfl ?_
  refine Rn.call rfl rfl rfl (k_why d n A w g z a x P hP h2 h6) ?_
  refine Rn.iastN (m := 9) rfl rfl rfl rfl (rfl) (by omega) (Nat.le_of_ble_eq_true rfl) ?_
  rw [mOn_0, mZ_up0]
  exact Rn.l3 rfl rfl rfl rfl g2
theorem c_run_bad (x : Int32) (hx : wnr (A 0) x < 0) : Rn (d + 5) 121 0 [(0, .ref 139), (1, .int x)] [] (mOn A w g) n (some (.int (wnr (A 0) x))) (mOn A w g) n := by
  refine Rn.steps 2 rfl ?_
  refine Rn.call rfl rfl rfl (c_whyNotRun (d + 3) n A w g x) ?_
  refine Rn.br 3 rfl (fun hc7 => ?_) (fun hc7 => ?_)
  · exact absurd hx (Int32.not_lt.mpr hc7)
  · refine Rn.steps 1 rfl ?_
    exact Rn.retE rfl rfl rfl rfl rfl
theorem c_run (s : Nat) (hs : w 0 = nI s) (hs6 : s ≤ 6) (P : Nat) (hP : A 0 0 = nI P) (h2 : 2 ≤ P) (h6 : P ≤ 6) (N : Nat) (hN : N ≤ 99) (hx : ¬ wnr (A 0) (nI N) < 0) : ∃ a' x', Rn (d + 5) 121 0 [(0, .ref 139), (1, .int (nI N))] [] (mOn A w g) n (some (.int (nI (runZ P N (A 0)).1))) (mOn (mZ (rA A s) (runZ P N (A 0)).2 a') (upd (rW w s) 2 x') g) n := by
  obtain ⟨a', x', g2⟩ := k_runNow d n (rA A s) (rW w s) g (A 0) (A 5) (rW w s 2) P hP h2 h6 N hN
  refine ⟨a', x', ?_⟩
  refine Rn.steps 2 rfl ?_
  refine Rn.call rfl rfl rfl (c_whyNotRun (d + 3) n A w g (nI N)) ?_
  refine Rn.br 3 rfl (fun hc7 => ?_) (fun hc7 => ?_)
  · refine Rn.steps 1 rfl ?_
    refine Rn.call rfl rfl rfl (c_record (d + 3) n A w g s hs hs6) ?_
    refine Rn.heap (xeta (A := rA A s) (w := rW w s)) ?_
    refine Rn.steps 2 rfl ?_
    refine Rn.call rfl rfl rfl g2 ?_
    exact Rn.retE rfl rfl rfl rfl rfl
  · exact absurd (Int32.not_le.mp hc7) hx
theorem k_canAdd (z a : Nat → Int32) (x : Int32) (P : Nat) (hP : z 0 = nI P) (h2 : 2 ≤ P) (h6 : P ≤ 6) (p : Int32) : ∃ a' x', Rn (d + 4) 136 0 [(0, .ref 139), (1, .int p)] [] (mOn (mZ A z a) (upd w 2 x) g) n (some (.int (bi (caF z P p)))) (mOn (mZ A z a') (upd w 2 x') g) n := by
  have hm := tpm_le z 10
  cases hfr : isFr z p with
  | false =>
    refine ⟨a, x, ?_⟩
    refine Rn.steps 2 rfl ?_
    refine Rn.call rfl rfl rfl (c_isFree d n (mZ A z a) (upd w 2 x) g (x2ne hP h2 h6) p) ?_
    refine Rn.br 1 rfl (fun hc5 => ?_) (fun hc5 => ?_)
    · refine Rn.steps 1 rfl ?_
      exact Rn.retE rfl rfl rfl (by unfold caF; rw [hfr]; rfl) rfl
    · exact absurd (bi_ne0 hc5) (by rw [show isFr (mZ A z a 0) p = false from hfr]; decide)
  | true =>
    obtain ⟨a', g1, g2⟩ := k_meetsIn d n A w g z (upd (plz z) (tpm z 10) p) (tpm z 10 + 1) P hP h2 h6 (by omega) (upd (tpl z a 10) (tpm z 10) p) (by
      intro k hk
      unfold upd
      by_cases hk2 : k = tpm z 10
      · rw [if_pos hk2, if_pos hk2]
      · rw [if_neg hk2, if_neg hk2]; exact Ag.tp z a _ 10 k (by omega))
    refine ⟨a', nI (tpm z 10 + 1), ?_⟩
    refine Rn.steps 2 rfl ?_
    refine Rn.call rfl rfl rfl (c_isFree d n (mZ A z a) (upd w 2 x) g (x2ne hP h2 h6) p) ?_
    refine Rn.br 1 rfl (fun hc5 => ?_) (fun hc5 => ?_)
    · exact absurd (bi_eq0 hc5) (by rw [show isFr (mZ A z a 0) p = true from hfr]; decide)
    · refine Rn.steps 1 rfl ?_
      refine Rn.call rfl rfl rfl (k_take (d + 1) n A w g z a x) ?_
      refine Rn.steps 5 rfl ?_
      refine Rn.iastN (m := tpm z 10) rfl rfl rfl rfl (rfl) (by omega) (Nat.le_of_ble_eq_true rfl) ?_
      rw [mOn_5, mZ_up5]
      refine Rn.steps 5 rfl ?_
      refine Rn.stk (st2 := [.int (nI (tpm z 10 + 1)), .ref 139]) (by rw [← nI_1]; rfl) ?_
      refine Rn.steps 1 rfl ?_
      refine Rn.heap (mOn_w2 (x := nI (tpm z 10 + 1))) ?_
      rw [upd_upd]
      refine Rn.steps 1 rfl ?_
      refine Rn.call rfl rfl rfl g2 ?_
      refine Rn.br 2 rfl (fun hc40 => ?_) (fun hc40 => ?_)
      · have e1 : ¬ mi z (tpm z 10 + 1) P (upd (plz z) (tpm z 10) p) 100 0 < 100 := fun q => by
          have q2 : miR z (tpm z 10 + 1) P (upd (plz z) (tpm z 10) p) = -6 := hc40
          unfold miR at q2
          rw [if_pos q] at q2
          exact nI_pos (n := mi z (tpm z 10 + 1) P (upd (plz z) (tpm z 10) p) 100 0 + 1) (by omega) (by rw [q2]; decide)
        have e2 : caF z P p = true := by unfold caF; rw [hfr, decide_eq_true e1]; rfl
        refine Rn.steps 2 rfl ?_
        exact Rn.retE rfl rfl rfl (by rw [e2]; rfl) rfl
      · have e1 : mi z (tpm z 10 + 1) P (upd (plz z) (tpm z 10) p) 100 0 < 100 := by
          rcases Nat.lt_or_ge (mi z (tpm z 10 + 1) P (upd (plz z) (tpm z 10) p) 100 0) 100 with q | q
          · exact q
          · exact (hc40 (if_neg (by omega))).elim
        have e2 : caF z P p = false := by unfold caF; rw [hfr, decide_eq_false (fun q => q e1)]; rfl
        refine Rn.steps 1 rfl ?_
        exact Rn.retE rfl rfl rfl (by rw [e2]; rfl) rfl
theorem k_free (z a : Nat → Int32) (x : Int32) (P : Nat) (hP : z 0 = nI P) (h2 : 2 ≤ P) (h6 : P ≤ 6) : ∃ a' x', Rn (d + 5) 137 0 [(0, .ref 139)] [] (mOn (mZ A z a) (upd w 2 x) g) n (some (.int (frN z P (8 * P)))) (mOn (mZ A z a') (upd w 2 x') g) n := by
  have key : ∀ a x, ∃ a' x', Rn (d + 5) 137 4 [(0, .ref 139), (1, .int (frN z P 0)), (2, .int (nI 0))] [] (mOn (mZ A z a) (upd w 2 x) g) n (some (.int (frN z P (8 * P)))) (mOn (mZ A z a') (upd w 2 x') g) n := by
    refine xloop (fun c => ∀ a x, ∃ a' x', Rn (d + 5) 137 4 [(0, .ref 139), (1, .int (frN z P c)), (2, .int (nI c))] [] (mOn (mZ A z a) (upd w 2 x) g) n (some (.int (frN z P (8 * P)))) (mOn (mZ A z a') (upd w 2 x') g) n) (8 * P) ?_ (fun c hc ih => ?_)
    · intro a x
      refine ⟨a, x, ?_⟩
      refine Rn.steps 3 rfl ?_
      refine Rn.call rfl rfl rfl (c_horns (d + 4) n (mZ A z a) (upd w 2 x) g) ?_
      refine Rn.br 2 rfl (fun hc11 => ?_) (fun hc11 => ?_)
      · refine Rn.steps 1 rfl ?_
        exact Rn.retE rfl rfl rfl rfl rfl
      · exact (hc11 (by show 4 * (2 * z 0) ≤ _; rw [hP, x8P]; exact nI_le (Nat.le_refl _) (by omega))).elim
    · intro a x
      obtain ⟨a1, x1, g1⟩ := k_canAdd d n A w g z a x P hP h2 h6 (nI c)
      obtain ⟨a', x', g2⟩ := ih a1 x1
      refine ⟨a', x', ?_⟩
      refine Rn.steps 3 rfl ?_
      refine Rn.call rfl rfl rfl (c_horns (d + 4) n (mZ A z a) (upd w 2 x) g) ?_
      refine Rn.br 2 rfl (fun hc11 => ?_) (fun hc11 => ?_)
      · exact (nI_ge hc (by omega) (by have q : 4 * (2 * z 0) ≤ nI c := hc11; rw [hP, x8P] at q; exact q)).elim
      · refine Rn.steps 3 rfl ?_
        refine Rn.call rfl rfl rfl g1 ?_
        refine Rn.br 1 rfl (fun hc20 => ?_) (fun hc20 => ?_)
        · have hz := bi_eq0 hc20
          refine Rn.steps 5 rfl ?_
          exact Rn.l3 rfl rfl (by rw [frN, hz]; rfl) (by rw [← nI_1]; rfl) g2
        · have hz := bi_ne0 hc20
          refine Rn.steps 6 rfl ?_
          exact Rn.l3 rfl rfl (by rw [frN, hz]; rfl) (by rw [← nI_1]; rfl) g2
  obtain ⟨a', x', g2⟩ := key a x
  exact ⟨a', x', Rn.steps 4 rfl (Rn.l3 rfl rfl rfl rfl g2)⟩
theorem k_firstFree (z a : Nat → Int32) (x : Int32) (P : Nat) (hP : z 0 = nI P) (h2 : 2 ≤ P) (h6 : P ≤ 6) : ∃ a' x', Rn (d + 5) 138 0 [(0, .ref 139)] [] (mOn (mZ A z a) (upd w 2 x) g) n (some (.int (if ffN z P (8 * P) 0 < 8 * P then nI (ffN z P (8 * P) 0) else -6))) (mOn (mZ A z a') (upd w 2 x') g) n := by
  have key : ∀ a x, ∃ a' x', Rn (d + 5) 138 2 [(0, .ref 139), (1, .int (nI 0))] [] (mOn (mZ A z a) (upd w 2 x) g) n (some (.int (if ffN z P (8 * P - 0) 0 < 8 * P then nI (ffN z P (8 * P - 0) 0) else -6))) (mOn (mZ A z a') (upd w 2 x') g) n := by
    refine xloop (fun c => ∀ a x, ∃ a' x', Rn (d + 5) 138 2 [(0, .ref 139), (1, .int (nI c))] [] (mOn (mZ A z a) (upd w 2 x) g) n (some (.int (if ffN z P (8 * P - c) c < 8 * P then nI (ffN z P (8 * P - c) c) else -6))) (mOn (mZ A z a') (upd w 2 x') g) n) (8 * P) ?_ (fun c hc ih => ?_)
    · intro a x
      refine ⟨a, x, ?_⟩
      rw [show ffN z P (8 * P - 8 * P) (8 * P) = 8 * P by rw [Nat.sub_self]; rfl, if_neg (Nat.lt_irrefl _)]
      refine Rn.steps 3 rfl ?_
      refine Rn.call rfl rfl rfl (c_horns (d + 4) n (mZ A z a) (upd w 2 x) g) ?_
      refine Rn.br 2 rfl (fun hc9 => ?_) (fun hc9 => ?_)
      · refine Rn.steps 3 rfl ?_
        refine Rn.call rfl rfl rfl (c_horns (d + 4) n (mZ A z a) (upd w 2 x) g) ?_
        refine Rn.br 2 rfl (fun hc33 => ?_) (fun hc33 => ?_)
        · refine Rn.steps 1 rfl ?_
          exact Rn.retE rfl rfl rfl rfl rfl
        · exact (hc33 (by show 4 * (2 * z 0) ≤ _; rw [hP, x8P]; exact nI_le (Nat.le_refl _) (by omega))).elim
      · exact (hc9 (by show 4 * (2 * z 0) ≤ _; rw [hP, x8P]; exact nI_le (Nat.le_refl _) (by omega))).elim
    · intro a x
      obtain ⟨a1, x1, g1⟩ := k_canAdd d n A w g z a x P hP h2 h6 (nI c)
      have hs : 8 * P - c = (8 * P - (c + 1)) + 1 := by omega
      cases hz : caF z P (nI c) with
      | false =>
        obtain ⟨a', x', g2⟩ := ih a1 x1
        refine ⟨a', x', ?_⟩
        rw [show ffN z P (8 * P - c) c = ffN z P (8 * P - (c + 1)) (c + 1) by rw [hs, ffN, hz]; rfl]
        refine Rn.steps 3 rfl ?_
        refine Rn.call rfl rfl rfl (c_horns (d + 4) n (mZ A z a) (upd w 2 x) g) ?_
        refine Rn.br 2 rfl (fun hc9 => ?_) (fun hc9 => ?_)
        · exact (nI_ge hc (by omega) (by have q : 4 * (2 * z 0) ≤ nI c := hc9; rw [hP, x8P] at q; exact q)).elim
        · refine Rn.steps 2 rfl ?_
          refine Rn.call rfl rfl rfl g1 ?_
          refine Rn.br 1 rfl (fun hc17 => ?_) (fun hc17 => ?_)
          · refine Rn.steps 2 rfl ?_
            exact Rn.l2 rfl rfl (by rw [← nI_1]; rfl) g2
          · exact absurd (bi_ne0 hc17) (by rw [hz]; decide)
      | true =>
        refine ⟨a1, x1, ?_⟩
        rw [show ffN z P (8 * P - c) c = c by rw [hs, ffN, hz]; rfl, if_pos hc]
        refine Rn.steps 3 rfl ?_
        refine Rn.call rfl rfl rfl (c_horns (d + 4) n (mZ A z a) (upd w 2 x) g) ?_
        refine Rn.br 2 rfl (fun hc9 => ?_) (fun hc9 => ?_)
        · exact (nI_ge hc (by omega) (by have q : 4 * (2 * z 0) ≤ nI c := hc9; rw [hP, x8P] at q; exact q)).elim
        · refine Rn.steps 2 rfl ?_
          refine Rn.call rfl rfl rfl g1 ?_
          refine Rn.br 1 rfl (fun hc17 => ?_) (fun hc17 => ?_)
          · exact absurd (bi_eq0 hc17) (by rw [hz]; decide)
          · refine Rn.steps 3 rfl ?_
            refine Rn.call rfl rfl rfl (c_horns (d + 4) n (mZ A z a1) (upd w 2 x1) g) ?_
            refine Rn.br 2 rfl (fun hc33 => ?_) (fun hc33 => ?_)
            · exact (nI_ge hc (by omega) (by have q : 4 * (2 * z 0) ≤ nI c := hc33; rw [hP, x8P] at q; exact q)).elim
            · refine Rn.steps 2 rfl ?_
              exact Rn.retE rfl rfl rfl rfl rfl
  obtain ⟨a', x', g2⟩ := key a x
  exact ⟨a', x', Rn.steps 2 rfl (Rn.l2 rfl rfl rfl g2)⟩
end MODEL5
