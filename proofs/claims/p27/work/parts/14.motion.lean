/-! the class's motion: what its methods answer -/
theorem lg0 {x y : Int64} : lg_cmp x y = 0 ↔ x = y := by
  unfold lg_cmp
  by_cases h : x = y
  · subst h
    rw [if_neg (by simp [Int64.lt_iff_toInt_lt]), if_pos rfl]
    exact ⟨fun _ => rfl, fun _ => rfl⟩
  · constructor
    · intro q
      by_cases g : x > y
      · rw [if_pos g] at q; exact absurd q (by decide)
      · rw [if_neg g, if_neg h] at q; exact absurd q (by decide)
    · intro q; exact (h q).elim
theorem lsw2 {a b o1 o2 df k : Int} (ha : ¬ a = k) (hb : ¬ b = k) : Op.lookupswitch.offset [(a, o1), (b, o2)] df k = df := by
  rw [Op.lookupswitch.offset_cons, if_neg ha, Op.lookupswitch.offset_cons, if_neg hb]
  rfl
theorem tI_ne {x y : Int32} (h : ¬ x = y) : ¬ y.toInt = x.toInt := fun q => h (Int32.toInt_inj.mp q.symm)
def shl (x : Int64) (k : Int32) : Int64 := x <<< (k.toInt64 &&& 63)
def shr (x : Int64) (k : Int32) : Int64 := (x.toUInt64 >>> (k.toInt64.toUInt64 &&& Int64.toUInt64 63)).toInt64
def aT (x : Int64) : Int64 := (shl (x &&& 16557351571215 &&& (-150119987579017)) 1 ||| shr (x &&& 16557351571215 &&& 150119987579016) 3) ||| (shr (x &&& 264917625139440 &&& (-18764998447378)) 1 ||| shl (x &&& 264917625139440 &&& 18764998447377) 3)
def nx (x : Int64) (hn : Int32) : Int64 := (shl x 6 ||| shr x (4 * hn - 6)) &&& (shl 1 (4 * hn) - 1)
def bk (x : Int64) (hn : Int32) : Int64 := (shr x 6 ||| shl x (4 * hn - 6)) &&& (shl 1 (4 * hn) - 1)
def aP (x : Int64) (hn : Int32) : Int64 := (x &&& (-93824992236886) ||| nx (x &&& 18764998447377) hn) ||| bk (x &&& 75059993789508) hn
def mts (x : Int64) (hn : Int32) : Int64 := x &&& 18764998447377 &&& bk (x &&& 75059993789508) hn
def bSt (x : Int64) (hn : Int32) : Int64 := if mts (aT x) hn = 0 then aP (aT x) hn else -1
def pF (hn p : Int32) : Int32 := if rm p 4 = 0 then (if 4 * hn ≤ p + 6 then p + 6 - 4 * hn else p + 6) else if rm p 4 = 2 then (if p < 6 then p - 6 + 4 * hn else p - 6) else p
def guF (p : Int32) : Bool := decide (rm p 4 = 2) || decide (rm p 4 = (if rm (p / 4) 2 = 0 then 3 else 1))
def fM (x : Int64) (hn : Int32) : Nat → Nat → Int64 → Int32
  | 0, _, _ => -6
  | r + 1, k, now => if bSt now hn = -1 then nI k else if bSt now hn = x then -6 else fM x hn r (k + 1) (bSt now hn)
def fR (x : Int64) (hn : Int32) : Nat → Nat → Int64 → Int32
  | 0, _, _ => -6
  | r + 1, k, now => if bSt now hn = -1 then -6 else if bSt now hn = x then nI k else fR x hn r (k + 1) (bSt now hn)
def bIt (hn : Int32) : Nat → Int64 → Int64 | 0, x => x | k + 1, x => bIt hn k (bSt x hn)
def mcF (met : Int64) : Nat → Nat → Int32 | 0, _ => -6 | r + 1, c => if shr met (4 * nI c) &&& 1 = 0 then mcF met r (c + 1) else nI c
def fitsF (x : Int64) (hn p : Int32) : Bool := decide (x &&& (shl 1 p ||| shl 1 (pF hn p)) = 0)
section CLASS1
variable (d n : Nat) (g h : xHp)
theorem m_turned (p : Int32) : Rn d 3 0 [(0, .int p)] [] h n (some (.int (t32 p))) h n := by
  refine Rn.br 8 rfl (fun hc7 => ?_) (fun hc7 => ?_)
  · refine Rn.steps 12 rfl ?_
    exact Rn.retE rfl rfl rfl (by unfold t32; rw [show rm (p / 4) 2 = p / 4 - p / 4 / 2 * 2 from rfl]; first | (rw [if_pos hc7]; rfl) | (rw [if_neg hc7]; rfl)) rfl
  · refine Rn.steps 11 rfl ?_
    exact Rn.retE rfl rfl rfl (by unfold t32; rw [show rm (p / 4) 2 = p / 4 - p / 4 / 2 * 2 from rfl]; first | (rw [if_pos hc7]; rfl) | (rw [if_neg hc7]; rfl)) rfl
theorem m_passed (p hn : Int32) : Rn d 4 0 [(0, .int p), (1, .int hn)] [] h n (some (.int (pF hn p))) h n := by
  by_cases q0 : rm p 4 = 0
  · refine Rn.steps 7 rfl ?_
    refine Rn.lsw rfl rfl (off := 25) (by show Op.lookupswitch.offset _ _ (rm p 4).toInt = _; rw [q0]; rfl) 32 rfl ?_
    refine Rn.br 5 rfl (fun hc37 => ?_) (fun hc37 => ?_)
    · refine Rn.steps 5 rfl ?_
      exact Rn.retE rfl rfl rfl (by unfold pF; rw [if_pos q0]; first | (rw [if_pos hc37]) | (rw [if_neg hc37])) rfl
    · refine Rn.steps 4 rfl ?_
      exact Rn.retE rfl rfl rfl (by unfold pF; rw [if_pos q0]; first | (rw [if_pos hc37]) | (rw [if_neg hc37])) rfl
  · by_cases q2 : rm p 4 = 2
    · refine Rn.steps 7 rfl ?_
      refine Rn.lsw rfl rfl (off := 47) (by show Op.lookupswitch.offset _ _ (rm p 4).toInt = _; rw [q2]; rfl) 54 rfl ?_
      refine Rn.br 3 rfl (fun hc57 => ?_) (fun hc57 => ?_)
      · refine Rn.steps 5 rfl ?_
        exact Rn.retE rfl rfl rfl (by unfold pF; rw [if_neg q0, if_pos q2]; first | (rw [if_pos hc57]) | (rw [if_neg hc57])) rfl
      · refine Rn.steps 4 rfl ?_
        exact Rn.retE rfl rfl rfl (by unfold pF; rw [if_neg q0, if_pos q2]; first | (rw [if_pos hc57]) | (rw [if_neg hc57])) rfl
    · refine Rn.steps 7 rfl ?_
      refine Rn.lsw rfl rfl (off := 67) (lsw2 (tI_ne (y := 0) q0) (tI_ne (y := 2) q2)) 74 rfl ?_
      refine Rn.steps 1 rfl ?_
      exact Rn.retE rfl rfl rfl (by unfold pF; rw [if_neg q0, if_neg q2]) rfl
theorem m_goesUp (p : Int32) : Rn d 6 0 [(0, .int p)] [] h n (some (.int (bi (guF p)))) h n := by
  by_cases q0 : rm (p / 4) 2 = 0
  · refine Rn.br 10 rfl (fun hc9 => ?_) (fun hc9 => ?_)
    · refine Rn.br 6 rfl (fun hc20 => ?_) (fun hc20 => ?_)
      · refine Rn.steps 2 rfl ?_
        exact Rn.retE rfl rfl rfl (by unfold guF; rw [decide_eq_true (show rm p 4 = 2 from hc20)]; try rfl) rfl
      · refine Rn.br 6 rfl (fun hc33 => ?_) (fun hc33 => ?_)
        · refine Rn.steps 2 rfl ?_
          exact Rn.retE rfl rfl rfl (by unfold guF; rw [if_pos q0, decide_eq_true (show rm p 4 = 3 from hc33), Bool.or_true]; rfl) rfl
        · refine Rn.steps 1 rfl ?_
          exact Rn.retE rfl rfl rfl (by unfold guF; rw [if_pos q0, decide_eq_false (show ¬ rm p 4 = 3 from hc33), decide_eq_false (show ¬ rm p 4 = 2 from hc20)]; rfl) rfl
    · exact (hc9 q0).elim
  · refine Rn.br 10 rfl (fun hc9 => ?_) (fun hc9 => ?_)
    · exact (q0 hc9).elim
    · refine Rn.br 5 rfl (fun hc20 => ?_) (fun hc20 => ?_)
      · refine Rn.steps 2 rfl ?_
        exact Rn.retE rfl rfl rfl (by unfold guF; rw [decide_eq_true (show rm p 4 = 2 from hc20)]; try rfl) rfl
      · refine Rn.br 5 rfl (fun hc33 => ?_) (fun hc33 => ?_)
        · refine Rn.steps 2 rfl ?_
          exact Rn.retE rfl rfl rfl (by unfold guF; rw [if_neg q0, decide_eq_true (show rm p 4 = 1 from hc33), Bool.or_true]; rfl) rfl
        · refine Rn.steps 1 rfl ?_
          exact Rn.retE rfl rfl rfl (by unfold guF; rw [if_neg q0, decide_eq_false (show ¬ rm p 4 = 1 from hc33), decide_eq_false (show ¬ rm p 4 = 2 from hc20)]; rfl) rfl
theorem m_allTurned (x : Int64) : Rn d 8 0 [(0, .long x)] [] h n (some (.long (aT x))) h n := by
  refine Rn.steps 35 rfl ?_
  exact Rn.retE rfl rfl rfl rfl rfl
theorem m_nx (x : Int64) (hn : Int32) : Rn d 9 0 [(0, .long x), (2, .int hn)] [] h n (some (.long (nx x hn))) h n := by
  refine Rn.steps 19 rfl ?_
  exact Rn.retE rfl rfl rfl rfl rfl
theorem m_bk (x : Int64) (hn : Int32) : Rn d 10 0 [(0, .long x), (2, .int hn)] [] h n (some (.long (bk x hn))) h n := by
  refine Rn.steps 19 rfl ?_
  exact Rn.retE rfl rfl rfl rfl rfl
theorem m_allPassed (x : Int64) (hn : Int32) : Rn (d + 1) 11 0 [(0, .long x), (2, .int hn)] [] h n (some (.long (aP x hn))) h n := by
  refine Rn.steps 7 rfl ?_
  refine Rn.call rfl rfl rfl (m_nx d n _ _ _) ?_
  refine Rn.steps 5 rfl ?_
  refine Rn.call rfl rfl rfl (m_bk d n _ _ _) ?_
  refine Rn.steps 1 rfl ?_
  exact Rn.retE rfl rfl rfl rfl rfl
theorem m_meetings (x : Int64) (hn : Int32) : Rn (d + 1) 12 0 [(0, .long x), (2, .int hn)] [] h n (some (.long (mts x hn))) h n := by
  refine Rn.steps 7 rfl ?_
  refine Rn.call rfl rfl rfl (m_bk d n _ _ _) ?_
  refine Rn.steps 1 rfl ?_
  exact Rn.retE rfl rfl rfl rfl rfl
theorem m_step (x : Int64) (hn : Int32) : Rn (d + 2) 13 0 [(0, .long x), (2, .int hn)] [] h n (some (.long (bSt x hn))) h n := by
  refine Rn.steps 1 rfl ?_
  refine Rn.call rfl rfl rfl (m_allTurned (d + 1) n _ _) ?_
  refine Rn.steps 3 rfl ?_
  refine Rn.call rfl rfl rfl (m_meetings d n _ _ _) ?_
  refine Rn.br 3 rfl (fun hc12 => ?_) (fun hc12 => ?_)
  · refine Rn.steps 2 rfl ?_
    refine Rn.call rfl rfl rfl (m_allPassed d n _ _ _) ?_
    exact Rn.retE rfl rfl rfl (by unfold bSt; first | (rw [if_pos (lg0.mp hc12)]) | (rw [if_neg (fun q => hc12 (lg0.mpr q))])) rfl
  · refine Rn.steps 2 rfl ?_
    exact Rn.retE rfl rfl rfl (by unfold bSt; first | (rw [if_pos (lg0.mp hc12)]) | (rw [if_neg (fun q => hc12 (lg0.mpr q))])) rfl
theorem m_fM (x : Int64) (hn : Int32) (L : Nat) (hL : L ≤ 2000) : Rn (d + 3) 14 0 [(0, .long x), (2, .int hn), (3, .int (nI L))] [] h n (some (.int (fM x hn L 1 x))) h n := by
  have key : ∀ r k now, k + r = L + 1 → Rn (d + 3) 14 6 [(0, .long x), (2, .int hn), (3, .int (nI L)), (4, .long now), (6, .int (nI k))] [] h n (some (.int (fM x hn r k now))) h n := by
    intro r
    induction r with
    | zero =>
      intro k now hk
      refine Rn.br 3 rfl (fun hc9 => ?_) (fun hc9 => ?_)
      · refine Rn.steps 1 rfl ?_
        exact Rn.retE rfl rfl rfl rfl rfl
      · exact (hc9 (nI_lt (show L < k by omega) (by omega))).elim
    | succ r ih =>
      intro k now hk
      refine Rn.br 3 rfl (fun hc9 => ?_) (fun hc9 => ?_)
      · exact (Int32.not_lt.mpr (nI_le (show k ≤ L by omega) (by omega)) hc9).elim
      · refine Rn.steps 2 rfl ?_
        refine Rn.call rfl rfl rfl (m_step d n _ _ _) ?_
        refine Rn.br 5 rfl (fun hc26 => ?_) (fun hc26 => ?_)
        · rw [show fM x hn (r + 1) k now = nI k by rw [fM, if_pos (lg0.mp hc26)]]
          refine Rn.steps 1 rfl ?_
          exact Rn.retE rfl rfl rfl rfl rfl
        · refine Rn.br 4 rfl (fun hc36 => ?_) (fun hc36 => ?_)
          · rw [show fM x hn (r + 1) k now = -6 by rw [fM, if_neg (fun q => hc26 (lg0.mpr q)), if_pos (lg0.mp hc36)]]
            refine Rn.steps 1 rfl ?_
            exact Rn.retE rfl rfl rfl rfl rfl
          · rw [show fM x hn (r + 1) k now = fM x hn r (k + 1) (bSt now hn) by rw [fM, if_neg (fun q => hc26 (lg0.mpr q)), if_neg (fun q => hc36 (lg0.mpr q))]]
            refine Rn.steps 2 rfl ?_
            exact Rn.l5 (by decide) rfl rfl rfl rfl (by rw [← nI_1]; rfl) (ih (k + 1) _ (by omega))
  refine Rn.steps 4 rfl ?_
  exact Rn.l5 (by decide) rfl rfl rfl rfl rfl (key L 1 x (by omega))
theorem m_fR (x : Int64) (hn : Int32) : Rn (d + 3) 16 0 [(0, .long x), (2, .int hn)] [] h n (some (.int (fR x hn 100 1 x))) h n := by
  have key : ∀ r k now, k + r = 100 + 1 → Rn (d + 3) 16 5 [(0, .long x), (2, .int hn), (3, .long now), (5, .int (nI k))] [] h n (some (.int (fR x hn r k now))) h n := by
    intro r
    induction r with
    | zero =>
      intro k now hk
      refine Rn.br 3 rfl (fun hc9 => ?_) (fun hc9 => ?_)
      · refine Rn.steps 1 rfl ?_
        exact Rn.retE rfl rfl rfl rfl rfl
      · exact (hc9 (nI_lt (show 100 < k by omega) (by omega))).elim
    | succ r ih =>
      intro k now hk
      refine Rn.br 3 rfl (fun hc9 => ?_) (fun hc9 => ?_)
      · exact (Int32.not_lt.mpr (nI_le (show k ≤ 100 by omega) (by omega)) hc9).elim
      · refine Rn.steps 2 rfl ?_
        refine Rn.call rfl rfl rfl (m_step d n _ _ _) ?_
        refine Rn.br 5 rfl (fun hc23 => ?_) (fun hc23 => ?_)
        · rw [show fR x hn (r + 1) k now = -6 by rw [fR, if_pos (lg0.mp hc23)]]
          refine Rn.steps 1 rfl ?_
          exact Rn.retE rfl rfl rfl rfl rfl
        · refine Rn.br 4 rfl (fun hc32 => ?_) (fun hc32 => ?_)
          · rw [show fR x hn (r + 1) k now = nI k by rw [fR, if_neg (fun q => hc23 (lg0.mpr q)), if_pos (lg0.mp hc32)]]
            refine Rn.steps 1 rfl ?_
            exact Rn.retE rfl rfl rfl rfl rfl
          · rw [show fR x hn (r + 1) k now = fR x hn r (k + 1) (bSt now hn) by rw [fR, if_neg (fun q => hc23 (lg0.mpr q)), if_neg (fun q => hc32 (lg0.mpr q))]]
            refine Rn.steps 2 rfl ?_
            exact Rn.l4 (by decide) rfl rfl rfl (by rw [← nI_1]; rfl) (ih (k + 1) _ (by omega))
  refine Rn.steps 4 rfl ?_
  exact Rn.l4 (by decide) rfl rfl rfl rfl (key 100 1 x (by omega))
theorem m_mC (x : Int64) (H L : Nat) (hH : H ≤ 100) (hL : L ≤ 2000) : Rn (d + 3) 15 0 [(0, .long x), (2, .int (nI H)), (3, .int (nI (L + 1)))] [] h n (some (.int (mcF (mts (aT (bIt (nI H) L x)) (nI H)) H 0))) h n := by
  have key2 : ∀ met r c, c + r = H → Rn (d + 3) 15 40 [(2, .int (nI H)), (6, .long met), (8, .int (nI c))] [] h n (some (.int (mcF met r c))) h n := by
    intro met r
    induction r with
    | zero =>
      intro c hk
      refine Rn.br 3 rfl (fun hc43 => ?_) (fun hc43 => ?_)
      · refine Rn.steps 1 rfl ?_
        exact Rn.retE rfl rfl rfl rfl rfl
      · exact (hc43 (nI_le (show H ≤ c by omega) (by omega))).elim
    | succ r ih =>
      intro c hk
      refine Rn.br 3 rfl (fun hc43 => ?_) (fun hc43 => ?_)
      · exact (nI_ge (show c < H by omega) (by omega) hc43).elim
      · refine Rn.br 10 rfl (fun hc57 => ?_) (fun hc57 => ?_)
        · rw [show mcF met (r + 1) c = mcF met r (c + 1) by rw [mcF, if_pos (show shr met (4 * nI c) &&& 1 = 0 from lg0.mp hc57)]]
          refine Rn.steps 2 rfl ?_
          exact Rn.l3 rfl rfl rfl (by rw [← nI_1]; rfl) (ih (c + 1) (by omega))
        · rw [show mcF met (r + 1) c = nI c by rw [mcF, if_neg (show ¬ shr met (4 * nI c) &&& 1 = 0 from fun q => hc57 (lg0.mpr q))]]
          refine Rn.steps 1 rfl ?_
          exact Rn.retE rfl rfl rfl rfl rfl
  have key : ∀ r k now, k + r = L + 1 → Rn (d + 3) 15 6 [(2, .int (nI H)), (3, .int (nI (L + 1))), (4, .long now), (6, .int (nI k))] [] h n (some (.int (mcF (mts (aT (bIt (nI H) r now)) (nI H)) H 0))) h n := by
    intro r
    induction r with
    | zero =>
      intro k now hk
      refine Rn.br 3 rfl (fun hc9 => ?_) (fun hc9 => ?_)
      · refine Rn.steps 1 rfl ?_
        refine Rn.call rfl rfl rfl (m_allTurned (d + 2) n _ _) ?_
        refine Rn.steps 1 rfl ?_
        refine Rn.call rfl rfl rfl (m_meetings (d + 1) n _ _ _) ?_
        refine Rn.steps 3 rfl ?_
        exact Rn.l3 rfl rfl rfl rfl (key2 _ H 0 (by omega))
      · exact (hc9 (nI_le (show L + 1 ≤ k by omega) (by omega))).elim
    | succ r ih =>
      intro k now hk
      refine Rn.br 3 rfl (fun hc9 => ?_) (fun hc9 => ?_)
      · exact (nI_ge (show k < L + 1 by omega) (by omega) hc9).elim
      · refine Rn.steps 2 rfl ?_
        refine Rn.call rfl rfl rfl (m_step d n _ _ _) ?_
        refine Rn.steps 3 rfl ?_
        exact Rn.l4 (by decide) rfl rfl rfl (by rw [← nI_1 k]; rfl) (ih (k + 1) _ (by omega))
  refine Rn.steps 4 rfl ?_
  exact Rn.l4 (by decide) rfl rfl rfl rfl (key L 1 x (by omega))
theorem m_fits (x : Int64) (hn p : Int32) : Rn (d + 1) 17 0 [(0, .long x), (2, .int hn), (3, .int p)] [] h n (some (.int (bi (fitsF x hn p)))) h n := by
  refine Rn.steps 7 rfl ?_
  refine Rn.call rfl rfl rfl (m_passed d n _ _ _) ?_
  refine Rn.br 6 rfl (fun hc15 => ?_) (fun hc15 => ?_)
  · refine Rn.steps 2 rfl ?_
    exact Rn.retE rfl rfl rfl (by unfold fitsF; first | (rw [decide_eq_true (show x &&& (shl 1 p ||| shl 1 (pF hn p)) = 0 from lg0.mp hc15)]; rfl) | (rw [decide_eq_false (show ¬ x &&& (shl 1 p ||| shl 1 (pF hn p)) = 0 from fun q => hc15 (lg0.mpr q))]; rfl)) rfl
  · refine Rn.steps 1 rfl ?_
    exact Rn.retE rfl rfl rfl (by unfold fitsF; first | (rw [decide_eq_true (show x &&& (shl 1 p ||| shl 1 (pF hn p)) = 0 from lg0.mp hc15)]; rfl) | (rw [decide_eq_false (show ¬ x &&& (shl 1 p ||| shl 1 (pF hn p)) = 0 from fun q => hc15 (lg0.mpr q))]; rfl)) rfl
end CLASS1
