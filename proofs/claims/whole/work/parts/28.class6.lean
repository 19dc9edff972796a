/-! the class's pad -/
def pOn (p : Nat → Int32) (ln : Int32) (g : xHp) : xHp := fun k => cond (Nat.beq k 137) (.inr (1, [.ref 138, .int ln])) (cond (Nat.beq k 138) (.inl (2, 80, .inl p)) (g k))
theorem pOn_w {p : Nat → Int32} {ln x : Int32} {g : xHp} : xup (pOn p ln g) 137 (.inr (1, [.ref 138, .int x])) = pOn p x g := by
  funext k
  by_cases hk : k = 137
  · subst hk; rfl
  · unfold xup
    rw [if_neg hk]
    have hb : Nat.beq k 137 = false := xbeq_no hk
    unfold pOn
    rw [hb]
    rfl
theorem pOn_p {p f f' : Nat → Int32} {ln : Int32} {g : xHp} (hf : f = f') : xup (pOn p ln g) 138 (.inl (2, 80, .inl f)) = pOn f' ln g := by
  subst hf
  funext k
  by_cases hk : k = 138
  · subst hk; rfl
  · unfold xup
    rw [if_neg hk]
    have hb : Nat.beq k 138 = false := xbeq_no hk
    unfold pOn
    rw [hb]
    rfl
def codn (x : Int64) : Nat := (x &&& 255).toBitVec.toNat
theorem codn_lt (x : Int64) : codn x < 256 := by
  show (x.toBitVec &&& 255#64).toNat < 256
  rw [BitVec.toNat_and]
  exact Nat.lt_of_le_of_lt Nat.and_le_right (by decide)
theorem codn_l (x : Int64) : x &&& 255 = Int64.ofNat (codn x) := by
  apply Int64.toBitVec_inj.mp
  show (x &&& 255).toBitVec = BitVec.ofNat 64 ((x &&& 255).toBitVec.toNat)
  rw [BitVec.ofNat_toNat, BitVec.setWidth_eq]
def codB (v : Nat) : Bool := decide ((Int64.ofNat v).toInt32 = nI v) && (decide (lg_cmp (Int64.ofNat v) 33 < 0 ↔ v < 33) && (decide (lg_cmp (Int64.ofNat v) 126 ≤ 0 ↔ v ≤ 126) && (decide (vp_nar .char ((Int64.ofNat v).toInt32.toUInt32 % 65536).toInt32 = nI v) && decide (33 ≤ nI v ∧ nI v ≤ 126 ↔ 33 ≤ v ∧ v ≤ 126))))
theorem cod_all : ((List.range 256).all codB) = true := by decide +kernel
theorem cod (x : Int64) : (x &&& 255).toInt32 = nI (codn x) ∧ (lg_cmp (x &&& 255) 33 < 0 ↔ codn x < 33) ∧ (lg_cmp (x &&& 255) 126 ≤ 0 ↔ codn x ≤ 126) ∧ vp_nar .char ((x &&& 255).toInt32.toUInt32 % 65536).toInt32 = nI (codn x) ∧ (33 ≤ nI (codn x) ∧ nI (codn x) ≤ 126 ↔ 33 ≤ codn x ∧ codn x ≤ 126) := by
  have h := List.all_eq_true.mp cod_all (codn x) (List.mem_range.mpr (codn_lt x))
  unfold codB at h
  simp only [Bool.and_eq_true, decide_eq_true_eq] at h
  rw [codn_l x]
  exact h
theorem cod_in (x : Int64) : decide (33 ≤ (x &&& 255).toInt32 ∧ (x &&& 255).toInt32 ≤ 126) = decide (33 ≤ codn x ∧ codn x ≤ 126) := by
  rw [(cod x).1]
  exact decide_eq_decide.mpr (cod x).2.2.2.2
def ccF : Nat → Int64 → Nat → Option Nat
  | 0, _, f => some f
  | r + 1, x, f => if x = 0 then some f else if 33 ≤ codn x ∧ codn x ≤ 126 then ccF r (shr x 8) (f + 1) else none
theorem ccF_le : ∀ r x f m, ccF r x f = some m → f ≤ m ∧ m ≤ f + r := by
  intro r
  induction r with
  | zero => intro x f m h; have := Option.some.inj h; omega
  | succ r ih =>
    intro x f m h
    unfold ccF at h
    split at h
    · have := Option.some.inj h; omega
    · split at h
      · have := ih _ _ _ h; omega
      · cases h
def wrP (c : Int64) : Nat → (Nat → Int32) → Nat → Nat → Int32
  | 0, p, _ => p
  | k + 1, p, t => wrP c k (upd p t (nI (codn (shr c (8 * nI k))))) (t + 1)
def Pc (p : Nat → Int32) : Prop := ∀ j, ∃ v, v < 256 ∧ p j = nI v
theorem wrP_c (c : Int64) : ∀ k p t, Pc p → Pc (wrP c k p t) := by
  intro k
  induction k with
  | zero => intro p t h; exact h
  | succ k ih =>
    intro p t h
    refine ih _ _ (fun j => ?_)
    by_cases hj : j = t
    · subst hj; exact ⟨_, codn_lt _, upd_eq⟩
    · rw [upd_ne hj]; exact h j
def dg (s : Int32) : Bool := decide (48 ≤ s ∧ s ≤ 57)
def dbN : Nat → Int32 → Option Nat
  | 0, s => if s = 99 then some 1 else if s = 114 then some 4 else if s = 120 ∨ s = 98 ∨ s = 107 ∨ s = 102 then some 6 else none
  | 1, s => cond (dg s) (if s = 48 then some 3 else some 2) none
  | 2, s => cond (dg s) (some 3) (if s = 46 then some 6 else none)
  | 3, s => if s = 46 then some 6 else none
  | 4, s => cond (dg s) (if s = 48 then some 7 else some 5) none
  | 5, s => cond (dg s) (some 7) (if s = 59 then some 0 else none)
  | 6, s => cond (dg s) (some 7) none
  | _, s => if s = 59 then some 0 else none
def dbI (q : Option Nat) : Int32 := match q with | some k => nI k | none => -1
theorem dbN_le {due k : Nat} {s : Int32} (h : dbN due s = some k) : k ≤ 7 := by
  have g : ∀ q, dbN due s = q → q = none ∨ q = some 0 ∨ q = some 1 ∨ q = some 2 ∨ q = some 3 ∨ q = some 4 ∨ q = some 5 ∨ q = some 6 ∨ q = some 7 := by
    intro q hq
    subst hq
    unfold dbN
    split <;> (repeat' (first | split | (cases dg s <;> simp only [cond]))) <;> simp
  rcases g _ h with e | e | e | e | e | e | e | e | e <;> first | (cases e; done) | (have := Option.some.inj e; omega)
def faF (p : Nat → Int32) (ty : Nat) : Nat → Nat → Nat → Int32
  | 0, due, _ => if due = 7 ∨ due = 5 then -6 else nI ty
  | r + 1, due, i => match dbN due (p i) with | none => nI i | some k => faF p ty r k (i + 1)
def sg (p : Nat → Int32) (ty i : Nat) : Int32 := if i < ty then p i else 0
def bdF (p : Nat → Int32) : Nat → Nat → Nat | 0, i => i | r + 1, i => cond (dg (p i)) (bdF p r (i + 1)) i
def nmF (p : Nat → Int32) : Nat → Nat → Int32 → Int32 | 0, _, a => a | k + 1, i, a => nmF p k (i + 1) (10 * a + p i - 48)
def noF (p : Nat → Int32) : Nat → Nat → Nat | 0, i => i + 1 | r + 1, i => if p i = 59 then i + 1 else noF p r (i + 1)
theorem bdF_le (p : Nat → Int32) : ∀ r i, i ≤ bdF p r i ∧ bdF p r i ≤ i + r := by
  intro r
  induction r with
  | zero => intro i; exact ⟨Nat.le_refl _, Nat.le_refl _⟩
  | succ r ih =>
    intro i
    unfold bdF
    cases dg (p i) with
    | false => exact ⟨Nat.le_refl _, Nat.le_add_right _ _⟩
    | true => have := ih (i + 1); simp only [cond]; omega
section RN6
variable {d i pc : Nat} {ls : xLs} {st : List Value} {h h' : xHp} {n n' : Nat} {v : Option Value}
theorem Rn.retK {e : xEn} {x : Int32} {ty : FieldType} (hf : xfind i pc = some e) (he : e.1 = .ireturn) (hty : (xMt i).2.2.2.1 = some ty) (hx : xnok ty x = true) (hv : some (Value.int x) = v) (hh : h = h') : Rn d i pc ls [.int x] h n v h' n := by
  obtain ⟨ins, e2⟩ := e
  dsimp only at he
  subst he
  refine Rn.retE hf rfl ?_ hv hh
  show xgd true (match (xMt i).2.2.2.1 with | some ty => xgd (xnok ty x) (some (some (Value.int x))) | none => none) = _
  rw [hty]
  show xgd (xnok ty x) _ = _
  rw [hx]
  rfl
end RN6
theorem char_ok {p : Nat → Int32} {ty i : Nat} (hp : Pc p) : xnok .char (sg p ty i) = true := by
  unfold sg
  split
  · obtain ⟨v, hv, e⟩ := hp i
    rw [e]
    show decide (narrow .char (.int (nI v)) = .int (nI v)) = true
    exact decide_eq_true (pk_charN (by omega)).1
  · decide
section CLASS7
variable (d n : Nat) (p : Nat → Int32) (g h : xHp)
theorem m_cc (c : Int64) : Rn d 20 0 [(0, .long c)] [] h n (some (.int (nI ((ccF 8 c 0).getD 0)))) h n := by
  have key : ∀ r x f, f + r = 8 → Rn d 20 5 [(2, .long x), (4, .int (nI f))] [] h n (some (.int (nI ((ccF r x f).getD 0)))) h n := by
    intro r
    induction r with
    | zero =>
      intro x f hf
      have hf8 : (8 : Int32) ≤ nI f := by rw [show f = 8 by omega]; decide
      refine Rn.br 4 rfl (fun hc8 => ?_) (fun hc8 => ?_)
      · refine Rn.steps 1 rfl ?_
        exact Rn.retE rfl rfl rfl (by rw [show ccF 0 x f = some f from rfl]; rfl) rfl
      · refine Rn.br 3 rfl (fun hc15 => ?_) (fun hc15 => ?_)
        · refine Rn.steps 1 rfl ?_
          exact Rn.retE rfl rfl rfl (by rw [show ccF 0 x f = some f from rfl]; rfl) rfl
        · exact (hc15 hf8).elim
    | succ r ih =>
      intro x f hf
      refine Rn.br 4 rfl (fun hc8 => ?_) (fun hc8 => ?_)
      · have hx : x = 0 := lg0.mp hc8
        rw [show ccF (r + 1) x f = some f by rw [ccF, if_pos hx]]
        refine Rn.steps 1 rfl ?_
        exact Rn.retE rfl rfl rfl rfl rfl
      · have hx : ¬ x = 0 := fun q => hc8 (lg0.mpr q)
        refine Rn.br 3 rfl (fun hc15 => ?_) (fun hc15 => ?_)
        · exact (nI_ge (show f < 8 by omega) (by omega) hc15).elim
        · refine Rn.br 8 rfl (fun hc31 => ?_) (fun hc31 => ?_)
          · have h33 := (cod x).2.1.mp hc31
            rw [show ccF (r + 1) x f = none by rw [ccF, if_neg hx, if_neg (by omega)]]
            refine Rn.steps 1 rfl ?_
            exact Rn.retE rfl rfl rfl rfl rfl
          · have h33 : ¬ codn x < 33 := fun q => hc31 ((cod x).2.1.mpr q)
            refine Rn.br 4 rfl (fun hc40 => ?_) (fun hc40 => ?_)
            · have h126 := (cod x).2.2.1.mp hc40
              rw [show ccF (r + 1) x f = ccF r (shr x 8) (f + 1) by rw [ccF, if_neg hx, if_pos (by omega)]]
              refine Rn.steps 6 rfl ?_
              exact Rn.l2 rfl rfl (by rw [← nI_1 f]; rfl) (ih (shr x 8) (f + 1) (by omega))
            · have h126 : ¬ codn x ≤ 126 := fun q => hc40 ((cod x).2.2.1.mpr q)
              rw [show ccF (r + 1) x f = none by rw [ccF, if_neg hx, if_neg (by omega)]]
              refine Rn.steps 1 rfl ?_
              exact Rn.retE rfl rfl rfl rfl rfl
  refine Rn.steps 4 rfl ?_
  exact Rn.l2 rfl rfl rfl (key 8 c 0 rfl)
theorem m_app_bad (ty : Nat) (c : Int64) (hc : (ccF 8 c 0).getD 0 = 0) : Rn (d + 1) 21 0 [(0, .ref 137), (1, .long c)] [] (pOn p (nI ty) g) n (some (.int (-2))) (pOn p (nI ty) g) n := by
  refine Rn.steps 1 rfl ?_
  refine Rn.call rfl rfl rfl (m_cc d n _ c) ?_
  rw [hc]
  refine Rn.steps 4 rfl ?_
  exact Rn.retE rfl rfl rfl rfl rfl
theorem m_app_many (ty m : Nat) (hty : ty ≤ 80) (c : Int64) (hc : (ccF 8 c 0).getD 0 = m) (h0 : 0 < m) (h8 : m ≤ 8) (hm : 80 < ty + m) : Rn (d + 1) 21 0 [(0, .ref 137), (1, .long c)] [] (pOn p (nI ty) g) n (some (.int (-4))) (pOn p (nI ty) g) n := by
  refine Rn.steps 1 rfl ?_
  refine Rn.call rfl rfl rfl (m_cc d n _ c) ?_
  rw [hc]
  refine Rn.br 3 rfl (fun hc6 => ?_) (fun hc6 => ?_)
  · exact (nI_ne0 h0 (by omega) hc6).elim
  · refine Rn.br 6 rfl (fun hc20 => ?_) (fun hc20 => ?_)
    · exact (nI_ge (a := 80) (b := ty + m) hm (by omega) (by rw [← nI_add]; exact hc20)).elim
    · refine Rn.steps 1 rfl ?_
      exact Rn.retE rfl rfl rfl rfl rfl
theorem m_app_L (c : Int64) (T : Nat) (hT : T ≤ 80) : ∀ (k : Nat) (p : Nat → Int32) (ty : Nat), ty + k = T → Rn (d + 1) 21 31 [(0, .ref 137), (1, .long c), (4, .int (nI k - 1))] [] (pOn p (nI ty) g) n (some (.int (nI T))) (pOn (wrP c k p ty) (nI T) g) n := by
  intro k
  induction k with
  | zero =>
    intro p ty ht
    have e : ty = T := by omega
    subst e
    have hx : nI 0 - 1 < 0 := by decide
    generalize nI 0 - 1 = x0 at hx ⊢
    refine Rn.br 2 rfl (fun hc33 => ?_) (fun hc33 => ?_)
    · refine Rn.steps 2 rfl ?_
      exact Rn.retE rfl rfl rfl rfl rfl
    · exact (hc33 hx).elim
  | succ k ih =>
    intro p ty ht
    rw [nI_pred]
    refine Rn.br 2 rfl (fun hc33 => ?_) (fun hc33 => ?_)
    · exact (nI_pos (show k < 2 ^ 31 by omega) hc33).elim
    · refine Rn.steps 13 rfl ?_
      refine Rn.castN (m := ty) rfl rfl rfl rfl (rfl) (by omega) (Nat.le_of_ble_eq_true rfl) ?_
      refine Rn.heap (pOn_p (f' := upd p ty (nI (codn (shr c (8 * nI k))))) (congrArg (upd p ty) (cod (shr c (8 * nI k))).2.2.2.1)) ?_
      refine Rn.steps 6 rfl ?_
      refine Rn.heap pOn_w ?_
      refine Rn.steps 2 rfl ?_
      have h2 := ih (upd p ty (nI (codn (shr c (8 * nI k))))) (ty + 1) (by omega)
      rw [← nI_1 ty] at h2
      exact Rn.l3 rfl rfl rfl (by rw [show nI k - 1 = nI k + (-1) from Int32.sub_eq_add_neg _ _]; rfl) h2
theorem m_app (ty m : Nat) (c : Int64) (hc : (ccF 8 c 0).getD 0 = m) (h0 : 0 < m) (hm : ty + m ≤ 80) : Rn (d + 1) 21 0 [(0, .ref 137), (1, .long c)] [] (pOn p (nI ty) g) n (some (.int (nI (ty + m)))) (pOn (wrP c m p ty) (nI (ty + m)) g) n := by
  refine Rn.steps 1 rfl ?_
  refine Rn.call rfl rfl rfl (m_cc d n _ c) ?_
  rw [hc]
  refine Rn.br 3 rfl (fun hc6 => ?_) (fun hc6 => ?_)
  · exact (nI_ne0 h0 (by omega) hc6).elim
  · refine Rn.br 6 rfl (fun hc20 => ?_) (fun hc20 => ?_)
    · refine Rn.steps 4 rfl ?_
      exact Rn.l3 rfl rfl rfl rfl (m_app_L d n g c (ty + m) hm m p ty rfl)
    · exact (hc20 (by rw [nI_add]; exact nI_le (b := 80) hm (by omega))).elim
theorem m_empty (ln : Int32) : Rn d 22 0 [(0, .ref 137)] [] (pOn p ln g) n (some (.int ln)) (pOn p 0 g) n := by
  refine Rn.steps 6 rfl ?_
  refine Rn.heap pOn_w ?_
  refine Rn.steps 1 rfl ?_
  exact Rn.retE rfl rfl rfl rfl rfl
theorem m_dig (s : Int32) : Rn d 23 0 [(0, .int s)] [] h n (some (.int (bi (dg s)))) h n := by
  refine Rn.br 3 rfl (fun hc3 => ?_) (fun hc3 => ?_)
  · rw [show dg s = false from decide_eq_false (fun q => Int32.not_le.mpr hc3 q.1)]
    refine Rn.steps 1 rfl ?_
    exact Rn.retE rfl rfl rfl rfl rfl
  · refine Rn.br 3 rfl (fun hc9 => ?_) (fun hc9 => ?_)
    · rw [show dg s = false from decide_eq_false (fun q => Int32.not_le.mpr hc9 q.2)]
      refine Rn.steps 1 rfl ?_
      exact Rn.retE rfl rfl rfl rfl rfl
    · rw [show dg s = true from decide_eq_true ⟨Int32.not_lt.mp hc3, Int32.not_lt.mp hc9⟩]
      refine Rn.steps 2 rfl ?_
      exact Rn.retE rfl rfl rfl rfl rfl
theorem m_dl (s : Int32) : Rn d 24 0 [(0, .int s)] [] h n (some (.int (dbI (dbN 0 s)))) h n := by
  by_cases h98 : s = 98
  · subst h98
    refine Rn.steps 2 rfl ?_
    refine Rn.steps 1 rfl ?_
    exact Rn.retE rfl rfl rfl rfl rfl
  by_cases h99 : s = 99
  · subst h99
    refine Rn.steps 2 rfl ?_
    refine Rn.steps 1 rfl ?_
    exact Rn.retE rfl rfl rfl rfl rfl
  by_cases h102 : s = 102
  · subst h102
    refine Rn.steps 2 rfl ?_
    refine Rn.steps 1 rfl ?_
    exact Rn.retE rfl rfl rfl rfl rfl
  by_cases h107 : s = 107
  · subst h107
    refine Rn.steps 2 rfl ?_
    refine Rn.steps 1 rfl ?_
    exact Rn.retE rfl rfl rfl rfl rfl
  by_cases h114 : s = 114
  · subst h114
    refine Rn.steps 2 rfl ?_
    refine Rn.steps 1 rfl ?_
    exact Rn.retE rfl rfl rfl rfl rfl
  by_cases h120 : s = 120
  · subst h120
    refine Rn.steps 2 rfl ?_
    refine Rn.steps 1 rfl ?_
    exact Rn.retE rfl rfl rfl rfl rfl
  rw [show dbN 0 s = none by show (if s = 99 then some 1 else if s = 114 then some 4 else if s = 120 ∨ s = 98 ∨ s = 107 ∨ s = 102 then some 6 else none) = none; rw [if_neg h99, if_neg h114, if_neg (by rintro (q | q | q | q) <;> contradiction)]]
  refine Rn.steps 1 rfl ?_
  refine Rn.lsw rfl rfl (off := 66) (by
    show Op.lookupswitch.offset [(98, 63), (99, 59), (102, 63), (107, 63), (114, 61), (120, 63)] 66 s.toInt = 66
    rw [Op.lookupswitch.offset_cons, if_neg (show ¬ (98 : Int) = s.toInt from tI_ne h98), Op.lookupswitch.offset_cons, if_neg (show ¬ (99 : Int) = s.toInt from tI_ne h99), Op.lookupswitch.offset_cons, if_neg (show ¬ (102 : Int) = s.toInt from tI_ne h102), Op.lookupswitch.offset_cons, if_neg (show ¬ (107 : Int) = s.toInt from tI_ne h107), Op.lookupswitch.offset_cons, if_neg (show ¬ (114 : Int) = s.toInt from tI_ne h114), Op.lookupswitch.offset_cons, if_neg (show ¬ (120 : Int) = s.toInt from tI_ne h120)]
    rfl) 67 rfl ?_
  refine Rn.steps 1 rfl ?_
  exact Rn.retE rfl rfl rfl rfl rfl
theorem m_db_0 (s : Int32) : Rn (d + 1) 25 0 [(0, .int 0), (1, .int s)] [] h n (some (.int (dbI (dbN 0 s)))) h n := by
  refine Rn.steps 1 rfl ?_
  refine Rn.call rfl rfl rfl (m_dig d n _ s) ?_
  refine Rn.steps 1 rfl ?_
  refine Rn.steps 1 rfl ?_
  refine Rn.steps 1 rfl ?_
  refine Rn.steps 1 rfl ?_
  refine Rn.call rfl rfl rfl (m_dl d n _ s) ?_
  exact Rn.retE rfl rfl rfl (by first | rfl | (show _ = some (Value.int (dbI (dbN 0 s))); (try rw [hd]); (try simp only [cond]); first | rfl | (rw [if_pos he]; rfl) | (rw [if_neg he]; rfl))) rfl
theorem m_db_1 (s : Int32) : Rn (d + 1) 25 0 [(0, .int 1), (1, .int s)] [] h n (some (.int (dbI (dbN 1 s)))) h n := by
  refine Rn.steps 1 rfl ?_
  refine Rn.call rfl rfl rfl (m_dig d n _ s) ?_
  refine Rn.steps 1 rfl ?_
  refine Rn.steps 1 rfl ?_
  refine Rn.steps 1 rfl ?_
  refine Rn.br 2 rfl (fun hc54 => ?_) (fun hc54 => ?_)
  · have hd := bi_eq0 hc54
    refine Rn.steps 2 rfl ?_
    exact Rn.retE rfl rfl rfl (by first | rfl | (show _ = some (Value.int (dbI (cond (dg s) (if s = 48 then some 3 else some 2) none))); (try rw [hd]); (try simp only [cond]); first | rfl | (rw [if_pos he]; rfl) | (rw [if_neg he]; rfl))) rfl
  · have hd := bi_ne0 hc54
    refine Rn.br 3 rfl (fun hc64 => ?_) (fun hc64 => ?_)
    · have he : s = 48 := hc64
      refine Rn.steps 2 rfl ?_
      exact Rn.retE rfl rfl rfl (by first | rfl | (show _ = some (Value.int (dbI (cond (dg s) (if s = 48 then some 3 else some 2) none))); (try rw [hd]); (try simp only [cond]); first | rfl | (rw [if_pos he]; rfl) | (rw [if_neg he]; rfl))) rfl
    · have he : ¬ s = 48 := hc64
      refine Rn.steps 1 rfl ?_
      exact Rn.retE rfl rfl rfl (by first | rfl | (show _ = some (Value.int (dbI (cond (dg s) (if s = 48 then some 3 else some 2) none))); (try rw [hd]); (try simp only [cond]); first | rfl | (rw [if_pos he]; rfl) | (rw [if_neg he]; rfl))) rfl
theorem m_db_2 (s : Int32) : Rn (d + 1) 25 0 [(0, .int 2), (1, .int s)] [] h n (some (.int (dbI (dbN 2 s)))) h n := by
  refine Rn.steps 1 rfl ?_
  refine Rn.call rfl rfl rfl (m_dig d n _ s) ?_
  refine Rn.steps 1 rfl ?_
  refine Rn.steps 1 rfl ?_
  refine Rn.steps 1 rfl ?_
  refine Rn.br 2 rfl (fun hc74 => ?_) (fun hc74 => ?_)
  · have hd := bi_eq0 hc74
    refine Rn.br 3 rfl (fun hc84 => ?_) (fun hc84 => ?_)
    · have he : s = 46 := hc84
      refine Rn.steps 2 rfl ?_
      exact Rn.retE rfl rfl rfl (by first | rfl | (show _ = some (Value.int (dbI (cond (dg s) (some 3) (if s = 46 then some 6 else none)))); (try rw [hd]); (try simp only [cond]); first | rfl | (rw [if_pos he]; rfl) | (rw [if_neg he]; rfl))) rfl
    · have he : ¬ s = 46 := hc84
      refine Rn.steps 1 rfl ?_
      exact Rn.retE rfl rfl rfl (by first | rfl | (show _ = some (Value.int (dbI (cond (dg s) (some 3) (if s = 46 then some 6 else none)))); (try rw [hd]); (try simp only [cond]); first | rfl | (rw [if_pos he]; rfl) | (rw [if_neg he]; rfl))) rfl
  · have hd := bi_ne0 hc74
    refine Rn.steps 2 rfl ?_
    exact Rn.retE rfl rfl rfl (by first | rfl | (show _ = some (Value.int (dbI (cond (dg s) (some 3) (if s = 46 then some 6 else none)))); (try rw [hd]); (try simp only [cond]); first | rfl | (rw [if_pos he]; rfl) | (rw [if_neg he]; rfl))) rfl
theorem m_db_3 (s : Int32) : Rn (d + 1) 25 0 [(0, .int 3), (1, .int s)] [] h n (some (.int (dbI (dbN 3 s)))) h n := by
  refine Rn.steps 1 rfl ?_
  refine Rn.call rfl rfl rfl (m_dig d n _ s) ?_
  refine Rn.steps 1 rfl ?_
  refine Rn.steps 1 rfl ?_
  refine Rn.steps 1 rfl ?_
  refine Rn.br 3 rfl (fun hc97 => ?_) (fun hc97 => ?_)
  · have he : s = 46 := hc97
    refine Rn.steps 2 rfl ?_
    exact Rn.retE rfl rfl rfl (by first | rfl | (show _ = some (Value.int (dbI (if s = 46 then some 6 else none))); (try rw [hd]); (try simp only [cond]); first | rfl | (rw [if_pos he]; rfl) | (rw [if_neg he]; rfl))) rfl
  · have he : ¬ s = 46 := hc97
    refine Rn.steps 1 rfl ?_
    exact Rn.retE rfl rfl rfl (by first | rfl | (show _ = some (Value.int (dbI (if s = 46 then some 6 else none))); (try rw [hd]); (try simp only [cond]); first | rfl | (rw [if_pos he]; rfl) | (rw [if_neg he]; rfl))) rfl
theorem m_db_4 (s : Int32) : Rn (d + 1) 25 0 [(0, .int 4), (1, .int s)] [] h n (some (.int (dbI (dbN 4 s)))) h n := by
  refine Rn.steps 1 rfl ?_
  refine Rn.call rfl rfl rfl (m_dig d n _ s) ?_
  refine Rn.steps 1 rfl ?_
  refine Rn.steps 1 rfl ?_
  refine Rn.steps 1 rfl ?_
  refine Rn.br 2 rfl (fun hc108 => ?_) (fun hc108 => ?_)
  · have hd := bi_eq0 hc108
    refine Rn.steps 2 rfl ?_
    exact Rn.retE rfl rfl rfl (by first | rfl | (show _ = some (Value.int (dbI (cond (dg s) (if s = 48 then some 7 else some 5) none))); (try rw [hd]); (try simp only [cond]); first | rfl | (rw [if_pos he]; rfl) | (rw [if_neg he]; rfl))) rfl
  · have hd := bi_ne0 hc108
    refine Rn.br 3 rfl (fun hc118 => ?_) (fun hc118 => ?_)
    · have he : s = 48 := hc118
      refine Rn.steps 2 rfl ?_
      exact Rn.retE rfl rfl rfl (by first | rfl | (show _ = some (Value.int (dbI (cond (dg s) (if s = 48 then some 7 else some 5) none))); (try rw [hd]); (try simp only [cond]); first | rfl | (rw [if_pos he]; rfl) | (rw [if_neg he]; rfl))) rfl
    · have he : ¬ s = 48 := hc118
      refine Rn.steps 1 rfl ?_
      exact Rn.retE rfl rfl rfl (by first | rfl | (show _ = some (Value.int (dbI (cond (dg s) (if s = 48 then some 7 else some 5) none))); (try rw [hd]); (try simp only [cond]); first | rfl | (rw [if_pos he]; rfl) | (rw [if_neg he]; rfl))) rfl
theorem m_db_5 (s : Int32) : Rn (d + 1) 25 0 [(0, .int 5), (1, .int s)] [] h n (some (.int (dbI (dbN 5 s)))) h n := by
  refine Rn.steps 1 rfl ?_
  refine Rn.call rfl rfl rfl (m_dig d n _ s) ?_
  refine Rn.steps 1 rfl ?_
  refine Rn.steps 1 rfl ?_
  refine Rn.steps 1 rfl ?_
  refine Rn.br 2 rfl (fun hc129 => ?_) (fun hc129 => ?_)
  · have hd := bi_eq0 hc129
    refine Rn.br 3 rfl (fun hc140 => ?_) (fun hc140 => ?_)
    · have he : s = 59 := hc140
      refine Rn.steps 2 rfl ?_
      exact Rn.retE rfl rfl rfl (by first | rfl | (show _ = some (Value.int (dbI (cond (dg s) (some 7) (if s = 59 then some 0 else none)))); (try rw [hd]); (try simp only [cond]); first | rfl | (rw [if_pos he]; rfl) | (rw [if_neg he]; rfl))) rfl
    · have he : ¬ s = 59 := hc140
      refine Rn.steps 1 rfl ?_
      exact Rn.retE rfl rfl rfl (by first | rfl | (show _ = some (Value.int (dbI (cond (dg s) (some 7) (if s = 59 then some 0 else none)))); (try rw [hd]); (try simp only [cond]); first | rfl | (rw [if_pos he]; rfl) | (rw [if_neg he]; rfl))) rfl
  · have hd := bi_ne0 hc129
    refine Rn.steps 2 rfl ?_
    exact Rn.retE rfl rfl rfl (by first | rfl | (show _ = some (Value.int (dbI (cond (dg s) (some 7) (if s = 59 then some 0 else none)))); (try rw [hd]); (try simp only [cond]); first | rfl | (rw [if_pos he]; rfl) | (rw [if_neg he]; rfl))) rfl
theorem m_db_6 (s : Int32) : Rn (d + 1) 25 0 [(0, .int 6), (1, .int s)] [] h n (some (.int (dbI (dbN 6 s)))) h n := by
  refine Rn.steps 1 rfl ?_
  refine Rn.call rfl rfl rfl (m_dig d n _ s) ?_
  refine Rn.steps 1 rfl ?_
  refine Rn.steps 1 rfl ?_
  refine Rn.steps 1 rfl ?_
  refine Rn.br 2 rfl (fun hc150 => ?_) (fun hc150 => ?_)
  · have hd := bi_eq0 hc150
    refine Rn.steps 1 rfl ?_
    exact Rn.retE rfl rfl rfl (by first | rfl | (show _ = some (Value.int (dbI (cond (dg s) (some 7) none))); (try rw [hd]); (try simp only [cond]); first | rfl | (rw [if_pos he]; rfl) | (rw [if_neg he]; rfl))) rfl
  · have hd := bi_ne0 hc150
    refine Rn.steps 2 rfl ?_
    exact Rn.retE rfl rfl rfl (by first | rfl | (show _ = some (Value.int (dbI (cond (dg s) (some 7) none))); (try rw [hd]); (try simp only [cond]); first | rfl | (rw [if_pos he]; rfl) | (rw [if_neg he]; rfl))) rfl
theorem m_db_7 (s : Int32) : Rn (d + 1) 25 0 [(0, .int 7), (1, .int s)] [] h n (some (.int (dbI (dbN 7 s)))) h n := by
  refine Rn.steps 1 rfl ?_
  refine Rn.call rfl rfl rfl (m_dig d n _ s) ?_
  refine Rn.steps 1 rfl ?_
  refine Rn.steps 1 rfl ?_
  refine Rn.steps 1 rfl ?_
  refine Rn.br 3 rfl (fun hc163 => ?_) (fun hc163 => ?_)
  · have he : s = 59 := hc163
    refine Rn.steps 2 rfl ?_
    exact Rn.retE rfl rfl rfl (by first | rfl | (show _ = some (Value.int (dbI (if s = 59 then some 0 else none))); (try rw [hd]); (try simp only [cond]); first | rfl | (rw [if_pos he]; rfl) | (rw [if_neg he]; rfl))) rfl
  · have he : ¬ s = 59 := hc163
    refine Rn.steps 1 rfl ?_
    exact Rn.retE rfl rfl rfl (by first | rfl | (show _ = some (Value.int (dbI (if s = 59 then some 0 else none))); (try rw [hd]); (try simp only [cond]); first | rfl | (rw [if_pos he]; rfl) | (rw [if_neg he]; rfl))) rfl
theorem m_db (k : Nat) (hk : k ≤ 7) (s : Int32) : Rn (d + 1) 25 0 [(0, .int (nI k)), (1, .int s)] [] h n (some (.int (dbI (dbN k s)))) h n := by
  rcases (by omega : k = 0 ∨ k = 1 ∨ k = 2 ∨ k = 3 ∨ k = 4 ∨ k = 5 ∨ k = 6 ∨ k = 7) with q | q | q | q | q | q | q | q <;> subst q
  · exact m_db_0 d n h s
  · exact m_db_1 d n h s
  · exact m_db_2 d n h s
  · exact m_db_3 d n h s
  · exact m_db_4 d n h s
  · exact m_db_5 d n h s
  · exact m_db_6 d n h s
  · exact m_db_7 d n h s
theorem m_faL (ty : Nat) (hty : ty ≤ 80) : ∀ (r due i : Nat), due ≤ 7 → i + r = ty → Rn (d + 2) 26 4 [(0, .ref 137), (1, .int (nI due)), (2, .int (nI i))] [] (pOn p (nI ty) g) n (some (.int (faF p ty r due i))) (pOn p (nI ty) g) n := by
  intro r
  induction r with
  | zero =>
    intro due i hd hi
    have e : i = ty := by omega
    subst e
    refine Rn.br 4 rfl (fun hc9 => ?_) (fun hc9 => ?_)
    · refine Rn.br 3 rfl (fun hc39 => ?_) (fun hc39 => ?_)
      · have q : due = 7 := (nI_eq (by omega) (by omega)).mp hc39
        rw [show faF p i 0 due i = -6 from if_pos (Or.inl q)]
        refine Rn.steps 2 rfl ?_
        exact Rn.retE rfl rfl rfl rfl rfl
      · have q : ¬ due = 7 := fun e => hc39 (by rw [e]; rfl)
        refine Rn.br 3 rfl (fun hc44 => ?_) (fun hc44 => ?_)
        · have q5 : due = 5 := (nI_eq (by omega) (by omega)).mp hc44
          rw [show faF p i 0 due i = -6 from if_pos (Or.inr q5)]
          refine Rn.steps 2 rfl ?_
          exact Rn.retE rfl rfl rfl rfl rfl
        · have q5 : ¬ due = 5 := fun e => hc44 (by rw [e]; rfl)
          rw [show faF p i 0 due i = nI i from if_neg (by omega)]
          refine Rn.steps 2 rfl ?_
          exact Rn.retE rfl rfl rfl rfl rfl
    · exact (hc9 (nI_le (Nat.le_refl _) (by omega))).elim
  | succ r ih =>
    intro due i hd hi
    refine Rn.br 4 rfl (fun hc9 => ?_) (fun hc9 => ?_)
    · exact (nI_ge (show i < ty by omega) (by omega) hc9).elim
    · refine Rn.steps 4 rfl ?_
      refine Rn.caldN (m := i) rfl rfl rfl (rfl) (by omega) (Nat.le_of_ble_eq_true rfl) ?_
      refine Rn.call rfl rfl rfl (m_db d n _ due hd (p i)) ?_
      refine Rn.br 4 rfl (fun hc25 => ?_) (fun hc25 => ?_)
      · have hq : dbN due (p i) = none := by
          cases hb : dbN due (p i) with
          | none => rfl
          | some k => rw [hb] at hc25; exact absurd (show nI k = -1 from hc25) (nI_no1 (by have := dbN_le hb; omega))
        rw [show faF p ty (r + 1) due i = nI i by rw [faF, hq]]
        refine Rn.steps 1 rfl ?_
        exact Rn.retE rfl rfl rfl rfl rfl
      · cases hq : dbN due (p i) with
        | none => exact (hc25 (by rw [hq]; rfl)).elim
        | some k =>
        rw [show faF p ty (r + 1) due i = faF p ty r k (i + 1) by rw [faF, hq]]
        refine Rn.steps 2 rfl ?_
        exact Rn.l3 rfl rfl rfl (by rw [← nI_1 i]; rfl) (ih k (i + 1) (dbN_le hq) (by omega))
theorem m_fa (ty : Nat) (hty : ty ≤ 80) : Rn (d + 2) 26 0 [(0, .ref 137)] [] (pOn p (nI ty) g) n (some (.int (faF p ty ty 0 0))) (pOn p (nI ty) g) n := by
  refine Rn.steps 4 rfl ?_
  exact Rn.l3 rfl rfl rfl rfl (m_faL d n p g ty hty ty 0 0 (by omega) (by omega))
theorem m_sig (hp : Pc p) (ty i : Nat) (hty : ty ≤ 80) (hi : i ≤ 80) : Rn d 27 0 [(0, .ref 137), (1, .int (nI i))] [] (pOn p (nI ty) g) n (some (.int (sg p ty i))) (pOn p (nI ty) g) n := by
  refine Rn.br 2 rfl (fun hc1 => ?_) (fun hc1 => ?_)
  · exact (nI_pos (show i < 2 ^ 31 by omega) hc1).elim
  · refine Rn.br 4 rfl (fun hc9 => ?_) (fun hc9 => ?_)
    · have q : ¬ i < ty := fun q => nI_ge q (by omega) hc9
      rw [show sg p ty i = 0 from if_neg q]
      refine Rn.steps 1 rfl ?_
      exact Rn.retE rfl rfl rfl rfl rfl
    · have q : i < ty := by
        rcases Nat.lt_or_ge i ty with q | q
        · exact q
        · exact (hc9 (nI_le q (by omega))).elim
      refine Rn.steps 3 rfl ?_
      refine Rn.caldN (m := i) rfl rfl rfl (rfl) (by omega) (Nat.le_of_ble_eq_true rfl) ?_
      refine Rn.steps 1 rfl ?_
      exact Rn.retK rfl rfl rfl (by have := char_ok (ty := ty) (i := i) hp; unfold sg at this; rw [if_pos q] at this; exact this) (by rw [show sg p ty i = p i from if_pos q]) rfl
theorem m_bdL (hp : Pc p) (ty : Nat) (hty : ty ≤ 80) : ∀ (r i : Nat), i + r = ty → Rn (d + 1) 28 2 [(0, .ref 137), (2, .int (nI i))] [] (pOn p (nI ty) g) n (some (.int (nI (bdF p r i)))) (pOn p (nI ty) g) n := by
  intro r
  induction r with
  | zero =>
    intro i hi
    have e : i = ty := by omega
    subst e
    refine Rn.br 4 rfl (fun hc7 => ?_) (fun hc7 => ?_)
    · refine Rn.steps 1 rfl ?_
      exact Rn.retE rfl rfl rfl rfl rfl
    · exact (hc7 (nI_le (Nat.le_refl _) (by omega))).elim
  | succ r ih =>
    intro i hi
    have es : sg p ty i = p i := if_pos (by omega)
    refine Rn.br 4 rfl (fun hc7 => ?_) (fun hc7 => ?_)
    · exact (nI_ge (show i < ty by omega) (by omega) hc7).elim
    · refine Rn.steps 2 rfl ?_
      refine Rn.call rfl rfl rfl (m_sig d n p g hp ty i hty (by omega)) ?_
      rw [es]
      refine Rn.call rfl rfl rfl (m_dig d n _ (p i)) ?_
      refine Rn.br 1 rfl (fun hc18 => ?_) (fun hc18 => ?_)
      · have hd := bi_eq0 hc18
        rw [show bdF p (r + 1) i = i by rw [bdF, hd]; rfl]
        refine Rn.steps 1 rfl ?_
        exact Rn.retE rfl rfl rfl rfl rfl
      · have hd := bi_ne0 hc18
        rw [show bdF p (r + 1) i = bdF p r (i + 1) by rw [bdF, hd]; rfl]
        refine Rn.steps 2 rfl ?_
        exact Rn.l2 rfl rfl (by rw [← nI_1 i]; rfl) (ih (i + 1) (by omega))
theorem m_bd (hp : Pc p) (ty i : Nat) (hty : ty ≤ 80) (hi : i ≤ ty) : Rn (d + 1) 28 0 [(0, .ref 137), (1, .int (nI i))] [] (pOn p (nI ty) g) n (some (.int (nI (bdF p (ty - i) i)))) (pOn p (nI ty) g) n := by
  refine Rn.steps 2 rfl ?_
  exact Rn.l2 rfl rfl rfl (m_bdL d n p g hp ty hty (ty - i) i (by omega))
theorem m_nfL (hp : Pc p) (ty : Nat) (hty : ty ≤ 80) (e : Nat) (he : e ≤ ty) : ∀ (k i : Nat) (a : Int32), i + k = e → Rn (d + 2) 29 11 [(0, .ref 137), (2, .int a), (3, .int (nI e)), (4, .int (nI i))] [] (pOn p (nI ty) g) n (some (.int (nmF p k i a))) (pOn p (nI ty) g) n := by
  intro k
  induction k with
  | zero =>
    intro i a hi
    have e2 : i = e := by omega
    subst e2
    refine Rn.br 3 rfl (fun hc14 => ?_) (fun hc14 => ?_)
    · refine Rn.steps 1 rfl ?_
      exact Rn.retE rfl rfl rfl rfl rfl
    · exact (hc14 (nI_le (Nat.le_refl _) (by omega))).elim
  | succ k ih =>
    intro i a hi
    have es : sg p ty i = p i := if_pos (by omega)
    refine Rn.br 3 rfl (fun hc14 => ?_) (fun hc14 => ?_)
    · exact (nI_ge (show i < e by omega) (by omega) hc14).elim
    · refine Rn.steps 5 rfl ?_
      refine Rn.call rfl rfl rfl (m_sig (d + 1) n p g hp ty i hty (by omega)) ?_
      rw [es]
      refine Rn.steps 6 rfl ?_
      exact Rn.l4 (by decide) rfl rfl rfl (by rw [← nI_1 i]; rfl) (ih (i + 1) _ (by omega))
theorem m_nf (hp : Pc p) (ty i : Nat) (hty : ty ≤ 80) (hi : i ≤ ty) : Rn (d + 2) 29 0 [(0, .ref 137), (1, .int (nI i))] [] (pOn p (nI ty) g) n (some (.int (nmF p (bdF p (ty - i) i - i) i 0))) (pOn p (nI ty) g) n := by
  have hb := bdF_le p (ty - i) i
  refine Rn.steps 4 rfl ?_
  refine Rn.call rfl rfl rfl (m_bd d n p g hp ty i hty hi) ?_
  refine Rn.steps 3 rfl ?_
  exact Rn.l4 (by decide) rfl rfl rfl rfl (m_nfL d n p g hp ty hty (bdF p (ty - i) i) (by omega) (bdF p (ty - i) i - i) i 0 (by omega))
theorem m_no (hp : Pc p) (ty i : Nat) (hty : ty ≤ 80) (hi : bdF p (ty - i) i + 1 ≤ ty) : Rn (d + 3) 30 0 [(0, .ref 137), (1, .int (nI i))] [] (pOn p (nI ty) g) n (some (.int (nmF p (bdF p (ty - (bdF p (ty - i) i + 1)) (bdF p (ty - i) i + 1) - (bdF p (ty - i) i + 1)) (bdF p (ty - i) i + 1) 0))) (pOn p (nI ty) g) n := by
  have hb := bdF_le p (ty - i) i
  refine Rn.steps 3 rfl ?_
  refine Rn.call rfl rfl rfl (m_bd (d + 1) n p g hp ty i hty (by omega)) ?_
  refine Rn.steps 2 rfl ?_
  refine Rn.stk (st2 := [.int (nI (bdF p (ty - i) i + 1)), .ref 137]) (by rw [← nI_1]; rfl) ?_
  refine Rn.call rfl rfl rfl (m_nf d n p g hp ty (bdF p (ty - i) i + 1) hty hi) ?_
  exact Rn.retE rfl rfl rfl rfl rfl
theorem m_neL (hp : Pc p) (ty : Nat) (hty : ty ≤ 80) : ∀ (r i : Nat), i + r = ty → Rn (d + 1) 31 2 [(0, .ref 137), (2, .int (nI i))] [] (pOn p (nI ty) g) n (some (.int (nI (noF p r i)))) (pOn p (nI ty) g) n := by
  intro r
  induction r with
  | zero =>
    intro i hi
    have e : i = ty := by omega
    subst e
    refine Rn.br 4 rfl (fun hc7 => ?_) (fun hc7 => ?_)
    · refine Rn.steps 3 rfl ?_
      exact Rn.retE rfl rfl rfl (by rw [show nI (noF p 0 i) = nI i + 1 from (nI_1 i).symm]) rfl
    · exact (hc7 (nI_le (Nat.le_refl _) (by omega))).elim
  | succ r ih =>
    intro i hi
    have es : sg p ty i = p i := if_pos (by omega)
    refine Rn.br 4 rfl (fun hc7 => ?_) (fun hc7 => ?_)
    · exact (nI_ge (show i < ty by omega) (by omega) hc7).elim
    · refine Rn.steps 2 rfl ?_
      refine Rn.call rfl rfl rfl (m_sig d n p g hp ty i hty (by omega)) ?_
      rw [es]
      refine Rn.br 2 rfl (fun hc17 => ?_) (fun hc17 => ?_)
      · have hd : p i = 59 := hc17
        rw [show noF p (r + 1) i = i + 1 by rw [noF, if_pos hd]]
        refine Rn.steps 3 rfl ?_
        exact Rn.retE rfl rfl rfl (by rw [← nI_1 i]) rfl
      · have hd : ¬ p i = 59 := hc17
        rw [show noF p (r + 1) i = noF p r (i + 1) by rw [noF, if_neg hd]]
        refine Rn.steps 2 rfl ?_
        exact Rn.l2 rfl rfl (by rw [← nI_1 i]; rfl) (ih (i + 1) (by omega))
theorem m_ne (hp : Pc p) (ty i : Nat) (hty : ty ≤ 80) (hi : i ≤ ty) : Rn (d + 1) 31 0 [(0, .ref 137), (1, .int (nI i))] [] (pOn p (nI ty) g) n (some (.int (nI (noF p (ty - i) i)))) (pOn p (nI ty) g) n := by
  refine Rn.steps 2 rfl ?_
  exact Rn.l2 rfl rfl rfl (m_neL d n p g hp ty hty (ty - i) i (by omega))
end CLASS7
section MODEL11
variable (d n : Nat) (A : Nat → Nat → Int32) (w : Nat → Int32) (g : xHp)
theorem c_putA (c : Int64) {v : Option Value} {h' : xHp} {n' : Nat} (kb : ccF 8 c 0 = none → v = some (.int (-2)) ∧ h' = mOn A w g ∧ n' = n) (kg : ∀ m, ccF 8 c 0 = some m → Rn (d + 1) 143 48 [(0, .ref 139), (1, .long c), (5, .int (nI m))] [] (mOn A w g) n v h' n') : Rn (d + 1) 143 0 [(0, .ref 139), (1, .long c)] [] (mOn A w g) n v h' n' := by
  have key : ∀ r x f, f + r = 8 → ccF r x f = ccF 8 c 0 → Rn (d + 1) 143 5 [(0, .ref 139), (1, .long c), (3, .long x), (5, .int (nI f))] [] (mOn A w g) n v h' n' := by
    intro r
    induction r with
    | zero =>
      intro x f hf he
      have hf8 : (8 : Int32) ≤ nI f := by rw [show f = 8 by omega]; decide
      have kk := kg f he.symm
      refine Rn.br 4 rfl (fun hc8 => ?_) (fun hc8 => ?_)
      · exact Rn.l3 rfl rfl rfl rfl kk
      · refine Rn.br 3 rfl (fun hc15 => ?_) (fun hc15 => ?_)
        · exact Rn.l3 rfl rfl rfl rfl kk
        · exact (hc15 hf8).elim
    | succ r ih =>
      intro x f hf he
      refine Rn.br 4 rfl (fun hc8 => ?_) (fun hc8 => ?_)
      · have hx : x = 0 := lg0.mp hc8
        have kk := kg f (by rw [← he, ccF, if_pos hx])
        exact Rn.l3 rfl rfl rfl rfl kk
      · have hx : ¬ x = 0 := fun q => hc8 (lg0.mpr q)
        refine Rn.br 3 rfl (fun hc15 => ?_) (fun hc15 => ?_)
        · exact (nI_ge (show f < 8 by omega) (by omega) hc15).elim
        · refine Rn.steps 6 rfl ?_
          refine Rn.call rfl rfl rfl (c_in d n _ _ _ _) ?_
          rw [cod_in x]
          refine Rn.br 1 rfl (fun hc31 => ?_) (fun hc31 => ?_)
          · have hd := of_decide_eq_false (bi_eq0 hc31)
            obtain ⟨e1, e2, e3⟩ := kb (by rw [← he, ccF, if_neg hx, if_neg hd])
            subst e1; subst e2; subst e3
            refine Rn.steps 1 rfl ?_
            exact Rn.retE rfl rfl rfl rfl rfl
          · have hd := of_decide_eq_true (bi_ne0 hc31)
            have e4 : ccF r (shr x 8) (f + 1) = ccF 8 c 0 := by rw [← he, ccF, if_neg hx, if_pos hd]
            refine Rn.steps 6 rfl ?_
            exact Rn.l4 (by decide) rfl rfl rfl (by rw [← nI_1 f]; rfl) (ih (shr x 8) (f + 1) (by omega) e4)
  refine Rn.steps 4 rfl ?_
  exact Rn.l4 (by decide) rfl rfl rfl rfl (key 8 c 0 rfl rfl)
theorem c_put_bad (c : Int64) (hc : (ccF 8 c 0).getD 0 = 0) : Rn (d + 1) 143 0 [(0, .ref 139), (1, .long c)] [] (mOn A w g) n (some (.int (-2))) (mOn A w g) n := by
  refine c_putA d n A w g c (fun _ => ⟨rfl, rfl, rfl⟩) (fun m hm => ?_)
  rw [hm] at hc
  have e : m = 0 := hc
  subst e
  refine Rn.steps 3 rfl ?_
  exact Rn.retE rfl rfl rfl rfl rfl
theorem c_put_many (ty m : Nat) (hw : w 1 = nI ty) (hty : ty ≤ 80) (c : Int64) (hc : (ccF 8 c 0).getD 0 = m) (h0 : 0 < m) (h8 : m ≤ 8) (hm : 80 < ty + m) : Rn (d + 1) 143 0 [(0, .ref 139), (1, .long c)] [] (mOn A w g) n (some (.int (-4))) (mOn A w g) n := by
  refine c_putA d n A w g c (fun q => by rw [q] at hc; exact absurd hc (by simp only [Option.getD]; omega)) (fun m2 hm2 => ?_)
  rw [hm2] at hc
  have e : m2 = m := hc
  subst e
  refine Rn.br 2 rfl (fun hc50 => ?_) (fun hc50 => ?_)
  · exact (nI_ne0 h0 (by omega) hc50).elim
  · refine Rn.br 6 rfl (fun hc65 => ?_) (fun hc65 => ?_)
    · exact (nI_ge (a := 80) (b := ty + m2) hm (by omega) (by rw [← nI_add, ← hw]; exact hc65)).elim
    · refine Rn.steps 1 rfl ?_
      exact Rn.retE rfl rfl rfl rfl rfl
theorem c_put_L (c : Int64) (T : Nat) (hT : T ≤ 80) : ∀ (k : Nat) (A : Nat → Nat → Int32) (w : Nat → Int32) (ty : Nat), w 1 = nI ty → ty + k = T → Rn (d + 1) 143 77 [(0, .ref 139), (1, .long c), (6, .int (nI k - 1))] [] (mOn A w g) n (some (.int (nI T))) (mOn (va_up A 4 (wrP c k (A 4) ty)) (upd w 1 (nI T)) g) n := by
  intro k
  induction k with
  | zero =>
    intro A w ty hw ht
    have e : ty = T := by omega
    subst e
    have hx : nI 0 - 1 < 0 := by decide
    generalize nI 0 - 1 = x0 at hx ⊢
    refine Rn.br 2 rfl (fun hc79 => ?_) (fun hc79 => ?_)
    · refine Rn.steps 2 rfl ?_
      exact Rn.retE rfl rfl rfl (by rw [← hw]) (by rw [← hw, upd_id, show wrP c 0 (A 4) ty = A 4 from rfl, xup_self])
    · exact (hc79 hx).elim
  | succ k ih =>
    intro A w ty hw ht
    rw [nI_pred]
    refine Rn.br 2 rfl (fun hc79 => ?_) (fun hc79 => ?_)
    · exact (nI_pos (show k < 2 ^ 31 by omega) hc79).elim
    · refine Rn.steps 12 rfl ?_
      refine Rn.iastN (m := ty) rfl rfl rfl rfl (hw) (by omega) (Nat.le_of_ble_eq_true rfl) ?_
      refine Rn.heap mOn_4 ?_
      refine Rn.steps 6 rfl ?_
      refine Rn.heap mOn_w1 ?_
      refine Rn.steps 2 rfl ?_
      have h2 := ih (va_up A 4 (upd (A 4) ty (nI (codn (shr c (8 * nI k)))))) (upd w 1 (nI (ty + 1))) (ty + 1) rfl (by omega)
      rw [bx_uu, upd_upd] at h2
      rw [← (cod (shr c (8 * nI k))).1, ← nI_1 ty, ← hw] at h2
      rw [show wrP c (k + 1) (A 4) ty = wrP c k (upd (A 4) ty (nI (codn (shr c (8 * nI k))))) (ty + 1) from rfl, ← (cod (shr c (8 * nI k))).1]
      exact Rn.l3 rfl rfl rfl (by rw [show nI k - 1 = nI k + (-1) from Int32.sub_eq_add_neg _ _]; rfl) h2
theorem c_put (ty m : Nat) (hw : w 1 = nI ty) (c : Int64) (hc : (ccF 8 c 0).getD 0 = m) (h0 : 0 < m) (hm : ty + m ≤ 80) : Rn (d + 1) 143 0 [(0, .ref 139), (1, .long c)] [] (mOn A w g) n (some (.int (nI (ty + m)))) (mOn (va_up A 4 (wrP c m (A 4) ty)) (upd w 1 (nI (ty + m))) g) n := by
  refine c_putA d n A w g c (fun q => by rw [q] at hc; exact absurd hc (by simp only [Option.getD]; omega)) (fun m2 hm2 => ?_)
  rw [hm2] at hc
  have e : m2 = m := hc
  subst e
  refine Rn.br 2 rfl (fun hc50 => ?_) (fun hc50 => ?_)
  · exact (nI_ne0 h0 (by omega) hc50).elim
  · refine Rn.br 6 rfl (fun hc65 => ?_) (fun hc65 => ?_)
    · refine Rn.steps 4 rfl ?_
      exact Rn.l3 rfl rfl rfl rfl (c_put_L d n g c (ty + m2) hm m2 A w ty hw rfl)
    · exact (hc65 (by show w 1 + nI m2 ≤ 80; rw [hw, nI_add]; exact nI_le (b := 80) hm (by omega))).elim
end MODEL11
