/-! the class's pad -/
def pOn (p : Nat → Int32) (ln : Int32) (g : xHp) : xHp := fun k => cond (Nat.beq k 137) (.inr (1, [.ref 138, .int ln])) (cond (Nat.beq k 138) (.inl (2, 80, .inl p)) (g k))
theorem pOn_w {p : Nat → Int32} {ln x : Int32} {g : xHp} : xup (pOn p ln g) 137 (.inr (1, [.ref 138, .int x])) = pOn p x g := by
  funext k
  by_cases hk : k = 137
  · subst hk; rfl
  · unfold xup
    rw [if_neg hk]
    have hb : Nat.beq k 137 = false := xbeq_no hk
    unfold pOn
    rw [hb]
    rfl
theorem pOn_p {p f f' : Nat → Int32} {ln : Int32} {g : xHp} (hf : f = f') : xup (pOn p ln g) 138 (.inl (2, 80, .inl f)) = pOn f' ln g := by
  subst hf
  funext k
  by_cases hk : k = 138
  · subst hk; rfl
  · unfold xup
    rw [if_neg hk]
    have hb : Nat.beq k 138 = false := xbeq_no hk
    unfold pOn
    rw [hb]
    rfl
def Pc (p : Nat → Int32) : Prop := ∀ j, ∃ v, v < 256 ∧ p j = nI v
def dg (s : Int32) : Bool := decide (48 ≤ s ∧ s ≤ 57)
def dbN : Nat → Int32 → Option Nat
  | 0, s => if s = 99 then some 1 else if s = 114 then some 4 else if s = 120 ∨ s = 98 ∨ s = 107 ∨ s = 102 then some 6 else none
  | 1, s => cond (dg s) (if s = 48 then some 3 else some 2) none
  | 2, s => cond (dg s) (some 3) (if s = 46 then some 6 else none)
  | 3, s => if s = 46 then some 6 else none
  | 4, s => cond (dg s) (if s = 48 then some 7 else some 5) none
  | 5, s => cond (dg s) (some 7) (if s = 59 then some 0 else none)
  | 6, s => cond (dg s) (some 7) none
  | _, s => if s = 59 then some 0 else none
def dbI (q : Option Nat) : Int32 := match q with | some k => nI k | none => -1
theorem dbN_le {due k : Nat} {s : Int32} (h : dbN due s = some k) : k ≤ 7 := by
  have g : ∀ q, dbN due s = q → q = none ∨ q = some 0 ∨ q = some 1 ∨ q = some 2 ∨ q = some 3 ∨ q = some 4 ∨ q = some 5 ∨ q = some 6 ∨ q = some 7 := by
    intro q hq
    subst hq
    unfold dbN
    split <;> (repeat' (first | split | (cases dg s <;> simp only [cond]))) <;> simp
  rcases g _ h with e | e | e | e | e | e | e | e | e <;> first | (cases e; done) | (have := Option.some.inj e; omega)
def faF (p : Nat → Int32) (ty : Nat) : Nat → Nat → Nat → Int32
  | 0, due, _ => if due = 7 ∨ due = 5 then -6 else nI ty
  | r + 1, due, i => match dbN due (p i) with | none => nI i | some k => faF p ty r k (i + 1)
def sg (p : Nat → Int32) (ty i : Nat) : Int32 := if i < ty then p i else 0
section RN6
variable {d i pc : Nat} {ls : xLs} {st : List Value} {h h' : xHp} {n n' : Nat} {v : Option Value}
theorem Rn.retK {e : xEn} {x : Int32} {ty : FieldType} (hf : xfind i pc = some e) (he : e.1 = .ireturn) (hty : (xMt i).2.2.2.1 = some ty) (hx : xnok ty x = true) (hv : some (Value.int x) = v) (hh : h = h') : Rn d i pc ls [.int x] h n v h' n := by
  obtain ⟨ins, e2⟩ := e
  dsimp only at he
  subst he
  refine Rn.retE hf rfl ?_ hv hh
  show xgd true (match (xMt i).2.2.2.1 with | some ty => xgd (xnok ty x) (some (some (Value.int x))) | none => none) = _
  rw [hty]
  show xgd (xnok ty x) _ = _
  rw [hx]
  rfl
end RN6
section CLASS7
variable (d n : Nat) (p : Nat → Int32) (g h : xHp)
theorem m_empty (ln : Int32) : Rn d 22 0 [(0, .ref 137)] [] (pOn p ln g) n (some (.int ln)) (pOn p 0 g) n := by
  refine Rn.steps 6 rfl ?_
  refine Rn.heap pOn_w ?_
  refine Rn.steps 1 rfl ?_
  exact Rn.retE rfl rfl rfl rfl rfl
theorem m_dig (s : Int32) : Rn d 23 0 [(0, .int s)] [] h n (some (.int (bi (dg s)))) h n := by
  refine Rn.br 3 rfl (fun hc3 => ?_) (fun hc3 => ?_)
  · rw [show dg s = false from decide_eq_false (fun q => Int32.not_le.mpr hc3 q.1)]
    refine Rn.steps 1 rfl ?_
    exact Rn.retE rfl rfl rfl rfl rfl
  · refine Rn.br 3 rfl (fun hc9 => ?_) (fun hc9 => ?_)
    · rw [show dg s = false from decide_eq_false (fun q => Int32.not_le.mpr hc9 q.2)]
      refine Rn.steps 1 rfl ?_
      exact Rn.retE rfl rfl rfl rfl rfl
    · rw [show dg s = true from decide_eq_true ⟨Int32.not_lt.mp hc3, Int32.not_lt.mp hc9⟩]
      refine Rn.steps 2 rfl ?_
      exact Rn.retE rfl rfl rfl rfl rfl
theorem m_dl (s : Int32) : Rn d 24 0 [(0, .int s)] [] h n (some (.int (dbI (dbN 0 s)))) h n := by
  by_cases h98 : s = 98
  · subst h98
    refine Rn.steps 2 rfl ?_
    refine Rn.steps 1 rfl ?_
    exact Rn.retE rfl rfl rfl rfl rfl
  by_cases h99 : s = 99
  · subst h99
    refine Rn.steps 2 rfl ?_
    refine Rn.steps 1 rfl ?_
    exact Rn.retE rfl rfl rfl rfl rfl
  by_cases h102 : s = 102
  · subst h102
    refine Rn.steps 2 rfl ?_
    refine Rn.steps 1 rfl ?_
    exact Rn.retE rfl rfl rfl rfl rfl
  by_cases h107 : s = 107
  · subst h107
    refine Rn.steps 2 rfl ?_
    refine Rn.steps 1 rfl ?_
    exact Rn.retE rfl rfl rfl rfl rfl
  by_cases h114 : s = 114
  · subst h114
    refine Rn.steps 2 rfl ?_
    refine Rn.steps 1 rfl ?_
    exact Rn.retE rfl rfl rfl rfl rfl
  by_cases h120 : s = 120
  · subst h120
    refine Rn.steps 2 rfl ?_
    refine Rn.steps 1 rfl ?_
    exact Rn.retE rfl rfl rfl rfl rfl
  rw [show dbN 0 s = none by show (if s = 99 then some 1 else if s = 114 then some 4 else if s = 120 ∨ s = 98 ∨ s = 107 ∨ s = 102 then some 6 else none) = none; rw [if_neg h99, if_neg h114, if_neg (by rintro (q | q | q | q) <;> contradiction)]]
  refine Rn.steps 1 rfl ?_
  refine Rn.lsw rfl rfl (off := 66) (by
    show Op.lookupswitch.offset [(98, 63), (99, 59), (102, 63), (107, 63), (114, 61), (120, 63)] 66 s.toInt = 66
    rw [Op.lookupswitch.offset_cons, if_neg (show ¬ (98 : Int) = s.toInt from tI_ne h98), Op.lookupswitch.offset_cons, if_neg (show ¬ (99 : Int) = s.toInt from tI_ne h99), Op.lookupswitch.offset_cons, if_neg (show ¬ (102 : Int) = s.toInt from tI_ne h102), Op.lookupswitch.offset_cons, if_neg (show ¬ (107 : Int) = s.toInt from tI_ne h107), Op.lookupswitch.offset_cons, if_neg (show ¬ (114 : Int) = s.toInt from tI_ne h114), Op.lookupswitch.offset_cons, if_neg (show ¬ (120 : Int) = s.toInt from tI_ne h120)]
    rfl) 67 rfl ?_
  refine Rn.steps 1 rfl ?_
  exact Rn.retE rfl rfl rfl rfl rfl
theorem m_db_0 (s : Int32) : Rn (d + 1) 25 0 [(0, .int 0), (1, .int s)] [] h n (some (.int (dbI (dbN 0 s)))) h n := by
  refine Rn.steps 1 rfl ?_
  refine Rn.call rfl rfl rfl (m_dig d n _ s) ?_
  refine Rn.steps 1 rfl ?_
  refine Rn.steps 1 rfl ?_
  refine Rn.steps 1 rfl ?_
  refine Rn.steps 1 rfl ?_
  refine Rn.call rfl rfl rfl (m_dl d n _ s) ?_
  exact Rn.retE rfl rfl rfl (by first | rfl | (show _ = some (Value.int (dbI (dbN 0 s))); (try rw [hd]); (try simp only [cond]); first | rfl | (rw [if_pos he]; rfl) | (rw [if_neg he]; rfl))) rfl
theorem m_db_1 (s : Int32) : Rn (d + 1) 25 0 [(0, .int 1), (1, .int s)] [] h n (some (.int (dbI (dbN 1 s)))) h n := by
  refine Rn.steps 1 rfl ?_
  refine Rn.call rfl rfl rfl (m_dig d n _ s) ?_
  refine Rn.steps 1 rfl ?_
  refine Rn.steps 1 rfl ?_
  refine Rn.steps 1 rfl ?_
  refine Rn.br 2 rfl (fun hc54 => ?_) (fun hc54 => ?_)
  · have hd := bi_eq0 hc54
    refine Rn.steps 2 rfl ?_
    exact Rn.retE rfl rfl rfl (by first | rfl | (show _ = some (Value.int (dbI (cond (dg s) (if s = 48 then some 3 else some 2) none))); (try rw [hd]); (try simp only [cond]); first | rfl | (rw [if_pos he]; rfl) | (rw [if_neg he]; rfl))) rfl
  · have hd := bi_ne0 hc54
    refine Rn.br 3 rfl (fun hc64 => ?_) (fun hc64 => ?_)
    · have he : s = 48 := hc64
      refine Rn.steps 2 rfl ?_
      exact Rn.retE rfl rfl rfl (by first | rfl | (show _ = some (Value.int (dbI (cond (dg s) (if s = 48 then some 3 else some 2) none))); (try rw [hd]); (try simp only [cond]); first | rfl | (rw [if_pos he]; rfl) | (rw [if_neg he]; rfl))) rfl
    · have he : ¬ s = 48 := hc64
      refine Rn.steps 1 rfl ?_
      exact Rn.retE rfl rfl rfl (by first | rfl | (show _ = some (Value.int (dbI (cond (dg s) (if s = 48 then some 3 else some 2) none))); (try rw [hd]); (try simp only [cond]); first | rfl | (rw [if_pos he]; rfl) | (rw [if_neg he]; rfl))) rfl
theorem m_db_2 (s : Int32) : Rn (d + 1) 25 0 [(0, .int 2), (1, .int s)] [] h n (some (.int (dbI (dbN 2 s)))) h n := by
  refine Rn.steps 1 rfl ?_
  refine Rn.call rfl rfl rfl (m_dig d n _ s) ?_
  refine Rn.steps 1 rfl ?_
  refine Rn.steps 1 rfl ?_
  refine Rn.steps 1 rfl ?_
  refine Rn.br 2 rfl (fun hc74 => ?_) (fun hc74 => ?_)
  · have hd := bi_eq0 hc74
    refine Rn.br 3 rfl (fun hc84 => ?_) (fun hc84 => ?_)
    · have he : s = 46 := hc84
      refine Rn.steps 2 rfl ?_
      exact Rn.retE rfl rfl rfl (by first | rfl | (show _ = some (Value.int (dbI (cond (dg s) (some 3) (if s = 46 then some 6 else none)))); (try rw [hd]); (try simp only [cond]); first | rfl | (rw [if_pos he]; rfl) | (rw [if_neg he]; rfl))) rfl
    · have he : ¬ s = 46 := hc84
      refine Rn.steps 1 rfl ?_
      exact Rn.retE rfl rfl rfl (by first | rfl | (show _ = some (Value.int (dbI (cond (dg s) (some 3) (if s = 46 then some 6 else none)))); (try rw [hd]); (try simp only [cond]); first | rfl | (rw [if_pos he]; rfl) | (rw [if_neg he]; rfl))) rfl
  · have hd := bi_ne0 hc74
    refine Rn.steps 2 rfl ?_
    exact Rn.retE rfl rfl rfl (by first | rfl | (show _ = some (Value.int (dbI (cond (dg s) (some 3) (if s = 46 then some 6 else none)))); (try rw [hd]); (try simp only [cond]); first | rfl | (rw [if_pos he]; rfl) | (rw [if_neg he]; rfl))) rfl
theorem m_db_3 (s : Int32) : Rn (d + 1) 25 0 [(0, .int 3), (1, .int s)] [] h n (some (.int (dbI (dbN 3 s)))) h n := by
  refine Rn.steps 1 rfl ?_
  refine Rn.call rfl rfl rfl (m_dig d n _ s) ?_
  refine Rn.steps 1 rfl ?_
  refine Rn.steps 1 rfl ?_
  refine Rn.steps 1 rfl ?_
  refine Rn.br 3 rfl (fun hc97 => ?_) (fun hc97 => ?_)
  · have he : s = 46 := hc97
    refine Rn.steps 2 rfl ?_
    exact Rn.retE rfl rfl rfl (by first | rfl | (show _ = some (Value.int (dbI (if s = 46 then some 6 else none))); (try rw [hd]); (try simp only [cond]); first | rfl | (rw [if_pos he]; rfl) | (rw [if_neg he]; rfl))) rfl
  · have he : ¬ s = 46 := hc97
    refine Rn.steps 1 rfl ?_
    exact Rn.retE rfl rfl rfl (by first | rfl | (show _ = some (Value.int (dbI (if s = 46 then some 6 else none))); (try rw [hd]); (try simp only [cond]); first | rfl | (rw [if_pos he]; rfl) | (rw [if_neg he]; rfl))) rfl
theorem m_db_4 (s : Int32) : Rn (d + 1) 25 0 [(0, .int 4), (1, .int s)] [] h n (some (.int (dbI (dbN 4 s)))) h n := by
  refine Rn.steps 1 rfl ?_
  refine Rn.call rfl rfl rfl (m_dig d n _ s) ?_
  refine Rn.steps 1 rfl ?_
  refine Rn.steps 1 rfl ?_
  refine Rn.steps 1 rfl ?_
  refine Rn.br 2 rfl (fun hc108 => ?_) (fun hc108 => ?_)
  · have hd := bi_eq0 hc108
    refine Rn.steps 2 rfl ?_
    exact Rn.retE rfl rfl rfl (by first | rfl | (show _ = some (Value.int (dbI (cond (dg s) (if s = 48 then some 7 else some 5) none))); (try rw [hd]); (try simp only [cond]); first | rfl | (rw [if_pos he]; rfl) | (rw [if_neg he]; rfl))) rfl
  · have hd := bi_ne0 hc108
    refine Rn.br 3 rfl (fun hc118 => ?_) (fun hc118 => ?_)
    · have he : s = 48 := hc118
      refine Rn.steps 2 rfl ?_
      exact Rn.retE rfl rfl rfl (by first | rfl | (show _ = some (Value.int (dbI (cond (dg s) (if s = 48 then some 7 else some 5) none))); (try rw [hd]); (try simp only [cond]); first | rfl | (rw [if_pos he]; rfl) | (rw [if_neg he]; rfl))) rfl
    · have he : ¬ s = 48 := hc118
      refine Rn.steps 1 rfl ?_
      exact Rn.retE rfl rfl rfl (by first | rfl | (show _ = some (Value.int (dbI (cond (dg s) (if s = 48 then some 7 else some 5) none))); (try rw [hd]); (try simp only [cond]); first | rfl | (rw [if_pos he]; rfl) | (rw [if_neg he]; rfl))) rfl
theorem m_db_5 (s : Int32) : Rn (d + 1) 25 0 [(0, .int 5), (1, .int s)] [] h n (some (.int (dbI (dbN 5 s)))) h n := by
  refine Rn.steps 1 rfl ?_
  refine Rn.call rfl rfl rfl (m_dig d n _ s) ?_
  refine Rn.steps 1 rfl ?_
  refine Rn.steps 1 rfl ?_
  refine Rn.steps 1 rfl ?_
  refine Rn.br 2 rfl (fun hc129 => ?_) (fun hc129 => ?_)
  · have hd := bi_eq0 hc129
    refine Rn.br 3 rfl (fun hc140 => ?_) (fun hc140 => ?_)
    · have he : s = 59 := hc140
      refine Rn.steps 2 rfl ?_
      exact Rn.retE rfl rfl rfl (by first | rfl | (show _ = some (Value.int (dbI (cond (dg s) (some 7) (if s = 59 then some 0 else none)))); (try rw [hd]); (try simp only [cond]); first | rfl | (rw [if_pos he]; rfl) | (rw [if_neg he]; rfl))) rfl
    · have he : ¬ s = 59 := hc140
      refine Rn.steps 1 rfl ?_
      exact Rn.retE rfl rfl rfl (by first | rfl | (show _ = some (Value.int (dbI (cond (dg s) (some 7) (if s = 59 then some 0 else none)))); (try rw [hd]); (try simp only [cond]); first | rfl | (rw [if_pos he]; rfl) | (rw [if_neg he]; rfl))) rfl
  · have hd := bi_ne0 hc129
    refine Rn.steps 2 rfl ?_
    exact Rn.retE rfl rfl rfl (by first | rfl | (show _ = some (Value.int (dbI (cond (dg s) (some 7) (if s = 59 then some 0 else none)))); (try rw [hd]); (try simp only [cond]); first | rfl | (rw [if_pos he]; rfl) | (rw [if_neg he]; rfl))) rfl
theorem m_db_6 (s : Int32) : Rn (d + 1) 25 0 [(0, .int 6), (1, .int s)] [] h n (some (.int (dbI (dbN 6 s)))) h n := by
  refine Rn.steps 1 rfl ?_
  refine Rn.call rfl rfl rfl (m_dig d n _ s) ?_
  refine Rn.steps 1 rfl ?_
  refine Rn.steps 1 rfl ?_
  refine Rn.steps 1 rfl ?_
  refine Rn.br 2 rfl (fun hc150 => ?_) (fun hc150 => ?_)
  · have hd := bi_eq0 hc150
    refine Rn.steps 1 rfl ?_
    exact Rn.retE rfl rfl rfl (by first | rfl | (show _ = some (Value.int (dbI (cond (dg s) (some 7) none))); (try rw [hd]); (try simp only [cond]); first | rfl | (rw [if_pos he]; rfl) | (rw [if_neg he]; rfl))) rfl
  · have hd := bi_ne0 hc150
    refine Rn.steps 2 rfl ?_
    exact Rn.retE rfl rfl rfl (by first | rfl | (show _ = some (Value.int (dbI (cond (dg s) (some 7) none))); (try rw [hd]); (try simp only [cond]); first | rfl | (rw [if_pos he]; rfl) | (rw [if_neg he]; rfl))) rfl
theorem m_db_7 (s : Int32) : Rn (d + 1) 25 0 [(0, .int 7), (1, .int s)] [] h n (some (.int (dbI (dbN 7 s)))) h n := by
  refine Rn.steps 1 rfl ?_
  refine Rn.call rfl rfl rfl (m_dig d n _ s) ?_
  refine Rn.steps 1 rfl ?_
  refine Rn.steps 1 rfl ?_
  refine Rn.steps 1 rfl ?_
  refine Rn.br 3 rfl (fun hc163 => ?_) (fun hc163 => ?_)
  · have he : s = 59 := hc163
    refine Rn.steps 2 rfl ?_
    exact Rn.retE rfl rfl rfl (by first | rfl | (show _ = some (Value.int (dbI (if s = 59 then some 0 else none))); (try rw [hd]); (try simp only [cond]); first | rfl | (rw [if_pos he]; rfl) | (rw [if_neg he]; rfl))) rfl
  · have he : ¬ s = 59 := hc163
    refine Rn.steps 1 rfl ?_
    exact Rn.retE rfl rfl rfl (by first | rfl | (show _ = some (Value.int (dbI (if s = 59 then some 0 else none))); (try rw [hd]); (try simp only [cond]); first | rfl | (rw [if_pos he]; rfl) | (rw [if_neg he]; rfl))) rfl
theorem m_db (k : Nat) (hk : k ≤ 7) (s : Int32) : Rn (d + 1) 25 0 [(0, .int (nI k)), (1, .int s)] [] h n (some (.int (dbI (dbN k s)))) h n := by
  rcases (by omega : k = 0 ∨ k = 1 ∨ k = 2 ∨ k = 3 ∨ k = 4 ∨ k = 5 ∨ k = 6 ∨ k = 7) with q | q | q | q | q | q | q | q <;> subst q
  · exact m_db_0 d n h s
  · exact m_db_1 d n h s
  · exact m_db_2 d n h s
  · exact m_db_3 d n h s
  · exact m_db_4 d n h s
  · exact m_db_5 d n h s
  · exact m_db_6 d n h s
  · exact m_db_7 d n h s
theorem m_faL (ty : Nat) (hty : ty ≤ 80) : ∀ (r due i : Nat), due ≤ 7 → i + r = ty → Rn (d + 2) 26 4 [(0, .ref 137), (1, .int (nI due)), (2, .int (nI i))] [] (pOn p (nI ty) g) n (some (.int (faF p ty r due i))) (pOn p (nI ty) g) n := by
  intro r
  induction r with
  | zero =>
    intro due i hd hi
    have e : i = ty := by omega
    subst e
    refine Rn.br 4 rfl (fun hc9 => ?_) (fun hc9 => ?_)
    · refine Rn.br 3 rfl (fun hc39 => ?_) (fun hc39 => ?_)
      · have q : due = 7 := (nI_eq (by omega) (by omega)).mp hc39
        rw [show faF p i 0 due i = -6 from if_pos (Or.inl q)]
        refine Rn.steps 2 rfl ?_
        exact Rn.retE rfl rfl rfl rfl rfl
      · have q : ¬ due = 7 := fun e => hc39 (by rw [e]; rfl)
        refine Rn.br 3 rfl (fun hc44 => ?_) (fun hc44 => ?_)
        · have q5 : due = 5 := (nI_eq (by omega) (by omega)).mp hc44
          rw [show faF p i 0 due i = -6 from if_pos (Or.inr q5)]
          refine Rn.steps 2 rfl ?_
          exact Rn.retE rfl rfl rfl rfl rfl
        · have q5 : ¬ due = 5 := fun e => hc44 (by rw [e]; rfl)
          rw [show faF p i 0 due i = nI i from if_neg (by omega)]
          refine Rn.steps 2 rfl ?_
          exact Rn.retE rfl rfl rfl rfl rfl
    · exact (hc9 (nI_le (Nat.le_refl _) (by omega))).elim
  | succ r ih =>
    intro due i hd hi
    refine Rn.br 4 rfl (fun hc9 => ?_) (fun hc9 => ?_)
    · exact (nI_ge (show i < ty by omega) (by omega) hc9).elim
    · refine Rn.steps 4 rfl ?_
      refine Rn.caldN (m := i) rfl rfl rfl (rfl) (by omega) (Nat.le_of_ble_eq_true rfl) ?_
      refine Rn.call rfl rfl rfl (m_db d n _ due hd (p i)) ?_
      refine Rn.br 4 rfl (fun hc25 => ?_) (fun hc25 => ?_)
      · have hq : dbN due (p i) = none := by
          cases hb : dbN due (p i) with
          | none => rfl
          | some k => rw [hb] at hc25; exact absurd (show nI k = -1 from hc25) (nI_no1 (by have := dbN_le hb; omega))
        rw [show faF p ty (r + 1) due i = nI i by rw [faF, hq]]
        refine Rn.steps 1 rfl ?_
        exact Rn.retE rfl rfl rfl rfl rfl
      · cases hq : dbN due (p i) with
        | none => exact (hc25 (by rw [hq]; rfl)).elim
        | some k =>
        rw [show faF p ty (r + 1) due i = faF p ty r k (i + 1) by rw [faF, hq]]
        refine Rn.steps 2 rfl ?_
        exact Rn.l3 rfl rfl rfl (by rw [← nI_1 i]; rfl) (ih k (i + 1) (dbN_le hq) (by omega))
theorem m_fa (ty : Nat) (hty : ty ≤ 80) : Rn (d + 2) 26 0 [(0, .ref 137)] [] (pOn p (nI ty) g) n (some (.int (faF p ty ty 0 0))) (pOn p (nI ty) g) n := by
  refine Rn.steps 4 rfl ?_
  exact Rn.l3 rfl rfl rfl rfl (m_faL d n p g ty hty ty 0 0 (by omega) (by omega))
end CLASS7
section MODEL11
variable (d n : Nat) (g : xHp)
end MODEL11
