/-! the law's walk: rules; its cell(), bits(), seen() -/
section LRULES
variable {d i pc : Nat} {ls : xLs} {st : List Value} {h h' : xHp} {n n' : Nat} {v : Option Value}
theorem Rn.bt (k : Nat) {c : Prop} [Decidable c] {a b : Nat} {ls1 : xLs} {st1 : List Value} {h1 : xHp} {n1 : Nat} (hx : xit d i k pc ls st h n = some (if c then a else b, ls1, st1, h1, n1)) (hc : c) (kk : Rn d i a ls1 st1 h1 n1 v h' n') : Rn d i pc ls st h n v h' n' := by
  refine Rn.steps k hx ?_
  rw [if_pos hc]
  exact kk
theorem Rn.bf (k : Nat) {c : Prop} [Decidable c] {a b : Nat} {ls1 : xLs} {st1 : List Value} {h1 : xHp} {n1 : Nat} (hx : xit d i k pc ls st h n = some (if c then a else b, ls1, st1, h1, n1)) (hc : ¬ c) (kk : Rn d i b ls1 st1 h1 n1 v h' n') : Rn d i pc ls st h n v h' n' := by
  refine Rn.steps k hx ?_
  rw [if_neg hc]
  exact kk
def xhas (ls : xLs) : xLs → Prop | [] => True | q :: r => xld ls q.1 = some q.2 ∧ xhas ls r
theorem xhas_of {ls : xLs} : ∀ {ls0 : xLs}, xhas ls ls0 → ∀ q ∈ ls0, xld ls q.1 = some q.2 := by
  intro ls0
  induction ls0 with
  | nil => intro _ q hq; cases hq
  | cons a r ih =>
    intro hh q hq
    rcases List.mem_cons.mp hq with e | e
    · rw [e]; exact hh.1
    · exact ih hh.2 q e
/-- the locals that are needed, in their order -/
theorem Rn.lx (ls0 : xLs) (ks : List Nat) (hk : ls0.map (fun q => q.1) = ks) (hn : ks.Nodup) (hs : xhas ls ls0) (kk : Rn d i pc ls0 st h n v h' n') : Rn d i pc ls st h n v h' n' := Rn.locals ls0 (show List.Nodup (ls0.map (fun q => q.1)) by rw [hk]; exact hn) (xhas_of hs) kk
theorem Rn.idiv {e : xEn} {x y : Int32} {r : List Value} (hf : xfind i pc = some e) (he : e.1 = .idiv) (hy : ¬ y = 0) (kk : Rn d i (pc + 1) ls (.int (x / y) :: r) h n v h' n') : Rn d i pc ls (.int y :: .int x :: r) h n v h' n' := by
  obtain ⟨ins, e2⟩ := e
  dsimp only at he
  subst he
  refine Rn.step1 hf rfl ?_ kk
  show xgp (¬ y = 0) _ = _
  rw [xgp_pos hy]
  rfl
end LRULES
/-- what count() and of() answer, by the number -/
def cnV (z : Nat → Int32) (k : Nat) : Int32 := [2 * z 0, mSet z 10, z 3, z 4, z 5, z 6, z 7, mSum z 1 10, z 8, z 9, z 0, z 1, z 2].getD k 0
def ofV (z : Nat → Int32) (e j : Nat) : Int32 := cond (zt z e) ([z (10 + 7 * e) / 4, rm (z (10 + 7 * e)) 4, z (10 + 7 * e + 1), z (10 + 7 * e + 2), z (10 + 7 * e + 3), z (10 + 7 * e + 4), z (10 + 7 * e + 5), bi (guF (z (10 + 7 * e)))].getD j 0) (-1)
def sA (z : Nat → Int32) : Nat → Int64 | 0 => 113 | k + 1 => 31 * sA z k + (cnV z k).toInt64
def sB (z : Nat → Int32) : Nat → Int64 | 0 => sA z 13 | k + 1 => 31 * sB z k + (ofV z (k / 8) (k % 8)).toInt64
def snF (z : Nat → Int32) : Int64 := sB z 80
theorem rm_n {a b : Nat} (ha : a < 2 ^ 31) (h0 : 0 < b) (hb : b < 2 ^ 31) : rm (nI a) (nI b) = nI (a % b) := pk_rem ha h0 hb
section LAW1
variable {X : xLC} {c : Nat} {z t : Nat → Int32} {u0 u1 : Option (Nat → Int32)} {h : xHp} {P : Nat}
variable (d n : Nat)
theorem isC_no {e : Nat} (he : e < 10) (hz : zt z e = false) : isC z (nI e) = false := (isC_nI he).trans hz
theorem k_countN (hS : ST X c z t u0 u1 h) (k : Nat) (hk : k < 13) : Rn (d + 2) 71 0 [(0, .ref 3), (1, .int (nI k))] [] h n (some (.int (cnV z k))) h n := by
  rcases (by omega : k = 0 ∨ k = 1 ∨ k = 2 ∨ k = 3 ∨ k = 4 ∨ k = 5 ∨ k = 6 ∨ k = 7 ∨ k = 8 ∨ k = 9 ∨ k = 10 ∨ k = 11 ∨ k = 12) with g | g | g | g | g | g | g | g | g | g | g | g | g <;> subst g
  · exact Rn.val (show 2 * z 0 = cnV z 0 from rfl) (k_count_0 d n hS)
  · exact Rn.val (show mSet z 10 = cnV z 1 from rfl) (k_count_1 d n hS)
  · exact Rn.val (show z 3 = cnV z 2 from rfl) (k_count_2 d n hS)
  · exact Rn.val (show z 4 = cnV z 3 from rfl) (k_count_3 d n hS)
  · exact Rn.val (show z 5 = cnV z 4 from rfl) (k_count_4 d n hS)
  · exact Rn.val (show z 6 = cnV z 5 from rfl) (k_count_5 d n hS)
  · exact Rn.val (show z 7 = cnV z 6 from rfl) (k_count_6 d n hS)
  · exact Rn.val (show mSum z 1 10 = cnV z 7 from rfl) (k_count_7 d n hS)
  · exact Rn.val (show z 8 = cnV z 8 from rfl) (k_count_8 d n hS)
  · exact Rn.val (show z 9 = cnV z 9 from rfl) (k_count_9 d n hS)
  · exact Rn.val (show z 0 = cnV z 10 from rfl) (k_count_10 d n hS)
  · exact Rn.val (show z 1 = cnV z 11 from rfl) (k_count_11 d n hS)
  · exact Rn.val (show z 2 = cnV z 12 from rfl) (k_count_12 d n hS)
theorem k_ofN (hS : ST X c z t u0 u1 h) (hf : Fl z) (e k : Nat) (he : e < 10) (hk : k < 8) : Rn (d + 2) 68 0 [(0, .ref 3), (1, .int (nI e)), (2, .int (nI k))] [] h n (some (.int (ofV z e k))) h n := by
  unfold ofV
  cases hz : zt z e with
  | false => exact k_of_bad d n hS (nI e) (nI k) (isC_no he hz)
  | true =>
    rcases (by omega : k = 0 ∨ k = 1 ∨ k = 2 ∨ k = 3 ∨ k = 4 ∨ k = 5 ∨ k = 6 ∨ k = 7) with g | g | g | g | g | g | g | g <;> subst g
    · exact k_of_0 d n hS e he hz
    · exact k_of_1 d n hS e he hz
    · exact k_of_2 d n hS e he hz
    · exact k_of_3 d n hS hf e he hz
    · exact k_of_4 d n hS e he hz
    · exact k_of_5 d n hS e he hz
    · exact k_of_6 d n hS e he hz
    · exact k_of_7 d n hS e he hz
theorem l_cell {L : Nat} {xs : Nat → Int32} (hX : h 0 = .inl (0, L, .inl xs)) (hL : L ≤ 260) (k : Nat) (hk : k < 1000) : ∃ x, x < 2 ^ 31 ∧ Rn d 86 0 [(0, .ref 0), (1, .int (nI k))] [] h n (some (.int (nI x))) h n := by
  by_cases g : nI L ≤ nI k
  · obtain ⟨x, x1, x2⟩ := pk_andE (1537002063 * (nI k + 191) + 38011) (m := 2147483647) 31 (by decide)
    refine ⟨x, x1, ?_⟩
    refine Rn.steps 2 rfl ?_
    refine Rn.alen rfl rfl hX rfl ?_
    refine Rn.bt 1 rfl (g) ?_
    refine Rn.steps 9 rfl ?_
    exact Rn.retE rfl rfl rfl (by rw [x2]) rfl
  · have hlt : k < L := by
      rcases Nat.lt_or_ge k L with q | q
      · exact q
      · exact (g (nI_le q (by omega))).elim
    obtain ⟨x, x1, x2⟩ := pk_andE (xs k) (m := 2147483647) 31 (by decide)
    refine ⟨x, x1, ?_⟩
    refine Rn.steps 2 rfl ?_
    refine Rn.alen rfl rfl hX rfl ?_
    refine Rn.bf 1 rfl (g) ?_
    refine Rn.steps 2 rfl ?_
    refine Rn.ialdN (m := k) rfl rfl hX rfl hlt (by omega) ?_
    refine Rn.steps 3 rfl ?_
    exact Rn.retE rfl rfl rfl (by rw [x2]) rfl
theorem l_bitsL (f : Nat) : ∀ (x k r : Int32), btF f x k = some r → Rn d 91 4 [(1, .int k), (2, .int x)] [] h n (some (.int r)) h n := by
  induction f with
  | zero => intro x k r hr; cases hr
  | succ f ih =>
    intro x k r hr
    unfold btF at hr
    by_cases g : x = 0
    · rw [if_pos g] at hr
      cases hr
      refine Rn.bt 2 rfl (g) ?_
      refine Rn.steps 1 rfl ?_
      exact Rn.retE rfl rfl rfl rfl rfl
    · rw [if_neg g] at hr
      refine Rn.bf 2 rfl (g) ?_
      refine Rn.steps 8 rfl ?_
      exact Rn.l2 rfl rfl rfl (ih _ _ _ hr)
theorem l_bits (z : Nat → Int32) : Rn d 91 0 [(0, .int (mSet z 10))] [] h n (some (.int (mMany z 10))) h n := by
  refine Rn.steps 4 rfl ?_
  exact Rn.l2 rfl rfl rfl (l_bitsL d n 11 _ _ _ (set_bt z))
theorem l_seen (hS : ST X c z t u0 u1 h) (hf : Fl z) : Rn (d + 3) 87 0 [(0, .ref 3)] [] h n (some (.long (snF z))) h n := by
  obtain ⟨fs, hb⟩ := hS.h3
  refine Rn.steps 4 rfl ?_
  refine Rn.lx [(0, .ref 3), (1, .long (sA z 0)), (3, .int (nI 0))] [0, 1, 3] rfl (by decide) ⟨rfl, rfl, rfl, trivial⟩ ?_
  refine xloop (fun k => Rn (d + 3) 87 6 [(0, .ref 3), (1, .long (sA z k)), (3, .int (nI k))] [] h n (some (.long (snF z))) h n) 13 ?_ (fun k hk ih => ?_)
  · show Rn (d + 3) 87 6 [(0, .ref 3), (1, .long (sA z 13)), (3, .int (nI 13))] [] h n _ _ n
    refine Rn.steps 5 rfl ?_
    refine Rn.lx [(0, .ref 3), (1, .long (sB z 0)), (3, .int (nI 0))] [0, 1, 3] rfl (by decide) ⟨rfl, rfl, rfl, trivial⟩ ?_
    refine xloop (fun k => Rn (d + 3) 87 33 [(0, .ref 3), (1, .long (sB z k)), (3, .int (nI k))] [] h n (some (.long (snF z))) h n) 80 ?_ (fun k hk ih => ?_)
    · show Rn (d + 3) 87 33 [(0, .ref 3), (1, .long (sB z 80)), (3, .int (nI 80))] [] h n _ _ n
      refine Rn.steps 4 rfl ?_
      exact Rn.retE rfl rfl rfl rfl rfl
    · have e1 : nI k / 8 = nI (k / 8) := pk_div (d := 8) (by omega) (by omega) (by omega)
      have e2 : rm (nI k) 8 = nI (k % 8) := rm_n (b := 8) (by omega) (by omega) (by omega)
      refine Rn.bf 3 rfl (nI_ge (a := k) (b := 80) hk (by omega)) ?_
      refine Rn.steps 6 rfl ?_
      refine Rn.idiv rfl rfl (by decide) ?_
      rw [e1]
      refine Rn.steps 2 rfl ?_
      refine Rn.irem rfl rfl (by decide) ?_
      rw [e2]
      refine Rn.callO rfl rfl rfl hb rfl rfl rfl rfl rfl rfl (k_ofN d n hS hf (k / 8) (k % 8) (by omega) (by omega)) ?_
      refine Rn.steps 5 rfl ?_
      exact Rn.lx [(0, .ref 3), (1, .long (sB z (k + 1))), (3, .int (nI (k + 1)))] [0, 1, 3] rfl (by decide) ⟨rfl, rfl, (by rw [← nI_1 k]; rfl), trivial⟩ ih
  · refine Rn.steps 0 rfl ?_
    refine Rn.bf 3 rfl (nI_ge (a := k) (b := 13) hk (by omega)) ?_
    refine Rn.steps 5 rfl ?_
    refine Rn.callO rfl rfl rfl hb rfl rfl rfl rfl rfl rfl (k_countN d n hS k hk) ?_
    refine Rn.steps 5 rfl ?_
    exact Rn.lx [(0, .ref 3), (1, .long (sA z (k + 1))), (3, .int (nI (k + 1)))] [0, 1, 3] rfl (by decide) ⟨rfl, rfl, (by rw [← nI_1 k]; rfl), trivial⟩ ih
end LAW1
