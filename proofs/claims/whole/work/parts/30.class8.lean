/-! the class's object: what looks, texts, undo, slots -/
def frC (x : Int64) (hn : Int32) : Nat → Int32 | 0 => 0 | c + 1 => frC x hn c + bi (sfF x hn (nI c))
def ffC (x : Int64) (hn : Int32) : Nat → Nat → Int32 | 0, _ => -6 | r + 1, c => cond (sfF x hn (nI c)) (nI c) (ffC x hn r (c + 1))
theorem bi_if {b : Bool} : (if bi b = 0 then (0 : Int32) else 1) = bi b := by cases b <;> rfl
theorem fl_01 {x : Int32} (h : x = 0 ∨ x = 1) : (if x = 0 then (0 : Int32) else 1) = x := by
  rcases h with rfl | rfl <;> rfl
theorem le1_of {x : Int32} (h : x < 2) : x ≤ 1 := by
  have := Int32.lt_iff_toInt_lt.mp h
  exact Int32.le_iff_toInt_le.mpr (by show x.toInt ≤ 1; have : x.toInt < 2 := this; omega)
section CLASS9
variable (d n : Nat) (z s : Nat → Int32) (g : xHp)
theorem m_ctell_0 (c : Nat) (hc : c < 10) (hz : zt z c = true) : Rn d 7 0 [(0, .ref (7 + c)), (1, .int 0)] [] (tOn z s g) n (some (.int (z (10 + 7 * c) / 4))) (tOn z s g) n := by
  refine Rn.steps 2 rfl ?_
  refine Rn.steps 1 rfl ?_
  refine Rn.getf rfl rfl (tOn_c hc) (cf_p hz) ?_
  refine Rn.steps 2 rfl ?_
  exact Rn.retE rfl rfl rfl rfl rfl
theorem m_ctell_1 (c : Nat) (hc : c < 10) (hz : zt z c = true) : Rn d 7 0 [(0, .ref (7 + c)), (1, .int 1)] [] (tOn z s g) n (some (.int (rm (z (10 + 7 * c)) 4))) (tOn z s g) n := by
  refine Rn.steps 2 rfl ?_
  refine Rn.steps 1 rfl ?_
  refine Rn.getf rfl rfl (tOn_c hc) (cf_p hz) ?_
  refine Rn.steps 1 rfl ?_
  refine Rn.irem rfl rfl (by decide) ?_
  exact Rn.retE rfl rfl rfl rfl rfl
theorem m_ctell_2 (c : Nat) (hc : c < 10) (hz : zt z c = true) : Rn d 7 0 [(0, .ref (7 + c)), (1, .int 2)] [] (tOn z s g) n (some (.int (z (10 + 7 * c + 1)))) (tOn z s g) n := by
  refine Rn.steps 2 rfl ?_
  refine Rn.steps 1 rfl ?_
  refine Rn.getf rfl rfl (tOn_c hc) rfl ?_
  exact Rn.retE rfl rfl rfl rfl rfl
theorem m_ctell_3 (c : Nat) (hc : c < 10) (hz : zt z c = true) (hf : Fl z) : Rn d 7 0 [(0, .ref (7 + c)), (1, .int 3)] [] (tOn z s g) n (some (.int (z (10 + 7 * c + 2)))) (tOn z s g) n := by
  refine Rn.steps 2 rfl ?_
  refine Rn.steps 1 rfl ?_
  refine Rn.getf rfl rfl (tOn_c hc) rfl ?_
  refine Rn.br 1 rfl (fun hc71 => ?_) (fun hc71 => ?_)
  · have hv : z (10 + 7 * c + 2) = 0 := hc71
    refine Rn.steps 1 rfl ?_
    exact Rn.retE rfl rfl rfl (by rw [hv]) rfl
  · have hv : z (10 + 7 * c + 2) = 1 := (hf c hc).resolve_left hc71
    refine Rn.steps 2 rfl ?_
    exact Rn.retE rfl rfl rfl (by rw [hv]) rfl
theorem m_ctell_4 (c : Nat) (hc : c < 10) (hz : zt z c = true) : Rn d 7 0 [(0, .ref (7 + c)), (1, .int 4)] [] (tOn z s g) n (some (.int (z (10 + 7 * c + 3)))) (tOn z s g) n := by
  refine Rn.steps 2 rfl ?_
  refine Rn.steps 1 rfl ?_
  refine Rn.getf rfl rfl (tOn_c hc) rfl ?_
  exact Rn.retE rfl rfl rfl rfl rfl
theorem m_ctell_5 (c : Nat) (hc : c < 10) (hz : zt z c = true) : Rn d 7 0 [(0, .ref (7 + c)), (1, .int 5)] [] (tOn z s g) n (some (.int (z (10 + 7 * c + 4)))) (tOn z s g) n := by
  refine Rn.steps 2 rfl ?_
  refine Rn.steps 1 rfl ?_
  refine Rn.getf rfl rfl (tOn_c hc) rfl ?_
  exact Rn.retE rfl rfl rfl rfl rfl
theorem m_ctell_6 (c : Nat) (hc : c < 10) (hz : zt z c = true) : Rn d 7 0 [(0, .ref (7 + c)), (1, .int 6)] [] (tOn z s g) n (some (.int (z (10 + 7 * c + 5)))) (tOn z s g) n := by
  refine Rn.steps 2 rfl ?_
  refine Rn.steps 1 rfl ?_
  refine Rn.getf rfl rfl (tOn_c hc) rfl ?_
  exact Rn.retE rfl rfl rfl rfl rfl
theorem m_ctell_7 (c : Nat) (hc : c < 10) (hz : zt z c = true) : Rn (d + 1) 7 0 [(0, .ref (7 + c)), (1, .int 7)] [] (tOn z s g) n (some (.int (bi (guF (z (10 + 7 * c)))))) (tOn z s g) n := by
  refine Rn.steps 2 rfl ?_
  refine Rn.steps 1 rfl ?_
  refine Rn.getf rfl rfl (tOn_c hc) (cf_p hz) ?_
  refine Rn.call rfl rfl rfl (m_goesUp d n _ _) ?_
  refine Rn.br 1 rfl (fun hc102 => ?_) (fun hc102 => ?_)
  · have hv := bi_eq0 hc102
    refine Rn.steps 1 rfl ?_
    exact Rn.retE rfl rfl rfl (by rw [hv]; rfl) rfl
  · have hv := bi_ne0 hc102
    refine Rn.steps 2 rfl ?_
    exact Rn.retE rfl rfl rfl (by rw [hv]; rfl) rfl
theorem m_ctell_out (c : Nat) (y : Int32) (hy : y.toInt < 0 ∨ 7 < y.toInt) (h : xHp) : Rn d 7 0 [(0, .ref (7 + c)), (1, .int y)] [] h n (some (.int (-2))) h n := by
  refine Rn.steps 1 rfl ?_
  refine Rn.swOut rfl rfl hy 111 rfl ?_
  refine Rn.steps 1 rfl ?_
  exact Rn.retE rfl rfl rfl rfl rfl
theorem t_tell_out (y : Int32) (hy : y.toInt < 0 ∨ 12 < y.toInt) (h : xHp) : Rn d 57 0 [(0, .ref 4), (1, .int y)] [] h n (some (.int (-2))) h n := by
  refine Rn.steps 1 rfl ?_
  refine Rn.swOut rfl rfl hy 139 rfl ?_
  refine Rn.steps 1 rfl ?_
  exact Rn.retE rfl rfl rfl rfl rfl
end CLASS9
section CLASS10
variable {A : Nat → Nat → Int32} {w : Nat → Int32} {p : Nat → Int32} {ln ch : Int32} {R R2 : Nat → Option Nat} {sv z s : Nat → Int32} {q : xHp}
variable (d n : Nat) (hr : Nat → Nat) (Z S : Nat → Nat → Int32)
theorem b_of_bad (x y : Int32) (hx : isC z x = false) : Rn (d + 2) 68 0 [(0, .ref 3), (1, .int x), (2, .int y)] [] (FF A w p ln ch R R2 sv z s q) n (some (.int (-1))) (FF A w p ln ch R R2 sv z s q) n := by
  refine Rn.steps 3 rfl ?_
  refine Rn.call rfl rfl rfl (Rn.tk (t_has (d + 1) n z s _ x)) ?_
  rw [hx]
  refine Rn.steps 2 rfl ?_
  exact Rn.retE rfl rfl rfl rfl rfl
theorem b_of_0 (c : Nat) (hc : c < 10) (hz : zt z c = true) : Rn (d + 2) 68 0 [(0, .ref 3), (1, .int (nI c)), (2, .int 0)] [] (FF A w p ln ch R R2 sv z s q) n (some (.int (z (10 + 7 * c) / 4))) (FF A w p ln ch R R2 sv z s q) n := by
  refine Rn.steps 3 rfl ?_
  refine Rn.call rfl rfl rfl (Rn.tk (t_has (d + 1) n z s _ (nI c))) ?_
  rw [isC_nI hc, hz]
  refine Rn.steps 5 rfl ?_
  refine Rn.aaldN (m := c) rfl rfl rfl rfl rfl hc (Nat.le_of_ble_eq_true rfl) (crow hc) ?_
  refine Rn.steps 1 rfl ?_
  refine Rn.callO rfl rfl rfl (show (FF A w p ln ch R R2 sv z s q) (7 + c) = .inr (0, cf z s c) by rw [FF_t]; exact tOn_c hc) rfl rfl rfl rfl rfl rfl (Rn.tk (m_ctell_0 (d + 1) n z s _ c hc hz)) ?_
  exact Rn.retE rfl rfl rfl rfl rfl
theorem b_of_1 (c : Nat) (hc : c < 10) (hz : zt z c = true) : Rn (d + 2) 68 0 [(0, .ref 3), (1, .int (nI c)), (2, .int 1)] [] (FF A w p ln ch R R2 sv z s q) n (some (.int (rm (z (10 + 7 * c)) 4))) (FF A w p ln ch R R2 sv z s q) n := by
  refine Rn.steps 3 rfl ?_
  refine Rn.call rfl rfl rfl (Rn.tk (t_has (d + 1) n z s _ (nI c))) ?_
  rw [isC_nI hc, hz]
  refine Rn.steps 5 rfl ?_
  refine Rn.aaldN (m := c) rfl rfl rfl rfl rfl hc (Nat.le_of_ble_eq_true rfl) (crow hc) ?_
  refine Rn.steps 1 rfl ?_
  refine Rn.callO rfl rfl rfl (show (FF A w p ln ch R R2 sv z s q) (7 + c) = .inr (0, cf z s c) by rw [FF_t]; exact tOn_c hc) rfl rfl rfl rfl rfl rfl (Rn.tk (m_ctell_1 (d + 1) n z s _ c hc hz)) ?_
  exact Rn.retE rfl rfl rfl rfl rfl
theorem b_of_2 (c : Nat) (hc : c < 10) (hz : zt z c = true) : Rn (d + 2) 68 0 [(0, .ref 3), (1, .int (nI c)), (2, .int 2)] [] (FF A w p ln ch R R2 sv z s q) n (some (.int (z (10 + 7 * c + 1)))) (FF A w p ln ch R R2 sv z s q) n := by
  refine Rn.steps 3 rfl ?_
  refine Rn.call rfl rfl rfl (Rn.tk (t_has (d + 1) n z s _ (nI c))) ?_
  rw [isC_nI hc, hz]
  refine Rn.steps 5 rfl ?_
  refine Rn.aaldN (m := c) rfl rfl rfl rfl rfl hc (Nat.le_of_ble_eq_true rfl) (crow hc) ?_
  refine Rn.steps 1 rfl ?_
  refine Rn.callO rfl rfl rfl (show (FF A w p ln ch R R2 sv z s q) (7 + c) = .inr (0, cf z s c) by rw [FF_t]; exact tOn_c hc) rfl rfl rfl rfl rfl rfl (Rn.tk (m_ctell_2 (d + 1) n z s _ c hc hz)) ?_
  exact Rn.retE rfl rfl rfl rfl rfl
theorem b_of_3 (c : Nat) (hc : c < 10) (hz : zt z c = true) (hf : Fl z) : Rn (d + 2) 68 0 [(0, .ref 3), (1, .int (nI c)), (2, .int 3)] [] (FF A w p ln ch R R2 sv z s q) n (some (.int (z (10 + 7 * c + 2)))) (FF A w p ln ch R R2 sv z s q) n := by
  refine Rn.steps 3 rfl ?_
  refine Rn.call rfl rfl rfl (Rn.tk (t_has (d + 1) n z s _ (nI c))) ?_
  rw [isC_nI hc, hz]
  refine Rn.steps 5 rfl ?_
  refine Rn.aaldN (m := c) rfl rfl rfl rfl rfl hc (Nat.le_of_ble_eq_true rfl) (crow hc) ?_
  refine Rn.steps 1 rfl ?_
  refine Rn.callO rfl rfl rfl (show (FF A w p ln ch R R2 sv z s q) (7 + c) = .inr (0, cf z s c) by rw [FF_t]; exact tOn_c hc) rfl rfl rfl rfl rfl rfl (Rn.tk (m_ctell_3 (d + 1) n z s _ c hc hz hf)) ?_
  exact Rn.retE rfl rfl rfl rfl rfl
theorem b_of_4 (c : Nat) (hc : c < 10) (hz : zt z c = true) : Rn (d + 2) 68 0 [(0, .ref 3), (1, .int (nI c)), (2, .int 4)] [] (FF A w p ln ch R R2 sv z s q) n (some (.int (z (10 + 7 * c + 3)))) (FF A w p ln ch R R2 sv z s q) n := by
  refine Rn.steps 3 rfl ?_
  refine Rn.call rfl rfl rfl (Rn.tk (t_has (d + 1) n z s _ (nI c))) ?_
  rw [isC_nI hc, hz]
  refine Rn.steps 5 rfl ?_
  refine Rn.aaldN (m := c) rfl rfl rfl rfl rfl hc (Nat.le_of_ble_eq_true rfl) (crow hc) ?_
  refine Rn.steps 1 rfl ?_
  refine Rn.callO rfl rfl rfl (show (FF A w p ln ch R R2 sv z s q) (7 + c) = .inr (0, cf z s c) by rw [FF_t]; exact tOn_c hc) rfl rfl rfl rfl rfl rfl (Rn.tk (m_ctell_4 (d + 1) n z s _ c hc hz)) ?_
  exact Rn.retE rfl rfl rfl rfl rfl
theorem b_of_5 (c : Nat) (hc : c < 10) (hz : zt z c = true) : Rn (d + 2) 68 0 [(0, .ref 3), (1, .int (nI c)), (2, .int 5)] [] (FF A w p ln ch R R2 sv z s q) n (some (.int (z (10 + 7 * c + 4)))) (FF A w p ln ch R R2 sv z s q) n := by
  refine Rn.steps 3 rfl ?_
  refine Rn.call rfl rfl rfl (Rn.tk (t_has (d + 1) n z s _ (nI c))) ?_
  rw [isC_nI hc, hz]
  refine Rn.steps 5 rfl ?_
  refine Rn.aaldN (m := c) rfl rfl rfl rfl rfl hc (Nat.le_of_ble_eq_true rfl) (crow hc) ?_
  refine Rn.steps 1 rfl ?_
  refine Rn.callO rfl rfl rfl (show (FF A w p ln ch R R2 sv z s q) (7 + c) = .inr (0, cf z s c) by rw [FF_t]; exact tOn_c hc) rfl rfl rfl rfl rfl rfl (Rn.tk (m_ctell_5 (d + 1) n z s _ c hc hz)) ?_
  exact Rn.retE rfl rfl rfl rfl rfl
theorem b_of_6 (c : Nat) (hc : c < 10) (hz : zt z c = true) : Rn (d + 2) 68 0 [(0, .ref 3), (1, .int (nI c)), (2, .int 6)] [] (FF A w p ln ch R R2 sv z s q) n (some (.int (z (10 + 7 * c + 5)))) (FF A w p ln ch R R2 sv z s q) n := by
  refine Rn.steps 3 rfl ?_
  refine Rn.call rfl rfl rfl (Rn.tk (t_has (d + 1) n z s _ (nI c))) ?_
  rw [isC_nI hc, hz]
  refine Rn.steps 5 rfl ?_
  refine Rn.aaldN (m := c) rfl rfl rfl rfl rfl hc (Nat.le_of_ble_eq_true rfl) (crow hc) ?_
  refine Rn.steps 1 rfl ?_
  refine Rn.callO rfl rfl rfl (show (FF A w p ln ch R R2 sv z s q) (7 + c) = .inr (0, cf z s c) by rw [FF_t]; exact tOn_c hc) rfl rfl rfl rfl rfl rfl (Rn.tk (m_ctell_6 (d + 1) n z s _ c hc hz)) ?_
  exact Rn.retE rfl rfl rfl rfl rfl
theorem b_of_7 (c : Nat) (hc : c < 10) (hz : zt z c = true) : Rn (d + 2) 68 0 [(0, .ref 3), (1, .int (nI c)), (2, .int 7)] [] (FF A w p ln ch R R2 sv z s q) n (some (.int (bi (guF (z (10 + 7 * c)))))) (FF A w p ln ch R R2 sv z s q) n := by
  refine Rn.steps 3 rfl ?_
  refine Rn.call rfl rfl rfl (Rn.tk (t_has (d + 1) n z s _ (nI c))) ?_
  rw [isC_nI hc, hz]
  refine Rn.steps 5 rfl ?_
  refine Rn.aaldN (m := c) rfl rfl rfl rfl rfl hc (Nat.le_of_ble_eq_true rfl) (crow hc) ?_
  refine Rn.steps 1 rfl ?_
  refine Rn.callO rfl rfl rfl (show (FF A w p ln ch R R2 sv z s q) (7 + c) = .inr (0, cf z s c) by rw [FF_t]; exact tOn_c hc) rfl rfl rfl rfl rfl rfl (Rn.tk (m_ctell_7 d n z s _ c hc hz)) ?_
  exact Rn.retE rfl rfl rfl rfl rfl
theorem b_of_out (c : Nat) (hc : c < 10) (hz : zt z c = true) (y : Int32) (hy : y.toInt < 0 ∨ 7 < y.toInt) : Rn (d + 2) 68 0 [(0, .ref 3), (1, .int (nI c)), (2, .int y)] [] (FF A w p ln ch R R2 sv z s q) n (some (.int (-2))) (FF A w p ln ch R R2 sv z s q) n := by
  refine Rn.steps 3 rfl ?_
  refine Rn.call rfl rfl rfl (Rn.tk (t_has (d + 1) n z s _ (nI c))) ?_
  rw [isC_nI hc, hz]
  refine Rn.steps 5 rfl ?_
  refine Rn.aaldN (m := c) rfl rfl rfl rfl rfl hc (Nat.le_of_ble_eq_true rfl) (crow hc) ?_
  refine Rn.steps 1 rfl ?_
  refine Rn.callO rfl rfl rfl (show (FF A w p ln ch R R2 sv z s q) (7 + c) = .inr (0, cf z s c) by rw [FF_t]; exact tOn_c hc) rfl rfl rfl rfl rfl rfl (m_ctell_out (d + 1) n c y hy _) ?_
  exact Rn.retE rfl rfl rfl rfl rfl
theorem b_at_bad (P : Nat) (hP : z 0 = nI P) (h2 : 2 ≤ P) (h6 : P ≤ 6) (x y : Int32) (hp : isPl (2 * z 0) x y = false) : Rn (d + 2) 69 0 [(0, .ref 3), (1, .int x), (2, .int y)] [] (FF A w p ln ch R R2 sv z s q) n (some (.int (-1))) (FF A w p ln ch R R2 sv z s q) n := by
  refine Rn.steps 4 rfl ?_
  refine Rn.call rfl rfl rfl (Rn.tk (t_placeOf d n z s _ P hP h2 h6 x y)) ?_
  rw [hp]
  refine Rn.steps 6 rfl ?_
  exact Rn.retE rfl rfl rfl rfl rfl
theorem b_at (P : Nat) (hP : z 0 = nI P) (h2 : 2 ≤ P) (h6 : P ≤ 6) (x y : Int32) (hp : isPl (2 * z 0) x y = true) (e : Nat) (he : e < 48) (hxy : 4 * x + y = nI e) : Rn (d + 2) 69 0 [(0, .ref 3), (1, .int x), (2, .int y)] [] (FF A w p ln ch R R2 sv z s q) n (some (.int (fIn z (nI e) 10 0))) (FF A w p ln ch R R2 sv z s q) n := by
  refine Rn.steps 4 rfl ?_
  refine Rn.call rfl rfl rfl (Rn.tk (t_placeOf d n z s _ P hP h2 h6 x y)) ?_
  rw [hp]
  simp only [cond]
  rw [hxy]
  refine Rn.br 4 rfl (fun hc12 => ?_) (fun hc12 => ?_)
  · exact (nI_no1 he hc12).elim
  · refine Rn.steps 3 rfl ?_
    refine Rn.call rfl rfl rfl (Rn.tk (t_in (d + 1) n z s _ (nI e))) ?_
    exact Rn.retE rfl rfl rfl rfl rfl
theorem b_around (P : Nat) (hP : z 0 = nI P) (h6 : P ≤ 6) (l0 : Int32) : Rn (d + 2) 70 0 [(0, .ref 3), (1, .int l0)] [] (FF A w p ln ch R R2 sv z s q) n (some (.int (arF z (8 * P) l0 0))) (FF A w p ln ch R R2 sv z s q) n := by
  refine Rn.steps 3 rfl ?_
  refine Rn.call rfl rfl rfl (Rn.tk (t_rank d n z s _ P hP h6 l0)) ?_
  exact Rn.retE rfl rfl rfl rfl rfl
theorem b_count_0 : Rn (d + 2) 71 0 [(0, .ref 3), (1, .int 0)] [] (FF A w p ln ch R R2 sv z s q) n (some (.int (2 * z 0))) (FF A w p ln ch R R2 sv z s q) n := by
  refine Rn.steps 2 rfl ?_
  refine Rn.steps 3 rfl ?_
  refine Rn.call rfl rfl rfl (Rn.tk (t_tell_0 d n z s _)) ?_
  exact Rn.retE rfl rfl rfl rfl rfl
theorem b_count_1 : Rn (d + 2) 71 0 [(0, .ref 3), (1, .int 1)] [] (FF A w p ln ch R R2 sv z s q) n (some (.int (mSet z 10))) (FF A w p ln ch R R2 sv z s q) n := by
  refine Rn.steps 2 rfl ?_
  refine Rn.steps 3 rfl ?_
  refine Rn.call rfl rfl rfl (Rn.tk (t_tell_1 d n z s _)) ?_
  exact Rn.retE rfl rfl rfl rfl rfl
theorem b_count_2 : Rn (d + 2) 71 0 [(0, .ref 3), (1, .int 2)] [] (FF A w p ln ch R R2 sv z s q) n (some (.int (z 3))) (FF A w p ln ch R R2 sv z s q) n := by
  refine Rn.steps 2 rfl ?_
  refine Rn.steps 3 rfl ?_
  refine Rn.call rfl rfl rfl (Rn.tk (t_tell_2 d n z s _)) ?_
  exact Rn.retE rfl rfl rfl rfl rfl
theorem b_count_3 : Rn (d + 2) 71 0 [(0, .ref 3), (1, .int 3)] [] (FF A w p ln ch R R2 sv z s q) n (some (.int (z 4))) (FF A w p ln ch R R2 sv z s q) n := by
  refine Rn.steps 2 rfl ?_
  refine Rn.steps 3 rfl ?_
  refine Rn.call rfl rfl rfl (Rn.tk (t_tell_3 d n z s _)) ?_
  exact Rn.retE rfl rfl rfl rfl rfl
theorem b_count_4 : Rn (d + 2) 71 0 [(0, .ref 3), (1, .int 4)] [] (FF A w p ln ch R R2 sv z s q) n (some (.int (z 5))) (FF A w p ln ch R R2 sv z s q) n := by
  refine Rn.steps 2 rfl ?_
  refine Rn.steps 3 rfl ?_
  refine Rn.call rfl rfl rfl (Rn.tk (t_tell_4 d n z s _)) ?_
  exact Rn.retE rfl rfl rfl rfl rfl
theorem b_count_5 : Rn (d + 2) 71 0 [(0, .ref 3), (1, .int 5)] [] (FF A w p ln ch R R2 sv z s q) n (some (.int (z 6))) (FF A w p ln ch R R2 sv z s q) n := by
  refine Rn.steps 2 rfl ?_
  refine Rn.steps 3 rfl ?_
  refine Rn.call rfl rfl rfl (Rn.tk (t_tell_5 d n z s _)) ?_
  exact Rn.retE rfl rfl rfl rfl rfl
theorem b_count_6 : Rn (d + 2) 71 0 [(0, .ref 3), (1, .int 6)] [] (FF A w p ln ch R R2 sv z s q) n (some (.int (z 7))) (FF A w p ln ch R R2 sv z s q) n := by
  refine Rn.steps 2 rfl ?_
  refine Rn.steps 3 rfl ?_
  refine Rn.call rfl rfl rfl (Rn.tk (t_tell_6 d n z s _)) ?_
  exact Rn.retE rfl rfl rfl rfl rfl
theorem b_count_7 : Rn (d + 2) 71 0 [(0, .ref 3), (1, .int 7)] [] (FF A w p ln ch R R2 sv z s q) n (some (.int (mSum z 1 10))) (FF A w p ln ch R R2 sv z s q) n := by
  refine Rn.steps 2 rfl ?_
  refine Rn.steps 3 rfl ?_
  refine Rn.call rfl rfl rfl (Rn.tk (t_tell_7 d n z s _)) ?_
  exact Rn.retE rfl rfl rfl rfl rfl
theorem b_count_8 : Rn (d + 2) 71 0 [(0, .ref 3), (1, .int 8)] [] (FF A w p ln ch R R2 sv z s q) n (some (.int (z 8))) (FF A w p ln ch R R2 sv z s q) n := by
  refine Rn.steps 2 rfl ?_
  refine Rn.steps 3 rfl ?_
  refine Rn.call rfl rfl rfl (Rn.tk (t_tell_8 d n z s _)) ?_
  exact Rn.retE rfl rfl rfl rfl rfl
theorem b_count_9 : Rn (d + 2) 71 0 [(0, .ref 3), (1, .int 9)] [] (FF A w p ln ch R R2 sv z s q) n (some (.int (z 9))) (FF A w p ln ch R R2 sv z s q) n := by
  refine Rn.steps 2 rfl ?_
  refine Rn.steps 3 rfl ?_
  refine Rn.call rfl rfl rfl (Rn.tk (t_tell_9 d n z s _)) ?_
  exact Rn.retE rfl rfl rfl rfl rfl
theorem b_count_10 : Rn (d + 2) 71 0 [(0, .ref 3), (1, .int 10)] [] (FF A w p ln ch R R2 sv z s q) n (some (.int (z 0))) (FF A w p ln ch R R2 sv z s q) n := by
  refine Rn.steps 2 rfl ?_
  refine Rn.steps 3 rfl ?_
  refine Rn.call rfl rfl rfl (Rn.tk (t_tell_10 d n z s _)) ?_
  exact Rn.retE rfl rfl rfl rfl rfl
theorem b_count_11 : Rn (d + 2) 71 0 [(0, .ref 3), (1, .int 11)] [] (FF A w p ln ch R R2 sv z s q) n (some (.int (z 1))) (FF A w p ln ch R R2 sv z s q) n := by
  refine Rn.steps 2 rfl ?_
  refine Rn.steps 3 rfl ?_
  refine Rn.call rfl rfl rfl (Rn.tk (t_tell_11 d n z s _)) ?_
  exact Rn.retE rfl rfl rfl rfl rfl
theorem b_count_12 : Rn (d + 2) 71 0 [(0, .ref 3), (1, .int 12)] [] (FF A w p ln ch R R2 sv z s q) n (some (.int (z 2))) (FF A w p ln ch R R2 sv z s q) n := by
  refine Rn.steps 2 rfl ?_
  refine Rn.steps 3 rfl ?_
  refine Rn.call rfl rfl rfl (Rn.tk (t_tell_12 d n z s _)) ?_
  exact Rn.retE rfl rfl rfl rfl rfl
theorem b_count_13 : Rn (d + 2) 71 0 [(0, .ref 3), (1, .int 13)] [] (FF A w p ln ch R R2 sv z s q) n (some (.int (ln))) (FF A w p ln ch R R2 sv z s q) n := by
  refine Rn.steps 2 rfl ?_
  refine Rn.steps 3 rfl ?_
  exact Rn.retE rfl rfl rfl rfl rfl
theorem b_count_14 : Rn (d + 2) 71 0 [(0, .ref 3), (1, .int 14)] [] (FF A w p ln ch R R2 sv z s q) n (some (.int (ch))) (FF A w p ln ch R R2 sv z s q) n := by
  refine Rn.steps 2 rfl ?_
  refine Rn.steps 2 rfl ?_
  exact Rn.retE rfl rfl rfl rfl rfl
theorem b_count_out (y : Int32) (hy : y.toInt < 0 ∨ 14 < y.toInt) : Rn (d + 2) 71 0 [(0, .ref 3), (1, .int y)] [] (FF A w p ln ch R R2 sv z s q) n (some (.int (-2))) (FF A w p ln ch R R2 sv z s q) n := by
  have hy2 : y.toInt < 0 ∨ 12 < y.toInt := by omega
  refine Rn.steps 1 rfl ?_
  refine Rn.lsw rfl rfl (off := 40) (lsw2 (by omega) (by omega)) 41 rfl ?_
  refine Rn.steps 3 rfl ?_
  refine Rn.call rfl rfl rfl ((t_tell_out (d + 1) n y hy2 _)) ?_
  exact Rn.retE rfl rfl rfl rfl rfl
theorem b_why (hf : Fl z) (hg : q 2 = .inl (0, 3, .inl xhi)) : Rn (d + 3) 72 0 [(0, .ref 3)] [] (FF A w p ln ch R R2 sv z s q) n (some (.int (hiF z))) (FF A w p ln ch R R2 sv z s q) n := by
  refine Rn.steps 2 rfl ?_
  refine Rn.call rfl rfl rfl (Rn.tk (t_hind d n z s _ hf (show mOn A w (pOn p ln (bO ch R R2 sv q)) 2 = .inl (0, 3, .inl xhi) by rw [mOn_out (by omega), pOn_out (by omega), bO_out (by omega) (by omega) (by omega) (by omega)]; exact hg))) ?_
  exact Rn.retE rfl rfl rfl rfl rfl
theorem b_me_bad (y : Int32) (hy : decide (0 ≤ y ∧ y ≤ 3) = false) : Rn (d + 4) 73 0 [(0, .ref 3), (1, .int y)] [] (FF A w p ln ch R R2 sv z s q) n (some (.int (-2))) (FF A w p ln ch R R2 sv z s q) n := by
  refine Rn.br 2 rfl (fun hc1 => ?_) (fun hc1 => ?_)
  · refine Rn.steps 1 rfl ?_
    exact Rn.retE rfl rfl rfl rfl rfl
  · have h0 : 0 ≤ y := Int32.not_lt.mp hc1
    refine Rn.br 3 rfl (fun hc6 => ?_) (fun hc6 => ?_)
    · exact (of_decide_eq_false hy ⟨h0, hc6⟩).elim
    · refine Rn.steps 1 rfl ?_
      exact Rn.retE rfl rfl rfl rfl rfl
theorem b_me_no (y : Int32) (hy : decide (0 ≤ y ∧ y ≤ 3) = true) (h : fM (tkF z 10) (2 * z 0) 100 1 (tkF z 10) = -6) : Rn (d + 4) 73 0 [(0, .ref 3), (1, .int y)] [] (FF A w p ln ch R R2 sv z s q) n (some (.int (-6))) (FF A w p ln ch R R2 sv z s q) n := by
  refine Rn.br 2 rfl (fun hc1 => ?_) (fun hc1 => ?_)
  · exact (Int32.not_lt.mpr (of_decide_eq_true hy).1 hc1).elim
  · refine Rn.br 3 rfl (fun hc6 => ?_) (fun hc6 => ?_)
    · refine Rn.steps 2 rfl ?_
      refine Rn.call rfl rfl rfl (Rn.tk (t_horns (d + 3) n z s _)) ?_
      refine Rn.steps 3 rfl ?_
      refine Rn.call rfl rfl rfl (Rn.tk (t_taken (d + 3) n z s _)) ?_
      refine Rn.steps 4 rfl ?_
      refine Rn.call rfl rfl rfl (m_fM d n _ _ _ 100 (by omega)) ?_
      rw [h]
      refine Rn.steps 5 rfl ?_
      exact Rn.retE rfl rfl rfl rfl rfl
    · exact (hc6 (of_decide_eq_true hy).2).elim
theorem b_me_0 : Rn (d + 4) 73 0 [(0, .ref 3), (1, .int 0)] [] (FF A w p ln ch R R2 sv z s q) n (some (.int (fM (tkF z 10) (2 * z 0) 100 1 (tkF z 10)))) (FF A w p ln ch R R2 sv z s q) n := by
  refine Rn.steps 7 rfl ?_
  refine Rn.call rfl rfl rfl (Rn.tk (t_horns (d + 3) n z s _)) ?_
  refine Rn.steps 3 rfl ?_
  refine Rn.call rfl rfl rfl (Rn.tk (t_taken (d + 3) n z s _)) ?_
  refine Rn.steps 4 rfl ?_
  refine Rn.call rfl rfl rfl (m_fM d n _ _ _ 100 (by omega)) ?_
  refine Rn.br 4 rfl (fun hc41 => ?_) (fun hc41 => ?_)
  · refine Rn.steps 1 rfl ?_
    exact Rn.retE rfl rfl rfl rfl rfl
  · refine Rn.steps 3 rfl ?_
    exact Rn.retE rfl rfl rfl rfl rfl
theorem b_me_1 (P : Nat) (hP : z 0 = nI P) (h2 : 2 ≤ P) (h6 : P ≤ 6) (L : Nat) (hL : L < 100) (h : fM (tkF z 10) (2 * z 0) 100 1 (tkF z 10) = nI (L + 1)) : Rn (d + 4) 73 0 [(0, .ref 3), (1, .int 1)] [] (FF A w p ln ch R R2 sv z s q) n (some (.int (mcF (mts (aT (bIt (2 * z 0) L (tkF z 10))) (2 * z 0)) (2 * P) 0))) (FF A w p ln ch R R2 sv z s q) n := by
  have hH : 2 * z 0 = nI (2 * P) := by rw [hP, x2P]
  have hne : ¬ nI (L + 1) = -6 := by
    have k : ∀ m, m < 101 → ¬ nI m = -6 := by decide
    exact k _ (by omega)
  refine Rn.steps 7 rfl ?_
  refine Rn.call rfl rfl rfl (Rn.tk (t_horns (d + 3) n z s _)) ?_
  refine Rn.steps 3 rfl ?_
  refine Rn.call rfl rfl rfl (Rn.tk (t_taken (d + 3) n z s _)) ?_
  refine Rn.steps 4 rfl ?_
  refine Rn.call rfl rfl rfl (m_fM d n _ _ _ 100 (by omega)) ?_
  rw [h]
  refine Rn.br 4 rfl (fun hc41 => ?_) (fun hc41 => ?_)
  · exact (hne hc41).elim
  · refine Rn.steps 5 rfl ?_
    rw [hH]
    refine Rn.call rfl rfl rfl (m_mC d n _ _ (2 * P) L (by omega) (by omega)) ?_
    rw [← hH]
    refine Rn.br 4 rfl (fun hc64 => ?_) (fun hc64 => ?_)
    · refine Rn.steps 1 rfl ?_
      exact Rn.retE rfl rfl rfl rfl rfl
    · refine Rn.steps 4 rfl ?_
      exact Rn.retE rfl rfl rfl rfl rfl
theorem b_me_2 (P : Nat) (hP : z 0 = nI P) (h2 : 2 ≤ P) (h6 : P ≤ 6) (L : Nat) (hL : L < 100) (h : fM (tkF z 10) (2 * z 0) 100 1 (tkF z 10) = nI (L + 1)) (hc : ¬ mcF (mts (aT (bIt (2 * z 0) L (tkF z 10))) (2 * z 0)) (2 * P) 0 = -6) : Rn (d + 4) 73 0 [(0, .ref 3), (1, .int 2)] [] (FF A w p ln ch R R2 sv z s q) n (some (.int (fTt z (4 * mcF (mts (aT (bIt (2 * z 0) L (tkF z 10))) (2 * z 0)) (2 * P) 0) L 10 0))) (FF A w p ln ch R R2 sv z s q) n := by
  have hH : 2 * z 0 = nI (2 * P) := by rw [hP, x2P]
  have hne : ¬ nI (L + 1) = -6 := by
    have k : ∀ m, m < 101 → ¬ nI m = -6 := by decide
    exact k _ (by omega)
  refine Rn.steps 7 rfl ?_
  refine Rn.call rfl rfl rfl (Rn.tk (t_horns (d + 3) n z s _)) ?_
  refine Rn.steps 3 rfl ?_
  refine Rn.call rfl rfl rfl (Rn.tk (t_taken (d + 3) n z s _)) ?_
  refine Rn.steps 4 rfl ?_
  refine Rn.call rfl rfl rfl (m_fM d n _ _ _ 100 (by omega)) ?_
  rw [h]
  refine Rn.br 4 rfl (fun hc41 => ?_) (fun hc41 => ?_)
  · exact (hne hc41).elim
  · refine Rn.steps 5 rfl ?_
    rw [hH]
    refine Rn.call rfl rfl rfl (m_mC d n _ _ (2 * P) L (by omega) (by omega)) ?_
    rw [← hH]
    refine Rn.br 4 rfl (fun hc64 => ?_) (fun hc64 => ?_)
    · exact (hc hc64).elim
    · refine Rn.steps 15 rfl ?_
      refine Rn.call rfl rfl rfl (Rn.tk (t_turnedTo (d + 1) n z s _ _ L (by omega))) ?_
      exact Rn.retE rfl rfl rfl rfl rfl
theorem b_me_3 (P : Nat) (hP : z 0 = nI P) (h2 : 2 ≤ P) (h6 : P ≤ 6) (L : Nat) (hL : L < 100) (h : fM (tkF z 10) (2 * z 0) 100 1 (tkF z 10) = nI (L + 1)) (hc : ¬ mcF (mts (aT (bIt (2 * z 0) L (tkF z 10))) (2 * z 0)) (2 * P) 0 = -6) : Rn (d + 4) 73 0 [(0, .ref 3), (1, .int 3)] [] (FF A w p ln ch R R2 sv z s q) n (some (.int (fTt z (pF (2 * z 0) (4 * mcF (mts (aT (bIt (2 * z 0) L (tkF z 10))) (2 * z 0)) (2 * P) 0)) L 10 0))) (FF A w p ln ch R R2 sv z s q) n := by
  have hH : 2 * z 0 = nI (2 * P) := by rw [hP, x2P]
  have hne : ¬ nI (L + 1) = -6 := by
    have k : ∀ m, m < 101 → ¬ nI m = -6 := by decide
    exact k _ (by omega)
  refine Rn.steps 7 rfl ?_
  refine Rn.call rfl rfl rfl (Rn.tk (t_horns (d + 3) n z s _)) ?_
  refine Rn.steps 3 rfl ?_
  refine Rn.call rfl rfl rfl (Rn.tk (t_taken (d + 3) n z s _)) ?_
  refine Rn.steps 4 rfl ?_
  refine Rn.call rfl rfl rfl (m_fM d n _ _ _ 100 (by omega)) ?_
  rw [h]
  refine Rn.br 4 rfl (fun hc41 => ?_) (fun hc41 => ?_)
  · exact (hne hc41).elim
  · refine Rn.steps 5 rfl ?_
    rw [hH]
    refine Rn.call rfl rfl rfl (m_mC d n _ _ (2 * P) L (by omega) (by omega)) ?_
    rw [← hH]
    refine Rn.br 4 rfl (fun hc64 => ?_) (fun hc64 => ?_)
    · exact (hc hc64).elim
    · refine Rn.steps 14 rfl ?_
      refine Rn.call rfl rfl rfl (m_passed (d + 3) n _ _ _) ?_
      refine Rn.steps 1 rfl ?_
      refine Rn.call rfl rfl rfl (Rn.tk (t_turnedTo (d + 1) n z s _ _ L (by omega))) ?_
      exact Rn.retE rfl rfl rfl rfl rfl
theorem b_free (P : Nat) (hP : z 0 = nI P) (h6 : P ≤ 6) : Rn (d + 5) 74 0 [(0, .ref 3)] [] (FF A w p ln ch R R2 sv z s q) n (some (.int (frC (tkF z 10) (2 * z 0) (8 * P)))) (FF A w p ln ch R R2 sv z s q) n := by
  have h8 : 4 * (2 * z 0) = nI (8 * P) := by rw [hP, x8P]
  have h48 : 8 * P ≤ 48 := by omega
  refine Rn.steps 2 rfl ?_
  refine Rn.call rfl rfl rfl (Rn.tk (t_horns (d + 4) n z s _)) ?_
  refine Rn.steps 3 rfl ?_
  refine Rn.call rfl rfl rfl (Rn.tk (t_taken (d + 4) n z s _)) ?_
  refine Rn.steps 5 rfl ?_
  refine Rn.l4 (by decide) rfl rfl rfl rfl (xloop (fun c => Rn (d + 5) 74 22 [(1, .int (2 * z 0)), (2, .long (tkF z 10)), (4, .int (frC (tkF z 10) (2 * z 0) c)), (5, .int (nI c))] [] (FF A w p ln ch R R2 sv z s q) n (some (.int (frC (tkF z 10) (2 * z 0) (8 * P)))) (FF A w p ln ch R R2 sv z s q) n) (8 * P) ?_ (fun c hc ih => ?_))
  · refine Rn.br 5 rfl (fun hc27 => ?_) (fun hc27 => ?_)
    · refine Rn.steps 1 rfl ?_
      exact Rn.retE rfl rfl rfl rfl rfl
    · exact (hc27 (by show 4 * (2 * z 0) ≤ _; rw [h8]; exact nI_le (Nat.le_refl _) (by omega))).elim
  · refine Rn.br 5 rfl (fun hc27 => ?_) (fun hc27 => ?_)
    · exact (nI_ge hc (by omega) (by rw [← h8]; exact hc27)).elim
    · refine Rn.steps 3 rfl ?_
      refine Rn.call rfl rfl rfl (m_sf (d + 0) n _ _ _ _) ?_
      refine Rn.br 1 rfl (fun hc37 => ?_) (fun hc37 => ?_)
      · have hz := bi_eq0 hc37
        refine Rn.steps 2 rfl ?_
        exact Rn.l4 (by decide) rfl rfl (by show _ = some (Value.int (frC (tkF z 10) (2 * z 0) c + bi (sfF (tkF z 10) (2 * z 0) (nI c)))); rw [hz]; first | rfl | (show _ = some (Value.int (_ + 0)); rw [Int32.add_zero]; rfl)) (by rw [← nI_1 c]; rfl) ih
      · have hz := bi_ne0 hc37
        refine Rn.steps 3 rfl ?_
        exact Rn.l4 (by decide) rfl rfl (by show _ = some (Value.int (frC (tkF z 10) (2 * z 0) c + bi (sfF (tkF z 10) (2 * z 0) (nI c)))); rw [hz]; first | rfl | (show _ = some (Value.int (_ + 0)); rw [Int32.add_zero]; rfl)) (by rw [← nI_1 c]; rfl) ih
theorem b_ffree (P : Nat) (hP : z 0 = nI P) (h6 : P ≤ 6) : Rn (d + 5) 75 0 [(0, .ref 3)] [] (FF A w p ln ch R R2 sv z s q) n (some (.int (ffC (tkF z 10) (2 * z 0) (8 * P) 0))) (FF A w p ln ch R R2 sv z s q) n := by
  have h8 : 4 * (2 * z 0) = nI (8 * P) := by rw [hP, x8P]
  have h48 : 8 * P ≤ 48 := by omega
  have key : ∀ r c, c + r = 8 * P → Rn (d + 5) 75 19 [(1, .int (2 * z 0)), (2, .long (tkF z 10)), (4, .int (nI c))] [] (FF A w p ln ch R R2 sv z s q) n (some (.int (ffC (tkF z 10) (2 * z 0) r c))) (FF A w p ln ch R R2 sv z s q) n := by
    intro r
    induction r with
    | zero =>
      intro c hc
      refine Rn.br 5 rfl (fun hc24 => ?_) (fun hc24 => ?_)
      · refine Rn.steps 1 rfl ?_
        exact Rn.retE rfl rfl rfl rfl rfl
      · exact (hc24 (by show 4 * (2 * z 0) ≤ _; rw [h8]; exact nI_le (by omega) (by omega))).elim
    | succ r ih =>
      intro c hc
      refine Rn.br 5 rfl (fun hc24 => ?_) (fun hc24 => ?_)
      · exact (nI_ge (show c < 8 * P by omega) (by omega) (by rw [← h8]; exact hc24)).elim
      · refine Rn.steps 3 rfl ?_
        refine Rn.call rfl rfl rfl (m_sf (d + 0) n _ _ _ _) ?_
        refine Rn.br 1 rfl (fun hc34 => ?_) (fun hc34 => ?_)
        · have hz := bi_eq0 hc34
          rw [show ffC (tkF z 10) (2 * z 0) (r + 1) c = ffC (tkF z 10) (2 * z 0) r (c + 1) by rw [ffC, hz]; rfl]
          refine Rn.steps 2 rfl ?_
          exact Rn.l3 rfl rfl rfl (by rw [← nI_1 c]; rfl) (ih (c + 1) (by omega))
        · have hz := bi_ne0 hc34
          rw [show ffC (tkF z 10) (2 * z 0) (r + 1) c = nI c by rw [ffC, hz]; rfl]
          refine Rn.steps 1 rfl ?_
          exact Rn.retE rfl rfl rfl rfl rfl
  refine Rn.steps 2 rfl ?_
  refine Rn.call rfl rfl rfl (Rn.tk (t_horns (d + 4) n z s _)) ?_
  refine Rn.steps 3 rfl ?_
  refine Rn.call rfl rfl rfl (Rn.tk (t_taken (d + 4) n z s _)) ?_
  refine Rn.steps 3 rfl ?_
  exact Rn.l3 rfl rfl rfl rfl (key (8 * P) 0 (by omega))
theorem b_per_no (h : tkF z 10 = 0) : Rn (d + 4) 76 0 [(0, .ref 3)] [] (FF A w p ln ch R R2 sv z s q) n (some (.int (-5))) (FF A w p ln ch R R2 sv z s q) n := by
  refine Rn.steps 2 rfl ?_
  refine Rn.call rfl rfl rfl (Rn.tk (t_taken (d + 3) n z s _)) ?_
  refine Rn.br 5 rfl (fun hc11 => ?_) (fun hc11 => ?_)
  · refine Rn.steps 1 rfl ?_
    exact Rn.retE rfl rfl rfl rfl rfl
  · exact (hc11 (lg0.mpr h)).elim
theorem b_per (h : ¬ tkF z 10 = 0) : Rn (d + 4) 76 0 [(0, .ref 3)] [] (FF A w p ln ch R R2 sv z s q) n (some (.int (fR (tkF z 10) (2 * z 0) 100 1 (tkF z 10)))) (FF A w p ln ch R R2 sv z s q) n := by
  refine Rn.steps 2 rfl ?_
  refine Rn.call rfl rfl rfl (Rn.tk (t_taken (d + 3) n z s _)) ?_
  refine Rn.br 5 rfl (fun hc11 => ?_) (fun hc11 => ?_)
  · exact (h (lg0.mp hc11)).elim
  · refine Rn.steps 3 rfl ?_
    refine Rn.call rfl rfl rfl (Rn.tk (t_horns (d + 3) n z s _)) ?_
    refine Rn.call rfl rfl rfl (m_fR d n _ _ _) ?_
    exact Rn.retE rfl rfl rfl rfl rfl
theorem b_las_0 (hf : Fl z) (hg : q 2 = .inl (0, 3, .inl xhi)) (h : ¬ hiF z = 0) : Rn (d + 4) 77 0 [(0, .ref 3)] [] (FF A w p ln ch R R2 sv z s q) n (some (.int (0))) (FF A w p ln ch R R2 sv z s q) n := by
  refine Rn.steps 2 rfl ?_
  refine Rn.call rfl rfl rfl (Rn.tk (t_hind (d + 1) n z s _ hf (show mOn A w (pOn p ln (bO ch R R2 sv q)) 2 = .inl (0, 3, .inl xhi) by rw [mOn_out (by omega), pOn_out (by omega), bO_out (by omega) (by omega) (by omega) (by omega)]; exact hg))) ?_
  refine Rn.br 1 rfl (fun hc7 => ?_) (fun hc7 => ?_)
  · exact (h hc7).elim
  · refine Rn.steps 1 rfl ?_
    exact Rn.retE rfl rfl rfl rfl rfl
theorem b_las (hf : Fl z) (hg : q 2 = .inl (0, 3, .inl xhi)) (h : hiF z = 0) (L : Nat) (hL : leF2 z 10 = nI L) (hL9 : L ≤ 1000) : Rn (d + 4) 77 0 [(0, .ref 3)] [] (FF A w p ln ch R R2 sv z s q) n (some (.int (if fM (tkF z 10) (2 * z 0) L 1 (tkF z 10) = -6 then nI L else fM (tkF z 10) (2 * z 0) L 1 (tkF z 10) - 1))) (FF A w p ln ch R R2 sv z s q) n := by
  refine Rn.steps 2 rfl ?_
  refine Rn.call rfl rfl rfl (Rn.tk (t_hind (d + 1) n z s _ hf (show mOn A w (pOn p ln (bO ch R R2 sv q)) 2 = .inl (0, 3, .inl xhi) by rw [mOn_out (by omega), pOn_out (by omega), bO_out (by omega) (by omega) (by omega) (by omega)]; exact hg))) ?_
  refine Rn.br 1 rfl (fun hc7 => ?_) (fun hc7 => ?_)
  · refine Rn.steps 2 rfl ?_
    refine Rn.call rfl rfl rfl (Rn.tk (t_least (d + 2) n z s _ (show mOn A w (pOn p ln (bO ch R R2 sv q)) 2 = .inl (0, 3, .inl xhi) by rw [mOn_out (by omega), pOn_out (by omega), bO_out (by omega) (by omega) (by omega) (by omega)]; exact hg))) ?_
    rw [hL]
    refine Rn.steps 3 rfl ?_
    refine Rn.call rfl rfl rfl (Rn.tk (t_taken (d + 3) n z s _)) ?_
    refine Rn.steps 2 rfl ?_
    refine Rn.call rfl rfl rfl (Rn.tk (t_horns (d + 3) n z s _)) ?_
    refine Rn.steps 1 rfl ?_
    refine Rn.call rfl rfl rfl (m_fM d n _ _ _ L (by omega)) ?_
    refine Rn.br 4 rfl (fun hc42 => ?_) (fun hc42 => ?_)
    · have hv : fM (tkF z 10) (2 * z 0) L 1 (tkF z 10) = -6 := hc42
      rw [if_pos hv]
      refine Rn.steps 2 rfl ?_
      exact Rn.retE rfl rfl rfl rfl rfl
    · have hv : ¬ fM (tkF z 10) (2 * z 0) L 1 (tkF z 10) = -6 := hc42
      rw [if_neg hv]
      refine Rn.steps 3 rfl ?_
      exact Rn.retE rfl rfl rfl rfl rfl
  · exact (hc7 h).elim
theorem b_put_bad (ty : Nat) (c : Int64) (hc : (ccF 8 c 0).getD 0 = 0) : Rn (d + 2) 78 0 [(0, .ref 3), (1, .long c)] [] (FF A w p (nI ty) ch R R2 sv z s q) n (some (.int (-2))) (FF A w p (nI ty) ch R R2 sv z s q) n := by
  refine Rn.steps 3 rfl ?_
  refine Rn.call rfl rfl rfl (Rn.pk (m_app_bad d n p _ ty c hc)) ?_
  exact Rn.retE rfl rfl rfl rfl rfl
theorem b_put_many (ty m : Nat) (hty : ty ≤ 80) (c : Int64) (hc : (ccF 8 c 0).getD 0 = m) (h0 : 0 < m) (h8 : m ≤ 8) (hm : 80 < ty + m) : Rn (d + 2) 78 0 [(0, .ref 3), (1, .long c)] [] (FF A w p (nI ty) ch R R2 sv z s q) n (some (.int (-4))) (FF A w p (nI ty) ch R R2 sv z s q) n := by
  refine Rn.steps 3 rfl ?_
  refine Rn.call rfl rfl rfl (Rn.pk (m_app_many d n p _ ty m hty c hc h0 h8 hm)) ?_
  exact Rn.retE rfl rfl rfl rfl rfl
theorem b_put (ty m : Nat) (c : Int64) (hc : (ccF 8 c 0).getD 0 = m) (h0 : 0 < m) (hm : ty + m ≤ 80) : Rn (d + 2) 78 0 [(0, .ref 3), (1, .long c)] [] (FF A w p (nI ty) ch R R2 sv z s q) n (some (.int (nI (ty + m)))) (FF A w (wrP c m p ty) (nI (ty + m)) ch R R2 sv z s q) n := by
  refine Rn.steps 3 rfl ?_
  refine Rn.call rfl rfl rfl (Rn.pk (m_app d n p _ ty m c hc h0 hm)) ?_
  exact Rn.retE rfl rfl rfl rfl rfl
theorem b_wipe : Rn (d + 1) 79 0 [(0, .ref 3)] [] (FF A w p ln ch R R2 sv z s q) n (some (.int (ln))) (FF A w p 0 ch R R2 sv z s q) n := by
  refine Rn.steps 2 rfl ?_
  refine Rn.call rfl rfl rfl (Rn.pk (m_empty d n p _ ln)) ?_
  exact Rn.retE rfl rfl rfl rfl rfl
theorem b_fault (ty : Nat) (hty : ty ≤ 80) : Rn (d + 3) 80 0 [(0, .ref 3)] [] (FF A w p (nI ty) ch R R2 sv z s q) n (some (.int (faF p ty ty 0 0))) (FF A w p (nI ty) ch R R2 sv z s q) n := by
  refine Rn.steps 2 rfl ?_
  refine Rn.call rfl rfl rfl (Rn.pk (m_fa d n p _ ty hty)) ?_
  exact Rn.retE rfl rfl rfl rfl rfl
def nuC (p : Nat → Int32) (ty i : Nat) : Int32 := nmF p (bdF p (ty - (i + 1)) (i + 1) - (i + 1)) (i + 1) 0
def noC (p : Nat → Int32) (ty i : Nat) : Int32 := nmF p (bdF p (ty - (bdF p (ty - (i + 1)) (i + 1) + 1)) (bdF p (ty - (i + 1)) (i + 1) + 1) - (bdF p (ty - (i + 1)) (i + 1) + 1)) (bdF p (ty - (i + 1)) (i + 1) + 1) 0
theorem b_ord_98 (hp : Pc p) (ty i : Nat) (hty : ty ≤ 80) (hi : i < ty) (hl : p i = 98) (r : Int32) (z' s' : Nat → Int32) (hm : Rn (d + 3) 54 0 [(0, .ref 4), (1, .int (nuC p ty i))] [] (tOn z s (mOn A w (pOn p (nI ty) (bO ch R R2 sv q)))) n (some (.int r)) (tOn z' s' (mOn A w (pOn p (nI ty) (bO ch R R2 sv q)))) n) : Rn (d + 4) 81 0 [(0, .ref 3), (1, .int (nI i))] [] (FF A w p (nI ty) ch R R2 sv z s q) n (some (.int r)) (FF A w p (nI ty) ch R R2 sv z' s' q) n := by
  have es : sg p ty i = 98 := (if_pos hi).trans hl
  refine Rn.steps 5 rfl ?_
  refine Rn.stk (st2 := [.int (nI (i + 1)), .ref 137]) (by rw [← nI_1]) ?_
  refine Rn.call rfl rfl rfl (Rn.pk (m_nf (d + 1) n p _ hp ty (i + 1) hty (by omega))) ?_
  refine Rn.steps 4 rfl ?_
  refine Rn.call rfl rfl rfl (Rn.pk (m_sig (d + 3) n p _ hp ty i hty (by omega))) ?_
  rw [es]
  refine Rn.steps 1 rfl ?_
  refine Rn.steps 3 rfl ?_
  refine Rn.call rfl rfl rfl (Rn.tk hm) ?_
  exact Rn.retE rfl rfl rfl rfl rfl
theorem b_ord_102 (hp : Pc p) (ty i : Nat) (hty : ty ≤ 80) (hi : i < ty) (hl : p i = 102) (r : Int32) (z' s' : Nat → Int32) (hm : Rn (d + 3) 56 0 [(0, .ref 4), (1, .int (nuC p ty i))] [] (tOn z s (mOn A w (pOn p (nI ty) (bO ch R R2 sv q)))) n (some (.int r)) (tOn z' s' (mOn A w (pOn p (nI ty) (bO ch R R2 sv q)))) n) : Rn (d + 4) 81 0 [(0, .ref 3), (1, .int (nI i))] [] (FF A w p (nI ty) ch R R2 sv z s q) n (some (.int r)) (FF A w p (nI ty) ch R R2 sv z' s' q) n := by
  have es : sg p ty i = 102 := (if_pos hi).trans hl
  refine Rn.steps 5 rfl ?_
  refine Rn.stk (st2 := [.int (nI (i + 1)), .ref 137]) (by rw [← nI_1]) ?_
  refine Rn.call rfl rfl rfl (Rn.pk (m_nf (d + 1) n p _ hp ty (i + 1) hty (by omega))) ?_
  refine Rn.steps 4 rfl ?_
  refine Rn.call rfl rfl rfl (Rn.pk (m_sig (d + 3) n p _ hp ty i hty (by omega))) ?_
  rw [es]
  refine Rn.steps 1 rfl ?_
  refine Rn.steps 3 rfl ?_
  refine Rn.call rfl rfl rfl (Rn.tk hm) ?_
  exact Rn.retE rfl rfl rfl rfl rfl
theorem b_ord_107 (hp : Pc p) (ty i : Nat) (hty : ty ≤ 80) (hi : i < ty) (hl : p i = 107) (r : Int32) (z' s' : Nat → Int32) (hm : Rn (d + 3) 55 0 [(0, .ref 4), (1, .int (nuC p ty i))] [] (tOn z s (mOn A w (pOn p (nI ty) (bO ch R R2 sv q)))) n (some (.int r)) (tOn z' s' (mOn A w (pOn p (nI ty) (bO ch R R2 sv q)))) n) : Rn (d + 4) 81 0 [(0, .ref 3), (1, .int (nI i))] [] (FF A w p (nI ty) ch R R2 sv z s q) n (some (.int r)) (FF A w p (nI ty) ch R R2 sv z' s' q) n := by
  have es : sg p ty i = 107 := (if_pos hi).trans hl
  refine Rn.steps 5 rfl ?_
  refine Rn.stk (st2 := [.int (nI (i + 1)), .ref 137]) (by rw [← nI_1]) ?_
  refine Rn.call rfl rfl rfl (Rn.pk (m_nf (d + 1) n p _ hp ty (i + 1) hty (by omega))) ?_
  refine Rn.steps 4 rfl ?_
  refine Rn.call rfl rfl rfl (Rn.pk (m_sig (d + 3) n p _ hp ty i hty (by omega))) ?_
  rw [es]
  refine Rn.steps 1 rfl ?_
  refine Rn.steps 3 rfl ?_
  refine Rn.call rfl rfl rfl (Rn.tk hm) ?_
  exact Rn.retE rfl rfl rfl rfl rfl
theorem b_ord_114 (hp : Pc p) (ty i : Nat) (hty : ty ≤ 80) (hi : i < ty) (hl : p i = 114) (r : Int32) (z' s' : Nat → Int32) (hm : Rn (d + 3) 53 0 [(0, .ref 4), (1, .int (nuC p ty i))] [] (tOn z s (mOn A w (pOn p (nI ty) (bO ch R R2 sv q)))) n (some (.int r)) (tOn z' s' (mOn A w (pOn p (nI ty) (bO ch R R2 sv q)))) n) : Rn (d + 4) 81 0 [(0, .ref 3), (1, .int (nI i))] [] (FF A w p (nI ty) ch R R2 sv z s q) n (some (.int r)) (FF A w p (nI ty) ch R R2 sv z' s' q) n := by
  have es : sg p ty i = 114 := (if_pos hi).trans hl
  refine Rn.steps 5 rfl ?_
  refine Rn.stk (st2 := [.int (nI (i + 1)), .ref 137]) (by rw [← nI_1]) ?_
  refine Rn.call rfl rfl rfl (Rn.pk (m_nf (d + 1) n p _ hp ty (i + 1) hty (by omega))) ?_
  refine Rn.steps 4 rfl ?_
  refine Rn.call rfl rfl rfl (Rn.pk (m_sig (d + 3) n p _ hp ty i hty (by omega))) ?_
  rw [es]
  refine Rn.steps 1 rfl ?_
  refine Rn.steps 3 rfl ?_
  refine Rn.call rfl rfl rfl (Rn.tk hm) ?_
  exact Rn.retE rfl rfl rfl rfl rfl
theorem b_ord_120 (hp : Pc p) (ty i : Nat) (hty : ty ≤ 80) (hi : i < ty) (hl : p i = 120) (r : Int32) (z' s' : Nat → Int32) (hm : Rn (d + 3) 51 0 [(0, .ref 4), (1, .int (nuC p ty i))] [] (tOn z s (mOn A w (pOn p (nI ty) (bO ch R R2 sv q)))) n (some (.int r)) (tOn z' s' (mOn A w (pOn p (nI ty) (bO ch R R2 sv q)))) n) : Rn (d + 4) 81 0 [(0, .ref 3), (1, .int (nI i))] [] (FF A w p (nI ty) ch R R2 sv z s q) n (some (.int r)) (FF A w p (nI ty) ch R R2 sv z' s' q) n := by
  have es : sg p ty i = 120 := (if_pos hi).trans hl
  refine Rn.steps 5 rfl ?_
  refine Rn.stk (st2 := [.int (nI (i + 1)), .ref 137]) (by rw [← nI_1]) ?_
  refine Rn.call rfl rfl rfl (Rn.pk (m_nf (d + 1) n p _ hp ty (i + 1) hty (by omega))) ?_
  refine Rn.steps 4 rfl ?_
  refine Rn.call rfl rfl rfl (Rn.pk (m_sig (d + 3) n p _ hp ty i hty (by omega))) ?_
  rw [es]
  refine Rn.steps 1 rfl ?_
  refine Rn.steps 3 rfl ?_
  refine Rn.call rfl rfl rfl (Rn.tk hm) ?_
  exact Rn.retE rfl rfl rfl rfl rfl
theorem b_ord_99 (hp : Pc p) (ty i : Nat) (hty : ty ≤ 80) (hi : i < ty) (hl : p i = 99) (hn : bdF p (ty - (i + 1)) (i + 1) + 1 ≤ ty) (r : Int32) (z' s' : Nat → Int32) (hm : Rn (d + 3) 50 0 [(0, .ref 4), (1, .int (nuC p ty i)), (2, .int (noC p ty i))] [] (tOn z s (mOn A w (pOn p (nI ty) (bO ch R R2 sv q)))) n (some (.int r)) (tOn z' s' (mOn A w (pOn p (nI ty) (bO ch R R2 sv q)))) n) : Rn (d + 4) 81 0 [(0, .ref 3), (1, .int (nI i))] [] (FF A w p (nI ty) ch R R2 sv z s q) n (some (.int r)) (FF A w p (nI ty) ch R R2 sv z' s' q) n := by
  have es : sg p ty i = 99 := (if_pos hi).trans hl
  refine Rn.steps 5 rfl ?_
  refine Rn.stk (st2 := [.int (nI (i + 1)), .ref 137]) (by rw [← nI_1]) ?_
  refine Rn.call rfl rfl rfl (Rn.pk (m_nf (d + 1) n p _ hp ty (i + 1) hty (by omega))) ?_
  refine Rn.steps 4 rfl ?_
  refine Rn.call rfl rfl rfl (Rn.pk (m_sig (d + 3) n p _ hp ty i hty (by omega))) ?_
  rw [es]
  refine Rn.steps 1 rfl ?_
  refine Rn.steps 8 rfl ?_
  refine Rn.stk (st2 := [.int (nI (i + 1)), .ref 137, .int (nuC p ty i), .ref 4]) (by rw [← nI_1]; rfl) ?_
  refine Rn.call rfl rfl rfl (Rn.pk (m_no d n p _ hp ty (i + 1) hty hn)) ?_
  refine Rn.call rfl rfl rfl (Rn.tk hm) ?_
  exact Rn.retE rfl rfl rfl rfl rfl
theorem b_co_bad (ty : Nat) (hty : ty ≤ 80) (h : ¬ faF p ty ty 0 0 = -6) : Rn (d + 5) 82 0 [(0, .ref 3)] [] (FF A w p (nI ty) ch R R2 sv z s q) n (some (.int (-3))) (FF A w p (nI ty) ch R R2 sv z s q) n := by
  refine Rn.steps 2 rfl ?_
  refine Rn.call rfl rfl rfl (Rn.pk (m_fa (d + 2) n p _ ty hty)) ?_
  refine Rn.br 2 rfl (fun hc9 => ?_) (fun hc9 => ?_)
  · exact (h hc9).elim
  · refine Rn.steps 1 rfl ?_
    exact Rn.retE rfl rfl rfl rfl rfl
theorem b_co_st (hR : HR R hr) (hH : Hq q Z S) (c : Nat) (hc : c ≤ 6) (hf : Fl z) (ty : Nat) (hty : ty ≤ 80) (h : faF p ty ty 0 0 = -6) {v : Option Value} {h' : xHp} {n' : Nat} (kk : Rn (d + 5) 82 23 [(0, .ref 3), (1, .int (nI 0)), (2, .int (nI 0))] [] (FF A w p (nI ty) (nI c) R R2 sv z s (tAt (bs (hr c)) z s q)) n v h' n') : Rn (d + 5) 82 0 [(0, .ref 3)] [] (FF A w p (nI ty) (nI c) R R2 sv z s q) n v h' n' := by
  refine Rn.steps 2 rfl ?_
  refine Rn.call rfl rfl rfl (Rn.pk (m_fa (d + 2) n p _ ty hty)) ?_
  refine Rn.br 2 rfl (fun hc9 => ?_) (fun hc9 => ?_)
  · refine Rn.steps 1 rfl ?_
    refine Rn.call rfl rfl rfl (m_keep (d + 2) n hr Z S hR hH c hc hf) ?_
    refine Rn.steps 4 rfl ?_
    exact Rn.l3 rfl rfl rfl rfl kk
  · exact (hc9 h).elim
theorem b_co_s (hp : Pc p) (ty : Nat) (hty : ty ≤ 80) (k a a' : Nat) (hk8 : k < 80) (ha : a < ty) (z' s' : Nat → Int32) (r : Int32) (hr0 : ¬ r < 0) (ho : Rn (d + 4) 81 0 [(0, .ref 3), (1, .int (nI a))] [] (FF A w p (nI ty) ch R R2 sv z s q) n (some (.int r)) (FF A w p (nI ty) ch R R2 sv z' s' q) n) (hn : noF p (ty - a) a = a') {v : Option Value} {h' : xHp} {n' : Nat} (kk : Rn (d + 5) 82 23 [(0, .ref 3), (1, .int (nI (k + 1))), (2, .int (nI a'))] [] (FF A w p (nI ty) ch R R2 sv z' s' q) n v h' n') : Rn (d + 5) 82 23 [(0, .ref 3), (1, .int (nI k)), (2, .int (nI a))] [] (FF A w p (nI ty) ch R R2 sv z s q) n v h' n' := by
  refine Rn.br 3 rfl (fun hc26 => ?_) (fun hc26 => ?_)
  · exact (nI_ge (b := 80) hk8 (by omega) hc26).elim
  · refine Rn.br 5 rfl (fun hc37 => ?_) (fun hc37 => ?_)
    · exact (nI_ge ha (by omega) hc37).elim
    · refine Rn.steps 2 rfl ?_
      refine Rn.call rfl rfl rfl (ho) ?_
      refine Rn.br 1 rfl (fun hc45 => ?_) (fun hc45 => ?_)
      · exact (hr0 hc45).elim
      · refine Rn.steps 4 rfl ?_
        refine Rn.call rfl rfl rfl (Rn.pk (m_ne (d + 3) n p _ hp ty a hty (by omega))) ?_
        rw [hn]
        refine Rn.steps 2 rfl ?_
        exact Rn.l3 rfl rfl (by rw [← nI_1 k]; rfl) rfl kk
theorem b_co_e1 (ty : Nat) (hty : ty ≤ 80) (k a : Nat) (ha : ty ≤ a) (ha9 : a ≤ 200) {v : Option Value} {h' : xHp} {n' : Nat} (kk : Rn (d + 5) 82 63 [(0, .ref 3), (1, .int (nI k))] [] (FF A w p (nI ty) ch R R2 sv z s q) n v h' n') : Rn (d + 5) 82 23 [(0, .ref 3), (1, .int (nI k)), (2, .int (nI a))] [] (FF A w p (nI ty) ch R R2 sv z s q) n v h' n' := by
  refine Rn.br 3 rfl (fun hc26 => ?_) (fun hc26 => ?_)
  · exact Rn.l2 rfl rfl rfl kk
  · refine Rn.br 5 rfl (fun hc37 => ?_) (fun hc37 => ?_)
    · exact Rn.l2 rfl rfl rfl kk
    · exact (hc37 (nI_le ha (by omega))).elim
theorem b_co_e2 (ty : Nat) (hty : ty ≤ 80) (k a : Nat) (hk8 : k < 80) (ha : a < ty) (r : Int32) (z' s' : Nat → Int32) (hr0 : r < 0) (ho : Rn (d + 4) 81 0 [(0, .ref 3), (1, .int (nI a))] [] (FF A w p (nI ty) ch R R2 sv z s q) n (some (.int r)) (FF A w p (nI ty) ch R R2 sv z' s' q) n) {v : Option Value} {h' : xHp} {n' : Nat} (kk : Rn (d + 5) 82 63 [(0, .ref 3), (1, .int (nI k))] [] (FF A w p (nI ty) ch R R2 sv z' s' q) n v h' n') : Rn (d + 5) 82 23 [(0, .ref 3), (1, .int (nI k)), (2, .int (nI a))] [] (FF A w p (nI ty) ch R R2 sv z s q) n v h' n' := by
  refine Rn.br 3 rfl (fun hc26 => ?_) (fun hc26 => ?_)
  · exact (nI_ge (b := 80) hk8 (by omega) hc26).elim
  · refine Rn.br 5 rfl (fun hc37 => ?_) (fun hc37 => ?_)
    · exact (nI_ge ha (by omega) hc37).elim
    · refine Rn.steps 2 rfl ?_
      refine Rn.call rfl rfl rfl (ho) ?_
      refine Rn.br 1 rfl (fun hc45 => ?_) (fun hc45 => ?_)
      · exact Rn.l2 rfl rfl rfl kk
      · exact (hc45 hr0).elim
theorem b_co_end (hR : HR R hr) (hH : Hq q Z S) (c : Nat) (hc : c ≤ 6) (k : Nat) : Rn (d + 5) 82 63 [(0, .ref 3), (1, .int (nI k))] [] (FF A w p ln (nI c) R R2 sv z s q) n (some (.int (nI k))) (FF A w p 0 (nI (rcC (nI k) c)) (rcR (nI k) c R) R2 sv z s q) n := by
  refine Rn.steps 2 rfl ?_
  refine Rn.call rfl rfl rfl (Rn.pk (m_empty (d + 4) n p _ ln)) ?_
  refine Rn.steps 3 rfl ?_
  refine Rn.call rfl rfl rfl (m_rec (d + 4) n hr Z S hR hH c hc (nI k)) ?_
  exact Rn.retE rfl rfl rfl rfl rfl
theorem b_undo_no : Rn (d + 2) 83 0 [(0, .ref 3)] [] (FF A w p ln 0 R R2 sv z s q) n (some (.int (-5))) (FF A w p ln 0 R R2 sv z s q) n := by
  refine Rn.steps 4 rfl ?_
  exact Rn.retE rfl rfl rfl rfl rfl
theorem b_undo (hR : HR R hr) (hH : Hq q Z S) (c : Nat) (hc : c < 6) (hf : Fl (Z (hr c))) (z2 : Nat → Int32) (hz : E80 (Z (hr c)) z2) : Rn (d + 2) 83 0 [(0, .ref 3)] [] (FF A w p ln (nI (c + 1)) R R2 sv z s q) n (some (.int (nI c))) (FF A w p ln (nI c) R R2 sv z2 (S (hr c)) q) n := by
  obtain ⟨e1, e2, e3⟩ := hR c (by omega)
  have hb := bs_in e2 (by omega : hr c < 10)
  refine Rn.br 3 rfl (fun hc4 => ?_) (fun hc4 => ?_)
  · exact (nI_ne0 (n := c + 1) (by omega) (by omega) hc4).elim
  · refine Rn.steps 6 rfl ?_
    refine Rn.heap FF_ch ?_
    rw [nI_pred]
    refine Rn.steps 6 rfl ?_
    refine Rn.aaldN (m := c) rfl rfl rfl rfl rfl (by omega) (Nat.le_of_ble_eq_true rfl) e1 ?_
    refine Rn.call rfl rfl rfl (m_tcopy d n _ 4 (bs (hr c)) (by omega) (by omega) (by omega) (Z (hr c)) (S (hr c)) z s (fun o ho => FF_4 ho) (fun o ho => FF_hd (c := c) Z S hH e2 (by omega) ho) hf) ?_
    refine Rn.heap (FF_at4 hz) ?_
    refine Rn.steps 2 rfl ?_
    exact Rn.retE rfl rfl rfl rfl rfl
theorem b_save_bad (x : Int32) (hx : decide (0 ≤ x ∧ x ≤ 1) = false) : Rn (d + 2) 84 0 [(0, .ref 3), (1, .int x)] [] (FF A w p ln ch R R2 sv z s q) n (some (.int (-2))) (FF A w p ln ch R R2 sv z s q) n := by
  refine Rn.br 2 rfl (fun hc1 => ?_) (fun hc1 => ?_)
  · refine Rn.steps 1 rfl ?_
    exact Rn.retE rfl rfl rfl rfl rfl
  · have h0 : 0 ≤ x := Int32.not_lt.mp hc1
    refine Rn.br 3 rfl (fun hc6 => ?_) (fun hc6 => ?_)
    · exact (of_decide_eq_false hx ⟨h0, le1_of hc6⟩).elim
    · refine Rn.steps 1 rfl ?_
      exact Rn.retE rfl rfl rfl rfl rfl
theorem b_save (hH : Hq q Z S) (t : Nat) (ht : t < 2) (hs : R2 t = some (bs (8 + t))) (hf : Fl z) : Rn (d + 2) 84 0 [(0, .ref 3), (1, .int (nI t))] [] (FF A w p ln ch R R2 sv z s q) n (some (.int (mMany z 10))) (FF A w p ln ch R R2 (upd sv t 1) z s (tAt (bs (8 + t)) z s q)) n := by
  have hb := bs_in (t := 8 + t) (by omega) (by omega)
  refine Rn.br 2 rfl (fun hc1 => ?_) (fun hc1 => ?_)
  · exact (nI_pos (show t < 2 ^ 31 by omega) hc1).elim
  · refine Rn.br 3 rfl (fun hc6 => ?_) (fun hc6 => ?_)
    · refine Rn.steps 3 rfl ?_
      refine Rn.aaldN (m := t) rfl rfl rfl rfl rfl ht (Nat.le_of_ble_eq_true rfl) hs ?_
      refine Rn.steps 2 rfl ?_
      refine Rn.callO rfl rfl rfl (show (FF A w p ln ch R R2 sv z s q) (bs (8 + t)) = .inr (2, _) from FF_hd (c := 0) Z S hH (by omega) (by omega) (o := 0) (by omega)) rfl rfl rfl rfl rfl rfl (m_tcopy d n _ (bs (8 + t)) 4 (by omega) (by omega) (by omega) z s (Z (8 + t)) (S (8 + t)) (fun o ho => FF_hd (c := 0) Z S hH (by omega) (by omega) ho) (fun o ho => FF_4 ho) hf) ?_
      refine Rn.heap (FF_at hb) ?_
      refine Rn.steps 4 rfl ?_
      refine Rn.bastN (m := t) rfl rfl rfl rfl (rfl) (ht) (Nat.le_of_ble_eq_true rfl) ?_
      refine Rn.heap (FF_sv (f' := upd sv t 1) rfl) ?_
      refine Rn.steps 2 rfl ?_
      refine Rn.call rfl rfl rfl (Rn.tk (t_count d n z s _)) ?_
      exact Rn.retE rfl rfl rfl rfl rfl
    · exact (hc6 (nI_lt (b := 2) ht (by omega))).elim
theorem b_res_bad (x : Int32) (hx : decide (0 ≤ x ∧ x ≤ 1) = false) : Rn (d + 2) 85 0 [(0, .ref 3), (1, .int x)] [] (FF A w p ln ch R R2 sv z s q) n (some (.int (-2))) (FF A w p ln ch R R2 sv z s q) n := by
  refine Rn.br 2 rfl (fun hc1 => ?_) (fun hc1 => ?_)
  · refine Rn.steps 1 rfl ?_
    exact Rn.retE rfl rfl rfl rfl rfl
  · have h0 : 0 ≤ x := Int32.not_lt.mp hc1
    refine Rn.br 3 rfl (fun hc6 => ?_) (fun hc6 => ?_)
    · exact (of_decide_eq_false hx ⟨h0, le1_of hc6⟩).elim
    · refine Rn.steps 1 rfl ?_
      exact Rn.retE rfl rfl rfl rfl rfl
theorem b_res_not (t : Nat) (ht : t < 2) (hv : sv t = 0) : Rn (d + 2) 85 0 [(0, .ref 3), (1, .int (nI t))] [] (FF A w p ln ch R R2 sv z s q) n (some (.int (-5))) (FF A w p ln ch R R2 sv z s q) n := by
  refine Rn.br 2 rfl (fun hc1 => ?_) (fun hc1 => ?_)
  · exact (nI_pos (show t < 2 ^ 31 by omega) hc1).elim
  · refine Rn.br 3 rfl (fun hc6 => ?_) (fun hc6 => ?_)
    · refine Rn.steps 3 rfl ?_
      refine Rn.baldN (m := t) rfl rfl rfl (rfl) (ht) (Nat.le_of_ble_eq_true rfl) ?_
      rw [hv]
      refine Rn.steps 2 rfl ?_
      exact Rn.retE rfl rfl rfl rfl rfl
    · exact (hc6 (nI_lt (b := 2) ht (by omega))).elim
theorem b_res (hR : HR R hr) (hH : Hq q Z S) (c : Nat) (hc : c ≤ 6) (hf : Fl z) (t : Nat) (ht : t < 2) (hs : R2 t = some (bs (8 + t))) (hv : ¬ sv t = 0) (hft : Fl (Z (8 + t))) (z2 : Nat → Int32) (hz : E80 (Z (8 + t)) z2) : Rn (d + 3) 85 0 [(0, .ref 3), (1, .int (nI t))] [] (FF A w p ln (nI c) R R2 sv z s q) n (some (.int (mMany z2 10))) (FF A w p ln (nI (rcC (mMany z2 10) c)) (rcR (mMany z2 10) c R) R2 sv z2 (S (8 + t)) (tAt (bs (hr c)) z s q)) n := by
  have hb := bs_in (t := 8 + t) (by omega) (by omega)
  obtain ⟨e1, e2, e3⟩ := hR c (by omega)
  have hH2 := Hq_at (z1 := z) (s1 := s) hH e2 (by omega : hr c < 10)
  have v1 : va_up Z (hr c) z (8 + t) = Z (8 + t) := vz_up (by omega)
  have v2 : va_up S (hr c) s (8 + t) = S (8 + t) := vz_up (by omega)
  have hs4 : ∀ o, o ≤ 12 → (FF A w p ln (nI c) R R2 sv z s (tAt (bs (hr c)) z s q)) (bs (8 + t) + o) = tc (bs (8 + t)) (Z (8 + t)) (S (8 + t)) o := by
    intro o ho
    have := FF_hd (A := A) (w := w) (p := p) (ln := ln) (ch := nI c) (R := R) (R2 := R2) (sv := sv) (z := z) (s := s) (c := c) _ _ hH2 (t := 8 + t) (by omega) (by omega) ho
    rw [v1, v2] at this
    exact this
  refine Rn.br 2 rfl (fun hc1 => ?_) (fun hc1 => ?_)
  · exact (nI_pos (show t < 2 ^ 31 by omega) hc1).elim
  · refine Rn.br 3 rfl (fun hc6 => ?_) (fun hc6 => ?_)
    · refine Rn.steps 3 rfl ?_
      refine Rn.baldN (m := t) rfl rfl rfl (rfl) (ht) (Nat.le_of_ble_eq_true rfl) ?_
      refine Rn.br 1 rfl (fun hc18 => ?_) (fun hc18 => ?_)
      · exact (hv hc18).elim
      · refine Rn.steps 1 rfl ?_
        refine Rn.call rfl rfl rfl (m_keep (d + 0) n hr Z S hR hH c hc hf) ?_
        refine Rn.steps 5 rfl ?_
        refine Rn.aaldN (m := t) rfl rfl rfl rfl rfl ht (Nat.le_of_ble_eq_true rfl) hs ?_
        refine Rn.call rfl rfl rfl (m_tcopy (d + 1) n _ 4 (bs (8 + t)) (by omega) (by omega) (by omega) (Z (8 + t)) (S (8 + t)) z s (fun o ho => FF_4 ho) hs4 hft) ?_
        refine Rn.heap (FF_at4 hz) ?_
        refine Rn.steps 3 rfl ?_
        refine Rn.call rfl rfl rfl (Rn.tk (t_count (d + 1) n z2 _ _)) ?_
        refine Rn.call rfl rfl rfl (m_rec (d + 2) n hr _ _ hR hH2 c hc _) ?_
        exact Rn.retE rfl rfl rfl rfl rfl
    · exact (hc6 (nI_lt (b := 2) ht (by omega))).elim
end CLASS10
