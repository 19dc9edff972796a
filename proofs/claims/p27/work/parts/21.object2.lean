/-! the class's object: what looks, texts, undo, slots -/
theorem bi_if {b : Bool} : (if bi b = 0 then (0 : Int32) else 1) = bi b := by cases b <;> rfl
theorem fl_01 {x : Int32} (h : x = 0 ∨ x = 1) : (if x = 0 then (0 : Int32) else 1) = x := by
  rcases h with rfl | rfl <;> rfl
theorem le1_of {x : Int32} (h : x < 2) : x ≤ 1 := by
  have := Int32.lt_iff_toInt_lt.mp h
  exact Int32.le_iff_toInt_le.mpr (by show x.toInt ≤ 1; have : x.toInt < 2 := this; omega)
section CLASS9
variable (d n : Nat) (z s : Nat → Int32) (g : xHp)
theorem m_ctell_0 (c : Nat) (hc : c < 10) (hz : zt z c = true) : Rn d 7 0 [(0, .ref (7 + c)), (1, .int 0)] [] (tOn z s g) n (some (.int (z (10 + 7 * c) / 4))) (tOn z s g) n := by
  refine Rn.steps 2 rfl ?_
  refine Rn.steps 1 rfl ?_
  refine Rn.getf rfl rfl (tOn_c hc) (cf_p hz) ?_
  refine Rn.steps 2 rfl ?_
  exact Rn.retE rfl rfl rfl rfl rfl
theorem m_ctell_1 (c : Nat) (hc : c < 10) (hz : zt z c = true) : Rn d 7 0 [(0, .ref (7 + c)), (1, .int 1)] [] (tOn z s g) n (some (.int (rm (z (10 + 7 * c)) 4))) (tOn z s g) n := by
  refine Rn.steps 2 rfl ?_
  refine Rn.steps 1 rfl ?_
  refine Rn.getf rfl rfl (tOn_c hc) (cf_p hz) ?_
  refine Rn.steps 1 rfl ?_
  refine Rn.irem rfl rfl (by decide) ?_
  exact Rn.retE rfl rfl rfl rfl rfl
theorem m_ctell_2 (c : Nat) (hc : c < 10) (hz : zt z c = true) : Rn d 7 0 [(0, .ref (7 + c)), (1, .int 2)] [] (tOn z s g) n (some (.int (z (10 + 7 * c + 1)))) (tOn z s g) n := by
  refine Rn.steps 2 rfl ?_
  refine Rn.steps 1 rfl ?_
  refine Rn.getf rfl rfl (tOn_c hc) rfl ?_
  exact Rn.retE rfl rfl rfl rfl rfl
theorem m_ctell_3 (c : Nat) (hc : c < 10) (hz : zt z c = true) (hf : Fl z) : Rn d 7 0 [(0, .ref (7 + c)), (1, .int 3)] [] (tOn z s g) n (some (.int (z (10 + 7 * c + 2)))) (tOn z s g) n := by
  refine Rn.steps 2 rfl ?_
  refine Rn.steps 1 rfl ?_
  refine Rn.getf rfl rfl (tOn_c hc) rfl ?_
  refine Rn.br 1 rfl (fun hc71 => ?_) (fun hc71 => ?_)
  · have hv : z (10 + 7 * c + 2) = 0 := hc71
    refine Rn.steps 1 rfl ?_
    exact Rn.retE rfl rfl rfl (by rw [hv]) rfl
  · have hv : z (10 + 7 * c + 2) = 1 := (hf c hc).resolve_left hc71
    refine Rn.steps 2 rfl ?_
    exact Rn.retE rfl rfl rfl (by rw [hv]) rfl
theorem m_ctell_4 (c : Nat) (hc : c < 10) (hz : zt z c = true) : Rn d 7 0 [(0, .ref (7 + c)), (1, .int 4)] [] (tOn z s g) n (some (.int (z (10 + 7 * c + 3)))) (tOn z s g) n := by
  refine Rn.steps 2 rfl ?_
  refine Rn.steps 1 rfl ?_
  refine Rn.getf rfl rfl (tOn_c hc) rfl ?_
  exact Rn.retE rfl rfl rfl rfl rfl
theorem m_ctell_5 (c : Nat) (hc : c < 10) (hz : zt z c = true) : Rn d 7 0 [(0, .ref (7 + c)), (1, .int 5)] [] (tOn z s g) n (some (.int (z (10 + 7 * c + 4)))) (tOn z s g) n := by
  refine Rn.steps 2 rfl ?_
  refine Rn.steps 1 rfl ?_
  refine Rn.getf rfl rfl (tOn_c hc) rfl ?_
  exact Rn.retE rfl rfl rfl rfl rfl
theorem m_ctell_6 (c : Nat) (hc : c < 10) (hz : zt z c = true) : Rn d 7 0 [(0, .ref (7 + c)), (1, .int 6)] [] (tOn z s g) n (some (.int (z (10 + 7 * c + 5)))) (tOn z s g) n := by
  refine Rn.steps 2 rfl ?_
  refine Rn.steps 1 rfl ?_
  refine Rn.getf rfl rfl (tOn_c hc) rfl ?_
  exact Rn.retE rfl rfl rfl rfl rfl
theorem m_ctell_7 (c : Nat) (hc : c < 10) (hz : zt z c = true) : Rn (d + 1) 7 0 [(0, .ref (7 + c)), (1, .int 7)] [] (tOn z s g) n (some (.int (bi (guF (z (10 + 7 * c)))))) (tOn z s g) n := by
  refine Rn.steps 2 rfl ?_
  refine Rn.steps 1 rfl ?_
  refine Rn.getf rfl rfl (tOn_c hc) (cf_p hz) ?_
  refine Rn.call rfl rfl rfl (m_goesUp d n _ _) ?_
  refine Rn.br 1 rfl (fun hc102 => ?_) (fun hc102 => ?_)
  · have hv := bi_eq0 hc102
    refine Rn.steps 1 rfl ?_
    exact Rn.retE rfl rfl rfl (by rw [hv]; rfl) rfl
  · have hv := bi_ne0 hc102
    refine Rn.steps 2 rfl ?_
    exact Rn.retE rfl rfl rfl (by rw [hv]; rfl) rfl
theorem m_ctell_out (c : Nat) (y : Int32) (hy : y.toInt < 0 ∨ 7 < y.toInt) (h : xHp) : Rn d 7 0 [(0, .ref (7 + c)), (1, .int y)] [] h n (some (.int (-2))) h n := by
  refine Rn.steps 1 rfl ?_
  refine Rn.swOut rfl rfl hy 111 rfl ?_
  refine Rn.steps 1 rfl ?_
  exact Rn.retE rfl rfl rfl rfl rfl
theorem t_tell_out (y : Int32) (hy : y.toInt < 0 ∨ 12 < y.toInt) (h : xHp) : Rn d 57 0 [(0, .ref 4), (1, .int y)] [] h n (some (.int (-2))) h n := by
  refine Rn.steps 1 rfl ?_
  refine Rn.swOut rfl rfl hy 139 rfl ?_
  refine Rn.steps 1 rfl ?_
  exact Rn.retE rfl rfl rfl rfl rfl
end CLASS9
section CLASS10
variable {p : Nat → Int32} {ln ch : Int32} {R R2 : Nat → Option Nat} {sv z s : Nat → Int32} {q : xHp}
variable (d n : Nat) (hr : Nat → Nat) (Z S : Nat → Nat → Int32)
theorem b_of_bad (x y : Int32) (hx : isC z x = false) : Rn (d + 2) 68 0 [(0, .ref 3), (1, .int x), (2, .int y)] [] (FF p ln ch R R2 sv z s q) n (some (.int (-1))) (FF p ln ch R R2 sv z s q) n := by
  refine Rn.steps 3 rfl ?_
  refine Rn.call rfl rfl rfl (Rn.tk (t_has (d + 1) n z s _ x)) ?_
  rw [hx]
  refine Rn.steps 2 rfl ?_
  exact Rn.retE rfl rfl rfl rfl rfl
theorem b_of_0 (c : Nat) (hc : c < 10) (hz : zt z c = true) : Rn (d + 2) 68 0 [(0, .ref 3), (1, .int (nI c)), (2, .int 0)] [] (FF p ln ch R R2 sv z s q) n (some (.int (z (10 + 7 * c) / 4))) (FF p ln ch R R2 sv z s q) n := by
  refine Rn.steps 3 rfl ?_
  refine Rn.call rfl rfl rfl (Rn.tk (t_has (d + 1) n z s _ (nI c))) ?_
  rw [isC_nI hc, hz]
  refine Rn.steps 5 rfl ?_
  refine Rn.aaldN (m := c) rfl rfl rfl rfl rfl hc (Nat.le_of_ble_eq_true rfl) (crow hc) ?_
  refine Rn.steps 1 rfl ?_
  refine Rn.callO rfl rfl rfl (show (FF p ln ch R R2 sv z s q) (7 + c) = .inr (0, cf z s c) by rw [FF_t]; exact tOn_c hc) rfl rfl rfl rfl rfl rfl (Rn.tk (m_ctell_0 (d + 1) n z s _ c hc hz)) ?_
  exact Rn.retE rfl rfl rfl rfl rfl
theorem b_of_1 (c : Nat) (hc : c < 10) (hz : zt z c = true) : Rn (d + 2) 68 0 [(0, .ref 3), (1, .int (nI c)), (2, .int 1)] [] (FF p ln ch R R2 sv z s q) n (some (.int (rm (z (10 + 7 * c)) 4))) (FF p ln ch R R2 sv z s q) n := by
  refine Rn.steps 3 rfl ?_
  refine Rn.call rfl rfl rfl (Rn.tk (t_has (d + 1) n z s _ (nI c))) ?_
  rw [isC_nI hc, hz]
  refine Rn.steps 5 rfl ?_
  refine Rn.aaldN (m := c) rfl rfl rfl rfl rfl hc (Nat.le_of_ble_eq_true rfl) (crow hc) ?_
  refine Rn.steps 1 rfl ?_
  refine Rn.callO rfl rfl rfl (show (FF p ln ch R R2 sv z s q) (7 + c) = .inr (0, cf z s c) by rw [FF_t]; exact tOn_c hc) rfl rfl rfl rfl rfl rfl (Rn.tk (m_ctell_1 (d + 1) n z s _ c hc hz)) ?_
  exact Rn.retE rfl rfl rfl rfl rfl
theorem b_of_2 (c : Nat) (hc : c < 10) (hz : zt z c = true) : Rn (d + 2) 68 0 [(0, .ref 3), (1, .int (nI c)), (2, .int 2)] [] (FF p ln ch R R2 sv z s q) n (some (.int (z (10 + 7 * c + 1)))) (FF p ln ch R R2 sv z s q) n := by
  refine Rn.steps 3 rfl ?_
  refine Rn.call rfl rfl rfl (Rn.tk (t_has (d + 1) n z s _ (nI c))) ?_
  rw [isC_nI hc, hz]
  refine Rn.steps 5 rfl ?_
  refine Rn.aaldN (m := c) rfl rfl rfl rfl rfl hc (Nat.le_of_ble_eq_true rfl) (crow hc) ?_
  refine Rn.steps 1 rfl ?_
  refine Rn.callO rfl rfl rfl (show (FF p ln ch R R2 sv z s q) (7 + c) = .inr (0, cf z s c) by rw [FF_t]; exact tOn_c hc) rfl rfl rfl rfl rfl rfl (Rn.tk (m_ctell_2 (d + 1) n z s _ c hc hz)) ?_
  exact Rn.retE rfl rfl rfl rfl rfl
theorem b_of_3 (c : Nat) (hc : c < 10) (hz : zt z c = true) (hf : Fl z) : Rn (d + 2) 68 0 [(0, .ref 3), (1, .int (nI c)), (2, .int 3)] [] (FF p ln ch R R2 sv z s q) n (some (.int (z (10 + 7 * c + 2)))) (FF p ln ch R R2 sv z s q) n := by
  refine Rn.steps 3 rfl ?_
  refine Rn.call rfl rfl rfl (Rn.tk (t_has (d + 1) n z s _ (nI c))) ?_
  rw [isC_nI hc, hz]
  refine Rn.steps 5 rfl ?_
  refine Rn.aaldN (m := c) rfl rfl rfl rfl rfl hc (Nat.le_of_ble_eq_true rfl) (crow hc) ?_
  refine Rn.steps 1 rfl ?_
  refine Rn.callO rfl rfl rfl (show (FF p ln ch R R2 sv z s q) (7 + c) = .inr (0, cf z s c) by rw [FF_t]; exact tOn_c hc) rfl rfl rfl rfl rfl rfl (Rn.tk (m_ctell_3 (d + 1) n z s _ c hc hz hf)) ?_
  exact Rn.retE rfl rfl rfl rfl rfl
theorem b_of_4 (c : Nat) (hc : c < 10) (hz : zt z c = true) : Rn (d + 2) 68 0 [(0, .ref 3), (1, .int (nI c)), (2, .int 4)] [] (FF p ln ch R R2 sv z s q) n (some (.int (z (10 + 7 * c + 3)))) (FF p ln ch R R2 sv z s q) n := by
  refine Rn.steps 3 rfl ?_
  refine Rn.call rfl rfl rfl (Rn.tk (t_has (d + 1) n z s _ (nI c))) ?_
  rw [isC_nI hc, hz]
  refine Rn.steps 5 rfl ?_
  refine Rn.aaldN (m := c) rfl rfl rfl rfl rfl hc (Nat.le_of_ble_eq_true rfl) (crow hc) ?_
  refine Rn.steps 1 rfl ?_
  refine Rn.callO rfl rfl rfl (show (FF p ln ch R R2 sv z s q) (7 + c) = .inr (0, cf z s c) by rw [FF_t]; exact tOn_c hc) rfl rfl rfl rfl rfl rfl (Rn.tk (m_ctell_4 (d + 1) n z s _ c hc hz)) ?_
  exact Rn.retE rfl rfl rfl rfl rfl
theorem b_of_5 (c : Nat) (hc : c < 10) (hz : zt z c = true) : Rn (d + 2) 68 0 [(0, .ref 3), (1, .int (nI c)), (2, .int 5)] [] (FF p ln ch R R2 sv z s q) n (some (.int (z (10 + 7 * c + 4)))) (FF p ln ch R R2 sv z s q) n := by
  refine Rn.steps 3 rfl ?_
  refine Rn.call rfl rfl rfl (Rn.tk (t_has (d + 1) n z s _ (nI c))) ?_
  rw [isC_nI hc, hz]
  refine Rn.steps 5 rfl ?_
  refine Rn.aaldN (m := c) rfl rfl rfl rfl rfl hc (Nat.le_of_ble_eq_true rfl) (crow hc) ?_
  refine Rn.steps 1 rfl ?_
  refine Rn.callO rfl rfl rfl (show (FF p ln ch R R2 sv z s q) (7 + c) = .inr (0, cf z s c) by rw [FF_t]; exact tOn_c hc) rfl rfl rfl rfl rfl rfl (Rn.tk (m_ctell_5 (d + 1) n z s _ c hc hz)) ?_
  exact Rn.retE rfl rfl rfl rfl rfl
theorem b_of_6 (c : Nat) (hc : c < 10) (hz : zt z c = true) : Rn (d + 2) 68 0 [(0, .ref 3), (1, .int (nI c)), (2, .int 6)] [] (FF p ln ch R R2 sv z s q) n (some (.int (z (10 + 7 * c + 5)))) (FF p ln ch R R2 sv z s q) n := by
  refine Rn.steps 3 rfl ?_
  refine Rn.call rfl rfl rfl (Rn.tk (t_has (d + 1) n z s _ (nI c))) ?_
  rw [isC_nI hc, hz]
  refine Rn.steps 5 rfl ?_
  refine Rn.aaldN (m := c) rfl rfl rfl rfl rfl hc (Nat.le_of_ble_eq_true rfl) (crow hc) ?_
  refine Rn.steps 1 rfl ?_
  refine Rn.callO rfl rfl rfl (show (FF p ln ch R R2 sv z s q) (7 + c) = .inr (0, cf z s c) by rw [FF_t]; exact tOn_c hc) rfl rfl rfl rfl rfl rfl (Rn.tk (m_ctell_6 (d + 1) n z s _ c hc hz)) ?_
  exact Rn.retE rfl rfl rfl rfl rfl
theorem b_of_7 (c : Nat) (hc : c < 10) (hz : zt z c = true) : Rn (d + 2) 68 0 [(0, .ref 3), (1, .int (nI c)), (2, .int 7)] [] (FF p ln ch R R2 sv z s q) n (some (.int (bi (guF (z (10 + 7 * c)))))) (FF p ln ch R R2 sv z s q) n := by
  refine Rn.steps 3 rfl ?_
  refine Rn.call rfl rfl rfl (Rn.tk (t_has (d + 1) n z s _ (nI c))) ?_
  rw [isC_nI hc, hz]
  refine Rn.steps 5 rfl ?_
  refine Rn.aaldN (m := c) rfl rfl rfl rfl rfl hc (Nat.le_of_ble_eq_true rfl) (crow hc) ?_
  refine Rn.steps 1 rfl ?_
  refine Rn.callO rfl rfl rfl (show (FF p ln ch R R2 sv z s q) (7 + c) = .inr (0, cf z s c) by rw [FF_t]; exact tOn_c hc) rfl rfl rfl rfl rfl rfl (Rn.tk (m_ctell_7 d n z s _ c hc hz)) ?_
  exact Rn.retE rfl rfl rfl rfl rfl
theorem b_of_out (c : Nat) (hc : c < 10) (hz : zt z c = true) (y : Int32) (hy : y.toInt < 0 ∨ 7 < y.toInt) : Rn (d + 2) 68 0 [(0, .ref 3), (1, .int (nI c)), (2, .int y)] [] (FF p ln ch R R2 sv z s q) n (some (.int (-2))) (FF p ln ch R R2 sv z s q) n := by
  refine Rn.steps 3 rfl ?_
  refine Rn.call rfl rfl rfl (Rn.tk (t_has (d + 1) n z s _ (nI c))) ?_
  rw [isC_nI hc, hz]
  refine Rn.steps 5 rfl ?_
  refine Rn.aaldN (m := c) rfl rfl rfl rfl rfl hc (Nat.le_of_ble_eq_true rfl) (crow hc) ?_
  refine Rn.steps 1 rfl ?_
  refine Rn.callO rfl rfl rfl (show (FF p ln ch R R2 sv z s q) (7 + c) = .inr (0, cf z s c) by rw [FF_t]; exact tOn_c hc) rfl rfl rfl rfl rfl rfl (m_ctell_out (d + 1) n c y hy _) ?_
  exact Rn.retE rfl rfl rfl rfl rfl
theorem b_at_bad (P : Nat) (hP : z 0 = nI P) (h2 : 2 ≤ P) (h6 : P ≤ 6) (x y : Int32) (hp : isPl (2 * z 0) x y = false) : Rn (d + 2) 69 0 [(0, .ref 3), (1, .int x), (2, .int y)] [] (FF p ln ch R R2 sv z s q) n (some (.int (-1))) (FF p ln ch R R2 sv z s q) n := by
  refine Rn.steps 4 rfl ?_
  refine Rn.call rfl rfl rfl (Rn.tk (t_placeOf d n z s _ P hP h2 h6 x y)) ?_
  rw [hp]
  refine Rn.steps 6 rfl ?_
  exact Rn.retE rfl rfl rfl rfl rfl
theorem b_at (P : Nat) (hP : z 0 = nI P) (h2 : 2 ≤ P) (h6 : P ≤ 6) (x y : Int32) (hp : isPl (2 * z 0) x y = true) (e : Nat) (he : e < 48) (hxy : 4 * x + y = nI e) : Rn (d + 2) 69 0 [(0, .ref 3), (1, .int x), (2, .int y)] [] (FF p ln ch R R2 sv z s q) n (some (.int (fIn z (nI e) 10 0))) (FF p ln ch R R2 sv z s q) n := by
  refine Rn.steps 4 rfl ?_
  refine Rn.call rfl rfl rfl (Rn.tk (t_placeOf d n z s _ P hP h2 h6 x y)) ?_
  rw [hp]
  simp only [cond]
  rw [hxy]
  refine Rn.br 4 rfl (fun hc12 => ?_) (fun hc12 => ?_)
  · exact (nI_no1 he hc12).elim
  · refine Rn.steps 3 rfl ?_
    refine Rn.call rfl rfl rfl (Rn.tk (t_in (d + 1) n z s _ (nI e))) ?_
    exact Rn.retE rfl rfl rfl rfl rfl
theorem b_around (P : Nat) (hP : z 0 = nI P) (h6 : P ≤ 6) (l0 : Int32) : Rn (d + 2) 70 0 [(0, .ref 3), (1, .int l0)] [] (FF p ln ch R R2 sv z s q) n (some (.int (arF z (8 * P) l0 0))) (FF p ln ch R R2 sv z s q) n := by
  refine Rn.steps 3 rfl ?_
  refine Rn.call rfl rfl rfl (Rn.tk (t_rank d n z s _ P hP h6 l0)) ?_
  exact Rn.retE rfl rfl rfl rfl rfl
theorem b_count_0 : Rn (d + 2) 71 0 [(0, .ref 3), (1, .int 0)] [] (FF p ln ch R R2 sv z s q) n (some (.int (2 * z 0))) (FF p ln ch R R2 sv z s q) n := by
  refine Rn.steps 2 rfl ?_
  refine Rn.steps 3 rfl ?_
  refine Rn.call rfl rfl rfl (Rn.tk (t_tell_0 d n z s _)) ?_
  exact Rn.retE rfl rfl rfl rfl rfl
theorem b_count_1 : Rn (d + 2) 71 0 [(0, .ref 3), (1, .int 1)] [] (FF p ln ch R R2 sv z s q) n (some (.int (mSet z 10))) (FF p ln ch R R2 sv z s q) n := by
  refine Rn.steps 2 rfl ?_
  refine Rn.steps 3 rfl ?_
  refine Rn.call rfl rfl rfl (Rn.tk (t_tell_1 d n z s _)) ?_
  exact Rn.retE rfl rfl rfl rfl rfl
theorem b_count_2 : Rn (d + 2) 71 0 [(0, .ref 3), (1, .int 2)] [] (FF p ln ch R R2 sv z s q) n (some (.int (z 3))) (FF p ln ch R R2 sv z s q) n := by
  refine Rn.steps 2 rfl ?_
  refine Rn.steps 3 rfl ?_
  refine Rn.call rfl rfl rfl (Rn.tk (t_tell_2 d n z s _)) ?_
  exact Rn.retE rfl rfl rfl rfl rfl
theorem b_count_3 : Rn (d + 2) 71 0 [(0, .ref 3), (1, .int 3)] [] (FF p ln ch R R2 sv z s q) n (some (.int (z 4))) (FF p ln ch R R2 sv z s q) n := by
  refine Rn.steps 2 rfl ?_
  refine Rn.steps 3 rfl ?_
  refine Rn.call rfl rfl rfl (Rn.tk (t_tell_3 d n z s _)) ?_
  exact Rn.retE rfl rfl rfl rfl rfl
theorem b_count_4 : Rn (d + 2) 71 0 [(0, .ref 3), (1, .int 4)] [] (FF p ln ch R R2 sv z s q) n (some (.int (z 5))) (FF p ln ch R R2 sv z s q) n := by
  refine Rn.steps 2 rfl ?_
  refine Rn.steps 3 rfl ?_
  refine Rn.call rfl rfl rfl (Rn.tk (t_tell_4 d n z s _)) ?_
  exact Rn.retE rfl rfl rfl rfl rfl
theorem b_count_5 : Rn (d + 2) 71 0 [(0, .ref 3), (1, .int 5)] [] (FF p ln ch R R2 sv z s q) n (some (.int (z 6))) (FF p ln ch R R2 sv z s q) n := by
  refine Rn.steps 2 rfl ?_
  refine Rn.steps 3 rfl ?_
  refine Rn.call rfl rfl rfl (Rn.tk (t_tell_5 d n z s _)) ?_
  exact Rn.retE rfl rfl rfl rfl rfl
theorem b_count_6 : Rn (d + 2) 71 0 [(0, .ref 3), (1, .int 6)] [] (FF p ln ch R R2 sv z s q) n (some (.int (z 7))) (FF p ln ch R R2 sv z s q) n := by
  refine Rn.steps 2 rfl ?_
  refine Rn.steps 3 rfl ?_
  refine Rn.call rfl rfl rfl (Rn.tk (t_tell_6 d n z s _)) ?_
  exact Rn.retE rfl rfl rfl rfl rfl
theorem b_count_7 : Rn (d + 2) 71 0 [(0, .ref 3), (1, .int 7)] [] (FF p ln ch R R2 sv z s q) n (some (.int (mSum z 1 10))) (FF p ln ch R R2 sv z s q) n := by
  refine Rn.steps 2 rfl ?_
  refine Rn.steps 3 rfl ?_
  refine Rn.call rfl rfl rfl (Rn.tk (t_tell_7 d n z s _)) ?_
  exact Rn.retE rfl rfl rfl rfl rfl
theorem b_count_8 : Rn (d + 2) 71 0 [(0, .ref 3), (1, .int 8)] [] (FF p ln ch R R2 sv z s q) n (some (.int (z 8))) (FF p ln ch R R2 sv z s q) n := by
  refine Rn.steps 2 rfl ?_
  refine Rn.steps 3 rfl ?_
  refine Rn.call rfl rfl rfl (Rn.tk (t_tell_8 d n z s _)) ?_
  exact Rn.retE rfl rfl rfl rfl rfl
theorem b_count_9 : Rn (d + 2) 71 0 [(0, .ref 3), (1, .int 9)] [] (FF p ln ch R R2 sv z s q) n (some (.int (z 9))) (FF p ln ch R R2 sv z s q) n := by
  refine Rn.steps 2 rfl ?_
  refine Rn.steps 3 rfl ?_
  refine Rn.call rfl rfl rfl (Rn.tk (t_tell_9 d n z s _)) ?_
  exact Rn.retE rfl rfl rfl rfl rfl
theorem b_count_10 : Rn (d + 2) 71 0 [(0, .ref 3), (1, .int 10)] [] (FF p ln ch R R2 sv z s q) n (some (.int (z 0))) (FF p ln ch R R2 sv z s q) n := by
  refine Rn.steps 2 rfl ?_
  refine Rn.steps 3 rfl ?_
  refine Rn.call rfl rfl rfl (Rn.tk (t_tell_10 d n z s _)) ?_
  exact Rn.retE rfl rfl rfl rfl rfl
theorem b_count_11 : Rn (d + 2) 71 0 [(0, .ref 3), (1, .int 11)] [] (FF p ln ch R R2 sv z s q) n (some (.int (z 1))) (FF p ln ch R R2 sv z s q) n := by
  refine Rn.steps 2 rfl ?_
  refine Rn.steps 3 rfl ?_
  refine Rn.call rfl rfl rfl (Rn.tk (t_tell_11 d n z s _)) ?_
  exact Rn.retE rfl rfl rfl rfl rfl
theorem b_count_12 : Rn (d + 2) 71 0 [(0, .ref 3), (1, .int 12)] [] (FF p ln ch R R2 sv z s q) n (some (.int (z 2))) (FF p ln ch R R2 sv z s q) n := by
  refine Rn.steps 2 rfl ?_
  refine Rn.steps 3 rfl ?_
  refine Rn.call rfl rfl rfl (Rn.tk (t_tell_12 d n z s _)) ?_
  exact Rn.retE rfl rfl rfl rfl rfl
theorem b_count_13 : Rn (d + 2) 71 0 [(0, .ref 3), (1, .int 13)] [] (FF p ln ch R R2 sv z s q) n (some (.int (ln))) (FF p ln ch R R2 sv z s q) n := by
  refine Rn.steps 2 rfl ?_
  refine Rn.steps 3 rfl ?_
  exact Rn.retE rfl rfl rfl rfl rfl
theorem b_count_14 : Rn (d + 2) 71 0 [(0, .ref 3), (1, .int 14)] [] (FF p ln ch R R2 sv z s q) n (some (.int (ch))) (FF p ln ch R R2 sv z s q) n := by
  refine Rn.steps 2 rfl ?_
  refine Rn.steps 2 rfl ?_
  exact Rn.retE rfl rfl rfl rfl rfl
theorem b_count_out (y : Int32) (hy : y.toInt < 0 ∨ 14 < y.toInt) : Rn (d + 2) 71 0 [(0, .ref 3), (1, .int y)] [] (FF p ln ch R R2 sv z s q) n (some (.int (-2))) (FF p ln ch R R2 sv z s q) n := by
  have hy2 : y.toInt < 0 ∨ 12 < y.toInt := by omega
  refine Rn.steps 1 rfl ?_
  refine Rn.lsw rfl rfl (off := 40) (lsw2 (by omega) (by omega)) 41 rfl ?_
  refine Rn.steps 3 rfl ?_
  refine Rn.call rfl rfl rfl ((t_tell_out (d + 1) n y hy2 _)) ?_
  exact Rn.retE rfl rfl rfl rfl rfl
theorem b_why (hf : Fl z) (hg : q 2 = .inl (0, 3, .inl xhi)) : Rn (d + 3) 72 0 [(0, .ref 3)] [] (FF p ln ch R R2 sv z s q) n (some (.int (hiF z))) (FF p ln ch R R2 sv z s q) n := by
  refine Rn.steps 2 rfl ?_
  refine Rn.call rfl rfl rfl (Rn.tk (t_hind d n z s _ hf (show (pOn p ln (bO ch R R2 sv q)) 2 = .inl (0, 3, .inl xhi) by rw [pOn_out (by omega), bO_out (by omega) (by omega) (by omega) (by omega)]; exact hg))) ?_
  exact Rn.retE rfl rfl rfl rfl rfl
theorem b_me_bad (y : Int32) (hy : decide (0 ≤ y ∧ y ≤ 3) = false) : Rn (d + 4) 73 0 [(0, .ref 3), (1, .int y)] [] (FF p ln ch R R2 sv z s q) n (some (.int (-2))) (FF p ln ch R R2 sv z s q) n := by
  refine Rn.br 2 rfl (fun hc1 => ?_) (fun hc1 => ?_)
  · refine Rn.steps 1 rfl ?_
    exact Rn.retE rfl rfl rfl rfl rfl
  · have h0 : 0 ≤ y := Int32.not_lt.mp hc1
    refine Rn.br 3 rfl (fun hc6 => ?_) (fun hc6 => ?_)
    · exact (of_decide_eq_false hy ⟨h0, hc6⟩).elim
    · refine Rn.steps 1 rfl ?_
      exact Rn.retE rfl rfl rfl rfl rfl
theorem b_me_no (y : Int32) (hy : decide (0 ≤ y ∧ y ≤ 3) = true) (h : fM (tkF z 10) (2 * z 0) 100 1 (tkF z 10) = -6) : Rn (d + 4) 73 0 [(0, .ref 3), (1, .int y)] [] (FF p ln ch R R2 sv z s q) n (some (.int (-6))) (FF p ln ch R R2 sv z s q) n := by
  refine Rn.br 2 rfl (fun hc1 => ?_) (fun hc1 => ?_)
  · exact (Int32.not_lt.mpr (of_decide_eq_true hy).1 hc1).elim
  · refine Rn.br 3 rfl (fun hc6 => ?_) (fun hc6 => ?_)
    · refine Rn.steps 2 rfl ?_
      refine Rn.call rfl rfl rfl (Rn.tk (t_horns (d + 3) n z s _)) ?_
      refine Rn.steps 3 rfl ?_
      refine Rn.call rfl rfl rfl (Rn.tk (t_taken (d + 3) n z s _)) ?_
      refine Rn.steps 4 rfl ?_
      refine Rn.call rfl rfl rfl (m_fM d n _ _ _ 100 (by omega)) ?_
      rw [h]
      refine Rn.steps 5 rfl ?_
      exact Rn.retE rfl rfl rfl rfl rfl
    · exact (hc6 (of_decide_eq_true hy).2).elim
theorem b_me_0 : Rn (d + 4) 73 0 [(0, .ref 3), (1, .int 0)] [] (FF p ln ch R R2 sv z s q) n (some (.int (fM (tkF z 10) (2 * z 0) 100 1 (tkF z 10)))) (FF p ln ch R R2 sv z s q) n := by
  refine Rn.steps 7 rfl ?_
  refine Rn.call rfl rfl rfl (Rn.tk (t_horns (d + 3) n z s _)) ?_
  refine Rn.steps 3 rfl ?_
  refine Rn.call rfl rfl rfl (Rn.tk (t_taken (d + 3) n z s _)) ?_
  refine Rn.steps 4 rfl ?_
  refine Rn.call rfl rfl rfl (m_fM d n _ _ _ 100 (by omega)) ?_
  refine Rn.br 4 rfl (fun hc41 => ?_) (fun hc41 => ?_)
  · refine Rn.steps 1 rfl ?_
    exact Rn.retE rfl rfl rfl rfl rfl
  · refine Rn.steps 3 rfl ?_
    exact Rn.retE rfl rfl rfl rfl rfl
theorem b_me_1 (P : Nat) (hP : z 0 = nI P) (h2 : 2 ≤ P) (h6 : P ≤ 6) (L : Nat) (hL : L < 100) (h : fM (tkF z 10) (2 * z 0) 100 1 (tkF z 10) = nI (L + 1)) : Rn (d + 4) 73 0 [(0, .ref 3), (1, .int 1)] [] (FF p ln ch R R2 sv z s q) n (some (.int (mcF (mts (aT (bIt (2 * z 0) L (tkF z 10))) (2 * z 0)) (2 * P) 0))) (FF p ln ch R R2 sv z s q) n := by
  have hH : 2 * z 0 = nI (2 * P) := by rw [hP, x2P]
  have hne : ¬ nI (L + 1) = -6 := by
    have k : ∀ m, m < 101 → ¬ nI m = -6 := by decide
    exact k _ (by omega)
  refine Rn.steps 7 rfl ?_
  refine Rn.call rfl rfl rfl (Rn.tk (t_horns (d + 3) n z s _)) ?_
  refine Rn.steps 3 rfl ?_
  refine Rn.call rfl rfl rfl (Rn.tk (t_taken (d + 3) n z s _)) ?_
  refine Rn.steps 4 rfl ?_
  refine Rn.call rfl rfl rfl (m_fM d n _ _ _ 100 (by omega)) ?_
  rw [h]
  refine Rn.br 4 rfl (fun hc41 => ?_) (fun hc41 => ?_)
  · exact (hne hc41).elim
  · refine Rn.steps 5 rfl ?_
    rw [hH]
    refine Rn.call rfl rfl rfl (m_mC d n _ _ (2 * P) L (by omega) (by omega)) ?_
    rw [← hH]
    refine Rn.br 4 rfl (fun hc64 => ?_) (fun hc64 => ?_)
    · refine Rn.steps 1 rfl ?_
      exact Rn.retE rfl rfl rfl rfl rfl
    · refine Rn.steps 4 rfl ?_
      exact Rn.retE rfl rfl rfl rfl rfl
theorem b_me_2 (P : Nat) (hP : z 0 = nI P) (h2 : 2 ≤ P) (h6 : P ≤ 6) (L : Nat) (hL : L < 100) (h : fM (tkF z 10) (2 * z 0) 100 1 (tkF z 10) = nI (L + 1)) (hc : ¬ mcF (mts (aT (bIt (2 * z 0) L (tkF z 10))) (2 * z 0)) (2 * P) 0 = -6) : Rn (d + 4) 73 0 [(0, .ref 3), (1, .int 2)] [] (FF p ln ch R R2 sv z s q) n (some (.int (fTt z (4 * mcF (mts (aT (bIt (2 * z 0) L (tkF z 10))) (2 * z 0)) (2 * P) 0) L 10 0))) (FF p ln ch R R2 sv z s q) n := by
  have hH : 2 * z 0 = nI (2 * P) := by rw [hP, x2P]
  have hne : ¬ nI (L + 1) = -6 := by
    have k : ∀ m, m < 101 → ¬ nI m = -6 := by decide
    exact k _ (by omega)
  refine Rn.steps 7 rfl ?_
  refine Rn.call rfl rfl rfl (Rn.tk (t_horns (d + 3) n z s _)) ?_
  refine Rn.steps 3 rfl ?_
  refine Rn.call rfl rfl rfl (Rn.tk (t_taken (d + 3) n z s _)) ?_
  refine Rn.steps 4 rfl ?_
  refine Rn.call rfl rfl rfl (m_fM d n _ _ _ 100 (by omega)) ?_
  rw [h]
  refine Rn.br 4 rfl (fun hc41 => ?_) (fun hc41 => ?_)
  · exact (hne hc41).elim
  · refine Rn.steps 5 rfl ?_
    rw [hH]
    refine Rn.call rfl rfl rfl (m_mC d n _ _ (2 * P) L (by omega) (by omega)) ?_
    rw [← hH]
    refine Rn.br 4 rfl (fun hc64 => ?_) (fun hc64 => ?_)
    · exact (hc hc64).elim
    · refine Rn.steps 15 rfl ?_
      refine Rn.call rfl rfl rfl (Rn.tk (t_turnedTo (d + 1) n z s _ _ L (by omega))) ?_
      exact Rn.retE rfl rfl rfl rfl rfl
theorem b_me_3 (P : Nat) (hP : z 0 = nI P) (h2 : 2 ≤ P) (h6 : P ≤ 6) (L : Nat) (hL : L < 100) (h : fM (tkF z 10) (2 * z 0) 100 1 (tkF z 10) = nI (L + 1)) (hc : ¬ mcF (mts (aT (bIt (2 * z 0) L (tkF z 10))) (2 * z 0)) (2 * P) 0 = -6) : Rn (d + 4) 73 0 [(0, .ref 3), (1, .int 3)] [] (FF p ln ch R R2 sv z s q) n (some (.int (fTt z (pF (2 * z 0) (4 * mcF (mts (aT (bIt (2 * z 0) L (tkF z 10))) (2 * z 0)) (2 * P) 0)) L 10 0))) (FF p ln ch R R2 sv z s q) n := by
  have hH : 2 * z 0 = nI (2 * P) := by rw [hP, x2P]
  have hne : ¬ nI (L + 1) = -6 := by
    have k : ∀ m, m < 101 → ¬ nI m = -6 := by decide
    exact k _ (by omega)
  refine Rn.steps 7 rfl ?_
  refine Rn.call rfl rfl rfl (Rn.tk (t_horns (d + 3) n z s _)) ?_
  refine Rn.steps 3 rfl ?_
  refine Rn.call rfl rfl rfl (Rn.tk (t_taken (d + 3) n z s _)) ?_
  refine Rn.steps 4 rfl ?_
  refine Rn.call rfl rfl rfl (m_fM d n _ _ _ 100 (by omega)) ?_
  rw [h]
  refine Rn.br 4 rfl (fun hc41 => ?_) (fun hc41 => ?_)
  · exact (hne hc41).elim
  · refine Rn.steps 5 rfl ?_
    rw [hH]
    refine Rn.call rfl rfl rfl (m_mC d n _ _ (2 * P) L (by omega) (by omega)) ?_
    rw [← hH]
    refine Rn.br 4 rfl (fun hc64 => ?_) (fun hc64 => ?_)
    · exact (hc hc64).elim
    · refine Rn.steps 14 rfl ?_
      refine Rn.call rfl rfl rfl (m_passed (d + 3) n _ _ _) ?_
      refine Rn.steps 1 rfl ?_
      refine Rn.call rfl rfl rfl (Rn.tk (t_turnedTo (d + 1) n z s _ _ L (by omega))) ?_
      exact Rn.retE rfl rfl rfl rfl rfl
theorem b_per_no (h : tkF z 10 = 0) : Rn (d + 4) 76 0 [(0, .ref 3)] [] (FF p ln ch R R2 sv z s q) n (some (.int (-5))) (FF p ln ch R R2 sv z s q) n := by
  refine Rn.steps 2 rfl ?_
  refine Rn.call rfl rfl rfl (Rn.tk (t_taken (d + 3) n z s _)) ?_
  refine Rn.br 5 rfl (fun hc11 => ?_) (fun hc11 => ?_)
  · refine Rn.steps 1 rfl ?_
    exact Rn.retE rfl rfl rfl rfl rfl
  · exact (hc11 (lg0.mpr h)).elim
theorem b_per (h : ¬ tkF z 10 = 0) : Rn (d + 4) 76 0 [(0, .ref 3)] [] (FF p ln ch R R2 sv z s q) n (some (.int (fR (tkF z 10) (2 * z 0) 100 1 (tkF z 10)))) (FF p ln ch R R2 sv z s q) n := by
  refine Rn.steps 2 rfl ?_
  refine Rn.call rfl rfl rfl (Rn.tk (t_taken (d + 3) n z s _)) ?_
  refine Rn.br 5 rfl (fun hc11 => ?_) (fun hc11 => ?_)
  · exact (h (lg0.mp hc11)).elim
  · refine Rn.steps 3 rfl ?_
    refine Rn.call rfl rfl rfl (Rn.tk (t_horns (d + 3) n z s _)) ?_
    refine Rn.call rfl rfl rfl (m_fR d n _ _ _) ?_
    exact Rn.retE rfl rfl rfl rfl rfl
theorem b_las_0 (hf : Fl z) (hg : q 2 = .inl (0, 3, .inl xhi)) (h : ¬ hiF z = 0) : Rn (d + 4) 77 0 [(0, .ref 3)] [] (FF p ln ch R R2 sv z s q) n (some (.int (0))) (FF p ln ch R R2 sv z s q) n := by
  refine Rn.steps 2 rfl ?_
  refine Rn.call rfl rfl rfl (Rn.tk (t_hind (d + 1) n z s _ hf (show (pOn p ln (bO ch R R2 sv q)) 2 = .inl (0, 3, .inl xhi) by rw [pOn_out (by omega), bO_out (by omega) (by omega) (by omega) (by omega)]; exact hg))) ?_
  refine Rn.br 1 rfl (fun hc7 => ?_) (fun hc7 => ?_)
  · exact (h hc7).elim
  · refine Rn.steps 1 rfl ?_
    exact Rn.retE rfl rfl rfl rfl rfl
theorem b_las (hf : Fl z) (hg : q 2 = .inl (0, 3, .inl xhi)) (h : hiF z = 0) (L : Nat) (hL : leF2 z 10 = nI L) (hL9 : L ≤ 1000) : Rn (d + 4) 77 0 [(0, .ref 3)] [] (FF p ln ch R R2 sv z s q) n (some (.int (if fM (tkF z 10) (2 * z 0) L 1 (tkF z 10) = -6 then nI L else fM (tkF z 10) (2 * z 0) L 1 (tkF z 10) - 1))) (FF p ln ch R R2 sv z s q) n := by
  refine Rn.steps 2 rfl ?_
  refine Rn.call rfl rfl rfl (Rn.tk (t_hind (d + 1) n z s _ hf (show (pOn p ln (bO ch R R2 sv q)) 2 = .inl (0, 3, .inl xhi) by rw [pOn_out (by omega), bO_out (by omega) (by omega) (by omega) (by omega)]; exact hg))) ?_
  refine Rn.br 1 rfl (fun hc7 => ?_) (fun hc7 => ?_)
  · refine Rn.steps 2 rfl ?_
    refine Rn.call rfl rfl rfl (Rn.tk (t_least (d + 2) n z s _ (show (pOn p ln (bO ch R R2 sv q)) 2 = .inl (0, 3, .inl xhi) by rw [pOn_out (by omega), bO_out (by omega) (by omega) (by omega) (by omega)]; exact hg))) ?_
    rw [hL]
    refine Rn.steps 3 rfl ?_
    refine Rn.call rfl rfl rfl (Rn.tk (t_taken (d + 3) n z s _)) ?_
    refine Rn.steps 2 rfl ?_
    refine Rn.call rfl rfl rfl (Rn.tk (t_horns (d + 3) n z s _)) ?_
    refine Rn.steps 1 rfl ?_
    refine Rn.call rfl rfl rfl (m_fM d n _ _ _ L (by omega)) ?_
    refine Rn.br 4 rfl (fun hc42 => ?_) (fun hc42 => ?_)
    · have hv : fM (tkF z 10) (2 * z 0) L 1 (tkF z 10) = -6 := hc42
      rw [if_pos hv]
      refine Rn.steps 2 rfl ?_
      exact Rn.retE rfl rfl rfl rfl rfl
    · have hv : ¬ fM (tkF z 10) (2 * z 0) L 1 (tkF z 10) = -6 := hc42
      rw [if_neg hv]
      refine Rn.steps 3 rfl ?_
      exact Rn.retE rfl rfl rfl rfl rfl
  · exact (hc7 h).elim
theorem b_wipe : Rn (d + 1) 79 0 [(0, .ref 3)] [] (FF p ln ch R R2 sv z s q) n (some (.int (ln))) (FF p 0 ch R R2 sv z s q) n := by
  refine Rn.steps 2 rfl ?_
  refine Rn.call rfl rfl rfl (Rn.pk (m_empty d n p _ ln)) ?_
  exact Rn.retE rfl rfl rfl rfl rfl
theorem b_fault (ty : Nat) (hty : ty ≤ 80) : Rn (d + 3) 80 0 [(0, .ref 3)] [] (FF p (nI ty) ch R R2 sv z s q) n (some (.int (faF p ty ty 0 0))) (FF p (nI ty) ch R R2 sv z s q) n := by
  refine Rn.steps 2 rfl ?_
  refine Rn.call rfl rfl rfl (Rn.pk (m_fa d n p _ ty hty)) ?_
  exact Rn.retE rfl rfl rfl rfl rfl
theorem b_co_bad (ty : Nat) (hty : ty ≤ 80) (h : ¬ faF p ty ty 0 0 = -6) : Rn (d + 5) 82 0 [(0, .ref 3)] [] (FF p (nI ty) ch R R2 sv z s q) n (some (.int (-3))) (FF p (nI ty) ch R R2 sv z s q) n := by
  refine Rn.steps 2 rfl ?_
  refine Rn.call rfl rfl rfl (Rn.pk (m_fa (d + 2) n p _ ty hty)) ?_
  refine Rn.br 2 rfl (fun hc9 => ?_) (fun hc9 => ?_)
  · exact (h hc9).elim
  · refine Rn.steps 1 rfl ?_
    exact Rn.retE rfl rfl rfl rfl rfl
theorem b_undo_no : Rn (d + 2) 83 0 [(0, .ref 3)] [] (FF p ln 0 R R2 sv z s q) n (some (.int (-5))) (FF p ln 0 R R2 sv z s q) n := by
  refine Rn.steps 4 rfl ?_
  exact Rn.retE rfl rfl rfl rfl rfl
theorem b_undo (hR : HR R hr) (hH : Hq q Z S) (c : Nat) (hc : c < 6) (hf : Fl (Z (hr c))) (z2 : Nat → Int32) (hz : E80 (Z (hr c)) z2) : Rn (d + 2) 83 0 [(0, .ref 3)] [] (FF p ln (nI (c + 1)) R R2 sv z s q) n (some (.int (nI c))) (FF p ln (nI c) R R2 sv z2 (S (hr c)) q) n := by
  obtain ⟨e1, e2, e3⟩ := hR c (by omega)
  have hb := bs_in e2 (by omega : hr c < 10)
  refine Rn.br 3 rfl (fun hc4 => ?_) (fun hc4 => ?_)
  · exact (nI_ne0 (n := c + 1) (by omega) (by omega) hc4).elim
  · refine Rn.steps 6 rfl ?_
    refine Rn.heap FF_ch ?_
    rw [nI_pred]
    refine Rn.steps 6 rfl ?_
    refine Rn.aaldN (m := c) rfl rfl rfl rfl rfl (by omega) (Nat.le_of_ble_eq_true rfl) e1 ?_
    refine Rn.call rfl rfl rfl (m_tcopy d n _ 4 (bs (hr c)) (by omega) (by omega) (by omega) (Z (hr c)) (S (hr c)) z s (fun o ho => FF_4 ho) (fun o ho => FF_hd (c := c) Z S hH e2 (by omega) ho) hf) ?_
    refine Rn.heap (FF_at4 hz) ?_
    refine Rn.steps 2 rfl ?_
    exact Rn.retE rfl rfl rfl rfl rfl
theorem b_save_bad (x : Int32) (hx : decide (0 ≤ x ∧ x ≤ 1) = false) : Rn (d + 2) 84 0 [(0, .ref 3), (1, .int x)] [] (FF p ln ch R R2 sv z s q) n (some (.int (-2))) (FF p ln ch R R2 sv z s q) n := by
  refine Rn.br 2 rfl (fun hc1 => ?_) (fun hc1 => ?_)
  · refine Rn.steps 1 rfl ?_
    exact Rn.retE rfl rfl rfl rfl rfl
  · have h0 : 0 ≤ x := Int32.not_lt.mp hc1
    refine Rn.br 3 rfl (fun hc6 => ?_) (fun hc6 => ?_)
    · exact (of_decide_eq_false hx ⟨h0, le1_of hc6⟩).elim
    · refine Rn.steps 1 rfl ?_
      exact Rn.retE rfl rfl rfl rfl rfl
theorem b_save (hH : Hq q Z S) (t : Nat) (ht : t < 2) (hs : R2 t = some (bs (8 + t))) (hf : Fl z) : Rn (d + 2) 84 0 [(0, .ref 3), (1, .int (nI t))] [] (FF p ln ch R R2 sv z s q) n (some (.int (mMany z 10))) (FF p ln ch R R2 (upd sv t 1) z s (tAt (bs (8 + t)) z s q)) n := by
  have hb := bs_in (t := 8 + t) (by omega) (by omega)
  refine Rn.br 2 rfl (fun hc1 => ?_) (fun hc1 => ?_)
  · exact (nI_pos (show t < 2 ^ 31 by omega) hc1).elim
  · refine Rn.br 3 rfl (fun hc6 => ?_) (fun hc6 => ?_)
    · refine Rn.steps 3 rfl ?_
      refine Rn.aaldN (m := t) rfl rfl rfl rfl rfl ht (Nat.le_of_ble_eq_true rfl) hs ?_
      refine Rn.steps 2 rfl ?_
      refine Rn.callO rfl rfl rfl (show (FF p ln ch R R2 sv z s q) (bs (8 + t)) = .inr (2, _) from FF_hd (c := 0) Z S hH (by omega) (by omega) (o := 0) (by omega)) rfl rfl rfl rfl rfl rfl (m_tcopy d n _ (bs (8 + t)) 4 (by omega) (by omega) (by omega) z s (Z (8 + t)) (S (8 + t)) (fun o ho => FF_hd (c := 0) Z S hH (by omega) (by omega) ho) (fun o ho => FF_4 ho) hf) ?_
      refine Rn.heap (FF_at hb) ?_
      refine Rn.steps 4 rfl ?_
      refine Rn.bastN (m := t) rfl rfl rfl rfl (rfl) (ht) (Nat.le_of_ble_eq_true rfl) ?_
      refine Rn.heap (FF_sv (f' := upd sv t 1) rfl) ?_
      refine Rn.steps 2 rfl ?_
      refine Rn.call rfl rfl rfl (Rn.tk (t_count d n z s _)) ?_
      exact Rn.retE rfl rfl rfl rfl rfl
    · exact (hc6 (nI_lt (b := 2) ht (by omega))).elim
theorem b_res_bad (x : Int32) (hx : decide (0 ≤ x ∧ x ≤ 1) = false) : Rn (d + 2) 85 0 [(0, .ref 3), (1, .int x)] [] (FF p ln ch R R2 sv z s q) n (some (.int (-2))) (FF p ln ch R R2 sv z s q) n := by
  refine Rn.br 2 rfl (fun hc1 => ?_) (fun hc1 => ?_)
  · refine Rn.steps 1 rfl ?_
    exact Rn.retE rfl rfl rfl rfl rfl
  · have h0 : 0 ≤ x := Int32.not_lt.mp hc1
    refine Rn.br 3 rfl (fun hc6 => ?_) (fun hc6 => ?_)
    · exact (of_decide_eq_false hx ⟨h0, le1_of hc6⟩).elim
    · refine Rn.steps 1 rfl ?_
      exact Rn.retE rfl rfl rfl rfl rfl
theorem b_res_not (t : Nat) (ht : t < 2) (hv : sv t = 0) : Rn (d + 2) 85 0 [(0, .ref 3), (1, .int (nI t))] [] (FF p ln ch R R2 sv z s q) n (some (.int (-5))) (FF p ln ch R R2 sv z s q) n := by
  refine Rn.br 2 rfl (fun hc1 => ?_) (fun hc1 => ?_)
  · exact (nI_pos (show t < 2 ^ 31 by omega) hc1).elim
  · refine Rn.br 3 rfl (fun hc6 => ?_) (fun hc6 => ?_)
    · refine Rn.steps 3 rfl ?_
      refine Rn.baldN (m := t) rfl rfl rfl (rfl) (ht) (Nat.le_of_ble_eq_true rfl) ?_
      rw [hv]
      refine Rn.steps 2 rfl ?_
      exact Rn.retE rfl rfl rfl rfl rfl
    · exact (hc6 (nI_lt (b := 2) ht (by omega))).elim
theorem b_res (hR : HR R hr) (hH : Hq q Z S) (c : Nat) (hc : c ≤ 6) (hf : Fl z) (t : Nat) (ht : t < 2) (hs : R2 t = some (bs (8 + t))) (hv : ¬ sv t = 0) (hft : Fl (Z (8 + t))) (z2 : Nat → Int32) (hz : E80 (Z (8 + t)) z2) : Rn (d + 3) 85 0 [(0, .ref 3), (1, .int (nI t))] [] (FF p ln (nI c) R R2 sv z s q) n (some (.int (mMany z2 10))) (FF p ln (nI (rcC (mMany z2 10) c)) (rcR (mMany z2 10) c R) R2 sv z2 (S (8 + t)) (tAt (bs (hr c)) z s q)) n := by
  have hb := bs_in (t := 8 + t) (by omega) (by omega)
  obtain ⟨e1, e2, e3⟩ := hR c (by omega)
  have hH2 := Hq_at (z1 := z) (s1 := s) hH e2 (by omega : hr c < 10)
  have v1 : va_up Z (hr c) z (8 + t) = Z (8 + t) := vz_up (by omega)
  have v2 : va_up S (hr c) s (8 + t) = S (8 + t) := vz_up (by omega)
  have hs4 : ∀ o, o ≤ 12 → (FF p ln (nI c) R R2 sv z s (tAt (bs (hr c)) z s q)) (bs (8 + t) + o) = tc (bs (8 + t)) (Z (8 + t)) (S (8 + t)) o := by
    intro o ho
    have := FF_hd (p := p) (ln := ln) (ch := nI c) (R := R) (R2 := R2) (sv := sv) (z := z) (s := s) (c := c) _ _ hH2 (t := 8 + t) (by omega) (by omega) ho
    rw [v1, v2] at this
    exact this
  refine Rn.br 2 rfl (fun hc1 => ?_) (fun hc1 => ?_)
  · exact (nI_pos (show t < 2 ^ 31 by omega) hc1).elim
  · refine Rn.br 3 rfl (fun hc6 => ?_) (fun hc6 => ?_)
    · refine Rn.steps 3 rfl ?_
      refine Rn.baldN (m := t) rfl rfl rfl (rfl) (ht) (Nat.le_of_ble_eq_true rfl) ?_
      refine Rn.br 1 rfl (fun hc18 => ?_) (fun hc18 => ?_)
      · exact (hv hc18).elim
      · refine Rn.steps 1 rfl ?_
        refine Rn.call rfl rfl rfl (m_keep (d + 0) n hr Z S hR hH c hc hf) ?_
        refine Rn.steps 5 rfl ?_
        refine Rn.aaldN (m := t) rfl rfl rfl rfl rfl ht (Nat.le_of_ble_eq_true rfl) hs ?_
        refine Rn.call rfl rfl rfl (m_tcopy (d + 1) n _ 4 (bs (8 + t)) (by omega) (by omega) (by omega) (Z (8 + t)) (S (8 + t)) z s (fun o ho => FF_4 ho) hs4 hft) ?_
        refine Rn.heap (FF_at4 hz) ?_
        refine Rn.steps 3 rfl ?_
        refine Rn.call rfl rfl rfl (Rn.tk (t_count (d + 1) n z2 _ _)) ?_
        refine Rn.call rfl rfl rfl (m_rec (d + 2) n hr _ _ hR hH2 c hc _) ?_
        exact Rn.retE rfl rfl rfl rfl rfl
    · exact (hc6 (nI_lt (b := 2) ht (by omega))).elim
end CLASS10
