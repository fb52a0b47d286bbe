/-! ===== the class: warms, tell, is, look, kinds, ask ===== -/
theorem x_warms {h : icH} {ab be : Int64} (h0 : hg h 0 = some (xo ab be)) (hq : hg h 42 = some (ob 1 [.ref 43, .int (nI 0), .int (nI 1)])) {R N K r : Nat} {D : Nat → Nat → Int32} {F : Nat → Nat} (hD : EOK R N D) (hF : F 0 = 4 * K) (hK : K ≤ 5) (hr : r < R) (an : Nat → Int32) (H : Nat) (f : Nat → Nat → Int32) : icE 95 0 [.ref 0, .int (nI r)] [] (HH (hput h 43 (ai 10 an)) 1 H R N D F f) = some (some (.int (nI (msk (gh_fit f D r K) 10))), HH (hput h 43 (ai 10 an)) 1 H R N D F f) := by
  have hR := hD.1
  have hN := hD.2.1
  have h0' : hg (hput h 43 (ai 10 an)) 0 = some (xo ab be) := (hg_n (by decide)).trans h0
  simp only [SA, rw_95, x0_H h0', c_isRoof h0', if_neg (bi_10 (R_n hr (show R < 2 ^ 31 by omega))), gh_q hq, HH_o, gh_fitting hq hD hF hK hr]
theorem x_tell {h : icH} {ab be : Int64} (h0 : hg h 0 = some (xo ab be)) (hq : hg h 42 = some (ob 1 [.ref 43, .int (nI 0), .int (nI 1)])) {R N K r : Nat} {D : Nat → Nat → Int32} {F : Nat → Nat} (hD : EOK R N D) (hF : F 0 = 4 * K) (hK : K ≤ 5) (hr : r < R) (an : Nat → Int32) (H : Nat) (f : Nat → Nat → Int32) : ∃ an', icE 96 0 [.ref 0, .int (nI r)] [] (HH (hput h 43 (ai 10 an)) 1 H R N D F f) = some (some (.int (gh_bst f D r K)), HH (hput h 43 (ai 10 an')) 1 H R N D F f) := by
  have hR := hD.1
  have hN := hD.2.1
  have h0' : hg (hput h 43 (ai 10 an)) 0 = some (xo ab be) := (hg_n (by decide)).trans h0
  obtain ⟨an', z⟩ := gh_best hq hD hF hK hr an H f
  refine ⟨an', ?_⟩
  simp only [SA, rw_96, x0_H h0', c_isRoof h0', if_neg (bi_10 (R_n hr (show R < 2 ^ 31 by omega))), gh_q hq, HH_o, z]
theorem x_is {h : icH} {ab be : Int64} (h0 : hg h 0 = some (xo ab be)) (hq : hg h 44 = some (ob 3 [.ref 45, .int (nI 20), .int (nI 100)])) {R N K r : Nat} {D : Nat → Nat → Int32} {F : Nat → Nat} (hD : EOK R N D) (hF : F 1 = 5 * K) (hK : K ≤ 6) (hr : r < N) (an : Nat → Int32) (H : Nat) (f : Nat → Nat → Int32) : icE 100 0 [.ref 0, .int (nI r)] [] (HH (hput h 45 (ai 6 an)) 1 H R N D F f) = some (some (.int (nI (msk (gi_fit f D r K) 6))), HH (hput h 45 (ai 6 an)) 1 H R N D F f) := by
  have hR := hD.1
  have hN := hD.2.1
  have h0' : hg (hput h 45 (ai 6 an)) 0 = some (xo ab be) := (hg_n (by decide)).trans h0
  simp only [SA, rw_100, x0_H h0', c_isIcicle h0', if_neg (bi_10 (R_n hr (show N < 2 ^ 31 by omega))), gi_q hq, HH_o, gi_fitting hq hD hF hK hr]
theorem x_look {h : icH} {ab be : Int64} (h0 : hg h 0 = some (xo ab be)) (hq : hg h 44 = some (ob 3 [.ref 45, .int (nI 20), .int (nI 100)])) {R N K r : Nat} {D : Nat → Nat → Int32} {F : Nat → Nat} (hD : EOK R N D) (hF : F 1 = 5 * K) (hK : K ≤ 6) (hr : r < N) (an : Nat → Int32) (H : Nat) (f : Nat → Nat → Int32) : ∃ an', icE 101 0 [.ref 0, .int (nI r)] [] (HH (hput h 45 (ai 6 an)) 1 H R N D F f) = some (some (.int (gi_bst f D r K)), HH (hput h 45 (ai 6 an')) 1 H R N D F f) := by
  have hR := hD.1
  have hN := hD.2.1
  have h0' : hg (hput h 45 (ai 6 an)) 0 = some (xo ab be) := (hg_n (by decide)).trans h0
  obtain ⟨an', z⟩ := gi_best hq hD hF hK hr an H f
  refine ⟨an', ?_⟩
  simp only [SA, rw_101, x0_H h0', c_isIcicle h0', if_neg (bi_10 (R_n hr (show N < 2 ^ 31 by omega))), gi_q hq, HH_o, z]
theorem x_kinds {h : icH} {ab be : Int64} (h0 : hg h 0 = some (xo ab be)) (hq : hg h 46 = some (ob 4 [.ref 47, .int (nI 60), .int (nI 100)])) {R N K r : Nat} {D : Nat → Nat → Int32} {F : Nat → Nat} (hD : EOK R N D) (hF : F 2 = 5 * K) (hK : K ≤ 6) (hr : r < R) (an : Nat → Int32) (H : Nat) (f : Nat → Nat → Int32) : icE 102 0 [.ref 0, .int (nI r)] [] (HH (hput h 47 (ai 6 an)) 1 H R N D F f) = some (some (.int (nI (msk (gr_fit f D r K) 6))), HH (hput h 47 (ai 6 an)) 1 H R N D F f) := by
  have hR := hD.1
  have hN := hD.2.1
  have h0' : hg (hput h 47 (ai 6 an)) 0 = some (xo ab be) := (hg_n (by decide)).trans h0
  simp only [SA, rw_102, x0_H h0', c_isRoof h0', if_neg (bi_10 (R_n hr (show R < 2 ^ 31 by omega))), gr_q hq, HH_o, gr_fitting hq hD hF hK hr]
theorem x_ask {h : icH} {ab be : Int64} (h0 : hg h 0 = some (xo ab be)) (hq : hg h 46 = some (ob 4 [.ref 47, .int (nI 60), .int (nI 100)])) {R N K r : Nat} {D : Nat → Nat → Int32} {F : Nat → Nat} (hD : EOK R N D) (hF : F 2 = 5 * K) (hK : K ≤ 6) (hr : r < R) (an : Nat → Int32) (H : Nat) (f : Nat → Nat → Int32) : ∃ an', icE 103 0 [.ref 0, .int (nI r)] [] (HH (hput h 47 (ai 6 an)) 1 H R N D F f) = some (some (.int (gr_bst f D r K)), HH (hput h 47 (ai 6 an')) 1 H R N D F f) := by
  have hR := hD.1
  have hN := hD.2.1
  have h0' : hg (hput h 47 (ai 6 an)) 0 = some (xo ab be) := (hg_n (by decide)).trans h0
  obtain ⟨an', z⟩ := gr_best hq hD hF hK hr an H f
  refine ⟨an', ?_⟩
  simp only [SA, rw_103, x0_H h0', c_isRoof h0', if_neg (bi_10 (R_n hr (show R < 2 ^ 31 by omega))), gr_q hq, HH_o, z]
