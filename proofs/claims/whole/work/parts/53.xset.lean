/-! ===== the class: what is set and told ===== -/
theorem W_n {j lo hi : Nat} (h1 : lo ≤ j) (h2 : j ≤ hi) (hh : hi < 2 ^ 31) : nI lo ≤ nI j ∧ nI j ≤ nI hi := ⟨nI_le h1 (by omega), nI_le h2 hh⟩
theorem R_n {j n : Nat} (hj : j < n) (hn : n < 2 ^ 31) : nI 0 ≤ nI j ∧ nI j ≤ nI n - nI 1 := by
  rw [nI_sb (by omega)]
  exact W_n (Nat.zero_le j) (by omega) (by omega)
theorem W_of {a : Int32} {lo hi : Nat} (hl : lo < 2 ^ 31) (hh : hi < 2 ^ 31) (h : nI lo ≤ a ∧ a ≤ nI hi) : ∃ j : Nat, lo ≤ j ∧ j ≤ hi ∧ a = nI j := by
  have h1 := h.1
  have h2 := h.2
  obtain ⟨j, hj, e⟩ := nI_of (x := a) (by
    rw [i32_lt]
    rw [i32_le, nI_toInt hl] at h1
    have z : (0 : Int32).toInt = 0 := rfl
    omega)
  subst e
  rw [nI_leI hl hj] at h1
  rw [nI_leI hj hh] at h2
  exact ⟨j, h1, h2, rfl⟩
theorem R_of {a : Int32} {n : Nat} (hn : n < 2 ^ 31) (h : nI 0 ≤ a ∧ a ≤ nI n - nI 1) : ∃ j : Nat, j < n ∧ a = nI j := by
  by_cases h0 : n = 0
  · subst h0
    have h1 := h.1
    have h2 := h.2
    have z : (nI 0 - nI 1).toInt = -1 := by decide
    have z0 : (nI 0).toInt = 0 := by decide
    rw [i32_le] at h1 h2
    omega
  · rw [nI_sb (by omega)] at h
    obtain ⟨j, _, h2, e⟩ := W_of (by decide) (by omega) h
    exact ⟨j, by omega, e⟩
theorem x_warm {h : icH} {ab be : Int64} (h0 : hg h 0 = some (xo ab be)) {F : Nat → Nat} (hF : FOK F) {k : Nat} (hk : k < 8) {w : Int32} (hw : -9 ≤ w ∧ w ≤ nI 9) (H R N : Nat) (D : Nat → Nat → Int32) (f : Nat → Nat → Int32) : icE 71 0 [.ref 0, .int (nI k), .int w] [] (HH h 1 H R N D F f) = some (some (.int (nI 1)), HH h 1 H R N (ud D 1 (upd (D 1) k w)) (un F 3 0) f) := by
  have q := W_n (Nat.zero_le k) (show k ≤ 7 by omega) (by decide)
  simp only [SA, rw_71, x0_H h0, c_within, if_neg (bi_10 q), if_neg (bi_10 hw), HH_o, HHo1, HHo, HHc, is_n hk (show 8 < 2 ^ 31 by decide), HHw, ch_empty (show 3 < 4 by decide) hF.2.2.2]
theorem x_roof {h : icH} {ab be : Int64} (h0 : hg h 0 = some (xo ab be)) {F : Nat → Nat} (hF : FOK F) {a b c : Int32} (ha : nI 0 ≤ a ∧ a ≤ nI 5) (hb : nI 0 ≤ b ∧ b ≤ nI 9) (hc : nI 0 ≤ c ∧ c ≤ nI 60) {R : Nat} (hR : R < 3) (H N : Nat) (D : Nat → Nat → Int32) (f : Nat → Nat → Int32) : icE 72 0 [.ref 0, .int a, .int b, .int c] [] (HH h 1 H R N D F f) = some (some (.int (nI R)), HH h 1 H (R + 1) N (ud (ud (ud D 2 (upd (D 2) R a)) 3 (upd (D 3) R b)) 4 (upd (D 4) R c)) (un F 3 0) f) := by
  have z := c_addRoof hR a b c (HH h 1 H R N D (un F 3 0) f) (1 + 1) H N D
  rw [HH_e, HH_E] at z
  simp only [SA, rw_72, x0_H h0, c_within, c_isKind, if_neg (bi_10 ha), if_neg (bi_10 hb), if_neg (bi_10 hc), HH_o, HHo1, HHo, if_pos (nI_lt hR (show 3 < 2 ^ 31 by decide)), ch_empty (show 3 < 4 by decide) hF.2.2.2, z]
theorem x_roofF {h : icH} {ab be : Int64} {rf : Nat → Int32} (h0 : hg h 0 = some (xo ab be)) (h27 : hg h 27 = some (ai 3 rf)) {a b c : Int32} (ha : nI 0 ≤ a ∧ a ≤ nI 5) (hb : nI 0 ≤ b ∧ b ≤ nI 9) (hc : nI 0 ≤ c ∧ c ≤ nI 60) (H N : Nat) (D : Nat → Nat → Int32) (F : Nat → Nat) (f : Nat → Nat → Int32) : icE 72 0 [.ref 0, .int a, .int b, .int c] [] (HH h 1 H 3 N D F f) = some (some (.int (-4)), HH (rfz h rf 2) 1 H 3 N D F f) := by
  simp only [SA, rw_72, x0_H h0, c_within, c_isKind, if_neg (bi_10 ha), if_neg (bi_10 hb), if_neg (bi_10 hc), HH_o, HHo1, HHo, if_neg (nI_nlt (Nat.le_refl 3) (show 3 < 2 ^ 31 by decide)), c_full h0 h27]
theorem x_ice {h : icH} {ab be : Int64} (h0 : hg h 0 = some (xo ab be)) {F : Nat → Nat} (hF : FOK F) {R : Nat} {a b c d e : Int32} (ha : nI 0 ≤ a ∧ a ≤ nI R - nI 1) (hb : nI 0 ≤ b ∧ b ≤ nI 5) (hc : nI 0 ≤ c ∧ c ≤ nI 7) (hd : nI 1 ≤ d ∧ d ≤ nI 30) (he : nI 1 ≤ e ∧ e ≤ nI 40) {N : Nat} (hN : N < 6) (H : Nat) (D : Nat → Nat → Int32) (f : Nat → Nat → Int32) : icE 73 0 [.ref 0, .int a, .int b, .int c, .int d, .int e] [] (HH h 1 H R N D F f) = some (some (.int (nI N)), HH h 1 H R (N + 1) (ud (ud (ud (ud (ud (ud D 6 (upd (D 6) N a)) 7 (upd (D 7) N b)) 8 (upd (D 8) N c)) 9 (upd (D 9) N d)) 10 (upd (D 10) N e)) 11 (upd (D 11) N (nI 0))) (un F 3 0) f) := by
  have z := c_addIcicle hN a b c d e (HH h 1 H R N D (un F 3 0) f) (1 + 1) H R D
  rw [HH_e, HH_E] at z
  simp only [SA, rw_73, x0_H h0, c_within, c_isKind, c_isRoof h0, if_neg (bi_10 ha), if_neg (bi_10 hb), if_neg (bi_10 hc), if_neg (bi_10 hd), if_neg (bi_10 he), HH_o, HHo1, HHo, if_pos (nI_lt hN (show 6 < 2 ^ 31 by decide)), ch_empty (show 3 < 4 by decide) hF.2.2.2, z]
theorem x_iceF {h : icH} {ab be : Int64} {rf : Nat → Int32} (h0 : hg h 0 = some (xo ab be)) (h27 : hg h 27 = some (ai 3 rf)) {R : Nat} {a b c d e : Int32} (ha : nI 0 ≤ a ∧ a ≤ nI R - nI 1) (hb : nI 0 ≤ b ∧ b ≤ nI 5) (hc : nI 0 ≤ c ∧ c ≤ nI 7) (hd : nI 1 ≤ d ∧ d ≤ nI 30) (he : nI 1 ≤ e ∧ e ≤ nI 40) (H : Nat) (D : Nat → Nat → Int32) (F : Nat → Nat) (f : Nat → Nat → Int32) : icE 73 0 [.ref 0, .int a, .int b, .int c, .int d, .int e] [] (HH h 1 H R 6 D F f) = some (some (.int (-4)), HH (rfz h rf 2) 1 H R 6 D F f) := by
  simp only [SA, rw_73, x0_H h0, c_within, c_isKind, c_isRoof h0, if_neg (bi_10 ha), if_neg (bi_10 hb), if_neg (bi_10 hc), if_neg (bi_10 hd), if_neg (bi_10 he), HH_o, HHo1, HHo, if_neg (nI_nlt (Nat.le_refl 6) (show 6 < 2 ^ 31 by decide)), c_full h0 h27]
theorem x_of {h : icH} {ab be : Int64} (h0 : hg h 0 = some (xo ab be)) {N i j : Nat} (hN : N ≤ 6) (hi : i < N) (hj : j < 6) (H R : Nat) (D : Nat → Nat → Int32) (F : Nat → Nat) (f : Nat → Nat → Int32) : icE 82 0 [.ref 0, .int (nI i), .int (nI j)] [] (HH h 1 H R N D F f) = some (some (.int (D (6 + j) i)), HH h 1 H R N D F f) := by
  have q1 := R_n hi (show N < 2 ^ 31 by omega)
  have q2 := W_n (Nat.zero_le j) (show j ≤ 5 by omega) (by decide)
  have z := c_ofIcicle (R := R) (H := H) (D := D) hN hi hj (HH h 1 H R N D F f) (1 + 1)
  rw [HH_e] at z
  simp only [SA, rw_82, x0_H h0, c_within, c_isIcicle h0, if_neg (bi_10 q1), if_neg (bi_10 q2), HH_o, HHo1, z]
theorem x_more {h : icH} {ab be : Int64} (h0 : hg h 0 = some (xo ab be)) {H R N i : Nat} {D : Nat → Nat → Int32} (hD : EOK R N D) (hH : H + 1 < 2 ^ 31) (hi : i < N) (F : Nat → Nat) (f : Nat → Nat → Int32) : icE 83 0 [.ref 0, .int (nI i)] [] (HH h 1 H R N D F f) = some (some (.int (mor (kn (D 7 i)) (D 9 i) (D 1 ((H + 1) % 8)) (wtr D (D 1 ((H + 1) % 8)) (kn (D 6 i))))), HH h 1 H R N D F f) := by
  have hN := hD.2.1
  have q1 := R_n hi (show N < 2 ^ 31 by omega)
  have z := c_moreNext hD hH hi (HH h 1 H R N D F f) (1 + 1)
  rw [HH_e] at z
  simp only [SA, rw_83, x0_H h0, c_isIcicle h0, if_neg (bi_10 q1), HH_o, HHo1, z]
theorem x_about {h : icH} {ab be : Int64} (h0 : hg h 0 = some (xo ab be)) {R r j : Nat} (hR : R ≤ 3) (hr : r < R) (hj : j < 3) (H N : Nat) (D : Nat → Nat → Int32) (F : Nat → Nat) (f : Nat → Nat → Int32) : icE 84 0 [.ref 0, .int (nI r), .int (nI j)] [] (HH h 1 H R N D F f) = some (some (.int (D (2 + j) r)), HH h 1 H R N D F f) := by
  have q1 := R_n hr (show R < 2 ^ 31 by omega)
  have q2 := W_n (Nat.zero_le j) (show j ≤ 3 by omega) (by decide)
  have z := c_ofRoof (N := N) (H := H) (D := D) hR hr hj (HH h 1 H R N D F f) (1 + 1)
  rw [HH_e] at z
  simp only [SA, rw_84, x0_H h0, c_within, c_isRoof h0, if_neg (bi_10 q1), if_neg (bi_10 q2), HH_o, HHo1, z]
theorem x_about3 {h : icH} {ab be : Int64} (h0 : hg h 0 = some (xo ab be)) {H R N r : Nat} {D : Nat → Nat → Int32} (hD : EOK R N D) (hH : H + 1 < 2 ^ 31) (hr : r < R) (F : Nat → Nat) (f : Nat → Nat → Int32) : icE 84 0 [.ref 0, .int (nI r), .int (nI 3)] [] (HH h 1 H R N D F f) = some (some (.int (wtr D (D 1 ((H + 1) % 8)) r)), HH h 1 H R N D F f) := by
  have hR := hD.1
  have q1 := R_n hr (show R < 2 ^ 31 by omega)
  have q2 := W_n (Nat.zero_le 3) (Nat.le_refl 3) (by decide)
  have z := c_ofRoof3 hD hH hr (HH h 1 H R N D F f) (1 + 1)
  rw [HH_e] at z
  simp only [SA, rw_84, x0_H h0, c_within, c_isRoof h0, if_neg (bi_10 q1), if_neg (bi_10 q2), HH_o, HHo1, z]
theorem x_warmth {h : icH} {ab be : Int64} (h0 : hg h 0 = some (xo ab be)) {k : Nat} (hk : k < 8) (H R N : Nat) (D : Nat → Nat → Int32) (F : Nat → Nat) (f : Nat → Nat → Int32) : icE 85 0 [.ref 0, .int (nI k)] [] (HH h 1 H R N D F f) = some (some (.int (D 1 k - (-9))), HH h 1 H R N D F f) := by
  have q := W_n (Nat.zero_le k) (show k ≤ 7 by omega) (by decide)
  simp only [SA, rw_85, x0_H h0, c_within, if_neg (bi_10 q), HH_o, HHo1, HHc, ia_n hk (show 8 < 2 ^ 31 by decide)]
