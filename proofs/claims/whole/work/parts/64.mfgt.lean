/-! ===== the reference: about, forget ===== -/
theorem m_about {A : Nat → Nat → Int32} {R r j : Nat} (h9 : A 1 9 = nI R) (hR : R ≤ 3) (hr : r < R) (hj : j < 3) (h : icH) (m : Nat) (ab be : Int64) (ii : Nat → Int32) : icE 178 0 [.ref m, .int (nI r), .int (nI j)] [] (HM h m ab be ii A) = some (some (.int (A 1 (11 + 3 * j + r))), HM h m ab be ii A) := by
  have q1 : nI 0 ≤ nI r ∧ nI r ≤ A 1 9 - nI 1 := by rw [h9]; exact R_n hr (by omega)
  have q2 := W_n (Nat.zero_le j) (show j ≤ 3 by omega) (by decide)
  have q3 : ¬ nI j = nI 3 := by rw [nI_eq (by omega) (by decide)]; omega
  simp only [SA, rw_178, HM_o, HMr, c_in, l64, i64_le, c_misRoof, if_neg (bi_10 q1), if_neg (bi_10 q2), if_neg q3, pk_mul, nI_add, ia_n (show 11 + 3 * j + r < 292 by omega) (show 292 < 2 ^ 31 by decide)]
theorem m_about3 {A : Nat → Nat → Int32} {R N H r : Nat} (hT : TOK R N (A 1)) (hH : A 1 0 = nI H) (hb : H + 1 < 2 ^ 31) (hr : r < R) (h : icH) (m : Nat) (ab be : Int64) (ii : Nat → Int32) : icE 178 0 [.ref m, .int (nI r), .int (nI 3)] [] (HM h m ab be ii A) = some (some (.int (wtr (vw (A 1) (A 7)) (A 1 (1 + (H + 1) % 8)) r)), HM h m ab be ii A) := by
  obtain ⟨h9, h10, hR, hN, hk, hs, hki, hro⟩ := hT
  have b2 : 292 < 2 ^ 31 := by decide
  have q1 : nI 0 ≤ nI r ∧ nI r ≤ A 1 9 - nI 1 := by rw [h9]; exact R_n hr (by omega)
  have q2 := W_n (Nat.zero_le 3) (Nat.le_refl 3) (by decide)
  have cw := c_waterOfM (t := 1) (r := r) (Or.inl rfl) (by omega) (A 1 (1 + (H + 1) % 8)) h m ab be ii (A := A) (hk _ hr) (hs _ hr).1 (by have := (hs _ hr).2; omega)
  have wo := c_warmthOf (t := 1) (Or.inl rfl) hb h m ab be ii A
  simp only [SA, rw_178, HM_o, HMr, c_in, l64, i64_le, c_misRoof, if_neg (bi_10 q1), if_neg (bi_10 q2), if_pos, ia_n (show 0 < 292 by decide) b2, hH, nI_add, wo, cw]
  rfl
theorem m_forget0 {A : Nat → Nat → Int32} (h : icH) (m : Nat) (ab be : Int64) (ii : Nat → Int32) : icE 199 0 [.ref m, .int (nI 0), dum, dum] [] (HM h m ab be ii A) = some (some (.int (A 1 56)), HM h m ab be ii (ud A 1 (upd (A 1) 56 (nI 0)))) := by
  have b2 : 292 < 2 ^ 31 := by decide
  have q2 := W_n (Nat.zero_le 0) (show 0 ≤ 2 by decide) (by decide)
  simp only [SA, rw_199, HM_o, HMr, c_in, l64, i64_le, if_neg (bi_10 q2), if_pos nI_0, ia_n (show 56 < 292 by decide) b2, is_n (show 56 < 292 by decide) b2, HMw]
theorem m_forget1 {A : Nat → Nat → Int32} (h : icH) (m : Nat) (ab be : Int64) (ii : Nat → Int32) : icE 199 0 [.ref m, .int (nI 1), dum, dum] [] (HM h m ab be ii A) = some (some (.int (A 1 77)), HM h m ab be ii (ud A 1 (upd (A 1) 77 (nI 0)))) := by
  have b2 : 292 < 2 ^ 31 := by decide
  have q2 := W_n (Nat.zero_le 1) (show 1 ≤ 2 by decide) (by decide)
  simp only [SA, rw_199, HM_o, HMr, c_in, l64, i64_le, if_neg (bi_10 q2), if_neg (show ¬ nI 1 = 0 by decide), if_pos, ia_n (show 77 < 292 by decide) b2, is_n (show 77 < 292 by decide) b2, HMw]
theorem m_forget2 {A : Nat → Nat → Int32} (h : icH) (m : Nat) (ab be : Int64) (ii : Nat → Int32) : icE 199 0 [.ref m, .int (nI 2), dum, dum] [] (HM h m ab be ii A) = some (some (.int (A 1 108)), HM h m ab be ii (ud A 1 (upd (A 1) 108 (nI 0)))) := by
  have b2 : 292 < 2 ^ 31 := by decide
  have q2 := W_n (Nat.zero_le 2) (Nat.le_refl 2) (by decide)
  simp only [SA, rw_199, HM_o, HMr, c_in, l64, i64_le, if_neg (bi_10 q2), if_neg (show ¬ nI 2 = 0 by decide), if_neg (show ¬ nI 2 = nI 1 by decide), ia_n (show 108 < 292 by decide) b2, is_n (show 108 < 292 by decide) b2, HMw]
theorem m_forgetB {A : Nat → Nat → Int32} {a : Int32} (hb : ¬ (nI 0 ≤ a ∧ a ≤ nI 2)) (h : icH) (m : Nat) (ab be : Int64) (ii : Nat → Int32) : icE 199 0 [.ref m, .int a, dum, dum] [] (HM h m ab be ii A) = some (some (.int (-2)), HM h m ab be ii (ud A 6 (upd (A 6) 0 (A 6 0 + nI 1)))) := by
  simp only [SA, rw_199, HM_o, HMr, c_in, l64, i64_le, if_pos (bi_00 hb), c_mbad]
