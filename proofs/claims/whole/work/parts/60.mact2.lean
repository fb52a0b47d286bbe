/-! ===== the reference: snows, knocks refused, more, about ===== -/
theorem m_knocksN {A : Nat → Nat → Int32} {N i : Nat} (h10 : A 1 10 = nI N) (hN : N ≤ 6) (hi : i < N) (hs : ¬ A 1 (50 + i) = 0) (h : icH) (m : Nat) (ab be : Int64) (ii : Nat → Int32) : icE 174 0 [.ref m, .int (nI i)] [] (HM h m ab be ii A) = some (some (.int (-3)), HM h m ab be ii (ud A 6 (upd (A 6) 1 (A 6 1 + nI 1)))) := by
  have b2 : 292 < 2 ^ 31 := by decide
  have q1 : nI 0 ≤ nI i ∧ nI i ≤ A 1 10 - nI 1 := by rw [h10]; exact R_n hi (by omega)
  simp only [SA, rw_174, HM_o, HMr, c_misIce, if_neg (bi_10 q1), nI_add, ia_n (show 50 + i < 292 by omega) b2, if_neg hs, c_mno]
theorem m_snows {A : Nat → Nat → Int32} {K R r n : Nat} (hK : K ≤ 8) (hA : A 1 139 = nI K) (h9 : A 1 9 = nI R) (hR : R ≤ 3) (hr : r < R) (hn : 1 ≤ n) (hn2 : n ≤ 60) (hs : ¬ A 1 (17 + r) = nI 60) (h : icH) (m : Nat) (ab be : Int64) (ii : Nat → Int32) : icE 172 0 [.ref m, .int (nI r), .int (nI n)] [] (HM h m ab be ii A) = some (some (.int (imn (nI 60) (A 1 (17 + r) + nI n))), HM h m ab be ii (ud A 1 (upd (ntz (A 1) K) (17 + r) (imn (nI 60) (A 1 (17 + r) + nI n))))) := by
  have b2 : 292 < 2 ^ 31 := by decide
  have q1 : nI 0 ≤ nI r ∧ nI r ≤ A 1 9 - nI 1 := by rw [h9]; exact R_n hr (by omega)
  have q2 := W_n hn hn2 (by decide)
  have e1 : ntz (A 1) K (17 + r) = A 1 (17 + r) := ntz_lo (by omega)
  simp only [SA, rw_172, HM_o, HMr, c_in, l64, i64_le, c_misRoof, if_neg (bi_10 q1), if_neg (bi_10 q2), nI_add, ia_n (show 17 + r < 292 by omega) b2, if_neg hs, c_nt hK hA, ud_s, ud_u, e1, c_lessI, is_n (show 17 + r < 292 by omega) b2, HMw, upd_s]
theorem m_snowsN {A : Nat → Nat → Int32} {R r n : Nat} (h9 : A 1 9 = nI R) (hR : R ≤ 3) (hr : r < R) (hn : 1 ≤ n) (hn2 : n ≤ 60) (hs : A 1 (17 + r) = nI 60) (h : icH) (m : Nat) (ab be : Int64) (ii : Nat → Int32) : icE 172 0 [.ref m, .int (nI r), .int (nI n)] [] (HM h m ab be ii A) = some (some (.int (-3)), HM h m ab be ii (ud A 6 (upd (A 6) 1 (A 6 1 + nI 1)))) := by
  have b2 : 292 < 2 ^ 31 := by decide
  have q1 : nI 0 ≤ nI r ∧ nI r ≤ A 1 9 - nI 1 := by rw [h9]; exact R_n hr (by omega)
  have q2 := W_n hn hn2 (by decide)
  simp only [SA, rw_172, HM_o, HMr, c_in, l64, i64_le, c_misRoof, if_neg (bi_10 q1), if_neg (bi_10 q2), nI_add, ia_n (show 17 + r < 292 by omega) b2, hs, if_pos, c_mno]
