/-! ===== the reference: roof, ice, more, about ===== -/
theorem c_maddRoof {A : Nat → Nat → Int32} {R : Nat} (hR : R < 3) (hA : A 1 9 = nI R) (a b c : Int32) (h : icH) (m : Nat) (ab be : Int64) (ii : Nat → Int32) : icE 154 0 [.ref m, .int a, .int b, .int c, dum] [] (HM h m ab be ii A) = some (none, HM h m ab be ii (ud A 1 (upd (upd (upd (upd (upd (A 1) (11 + R) a) (14 + R) b) (17 + R) c) 9 (nI (R + 1))) 139 (nI 0)))) := by
  have b2 : 292 < 2 ^ 31 := by decide
  have e : upd (upd (upd (A 1) (11 + R) a) (14 + R) b) (17 + R) c 9 = nI R := by
    rw [upd_n (by omega), upd_n (by omega), upd_n (by omega)]; exact hA
  simp only [SA, rw_154, HM_o, HMr, ia_n (show 9 < 292 by decide) b2, hA, nI_add, is_n (show 11 + R < 292 by omega) b2, is_n (show 14 + R < 292 by omega) b2, is_n (show 17 + R < 292 by omega) b2, is_n (show 9 < 292 by decide) b2, is_n (show 139 < 292 by decide) b2, HMw, ud_s, ud_u, e]
theorem m_roof {A : Nat → Nat → Int32} {R : Nat} (hR : R < 3) (hA : A 1 9 = nI R) {a b c : Int32} (ha : nI 0 ≤ a ∧ a ≤ nI 5) (hb : nI 0 ≤ b ∧ b ≤ nI 9) (hc : nI 0 ≤ c ∧ c ≤ nI 60) (h : icH) (m : Nat) (ab be : Int64) (ii : Nat → Int32) : icE 155 0 [.ref m, .int a, .int b, .int c] [] (HM h m ab be ii A) = some (some (.int (nI R)), HM h m ab be ii (ud A 1 (upd (upd (upd (upd (upd (A 1) (11 + R) a) (14 + R) b) (17 + R) c) 9 (nI (R + 1))) 139 (nI 0)))) := by
  have b2 : 292 < 2 ^ 31 := by decide
  have e : ¬ nI R = nI 3 := by rw [nI_eq (by omega) (by decide)]; omega
  have e9 : upd (upd (upd (upd (upd (A 1) (11 + R) a) (14 + R) b) (17 + R) c) 9 (nI (R + 1))) 139 (nI 0) 9 = nI (R + 1) := by rw [upd_n (by decide), upd_s]
  simp only [SA, rw_155, HM_o, HMr, c_in, l64, i64_le, if_neg (bi_10 ha), if_neg (bi_10 hb), if_neg (bi_10 hc), ia_n (show 9 < 292 by decide) b2, hA, if_neg e, c_maddRoof hR hA, ud_s, e9, nI_sb (Nat.le_add_left 1 R), Nat.add_sub_cancel]
theorem m_roofF {A : Nat → Nat → Int32} (hA : A 1 9 = nI 3) {a b c : Int32} (ha : nI 0 ≤ a ∧ a ≤ nI 5) (hb : nI 0 ≤ b ∧ b ≤ nI 9) (hc : nI 0 ≤ c ∧ c ≤ nI 60) (h : icH) (m : Nat) (ab be : Int64) (ii : Nat → Int32) : icE 155 0 [.ref m, .int a, .int b, .int c] [] (HM h m ab be ii A) = some (some (.int (-4)), HM h m ab be ii (ud A 6 (upd (A 6) 2 (A 6 2 + nI 1)))) := by
  have b2 : 292 < 2 ^ 31 := by decide
  simp only [SA, rw_155, HM_o, HMr, c_in, l64, i64_le, if_neg (bi_10 ha), if_neg (bi_10 hb), if_neg (bi_10 hc), ia_n (show 9 < 292 by decide) b2, hA, if_pos, c_mfull]
