/-! ===== the reference: heats, knocks ===== -/
def ntz (T : Nat → Int32) (K : Nat) : Nat → Int32 := if K < 8 then nts T K else nts (upd (shf T 133) 139 (nI 7)) 7
theorem c_nt {A : Nat → Nat → Int32} {K : Nat} (hK : K ≤ 8) (hA : A 1 139 = nI K) (h : icH) (m : Nat) (ab be : Int64) (ii : Nat → Int32) : icE 169 0 [.ref m, dum] [] (HM h m ab be ii A) = some (none, HM h m ab be ii (ud A 1 (ntz (A 1) K))) := by
  unfold ntz
  by_cases h8 : K < 8
  · rw [if_pos h8, c_notes h8 h m ab be ii hA]
  · have : K = 8 := by omega
    subst this
    rw [if_neg h8, c_notesF h m ab be ii hA]
theorem ntz_lo {T : Nat → Int32} {K c : Nat} (hc : c < 139) : ntz T K c = T c := by
  unfold ntz
  by_cases h8 : K < 8
  · rw [if_pos h8]
    unfold nts
    rw [if_neg (by omega), if_neg (by omega)]
  · rw [if_neg h8]
    unfold nts
    rw [if_neg (by omega), if_neg (by omega), upd_n (by omega)]
    unfold shf
    rw [if_neg (by omega)]
theorem m_heats {A : Nat → Nat → Int32} {K R r : Nat} (hK : K ≤ 8) (hA : A 1 139 = nI K) (h9 : A 1 9 = nI R) (hR : R ≤ 3) (hr : r < R) {e : Int32} (he : nI 0 ≤ e ∧ e ≤ nI 9) (hs : ¬ A 1 (14 + r) = e) (h : icH) (m : Nat) (ab be : Int64) (ii : Nat → Int32) : icE 173 0 [.ref m, .int (nI r), .int e, dum] [] (HM h m ab be ii A) = some (some (.int (A 1 (14 + r))), HM h m ab be ii (ud A 1 (upd (ntz (A 1) K) (14 + r) e))) := by
  have b2 : 292 < 2 ^ 31 := by decide
  have q1 : nI 0 ≤ nI r ∧ nI r ≤ A 1 9 - nI 1 := by rw [h9]; exact R_n hr (by omega)
  have e1 : ntz (A 1) K (14 + r) = A 1 (14 + r) := ntz_lo (by omega)
  simp only [SA, rw_173, HM_o, HMr, c_in, l64, i64_le, c_misRoof, if_neg (bi_10 q1), if_neg (bi_10 he), nI_add, ia_n (show 14 + r < 292 by omega) b2, if_neg hs, c_nt hK hA, ud_s, ud_u, e1, is_n (show 14 + r < 292 by omega) b2, HMw]
theorem m_heatsN {A : Nat → Nat → Int32} {R r : Nat} (h9 : A 1 9 = nI R) (hR : R ≤ 3) (hr : r < R) {e : Int32} (he : nI 0 ≤ e ∧ e ≤ nI 9) (hs : A 1 (14 + r) = e) (h : icH) (m : Nat) (ab be : Int64) (ii : Nat → Int32) : icE 173 0 [.ref m, .int (nI r), .int e, dum] [] (HM h m ab be ii A) = some (some (.int (-3)), HM h m ab be ii (ud A 6 (upd (A 6) 1 (A 6 1 + nI 1)))) := by
  have b2 : 292 < 2 ^ 31 := by decide
  have q1 : nI 0 ≤ nI r ∧ nI r ≤ A 1 9 - nI 1 := by rw [h9]; exact R_n hr (by omega)
  simp only [SA, rw_173, HM_o, HMr, c_in, l64, i64_le, c_misRoof, if_neg (bi_10 q1), if_neg (bi_10 he), nI_add, ia_n (show 14 + r < 292 by omega) b2, if_pos hs, c_mno]
theorem m_knocks {A : Nat → Nat → Int32} {K N i : Nat} (hK : K ≤ 8) (hA : A 1 139 = nI K) (h10 : A 1 10 = nI N) (hN : N ≤ 6) (hi : i < N) (hs : A 1 (50 + i) = 0) (h : icH) (m : Nat) (ab be : Int64) (ii : Nat → Int32) : icE 174 0 [.ref m, .int (nI i)] [] (HM h m ab be ii A) = some (some (.int (A 1 (38 + i))), HM h m ab be ii (ud A 1 (upd (ntz (A 1) K) (50 + i) (nI 1)))) := by
  have b2 : 292 < 2 ^ 31 := by decide
  have q1 : nI 0 ≤ nI i ∧ nI i ≤ A 1 10 - nI 1 := by rw [h10]; exact R_n hi (by omega)
  have e1 : upd (ntz (A 1) K) (50 + i) (nI 1) (38 + i) = A 1 (38 + i) := (upd_n (by omega)).trans (ntz_lo (by omega))
  simp only [SA, rw_174, HM_o, HMr, c_misIce, if_neg (bi_10 q1), nI_add, ia_n (show 50 + i < 292 by omega) b2, if_pos hs, c_nt hK hA, ud_s, ud_u, is_n (show 50 + i < 292 by omega) b2, HMw, ia_n (show 38 + i < 292 by omega) b2, e1]
