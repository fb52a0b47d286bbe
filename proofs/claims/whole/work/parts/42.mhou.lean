/-! ===== the reference: water, more, an hour ===== -/
theorem less_imn (a b : Int32) : (if b ≤ a then b else a) = imn a b := by
  unfold imn
  by_cases h1 : b < a
  · rw [if_pos h1, if_pos]
    rw [Int32.lt_iff_toInt_lt] at h1
    rw [Int32.le_iff_toInt_le]
    omega
  · rw [if_neg h1]
    by_cases h2 : b ≤ a
    · rw [if_pos h2]
      rw [Int32.lt_iff_toInt_lt] at h1
      rw [Int32.le_iff_toInt_le] at h2
      exact Int32.toInt_inj.mp (by omega)
    · rw [if_neg h2]
theorem c_lessI (a b : Int32) (h : icH) : icE 137 0 [.int a, .int b] [] h = some (some (.int (imn a b)), h) := by
  rw [c_less, less_imn]
theorem i32_lt (a b : Int32) : a < b ↔ a.toInt < b.toInt := Int32.lt_iff_toInt_lt
theorem i32_le (a b : Int32) : a ≤ b ↔ a.toInt ≤ b.toInt := Int32.le_iff_toInt_le
theorem plain_nat (x : Int32) {σ : Nat} (hσ : σ < 2 ^ 31) : ∃ p : Nat, p ≤ σ ∧ imn (imx x (nI 0)) (nI σ) = nI p ∧ (if 0 ≤ x then imn x (nI σ) else nI 0) = nI p := by
  unfold imn imx
  by_cases h0 : 0 ≤ x
  · have h0' : ¬ x < nI 0 := by rw [nI_0, i32_lt]; rw [i32_le] at h0; omega
    rw [if_neg h0', if_pos h0]
    by_cases h1 : nI σ < x
    · exact ⟨σ, Nat.le_refl _, if_pos h1, if_pos h1⟩
    · obtain ⟨j, hj, e⟩ := nI_of (x := x) (by rw [i32_lt]; rw [i32_le] at h0; omega)
      subst e
      refine ⟨j, ?_, if_neg h1, if_neg h1⟩
      rw [nI_ltI hσ hj] at h1
      omega
  · have h0' : x < nI 0 := by rw [nI_0, i32_lt]; rw [i32_le] at h0; omega
    rw [if_pos h0', if_neg h0, if_neg (nI_nlt (Nat.zero_le σ) hσ)]
    exact ⟨0, Nat.zero_le _, rfl, rfl⟩
theorem imx_s1 {F : Nat} (hF : F < 2 ^ 31) : imx (nI F - nI 1) (nI 0) = nI (F - 1) := by
  by_cases h1 : F = 0
  · subst h1; decide
  · rw [nI_sb (by omega)]
    unfold imx
    rw [if_neg (nI_nlt (Nat.zero_le _) (by omega))]
theorem th_4 {t : Nat} (ht : t < 2 ^ 31) : (if nI t ≤ 0 then nI t else nI t - nI 1) = nI (t - 1) := by
  by_cases h1 : t = 0
  · subst h1; decide
  · rw [if_neg (nI_nle (by omega) ht), nI_sb (by omega)]
theorem c_mwater {k σ : Nat} (hk : k < 6) (hσ : σ < 2 ^ 30) (w q : Int32) (h : icH) : icE 145 0 [.int (nI k), .int w, .int q, .int (nI σ), dum, dum, dum] [] h = some (some (.int (wat k w q (nI σ))), h) := by
  have h2 : ¬ nI 2 = 0 := by decide
  have hk2 : k = 0 ∨ k = 1 ∨ k = 2 ∨ k = 3 ∨ k = 5 ∨ k = 4 := by omega
  obtain ⟨p, hp, e1, e2⟩ := plain_nat (w + q) (show σ < 2 ^ 31 by omega)
  have e3 : nI p / nI 2 = nI (p / 2) := pk_div (by omega) (by decide) (by decide)
  have e4 : nI σ - nI σ / nI 2 * nI 2 = nI (σ % 2) := pk_rem (by omega) (by decide) (by decide)
  have e5 := th_4 (show p / 2 < 2 ^ 31 by omega)
  have e6 := imx_s1 (show p / 2 < 2 ^ 31 by omega)
  have n1 : ¬ nI 1 = 0 := by decide
  have n2 : ¬ nI 0 = nI 1 := by decide
  have n3 : nI 0 = 0 := by decide
  unfold wat
  rw [e1]
  by_cases h0 : 0 ≤ w + q
  · rw [if_pos h0] at e2
    rcases hk2 with rfl | rfl | rfl | rfl | rfl | rfl
    · simp only [SA, rw_145, c_lessI, tw_145_45, if_neg h2, reduceIte, Nat.reduceEqDiff, if_pos h0, e2, e3]
      repeat' (first | contradiction | split | rfl)
    · simp only [SA, rw_145, c_lessI, tw_145_45, if_neg h2, reduceIte, Nat.reduceEqDiff, if_pos h0, e2, e3]
      repeat' (first | contradiction | split | rfl)
    · simp only [SA, rw_145, c_lessI, tw_145_45, if_neg h2, reduceIte, Nat.reduceEqDiff, if_pos h0, e2, e3]
      repeat' (first | contradiction | split | rfl)
    · simp only [SA, rw_145, c_lessI, tw_145_45, if_neg h2, reduceIte, Nat.reduceEqDiff, if_pos h0, e2, e3]
      repeat' (first | contradiction | split | rfl)
    · simp only [SA, rw_145, c_lessI, tw_145_45, if_neg h2, reduceIte, Nat.reduceEqDiff, if_pos h0, e2, e3]
      repeat' (first | contradiction | split | rfl)
    · simp only [SA, rw_145, c_lessI, tw_145_45, if_neg h2, reduceIte, Nat.reduceEqDiff, if_pos h0, e2, e3, e4, e6]
      rw [← e5]
      rcases Nat.mod_two_eq_zero_or_one σ with hm | hm
      · simp only [hm, if_pos n3, if_neg n2, ite_self]
      · simp only [hm, if_neg n1, ite_self, if_pos]
        repeat' (first | split | rfl)
  · rw [if_neg h0] at e2
    have ep : p = 0 := by
      have : nI 0 = nI p := e2
      rw [nI_eq (by decide) (by omega)] at this
      omega
    subst ep
    have e7 : nI (0 / 2) = nI 0 := rfl
    have e8 : nI 0 ≤ 0 := by decide
    have e9 : imx (nI 0 - nI 1) (nI 0) = nI 0 := by decide
    rcases hk2 with rfl | rfl | rfl | rfl | rfl | rfl
    · simp only [SA, rw_145, c_lessI, tw_145_45, if_neg h2, reduceIte, Nat.reduceEqDiff, if_neg h0, e3, e7, if_pos n3]
      repeat' (first | contradiction | split | rfl)
    · simp only [SA, rw_145, c_lessI, tw_145_45, if_neg h2, reduceIte, Nat.reduceEqDiff, if_neg h0, e3, e7, if_pos n3]
      repeat' (first | contradiction | split | rfl)
    · simp only [SA, rw_145, c_lessI, tw_145_45, if_neg h2, reduceIte, Nat.reduceEqDiff, if_neg h0, e3, e7, if_pos n3]
      repeat' (first | contradiction | split | rfl)
    · simp only [SA, rw_145, c_lessI, tw_145_45, if_neg h2, reduceIte, Nat.reduceEqDiff, if_neg h0, e3, e7, if_pos n3]
      repeat' (first | contradiction | split | rfl)
    · simp only [SA, rw_145, c_lessI, tw_145_45, if_neg h2, reduceIte, Nat.reduceEqDiff, if_neg h0, e3, e7, if_pos n3]
      repeat' (first | contradiction | split | rfl)
    · simp only [SA, rw_145, c_lessI, tw_145_45, if_neg h2, reduceIte, Nat.reduceEqDiff, if_neg h0, e3, e4, e7, e9, if_pos n3, if_pos e8, ite_self]
theorem c_mmore {k : Nat} (hk : k < 6) (l w q : Int32) (h : icH) : icE 146 0 [.int (nI k), .int l, .int w, .int q, dum, dum] [] h = some (some (.int (mor k l w q)), h) := by
  have h2 : ¬ nI 2 = 0 := by decide
  have h5 : ¬ nI 5 = 0 := by decide
  have hk2 : k = 0 ∨ k = 1 ∨ k = 2 ∨ k = 3 ∨ k = 4 ∨ k = 5 := by omega
  unfold mor
  rcases hk2 with rfl | rfl | rfl | rfl | rfl | rfl <;> simp only [SA, rw_146, tw_146_29, if_neg h2, if_neg h5, reduceIte, Nat.reduceEqDiff]
  all_goals by_cases hw : 0 ≤ w <;> simp only [hw, reduceIte]
  all_goals repeat' (first | contradiction | split | rfl)
