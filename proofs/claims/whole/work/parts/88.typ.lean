/-! ===== type, image, from ===== -/
theorem nar_b {c : Nat} (hc : c < 128) : (nI c).toInt8.toInt32 = nI c := by
  revert c
  decide +kernel
theorem x_type {h : icH} {ab be : Int64} {z : Nat} {t s e v : Int32} {tb : Nat → Int32} (h0 : hg h 0 = some (xo ab be)) (h24 : hg h 24 = some (to6 z t s e v)) (h25 : hg h 25 = some (.inl (1, 150, tb))) (hz : z < 150) {c : Nat} (hc : c < 128) (H R N : Nat) (D : Nat → Nat → Int32) (F : Nat → Nat) (f : Nat → Nat → Int32) : icE 74 0 [.ref 0, .int (nI c)] [] (HH h 1 H R N D F f) = some (some (.int (nI (z + 1))), HH (hput (hput h 25 (.inl (1, 150, upd tb z (nI c)))) 24 (to6 (z + 1) t s e v)) 1 H R N D F f) := by
  have g24 := x24_H h24 H R N D F f
  have g25 : hg (HH h 1 H R N D F f) 25 = some (.inl (1, 150, tb)) := (HH_n (by omega)).trans h25
  have h24' : ∀ c, hg (HH (hput h 25 c) 1 H R N D F f) 24 = some (ob 6 [.ref 25, .int (nI z), .int t, .int s, .int e, .int v, .ref 26]) := fun c => (HH_n (by omega)).trans ((hg_n (by decide)).trans h24)
  have h0' : ∀ a b, hg (HH (hput (hput h 25 a) 24 b) 1 H R N D F f) 0 = some (ob 7 [.ref 1, .ref 22, .ref 23, .ref 24, .ref 27, .long ab, .long be, .ref 28, .ref 40, .ref 41, .ref 42, .ref 44, .ref 46]) := fun a b => (HH_n (by omega)).trans ((hg_n (by decide)).trans ((hg_n (by decide)).trans h0))
  have hw1 : ∀ c, hput (HH h 1 H R N D F f) 25 c = HH (hput h 25 c) 1 H R N D F f := fun c => hp_HH (by omega) h c H R N D F f
  have hw2 : ∀ x c, hput (HH (hput h 25 x) 1 H R N D F f) 24 c = HH (hput (hput h 25 x) 24 c) 1 H R N D F f := fun x c => hp_HH (by omega) _ c H R N D F f
  have hr : ∀ x c, hg (HH (hput (hput h 25 x) 24 c) 1 H R N D F f) 24 = some c := fun x c => (HH_n (by omega)).trans (hg_s _ _ _)
  simp only [SA, rw_74, rw_54, x0_H h0, g24, g25, c_within, if_neg (bi_10 (W_n (Nat.zero_le c) (show c ≤ 127 by omega) (by decide))), if_pos (nI_lt hz (show 150 < 2 ^ 31 by decide)), nar_b hc, vp_nar_byte, bs_n hz (show 150 < 2 ^ 31 by decide), hw1, h24', hw2, h0', hr, nI_add, if_neg (show ¬ nI 1 = 0 by decide)]
  rfl
theorem x_typeF {h : icH} {ab be : Int64} {t s e v : Int32} {rf : Nat → Int32} (h0 : hg h 0 = some (xo ab be)) (h27 : hg h 27 = some (ai 3 rf)) (h24 : hg h 24 = some (to6 150 t s e v)) {c : Nat} (hc : c < 128) (H R N : Nat) (D : Nat → Nat → Int32) (F : Nat → Nat) (f : Nat → Nat → Int32) : icE 74 0 [.ref 0, .int (nI c)] [] (HH h 1 H R N D F f) = some (some (.int (-4)), HH (rfz h rf 2) 1 H R N D F f) := by
  have g24 := x24_H h24 H R N D F f
  simp only [SA, rw_74, rw_54, x0_H h0, g24, c_within, if_neg (bi_10 (W_n (Nat.zero_le c) (show c ≤ 127 by omega) (by decide))), if_neg (nI_nlt (Nat.le_refl 150) (show 150 < 2 ^ 31 by decide)), if_pos (show nI 0 = 0 by decide), c_full h0 h27]
theorem m_type {A : Nat → Nat → Int32} {ii : Nat → Int32} {z c : Nat} (hi : ii 0 = nI z) (hz : z < 150) (hc : c < 128) (h : icH) (m : Nat) (ab be : Int64) : icE 158 0 [.ref m, .int (nI c)] [] (HM h m ab be ii A) = some (some (.int (nI (z + 1))), HM h m ab be (i6 (nI (z + 1)) (ii 1) (ii 2) (ii 3) (ii 4) (ii 5)) (ud A 5 (upd (A 5) z (nI c)))) := by
  have n : ¬ nI z = nI 150 := fun q => by have := (nI_eq (by omega) (by decide)).mp q; omega
  simp only [SA, rw_158, HM_o, HMr, HMw, HM_wo, c_in, l64, lN_t (show 127 < 2 ^ 31 by decide), i64_le, if_neg (bi_10 (W_n (Nat.zero_le c) (show c ≤ 127 by omega) (by decide))), hi, if_neg n, is_n hz (show 150 < 2 ^ 31 by decide), nI_add, i6_0]
theorem m_typeF {A : Nat → Nat → Int32} {ii : Nat → Int32} {c : Nat} (hi : ii 0 = nI 150) (hc : c < 128) (h : icH) (m : Nat) (ab be : Int64) : icE 158 0 [.ref m, .int (nI c)] [] (HM h m ab be ii A) = some (some (.int (-4)), HM h m ab be ii (ud A 6 (upd (A 6) 2 (A 6 2 + nI 1)))) := by
  simp only [SA, rw_158, HM_o, HMr, c_in, l64, lN_t (show 127 < 2 ^ 31 by decide), i64_le, if_neg (bi_10 (W_n (Nat.zero_le c) (show c ≤ 127 by omega) (by decide))), hi, if_true, c_mfull]
def hk (F F' : Nat → Nat) : Nat → Nat := un (un (un (un F 0 (F' 0)) 1 (F' 1)) 2 (F' 2)) 3 (F' 3)
def fk (f f' : Nat → Nat → Int32) (F' : Nat → Nat) : Nat → Nat → Int32 := ud (ud (ud (ud f 0 (va_cpy (f' 0) (f 0) 0 0 (F' 0))) 1 (va_cpy (f' 1) (f 1) 0 0 (F' 1))) 2 (va_cpy (f' 2) (f 2) 0 0 (F' 2))) 3 (va_cpy (f' 3) (f 3) 0 0 (F' 3))
theorem ch_take {u v : Nat} (hd : v + 20 < u ∨ u + 20 < v) {F' : Nat → Nat} (hF : FOK F') (h : icH) (H R N : Nat) (D : Nat → Nat → Int32) (F : Nat → Nat) (f : Nat → Nat → Int32) (H' R' N' : Nat) (D' : Nat → Nat → Int32) (f' : Nat → Nat → Int32) : icE 31 0 [.ref u, .ref v] [] (HH (HH h v H' R' N' D' F' f') u H R N D F f) = some (none, HH (HH h v H' R' N' D' F' f') u H' R' N' (tk D D') (hk F F') (fk f f' F')) := c_htake hd hF h H R N D F f H' R' N' D' f'
theorem HH_HH {u v : Nat} (hd : v + 20 < u ∨ u + 20 < v) (X : icH) (H R N : Nat) (D : Nat → Nat → Int32) (F : Nat → Nat) (f : Nat → Nat → Int32) (H' R' N' : Nat) (D' : Nat → Nat → Int32) (F' : Nat → Nat) (f' : Nat → Nat → Int32) : HH (HH X v H' R' N' D' F' f') u H R N D F f = HH (HH X u H R N D F f) v H' R' N' D' F' f' := by
  unfold HH
  dsimp only
  congr 2
  funext a
  by_cases h1 : u ≤ a ∧ a ≤ u + 20
  · rw [if_pos h1, if_neg (by omega), if_pos h1]
  · rw [if_neg h1]
    by_cases h2 : v ≤ a ∧ a ≤ v + 20
    · rw [if_pos h2, if_pos h2]
    · rw [if_neg h2, if_neg h2, if_neg h1]
def iu (i : Nat) : Nat := 48 + 21 * i
def ig : Nat → Option Nat := fun i => some (iu i)
theorem x_image {h : icH} {ab be : Int64} {kp : Nat → Int32} {g : Nat → Option Nat} {i : Nat} (hi : i < 2) (h0 : hg h 0 = some (xo ab be)) (h22 : hg h 22 = some (ah 2 g)) (hg2 : g i = some (iu i)) (h23 : hg h 23 = some (az 2 kp)) {F' : Nat → Nat} (hF : FOK F') (H R N : Nat) (D : Nat → Nat → Int32) (F : Nat → Nat) (f : Nat → Nat → Int32) (H' R' N' : Nat) (D' : Nat → Nat → Int32) (f' : Nat → Nat → Int32) : icE 108 0 [.ref 0, .int (nI i)] [] (HH (HH h (iu i) H R N D F f) 1 H' R' N' D' F' f') = some (some (.int (nI 1)), HH (HH (hput h 23 (az 2 (upd kp i (nI 1)))) (iu i) H' R' N' (tk D D') (hk F F') (fk f f' F')) 1 H' R' N' D' F' f') := by
  have dd : 1 + 20 < iu i ∨ iu i + 20 < 1 := by unfold iu; omega
  have dd' : iu i + 20 < 1 ∨ 1 + 20 < iu i := by unfold iu; omega
  have ct := ch_take dd hF h H R N D F f H' R' N' D' f'
  rw [HH_HH dd, HH_HH dd] at ct
  have q : ∀ a, (a < 1 ∨ 21 < a) → a < 48 → ∀ (X : icH) (H R N : Nat) (D : Nat → Nat → Int32) (F : Nat → Nat) (f : Nat → Nat → Int32) (H' R' N' : Nat) (D' : Nat → Nat → Int32) (F' : Nat → Nat) (f' : Nat → Nat → Int32), hg (HH (HH X (iu i) H R N D F f) 1 H' R' N' D' F' f') a = hg X a := by
    intro a ha hb X H R N D F f H' R' N' D' F' f'
    rw [HH_n (by omega), HH_n (by unfold iu; omega)]
  have q1 : ∀ (X : icH) (H R N : Nat) (D : Nat → Nat → Int32) (F : Nat → Nat) (f : Nat → Nat → Int32) (H' R' N' : Nat) (D' : Nat → Nat → Int32) (F' : Nat → Nat) (f' : Nat → Nat → Int32), hg (HH (HH X (iu i) H R N D F f) 1 H' R' N' D' F' f') (iu i) = some (ob 2 [.ref (iu i + 1), .ref (iu i + 13 + 2 * 0), .ref (iu i + 13 + 2 * 1), .ref (iu i + 13 + 2 * 2), .ref (iu i + 13 + 2 * 3)]) := by
    intro X H R N D F f H' R' N' D' F' f'
    rw [HH_n (by unfold iu; omega), HH_o]
  have h0' : hg h 0 = some (ob 7 [.ref 1, .ref 22, .ref 23, .ref 24, .ref 27, .long ab, .long be, .ref 28, .ref 40, .ref 41, .ref 42, .ref 44, .ref 46]) := h0
  have hw : ∀ (H R N : Nat) (D : Nat → Nat → Int32) (F : Nat → Nat) (f : Nat → Nat → Int32) (c : icC), hput (HH (HH h (iu i) H R N D F f) 1 H' R' N' D' F' f') 23 c = HH (HH (hput h 23 c) (iu i) H R N D F f) 1 H' R' N' D' F' f' := by
    intro H R N D F f c
    rw [hp_HH (by omega), hp_HH (by unfold iu; omega)]
  have nb : vp_nar .boolean (nI 1) = nI 1 := by decide
  simp only [SA, rw_108, q 0 (by omega) (by omega), q 22 (by omega) (by omega), q 23 (by omega) (by omega), q1, h0', h22, h23, c_within, if_neg (bi_10 (W_n (Nat.zero_le i) (show i ≤ 1 by omega) (by decide))), aa_n hi (show 2 < 2 ^ 31 by decide) hg2, ct, bs_2 hi (show 2 < 2 ^ 31 by decide), nb, hw]
theorem x_from {h : icH} {ab be : Int64} {kp : Nat → Int32} {g : Nat → Option Nat} {i : Nat} (hi : i < 2) (h0 : hg h 0 = some (xo ab be)) (h22 : hg h 22 = some (ah 2 g)) (hg2 : g i = some (iu i)) (h23 : hg h 23 = some (az 2 kp)) (hkp : ¬ kp i = 0) {F : Nat → Nat} (hF : FOK F) (H R N : Nat) (D : Nat → Nat → Int32) (f : Nat → Nat → Int32) (H' R' N' : Nat) (D' : Nat → Nat → Int32) (F' : Nat → Nat) (f' : Nat → Nat → Int32) : icE 109 0 [.ref 0, .int (nI i)] [] (HH (HH h (iu i) H R N D F f) 1 H' R' N' D' F' f') = some (some (.int (nI 1)), HH (HH h (iu i) H R N D F f) 1 H R N (tk D' D) (hk F' F) (fk f' f F)) := by
  have dd : iu i + 20 < 1 ∨ 1 + 20 < iu i := by unfold iu; omega
  have ct := ch_take dd hF h H' R' N' D' F' f' H R N D f
  have q : ∀ a, (a < 1 ∨ 21 < a) → a < 48 → ∀ (X : icH) (H R N : Nat) (D : Nat → Nat → Int32) (F : Nat → Nat) (f : Nat → Nat → Int32) (H' R' N' : Nat) (D' : Nat → Nat → Int32) (F' : Nat → Nat) (f' : Nat → Nat → Int32), hg (HH (HH X (iu i) H R N D F f) 1 H' R' N' D' F' f') a = hg X a := by
    intro a ha hb X H R N D F f H' R' N' D' F' f'
    rw [HH_n (by omega), HH_n (by unfold iu; omega)]
  have h0' : hg h 0 = some (ob 7 [.ref 1, .ref 22, .ref 23, .ref 24, .ref 27, .long ab, .long be, .ref 28, .ref 40, .ref 41, .ref 42, .ref 44, .ref 46]) := h0
  simp only [SA, rw_109, q 0 (by omega) (by omega), q 22 (by omega) (by omega), q 23 (by omega) (by omega), HH_o, h0', h22, h23, c_within, if_neg (bi_10 (W_n (Nat.zero_le i) (show i ≤ 1 by omega) (by decide))), ba_2 hi (show 2 < 2 ^ 31 by decide), if_neg hkp, aa_n hi (show 2 < 2 ^ 31 by decide) hg2, ct]
theorem x_fromN {h : icH} {ab be : Int64} {rf kp : Nat → Int32} {i : Nat} (hi : i < 2) (h0 : hg h 0 = some (xo ab be)) (h27 : hg h 27 = some (ai 3 rf)) (h23 : hg h 23 = some (az 2 kp)) (hkp : kp i = 0) (H R N : Nat) (D : Nat → Nat → Int32) (F : Nat → Nat) (f : Nat → Nat → Int32) : icE 109 0 [.ref 0, .int (nI i)] [] (HH h 1 H R N D F f) = some (some (.int (-3)), HH (rfz h rf 1) 1 H R N D F f) := by
  have h23' : hg (HH h 1 H R N D F f) 23 = some (az 2 kp) := (HH_n (by omega)).trans h23
  simp only [SA, rw_109, x0_H h0, h23', c_within, if_neg (bi_10 (W_n (Nat.zero_le i) (show i ≤ 1 by omega) (by decide))), ba_2 hi (show 2 < 2 ^ 31 by decide), if_pos hkp, c_no h0 h27]
theorem m_image {A : Nat → Nat → Int32} {i : Nat} (hi : i < 2) (h : icH) (m : Nat) (ab be : Int64) (ii : Nat → Int32) : icE 213 0 [.ref m, .int (nI i)] [] (HM h m ab be ii A) = some (some (.int (nI 1)), HM h m ab be ii (ud (ud A 3 (va_cpy (A 1) (A 3) 0 (292 * i) 292)) 4 (upd (A 4) i (nI 1)))) := by
  have nb : vp_nar .boolean (nI 1) = nI 1 := by decide
  have cp := c_copies (a := m + 1) (b := m + 3) (na := 292) (nb := 584) (sp := 0) (dp := 292 * i) (n := 292) (by omega) (by omega) (by omega) (by decide) (by decide) (HMr.1 h m ab be ii A) (HMr.2.2.1 h m ab be ii A)
  have w3 := HMw.2.2.1 h m ab be ii A
  rw [w3] at cp
  simp only [SA, rw_213, HM_o, HMr, HMw, c_in, l64, i64_le, if_neg (bi_10 (W_n (Nat.zero_le i) (show i ≤ 1 by omega) (by decide))), pk_mul, cp, bs_2 hi (show 2 < 2 ^ 31 by decide), nb, ud_n (show (4 : Nat) ≠ 3 by decide)]
theorem m_from {A : Nat → Nat → Int32} {i : Nat} (hi : i < 2) (hk : ¬ A 4 i = 0) (h : icH) (m : Nat) (ab be : Int64) (ii : Nat → Int32) : icE 214 0 [.ref m, .int (nI i)] [] (HM h m ab be ii A) = some (some (.int (nI 1)), HM h m ab be ii (ud A 1 (va_cpy (A 3) (A 1) (292 * i) 0 292))) := by
  have cp := c_copies (a := m + 3) (b := m + 1) (na := 584) (nb := 292) (sp := 292 * i) (dp := 0) (n := 292) (by omega) (by omega) (by omega) (by decide) (by decide) (HMr.2.2.1 h m ab be ii A) (HMr.1 h m ab be ii A)
  have w1 := HMw.1 h m ab be ii A
  rw [w1] at cp
  simp only [SA, rw_214, HM_o, HMr, HMw, c_in, l64, i64_le, if_neg (bi_10 (W_n (Nat.zero_le i) (show i ≤ 1 by omega) (by decide))), pk_mul, ba_2 hi (show 2 < 2 ^ 31 by decide), if_neg hk, cp]
theorem m_fromN {A : Nat → Nat → Int32} {i : Nat} (hi : i < 2) (hk : A 4 i = 0) (h : icH) (m : Nat) (ab be : Int64) (ii : Nat → Int32) : icE 214 0 [.ref m, .int (nI i)] [] (HM h m ab be ii A) = some (some (.int (-3)), HM h m ab be ii (ud A 6 (upd (A 6) 1 (A 6 1 + nI 1)))) := by
  simp only [SA, rw_214, HM_o, HMr, HMw, c_in, l64, i64_le, if_neg (bi_10 (W_n (Nat.zero_le i) (show i ≤ 1 by omega) (by decide))), ba_2 hi (show 2 < 2 ^ 31 by decide), if_pos hk, c_mno]
