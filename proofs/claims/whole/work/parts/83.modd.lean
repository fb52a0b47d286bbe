/-! ===== the reference: odds ===== -/
theorem less_imb (a b : Int32) : (if b ≤ a then b else a) = imn b a := by
  unfold imn
  by_cases c : b ≤ a
  · rw [if_pos c, if_neg (fun z => i32_le_lt.mpr z c)]
  · rw [if_neg c, if_pos (i32_le_lt.mp c)]
/-- the reference's row, in hours that may be warmer -/
def MO (R N t H U : Nat) (D : Nat → Nat → Int32) (T : Nat → Int32) : Prop := TOK R N T ∧ T 0 = nI (H + t) ∧ ∀ V, ERl R N (vw T V) (ho R N H U D t)
theorem MO_step {R N t H U : Nat} {D : Nat → Nat → Int32} {A : Nat → Nat → Int32} (hM : MO R N t H U D (A 2)) (h : icH) (m : Nat) (ab be : Int64) (ii : Nat → Int32) : ∃ (v : Int32) (T' W' : Nat → Int32), icE 149 0 [.ref m, .ref (m + 2), .int (wmt (ho R N H U D t) (H + t + 1) (nI (bw U t * 3))), dum, dum] [] (HM h m ab be ii A) = some (some (.int v), HM h m ab be ii (ud (ud A 2 T') 7 W')) ∧ MO R N (t + 1) H U D T' := by
  have hT0 := TOK_0 hM.1 (nI (H + t + 1))
  have h6 := hT0.2.2.2.2.2.2.2
  have hR := hM.1.2.2.1
  have hN := hM.1.2.2.2.1
  have z := c_passesBy (t := 2) (Or.inr rfl) (wmt (ho R N H U D t) (H + t + 1) (nI (bw U t * 3))) h m ab be ii hM.1 hM.2.1
  refine ⟨_, _, _, z, TOK_mh hT0 (A 7) _, ?_, fun V => ?_⟩
  · rw [mh_o hR hN (by omega)]
    exact upd_s _ _ _
  · refine ERl_t (ERl_mh hR hN h6 _) ?_
    refine ERl_hw ?_ h6 _
    exact ERl_t (vw_V (A 2) (A 7) (A 7) _) (hM.2.2 (A 7))
theorem l_mod2 {R N H U n c : Nat} {D : Nat → Nat → Int32} (hU : U < 64) (hn : n ≤ 6) (hc : c ≤ 10) (hH : H ≤ 9999) (i : Int32) (up : Int64) (h : icH) (m : Nat) (ab be : Int64) (ii : Nat → Int32) : ∀ (k t : Nat) (z : Value) (A : Nat → Nat → Int32), t + k = n → MO R N t H U D (A 2) → ∃ z' A', icE 210 63 [.ref m, .int i, .int (nI n), .int (nI c), .long up, dum, .int (nI U), .long (lN (wg c U t)), dum, .int (nI t), z] [] (HM h m ab be ii A) = icE 210 153 [.ref m, .int i, .int (nI n), .int (nI c), .long up, dum, .int (nI U), .long (lN (wg c U n)), dum, .int (nI n), z'] [] (HM h m ab be ii A') ∧ MSC A A' ∧ MO R N n H U D (A' 2)
  | 0, t, z, A, him, hM => by
    have : t = n := by omega
    subst this
    refine ⟨z, A, ?_, MSC_r A, hM⟩
    rw [rh_210_63]
    simp only [SA, rw_210, if_pos (nI_le (Nat.le_refl t) (show t < 2 ^ 31 by omega))]
  | k + 1, t, z, A, him, hM => by
    have b5 : 56 < 2 ^ 31 := by decide
    obtain ⟨v, T', W', s, hM'⟩ := MO_step hM h m ab be ii
    have ew : A 2 (1 + (H + t + 1) % 8) = ho R N H U D t 1 ((H + t + 1) % 8) := (hM.2.2 (A 7)).1 _ (Nat.mod_lt _ (by decide))
    have sh := sh10 U (by omega) t (by omega)
    have eb : U / 2 ^ t % 2 = bw U t := rfl
    rw [eb] at sh
    have e : wg c U (t + 1) = wg c U t * (if bw U t = 0 then 10 - c else c) := rfl
    have wo := c_warmthOf (t := 2) (Or.inr rfl) (show H + t + 1 < 2 ^ 31 by omega) h m ab be ii A
    rw [ew] at wo
    unfold wmt at s
    by_cases q : bw U t = 0
    · have q2 : ¬ nI (bw U t) = nI 1 := by rw [q]; decide
      have q3 : bw U t * 3 = 0 := by rw [q]
      rw [if_pos q] at e
      rw [q3] at s
      obtain ⟨z', A', ih, y1, y2⟩ := l_mod2 hU hn hc hH i up h m ab be ii k (t + 1) (.int (nI 0)) (ud (ud A 2 T') 7 W') (by omega) (by rw [ud_n (by decide), ud_s]; exact hM')
      rw [e] at ih
      refine ⟨z', A', ?_, MSC_t (MSC_u (MSC_u (MSC_r A) (by decide) T') (by decide) W') y1, y2⟩
      refine Eq.trans ?_ ih
      rw [rh_210_63]
      simp only [SA, rw_210, HM_o, HMr, if_neg (nI_ge (show t < n by omega) (show n < 2 ^ 31 by omega)), sh, if_neg q2, if_pos (show nI 0 = 0 by decide), nI_sb hc, nI_l (show 10 - c < 2 ^ 31 by omega), lN_mul, ia_n (show 0 < 56 by decide) b5, hM.2.1, nI_add, wo, c_less, less_imb, s]
    · have q1 : bw U t = 1 := by have : bw U t < 2 := Nat.mod_lt _ (by decide); omega
      have q2 : nI (bw U t) = nI 1 := by rw [q1]
      have q3 : bw U t * 3 = 3 := by rw [q1]
      rw [if_neg q] at e
      rw [q3] at s
      obtain ⟨z', A', ih, y1, y2⟩ := l_mod2 hU hn hc hH i up h m ab be ii k (t + 1) (.int (nI 1)) (ud (ud A 2 T') 7 W') (by omega) (by rw [ud_n (by decide), ud_s]; exact hM')
      rw [e] at ih
      refine ⟨z', A', ?_, MSC_t (MSC_u (MSC_u (MSC_r A) (by decide) T') (by decide) W') y1, y2⟩
      refine Eq.trans ?_ ih
      rw [rh_210_63]
      simp only [SA, rw_210, HM_o, HMr, if_neg (nI_ge (show t < n by omega) (show n < 2 ^ 31 by omega)), sh, if_pos q2, if_neg (show ¬ nI 1 = 0 by decide), nI_l (show c < 2 ^ 31 by omega), lN_mul, ia_n (show 0 < 56 by decide) b5, hM.2.1, nI_add, wo, c_less, less_imb, s]
theorem MO_0 {R N H U : Nat} {D : Nat → Nat → Int32} {T : Nat → Int32} (h : MR R N 0 H D T) : MO R N 0 H U D T := h
theorem l_mod1 {R N H n i c : Nat} {D : Nat → Nat → Int32} (hn : n ≤ 6) (hc : c ≤ 10) (hH : H ≤ 9999) (hi : i < N) (h : icH) (m : Nat) (ab be : Int64) (ii : Nat → Int32) : ∀ (k U : Nat) (x y z w : Value) (A : Nat → Nat → Int32), U + k = 2 ^ n → MR R N 0 H D (A 1) → ∃ x' y' z' w' A', icE 210 45 [.ref m, .int (nI i), .int (nI n), .int (nI c), .long (lN (sw R N H D i n c U)), dum, .int (nI U), x, y, z, w] [] (HM h m ab be ii A) = icE 210 195 [.ref m, .int (nI i), .int (nI n), .int (nI c), .long (lN (sw R N H D i n c (2 ^ n))), dum, .int (nI (2 ^ n)), x', y', z', w'] [] (HM h m ab be ii A') ∧ MSC A A'
  | 0, U, x, y, z, w, A, him, hM => by
    have p2 := p2_le hn
    have : U = 2 ^ n := by omega
    subst this
    refine ⟨x, y, z, w, A, ?_, MSC_r A⟩
    rw [rh_210_45]
    simp only [SA, rw_210, sh1n n hn, if_pos (nI_le (Nat.le_refl (2 ^ n)) (show 2 ^ n < 2 ^ 31 by omega))]
  | k + 1, U, x, y, z, w, A, him, hM => by
    have p2 := p2_le hn
    have hN := hM.1.2.2.2.1
    have b2 : 292 < 2 ^ 31 := by decide
    have b5 : 56 < 2 ^ 31 := by decide
    obtain ⟨z1, A1, s1, s2, s3⟩ := l_mod2 (R := R) (N := N) (D := D) (U := U) (by omega) hn hc hH (nI i) (lN (sw R N H D i n c U)) h m ab be ii n 0 w (ud A 2 (va_cpy (A 1) (A 2) 0 0 56)) (by omega) (by rw [ud_s]; exact MO_0 (MR_lay hM _))
    have m1 : A1 1 = A 1 := (MSC_1 s2).trans (ud_n (by decide))
    have eL : A1 1 (50 + i) = D 11 i := by rw [m1]; exact MR_11 hM hi
    have e2 : A1 2 (50 + i) = ho R N H U D n 11 i := (s3.2.2 (A1 7)).2.2 11 (by decide) (by decide) i hi
    have e : sw R N H D i n c (U + 1) = sw R N H D i n c U + (if D 11 i = 0 ∧ ho R N H U D n 11 i = nI 2 then wg c U n else 0) := rfl
    obtain ⟨x', y', z', w', A', ih, q⟩ := l_mod1 hn hc hH hi h m ab be ii k (U + 1) (.long (lN (wg c U n))) dum (.int (nI n)) z1 A1 (by omega) (by rw [m1]; exact hM)
    rw [e] at ih
    refine ⟨x', y', z', w', A', ?_, MSC_t (MSC_t (MSC_u (MSC_r A) (by decide) _) s2) q⟩
    refine Eq.trans ?_ ih
    rw [rh_210_45]
    simp only [SA, rw_210, HM_o, sh1n n hn, if_neg (nI_ge (show U < 2 ^ n by omega) (show 2 ^ n < 2 ^ 31 by omega)), c_laysAside]
    have s1' : icE 210 63 [.ref m, .int (nI i), .int (nI n), .int (nI c), .long (lN (sw R N H D i n c U)), dum, .int (nI U), .long (lN 1), dum, .int (nI 0), w] [] (HM h m ab be ii (ud A 2 (va_cpy (A 1) (A 2) 0 0 56))) = _ := s1
    rw [s1']
    by_cases c1 : D 11 i = 0
    · by_cases c2 : ho R N H U D n 11 i = nI 2
      · rw [if_pos ⟨c1, c2⟩]
        simp only [SA, rw_210, HM_o, HMr, nI_add, ia_n (show 50 + i < 292 by omega) b2, ia_n (show 50 + i < 56 by omega) b5, eL, e2, if_pos c1, if_pos c2, lN_add]
      · rw [if_neg (fun z => c2 z.2)]
        simp only [SA, rw_210, HM_o, HMr, nI_add, ia_n (show 50 + i < 292 by omega) b2, ia_n (show 50 + i < 56 by omega) b5, eL, e2, if_pos c1, if_neg c2, lN_add]
    · rw [if_neg (fun z => c1 z.1)]
      simp only [SA, rw_210, HM_o, HMr, nI_add, ia_n (show 50 + i < 292 by omega) b2, ia_n (show 50 + i < 56 by omega) b5, eL, if_neg c1, lN_add]
theorem m_odds {R N H n i c : Nat} {D : Nat → Nat → Int32} {A : Nat → Nat → Int32} (hM : MR R N 0 H D (A 1)) (hn : n ≤ 6) (hc : c ≤ 10) (hH : H ≤ 9999) (hi : i < N) (h : icH) (m : Nat) (ab be : Int64) (ii : Nat → Int32) : ∃ A', icE 210 0 [.ref m, .int (nI i), .int (nI n), .int (nI c), dum, dum, dum, dum, dum, dum, dum] [] (HM h m ab be ii A) = some (some (.int (nI 1)), HM h m (lN (sw R N H D i n c (2 ^ n) / Nat.gcd (sw R N H D i n c (2 ^ n)) (10 ^ n))) (lN (10 ^ n / Nat.gcd (sw R N H D i n c (2 ^ n)) (10 ^ n))) ii A') ∧ MSC A A' := by
  have p2 := p2_le hn
  have p10 := p10_le hn
  have p0 : 0 < 10 ^ n := Nat.pow_pos (by decide)
  have sl := sw_le (R := R) (N := N) (H := H) (D := D) (i := i) hc hn (2 ^ n)
  have sl2 : sw R N H D i n c (2 ^ n) < 2 ^ 63 := Nat.lt_of_le_of_lt sl (Nat.lt_of_le_of_lt (Nat.mul_le_mul_right _ p2) (by decide))
  obtain ⟨x', y', z', w', A', z, q⟩ := l_mod1 hn hc hH hi h m ab be ii (2 ^ n) 0 dum dum dum dum A (by omega) hM
  refine ⟨A', ?_, q⟩
  have k := c_tells sl2 (show 10 ^ n < 2 ^ 40 by omega) p0 h m ab be ii A'
  refine Eq.trans (b := icE 210 45 [.ref m, .int (nI i), .int (nI n), .int (nI c), .long (lN (sw R N H D i n c 0)), dum, .int (nI 0), dum, dum, dum, dum] [] (HM h m ab be ii A)) ?_ (Eq.trans z ?_)
  · simp only [SA, rw_210, HM_o, c_misIce, c_in, l64, i64_le, if_neg (bi_10 (MR_i hM hi)), if_neg (bi_10 (W_n (Nat.zero_le n) hn (by decide))), if_neg (bi_10 (W_n (Nat.zero_le c) hc (by decide))), sw]
  · simp only [SA, rw_210, HM_o, c_power 10 (show n < 2 ^ 31 by omega), nI_l (show 10 ^ n < 2 ^ 31 by omega), k]
