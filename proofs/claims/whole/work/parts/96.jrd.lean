/-! ===== reading on both sides ===== -/
theorem RD_t {A B C : Nat → Nat → Int32} (h : RD A B) (g : RD B C) : RD A C := fun a a1 a7 a8 => (g a a1 a7 a8).trans (h a a1 a7 a8)
theorem j_loop {h : icH} {tb : Nat → Int32} {b : Nat → Nat} {z : Nat} (h25 : hg h 25 = some (.inl (1, 150, tb))) (hb : ∀ k, k < z → tb k = nI (b k) ∧ b k < 128) (hz : z ≤ 150) (h' : icH) (m : Nat) (ab be : Int64) : ∀ (mm p k H R N : Nat) (E A : Nat → Nat → Int32) (t s v : Int32) (nb : Nat → Int32) (x4 : Int32), z - p < mm → 1 ≤ k → k ≤ p → p ≤ z → (∀ k, k < z → A 5 k = nI (b k) ∧ b k < 128) → CO H R N E (A 1) →
    (∃ f t' e' v' nb' H' R' N' E' y1 y3 y4 y5 A', icE 55 7 [.ref 24, .ref 28, .int (nI k)] [] (HT h z t s (nI p) v nb H R N E) = some (some (.int (-1)), HT h z t' (nI f) e' v' nb' H' R' N' E') ∧ icE 167 78 [.ref m] [] (HM h' m ab be (i6 (nI z) (nI (tkE b z p)) (nI (tkS b z p)) (nI (tkT b z p)) x4 (nI k)) A) = some (some (.int (nI 0)), HM h' m ab be (i6 (nI z) y1 (nI f) y3 y4 y5) A') ∧ RD A A')
    ∨ (∃ n H' R' N' E' t' s' e' v' nb' y1 y2 y3 y4 A', icE 55 7 [.ref 24, .ref 28, .int (nI k)] [] (HT h z t s (nI p) v nb H R N E) = some (some (.int (nI n)), HT h z t' s' e' v' nb' H' R' N' E') ∧ icE 167 78 [.ref m] [] (HM h' m ab be (i6 (nI z) (nI (tkE b z p)) (nI (tkS b z p)) (nI (tkT b z p)) x4 (nI k)) A) = some (some (.int (nI 1)), HM h' m ab be (i6 (nI z) y1 y2 y3 y4 (nI n)) A') ∧ RD A A' ∧ HI A A' ∧ A' 1 139 = nI 0 ∧ CO H' R' N' E' (A' 1) ∧ n ≤ 150)
  | 0, p, k, H, R, N, E, A, t, s, v, nb, x4, hm, hk, hkp, hp, hbA, hC => absurd hm (Nat.not_lt_zero _)
  | mm + 1, p, k, H, R, N, E, A, t, s, v, nb, x4, hm, hk, hkp, hp, hbA, hC => by
    obtain ⟨v1, n1, _⟩ := c_next h25 hb hz hp t s v nb H R N E
    have t4 := tk_T b z (tkS b z p)
    have b2 : 292 < 2 ^ 31 := by decide
    by_cases cT : tkT b z p = 0
    · right
      have cT' : nI (tkT b z p) = 0 := by rw [cT]; rfl
      refine ⟨k, H, R, N, E, nI (tkT b z p), nI (tkS b z p), nI (tkE b z p), v1, nb, nI (tkE b z p), nI (tkS b z p), nI (tkT b z p), x4, ud A 1 (upd (A 1) 139 (nI 0)), ?_, ?_, fun a a1 _ _ => ud_n a1, fun c _ hc => ?_, ?_, ?_, by omega⟩
      · rw [rh_55_7]
        simp only [SA, rw_55, HT_24, n1, if_neg (nI_nlt (show k ≤ 150 by omega) (show 150 < 2 ^ 31 by decide)), if_pos cT', if_neg (nI_nle (show 0 < k by omega) (show k < 2 ^ 31 by omega))]
      · rw [rh_167_78]
        simp only [SA, rw_167, HM_o, HMr, HMw, i6_3, if_pos cT', is_n (show 139 < 292 by decide) b2]
      · rw [ud_s, pk_un hc]
      · rw [ud_s, pk_us]
      · rw [ud_s]; exact CO_c hC (fun c hc => pk_un (by omega))
    · have cT' : ¬ nI (tkT b z p) = 0 := nI_ne0 (by omega) (by unfold tkT; omega)
      have k0 : ¬ nI k = 0 := nI_ne0 (by omega) (by omega)
      rcases j_item h25 hb hz hp hbA hC cT v1 nb x4 (nI k) h' m ab be with ⟨f, t', e', v', nb', y1, y3, y4, A', i1, i2, i3⟩ | ⟨q, H', R', N', E', t', s', v', nb', y2, y3, y4, A', i1, i2, i3, i4, i5, i6', i7⟩
      · left
        refine ⟨f, t', e', v', nb', H, R, N, E, y1, y3, y4, nI k, A', ?_, ?_, i3⟩
        · rw [rh_55_7]
          simp only [SA, rw_55, HT_24, n1, if_neg (nI_nlt (show k ≤ 150 by omega) (show 150 < 2 ^ 31 by decide)), if_neg cT', if_neg k0, i1, if_pos (show nI 0 = 0 by decide)]
        · rw [rh_167_78]
          simp only [SA, rw_167, HM_o, i6_3, if_neg cT', i2, if_pos (show nI 0 = 0 by decide)]
      · have hbA' : ∀ k, k < z → A' 5 k = nI (b k) ∧ b k < 128 := by rw [i3 5 (by decide) (by decide) (by decide)]; exact hbA
        obtain ⟨v2, s1, _⟩ := c_step (A := A') hbA' hz i7 y2 y3 y4 (nI (k + 1)) h' m ab be
        have c55 : icE 55 7 [.ref 24, .ref 28, .int (nI k)] [] (HT h z t s (nI p) v nb H R N E) = icE 55 7 [.ref 24, .ref 28, .int (nI (k + 1))] [] (HT h z t' s' (nI q) v' nb' H' R' N' E') := by
          rw [rh_55_7]
          simp only [SA, rw_55, HT_24, n1, if_neg (nI_nlt (show k ≤ 150 by omega) (show 150 < 2 ^ 31 by decide)), if_neg cT', if_neg k0, i1, if_neg (show ¬ nI 1 = 0 by decide), nI_add]
        have c167 : icE 167 78 [.ref m] [] (HM h' m ab be (i6 (nI z) (nI (tkE b z p)) (nI (tkS b z p)) (nI (tkT b z p)) x4 (nI k)) A) = icE 167 78 [.ref m] [] (HM h' m ab be (i6 (nI z) (nI (tkE b z q)) (nI (tkS b z q)) (nI (tkT b z q)) v2 (nI (k + 1))) A') := by
          rw [rh_167_78]
          simp only [SA, rw_167, HM_o, HM_wo, i6_0, i6_1, i6_2, i6_3, i6_4, i6_5, if_neg cT', i2, if_neg (show ¬ nI 1 = 0 by decide), nI_add, s1]
        rcases j_loop h25 hb hz h' m ab be mm q (k + 1) H' R' N' E' A' t' s' v' nb' v2 (by omega) (by omega) (by omega) i7 hbA' i5 with ⟨f, a1, a2, a3, a4, a5, a6, a7, a8, a9, a10, a11, a12, a13, r1, r2, r3⟩ | ⟨n, a1, a2, a3, a4, a5, a6, a7, a8, a9, a10, a11, a12, a13, a14, r1, r2, r3, r4, r5, r6, r7⟩
        · left
          exact ⟨f, a1, a2, a3, a4, a5, a6, a7, a8, a9, a10, a11, a12, a13, c55.trans r1, c167.trans r2, RD_t i3 r3⟩
        · right
          exact ⟨n, a1, a2, a3, a4, a5, a6, a7, a8, a9, a10, a11, a12, a13, a14, c55.trans r1, c167.trans r2, RD_t i3 r3, fun c h1 h2 => (r4 c h1 h2).trans (i4 c h1 h2), r5, r6, r7⟩
theorem j_read {h : icH} {tb : Nat → Int32} {b : Nat → Nat} {z : Nat} (h25 : hg h 25 = some (.inl (1, 150, tb))) (hb : ∀ k, k < z → tb k = nI (b k) ∧ b k < 128) (hz : z ≤ 150) {A : Nat → Nat → Int32} (hbA : ∀ k, k < z → A 5 k = nI (b k) ∧ b k < 128) (h' : icH) (m : Nat) (ab be : Int64) (H R N : Nat) (E : Nat → Nat → Int32) (t s e v : Int32) (nb : Nat → Int32) (x1 x2 x3 x4 x5 : Int32) :
    (∃ f t' e' v' nb' H' R' N' E' y1 y3 y4 y5 A', icE 55 0 [.ref 24, .ref 28, dum] [] (HT h z t s e v nb H R N E) = some (some (.int (-1)), HT h z t' (nI f) e' v' nb' H' R' N' E') ∧ icE 167 0 [.ref m] [] (HM h' m ab be (i6 (nI z) x1 x2 x3 x4 x5) A) = some (some (.int (nI 0)), HM h' m ab be (i6 (nI z) y1 (nI f) y3 y4 y5) A') ∧ RD A A')
    ∨ (∃ n H' R' N' E' t' s' e' v' nb' y1 y2 y3 y4 A', icE 55 0 [.ref 24, .ref 28, dum] [] (HT h z t s e v nb H R N E) = some (some (.int (nI n)), HT h z t' s' e' v' nb' H' R' N' E') ∧ icE 167 0 [.ref m] [] (HM h' m ab be (i6 (nI z) x1 x2 x3 x4 x5) A) = some (some (.int (nI 1)), HM h' m ab be (i6 (nI z) y1 y2 y3 y4 (nI n)) A') ∧ RD A A' ∧ (∀ c, 56 ≤ c → c < 140 → A' 1 c = nI 0) ∧ CO H' R' N' E' (A' 1) ∧ n ≤ 150) := by
  have hb2 : ∀ k, k < z → b k < 128 := fun k hk => (hb k hk).2
  obtain ⟨v1, n1, _⟩ := c_next h25 hb hz (Nat.zero_le z) t s v nb H R N E
  obtain ⟨v2, s1, _⟩ := c_step (A := A) hbA hz (Nat.zero_le z) x2 x3 x4 (nI 0) h' m ab be
  have sl := tkS_le (b := b) (Nat.zero_le z)
  have el := tE_le (b := b) sl.2
  have hpz : tkE b z 0 ≤ z := el.2.1
  have t4 := tk_T b z (tkS b z 0)
  have w0 := c_isW h25 hb hz (show 0 < 5 by decide) el.1 hpz (nI (tkT b z 0)) v1 nb H R N E
  have u0 := c_misW0 (A := A) hbA hz el.1 hpz (show tkT b z 0 ≤ 4 from t4) v2 (nI 0) h' m ab be
  have b0 : ∀ x : icR, (if nI (tkT b z 0) = 0 then x else x) = x := fun x => by split <;> rfl
  have c55 : icE 55 0 [.ref 24, .ref 28, dum] [] (HT h z t s e v nb H R N E) = con icE 55 45 [.ref 24, .ref 28, .int (nI 0)] [] (icE 56 0 [.ref 24, .ref 28, .int (nI 1)] [] (HT h z (nI (tkT b z 0)) (nI (tkS b z 0)) (nI (tkE b z 0)) v1 nb H R N E)) := by
    simp only [SA, rw_55, HT_24, HT_w24, rh_55_7, n1, if_neg (nI_nlt (show 0 ≤ 150 by decide) (show 150 < 2 ^ 31 by decide)), if_pos (show nI 0 ≤ 0 by decide), if_pos (show nI 0 = 0 by decide), b0]
  have idA : ud A 8 (A 8) = A := ud_id A 8
  by_cases cW : tkT b z 0 = 1 ∧ wdB 0 b (tkS b z 0) (tkE b z 0) = true
  · have cT' : nI (tkT b z 0) = nI 1 := by rw [cW.1]
    rw [cW.2, bi_t (rfl : true = true)] at w0
    rw [bi_t cW] at u0
    obtain ⟨t', s', e', v', nb', c1, c2⟩ := c_rHouse h25 hb hz hpz (H := H) (R := R) (N := N) (E := E) (nI (tkT b z 0)) (nI (tkS b z 0)) v1 nb
    obtain ⟨y1, y2, y3, y4, g', d1, d2⟩ := s_mHo (A := A) hbA hz hpz (nI (tkS b z 0)) (nI (tkT b z 0)) v2 (nI 0) (A 8) h' m ab be
    rw [idA] at d1 d2
    cases hs : sq b z [(nI 0, nI 18)] (tkE b z 0) with
    | inl f =>
      left
      obtain ⟨c3, c4⟩ := c1 f hs
      obtain ⟨d3, d4⟩ := d1 f hs
      subst c3 d3
      refine ⟨f, t', e', v', nb', H, R, N, E, y1, y3, y4, nI 0, ud A 8 g', ?_, ?_, fun a _ _ a8 => ud_n a8⟩
      · rw [c55]
        simp only [SA, rw_55, rw_56, HT_24, if_pos cT', w0, if_true, if_neg (show ¬ nI 1 = 0 by decide), c4, if_pos (show nI 0 = 0 by decide)]
      · refine Eq.trans ?_ d4
        simp only [SA, rw_167, HM_o, HM_wo, i6_0, i6_1, i6_2, i6_3, i6_4, i6_5, s1, u0, if_neg (show ¬ nI 1 = 0 by decide)]
    | inr q =>
      obtain ⟨c3, c4⟩ := c2 q hs
      obtain ⟨d3, d5, d4⟩ := d2 q hs
      subst c3 d3
      obtain ⟨n0, _⟩ := sq_c hs
      have k0 := nb_hi hb2 (by decide) (by decide) n0
      have wk := wv_ok (v := tkV b z (tkE b z 0)) k0.2
      have ql := sq_le _ _ hpz hs
      have tp := el.2.2
      have Sz : tkS b z 0 < z := by
        by_cases c : z ≤ tkS b z 0
        · have : tkT b z 0 = 0 := if_pos c
          rw [cW.1] at this
          cases this
        · omega
      have q1 : 1 ≤ q := by have := tp Sz; unfold tkE at ql; omega
      have hC := CO_begin wk.1 wk.2 E (A 1)
      have cb := c_begins (nI (tkV b z (tkE b z 0)) + (-9)) h' m ab be (i6 (nI z) (nI q) y2 y3 y4 (nI 0)) (ud A 8 g')
      rw [ud_n (show (1 : Nat) ≠ 8 by decide)] at cb
      have hbA' : ∀ k, k < z → ud (ud A 8 g') 1 (fil (fil (A 1) (nI 0) 0 292) (nI (tkV b z (tkE b z 0)) + (-9)) 1 9) 5 k = nI (b k) ∧ b k < 128 := by rw [ud_n (by decide), ud_n (by decide)]; exact hbA
      obtain ⟨v3, s3, _⟩ := c_step (A := ud (ud A 8 g') 1 (fil (fil (A 1) (nI 0) 0 292) (nI (tkV b z (tkE b z 0)) + (-9)) 1 9)) hbA' hz ql.2 y2 y3 y4 (nI (0 + 1)) h' m ab be
      have c55' : icE 55 0 [.ref 24, .ref 28, dum] [] (HT h z t s e v nb H R N E) = icE 55 7 [.ref 24, .ref 28, .int (nI 1)] [] (HT h z t' s' (nI q) v' nb' 0 0 0 (ud E 1 (fil (E 1) (nI (tkV b z (tkE b z 0)) + (-9)) 0 8))) := by
        rw [c55]
        simp only [SA, rw_55, rw_56, HT_24, if_pos cT', w0, if_true, if_neg (show ¬ nI 1 = 0 by decide), c4, nI_add]
      have c167 : icE 167 0 [.ref m] [] (HM h' m ab be (i6 (nI z) x1 x2 x3 x4 x5) A) = icE 167 78 [.ref m] [] (HM h' m ab be (i6 (nI z) (nI (tkE b z q)) (nI (tkS b z q)) (nI (tkT b z q)) v3 (nI (0 + 1))) (ud (ud A 8 g') 1 (fil (fil (A 1) (nI 0) 0 292) (nI (tkV b z (tkE b z 0)) + (-9)) 1 9))) := by
        refine Eq.trans (b := icE 167 31 [.ref m] [] (HM h' m ab be (i6 (nI z) (nI (tkE b z 0)) (nI (tkS b z 0)) (nI (tkT b z 0)) v2 (nI 0)) A)) ?_ (d4.trans ?_)
        · simp only [SA, rw_167, HM_o, HM_wo, i6_0, i6_1, i6_2, i6_3, i6_4, i6_5, s1, u0, if_neg (show ¬ nI 1 = 0 by decide)]
        · simp only [SA, rw_167, HM_o, HMr, HM_wo, ud_s, ia_n (show 0 < 5 by decide) (show 5 < 2 ^ 31 by decide), d5, m9, cb, i6_0, i6_1, i6_2, i6_3, i6_4, i6_5, nI_add, s3]
      have rd0 : RD A (ud (ud A 8 g') 1 (fil (fil (A 1) (nI 0) 0 292) (nI (tkV b z (tkE b z 0)) + (-9)) 1 9)) := fun a a1 _ a8 => by rw [ud_n a1, ud_n a8]
      rcases j_loop h25 hb hz h' m ab be (z + 1) q 1 0 0 0 (ud E 1 (fil (E 1) (nI (tkV b z (tkE b z 0)) + (-9)) 0 8)) (ud (ud A 8 g') 1 (fil (fil (A 1) (nI 0) 0 292) (nI (tkV b z (tkE b z 0)) + (-9)) 1 9)) t' s' v' nb' v3 (by omega) (by omega) q1 ql.2 hbA' (by rw [ud_s]; exact hC) with ⟨f, a1, a2, a3, a4, a5, a6, a7, a8, a9, a10, a11, a12, a13, r1, r2, r3⟩ | ⟨n, a1, a2, a3, a4, a5, a6, a7, a8, a9, a10, a11, a12, a13, a14, r1, r2, r3, r4, r5, r6, r7⟩
      · left
        exact ⟨f, a1, a2, a3, a4, a5, a6, a7, a8, a9, a10, a11, a12, a13, c55'.trans r1, c167.trans r2, RD_t rd0 r3⟩
      · right
        refine ⟨n, a1, a2, a3, a4, a5, a6, a7, a8, a9, a10, a11, a12, a13, a14, c55'.trans r1, c167.trans r2, RD_t rd0 r3, fun c h1 h2 => ?_, r6, r7⟩
        by_cases cc : c = 139
        · rw [cc]; exact r5
        · rw [r4 c h1 cc, ud_s]
          unfold fil
          rw [if_neg (by omega), if_pos (by omega)]
  · left
    rw [bi_f cW] at u0
    refine ⟨tkS b z 0, nI (tkT b z 0), nI (tkE b z 0), v1, nb, H, R, N, E, nI (tkE b z 0), nI (tkT b z 0), v2, nI 0, A, ?_, ?_, fun _ _ _ _ => rfl⟩
    · rw [c55]
      by_cases cT : tkT b z 0 = 1
      · have cT' : nI (tkT b z 0) = nI 1 := by rw [cT]
        have q0 : ¬ wdB 0 b (tkS b z 0) (tkE b z 0) = true := fun w => cW ⟨cT, w⟩
        rw [bi_f q0] at w0
        simp only [SA, rw_55, rw_56, HT_24, if_pos cT', w0, if_neg (show ¬ nI 0 = nI 1 by decide), if_pos (show nI 0 = 0 by decide)]
      · have cT' : ¬ nI (tkT b z 0) = nI 1 := fun x => cT ((nI_eq (by unfold tkT; omega) (by decide)).mp x)
        simp only [SA, rw_55, rw_56, HT_24, if_neg cT', if_pos (show nI 0 = 0 by decide)]
    · simp only [SA, rw_167, HM_o, HM_wo, i6_0, i6_1, i6_2, i6_3, i6_4, i6_5, s1, u0, if_pos (show nI 0 = 0 by decide)]
