/-! ===== reading: an item on both sides ===== -/
theorem sq_c {b : Nat → Nat} {z p q : Nat} {lo hi : Int32} {l : List (Int32 × Int32)} (h : sq b z ((lo, hi) :: l) p = .inr q) : nbP b z p lo hi ∧ sq b z l (tkE b z p) = .inr q := by
  by_cases c : nbP b z p lo hi
  · refine ⟨c, ?_⟩
    have e : sq b z ((lo, hi) :: l) p = sq b z l (tkE b z p) := if_pos c
    rw [← e]; exact h
  · have e : sq b z ((lo, hi) :: l) p = .inl (tkS b z p) := if_neg c
    rw [e] at h
    cases h
theorem sq_le {b : Nat → Nat} {z q : Nat} : ∀ (l : List (Int32 × Int32)) (p : Nat), p ≤ z → sq b z l p = .inr q → p ≤ q ∧ q ≤ z
  | [], p, hp, h => by
    by_cases c : tkT b z p = 3
    · have e : sq b z [] p = .inr (tkE b z p) := if_pos c
      rw [e] at h
      cases h
      exact tkE_le hp
    · have e : sq b z [] p = .inl (tkS b z p) := if_neg c
      rw [e] at h
      cases h
  | (lo, hi) :: l, p, hp, h => by
    obtain ⟨_, h2⟩ := sq_c h
    have := tkE_le (b := b) hp
    have := sq_le l _ this.2 h2
    omega
theorem wd_d : ∀ i, i < 5 → ∀ j, j < 5 → i ≠ j → (wl i ≠ wl j ∨ wn i 0 ≠ wn j 0 ∨ wn i 3 ≠ wn j 3 ∧ 3 < wl i) := by decide
theorem wd_x {b : Nat → Nat} {S E i j : Nat} (hi : i < 5) (hj : j < 5) (hij : i ≠ j) (h : wdB i b S E = true) : wdB j b S E = false := by
  cases hq : wdB j b S E with
  | false => rfl
  | true =>
    obtain ⟨a1, a2⟩ := wd_t.mp h
    obtain ⟨b1, b2⟩ := wd_t.mp hq
    have g : ∀ k, k < wl i → b (S + k) = wn i k := fun k hk => by
      apply wb_f.mp
      cases hw : wb i b S k with
      | false => rfl
      | true => rw [(anyB_i _ _).mpr ⟨k, hk, hw⟩] at a2; cases a2
    have g' : ∀ k, k < wl j → b (S + k) = wn j k := fun k hk => by
      apply wb_f.mp
      cases hw : wb j b S k with
      | false => rfl
      | true => rw [(anyB_i _ _).mpr ⟨k, hk, hw⟩] at b2; cases b2
    have l3 : ∀ j, j < 5 → 3 ≤ wl j := by decide
    have li := l3 i hi
    have lj := l3 j hj
    rcases wd_d i hi j hj hij with x | x | x
    · exact absurd (by omega) x
    · exact absurd ((g 0 (by omega)).symm.trans (g' 0 (by omega))) x
    · exact absurd ((g 3 x.2).symm.trans (g' 3 (by omega))) x.1
def RD (A A' : Nat → Nat → Int32) : Prop := ∀ a, a ≠ 1 → a ≠ 7 → a ≠ 8 → A' a = A a
def HI (A A' : Nat → Nat → Int32) : Prop := ∀ c, 56 ≤ c → c ≠ 139 → A' 1 c = A 1 c
theorem wv_ok {v : Nat} (hv : v ≤ 18) : -9 ≤ nI v + (-9) ∧ nI v + (-9) ≤ nI 9 := by
  have t := wv_t (w := v) (by omega)
  unfold wv at t
  rw [m9] at t
  have e1 : (-9 : Int32).toInt = -9 := by decide
  have e2 : (nI 9).toInt = 9 := by decide
  rw [Int32.le_iff_toInt_le, Int32.le_iff_toInt_le, t, e1, e2]
  omega
theorem nI_gt {v : Nat} (hv : v < 2 ^ 31) : (-1 : Int32) < nI v := by
  rw [Int32.lt_iff_toInt_lt, nI_toInt hv]
  have : (-1 : Int32).toInt = -1 := by decide
  omega
theorem j_item {h : icH} {tb : Nat → Int32} {b : Nat → Nat} {z p : Nat} (h25 : hg h 25 = some (.inl (1, 150, tb))) (hb : ∀ k, k < z → tb k = nI (b k) ∧ b k < 128) (hz : z ≤ 150) (hp : p ≤ z) {H R N : Nat} {E : Nat → Nat → Int32} {A : Nat → Nat → Int32} (hbA : ∀ k, k < z → A 5 k = nI (b k) ∧ b k < 128) (hC : CO H R N E (A 1)) (hT0 : tkT b z p ≠ 0) (v : Int32) (nb : Nat → Int32) (x4 x5 : Int32) (h' : icH) (m : Nat) (ab be : Int64) :
    (∃ f t' e' v' nb' y1 y3 y4 A', icE 56 0 [.ref 24, .ref 28, .int (nI 0)] [] (HT h z (nI (tkT b z p)) (nI (tkS b z p)) (nI (tkE b z p)) v nb H R N E) = some (some (.int (nI 0)), HT h z t' (nI f) e' v' nb' H R N E) ∧ icE 165 0 [.ref m] [] (HM h' m ab be (i6 (nI z) (nI (tkE b z p)) (nI (tkS b z p)) (nI (tkT b z p)) x4 x5) A) = some (some (.int (nI 0)), HM h' m ab be (i6 (nI z) y1 (nI f) y3 y4 x5) A') ∧ RD A A')
    ∨ (∃ q H' R' N' E' t' s' v' nb' y2 y3 y4 A', icE 56 0 [.ref 24, .ref 28, .int (nI 0)] [] (HT h z (nI (tkT b z p)) (nI (tkS b z p)) (nI (tkE b z p)) v nb H R N E) = some (some (.int (nI 1)), HT h z t' s' (nI q) v' nb' H' R' N' E') ∧ icE 165 0 [.ref m] [] (HM h' m ab be (i6 (nI z) (nI (tkE b z p)) (nI (tkS b z p)) (nI (tkT b z p)) x4 x5) A) = some (some (.int (nI 1)), HM h' m ab be (i6 (nI z) (nI q) y2 y3 y4 x5) A') ∧ RD A A' ∧ HI A A' ∧ CO H' R' N' E' (A' 1) ∧ p < q ∧ q ≤ z) := by
  have hb2 : ∀ k, k < z → b k < 128 := fun k hk => (hb k hk).2
  have sl := tkS_le (b := b) hp
  have el := tE_le (b := b) sl.2
  have hpz : tkE b z p ≤ z := el.2.1
  have t4 := tk_T b z (tkS b z p)
  have Sz : tkS b z p < z := by
    by_cases c : z ≤ tkS b z p
    · have : tkT b z p = 0 := if_pos c
      exact absurd this hT0
    · omega
  have pq : p < tkE b z p := by have := el.2.2 Sz; unfold tkE; omega
  have SE : tkS b z p ≤ tkE b z p := el.1
  have w0 := c_isW h25 hb hz (show 0 < 5 by decide) SE hpz (nI (tkT b z p)) v nb H R N E
  have w1 := c_isW h25 hb hz (show 1 < 5 by decide) SE hpz (nI (tkT b z p)) v nb H R N E
  have w2 := c_isW h25 hb hz (show 2 < 5 by decide) SE hpz (nI (tkT b z p)) v nb H R N E
  have w3 := c_isW h25 hb hz (show 3 < 5 by decide) SE hpz (nI (tkT b z p)) v nb H R N E
  have w4 := c_isW h25 hb hz (show 4 < 5 by decide) SE hpz (nI (tkT b z p)) v nb H R N E
  have u1 := c_misW1 (A := A) hbA hz SE hpz (show tkT b z p ≤ 4 from t4) x4 x5 h' m ab be
  have u2 := c_misW2 (A := A) hbA hz SE hpz (show tkT b z p ≤ 4 from t4) x4 x5 h' m ab be
  have u3 := c_misW3 (A := A) hbA hz SE hpz (show tkT b z p ≤ 4 from t4) x4 x5 h' m ab be
  have u4 := c_misW4 (A := A) hbA hz SE hpz (show tkT b z p ≤ 4 from t4) x4 x5 h' m ab be
  have hM := hC.1
  have b2 : 292 < 2 ^ 31 := by decide
  have h9 : A 1 9 = nI R := hM.1.1
  have h10 : A 1 10 = nI N := hM.1.2.1
  have hR := hM.1.2.2.1
  have hN := hM.1.2.2.2.1
  have idA : ud A 8 (A 8) = A := ud_id A 8
  have fmod : (∀ j, j < 5 → ¬ j = 0 → ¬ (tkT b z p = 1 ∧ wdB j b (tkS b z p) (tkE b z p) = true)) → icE 165 0 [.ref m] [] (HM h' m ab be (i6 (nI z) (nI (tkE b z p)) (nI (tkS b z p)) (nI (tkT b z p)) x4 x5) A) = some (some (.int (nI 0)), HM h' m ab be (i6 (nI z) (nI (tkE b z p)) (nI (tkS b z p)) (nI (tkT b z p)) x4 x5) A) := by
    intro hno
    simp only [SA, rw_165, HM_o, u1, u2, u3, u4, if_pos (bi_00 (hno 1 (by decide) (by decide))), if_pos (bi_00 (hno 2 (by decide) (by decide))), if_pos (bi_00 (hno 3 (by decide) (by decide))), if_pos (bi_00 (hno 4 (by decide) (by decide)))]
  by_cases cT : tkT b z p = 1
  · have cT' : nI (tkT b z p) = nI 1 := by rw [cT]
    have f1 : ¬ (tkT b z p = 1 ∧ (false = true)) := fun w => by cases w.2
    cases q0 : wdB 0 b (tkS b z p) (tkE b z p) with
    | true =>
      left
      rw [q0] at w0
      rw [bi_t (rfl : true = true)] at w0
      refine ⟨tkS b z p, nI (tkT b z p), nI (tkE b z p), v, nb, nI (tkE b z p), nI (tkT b z p), x4, A, ?_, fmod (fun j hj hj0 w => ?_), fun _ _ _ _ => rfl⟩
      · simp only [SA, rw_56, HT_24, if_pos cT', w0, if_neg (show ¬ nI 1 = nI 0 by decide)]
      · rw [wd_x (show 0 < 5 by decide) hj (fun x => hj0 x.symm) q0] at w; cases w.2
    | false =>
      rw [q0] at w0
      rw [bi_f (show ¬ (false = true) by decide)] at w0
      cases q1 : wdB 1 b (tkS b z p) (tkE b z p) with
      | true =>
        rw [q1] at w1 u1
        rw [bi_t (rfl : true = true)] at w1
        rw [bi_t (show tkT b z p = 1 ∧ true = true from ⟨cT, rfl⟩)] at u1
        obtain ⟨t', s', e', v', nb', c1, c2⟩ := c_rWarm h25 hb hz hpz (H := H) (R := R) (N := N) (E := E) (nI (tkT b z p)) (nI (tkS b z p)) v nb
        obtain ⟨y1, y2, y3, y4, g', d1, d2⟩ := s_mW (A := A) hbA hz hpz (nI (tkS b z p)) (nI (tkT b z p)) x4 x5 (A 8) h' m ab be
        rw [idA] at d1 d2
        cases hs : sq b z [(nI 0, nI 7), (nI 0, nI 18)] (tkE b z p) with
        | inl f =>
          left
          obtain ⟨c3, c4⟩ := c1 f hs
          obtain ⟨d3, d4⟩ := d1 f hs
          subst c3 d3
          refine ⟨f, t', e', v', nb', y1, y3, y4, ud A 8 g', ?_, ?_, fun a _ _ a8 => ud_n a8⟩
          · simp only [SA, rw_56, HT_24, if_pos cT', w0, if_true, if_pos (show nI 0 = 0 by decide), w1, if_neg (show ¬ nI 1 = 0 by decide), c4]
          · refine Eq.trans ?_ d4
            simp only [SA, rw_165, HM_o, u1, if_neg (show ¬ nI 1 = 0 by decide)]
        | inr q =>
          right
          obtain ⟨c3, c4⟩ := c2 q hs
          obtain ⟨d3, d4⟩ := d2 q hs
          subst c3 d3
          obtain ⟨n0, hs1⟩ := sq_c hs
          obtain ⟨n1, _⟩ := sq_c hs1
          have k0 := nb_hi hb2 (by decide) (by decide) n0
          have k1 := nb_hi hb2 (by decide) (by decide) n1
          rw [kn_n (by omega)] at c4
          have ql := sq_le _ _ hpz hs
          have wk := wv_ok (v := tkV b z (pkk b z (tkE b z p) 1)) k1.2
          refine ⟨q, H, R, N, ud E 1 (upd (E 1) (tkV b z (tkE b z p)) ((nI (tkV b z (pkk b z (tkE b z p) 1))) + (-9))), t', s', v', nb', y2, y3, y4, ud (ud A 8 g') 1 (upd (A 1) (1 + tkV b z (tkE b z p)) ((nI (tkV b z (pkk b z (tkE b z p) 1))) + (-9))), ?_, ?_, fun a a1 _ a8 => ?_, fun c hc _ => ?_, ?_, by omega, ql.2⟩
          rotate_left
          · refine Eq.trans ?_ d4
            simp only [SA, rw_165, HM_o, u1, if_neg (show ¬ nI 1 = 0 by decide)]
          · rw [ud_n a1, ud_n a8]
          · rw [ud_s, pk_un (by omega)]
          · rw [ud_s]
            exact CO_warm hC (show tkV b z (tkE b z p) < 8 by omega) wk.1 wk.2
          · simp only [SA, rw_56, HT_24, if_pos cT', w0, if_true, if_pos (show nI 0 = 0 by decide), w1, if_neg (show ¬ nI 1 = 0 by decide), c4]
      | false =>
        rw [q1] at w1 u1
        rw [bi_f (show ¬ (false = true) by decide)] at w1
        rw [bi_f f1] at u1
        cases q2 : wdB 2 b (tkS b z p) (tkE b z p) with
        | true =>
          have q3 := wd_x (show 2 < 5 by decide) (show 3 < 5 by decide) (by decide) q2
          have q4 := wd_x (show 2 < 5 by decide) (show 4 < 5 by decide) (by decide) q2
          rw [q2] at w2 u2
          rw [bi_t (rfl : true = true)] at w2
          rw [bi_t (show tkT b z p = 1 ∧ true = true from ⟨cT, rfl⟩)] at u2
          rw [q3] at w3 u3
          rw [bi_f (show ¬ (false = true) by decide)] at w3
          rw [bi_f f1] at u3
          rw [q4] at w4 u4
          rw [bi_f (show ¬ (false = true) by decide)] at w4
          rw [bi_f f1] at u4
          by_cases cR : R < 3
          · obtain ⟨t', s', e', v', nb', c1, c2⟩ := c_rRoof h25 hb hz hpz (H := H) (R := R) (N := N) (E := E) cR (nI (tkT b z p)) (nI (tkS b z p)) v nb
            obtain ⟨y1, y2, y3, y4, g', d1, d2⟩ := s_mR (A := A) hbA hz hpz cR h9 (nI (tkS b z p)) (nI (tkT b z p)) x4 x5 (A 8) h' m ab be
            rw [idA] at d1 d2
            cases hs : sq b z [(nI 0, nI 5), (nI 0, nI 9), (nI 0, nI 60)] (tkE b z p) with
            | inl f =>
              left
              obtain ⟨c3, c4⟩ := c1 f hs
              obtain ⟨d3, d4⟩ := d1 f hs
              subst c3 d3
              refine ⟨f, t', e', v', nb', y1, y3, y4, ud A 8 g', ?_, ?_, fun a _ _ a8 => ud_n a8⟩
              · simp only [SA, rw_56, HT_24, HT_28, if_pos cT', w0, if_true, if_pos (show nI 0 = 0 by decide), w1, if_pos (show nI 0 = 0 by decide), w2, if_neg (show ¬ nI 1 = 0 by decide), if_neg (nI_ge cR (show 3 < 2 ^ 31 by decide)), c4]
              · refine Eq.trans ?_ d4
                simp only [SA, rw_165, HM_o, HMr, u1, if_pos (show nI 0 = 0 by decide), u2, if_neg (show ¬ nI 1 = 0 by decide), ia_n (show 9 < 292 by decide) b2, h9, if_neg (nI_ge cR (show 3 < 2 ^ 31 by decide))]
            | inr q =>
              right
              obtain ⟨c3, c4⟩ := c2 q hs
              obtain ⟨d3, d4⟩ := d2 q hs
              subst c3 d3
              obtain ⟨n0, hs1⟩ := sq_c hs
              obtain ⟨n1, hs2⟩ := sq_c hs1
              obtain ⟨n2, _⟩ := sq_c hs2
              have k0 := nb_hi hb2 (by decide) (by decide) n0
              have k2 := nb_hi hb2 (by decide) (by decide) n2
              have ql := sq_le _ _ hpz hs
              refine ⟨q, H, R + 1, N, ud (ud (ud E 2 (upd (E 2) R (nI (tkV b z (tkE b z p))))) 3 (upd (E 3) R (nI (tkV b z (pkk b z (tkE b z p) 1))))) 4 (upd (E 4) R (nI (tkV b z (pkk b z (tkE b z p) 2)))), t', s', v', nb', y2, y3, y4, ud (ud A 8 g') 1 (upd (upd (upd (upd (upd (A 1) (11 + R) (nI (tkV b z (tkE b z p)))) (14 + R) (nI (tkV b z (pkk b z (tkE b z p) 1)))) (17 + R) (nI (tkV b z (pkk b z (tkE b z p) 2)))) 9 (nI (R + 1))) 139 (nI 0)), ?_, ?_, fun a a1 _ a8 => ?_, fun c hc hc2 => ?_, ?_, by omega, ql.2⟩
              rotate_left
              · refine Eq.trans ?_ d4
                simp only [SA, rw_165, HM_o, HMr, u1, if_pos (show nI 0 = 0 by decide), u2, if_neg (show ¬ nI 1 = 0 by decide), ia_n (show 9 < 292 by decide) b2, h9, if_neg (nI_ge cR (show 3 < 2 ^ 31 by decide))]
              · rw [ud_n a1, ud_n a8]
              · rw [ud_s, pk_un hc2, pk_un (by omega), pk_un (by omega), pk_un (by omega), pk_un (by omega)]
              · rw [ud_s]
                exact CO_c (CO_roof hC cR (kd_n (show tkV b z (tkE b z p) < 6 by omega) (by omega)) (kd_n (show tkV b z (pkk b z (tkE b z p) 2) < 61 from Nat.lt_succ_of_le k2.2) (Nat.lt_of_le_of_lt k2.2 (by decide)))) (fun c hc => pk_un (by omega))
              · simp only [SA, rw_56, HT_24, HT_28, if_pos cT', w0, if_true, if_pos (show nI 0 = 0 by decide), w1, if_pos (show nI 0 = 0 by decide), w2, if_neg (show ¬ nI 1 = 0 by decide), if_neg (nI_ge cR (show 3 < 2 ^ 31 by decide)), c4, if_neg (show ¬ nI 1 = 0 by decide)]
          · left
            refine ⟨tkS b z p, nI (tkT b z p), nI (tkE b z p), v, nb, nI (tkE b z p), nI (tkT b z p), x4, A, ?_, ?_, fun _ _ _ _ => rfl⟩
            rotate_left
            · simp only [SA, rw_165, HM_o, HMr, u1, if_pos (show nI 0 = 0 by decide), u2, if_neg (show ¬ nI 1 = 0 by decide), ia_n (show 9 < 292 by decide) b2, h9, if_pos (nI_le (show 3 ≤ R by omega) (show R < 2 ^ 31 by omega)), u3, u4]
            · simp only [SA, rw_56, HT_24, HT_28, if_pos cT', w0, if_true, if_pos (show nI 0 = 0 by decide), w1, if_pos (show nI 0 = 0 by decide), w2, if_neg (show ¬ nI 1 = 0 by decide), if_pos (nI_le (show 3 ≤ R by omega) (show R < 2 ^ 31 by omega))]
        | false =>
          rw [q2] at w2 u2
          rw [bi_f (show ¬ (false = true) by decide)] at w2
          rw [bi_f f1] at u2
          cases q3 : wdB 3 b (tkS b z p) (tkE b z p) with
          | true =>
            have q4 := wd_x (show 3 < 5 by decide) (show 4 < 5 by decide) (by decide) q3
            rw [q3] at w3 u3
            rw [bi_t (rfl : true = true)] at w3
            rw [bi_t (show tkT b z p = 1 ∧ true = true from ⟨cT, rfl⟩)] at u3
            rw [q4] at w4 u4
            rw [bi_f (show ¬ (false = true) by decide)] at w4
            rw [bi_f f1] at u4
            by_cases cN : N < 6
            · obtain ⟨t', s', e', v', nb', c1, c2⟩ := c_rIce h25 hb hz hpz (H := H) (R := R) (N := N) (E := E) cN (nI (tkT b z p)) (nI (tkS b z p)) v nb
              obtain ⟨y1, y2, y3, y4, g', d1, d2⟩ := s_mI (A := A) hbA hz hpz cN h9 h10 (nI (tkS b z p)) (nI (tkT b z p)) x4 x5 (A 8) h' m ab be
              rw [idA] at d1 d2
              cases hs : sq b z [(nI 0, nI R - nI 1), (nI 0, nI 5), (nI 0, nI 7), (nI 1, nI 30), (nI 1, nI 40)] (tkE b z p) with
              | inl f =>
                left
                obtain ⟨c3, c4⟩ := c1 f hs
                obtain ⟨d3, d4⟩ := d1 f hs
                subst c3 d3
                refine ⟨f, t', e', v', nb', y1, y3, y4, ud A 8 g', ?_, ?_, fun a _ _ a8 => ud_n a8⟩
                · simp only [SA, rw_56, HT_24, HT_28, if_pos cT', w0, if_true, if_pos (show nI 0 = 0 by decide), w1, if_pos (show nI 0 = 0 by decide), w2, w3, if_neg (show ¬ nI 1 = 0 by decide), if_neg (nI_ge cN (show 6 < 2 ^ 31 by decide)), c4]
                · refine Eq.trans ?_ d4
                  simp only [SA, rw_165, HM_o, HMr, u1, if_pos (show nI 0 = 0 by decide), u2, u3, if_neg (show ¬ nI 1 = 0 by decide), ia_n (show 10 < 292 by decide) b2, h10, if_neg (nI_ge cN (show 6 < 2 ^ 31 by decide))]
              | inr q =>
                right
                obtain ⟨c3, c4⟩ := c2 q hs
                obtain ⟨d3, d4⟩ := d2 q hs
                subst c3 d3
                obtain ⟨n0, hs1⟩ := sq_c hs
                obtain ⟨n1, hs2⟩ := sq_c hs1
                obtain ⟨n2, hs3⟩ := sq_c hs2
                obtain ⟨n3, _⟩ := sq_c hs3
                obtain ⟨r0, rl, er⟩ := R_of (show R < 2 ^ 31 by omega) n0.2
                have k1 := nb_hi hb2 (by decide) (by decide) n1
                have k2 := nb_hi hb2 (by decide) (by decide) n2
                have k3 := nb_hi hb2 (by decide) (by decide) n3
                have ql := sq_le _ _ hpz hs
                have kr : kd R (nI (tkV b z (tkE b z p))) := by rw [er]; exact kd_n rl (by omega)
                have kk : kd 6 (nI (tkV b z (pkk b z (tkE b z p) 1))) := kd_n (Nat.lt_succ_of_le k1.2) (Nat.lt_of_le_of_lt k1.2 (by decide))
                have kp : kd 8 (nI (tkV b z (pkk b z (tkE b z p) 2))) := kd_n (Nat.lt_succ_of_le k2.2) (Nat.lt_of_le_of_lt k2.2 (by decide))
                have kl : (-1 : Int32) < nI (tkV b z (pkk b z (tkE b z p) 3)) := nI_gt (Nat.lt_of_le_of_lt k3.2 (by decide))
                refine ⟨q, H, R, N + 1, ud (ud (ud (ud (ud (ud E 6 (upd (E 6) N (nI (tkV b z (tkE b z p))))) 7 (upd (E 7) N (nI (tkV b z (pkk b z (tkE b z p) 1))))) 8 (upd (E 8) N (nI (tkV b z (pkk b z (tkE b z p) 2))))) 9 (upd (E 9) N (nI (tkV b z (pkk b z (tkE b z p) 3))))) 10 (upd (E 10) N (nI (tkV b z (pkk b z (tkE b z p) 4))))) 11 (upd (E 11) N (nI 0)), t', s', v', nb', y2, y3, y4, ud (ud A 8 g') 1 (upd (upd (upd (upd (upd (upd (upd (upd (A 1) (20 + N) (nI (tkV b z (tkE b z p)))) (26 + N) (nI (tkV b z (pkk b z (tkE b z p) 1)))) (32 + N) (nI (tkV b z (pkk b z (tkE b z p) 2)))) (38 + N) (nI (tkV b z (pkk b z (tkE b z p) 3)))) (44 + N) (nI (tkV b z (pkk b z (tkE b z p) 4)))) (50 + N) (nI 0)) 10 (nI (N + 1))) 139 (nI 0)), ?_, ?_, fun a a1 _ a8 => ?_, fun c hc hc2 => ?_, ?_, by omega, ql.2⟩
                rotate_left
                · refine Eq.trans ?_ d4
                  simp only [SA, rw_165, HM_o, HMr, u1, if_pos (show nI 0 = 0 by decide), u2, u3, if_neg (show ¬ nI 1 = 0 by decide), ia_n (show 10 < 292 by decide) b2, h10, if_neg (nI_ge cN (show 6 < 2 ^ 31 by decide))]
                · rw [ud_n a1, ud_n a8]
                · rw [ud_s, pk_un hc2, pk_un (by omega), pk_un (by omega), pk_un (by omega), pk_un (by omega), pk_un (by omega), pk_un (by omega), pk_un (by omega)]
                · rw [ud_s]
                  exact CO_c (CO_ice hC cN kr kk kp kl) (fun c hc => pk_un (by omega))
                · simp only [SA, rw_56, HT_24, HT_28, if_pos cT', w0, if_true, if_pos (show nI 0 = 0 by decide), w1, if_pos (show nI 0 = 0 by decide), w2, w3, if_neg (show ¬ nI 1 = 0 by decide), if_neg (nI_ge cN (show 6 < 2 ^ 31 by decide)), c4, if_neg (show ¬ nI 1 = 0 by decide)]
            · left
              refine ⟨tkS b z p, nI (tkT b z p), nI (tkE b z p), v, nb, nI (tkE b z p), nI (tkT b z p), x4, A, ?_, ?_, fun _ _ _ _ => rfl⟩
              rotate_left
              · simp only [SA, rw_165, HM_o, HMr, u1, if_pos (show nI 0 = 0 by decide), u2, u3, if_neg (show ¬ nI 1 = 0 by decide), ia_n (show 10 < 292 by decide) b2, h10, if_pos (nI_le (show 6 ≤ N by omega) (show N < 2 ^ 31 by omega)), u4]
              · simp only [SA, rw_56, HT_24, HT_28, if_pos cT', w0, if_true, if_pos (show nI 0 = 0 by decide), w1, if_pos (show nI 0 = 0 by decide), w2, w3, if_neg (show ¬ nI 1 = 0 by decide), if_pos (nI_le (show 6 ≤ N by omega) (show N < 2 ^ 31 by omega))]
          | false =>
            rw [q3] at w3 u3
            rw [bi_f (show ¬ (false = true) by decide)] at w3
            rw [bi_f f1] at u3
            cases q4 : wdB 4 b (tkS b z p) (tkE b z p) with
            | true =>
              rw [q4] at w4 u4
              rw [bi_t (rfl : true = true)] at w4
              rw [bi_t (show tkT b z p = 1 ∧ true = true from ⟨cT, rfl⟩)] at u4
              obtain ⟨t', s', e', v', nb', c1, c2⟩ := c_rHours h25 hb hz hpz (H := H) (R := R) (N := N) (E := E) hC.2.1 (CO_W hC) hC.2.2.1 (nI (tkT b z p)) (nI (tkS b z p)) v nb
              obtain ⟨y1, y2, y3, y4, g', d1, d2⟩ := s_mH (A := A) hbA hz hpz (H := H) (R := R) (N := N) hM.1 hM.2.1 hC.2.2.1 (nI (tkS b z p)) (nI (tkT b z p)) x4 x5 (A 8) h' m ab be
              rw [idA] at d1 d2
              cases hs : sq b z [(nI 1, nI 99)] (tkE b z p) with
              | inl f =>
                left
                obtain ⟨c3, c4⟩ := c1 f hs
                obtain ⟨d3, d4⟩ := d1 f hs
                subst c3 d3
                refine ⟨f, t', e', v', nb', y1, y3, y4, ud A 8 g', ?_, ?_, fun a _ _ a8 => ud_n a8⟩
                · simp only [SA, rw_56, HT_24, HT_28, if_pos cT', w0, if_true, if_pos (show nI 0 = 0 by decide), w1, if_pos (show nI 0 = 0 by decide), w2, w3, w4, if_neg (show ¬ nI 1 = 0 by decide), c4]
                · refine Eq.trans ?_ d4
                  simp only [SA, rw_165, HM_o, HMr, u1, if_pos (show nI 0 = 0 by decide), u2, u3, u4, if_neg (show ¬ nI 1 = 0 by decide)]
              | inr q =>
                right
                obtain ⟨c3, c4⟩ := c2 q hs
                obtain ⟨d3, T', W', d4, t1, t2, t3, t5⟩ := d2 q hs
                subst c3 d3
                obtain ⟨n0, _⟩ := sq_c hs
                have k0 := nb_hi hb2 (by decide) (by decide) n0
                rw [kn_n (by omega)] at c4
                have ql := sq_le _ _ hpz hs
                have hH := hC.2.2.1
                refine ⟨q, H + min (tkV b z (tkE b z p)) (9999 - H), R, N, hsn R N (min (tkV b z (tkE b z p)) (9999 - H)) H E, t', s', v', nb', y2, y3, y4, ud (ud (ud A 8 g') 1 T') 7 W', ?_, ?_, fun a a1 a7 a8 => ?_, fun c hc hc2 => ?_, ?_, by omega, ql.2⟩
                rotate_left
                · refine Eq.trans ?_ d4
                  simp only [SA, rw_165, HM_o, HMr, u1, if_pos (show nI 0 = 0 by decide), u2, u3, u4, if_neg (show ¬ nI 1 = 0 by decide)]
                · rw [ud_n a7, ud_n a1, ud_n a8]
                · rw [ud_n (by decide), ud_s]; exact t5 c (by omega) (by omega)
                · rw [ud_n (by decide), ud_s]
                  exact CO_hours hC (by omega) t1 t2 t3 t5
                · simp only [SA, rw_56, HT_24, HT_28, if_pos cT', w0, if_true, if_pos (show nI 0 = 0 by decide), w1, if_pos (show nI 0 = 0 by decide), w2, w3, w4, if_neg (show ¬ nI 1 = 0 by decide), c4, if_neg (show ¬ nI 1 = 0 by decide)]
            | false =>
              rw [q4] at w4 u4
              rw [bi_f (show ¬ (false = true) by decide)] at w4
              rw [bi_f f1] at u4
              left
              refine ⟨tkS b z p, nI (tkT b z p), nI (tkE b z p), v, nb, nI (tkE b z p), nI (tkT b z p), x4, A, ?_, ?_, fun _ _ _ _ => rfl⟩
              rotate_left
              · simp only [SA, rw_165, HM_o, HMr, u1, if_pos (show nI 0 = 0 by decide), u2, u3, u4]
              · simp only [SA, rw_56, HT_24, HT_28, if_pos cT', w0, if_true, if_pos (show nI 0 = 0 by decide), w1, if_pos (show nI 0 = 0 by decide), w2, w3, w4]
  · have cT' : ¬ nI (tkT b z p) = nI 1 := fun x => cT ((nI_eq (by unfold tkT; omega) (by decide)).mp x)
    left
    refine ⟨tkS b z p, nI (tkT b z p), nI (tkE b z p), v, nb, nI (tkE b z p), nI (tkT b z p), x4, A, ?_, fmod (fun j hj hj0 w => cT w.1), fun _ _ _ _ => rfl⟩
    simp only [SA, rw_56, HT_24, if_neg cT']
