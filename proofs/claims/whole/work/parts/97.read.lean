/-! ===== read, part ===== -/
theorem HT_HH (h : icH) (z : Nat) (t s e v : Int32) (nb : Nat → Int32) (Ht Rt Nt : Nat) (E : Nat → Nat → Int32) (H R N : Nat) (D : Nat → Nat → Int32) (F : Nat → Nat) (f : Nat → Nat → Int32) : HT (HH h 1 H R N D F f) z t s e v nb Ht Rt Nt E = HH (HT h z t s e v nb Ht Rt Nt E) 1 H R N D F f := by
  unfold HT
  rw [hp_HH (by omega), hp_HH (by omega), HE_HH (by omega)]
theorem HT_0 {h : icH} {ab be : Int64} (h0 : hg h 0 = some (xo ab be)) (z : Nat) (t s e v : Int32) (nb : Nat → Int32) (Ht Rt Nt : Nat) (E : Nat → Nat → Int32) (H R N : Nat) (D : Nat → Nat → Int32) (F : Nat → Nat) (f : Nat → Nat → Int32) : hg (HH (HT h z t s e v nb Ht Rt Nt E) 1 H R N D F f) 0 = some (ob 7 [.ref 1, .ref 22, .ref 23, .ref 24, .ref 27, .long ab, .long be, .ref 28, .ref 40, .ref 41, .ref 42, .ref 44, .ref 46]) := by
  unfold HT
  rw [HH_n (by omega), HE_n (by omega), hg_n (by decide), hg_n (by decide)]
  exact h0
theorem HT_take (h : icH) (z : Nat) (t s e v : Int32) (nb : Nat → Int32) (Ht Rt Nt : Nat) (E : Nat → Nat → Int32) (H R N : Nat) (D : Nat → Nat → Int32) (F : Nat → Nat) (f : Nat → Nat → Int32) : icE 4 0 [.ref (1 + 1), .ref 28] [] (HH (HT h z t s e v nb Ht Rt Nt E) 1 H R N D F f) = some (none, HH (HT h z t s e v nb Ht Rt Nt E) 1 Ht Rt Nt (tk D E) F f) := by
  have c := c_takeE (e := 1 + 1) (f := 28) (by omega) (HH (HT h z t s e v nb Ht Rt Nt E) 1 H R N D F f) H R N Ht Rt Nt D E
  rwa [HE_HH (by omega), HT_e, HH_E, HH_E] at c
theorem j_rd {h : icH} {ab be : Int64} {tb : Nat → Int32} {b : Nat → Nat} {z : Nat} (h0 : hg h 0 = some (xo ab be)) (h25 : hg h 25 = some (.inl (1, 150, tb))) (hb : ∀ k, k < z → tb k = nI (b k) ∧ b k < 128) (hz : z ≤ 150) {F : Nat → Nat} (hF : FOK F) {A : Nat → Nat → Int32} (hbA : ∀ k, k < z → A 5 k = nI (b k) ∧ b k < 128) (h' : icH) (m : Nat) (mab mbe : Int64) (Ht Rt Nt : Nat) (E : Nat → Nat → Int32) (t s e v : Int32) (nb : Nat → Int32) (H R N : Nat) (D : Nat → Nat → Int32) (f : Nat → Nat → Int32) (x1 x2 x3 x4 x5 : Int32) :
    (∃ q t' s' e' v' nb' H' R' N' E' y1 y2 y3 y4 y5 A', icE 76 0 [.ref 0, dum] [] (HH (HT h z t s e v nb Ht Rt Nt E) 1 H R N D F f) = some (some (.int q), HH (HT h z t' s' e' v' nb' H' R' N' E') 1 H R N D F f) ∧ icE 168 0 [.ref m] [] (HM h' m mab mbe (i6 (nI z) x1 x2 x3 x4 x5) A) = some (some (.int q), HM h' m mab mbe (i6 (nI z) y1 y2 y3 y4 y5) A') ∧ (∀ a, a ≠ 1 → a ≠ 7 → a ≠ 8 → a ≠ 9 → A' a = A a) ∧ (∀ c, c < 292 → A' 1 c = A 1 c))
    ∨ (∃ n H' R' N' E' t' s' e' v' nb' y1 y2 y3 y4 y5 A', icE 76 0 [.ref 0, dum] [] (HH (HT h z t s e v nb Ht Rt Nt E) 1 H R N D F f) = some (some (.int (nI n)), HH (HT h z t' s' e' v' nb' H' R' N' E') 1 H' R' N' (tk (ud D 1 (fil (D 1) (-1) 0 8)) E') (fun i => if i < 4 then 0 else F i) f) ∧ icE 168 0 [.ref m] [] (HM h' m mab mbe (i6 (nI z) x1 x2 x3 x4 x5) A) = some (some (.int (nI n)), HM h' m mab mbe (i6 (nI z) y1 y2 y3 y4 y5) A') ∧ (∀ a, a ≠ 1 → a ≠ 7 → a ≠ 8 → a ≠ 9 → A' a = A a) ∧ (∀ c, 56 ≤ c → c < 140 → A' 1 c = nI 0) ∧ CO H' R' N' E' (A' 1)) := by
  have cp := c_copies (a := m + 1) (b := m + 9) (na := 292) (nb := 292) (sp := 0) (dp := 0) (n := 292) (by omega) (by omega) (by omega) (by decide) (by decide) (HMr.1 h' m mab mbe (i6 (nI z) x1 x2 x3 x4 x5) A) (HMr.2.2.2.2.2.2.2.2.1 h' m mab mbe (i6 (nI z) x1 x2 x3 x4 x5) A)
  have w9 := HMw.2.2.2.2.2.2.2.2.1 h' m mab mbe (i6 (nI z) x1 x2 x3 x4 x5) A
  rw [w9] at cp
  have h25' : hg (HH h 1 H R N D F f) 25 = some (.inl (1, 150, tb)) := (HH_n (by omega)).trans h25
  have hbA' : ∀ k, k < z → ud A 9 (va_cpy (A 1) (A 9) 0 0 292) 5 k = nI (b k) ∧ b k < 128 := by rw [ud_n (by decide)]; exact hbA
  rcases j_read h25' hb hz hbA' h' m mab mbe Ht Rt Nt E t s e v nb x1 x2 x3 x4 x5 with ⟨q, t', e', v', nb', H', R', N', E', y1, y3, y4, y5, A', r1, r2, r3⟩ | ⟨n, H', R', N', E', t', s', e', v', nb', y1, y2, y3, y4, A', r1, r2, r3, r4, r5, r6⟩
  · left
    rw [HT_HH, HT_HH] at r1
    have e9 : A' 9 = va_cpy (A 1) (A 9) 0 0 292 := (r3 9 (by decide) (by decide) (by decide)).trans (ud_s _ _ _)
    have cp2 := c_copies (a := m + 9) (b := m + 1) (na := 292) (nb := 292) (sp := 0) (dp := 0) (n := 292) (by omega) (by omega) (by omega) (by decide) (by decide) (HMr.2.2.2.2.2.2.2.2.1 h' m mab mbe (i6 (nI z) y1 (nI q) y3 y4 y5) A') (HMr.1 h' m mab mbe (i6 (nI z) y1 (nI q) y3 y4 y5) A')
    have w1 := HMw.1 h' m mab mbe (i6 (nI z) y1 (nI q) y3 y4 y5) A'
    rw [w1] at cp2
    have g24 : hg (HH (HT h z t' (nI q) e' v' nb' H' R' N' E') 1 H R N D F f) 24 = some (ob 6 [.ref 25, .int (nI z), .int t', .int (nI q), .int e', .int v', .ref 26]) := (HH_n (by omega)).trans (HT_24 _ _ _ _ _ _ _ _ _ _ _)
    have g24' : hg (HH (HT h z t s e v nb Ht Rt Nt E) 1 H R N D F f) 24 = some (ob 6 [.ref 25, .int (nI z), .int t, .int s, .int e, .int v, .ref 26]) := (HH_n (by omega)).trans (HT_24 _ _ _ _ _ _ _ _ _ _ _)
    refine ⟨-10 - nI q, t', nI q, e', v', nb', H', R', N', E', y1, nI q, y3, y4, y5, ud A' 1 (va_cpy (A' 9) (A' 1) 0 0 292), ?_, ?_, fun a a1 a7 a8 a9 => ?_, fun c hc => ?_⟩
    · simp only [SA, rw_76, HT_0 h0, g24, g24', r1, if_true]
    · simp only [SA, rw_168, HM_o, cp, r2, if_pos (show nI 0 = 0 by decide), cp2, i6_2]
    · rw [ud_n a1, r3 a a1 a7 a8, ud_n a9]
    · rw [ud_s, pk_cpy_in (Nat.zero_le c) (by omega), e9, Nat.zero_add, Nat.sub_zero, pk_cpy_in (Nat.zero_le c) (by omega), Nat.zero_add, Nat.sub_zero]
  · right
    rw [HT_HH, HT_HH] at r1
    have g24' : hg (HH (HT h z t s e v nb Ht Rt Nt E) 1 H R N D F f) 24 = some (ob 6 [.ref 25, .int (nI z), .int t, .int s, .int e, .int v, .ref 26]) := (HH_n (by omega)).trans (HT_24 _ _ _ _ _ _ _ _ _ _ _)
    refine ⟨n, H', R', N', E', t', s', e', v', nb', y1, y2, y3, y4, nI n, A', ?_, ?_, fun a a1 a7 a8 a9 => ?_, r4, r5⟩
    · simp only [SA, rw_76, HT_0 h0, g24', r1, if_neg (m1_n (show n < 2 ^ 31 by omega)), HH_o, HHo1, c_hbegin hF, HT_take]
    · simp only [SA, rw_168, HM_o, cp, r2, if_neg (show ¬ nI 1 = 0 by decide), i6_5]
    · rw [r3 a a1 a7 a8, ud_n a9]
theorem lsw_107 (x : Int32) (L S : List Value) (h : icH) : exe icE 107 (e_lsw 1 37 #[(0, 27), (1, 32)] L (.int x :: S) h) = if x = 0 then icE 107 28 L S h else if x = nI 1 then icE 107 33 L S h else icE 107 38 L S h := by
  have hs : ((#[((0 : Int), (27 : Int)), (1, 32)].toList.zip (#[((0 : Int), (27 : Int)), (1, 32)].toList.drop 1)).all (fun (a, next) => a.1 < next.1)) = true := rfl
  unfold e_lsw
  dsimp only
  rw [if_pos hs]
  by_cases c0 : x = 0
  · subst c0
    rw [if_pos rfl]
    exact (congrArg (exe icE 107) (if_pos (by decide))).trans (u_go 107 28 L S h)
  · have i0 : ¬ (0 : Int) = x.toInt := fun w => c0 (Int32.toInt_inj.mp (w.symm.trans (show (0 : Int) = (0 : Int32).toInt by decide)))
    rw [if_neg c0]
    by_cases c1 : x = nI 1
    · subst c1
      rw [if_pos rfl]
      exact (congrArg (exe icE 107) (if_pos (by decide))).trans (u_go 107 33 L S h)
    · have i1 : ¬ (1 : Int) = x.toInt := fun w => c1 (Int32.toInt_inj.mp (w.symm.trans (show (1 : Int) = (nI 1).toInt by decide)))
      have e : Op.lookupswitch.offset #[((0 : Int), (27 : Int)), (1, 32)].toList 37 x.toInt = 37 := by
        show (if (0 : Int) = x.toInt then (27 : Int) else if (1 : Int) = x.toInt then 32 else 37) = 37
        rw [if_neg i0, if_neg i1]
      rw [if_neg c1, e]
      exact (congrArg (exe icE 107) (if_pos (by decide))).trans (u_go 107 38 L S h)
theorem x_part {h : icH} {ab be : Int64} (h0 : hg h 0 = some (xo ab be)) {k : Nat} (hk : k < 2) (H R N : Nat) (D : Nat → Nat → Int32) (F : Nat → Nat) (f : Nat → Nat → Int32) : icE 107 0 [.ref 0, .int (nI k)] [] (HH h 1 H R N D F f) = some (some (.long (if k = 0 then ab else be)), HH h 1 H R N D F f) := by
  have : k = 0 ∨ k = 1 := by omega
  rcases this with rfl | rfl
  · simp only [SA, rw_107, lsw_107, x0_H h0, if_pos (show nI 0 = 0 by decide), if_true]
  · simp only [SA, rw_107, lsw_107, x0_H h0, if_neg (show ¬ nI 1 = 0 by decide), if_true, if_neg (show ¬ (1 : Nat) = 0 by decide)]
theorem x_partB {h : icH} {ab be : Int64} {rf : Nat → Int32} (h0 : hg h 0 = some (xo ab be)) (h27 : hg h 27 = some (ai 3 rf)) {a : Int32} (ha : ¬ a = 0) (hb : ¬ a = nI 1) (H R N : Nat) (D : Nat → Nat → Int32) (F : Nat → Nat) (f : Nat → Nat → Int32) : icE 107 0 [.ref 0, .int a] [] (HH h 1 H R N D F f) = some (some (.long (-2 : Int32).toInt64), HH (rfz h rf 0) 1 H R N D F f) := by
  simp only [SA, rw_107, lsw_107, x0_H h0, if_neg ha, if_neg hb, c_bad h0 h27]
