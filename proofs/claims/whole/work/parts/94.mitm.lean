/-! ===== reading: items of the reference ===== -/
theorem m9 (x : Int32) : x - nI 9 = x + (-9) := by
  rw [Int32.sub_eq_add_neg]
  have : -(nI 9) = (-9 : Int32) := by decide
  rw [this]
theorem s_mW {A : Nat → Nat → Int32} {b : Nat → Nat} {z p : Nat} (hb : ∀ k, k < z → A 5 k = nI (b k) ∧ b k < 128) (hz : z ≤ 150) (hp : p ≤ z) (x2 x3 x4 x5 : Int32) (g : Nat → Int32) (h : icH) (m : Nat) (ab be : Int64) : ∃ y1 y2 y3 y4 g', (∀ f, sq b z [(nI 0, nI 7), (nI 0, nI 18)] p = .inl f → y2 = nI f ∧ icE 165 16 [.ref m] [] (HM h m ab be (i6 (nI z) (nI p) x2 x3 x4 x5) (ud A 8 g)) = some (some (.int (nI 0)), HM h m ab be (i6 (nI z) y1 y2 y3 y4 x5) (ud A 8 g'))) ∧ (∀ q, sq b z [(nI 0, nI 7), (nI 0, nI 18)] p = .inr q → y1 = nI q ∧ icE 165 16 [.ref m] [] (HM h m ab be (i6 (nI z) (nI p) x2 x3 x4 x5) (ud A 8 g)) = some (some (.int (nI 1)), HM h m ab be (i6 (nI z) y1 y2 y3 y4 x5) (ud (ud A 8 g') 1 (upd (A 1) (1 + tkV b z p) ((nI (tkV b z (pkk b z p 1))) + (-9)))))) := by
  obtain ⟨v0, a0, g0⟩ := c_mnum hb hz (p := p) hp (show 0 < 5 by decide) (nI 0) (nI 7) x2 x3 x4 x5 (g) h m ab be
  by_cases n0 : nbP b z p (nI 0) (nI 7)
  · have hp1 : pkk b z p 1 ≤ z := (tkE_le hp).2
    obtain ⟨v1, a1, g1⟩ := c_mnum hb hz (p := (pkk b z p 1)) hp1 (show 1 < 5 by decide) (nI 0) (nI 18) (nI (tkS b z p)) (nI (tkT b z p)) v0 x5 (upd (g) 0 v0) h m ab be
    change icE 163 0 _ _ (HM h m ab be (i6 (nI z) (nI (tkE b z p)) _ _ _ _) _) = _ at a1
    by_cases n1 : nbP b z (pkk b z p 1) (nI 0) (nI 18)
    · have hp2 : pkk b z p 2 ≤ z := (tkE_le hp1).2
      obtain ⟨vs, as⟩ := c_mends hb hz (p := (pkk b z p 2)) hp2 (nI (tkS b z (pkk b z p 1))) (nI (tkT b z (pkk b z p 1))) v1 x5 (upd (upd (g) 0 v0) 1 v1) h m ab be
      change icE 164 0 _ _ (HM h m ab be (i6 (nI z) (nI (tkE b z (pkk b z p 1))) _ _ _ _) _) = _ at as
      by_cases ns : tkT b z (pkk b z p 2) = 3
      · have qs : sq b z [(nI 0, nI 7), (nI 0, nI 18)] p = .inr (tkE b z (pkk b z p 2)) := (if_pos n0).trans ((if_pos n1).trans (if_pos ns))
        refine ⟨nI (tkE b z (pkk b z p 2)), nI (tkS b z (pkk b z p 2)), nI (tkT b z (pkk b z p 2)), vs, upd (upd (g) 0 v0) 1 v1, fun f w => ?_, fun q w => ?_⟩
        · rw [qs] at w
          cases w
        · rw [qs] at w
          cases w
          refine ⟨rfl, ?_⟩
          have u0 := g0 n0.1
          subst u0
          have u1 := g1 n1.1
          subst u1
          have k8 := nb_hi (fun k hk => (hb k hk).2) (by decide) (by decide) n0
          simp only [SA, rw_165, HM_o, HMr, HMw, a0, a1, as, if_neg (bi_10 n0), if_neg (bi_10 n1), if_neg (bi_10 ns), ud_s, ud_n (show (1 : Nat) ≠ 8 by decide), ia_n (show 0 < 5 by decide) (show 5 < 2 ^ 31 by decide), ia_n (show 1 < 5 by decide) (show 5 < 2 ^ 31 by decide), pk_us, pk_un (show (0 : Nat) ≠ 1 by decide), pk_un (show (1 : Nat) ≠ 0 by decide), nI_add, is_n (show 1 + tkV b z p < 292 by omega) (show 292 < 2 ^ 31 by decide), m9]
      · have qf : sq b z [(nI 0, nI 7), (nI 0, nI 18)] p = .inl (tkS b z (pkk b z p 2)) := (if_pos n0).trans ((if_pos n1).trans (if_neg ns))
        refine ⟨nI (tkE b z (pkk b z p 2)), nI (tkS b z (pkk b z p 2)), nI (tkT b z (pkk b z p 2)), vs, upd (upd (g) 0 v0) 1 v1, fun f w => ?_, fun q w => ?_⟩
        · rw [qf] at w
          cases w
          refine ⟨rfl, ?_⟩
          simp only [SA, rw_165, HM_o, a0, a1, as, if_neg (bi_10 n0), if_neg (bi_10 n1), if_pos (bi_00 ns)]
        · rw [qf] at w
          cases w
    · have qf : sq b z [(nI 0, nI 7), (nI 0, nI 18)] p = .inl (tkS b z (pkk b z p 1)) := (if_pos n0).trans (if_neg n1)
      refine ⟨nI (tkE b z (pkk b z p 1)), nI (tkS b z (pkk b z p 1)), nI (tkT b z (pkk b z p 1)), v1, upd (upd (g) 0 v0) 1 v1, fun f w => ?_, fun q w => ?_⟩
      · rw [qf] at w
        cases w
        refine ⟨rfl, ?_⟩
        simp only [SA, rw_165, HM_o, a0, a1, if_neg (bi_10 n0), if_pos (bi_00 n1)]
      · rw [qf] at w
        cases w
  · have qf : sq b z [(nI 0, nI 7), (nI 0, nI 18)] p = .inl (tkS b z p) := if_neg n0
    refine ⟨nI (tkE b z p), nI (tkS b z p), nI (tkT b z p), v0, upd (g) 0 v0, fun f w => ?_, fun q w => ?_⟩
    · rw [qf] at w
      cases w
      refine ⟨rfl, ?_⟩
      simp only [SA, rw_165, HM_o, a0, if_pos (bi_00 n0)]
    · rw [qf] at w
      cases w
theorem s_mR {A : Nat → Nat → Int32} {b : Nat → Nat} {z p : Nat} (hb : ∀ k, k < z → A 5 k = nI (b k) ∧ b k < 128) (hz : z ≤ 150) (hp : p ≤ z) {R : Nat} (hR : R < 3) (hA : A 1 9 = nI R) (x2 x3 x4 x5 : Int32) (g : Nat → Int32) (h : icH) (m : Nat) (ab be : Int64) : ∃ y1 y2 y3 y4 g', (∀ f, sq b z [(nI 0, nI 5), (nI 0, nI 9), (nI 0, nI 60)] p = .inl f → y2 = nI f ∧ icE 165 98 [.ref m] [] (HM h m ab be (i6 (nI z) (nI p) x2 x3 x4 x5) (ud A 8 g)) = some (some (.int (nI 0)), HM h m ab be (i6 (nI z) y1 y2 y3 y4 x5) (ud A 8 g'))) ∧ (∀ q, sq b z [(nI 0, nI 5), (nI 0, nI 9), (nI 0, nI 60)] p = .inr q → y1 = nI q ∧ icE 165 98 [.ref m] [] (HM h m ab be (i6 (nI z) (nI p) x2 x3 x4 x5) (ud A 8 g)) = some (some (.int (nI 1)), HM h m ab be (i6 (nI z) y1 y2 y3 y4 x5) (ud (ud A 8 g') 1 (upd (upd (upd (upd (upd (A 1) (11 + R) (nI (tkV b z p))) (14 + R) (nI (tkV b z (pkk b z p 1)))) (17 + R) (nI (tkV b z (pkk b z p 2)))) 9 (nI (R + 1))) 139 (nI 0))))) := by
  obtain ⟨v0, a0, g0⟩ := c_mnum hb hz (p := p) hp (show 0 < 5 by decide) (nI 0) (nI 5) x2 x3 x4 x5 (g) h m ab be
  by_cases n0 : nbP b z p (nI 0) (nI 5)
  · have hp1 : pkk b z p 1 ≤ z := (tkE_le hp).2
    obtain ⟨v1, a1, g1⟩ := c_mnum hb hz (p := (pkk b z p 1)) hp1 (show 1 < 5 by decide) (nI 0) (nI 9) (nI (tkS b z p)) (nI (tkT b z p)) v0 x5 (upd (g) 0 v0) h m ab be
    change icE 163 0 _ _ (HM h m ab be (i6 (nI z) (nI (tkE b z p)) _ _ _ _) _) = _ at a1
    by_cases n1 : nbP b z (pkk b z p 1) (nI 0) (nI 9)
    · have hp2 : pkk b z p 2 ≤ z := (tkE_le hp1).2
      obtain ⟨v2, a2, g2⟩ := c_mnum hb hz (p := (pkk b z p 2)) hp2 (show 2 < 5 by decide) (nI 0) (nI 60) (nI (tkS b z (pkk b z p 1))) (nI (tkT b z (pkk b z p 1))) v1 x5 (upd (upd (g) 0 v0) 1 v1) h m ab be
      change icE 163 0 _ _ (HM h m ab be (i6 (nI z) (nI (tkE b z (pkk b z p 1))) _ _ _ _) _) = _ at a2
      by_cases n2 : nbP b z (pkk b z p 2) (nI 0) (nI 60)
      · have hp3 : pkk b z p 3 ≤ z := (tkE_le hp2).2
        obtain ⟨vs, as⟩ := c_mends hb hz (p := (pkk b z p 3)) hp3 (nI (tkS b z (pkk b z p 2))) (nI (tkT b z (pkk b z p 2))) v2 x5 (upd (upd (upd (g) 0 v0) 1 v1) 2 v2) h m ab be
        change icE 164 0 _ _ (HM h m ab be (i6 (nI z) (nI (tkE b z (pkk b z p 2))) _ _ _ _) _) = _ at as
        by_cases ns : tkT b z (pkk b z p 3) = 3
        · have qs : sq b z [(nI 0, nI 5), (nI 0, nI 9), (nI 0, nI 60)] p = .inr (tkE b z (pkk b z p 3)) := (if_pos n0).trans ((if_pos n1).trans ((if_pos n2).trans (if_pos ns)))
          refine ⟨nI (tkE b z (pkk b z p 3)), nI (tkS b z (pkk b z p 3)), nI (tkT b z (pkk b z p 3)), vs, upd (upd (upd (g) 0 v0) 1 v1) 2 v2, fun f w => ?_, fun q w => ?_⟩
          · rw [qs] at w
            cases w
          · rw [qs] at w
            cases w
            refine ⟨rfl, ?_⟩
            have u0 := g0 n0.1
            subst u0
            have u1 := g1 n1.1
            subst u1
            have u2 := g2 n2.1
            subst u2
            have cr := c_maddRoof (A := ud A 8 (upd (upd (upd (g) 0 (nI (tkV b z p))) 1 (nI (tkV b z (pkk b z p 1)))) 2 (nI (tkV b z (pkk b z p 2))))) hR (by rw [ud_n (by decide)]; exact hA) (nI (tkV b z p)) (nI (tkV b z (pkk b z p 1))) (nI (tkV b z (pkk b z p 2))) h m ab be
            rw [ud_n (show (1 : Nat) ≠ 8 by decide)] at cr
            simp only [SA, rw_165, HM_o, HMr, HMw, a0, a1, a2, as, if_neg (bi_10 n0), if_neg (bi_10 n1), if_neg (bi_10 n2), if_neg (bi_10 ns), ud_s, ud_n (show (1 : Nat) ≠ 8 by decide), ia_n (show 0 < 5 by decide) (show 5 < 2 ^ 31 by decide), ia_n (show 1 < 5 by decide) (show 5 < 2 ^ 31 by decide), ia_n (show 2 < 5 by decide) (show 5 < 2 ^ 31 by decide), pk_us, pk_un (show (0 : Nat) ≠ 1 by decide), pk_un (show (0 : Nat) ≠ 2 by decide), pk_un (show (1 : Nat) ≠ 0 by decide), pk_un (show (1 : Nat) ≠ 2 by decide), pk_un (show (2 : Nat) ≠ 0 by decide), pk_un (show (2 : Nat) ≠ 1 by decide), cr]
        · have qf : sq b z [(nI 0, nI 5), (nI 0, nI 9), (nI 0, nI 60)] p = .inl (tkS b z (pkk b z p 3)) := (if_pos n0).trans ((if_pos n1).trans ((if_pos n2).trans (if_neg ns)))
          refine ⟨nI (tkE b z (pkk b z p 3)), nI (tkS b z (pkk b z p 3)), nI (tkT b z (pkk b z p 3)), vs, upd (upd (upd (g) 0 v0) 1 v1) 2 v2, fun f w => ?_, fun q w => ?_⟩
          · rw [qf] at w
            cases w
            refine ⟨rfl, ?_⟩
            simp only [SA, rw_165, HM_o, a0, a1, a2, as, if_neg (bi_10 n0), if_neg (bi_10 n1), if_neg (bi_10 n2), if_pos (bi_00 ns)]
          · rw [qf] at w
            cases w
      · have qf : sq b z [(nI 0, nI 5), (nI 0, nI 9), (nI 0, nI 60)] p = .inl (tkS b z (pkk b z p 2)) := (if_pos n0).trans ((if_pos n1).trans (if_neg n2))
        refine ⟨nI (tkE b z (pkk b z p 2)), nI (tkS b z (pkk b z p 2)), nI (tkT b z (pkk b z p 2)), v2, upd (upd (upd (g) 0 v0) 1 v1) 2 v2, fun f w => ?_, fun q w => ?_⟩
        · rw [qf] at w
          cases w
          refine ⟨rfl, ?_⟩
          simp only [SA, rw_165, HM_o, a0, a1, a2, if_neg (bi_10 n0), if_neg (bi_10 n1), if_pos (bi_00 n2)]
        · rw [qf] at w
          cases w
    · have qf : sq b z [(nI 0, nI 5), (nI 0, nI 9), (nI 0, nI 60)] p = .inl (tkS b z (pkk b z p 1)) := (if_pos n0).trans (if_neg n1)
      refine ⟨nI (tkE b z (pkk b z p 1)), nI (tkS b z (pkk b z p 1)), nI (tkT b z (pkk b z p 1)), v1, upd (upd (g) 0 v0) 1 v1, fun f w => ?_, fun q w => ?_⟩
      · rw [qf] at w
        cases w
        refine ⟨rfl, ?_⟩
        simp only [SA, rw_165, HM_o, a0, a1, if_neg (bi_10 n0), if_pos (bi_00 n1)]
      · rw [qf] at w
        cases w
  · have qf : sq b z [(nI 0, nI 5), (nI 0, nI 9), (nI 0, nI 60)] p = .inl (tkS b z p) := if_neg n0
    refine ⟨nI (tkE b z p), nI (tkS b z p), nI (tkT b z p), v0, upd (g) 0 v0, fun f w => ?_, fun q w => ?_⟩
    · rw [qf] at w
      cases w
      refine ⟨rfl, ?_⟩
      simp only [SA, rw_165, HM_o, a0, if_pos (bi_00 n0)]
    · rw [qf] at w
      cases w
theorem s_mI {A : Nat → Nat → Int32} {b : Nat → Nat} {z p : Nat} (hb : ∀ k, k < z → A 5 k = nI (b k) ∧ b k < 128) (hz : z ≤ 150) (hp : p ≤ z) {R N : Nat} (hN : N < 6) (h9 : A 1 9 = nI R) (hA : A 1 10 = nI N) (x2 x3 x4 x5 : Int32) (g : Nat → Int32) (h : icH) (m : Nat) (ab be : Int64) : ∃ y1 y2 y3 y4 g', (∀ f, sq b z [(nI 0, nI R - nI 1), (nI 0, nI 5), (nI 0, nI 7), (nI 1, nI 30), (nI 1, nI 40)] p = .inl f → y2 = nI f ∧ icE 165 190 [.ref m] [] (HM h m ab be (i6 (nI z) (nI p) x2 x3 x4 x5) (ud A 8 g)) = some (some (.int (nI 0)), HM h m ab be (i6 (nI z) y1 y2 y3 y4 x5) (ud A 8 g'))) ∧ (∀ q, sq b z [(nI 0, nI R - nI 1), (nI 0, nI 5), (nI 0, nI 7), (nI 1, nI 30), (nI 1, nI 40)] p = .inr q → y1 = nI q ∧ icE 165 190 [.ref m] [] (HM h m ab be (i6 (nI z) (nI p) x2 x3 x4 x5) (ud A 8 g)) = some (some (.int (nI 1)), HM h m ab be (i6 (nI z) y1 y2 y3 y4 x5) (ud (ud A 8 g') 1 (upd (upd (upd (upd (upd (upd (upd (upd (A 1) (20 + N) (nI (tkV b z p))) (26 + N) (nI (tkV b z (pkk b z p 1)))) (32 + N) (nI (tkV b z (pkk b z p 2)))) (38 + N) (nI (tkV b z (pkk b z p 3)))) (44 + N) (nI (tkV b z (pkk b z p 4)))) (50 + N) (nI 0)) 10 (nI (N + 1))) 139 (nI 0))))) := by
  obtain ⟨v0, a0, g0⟩ := c_mnum hb hz (p := p) hp (show 0 < 5 by decide) (nI 0) (nI R - nI 1) x2 x3 x4 x5 (g) h m ab be
  by_cases n0 : nbP b z p (nI 0) (nI R - nI 1)
  · have hp1 : pkk b z p 1 ≤ z := (tkE_le hp).2
    obtain ⟨v1, a1, g1⟩ := c_mnum hb hz (p := (pkk b z p 1)) hp1 (show 1 < 5 by decide) (nI 0) (nI 5) (nI (tkS b z p)) (nI (tkT b z p)) v0 x5 (upd (g) 0 v0) h m ab be
    change icE 163 0 _ _ (HM h m ab be (i6 (nI z) (nI (tkE b z p)) _ _ _ _) _) = _ at a1
    by_cases n1 : nbP b z (pkk b z p 1) (nI 0) (nI 5)
    · have hp2 : pkk b z p 2 ≤ z := (tkE_le hp1).2
      obtain ⟨v2, a2, g2⟩ := c_mnum hb hz (p := (pkk b z p 2)) hp2 (show 2 < 5 by decide) (nI 0) (nI 7) (nI (tkS b z (pkk b z p 1))) (nI (tkT b z (pkk b z p 1))) v1 x5 (upd (upd (g) 0 v0) 1 v1) h m ab be
      change icE 163 0 _ _ (HM h m ab be (i6 (nI z) (nI (tkE b z (pkk b z p 1))) _ _ _ _) _) = _ at a2
      by_cases n2 : nbP b z (pkk b z p 2) (nI 0) (nI 7)
      · have hp3 : pkk b z p 3 ≤ z := (tkE_le hp2).2
        obtain ⟨v3, a3, g3⟩ := c_mnum hb hz (p := (pkk b z p 3)) hp3 (show 3 < 5 by decide) (nI 1) (nI 30) (nI (tkS b z (pkk b z p 2))) (nI (tkT b z (pkk b z p 2))) v2 x5 (upd (upd (upd (g) 0 v0) 1 v1) 2 v2) h m ab be
        change icE 163 0 _ _ (HM h m ab be (i6 (nI z) (nI (tkE b z (pkk b z p 2))) _ _ _ _) _) = _ at a3
        by_cases n3 : nbP b z (pkk b z p 3) (nI 1) (nI 30)
        · have hp4 : pkk b z p 4 ≤ z := (tkE_le hp3).2
          obtain ⟨v4, a4, g4⟩ := c_mnum hb hz (p := (pkk b z p 4)) hp4 (show 4 < 5 by decide) (nI 1) (nI 40) (nI (tkS b z (pkk b z p 3))) (nI (tkT b z (pkk b z p 3))) v3 x5 (upd (upd (upd (upd (g) 0 v0) 1 v1) 2 v2) 3 v3) h m ab be
          change icE 163 0 _ _ (HM h m ab be (i6 (nI z) (nI (tkE b z (pkk b z p 3))) _ _ _ _) _) = _ at a4
          by_cases n4 : nbP b z (pkk b z p 4) (nI 1) (nI 40)
          · have hp5 : pkk b z p 5 ≤ z := (tkE_le hp4).2
            obtain ⟨vs, as⟩ := c_mends hb hz (p := (pkk b z p 5)) hp5 (nI (tkS b z (pkk b z p 4))) (nI (tkT b z (pkk b z p 4))) v4 x5 (upd (upd (upd (upd (upd (g) 0 v0) 1 v1) 2 v2) 3 v3) 4 v4) h m ab be
            change icE 164 0 _ _ (HM h m ab be (i6 (nI z) (nI (tkE b z (pkk b z p 4))) _ _ _ _) _) = _ at as
            by_cases ns : tkT b z (pkk b z p 5) = 3
            · have qs : sq b z [(nI 0, nI R - nI 1), (nI 0, nI 5), (nI 0, nI 7), (nI 1, nI 30), (nI 1, nI 40)] p = .inr (tkE b z (pkk b z p 5)) := (if_pos n0).trans ((if_pos n1).trans ((if_pos n2).trans ((if_pos n3).trans ((if_pos n4).trans (if_pos ns)))))
              refine ⟨nI (tkE b z (pkk b z p 5)), nI (tkS b z (pkk b z p 5)), nI (tkT b z (pkk b z p 5)), vs, upd (upd (upd (upd (upd (g) 0 v0) 1 v1) 2 v2) 3 v3) 4 v4, fun f w => ?_, fun q w => ?_⟩
              · rw [qs] at w
                cases w
              · rw [qs] at w
                cases w
                refine ⟨rfl, ?_⟩
                have u0 := g0 n0.1
                subst u0
                have u1 := g1 n1.1
                subst u1
                have u2 := g2 n2.1
                subst u2
                have u3 := g3 n3.1
                subst u3
                have u4 := g4 n4.1
                subst u4
                have cr := c_maddIce (A := ud A 8 (upd (upd (upd (upd (upd (g) 0 (nI (tkV b z p))) 1 (nI (tkV b z (pkk b z p 1)))) 2 (nI (tkV b z (pkk b z p 2)))) 3 (nI (tkV b z (pkk b z p 3)))) 4 (nI (tkV b z (pkk b z p 4))))) hN (by rw [ud_n (by decide)]; exact hA) (nI (tkV b z p)) (nI (tkV b z (pkk b z p 1))) (nI (tkV b z (pkk b z p 2))) (nI (tkV b z (pkk b z p 3))) (nI (tkV b z (pkk b z p 4))) h m ab be
                rw [ud_n (show (1 : Nat) ≠ 8 by decide)] at cr
                simp only [SA, rw_165, HM_o, HMr, HMw, a0, a1, a2, a3, a4, as, if_neg (bi_10 n0), if_neg (bi_10 n1), if_neg (bi_10 n2), if_neg (bi_10 n3), if_neg (bi_10 n4), if_neg (bi_10 ns), ud_s, ud_n (show (1 : Nat) ≠ 8 by decide), ia_n (show 0 < 5 by decide) (show 5 < 2 ^ 31 by decide), ia_n (show 1 < 5 by decide) (show 5 < 2 ^ 31 by decide), ia_n (show 2 < 5 by decide) (show 5 < 2 ^ 31 by decide), ia_n (show 3 < 5 by decide) (show 5 < 2 ^ 31 by decide), ia_n (show 4 < 5 by decide) (show 5 < 2 ^ 31 by decide), pk_us, pk_un (show (0 : Nat) ≠ 1 by decide), pk_un (show (0 : Nat) ≠ 2 by decide), pk_un (show (0 : Nat) ≠ 3 by decide), pk_un (show (0 : Nat) ≠ 4 by decide), pk_un (show (1 : Nat) ≠ 0 by decide), pk_un (show (1 : Nat) ≠ 2 by decide), pk_un (show (1 : Nat) ≠ 3 by decide), pk_un (show (1 : Nat) ≠ 4 by decide), pk_un (show (2 : Nat) ≠ 0 by decide), pk_un (show (2 : Nat) ≠ 1 by decide), pk_un (show (2 : Nat) ≠ 3 by decide), pk_un (show (2 : Nat) ≠ 4 by decide), pk_un (show (3 : Nat) ≠ 0 by decide), pk_un (show (3 : Nat) ≠ 1 by decide), pk_un (show (3 : Nat) ≠ 2 by decide), pk_un (show (3 : Nat) ≠ 4 by decide), pk_un (show (4 : Nat) ≠ 0 by decide), pk_un (show (4 : Nat) ≠ 1 by decide), pk_un (show (4 : Nat) ≠ 2 by decide), pk_un (show (4 : Nat) ≠ 3 by decide), ia_n (show 9 < 292 by decide) (show 292 < 2 ^ 31 by decide), h9, cr]
            · have qf : sq b z [(nI 0, nI R - nI 1), (nI 0, nI 5), (nI 0, nI 7), (nI 1, nI 30), (nI 1, nI 40)] p = .inl (tkS b z (pkk b z p 5)) := (if_pos n0).trans ((if_pos n1).trans ((if_pos n2).trans ((if_pos n3).trans ((if_pos n4).trans (if_neg ns)))))
              refine ⟨nI (tkE b z (pkk b z p 5)), nI (tkS b z (pkk b z p 5)), nI (tkT b z (pkk b z p 5)), vs, upd (upd (upd (upd (upd (g) 0 v0) 1 v1) 2 v2) 3 v3) 4 v4, fun f w => ?_, fun q w => ?_⟩
              · rw [qf] at w
                cases w
                refine ⟨rfl, ?_⟩
                simp only [SA, rw_165, HM_o, HMr, ud_n (show (1 : Nat) ≠ 8 by decide), ia_n (show 9 < 292 by decide) (show 292 < 2 ^ 31 by decide), h9, a0, a1, a2, a3, a4, as, if_neg (bi_10 n0), if_neg (bi_10 n1), if_neg (bi_10 n2), if_neg (bi_10 n3), if_neg (bi_10 n4), if_pos (bi_00 ns)]
              · rw [qf] at w
                cases w
          · have qf : sq b z [(nI 0, nI R - nI 1), (nI 0, nI 5), (nI 0, nI 7), (nI 1, nI 30), (nI 1, nI 40)] p = .inl (tkS b z (pkk b z p 4)) := (if_pos n0).trans ((if_pos n1).trans ((if_pos n2).trans ((if_pos n3).trans (if_neg n4))))
            refine ⟨nI (tkE b z (pkk b z p 4)), nI (tkS b z (pkk b z p 4)), nI (tkT b z (pkk b z p 4)), v4, upd (upd (upd (upd (upd (g) 0 v0) 1 v1) 2 v2) 3 v3) 4 v4, fun f w => ?_, fun q w => ?_⟩
            · rw [qf] at w
              cases w
              refine ⟨rfl, ?_⟩
              simp only [SA, rw_165, HM_o, HMr, ud_n (show (1 : Nat) ≠ 8 by decide), ia_n (show 9 < 292 by decide) (show 292 < 2 ^ 31 by decide), h9, a0, a1, a2, a3, a4, if_neg (bi_10 n0), if_neg (bi_10 n1), if_neg (bi_10 n2), if_neg (bi_10 n3), if_pos (bi_00 n4)]
            · rw [qf] at w
              cases w
        · have qf : sq b z [(nI 0, nI R - nI 1), (nI 0, nI 5), (nI 0, nI 7), (nI 1, nI 30), (nI 1, nI 40)] p = .inl (tkS b z (pkk b z p 3)) := (if_pos n0).trans ((if_pos n1).trans ((if_pos n2).trans (if_neg n3)))
          refine ⟨nI (tkE b z (pkk b z p 3)), nI (tkS b z (pkk b z p 3)), nI (tkT b z (pkk b z p 3)), v3, upd (upd (upd (upd (g) 0 v0) 1 v1) 2 v2) 3 v3, fun f w => ?_, fun q w => ?_⟩
          · rw [qf] at w
            cases w
            refine ⟨rfl, ?_⟩
            simp only [SA, rw_165, HM_o, HMr, ud_n (show (1 : Nat) ≠ 8 by decide), ia_n (show 9 < 292 by decide) (show 292 < 2 ^ 31 by decide), h9, a0, a1, a2, a3, if_neg (bi_10 n0), if_neg (bi_10 n1), if_neg (bi_10 n2), if_pos (bi_00 n3)]
          · rw [qf] at w
            cases w
      · have qf : sq b z [(nI 0, nI R - nI 1), (nI 0, nI 5), (nI 0, nI 7), (nI 1, nI 30), (nI 1, nI 40)] p = .inl (tkS b z (pkk b z p 2)) := (if_pos n0).trans ((if_pos n1).trans (if_neg n2))
        refine ⟨nI (tkE b z (pkk b z p 2)), nI (tkS b z (pkk b z p 2)), nI (tkT b z (pkk b z p 2)), v2, upd (upd (upd (g) 0 v0) 1 v1) 2 v2, fun f w => ?_, fun q w => ?_⟩
        · rw [qf] at w
          cases w
          refine ⟨rfl, ?_⟩
          simp only [SA, rw_165, HM_o, HMr, ud_n (show (1 : Nat) ≠ 8 by decide), ia_n (show 9 < 292 by decide) (show 292 < 2 ^ 31 by decide), h9, a0, a1, a2, if_neg (bi_10 n0), if_neg (bi_10 n1), if_pos (bi_00 n2)]
        · rw [qf] at w
          cases w
    · have qf : sq b z [(nI 0, nI R - nI 1), (nI 0, nI 5), (nI 0, nI 7), (nI 1, nI 30), (nI 1, nI 40)] p = .inl (tkS b z (pkk b z p 1)) := (if_pos n0).trans (if_neg n1)
      refine ⟨nI (tkE b z (pkk b z p 1)), nI (tkS b z (pkk b z p 1)), nI (tkT b z (pkk b z p 1)), v1, upd (upd (g) 0 v0) 1 v1, fun f w => ?_, fun q w => ?_⟩
      · rw [qf] at w
        cases w
        refine ⟨rfl, ?_⟩
        simp only [SA, rw_165, HM_o, HMr, ud_n (show (1 : Nat) ≠ 8 by decide), ia_n (show 9 < 292 by decide) (show 292 < 2 ^ 31 by decide), h9, a0, a1, if_neg (bi_10 n0), if_pos (bi_00 n1)]
      · rw [qf] at w
        cases w
  · have qf : sq b z [(nI 0, nI R - nI 1), (nI 0, nI 5), (nI 0, nI 7), (nI 1, nI 30), (nI 1, nI 40)] p = .inl (tkS b z p) := if_neg n0
    refine ⟨nI (tkE b z p), nI (tkS b z p), nI (tkT b z p), v0, upd (g) 0 v0, fun f w => ?_, fun q w => ?_⟩
    · rw [qf] at w
      cases w
      refine ⟨rfl, ?_⟩
      simp only [SA, rw_165, HM_o, HMr, ud_n (show (1 : Nat) ≠ 8 by decide), ia_n (show 9 < 292 by decide) (show 292 < 2 ^ 31 by decide), h9, a0, if_pos (bi_00 n0)]
    · rw [qf] at w
      cases w
theorem s_mH {A : Nat → Nat → Int32} {b : Nat → Nat} {z p : Nat} (hb : ∀ k, k < z → A 5 k = nI (b k) ∧ b k < 128) (hz : z ≤ 150) (hp : p ≤ z) {H R N : Nat} (hT : TOK R N (A 1)) (h0 : A 1 0 = nI H) (hH : H ≤ 9999) (x2 x3 x4 x5 : Int32) (g : Nat → Int32) (h : icH) (m : Nat) (ab be : Int64) : ∃ y1 y2 y3 y4 g', (∀ f, sq b z [(nI 1, nI 99)] p = .inl f → y2 = nI f ∧ icE 165 313 [.ref m] [] (HM h m ab be (i6 (nI z) (nI p) x2 x3 x4 x5) (ud A 8 g)) = some (some (.int (nI 0)), HM h m ab be (i6 (nI z) y1 y2 y3 y4 x5) (ud A 8 g'))) ∧ (∀ q, sq b z [(nI 1, nI 99)] p = .inr q → y1 = nI q ∧ ∃ T' W', icE 165 313 [.ref m] [] (HM h m ab be (i6 (nI z) (nI p) x2 x3 x4 x5) (ud A 8 g)) = some (some (.int (nI 1)), HM h m ab be (i6 (nI z) y1 y2 y3 y4 x5) (ud (ud (ud A 8 g') 1 T') 7 W')) ∧ TOK R N T' ∧ T' 0 = nI (H + min (tkV b z p) (9999 - H)) ∧ (∀ V V', ERl R N (vw T' V) (hsn R N (min (tkV b z p) (9999 - H)) H (vw (A 1) V'))) ∧ (∀ c, 0 < c → (c < 17 ∨ (17 + R ≤ c ∧ c < 38) ∨ (44 ≤ c ∧ c < 50) ∨ 56 ≤ c) → T' c = A 1 c)) := by
  obtain ⟨v0, a0, g0⟩ := c_mnum hb hz (p := p) hp (show 0 < 5 by decide) (nI 1) (nI 99) x2 x3 x4 x5 (g) h m ab be
  by_cases n0 : nbP b z p (nI 1) (nI 99)
  · have hp1 : pkk b z p 1 ≤ z := (tkE_le hp).2
    obtain ⟨vs, as⟩ := c_mends hb hz (p := (pkk b z p 1)) hp1 (nI (tkS b z p)) (nI (tkT b z p)) v0 x5 (upd (g) 0 v0) h m ab be
    change icE 164 0 _ _ (HM h m ab be (i6 (nI z) (nI (tkE b z p)) _ _ _ _) _) = _ at as
    by_cases ns : tkT b z (pkk b z p 1) = 3
    · have qs : sq b z [(nI 1, nI 99)] p = .inr (tkE b z (pkk b z p 1)) := (if_pos n0).trans (if_pos ns)
      refine ⟨nI (tkE b z (pkk b z p 1)), nI (tkS b z (pkk b z p 1)), nI (tkT b z (pkk b z p 1)), vs, upd (g) 0 v0, fun f w => ?_, fun q w => ?_⟩
      · rw [qs] at w
        cases w
      · rw [qs] at w
        cases w
        refine ⟨rfl, ?_⟩
        have u0 := g0 n0.1
        subst u0
        have k8 := nb_hi (fun k hk => (hb k hk).2) (by decide) (by decide) n0
        obtain ⟨T', W', z1, z2⟩ := c_mgoes (A := ud A 8 (upd g 0 (nI (tkV b z p)))) (n := tkV b z p) (by omega) h m ab be (i6 (nI z) (nI (tkE b z (pkk b z p 1))) (nI (tkS b z (pkk b z p 1))) (nI (tkT b z (pkk b z p 1))) vs x5) (by rw [ud_n (by decide)]; exact hT) (by rw [ud_n (by decide)]; exact h0) hH
        rw [ud_n (show (1 : Nat) ≠ 8 by decide)] at z2
        refine ⟨T', W', ?_, z2⟩
        simp only [SA, rw_165, HM_o, HMr, HMw, a0, as, if_neg (bi_10 n0), if_neg (bi_10 ns), ud_s, ud_n (show (1 : Nat) ≠ 8 by decide), ia_n (show 0 < 5 by decide) (show 5 < 2 ^ 31 by decide), pk_us, z1]
    · have qf : sq b z [(nI 1, nI 99)] p = .inl (tkS b z (pkk b z p 1)) := (if_pos n0).trans (if_neg ns)
      refine ⟨nI (tkE b z (pkk b z p 1)), nI (tkS b z (pkk b z p 1)), nI (tkT b z (pkk b z p 1)), vs, upd (g) 0 v0, fun f w => ?_, fun q w => ?_⟩
      · rw [qf] at w
        cases w
        refine ⟨rfl, ?_⟩
        simp only [SA, rw_165, HM_o, a0, as, if_neg (bi_10 n0), if_pos (bi_00 ns)]
      · rw [qf] at w
        cases w
  · have qf : sq b z [(nI 1, nI 99)] p = .inl (tkS b z p) := if_neg n0
    refine ⟨nI (tkE b z p), nI (tkS b z p), nI (tkT b z p), v0, upd (g) 0 v0, fun f w => ?_, fun q w => ?_⟩
    · rw [qf] at w
      cases w
      refine ⟨rfl, ?_⟩
      simp only [SA, rw_165, HM_o, a0, if_pos (bi_00 n0)]
    · rw [qf] at w
      cases w
theorem s_mHo {A : Nat → Nat → Int32} {b : Nat → Nat} {z p : Nat} (hb : ∀ k, k < z → A 5 k = nI (b k) ∧ b k < 128) (hz : z ≤ 150) (hp : p ≤ z) (x2 x3 x4 x5 : Int32) (g : Nat → Int32) (h : icH) (m : Nat) (ab be : Int64) : ∃ y1 y2 y3 y4 g', (∀ f, sq b z [(nI 0, nI 18)] p = .inl f → y2 = nI f ∧ icE 167 31 [.ref m] [] (HM h m ab be (i6 (nI z) (nI p) x2 x3 x4 x5) (ud A 8 g)) = some (some (.int (nI 0)), HM h m ab be (i6 (nI z) y1 y2 y3 y4 x5) (ud A 8 g'))) ∧ (∀ q, sq b z [(nI 0, nI 18)] p = .inr q → y1 = nI q ∧ g' 0 = (nI (tkV b z p)) ∧ icE 167 31 [.ref m] [] (HM h m ab be (i6 (nI z) (nI p) x2 x3 x4 x5) (ud A 8 g)) = icE 167 51 [.ref m] [] (HM h m ab be (i6 (nI z) y1 y2 y3 y4 x5) (ud A 8 g'))) := by
  obtain ⟨v0, a0, g0⟩ := c_mnum hb hz (p := p) hp (show 0 < 5 by decide) (nI 0) (nI 18) x2 x3 x4 x5 (g) h m ab be
  by_cases n0 : nbP b z p (nI 0) (nI 18)
  · have hp1 : pkk b z p 1 ≤ z := (tkE_le hp).2
    obtain ⟨vs, as⟩ := c_mends hb hz (p := (pkk b z p 1)) hp1 (nI (tkS b z p)) (nI (tkT b z p)) v0 x5 (upd (g) 0 v0) h m ab be
    change icE 164 0 _ _ (HM h m ab be (i6 (nI z) (nI (tkE b z p)) _ _ _ _) _) = _ at as
    by_cases ns : tkT b z (pkk b z p 1) = 3
    · have qs : sq b z [(nI 0, nI 18)] p = .inr (tkE b z (pkk b z p 1)) := (if_pos n0).trans (if_pos ns)
      refine ⟨nI (tkE b z (pkk b z p 1)), nI (tkS b z (pkk b z p 1)), nI (tkT b z (pkk b z p 1)), vs, upd (g) 0 v0, fun f w => ?_, fun q w => ?_⟩
      · rw [qs] at w
        cases w
      · rw [qs] at w
        cases w
        refine ⟨rfl, ?_⟩
        have u0 := g0 n0.1
        subst u0
        refine ⟨pk_us, ?_⟩
        refine Eq.trans (b := icE 167 51 _ _ _) ?_ rfl
        simp only [SA, rw_167, HM_o, a0, as, if_neg (bi_10 n0), if_neg (bi_10 ns)]
    · have qf : sq b z [(nI 0, nI 18)] p = .inl (tkS b z (pkk b z p 1)) := (if_pos n0).trans (if_neg ns)
      refine ⟨nI (tkE b z (pkk b z p 1)), nI (tkS b z (pkk b z p 1)), nI (tkT b z (pkk b z p 1)), vs, upd (g) 0 v0, fun f w => ?_, fun q w => ?_⟩
      · rw [qf] at w
        cases w
        refine ⟨rfl, ?_⟩
        simp only [SA, rw_167, HM_o, a0, as, if_neg (bi_10 n0), if_pos (bi_00 ns)]
      · rw [qf] at w
        cases w
  · have qf : sq b z [(nI 0, nI 18)] p = .inl (tkS b z p) := if_neg n0
    refine ⟨nI (tkE b z p), nI (tkS b z p), nI (tkT b z p), v0, upd (g) 0 v0, fun f w => ?_, fun q w => ?_⟩
    · rw [qf] at w
      cases w
      refine ⟨rfl, ?_⟩
      simp only [SA, rw_167, HM_o, a0, if_pos (bi_00 n0)]
    · rw [qf] at w
      cases w
