/-! ===== both sides: most, the guesses, odds ===== -/
theorem K_of {a : Int32} {n : Nat} (h1 : -1 ≤ a) (h2 : a < nI n) (hn : n < 2 ^ 31) : ∃ k, k ≤ n ∧ a = bv k := by
  rw [Int32.le_iff_toInt_le] at h1
  rw [Int32.lt_iff_toInt_lt, nI_toInt hn] at h2
  have e : (-1 : Int32).toInt = -1 := by decide
  rw [e] at h1
  by_cases q : a.toInt = -1
  · exact ⟨0, by omega, (Int32.toInt_inj.mp (q.trans e.symm)).trans (if_pos rfl).symm⟩
  · have p : 0 ≤ a := by rw [Int32.le_iff_toInt_le]; show (0 : Int) ≤ a.toInt; omega
    obtain ⟨j, hj, rfl⟩ := N_of p
    rw [nI_toInt hj] at h2
    exact ⟨j + 1, by omega, ((if_neg (by omega)).trans (by rw [Nat.add_sub_cancel])).symm⟩
theorem st_most {L c1 c2 : Nat} {xs : Nat → Int32} {X : icH} (I : INV L xs c1 c2 X) (a0 a1 : Int32) : STi L xs c1 c2 93 191 [.int a0, .int a1, dum, dum, dum, dum, dum] [.int a0, .int a1, dum, dum, dum, dum] X := by
  obtain ⟨ab, be, ii, A, H, R, N, D, F, f, i⟩ := I
  have h0 := i.1.1
  have c := i.1.2.2.1.1
  have hH := c.2.2.1
  by_cases hw : (nI 1 ≤ a0 ∧ a0 ≤ nI 4) ∧ -1 ≤ a1
  · obtain ⟨n, n1, n2, rfl⟩ := W_of (by decide) (by decide) hw.1
    by_cases q : a1 < nI n
    · obtain ⟨k, hk, rfl⟩ := K_of hw.2 q (by omega)
      exact S_len i (fun le fa Ht Rt Nt E => x_most h0 c.2.1 (CO_W c) hH n1 n2 k hk le fa Ht Rt Nt E F f) (fun Y => m_most c.1 c.2.1 c.2.2.2.2.2.1 hH n1 n2 k hk Y 90 ab be ii)
    · exact S_same i (x_mostF n1 n2 hw.2 q) (fun Y => m_mostF n1 n2 hw.2 q 90 _)
  · exact S_ref 0 (by decide) i (fun rf h27 => x_mostB h0 h27 hw H R N D F f) (fun Y => m_mostB hw Y 90 ab be ii)
theorem CO_z0 {H R N : Nat} {D : Nat → Nat → Int32} {T : Nat → Int32} (h : CO H R N D T) : CO 0 R N D (upd T 0 (nI 0)) := by
  have c := CO_t h
  obtain ⟨⟨⟨h9, h10, hR, hN, hkk, hs, hki, hro⟩, h0, _⟩, _, hH, hw, h8, hl, hz⟩ := h
  have n : ∀ q, q ≠ 0 → upd T 0 (nI 0) q = T q := fun q hq => pk_un hq
  refine CO_mk ⟨?_, ?_, hR, hN, fun q hq => ?_, fun q hq => ?_, fun q hq => ?_, fun q hq => ?_⟩ pk_us (by omega) ⟨fun k hk => ?_, fun q hq => ⟨?_, ?_, ?_⟩, fun i hi => ⟨?_, ?_, ?_, ?_, ?_, ?_⟩⟩ hw h8 hl (fun q h1 h2 => ?_)
  · rw [n _ (by omega)]; exact h9
  · rw [n _ (by omega)]; exact h10
  · rw [n _ (by omega)]; exact hkk q hq
  · rw [n _ (by omega)]; exact hs q hq
  · rw [n _ (by omega)]; exact hki q hq
  · rw [n _ (by omega)]; exact hro q hq
  · rw [n _ (by omega)]; exact c.1 k hk
  · rw [n _ (by omega)]; exact (c.2.1 q hq).1
  · rw [n _ (by omega)]; exact (c.2.1 q hq).2.1
  · rw [n _ (by omega)]; exact (c.2.1 q hq).2.2
  · rw [n _ (by omega)]; exact (c.2.2 i hi).1
  · rw [n _ (by omega)]; exact (c.2.2 i hi).2.1
  · rw [n _ (by omega)]; exact (c.2.2 i hi).2.2.1
  · rw [n _ (by omega)]; exact (c.2.2 i hi).2.2.2.1
  · rw [n _ (by omega)]; exact (c.2.2 i hi).2.2.2.2.1
  · rw [n _ (by omega)]; exact (c.2.2 i hi).2.2.2.2.2
  · rw [n _ (by omega)]; exact hz q h1 h2
theorem S_g1 {L c1 c2 KX KM : Nat} {xs : Nat → Int32} {ax am : List Value} {X : icH} {ab be : Int64} {ii : Nat → Int32} {A : Nat → Nat → Int32} {H R N : Nat} {D : Nat → Nat → Int32} {F : Nat → Nat} {f : Nat → Nat → Int32} {q : Int32} (i : IN L xs c1 c2 X ab be ii A H R N D F f) (hx : ∀ an, ∃ an', icE KX 0 (.ref 0 :: ax) [] (HH (hput X 43 (ai 10 an)) 1 H R N D F f) = some (some (.int q), HH (hput X 43 (ai 10 an')) 1 H R N D F f)) (hm : ∀ Y, ∃ A', icE KM 0 (.ref 90 :: am) [] (HM Y 90 ab be ii A) = some (some (.int q), HM Y 90 ab be ii A') ∧ MSC A A') : STi L xs c1 c2 KX KM ax am X := by
  obtain ⟨⟨Ht, Rt, Nt, E, s1⟩, ⟨fa, s2⟩, ⟨le, s3⟩, ⟨b1, s4⟩, ⟨b2, s5⟩, ⟨b3, s6⟩⟩ := i.1.2.2.2.1
  have key : HH (hput X 43 (ai 10 b1)) 1 H R N D F f = X := by rw [hp_id s4, i.1.2.1]
  obtain ⟨an', x⟩ := hx b1
  rw [key] at x
  obtain ⟨A', m1, m2⟩ := hm (HH (hput X 43 (ai 10 an')) 1 H R N D F f)
  have e : ∀ a, a ≠ 43 → hg (HH (hput X 43 (ai 10 an')) 1 H R N D F f) a = hg X a := fun a ha => by
    rw [← hp_HH (by omega), i.1.2.1, hg_p ha]
  have sc : SCR (hput X 43 (ai 10 an')) := ⟨⟨Ht, Rt, Nt, E, HE_ag s1 (fun a _ _ => hg_p (by omega))⟩, ⟨fa, (hg_p (by decide)).trans s2⟩, ⟨le, (hg_p (by decide)).trans s3⟩, ⟨an', hg_s _ _ _⟩, ⟨b2, (hg_p (by decide)).trans s5⟩, ⟨b3, (hg_p (by decide)).trans s6⟩⟩
  exact S_mk i x (FR_t (FR_p (by decide) _) (FR_H (by decide) H R N D F f)) m1 (CI_s i.1 m2 ((e _ (by omega)).trans i.1.1) (HH_id _ _ _ _ _ _ _ _) (SCR_ag sc (fun a _ _ => HH_n (by omega))) (fun a ha => e a (by omega)))
theorem S_g2 {L c1 c2 KX KM : Nat} {xs : Nat → Int32} {ax am : List Value} {X : icH} {ab be : Int64} {ii : Nat → Int32} {A : Nat → Nat → Int32} {H R N : Nat} {D : Nat → Nat → Int32} {F : Nat → Nat} {f : Nat → Nat → Int32} {q : Int32} (i : IN L xs c1 c2 X ab be ii A H R N D F f) (hx : ∀ an, ∃ an', icE KX 0 (.ref 0 :: ax) [] (HH (hput X 45 (ai 6 an)) 1 H R N D F f) = some (some (.int q), HH (hput X 45 (ai 6 an')) 1 H R N D F f)) (hm : ∀ Y, ∃ A', icE KM 0 (.ref 90 :: am) [] (HM Y 90 ab be ii A) = some (some (.int q), HM Y 90 ab be ii A') ∧ MSC A A') : STi L xs c1 c2 KX KM ax am X := by
  obtain ⟨⟨Ht, Rt, Nt, E, s1⟩, ⟨fa, s2⟩, ⟨le, s3⟩, ⟨b1, s4⟩, ⟨b2, s5⟩, ⟨b3, s6⟩⟩ := i.1.2.2.2.1
  have key : HH (hput X 45 (ai 6 b2)) 1 H R N D F f = X := by rw [hp_id s5, i.1.2.1]
  obtain ⟨an', x⟩ := hx b2
  rw [key] at x
  obtain ⟨A', m1, m2⟩ := hm (HH (hput X 45 (ai 6 an')) 1 H R N D F f)
  have e : ∀ a, a ≠ 45 → hg (HH (hput X 45 (ai 6 an')) 1 H R N D F f) a = hg X a := fun a ha => by
    rw [← hp_HH (by omega), i.1.2.1, hg_p ha]
  have sc : SCR (hput X 45 (ai 6 an')) := ⟨⟨Ht, Rt, Nt, E, HE_ag s1 (fun a _ _ => hg_p (by omega))⟩, ⟨fa, (hg_p (by decide)).trans s2⟩, ⟨le, (hg_p (by decide)).trans s3⟩, ⟨b1, (hg_p (by decide)).trans s4⟩, ⟨an', hg_s _ _ _⟩, ⟨b3, (hg_p (by decide)).trans s6⟩⟩
  exact S_mk i x (FR_t (FR_p (by decide) _) (FR_H (by decide) H R N D F f)) m1 (CI_s i.1 m2 ((e _ (by omega)).trans i.1.1) (HH_id _ _ _ _ _ _ _ _) (SCR_ag sc (fun a _ _ => HH_n (by omega))) (fun a ha => e a (by omega)))
theorem S_g3 {L c1 c2 KX KM : Nat} {xs : Nat → Int32} {ax am : List Value} {X : icH} {ab be : Int64} {ii : Nat → Int32} {A : Nat → Nat → Int32} {H R N : Nat} {D : Nat → Nat → Int32} {F : Nat → Nat} {f : Nat → Nat → Int32} {q : Int32} (i : IN L xs c1 c2 X ab be ii A H R N D F f) (hx : ∀ an, ∃ an', icE KX 0 (.ref 0 :: ax) [] (HH (hput X 47 (ai 6 an)) 1 H R N D F f) = some (some (.int q), HH (hput X 47 (ai 6 an')) 1 H R N D F f)) (hm : ∀ Y, ∃ A', icE KM 0 (.ref 90 :: am) [] (HM Y 90 ab be ii A) = some (some (.int q), HM Y 90 ab be ii A') ∧ MSC A A') : STi L xs c1 c2 KX KM ax am X := by
  obtain ⟨⟨Ht, Rt, Nt, E, s1⟩, ⟨fa, s2⟩, ⟨le, s3⟩, ⟨b1, s4⟩, ⟨b2, s5⟩, ⟨b3, s6⟩⟩ := i.1.2.2.2.1
  have key : HH (hput X 47 (ai 6 b3)) 1 H R N D F f = X := by rw [hp_id s6, i.1.2.1]
  obtain ⟨an', x⟩ := hx b3
  rw [key] at x
  obtain ⟨A', m1, m2⟩ := hm (HH (hput X 47 (ai 6 an')) 1 H R N D F f)
  have e : ∀ a, a ≠ 47 → hg (HH (hput X 47 (ai 6 an')) 1 H R N D F f) a = hg X a := fun a ha => by
    rw [← hp_HH (by omega), i.1.2.1, hg_p ha]
  have sc : SCR (hput X 47 (ai 6 an')) := ⟨⟨Ht, Rt, Nt, E, HE_ag s1 (fun a _ _ => hg_p (by omega))⟩, ⟨fa, (hg_p (by decide)).trans s2⟩, ⟨le, (hg_p (by decide)).trans s3⟩, ⟨b1, (hg_p (by decide)).trans s4⟩, ⟨b2, (hg_p (by decide)).trans s5⟩, ⟨an', hg_s _ _ _⟩⟩
  exact S_mk i x (FR_t (FR_p (by decide) _) (FR_H (by decide) H R N D F f)) m1 (CI_s i.1 m2 ((e _ (by omega)).trans i.1.1) (HH_id _ _ _ _ _ _ _ _) (SCR_ag sc (fun a _ _ => HH_n (by omega))) (fun a ha => e a (by omega)))
theorem st_warms {L c1 c2 : Nat} {xs : Nat → Int32} {X : icH} (I : INV L xs c1 c2 X) (a0 : Int32) : STi L xs c1 c2 95 194 [.int a0] [.int a0] X := by
  obtain ⟨ab, be, ii, A, H, R, N, D, F, f, i⟩ := I
  have h0 := i.1.1
  obtain ⟨c, K0, K1, K2, K3, p⟩ := i.1.2.2.1
  have h9 := c.1.1.1
  have hR := c.2.1.1
  have hN := c.2.1.2.1
  by_cases hw : nI 0 ≤ a0 ∧ a0 ≤ nI R - nI 1
  · obtain ⟨r, hr, rfl⟩ := R_of (by omega) hw
    exact S_g1 i (fun an => ⟨an, x_warms h0 i.1.2.2.2.2.1.2.1 c.2.1 p.2.1.1 p.1.1 hr an H f⟩) (fun Y => ⟨A, m_warms (CO_z0 c).1 p.1.1 p.2.2.1.1 p.2.2.2.1 p.2.2.2.2.2.2.1 hr Y 90 ab be ii, MSC_r A⟩)
  · exact S_ref 0 (by decide) i (fun rf h27 => xb_warms h0 h27 a0 hw D F f) (fun Y => mb_warms a0 (by rw [h9]; exact hw) Y 90 ab be ii)
theorem st_tell {L c1 c2 : Nat} {xs : Nat → Int32} {X : icH} (I : INV L xs c1 c2 X) (a0 : Int32) : STi L xs c1 c2 96 196 [.int a0] [.int a0, dum, dum, dum, dum, dum] X := by
  obtain ⟨ab, be, ii, A, H, R, N, D, F, f, i⟩ := I
  have h0 := i.1.1
  obtain ⟨c, K0, K1, K2, K3, p⟩ := i.1.2.2.1
  have h9 := c.1.1.1
  have hR := c.2.1.1
  have hN := c.2.1.2.1
  by_cases hw : nI 0 ≤ a0 ∧ a0 ≤ nI R - nI 1
  · obtain ⟨r, hr, rfl⟩ := R_of (by omega) hw
    exact S_g1 i (fun an => x_tell h0 i.1.2.2.2.2.1.2.1 c.2.1 p.2.1.1 p.1.1 hr an H f) (fun Y => m_tell (CO_z0 c).1 p.1.1 p.2.2.1.1 p.2.2.2.1 p.2.2.2.2.2.2.1 hr Y 90 ab be ii)
  · exact S_ref 0 (by decide) i (fun rf h27 => xb_tell h0 h27 a0 hw D F f) (fun Y => mb_tell a0 (by rw [h9]; exact hw) Y 90 ab be ii)
theorem st_is {L c1 c2 : Nat} {xs : Nat → Int32} {X : icH} (I : INV L xs c1 c2 X) (a0 : Int32) : STi L xs c1 c2 100 201 [.int a0] [.int a0] X := by
  obtain ⟨ab, be, ii, A, H, R, N, D, F, f, i⟩ := I
  have h0 := i.1.1
  obtain ⟨c, K0, K1, K2, K3, p⟩ := i.1.2.2.1
  have h10 := c.1.1.2.1
  have hR := c.2.1.1
  have hN := c.2.1.2.1
  by_cases hw : nI 0 ≤ a0 ∧ a0 ≤ nI N - nI 1
  · obtain ⟨r, hr, rfl⟩ := R_of (by omega) hw
    exact S_g2 i (fun an => ⟨an, x_is h0 i.1.2.2.2.2.1.2.2.1 c.2.1 p.2.1.2.1 p.1.2.1 hr an H f⟩) (fun Y => ⟨A, m_is (CO_z0 c).1 p.1.2.1 p.2.2.1.2.1 p.2.2.2.2.1 hr Y 90 ab be ii, MSC_r A⟩)
  · exact S_ref 0 (by decide) i (fun rf h27 => xb_is h0 h27 a0 hw D F f) (fun Y => mb_is a0 (by rw [h10]; exact hw) Y 90 ab be ii)
theorem st_look {L c1 c2 : Nat} {xs : Nat → Int32} {X : icH} (I : INV L xs c1 c2 X) (a0 : Int32) : STi L xs c1 c2 101 202 [.int a0] [.int a0, dum, dum, dum, dum, dum, dum] X := by
  obtain ⟨ab, be, ii, A, H, R, N, D, F, f, i⟩ := I
  have h0 := i.1.1
  obtain ⟨c, K0, K1, K2, K3, p⟩ := i.1.2.2.1
  have h10 := c.1.1.2.1
  have hR := c.2.1.1
  have hN := c.2.1.2.1
  by_cases hw : nI 0 ≤ a0 ∧ a0 ≤ nI N - nI 1
  · obtain ⟨r, hr, rfl⟩ := R_of (by omega) hw
    exact S_g2 i (fun an => x_look h0 i.1.2.2.2.2.1.2.2.1 c.2.1 p.2.1.2.1 p.1.2.1 hr an H f) (fun Y => m_look (CO_z0 c).1 p.1.2.1 p.2.2.1.2.1 p.2.2.2.2.1 hr Y 90 ab be ii)
  · exact S_ref 0 (by decide) i (fun rf h27 => xb_look h0 h27 a0 hw D F f) (fun Y => mb_look a0 (by rw [h10]; exact hw) Y 90 ab be ii)
theorem st_kinds {L c1 c2 : Nat} {xs : Nat → Int32} {X : icH} (I : INV L xs c1 c2 X) (a0 : Int32) : STi L xs c1 c2 102 204 [.int a0] [.int a0] X := by
  obtain ⟨ab, be, ii, A, H, R, N, D, F, f, i⟩ := I
  have h0 := i.1.1
  obtain ⟨c, K0, K1, K2, K3, p⟩ := i.1.2.2.1
  have h9 := c.1.1.1
  have hR := c.2.1.1
  have hN := c.2.1.2.1
  by_cases hw : nI 0 ≤ a0 ∧ a0 ≤ nI R - nI 1
  · obtain ⟨r, hr, rfl⟩ := R_of (by omega) hw
    exact S_g3 i (fun an => ⟨an, x_kinds h0 i.1.2.2.2.2.1.2.2.2 c.2.1 p.2.1.2.2.1 p.1.2.2.1 hr an H f⟩) (fun Y => ⟨A, m_kinds (CO_z0 c).1 p.1.2.2.1 p.2.2.1.2.2.1 p.2.2.2.2.2.1 p.2.2.2.2.2.2.2.1 hr Y 90 ab be ii, MSC_r A⟩)
  · exact S_ref 0 (by decide) i (fun rf h27 => xb_kinds h0 h27 a0 hw D F f) (fun Y => mb_kinds a0 (by rw [h9]; exact hw) Y 90 ab be ii)
theorem st_ask {L c1 c2 : Nat} {xs : Nat → Int32} {X : icH} (I : INV L xs c1 c2 X) (a0 : Int32) : STi L xs c1 c2 103 205 [.int a0] [.int a0, dum, dum, dum, dum, dum, dum] X := by
  obtain ⟨ab, be, ii, A, H, R, N, D, F, f, i⟩ := I
  have h0 := i.1.1
  obtain ⟨c, K0, K1, K2, K3, p⟩ := i.1.2.2.1
  have h9 := c.1.1.1
  have hR := c.2.1.1
  have hN := c.2.1.2.1
  by_cases hw : nI 0 ≤ a0 ∧ a0 ≤ nI R - nI 1
  · obtain ⟨r, hr, rfl⟩ := R_of (by omega) hw
    exact S_g3 i (fun an => x_ask h0 i.1.2.2.2.2.1.2.2.2 c.2.1 p.2.1.2.2.1 p.1.2.2.1 hr an H f) (fun Y => m_ask (CO_z0 c).1 p.1.2.2.1 p.2.2.1.2.2.1 p.2.2.2.2.2.1 p.2.2.2.2.2.2.2.1 hr Y 90 ab be ii)
  · exact S_ref 0 (by decide) i (fun rf h27 => xb_ask h0 h27 a0 hw D F f) (fun Y => mb_ask a0 (by rw [h9]; exact hw) Y 90 ab be ii)
theorem st_odds {L c1 c2 : Nat} {xs : Nat → Int32} {X : icH} (I : INV L xs c1 c2 X) (a0 a1 a2 : Int32) : STi L xs c1 c2 105 210 [.int a0, .int a1, .int a2, dum, dum, dum, dum, dum] [.int a0, .int a1, .int a2, dum, dum, dum, dum, dum, dum, dum] X := by
  obtain ⟨ab, be, ii, A, H, R, N, D, F, f, i⟩ := I
  have h0 := i.1.1
  have c := i.1.2.2.1.1
  have h10 := c.1.1.2.1
  have hN := c.2.1.2.1
  have hH := c.2.2.1
  by_cases hw : (nI 0 ≤ a0 ∧ a0 ≤ nI N - nI 1) ∧ (nI 0 ≤ a1 ∧ a1 ≤ nI 6) ∧ (nI 0 ≤ a2 ∧ a2 ≤ nI 10)
  · obtain ⟨r, hr, rfl⟩ := R_of (by omega) hw.1
    obtain ⟨n, -, hn, rfl⟩ := W_of (by decide) (by decide) hw.2.1
    obtain ⟨j, -, hj, rfl⟩ := W_of (by decide) (by decide) hw.2.2
    obtain ⟨⟨Ht, Rt, Nt, E, s1⟩, ⟨fa, s2⟩, -⟩ := i.1.2.2.2.1
    have key : HX X fa Ht Rt Nt E H R N D F f = X := by unfold HX; rw [hp_id s2, s1, i.1.2.1]
    obtain ⟨Ht', Rt', Nt', E', x⟩ := x_odds h0 c.2.1 hn hj hH hr fa Ht Rt Nt E F f
    rw [key] at x
    generalize hY : hput X 0 (xo (lN (sw R N H D r n j (2 ^ n) / Nat.gcd (sw R N H D r n j (2 ^ n)) (10 ^ n))) (lN (10 ^ n / Nat.gcd (sw R N H D r n j (2 ^ n)) (10 ^ n)))) = Y at x
    obtain ⟨A', m1, m2⟩ := m_odds c.1 hn hj hH hr (HX Y fa Ht' Rt' Nt' E' H R N D F f) 90 ab be ii
    have y0 : hg Y 0 = some (xo (lN (sw R N H D r n j (2 ^ n) / Nat.gcd (sw R N H D r n j (2 ^ n)) (10 ^ n))) (lN (10 ^ n / Nat.gcd (sw R N H D r n j (2 ^ n)) (10 ^ n)))) := by rw [← hY]; exact hg_s _ _ _
    have yn : ∀ a, a ≠ 0 → hg Y a = hg X a := fun a ha => by rw [← hY]; exact hg_p ha
    have fr : FR X Y := by rw [← hY]; exact FR_p (by decide) _
    exact S_mk i x (FR_t fr (FR_X _ _ _ _ _ _ _ _ _ _ _ _)) m1 (CI_s i.1 m2 ((HX_n _ _ _ _ _ _ _ _ _ _ _ _ (by omega)).trans y0) (HH_id _ _ _ _ _ _ _ _) (SCR_X (SCR_ag i.1.2.2.2.1 (fun a _ _ => yn a (by omega))) _ _ _ _ _ _ _ _ _ _ _) (fun a ha => (HX_n _ _ _ _ _ _ _ _ _ _ _ _ (by omega)).trans (yn a (by omega))))
  · exact S_ref 0 (by decide) i (fun rf h27 => xb_odds h0 h27 a0 a1 a2 hw D F f) (fun Y => mb_odds a0 a1 a2 (by rw [h10]; exact hw) Y 90 ab be ii)
