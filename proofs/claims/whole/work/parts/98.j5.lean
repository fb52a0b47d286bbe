/-! ===== both sides: the calls that use the trial ===== -/
theorem CI_s {X Y : icH} {ab be : Int64} {ii : Nat → Int32} {A A' : Nat → Nat → Int32} {H R N : Nat} {D : Nat → Nat → Int32} {F : Nat → Nat} {f : Nat → Nat → Int32} (h : CI X ab be ii A H R N D F f) (hM : MSC A A') {ab' be' : Int64} (g0 : hg Y 0 = some (xo ab' be')) (g1 : HH Y 1 H R N D F f = Y) (gs : SCR Y) (e : ∀ a, (22 ≤ a ∧ a ≤ 27) ∨ a = 42 ∨ a = 44 ∨ a = 46 ∨ (48 ≤ a ∧ a ≤ 89) → hg Y a = hg X a) : CI Y ab' be' ii A' H R N D F f := by
  obtain ⟨h0, h1, h2, h3, h4, h5, h6, h7⟩ := h
  refine ⟨g0, g1, ?_, gs, FIX_ag h4 (fun a _ => e a (by omega)), REF_ag h5 (e _ (by omega)) (hM 6 (by decide) (by decide) (by decide) (by decide) (by decide) (by decide)), TXT_ag h6 (fun a _ _ => e a (by omega)) rfl (hM 5 (by decide) (by decide) (by decide) (by decide) (by decide) (by decide)), KEP_ag h7 (fun a _ => e a (by omega)) (hM 4 (by decide) (by decide) (by decide) (by decide) (by decide) (by decide)) (hM 3 (by decide) (by decide) (by decide) (by decide) (by decide) (by decide))⟩
  rw [hM 1 (by decide) (by decide) (by decide) (by decide) (by decide) (by decide)]; exact h2
theorem FR_X (X : icH) (fa : Nat → Int32) (Ht Rt Nt : Nat) (E : Nat → Nat → Int32) (H R N : Nat) (D : Nat → Nat → Int32) (F : Nat → Nat) (f : Nat → Nat → Int32) : FR X (HX X fa Ht Rt Nt E H R N D F f) := FR_t (FR_t (FR_p (by decide) _) (FR_E Ht Rt Nt E)) (FR_H (by decide) H R N D F f)
theorem SCR_X {X : icH} (h : SCR X) (fa : Nat → Int32) (Ht Rt Nt : Nat) (E : Nat → Nat → Int32) (H R N : Nat) (D : Nat → Nat → Int32) (F : Nat → Nat) (f : Nat → Nat → Int32) : SCR (HX X fa Ht Rt Nt E H R N D F f) := by
  obtain ⟨-, -, ⟨le, h3⟩, ⟨a1, h4⟩, ⟨a2, h5⟩, ⟨a3, h6⟩⟩ := h
  exact ⟨⟨Ht, Rt, Nt, E, HX_e _ _ _ _ _ _ _ _ _ _ _ _⟩, ⟨fa, HX_40 _ _ _ _ _ _ _ _ _ _ _ _⟩, ⟨le, (HX_n _ _ _ _ _ _ _ _ _ _ _ _ (by omega)).trans h3⟩, ⟨a1, (HX_n _ _ _ _ _ _ _ _ _ _ _ _ (by omega)).trans h4⟩, ⟨a2, (HX_n _ _ _ _ _ _ _ _ _ _ _ _ (by omega)).trans h5⟩, ⟨a3, (HX_n _ _ _ _ _ _ _ _ _ _ _ _ (by omega)).trans h6⟩⟩
theorem S_scr {L c1 c2 KX KM : Nat} {xs : Nat → Int32} {ax am : List Value} {X : icH} {ab be : Int64} {ii : Nat → Int32} {A : Nat → Nat → Int32} {H R N : Nat} {D : Nat → Nat → Int32} {F : Nat → Nat} {f : Nat → Nat → Int32} {q : Int32} (i : IN L xs c1 c2 X ab be ii A H R N D F f) (hx : ∀ fa Ht Rt Nt E, ∃ fa' Ht' Rt' Nt' E', icE KX 0 (.ref 0 :: ax) [] (HX X fa Ht Rt Nt E H R N D F f) = some (some (.int q), HX X fa' Ht' Rt' Nt' E' H R N D F f)) (hm : ∀ Y, ∃ A', icE KM 0 (.ref 90 :: am) [] (HM Y 90 ab be ii A) = some (some (.int q), HM Y 90 ab be ii A') ∧ MSC A A') : STi L xs c1 c2 KX KM ax am X := by
  obtain ⟨⟨Ht, Rt, Nt, E, s1⟩, ⟨fa, s2⟩, -⟩ := i.1.2.2.2.1
  have key : HX X fa Ht Rt Nt E H R N D F f = X := by unfold HX; rw [hp_id s2, s1, i.1.2.1]
  obtain ⟨fa', Ht', Rt', Nt', E', x⟩ := hx fa Ht Rt Nt E
  rw [key] at x
  obtain ⟨A', m1, m2⟩ := hm (HX X fa' Ht' Rt' Nt' E' H R N D F f)
  exact S_mk i x (FR_X _ _ _ _ _ _ _ _ _ _ _ _) m1 (CI_s i.1 m2 ((HX_n _ _ _ _ _ _ _ _ _ _ _ _ (by omega)).trans i.1.1) (HH_id _ _ _ _ _ _ _ _) (SCR_X i.1.2.2.2.1 _ _ _ _ _ _ _ _ _ _ _) (fun a ha => HX_n _ _ _ _ _ _ _ _ _ _ _ _ (by omega)))
theorem S_len {L c1 c2 KX KM : Nat} {xs : Nat → Int32} {ax am : List Value} {X : icH} {ab be : Int64} {ii : Nat → Int32} {A : Nat → Nat → Int32} {H R N : Nat} {D : Nat → Nat → Int32} {F : Nat → Nat} {f : Nat → Nat → Int32} {q : Int32} (i : IN L xs c1 c2 X ab be ii A H R N D F f) (hx : ∀ le fa Ht Rt Nt E, ∃ le' Ht' E', icE KX 0 (.ref 0 :: ax) [] (HX (hput X 41 (ai 24 le)) fa Ht Rt Nt E H R N D F f) = some (some (.int q), HX (hput X 41 (ai 24 le')) fa Ht' R N E' H R N D F f)) (hm : ∀ Y, ∃ A', icE KM 0 (.ref 90 :: am) [] (HM Y 90 ab be ii A) = some (some (.int q), HM Y 90 ab be ii A') ∧ MSC A A') : STi L xs c1 c2 KX KM ax am X := by
  obtain ⟨⟨Ht, Rt, Nt, E, s1⟩, ⟨fa, s2⟩, ⟨le, s3⟩, s4⟩ := i.1.2.2.2.1
  have key : HX (hput X 41 (ai 24 le)) fa Ht Rt Nt E H R N D F f = X := by unfold HX; rw [hp_id s3, hp_id s2, s1, i.1.2.1]
  obtain ⟨le', Ht', E', x⟩ := hx le fa Ht Rt Nt E
  rw [key] at x
  obtain ⟨A', m1, m2⟩ := hm (HX (hput X 41 (ai 24 le')) fa Ht' R N E' H R N D F f)
  have sc : SCR (hput X 41 (ai 24 le')) := by
    obtain ⟨⟨a1, h4⟩, ⟨a2, h5⟩, ⟨a3, h6⟩⟩ := s4
    exact ⟨⟨Ht, Rt, Nt, E, HE_ag s1 (fun a _ _ => hg_p (by omega))⟩, ⟨fa, (hg_p (by decide)).trans s2⟩, ⟨le', hg_s _ _ _⟩, ⟨a1, (hg_p (by decide)).trans h4⟩, ⟨a2, (hg_p (by decide)).trans h5⟩, ⟨a3, (hg_p (by decide)).trans h6⟩⟩
  exact S_mk i x (FR_t (FR_p (by decide) _) (FR_X _ _ _ _ _ _ _ _ _ _ _ _)) m1 (CI_s i.1 m2 ((HX_n _ _ _ _ _ _ _ _ _ _ _ _ (by omega)).trans ((hg_p (by decide)).trans i.1.1)) (HH_id _ _ _ _ _ _ _ _) (SCR_X sc _ _ _ _ _ _ _ _ _ _ _) (fun a ha => (HX_n _ _ _ _ _ _ _ _ _ _ _ _ (by omega)).trans (hg_p (by omega))))
theorem st_ahead {L c1 c2 : Nat} {xs : Nat → Int32} {X : icH} (I : INV L xs c1 c2 X) (a0 a1 a2 : Int32) : STi L xs c1 c2 86 181 [.int a0, .int a1, .int a2, dum] [.int a0, .int a1, .int a2, dum] X := by
  obtain ⟨ab, be, ii, A, H, R, N, D, F, f, i⟩ := I
  have h0 := i.1.1
  have c := i.1.2.2.1.1
  have h10 := c.1.1.2.1
  have hN := c.2.1.2.1
  have hH := c.2.2.1
  by_cases hw : (nI 0 ≤ a0 ∧ a0 ≤ nI N - nI 1) ∧ (nI 0 ≤ a1 ∧ a1 ≤ nI 96) ∧ (nI 0 ≤ a2 ∧ a2 ≤ nI 1)
  · obtain ⟨r, hr, rfl⟩ := R_of (by omega) hw.1
    obtain ⟨n, -, hn, rfl⟩ := W_of (by decide) (by decide) hw.2.1
    obtain ⟨j, -, hj, rfl⟩ := W_of (by decide) (by decide) hw.2.2
    refine S_scr i (fun fa Ht Rt Nt E => ?_) (fun Y => m_ahead c.1 hn hH hr (by omega) Y 90 ab be ii)
    obtain ⟨Ht', E', x⟩ := x_ahead h0 c.2.1 (CO_W c) hn hH hr (j := j) (by omega) fa Ht Rt Nt E F f
    exact ⟨fa, Ht', R, N, E', x⟩
  · exact S_ref 0 (by decide) i (fun rf h27 => xb_ahead h0 h27 a0 a1 a2 hw D F f) (fun Y => mb_ahead a0 a1 a2 (by rw [h10]; exact hw) Y 90 ab be ii)
theorem st_fall {L c1 c2 : Nat} {xs : Nat → Int32} {X : icH} (I : INV L xs c1 c2 X) (a0 : Int32) : STi L xs c1 c2 87 183 [.int a0] [.int a0] X := by
  obtain ⟨ab, be, ii, A, H, R, N, D, F, f, i⟩ := I
  have h0 := i.1.1
  have c := i.1.2.2.1.1
  have h10 := c.1.1.2.1
  have hN := c.2.1.2.1
  have hH := c.2.2.1
  by_cases hw : nI 0 ≤ a0 ∧ a0 ≤ nI N - nI 1
  · obtain ⟨r, hr, rfl⟩ := R_of (by omega) hw
    refine S_scr i (fun fa Ht Rt Nt E => ?_) (fun Y => m_fall c.1 hH hr Y 90 ab be ii)
    obtain ⟨fa', Ht', E', x⟩ := x_fall h0 hH c.2.1 (CO_W c) hr fa Ht Rt Nt E F f
    exact ⟨fa', Ht', R, N, E', x⟩
  · exact S_ref 0 (by decide) i (fun rf h27 => xb_fall h0 h27 a0 hw D F f) (fun Y => mb_fall a0 (by rw [h10]; exact hw) Y 90 ab be ii)
theorem st_first {L c1 c2 : Nat} {xs : Nat → Int32} {X : icH} (I : INV L xs c1 c2 X) : STi L xs c1 c2 88 184 [dum, dum] [dum, dum, dum] X := by
  obtain ⟨ab, be, ii, A, H, R, N, D, F, f, i⟩ := I
  have h0 := i.1.1
  have c := i.1.2.2.1.1
  have hH := c.2.2.1
  refine S_scr i (fun fa Ht Rt Nt E => ?_) (fun Y => m_first c.1 hH Y 90 ab be ii)
  obtain ⟨fa', Ht', E', x⟩ := x_first h0 hH c.2.1 (CO_W c) fa Ht Rt Nt E F f
  exact ⟨fa', Ht', R, N, E', x⟩
theorem N_of {a : Int32} (h : 0 ≤ a) : ∃ j : Nat, j < 2 ^ 31 ∧ a = nI j := by
  obtain ⟨j, -, hj, e⟩ := W_of (a := a) (lo := 0) (hi := 2 ^ 31 - 1) (by decide) (by decide) ⟨h, by
    rw [Int32.le_iff_toInt_le, nI_toInt (by decide)]
    have := Int32.toInt_lt a
    omega⟩
  exact ⟨j, by omega, e⟩
theorem st_order {L c1 c2 : Nat} {xs : Nat → Int32} {X : icH} (I : INV L xs c1 c2 X) (a0 : Int32) : STi L xs c1 c2 89 185 [.int a0, dum, dum] [.int a0, dum, dum, dum, dum] X := by
  obtain ⟨ab, be, ii, A, H, R, N, D, F, f, i⟩ := I
  have h0 := i.1.1
  have c := i.1.2.2.1.1
  have hN := c.2.1.2.1
  have hH := c.2.2.1
  by_cases hw : 0 ≤ a0
  · obtain ⟨k, hk, rfl⟩ := N_of hw
    by_cases q : k < ctD D (nI 0) N
    · refine S_scr i (fun fa Ht Rt Nt E => ?_) (fun Y => m_order c.1 hH q Y 90 ab be ii)
      obtain ⟨fa', Ht', E', x⟩ := x_order h0 hH c.2.1 (CO_W c) q fa Ht Rt Nt E F f
      exact ⟨fa', Ht', R, N, E', x⟩
    · exact S_ref 1 (by decide) i (fun rf h27 => x_orderN h0 h27 hk hN (by omega) H R F f) (fun Y => m_orderN c.1 hk (by omega) Y 90 ab be ii)
  · exact S_ref 0 (by decide) i (fun rf h27 => x_orderB h0 h27 hw H R N D F f) (fun Y => m_orderB hw Y 90 ab be ii)
theorem st_path {L c1 c2 : Nat} {xs : Nat → Int32} {X : icH} (I : INV L xs c1 c2 X) : STi L xs c1 c2 90 186 [dum] [dum, dum, dum] X := by
  obtain ⟨ab, be, ii, A, H, R, N, D, F, f, i⟩ := I
  have h0 := i.1.1
  have c := i.1.2.2.1.1
  have hH := c.2.2.1
  refine S_scr i (fun fa Ht Rt Nt E => ?_) (fun Y => m_path c.1 hH c.2.2.2.2.1 Y 90 ab be ii)
  obtain ⟨fa', Ht', E', x⟩ := x_path h0 hH c.2.1 (CO_W c) c.2.2.2.2.1 fa Ht Rt Nt E F f
  exact ⟨fa', Ht', R, N, E', x⟩
theorem st_least {L c1 c2 : Nat} {xs : Nat → Int32} {X : icH} (I : INV L xs c1 c2 X) (a0 : Int32) : STi L xs c1 c2 91 187 [.int a0, dum] [.int a0, dum, dum, dum] X := by
  obtain ⟨ab, be, ii, A, H, R, N, D, F, f, i⟩ := I
  have h0 := i.1.1
  have c := i.1.2.2.1.1
  have h9 := c.1.1.1
  have hR := c.2.1.1
  have hH := c.2.2.1
  by_cases hw : nI 0 ≤ a0 ∧ a0 ≤ nI R - nI 1
  · obtain ⟨r, hr, rfl⟩ := R_of (by omega) hw
    exact S_scr i (fun fa Ht Rt Nt E => x_least h0 hH c.2.1 (CO_W c) hr fa Ht Rt Nt E F f) (fun Y => m_least c.1 c.2.1 hH hr Y 90 ab be ii)
  · exact S_ref 0 (by decide) i (fun rf h27 => xb_least h0 h27 a0 hw D F f) (fun Y => mb_least a0 (by rw [h9]; exact hw) Y 90 ab be ii)
theorem st_peak {L c1 c2 : Nat} {xs : Nat → Int32} {X : icH} (I : INV L xs c1 c2 X) (a0 a1 : Int32) : STi L xs c1 c2 92 188 [.int a0, .int a1, dum, dum, dum] [.int a0, .int a1, dum, dum, dum] X := by
  obtain ⟨ab, be, ii, A, H, R, N, D, F, f, i⟩ := I
  have h0 := i.1.1
  have c := i.1.2.2.1.1
  have h10 := c.1.1.2.1
  have hN := c.2.1.2.1
  have hH := c.2.2.1
  by_cases hw : (nI 0 ≤ a0 ∧ a0 ≤ nI N - nI 1) ∧ (nI 0 ≤ a1 ∧ a1 ≤ nI 1)
  · obtain ⟨r, hr, rfl⟩ := R_of (by omega) hw.1
    obtain ⟨j, -, hj, rfl⟩ := W_of (by decide) (by decide) hw.2
    by_cases q : D 11 r = 0
    · refine S_scr i (fun fa Ht Rt Nt E => ?_) (fun Y => m_peak c.1 hH hr (by omega) q (c.2.2.2.2.2.1 r hr) Y 90 ab be ii)
      obtain ⟨Ht', E', x⟩ := x_peak h0 c.2.1 (CO_W c) hH hr (j := j) (by omega) q fa Ht Rt Nt E F f
      exact ⟨fa, Ht', R, N, E', x⟩
    · exact S_scr i (fun fa Ht Rt Nt E => ⟨fa, Ht, Rt, Nt, E, x_peakL h0 hN hr (by omega) q fa Ht Rt Nt E F f⟩) (fun Y => m_peakL c.1 c.2.1 hH hr (by omega) q Y 90 ab be ii)
  · exact S_ref 0 (by decide) i (fun rf h27 => xb_peak h0 h27 a0 a1 hw D F f) (fun Y => mb_peak a0 a1 (by rw [h10]; exact hw) Y 90 ab be ii)
theorem st_sticks {L c1 c2 : Nat} {xs : Nat → Int32} {X : icH} (I : INV L xs c1 c2 X) (a0 : Int32) : STi L xs c1 c2 104 208 [.int a0, dum, dum, dum] [.int a0, dum, dum, dum] X := by
  obtain ⟨ab, be, ii, A, H, R, N, D, F, f, i⟩ := I
  have h0 := i.1.1
  have c := i.1.2.2.1.1
  have hH := c.2.2.1
  by_cases hw : -1 ≤ a0
  · exact S_len i (fun le fa Ht Rt Nt E => x_sticks h0 c.2.1 (CO_W c) hH c.2.2.2.2.2.1 hw le fa Ht Rt Nt E F f) (fun Y => m_sticks c.1 hH hw Y 90 ab be ii)
  · exact S_ref 0 (by decide) i (fun rf h27 => x_sticksB h0 h27 hw H R N D F f) (fun Y => m_sticksB hw Y 90 ab be ii)
theorem st_winters {L c1 c2 : Nat} {xs : Nat → Int32} {X : icH} (I : INV L xs c1 c2 X) (a0 a1 : Int32) : STi L xs c1 c2 106 211 [.int a0, .int a1, dum, dum, dum, dum, dum] [.int a0, .int a1, dum, dum, dum, dum, dum] X := by
  obtain ⟨ab, be, ii, A, H, R, N, D, F, f, i⟩ := I
  have h0 := i.1.1
  have c := i.1.2.2.1.1
  have hH := c.2.2.1
  by_cases hw : (nI 0 ≤ a0 ∧ a0 ≤ nI 999999) ∧ (nI 0 ≤ a1 ∧ a1 ≤ nI 60)
  · obtain ⟨s, -, hs, rfl⟩ := W_of (by decide) (by decide) hw.1
    obtain ⟨n, -, hn, rfl⟩ := W_of (by decide) (by decide) hw.2
    refine S_scr i (fun fa Ht Rt Nt E => ?_) (fun Y => m_winters c.1 hs hn hH Y 90 ab be ii)
    obtain ⟨Ht', E', x⟩ := x_winters h0 c.2.1 (CO_W c) hs hn hH fa Ht Rt Nt E F f
    exact ⟨fa, Ht', R, N, E', x⟩
  · exact S_ref 0 (by decide) i (fun rf h27 => xb_winters h0 h27 a0 a1 hw D F f) (fun Y => mb_winters a0 a1 hw Y 90 ab be ii)
