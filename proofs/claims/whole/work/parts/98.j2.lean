/-! ===== both sides: hours snows heats knocks undo, of more about warmth ===== -/
theorem st_hours {L c1 c2 : Nat} {xs : Nat → Int32} {X : icH} (I : INV L xs c1 c2 X) (a0 : Int32) : STi L xs c1 c2 77 171 [.int a0] [.int a0] X := by
  obtain ⟨ab, be, ii, A, H, R, N, D, F, f, i⟩ := I
  have h0 := i.1.1
  obtain ⟨c, K0, K1, K2, K3, p⟩ := i.1.2.2.1
  by_cases hw : nI 1 ≤ a0 ∧ a0 ≤ nI 96
  · obtain ⟨n, n1, n2, rfl⟩ := W_of (by decide) (by decide) hw
    have hK := p.1.2.2.2
    have hH := c.2.2.1
    have hN := c.2.1.2.1
    have q : ∀ Y, ∃ A', icE 171 0 [.ref 90, .int (nI n)] [] (HM Y 90 ab be ii A) = some (some (.int (nI (popc (lb (hsn R N (min n (9999 - H)) H D) (nI 0) N)))), HM Y 90 ab be ii A') ∧ (∀ a, 3 ≤ a → a ≤ 6 → A' a = A a) ∧ HC (H + min n (9999 - H)) R N (hsn R N (min n (9999 - H)) H D) (un F 3 (19 * min (K3 + 1) 8)) (ud f 3 (rg (f 3) K3 H D)) (A' 1) := fun Y => by
      obtain ⟨T', W', m1, m2, m3, m4, m5⟩ := m_hours (H := H) hK p.2.2.1.2.2.2 c.1.1 c.1.2.1 hH n1 n2 Y 90 ab be ii
      have cc := CO_hours (ntz_c (K := K3) c) (n := min n (9999 - H)) (by omega) m2 m3 m4 m5
      refine ⟨ud (ud A 1 T') 7 W', ?_, fun a a1 a2 => (ud_n (by omega)).trans (ud_n (by omega)), ?_⟩
      · rw [m1, popc_ct hN, cnt_ct cc.1 N (Nat.le_refl N)]
      · rw [ud_n (by decide), ud_s]
        exact ⟨cc, K0, K1, K2, min (K3 + 1) 8, RK_T c.2.1.1 hN (RK_rem c p) (fun x x1 x2 => m5 x (by omega) (by omega))⟩
    exact S_live i (x_hours h0 hK p.2.1.2.2.2 c.2.1 (CO_W c) hH n1 n2 f) q
  · exact S_ref 0 (by decide) i (fun rf h27 => xb_hours h0 h27 a0 hw D F f) (fun Y => mb_hours a0 hw Y 90 ab be ii)
theorem imn_n {s n : Nat} (hs : s < 1000) (hn : n < 1000) : imn (nI s + nI n) (nI 60) = nI (min (s + n) 60) ∧ imn (nI 60) (nI s + nI n) = nI (min (s + n) 60) := by
  rw [nI_add]
  unfold imn
  refine ⟨?_, ?_⟩
  · by_cases q : 60 < s + n
    · rw [if_pos ((nI_ltI (by omega) (by omega)).mpr q), show min (s + n) 60 = 60 by omega]
    · rw [if_neg (fun z => q ((nI_ltI (by omega) (by omega)).mp z)), show min (s + n) 60 = s + n by omega]
  · by_cases q : s + n < 60
    · rw [if_pos ((nI_ltI (by omega) (by omega)).mpr q), show min (s + n) 60 = s + n by omega]
    · rw [if_neg (fun z => q ((nI_ltI (by omega) (by omega)).mp z)), show min (s + n) 60 = 60 by omega]
theorem st_snows {L c1 c2 : Nat} {xs : Nat → Int32} {X : icH} (I : INV L xs c1 c2 X) (a0 a1 : Int32) : STi L xs c1 c2 78 172 [.int a0, .int a1] [.int a0, .int a1] X := by
  obtain ⟨ab, be, ii, A, H, R, N, D, F, f, i⟩ := I
  have h0 := i.1.1
  obtain ⟨c, K0, K1, K2, K3, p⟩ := i.1.2.2.1
  have h9 := c.1.1.1
  have hR := c.2.1.1
  by_cases hw : (nI 0 ≤ a0 ∧ a0 ≤ nI R - nI 1) ∧ (nI 1 ≤ a1 ∧ a1 ≤ nI 60)
  · obtain ⟨r, hr, rfl⟩ := R_of (by omega) hw.1
    obtain ⟨n, n1, n2, rfl⟩ := W_of (by decide) (by decide) hw.2
    have hK := p.1.2.2.2
    have e := ((CO_t c).2.1 r hr).2.2
    have k : kd 61 (D 4 r) := by rw [← e]; exact c.1.1.2.2.2.2.2.1 r hr
    obtain ⟨k1, k2⟩ := k
    generalize hs : kn (D 4 r) = s at k1 k2
    by_cases q : s < 60
    · have z := imn_n (s := s) (n := n) (by omega) (by omega)
      have y : kd 61 (imn (D 4 r + nI n) (nI 60)) := by rw [k1, z.1]; exact kd_n (by omega) (by omega)
      have w : imn (nI 60) (A 1 (17 + r) + nI n) = imn (D 4 r + nI n) (nI 60) := by rw [e, k1, z.1, z.2]
      refine S_now i (x_snows h0 hK p.2.1.2.2.2 hR hr n1 n2 (by rw [k1]; exact (nI_ltI (by omega) (by omega)).mpr q) f) (fun Y => ?_) (T := upd (ntz (A 1) K3) (17 + r) (imn (D 4 r + nI n) (nI 60))) ⟨CO_snow (ntz_c c) hr y, K0, K1, K2, min (K3 + 1) 8, RK_T hR c.2.1.2.1 (RK_rem c p) (fun x x1 x2 => pk_un (by omega))⟩
      rw [m_snows hK p.2.2.1.2.2.2 h9 hR hr n1 n2 (by rw [e, k1]; intro x; have := (nI_eq (by omega) (by omega)).mp x; omega), w]
    · exact S_ref 1 (by decide) i (fun rf h27 => x_snowsN h0 h27 hR hr n1 n2 (by rw [k1]; exact fun x => q ((nI_ltI (by omega) (by omega)).mp x)) F f) (fun Y => m_snowsN h9 hR hr n1 n2 (by rw [e, k1, show s = 60 by omega]) Y 90 ab be ii)
  · exact S_ref 0 (by decide) i (fun rf h27 => xb_snows h0 h27 a0 a1 hw D F f) (fun Y => mb_snows a0 a1 (by rw [h9]; exact hw) Y 90 ab be ii)
theorem st_heats {L c1 c2 : Nat} {xs : Nat → Int32} {X : icH} (I : INV L xs c1 c2 X) (a0 a1 : Int32) : STi L xs c1 c2 79 173 [.int a0, .int a1, dum] [.int a0, .int a1, dum] X := by
  obtain ⟨ab, be, ii, A, H, R, N, D, F, f, i⟩ := I
  have h0 := i.1.1
  obtain ⟨c, K0, K1, K2, K3, p⟩ := i.1.2.2.1
  have h9 := c.1.1.1
  have hR := c.2.1.1
  by_cases hw : (nI 0 ≤ a0 ∧ a0 ≤ nI R - nI 1) ∧ (nI 0 ≤ a1 ∧ a1 ≤ nI 9)
  · obtain ⟨r, hr, rfl⟩ := R_of (by omega) hw.1
    have hK := p.1.2.2.2
    have e := ((CO_t c).2.1 r hr).2.1
    by_cases q : D 3 r = a1
    · exact S_ref 1 (by decide) i (fun rf h27 => x_heatsN h0 h27 hR hr hw.2 q F f) (fun Y => m_heatsN h9 hR hr hw.2 (e.trans q) Y 90 ab be ii)
    · refine S_now i (x_heats h0 hK p.2.1.2.2.2 hR hr hw.2 q f) (fun Y => ?_) ⟨CO_heat (ntz_c (K := K3) c) hr, K0, K1, K2, min (K3 + 1) 8, RK_T hR c.2.1.2.1 (RK_rem c p) (fun x x1 x2 => pk_un (by omega))⟩
      rw [m_heats hK p.2.2.1.2.2.2 h9 hR hr hw.2 (by rw [e]; exact q), e]
  · exact S_ref 0 (by decide) i (fun rf h27 => xb_heats h0 h27 a0 a1 hw D F f) (fun Y => mb_heats a0 a1 (by rw [h9]; exact hw) Y 90 ab be ii)
theorem st_knocks {L c1 c2 : Nat} {xs : Nat → Int32} {X : icH} (I : INV L xs c1 c2 X) (a0 : Int32) : STi L xs c1 c2 80 174 [.int a0] [.int a0] X := by
  obtain ⟨ab, be, ii, A, H, R, N, D, F, f, i⟩ := I
  have h0 := i.1.1
  obtain ⟨c, K0, K1, K2, K3, p⟩ := i.1.2.2.1
  have h10 := c.1.1.2.1
  have hN := c.2.1.2.1
  by_cases hw : nI 0 ≤ a0 ∧ a0 ≤ nI N - nI 1
  · obtain ⟨r, hr, rfl⟩ := R_of (by omega) hw
    have hK := p.1.2.2.2
    have e := ((CO_t c).2.2 r hr).2.2.2.2.2
    have e9 := ((CO_t c).2.2 r hr).2.2.2.1
    by_cases q : D 11 r = 0
    · refine S_now i (x_knocks h0 hK p.2.1.2.2.2 hN hr q f) (fun Y => ?_) ⟨CO_knock (ntz_c (K := K3) c) hr, K0, K1, K2, min (K3 + 1) 8, RK_T c.2.1.1 hN (RK_rem c p) (fun x x1 x2 => pk_un (by omega))⟩
      rw [m_knocks hK p.2.2.1.2.2.2 h10 hN hr (by rw [e]; exact q), e9]
    · exact S_ref 1 (by decide) i (fun rf h27 => x_knocksN h0 h27 hN hr q F f) (fun Y => m_knocksN h10 hN hr (by rw [e]; exact q) Y 90 ab be ii)
  · exact S_ref 0 (by decide) i (fun rf h27 => xb_knocks h0 h27 a0 hw D F f) (fun Y => mb_knocks a0 (by rw [h10]; exact hw) Y 90 ab be ii)
theorem st_undo {L c1 c2 : Nat} {xs : Nat → Int32} {X : icH} (I : INV L xs c1 c2 X) : STi L xs c1 c2 81 175 [] [dum] X := by
  obtain ⟨ab, be, ii, A, H, R, N, D, F, f, i⟩ := I
  have h0 := i.1.1
  obtain ⟨c, K0, K1, K2, K3, p⟩ := i.1.2.2.1
  cases K3 with
  | zero => exact S_ref 1 (by decide) i (fun rf h27 => x_undoN h0 h27 p.2.1.2.2.2 H R N D f) (fun Y => m_undoN p.2.2.1.2.2.2 Y 90 ab be ii)
  | succ K =>
    have hK := p.1.2.2.2
    obtain ⟨H0, u1, u2, u3, u4⟩ := HC_undo c p
    refine S_now i (x_undo h0 (by omega) p.2.1.2.2.2 u1 H R N D) (fun Y => ?_) ⟨u3, K0, K1, K2, K, u4⟩
    rw [m_undo (by omega) p.2.2.1.2.2.2, u2]
theorem st_of {L c1 c2 : Nat} {xs : Nat → Int32} {X : icH} (I : INV L xs c1 c2 X) (a0 a1 : Int32) : STi L xs c1 c2 82 176 [.int a0, .int a1] [.int a0, .int a1] X := by
  obtain ⟨ab, be, ii, A, H, R, N, D, F, f, i⟩ := I
  have h0 := i.1.1
  have c := i.1.2.2.1.1
  have h10 := c.1.1.2.1
  have hN := c.2.1.2.1
  by_cases hw : (nI 0 ≤ a0 ∧ a0 ≤ nI N - nI 1) ∧ (nI 0 ≤ a1 ∧ a1 ≤ nI 5)
  · obtain ⟨r, hr, rfl⟩ := R_of (by omega) hw.1
    obtain ⟨j, -, hj, rfl⟩ := W_of (by decide) (by decide) hw.2
    refine S_same i (x_of h0 hN hr (by omega) H R D F f) (fun Y => ?_)
    have e := (c.1.2.2 (A 1)).2.2 (6 + j) (by omega) (by omega) r hr
    rw [vw_i (by omega) (by omega)] at e
    rw [m_of h10 hN hr (by omega), show 20 + 6 * j + r = 6 * (6 + j) - 16 + r by omega, e]
    rfl
  · exact S_ref 0 (by decide) i (fun rf h27 => xb_of h0 h27 a0 a1 hw D F f) (fun Y => mb_of a0 a1 (by rw [h10]; exact hw) Y 90 ab be ii)
theorem st_warmth {L c1 c2 : Nat} {xs : Nat → Int32} {X : icH} (I : INV L xs c1 c2 X) (a0 : Int32) : STi L xs c1 c2 85 179 [.int a0] [.int a0] X := by
  obtain ⟨ab, be, ii, A, H, R, N, D, F, f, i⟩ := I
  have h0 := i.1.1
  have c := i.1.2.2.1.1
  by_cases hw : nI 0 ≤ a0 ∧ a0 ≤ nI 7
  · obtain ⟨k, -, hk, rfl⟩ := W_of (by decide) (by decide) hw
    refine S_same i (x_warmth h0 (by omega) H R N D F f) (fun Y => ?_)
    rw [m_warmth (by omega), (CO_t c).1 k (by omega), show D 1 k + nI 9 = D 1 k - (-9) from ?_]
    rw [Int32.sub_eq_add_neg]; rfl
  · exact S_ref 0 (by decide) i (fun rf h27 => xb_warmth h0 h27 a0 hw D F f) (fun Y => mb_warmth a0 hw Y 90 ab be ii)
theorem st_more {L c1 c2 : Nat} {xs : Nat → Int32} {X : icH} (I : INV L xs c1 c2 X) (a0 : Int32) : STi L xs c1 c2 83 177 [.int a0] [.int a0, dum] X := by
  obtain ⟨ab, be, ii, A, H, R, N, D, F, f, i⟩ := I
  have h0 := i.1.1
  have c := i.1.2.2.1.1
  have h10 := c.1.1.2.1
  have hN := c.2.1.2.1
  have hH := c.2.2.1
  by_cases hw : nI 0 ≤ a0 ∧ a0 ≤ nI N - nI 1
  · obtain ⟨r, hr, rfl⟩ := R_of (by omega) hw
    refine S_same i (x_more h0 c.2.1 (by omega) hr F f) (fun Y => ?_)
    have e : ERl R N (vw (A 1) (A 7)) D := c.1.2.2 (A 7)
    rw [m_more (H := H) c.1.1 c.1.2.1 (by omega) hr, e.2.2 7 (by decide) (by decide) r hr, e.2.2 9 (by decide) (by decide) r hr, e.2.2 6 (by decide) (by decide) r hr, (CO_t c).1 _ (Nat.mod_lt _ (by decide)), ERl_wtr e _ (c.2.1.2.2.2.2 r hr).2]
  · exact S_ref 0 (by decide) i (fun rf h27 => xb_more h0 h27 a0 hw D F f) (fun Y => mb_more a0 (by rw [h10]; exact hw) Y 90 ab be ii)
theorem st_about {L c1 c2 : Nat} {xs : Nat → Int32} {X : icH} (I : INV L xs c1 c2 X) (a0 a1 : Int32) : STi L xs c1 c2 84 178 [.int a0, .int a1] [.int a0, .int a1] X := by
  obtain ⟨ab, be, ii, A, H, R, N, D, F, f, i⟩ := I
  have h0 := i.1.1
  have c := i.1.2.2.1.1
  have h9 := c.1.1.1
  have hR := c.2.1.1
  have hH := c.2.2.1
  by_cases hw : (nI 0 ≤ a0 ∧ a0 ≤ nI R - nI 1) ∧ (nI 0 ≤ a1 ∧ a1 ≤ nI 3)
  · obtain ⟨r, hr, rfl⟩ := R_of (by omega) hw.1
    obtain ⟨j, -, hj, rfl⟩ := W_of (by decide) (by decide) hw.2
    by_cases q : j = 3
    · subst q
      refine S_same i (x_about3 h0 c.2.1 (by omega) hr F f) (fun Y => ?_)
      have e : ERl R N (vw (A 1) (A 7)) D := c.1.2.2 (A 7)
      rw [m_about3 (H := H) c.1.1 c.1.2.1 (by omega) hr, (CO_t c).1 _ (Nat.mod_lt _ (by decide)), ERl_wtr e _ hr]
    · refine S_same i (x_about h0 hR hr (by omega) H N D F f) (fun Y => ?_)
      have e := (c.1.2.2 (A 1)).2.1 (2 + j) (by omega) (by omega) r hr
      rw [vw_r (by omega) (by omega)] at e
      rw [m_about h9 hR hr (by omega), show 11 + 3 * j + r = 5 + 3 * (2 + j) + r by omega, e]
      rfl
  · exact S_ref 0 (by decide) i (fun rf h27 => xb_about h0 h27 a0 a1 hw D F f) (fun Y => mb_about a0 a1 (by rw [h9]; exact hw) Y 90 ab be ii)
