/-! ===== both sides: seen note mark forget status part count digest ===== -/
theorem S_samel {L c1 c2 KX KM : Nat} {xs : Nat → Int32} {ax am : List Value} {X : icH} {ab be : Int64} {ii : Nat → Int32} {A : Nat → Nat → Int32} {H R N : Nat} {D : Nat → Nat → Int32} {F : Nat → Nat} {f : Nat → Nat → Int32} {q : Int64} (i : IN L xs c1 c2 X ab be ii A H R N D F f) (hx : icE KX 0 (.ref 0 :: ax) [] (HH X 1 H R N D F f) = some (some (.long q), HH X 1 H R N D F f)) (hm : ∀ Y, icE KM 0 (.ref 90 :: am) [] (HM Y 90 ab be ii A) = some (some (.long q), HM Y 90 ab be ii A)) : STl L xs c1 c2 KX KM ax am X := by
  rw [i.1.2.1] at hx
  exact S_mkl i hx (FR_r X) (hm X) i.1
theorem st_seen {L c1 c2 : Nat} {xs : Nat → Int32} {X : icH} (I : INV L xs c1 c2 X) (a0 a1 a2 a3 : Int32) : STi L xs c1 c2 94 192 [.int a0, .int a1, .int a2, .int a3] [.int a0, .int a1, .int a2, .int a3, dum] X := by
  obtain ⟨ab, be, ii, A, H, R, N, D, F, f, i⟩ := I
  have h0 := i.1.1
  obtain ⟨c, K0, K1, K2, K3, p⟩ := i.1.2.2.1
  have h9 := c.1.1.1
  by_cases hw : (nI 0 ≤ a0 ∧ a0 ≤ nI R - nI 1) ∧ (-9 ≤ a1 ∧ a1 ≤ nI 9) ∧ (nI 0 ≤ a2 ∧ a2 ≤ nI 60) ∧ (nI 0 ≤ a3 ∧ a3 ≤ nI 60)
  · have hm9 : nI 0 ≤ a0 ∧ a0 ≤ A 1 9 - nI 1 := by rw [h9]; exact hw.1
    have kc : kd 61 a2 := by obtain ⟨j, -, hj, rfl⟩ := W_of (by decide) (by decide) hw.2.2.1; exact kd_n (by omega) (by omega)
    by_cases q : K0 < 5
    · refine S_now i (x_seen h0 q p.2.1.1 hw.1 hw.2.1 hw.2.2.1 hw.2.2.2 D f) (fun Y => m_seen q p.2.2.1.1 hm9 hw.2.1 hw.2.2.1 hw.2.2.2 Y 90 ab be ii) ⟨CO_c c (fun x hx => ?_), K0 + 1, K1, K2, K3, RK_seen c.2.1.1 c.2.1.2.1 p q kc⟩
      rw [pk_un (by omega), pk_un (by omega), pk_un (by omega), pk_un (by omega), pk_un (by omega)]
    · have : K0 = 5 := by have := p.1.1; omega
      subst this
      exact S_ref 2 (by decide) i (fun rf h27 => x_seenF h0 h27 p.2.1.1 hw.1 hw.2.1 hw.2.2.1 hw.2.2.2 D f) (fun Y => m_seenF p.2.2.1.1 hm9 hw.2.1 hw.2.2.1 hw.2.2.2 Y 90 ab be ii)
  · exact S_ref 0 (by decide) i (fun rf h27 => xb_seen h0 h27 a0 a1 a2 a3 hw D F f) (fun Y => mb_seen a0 a1 a2 a3 (by rw [h9]; exact hw) Y 90 ab be ii)
theorem st_note {L c1 c2 : Nat} {xs : Nat → Int32} {X : icH} (I : INV L xs c1 c2 X) (a0 a1 a2 a3 a4 : Int32) : STi L xs c1 c2 97 197 [.int a0, .int a1, .int a2, .int a3, .int a4] [.int a0, .int a1, .int a2, .int a3, .int a4, dum] X := by
  obtain ⟨ab, be, ii, A, H, R, N, D, F, f, i⟩ := I
  have h0 := i.1.1
  obtain ⟨c, K0, K1, K2, K3, p⟩ := i.1.2.2.1
  have h10 := c.1.1.2.1
  by_cases hw : (nI 0 ≤ a0 ∧ a0 ≤ nI N - nI 1) ∧ (nI 1 ≤ a1 ∧ a1 ≤ nI 30) ∧ (-9 ≤ a2 ∧ a2 ≤ nI 9) ∧ (nI 0 ≤ a3 ∧ a3 ≤ nI 20) ∧ (-30 ≤ a4 ∧ a4 ≤ nI 50)
  · have hm10 : nI 0 ≤ a0 ∧ a0 ≤ A 1 10 - nI 1 := by rw [h10]; exact hw.1
    by_cases q : K1 < 6
    · refine S_now i (x_note h0 q p.2.1.2.1 hw.1 hw.2.1 hw.2.2.1 hw.2.2.2.1 hw.2.2.2.2 D f) (fun Y => m_note q p.2.2.1.2.1 hm10 hw.2.1 hw.2.2.1 hw.2.2.2.1 hw.2.2.2.2 Y 90 ab be ii) ⟨CO_c c (fun x hx => ?_), K0, K1 + 1, K2, K3, RK_note c.2.1.1 c.2.1.2.1 p q⟩
      rw [pk_un (by omega), pk_un (by omega), pk_un (by omega), pk_un (by omega), pk_un (by omega), pk_un (by omega)]
    · have : K1 = 6 := by have := p.1.2.1; omega
      subst this
      exact S_ref 2 (by decide) i (fun rf h27 => x_noteF h0 h27 p.2.1.2.1 hw.1 hw.2.1 hw.2.2.1 hw.2.2.2.1 hw.2.2.2.2 D f) (fun Y => m_noteF p.2.2.1.2.1 hm10 hw.2.1 hw.2.2.1 hw.2.2.2.1 hw.2.2.2.2 Y 90 ab be ii)
  · exact S_ref 0 (by decide) i (fun rf h27 => xb_note h0 h27 a0 a1 a2 a3 a4 hw D F f) (fun Y => mb_note a0 a1 a2 a3 a4 (by rw [h10]; exact hw) Y 90 ab be ii)
theorem st_mark {L c1 c2 : Nat} {xs : Nat → Int32} {X : icH} (I : INV L xs c1 c2 X) (a0 a1 a2 a3 a4 : Int32) : STi L xs c1 c2 98 198 [.int a0, .int a1, .int a2, .int a3, .int a4] [.int a0, .int a1, .int a2, .int a3, .int a4, dum] X := by
  obtain ⟨ab, be, ii, A, H, R, N, D, F, f, i⟩ := I
  have h0 := i.1.1
  obtain ⟨c, K0, K1, K2, K3, p⟩ := i.1.2.2.1
  have h9 := c.1.1.1
  by_cases hw : (nI 0 ≤ a0 ∧ a0 ≤ nI R - nI 1) ∧ (nI 0 ≤ a1 ∧ a1 ≤ nI 9) ∧ (-9 ≤ a2 ∧ a2 ≤ nI 9) ∧ (nI 0 ≤ a3 ∧ a3 ≤ nI 60) ∧ (nI 0 ≤ a4 ∧ a4 ≤ nI 60)
  · have hm9 : nI 0 ≤ a0 ∧ a0 ≤ A 1 9 - nI 1 := by rw [h9]; exact hw.1
    have kc : kd 61 a3 := by obtain ⟨j, -, hj, rfl⟩ := W_of (by decide) (by decide) hw.2.2.2.1; exact kd_n (by omega) (by omega)
    by_cases q : K2 < 6
    · refine S_now i (x_mark h0 q p.2.1.2.2.1 hw.1 hw.2.1 hw.2.2.1 hw.2.2.2.1 hw.2.2.2.2 D f) (fun Y => m_mark q p.2.2.1.2.2.1 hm9 hw.2.1 hw.2.2.1 hw.2.2.2.1 hw.2.2.2.2 Y 90 ab be ii) ⟨CO_c c (fun x hx => ?_), K0, K1, K2 + 1, K3, RK_mark c.2.1.1 c.2.1.2.1 p q kc⟩
      rw [pk_un (by omega), pk_un (by omega), pk_un (by omega), pk_un (by omega), pk_un (by omega), pk_un (by omega)]
    · have : K2 = 6 := by have := p.1.2.2.1; omega
      subst this
      exact S_ref 2 (by decide) i (fun rf h27 => x_markF h0 h27 p.2.1.2.2.1 hw.1 hw.2.1 hw.2.2.1 hw.2.2.2.1 hw.2.2.2.2 D f) (fun Y => m_markF p.2.2.1.2.2.1 hm9 hw.2.1 hw.2.2.1 hw.2.2.2.1 hw.2.2.2.2 Y 90 ab be ii)
  · exact S_ref 0 (by decide) i (fun rf h27 => xb_mark h0 h27 a0 a1 a2 a3 a4 hw D F f) (fun Y => mb_mark a0 a1 a2 a3 a4 (by rw [h9]; exact hw) Y 90 ab be ii)
theorem o_rng {a : Int32} {hi : Nat} (hh : hi < 2 ^ 31) (h : ¬ (nI 0 ≤ a ∧ a ≤ nI hi)) : a.toInt < 0 ∨ (hi : Int) < a.toInt := by
  rw [Int32.le_iff_toInt_le, Int32.le_iff_toInt_le, nI_toInt (by decide), nI_toInt hh] at h
  omega
theorem st_forget {L c1 c2 : Nat} {xs : Nat → Int32} {X : icH} (I : INV L xs c1 c2 X) (a0 : Int32) : STi L xs c1 c2 99 199 [.int a0] [.int a0, dum, dum] X := by
  obtain ⟨ab, be, ii, A, H, R, N, D, F, f, i⟩ := I
  have h0 := i.1.1
  obtain ⟨c, K0, K1, K2, K3, p⟩ := i.1.2.2.1
  by_cases hw : nI 0 ≤ a0 ∧ a0 ≤ nI 2
  · obtain ⟨k, -, hk, rfl⟩ := W_of (by decide) (by decide) hw
    have : k = 0 ∨ k = 1 ∨ k = 2 := by omega
    rcases this with rfl | rfl | rfl
    · refine S_now i (x_forget0 h0 (RK_F p) H R N D f) (fun Y => ?_) ⟨CO_c c (fun x hx => pk_un (by omega)), 0, K1, K2, K3, RK_fo0 c.2.1.1 c.2.1.2.1 p⟩
      rw [m_forget0, p.2.2.1.1, p.2.1.1, show 4 * K0 / wj 0 = K0 from Nat.mul_div_cancel_left K0 (by decide)]
    · refine S_now i (x_forget1 h0 (RK_F p) H R N D f) (fun Y => ?_) ⟨CO_c c (fun x hx => pk_un (by omega)), K0, 0, K2, K3, RK_fo1 c.2.1.1 c.2.1.2.1 p⟩
      rw [m_forget1, p.2.2.1.2.1, p.2.1.2.1, show 5 * K1 / wj 1 = K1 from Nat.mul_div_cancel_left K1 (by decide)]
    · refine S_now i (x_forget2 h0 (RK_F p) H R N D f) (fun Y => ?_) ⟨CO_c c (fun x hx => pk_un (by omega)), K0, K1, 0, K3, RK_fo2 c.2.1.1 c.2.1.2.1 p⟩
      rw [m_forget2, p.2.2.1.2.2.1, p.2.1.2.2.1, show 5 * K2 / wj 2 = K2 from Nat.mul_div_cancel_left K2 (by decide)]
  · exact S_ref 0 (by decide) i (fun rf h27 => x_forgetB h0 h27 (o_rng (by decide) hw) H R N D F f) (fun Y => m_forgetB hw Y 90 ab be ii)
theorem st_status {L c1 c2 : Nat} {xs : Nat → Int32} {X : icH} (I : INV L xs c1 c2 X) (a0 : Int32) : STi L xs c1 c2 110 215 [.int a0] [.int a0] X := by
  obtain ⟨ab, be, ii, A, H, R, N, D, F, f, i⟩ := I
  have h0 := i.1.1
  by_cases hw : nI 0 ≤ a0 ∧ a0 ≤ nI 2
  · obtain ⟨k, -, hk, rfl⟩ := W_of (by decide) (by decide) hw
    obtain ⟨rf, h27, hr⟩ := i.1.2.2.2.2.2.1
    refine S_same i (x_status h0 h27 (by omega) H R N D F f) (fun Y => ?_)
    rw [m_status (by omega), hr k (by omega)]
  · exact S_ref 0 (by decide) i (fun rf h27 => xb_status h0 h27 a0 hw D F f) (fun Y => mb_status a0 hw Y 90 ab be ii)
theorem st_part {L c1 c2 : Nat} {xs : Nat → Int32} {X : icH} (I : INV L xs c1 c2 X) (a0 : Int32) : STl L xs c1 c2 107 212 [.int a0] [.int a0] X := by
  obtain ⟨ab, be, ii, A, H, R, N, D, F, f, i⟩ := I
  have h0 := i.1.1
  by_cases q0 : a0 = 0
  · have : a0 = nI 0 := q0
    subst this
    exact S_samel i (x_part h0 (k := 0) (by decide) H R N D F f) (fun Y => m_part0 Y 90 ab be ii)
  · by_cases q1 : a0 = nI 1
    · subst q1
      exact S_samel i (x_part h0 (k := 1) (by decide) H R N D F f) (fun Y => m_part1 Y 90 ab be ii)
    · exact S_refl 0 (by decide) i (fun rf h27 => x_partB h0 h27 q0 q1 H R N D F f) (fun Y => m_partB q0 q1 Y 90 ab be ii)
theorem RK_TL {H R N K0 K1 K2 K3 : Nat} {D : Nat → Nat → Int32} {F : Nat → Nat} {f : Nat → Nat → Int32} {T : Nat → Int32} (c : CO H R N D T) (p : RK R N K0 K1 K2 K3 F f T) : TL H R N D F T := by
  obtain ⟨-, ⟨b0, b1, b2, b3⟩, ⟨c0, c1, c2, c3⟩, -⟩ := p
  refine ⟨c.1, c.2.2.2.2.2.2, ?_, ?_, ?_, ?_⟩
  · rw [b0, Nat.mul_div_cancel_left K0 (by decide)]; exact c0
  · rw [b1, Nat.mul_div_cancel_left K1 (by decide)]; exact c1
  · rw [b2, Nat.mul_div_cancel_left K2 (by decide)]; exact c2
  · rw [b3, Nat.mul_div_cancel_left K3 (by decide)]; exact c3
theorem st_count {L c1 c2 : Nat} {xs : Nat → Int32} {X : icH} (I : INV L xs c1 c2 X) (a0 : Int32) : STi L xs c1 c2 111 218 [.int a0] [.int a0] X := by
  obtain ⟨ab, be, ii, A, H, R, N, D, F, f, i⟩ := I
  have h0 := i.1.1
  obtain ⟨c, K0, K1, K2, K3, p⟩ := i.1.2.2.1
  obtain ⟨z, t, s, e, v, nb, tb, b, t1, t2, t3, t4, t5, t6⟩ := i.1.2.2.2.2.2.2.1
  by_cases hw : nI 0 ≤ a0 ∧ a0 ≤ nI 11
  · obtain ⟨k, -, hk, rfl⟩ := W_of (by decide) (by decide) hw
    exact S_same i (x_count h0 t1 c.2.1.1 c.2.1.2.1 (RK_F p) (by omega) H D f) (fun Y => m_count (RK_TL c p) t5 (by omega) Y 90 ab be)
  · exact S_ref 0 (by decide) i (fun rf h27 => x_countB h0 h27 (o_rng (by decide) hw) H R N D F f) (fun Y => m_countB hw Y 90 ab be ii)
theorem st_digest {L c1 c2 : Nat} {xs : Nat → Int32} {X : icH} (I : INV L xs c1 c2 X) : STl L xs c1 c2 112 220 [dum, dum, dum] [dum, dum, dum, dum] X := by
  obtain ⟨ab, be, ii, A, H, R, N, D, F, f, i⟩ := I
  have h0 := i.1.1
  obtain ⟨c, K0, K1, K2, K3, p⟩ := i.1.2.2.1
  obtain ⟨z, t, s, e, v, nb, tb, b, t1, t2, t3, t4, t5, t6⟩ := i.1.2.2.2.2.2.2.1
  have b0 := p.2.1.1
  have b1 := p.2.1.2.1
  have b2 := p.2.1.2.2.1
  exact S_samel i (x_digest h0 t1 c.2.1.1 c.2.1.2.1 (RK_F p) H D f) (fun Y => m_digest (RK_TL c p) t5 c.2.2.2.1 p.1.1 p.1.2.1 p.1.2.2.1 b0 b1 b2 (by rw [b0]; exact p.2.2.2.1) (by rw [b1]; exact p.2.2.2.2.1) (by rw [b2]; exact p.2.2.2.2.2.1) Y 90 ab be)
