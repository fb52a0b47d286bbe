/-! ===== one call on both sides: the frame, and the calls that set the house ===== -/
def IN (L : Nat) (xs : Nat → Int32) (c1 c2 : Nat) (X : icH) (ab be : Int64) (ii : Nat → Int32) (A : Nat → Nat → Int32) (H R N : Nat) (D : Nat → Nat → Int32) (F : Nat → Nat) (f : Nat → Nat → Int32) : Prop := CI X ab be ii A H R N D F f ∧ HM X 90 ab be ii A = X ∧ hg X icSc = some (as7 L xs) ∧ X.1 = c1 ∧ X.2.1 = c2
def STi (L : Nat) (xs : Nat → Int32) (c1 c2 KX KM : Nat) (ax am : List Value) (X : icH) : Prop := ∃ q X' Y, icE KX 0 (.ref 0 :: ax) [] X = some (some (.int q), X') ∧ icE KM 0 (.ref 90 :: am) [] X' = some (some (.int q), Y) ∧ (hg X' icSc = some (as7 L xs) ∧ ∃ fs, hg X' 90 = some (ob 8 fs)) ∧ INV L xs c1 c2 Y
def STl (L : Nat) (xs : Nat → Int32) (c1 c2 KX KM : Nat) (ax am : List Value) (X : icH) : Prop := ∃ q X' Y, icE KX 0 (.ref 0 :: ax) [] X = some (some (.long q), X') ∧ icE KM 0 (.ref 90 :: am) [] X' = some (some (.long q), Y) ∧ (hg X' icSc = some (as7 L xs) ∧ ∃ fs, hg X' 90 = some (ob 8 fs)) ∧ INV L xs c1 c2 Y
theorem S_mk {L c1 c2 KX KM : Nat} {xs : Nat → Int32} {ax am : List Value} {X X' : icH} {ab be ab' be' : Int64} {ii ii' : Nat → Int32} {A A' : Nat → Nat → Int32} {H R N H' R' N' : Nat} {D D' : Nat → Nat → Int32} {F F' : Nat → Nat} {f f' : Nat → Nat → Int32} {q : Int32} (i : IN L xs c1 c2 X ab be ii A H R N D F f) (hx : icE KX 0 (.ref 0 :: ax) [] X = some (some (.int q), X')) (hf : FR X X') (hm : icE KM 0 (.ref 90 :: am) [] (HM X' 90 ab be ii A) = some (some (.int q), HM X' 90 ab' be' ii' A')) (hc : CI X' ab' be' ii' A' H' R' N' D' F' f') : STi L xs c1 c2 KX KM ax am X := by
  rw [FR_M hf i.2.1] at hm
  exact ⟨q, X', _, hx, hm, ⟨(hf.2.2 icSc (by unfold icSc; omega)).trans i.2.2.1, _, (hf.2.2 90 (by omega)).trans ((congrArg (fun z => hg z 90) i.2.1).symm.trans (HM_o _ _ _ _ _ _))⟩, INV_mk i.2.2.1 i.2.2.2.1 i.2.2.2.2 hf hc⟩
theorem S_mkl {L c1 c2 KX KM : Nat} {xs : Nat → Int32} {ax am : List Value} {X X' : icH} {ab be ab' be' : Int64} {ii ii' : Nat → Int32} {A A' : Nat → Nat → Int32} {H R N H' R' N' : Nat} {D D' : Nat → Nat → Int32} {F F' : Nat → Nat} {f f' : Nat → Nat → Int32} {q : Int64} (i : IN L xs c1 c2 X ab be ii A H R N D F f) (hx : icE KX 0 (.ref 0 :: ax) [] X = some (some (.long q), X')) (hf : FR X X') (hm : icE KM 0 (.ref 90 :: am) [] (HM X' 90 ab be ii A) = some (some (.long q), HM X' 90 ab' be' ii' A')) (hc : CI X' ab' be' ii' A' H' R' N' D' F' f') : STl L xs c1 c2 KX KM ax am X := by
  rw [FR_M hf i.2.1] at hm
  exact ⟨q, X', _, hx, hm, ⟨(hf.2.2 icSc (by unfold icSc; omega)).trans i.2.2.1, _, (hf.2.2 90 (by omega)).trans ((congrArg (fun z => hg z 90) i.2.1).symm.trans (HM_o _ _ _ _ _ _))⟩, INV_mk i.2.2.1 i.2.2.2.1 i.2.2.2.2 hf hc⟩
theorem S_ref {L c1 c2 KX KM : Nat} {xs : Nat → Int32} {ax am : List Value} {X : icH} {ab be : Int64} {ii : Nat → Int32} {A : Nat → Nat → Int32} {H R N : Nat} {D : Nat → Nat → Int32} {F : Nat → Nat} {f : Nat → Nat → Int32} {q : Int32} (j : Nat) (hj : j < 3) (i : IN L xs c1 c2 X ab be ii A H R N D F f) (hx : ∀ rf, hg X 27 = some (ai 3 rf) → icE KX 0 (.ref 0 :: ax) [] (HH X 1 H R N D F f) = some (some (.int q), HH (rfz X rf j) 1 H R N D F f)) (hm : ∀ Y, icE KM 0 (.ref 90 :: am) [] (HM Y 90 ab be ii A) = some (some (.int q), HM Y 90 ab be ii (ud A 6 (upd (A 6) j (A 6 j + nI 1))))) : STi L xs c1 c2 KX KM ax am X := by
  obtain ⟨rf, h27, hr⟩ := i.1.2.2.2.2.2.1
  have h1 := i.1.2.1
  have x := hx rf h27
  rw [h1] at x
  have z := I_ref (j := j) i.1 h27 hr hj
  exact S_mk i x z.1 (hm _) z.2
theorem S_refl {L c1 c2 KX KM : Nat} {xs : Nat → Int32} {ax am : List Value} {X : icH} {ab be : Int64} {ii : Nat → Int32} {A : Nat → Nat → Int32} {H R N : Nat} {D : Nat → Nat → Int32} {F : Nat → Nat} {f : Nat → Nat → Int32} {q : Int64} (j : Nat) (hj : j < 3) (i : IN L xs c1 c2 X ab be ii A H R N D F f) (hx : ∀ rf, hg X 27 = some (ai 3 rf) → icE KX 0 (.ref 0 :: ax) [] (HH X 1 H R N D F f) = some (some (.long q), HH (rfz X rf j) 1 H R N D F f)) (hm : ∀ Y, icE KM 0 (.ref 90 :: am) [] (HM Y 90 ab be ii A) = some (some (.long q), HM Y 90 ab be ii (ud A 6 (upd (A 6) j (A 6 j + nI 1))))) : STl L xs c1 c2 KX KM ax am X := by
  obtain ⟨rf, h27, hr⟩ := i.1.2.2.2.2.2.1
  have h1 := i.1.2.1
  have x := hx rf h27
  rw [h1] at x
  have z := I_ref (j := j) i.1 h27 hr hj
  exact S_mkl i x z.1 (hm _) z.2
theorem CI_live {X : icH} {ab be : Int64} {ii : Nat → Int32} {A A' : Nat → Nat → Int32} {H R N H' R' N' : Nat} {D D' : Nat → Nat → Int32} {F F' : Nat → Nat} {f f' : Nat → Nat → Int32} (h : CI X ab be ii A H R N D F f) (eA : ∀ a, 3 ≤ a → a ≤ 6 → A' a = A a) (hc : HC H' R' N' D' F' f' (A' 1)) : CI (HH X 1 H' R' N' D' F' f') ab be ii A' H' R' N' D' F' f' := by
  obtain ⟨h0, h1, h2, h3, h4, h5, h6, h7⟩ := h
  have e : ∀ a, a < 1 ∨ 21 < a → hg (HH X 1 H' R' N' D' F' f') a = hg X a := fun a ha => HH_n (by omega)
  exact ⟨(e _ (by omega)).trans h0, HH_id _ _ _ _ _ _ _ _, hc, SCR_ag h3 (fun a _ _ => e a (by omega)), FIX_ag h4 (fun a _ => e a (by omega)), REF_ag h5 (e _ (by omega)) (eA 6 (by decide) (by decide)), TXT_ag h6 (fun a _ _ => e a (by omega)) rfl (eA 5 (by decide) (by decide)), KEP_ag h7 (fun a _ => e a (by omega)) (eA 4 (by decide) (by decide)) (eA 3 (by decide) (by decide))⟩
theorem S_live {L c1 c2 KX KM : Nat} {xs : Nat → Int32} {ax am : List Value} {X : icH} {ab be : Int64} {ii : Nat → Int32} {A : Nat → Nat → Int32} {H R N H' R' N' : Nat} {D D' : Nat → Nat → Int32} {F F' : Nat → Nat} {f f' : Nat → Nat → Int32} {q : Int32} (i : IN L xs c1 c2 X ab be ii A H R N D F f) (hx : icE KX 0 (.ref 0 :: ax) [] (HH X 1 H R N D F f) = some (some (.int q), HH X 1 H' R' N' D' F' f')) (hm : ∀ Y, ∃ A', icE KM 0 (.ref 90 :: am) [] (HM Y 90 ab be ii A) = some (some (.int q), HM Y 90 ab be ii A') ∧ (∀ a, 3 ≤ a → a ≤ 6 → A' a = A a) ∧ HC H' R' N' D' F' f' (A' 1)) : STi L xs c1 c2 KX KM ax am X := by
  rw [i.1.2.1] at hx
  obtain ⟨A', m1, m2, m3⟩ := hm (HH X 1 H' R' N' D' F' f')
  exact S_mk i hx (FR_H (by decide) _ _ _ _ _ _) m1 (CI_live i.1 m2 m3)
/-- a live change of the row 'now' alone -/
theorem S_now {L c1 c2 KX KM : Nat} {xs : Nat → Int32} {ax am : List Value} {X : icH} {ab be : Int64} {ii : Nat → Int32} {A : Nat → Nat → Int32} {T : Nat → Int32} {H R N H' R' N' : Nat} {D D' : Nat → Nat → Int32} {F F' : Nat → Nat} {f f' : Nat → Nat → Int32} {q : Int32} (i : IN L xs c1 c2 X ab be ii A H R N D F f) (hx : icE KX 0 (.ref 0 :: ax) [] (HH X 1 H R N D F f) = some (some (.int q), HH X 1 H' R' N' D' F' f')) (hm : ∀ Y, icE KM 0 (.ref 90 :: am) [] (HM Y 90 ab be ii A) = some (some (.int q), HM Y 90 ab be ii (ud A 1 T))) (hc : HC H' R' N' D' F' f' T) : STi L xs c1 c2 KX KM ax am X :=
  S_live i hx (fun Y => ⟨_, hm Y, fun a _ _ => ud_n (by omega), by rw [ud_s]; exact hc⟩)
theorem S_same {L c1 c2 KX KM : Nat} {xs : Nat → Int32} {ax am : List Value} {X : icH} {ab be : Int64} {ii : Nat → Int32} {A : Nat → Nat → Int32} {H R N : Nat} {D : Nat → Nat → Int32} {F : Nat → Nat} {f : Nat → Nat → Int32} {q : Int32} (i : IN L xs c1 c2 X ab be ii A H R N D F f) (hx : icE KX 0 (.ref 0 :: ax) [] (HH X 1 H R N D F f) = some (some (.int q), HH X 1 H R N D F f)) (hm : ∀ Y, icE KM 0 (.ref 90 :: am) [] (HM Y 90 ab be ii A) = some (some (.int q), HM Y 90 ab be ii A)) : STi L xs c1 c2 KX KM ax am X :=
  S_live i hx (fun Y => ⟨A, hm Y, fun _ _ _ => rfl, i.1.2.2.1⟩)
theorem st_house {L c1 c2 : Nat} {xs : Nat → Int32} {X : icH} (I : INV L xs c1 c2 X) (w : Int32) : STi L xs c1 c2 70 152 [.int w, dum] [.int w, dum] X := by
  obtain ⟨ab, be, ii, A, H, R, N, D, F, f, i⟩ := I
  have h0 := i.1.1
  obtain ⟨c, K0, K1, K2, K3, p⟩ := i.1.2.2.1
  by_cases hw : -9 ≤ w ∧ w ≤ nI 9
  · obtain ⟨rf, h27, -⟩ := i.1.2.2.2.2.2.1
    refine S_now i ((x_house h0 h27 (RK_F p) w H R N D f).trans (if_pos hw)) (fun Y => ?_) ⟨CO_begin hw.1 hw.2 D (A 1), 0, 0, 0, 0, RK_z (fun j hj => if_pos hj) (fun q h1 h2 => ?_)⟩
    · rw [m_house hw, c.1.1.2.1]
    · unfold fil; rw [if_neg (by omega), if_pos (by omega)]
  · exact S_ref 0 (by decide) i (fun rf h27 => xb_house h0 h27 w hw D F f) (fun Y => mb_house w hw Y 90 ab be ii)
theorem st_warm {L c1 c2 : Nat} {xs : Nat → Int32} {X : icH} (I : INV L xs c1 c2 X) (a0 a1 : Int32) : STi L xs c1 c2 71 153 [.int a0, .int a1] [.int a0, .int a1] X := by
  obtain ⟨ab, be, ii, A, H, R, N, D, F, f, i⟩ := I
  have h0 := i.1.1
  obtain ⟨c, K0, K1, K2, K3, p⟩ := i.1.2.2.1
  by_cases hw : (nI 0 ≤ a0 ∧ a0 ≤ nI 7) ∧ (-9 ≤ a1 ∧ a1 ≤ nI 9)
  · obtain ⟨k, -, hk, rfl⟩ := W_of (by decide) (by decide) hw.1
    refine S_now i (x_warm h0 (RK_F p) (by omega) hw.2 H R N D f) (fun Y => m_warm (by omega) hw.2 Y 90 ab be ii) ⟨CO_c (CO_warm c (k := k) (by omega) hw.2.1 hw.2.2) (fun q hq => pk_un (by omega)), K0, K1, K2, 0, RK_e p (fun q h1 h2 => ?_) pk_us⟩
    rw [pk_un (by omega), pk_un (by omega)]
  · exact S_ref 0 (by decide) i (fun rf h27 => xb_warm h0 h27 a0 a1 hw D F f) (fun Y => mb_warm a0 a1 hw Y 90 ab be ii)
theorem st_roof {L c1 c2 : Nat} {xs : Nat → Int32} {X : icH} (I : INV L xs c1 c2 X) (a0 a1 a2 : Int32) : STi L xs c1 c2 72 155 [.int a0, .int a1, .int a2] [.int a0, .int a1, .int a2] X := by
  obtain ⟨ab, be, ii, A, H, R, N, D, F, f, i⟩ := I
  have h0 := i.1.1
  obtain ⟨c, K0, K1, K2, K3, p⟩ := i.1.2.2.1
  have h9 := c.1.1.1
  by_cases hw : (nI 0 ≤ a0 ∧ a0 ≤ nI 5) ∧ (nI 0 ≤ a1 ∧ a1 ≤ nI 9) ∧ (nI 0 ≤ a2 ∧ a2 ≤ nI 60)
  · by_cases hR : R < 3
    · have ka : kd 6 a0 := by obtain ⟨j, -, hj, rfl⟩ := W_of (by decide) (by decide) hw.1; exact kd_n (by omega) (by omega)
      have kc : kd 61 a2 := by obtain ⟨j, -, hj, rfl⟩ := W_of (by decide) (by decide) hw.2.2; exact kd_n (by omega) (by omega)
      refine S_now i (x_roof h0 (RK_F p) hw.1 hw.2.1 hw.2.2 hR H N D f) (fun Y => m_roof hR h9 hw.1 hw.2.1 hw.2.2 Y 90 ab be ii) ⟨CO_c (CO_roof c hR ka kc) (fun q hq => pk_un (by omega)), K0, K1, K2, 0, RK_e p (fun q h1 h2 => ?_) pk_us⟩
      rw [pk_un (by omega), pk_un (by omega), pk_un (by omega), pk_un (by omega), pk_un (by omega)]
    · have : R = 3 := by have := c.2.1.1; omega
      subst this
      exact S_ref 2 (by decide) i (fun rf h27 => x_roofF h0 h27 hw.1 hw.2.1 hw.2.2 H N D F f) (fun Y => m_roofF h9 hw.1 hw.2.1 hw.2.2 Y 90 ab be ii)
  · exact S_ref 0 (by decide) i (fun rf h27 => xb_roof h0 h27 a0 a1 a2 hw D F f) (fun Y => mb_roof a0 a1 a2 hw Y 90 ab be ii)
theorem st_ice {L c1 c2 : Nat} {xs : Nat → Int32} {X : icH} (I : INV L xs c1 c2 X) (a0 a1 a2 a3 a4 : Int32) : STi L xs c1 c2 73 157 [.int a0, .int a1, .int a2, .int a3, .int a4] [.int a0, .int a1, .int a2, .int a3, .int a4] X := by
  obtain ⟨ab, be, ii, A, H, R, N, D, F, f, i⟩ := I
  have h0 := i.1.1
  obtain ⟨c, K0, K1, K2, K3, p⟩ := i.1.2.2.1
  have h9 := c.1.1.1
  have h10 := c.1.1.2.1
  by_cases hw : (nI 0 ≤ a0 ∧ a0 ≤ nI R - nI 1) ∧ (nI 0 ≤ a1 ∧ a1 ≤ nI 5) ∧ (nI 0 ≤ a2 ∧ a2 ≤ nI 7) ∧ (nI 1 ≤ a3 ∧ a3 ≤ nI 30) ∧ (nI 1 ≤ a4 ∧ a4 ≤ nI 40)
  · have hm9 : nI 0 ≤ a0 ∧ a0 ≤ A 1 9 - nI 1 := by rw [h9]; exact hw.1
    by_cases hN : N < 6
    · have hR3 := c.2.1.1
      have k0 : kd R a0 := by obtain ⟨j, hj, rfl⟩ := R_of (by omega) hw.1; exact kd_n hj (by omega)
      have k1 : kd 6 a1 := by obtain ⟨j, -, hj, rfl⟩ := W_of (by decide) (by decide) hw.2.1; exact kd_n (by omega) (by omega)
      have k2 : kd 8 a2 := by obtain ⟨j, -, hj, rfl⟩ := W_of (by decide) (by decide) hw.2.2.1; exact kd_n (by omega) (by omega)
      have k3 : (-1 : Int32) < a3 := by obtain ⟨j, -, hj, rfl⟩ := W_of (by decide) (by decide) hw.2.2.2.1; exact nI_gt (by omega)
      refine S_now i (x_ice h0 (RK_F p) hw.1 hw.2.1 hw.2.2.1 hw.2.2.2.1 hw.2.2.2.2 hN H D f) (fun Y => m_ice hN h10 hm9 hw.2.1 hw.2.2.1 hw.2.2.2.1 hw.2.2.2.2 Y 90 ab be ii) ⟨CO_c (CO_ice c hN k0 k1 k2 k3) (fun q hq => pk_un (by omega)), K0, K1, K2, 0, RK_e p (fun q h1 h2 => ?_) pk_us⟩
      rw [pk_un (by omega), pk_un (by omega), pk_un (by omega), pk_un (by omega), pk_un (by omega), pk_un (by omega), pk_un (by omega), pk_un (by omega)]
    · have : N = 6 := by have := c.2.1.2.1; omega
      subst this
      exact S_ref 2 (by decide) i (fun rf h27 => x_iceF h0 h27 hw.1 hw.2.1 hw.2.2.1 hw.2.2.2.1 hw.2.2.2.2 H D F f) (fun Y => m_iceF h10 hm9 hw.2.1 hw.2.2.1 hw.2.2.2.1 hw.2.2.2.2 Y 90 ab be ii)
  · exact S_ref 0 (by decide) i (fun rf h27 => xb_ice h0 h27 a0 a1 a2 a3 a4 hw D F f) (fun Y => mb_ice a0 a1 a2 a3 a4 (by rw [h9]; exact hw) Y 90 ab be ii)
