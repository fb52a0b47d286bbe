/-! ===== the reference: is, look ===== -/
theorem gi_ml2 {R N K r k : Nat} {D f : Nat → Nat → Int32} {A : Nat → Nat → Int32} (hM : MR R N 0 0 D (upd (A 1) 0 (nI 0))) (hK : K ≤ 6) (hk : k < K) (hf : ∀ c, c < 5 * K → A 1 (78 + c) = f 1 c) (hr : r < N) (c1 : f 1 (5 * k) = nI r) (h : icH) (m : Nat) (ab be : Int64) (ii : Nat → Int32) : ∀ (n e : Nat), e + n = 6 → icE 200 27 [.ref m, .int (nI r), .int (nI (msk (fun c => if c < e then gi_fit f D r (k + 1) c else gi_fit f D r k c) 6)), .int (nI k), .int (nI (78 + 5 * k)), .int (nI e)] [] (HM h m ab be ii A) = icE 200 109 [.ref m, .int (nI r), .int (nI (msk (gi_fit f D r (k + 1)) 6)), .int (nI k), .int (nI (78 + 5 * k)), .int (nI 6)] [] (HM h m ab be ii A)
  | 0, e, him => by
    have : e = 6 := by omega
    subst this
    rw [msk_c (q := gi_fit f D r (k + 1)) 6 (fun c hc => if_pos hc)]
    rw [rh_200_27]
    simp only [SA, rw_200, if_pos (nI_le (Nat.le_refl 6) (show 6 < 2 ^ 31 by decide))]
  | n + 1, e, him => by
    have he : e < 6 := by omega
    have b2 : 292 < 2 ^ 31 := by decide
    have hR := hM.1.2.2.1
    have hN := hM.1.2.2.2.1
    have ih := gi_ml2 hM hK hk hf hr c1 h m ab be ii n (e + 1) (by omega)
    refine Eq.trans ?_ ih
    have f0 : A 1 (78 + 5 * k) = nI r := (hf (5 * k) (by omega)).trans c1
    have f1 : A 1 (78 + 5 * k + 1) = f 1 (5 * k + 1) := hf (5 * k + 1) (by omega)
    have f2 : A 1 (78 + 5 * k + 2) = f 1 (5 * k + 2) := hf (5 * k + 2) (by omega)
    have f3 : A 1 (78 + 5 * k + 3) = f 1 (5 * k + 3) := hf (5 * k + 3) (by omega)
    have fl : A 1 (78 + 5 * k + 4) = f 1 (5 * k + 4) := hf (5 * k + 4) (by omega)
    have cw : icE 146 0 [.int (nI e), .int (f 1 (5 * k + 1)), .int (f 1 (5 * k + 2)), .int (f 1 (5 * k + 3)), dum, dum] [] (HM h m ab be ii A) = some (some (.int (gi_br f D r k e)), HM h m ab be ii A) := c_mmore he _ _ _ _
    have lt := msk_10 (fun c => if c < e then gi_fit f D r (k + 1) c else gi_fit f D r k c) (show 6 ≤ 10 by decide)
    rw [rh_200_27]
    by_cases c2 : gi_br f D r k e = f 1 (5 * k + 4)
    · have em : msk (fun c => if c < e + 1 then gi_fit f D r (k + 1) c else gi_fit f D r k c) 6 = msk (fun c => if c < e then gi_fit f D r (k + 1) c else gi_fit f D r k c) 6 := by
        apply msk_c
        intro c hc
        by_cases q : c = e
        · subst q
          rw [if_pos (Nat.lt_succ_self c), if_neg (Nat.lt_irrefl c)]
          have : gi_bad f D r c k = false := decide_eq_false (fun z => z.2 c2)
          show (!(anyB (gi_bad f D r c) (k + 1))) = _
          rw [fit_s (fun c k => gi_bad f D r c k) k c]
          rw [this]
          exact Bool.and_true _
        · by_cases q2 : c < e
          · rw [if_pos q2, if_pos (by omega)]
          · rw [if_neg q2, if_neg (by omega)]
      rw [em]
      simp only [SA, rw_200, HM_o, HMr, if_neg (nI_ge he (show 6 < 2 ^ 31 by decide)), nI_add, ia_n (show 78 + 5 * k < 292 by omega) b2, ia_n (show 78 + 5 * k + 1 < 292 by omega) b2, ia_n (show 78 + 5 * k + 2 < 292 by omega) b2, ia_n (show 78 + 5 * k + 3 < 292 by omega) b2, ia_n (show 78 + 5 * k + 4 < 292 by omega) b2, f0, f1, f2, f3, fl, if_true, cw, if_pos c2, an6 _ (msk_lt _ 6)]
    · have em : msk (fun c => if c < e + 1 then gi_fit f D r (k + 1) c else gi_fit f D r k c) 6 = msk (fun c => if c = e then false else (fun c => if c < e then gi_fit f D r (k + 1) c else gi_fit f D r k c) c) 6 := by
        apply msk_c
        intro c hc
        by_cases q : c = e
        · subst q
          rw [if_pos (Nat.lt_succ_self c), if_pos rfl]
          have : gi_bad f D r c k = true := decide_eq_true ⟨c1, c2⟩
          show (!(anyB (gi_bad f D r c) (k + 1))) = _
          rw [fit_s (fun c k => gi_bad f D r c k) k c]
          rw [this]
          exact Bool.and_false _
        · rw [if_neg q]
          dsimp only
          by_cases q2 : c < e
          · rw [if_pos q2, if_pos (by omega)]
          · rw [if_neg q2, if_neg (by omega)]
      rw [em, msk_cl 6 he]
      simp only [SA, rw_200, HM_o, HMr, if_neg (nI_ge he (show 6 < 2 ^ 31 by decide)), nI_add, ia_n (show 78 + 5 * k < 292 by omega) b2, ia_n (show 78 + 5 * k + 1 < 292 by omega) b2, ia_n (show 78 + 5 * k + 2 < 292 by omega) b2, ia_n (show 78 + 5 * k + 3 < 292 by omega) b2, ia_n (show 78 + 5 * k + 4 < 292 by omega) b2, f0, f1, f2, f3, fl, if_true, cw, if_neg c2, cl10 _ lt e (show e < 10 by omega)]
theorem gi_ml1 {R N K r : Nat} {D f : Nat → Nat → Int32} {A : Nat → Nat → Int32} (hM : MR R N 0 0 D (upd (A 1) 0 (nI 0))) (hK : K ≤ 6) (hA : A 1 77 = nI K) (hf : ∀ c, c < 5 * K → A 1 (78 + c) = f 1 c) (hr : r < N) (h : icH) (m : Nat) (ab be : Int64) (ii : Nat → Int32) : ∀ (n k : Nat) (y z : Value), k + n = K → icE 200 5 [.ref m, .int (nI r), .int (nI (msk (gi_fit f D r k) 6)), .int (nI k), y, z] [] (HM h m ab be ii A) = some (some (.int (nI (msk (gi_fit f D r K) 6))), HM h m ab be ii A)
  | 0, k, y, z, him => by
    have : k = K := by omega
    subst this
    rw [rh_200_5]
    simp only [SA, rw_200, HM_o, HMr, ia_n (show 77 < 292 by decide) (show 292 < 2 ^ 31 by decide), hA, if_pos (nI_le (Nat.le_refl k) (show k < 2 ^ 31 by omega))]
  | n + 1, k, y, z, him => by
    have hk : k < K := by omega
    have b2 : 292 < 2 ^ 31 := by decide
    have f0 : A 1 (78 + 5 * k) = f 1 (5 * k) := hf (5 * k) (by omega)
    by_cases c1 : f 1 (5 * k) = nI r
    · have ih := gi_ml1 hM hK hA hf hr h m ab be ii n (k + 1) (.int (nI (78 + 5 * k))) (.int (nI 6)) (by omega)
      have s := gi_ml2 hM hK hk hf hr c1 h m ab be ii 6 0 (by omega)
      rw [msk_c (p := fun c => if c < 0 then gi_fit f D r (k + 1) c else gi_fit f D r k c) (q := gi_fit f D r k) 6 (fun c hc => if_neg (Nat.not_lt_zero c))] at s
      refine Eq.trans ?_ ih
      rw [rh_200_5]
      simp only [SA, rw_200, HM_o, HMr, ia_n (show 77 < 292 by decide) b2, hA, if_neg (nI_ge hk (show K < 2 ^ 31 by omega)), pk_mul, nI_add]
      rw [s]
      simp only [SA, rw_200, nI_add]
    · have ih := gi_ml1 hM hK hA hf hr h m ab be ii n (k + 1) (.int (nI (78 + 5 * k))) (.int (nI 0)) (by omega)
      have em : msk (gi_fit f D r (k + 1)) 6 = msk (gi_fit f D r k) 6 := by
        apply msk_c
        intro c hc
        have : gi_bad f D r c k = false := decide_eq_false (fun z => c1 z.1)
        show (!(anyB (gi_bad f D r c) (k + 1))) = _
        rw [fit_s (fun c k => gi_bad f D r c k) k c]
        rw [this]
        exact Bool.and_true _
      rw [em] at ih
      refine Eq.trans ?_ ih
      rw [rh_200_5]
      simp only [SA, rw_200, HM_o, HMr, ia_n (show 77 < 292 by decide) b2, hA, if_neg (nI_ge hk (show K < 2 ^ 31 by omega)), pk_mul, nI_add, rh_200_27, if_neg (nI_ge (show 0 < 6 by decide) (show 6 < 2 ^ 31 by decide)), ia_n (show 78 + 5 * k < 292 by omega) b2, f0, if_neg c1]
theorem gi_mof {R N K r : Nat} {D f : Nat → Nat → Int32} {A : Nat → Nat → Int32} (hM : MR R N 0 0 D (upd (A 1) 0 (nI 0))) (hK : K ≤ 6) (hA : A 1 77 = nI K) (hf : ∀ c, c < 5 * K → A 1 (78 + c) = f 1 c) (hr : r < N) (h : icH) (m : Nat) (ab be : Int64) (ii : Nat → Int32) : icE 200 0 [.ref m, .int (nI r), dum, dum, dum, dum] [] (HM h m ab be ii A) = some (some (.int (nI (msk (gi_fit f D r K) 6))), HM h m ab be ii A) := by
  have z := gi_ml1 hM hK hA hf hr h m ab be ii K 0 dum dum (by omega)
  have e : msk (gi_fit f D r 0) 6 = 63 := by
    have := msk_1 6
    have e2 : msk (gi_fit f D r 0) 6 = msk (fun _ => true) 6 := rfl
    rw [e2]
    omega
  rw [e] at z
  refine Eq.trans ?_ z
  simp only [SA, rw_200]
theorem m_is {R N K r : Nat} {D f : Nat → Nat → Int32} {A : Nat → Nat → Int32} (hM : MR R N 0 0 D (upd (A 1) 0 (nI 0))) (hK : K ≤ 6) (hA : A 1 77 = nI K) (hf : ∀ c, c < 5 * K → A 1 (78 + c) = f 1 c) (hr : r < N) (h : icH) (m : Nat) (ab be : Int64) (ii : Nat → Int32) : icE 201 0 [.ref m, .int (nI r)] [] (HM h m ab be ii A) = some (some (.int (nI (msk (gi_fit f D r K) 6))), HM h m ab be ii A) := by
  have q : nI 0 ≤ nI r ∧ nI r ≤ A 1 10 - nI 1 := MR_i hM hr
  simp only [SA, rw_201, HM_o, c_misIce, if_neg (bi_10 q), gi_mof hM hK hA hf hr]
theorem gi_mfill {R N r : Nat} {D : Nat → Nat → Int32} (hr : r < N) {x2 x3 x4 : Value} {w s : Nat} (hs : s < 21) (h : icH) (m : Nat) (ab be : Int64) (ii : Nat → Int32) : ∀ (n e : Nat) (A : Nat → Nat → Int32), e + n = 6 → MR R N 0 0 D (upd (A 1) 0 (nI 0)) → (∀ c, c < e → A 11 c = gi_lk D r (wv w) (nI s) c) → ∃ g, icE 202 54 [.ref m, .int (nI r), x2, x3, x4, .int (nI w), .int (nI s), .int (nI e)] [] (HM h m ab be ii A) = icE 202 95 [.ref m, .int (nI r), x2, x3, x4, .int (nI w), .int (nI s), .int (nI 6)] [] (HM h m ab be ii (ud A 11 g)) ∧ ∀ c, c < 6 → g c = gi_lk D r (wv w) (nI s) c
  | 0, e, A, him, hM, hA => by
    have : e = 6 := by omega
    subst this
    refine ⟨A 11, ?_, hA⟩
    rw [rh_202_54]
    simp only [SA, rw_202, if_pos (nI_le (Nat.le_refl 6) (show 6 < 2 ^ 31 by decide)), ud_id]
  | n + 1, e, A, him, hM, hA => by
    have he : e < 6 := by omega
    have b2 : 292 < 2 ^ 31 := by decide
    have hR := hM.1.2.2.1
    have hN := hM.1.2.2.2.1
    obtain ⟨g, ih, q⟩ := gi_mfill hr (x2 := x2) (x3 := x3) (x4 := x4) (w := w) hs h m ab be ii n (e + 1) (ud A 11 (upd (A 11) e (gi_lk D r (wv w) (nI s) e))) (by omega) (by rw [ud_n (by decide)]; exact hM) (by
      intro c hc
      rw [ud_s]
      by_cases z : c = e
      · rw [z, pk_us]
      · rw [pk_un z]; exact hA c (by omega))
    rw [ud_u] at ih
    refine ⟨g, ?_, q⟩
    refine Eq.trans ?_ ih
    have ew : nI w - nI 9 = wv w := rfl
    have e38 : A 1 (38 + r) = D 9 r := (pk_un (show 38 + r ≠ 0 by omega)).symm.trans ((hM.2.2 (A 7)).2.2 9 (by decide) (by decide) r hr)
    have cw : icE 146 0 [.int (nI e), .int (D 9 r), .int (wv w), .int (nI s), dum, dum] [] (HM h m ab be ii A) = some (some (.int (gi_lk D r (wv w) (nI s) e)), HM h m ab be ii A) := c_mmore he _ _ _ _
    rw [rh_202_54]
    simp only [SA, rw_202, HM_o, HMr, HMw, if_neg (nI_ge he (show 6 < 2 ^ 31 by decide)), nI_add, ia_n (show 38 + r < 292 by omega) b2, e38, ew, cw, is_n (show e < 10 by omega) (show 10 < 2 ^ 31 by decide)]
theorem gi_mt2 {R N r : Nat} {D : Nat → Nat → Int32} (hr : r < N) {p : Nat → Bool} {w : Nat} (hw : w < 19) (h : icH) (m : Nat) (ab be : Int64) (ii : Nat → Int32) : ∀ (n s : Nat) (z : Value) (A : Nat → Nat → Int32), s + n = 21 → MR R N 0 0 D (upd (A 1) 0 (nI 0)) → ∃ z' A', icE 202 44 [.ref m, .int (nI r), .int (nI (msk p 6)), .int (bq (gi_g p D r) gi_cd (w * 21 + s)).1, .int (nI (bq (gi_g p D r) gi_cd (w * 21 + s)).2), .int (nI w), .int (nI s), z] [] (HM h m ab be ii A) = icE 202 30 [.ref m, .int (nI r), .int (nI (msk p 6)), .int (bq (gi_g p D r) gi_cd ((w + 1) * 21)).1, .int (nI (bq (gi_g p D r) gi_cd ((w + 1) * 21)).2), .int (nI (w + 1)), .int (nI 21), z'] [] (HM h m ab be ii A') ∧ MSC A A'
  | 0, s, z, A, him, hM => by
    have : s = 21 := by omega
    subst this
    refine ⟨z, A, ?_, MSC_r A⟩
    rw [show w * 21 + 21 = (w + 1) * 21 by omega, rh_202_44]
    simp only [SA, rw_202, if_pos (nI_le (Nat.le_refl 21) (show 21 < 2 ^ 31 by decide)), nI_add]
  | n + 1, s, z, A, him, hM => by
    obtain ⟨g, s1, s2⟩ := gi_mfill hr (w := w) (s := s) (by omega) h m ab be ii 6 0 A (by omega) hM (fun c hc => absurd hc (Nat.not_lt_zero c)) (x2 := .int (nI (msk p 6))) (x3 := .int (bq (gi_g p D r) gi_cd (w * 21 + s)).1) (x4 := .int (nI (bq (gi_g p D r) gi_cd (w * 21 + s)).2))
    have al := c_alike (p := p) (show 6 ≤ 10 by decide) (A := ud A 11 g) (lk := gi_lk D r (wv w) (nI s)) (by rw [ud_s]; exact s2) h m ab be ii
    have eg : Gq p (gi_lk D r (wv w) (nI s)) 6 = gi_g p D r (w * 21 + s) := by
      unfold gi_g
      rw [show (w * 21 + s) / 21 = w by omega, show (w * 21 + s) % 21 = s by omega]
    have ec : gi_cd (w * 21 + s) = 100 * w + s := by
      unfold gi_cd
      rw [show (w * 21 + s) / 21 = w by omega, show (w * 21 + s) % 21 = s by omega]
    rw [eg] at al
    have gl : gi_g p D r (w * 21 + s) ≤ 6 := Gq_le p _ 6
    have bl : (bq (gi_g p D r) gi_cd (w * 21 + s)).2 ≤ 99 := by
      by_cases c : w * 21 + s = 0
      · rw [c]; exact Nat.le_refl 99
      · have := bq_le (cd := gi_cd) (g := gi_g p D r) (n := 6) (fun q => Gq_le p _ 6) (by decide) (w * 21 + s - 1)
        rw [show w * 21 + s - 1 + 1 = w * 21 + s by omega] at this
        omega
    obtain ⟨z', A', ih, q⟩ := gi_mt2 hr (p := p) hw h m ab be ii n (s + 1) (.int (nI (gi_g p D r (w * 21 + s)))) (ud A 11 g) (by omega) (by rw [ud_n (by decide)]; exact hM)
    have eb : bq (gi_g p D r) gi_cd (w * 21 + (s + 1)) = if gi_g p D r (w * 21 + s) < (bq (gi_g p D r) gi_cd (w * 21 + s)).2 then (nI (gi_cd (w * 21 + s)), gi_g p D r (w * 21 + s)) else bq (gi_g p D r) gi_cd (w * 21 + s) := rfl
    rw [ec] at eb
    refine ⟨z', A', ?_, MSC_t (MSC_u (MSC_r A) (by decide) g) q⟩
    refine Eq.trans ?_ ih
    rw [rh_202_44]
    simp only [SA, rw_202, if_neg (nI_ge (show s < 21 by omega) (show 21 < 2 ^ 31 by decide))]
    rw [s1, eb]
    by_cases c : gi_g p D r (w * 21 + s) < (bq (gi_g p D r) gi_cd (w * 21 + s)).2
    · rw [if_pos c]
      simp only [SA, rw_202, HM_o, al, if_neg (nI_ge c (show (bq (gi_g p D r) gi_cd (w * 21 + s)).2 < 2 ^ 31 by omega)), c_lessN (show (bq (gi_g p D r) gi_cd (w * 21 + s)).2 < 2 ^ 31 by omega) (show gi_g p D r (w * 21 + s) < 2 ^ 31 by omega), Nat.min_eq_right (Nat.le_of_lt c), pk_mul, nI_add]
    · rw [if_neg c]
      simp only [SA, rw_202, HM_o, al, if_pos (nI_le (show (bq (gi_g p D r) gi_cd (w * 21 + s)).2 ≤ gi_g p D r (w * 21 + s) by omega) (show gi_g p D r (w * 21 + s) < 2 ^ 31 by omega)), c_lessN (show (bq (gi_g p D r) gi_cd (w * 21 + s)).2 < 2 ^ 31 by omega) (show gi_g p D r (w * 21 + s) < 2 ^ 31 by omega), Nat.min_eq_left (Nat.le_of_not_lt c), nI_add]
theorem gi_mt1 {R N r : Nat} {D : Nat → Nat → Int32} (hr : r < N) {p : Nat → Bool} (mn : ¬ nI (msk p 6) = 0) (h : icH) (m : Nat) (ab be : Int64) (ii : Nat → Int32) : ∀ (n w : Nat) (y z : Value) (A : Nat → Nat → Int32), w + n = 19 → MR R N 0 0 D (upd (A 1) 0 (nI 0)) → ∃ A', icE 202 30 [.ref m, .int (nI r), .int (nI (msk p 6)), .int (bq (gi_g p D r) gi_cd (w * 21)).1, .int (nI (bq (gi_g p D r) gi_cd (w * 21)).2), .int (nI w), y, z] [] (HM h m ab be ii A) = some (some (.int (bq (gi_g p D r) gi_cd (19 * 21)).1), HM h m ab be ii A') ∧ MSC A A'
  | 0, w, y, z, A, him, hM => by
    have : w = 19 := by omega
    subst this
    refine ⟨A, ?_, MSC_r A⟩
    rw [rh_202_30]
    simp only [SA, rw_202, if_pos (nI_le (Nat.le_refl 19) (show 19 < 2 ^ 31 by decide))]
  | n + 1, w, y, z, A, him, hM => by
    obtain ⟨z', A1, s1, s2⟩ := gi_mt2 hr (p := p) (show w < 19 by omega) h m ab be ii 21 0 z A (by omega) hM
    obtain ⟨A', ih, q⟩ := gi_mt1 hr mn h m ab be ii n (w + 1) (.int (nI 21)) z' A1 (by omega) (by rw [MSC_1 s2]; exact hM)
    refine ⟨A', ?_, MSC_t s2 q⟩
    refine Eq.trans ?_ ih
    refine Eq.trans ?_ s1
    rw [Nat.add_zero, rh_202_30]
    simp only [SA, rw_202, if_neg (nI_ge (show w < 19 by omega) (show 19 < 2 ^ 31 by decide)), if_neg mn]
theorem m_look {R N K r : Nat} {D f : Nat → Nat → Int32} {A : Nat → Nat → Int32} (hM : MR R N 0 0 D (upd (A 1) 0 (nI 0))) (hK : K ≤ 6) (hA : A 1 77 = nI K) (hf : ∀ c, c < 5 * K → A 1 (78 + c) = f 1 c) (hr : r < N) (h : icH) (m : Nat) (ab be : Int64) (ii : Nat → Int32) : ∃ A', icE 202 0 [.ref m, .int (nI r), dum, dum, dum, dum, dum, dum] [] (HM h m ab be ii A) = some (some (.int (gi_bst f D r K)), HM h m ab be ii A') ∧ MSC A A' := by
  have q : nI 0 ≤ nI r ∧ nI r ≤ A 1 10 - nI 1 := MR_i hM hr
  have mo := gi_mof hM hK hA hf hr h m ab be ii
  have lt := msk_10 (gi_fit f D r K) (show 6 ≤ 10 by decide)
  by_cases c : msk (gi_fit f D r K) 6 = 0
  · refine ⟨A, ?_, MSC_r A⟩
    have e : gi_bst f D r K = -1 := if_pos c
    have c0 : nI (msk (gi_fit f D r K) 6) = 0 := by rw [c]; rfl
    rw [e]
    simp only [SA, rw_202, HM_o, c_misIce, if_neg (bi_10 q), mo, rh_202_30, if_neg (nI_ge (show 0 < 19 by decide) (show 19 < 2 ^ 31 by decide)), if_pos c0]
  · have e : gi_bst f D r K = (bq (gi_g (gi_fit f D r K) D r) gi_cd (19 * 21)).1 := if_neg c
    have mn : ¬ nI (msk (gi_fit f D r K) 6) = 0 := fun z => c ((nI_eq (by omega) (by decide)).mp (z.trans (show (0 : Int32) = nI 0 from rfl)))
    rw [e]
    obtain ⟨A', z, y⟩ := gi_mt1 hr (p := gi_fit f D r K) mn h m ab be ii 19 0 dum dum A (by omega) hM
    refine ⟨A', ?_, y⟩
    refine Eq.trans ?_ z
    simp only [SA, rw_202, HM_o, c_misIce, if_neg (bi_10 q), mo, Nat.zero_mul, bq]
