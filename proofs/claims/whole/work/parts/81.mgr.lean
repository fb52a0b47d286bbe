/-! ===== the reference: kinds, ask ===== -/
theorem gr_ml2 {R N K r k : Nat} {D f : Nat → Nat → Int32} {A : Nat → Nat → Int32} (hM : MR R N 0 0 D (upd (A 1) 0 (nI 0))) (hK : K ≤ 6) (hk : k < K) (hf : ∀ c, c < 5 * K → A 1 (109 + c) = f 2 c) (hs : ∀ k, k < K → kd 61 (f 2 (5 * k + 3))) (hr : r < R) (c1 : f 2 (5 * k) = nI r) (h : icH) (m : Nat) (ab be : Int64) (ii : Nat → Int32) : ∀ (n e : Nat), e + n = 6 → icE 203 27 [.ref m, .int (nI r), .int (nI (msk (fun c => if c < e then gr_fit f D r (k + 1) c else gr_fit f D r k c) 6)), .int (nI k), .int (nI (109 + 5 * k)), .int (nI e)] [] (HM h m ab be ii A) = icE 203 109 [.ref m, .int (nI r), .int (nI (msk (gr_fit f D r (k + 1)) 6)), .int (nI k), .int (nI (109 + 5 * k)), .int (nI 6)] [] (HM h m ab be ii A)
  | 0, e, him => by
    have : e = 6 := by omega
    subst this
    rw [msk_c (q := gr_fit f D r (k + 1)) 6 (fun c hc => if_pos hc)]
    rw [rh_203_27]
    simp only [SA, rw_203, if_pos (nI_le (Nat.le_refl 6) (show 6 < 2 ^ 31 by decide))]
  | n + 1, e, him => by
    have he : e < 6 := by omega
    have b2 : 292 < 2 ^ 31 := by decide
    have hR := hM.1.2.2.1
    have hN := hM.1.2.2.2.1
    have ih := gr_ml2 hM hK hk hf hs hr c1 h m ab be ii n (e + 1) (by omega)
    refine Eq.trans ?_ ih
    have f0 : A 1 (109 + 5 * k) = nI r := (hf (5 * k) (by omega)).trans c1
    have f1 : A 1 (109 + 5 * k + 1) = f 2 (5 * k + 1) := hf (5 * k + 1) (by omega)
    have f2 : A 1 (109 + 5 * k + 2) = f 2 (5 * k + 2) := hf (5 * k + 2) (by omega)
    have f3 : A 1 (109 + 5 * k + 3) = f 2 (5 * k + 3) := hf (5 * k + 3) (by omega)
    have fl : A 1 (109 + 5 * k + 4) = f 2 (5 * k + 4) := hf (5 * k + 4) (by omega)
    have k61 := hs k hk
    have cw0 := c_mwater he (show kn (f 2 (5 * k + 3)) < 2 ^ 30 by have := k61.2; omega) (f 2 (5 * k + 2)) (f 2 (5 * k + 1)) (HM h m ab be ii A)
    rw [← k61.1] at cw0
    have cw : icE 145 0 [.int (nI e), .int (f 2 (5 * k + 2)), .int (f 2 (5 * k + 1)), .int (f 2 (5 * k + 3)), dum, dum, dum] [] (HM h m ab be ii A) = some (some (.int (gr_br f D r k e)), HM h m ab be ii A) := cw0
    have lt := msk_10 (fun c => if c < e then gr_fit f D r (k + 1) c else gr_fit f D r k c) (show 6 ≤ 10 by decide)
    rw [rh_203_27]
    by_cases c2 : gr_br f D r k e = f 2 (5 * k + 4)
    · have em : msk (fun c => if c < e + 1 then gr_fit f D r (k + 1) c else gr_fit f D r k c) 6 = msk (fun c => if c < e then gr_fit f D r (k + 1) c else gr_fit f D r k c) 6 := by
        apply msk_c
        intro c hc
        by_cases q : c = e
        · subst q
          rw [if_pos (Nat.lt_succ_self c), if_neg (Nat.lt_irrefl c)]
          have : gr_bad f D r c k = false := decide_eq_false (fun z => z.2 c2)
          show (!(anyB (gr_bad f D r c) (k + 1))) = _
          rw [fit_s (fun c k => gr_bad f D r c k) k c]
          rw [this]
          exact Bool.and_true _
        · by_cases q2 : c < e
          · rw [if_pos q2, if_pos (by omega)]
          · rw [if_neg q2, if_neg (by omega)]
      rw [em]
      simp only [SA, rw_203, HM_o, HMr, if_neg (nI_ge he (show 6 < 2 ^ 31 by decide)), nI_add, ia_n (show 109 + 5 * k < 292 by omega) b2, ia_n (show 109 + 5 * k + 1 < 292 by omega) b2, ia_n (show 109 + 5 * k + 2 < 292 by omega) b2, ia_n (show 109 + 5 * k + 3 < 292 by omega) b2, ia_n (show 109 + 5 * k + 4 < 292 by omega) b2, f0, f1, f2, f3, fl, if_true, cw, if_pos c2, an6 _ (msk_lt _ 6)]
    · have em : msk (fun c => if c < e + 1 then gr_fit f D r (k + 1) c else gr_fit f D r k c) 6 = msk (fun c => if c = e then false else (fun c => if c < e then gr_fit f D r (k + 1) c else gr_fit f D r k c) c) 6 := by
        apply msk_c
        intro c hc
        by_cases q : c = e
        · subst q
          rw [if_pos (Nat.lt_succ_self c), if_pos rfl]
          have : gr_bad f D r c k = true := decide_eq_true ⟨c1, c2⟩
          show (!(anyB (gr_bad f D r c) (k + 1))) = _
          rw [fit_s (fun c k => gr_bad f D r c k) k c]
          rw [this]
          exact Bool.and_false _
        · rw [if_neg q]
          dsimp only
          by_cases q2 : c < e
          · rw [if_pos q2, if_pos (by omega)]
          · rw [if_neg q2, if_neg (by omega)]
      rw [em, msk_cl 6 he]
      simp only [SA, rw_203, HM_o, HMr, if_neg (nI_ge he (show 6 < 2 ^ 31 by decide)), nI_add, ia_n (show 109 + 5 * k < 292 by omega) b2, ia_n (show 109 + 5 * k + 1 < 292 by omega) b2, ia_n (show 109 + 5 * k + 2 < 292 by omega) b2, ia_n (show 109 + 5 * k + 3 < 292 by omega) b2, ia_n (show 109 + 5 * k + 4 < 292 by omega) b2, f0, f1, f2, f3, fl, if_true, cw, if_neg c2, cl10 _ lt e (show e < 10 by omega)]
theorem gr_ml1 {R N K r : Nat} {D f : Nat → Nat → Int32} {A : Nat → Nat → Int32} (hM : MR R N 0 0 D (upd (A 1) 0 (nI 0))) (hK : K ≤ 6) (hA : A 1 108 = nI K) (hf : ∀ c, c < 5 * K → A 1 (109 + c) = f 2 c) (hs : ∀ k, k < K → kd 61 (f 2 (5 * k + 3))) (hr : r < R) (h : icH) (m : Nat) (ab be : Int64) (ii : Nat → Int32) : ∀ (n k : Nat) (y z : Value), k + n = K → icE 203 5 [.ref m, .int (nI r), .int (nI (msk (gr_fit f D r k) 6)), .int (nI k), y, z] [] (HM h m ab be ii A) = some (some (.int (nI (msk (gr_fit f D r K) 6))), HM h m ab be ii A)
  | 0, k, y, z, him => by
    have : k = K := by omega
    subst this
    rw [rh_203_5]
    simp only [SA, rw_203, HM_o, HMr, ia_n (show 108 < 292 by decide) (show 292 < 2 ^ 31 by decide), hA, if_pos (nI_le (Nat.le_refl k) (show k < 2 ^ 31 by omega))]
  | n + 1, k, y, z, him => by
    have hk : k < K := by omega
    have b2 : 292 < 2 ^ 31 := by decide
    have f0 : A 1 (109 + 5 * k) = f 2 (5 * k) := hf (5 * k) (by omega)
    by_cases c1 : f 2 (5 * k) = nI r
    · have ih := gr_ml1 hM hK hA hf hs hr h m ab be ii n (k + 1) (.int (nI (109 + 5 * k))) (.int (nI 6)) (by omega)
      have s := gr_ml2 hM hK hk hf hs hr c1 h m ab be ii 6 0 (by omega)
      rw [msk_c (p := fun c => if c < 0 then gr_fit f D r (k + 1) c else gr_fit f D r k c) (q := gr_fit f D r k) 6 (fun c hc => if_neg (Nat.not_lt_zero c))] at s
      refine Eq.trans ?_ ih
      rw [rh_203_5]
      simp only [SA, rw_203, HM_o, HMr, ia_n (show 108 < 292 by decide) b2, hA, if_neg (nI_ge hk (show K < 2 ^ 31 by omega)), pk_mul, nI_add]
      rw [s]
      simp only [SA, rw_203, nI_add]
    · have ih := gr_ml1 hM hK hA hf hs hr h m ab be ii n (k + 1) (.int (nI (109 + 5 * k))) (.int (nI 0)) (by omega)
      have em : msk (gr_fit f D r (k + 1)) 6 = msk (gr_fit f D r k) 6 := by
        apply msk_c
        intro c hc
        have : gr_bad f D r c k = false := decide_eq_false (fun z => c1 z.1)
        show (!(anyB (gr_bad f D r c) (k + 1))) = _
        rw [fit_s (fun c k => gr_bad f D r c k) k c]
        rw [this]
        exact Bool.and_true _
      rw [em] at ih
      refine Eq.trans ?_ ih
      rw [rh_203_5]
      simp only [SA, rw_203, HM_o, HMr, ia_n (show 108 < 292 by decide) b2, hA, if_neg (nI_ge hk (show K < 2 ^ 31 by omega)), pk_mul, nI_add, rh_203_27, if_neg (nI_ge (show 0 < 6 by decide) (show 6 < 2 ^ 31 by decide)), ia_n (show 109 + 5 * k < 292 by omega) b2, f0, if_neg c1]
theorem gr_mof {R N K r : Nat} {D f : Nat → Nat → Int32} {A : Nat → Nat → Int32} (hM : MR R N 0 0 D (upd (A 1) 0 (nI 0))) (hK : K ≤ 6) (hA : A 1 108 = nI K) (hf : ∀ c, c < 5 * K → A 1 (109 + c) = f 2 c) (hs : ∀ k, k < K → kd 61 (f 2 (5 * k + 3))) (hr : r < R) (h : icH) (m : Nat) (ab be : Int64) (ii : Nat → Int32) : icE 203 0 [.ref m, .int (nI r), dum, dum, dum, dum] [] (HM h m ab be ii A) = some (some (.int (nI (msk (gr_fit f D r K) 6))), HM h m ab be ii A) := by
  have z := gr_ml1 hM hK hA hf hs hr h m ab be ii K 0 dum dum (by omega)
  have e : msk (gr_fit f D r 0) 6 = 63 := by
    have := msk_1 6
    have e2 : msk (gr_fit f D r 0) 6 = msk (fun _ => true) 6 := rfl
    rw [e2]
    omega
  rw [e] at z
  refine Eq.trans ?_ z
  simp only [SA, rw_203]
theorem m_kinds {R N K r : Nat} {D f : Nat → Nat → Int32} {A : Nat → Nat → Int32} (hM : MR R N 0 0 D (upd (A 1) 0 (nI 0))) (hK : K ≤ 6) (hA : A 1 108 = nI K) (hf : ∀ c, c < 5 * K → A 1 (109 + c) = f 2 c) (hs : ∀ k, k < K → kd 61 (f 2 (5 * k + 3))) (hr : r < R) (h : icH) (m : Nat) (ab be : Int64) (ii : Nat → Int32) : icE 204 0 [.ref m, .int (nI r)] [] (HM h m ab be ii A) = some (some (.int (nI (msk (gr_fit f D r K) 6))), HM h m ab be ii A) := by
  have q : nI 0 ≤ nI r ∧ nI r ≤ A 1 9 - nI 1 := MR_r hM hr
  simp only [SA, rw_204, HM_o, c_misRoof, if_neg (bi_10 q), gr_mof hM hK hA hf hs hr]
theorem gr_mfill {R N r : Nat} {D : Nat → Nat → Int32} (hr : r < R) {x2 x3 x4 : Value} {w s : Nat} (hs : s < 61) (h : icH) (m : Nat) (ab be : Int64) (ii : Nat → Int32) : ∀ (n e : Nat) (A : Nat → Nat → Int32), e + n = 6 → MR R N 0 0 D (upd (A 1) 0 (nI 0)) → (∀ c, c < e → A 11 c = gr_lk D r (wv w) (nI s) c) → ∃ g, icE 205 54 [.ref m, .int (nI r), x2, x3, x4, .int (nI w), .int (nI s), .int (nI e)] [] (HM h m ab be ii A) = icE 205 95 [.ref m, .int (nI r), x2, x3, x4, .int (nI w), .int (nI s), .int (nI 6)] [] (HM h m ab be ii (ud A 11 g)) ∧ ∀ c, c < 6 → g c = gr_lk D r (wv w) (nI s) c
  | 0, e, A, him, hM, hA => by
    have : e = 6 := by omega
    subst this
    refine ⟨A 11, ?_, hA⟩
    rw [rh_205_54]
    simp only [SA, rw_205, if_pos (nI_le (Nat.le_refl 6) (show 6 < 2 ^ 31 by decide)), ud_id]
  | n + 1, e, A, him, hM, hA => by
    have he : e < 6 := by omega
    have b2 : 292 < 2 ^ 31 := by decide
    have hR := hM.1.2.2.1
    have hN := hM.1.2.2.2.1
    obtain ⟨g, ih, q⟩ := gr_mfill hr (x2 := x2) (x3 := x3) (x4 := x4) (w := w) hs h m ab be ii n (e + 1) (ud A 11 (upd (A 11) e (gr_lk D r (wv w) (nI s) e))) (by omega) (by rw [ud_n (by decide)]; exact hM) (by
      intro c hc
      rw [ud_s]
      by_cases z : c = e
      · rw [z, pk_us]
      · rw [pk_un z]; exact hA c (by omega))
    rw [ud_u] at ih
    refine ⟨g, ?_, q⟩
    refine Eq.trans ?_ ih
    have ew : nI w - nI 9 = wv w := rfl
    have e14 : A 1 (14 + r) = D 3 r := (pk_un (show 14 + r ≠ 0 by omega)).symm.trans ((hM.2.2 (A 7)).2.1 3 (by decide) (by decide) r hr)
    have cw : icE 145 0 [.int (nI e), .int (wv w), .int (D 3 r), .int (nI s), dum, dum, dum] [] (HM h m ab be ii A) = some (some (.int (gr_lk D r (wv w) (nI s) e)), HM h m ab be ii A) := c_mwater he (show s < 2 ^ 30 by omega) _ _ _
    rw [rh_205_54]
    simp only [SA, rw_205, HM_o, HMr, HMw, if_neg (nI_ge he (show 6 < 2 ^ 31 by decide)), nI_add, ia_n (show 14 + r < 292 by omega) b2, e14, ew, cw, is_n (show e < 10 by omega) (show 10 < 2 ^ 31 by decide)]
theorem gr_mt2 {R N r : Nat} {D : Nat → Nat → Int32} (hr : r < R) {p : Nat → Bool} {w : Nat} (hw : w < 19) (h : icH) (m : Nat) (ab be : Int64) (ii : Nat → Int32) : ∀ (n s : Nat) (z : Value) (A : Nat → Nat → Int32), s + n = 61 → MR R N 0 0 D (upd (A 1) 0 (nI 0)) → ∃ z' A', icE 205 44 [.ref m, .int (nI r), .int (nI (msk p 6)), .int (bq (gr_g p D r) gr_cd (w * 61 + s)).1, .int (nI (bq (gr_g p D r) gr_cd (w * 61 + s)).2), .int (nI w), .int (nI s), z] [] (HM h m ab be ii A) = icE 205 30 [.ref m, .int (nI r), .int (nI (msk p 6)), .int (bq (gr_g p D r) gr_cd ((w + 1) * 61)).1, .int (nI (bq (gr_g p D r) gr_cd ((w + 1) * 61)).2), .int (nI (w + 1)), .int (nI 61), z'] [] (HM h m ab be ii A') ∧ MSC A A'
  | 0, s, z, A, him, hM => by
    have : s = 61 := by omega
    subst this
    refine ⟨z, A, ?_, MSC_r A⟩
    rw [show w * 61 + 61 = (w + 1) * 61 by omega, rh_205_44]
    simp only [SA, rw_205, if_pos (nI_le (Nat.le_refl 61) (show 61 < 2 ^ 31 by decide)), nI_add]
  | n + 1, s, z, A, him, hM => by
    obtain ⟨g, s1, s2⟩ := gr_mfill hr (w := w) (s := s) (by omega) h m ab be ii 6 0 A (by omega) hM (fun c hc => absurd hc (Nat.not_lt_zero c)) (x2 := .int (nI (msk p 6))) (x3 := .int (bq (gr_g p D r) gr_cd (w * 61 + s)).1) (x4 := .int (nI (bq (gr_g p D r) gr_cd (w * 61 + s)).2))
    have al := c_alike (p := p) (show 6 ≤ 10 by decide) (A := ud A 11 g) (lk := gr_lk D r (wv w) (nI s)) (by rw [ud_s]; exact s2) h m ab be ii
    have eg : Gq p (gr_lk D r (wv w) (nI s)) 6 = gr_g p D r (w * 61 + s) := by
      unfold gr_g
      rw [show (w * 61 + s) / 61 = w by omega, show (w * 61 + s) % 61 = s by omega]
    have ec : gr_cd (w * 61 + s) = 100 * w + s := by
      unfold gr_cd
      rw [show (w * 61 + s) / 61 = w by omega, show (w * 61 + s) % 61 = s by omega]
    rw [eg] at al
    have gl : gr_g p D r (w * 61 + s) ≤ 6 := Gq_le p _ 6
    have bl : (bq (gr_g p D r) gr_cd (w * 61 + s)).2 ≤ 99 := by
      by_cases c : w * 61 + s = 0
      · rw [c]; exact Nat.le_refl 99
      · have := bq_le (cd := gr_cd) (g := gr_g p D r) (n := 6) (fun q => Gq_le p _ 6) (by decide) (w * 61 + s - 1)
        rw [show w * 61 + s - 1 + 1 = w * 61 + s by omega] at this
        omega
    obtain ⟨z', A', ih, q⟩ := gr_mt2 hr (p := p) hw h m ab be ii n (s + 1) (.int (nI (gr_g p D r (w * 61 + s)))) (ud A 11 g) (by omega) (by rw [ud_n (by decide)]; exact hM)
    have eb : bq (gr_g p D r) gr_cd (w * 61 + (s + 1)) = if gr_g p D r (w * 61 + s) < (bq (gr_g p D r) gr_cd (w * 61 + s)).2 then (nI (gr_cd (w * 61 + s)), gr_g p D r (w * 61 + s)) else bq (gr_g p D r) gr_cd (w * 61 + s) := rfl
    rw [ec] at eb
    refine ⟨z', A', ?_, MSC_t (MSC_u (MSC_r A) (by decide) g) q⟩
    refine Eq.trans ?_ ih
    rw [rh_205_44]
    simp only [SA, rw_205, if_neg (nI_ge (show s < 61 by omega) (show 61 < 2 ^ 31 by decide))]
    rw [s1, eb]
    by_cases c : gr_g p D r (w * 61 + s) < (bq (gr_g p D r) gr_cd (w * 61 + s)).2
    · rw [if_pos c]
      simp only [SA, rw_205, HM_o, al, if_neg (nI_ge c (show (bq (gr_g p D r) gr_cd (w * 61 + s)).2 < 2 ^ 31 by omega)), c_lessN (show (bq (gr_g p D r) gr_cd (w * 61 + s)).2 < 2 ^ 31 by omega) (show gr_g p D r (w * 61 + s) < 2 ^ 31 by omega), Nat.min_eq_right (Nat.le_of_lt c), pk_mul, nI_add]
    · rw [if_neg c]
      simp only [SA, rw_205, HM_o, al, if_pos (nI_le (show (bq (gr_g p D r) gr_cd (w * 61 + s)).2 ≤ gr_g p D r (w * 61 + s) by omega) (show gr_g p D r (w * 61 + s) < 2 ^ 31 by omega)), c_lessN (show (bq (gr_g p D r) gr_cd (w * 61 + s)).2 < 2 ^ 31 by omega) (show gr_g p D r (w * 61 + s) < 2 ^ 31 by omega), Nat.min_eq_left (Nat.le_of_not_lt c), nI_add]
theorem gr_mt1 {R N r : Nat} {D : Nat → Nat → Int32} (hr : r < R) {p : Nat → Bool} (mn : ¬ nI (msk p 6) = 0) (h : icH) (m : Nat) (ab be : Int64) (ii : Nat → Int32) : ∀ (n w : Nat) (y z : Value) (A : Nat → Nat → Int32), w + n = 19 → MR R N 0 0 D (upd (A 1) 0 (nI 0)) → ∃ A', icE 205 30 [.ref m, .int (nI r), .int (nI (msk p 6)), .int (bq (gr_g p D r) gr_cd (w * 61)).1, .int (nI (bq (gr_g p D r) gr_cd (w * 61)).2), .int (nI w), y, z] [] (HM h m ab be ii A) = some (some (.int (bq (gr_g p D r) gr_cd (19 * 61)).1), HM h m ab be ii A') ∧ MSC A A'
  | 0, w, y, z, A, him, hM => by
    have : w = 19 := by omega
    subst this
    refine ⟨A, ?_, MSC_r A⟩
    rw [rh_205_30]
    simp only [SA, rw_205, if_pos (nI_le (Nat.le_refl 19) (show 19 < 2 ^ 31 by decide))]
  | n + 1, w, y, z, A, him, hM => by
    obtain ⟨z', A1, s1, s2⟩ := gr_mt2 hr (p := p) (show w < 19 by omega) h m ab be ii 61 0 z A (by omega) hM
    obtain ⟨A', ih, q⟩ := gr_mt1 hr mn h m ab be ii n (w + 1) (.int (nI 61)) z' A1 (by omega) (by rw [MSC_1 s2]; exact hM)
    refine ⟨A', ?_, MSC_t s2 q⟩
    refine Eq.trans ?_ ih
    refine Eq.trans ?_ s1
    rw [Nat.add_zero, rh_205_30]
    simp only [SA, rw_205, if_neg (nI_ge (show w < 19 by omega) (show 19 < 2 ^ 31 by decide)), if_neg mn]
theorem m_ask {R N K r : Nat} {D f : Nat → Nat → Int32} {A : Nat → Nat → Int32} (hM : MR R N 0 0 D (upd (A 1) 0 (nI 0))) (hK : K ≤ 6) (hA : A 1 108 = nI K) (hf : ∀ c, c < 5 * K → A 1 (109 + c) = f 2 c) (hs : ∀ k, k < K → kd 61 (f 2 (5 * k + 3))) (hr : r < R) (h : icH) (m : Nat) (ab be : Int64) (ii : Nat → Int32) : ∃ A', icE 205 0 [.ref m, .int (nI r), dum, dum, dum, dum, dum, dum] [] (HM h m ab be ii A) = some (some (.int (gr_bst f D r K)), HM h m ab be ii A') ∧ MSC A A' := by
  have q : nI 0 ≤ nI r ∧ nI r ≤ A 1 9 - nI 1 := MR_r hM hr
  have mo := gr_mof hM hK hA hf hs hr h m ab be ii
  have lt := msk_10 (gr_fit f D r K) (show 6 ≤ 10 by decide)
  by_cases c : msk (gr_fit f D r K) 6 = 0
  · refine ⟨A, ?_, MSC_r A⟩
    have e : gr_bst f D r K = -1 := if_pos c
    have c0 : nI (msk (gr_fit f D r K) 6) = 0 := by rw [c]; rfl
    rw [e]
    simp only [SA, rw_205, HM_o, c_misRoof, if_neg (bi_10 q), mo, rh_205_30, if_neg (nI_ge (show 0 < 19 by decide) (show 19 < 2 ^ 31 by decide)), if_pos c0]
  · have e : gr_bst f D r K = (bq (gr_g (gr_fit f D r K) D r) gr_cd (19 * 61)).1 := if_neg c
    have mn : ¬ nI (msk (gr_fit f D r K) 6) = 0 := fun z => c ((nI_eq (by omega) (by decide)).mp (z.trans (show (0 : Int32) = nI 0 from rfl)))
    rw [e]
    obtain ⟨A', z, y⟩ := gr_mt1 hr (p := gr_fit f D r K) mn h m ab be ii 19 0 dum dum A (by omega) hM
    refine ⟨A', ?_, y⟩
    refine Eq.trans ?_ z
    simp only [SA, rw_205, HM_o, c_misRoof, if_neg (bi_10 q), mo, Nat.zero_mul, bq]
