/-! ===== the reference: winters ===== -/
theorem ct_hs {R N H : Nat} {D : Nat → Nat → Int32} (h6 : ∀ i, i < N → kd R (D 6 i)) : ∀ n, n ≤ N → ctD (hs R N H D) (nI 2) n = ctD D (nI 2) n + cfh D (D 1 ((H + 1) % 8)) n
  | 0, _ => rfl
  | n + 1, hn => by
    have ih := ct_hs (H := H) h6 n (by omega)
    have e1 : ctD (hs R N H D) (nI 2) (n + 1) = ctD (hs R N H D) (nI 2) n + (if hs R N H D 11 n = nI 2 then 1 else 0) := rfl
    have e2 : ctD D (nI 2) (n + 1) = ctD D (nI 2) n + (if D 11 n = nI 2 then 1 else 0) := rfl
    have e3 : cfh D (D 1 ((H + 1) % 8)) (n + 1) = cfh D (D 1 ((H + 1) % 8)) n + (if D 11 n = 0 ∧ gxh D (D 1 ((H + 1) % 8)) n = nI 2 then 1 else 0) := rfl
    have e4 : hs R N H D 11 n = if D 11 n = 0 then gxh D (D 1 ((H + 1) % 8)) n else D 11 n := hw_11 (by omega) (h6 n (by omega))
    rw [e1, e2, e3, ih, e4]
    by_cases c : D 11 n = 0
    · rw [if_pos c, if_neg (show ¬ D 11 n = nI 2 by rw [c]; decide)]
      by_cases d : gxh D (D 1 ((H + 1) % 8)) n = nI 2
      · rw [if_pos d, if_pos ⟨c, d⟩]; omega
      · rw [if_neg d, if_neg (fun z => d z.2)]; omega
    · rw [if_neg c, if_neg (fun (z : D 11 n = 0 ∧ gxh D (D 1 ((H + 1) % 8)) n = nI 2) => c z.1)]
      omega
theorem ct_asw {R x : Nat} {D : Nat → Nat → Int32} (v : Int32) : ∀ n, ctD (asw R x D) v n = ctD D v n
  | 0 => rfl
  | n + 1 => by
    unfold ctD
    rw [ct_asw v n, asw_n (by decide)]
def MW (R N t H s : Nat) (D : Nat → Nat → Int32) (T : Nat → Int32) : Prop := TOK R N T ∧ T 0 = nI (H + t) ∧ ∀ V, ERl R N (vw T V) (wd R N H s D t)
theorem MW_snow {R N t H s x r : Nat} {D : Nat → Nat → Int32} {T : Nat → Int32} (hr : r < R) (hx : x / 65536 % 3 = r) (h : MW R N t H s D T) : TOK R N (upd T (17 + r) (imn (T (17 + r) + nI (x / 1048576 % 6)) (nI 60))) ∧ upd T (17 + r) (imn (T (17 + r) + nI (x / 1048576 % 6)) (nI 60)) 0 = nI (H + t) ∧ ∀ V, ERl R N (vw (upd T (17 + r) (imn (T (17 + r) + nI (x / 1048576 % 6)) (nI 60))) V) (asw R x (wd R N H s D t)) := by
  obtain ⟨⟨h9, h10, hR, hN, hk, hs, hki, hro⟩, h0, hE⟩ := h
  have n : ∀ c, c ≠ 17 + r → upd T (17 + r) (imn (T (17 + r) + nI (x / 1048576 % 6)) (nI 60)) c = T c := fun c hc => pk_un hc
  refine ⟨⟨?_, ?_, hR, hN, fun q hq => ?_, fun q hq => ?_, fun q hq => ?_, fun q hq => ?_⟩, ?_, fun V => ?_⟩
  · rw [n _ (by omega)]; exact h9
  · rw [n _ (by omega)]; exact h10
  · rw [n _ (by omega)]; exact hk q hq
  · by_cases c : q = r
    · subst c
      rw [pk_us]
      have k := hs q hq
      have k2 := k.2
      have v6 : x / 1048576 % 6 < 6 := Nat.mod_lt _ (by decide)
      rw [k.1, nI_add, imn_nat (by omega) (by decide)]
      exact kd_n (by omega) (by omega)
    · rw [n _ (by omega)]; exact hs q hq
  · rw [n _ (by omega)]; exact hki q hq
  · rw [n _ (by omega)]; exact hro q hq
  · rw [n _ (by omega)]; exact h0
  · refine ERl_t ?_ (ERl_asw (hE V))
    unfold asw
    rw [hx, if_pos hr]
    refine ⟨fun k hk => ?_, fun a h1 h2 q hq => ?_, fun a h1 h2 q hq => ?_⟩
    · rw [ud_n (by decide)]; exact n (1 + k) (by omega)
    · by_cases c : a = 4
      · subst c
        rw [ud_s]
        show upd T (17 + r) _ (17 + q) = _
        by_cases c2 : q = r
        · rw [c2, pk_us, pk_us]; rfl
        · rw [pk_un c2, pk_un (by omega)]; rfl
      · rw [ud_n c]
        unfold vw
        rw [if_neg (by omega), if_neg (by omega)]
        have : bs a = 5 + 3 * a := by unfold bs; rw [if_neg (by omega), if_pos (by omega)]
        rw [this]
        exact n _ (by omega)
    · rw [ud_n (by omega)]
      unfold vw
      rw [if_neg (by omega), if_neg (by omega)]
      have : bs a = 6 * a - 16 := by unfold bs; rw [if_neg (by omega), if_neg (by omega)]
      rw [this]
      exact n _ (by omega)
theorem MW_step {R N t H s : Nat} {D D1 : Nat → Nat → Int32} {A : Nat → Nat → Int32} (hT : TOK R N (A 2)) (h0 : A 2 0 = nI (H + t)) (hE : ∀ V, ERl R N (vw (A 2) V) D1) (hd : wd R N H s D (t + 1) = hs R N (H + t) D1) (hb : H + t + 1 < 2 ^ 31) (h : icH) (m : Nat) (ab be : Int64) (ii : Nat → Int32) : ∃ (T' W' : Nat → Int32), icE 150 0 [.ref m, .ref (m + 2)] [] (HM h m ab be ii A) = some (some (.int (nI (cfh D1 (D1 1 ((H + t + 1) % 8)) N))), HM h m ab be ii (ud (ud A 2 T') 7 W')) ∧ MW R N (t + 1) H s D T' := by
  obtain ⟨T', W', z, t1, t2, t3, t4⟩ := c_mstep (t := 2) (Or.inr rfl) h m ab be ii hT h0 hb
  have ew : A 2 (1 + (H + t + 1) % 8) = D1 1 ((H + t + 1) % 8) := (hE (A 7)).1 _ (Nat.mod_lt _ (by decide))
  rw [ERl_cfh (hE (A 7)) (MR_k6 hT (A 7)) _ N (Nat.le_refl N), ew] at z
  refine ⟨T', W', z, t1, t2, fun V => ?_⟩
  rw [hd]
  exact ERl_t (t3 V (A 7)) (ERl_hs (hE (A 7)) (MR_k6 hT (A 7)) (H + t))
theorem l_mwin {R N H n s : Nat} {D : Nat → Nat → Int32} (hs : s < 2147483648) (hn : n ≤ 60) (hH : H ≤ 9999) (sd : Int32) (h : icH) (m : Nat) (ab be : Int64) (ii : Nat → Int32) : ∀ (k t φ : Nat) (z : Value) (A : Nat → Nat → Int32), t + k = n → MW R N t H s D (A 2) → φ + ctD D (nI 2) N = ctD (wd R N H s D t) (nI 2) N → ∃ φ' A', icE 211 44 [.ref m, .int sd, .int (nI n), .long (lN (wx s t)), dum, .int (nI φ), .int (nI t), z] [] (HM h m ab be ii A) = some (some (.int (nI φ')), HM h m ab be ii A') ∧ MSC A A' ∧ φ' + ctD D (nI 2) N = ctD (wd R N H s D n) (nI 2) N
  | 0, t, φ, z, A, him, hM, hφ => by
    have : t = n := by omega
    subst this
    refine ⟨φ, A, ?_, MSC_r A, hφ⟩
    rw [rh_211_44]
    simp only [SA, rw_211, if_pos (nI_le (Nat.le_refl t) (show t < 2 ^ 31 by omega))]
  | k + 1, t, φ, z, A, him, hM, hφ => by
    have hR := hM.1.2.2.1
    have lt := wx_lt hs (t + 1)
    have b5 : 56 < 2 ^ 31 := by decide
    have h9 := hM.1.1
    have r3 : wx s (t + 1) / 65536 % 3 < 3 := Nat.mod_lt _ (by decide)
    have hd : wd R N H s D (t + 1) = Hs R N (H + t) (asw R (wx s (t + 1)) (wd R N H s D t)) := rfl
    have h6 : ∀ i, i < N → kd R (asw R (wx s (t + 1)) (wd R N H s D t) 6 i) := by
      rw [asw_n (by decide)]
      intro i hi
      rw [← (hM.2.2 (A 7)).2.2 6 (by decide) (by decide) i hi]
      exact MR_k6 hM.1 (A 7) i hi
    have hct : ctD (wd R N H s D (t + 1)) (nI 2) N = ctD (wd R N H s D t) (nI 2) N + cfh (asw R (wx s (t + 1)) (wd R N H s D t)) (asw R (wx s (t + 1)) (wd R N H s D t) 1 ((H + t + 1) % 8)) N := by
      rw [hd, ct_hs h6 N (Nat.le_refl N), ct_asw]
    by_cases c : wx s (t + 1) / 65536 % 3 < R
    · have sn := MW_snow (x := wx s (t + 1)) c rfl hM
      obtain ⟨T', W', s1, s2⟩ := MW_step (A := ud A 2 (upd (A 2) (17 + wx s (t + 1) / 65536 % 3) (imn (A 2 (17 + wx s (t + 1) / 65536 % 3) + nI (wx s (t + 1) / 1048576 % 6)) (nI 60)))) (by rw [ud_s]; exact sn.1) (by rw [ud_s]; exact sn.2.1) (by rw [ud_s]; exact sn.2.2) hd (by omega) h m ab be ii
      rw [ud_u] at s1
      obtain ⟨φ', A', ih, y1, y2⟩ := l_mwin hs hn hH sd h m ab be ii k (t + 1) (φ + cfh (asw R (wx s (t + 1)) (wd R N H s D t)) (asw R (wx s (t + 1)) (wd R N H s D t) 1 ((H + t + 1) % 8)) N) (.int (nI (wx s (t + 1) / 65536 % 3))) (ud (ud A 2 T') 7 W') (by omega) (by rw [ud_n (by decide), ud_s]; exact s2) (by rw [hct]; omega)
      refine ⟨φ', A', ?_, MSC_t (MSC_u (MSC_u (MSC_r A) (by decide) T') (by decide) W') y1, y2⟩
      refine Eq.trans ?_ ih
      rw [rh_211_44]
      simp only [SA, rw_211, HM_o, HMr, HMw, if_neg (nI_ge (show t < n by omega) (show n < 2 ^ 31 by omega)), if_neg (show ¬ lN 2147483648 = 0 by decide), if_neg (show ¬ lN 65536 = 0 by decide), if_neg (show ¬ lN 3 = 0 by decide), if_neg (show ¬ lN 1048576 = 0 by decide), if_neg (show ¬ lN 6 = 0 by decide), wx_l hs, wx_r lt, wx_v lt, ia_n (show 9 < 56 by decide) b5, h9, if_neg (nI_ge c (show R < 2 ^ 31 by omega)), nI_add, ia_n (show 17 + wx s (t + 1) / 65536 % 3 < 56 by omega) b5, c_less, less_imb, is_n (show 17 + wx s (t + 1) / 65536 % 3 < 56 by omega) b5, s1]
    · have ea : asw R (wx s (t + 1)) (wd R N H s D t) = wd R N H s D t := if_neg c
      rw [ea] at hd hct
      obtain ⟨T', W', s1, s2⟩ := MW_step (A := A) hM.1 hM.2.1 hM.2.2 hd (by omega) h m ab be ii
      obtain ⟨φ', A', ih, y1, y2⟩ := l_mwin hs hn hH sd h m ab be ii k (t + 1) (φ + cfh (wd R N H s D t) (wd R N H s D t 1 ((H + t + 1) % 8)) N) (.int (nI (wx s (t + 1) / 65536 % 3))) (ud (ud A 2 T') 7 W') (by omega) (by rw [ud_n (by decide), ud_s]; exact s2) (by rw [hct]; omega)
      refine ⟨φ', A', ?_, MSC_t (MSC_u (MSC_u (MSC_r A) (by decide) T') (by decide) W') y1, y2⟩
      refine Eq.trans ?_ ih
      rw [rh_211_44]
      simp only [SA, rw_211, HM_o, HMr, HMw, if_neg (nI_ge (show t < n by omega) (show n < 2 ^ 31 by omega)), if_neg (show ¬ lN 2147483648 = 0 by decide), if_neg (show ¬ lN 65536 = 0 by decide), if_neg (show ¬ lN 3 = 0 by decide), wx_l hs, wx_r lt, ia_n (show 9 < 56 by decide) b5, h9, if_pos (nI_le (show R ≤ wx s (t + 1) / 65536 % 3 by omega) (show wx s (t + 1) / 65536 % 3 < 2 ^ 31 by omega)), s1, nI_add]
theorem m_winters {R N H n s : Nat} {D : Nat → Nat → Int32} {A : Nat → Nat → Int32} (hM : MR R N 0 H D (A 1)) (hs : s ≤ 999999) (hn : n ≤ 60) (hH : H ≤ 9999) (h : icH) (m : Nat) (ab be : Int64) (ii : Nat → Int32) : ∃ A', icE 211 0 [.ref m, .int (nI s), .int (nI n), dum, dum, dum, dum, dum] [] (HM h m ab be ii A) = some (some (.int (nI (ctD (wd R N H s D n) (nI 2) N) - nI (ctD D (nI 2) N))), HM h m ab be ii A') ∧ MSC A A' := by
  obtain ⟨φ, A', z, y1, y2⟩ := l_mwin (D := D) (show s < 2147483648 by omega) hn hH (nI s) h m ab be ii n 0 0 dum (ud A 2 (va_cpy (A 1) (A 2) 0 0 56)) (by omega) (by rw [ud_s]; exact MR_lay hM _) (Nat.zero_add _)
  refine ⟨A', ?_, MSC_t (MSC_u (MSC_r A) (by decide) _) y1⟩
  rw [nI_sb (by omega), ← y2, Nat.add_sub_cancel]
  refine Eq.trans ?_ z
  simp only [SA, rw_211, HM_o, c_in, l64, lN_t (show 999999 < 2 ^ 31 by decide), lN_t (show 60 < 2 ^ 31 by decide), i64_le, if_neg (bi_10 (W_n (Nat.zero_le s) hs (by decide))), if_neg (bi_10 (W_n (Nat.zero_le n) hn (by decide))), c_laysAside]
  rw [nI_l (show s < 2 ^ 31 by omega)]
  rfl
