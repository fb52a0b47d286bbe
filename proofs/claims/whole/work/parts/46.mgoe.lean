/-! ===== hours on both sides ===== -/
theorem vw_V {R N : Nat} (T V V' : Nat → Int32) (v : Int32) : ERl R N (vw (upd T 0 v) V) (vw T V') := by
  refine ⟨fun k hk => ?_, fun a h1 h2 r hr => ?_, fun a h1 h2 i hi => ?_⟩
  · exact upd_n (show 1 + k ≠ 0 by omega)
  · have : a = 2 ∨ a = 3 ∨ a = 4 := by omega
    rcases this with rfl | rfl | rfl
    · exact upd_n (show 11 + r ≠ 0 by omega)
    · exact upd_n (show 14 + r ≠ 0 by omega)
    · exact upd_n (show 17 + r ≠ 0 by omega)
  · have : a = 6 ∨ a = 7 ∨ a = 8 ∨ a = 9 ∨ a = 10 ∨ a = 11 := by omega
    rcases this with rfl | rfl | rfl | rfl | rfl | rfl
    · exact upd_n (show 20 + i ≠ 0 by omega)
    · exact upd_n (show 26 + i ≠ 0 by omega)
    · exact upd_n (show 32 + i ≠ 0 by omega)
    · exact upd_n (show 38 + i ≠ 0 by omega)
    · exact upd_n (show 44 + i ≠ 0 by omega)
    · exact upd_n (show 50 + i ≠ 0 by omega)
theorem ERl_cfh {R N : Nat} {D E : Nat → Nat → Int32} (h : ERl R N D E) (h6 : ∀ i, i < N → kd R (D 6 i)) (w : Int32) : ∀ n, n ≤ N → cfh D w n = cfh E w n
  | 0, _ => rfl
  | n + 1, hn => by
    unfold cfh
    rw [ERl_cfh h h6 w n (by omega), ERl_gxh h w (show n < N by omega) (h6 n (by omega)), h.2.2 11 (by decide) (by decide) n (by omega)]
theorem ERl_hs {R N : Nat} {D E : Nat → Nat → Int32} (h : ERl R N D E) (h6 : ∀ i, i < N → kd R (D 6 i)) (H : Nat) : ERl R N (hs R N H D) (hs R N H E) := by
  unfold hs
  rw [h.1 ((H + 1) % 8) (by omega)]
  exact ERl_hw h h6 _
theorem hs_6 {R N H : Nat} {D : Nat → Nat → Int32} : hs R N H D 6 = D 6 := hw_n (by decide) (by decide) (by decide) (by decide)
theorem ERl_hsn {R N : Nat} : ∀ (n H : Nat) {D E : Nat → Nat → Int32}, ERl R N D E → (∀ i, i < N → kd R (D 6 i)) → ERl R N (hsn R N n H D) (hsn R N n H E)
  | 0, _, _, _, h, _ => h
  | n + 1, H, D, E, h, h6 => ERl_hsn n (H + 1) (ERl_hs h h6 H) (by rw [hs_6]; exact h6)
theorem c_mstep {t R N H : Nat} (ht : t = 1 ∨ t = 2) (h : icH) (m : Nat) (ab be : Int64) (ii : Nat → Int32) {A : Nat → Nat → Int32} (hT : TOK R N (A t)) (hH : A t 0 = nI H) (hb : H + 1 < 2 ^ 31) : ∃ T' W' : Nat → Int32, icE 150 0 [.ref m, .ref (m + t)] [] (HM h m ab be ii A) = some (some (.int (nI (cfh (vw (A t) (A 7)) (A t (1 + (H + 1) % 8)) N))), HM h m ab be ii (ud (ud A t T') 7 W')) ∧ TOK R N T' ∧ T' 0 = nI (H + 1) ∧ (∀ V V', ERl R N (vw T' V) (hs R N H (vw (A t) V'))) ∧ (∀ c, 0 < c → (c < 17 ∨ (17 + R ≤ c ∧ c < 38) ∨ (44 ≤ c ∧ c < 50) ∨ 56 ≤ c) → T' c = A t c) := by
  have hT0 := TOK_0 hT (nI (H + 1))
  have h6 := hT0.2.2.2.2.2.2.2
  have hR := hT.2.2.1
  have hN := hT.2.2.2.1
  refine ⟨mh (upd (A t) 0 (nI (H + 1))) (A 7) (A t (1 + (H + 1) % 8)) R N, m7 (upd (A t) 0 (nI (H + 1))) (A 7) (A t (1 + (H + 1) % 8)) R, ?_, TOK_mh hT0 (A 7) (A t (1 + (H + 1) % 8)), ?_, ?_, ?_⟩
  · rw [c_passes ht h m ab be ii hT hH hb]
    rw [ERl_cfh (vw_V (A t) (A 7) (A 7) (nI (H + 1))) h6 _ N (Nat.le_refl N)]
  · rw [mh_o hR hN (by omega)]
    exact upd_s _ _ _
  · intro V V'
    refine ERl_t (ERl_mh hR hN h6 _) ?_
    exact ERl_hw (vw_V (A t) (A 7) V' (nI (H + 1))) h6 _
  · intro c hc0 hc
    by_cases hq : 17 + R ≤ c ∧ c < 20
    · unfold mh m2 m1
      rw [pw_o (by omega), pw_o (by omega), pw_o (by omega)]
      exact upd_n (by omega)
    · rw [mh_o hR hN (by omega)]
      exact upd_n (by omega)
theorem l_mgoes {R N n : Nat} (hn : n < 2 ^ 31) (h : icH) (m : Nat) (ab be : Int64) (ii : Nat → Int32) : ∀ (k i H : Nat) (A : Nat → Nat → Int32), i + k = n → TOK R N (A 1) → A 1 0 = nI H → H ≤ 9999 → ∃ T' W' : Nat → Int32, icE 166 2 [.ref m, .int (nI n), .int (nI i)] [] (HM h m ab be ii A) = some (some (.int (nI (i + min k (9999 - H)))), HM h m ab be ii (ud (ud A 1 T') 7 W')) ∧ TOK R N T' ∧ T' 0 = nI (H + min k (9999 - H)) ∧ (∀ V V', ERl R N (vw T' V) (hsn R N (min k (9999 - H)) H (vw (A 1) V'))) ∧ (∀ c, 0 < c → (c < 17 ∨ (17 + R ≤ c ∧ c < 38) ∨ (44 ≤ c ∧ c < 50) ∨ 56 ≤ c) → T' c = A 1 c)
  | 0, i, H, A, hik, hT, hH, h9 => by
    have : i = n := by omega
    subst this
    refine ⟨A 1, A 7, ?_, hT, ?_, fun V V' => ?_, fun c _ _ => rfl⟩
    · rw [rh_166_2]
      have e : ud (ud A 1 (A 1)) 7 (A 7) = A := by rw [ud_id, ud_id]
      simp only [SA, rw_166, if_pos (nI_le (Nat.le_refl i) hn), Nat.zero_min, Nat.add_zero, e]
    · rw [Nat.zero_min, Nat.add_zero]; exact hH
    · rw [Nat.zero_min]
      have e := vw_V (R := R) (N := N) (A 1) V V' (A 1 0)
      rw [upd_id] at e
      exact e
  | k + 1, i, H, A, hik, hT, hH, h9 => by
    by_cases hq : H = 9999
    · subst hq
      refine ⟨A 1, A 7, ?_, hT, ?_, fun V V' => ?_, fun c _ _ => rfl⟩
      · rw [rh_166_2]
        have e : ud (ud A 1 (A 1)) 7 (A 7) = A := by rw [ud_id, ud_id]
        simp only [SA, rw_166, HM_o, HMr, if_neg (nI_ge (show i < n by omega) hn), ia_n (show 0 < 292 by decide) (show 292 < 2 ^ 31 by decide), hH, if_pos (nI_le (Nat.le_refl 9999) (show 9999 < 2 ^ 31 by decide)), Nat.sub_self, Nat.min_zero, Nat.add_zero, e]
      · rw [Nat.sub_self, Nat.min_zero, Nat.add_zero]; exact hH
      · rw [Nat.sub_self, Nat.min_zero]
        have e := vw_V (R := R) (N := N) (A 1) V V' (A 1 0)
        rw [upd_id] at e
        exact e
    · obtain ⟨T1, W1, e1, t1, t2, t3, t4⟩ := c_mstep (t := 1) (Or.inl rfl) h m ab be ii hT hH (show H + 1 < 2 ^ 31 by omega)
      have a1 : ud (ud A 1 T1) 7 W1 1 = T1 := by rw [ud_n (by decide), ud_s]
      obtain ⟨T2, W2, g1, s1, s2, s3, s4⟩ := l_mgoes hn h m ab be ii k (i + 1) (H + 1) (ud (ud A 1 T1) 7 W1) (by omega) (by rw [a1]; exact t1) (by rw [a1]; exact t2) (by omega)
      rw [a1] at s3 s4
      have e0 : min (k + 1) (9999 - H) = min k (9999 - (H + 1)) + 1 := by omega
      refine ⟨T2, W2, ?_, s1, ?_, fun V V' => ?_, fun c h0 hc => (s4 c h0 hc).trans (t4 c h0 hc)⟩
      · rw [rh_166_2]
        simp only [SA, rw_166, HM_o, HMr, if_neg (nI_ge (show i < n by omega) hn), ia_n (show 0 < 292 by decide) (show 292 < 2 ^ 31 by decide), hH, if_neg (nI_ge (show H < 9999 by omega) (show 9999 < 2 ^ 31 by decide)), e1, nI_add]
        rw [g1, e0]
        have e2 : ud (ud (ud (ud A 1 T1) 7 W1) 1 T2) 7 W2 = ud (ud A 1 T2) 7 W2 := by
          rw [ud_c (show (7 : Nat) ≠ 1 by decide), ud_u, ud_u]
        rw [e2, show i + 1 + min k (9999 - (H + 1)) = i + (min k (9999 - (H + 1)) + 1) by omega]
      · rw [s2, e0]
        congr 1
        omega
      · rw [e0]
        refine ERl_t (s3 V V) ?_
        refine ERl_hsn _ _ (t3 V V') ?_
        intro j hj
        exact t1.2.2.2.2.2.2.2 j hj
theorem c_mgoes {R N n H : Nat} (hn : n < 2 ^ 31) (h : icH) (m : Nat) (ab be : Int64) (ii : Nat → Int32) {A : Nat → Nat → Int32} (hT : TOK R N (A 1)) (hH : A 1 0 = nI H) (h9 : H ≤ 9999) : ∃ T' W' : Nat → Int32, icE 166 0 [.ref m, .int (nI n), dum] [] (HM h m ab be ii A) = some (some (.int (nI (min n (9999 - H)))), HM h m ab be ii (ud (ud A 1 T') 7 W')) ∧ TOK R N T' ∧ T' 0 = nI (H + min n (9999 - H)) ∧ (∀ V V', ERl R N (vw T' V) (hsn R N (min n (9999 - H)) H (vw (A 1) V'))) ∧ (∀ c, 0 < c → (c < 17 ∨ (17 + R ≤ c ∧ c < 38) ∨ (44 ≤ c ∧ c < 50) ∨ 56 ≤ c) → T' c = A 1 c) := by
  obtain ⟨T', W', e, r⟩ := l_mgoes hn h m ab be ii n 0 H A (by omega) hT hH h9
  refine ⟨T', W', ?_, r⟩
  simp only [SA, rw_166]
  rw [Nat.zero_add] at e
  exact e
