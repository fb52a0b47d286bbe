/-! ===== the reference: hours, more, about ===== -/
theorem TOK_c {R N : Nat} {T T' : Nat → Int32} (hT : TOK R N T) (e : ∀ c, c < 56 → T' c = T c) : TOK R N T' := by
  unfold TOK at *
  obtain ⟨h9, h10, hR, hN, hk, hs, hki, hro⟩ := hT
  refine ⟨?_, ?_, hR, hN, fun r hr => ?_, fun r hr => ?_, fun r hr => ?_, fun r hr => ?_⟩
  · rw [e 9 (by omega)]; exact h9
  · rw [e 10 (by omega)]; exact h10
  · rw [e _ (by omega)]; exact hk r hr
  · rw [e _ (by omega)]; exact hs r hr
  · rw [e _ (by omega)]; exact hki r hr
  · rw [e _ (by omega)]; exact hro r hr
theorem m_hours {A : Nat → Nat → Int32} {K R N H n : Nat} (hK : K ≤ 8) (hA : A 1 139 = nI K) (hT : TOK R N (A 1)) (hH : A 1 0 = nI H) (h9 : H ≤ 9999) (hn : 1 ≤ n) (hn2 : n ≤ 96) (h : icH) (m : Nat) (ab be : Int64) (ii : Nat → Int32) : ∃ T' W' : Nat → Int32, icE 171 0 [.ref m, .int (nI n)] [] (HM h m ab be ii A) = some (some (.int (nI (cnt T' N))), HM h m ab be ii (ud (ud A 1 T') 7 W')) ∧ TOK R N T' ∧ T' 0 = nI (H + min n (9999 - H)) ∧ (∀ V V', ERl R N (vw T' V) (hsn R N (min n (9999 - H)) H (vw (ntz (A 1) K) V'))) ∧ (∀ c, 0 < c → (c < 17 ∨ (17 + R ≤ c ∧ c < 38) ∨ (44 ≤ c ∧ c < 50) ∨ 56 ≤ c) → T' c = ntz (A 1) K c) := by
  have q := W_n hn hn2 (by decide)
  have hT1 : TOK R N (ud A 1 (ntz (A 1) K) 1) := by rw [ud_s]; exact TOK_c hT (fun c hc => ntz_lo (by omega))
  have hH1 : ud A 1 (ntz (A 1) K) 1 0 = nI H := by rw [ud_s, ntz_lo (by decide)]; exact hH
  obtain ⟨T', W', g, t1, t2, t3, t4⟩ := c_mgoes (n := n) (by omega) h m ab be ii hT1 hH1 h9
  rw [ud_u] at g
  rw [ud_s] at t3 t4
  refine ⟨T', W', ?_, t1, t2, t3, t4⟩
  have a1 : ud (ud A 1 T') 7 W' 1 = T' := by rw [ud_n (by decide), ud_s]
  have z := c_standing (t := 1) (N := N) (Or.inl rfl) h m ab be ii (A := ud (ud A 1 T') 7 W') (by rw [a1]; exact t1.2.1) hT.2.2.2.1
  rw [a1] at z
  simp only [SA, rw_171, HM_o, HMr, c_in, l64, i64_le, if_neg (bi_10 q), c_nt hK hA, g, z]
theorem m_more {A : Nat → Nat → Int32} {R N H i : Nat} (hT : TOK R N (A 1)) (hH : A 1 0 = nI H) (hb : H + 1 < 2 ^ 31) (hi : i < N) (h : icH) (m : Nat) (ab be : Int64) (ii : Nat → Int32) : icE 177 0 [.ref m, .int (nI i), dum] [] (HM h m ab be ii A) = some (some (.int (mor (kn (vw (A 1) (A 7) 7 i)) (vw (A 1) (A 7) 9 i) (A 1 (1 + (H + 1) % 8)) (wtr (vw (A 1) (A 7)) (A 1 (1 + (H + 1) % 8)) (kn (vw (A 1) (A 7) 6 i))))), HM h m ab be ii A) := by
  obtain ⟨h9, h10, hR, hN, hk, hs, hki, hro⟩ := hT
  have b2 : 292 < 2 ^ 31 := by decide
  have q1 : nI 0 ≤ nI i ∧ nI i ≤ A 1 10 - nI 1 := by rw [h10]; exact R_n hi (by omega)
  have ro := hro i hi
  have cw := c_waterOfM (t := 1) (r := kn (A 1 (20 + i))) (Or.inl rfl) (by have := ro.2; omega) (A 1 (1 + (H + 1) % 8)) h m ab be ii (A := A) (hk _ ro.2) (hs _ ro.2).1 (by have := (hs _ ro.2).2; omega)
  rw [← ro.1] at cw
  have wo := c_warmthOf (t := 1) (Or.inl rfl) hb h m ab be ii A
  simp only [SA, rw_177, HM_o, HMr, c_misIce, if_neg (bi_10 q1), ia_n (show 0 < 292 by decide) b2, hH, nI_add, wo, ia_n (show 26 + i < 292 by omega) b2, ia_n (show 38 + i < 292 by omega) b2, ia_n (show 20 + i < 292 by omega) b2, cw, c_mmor (hki i hi)]
  rfl
