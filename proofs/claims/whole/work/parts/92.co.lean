/-! ===== the coupling of a house's eaves with the reference's row ===== -/
def CO (H R N : Nat) (D : Nat → Nat → Int32) (T : Nat → Int32) : Prop := MR R N 0 H D T ∧ EOK R N D ∧ H ≤ 9999 ∧ (∀ k, k < 8 → -9 ≤ D 1 k ∧ D 1 k ≤ nI 9) ∧ (∀ i, i < N → kd 8 (D 8 i)) ∧ (∀ i, i < N → (-1 : Int32) < D 9 i) ∧ (∀ r, R ≤ r → r < 3 → T (17 + r) = nI 0)
theorem ERl_0 {R N H : Nat} {X D : Nat → Nat → Int32} (h : ERl R N X D) : ERl R N X (hsn R N 0 H D) := h
theorem CO_W {H R N : Nat} {D : Nat → Nat → Int32} {T : Nat → Int32} (h : CO H R N D T) : WOK D := fun k hk => (h.2.2.2.1 k hk).2
theorem CO_c {H R N : Nat} {D : Nat → Nat → Int32} {T T' : Nat → Int32} (h : CO H R N D T) (e : ∀ c, c < 56 → T' c = T c) : CO H R N D T' := by
  obtain ⟨hM, h1, h2, h3, h4, h5, h6⟩ := h
  refine ⟨⟨TOK_c hM.1 e, (e 0 (by decide)).trans hM.2.1, fun V => ?_⟩, h1, h2, h3, h4, h5, fun r a b => (e _ (by omega)).trans (h6 r a b)⟩
  exact ERl_t (vw_c hM.1.2.2.1 hM.1.2.2.2.1 (fun c _ hc => e c hc) V V) (hM.2.2 V)
theorem CO_D {H R N : Nat} {D D' : Nat → Nat → Int32} {T : Nat → Int32} (h : CO H R N D T) (e : ERl R N D' D) : CO H R N D' T := by
  obtain ⟨hM, h1, h2, h3, h4, h5, h6⟩ := h
  exact ⟨⟨hM.1, hM.2.1, fun V => ERl_t (hM.2.2 V) (ERl_s e)⟩, EOK_E h1 e, h2, fun k hk => by rw [e.1 k hk]; exact h3 k hk, fun i hi => by rw [e.2.2 8 (by decide) (by decide) i hi]; exact h4 i hi, fun i hi => by rw [e.2.2 9 (by decide) (by decide) i hi]; exact h5 i hi, h6⟩
theorem vw_r {T V : Nat → Int32} {a j : Nat} (h1 : 2 ≤ a) (h2 : a ≤ 4) : vw T V a j = T (5 + 3 * a + j) := by
  unfold vw
  rw [if_neg (by omega)]
  have : bs a = 5 + 3 * a := by unfold bs; rw [if_neg (by omega), if_pos (by omega)]
  rw [this]
theorem vw_i {T V : Nat → Int32} {a j : Nat} (h1 : 6 ≤ a) (_h2 : a ≤ 11) : vw T V a j = T (6 * a - 16 + j) := by
  unfold vw
  rw [if_neg (by omega)]
  have : bs a = 6 * a - 16 := by unfold bs; rw [if_neg (by omega), if_neg (by omega)]
  rw [this]
theorem vw_1 {T V : Nat → Int32} {j : Nat} : vw T V 1 j = T (1 + j) := rfl
theorem CO_begin {w : Int32} (h1 : -9 ≤ w) (h2 : w ≤ nI 9) (D : Nat → Nat → Int32) (T : Nat → Int32) : CO 0 0 0 (ud D 1 (fil (D 1) w 0 8)) (fil (fil T (nI 0) 0 292) w 1 9) := by
  have z : ∀ c, c < 292 → (c < 1 ∨ 9 ≤ c) → fil (fil T (nI 0) 0 292) w 1 9 c = nI 0 := fun c hc hd => by
    unfold fil
    rw [if_neg (by omega), if_pos (by omega)]
  have zw : ∀ k, k < 8 → fil (fil T (nI 0) 0 292) w 1 9 (1 + k) = w := fun k hk => by
    unfold fil
    rw [if_pos (by omega)]
  have zd : ∀ k, k < 8 → ud D 1 (fil (D 1) w 0 8) 1 k = w := fun k hk => by
    rw [ud_s]
    unfold fil
    rw [if_pos (by omega)]
  have nz : ∀ {p : Nat → Prop} (i : Nat), i < 0 → p i := fun i hi => absurd hi (Nat.not_lt_zero i)
  refine ⟨⟨⟨z 9 (by decide) (by decide), z 10 (by decide) (by decide), by decide, by decide, fun r hr => absurd hr (Nat.not_lt_zero r), fun r hr => absurd hr (Nat.not_lt_zero r), fun r hr => absurd hr (Nat.not_lt_zero r), fun r hr => absurd hr (Nat.not_lt_zero r)⟩, z 0 (by decide) (by decide), fun V => ERl_0 ⟨fun k hk => ?_, fun a _ _ r hr => absurd hr (Nat.not_lt_zero r), fun a _ _ r hr => absurd hr (Nat.not_lt_zero r)⟩⟩, ⟨by decide, by decide, fun r hr => absurd hr (Nat.not_lt_zero r), fun r hr => absurd hr (Nat.not_lt_zero r), fun r hr => absurd hr (Nat.not_lt_zero r)⟩, by decide, fun k hk => ?_, fun r hr => absurd hr (Nat.not_lt_zero r), fun r hr => absurd hr (Nat.not_lt_zero r), fun r _ hr => z _ (by omega) (by omega)⟩
  · rw [vw_1, zw k hk]; exact (zd k hk).symm
  · rw [zd k hk]; exact ⟨h1, h2⟩
theorem CO_warm {H R N k : Nat} {w : Int32} {D : Nat → Nat → Int32} {T : Nat → Int32} (h : CO H R N D T) (hk : k < 8) (h1 : -9 ≤ w) (h2 : w ≤ nI 9) : CO H R N (ud D 1 (upd (D 1) k w)) (upd T (1 + k) w) := by
  obtain ⟨⟨⟨h9, h10, hR, hN, hkk, hs, hki, hro⟩, h0, hE⟩, ⟨e1, e2, e3, e4, e5⟩, hH, hw, h8, hl, hz⟩ := h
  have n : ∀ c, c ≠ 1 + k → upd T (1 + k) w c = T c := fun c hc => pk_un hc
  have d : ∀ a, a ≠ 1 → ud D 1 (upd (D 1) k w) a = D a := fun a ha => ud_n ha
  refine ⟨⟨⟨?_, ?_, hR, hN, fun q hq => ?_, fun q hq => ?_, fun q hq => ?_, fun q hq => ?_⟩, ?_, fun V => ERl_0 ⟨fun q hq => ?_, fun a a1 a2 r hr => ?_, fun a a1 a2 r hr => ?_⟩⟩, ⟨e1, e2, fun r hr => ?_, fun r hr => ?_, fun r hr => ?_⟩, hH, fun q hq => ?_, fun r hr => ?_, fun r hr => ?_, fun r hr hr2 => ?_⟩
  · rw [n _ (by omega)]; exact h9
  · rw [n _ (by omega)]; exact h10
  · rw [n _ (by omega)]; exact hkk q hq
  · rw [n _ (by omega)]; exact hs q hq
  · rw [n _ (by omega)]; exact hki q hq
  · rw [n _ (by omega)]; exact hro q hq
  · rw [n _ (by omega)]; exact h0
  · rw [vw_1, ud_s]
    by_cases c : q = k
    · rw [c, pk_us, pk_us]
    · rw [n _ (by omega), pk_un c]; exact (hE V).1 q hq
  · rw [d a (by omega), vw_r a1 a2, n _ (by omega), ← vw_r (T := T) (V := V) (j := r) a1 a2]; exact (hE V).2.1 a a1 a2 r hr
  · rw [d a (by omega), vw_i a1 a2, n _ (by omega), ← vw_i (T := T) (V := V) (j := r) a1 a2]; exact (hE V).2.2 a a1 a2 r hr
  · rw [d 2 (by decide)]; exact e3 r hr
  · rw [d 7 (by decide)]; exact e4 r hr
  · rw [d 6 (by decide)]; exact e5 r hr
  · rw [ud_s]
    by_cases c : q = k
    · rw [c, pk_us]; exact ⟨h1, h2⟩
    · rw [pk_un c]; exact hw q hq
  · rw [d 8 (by decide)]; exact h8 r hr
  · rw [d 9 (by decide)]; exact hl r hr
  · rw [n _ (by omega)]; exact hz r hr hr2
theorem kd_le {m n : Nat} {x : Int32} (h : kd m x) (hm : m ≤ n) : kd n x := ⟨h.1, Nat.lt_of_lt_of_le h.2 hm⟩
theorem CO_roof {H R N : Nat} {a b c : Int32} {D : Nat → Nat → Int32} {T : Nat → Int32} (h : CO H R N D T) (hR : R < 3) (ha : kd 6 a) (hc : kd 61 c) : CO H (R + 1) N (ud (ud (ud D 2 (upd (D 2) R a)) 3 (upd (D 3) R b)) 4 (upd (D 4) R c)) (upd (upd (upd (upd T (11 + R) a) (14 + R) b) (17 + R) c) 9 (nI (R + 1))) := by
  obtain ⟨⟨⟨h9, h10, _, hN, hkk, hs, hki, hro⟩, h0, hE⟩, ⟨e1, e2, e3, e4, e5⟩, hH, hw, h8, hl, hz⟩ := h
  have n : ∀ q, q ≠ 9 → q ≠ 11 + R → q ≠ 14 + R → q ≠ 17 + R → upd (upd (upd (upd T (11 + R) a) (14 + R) b) (17 + R) c) 9 (nI (R + 1)) q = T q := fun q q1 q2 q3 q4 => by rw [pk_un q1, pk_un q4, pk_un q3, pk_un q2]
  have t1 : upd (upd (upd (upd T (11 + R) a) (14 + R) b) (17 + R) c) 9 (nI (R + 1)) (11 + R) = a := by rw [pk_un (by omega), pk_un (by omega), pk_un (by omega), pk_us]
  have t2 : upd (upd (upd (upd T (11 + R) a) (14 + R) b) (17 + R) c) 9 (nI (R + 1)) (14 + R) = b := by rw [pk_un (by omega), pk_un (by omega), pk_us]
  have t3 : upd (upd (upd (upd T (11 + R) a) (14 + R) b) (17 + R) c) 9 (nI (R + 1)) (17 + R) = c := by rw [pk_un (by omega), pk_us]
  have d2 : ud (ud (ud D 2 (upd (D 2) R a)) 3 (upd (D 3) R b)) 4 (upd (D 4) R c) 2 = upd (D 2) R a := by rw [ud_n (by decide), ud_n (by decide), ud_s]
  have d3 : ud (ud (ud D 2 (upd (D 2) R a)) 3 (upd (D 3) R b)) 4 (upd (D 4) R c) 3 = upd (D 3) R b := by rw [ud_n (by decide), ud_s]
  have d4 : ud (ud (ud D 2 (upd (D 2) R a)) 3 (upd (D 3) R b)) 4 (upd (D 4) R c) 4 = upd (D 4) R c := by rw [ud_s]
  have d : ∀ q, q ≠ 2 → q ≠ 3 → q ≠ 4 → ud (ud (ud D 2 (upd (D 2) R a)) 3 (upd (D 3) R b)) 4 (upd (D 4) R c) q = D q := fun q q2 q3 q4 => by rw [ud_n q4, ud_n q3, ud_n q2]
  generalize ud (ud (ud D 2 (upd (D 2) R a)) 3 (upd (D 3) R b)) 4 (upd (D 4) R c) = D' at *
  have t9 : upd (upd (upd (upd T (11 + R) a) (14 + R) b) (17 + R) c) 9 (nI (R + 1)) 9 = nI (R + 1) := pk_us
  generalize upd (upd (upd (upd T (11 + R) a) (14 + R) b) (17 + R) c) 9 (nI (R + 1)) = T' at *
  refine ⟨⟨⟨t9, ?_, by omega, hN, fun q hq => ?_, fun q hq => ?_, fun q hq => ?_, fun q hq => ?_⟩, ?_, fun V => ERl_0 ⟨fun q hq => ?_, fun x a1 a2 r hr => ?_, fun x a1 a2 r hr => ?_⟩⟩, ⟨by omega, e2, fun r hr => ?_, fun r hr => ?_, fun r hr => ?_⟩, hH, fun q hq => ?_, fun r hr => ?_, fun r hr => ?_, fun r hr hr2 => ?_⟩
  · rw [n _ (by omega) (by omega) (by omega) (by omega)]; exact h10
  · by_cases x : q = R
    · rw [x, t1]; exact ha
    · rw [n _ (by omega) (by omega) (by omega) (by omega)]; exact hkk q (by omega)
  · by_cases x : q = R
    · rw [x, t3]; exact hc
    · rw [n _ (by omega) (by omega) (by omega) (by omega)]; exact hs q (by omega)
  · rw [n _ (by omega) (by omega) (by omega) (by omega)]; exact hki q hq
  · rw [n _ (by omega) (by omega) (by omega) (by omega)]; exact kd_le (hro q hq) (by omega)
  · rw [n _ (by omega) (by omega) (by omega) (by omega)]; exact h0
  · rw [vw_1, n _ (by omega) (by omega) (by omega) (by omega), d 1 (by decide) (by decide) (by decide)]; exact (hE V).1 q hq
  · rw [vw_r a1 a2]
    have : x = 2 ∨ x = 3 ∨ x = 4 := by omega
    by_cases y : r = R
    · rcases this with rfl | rfl | rfl
      · rw [d2, y, pk_us]; exact t1
      · rw [d3, y, pk_us]; exact t2
      · rw [d4, y, pk_us]; exact t3
    · rw [n _ (by omega) (by omega) (by omega) (by omega), ← vw_r (T := T) (V := V) (j := r) a1 a2]
      have z := (hE V).2.1 x a1 a2 r (by omega)
      rcases this with rfl | rfl | rfl
      · rw [d2, pk_un y]; exact z
      · rw [d3, pk_un y]; exact z
      · rw [d4, pk_un y]; exact z
  · rw [d x (by omega) (by omega) (by omega), vw_i a1 a2, n _ (by omega) (by omega) (by omega) (by omega), ← vw_i (T := T) (V := V) (j := r) a1 a2]; exact (hE V).2.2 x a1 a2 r hr
  · rw [d2]
    by_cases x : r = R
    · rw [x, pk_us]; exact ha
    · rw [pk_un x]; exact e3 r (by omega)
  · rw [d 7 (by decide) (by decide) (by decide)]; exact e4 r hr
  · rw [d 6 (by decide) (by decide) (by decide)]; exact kd_le (e5 r hr) (by omega)
  · rw [d 1 (by decide) (by decide) (by decide)]; exact hw q hq
  · rw [d 8 (by decide) (by decide) (by decide)]; exact h8 r hr
  · rw [d 9 (by decide) (by decide) (by decide)]; exact hl r hr
  · rw [n _ (by omega) (by omega) (by omega) (by omega)]; exact hz r (by omega) hr2
theorem CO_ice {H R N : Nat} {a b c e g : Int32} {D : Nat → Nat → Int32} {T : Nat → Int32} (h : CO H R N D T) (hN6 : N < 6) (ha : kd R a) (hb : kd 6 b) (hc : kd 8 c) (he : (-1 : Int32) < e) : CO H R (N + 1) (ud (ud (ud (ud (ud (ud D 6 (upd (D 6) N a)) 7 (upd (D 7) N b)) 8 (upd (D 8) N c)) 9 (upd (D 9) N e)) 10 (upd (D 10) N g)) 11 (upd (D 11) N (nI 0))) (upd (upd (upd (upd (upd (upd (upd T (20 + N) a) (26 + N) b) (32 + N) c) (38 + N) e) (44 + N) g) (50 + N) (nI 0)) 10 (nI (N + 1))) := by
  obtain ⟨⟨⟨h9, h10, hR, _, hkk, hs, hki, hro⟩, h0, hE⟩, ⟨e1, e2, e3, e4, e5⟩, hH, hw, h8, hl, hz⟩ := h
  have n : ∀ q, q ≠ 10 → q ≠ 20 + N → q ≠ 26 + N → q ≠ 32 + N → q ≠ 38 + N → q ≠ 44 + N → q ≠ 50 + N → upd (upd (upd (upd (upd (upd (upd T (20 + N) a) (26 + N) b) (32 + N) c) (38 + N) e) (44 + N) g) (50 + N) (nI 0)) 10 (nI (N + 1)) q = T q := fun q q1 q2 q3 q4 q5 q6 q7 => by rw [pk_un q1, pk_un q7, pk_un q6, pk_un q5, pk_un q4, pk_un q3, pk_un q2]
  have t1 : upd (upd (upd (upd (upd (upd (upd T (20 + N) a) (26 + N) b) (32 + N) c) (38 + N) e) (44 + N) g) (50 + N) (nI 0)) 10 (nI (N + 1)) (20 + N) = a := by rw [pk_un (by omega), pk_un (by omega), pk_un (by omega), pk_un (by omega), pk_un (by omega), pk_un (by omega), pk_us]
  have t2 : upd (upd (upd (upd (upd (upd (upd T (20 + N) a) (26 + N) b) (32 + N) c) (38 + N) e) (44 + N) g) (50 + N) (nI 0)) 10 (nI (N + 1)) (26 + N) = b := by rw [pk_un (by omega), pk_un (by omega), pk_un (by omega), pk_un (by omega), pk_un (by omega), pk_us]
  have t3 : upd (upd (upd (upd (upd (upd (upd T (20 + N) a) (26 + N) b) (32 + N) c) (38 + N) e) (44 + N) g) (50 + N) (nI 0)) 10 (nI (N + 1)) (32 + N) = c := by rw [pk_un (by omega), pk_un (by omega), pk_un (by omega), pk_un (by omega), pk_us]
  have t4 : upd (upd (upd (upd (upd (upd (upd T (20 + N) a) (26 + N) b) (32 + N) c) (38 + N) e) (44 + N) g) (50 + N) (nI 0)) 10 (nI (N + 1)) (38 + N) = e := by rw [pk_un (by omega), pk_un (by omega), pk_un (by omega), pk_us]
  have t5 : upd (upd (upd (upd (upd (upd (upd T (20 + N) a) (26 + N) b) (32 + N) c) (38 + N) e) (44 + N) g) (50 + N) (nI 0)) 10 (nI (N + 1)) (44 + N) = g := by rw [pk_un (by omega), pk_un (by omega), pk_us]
  have t6 : upd (upd (upd (upd (upd (upd (upd T (20 + N) a) (26 + N) b) (32 + N) c) (38 + N) e) (44 + N) g) (50 + N) (nI 0)) 10 (nI (N + 1)) (50 + N) = nI 0 := by rw [pk_un (by omega), pk_us]
  have t10 : upd (upd (upd (upd (upd (upd (upd T (20 + N) a) (26 + N) b) (32 + N) c) (38 + N) e) (44 + N) g) (50 + N) (nI 0)) 10 (nI (N + 1)) 10 = nI (N + 1) := pk_us
  generalize upd (upd (upd (upd (upd (upd (upd T (20 + N) a) (26 + N) b) (32 + N) c) (38 + N) e) (44 + N) g) (50 + N) (nI 0)) 10 (nI (N + 1)) = T' at *
  have d6 : ud (ud (ud (ud (ud (ud D 6 (upd (D 6) N a)) 7 (upd (D 7) N b)) 8 (upd (D 8) N c)) 9 (upd (D 9) N e)) 10 (upd (D 10) N g)) 11 (upd (D 11) N (nI 0)) 6 = upd (D 6) N a := by rw [ud_n (by decide), ud_n (by decide), ud_n (by decide), ud_n (by decide), ud_n (by decide), ud_s]
  have d7 : ud (ud (ud (ud (ud (ud D 6 (upd (D 6) N a)) 7 (upd (D 7) N b)) 8 (upd (D 8) N c)) 9 (upd (D 9) N e)) 10 (upd (D 10) N g)) 11 (upd (D 11) N (nI 0)) 7 = upd (D 7) N b := by rw [ud_n (by decide), ud_n (by decide), ud_n (by decide), ud_n (by decide), ud_s]
  have d8 : ud (ud (ud (ud (ud (ud D 6 (upd (D 6) N a)) 7 (upd (D 7) N b)) 8 (upd (D 8) N c)) 9 (upd (D 9) N e)) 10 (upd (D 10) N g)) 11 (upd (D 11) N (nI 0)) 8 = upd (D 8) N c := by rw [ud_n (by decide), ud_n (by decide), ud_n (by decide), ud_s]
  have d9 : ud (ud (ud (ud (ud (ud D 6 (upd (D 6) N a)) 7 (upd (D 7) N b)) 8 (upd (D 8) N c)) 9 (upd (D 9) N e)) 10 (upd (D 10) N g)) 11 (upd (D 11) N (nI 0)) 9 = upd (D 9) N e := by rw [ud_n (by decide), ud_n (by decide), ud_s]
  have d10 : ud (ud (ud (ud (ud (ud D 6 (upd (D 6) N a)) 7 (upd (D 7) N b)) 8 (upd (D 8) N c)) 9 (upd (D 9) N e)) 10 (upd (D 10) N g)) 11 (upd (D 11) N (nI 0)) 10 = upd (D 10) N g := by rw [ud_n (by decide), ud_s]
  have d11 : ud (ud (ud (ud (ud (ud D 6 (upd (D 6) N a)) 7 (upd (D 7) N b)) 8 (upd (D 8) N c)) 9 (upd (D 9) N e)) 10 (upd (D 10) N g)) 11 (upd (D 11) N (nI 0)) 11 = upd (D 11) N (nI 0) := by rw [ud_s]
  have d : ∀ q, q < 6 → ud (ud (ud (ud (ud (ud D 6 (upd (D 6) N a)) 7 (upd (D 7) N b)) 8 (upd (D 8) N c)) 9 (upd (D 9) N e)) 10 (upd (D 10) N g)) 11 (upd (D 11) N (nI 0)) q = D q := fun q hq => by rw [ud_n (by omega), ud_n (by omega), ud_n (by omega), ud_n (by omega), ud_n (by omega), ud_n (by omega)]
  generalize ud (ud (ud (ud (ud (ud D 6 (upd (D 6) N a)) 7 (upd (D 7) N b)) 8 (upd (D 8) N c)) 9 (upd (D 9) N e)) 10 (upd (D 10) N g)) 11 (upd (D 11) N (nI 0)) = D' at *
  refine ⟨⟨⟨?_, t10, hR, by omega, fun q hq => ?_, fun q hq => ?_, fun q hq => ?_, fun q hq => ?_⟩, ?_, fun V => ERl_0 ⟨fun q hq => ?_, fun x a1 a2 r hr => ?_, fun x a1 a2 r hr => ?_⟩⟩, ⟨e1, by omega, fun r hr => ?_, fun r hr => ?_, fun r hr => ?_⟩, hH, fun q hq => ?_, fun r hr => ?_, fun r hr => ?_, fun r hr hr2 => ?_⟩
  · rw [n _ (by omega) (by omega) (by omega) (by omega) (by omega) (by omega) (by omega)]; exact h9
  · rw [n _ (by omega) (by omega) (by omega) (by omega) (by omega) (by omega) (by omega)]; exact hkk q hq
  · rw [n _ (by omega) (by omega) (by omega) (by omega) (by omega) (by omega) (by omega)]; exact hs q hq
  · by_cases x : q = N
    · rw [x, t2]; exact hb
    · rw [n _ (by omega) (by omega) (by omega) (by omega) (by omega) (by omega) (by omega)]; exact hki q (by omega)
  · by_cases x : q = N
    · rw [x, t1]; exact ha
    · rw [n _ (by omega) (by omega) (by omega) (by omega) (by omega) (by omega) (by omega)]; exact hro q (by omega)
  · rw [n _ (by omega) (by omega) (by omega) (by omega) (by omega) (by omega) (by omega)]; exact h0
  · rw [vw_1, n _ (by omega) (by omega) (by omega) (by omega) (by omega) (by omega) (by omega), d 1 (by decide)]; exact (hE V).1 q hq
  · rw [d x (by omega), vw_r a1 a2, n _ (by omega) (by omega) (by omega) (by omega) (by omega) (by omega) (by omega), ← vw_r (T := T) (V := V) (j := r) a1 a2]; exact (hE V).2.1 x a1 a2 r hr
  · rw [vw_i a1 a2]
    have : x = 6 ∨ x = 7 ∨ x = 8 ∨ x = 9 ∨ x = 10 ∨ x = 11 := by omega
    by_cases y : r = N
    · rcases this with rfl | rfl | rfl | rfl | rfl | rfl
      · rw [d6, y, pk_us]; exact t1
      · rw [d7, y, pk_us]; exact t2
      · rw [d8, y, pk_us]; exact t3
      · rw [d9, y, pk_us]; exact t4
      · rw [d10, y, pk_us]; exact t5
      · rw [d11, y, pk_us]; exact t6
    · rw [n _ (by omega) (by omega) (by omega) (by omega) (by omega) (by omega) (by omega), ← vw_i (T := T) (V := V) (j := r) a1 a2]
      have z := (hE V).2.2 x a1 a2 r (by omega)
      rcases this with rfl | rfl | rfl | rfl | rfl | rfl
      · rw [d6, pk_un y]; exact z
      · rw [d7, pk_un y]; exact z
      · rw [d8, pk_un y]; exact z
      · rw [d9, pk_un y]; exact z
      · rw [d10, pk_un y]; exact z
      · rw [d11, pk_un y]; exact z
  · rw [d 2 (by decide)]; exact e3 r hr
  · rw [d7]
    by_cases x : r = N
    · rw [x, pk_us]; exact hb
    · rw [pk_un x]; exact e4 r (by omega)
  · rw [d6]
    by_cases x : r = N
    · rw [x, pk_us]; exact ha
    · rw [pk_un x]; exact e5 r (by omega)
  · rw [d 1 (by decide)]; exact hw q hq
  · rw [d8]
    by_cases x : r = N
    · rw [x, pk_us]; exact hc
    · rw [pk_un x]; exact h8 r (by omega)
  · rw [d9]
    by_cases x : r = N
    · rw [x, pk_us]; exact he
    · rw [pk_un x]; exact hl r (by omega)
  · rw [n _ (by omega) (by omega) (by omega) (by omega) (by omega) (by omega) (by omega)]; exact hz r hr hr2
theorem hsn_n {R N : Nat} {D : Nat → Nat → Int32} {a : Nat} (h4 : a ≠ 4) (h5 : a ≠ 5) (h9 : a ≠ 9) (h11 : a ≠ 11) : ∀ (t H : Nat), hsn R N t H D a = D a
  | 0, _ => rfl
  | t + 1, H => by
    rw [hsn_s]
    unfold hs
    rw [hw_n h4 h5 h9 h11, hsn_n h4 h5 h9 h11 t H]
theorem CO_hours {H R N n : Nat} {D : Nat → Nat → Int32} {T T' : Nat → Int32} (h : CO H R N D T) (hn : H + n ≤ 9999) (t1 : TOK R N T') (t2 : T' 0 = nI (H + n)) (t3 : ∀ V V', ERl R N (vw T' V) (hsn R N n H (vw T V'))) (t4 : ∀ c, 0 < c → (c < 17 ∨ (17 + R ≤ c ∧ c < 38) ∨ (44 ≤ c ∧ c < 50) ∨ 56 ≤ c) → T' c = T c) : CO (H + n) R N (hsn R N n H D) T' := by
  obtain ⟨hM, ⟨e1, e2, e3, e4, e5⟩, hH, hw, h8, hl, hz⟩ := h
  refine ⟨⟨t1, t2, fun V => ?_⟩, ⟨e1, e2, fun r hr => ?_, fun r hr => ?_, fun r hr => ?_⟩, hn, fun k hk => ?_, fun i hi => ?_, fun i hi => ?_, fun r a b => ?_⟩
  · exact ERl_t (t3 V T) (ERl_hsn n H (hM.2.2 T) (MR_k6 hM.1 T))
  · rw [hsn_n (by decide) (by decide) (by decide) (by decide)]; exact e3 r hr
  · rw [hsn_n (by decide) (by decide) (by decide) (by decide)]; exact e4 r hr
  · rw [hsn_n (by decide) (by decide) (by decide) (by decide)]; exact e5 r hr
  · rw [hsn_n (by decide) (by decide) (by decide) (by decide)]; exact hw k hk
  · rw [hsn_n (by decide) (by decide) (by decide) (by decide)]; exact h8 i hi
  · exact h9_t e5 hl H n i hi
  · rw [t4 _ (by omega) (by omega)]; exact hz r a b
