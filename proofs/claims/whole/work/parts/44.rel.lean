/-! ===== the hour on both sides ===== -/
theorem imn_nat {a b : Nat} (ha : a < 2 ^ 31) (hb : b < 2 ^ 31) : imn (nI a) (nI b) = nI (min a b) := by
  unfold imn
  by_cases h1 : b < a
  · rw [if_pos (nI_lt h1 ha), Nat.min_eq_right (by omega)]
  · rw [if_neg (nI_nlt (by omega) hb), Nat.min_eq_left (by omega)]
theorem wat_le {k : Nat} (w q : Int32) {σ : Nat} (hσ : σ < 2 ^ 30) : ∃ ω : Nat, ω ≤ σ ∧ wat k w q (nI σ) = nI ω := by
  obtain ⟨p, hp, e1, -⟩ := plain_nat (w + q) (show σ < 2 ^ 31 by omega)
  have e3 : nI p / nI 2 = nI (p / 2) := pk_div (by omega) (by decide) (by decide)
  have esl : ∃ y : Nat, y ≤ σ ∧ (if nI p = 0 then nI 0 else imn (nI p + nI 2) (nI σ)) = nI y := by
    by_cases h1 : nI p = 0
    · exact ⟨0, Nat.zero_le _, if_pos h1⟩
    · rw [if_neg h1, nI_add, imn_nat (by omega) (by omega)]
      exact ⟨_, Nat.min_le_right _ _, rfl⟩
  obtain ⟨y, hy, ey⟩ := esl
  unfold wat
  dsimp only
  rw [e1, ey, e3]
  by_cases k1 : k = 1
  · rw [if_pos k1]; exact ⟨y, hy, rfl⟩
  rw [if_neg k1]
  by_cases k2 : k = 2
  · rw [if_pos k2]; exact ⟨p / 2, by omega, rfl⟩
  rw [if_neg k2]
  by_cases k3 : k = 3
  · rw [if_pos k3]
    by_cases h1 : -4 ≤ w
    · rw [if_pos h1]; exact ⟨y, hy, rfl⟩
    · rw [if_neg h1]; exact ⟨0, Nat.zero_le _, rfl⟩
  rw [if_neg k3]
  by_cases k4 : k = 4
  · rw [if_pos k4]
    by_cases h1 : nI σ - nI σ / nI 2 * nI 2 = 0
    · rw [if_pos h1]; exact ⟨p / 2, by omega, rfl⟩
    · rw [if_neg h1, imx_s1 (by omega)]; exact ⟨p / 2 - 1, by omega, rfl⟩
  rw [if_neg k4]
  by_cases k5 : k = 5
  · rw [if_pos k5]
    by_cases h1 : nI σ ≤ nI 40
    · rw [if_pos h1]; exact ⟨p, hp, rfl⟩
    · rw [if_neg h1]; exact ⟨σ, Nat.le_refl _, rfl⟩
  rw [if_neg k5]
  exact ⟨p, hp, rfl⟩
theorem kd_snow {s : Int32} (hs : kd 61 s) (k : Nat) (w q : Int32) : kd 61 (s - wat k w q s) := by
  obtain ⟨ω, hω, e⟩ := wat_le (k := k) w q (show kn s < 2 ^ 30 by have := hs.2; omega)
  rw [← hs.1] at e
  rw [e]
  have := hs.2
  have e2 : s - nI ω = nI (kn s - ω) := by
    have h1 := nI_sb hω
    rwa [← hs.1] at h1
  rw [e2]
  exact kd_n (by omega) (by omega)
def lgh (D : Nat → Nat → Int32) (w : Int32) (i : Nat) : Int32 := D 9 i + mor (kn (D 7 i)) (D 9 i) w (wtr D w (kn (D 6 i)))
def gxh (D : Nat → Nat → Int32) (w : Int32) (i : Nat) : Int32 := if 0 < lgh D w i then (if lgh D w i ≤ D 10 i then D 11 i else nI 2) else nI 3
theorem lng_w1 {D : Nat → Nat → Int32} {w : Int32} {R i : Nat} (h6 : kd R (D 6 i)) : lng (w1 D w R) w i = lgh D w i := by
  unfold lng lgh
  rw [w1_n (show (9 : Nat) ≠ 4 by decide) (by decide), w1_n (show (7 : Nat) ≠ 4 by decide) (by decide), w1_n (show (6 : Nat) ≠ 4 by decide) (by decide), w1_5]
  dsimp only
  rw [if_pos h6.2]
theorem gx_w1 {D : Nat → Nat → Int32} {w : Int32} {R i : Nat} (h6 : kd R (D 6 i)) : gx (w1 D w R) w i = gxh D w i := by
  unfold gx gxh
  rw [lng_w1 h6, w1_n (show (10 : Nat) ≠ 4 by decide) (by decide), w1_n (show (11 : Nat) ≠ 4 by decide) (by decide)]
theorem hw_4 {D : Nat → Nat → Int32} {w : Int32} {R N r : Nat} (hr : r < R) : hw D w R N 4 r = D 4 r - wtr D w r := by
  unfold hw; rw [w2_n (by decide) (by decide), w1_4]; dsimp only; rw [if_pos hr]
theorem hw_9 {D : Nat → Nat → Int32} {w : Int32} {R N i : Nat} (hi : i < N) (h6 : kd R (D 6 i)) : hw D w R N 9 i = if D 11 i = 0 then imx (lgh D w i) (nI 0) else D 9 i := by
  unfold hw; rw [w2_9]; dsimp only; rw [if_pos hi, lng_w1 h6, w1_n (show (11 : Nat) ≠ 4 by decide) (by decide), w1_n (show (9 : Nat) ≠ 4 by decide) (by decide)]
theorem hw_11 {D : Nat → Nat → Int32} {w : Int32} {R N i : Nat} (hi : i < N) (h6 : kd R (D 6 i)) : hw D w R N 11 i = if D 11 i = 0 then gxh D w i else D 11 i := by
  unfold hw; rw [w2_11]; dsimp only; rw [if_pos hi, gx_w1 h6, w1_n (show (11 : Nat) ≠ 4 by decide) (by decide)]
def ERl (R N : Nat) (D E : Nat → Nat → Int32) : Prop := (∀ k, k < 8 → D 1 k = E 1 k) ∧ (∀ a, 2 ≤ a → a ≤ 4 → ∀ r, r < R → D a r = E a r) ∧ (∀ a, 6 ≤ a → a ≤ 11 → ∀ i, i < N → D a i = E a i)
theorem ERl_r {R N : Nat} (D : Nat → Nat → Int32) : ERl R N D D := ⟨fun _ _ => rfl, fun _ _ _ _ _ => rfl, fun _ _ _ _ _ => rfl⟩
theorem ERl_s {R N : Nat} {D E : Nat → Nat → Int32} (h : ERl R N D E) : ERl R N E D := ⟨fun k hk => (h.1 k hk).symm, fun a h1 h2 r hr => (h.2.1 a h1 h2 r hr).symm, fun a h1 h2 r hr => (h.2.2 a h1 h2 r hr).symm⟩
theorem ERl_t {R N : Nat} {D E G : Nat → Nat → Int32} (h : ERl R N D E) (g : ERl R N E G) : ERl R N D G := ⟨fun k hk => (h.1 k hk).trans (g.1 k hk), fun a h1 h2 r hr => (h.2.1 a h1 h2 r hr).trans (g.2.1 a h1 h2 r hr), fun a h1 h2 r hr => (h.2.2 a h1 h2 r hr).trans (g.2.2 a h1 h2 r hr)⟩
theorem ERl_wtr {R N : Nat} {D E : Nat → Nat → Int32} (h : ERl R N D E) (w : Int32) {r : Nat} (hr : r < R) : wtr D w r = wtr E w r := by
  unfold wtr
  rw [h.2.1 2 (by decide) (by decide) r hr, h.2.1 3 (by decide) (by decide) r hr, h.2.1 4 (by decide) (by decide) r hr]
theorem ERl_lgh {R N : Nat} {D E : Nat → Nat → Int32} (h : ERl R N D E) (w : Int32) {i : Nat} (hi : i < N) (h6 : kd R (D 6 i)) : lgh D w i = lgh E w i := by
  unfold lgh
  rw [ERl_wtr h w h6.2, h.2.2 6 (by decide) (by decide) i hi, h.2.2 7 (by decide) (by decide) i hi, h.2.2 9 (by decide) (by decide) i hi]
theorem ERl_gxh {R N : Nat} {D E : Nat → Nat → Int32} (h : ERl R N D E) (w : Int32) {i : Nat} (hi : i < N) (h6 : kd R (D 6 i)) : gxh D w i = gxh E w i := by
  unfold gxh
  rw [ERl_lgh h w hi h6, h.2.2 10 (by decide) (by decide) i hi, h.2.2 11 (by decide) (by decide) i hi]
theorem ERl_hw {R N : Nat} {D E : Nat → Nat → Int32} (h : ERl R N D E) (h6 : ∀ i, i < N → kd R (D 6 i)) (w : Int32) : ERl R N (hw D w R N) (hw E w R N) := by
  have h6' : ∀ i, i < N → kd R (E 6 i) := fun i hi => by rw [← h.2.2 6 (by decide) (by decide) i hi]; exact h6 i hi
  refine ⟨fun k hk => ?_, fun a h1 h2 r hr => ?_, fun a h1 h2 i hi => ?_⟩
  · rw [hw_n (by decide) (by decide) (by decide) (by decide), hw_n (by decide) (by decide) (by decide) (by decide)]
    exact h.1 k hk
  · by_cases h4 : a = 4
    · subst h4
      rw [hw_4 hr, hw_4 hr, ERl_wtr h w hr, h.2.1 4 (by decide) (by decide) r hr]
    · rw [hw_n h4 (by omega) (by omega) (by omega), hw_n h4 (by omega) (by omega) (by omega)]
      exact h.2.1 a h1 h2 r hr
  · by_cases h9 : a = 9
    · subst h9
      rw [hw_9 hi (h6 i hi), hw_9 hi (h6' i hi), ERl_lgh h w hi (h6 i hi), h.2.2 9 (by decide) (by decide) i hi, h.2.2 11 (by decide) (by decide) i hi]
    · by_cases h11 : a = 11
      · subst h11
        rw [hw_11 hi (h6 i hi), hw_11 hi (h6' i hi), ERl_gxh h w hi (h6 i hi), h.2.2 11 (by decide) (by decide) i hi]
      · rw [hw_n (by omega) (by omega) h9 h11, hw_n (by omega) (by omega) h9 h11]
        exact h.2.2 a h1 h2 i hi
def mh (T W : Nat → Int32) (w : Int32) (R N : Nat) : Nat → Int32 := m2 (m1 T W w R) (m7 T W w R) w N
theorem mh_o {T W : Nat → Int32} {w : Int32} {R N c : Nat} (hR : R ≤ 3) (hN : N ≤ 6) (hc : c < 17 ∨ (20 ≤ c ∧ c < 38) ∨ (44 ≤ c ∧ c < 50) ∨ 56 ≤ c) : mh T W w R N c = T c := by
  unfold mh m2 m1
  rw [pw_o (by omega), pw_o (by omega), pw_o (by omega)]
theorem m1_o {T W : Nat → Int32} {w : Int32} {R c : Nat} (hR : R ≤ 3) (hc : c < 17 ∨ 20 ≤ c) : m1 T W w R c = T c := by
  unfold m1
  rw [pw_o (by omega)]
theorem lng_m {T W : Nat → Int32} {w : Int32} {R i : Nat} (hR : R ≤ 3) (hi : i < 6) (h6 : kd R (T (20 + i))) : lng (vw (m1 T W w R) (m7 T W w R)) w i = lgh (vw T W) w i := by
  have e1 : vw (m1 T W w R) (m7 T W w R) 9 i = T (38 + i) := m1_o (c := 38 + i) hR (by omega)
  have e2 : vw (m1 T W w R) (m7 T W w R) 7 i = T (26 + i) := m1_o (c := 26 + i) hR (by omega)
  have e3 : vw (m1 T W w R) (m7 T W w R) 6 i = T (20 + i) := m1_o (c := 20 + i) hR (by omega)
  have e4 : vw (m1 T W w R) (m7 T W w R) 5 (kn (T (20 + i))) = wtr (vw T W) w (kn (T (20 + i))) := if_pos h6.2
  unfold lng
  rw [e1, e2, e3, e4]
  rfl
theorem gx_m {T W : Nat → Int32} {w : Int32} {R i : Nat} (hR : R ≤ 3) (hi : i < 6) (h6 : kd R (T (20 + i))) : gx (vw (m1 T W w R) (m7 T W w R)) w i = gxh (vw T W) w i := by
  have e1 : vw (m1 T W w R) (m7 T W w R) 10 i = T (44 + i) := m1_o (c := 44 + i) hR (by omega)
  have e2 : vw (m1 T W w R) (m7 T W w R) 11 i = T (50 + i) := m1_o (c := 50 + i) hR (by omega)
  unfold gx
  rw [lng_m hR hi h6, e1, e2]
  rfl
theorem mh_17 {T W : Nat → Int32} {w : Int32} {R N r : Nat} (hr : r < R) (hR : R ≤ 3) (hN : N ≤ 6) : mh T W w R N (17 + r) = T (17 + r) - wtr (vw T W) w r := by
  unfold mh m2
  rw [pw_o (by omega), pw_o (by omega)]
  unfold m1
  rw [pw_i hr]
theorem mh_38 {T W : Nat → Int32} {w : Int32} {R N i : Nat} (hi : i < N) (hR : R ≤ 3) (hN : N ≤ 6) (h6 : kd R (T (20 + i))) : mh T W w R N (38 + i) = if T (50 + i) = 0 then imx (lgh (vw T W) w i) (nI 0) else T (38 + i) := by
  unfold mh m2
  rw [pw_o (by omega), pw_i hi]
  unfold gl
  rw [lng_m hR (by omega) h6, m1_o hR (by omega), m1_o hR (by omega)]
theorem mh_50 {T W : Nat → Int32} {w : Int32} {R N i : Nat} (hi : i < N) (hR : R ≤ 3) (hN : N ≤ 6) (h6 : kd R (T (20 + i))) : mh T W w R N (50 + i) = if T (50 + i) = 0 then gxh (vw T W) w i else T (50 + i) := by
  unfold mh m2
  rw [pw_i hi]
  unfold gX
  rw [gx_m hR (by omega) h6, m1_o hR (by omega)]
theorem ERl_mh {R N : Nat} {T W V : Nat → Int32} (hR : R ≤ 3) (hN : N ≤ 6) (h6 : ∀ i, i < N → kd R (T (20 + i))) (w : Int32) : ERl R N (vw (mh T W w R N) V) (hw (vw T W) w R N) := by
  refine ⟨fun k hk => ?_, fun a h1 h2 r hr => ?_, fun a h1 h2 i hi => ?_⟩
  · rw [hw_n (by decide) (by decide) (by decide) (by decide)]
    exact mh_o (c := 1 + k) hR hN (by omega)
  · by_cases h4 : a = 4
    · subst h4
      rw [hw_4 hr]
      exact mh_17 hr hR hN
    · rw [hw_n h4 (by omega) (by omega) (by omega)]
      have : a = 2 ∨ a = 3 := by omega
      rcases this with rfl | rfl
      · exact mh_o (c := 11 + r) hR hN (by omega)
      · exact mh_o (c := 14 + r) hR hN (by omega)
  · by_cases h9 : a = 9
    · subst h9
      rw [hw_9 hi (h6 i hi)]
      exact mh_38 hi hR hN (h6 i hi)
    · by_cases h11 : a = 11
      · subst h11
        rw [hw_11 hi (h6 i hi)]
        exact mh_50 hi hR hN (h6 i hi)
      · rw [hw_n (by omega) (by omega) h9 h11]
        have : a = 6 ∨ a = 7 ∨ a = 8 ∨ a = 10 := by omega
        rcases this with rfl | rfl | rfl | rfl
        · exact mh_o (c := 20 + i) hR hN (by omega)
        · exact mh_o (c := 26 + i) hR hN (by omega)
        · exact mh_o (c := 32 + i) hR hN (by omega)
        · exact mh_o (c := 44 + i) hR hN (by omega)
theorem TOK_0 {R N : Nat} {T : Nat → Int32} (hT : TOK R N T) (v : Int32) : TOK R N (upd T 0 v) := by
  unfold TOK at *
  have e : ∀ c, 0 < c → upd T 0 v c = T c := fun c hc => upd_n (by omega)
  obtain ⟨h9, h10, hR, hN, hk, hs, hki, hro⟩ := hT
  refine ⟨?_, ?_, hR, hN, fun r hr => ?_, fun r hr => ?_, fun r hr => ?_, fun r hr => ?_⟩
  · rw [e 9 (by omega)]; exact h9
  · rw [e 10 (by omega)]; exact h10
  · rw [e _ (by omega)]; exact hk r hr
  · rw [e _ (by omega)]; exact hs r hr
  · rw [e _ (by omega)]; exact hki r hr
  · rw [e _ (by omega)]; exact hro r hr
theorem TOK_m1 {R N : Nat} {T : Nat → Int32} (hT : TOK R N T) (W : Nat → Int32) (w : Int32) : TOK R N (m1 T W w R) := by
  unfold TOK at *
  obtain ⟨h9, h10, hR, hN, hk, hs, hki, hro⟩ := hT
  refine ⟨?_, ?_, hR, hN, fun r hr => ?_, fun r hr => ?_, fun r hr => ?_, fun r hr => ?_⟩
  · rw [m1_o hR (by omega)]; exact h9
  · rw [m1_o hR (by omega)]; exact h10
  · rw [m1_o hR (by omega)]; exact hk r hr
  · unfold m1
    rw [pw_i hr]
    exact kd_snow (hs r hr) _ _ _
  · rw [m1_o hR (by omega)]; exact hki r hr
  · rw [m1_o hR (by omega)]; exact hro r hr
theorem TOK_mh {R N : Nat} {T : Nat → Int32} (hT : TOK R N T) (W : Nat → Int32) (w : Int32) : TOK R N (mh T W w R N) := by
  have h1 := TOK_m1 hT W w
  unfold TOK at *
  obtain ⟨h9, h10, hR, hN, hk, hs, hki, hro⟩ := hT
  have hs1 := h1.2.2.2.2.2.1
  refine ⟨?_, ?_, hR, hN, fun r hr => ?_, fun r hr => ?_, fun r hr => ?_, fun r hr => ?_⟩
  · rw [mh_o hR hN (by omega)]; exact h9
  · rw [mh_o hR hN (by omega)]; exact h10
  · rw [mh_o hR hN (by omega)]; exact hk r hr
  · rw [mh_17 hr hR hN]
    exact kd_snow (hs r hr) _ _ _
  · rw [mh_o hR hN (by omega)]; exact hki r hr
  · rw [mh_o hR hN (by omega)]; exact hro r hr
def cfh (D : Nat → Nat → Int32) (w : Int32) : Nat → Nat
  | 0 => 0
  | n + 1 => cfh D w n + (if D 11 n = 0 ∧ gxh D w n = nI 2 then 1 else 0)
theorem cf_m {T W : Nat → Int32} {w : Int32} {R : Nat} (hR : R ≤ 3) : ∀ (n : Nat), n ≤ 6 → (∀ i, i < n → kd R (T (20 + i))) → cf (m1 T W w R) (m7 T W w R) w n = cfh (vw T W) w n
  | 0, _, _ => rfl
  | n + 1, hn, h6 => by
    have ih := cf_m (W := W) (w := w) hR n (by omega) (fun i hi => h6 i (by omega))
    have e1 : vw T W 11 n = T (50 + n) := rfl
    unfold cf cfh
    rw [ih, gx_m hR (by omega) (h6 n (by omega)), m1_o hR (by omega), e1]
theorem c_passesBy {t R N H : Nat} (ht : t = 1 ∨ t = 2) (w : Int32) (h : icH) (m : Nat) (ab be : Int64) (ii : Nat → Int32) {A : Nat → Nat → Int32} (hT : TOK R N (A t)) (hH : A t 0 = nI H) : icE 149 0 [.ref m, .ref (m + t), .int w, dum, dum] [] (HM h m ab be ii A) = some (some (.int (nI (cfh (vw (upd (A t) 0 (nI (H + 1))) (A 7)) w N))), HM h m ab be ii (ud (ud A t (mh (upd (A t) 0 (nI (H + 1))) (A 7) w R N)) 7 (m7 (upd (A t) 0 (nI (H + 1))) (A 7) w R))) := by
  have hm := ms_t ht
  have hT' := TOK_0 hT (nI (H + 1))
  have h6 := hT'.2.2.2.2.2.2.2
  have hR := hT.2.2.1
  have hN := hT.2.2.2.1
  have h7 : 7 ≠ t := by omega
  simp only [SA, rw_149, HMt ht, ia_n (show 0 < ms t by omega) hm.2, hH, nI_add, is_n (show 0 < ms t by omega) hm.2, HMtw ht]
  have z1 := l_mp1 (W := A 7) ht hT' w h m ab be ii A R 0 (by omega)
  have e1 : m1 (upd (A t) 0 (nI (H + 1))) (A 7) w 0 = upd (A t) 0 (nI (H + 1)) := pw_0 _ _ _
  have e2 : m7 (upd (A t) 0 (nI (H + 1))) (A 7) w 0 = A 7 := by funext r; unfold m7; rw [if_neg (by omega)]
  have e3 : ∀ f, ud (ud A t f) 7 (A 7) = ud A t f := by
    intro f
    have := ud_id (ud A t f) 7
    rwa [ud_n h7] at this
  rw [e1, e2, e3] at z1
  have z2 := l_mp2 (W := m7 (upd (A t) 0 (nI (H + 1))) (A 7) w R) ht (TOK_m1 hT' (A 7) w) w h m ab be ii A N 0 (by omega)
  have e4 : m2 (m1 (upd (A t) 0 (nI (H + 1))) (A 7) w R) (m7 (upd (A t) 0 (nI (H + 1))) (A 7) w R) w 0 = m1 (upd (A t) 0 (nI (H + 1))) (A 7) w R := (pw_0 _ _ _).trans (pw_0 _ _ _)
  rw [e4, cf_m hR N hN h6] at z2
  exact z1.trans z2
