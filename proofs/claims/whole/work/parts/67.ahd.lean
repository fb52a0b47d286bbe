/-! ===== the class: what is to come ===== -/
theorem HXz {h : icH} {ab be : Int64} (h0 : hg h 0 = some (xo ab be)) (fa : Nat → Int32) (Ht Rt Nt : Nat) (E : Nat → Nat → Int32) (H R N : Nat) (D : Nat → Nat → Int32) (F : Nat → Nat) (f : Nat → Nat → Int32) : hg (HX h fa Ht Rt Nt E H R N D F f) 0 = some (ob 7 [.ref 1, .ref 22, .ref 23, .ref 24, .ref 27, .long ab, .long be, .ref 28, .ref 40, .ref 41, .ref 42, .ref 44, .ref 46]) := HX_0 h fa Ht Rt Nt E H R N D F f h0
theorem HXtw {j n : Nat} (h1 : 0 < j ∧ j ≤ 11) (hn : eS j = n) (h : icH) (fa : Nat → Int32) (Ht Rt Nt : Nat) (E : Nat → Nat → Int32) (H R N : Nat) (D : Nat → Nat → Int32) (F : Nat → Nat) (f : Nat → Nat → Int32) (g : Nat → Int32) : hput (HX h fa Ht Rt Nt E H R N D F f) (28 + j) (ai n g) = HX h fa Ht Rt Nt (ud E j g) H R N D F f := by
  have c := HE_wc (h := HX h fa Ht Rt Nt E H R N D F f) (e := 28) (H := Ht) (R := Rt) (N := Nt) (D := E) (f := g) h1 hn
  rwa [HX_e, HX_E] at c
theorem hsn_s (R N : Nat) : ∀ (n H : Nat) (D : Nat → Nat → Int32), hsn R N (n + 1) H D = hs R N (H + n) (hsn R N n H D)
  | 0, H, D => rfl
  | n + 1, H, D => by
    have ih := hsn_s R N n (H + 1) (hs R N H D)
    rw [show H + 1 + n = H + (n + 1) by omega] at ih
    exact ih
theorem tk_v {E D : Nat → Nat → Int32} {a k : Nat} (h0 : a ≠ 0) (h5 : a ≠ 5) (h11 : a ≤ 11) (hk : k < eS a) : tk E D a k = D a k := by
  unfold tk
  rw [if_neg (by omega), pk_cpy_in (Nat.zero_le k) (by omega), Nat.zero_add, Nat.sub_zero]
theorem eS_3 {a : Nat} (h1 : 2 ≤ a) (h2 : a ≤ 4) : eS a = 3 := by unfold eS; rw [if_neg (by omega), if_pos (by omega)]
theorem eS_6 {a : Nat} (h1 : 6 ≤ a) : eS a = 6 := by unfold eS; rw [if_neg (by omega), if_neg (by omega)]
theorem ERl_tk {R N : Nat} (hR : R ≤ 3) (hN : N ≤ 6) (E D : Nat → Nat → Int32) : ERl R N (tk E D) D :=
  ⟨fun k hk => tk_v (by decide) (by decide) (by decide) hk, fun a h1 h2 r hr => tk_v (by omega) (by omega) (by omega) (by rw [eS_3 h1 h2]; omega), fun a h1 h2 r hr => tk_v (by omega) (by omega) (by omega) (by rw [eS_6 h1]; omega)⟩
theorem EOK_E {R N : Nat} {D E : Nat → Nat → Int32} (hD : EOK R N D) (h : ERl R N E D) : EOK R N E := by
  obtain ⟨a, b, c, d, e⟩ := hD
  exact ⟨a, b, fun r hr => by rw [h.2.1 2 (by decide) (by decide) r hr]; exact c r hr, fun i hi => by rw [h.2.2 7 (by decide) (by decide) i hi]; exact d i hi, fun i hi => by rw [h.2.2 6 (by decide) (by decide) i hi]; exact e i hi⟩
theorem WOK_E {R N : Nat} {D E : Nat → Nat → Int32} (hD : WOK D) (h : ERl R N E D) : WOK E := fun k hk => by rw [h.1 k hk]; exact hD k hk
/-- a trial, t hours on -/
def TR (R N t H : Nat) (D E : Nat → Nat → Int32) : Prop := EOK R N E ∧ WOK E ∧ ERl R N E (hsn R N t H D)
theorem TR_0 {R N H : Nat} {D : Nat → Nat → Int32} (hD : EOK R N D) (hW : WOK D) (E : Nat → Nat → Int32) : TR R N 0 H D (tk E D) :=
  ⟨EOK_E hD (ERl_tk hD.1 hD.2.1 E D), WOK_E hW (ERl_tk hD.1 hD.2.1 E D), ERl_tk hD.1 hD.2.1 E D⟩
theorem TR_s {R N t H : Nat} {D E : Nat → Nat → Int32} (h : TR R N t H D E) : TR R N (t + 1) H D (hs R N (H + t) E) :=
  ⟨EOK_hw h.1 _, WOK_hw h.2.1 _, by rw [hsn_s]; exact ERl_hs h.2.2 h.1.2.2.2.2 (H + t)⟩
theorem TR_9 {R N t H : Nat} {D E : Nat → Nat → Int32} (h : TR R N t H D E) {i : Nat} (hi : i < N) : E 9 i = hsn R N t H D 9 i := h.2.2.2.2 9 (by decide) (by decide) i hi
theorem TR_11 {R N t H : Nat} {D E : Nat → Nat → Int32} (h : TR R N t H D E) {i : Nat} (hi : i < N) : E 11 i = hsn R N t H D 11 i := h.2.2.2.2 11 (by decide) (by decide) i hi
/-! ahead -/
theorem l_ahead {h : icH} {ab be : Int64} (h0 : hg h 0 = some (xo ab be)) {R N H n i : Nat} {D0 : Nat → Nat → Int32} (hn : n ≤ 96) (hH : H ≤ 9999) (hi : i < N) {j : Nat} (hj : j < 2) (fa : Nat → Int32) (Hl Rl Nl : Nat) (D : Nat → Nat → Int32) (F : Nat → Nat) (f : Nat → Nat → Int32) : ∀ (m t : Nat) (E : Nat → Nat → Int32), t + m = n → TR R N t H D0 E → ∃ E', icE 86 49 [.ref 0, .int (nI i), .int (nI n), .int (nI j), .int (nI t)] [] (HX h fa (H + t) R N E Hl Rl Nl D F f) = some (some (.int (hsn R N n H D0 (if j = 0 then 9 else 11) i)), HX h fa (H + n) R N E' Hl Rl Nl D F f)
  | 0, t, E, him, hT => by
    have : t = n := by omega
    subst this
    refine ⟨E, ?_⟩
    have hN := hT.1.2.1
    rw [rh_86_49]
    have : j = 0 ∨ j = 1 := by omega
    rcases this with rfl | rfl
    · simp only [SA, rw_86, HXz h0, HX_28, HXt, if_pos (nI_le (Nat.le_refl t) (show t < 2 ^ 31 by omega)), nI_0, if_true, ia_n (show i < 6 by omega) (show 6 < 2 ^ 31 by decide), TR_9 hT hi, reduceIte]
    · simp only [SA, rw_86, HXz h0, HX_28, HXt, if_pos (nI_le (Nat.le_refl t) (show t < 2 ^ 31 by omega)), if_neg (show ¬ nI 1 = 0 by decide), ia_n (show i < 6 by omega) (show 6 < 2 ^ 31 by decide), TR_11 hT hi, if_neg (show ¬ (1 : Nat) = 0 by decide)]
  | m + 1, t, E, him, hT => by
    obtain ⟨E', ih⟩ := l_ahead h0 hn hH hi hj fa Hl Rl Nl D F f m (t + 1) (hs R N (H + t) E) (by omega) (TR_s hT)
    refine ⟨E', ?_⟩
    rw [rh_86_49]
    simp only [SA, rw_86, HXz h0, HX_28, HXt, if_neg (nI_ge (show t < n by omega) (show n < 2 ^ 31 by omega)), HX_pass hT.1 hT.2.1 (show H + t + 1 < 2 ^ 31 by omega), nI_add]
    exact ih
theorem HH_h (h : icH) (u H R N : Nat) (D : Nat → Nat → Int32) (F : Nat → Nat) (f : Nat → Nat → Int32) (H' R' N' : Nat) (D' : Nat → Nat → Int32) (F' : Nat → Nat) (f' : Nat → Nat → Int32) : HH (HH h u H R N D F f) u H' R' N' D' F' f' = HH h u H' R' N' D' F' f' := by
  unfold HH
  dsimp only
  congr 2
  funext a
  by_cases h1 : u ≤ a ∧ a ≤ u + 20
  · rw [if_pos h1, if_pos h1]
  · rw [if_neg h1, if_neg h1, if_neg h1]
theorem HX_isI {h : icH} {ab be : Int64} (h0 : hg h 0 = some (xo ab be)) (r : Int32) (fa : Nat → Int32) (Ht Rt Nt : Nat) (E : Nat → Nat → Int32) (H R N : Nat) (D : Nat → Nat → Int32) (F : Nat → Nat) (f : Nat → Nat → Int32) : icE 119 0 [.ref 0, .int r] [] (HX h fa Ht Rt Nt E H R N D F f) = some (some (.int (bi (nI 0 ≤ r ∧ r ≤ nI N - nI 1))), HX h fa Ht Rt Nt E H R N D F f) := by
  have c := c_isIcicle (h := HX h fa Ht Rt Nt E H R N D F f) (ab := ab) (be := be) (HXz h0 fa Ht Rt Nt E H R N D F f) r H R N D F f
  unfold HX at c ⊢
  rwa [HH_h] at c
theorem HX_isR {h : icH} {ab be : Int64} (h0 : hg h 0 = some (xo ab be)) (r : Int32) (fa : Nat → Int32) (Ht Rt Nt : Nat) (E : Nat → Nat → Int32) (H R N : Nat) (D : Nat → Nat → Int32) (F : Nat → Nat) (f : Nat → Nat → Int32) : icE 118 0 [.ref 0, .int r] [] (HX h fa Ht Rt Nt E H R N D F f) = some (some (.int (bi (nI 0 ≤ r ∧ r ≤ nI R - nI 1))), HX h fa Ht Rt Nt E H R N D F f) := by
  have c := c_isRoof (h := HX h fa Ht Rt Nt E H R N D F f) (ab := ab) (be := be) (HXz h0 fa Ht Rt Nt E H R N D F f) r H R N D F f
  unfold HX at c ⊢
  rwa [HH_h] at c
theorem x_ahead {h : icH} {ab be : Int64} (h0 : hg h 0 = some (xo ab be)) {R N H n i j : Nat} {D : Nat → Nat → Int32} (hD : EOK R N D) (hW : WOK D) (hn : n ≤ 96) (hH : H ≤ 9999) (hi : i < N) (hj : j < 2) (fa : Nat → Int32) (Ht Rt Nt : Nat) (E : Nat → Nat → Int32) (F : Nat → Nat) (f : Nat → Nat → Int32) : ∃ Ht' E', icE 86 0 [.ref 0, .int (nI i), .int (nI n), .int (nI j), dum] [] (HX h fa Ht Rt Nt E H R N D F f) = some (some (.int (hsn R N n H D (if j = 0 then 9 else 11) i)), HX h fa Ht' R N E' H R N D F f) := by
  have hN := hD.2.1
  obtain ⟨E', z⟩ := l_ahead h0 hn hH hi hj fa H R N D F f n 0 (tk E D) (by omega) (TR_0 hD hW E)
  refine ⟨H + n, E', ?_⟩
  simp only [SA, rw_86, HXz h0, HX_1, HX_28, HX_isI h0, c_within, if_neg (bi_10 (R_n hi (show N < 2 ^ 31 by omega))), if_neg (bi_10 (W_n (Nat.zero_le n) hn (by decide))), if_neg (bi_10 (W_n (Nat.zero_le j) (show j ≤ 1 by omega) (by decide))), HX_take]
  exact z
