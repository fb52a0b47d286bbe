/-! ===== the class: order refused, path, least, peak ===== -/
theorem x_orderB {h : icH} {ab be : Int64} {rf : Nat → Int32} (h0 : hg h 0 = some (xo ab be)) (h27 : hg h 27 = some (ai 3 rf)) {k : Int32} (hk : ¬ 0 ≤ k) (H R N : Nat) (D : Nat → Nat → Int32) (F : Nat → Nat) (f : Nat → Nat → Int32) : icE 89 0 [.ref 0, .int k, dum, dum] [] (HH h 1 H R N D F f) = some (some (.int (-2)), HH (rfz h rf 0) 1 H R N D F f) := by
  simp only [SA, rw_89, x0_H h0, if_neg hk, c_bad h0 h27]
theorem HH_hang {R N : Nat} (hN : N ≤ 6) (h : icH) (H : Nat) (D : Nat → Nat → Int32) (F : Nat → Nat) (f : Nat → Nat → Int32) : icE 16 0 [.ref (1 + 1)] [] (HH h 1 H R N D F f) = some (some (.int (nI (ctD D (nI 0) N))), HH h 1 H R N D F f) := by
  have c := c_hanging hN (HH h 1 H R N D F f) (1 + 1) H R D
  rwa [HH_e, popc_ct hN] at c
theorem x_orderN {h : icH} {ab be : Int64} {rf : Nat → Int32} (h0 : hg h 0 = some (xo ab be)) (h27 : hg h 27 = some (ai 3 rf)) {N k : Nat} (hk : k < 2 ^ 31) {D : Nat → Nat → Int32} (hN : N ≤ 6) (hc : ctD D (nI 0) N ≤ k) (H R : Nat) (F : Nat → Nat) (f : Nat → Nat → Int32) : icE 89 0 [.ref 0, .int (nI k), dum, dum] [] (HH h 1 H R N D F f) = some (some (.int (-3)), HH (rfz h rf 1) 1 H R N D F f) := by
  simp only [SA, rw_89, x0_H h0, HH_o, HHo1, HH_hang hN, if_pos (nI_pos' hk), if_neg (nI_nlt hc hk), c_no h0 h27]
abbrev hit (g : Nat → Nat) (D : Nat → Nat → Int32) (b i : Nat) : Bool := decide (g i = b + kn (D 8 i) + 1)
theorem l_hits {h : icH} {ab be : Int64} (h0 : hg h 0 = some (xo ab be)) {N b : Nat} (hN : N ≤ 6) (hb : b ≤ 24) {g : Nat → Nat} (hg9 : ∀ j, j < N → g j ≤ 96) {fa : Nat → Int32} (hf : ∀ j, j < N → fa j = fv (g j)) {D : Nat → Nat → Int32} (h8 : ∀ i, i < N → kd 8 (D 8 i)) (Ht Rt Nt : Nat) (E : Nat → Nat → Int32) (H R : Nat) (F : Nat → Nat) (f : Nat → Nat → Int32) : ∀ (m i : Nat), i + m = N → (∀ j, j < i → hit g D b j = false) → icE 124 2 [.ref 0, .int (nI b), .int (nI i)] [] (HX h fa Ht Rt Nt E H R N D F f) = some (some (.int (bi (anyB (hit g D b) N = true))), HX h fa Ht Rt Nt E H R N D F f)
  | 0, i, him, hno => by
    have : i = N := by omega
    subst this
    rw [bi_f (fun z => by obtain ⟨j, hj, y⟩ := (anyB_i _ _).mp z; rw [hno j hj] at y; cases y)]
    rw [rh_124_2]
    simp only [SA, rw_124, HXz h0, HX_1, HX_2, if_pos (nI_le (Nat.le_refl i) (show i < 2 ^ 31 by omega))]
  | m + 1, i, him, hno => by
    have hi : i < N := by omega
    have b6 : 6 < 2 ^ 31 := by decide
    have gi := hg9 i hi
    have k8 := h8 i hi
    have k8l := k8.2
    by_cases c0 : g i = b + kn (D 8 i) + 1
    · rw [bi_t ((anyB_i _ _).mpr ⟨i, hi, decide_eq_true c0⟩)]
      have f1 : fa i = nI (g i) := by rw [hf i hi]; exact if_neg (by omega)
      have f2 : ¬ fa i = -1 := by rw [f1]; exact m1_n (by omega)
      have e8 : D 8 i = nI (kn (D 8 i)) := k8.1
      have f3 : fa i = nI b + D 8 i + nI 1 := by rw [f1, e8, nI_add, nI_add, c0]
      rw [rh_124_2]
      simp only [SA, rw_124, HXz h0, HX_1, HX_2, HXl, HX_40, if_neg (nI_ge hi (show N < 2 ^ 31 by omega)), ia_n (show i < 6 by omega) b6, if_neg f2, if_pos f3]
    · have ih := l_hits h0 hN hb hg9 hf h8 Ht Rt Nt E H R F f m (i + 1) (by omega) (fun j hj => by
        by_cases q : j = i
        · subst q; exact decide_eq_false c0
        · exact hno j (by omega))
      rw [rh_124_2]
      by_cases c1 : g i = 0
      · have f1 : fa i = -1 := by rw [hf i hi, c1]; rfl
        simp only [SA, rw_124, HXz h0, HX_1, HX_2, HXl, HX_40, if_neg (nI_ge hi (show N < 2 ^ 31 by omega)), ia_n (show i < 6 by omega) b6, if_pos f1, nI_add]
        exact ih
      · have f1 : fa i = nI (g i) := by rw [hf i hi]; exact if_neg c1
        have f2 : ¬ fa i = -1 := by rw [f1]; exact m1_n (by omega)
        have e8 : D 8 i = nI (kn (D 8 i)) := k8.1
        have f3 : ¬ fa i = nI b + D 8 i + nI 1 := by
          rw [f1, e8, nI_add, nI_add]
          intro z
          have := (nI_eq (by omega) (by omega)).mp z
          omega
        simp only [SA, rw_124, HXz h0, HX_1, HX_2, HXl, HX_40, if_neg (nI_ge hi (show N < 2 ^ 31 by omega)), ia_n (show i < 6 by omega) b6, if_neg f2, if_neg f3, nI_add]
        exact ih
abbrev ppr (g : Nat → Nat) (D : Nat → Nat → Int32) (N b : Nat) : Prop := anyB (hit g D b) N = false
theorem l_path {h : icH} {ab be : Int64} (h0 : hg h 0 = some (xo ab be)) {N : Nat} (hN : N ≤ 6) {g : Nat → Nat} (hg9 : ∀ j, j < N → g j ≤ 96) {fa : Nat → Int32} (hf : ∀ j, j < N → fa j = fv (g j)) {D : Nat → Nat → Int32} (h8 : ∀ i, i < N → kd 8 (D 8 i)) (Ht Rt Nt : Nat) (E : Nat → Nat → Int32) (H R : Nat) (F : Nat → Nat) (f : Nat → Nat → Int32) : ∀ (m b : Nat), b + m = 25 → icE 90 8 [.ref 0, .int (nI b)] [] (HX h fa Ht Rt Nt E H R N D F f) = some (some (.int (fs (ppr g D N) m b)), HX h fa Ht Rt Nt E H R N D F f)
  | 0, b, him => by
    have : b = 25 := by omega
    subst this
    rw [rh_90_8]
    simp only [SA, rw_90, if_pos (nI_lt (show 24 < 25 by decide) (show 25 < 2 ^ 31 by decide)), fs]
  | m + 1, b, him => by
    have ih := l_path h0 hN hg9 hf h8 Ht Rt Nt E H R F f m (b + 1) (by omega)
    have z := l_hits h0 hN (show b ≤ 24 by omega) hg9 hf h8 Ht Rt Nt E H R F f N 0 (by omega) (fun j hj => absurd hj (Nat.not_lt_zero j))
    have y : icE 124 0 [.ref 0, .int (nI b), dum] [] (HX h fa Ht Rt Nt E H R N D F f) = some (some (.int (bi (anyB (hit g D b) N = true))), HX h fa Ht Rt Nt E H R N D F f) := by
      simp only [SA, rw_124]
      exact z
    rw [rh_90_8]
    unfold fs
    by_cases c : anyB (hit g D b) N = true
    · rw [if_neg (show ¬ ppr g D N b from fun q => by unfold ppr at q; rw [c] at q; cases q)]
      simp only [SA, rw_90, HXz h0, if_neg (nI_nlt (show b ≤ 24 by omega) (show 24 < 2 ^ 31 by decide)), y, if_neg (bi_10 c), nI_add]
      exact ih
    · rw [if_pos (show ppr g D N b from Bool.eq_false_iff.mpr c)]
      simp only [SA, rw_90, HXz h0, if_neg (nI_nlt (show b ≤ 24 by omega) (show 24 < 2 ^ 31 by decide)), y, if_pos (bi_00 c), nI_add]
theorem x_path {h : icH} {ab be : Int64} (h0 : hg h 0 = some (xo ab be)) {R N H : Nat} {D : Nat → Nat → Int32} (hH : H ≤ 9999) (hD : EOK R N D) (hW : WOK D) (h8 : ∀ i, i < N → kd 8 (D 8 i)) (fa : Nat → Int32) (Ht Rt Nt : Nat) (E : Nat → Nat → Int32) (F : Nat → Nat) (f : Nat → Nat → Int32) : ∃ fa' Ht' E', icE 90 0 [.ref 0, dum] [] (HX h fa Ht Rt Nt E H R N D F f) = some (some (.int (fs (ppr (fl R N H (D 11) D 32) D N) 25 0)), HX h fa' Ht' R N E' H R N D F f) := by
  have hN := hD.2.1
  obtain ⟨fa', E', z, y⟩ := c_findFalls h0 (show 32 ≤ 96 by decide) hH hD hW fa Ht Rt Nt E F f
  refine ⟨fa', H + 32, E', ?_⟩
  simp only [SA, rw_90, HXz h0, z]
  exact l_path h0 hN (g := fl R N H (D 11) D 32) (fun j _ => Nat.le_trans (fl_le R N H (D 11) D j 32) (by decide)) y h8 (H + 32) R N E' H R F f 25 0 (by omega)
abbrev aoH (g : Nat → Nat) (D : Nat → Nat → Int32) (r i : Nat) : Bool := decide (D 6 i = nI r ∧ g i ≠ 0)
theorem l_anyOn {h : icH} {ab be : Int64} (h0 : hg h 0 = some (xo ab be)) {N r : Nat} (hN : N ≤ 6) {g : Nat → Nat} (hg9 : ∀ j, j < N → g j ≤ 96) {fa : Nat → Int32} (hf : ∀ j, j < N → fa j = fv (g j)) (D : Nat → Nat → Int32) (Ht Rt Nt : Nat) (E : Nat → Nat → Int32) (H R : Nat) (F : Nat → Nat) (f : Nat → Nat → Int32) : ∀ (m i : Nat), i + m = N → (∀ j, j < i → aoH g D r j = false) → icE 125 2 [.ref 0, .int (nI r), .int (nI i)] [] (HX h fa Ht Rt Nt E H R N D F f) = some (some (.int (bi (anyB (aoH g D r) N = true))), HX h fa Ht Rt Nt E H R N D F f)
  | 0, i, him, hno => by
    have : i = N := by omega
    subst this
    rw [bi_f (fun z => by obtain ⟨j, hj, y⟩ := (anyB_i _ _).mp z; rw [hno j hj] at y; cases y)]
    rw [rh_125_2]
    simp only [SA, rw_125, HXz h0, HX_1, HX_2, if_pos (nI_le (Nat.le_refl i) (show i < 2 ^ 31 by omega))]
  | m + 1, i, him, hno => by
    have hi : i < N := by omega
    have b6 : 6 < 2 ^ 31 := by decide
    have gi := hg9 i hi
    have fm : fa i = -1 ↔ g i = 0 := by rw [hf i hi]; exact fv_m (by omega)
    by_cases c0 : D 6 i = nI r ∧ g i ≠ 0
    · rw [bi_t ((anyB_i _ _).mpr ⟨i, hi, decide_eq_true c0⟩)]
      rw [rh_125_2]
      simp only [SA, rw_125, HXz h0, HX_1, HX_2, HXl, HX_40, if_neg (nI_ge hi (show N < 2 ^ 31 by omega)), ia_n (show i < 6 by omega) b6, if_pos c0.1, if_neg (show ¬ fa i = -1 from fun z => c0.2 (fm.mp z))]
    · have ih := l_anyOn h0 hN hg9 hf D Ht Rt Nt E H R F f m (i + 1) (by omega) (fun j hj => by
        by_cases q : j = i
        · subst q; exact decide_eq_false c0
        · exact hno j (by omega))
      rw [rh_125_2]
      by_cases c1 : D 6 i = nI r
      · have c2 : fa i = -1 := fm.mpr (by by_cases q : g i = 0; exact q; exact absurd ⟨c1, q⟩ c0)
        simp only [SA, rw_125, HXz h0, HX_1, HX_2, HXl, HX_40, if_neg (nI_ge hi (show N < 2 ^ 31 by omega)), ia_n (show i < 6 by omega) b6, if_pos c1, if_pos c2, nI_add]
        exact ih
      · simp only [SA, rw_125, HXz h0, HX_1, HX_2, HXl, HX_40, if_neg (nI_ge hi (show N < 2 ^ 31 by omega)), ia_n (show i < 6 by omega) b6, if_neg c1, nI_add]
        exact ih
def dh (D : Nat → Nat → Int32) (r e : Nat) : Nat → Nat → Int32 := ud D 3 (upd (D 3) r (nI e))
theorem EOK_dh {R N : Nat} {D : Nat → Nat → Int32} (hD : EOK R N D) (r e : Nat) : EOK R N (dh D r e) := by
  unfold EOK dh at *
  rw [ud_n (by decide), ud_n (by decide), ud_n (by decide)]
  exact hD
theorem WOK_dh {D : Nat → Nat → Int32} (hD : WOK D) (r e : Nat) : WOK (dh D r e) := by
  unfold WOK dh at *
  rw [ud_n (by decide)]
  exact hD
theorem ERl_dh {R N : Nat} {D E : Nat → Nat → Int32} (h : ERl R N E D) (r e : Nat) : ERl R N (dh E r e) (dh D r e) := by
  unfold dh
  refine ⟨fun k hk => ?_, fun a h1 h2 q hq => ?_, fun a h1 h2 q hq => ?_⟩
  · rw [ud_n (by decide), ud_n (by decide)]; exact h.1 k hk
  · by_cases c : a = 3
    · subst c
      rw [ud_s, ud_s]
      by_cases c2 : q = r
      · rw [c2, pk_us, pk_us]
      · rw [pk_un c2, pk_un c2]; exact h.2.1 3 (by decide) (by decide) q hq
    · rw [ud_n c, ud_n c]; exact h.2.1 a h1 h2 q hq
  · rw [ud_n (by omega), ud_n (by omega)]; exact h.2.2 a h1 h2 q hq
theorem TR_dh {R N H : Nat} {D : Nat → Nat → Int32} (hD : EOK R N D) (hW : WOK D) (E : Nat → Nat → Int32) (r e : Nat) : TR R N 0 H (dh D r e) (dh (tk E D) r e) := by
  have z := ERl_dh (ERl_tk hD.1 hD.2.1 E D) r e
  exact ⟨EOK_E (EOK_dh hD r e) z, WOK_E (WOK_dh hW r e) z, z⟩
abbrev lpr (R N H : Nat) (D : Nat → Nat → Int32) (r e : Nat) : Prop := anyB (aoH (fl R N H (D 11) (dh D r e) 48) D r) N = false
theorem l_least {h : icH} {ab be : Int64} (h0 : hg h 0 = some (xo ab be)) {R N H r : Nat} {D : Nat → Nat → Int32} (hH : H ≤ 9999) (hD : EOK R N D) (hW : WOK D) (hr : r < R) (F : Nat → Nat) (f : Nat → Nat → Int32) : ∀ (m e : Nat) (fa : Nat → Int32) (Ht Rt Nt : Nat) (E : Nat → Nat → Int32), e + m = 10 → ∃ fa' Ht' Rt' Nt' E', icE 91 15 [.ref 0, .int (nI r), .int (nI e)] [] (HX h fa Ht Rt Nt E H R N D F f) = some (some (.int (fs (lpr R N H D r) m e)), HX h fa' Ht' Rt' Nt' E' H R N D F f)
  | 0, e, fa, Ht, Rt, Nt, E, him => by
    have : e = 10 := by omega
    subst this
    refine ⟨fa, Ht, Rt, Nt, E, ?_⟩
    rw [rh_91_15]
    simp only [SA, rw_91, if_pos (nI_lt (show 9 < 10 by decide) (show 10 < 2 ^ 31 by decide)), fs]
  | m + 1, e, fa, Ht, Rt, Nt, E, him => by
    have hN := hD.2.1
    have hR := hD.1
    obtain ⟨fa1, E1, z1, z2, z3⟩ := c_runFalls h0 (show 48 ≤ 96 by decide) hH (TR_dh hD hW E r e) fa H R F f (D := D)
    have q9 : ∀ j, j < N → fl R N H (D 11) (dh D r e) 48 j ≤ 96 := fun j _ => Nat.le_trans (fl_le R N H (D 11) (dh D r e) j 48) (by decide)
    have z4 := l_anyOn h0 hN q9 z3 D (H + 48) R N E1 H R F f N 0 (by omega) (fun j hj => absurd hj (Nat.not_lt_zero j)) (r := r)
    have y : icE 125 0 [.ref 0, .int (nI r), dum] [] (HX h fa1 (H + 48) R N E1 H R N D F f) = some (some (.int (bi (anyB (aoH (fl R N H (D 11) (dh D r e) 48) D r) N = true))), HX h fa1 (H + 48) R N E1 H R N D F f) := by
      simp only [SA, rw_125]
      exact z4
    unfold dh at z1
    have w3 := HXtw (j := 3) (n := 3) (by decide) (by decide) h fa H R N (tk E D) H R N D F f (upd (tk E D 3) r (nI e))
    unfold fs
    by_cases c : anyB (aoH (fl R N H (D 11) (dh D r e) 48) D r) N = true
    · rw [if_neg (show ¬ lpr R N H D r e from fun q => by unfold lpr at q; rw [c] at q; cases q)]
      obtain ⟨fa', Ht', Rt', Nt', E', ih⟩ := l_least h0 hH hD hW hr F f m (e + 1) fa1 (H + 48) R N E1 (by omega)
      refine ⟨fa', Ht', Rt', Nt', E', ?_⟩
      rw [rh_91_15]
      simp only [SA, rw_91, HXz h0, HX_1, HX_28, HXt, HX_take, if_neg (nI_nlt (show e ≤ 9 by omega) (show 9 < 2 ^ 31 by decide)), is_n (show r < 3 by omega) (show 3 < 2 ^ 31 by decide), w3, z1, y, if_neg (bi_10 c), nI_add]
      exact ih
    · rw [if_pos (show lpr R N H D r e from Bool.eq_false_iff.mpr c)]
      refine ⟨fa1, H + 48, R, N, E1, ?_⟩
      rw [rh_91_15]
      simp only [SA, rw_91, HXz h0, HX_1, HX_28, HXt, HX_take, if_neg (nI_nlt (show e ≤ 9 by omega) (show 9 < 2 ^ 31 by decide)), is_n (show r < 3 by omega) (show 3 < 2 ^ 31 by decide), w3, z1, y, if_pos (bi_00 c), nI_add]
theorem x_least {h : icH} {ab be : Int64} (h0 : hg h 0 = some (xo ab be)) {R N H r : Nat} {D : Nat → Nat → Int32} (hH : H ≤ 9999) (hD : EOK R N D) (hW : WOK D) (hr : r < R) (fa : Nat → Int32) (Ht Rt Nt : Nat) (E : Nat → Nat → Int32) (F : Nat → Nat) (f : Nat → Nat → Int32) : ∃ fa' Ht' Rt' Nt' E', icE 91 0 [.ref 0, .int (nI r), dum] [] (HX h fa Ht Rt Nt E H R N D F f) = some (some (.int (fs (lpr R N H D r) 10 0)), HX h fa' Ht' Rt' Nt' E' H R N D F f) := by
  have hR := hD.1
  obtain ⟨fa', Ht', Rt', Nt', E', z⟩ := l_least h0 hH hD hW hr F f 10 0 fa Ht Rt Nt E (by omega)
  refine ⟨fa', Ht', Rt', Nt', E', ?_⟩
  simp only [SA, rw_91, HXz h0, HX_isR h0, if_neg (bi_10 (R_n hr (show R < 2 ^ 31 by omega)))]
  exact z
def pq (R N H : Nat) (D : Nat → Nat → Int32) (i : Nat) : Nat → Nat × Int32
  | 0 => (0, D 9 i)
  | t + 1 => if hsn R N (t + 1) H D 11 i = 0 ∧ (pq R N H D i t).2 < hsn R N (t + 1) H D 9 i then (t + 1, hsn R N (t + 1) H D 9 i) else pq R N H D i t
theorem l_peak {h : icH} {ab be : Int64} (h0 : hg h 0 = some (xo ab be)) {R N H i j : Nat} {D0 : Nat → Nat → Int32} (hH : H ≤ 9999) (hi : i < N) (hj : j < 2) (fa : Nat → Int32) (Hl Rl Nl : Nat) (D : Nat → Nat → Int32) (F : Nat → Nat) (f : Nat → Nat → Int32) : ∀ (m t : Nat) (E : Nat → Nat → Int32), t + m = 48 → TR R N t H D0 E → ∃ E', icE 92 69 [.ref 0, .int (nI i), .int (nI j), .int (nI (pq R N H D0 i t).1), .int (pq R N H D0 i t).2, .int (nI (t + 1))] [] (HX h fa (H + t) R N E Hl Rl Nl D F f) = some (some (.int (if j = 0 then nI (pq R N H D0 i 48).1 else (pq R N H D0 i 48).2)), HX h fa (H + 48) R N E' Hl Rl Nl D F f)
  | 0, t, E, him, hT => by
    have : t = 48 := by omega
    subst this
    refine ⟨E, ?_⟩
    rw [rh_92_69]
    have : j = 0 ∨ j = 1 := by omega
    rcases this with rfl | rfl
    · simp only [SA, rw_92, if_pos (nI_lt (show 48 < 48 + 1 by decide) (show 48 + 1 < 2 ^ 31 by decide)), nI_0, if_true]
    · simp only [SA, rw_92, if_pos (nI_lt (show 48 < 48 + 1 by decide) (show 48 + 1 < 2 ^ 31 by decide)), if_neg (show ¬ nI 1 = 0 by decide), if_neg (show ¬ (1 : Nat) = 0 by decide)]
  | m + 1, t, E, him, hT => by
    have hN := hT.1.2.1
    have b6 : 6 < 2 ^ 31 := by decide
    have hT1 := TR_s hT
    obtain ⟨E', ih⟩ := l_peak h0 hH hi hj fa Hl Rl Nl D F f m (t + 1) (hs R N (H + t) E) (by omega) hT1
    refine ⟨E', ?_⟩
    have e9 := TR_9 hT1 hi
    have e11 := TR_11 hT1 hi
    rw [rh_92_69]
    by_cases c1 : hsn R N (t + 1) H D0 11 i = 0
    · by_cases c2 : (pq R N H D0 i t).2 < hsn R N (t + 1) H D0 9 i
      · have ep : pq R N H D0 i (t + 1) = (t + 1, hsn R N (t + 1) H D0 9 i) := if_pos ⟨c1, c2⟩
        rw [ep] at ih
        have c3 : ¬ hsn R N (t + 1) H D0 9 i ≤ (pq R N H D0 i t).2 := by
          rw [Int32.lt_iff_toInt_lt] at c2; rw [Int32.le_iff_toInt_le]; omega
        simp only [SA, rw_92, HXz h0, HX_28, HXt, if_neg (nI_nlt (show t + 1 ≤ 48 by omega) (show 48 < 2 ^ 31 by decide)), HX_pass hT.1 hT.2.1 (show H + t + 1 < 2 ^ 31 by omega), ia_n (show i < 6 by omega) b6, e9, e11, if_pos c1, if_neg c3, nI_add]
        exact ih
      · have ep : pq R N H D0 i (t + 1) = pq R N H D0 i t := if_neg (fun z => c2 z.2)
        rw [ep] at ih
        have c3 : hsn R N (t + 1) H D0 9 i ≤ (pq R N H D0 i t).2 := by
          rw [Int32.lt_iff_toInt_lt] at c2; rw [Int32.le_iff_toInt_le]; omega
        simp only [SA, rw_92, HXz h0, HX_28, HXt, if_neg (nI_nlt (show t + 1 ≤ 48 by omega) (show 48 < 2 ^ 31 by decide)), HX_pass hT.1 hT.2.1 (show H + t + 1 < 2 ^ 31 by omega), ia_n (show i < 6 by omega) b6, e9, e11, if_pos c1, if_pos c3, nI_add]
        exact ih
    · have ep : pq R N H D0 i (t + 1) = pq R N H D0 i t := if_neg (fun z => c1 z.1)
      rw [ep] at ih
      simp only [SA, rw_92, HXz h0, HX_28, HXt, if_neg (nI_nlt (show t + 1 ≤ 48 by omega) (show 48 < 2 ^ 31 by decide)), HX_pass hT.1 hT.2.1 (show H + t + 1 < 2 ^ 31 by omega), ia_n (show i < 6 by omega) b6, e11, if_neg c1, nI_add]
      exact ih
theorem x_peak {h : icH} {ab be : Int64} (h0 : hg h 0 = some (xo ab be)) {R N H i j : Nat} {D : Nat → Nat → Int32} (hD : EOK R N D) (hW : WOK D) (hH : H ≤ 9999) (hi : i < N) (hj : j < 2) (hl : D 11 i = 0) (fa : Nat → Int32) (Ht Rt Nt : Nat) (E : Nat → Nat → Int32) (F : Nat → Nat) (f : Nat → Nat → Int32) : ∃ Ht' E', icE 92 0 [.ref 0, .int (nI i), .int (nI j), dum, dum, dum] [] (HX h fa Ht Rt Nt E H R N D F f) = some (some (.int (if j = 0 then nI (pq R N H D i 48).1 else (pq R N H D i 48).2)), HX h fa Ht' R N E' H R N D F f) := by
  have hN := hD.2.1
  have b6 : 6 < 2 ^ 31 := by decide
  obtain ⟨E', z⟩ := l_peak h0 hH hi hj fa H R N D F f 48 0 (tk E D) (by omega) (TR_0 hD hW E)
  refine ⟨H + 48, E', ?_⟩
  have e9 := TR_9 (TR_0 hD hW E (H := H)) hi
  simp only [SA, rw_92, HXz h0, HX_1, HX_2, HX_28, HXt, HXl, HX_isI h0, c_within, if_neg (bi_10 (R_n hi (show N < 2 ^ 31 by omega))), if_neg (bi_10 (W_n (Nat.zero_le j) (show j ≤ 1 by omega) (by decide))), ia_n (show i < 6 by omega) b6, if_pos hl, HX_take, e9]
  exact z
theorem x_peakL {h : icH} {ab be : Int64} (h0 : hg h 0 = some (xo ab be)) {R N H i j : Nat} {D : Nat → Nat → Int32} (hN : N ≤ 6) (hi : i < N) (hj : j < 2) (hl : ¬ D 11 i = 0) (fa : Nat → Int32) (Ht Rt Nt : Nat) (E : Nat → Nat → Int32) (F : Nat → Nat) (f : Nat → Nat → Int32) : icE 92 0 [.ref 0, .int (nI i), .int (nI j), dum, dum, dum] [] (HX h fa Ht Rt Nt E H R N D F f) = some (some (.int (-1)), HX h fa Ht Rt Nt E H R N D F f) := by
  have b6 : 6 < 2 ^ 31 := by decide
  simp only [SA, rw_92, HXz h0, HX_1, HX_2, HX_28, HXt, HXl, HX_isI h0, c_within, if_neg (bi_10 (R_n hi (show N < 2 ^ 31 by omega))), if_neg (bi_10 (W_n (Nat.zero_le j) (show j ≤ 1 by omega) (by decide))), ia_n (show i < 6 by omega) b6, if_neg hl]
