/-! ===== winters, both sides ===== -/
def wx (s : Nat) : Nat → Nat
  | 0 => s
  | t + 1 => (wx s t * 1103515245 + 12345) % 2147483648
theorem wx_lt {s : Nat} (hs : s < 2147483648) : ∀ t, wx s t < 2147483648
  | 0 => hs
  | t + 1 => Nat.mod_lt _ (by decide)
def asw (R x : Nat) (D : Nat → Nat → Int32) : Nat → Nat → Int32 := if x / 65536 % 3 < R then ud D 4 (upd (D 4) (x / 65536 % 3) (imn (D 4 (x / 65536 % 3) + nI (x / 1048576 % 6)) (nI 60))) else D
def wd (R N H s : Nat) (D : Nat → Nat → Int32) : Nat → Nat → Nat → Int32
  | 0 => D
  | t + 1 => hs R N (H + t) (asw R (wx s (t + 1)) (wd R N H s D t))
theorem asw_n {R x : Nat} {D : Nat → Nat → Int32} {a : Nat} (ha : a ≠ 4) : asw R x D a = D a := by
  unfold asw
  split
  · exact ud_n ha
  · rfl
theorem EOK_asw {R N x : Nat} {D : Nat → Nat → Int32} (hD : EOK R N D) : EOK R N (asw R x D) := by
  unfold EOK at *
  rw [asw_n (by decide), asw_n (by decide), asw_n (by decide)]
  exact hD
theorem WOK_asw {R x : Nat} {D : Nat → Nat → Int32} (hD : WOK D) : WOK (asw R x D) := by
  unfold WOK at *
  rw [asw_n (by decide)]
  exact hD
theorem ERl_asw {R N x : Nat} {D E : Nat → Nat → Int32} (h : ERl R N E D) : ERl R N (asw R x E) (asw R x D) := by
  refine ⟨fun k hk => ?_, fun a h1 h2 r hr => ?_, fun a h1 h2 i hi => ?_⟩
  · rw [asw_n (by decide), asw_n (by decide)]; exact h.1 k hk
  · by_cases c : a = 4
    · subst c
      unfold asw
      by_cases q : x / 65536 % 3 < R
      · rw [if_pos q, if_pos q, ud_s, ud_s]
        by_cases e : r = x / 65536 % 3
        · rw [e, pk_us, pk_us, h.2.1 4 (by decide) (by decide) _ q]
        · rw [pk_un e, pk_un e]; exact h.2.1 4 (by decide) (by decide) r hr
      · rw [if_neg q, if_neg q]; exact h.2.1 4 (by decide) (by decide) r hr
    · rw [asw_n c, asw_n c]; exact h.2.1 a h1 h2 r hr
  · rw [asw_n (by omega), asw_n (by omega)]; exact h.2.2 a h1 h2 i hi
theorem wx_l {s t : Nat} (hs : s < 2147483648) : lN (wx s t) * lN 1103515245 + lN 12345 - (lN (wx s t) * lN 1103515245 + lN 12345) / lN 2147483648 * lN 2147483648 = lN (wx s (t + 1)) := by
  have lt := wx_lt hs t
  have l2 : wx s t * 1103515245 + 12345 < 2 ^ 63 := by
    have : wx s t * 1103515245 ≤ 2147483648 * 1103515245 := Nat.mul_le_mul_right _ (Nat.le_of_lt lt)
    omega
  rw [lN_mul, lN_add, pk_lRem l2 (by decide) (by decide)]
  rfl
theorem wx_r {x : Nat} (hx : x < 2147483648) : (lN x / lN 65536 - lN x / lN 65536 / lN 3 * lN 3).toInt32 = nI (x / 65536 % 3) := by
  have := Nat.div_le_self x 65536
  rw [pk_lDiv (show x < 2 ^ 63 by omega) (by decide) (by decide), pk_lRem (show x / 65536 < 2 ^ 63 by omega) (by decide) (by decide), lN_i]
theorem wx_v {x : Nat} (hx : x < 2147483648) : (lN x / lN 1048576 - lN x / lN 1048576 / lN 6 * lN 6).toInt32 = nI (x / 1048576 % 6) := by
  have := Nat.div_le_self x 1048576
  rw [pk_lDiv (show x < 2 ^ 63 by omega) (by decide) (by decide), pk_lRem (show x / 1048576 < 2 ^ 63 by omega) (by decide) (by decide), lN_i]
abbrev Hs := hs
theorem HX_addSnow {r : Nat} (hr : r < 3) (n : Int32) (h : icH) (fa : Nat → Int32) (Ht Rt Nt : Nat) (E : Nat → Nat → Int32) (H R N : Nat) (D : Nat → Nat → Int32) (F : Nat → Nat) (f : Nat → Nat → Int32) : icE 7 0 [.ref 28, .int (nI r), .int n] [] (HX h fa Ht Rt Nt E H R N D F f) = some (none, HX h fa Ht Rt Nt (ud E 4 (upd (E 4) r (imn (E 4 r + n) (nI 60)))) H R N D F f) := by
  have c := c_addSnow hr n (HX h fa Ht Rt Nt E H R N D F f) 28 Ht Rt Nt E
  rwa [HX_e, HX_E] at c
theorem HX_lb {Nt : Nat} (hN : Nt ≤ 6) (v : Int32) (h : icH) (fa : Nat → Int32) (Ht Rt : Nat) (E : Nat → Nat → Int32) (H R N : Nat) (D : Nat → Nat → Int32) (F : Nat → Nat) (f : Nat → Nat → Int32) : icE 17 0 [.ref 28, .int v, dum, dum] [] (HX h fa Ht Rt Nt E H R N D F f) = some (some (.int (nI (lb E v Nt))), HX h fa Ht Rt Nt E H R N D F f) := by
  have c := c_lostBits hN v (HX h fa Ht Rt Nt E H R N D F f) 28 Ht Rt E
  rwa [HX_e] at c
theorem ctD_E {R N : Nat} {D E : Nat → Nat → Int32} (h : ERl R N E D) (v : Int32) : ∀ n, n ≤ N → ctD E v n = ctD D v n
  | 0, _ => rfl
  | n + 1, hn => by
    unfold ctD
    rw [ctD_E h v n (by omega), h.2.2 11 (by decide) (by decide) n (by omega)]
theorem l_wint {h : icH} {ab be : Int64} (h0 : hg h 0 = some (xo ab be)) {R N H n s : Nat} {D0 : Nat → Nat → Int32} (hs : s < 2147483648) (hn : n ≤ 60) (hH : H ≤ 9999) (sd bf : Int32) (fa : Nat → Int32) (Hl Rl Nl : Nat) (D : Nat → Nat → Int32) (F : Nat → Nat) (f : Nat → Nat → Int32) : ∀ (m t : Nat) (z : Value) (E : Nat → Nat → Int32), t + m = n → EOK R N E → WOK E → ERl R N E (wd R N H s D0 t) → ∃ E', icE 106 59 [.ref 0, .int sd, .int (nI n), .int bf, .long (lN (wx s t)), dum, .int (nI t), z] [] (HX h fa (H + t) R N E Hl Rl Nl D F f) = some (some (.int (nI (ctD (wd R N H s D0 n) (nI 2) N) - bf)), HX h fa (H + n) R N E' Hl Rl Nl D F f)
  | 0, t, z, E, him, hE, hW, hT => by
    have : t = n := by omega
    subst this
    have hN := hE.2.1
    refine ⟨E, ?_⟩
    rw [← ctD_E hT (nI 2) N (Nat.le_refl N), ← popc_ct hN]
    rw [rh_106_59]
    simp only [SA, rw_106, HXz h0, HX_28, if_pos (nI_le (Nat.le_refl t) (show t < 2 ^ 31 by omega)), HX_lb hN, c_bitCount (lb_64 hN E (nI 2))]
  | m + 1, t, z, E, him, hE, hW, hT => by
    have hR := hE.1
    have lt := wx_lt hs (t + 1)
    have r3 : wx s (t + 1) / 65536 % 3 < 3 := Nat.mod_lt _ (by decide)
    obtain ⟨E', ih⟩ := l_wint h0 hs hn hH sd bf fa Hl Rl Nl D F f m (t + 1) (.int (nI (wx s (t + 1) / 65536 % 3))) (Hs R N (H + t) (asw R (wx s (t + 1)) E)) (by omega) (EOK_hw (EOK_asw hE) _) (WOK_hw (WOK_asw hW) _) (ERl_hs (ERl_asw hT) (EOK_asw hE).2.2.2.2 (H + t))
    refine ⟨E', ?_⟩
    refine Eq.trans ?_ ih
    rw [rh_106_59]
    by_cases c : wx s (t + 1) / 65536 % 3 < R
    · have ea : asw R (wx s (t + 1)) E = ud E 4 (upd (E 4) (wx s (t + 1) / 65536 % 3) (imn (E 4 (wx s (t + 1) / 65536 % 3) + nI (wx s (t + 1) / 1048576 % 6)) (nI 60))) := if_pos c
      have hp := HX_pass (EOK_asw (x := wx s (t + 1)) hE) (WOK_asw (R := R) (x := wx s (t + 1)) hW) (show H + t + 1 < 2 ^ 31 by omega) h fa Hl Rl Nl D F f
      rw [ea] at hp ⊢
      simp only [SA, rw_106, HXz h0, HX_28, if_neg (nI_ge (show t < n by omega) (show n < 2 ^ 31 by omega)), if_neg (show ¬ lN 2147483648 = 0 by decide), if_neg (show ¬ lN 65536 = 0 by decide), if_neg (show ¬ lN 3 = 0 by decide), if_neg (show ¬ lN 1048576 = 0 by decide), if_neg (show ¬ lN 6 = 0 by decide), wx_l hs, wx_r lt, wx_v lt, if_neg (nI_ge c (show R < 2 ^ 31 by omega)), HX_addSnow r3, hp, nI_add]
      rfl
    · have ea : asw R (wx s (t + 1)) E = E := if_neg c
      have hp := HX_pass hE hW (show H + t + 1 < 2 ^ 31 by omega) h fa Hl Rl Nl D F f
      rw [ea]
      simp only [SA, rw_106, HXz h0, HX_28, if_neg (nI_ge (show t < n by omega) (show n < 2 ^ 31 by omega)), if_neg (show ¬ lN 2147483648 = 0 by decide), if_neg (show ¬ lN 65536 = 0 by decide), if_neg (show ¬ lN 3 = 0 by decide), if_neg (show ¬ lN 1048576 = 0 by decide), if_neg (show ¬ lN 6 = 0 by decide), wx_l hs, wx_r lt, if_pos (nI_le (show R ≤ wx s (t + 1) / 65536 % 3 by omega) (show wx s (t + 1) / 65536 % 3 < 2 ^ 31 by omega)), hp, nI_add]
      rfl
theorem x_winters {h : icH} {ab be : Int64} (h0 : hg h 0 = some (xo ab be)) {R N H n s : Nat} {D : Nat → Nat → Int32} (hD : EOK R N D) (hW : WOK D) (hs : s ≤ 999999) (hn : n ≤ 60) (hH : H ≤ 9999) (fa : Nat → Int32) (Ht Rt Nt : Nat) (E : Nat → Nat → Int32) (F : Nat → Nat) (f : Nat → Nat → Int32) : ∃ Ht' E', icE 106 0 [.ref 0, .int (nI s), .int (nI n), dum, dum, dum, dum, dum] [] (HX h fa Ht Rt Nt E H R N D F f) = some (some (.int (nI (ctD (wd R N H s D n) (nI 2) N) - nI (ctD D (nI 2) N))), HX h fa Ht' R N E' H R N D F f) := by
  have hN := hD.2.1
  have e0 := ERl_tk hD.1 hN E D
  obtain ⟨E', z⟩ := l_wint h0 (show s < 2147483648 by omega) hn hH (nI s) (nI (ctD D (nI 2) N)) fa H R N D F f n 0 dum (tk E D) (by omega) (EOK_E hD e0) (WOK_E hW e0) e0
  refine ⟨H + n, E', ?_⟩
  refine Eq.trans ?_ z
  rw [← ctD_E e0 (nI 2) N (Nat.le_refl N), ← popc_ct hN]
  simp only [SA, rw_106, HXz h0, HX_1, HX_28, c_within, if_neg (bi_10 (W_n (Nat.zero_le s) hs (by decide))), if_neg (bi_10 (W_n (Nat.zero_le n) hn (by decide))), HX_take, HX_lb hN, c_bitCount (lb_64 hN (tk E D) (nI 2)), nI_l (show s < 2 ^ 31 by omega), wx, Nat.add_zero]
