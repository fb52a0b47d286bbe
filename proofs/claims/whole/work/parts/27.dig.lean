/-! ===== Eaves: what is told of it ===== -/
theorem c_ofRoof {R N H r j : Nat} {D : Nat → Nat → Int32} (hR : R ≤ 3) (hr : r < R) (hj : j < 3) (h : icH) (e : Nat) : icE 14 0 [.ref e, .int (nI r), .int (nI j)] [] (HE h e H R N D) = some (some (.int (D (2 + j) r)), HE h e H R N D) := by
  have h3 : r < 3 := by omega
  have b3 : 3 < 2 ^ 31 := by omega
  have : j = 0 ∨ j = 1 ∨ j = 2 := by omega
  rcases this with rfl | rfl | rfl <;> simp only [SA, rw_14, tw_14_1, HE_o, HEr, ia_n h3 b3, Nat.reduceAdd]
theorem c_ofRoof3 {R N H r : Nat} {D : Nat → Nat → Int32} (hD : EOK R N D) (hH : H + 1 < 2 ^ 31) (hr : r < R) (h : icH) (e : Nat) : icE 14 0 [.ref e, .int (nI r), .int (nI 3)] [] (HE h e H R N D) = some (some (.int (wtr D (D 1 ((H + 1) % 8)) r)), HE h e H R N D) := by
  simp only [SA, rw_14, td_14_1 (x := nI 3) (by decide), HE_o, c_waterNext hD hH hr]
theorem c_ofIcicle {R N H i j : Nat} {D : Nat → Nat → Int32} (hN : N ≤ 6) (hi : i < N) (hj : j < 6) (h : icH) (e : Nat) : icE 15 0 [.ref e, .int (nI i), .int (nI j)] [] (HE h e H R N D) = some (some (.int (D (6 + j) i)), HE h e H R N D) := by
  have h3 : i < 6 := by omega
  have b3 : 6 < 2 ^ 31 := by omega
  have : j = 0 ∨ j = 1 ∨ j = 2 ∨ j = 3 ∨ j = 4 ∨ j = 5 := by omega
  rcases this with rfl | rfl | rfl | rfl | rfl | rfl <;> simp only [SA, rw_15, tw_15_1, td_15_1 (x := nI 5) (by decide), HE_o, HEr, ia_n h3 b3, Nat.reduceAdd]
def dst (s : Int64) (x : Int32) : Int64 := lN 31 * s + x.toInt64
def dgw (D : Nat → Nat → Int32) (s : Int64) : Nat → Int64
  | 0 => s
  | n + 1 => dst (dgw D s n) (D 1 n - (-9))
def dgr (D : Nat → Nat → Int32) (s : Int64) : Nat → Int64
  | 0 => s
  | n + 1 => dst (dst (dst (dgr D s n) (D 2 n)) (D 3 n)) (D 4 n)
def dgi (D : Nat → Nat → Int32) (s : Int64) : Nat → Int64
  | 0 => s
  | n + 1 => dst (dst (dst (dst (dst (dst (dgi D s n) (D 6 n)) (D 7 n)) (D 8 n)) (D 9 n)) (D 10 n)) (D 11 n)
theorem l_dg1 (s : Int64) (h : icH) (e H R N : Nat) (D : Nat → Nat → Int32) : ∀ (m i : Nat), i + m = 8 → icE 19 5 [.ref e, .long s, dum, .long (dgw D s i), dum, .int (nI i), dum] [] (HE h e H R N D) = icE 19 39 [.ref e, .long s, dum, .long (dgw D s 8), dum, .int (nI 0), dum] [] (HE h e H R N D)
  | 0, i, him => by
    have : i = 8 := by omega
    subst this
    rw [rh_19_5]
    simp only [SA, rw_19, HE_o, if_pos (nI_le (Nat.le_refl 8) (show 8 < 2 ^ 31 by omega))]
  | m + 1, i, him => by
    have ih := l_dg1 s h e H R N D m (i + 1) (by omega)
    rw [rh_19_5]
    simp only [SA, rw_19, HE_o, HEr, if_neg (nI_ge (show i < 8 by omega) (show 8 < 2 ^ 31 by omega)), ia_n (show i < 8 by omega) (show 8 < 2 ^ 31 by omega), nI_add]
    exact ih
theorem l_dg2 (s : Int64) (h : icH) (e H R N : Nat) (D : Nat → Nat → Int32) (hR : R ≤ 3) (t : Int64) (z : Value) : ∀ (m i : Nat), i + m = R → ∀ z : Value, z.category = 1 → ∃ z' : Value, z'.category = 1 ∧ icE 19 39 [.ref e, .long s, dum, .long (dgr D t i), dum, .int (nI i), z] [] (HE h e H R N D) = icE 19 88 [.ref e, .long s, dum, .long (dgr D t R), dum, .int (nI 0), z'] [] (HE h e H R N D)
  | 0, i, him, z, hz => by
    have : i = R := by omega
    subst this
    refine ⟨z, hz, ?_⟩
    rw [rh_19_39]
    simp only [SA, rw_19, HE_o, if_pos (nI_le (Nat.le_refl i) (show i < 2 ^ 31 by omega))]
  | m + 1, i, him, z, hz => by
    obtain ⟨z', hz', ih⟩ := l_dg2 s h e H R N D hR t z m (i + 1) (by omega) (.int (nI 3)) rfl
    refine ⟨z', hz', ?_⟩
    have b3 : 3 < 2 ^ 31 := by omega
    have hi : i < R := by omega
    rw [rh_19_39]
    simp only [SA, rw_19, HE_o, HEr, if_neg (nI_ge hi (show R < 2 ^ 31 by omega)), rh_19_51, if_neg (nI_ge (show 0 < 3 by omega) b3), if_neg (nI_ge (show 1 < 3 by omega) b3), if_neg (nI_ge (show 2 < 3 by omega) b3), if_pos (nI_le (Nat.le_refl 3) b3), c_ofRoof hR hi (show 0 < 3 by omega), c_ofRoof hR hi (show 1 < 3 by omega), c_ofRoof hR hi (show 2 < 3 by omega), nI_add, Nat.reduceAdd]
    exact ih
theorem l_dg3 (s : Int64) (h : icH) (e H R N : Nat) (D : Nat → Nat → Int32) (hN : N ≤ 6) (t : Int64) : ∀ (m i : Nat), i + m = N → ∀ z : Value, z.category = 1 → icE 19 88 [.ref e, .long s, dum, .long (dgi D t i), dum, .int (nI i), z] [] (HE h e H R N D) = some (some (.long (dgi D t N)), HE h e H R N D)
  | 0, i, him, z, hz => by
    have : i = N := by omega
    subst this
    rw [rh_19_88]
    simp only [SA, rw_19, HE_o, if_pos (nI_le (Nat.le_refl i) (show i < 2 ^ 31 by omega))]
  | m + 1, i, him, z, hz => by
    have ih := l_dg3 s h e H R N D hN t m (i + 1) (by omega) (.int (nI 6)) rfl
    have b6 : 6 < 2 ^ 31 := by omega
    have hi : i < N := by omega
    rw [rh_19_88]
    simp only [SA, rw_19, HE_o, HEr, if_neg (nI_ge hi (show N < 2 ^ 31 by omega)), rh_19_100, if_neg (nI_ge (show 0 < 6 by omega) b6), if_neg (nI_ge (show 1 < 6 by omega) b6), if_neg (nI_ge (show 2 < 6 by omega) b6), if_neg (nI_ge (show 3 < 6 by omega) b6), if_neg (nI_ge (show 4 < 6 by omega) b6), if_neg (nI_ge (show 5 < 6 by omega) b6), if_pos (nI_le (Nat.le_refl 6) b6), c_ofIcicle hN hi (show 0 < 6 by omega), c_ofIcicle hN hi (show 1 < 6 by omega), c_ofIcicle hN hi (show 2 < 6 by omega), c_ofIcicle hN hi (show 3 < 6 by omega), c_ofIcicle hN hi (show 4 < 6 by omega), c_ofIcicle hN hi (show 5 < 6 by omega), nI_add, Nat.reduceAdd]
    exact ih
theorem c_digestE {R N : Nat} (hR : R ≤ 3) (hN : N ≤ 6) (s : Int64) (h : icH) (e H : Nat) (D : Nat → Nat → Int32) : icE 19 0 [.ref e, .long s, dum, dum, dum, dum, dum] [] (HE h e H R N D) = some (some (.long (dgi D (dgr D (dgw D s 8) R) N)), HE h e H R N D) := by
  simp only [SA, rw_19]
  have z1 := l_dg1 s h e H R N D 8 0 (by omega)
  obtain ⟨z', hz', z2⟩ := l_dg2 s h e H R N D hR (dgw D s 8) dum R 0 (by omega) dum rfl
  exact z1.trans (z2.trans (l_dg3 s h e H R N D hN (dgr D (dgw D s 8) R) N 0 (by omega) z' hz'))
