/-! ===== an hour passes ===== -/
def kn (x : Int32) : Nat := x.toInt.toNat
def kd (n : Nat) (x : Int32) : Prop := x = nI (kn x) ∧ kn x < n
theorem kn_n {n : Nat} (hn : n < 2 ^ 31) : kn (nI n) = n := by unfold kn; rw [nI_toInt hn]; rfl
theorem kd_n {m n : Nat} (h : n < m) (hn : n < 2 ^ 31) : kd m (nI n) := by unfold kd; rw [kn_n hn]; exact ⟨rfl, h⟩
theorem c_wat {x : Int32} (hx : kd 6 x) (w q s : Int32) (h : icH) : icE 1 0 [.int x, .int w, .int q, .int s, dum, dum, dum] [] h = some (some (.int (wat (kn x) w q s)), h) := by
  have := c_waterOf hx.2 w q s h
  rwa [← hx.1] at this
theorem c_mor {x : Int32} (hx : kd 6 x) (l w q : Int32) (h : icH) : icE 2 0 [.int x, .int l, .int w, .int q, dum, dum, dum] [] h = some (some (.int (mor (kn x) l w q)), h) := by
  have := c_moreOf hx.2 l w q h
  rwa [← hx.1] at this
theorem ia_k {n m : Nat} {x : Int32} (hx : kd m x) (hm : m ≤ n) (hn : n < 2 ^ 31) (f : Nat → Int32) (k nx : Nat) (L S : List Value) (h : icH) : y_ia (some (.inl (0, n, f))) x k nx L S h = icE k nx L (.int (f (kn x)) :: S) h := by
  have := ia_n (show kn x < n by have := hx.2; omega) hn f k nx L S h
  rwa [← hx.1] at this
theorem upd_id (f : Nat → Int32) (i : Nat) : upd f i (f i) = f := by funext j; unfold upd; split <;> simp_all
theorem ud_id (D : Nat → Nat → Int32) (a : Nat) : ud D a (D a) = D := by funext j; unfold ud; split <;> simp_all
theorem upd_s (f : Nat → Int32) (i : Nat) (v : Int32) : upd f i v i = v := by unfold upd; exact if_pos rfl
theorem upd_n {f : Nat → Int32} {i j : Nat} {v : Int32} (hij : j ≠ i) : upd f i v j = f j := by unfold upd; exact if_neg hij
def EOK (R N : Nat) (D : Nat → Nat → Int32) : Prop := R ≤ 3 ∧ N ≤ 6 ∧ (∀ r, r < R → kd 6 (D 2 r)) ∧ (∀ i, i < N → kd 6 (D 7 i)) ∧ (∀ i, i < N → kd R (D 6 i))
def lng (D : Nat → Nat → Int32) (w : Int32) (i : Nat) : Int32 := D 9 i + mor (kn (D 7 i)) (D 9 i) w (D 5 (kn (D 6 i)))
def gx (D : Nat → Nat → Int32) (w : Int32) (i : Nat) : Int32 := if 0 < lng D w i then (if lng D w i ≤ D 10 i then D 11 i else nI 2) else nI 3
theorem c_grow {R N i : Nat} {D : Nat → Nat → Int32} (hD : EOK R N D) (hi : i < N) (w : Int32) (h : icH) (e H : Nat) : icE 10 0 [.ref e, .int (nI i), .int w, dum] [] (HE h e H R N D) = some (none, HE h e H R N (ud (ud D 9 (upd (D 9) i (imx (lng D w i) (nI 0)))) 11 (upd (D 11) i (gx D w i)))) := by
  obtain ⟨hR, hN, h2, h7, h6⟩ := hD
  have hi6 : i < 6 := by omega
  have b6 : 6 < 2 ^ 31 := by omega
  simp only [SA, rw_10, HE_o, HEr, ia_n hi6 b6, ia_k (h6 i hi) hR (show 3 < 2 ^ 31 by omega), c_mor (h7 i hi), is_n hi6 b6, c_max, HEw, ud_s]
  unfold gx
  have hl : lng D w i = D 9 i + mor (kn (D 7 i)) (D 9 i) w (D 5 (kn (D 6 i))) := rfl
  rw [← hl]
  have e10 : ud D 9 (upd (D 9) i (imx (lng D w i) (nI 0))) 10 = D 10 := ud_n (by decide)
  have e11 : ud D 9 (upd (D 9) i (imx (lng D w i) (nI 0))) 11 = D 11 := ud_n (by decide)
  rw [e10, e11]
  split
  · split
    · rw [upd_id, ← e11, ud_id]
    · rfl
  · rfl
def wtr (D : Nat → Nat → Int32) (w : Int32) (r : Nat) : Int32 := wat (kn (D 2 r)) w (D 3 r) (D 4 r)
def w1 (D : Nat → Nat → Int32) (w : Int32) (n : Nat) : Nat → Nat → Int32 := ud (ud D 5 (fun r => if r < n then wtr D w r else D 5 r)) 4 (fun r => if r < n then D 4 r - wtr D w r else D 4 r)
def w2 (D : Nat → Nat → Int32) (w : Int32) (n : Nat) : Nat → Nat → Int32 := ud (ud D 9 (fun i => if i < n then (if D 11 i = 0 then imx (lng D w i) (nI 0) else D 9 i) else D 9 i)) 11 (fun i => if i < n then (if D 11 i = 0 then gx D w i else D 11 i) else D 11 i)
theorem w1_0 (D : Nat → Nat → Int32) (w : Int32) : w1 D w 0 = D := by
  unfold w1
  funext b j
  unfold ud
  by_cases h4 : b = 4
  · subst h4; simp
  · by_cases h5 : b = 5
    · subst h5; simp
    · simp [h4, h5]
theorem w2_0 (D : Nat → Nat → Int32) (w : Int32) : w2 D w 0 = D := by
  unfold w2
  funext b j
  unfold ud
  by_cases h4 : b = 11
  · subst h4; simp
  · by_cases h5 : b = 9
    · subst h5; simp
    · simp [h4, h5]
theorem ifl_s {n : Nat} (f g : Nat → Int32) : upd (fun r => if r < n then f r else g r) n (f n) = fun r => if r < n + 1 then f r else g r := by
  funext r
  unfold upd
  by_cases h1 : r = n
  · subst h1; simp
  · by_cases h2 : r < n
    · rw [if_neg h1]; dsimp only; rw [if_pos h2, if_pos (by omega)]
    · rw [if_neg h1]; dsimp only; rw [if_neg h2, if_neg (by omega)]
theorem w1_4 (D : Nat → Nat → Int32) (w : Int32) (n : Nat) : w1 D w n 4 = fun r => if r < n then D 4 r - wtr D w r else D 4 r := by unfold w1; rw [ud_s]
theorem w1_5 (D : Nat → Nat → Int32) (w : Int32) (n : Nat) : w1 D w n 5 = fun r => if r < n then wtr D w r else D 5 r := by unfold w1; rw [ud_n (by decide), ud_s]
theorem w1_n {D : Nat → Nat → Int32} {w : Int32} {n a : Nat} (h4 : a ≠ 4) (h5 : a ≠ 5) : w1 D w n a = D a := by unfold w1; rw [ud_n h4, ud_n h5]
theorem w2_9 (D : Nat → Nat → Int32) (w : Int32) (n : Nat) : w2 D w n 9 = fun i => if i < n then (if D 11 i = 0 then imx (lng D w i) (nI 0) else D 9 i) else D 9 i := by unfold w2; rw [ud_n (by decide), ud_s]
theorem w2_11 (D : Nat → Nat → Int32) (w : Int32) (n : Nat) : w2 D w n 11 = fun i => if i < n then (if D 11 i = 0 then gx D w i else D 11 i) else D 11 i := by unfold w2; rw [ud_s]
theorem w2_n {D : Nat → Nat → Int32} {w : Int32} {n a : Nat} (h4 : a ≠ 9) (h5 : a ≠ 11) : w2 D w n a = D a := by unfold w2; rw [ud_n h5, ud_n h4]
theorem EOK_w1 {R N : Nat} {D : Nat → Nat → Int32} (hD : EOK R N D) (w : Int32) (n : Nat) : EOK R N (w1 D w n) := by
  unfold EOK at *
  rw [w1_n (by decide) (by decide), w1_n (by decide) (by decide), w1_n (by decide) (by decide)]
  exact hD
theorem EOK_w2 {R N : Nat} {D : Nat → Nat → Int32} (hD : EOK R N D) (w : Int32) (n : Nat) : EOK R N (w2 D w n) := by
  unfold EOK at *
  rw [w2_n (by decide) (by decide), w2_n (by decide) (by decide), w2_n (by decide) (by decide)]
  exact hD
theorem w1_s (D : Nat → Nat → Int32) (w : Int32) (n : Nat) : ud (ud (w1 D w n) 5 (upd (w1 D w n 5) n (wtr D w n))) 4 (upd (w1 D w n 4) n (D 4 n - wtr D w n)) = w1 D w (n + 1) := by
  rw [w1_5, w1_4, ifl_s (fun r => wtr D w r) (D 5), ifl_s (fun r => D 4 r - wtr D w r) (D 4)]
  unfold w1
  funext b
  unfold ud
  by_cases h4 : b = 4
  · simp [h4]
  · by_cases h5 : b = 5
    · simp [h5]
    · simp [h4, h5]
theorem lng_w2 (D : Nat → Nat → Int32) (w : Int32) (n : Nat) : lng (w2 D w n) w n = lng D w n := by
  unfold lng
  rw [w2_9, w2_n (by decide) (by decide), w2_n (by decide) (by decide), w2_n (by decide) (by decide)]
  simp
theorem gx_w2 (D : Nat → Nat → Int32) (w : Int32) (n : Nat) : gx (w2 D w n) w n = gx D w n := by
  unfold gx
  rw [lng_w2, w2_11, w2_n (by decide) (by decide)]
  simp
theorem w2_sp {D : Nat → Nat → Int32} {w : Int32} {n : Nat} (h0 : D 11 n = 0) : ud (ud (w2 D w n) 9 (upd (w2 D w n 9) n (imx (lng (w2 D w n) w n) (nI 0)))) 11 (upd (w2 D w n 11) n (gx (w2 D w n) w n)) = w2 D w (n + 1) := by
  rw [lng_w2, gx_w2, w2_9, w2_11]
  have e1 : imx (lng D w n) (nI 0) = (fun i => if D 11 i = 0 then imx (lng D w i) (nI 0) else D 9 i) n := by simp [h0]
  have e2 : gx D w n = (fun i => if D 11 i = 0 then gx D w i else D 11 i) n := by simp [h0]
  rw [e1, e2, ifl_s (fun i => if D 11 i = 0 then imx (lng D w i) (nI 0) else D 9 i) (D 9), ifl_s (fun i => if D 11 i = 0 then gx D w i else D 11 i) (D 11)]
  unfold w2
  funext b
  unfold ud
  by_cases h4 : b = 11
  · simp [h4]
  · by_cases h5 : b = 9
    · simp [h5]
    · simp [h4, h5]
theorem w2_sn {D : Nat → Nat → Int32} {w : Int32} {n : Nat} (h0 : ¬ D 11 n = 0) : w2 D w n = w2 D w (n + 1) := by
  unfold w2
  congr 1
  · congr 1
    funext i
    by_cases h1 : i = n
    · subst h1; simp [h0]
    · by_cases h2 : i < n
      · rw [if_pos h2, if_pos (show i < n + 1 by omega)]
      · rw [if_neg h2, if_neg (show ¬ i < n + 1 by omega)]
  · funext i
    by_cases h1 : i = n
    · subst h1; simp [h0]
    · by_cases h2 : i < n
      · rw [if_pos h2, if_pos (show i < n + 1 by omega)]
      · rw [if_neg h2, if_neg (show ¬ i < n + 1 by omega)]
theorem l_ph1 {R N : Nat} {D : Nat → Nat → Int32} (hD : EOK R N D) (wr w : Int32) (h : icH) (e H : Nat) : ∀ (m i : Nat), i + m = R → icE 9 28 [.ref e, .int wr, .int w, .int (nI i)] [] (HE h e H R N (w1 D w i)) = icE 9 87 [.ref e, .int wr, .int w, .int (nI 0)] [] (HE h e H R N (w1 D w R))
  | 0, i, him => by
    have : i = R := by omega
    subst this
    have hR := hD.1
    rw [rh_9_28]
    simp only [SA, rw_9, HE_o, if_pos (nI_le (Nat.le_refl i) (by omega))]
  | m + 1, i, him => by
    have ih := l_ph1 hD wr w h e H m (i + 1) (by omega)
    obtain ⟨hR, hN, h2, h7, h6⟩ := hD
    have hi3 : i < 3 := by omega
    have b3 : 3 < 2 ^ 31 := by omega
    have e2 : w1 D w i 2 = D 2 := w1_n (by decide) (by decide)
    have e3 : w1 D w i 3 = D 3 := w1_n (by decide) (by decide)
    have e4 : w1 D w i 4 i = D 4 i := by rw [w1_4]; simp
    rw [rh_9_28]
    simp only [SA, rw_9, HE_o, HEr, if_neg (nI_ge (show i < R by omega) (by omega)), ia_n hi3 b3, is_n hi3 b3, e2, e3, c_wat (h2 i (by omega)), HEw, ud_s, nI_add, upd_s, ud_n (show (4 : Nat) ≠ 5 by decide), e4]
    have hw : wat (kn (D 2 i)) w (D 3 i) (D 4 i) = wtr D w i := rfl
    rw [hw, w1_s]
    exact ih
theorem l_ph2 {R N : Nat} {D : Nat → Nat → Int32} (hD : EOK R N D) (wr w : Int32) (h : icH) (e H : Nat) : ∀ (m i : Nat), i + m = N → icE 9 87 [.ref e, .int wr, .int w, .int (nI i)] [] (HE h e H R N (w2 D w i)) = some (none, HE h e H R N (w2 D w N))
  | 0, i, him => by
    have : i = N := by omega
    subst this
    have hN := hD.2.1
    rw [rh_9_87]
    simp only [SA, rw_9, HE_o, if_pos (nI_le (Nat.le_refl i) (by omega))]
  | m + 1, i, him => by
    have ih := l_ph2 hD wr w h e H m (i + 1) (by omega)
    have hN := hD.2.1
    have hi6 : i < 6 := by omega
    have b6 : 6 < 2 ^ 31 := by omega
    have e4 : w2 D w i 11 i = D 11 i := by rw [w2_11]; simp
    rw [rh_9_87]
    by_cases h0 : D 11 i = 0
    · simp only [SA, rw_9, HE_o, HEr, if_neg (nI_ge (show i < N by omega) (by omega)), ia_n hi6 b6, e4, if_pos h0, c_grow (EOK_w2 hD w i) (show i < N by omega), nI_add]
      rw [w2_sp h0]
      exact ih
    · simp only [SA, rw_9, HE_o, HEr, if_neg (nI_ge (show i < N by omega) (by omega)), ia_n hi6 b6, e4, if_neg h0, nI_add]
      rw [w2_sn h0]
      exact ih
def hw (D : Nat → Nat → Int32) (w : Int32) (R N : Nat) : Nat → Nat → Int32 := w2 (w1 D w R) w N
def wmt (D : Nat → Nat → Int32) (H : Nat) (wr : Int32) : Int32 := imn (D 1 (H % 8) + wr) (nI 9)
theorem c_passHour {H R N : Nat} {D : Nat → Nat → Int32} (hD : EOK R N D) (hH : H + 1 < 2 ^ 31) (wr : Int32) (h : icH) (e : Nat) : icE 9 0 [.ref e, .int wr, dum, dum] [] (HE h e H R N D) = some (none, HE h e (H + 1) R N (hw D (wmt D (H + 1) wr) R N)) := by
  simp only [SA, rw_9, HE_o, nI_add, HE_wo, c_warmthAt hH, c_min]
  have z := l_ph1 hD wr (wmt D (H + 1) wr) h e (H + 1) R 0 (by omega)
  rw [w1_0] at z
  have z2 := l_ph2 (EOK_w1 hD (wmt D (H + 1) wr) R) wr (wmt D (H + 1) wr) h e (H + 1) N 0 (by omega)
  rw [w2_0] at z2
  exact z.trans z2
