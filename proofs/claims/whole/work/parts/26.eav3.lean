/-! ===== the rest of Eaves ===== -/
theorem t_14_1_0 : ∀ (L S : List Value) (h : icH), exe icE 14 (e_tsw 1 48 0 2 #[27, 34, 41] L (.int (nI 0) :: S) h) = icE 14 28 L S h := fun _ _ _ => rfl
theorem t_14_1_1 : ∀ (L S : List Value) (h : icH), exe icE 14 (e_tsw 1 48 0 2 #[27, 34, 41] L (.int (nI 1) :: S) h) = icE 14 35 L S h := fun _ _ _ => rfl
theorem t_14_1_2 : ∀ (L S : List Value) (h : icH), exe icE 14 (e_tsw 1 48 0 2 #[27, 34, 41] L (.int (nI 2) :: S) h) = icE 14 42 L S h := fun _ _ _ => rfl
theorem tw_14_1 : (∀ (L S : List Value) (h : icH), exe icE 14 (e_tsw 1 48 0 2 #[27, 34, 41] L (.int (nI 0) :: S) h) = icE 14 28 L S h) ∧ (∀ (L S : List Value) (h : icH), exe icE 14 (e_tsw 1 48 0 2 #[27, 34, 41] L (.int (nI 1) :: S) h) = icE 14 35 L S h) ∧ (∀ (L S : List Value) (h : icH), exe icE 14 (e_tsw 1 48 0 2 #[27, 34, 41] L (.int (nI 2) :: S) h) = icE 14 42 L S h) := ⟨t_14_1_0, t_14_1_1, t_14_1_2⟩
theorem td_14_1 {x : Int32} (hx : x.toInt < 0 ∨ 2 < x.toInt) (L S : List Value) (h : icH) : exe icE 14 (e_tsw 1 48 0 2 #[27, 34, 41] L (.int x :: S) h) = icE 14 49 L S h := by
  unfold e_tsw
  dsimp only
  rw [if_pos hx]
  rfl
theorem t_15_1_0 : ∀ (L S : List Value) (h : icH), exe icE 15 (e_tsw 1 70 0 4 #[35, 42, 49, 56, 63] L (.int (nI 0) :: S) h) = icE 15 36 L S h := fun _ _ _ => rfl
theorem t_15_1_1 : ∀ (L S : List Value) (h : icH), exe icE 15 (e_tsw 1 70 0 4 #[35, 42, 49, 56, 63] L (.int (nI 1) :: S) h) = icE 15 43 L S h := fun _ _ _ => rfl
theorem t_15_1_2 : ∀ (L S : List Value) (h : icH), exe icE 15 (e_tsw 1 70 0 4 #[35, 42, 49, 56, 63] L (.int (nI 2) :: S) h) = icE 15 50 L S h := fun _ _ _ => rfl
theorem t_15_1_3 : ∀ (L S : List Value) (h : icH), exe icE 15 (e_tsw 1 70 0 4 #[35, 42, 49, 56, 63] L (.int (nI 3) :: S) h) = icE 15 57 L S h := fun _ _ _ => rfl
theorem t_15_1_4 : ∀ (L S : List Value) (h : icH), exe icE 15 (e_tsw 1 70 0 4 #[35, 42, 49, 56, 63] L (.int (nI 4) :: S) h) = icE 15 64 L S h := fun _ _ _ => rfl
theorem tw_15_1 : (∀ (L S : List Value) (h : icH), exe icE 15 (e_tsw 1 70 0 4 #[35, 42, 49, 56, 63] L (.int (nI 0) :: S) h) = icE 15 36 L S h) ∧ (∀ (L S : List Value) (h : icH), exe icE 15 (e_tsw 1 70 0 4 #[35, 42, 49, 56, 63] L (.int (nI 1) :: S) h) = icE 15 43 L S h) ∧ (∀ (L S : List Value) (h : icH), exe icE 15 (e_tsw 1 70 0 4 #[35, 42, 49, 56, 63] L (.int (nI 2) :: S) h) = icE 15 50 L S h) ∧ (∀ (L S : List Value) (h : icH), exe icE 15 (e_tsw 1 70 0 4 #[35, 42, 49, 56, 63] L (.int (nI 3) :: S) h) = icE 15 57 L S h) ∧ (∀ (L S : List Value) (h : icH), exe icE 15 (e_tsw 1 70 0 4 #[35, 42, 49, 56, 63] L (.int (nI 4) :: S) h) = icE 15 64 L S h) := ⟨t_15_1_0, t_15_1_1, t_15_1_2, t_15_1_3, t_15_1_4⟩
theorem td_15_1 {x : Int32} (hx : x.toInt < 0 ∨ 4 < x.toInt) (L S : List Value) (h : icH) : exe icE 15 (e_tsw 1 70 0 4 #[35, 42, 49, 56, 63] L (.int x :: S) h) = icE 15 71 L S h := by
  unfold e_tsw
  dsimp only
  rw [if_pos hx]
  rfl
theorem nI_sb {a b : Nat} (h : b ≤ a) : nI a - nI b = nI (a - b) := by
  have e1 : a = (a - b) + b := by omega
  rw [e1, ← nI_add, Nat.add_sub_cancel]
  exact Int32.add_sub_cancel _ _
theorem c_begin (w : Int32) (h : icH) (e H R N : Nat) (D : Nat → Nat → Int32) : icE 3 0 [.ref e, .int w] [] (HE h e H R N D) = some (none, HE h e 0 0 0 (ud D 1 (fil (D 1) w 0 8))) := by
  simp only [SA, rw_3, HE_o, HEr, HE_wo, c_fill (show 8 < 2 ^ 31 by omega) w (HEr.1 _ _ _ _ _ _), HEw]
def tk (D F : Nat → Nat → Int32) : Nat → Nat → Int32 := fun a => if a = 0 ∨ a = 5 ∨ 11 < a then D a else va_cpy (F a) (D a) 0 0 (eS a)
theorem c_takeE {e f : Nat} (hef : e + 11 < f ∨ f + 11 < e) (h : icH) (H R N H' R' N' : Nat) (D F : Nat → Nat → Int32) : icE 4 0 [.ref e, .ref f] [] (HE (HE h f H' R' N' F) e H R N D) = some (none, HE (HE h f H' R' N' F) e H' R' N' (tk D F)) := by
  have q0 : ∀ (x : icH) (H R N : Nat) (D : Nat → Nat → Int32), hg (HE x e H R N D) f = hg x f := fun x H R N D => HE_n (by omega)
  have qj : ∀ (j : Nat), j ≤ 11 → ∀ (x : icH) (H R N : Nat) (D : Nat → Nat → Int32), hg (HE x e H R N D) (f + j) = hg x (f + j) := fun j hj x H R N D => HE_n (by omega)
  simp only [SA, rw_4, HE_o, HEr, HE_wo, q0, qj 1 (by omega), qj 2 (by omega), qj 3 (by omega), qj 4 (by omega), qj 6 (by omega), qj 7 (by omega), qj 8 (by omega), qj 9 (by omega), qj 10 (by omega), qj 11 (by omega), cp_n (n0 := 8) (n1 := 8) (sp := 0) (dp := 0) (n := 8) (by omega) (by omega) (by omega) (by omega), cp_n (n0 := 3) (n1 := 3) (sp := 0) (dp := 0) (n := 3) (by omega) (by omega) (by omega) (by omega), cp_n (n0 := 6) (n1 := 6) (sp := 0) (dp := 0) (n := 6) (by omega) (by omega) (by omega) (by omega), HEw]
  have : (ud (ud (ud (ud (ud (ud (ud (ud (ud (ud D 1 (va_cpy (F 1) (D 1) 0 0 8)) 2 (va_cpy (F 2) (D 2) 0 0 3)) 3 (va_cpy (F 3) (D 3) 0 0 3)) 4 (va_cpy (F 4) (D 4) 0 0 3)) 6 (va_cpy (F 6) (D 6) 0 0 6)) 7 (va_cpy (F 7) (D 7) 0 0 6)) 8 (va_cpy (F 8) (D 8) 0 0 6)) 9 (va_cpy (F 9) (D 9) 0 0 6)) 10 (va_cpy (F 10) (D 10) 0 0 6)) 11 (va_cpy (F 11) (D 11) 0 0 6)) = tk D F := by
    funext a
    unfold ud tk eS
    by_cases h0 : a = 0 ∨ a = 5 ∨ 11 < a
    · rw [if_pos h0]
      repeat rw [if_neg (by omega)]
    · rw [if_neg h0]
      have : a = 1 ∨ a = 2 ∨ a = 3 ∨ a = 4 ∨ a = 6 ∨ a = 7 ∨ a = 8 ∨ a = 9 ∨ a = 10 ∨ a = 11 := by omega
      rcases this with rfl | rfl | rfl | rfl | rfl | rfl | rfl | rfl | rfl | rfl <;> simp
  rw [← this]
  simp only [ud_n (show (2 : Nat) ≠ 1 by decide), ud_n (show (3 : Nat) ≠ 1 by decide), ud_n (show (3 : Nat) ≠ 2 by decide), ud_n (show (4 : Nat) ≠ 1 by decide), ud_n (show (4 : Nat) ≠ 2 by decide), ud_n (show (4 : Nat) ≠ 3 by decide), ud_n (show (6 : Nat) ≠ 1 by decide), ud_n (show (6 : Nat) ≠ 2 by decide), ud_n (show (6 : Nat) ≠ 3 by decide), ud_n (show (6 : Nat) ≠ 4 by decide), ud_n (show (7 : Nat) ≠ 1 by decide), ud_n (show (7 : Nat) ≠ 2 by decide), ud_n (show (7 : Nat) ≠ 3 by decide), ud_n (show (7 : Nat) ≠ 4 by decide), ud_n (show (7 : Nat) ≠ 6 by decide), ud_n (show (8 : Nat) ≠ 1 by decide), ud_n (show (8 : Nat) ≠ 2 by decide), ud_n (show (8 : Nat) ≠ 3 by decide), ud_n (show (8 : Nat) ≠ 4 by decide), ud_n (show (8 : Nat) ≠ 6 by decide), ud_n (show (8 : Nat) ≠ 7 by decide), ud_n (show (9 : Nat) ≠ 1 by decide), ud_n (show (9 : Nat) ≠ 2 by decide), ud_n (show (9 : Nat) ≠ 3 by decide), ud_n (show (9 : Nat) ≠ 4 by decide), ud_n (show (9 : Nat) ≠ 6 by decide), ud_n (show (9 : Nat) ≠ 7 by decide), ud_n (show (9 : Nat) ≠ 8 by decide), ud_n (show (10 : Nat) ≠ 1 by decide), ud_n (show (10 : Nat) ≠ 2 by decide), ud_n (show (10 : Nat) ≠ 3 by decide), ud_n (show (10 : Nat) ≠ 4 by decide), ud_n (show (10 : Nat) ≠ 6 by decide), ud_n (show (10 : Nat) ≠ 7 by decide), ud_n (show (10 : Nat) ≠ 8 by decide), ud_n (show (10 : Nat) ≠ 9 by decide), ud_n (show (11 : Nat) ≠ 1 by decide), ud_n (show (11 : Nat) ≠ 2 by decide), ud_n (show (11 : Nat) ≠ 3 by decide), ud_n (show (11 : Nat) ≠ 4 by decide), ud_n (show (11 : Nat) ≠ 6 by decide), ud_n (show (11 : Nat) ≠ 7 by decide), ud_n (show (11 : Nat) ≠ 8 by decide), ud_n (show (11 : Nat) ≠ 9 by decide), ud_n (show (11 : Nat) ≠ 10 by decide)]
theorem c_addRoof {R : Nat} (hR : R < 3) (k q s : Int32) (h : icH) (e H N : Nat) (D : Nat → Nat → Int32) : icE 5 0 [.ref e, .int k, .int q, .int s] [] (HE h e H R N D) = some (some (.int (nI R)), HE h e H (R + 1) N (ud (ud (ud D 2 (upd (D 2) R k)) 3 (upd (D 3) R q)) 4 (upd (D 4) R s))) := by
  have b3 : 3 < 2 ^ 31 := by omega
  simp only [SA, rw_5, HE_o, HEr, HE_wo, if_pos (nI_lt hR b3), is_n hR b3, HEw, nI_add, nI_sb (Nat.le_add_left 1 R), Nat.add_sub_cancel, ud_n (show (3 : Nat) ≠ 2 by decide), ud_n (show (4 : Nat) ≠ 2 by decide), ud_n (show (4 : Nat) ≠ 3 by decide)]
theorem c_addIcicle {N : Nat} (hN : N < 6) (r k p l t : Int32) (h : icH) (e H R : Nat) (D : Nat → Nat → Int32) : icE 6 0 [.ref e, .int r, .int k, .int p, .int l, .int t] [] (HE h e H R N D) = some (some (.int (nI N)), HE h e H R (N + 1) (ud (ud (ud (ud (ud (ud D 6 (upd (D 6) N r)) 7 (upd (D 7) N k)) 8 (upd (D 8) N p)) 9 (upd (D 9) N l)) 10 (upd (D 10) N t)) 11 (upd (D 11) N (nI 0)))) := by
  have b3 : 6 < 2 ^ 31 := by omega
  simp only [SA, rw_6, HE_o, HEr, HE_wo, if_pos (nI_lt hN b3), is_n hN b3, HEw, nI_add, nI_sb (Nat.le_add_left 1 N), Nat.add_sub_cancel, ud_n (show (7 : Nat) ≠ 6 by decide), ud_n (show (8 : Nat) ≠ 6 by decide), ud_n (show (8 : Nat) ≠ 7 by decide), ud_n (show (9 : Nat) ≠ 6 by decide), ud_n (show (9 : Nat) ≠ 7 by decide), ud_n (show (9 : Nat) ≠ 8 by decide), ud_n (show (10 : Nat) ≠ 6 by decide), ud_n (show (10 : Nat) ≠ 7 by decide), ud_n (show (10 : Nat) ≠ 8 by decide), ud_n (show (10 : Nat) ≠ 9 by decide), ud_n (show (11 : Nat) ≠ 6 by decide), ud_n (show (11 : Nat) ≠ 7 by decide), ud_n (show (11 : Nat) ≠ 8 by decide), ud_n (show (11 : Nat) ≠ 9 by decide), ud_n (show (11 : Nat) ≠ 10 by decide)]
theorem c_addSnow {r : Nat} (hr : r < 3) (n : Int32) (h : icH) (e H R N : Nat) (D : Nat → Nat → Int32) : icE 7 0 [.ref e, .int (nI r), .int n] [] (HE h e H R N D) = some (none, HE h e H R N (ud D 4 (upd (D 4) r (imn (D 4 r + n) (nI 60))))) := by
  have b3 : 3 < 2 ^ 31 := by omega
  simp only [SA, rw_7, HE_o, HEr, ia_n hr b3, is_n hr b3, HEw, c_min]
def WOK (D : Nat → Nat → Int32) : Prop := ∀ k, k < 8 → D 1 k ≤ nI 9
theorem wmt_0 {D : Nat → Nat → Int32} (hW : WOK D) (H : Nat) : wmt D H (nI 0) = D 1 (H % 8) := by
  unfold wmt imn
  have h0 : D 1 (H % 8) + nI 0 = D 1 (H % 8) := by rw [nI_0]; exact Int32.add_zero _
  rw [h0, if_neg]
  have := hW (H % 8) (Nat.mod_lt _ (by decide))
  rw [Int32.le_iff_toInt_le] at this
  rw [Int32.lt_iff_toInt_lt]
  omega
def hs (R N H : Nat) (D : Nat → Nat → Int32) : Nat → Nat → Int32 := hw D (D 1 ((H + 1) % 8)) R N
theorem hw_n {D : Nat → Nat → Int32} {w : Int32} {R N a : Nat} (h4 : a ≠ 4) (h5 : a ≠ 5) (h9 : a ≠ 9) (h11 : a ≠ 11) : hw D w R N a = D a := by unfold hw; rw [w2_n h9 h11, w1_n h4 h5]
theorem EOK_hw {R N : Nat} {D : Nat → Nat → Int32} (hD : EOK R N D) (w : Int32) : EOK R N (hw D w R N) := EOK_w2 (EOK_w1 hD w R) w N
theorem WOK_hw {R N : Nat} {D : Nat → Nat → Int32} (hD : WOK D) (w : Int32) : WOK (hw D w R N) := by
  unfold WOK at *
  rw [hw_n (by decide) (by decide) (by decide) (by decide)]
  exact hD
theorem c_pass0 {H R N : Nat} {D : Nat → Nat → Int32} (hD : EOK R N D) (hW : WOK D) (hH : H + 1 < 2 ^ 31) (h : icH) (e : Nat) : icE 9 0 [.ref e, .int (nI 0), dum, dum] [] (HE h e H R N D) = some (none, HE h e (H + 1) R N (hs R N H D)) := by
  rw [c_passHour hD hH, wmt_0 hW]
  rfl
def hsn (R N : Nat) : Nat → Nat → (Nat → Nat → Int32) → Nat → Nat → Int32
  | 0, _, D => D
  | n + 1, H, D => hsn R N n (H + 1) (hs R N H D)
theorem l_passHours {R N n : Nat} (hn : n < 2 ^ 31) (h : icH) (e : Nat) : ∀ (m i H : Nat) (D : Nat → Nat → Int32), i + m = n → EOK R N D → WOK D → H ≤ 9999 → icE 8 2 [.ref e, .int (nI n), .int (nI i)] [] (HE h e H R N D) = some (none, HE h e (H + min m (9999 - H)) R N (hsn R N (min m (9999 - H)) H D))
  | 0, i, H, D, him, hD, hW, hH => by
    have : i = n := by omega
    subst this
    rw [rh_8_2]
    simp only [SA, rw_8, if_pos (nI_le (Nat.le_refl i) hn), Nat.zero_min, Nat.add_zero, hsn]
  | m + 1, i, H, D, him, hD, hW, hH => by
    rw [rh_8_2]
    by_cases h9 : H = 9999
    · subst h9
      simp only [SA, rw_8, HE_o, if_neg (nI_ge (show i < n by omega) hn), if_pos (nI_le (Nat.le_refl 9999) (show 9999 < 2 ^ 31 by omega)), Nat.sub_self, Nat.min_zero, Nat.add_zero, hsn]
    · simp only [SA, rw_8, HE_o, if_neg (nI_ge (show i < n by omega) hn), if_neg (nI_ge (show H < 9999 by omega) (show 9999 < 2 ^ 31 by omega)), c_pass0 hD hW (show H + 1 < 2 ^ 31 by omega), nI_add]
      rw [l_passHours hn h e m (i + 1) (H + 1) (hs R N H D) (by omega) (EOK_hw hD _) (WOK_hw hW _) (by omega)]
      have e1 : min (m + 1) (9999 - H) = min m (9999 - (H + 1)) + 1 := by omega
      rw [e1]
      have e2 : H + 1 + min m (9999 - (H + 1)) = H + (min m (9999 - (H + 1)) + 1) := by omega
      rw [e2]
      rfl
theorem c_passHours {R N n H : Nat} {D : Nat → Nat → Int32} (hn : n < 2 ^ 31) (hD : EOK R N D) (hW : WOK D) (hH : H ≤ 9999) (h : icH) (e : Nat) : icE 8 0 [.ref e, .int (nI n), dum] [] (HE h e H R N D) = some (none, HE h e (H + min n (9999 - H)) R N (hsn R N (min n (9999 - H)) H D)) := by
  simp only [SA, rw_8]
  exact l_passHours hn h e n 0 H D (by omega) hD hW hH
theorem c_waterNext {R N H r : Nat} {D : Nat → Nat → Int32} (hD : EOK R N D) (hH : H + 1 < 2 ^ 31) (hr : r < R) (h : icH) (e : Nat) : icE 12 0 [.ref e, .int (nI r)] [] (HE h e H R N D) = some (some (.int (wtr D (D 1 ((H + 1) % 8)) r)), HE h e H R N D) := by
  obtain ⟨hR, hN, h2, h7, h6⟩ := hD
  simp only [SA, rw_12, HE_o, HEr, ia_n (show r < 3 by omega) (show 3 < 2 ^ 31 by omega), nI_add, c_warmthAt hH, c_wat (h2 r hr)]
  rfl
theorem c_moreNext {R N H i : Nat} {D : Nat → Nat → Int32} (hD : EOK R N D) (hH : H + 1 < 2 ^ 31) (hi : i < N) (h : icH) (e : Nat) : icE 13 0 [.ref e, .int (nI i)] [] (HE h e H R N D) = some (some (.int (mor (kn (D 7 i)) (D 9 i) (D 1 ((H + 1) % 8)) (wtr D (D 1 ((H + 1) % 8)) (kn (D 6 i))))), HE h e H R N D) := by
  have hwn := c_waterNext hD hH (hD.2.2.2.2 i hi).2 h e
  rw [← (hD.2.2.2.2 i hi).1] at hwn
  obtain ⟨hR, hN, h2, h7, h6⟩ := hD
  simp only [SA, rw_13, HE_o, HEr, ia_n (show i < 6 by omega) (show 6 < 2 ^ 31 by omega), nI_add, c_warmthAt hH, hwn, c_mor (h7 i hi)]
def lb (D : Nat → Nat → Int32) (v : Int32) : Nat → Nat
  | 0 => 0
  | n + 1 => lb D v n + (if D 11 n = v then 2 ^ n else 0)
theorem lb_lt (D : Nat → Nat → Int32) (v : Int32) : ∀ n, lb D v n < 2 ^ n
  | 0 => by simp [lb]
  | n + 1 => by
    have := lb_lt D v n
    unfold lb
    rw [Nat.pow_succ]
    split <;> omega
theorem or_bit : ∀ i, i < 6 → ∀ b, b < 2 ^ i → nI b ||| (nI 1 <<< (nI i &&& 31)) = nI (b + 2 ^ i) := by decide +kernel
theorem l_lostBits {N : Nat} (hN : N ≤ 6) (v : Int32) (h : icH) (e H R : Nat) (D : Nat → Nat → Int32) : ∀ (m i : Nat), i + m = N → icE 17 4 [.ref e, .int v, .int (nI (lb D v i)), .int (nI i)] [] (HE h e H R N D) = some (some (.int (nI (lb D v N))), HE h e H R N D)
  | 0, i, him => by
    have : i = N := by omega
    subst this
    rw [rh_17_4]
    simp only [SA, rw_17, HE_o, if_pos (nI_le (Nat.le_refl i) (show i < 2 ^ 31 by omega))]
  | m + 1, i, him => by
    have ih := l_lostBits hN v h e H R D m (i + 1) (by omega)
    rw [rh_17_4]
    have eS1 : lb D v (i + 1) = lb D v i + (if D 11 i = v then 2 ^ i else 0) := rfl
    rw [eS1] at ih
    by_cases hv : D 11 i = v
    · rw [if_pos hv] at ih
      simp only [SA, rw_17, HE_o, HEr, if_neg (nI_ge (show i < N by omega) (show N < 2 ^ 31 by omega)), ia_n (show i < 6 by omega) (show 6 < 2 ^ 31 by omega), if_pos hv, nI_add, or_bit i (by omega) _ (lb_lt D v i)]
      exact ih
    · rw [if_neg hv, Nat.add_zero] at ih
      simp only [SA, rw_17, HE_o, HEr, if_neg (nI_ge (show i < N by omega) (show N < 2 ^ 31 by omega)), ia_n (show i < 6 by omega) (show 6 < 2 ^ 31 by omega), if_neg hv, nI_add]
      exact ih
theorem c_lostBits {N : Nat} (hN : N ≤ 6) (v : Int32) (h : icH) (e H R : Nat) (D : Nat → Nat → Int32) : icE 17 0 [.ref e, .int v, dum, dum] [] (HE h e H R N D) = some (some (.int (nI (lb D v N))), HE h e H R N D) := by
  simp only [SA, rw_17]
  exact l_lostBits hN v h e H R D N 0 (by omega)
theorem lb_64 {N : Nat} (hN : N ≤ 6) (D : Nat → Nat → Int32) (v : Int32) : lb D v N < 64 := by
  have h1 := lb_lt D v N
  have h2 : 2 ^ N ≤ 2 ^ 6 := Nat.pow_le_pow_right (by decide) hN
  omega
theorem c_hanging {N : Nat} (hN : N ≤ 6) (h : icH) (e H R : Nat) (D : Nat → Nat → Int32) : icE 16 0 [.ref e] [] (HE h e H R N D) = some (some (.int (nI (popc (lb D (nI 0) N)))), HE h e H R N D) := by
  simp only [SA, rw_16, HE_o, c_lostBits hN, c_bitCount (lb_64 hN D (nI 0))]
def asn (D : Nat → Nat → Int32) : Nat → Int32
  | 0 => nI 0
  | n + 1 => asn D n + D 4 n
theorem l_allSnow {R : Nat} (hR : R ≤ 3) (h : icH) (e H N : Nat) (D : Nat → Nat → Int32) : ∀ (m i : Nat), i + m = R → icE 18 4 [.ref e, .int (asn D i), .int (nI i)] [] (HE h e H R N D) = some (some (.int (asn D R)), HE h e H R N D)
  | 0, i, him => by
    have : i = R := by omega
    subst this
    rw [rh_18_4]
    simp only [SA, rw_18, HE_o, if_pos (nI_le (Nat.le_refl i) (show i < 2 ^ 31 by omega))]
  | m + 1, i, him => by
    have ih := l_allSnow hR h e H N D m (i + 1) (by omega)
    rw [rh_18_4]
    simp only [SA, rw_18, HE_o, HEr, if_neg (nI_ge (show i < R by omega) (show R < 2 ^ 31 by omega)), ia_n (show i < 3 by omega) (show 3 < 2 ^ 31 by omega), nI_add]
    exact ih
theorem c_allSnow {R : Nat} (hR : R ≤ 3) (h : icH) (e H N : Nat) (D : Nat → Nat → Int32) : icE 18 0 [.ref e, dum, dum] [] (HE h e H R N D) = some (some (.int (asn D R)), HE h e H R N D) := by
  simp only [SA, rw_18]
  exact l_allSnow hR h e H N D R 0 (by omega)
