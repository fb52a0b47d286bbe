/-! ===== Rows ===== -/
def HR (h : icH) (a w n F : Nat) (f : Nat → Int32) : icH := (h.1, h.2.1, fun b => if b = a then some (ob 5 [.int (nI w), .ref (a + 1), .int (nI F)]) else if b = a + 1 then some (ai n f) else h.2.2 b)
theorem HR_o (h : icH) (a w n F : Nat) (f : Nat → Int32) : hg (HR h a w n F f) a = some (ob 5 [.int (nI w), .ref (a + 1), .int (nI F)]) := by
  unfold hg HR
  exact if_pos rfl
theorem HR_c (h : icH) (a w n F : Nat) (f : Nat → Int32) : hg (HR h a w n F f) (a + 1) = some (ai n f) := by
  unfold hg HR
  dsimp only
  rw [if_neg (by omega), if_pos rfl]
theorem HR_n {h : icH} {a w n F b : Nat} {f : Nat → Int32} (hb : b < a ∨ a + 1 < b) : hg (HR h a w n F f) b = hg h b := by
  unfold hg HR
  dsimp only
  rw [if_neg (by omega), if_neg (by omega)]
theorem HR_wo (h : icH) (a w n F F' : Nat) (f : Nat → Int32) : hput (HR h a w n F f) a (ob 5 [.int (nI w), .ref (a + 1), .int (nI F')]) = HR h a w n F' f := by
  unfold hput HR
  dsimp only
  congr 2
  funext b
  by_cases h1 : b = a
  · rw [if_pos h1, if_pos h1]
  · rw [if_neg h1, if_neg h1, if_neg h1]
theorem HR_wc (h : icH) (a w n F : Nat) (f g : Nat → Int32) : hput (HR h a w n F f) (a + 1) (ai n g) = HR h a w n F g := by
  unfold hput HR
  dsimp only
  congr 2
  funext b
  by_cases h1 : b = a + 1
  · rw [if_pos h1, if_neg (by omega), if_pos h1]
  · rw [if_neg h1, if_neg h1]
    by_cases h2 : b = a
    · rw [if_pos h2, if_pos h2]
    · rw [if_neg h2, if_neg h2, if_neg h1]
theorem HR_h (h : icH) (a w n F w' n' F' : Nat) (f f' : Nat → Int32) : HR (HR h a w n F f) a w' n' F' f' = HR h a w' n' F' f' := by
  unfold HR
  dsimp only
  congr 2
  funext b
  by_cases h1 : b = a
  · rw [if_pos h1, if_pos h1]
  · by_cases h2 : b = a + 1
    · rw [if_neg h1, if_pos h2, if_neg h1, if_pos h2]
    · rw [if_neg h1, if_neg h2, if_neg h1, if_neg h2, if_neg h1, if_neg h2]
theorem c_rsize {w F : Nat} (hw : 0 < w ∧ w < 2 ^ 31) (hF : F < 2 ^ 31) (h : icH) (a n : Nat) (f : Nat → Int32) : icE 43 0 [.ref a] [] (HR h a w n F f) = some (some (.int (nI (F / w))), HR h a w n F f) := c_size (HR_o h a w n F f) hw.1 hw.2 hF
theorem c_rfull {n F : Nat} (hn : n < 2 ^ 31) (hF : F < 2 ^ 31) (h : icH) (a w : Nat) (f : Nat → Int32) : icE 44 0 [.ref a] [] (HR h a w n F f) = some (some (.int (if F < n then nI 0 else nI 1)), HR h a w n F f) := by
  by_cases hc : F < n
  · rw [if_pos hc]
    simp only [SA, rw_44, HR_o, HR_c, if_pos (nI_lt hc hn)]
  · rw [if_neg hc]
    simp only [SA, rw_44, HR_o, HR_c, if_neg (nI_nlt (show n ≤ F by omega) hF)]
theorem c_rat {n F w r c : Nat} (hn : n < 2 ^ 31) (hF : F ≤ n) (hc : r * w + c < 2 ^ 31) (h : icH) (a : Nat) (f : Nat → Int32) : icE 45 0 [.ref a, .int (nI r), .int (nI c), dum] [] (HR h a w n F f) = some (some (.int (if r * w + c < F then f (r * w + c) else nI 0)), HR h a w n F f) := by
  by_cases hf : r * w + c < F
  · rw [if_pos hf]
    simp only [SA, rw_45, HR_o, HR_c, pk_mul, nI_add, if_neg (nI_pos hc), if_neg (nI_ge hf (show F < 2 ^ 31 by omega)), ia_n (show r * w + c < n by omega) hn]
  · rw [if_neg hf]
    simp only [SA, rw_45, HR_o, HR_c, pk_mul, nI_add, if_neg (nI_pos hc), if_pos (nI_le (show F ≤ r * w + c by omega) hc)]
theorem c_rlast {n F w r : Nat} (hn : n < 2 ^ 31) (hF : F ≤ n) (hw : 0 < w) (hc : r * w + (w - 1) < 2 ^ 31) (h : icH) (a : Nat) (f : Nat → Int32) : icE 46 0 [.ref a, .int (nI r)] [] (HR h a w n F f) = some (some (.int (if r * w + (w - 1) < F then f (r * w + (w - 1)) else nI 0)), HR h a w n F f) := by
  simp only [SA, rw_46, HR_o, nI_sb (show 1 ≤ w by omega), c_rat hn hF hc]
theorem c_rwrite {n F : Nat} (hn : n < 2 ^ 31) (hF : F < n) (v : Int32) (h : icH) (a w : Nat) (f : Nat → Int32) : icE 47 0 [.ref a, .int v] [] (HR h a w n F f) = some (none, HR h a w n (F + 1) (upd f F v)) := by
  simp only [SA, rw_47, HR_o, HR_c, c_rfull hn (show F < 2 ^ 31 by omega), if_pos hF, nI_0, if_true, HR_wo, HR_wc, is_n hF hn, nI_add]
theorem c_rempty {w F : Nat} (hw : 0 < w ∧ w < 2 ^ 31) (hF : F < 2 ^ 31) (h : icH) (a n : Nat) (f : Nat → Int32) : icE 48 0 [.ref a, dum] [] (HR h a w n F f) = some (some (.int (nI (F / w))), HR h a w n 0 f) := by
  simp only [SA, rw_48, HR_o, HR_c, c_rsize hw hF, HR_wo]
theorem c_rdrop1 {n F w : Nat} (hn : n < 2 ^ 31) (hF : F ≤ n) (hw : w ≤ F) (h : icH) (a : Nat) (f : Nat → Int32) : icE 49 0 [.ref a] [] (HR h a w n F f) = some (none, HR h a w n (F - w) (va_cpy f f w 0 (F - w))) := by
  simp only [SA, rw_49, HR_o, HR_c, if_neg (nI_nlt hw (show F < 2 ^ 31 by omega)), nI_sb hw, cp_n (n0 := n) (n1 := n) (sp := w) (dp := 0) (n := F - w) (by omega) (by omega) hn hn, HR_wo, HR_wc]
theorem imx_sub {F w : Nat} (hF : F < 2 ^ 31) (hw : w < 2 ^ 31) : imx (nI 0) (nI F - nI w) = nI (F - w) := by
  by_cases h1 : w ≤ F
  · rw [nI_sb h1]
    unfold imx
    by_cases h2 : F - w = 0
    · rw [h2, if_neg (by decide)]
    · rw [if_pos (nI_lt (by omega) (by omega))]
  · have e1 : F - w = 0 := by omega
    rw [e1]
    unfold imx
    rw [if_neg]
    rw [Int32.lt_iff_toInt_lt, Int32.toInt_sub, nI_toInt hF, nI_toInt hw, nI_toInt (by decide)]
    rw [Int.bmod_def]
    omega
theorem c_rdropL {n F w : Nat} (hF : F < 2 ^ 31) (hw : w < 2 ^ 31) (h : icH) (a : Nat) (f : Nat → Int32) : icE 50 0 [.ref a] [] (HR h a w n F f) = some (none, HR h a w n (F - w) f) := by
  simp only [SA, rw_50, HR_o, HR_c, c_max, imx_sub hF hw, HR_wo]
theorem imn_le {a b : Nat} (h : b ≤ a) (ha : a < 2 ^ 31) : imn (nI a) (nI b) = nI b := by
  unfold imn
  by_cases h1 : b = a
  · subst h1; split <;> rfl
  · rw [if_pos (nI_lt (by omega) ha)]
theorem c_rtake {n F F' a b : Nat} (hn : n < 2 ^ 31) (hF : F' ≤ n) (hab : a + 1 < b ∨ b + 1 < a) (h : icH) (w : Nat) (f f' : Nat → Int32) : icE 51 0 [.ref a, .ref b] [] (HR (HR h b w n F' f') a w n F f) = some (none, HR (HR h b w n F' f') a w n F' (va_cpy f' f 0 0 F')) := by
  have q0 : ∀ (x : icH) (F : Nat) (f : Nat → Int32), hg (HR x a w n F f) b = hg x b := fun x F f => HR_n (by omega)
  have q1 : ∀ (x : icH) (F : Nat) (f : Nat → Int32), hg (HR x a w n F f) (b + 1) = hg x (b + 1) := fun x F f => HR_n (by omega)
  simp only [SA, rw_51, HR_o, HR_c, q0, q1, c_min, imn_le hF hn, HR_wo, HR_wc, cp_n (n0 := n) (n1 := n) (sp := 0) (dp := 0) (n := F') (by omega) (by omega) hn hn]
def dgl (f : Nat → Int32) (s : Int64) : Nat → Int64
  | 0 => s
  | n + 1 => dst (dgl f s n) (f n)
theorem l_rdig {n F : Nat} (hn : n < 2 ^ 31) (hF : F ≤ n) (s : Int64) (h : icH) (a w : Nat) (f : Nat → Int32) : ∀ (m i : Nat), i + m = F → icE 52 5 [.ref a, .long s, dum, .long (dgl f s i), dum, .int (nI i)] [] (HR h a w n F f) = some (some (.long (dgl f s F)), HR h a w n F f)
  | 0, i, him => by
    have : i = F := by omega
    subst this
    rw [rh_52_5]
    simp only [SA, rw_52, HR_o, if_pos (nI_le (Nat.le_refl i) (show i < 2 ^ 31 by omega))]
  | m + 1, i, him => by
    have ih := l_rdig hn hF s h a w f m (i + 1) (by omega)
    rw [rh_52_5]
    simp only [SA, rw_52, HR_o, HR_c, if_neg (nI_ge (show i < F by omega) (show F < 2 ^ 31 by omega)), ia_n (show i < n by omega) hn, nI_add]
    exact ih
theorem c_rdig {n F : Nat} (hn : n < 2 ^ 31) (hF : F ≤ n) (s : Int64) (h : icH) (a w : Nat) (f : Nat → Int32) : icE 52 0 [.ref a, .long s, dum, dum, dum, dum] [] (HR h a w n F f) = some (some (.long (dgl f s F)), HR h a w n F f) := by
  simp only [SA, rw_52]
  exact l_rdig hn hF s h a w f F 0 (by omega)
