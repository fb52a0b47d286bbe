/-! ===== Math, Integer, Arrays ===== -/
def imx (a b : Int32) : Int32 := if a < b then b else a
def imn (a b : Int32) : Int32 := if b < a then b else a
theorem c_max (a b : Int32) (h : icH) : icE 223 0 [.int a, .int b] [] h = some (some (.int (imx a b)), h) := by
  simp only [SA, rw_223]
  unfold imx
  split <;> rfl
theorem c_min (a b : Int32) (h : icH) : icE 224 0 [.int a, .int b] [] h = some (some (.int (imn a b)), h) := by
  simp only [SA, rw_224]
  unfold imn
  split <;> rfl
theorem nI_xor (a b : Nat) : nI a ^^^ nI b = nI (a ^^^ b) := by
  apply Int32.toBitVec_inj.mp
  show BitVec.ofNat 32 a ^^^ BitVec.ofNat 32 b = BitVec.ofNat 32 (a ^^^ b)
  apply BitVec.eq_of_toNat_eq
  simp [Nat.xor_mod_two_pow]
theorem c_floorMod {n : Nat} (hn : n < 2 ^ 31) (h : icH) : icE 222 0 [.int (nI n), .int (nI 8), dum] [] h = some (some (.int (nI (n % 8))), h) := by
  have hx : n ^^^ 8 < 2 ^ 31 := Nat.xor_lt_two_pow hn (by decide)
  simp only [SA, rw_222, nI_xor, if_neg (nI_ne0 (n := 8) (by omega) (by omega)), if_pos (nI_pos' hx), pk_rem hn (show 0 < 8 by omega) (show 8 < 2 ^ 31 by omega)]
def popc (b : Nat) : Nat := b % 2 + b / 2 % 2 + b / 4 % 2 + b / 8 % 2 + b / 16 % 2 + b / 32 % 2
theorem c_bitCount {b : Nat} (hb : b < 64) (h : icH) : icE 221 0 [.int (nI b)] [] h = some (some (.int (nI (popc b))), h) := by
  simp only [SA, rw_221]
  refine congrArg (fun x => some (some (Value.int x), h)) ?_
  revert b
  decide +kernel
def fil (f : Nat → Int32) (v : Int32) (i n : Nat) : Nat → Int32 := fun j => if i ≤ j ∧ j < n then v else f j
theorem fil_n (f : Nat → Int32) (v : Int32) (n : Nat) : fil f v n n = f := by
  funext j; unfold fil; rw [if_neg (by omega)]
theorem fil_s {f : Nat → Int32} {v : Int32} {i n : Nat} (hi : i < n) : fil (upd f i v) v (i + 1) n = fil f v i n := by
  funext j; unfold fil upd
  by_cases h1 : j = i
  · subst h1; rw [if_neg (by omega), if_pos rfl, if_pos (by omega)]
  · by_cases h2 : i + 1 ≤ j ∧ j < n
    · rw [if_pos h2, if_pos (by omega)]
    · rw [if_neg h2, if_neg h1, if_neg (by omega)]
theorem l_fill {n a : Nat} (hn : n < 2 ^ 31) (v : Int32) : ∀ (m i : Nat) (f : Nat → Int32) (h : icH), i + m = n → hg h a = some (ai n f) → icE 225 5 [.ref a, .int v, .int (nI i), .int (nI n)] [] h = some (none, hput h a (ai n (fil f v i n)))
  | 0, i, f, h, him, H => by
    have : i = n := by omega
    subst this
    simp only [SA, rw_225, rh_225_5, if_pos (nI_le (Nat.le_refl i) hn), fil_n, hp_id H]
  | m + 1, i, f, h, him, H => by
    rw [rh_225_5]
    simp only [SA, rw_225, H, if_neg (nI_ge (show i < n by omega) hn), is_n (show i < n by omega) hn, nI_add]
    rw [l_fill hn v m (i + 1) (upd f i v) _ (by omega) (hg_s _ _ _), hp_p, fil_s (by omega)]
theorem c_fill {n a : Nat} (hn : n < 2 ^ 31) (v : Int32) {f : Nat → Int32} {h : icH} (H : hg h a = some (ai n f)) : icE 225 0 [.ref a, .int v, dum, dum] [] h = some (none, hput h a (ai n (fil f v 0 n))) := by
  simp only [SA, rw_225, H]
  exact l_fill hn v n 0 f h (by omega) H
