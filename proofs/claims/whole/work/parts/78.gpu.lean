/-! ===== sets of what fits, groups alike, the best look ===== -/
def msk (p : Nat → Bool) : Nat → Nat
  | 0 => 0
  | n + 1 => msk p n + (if p n = true then 2 ^ n else 0)
theorem msk_lt (p : Nat → Bool) : ∀ n, msk p n < 2 ^ n
  | 0 => by show (0 : Nat) < 2 ^ 0; decide
  | n + 1 => by
    have := msk_lt p n
    unfold msk
    rw [Nat.pow_succ]
    split <;> omega
theorem msk_bit (p : Nat → Bool) : ∀ n a, a < n → msk p n / 2 ^ a % 2 = if p a = true then 1 else 0
  | 0, a, h => by omega
  | n + 1, a, h => by
    have lt := msk_lt p n
    have e : msk p (n + 1) = msk p n + (if p n = true then 2 ^ n else 0) := rfl
    rw [e]
    by_cases c : a = n
    · subst c
      split
      · rw [Nat.add_div_right _ (Nat.pow_pos (by decide)), Nat.div_eq_of_lt lt]
      · rw [Nat.add_zero, Nat.div_eq_of_lt lt]
    · have ih := msk_bit p n a (by omega)
      rw [← ih]
      split
      · obtain ⟨d, rfl⟩ : ∃ d, n = a + (d + 1) := ⟨n - a - 1, by omega⟩
        rw [Nat.pow_add, Nat.add_mul_div_left _ _ (Nat.pow_pos (by decide)), Nat.pow_succ]
        omega
      · rfl
theorem msk_c {p q : Nat → Bool} : ∀ n, (∀ c, c < n → p c = q c) → msk p n = msk q n
  | 0, _ => rfl
  | n + 1, h => by
    unfold msk
    rw [msk_c n (fun c hc => h c (by omega)), h n (by omega)]
theorem sh10 : ∀ U, U < 1024 → ∀ c, c < 10 → (nI U >>> (nI c &&& 31)) &&& nI 1 = nI (U / 2 ^ c % 2) := by decide +kernel
theorem or10 : ∀ i, i < 10 → ∀ b, b < 2 ^ i → nI b ||| (nI 1 <<< (nI i &&& 31)) = nI (b + 2 ^ i) := by decide +kernel
theorem an10 : ∀ U, U < 1024 → nI U &&& nI 1023 = nI U := by decide +kernel
theorem an6 : ∀ U, U < 64 → nI U &&& nI 63 = nI U := by decide +kernel
theorem cl10 : ∀ U, U < 1024 → ∀ e, e < 10 → nI U &&& ((nI 1 <<< (nI e &&& 31)) ^^^ (-1)) = nI (if U / 2 ^ e % 2 = 1 then U - 2 ^ e else U) := by decide +kernel
theorem msk_10 (p : Nat → Bool) {n : Nat} (hn : n ≤ 10) : msk p n < 1024 := Nat.lt_of_lt_of_le (msk_lt p n) (Nat.pow_le_pow_right (by decide) hn)
theorem msk_sh (p : Nat → Bool) {n a : Nat} (hn : n ≤ 10) (ha : a < n) : (nI (msk p n) >>> (nI a &&& 31)) &&& nI 1 = nI (if p a = true then 1 else 0) := by
  rw [sh10 _ (msk_10 p hn) a (by omega), msk_bit p n a ha]
theorem msk_s2 (p : Nat → Bool) {n a b : Nat} (hn : n ≤ 10) (ha : a < n) (hb : b < n) : ((nI (msk p n) >>> (nI a &&& 31)) &&& (nI (msk p n) >>> (nI b &&& 31))) &&& nI 1 = nI (if p a = true ∧ p b = true then 1 else 0) := by
  have e : ((nI (msk p n) >>> (nI a &&& 31)) &&& (nI (msk p n) >>> (nI b &&& 31))) &&& nI 1 = ((nI (msk p n) >>> (nI a &&& 31)) &&& nI 1) &&& ((nI (msk p n) >>> (nI b &&& 31)) &&& nI 1) := by
    generalize nI (msk p n) >>> (nI a &&& 31) = x
    generalize nI (msk p n) >>> (nI b &&& 31) = y
    have h1 : nI 1 &&& nI 1 = nI 1 := by decide
    rw [Int32.and_assoc, Int32.and_assoc, ← Int32.and_assoc (nI 1) y, Int32.and_comm (nI 1) y, Int32.and_assoc y, h1]
  rw [e, msk_sh p hn ha, msk_sh p hn hb]
  by_cases c1 : p a = true <;> by_cases c2 : p b = true <;> simp only [c1, c2, if_true, if_false, and_self, and_true, and_false] <;> decide
theorem msk_ex (p : Nat → Bool) : ∀ n, msk p n ≠ 0 → ∃ a, a < n ∧ p a = true
  | 0, h => absurd rfl h
  | n + 1, h => by
    by_cases c : p n = true
    · exact ⟨n, by omega, c⟩
    · have e : msk p (n + 1) = msk p n := by show msk p n + (if p n = true then 2 ^ n else 0) = _; rw [if_neg c, Nat.add_zero]
      rw [e] at h
      obtain ⟨a, h1, h2⟩ := msk_ex p n h
      exact ⟨a, by omega, h2⟩
theorem msk_cl {p : Nat → Bool} {e : Nat} : ∀ n, e < n → msk (fun c => if c = e then false else p c) n = if msk p n / 2 ^ e % 2 = 1 then msk p n - 2 ^ e else msk p n := by
  intro n he
  rw [msk_bit p n e he]
  have aux : ∀ m, msk (fun c => if c = e then false else p c) m + (if e < m ∧ p e = true then 2 ^ e else 0) = msk p m := by
    intro m
    induction m with
    | zero => rfl
    | succ m ih =>
      have e1 : msk (fun c => if c = e then false else p c) (m + 1) = msk (fun c => if c = e then false else p c) m + (if (if m = e then false else p m) = true then 2 ^ m else 0) := rfl
      have e2 : msk p (m + 1) = msk p m + (if p m = true then 2 ^ m else 0) := rfl
      rw [e1, e2, ← ih]
      by_cases c : m = e
      · subst c
        have a1 : (if (if m = m then false else p m) = true then 2 ^ m else 0) = 0 := by rw [if_pos rfl]; rfl
        have a2 : (if m < m ∧ p m = true then 2 ^ m else 0) = 0 := if_neg (fun z => absurd z.1 (Nat.lt_irrefl m))
        have a3 : (if m < m + 1 ∧ p m = true then 2 ^ m else 0) = (if p m = true then 2 ^ m else 0) := by
          by_cases d : p m = true
          · rw [if_pos ⟨Nat.lt_succ_self m, d⟩, if_pos d]
          · rw [if_neg (fun z => d z.2), if_neg d]
        rw [a1, a2, a3]
      · have a1 : (if (if m = e then false else p m) = true then 2 ^ m else 0) = (if p m = true then 2 ^ m else 0) := by rw [if_neg c]
        have a2 : (if e < m + 1 ∧ p e = true then 2 ^ e else 0) = (if e < m ∧ p e = true then 2 ^ e else 0) := by
          by_cases d : e < m ∧ p e = true
          · rw [if_pos d, if_pos ⟨Nat.lt_succ_of_lt d.1, d.2⟩]
          · rw [if_neg d, if_neg (fun z => d ⟨by omega, z.2⟩)]
        rw [a1, a2]
        omega
  have z := aux n
  by_cases d : p e = true
  · rw [if_pos ⟨he, d⟩] at z
    rw [if_pos d, if_pos rfl]
    omega
  · rw [if_neg (fun z => d z.2), Nat.add_zero] at z
    rw [if_neg d, if_neg (by decide)]
    exact z
theorem msk_1 : ∀ n, msk (fun _ => true) n + 1 = 2 ^ n
  | 0 => rfl
  | n + 1 => by
    have ih := msk_1 n
    have e : msk (fun _ => true) (n + 1) = msk (fun _ => true) n + 2 ^ n := rfl
    rw [e, Nat.pow_succ]
    omega
/-! groups -/
def Cq (p : Nat → Bool) (an : Nat → Int32) (v : Int32) : Nat → Nat
  | 0 => 0
  | m + 1 => Cq p an v m + (if p m = true ∧ v = an m then 1 else 0)
theorem Cq_le (p : Nat → Bool) (an : Nat → Int32) (v : Int32) : ∀ m, Cq p an v m ≤ m
  | 0 => Nat.le_refl 0
  | m + 1 => by
    have := Cq_le p an v m
    unfold Cq
    split <;> omega
theorem Cq_mo (p : Nat → Bool) (an : Nat → Int32) (v : Int32) (m : Nat) : ∀ k, Cq p an v m ≤ Cq p an v (m + k)
  | 0 => Nat.le_refl _
  | k + 1 => by
    have := Cq_mo p an v m k
    have e : Cq p an v (m + k + 1) = Cq p an v (m + k) + (if p (m + k) = true ∧ v = an (m + k) then 1 else 0) := rfl
    show Cq p an v m ≤ Cq p an v (m + k + 1)
    omega
theorem Cq_c {p : Nat → Bool} {an an' : Nat → Int32} {v : Int32} : ∀ m, (∀ c, c < m → p c = true → an c = an' c) → Cq p an v m = Cq p an' v m
  | 0, _ => rfl
  | m + 1, h => by
    unfold Cq
    rw [Cq_c m (fun c hc => h c (by omega))]
    by_cases c : p m = true
    · rw [h m (by omega) c]
    · rw [if_neg (fun z => c z.1), if_neg (fun z => c z.1)]
def Gq (p : Nat → Bool) (an : Nat → Int32) : Nat → Nat
  | 0 => 0
  | a + 1 => if p a = true then max (Gq p an a) (1 + Cq p an (an a) a) else Gq p an a
theorem Gq_le (p : Nat → Bool) (an : Nat → Int32) : ∀ m, Gq p an m ≤ m
  | 0 => Nat.le_refl 0
  | m + 1 => by
    have := Gq_le p an m
    have := Cq_le p an (an m) m
    unfold Gq
    split <;> omega
theorem Gq_mo (p : Nat → Bool) (an : Nat → Int32) (m : Nat) : ∀ k, Gq p an m ≤ Gq p an (m + k)
  | 0 => Nat.le_refl _
  | k + 1 => by
    have := Gq_mo p an m k
    have e : Gq p an (m + k + 1) = if p (m + k) = true then max (Gq p an (m + k)) (1 + Cq p an (an (m + k)) (m + k)) else Gq p an (m + k) := rfl
    show Gq p an m ≤ Gq p an (m + k + 1)
    rw [e]
    split <;> omega
def Mq (p : Nat → Bool) (an : Nat → Int32) (n : Nat) : Nat → Nat
  | 0 => 0
  | a + 1 => max (Mq p an n a) (if p a = true then Cq p an (an a) n else 0)
theorem Cq_G (p : Nat → Bool) (an : Nat → Int32) (v : Int32) : ∀ m, Cq p an v m ≤ Gq p an m
  | 0 => Nat.le_refl 0
  | m + 1 => by
    have ih := Cq_G p an v m
    have e1 : Cq p an v (m + 1) = Cq p an v m + (if p m = true ∧ v = an m then 1 else 0) := rfl
    have e2 : Gq p an (m + 1) = if p m = true then max (Gq p an m) (1 + Cq p an (an m) m) else Gq p an m := rfl
    rw [e1, e2]
    by_cases c : p m = true
    · rw [if_pos c]
      by_cases d : v = an m
      · rw [if_pos ⟨c, d⟩, ← d]; omega
      · rw [if_neg (fun z => d z.2)]; omega
    · rw [if_neg c, if_neg (fun z => c z.1)]; omega
theorem Mq_G (p : Nat → Bool) (an : Nat → Int32) (n : Nat) : ∀ a, Mq p an n a ≤ Gq p an n
  | 0 => Nat.zero_le _
  | a + 1 => by
    have ih := Mq_G p an n a
    have := Cq_G p an (an a) n
    unfold Mq
    split <;> omega
theorem G_Mq (p : Nat → Bool) (an : Nat → Int32) (n : Nat) : ∀ a, a ≤ n → Gq p an a ≤ Mq p an n a
  | 0, _ => Nat.le_refl 0
  | a + 1, h => by
    have ih := G_Mq p an n a (by omega)
    have e2 : Gq p an (a + 1) = if p a = true then max (Gq p an a) (1 + Cq p an (an a) a) else Gq p an a := rfl
    have e3 : Mq p an n (a + 1) = max (Mq p an n a) (if p a = true then Cq p an (an a) n else 0) := rfl
    rw [e2, e3]
    by_cases c : p a = true
    · rw [if_pos c, if_pos c]
      have e1 : Cq p an (an a) (a + 1) = Cq p an (an a) a + 1 := by show _ + (if _ then 1 else 0) = _; rw [if_pos ⟨c, rfl⟩]
      have := Cq_mo p an (an a) (a + 1) (n - (a + 1))
      rw [show a + 1 + (n - (a + 1)) = n by omega] at this
      omega
    · rw [if_neg c, if_neg c]; omega
theorem GM (p : Nat → Bool) (an : Nat → Int32) (n : Nat) : Gq p an n = Mq p an n n := Nat.le_antisymm (G_Mq p an n n (Nat.le_refl n)) (Mq_G p an n n)
theorem Gq_1 {p : Nat → Bool} {an : Nat → Int32} {n a : Nat} (ha : a < n) (h : p a = true) : 1 ≤ Gq p an n := by
  have e2 : Gq p an (a + 1) = if p a = true then max (Gq p an a) (1 + Cq p an (an a) a) else Gq p an a := rfl
  rw [if_pos h] at e2
  have := Gq_mo p an (a + 1) (n - (a + 1))
  rw [show a + 1 + (n - (a + 1)) = n by omega] at this
  omega
theorem Gq_c {p : Nat → Bool} {an an' : Nat → Int32} : ∀ m, (∀ c, c < m → p c = true → an c = an' c) → Gq p an m = Gq p an' m
  | 0, _ => rfl
  | m + 1, h => by
    unfold Gq
    rw [Gq_c m (fun c hc => h c (by omega))]
    by_cases c : p m = true
    · rw [if_pos c, if_pos c, h m (by omega) c, Cq_c m (fun c hc => h c (by omega))]
    · rw [if_neg c, if_neg c]
/-! the best look -/
def bq (g cd : Nat → Nat) : Nat → Int32 × Nat
  | 0 => (-1, 99)
  | q + 1 => if g q < (bq g cd q).2 then (nI (cd q), g q) else bq g cd q
theorem bq_st {g cd : Nat → Nat} (h1 : ∀ q, 1 ≤ g q) {q : Nat} (h : (bq g cd q).2 ≤ 1) : ∀ k, bq g cd (q + k) = bq g cd q
  | 0 => rfl
  | k + 1 => by
    have ih := bq_st h1 h k
    have e : bq g cd (q + k + 1) = if g (q + k) < (bq g cd (q + k)).2 then (nI (cd (q + k)), g (q + k)) else bq g cd (q + k) := rfl
    show bq g cd (q + k + 1) = _
    have := h1 (q + k)
    rw [e, ih, if_neg (by omega)]
theorem bq_le {g cd : Nat → Nat} {n : Nat} (h : ∀ q, g q ≤ n) (hn : n ≤ 98) : ∀ q, (bq g cd (q + 1)).2 ≤ n
  | 0 => by
    have := h 0
    have e : bq g cd (0 + 1) = if g 0 < (bq g cd 0).2 then (nI (cd 0), g 0) else bq g cd 0 := rfl
    have e0 : (bq g cd 0).2 = 99 := rfl
    rw [e, e0, if_pos (by omega)]
    exact h 0
  | q + 1 => by
    have ih := bq_le (cd := cd) h hn q
    have e : bq g cd (q + 1 + 1) = if g (q + 1) < (bq g cd (q + 1)).2 then (nI (cd (q + 1)), g (q + 1)) else bq g cd (q + 1) := rfl
    rw [e]
    split
    · exact h (q + 1)
    · exact ih
/-- how few, in the class -/
def fq (g cd : Nat → Nat) (n q : Nat) : Nat := if q = 0 then n + 1 else (bq g cd q).2
theorem fq_s {g cd : Nat → Nat} {n : Nat} (h : ∀ q, g q ≤ n) (hn : n ≤ 98) (q : Nat) : (g q < fq g cd n q ↔ g q < (bq g cd q).2) ∧ fq g cd n (q + 1) = (bq g cd (q + 1)).2 := by
  refine ⟨?_, by unfold fq; rw [if_neg (by omega)]⟩
  unfold fq
  by_cases c : q = 0
  · subst c
    have := h 0
    have e0 : (bq g cd 0).2 = 99 := rfl
    rw [if_pos rfl, e0]
    omega
  · rw [if_neg c]
theorem fq_le {g cd : Nat → Nat} {n : Nat} (h : ∀ q, g q ≤ n) (hn : n ≤ 98) (q : Nat) : fq g cd n q ≤ n + 1 := by
  unfold fq
  by_cases c : q = 0
  · rw [if_pos c]; omega
  · rw [if_neg c]
    have := bq_le (cd := cd) h hn (q - 1)
    rw [show q - 1 + 1 = q by omega] at this
    omega
def wv (w : Nat) : Int32 := nI w - nI 9
theorem wv_t {w : Nat} (hw : w ≤ 19) : (wv w).toInt = (w : Int) - 9 := pk_sub_toInt (by omega) (by decide)
theorem wv_s : ∀ w, w < 19 → wv w + nI 1 = wv (w + 1) := by decide
theorem wv_9 : ∀ w, w < 20 → wv w - (-9) = nI w := by decide
theorem wv_lt {w : Nat} (hw : w < 19) : ¬ nI 9 < wv w := by
  rw [Int32.lt_iff_toInt_lt, wv_t (by omega), nI_toInt (by decide)]; omega
theorem wv_ge : nI 9 < wv 19 := by decide
