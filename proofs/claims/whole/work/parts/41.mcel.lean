/-! ===== the reference: its cells ===== -/
def ms (a : Nat) : Nat := if a = 1 then 292 else if a = 2 then 56 else if a = 3 then 584 else if a = 4 then 2 else if a = 5 then 150 else if a = 6 then 3 else if a = 7 then 3 else if a = 8 then 5 else if a = 9 then 292 else if a = 10 then 6 else if a = 11 then 10 else if a = 12 then 6 else 6
def mcl (a : Nat) (f : Nat → Int32) : icC := if a = 4 then az 2 f else ai (ms a) f
def HM (h : icH) (m : Nat) (ab be : Int64) (i : Nat → Int32) (A : Nat → Nat → Int32) : icH := (h.1, h.2.1, fun a => if a = m then some (ob 8 [.ref (m + 1), .ref (m + 2), .ref (m + 3), .ref (m + 4), .ref (m + 5), .int (i 0), .long ab, .long be, .ref (m + 6), .ref (m + 7), .int (i 1), .int (i 2), .int (i 3), .int (i 4), .ref (m + 8), .ref (m + 9), .int (i 5), .ref (m + 10), .ref (m + 11), .ref (m + 12), .ref (m + 13)]) else if m < a ∧ a ≤ m + 13 then some (mcl (a - m) (A (a - m))) else h.2.2 a)
theorem HM_o (h : icH) (m : Nat) (ab be : Int64) (i : Nat → Int32) (A : Nat → Nat → Int32) : hg (HM h m ab be i A) m = some (ob 8 [.ref (m + 1), .ref (m + 2), .ref (m + 3), .ref (m + 4), .ref (m + 5), .int (i 0), .long ab, .long be, .ref (m + 6), .ref (m + 7), .int (i 1), .int (i 2), .int (i 3), .int (i 4), .ref (m + 8), .ref (m + 9), .int (i 5), .ref (m + 10), .ref (m + 11), .ref (m + 12), .ref (m + 13)]) := by
  unfold hg HM
  exact if_pos rfl
theorem HM_c {j : Nat} (h0 : 0 < j) (h1 : j ≤ 13) (h : icH) (m : Nat) (ab be : Int64) (i : Nat → Int32) (A : Nat → Nat → Int32) : hg (HM h m ab be i A) (m + j) = some (mcl j (A j)) := by
  unfold hg HM
  dsimp only
  rw [if_neg (by omega), if_pos (by omega), Nat.add_sub_cancel_left]
theorem HM_n {a : Nat} (h : icH) (m : Nat) (ab be : Int64) (i : Nat → Int32) (A : Nat → Nat → Int32) (ha : a < m ∨ m + 13 < a) : hg (HM h m ab be i A) a = hg h a := by
  unfold hg HM
  dsimp only
  rw [if_neg (by omega), if_neg (by omega)]
theorem HM_w {j : Nat} (h0 : 0 < j) (h1 : j ≤ 13) (h : icH) (m : Nat) (ab be : Int64) (i : Nat → Int32) (A : Nat → Nat → Int32) (f : Nat → Int32) : hput (HM h m ab be i A) (m + j) (mcl j f) = HM h m ab be i (ud A j f) := by
  unfold hput HM
  dsimp only
  congr 2
  funext b
  by_cases hb : b = m + j
  · rw [if_pos hb, if_neg (by omega), if_pos (by omega), hb, Nat.add_sub_cancel_left, ud_s]
  · rw [if_neg hb]
    by_cases h2 : b = m
    · rw [if_pos h2, if_pos h2]
    · rw [if_neg h2, if_neg h2]
      by_cases h3 : m < b ∧ b ≤ m + 13
      · rw [if_pos h3, if_pos h3, ud_n (by omega)]
      · rw [if_neg h3, if_neg h3]
theorem HMr : (∀ (h : icH) (m : Nat) (ab be : Int64) (i : Nat → Int32) (A : Nat → Nat → Int32), hg (HM h m ab be i A) (m + 1) = some (ai 292 (A 1))) ∧ (∀ (h : icH) (m : Nat) (ab be : Int64) (i : Nat → Int32) (A : Nat → Nat → Int32), hg (HM h m ab be i A) (m + 2) = some (ai 56 (A 2))) ∧ (∀ (h : icH) (m : Nat) (ab be : Int64) (i : Nat → Int32) (A : Nat → Nat → Int32), hg (HM h m ab be i A) (m + 3) = some (ai 584 (A 3))) ∧ (∀ (h : icH) (m : Nat) (ab be : Int64) (i : Nat → Int32) (A : Nat → Nat → Int32), hg (HM h m ab be i A) (m + 4) = some (az 2 (A 4))) ∧ (∀ (h : icH) (m : Nat) (ab be : Int64) (i : Nat → Int32) (A : Nat → Nat → Int32), hg (HM h m ab be i A) (m + 5) = some (ai 150 (A 5))) ∧ (∀ (h : icH) (m : Nat) (ab be : Int64) (i : Nat → Int32) (A : Nat → Nat → Int32), hg (HM h m ab be i A) (m + 6) = some (ai 3 (A 6))) ∧ (∀ (h : icH) (m : Nat) (ab be : Int64) (i : Nat → Int32) (A : Nat → Nat → Int32), hg (HM h m ab be i A) (m + 7) = some (ai 3 (A 7))) ∧ (∀ (h : icH) (m : Nat) (ab be : Int64) (i : Nat → Int32) (A : Nat → Nat → Int32), hg (HM h m ab be i A) (m + 8) = some (ai 5 (A 8))) ∧ (∀ (h : icH) (m : Nat) (ab be : Int64) (i : Nat → Int32) (A : Nat → Nat → Int32), hg (HM h m ab be i A) (m + 9) = some (ai 292 (A 9))) ∧ (∀ (h : icH) (m : Nat) (ab be : Int64) (i : Nat → Int32) (A : Nat → Nat → Int32), hg (HM h m ab be i A) (m + 10) = some (ai 6 (A 10))) ∧ (∀ (h : icH) (m : Nat) (ab be : Int64) (i : Nat → Int32) (A : Nat → Nat → Int32), hg (HM h m ab be i A) (m + 11) = some (ai 10 (A 11))) ∧ (∀ (h : icH) (m : Nat) (ab be : Int64) (i : Nat → Int32) (A : Nat → Nat → Int32), hg (HM h m ab be i A) (m + 12) = some (ai 6 (A 12))) ∧ (∀ (h : icH) (m : Nat) (ab be : Int64) (i : Nat → Int32) (A : Nat → Nat → Int32), hg (HM h m ab be i A) (m + 13) = some (ai 6 (A 13))) := ⟨HM_c (by decide) (by decide), HM_c (by decide) (by decide), HM_c (by decide) (by decide), HM_c (by decide) (by decide), HM_c (by decide) (by decide), HM_c (by decide) (by decide), HM_c (by decide) (by decide), HM_c (by decide) (by decide), HM_c (by decide) (by decide), HM_c (by decide) (by decide), HM_c (by decide) (by decide), HM_c (by decide) (by decide), HM_c (by decide) (by decide)⟩
theorem HMw : (∀ (h : icH) (m : Nat) (ab be : Int64) (i : Nat → Int32) (A : Nat → Nat → Int32) (f : Nat → Int32), hput (HM h m ab be i A) (m + 1) (ai 292 f) = HM h m ab be i (ud A 1 f)) ∧ (∀ (h : icH) (m : Nat) (ab be : Int64) (i : Nat → Int32) (A : Nat → Nat → Int32) (f : Nat → Int32), hput (HM h m ab be i A) (m + 2) (ai 56 f) = HM h m ab be i (ud A 2 f)) ∧ (∀ (h : icH) (m : Nat) (ab be : Int64) (i : Nat → Int32) (A : Nat → Nat → Int32) (f : Nat → Int32), hput (HM h m ab be i A) (m + 3) (ai 584 f) = HM h m ab be i (ud A 3 f)) ∧ (∀ (h : icH) (m : Nat) (ab be : Int64) (i : Nat → Int32) (A : Nat → Nat → Int32) (f : Nat → Int32), hput (HM h m ab be i A) (m + 4) (az 2 f) = HM h m ab be i (ud A 4 f)) ∧ (∀ (h : icH) (m : Nat) (ab be : Int64) (i : Nat → Int32) (A : Nat → Nat → Int32) (f : Nat → Int32), hput (HM h m ab be i A) (m + 5) (ai 150 f) = HM h m ab be i (ud A 5 f)) ∧ (∀ (h : icH) (m : Nat) (ab be : Int64) (i : Nat → Int32) (A : Nat → Nat → Int32) (f : Nat → Int32), hput (HM h m ab be i A) (m + 6) (ai 3 f) = HM h m ab be i (ud A 6 f)) ∧ (∀ (h : icH) (m : Nat) (ab be : Int64) (i : Nat → Int32) (A : Nat → Nat → Int32) (f : Nat → Int32), hput (HM h m ab be i A) (m + 7) (ai 3 f) = HM h m ab be i (ud A 7 f)) ∧ (∀ (h : icH) (m : Nat) (ab be : Int64) (i : Nat → Int32) (A : Nat → Nat → Int32) (f : Nat → Int32), hput (HM h m ab be i A) (m + 8) (ai 5 f) = HM h m ab be i (ud A 8 f)) ∧ (∀ (h : icH) (m : Nat) (ab be : Int64) (i : Nat → Int32) (A : Nat → Nat → Int32) (f : Nat → Int32), hput (HM h m ab be i A) (m + 9) (ai 292 f) = HM h m ab be i (ud A 9 f)) ∧ (∀ (h : icH) (m : Nat) (ab be : Int64) (i : Nat → Int32) (A : Nat → Nat → Int32) (f : Nat → Int32), hput (HM h m ab be i A) (m + 10) (ai 6 f) = HM h m ab be i (ud A 10 f)) ∧ (∀ (h : icH) (m : Nat) (ab be : Int64) (i : Nat → Int32) (A : Nat → Nat → Int32) (f : Nat → Int32), hput (HM h m ab be i A) (m + 11) (ai 10 f) = HM h m ab be i (ud A 11 f)) ∧ (∀ (h : icH) (m : Nat) (ab be : Int64) (i : Nat → Int32) (A : Nat → Nat → Int32) (f : Nat → Int32), hput (HM h m ab be i A) (m + 12) (ai 6 f) = HM h m ab be i (ud A 12 f)) ∧ (∀ (h : icH) (m : Nat) (ab be : Int64) (i : Nat → Int32) (A : Nat → Nat → Int32) (f : Nat → Int32), hput (HM h m ab be i A) (m + 13) (ai 6 f) = HM h m ab be i (ud A 13 f)) := ⟨HM_w (by decide) (by decide), HM_w (by decide) (by decide), HM_w (by decide) (by decide), HM_w (by decide) (by decide), HM_w (by decide) (by decide), HM_w (by decide) (by decide), HM_w (by decide) (by decide), HM_w (by decide) (by decide), HM_w (by decide) (by decide), HM_w (by decide) (by decide), HM_w (by decide) (by decide), HM_w (by decide) (by decide), HM_w (by decide) (by decide)⟩
def i6 (x0 x1 x2 x3 x4 x5 : Int32) : Nat → Int32 := fun a => if a = 0 then x0 else if a = 1 then x1 else if a = 2 then x2 else if a = 3 then x3 else if a = 4 then x4 else x5
theorem HM_wo (h : icH) (m : Nat) (ab be : Int64) (i : Nat → Int32) (A : Nat → Nat → Int32) (ab' be' : Int64) (x0 x1 x2 x3 x4 x5 : Int32) : hput (HM h m ab be i A) m (ob 8 [.ref (m + 1), .ref (m + 2), .ref (m + 3), .ref (m + 4), .ref (m + 5), .int (x0), .long ab', .long be', .ref (m + 6), .ref (m + 7), .int (x1), .int (x2), .int (x3), .int (x4), .ref (m + 8), .ref (m + 9), .int (x5), .ref (m + 10), .ref (m + 11), .ref (m + 12), .ref (m + 13)]) = HM h m ab' be' (i6 x0 x1 x2 x3 x4 x5) A := by
  unfold hput HM
  dsimp only
  congr 2
  funext b
  by_cases h1 : b = m
  · rw [if_pos h1, if_pos h1]; rfl
  · rw [if_neg h1, if_neg h1, if_neg h1]
theorem i6_0 (x0 x1 x2 x3 x4 x5 : Int32) : i6 x0 x1 x2 x3 x4 x5 0 = x0 := rfl
theorem i6_1 (x0 x1 x2 x3 x4 x5 : Int32) : i6 x0 x1 x2 x3 x4 x5 1 = x1 := rfl
theorem i6_2 (x0 x1 x2 x3 x4 x5 : Int32) : i6 x0 x1 x2 x3 x4 x5 2 = x2 := rfl
theorem i6_3 (x0 x1 x2 x3 x4 x5 : Int32) : i6 x0 x1 x2 x3 x4 x5 3 = x3 := rfl
theorem i6_4 (x0 x1 x2 x3 x4 x5 : Int32) : i6 x0 x1 x2 x3 x4 x5 4 = x4 := rfl
theorem i6_5 (x0 x1 x2 x3 x4 x5 : Int32) : i6 x0 x1 x2 x3 x4 x5 5 = x5 := rfl
theorem HM_h (h : icH) (m : Nat) (ab be : Int64) (i : Nat → Int32) (A : Nat → Nat → Int32) (ab' be' : Int64) (i' : Nat → Int32) (A' : Nat → Nat → Int32) : HM (HM h m ab be i A) m ab' be' i' A' = HM h m ab' be' i' A' := by
  unfold HM
  dsimp only
  congr 2
  funext b
  by_cases h1 : b = m
  · rw [if_pos h1, if_pos h1]
  · by_cases h2 : m < b ∧ b ≤ m + 13
    · rw [if_neg h1, if_pos h2, if_neg h1, if_pos h2]
    · rw [if_neg h1, if_neg h2, if_neg h1, if_neg h2, if_neg h1, if_neg h2]
def bi (p : Prop) [Decidable p] : Int32 := if p then nI 1 else nI 0
theorem bi_0 (p : Prop) [Decidable p] : (bi p = 0) ↔ ¬ p := by
  unfold bi; by_cases hp : p
  · simp only [hp, if_true, not_true]; exact ⟨fun z => absurd z (by decide), fun z => z.elim⟩
  · simp only [hp, if_false, not_false_iff, iff_true]; rfl
theorem bi_t {p : Prop} [Decidable p] (hp : p) : bi p = nI 1 := if_pos hp
theorem bi_f {p : Prop} [Decidable p] (hp : ¬ p) : bi p = nI 0 := if_neg hp
theorem u_irb (p : Prop) [Decidable p] (k : Nat) (L : List Value) (h : icH) : exe icE k (e_iret 1 L [.int (bi p)] h) = some (some (.int (bi p)), h) := by
  by_cases hp : p
  · rw [bi_t hp]; rfl
  · rw [bi_f hp]; rfl
theorem c_in (v lo hi : Int64) (h : icH) : icE 136 0 [.long v, dum, .long lo, dum, .long hi, dum] [] h = some (some (.int (bi (lo ≤ v ∧ v ≤ hi))), h) := by
  simp only [SA, rw_136, lg_cmp_lt, lg_cmp_gt]
  by_cases h1 : v < lo
  · rw [if_pos h1, bi_f (fun z => by have := z.1; rw [Int64.le_iff_toInt_le] at this; rw [Int64.lt_iff_toInt_lt] at h1; omega)]
  · rw [if_neg h1]
    by_cases h2 : hi < v
    · rw [if_pos h2, bi_f (fun z => by have := z.2; rw [Int64.le_iff_toInt_le] at this; rw [Int64.lt_iff_toInt_lt] at h2; omega)]
    · rw [if_neg h2, bi_t ⟨by rw [Int64.le_iff_toInt_le]; rw [Int64.lt_iff_toInt_lt] at h1; omega, by rw [Int64.le_iff_toInt_le]; rw [Int64.lt_iff_toInt_lt] at h2; omega⟩]
theorem i64_le (x y : Int32) : (x.toInt64 ≤ y.toInt64) ↔ x ≤ y := by
  rw [Int64.le_iff_toInt_le, Int32.toInt_toInt64, Int32.toInt_toInt64, Int32.le_iff_toInt_le]
theorem lN_t {k : Nat} (hk : k < 2 ^ 31) : lN k = (nI k).toInt64 := (nI_l hk).symm
theorem c_less (a b : Int32) (h : icH) : icE 137 0 [.int a, .int b] [] h = some (some (.int (if b ≤ a then b else a)), h) := by
  simp only [SA, rw_137]
  split <;> rfl
