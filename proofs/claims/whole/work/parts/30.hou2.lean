/-! ===== House: cells of its eaves, take, remember, goBack ===== -/
theorem HHo1 (h : icH) (u H R N : Nat) (D : Nat → Nat → Int32) (F : Nat → Nat) (f : Nat → Nat → Int32) : hg (HH h u H R N D F f) (u + 1) = some (ob 0 [.int (nI H), .ref (u + 1 + 1), .int (nI R), .ref (u + 1 + 2), .ref (u + 1 + 3), .ref (u + 1 + 4), .ref (u + 1 + 5), .int (nI N), .ref (u + 1 + 6), .ref (u + 1 + 7), .ref (u + 1 + 8), .ref (u + 1 + 9), .ref (u + 1 + 10), .ref (u + 1 + 11)]) := by
  have c := HE_o (HH h u H R N D F f) (u + 1) H R N D
  rwa [HH_e] at c
theorem HHo2 {j : Nat} (hj : j < 4) (h : icH) (u H R N : Nat) (D : Nat → Nat → Int32) (F : Nat → Nat) (f : Nat → Nat → Int32) : hg (HH h u H R N D F f) (u + 13 + 2 * j) = some (ob 5 [.int (nI (wj j)), .ref (u + 13 + 2 * j + 1), .int (nI (F j))]) := by
  have c := HR_o (HH h u H R N D F f) (u + 13 + 2 * j) (wj j) (nj j) (F j) (f j)
  rwa [HH_r hj] at c
theorem HHo : (∀ (h : icH) (u H R N : Nat) (D : Nat → Nat → Int32) (F : Nat → Nat) (f : Nat → Nat → Int32), hg (HH h u H R N D F f) (u + 13 + 2 * 0) = some (ob 5 [.int (nI (wj 0)), .ref (u + 13 + 2 * 0 + 1), .int (nI (F 0))])) ∧ (∀ (h : icH) (u H R N : Nat) (D : Nat → Nat → Int32) (F : Nat → Nat) (f : Nat → Nat → Int32), hg (HH h u H R N D F f) (u + 13 + 2 * 1) = some (ob 5 [.int (nI (wj 1)), .ref (u + 13 + 2 * 1 + 1), .int (nI (F 1))])) ∧ (∀ (h : icH) (u H R N : Nat) (D : Nat → Nat → Int32) (F : Nat → Nat) (f : Nat → Nat → Int32), hg (HH h u H R N D F f) (u + 13 + 2 * 2) = some (ob 5 [.int (nI (wj 2)), .ref (u + 13 + 2 * 2 + 1), .int (nI (F 2))])) ∧ (∀ (h : icH) (u H R N : Nat) (D : Nat → Nat → Int32) (F : Nat → Nat) (f : Nat → Nat → Int32), hg (HH h u H R N D F f) (u + 13 + 2 * 3) = some (ob 5 [.int (nI (wj 3)), .ref (u + 13 + 2 * 3 + 1), .int (nI (F 3))])) := ⟨HHo2 (by decide), HHo2 (by decide), HHo2 (by decide), HHo2 (by decide)⟩
theorem HH_c {j : Nat} (h0 : 0 < j) (h1 : j ≤ 11) (h : icH) (u H R N : Nat) (D : Nat → Nat → Int32) (F : Nat → Nat) (f : Nat → Nat → Int32) : hg (HH h u H R N D F f) (u + 1 + j) = some (ai (eS j) (D j)) := by
  have c := HE_c (h := HH h u H R N D F f) (e := u + 1) (H := H) (R := R) (N := N) (D := D) h0 h1
  rwa [HH_e] at c
theorem HHc : (∀ (h : icH) (u H R N : Nat) (D : Nat → Nat → Int32) (F : Nat → Nat) (f : Nat → Nat → Int32), hg (HH h u H R N D F f) (u + 1 + 1) = some (ai 8 (D 1))) ∧ (∀ (h : icH) (u H R N : Nat) (D : Nat → Nat → Int32) (F : Nat → Nat) (f : Nat → Nat → Int32), hg (HH h u H R N D F f) (u + 1 + 2) = some (ai 3 (D 2))) ∧ (∀ (h : icH) (u H R N : Nat) (D : Nat → Nat → Int32) (F : Nat → Nat) (f : Nat → Nat → Int32), hg (HH h u H R N D F f) (u + 1 + 3) = some (ai 3 (D 3))) ∧ (∀ (h : icH) (u H R N : Nat) (D : Nat → Nat → Int32) (F : Nat → Nat) (f : Nat → Nat → Int32), hg (HH h u H R N D F f) (u + 1 + 4) = some (ai 3 (D 4))) ∧ (∀ (h : icH) (u H R N : Nat) (D : Nat → Nat → Int32) (F : Nat → Nat) (f : Nat → Nat → Int32), hg (HH h u H R N D F f) (u + 1 + 5) = some (ai 3 (D 5))) ∧ (∀ (h : icH) (u H R N : Nat) (D : Nat → Nat → Int32) (F : Nat → Nat) (f : Nat → Nat → Int32), hg (HH h u H R N D F f) (u + 1 + 6) = some (ai 6 (D 6))) ∧ (∀ (h : icH) (u H R N : Nat) (D : Nat → Nat → Int32) (F : Nat → Nat) (f : Nat → Nat → Int32), hg (HH h u H R N D F f) (u + 1 + 7) = some (ai 6 (D 7))) ∧ (∀ (h : icH) (u H R N : Nat) (D : Nat → Nat → Int32) (F : Nat → Nat) (f : Nat → Nat → Int32), hg (HH h u H R N D F f) (u + 1 + 8) = some (ai 6 (D 8))) ∧ (∀ (h : icH) (u H R N : Nat) (D : Nat → Nat → Int32) (F : Nat → Nat) (f : Nat → Nat → Int32), hg (HH h u H R N D F f) (u + 1 + 9) = some (ai 6 (D 9))) ∧ (∀ (h : icH) (u H R N : Nat) (D : Nat → Nat → Int32) (F : Nat → Nat) (f : Nat → Nat → Int32), hg (HH h u H R N D F f) (u + 1 + 10) = some (ai 6 (D 10))) ∧ (∀ (h : icH) (u H R N : Nat) (D : Nat → Nat → Int32) (F : Nat → Nat) (f : Nat → Nat → Int32), hg (HH h u H R N D F f) (u + 1 + 11) = some (ai 6 (D 11))) := ⟨HH_c (by decide) (by decide), HH_c (by decide) (by decide), HH_c (by decide) (by decide), HH_c (by decide) (by decide), HH_c (by decide) (by decide), HH_c (by decide) (by decide), HH_c (by decide) (by decide), HH_c (by decide) (by decide), HH_c (by decide) (by decide), HH_c (by decide) (by decide), HH_c (by decide) (by decide)⟩
theorem HH_w {j n : Nat} (h0 : 0 < j ∧ j ≤ 11) (hn : eS j = n) (h : icH) (u H R N : Nat) (D : Nat → Nat → Int32) (F : Nat → Nat) (f : Nat → Nat → Int32) (g : Nat → Int32) : hput (HH h u H R N D F f) (u + 1 + j) (ai n g) = HH h u H R N (ud D j g) F f := by
  have c := HE_wc (h := HH h u H R N D F f) (e := u + 1) (H := H) (R := R) (N := N) (D := D) (f := g) h0 hn
  rwa [HH_e, HH_E] at c
theorem HHw : (∀ (h : icH) (u H R N : Nat) (D : Nat → Nat → Int32) (F : Nat → Nat) (f : Nat → Nat → Int32) (g : Nat → Int32), hput (HH h u H R N D F f) (u + 1 + 1) (ai 8 g) = HH h u H R N (ud D 1 g) F f) ∧ (∀ (h : icH) (u H R N : Nat) (D : Nat → Nat → Int32) (F : Nat → Nat) (f : Nat → Nat → Int32) (g : Nat → Int32), hput (HH h u H R N D F f) (u + 1 + 2) (ai 3 g) = HH h u H R N (ud D 2 g) F f) ∧ (∀ (h : icH) (u H R N : Nat) (D : Nat → Nat → Int32) (F : Nat → Nat) (f : Nat → Nat → Int32) (g : Nat → Int32), hput (HH h u H R N D F f) (u + 1 + 3) (ai 3 g) = HH h u H R N (ud D 3 g) F f) ∧ (∀ (h : icH) (u H R N : Nat) (D : Nat → Nat → Int32) (F : Nat → Nat) (f : Nat → Nat → Int32) (g : Nat → Int32), hput (HH h u H R N D F f) (u + 1 + 4) (ai 3 g) = HH h u H R N (ud D 4 g) F f) ∧ (∀ (h : icH) (u H R N : Nat) (D : Nat → Nat → Int32) (F : Nat → Nat) (f : Nat → Nat → Int32) (g : Nat → Int32), hput (HH h u H R N D F f) (u + 1 + 5) (ai 3 g) = HH h u H R N (ud D 5 g) F f) ∧ (∀ (h : icH) (u H R N : Nat) (D : Nat → Nat → Int32) (F : Nat → Nat) (f : Nat → Nat → Int32) (g : Nat → Int32), hput (HH h u H R N D F f) (u + 1 + 6) (ai 6 g) = HH h u H R N (ud D 6 g) F f) ∧ (∀ (h : icH) (u H R N : Nat) (D : Nat → Nat → Int32) (F : Nat → Nat) (f : Nat → Nat → Int32) (g : Nat → Int32), hput (HH h u H R N D F f) (u + 1 + 7) (ai 6 g) = HH h u H R N (ud D 7 g) F f) ∧ (∀ (h : icH) (u H R N : Nat) (D : Nat → Nat → Int32) (F : Nat → Nat) (f : Nat → Nat → Int32) (g : Nat → Int32), hput (HH h u H R N D F f) (u + 1 + 8) (ai 6 g) = HH h u H R N (ud D 8 g) F f) ∧ (∀ (h : icH) (u H R N : Nat) (D : Nat → Nat → Int32) (F : Nat → Nat) (f : Nat → Nat → Int32) (g : Nat → Int32), hput (HH h u H R N D F f) (u + 1 + 9) (ai 6 g) = HH h u H R N (ud D 9 g) F f) ∧ (∀ (h : icH) (u H R N : Nat) (D : Nat → Nat → Int32) (F : Nat → Nat) (f : Nat → Nat → Int32) (g : Nat → Int32), hput (HH h u H R N D F f) (u + 1 + 10) (ai 6 g) = HH h u H R N (ud D 10 g) F f) ∧ (∀ (h : icH) (u H R N : Nat) (D : Nat → Nat → Int32) (F : Nat → Nat) (f : Nat → Nat → Int32) (g : Nat → Int32), hput (HH h u H R N D F f) (u + 1 + 11) (ai 6 g) = HH h u H R N (ud D 11 g) F f) := ⟨HH_w (by decide) (by decide), HH_w (by decide) (by decide), HH_w (by decide) (by decide), HH_w (by decide) (by decide), HH_w (by decide) (by decide), HH_w (by decide) (by decide), HH_w (by decide) (by decide), HH_w (by decide) (by decide), HH_w (by decide) (by decide), HH_w (by decide) (by decide), HH_w (by decide) (by decide)⟩
theorem HHwo (h : icH) (u H R N : Nat) (D : Nat → Nat → Int32) (F : Nat → Nat) (f : Nat → Nat → Int32) (H' R' N' : Nat) : hput (HH h u H R N D F f) (u + 1) (ob 0 [.int (nI H'), .ref (u + 1 + 1), .int (nI R'), .ref (u + 1 + 2), .ref (u + 1 + 3), .ref (u + 1 + 4), .ref (u + 1 + 5), .int (nI N'), .ref (u + 1 + 6), .ref (u + 1 + 7), .ref (u + 1 + 8), .ref (u + 1 + 9), .ref (u + 1 + 10), .ref (u + 1 + 11)]) = HH h u H' R' N' D F f := by
  have c := HE_wo (HH h u H R N D F f) (u + 1) H R N H' R' N' D
  rwa [HH_e, HH_E] at c
def pr (H : Nat) (D : Nat → Nat → Int32) (c : Nat) : Int32 := if c = 0 then nI H else if c < 7 then (if c % 2 = 1 then D 3 ((c - 1) / 2) else D 4 ((c - 1) / 2)) else (if c % 2 = 1 then D 9 ((c - 7) / 2) else D 11 ((c - 7) / 2))
def pw (f : Nat → Int32) (b : Nat) (g : Nat → Int32) (i : Nat) : Nat → Int32 := fun c => if b ≤ c ∧ c < b + i then g (c - b) else f c
theorem pw_0 (f : Nat → Int32) (b : Nat) (g : Nat → Int32) : pw f b g 0 = f := by
  funext c; unfold pw; rw [if_neg (by omega)]
theorem pw_s (f : Nat → Int32) (b : Nat) (g : Nat → Int32) (i : Nat) : upd (pw f b g i) (b + i) (g i) = pw f b g (i + 1) := by
  funext c; unfold upd pw
  by_cases h1 : c = b + i
  · rw [if_pos h1, if_pos (by omega), h1, Nat.add_sub_cancel_left]
  · rw [if_neg h1]
    by_cases h2 : b ≤ c ∧ c < b + i
    · rw [if_pos h2, if_pos (by omega)]
    · rw [if_neg h2, if_neg (by omega)]
theorem pr_0 (H : Nat) (D : Nat → Nat → Int32) : pr H D 0 = nI H := rfl
theorem pr_1 (H : Nat) (D : Nat → Nat → Int32) {i : Nat} (hi : i < 3) : pr H D (1 + 2 * i) = D 3 i := by
  unfold pr; rw [if_neg (by omega), if_pos (by omega), if_pos (by omega)]; congr 1; omega
theorem pr_2 (H : Nat) (D : Nat → Nat → Int32) {i : Nat} (hi : i < 3) : pr H D (1 + 2 * i + 1) = D 4 i := by
  unfold pr; rw [if_neg (by omega), if_pos (by omega), if_neg (by omega)]; congr 1; omega
theorem pr_3 (H : Nat) (D : Nat → Nat → Int32) (i : Nat) : pr H D (7 + 2 * i) = D 9 i := by
  unfold pr; rw [if_neg (by omega), if_neg (by omega), if_pos (by omega)]; congr 1; omega
theorem pr_4 (H : Nat) (D : Nat → Nat → Int32) (i : Nat) : pr H D (7 + 2 * i + 1) = D 11 i := by
  unfold pr; rw [if_neg (by omega), if_neg (by omega), if_neg (by omega)]; congr 1; omega
theorem ch_w3 {b : Nat} (hb : b < 152) (v : Int32) (h : icH) (u H R N : Nat) (D : Nat → Nat → Int32) (F : Nat → Nat) (f : Nat → Nat → Int32) (g : Nat → Int32) : icE 47 0 [.ref (u + 13 + 2 * 3), .int v] [] (HH h u H R N D (un F 3 b) (ud f 3 g)) = some (none, HH h u H R N D (un F 3 (b + 1)) (ud f 3 (upd g b v))) := by
  have c := ch_write (show 3 < 4 by decide) (F := un F 3 b) (by rw [un_s]; exact hb) v h u H R N D (ud f 3 g)
  rwa [un_s, un_u, ud_s, ud_u] at c
theorem l_rem1 {b : Nat} (hb : b + 19 ≤ 152) (h : icH) (u H R N : Nat) (D : Nat → Nat → Int32) (F : Nat → Nat) (f : Nat → Nat → Int32) (g : Nat → Int32) : ∀ (m i : Nat), i + m = 3 → icE 32 33 [.ref u, .int (nI i)] [] (HH h u H R N D (un F 3 (b + (1 + 2 * i))) (ud f 3 (pw g b (pr H D) (1 + 2 * i)))) = icE 32 78 [.ref u, .int (nI 0)] [] (HH h u H R N D (un F 3 (b + (7 + 2 * 0))) (ud f 3 (pw g b (pr H D) (7 + 2 * 0))))
  | 0, i, him => by
    have : i = 3 := by omega
    subst this
    rw [rh_32_33]
    simp only [SA, rw_32, if_pos (nI_le (Nat.le_refl 3) (show 3 < 2 ^ 31 by omega))]
  | m + 1, i, him => by
    have ih := l_rem1 hb h u H R N D F f g m (i + 1) (by omega)
    have b3 : 3 < 2 ^ 31 := by omega
    have hi : i < 3 := by omega
    rw [rh_32_33]
    simp only [SA, rw_32, HH_o, HHo, HHo1, HHc, if_neg (nI_ge hi b3), ia_n hi b3, ch_w3 (show b + (1 + 2 * i) < 152 by omega), ch_w3 (show b + (1 + 2 * i) + 1 < 152 by omega), nI_add]
    rw [← pr_1 H D hi, pw_s, Nat.add_assoc b (1 + 2 * i) 1, ← pr_2 H D hi, pw_s]
    exact ih
theorem l_rem2 {b : Nat} (hb : b + 19 ≤ 152) (h : icH) (u H R N : Nat) (D : Nat → Nat → Int32) (F : Nat → Nat) (f : Nat → Nat → Int32) (g : Nat → Int32) : ∀ (m i : Nat), i + m = 6 → icE 32 78 [.ref u, .int (nI i)] [] (HH h u H R N D (un F 3 (b + (7 + 2 * i))) (ud f 3 (pw g b (pr H D) (7 + 2 * i)))) = some (none, HH h u H R N D (un F 3 (b + 19)) (ud f 3 (pw g b (pr H D) 19)))
  | 0, i, him => by
    have : i = 6 := by omega
    subst this
    rw [rh_32_78]
    simp only [SA, rw_32, if_pos (nI_le (Nat.le_refl 6) (show 6 < 2 ^ 31 by omega))]
  | m + 1, i, him => by
    have ih := l_rem2 hb h u H R N D F f g m (i + 1) (by omega)
    have b6 : 6 < 2 ^ 31 := by omega
    have hi : i < 6 := by omega
    rw [rh_32_78]
    simp only [SA, rw_32, HH_o, HHo, HHo1, HHc, if_neg (nI_ge hi b6), ia_n hi b6, ch_w3 (show b + (7 + 2 * i) < 152 by omega), ch_w3 (show b + (7 + 2 * i) + 1 < 152 by omega), nI_add]
    rw [← pr_3 H D i, pw_s, Nat.add_assoc b (7 + 2 * i) 1, ← pr_4 H D i, pw_s]
    exact ih
theorem l_rem0 {b : Nat} (hb : b + 19 ≤ 152) (h : icH) (u H R N : Nat) (D : Nat → Nat → Int32) (F : Nat → Nat) (f : Nat → Nat → Int32) (g : Nat → Int32) : icE 32 17 [.ref u, dum] [] (HH h u H R N D (un F 3 b) (ud f 3 g)) = some (none, HH h u H R N D (un F 3 (b + 19)) (ud f 3 (pw g b (pr H D) 19))) := by
  simp only [SA, rw_32, HH_o, HHo, HHo1, ch_w3 (show b < 152 by omega)]
  have e1 := pw_s g b (pr H D) 0
  rw [pw_0, pr_0, Nat.add_zero] at e1
  rw [e1]
  exact (l_rem1 hb h u H R N D F f g 3 0 (by omega)).trans (l_rem2 hb h u H R N D F f g 6 0 (by omega))
theorem c_remember {k : Nat} {F : Nat → Nat} (hk : k < 8) (hF : F 3 = 19 * k) (h : icH) (u H R N : Nat) (D : Nat → Nat → Int32) (f : Nat → Nat → Int32) : icE 32 0 [.ref u, dum] [] (HH h u H R N D F f) = some (none, HH h u H R N D (un F 3 (19 * k + 19)) (ud f 3 (pw (f 3) (19 * k) (pr H D) 19))) := by
  have n3 : nj 3 = 152 := rfl
  simp only [SA, rw_32, HH_o, HHo, ch_full (show 3 < 4 by decide) (show F 3 ≤ nj 3 by omega), if_pos (show F 3 < nj 3 by omega), nI_0, if_true]
  have z := l_rem0 (b := 19 * k) (by omega) h u H R N D F f (f 3)
  rw [← hF, un_id, ud_id, hF] at z
  simp only [SA, rw_32, HH_o, HHo] at z
  exact z
theorem c_rememberF {F : Nat → Nat} (hF : F 3 = 152) (h : icH) (u H R N : Nat) (D : Nat → Nat → Int32) (f : Nat → Nat → Int32) : icE 32 0 [.ref u, dum] [] (HH h u H R N D F f) = some (none, HH h u H R N D (un F 3 152) (ud f 3 (pw (va_cpy (f 3) (f 3) 19 0 133) 133 (pr H D) 19))) := by
  have n3 : nj 3 = 152 := rfl
  have w3 : wj 3 = 19 := rfl
  have c := ch_drop1 (show 3 < 4 by decide) (F := F) (by omega) (by omega) h u H R N D f
  rw [hF, w3, show 152 - 19 = 133 from rfl] at c
  simp only [SA, rw_32, HH_o, HHo, ch_full (show 3 < 4 by decide) (show F 3 ≤ nj 3 by omega), if_neg (show ¬ F 3 < nj 3 by omega), if_neg (show ¬ nI 1 = 0 by decide), c]
  have z := l_rem0 (b := 133) (by omega) h u H R N D F f (va_cpy (f 3) (f 3) 19 0 133)
  simp only [SA, rw_32, HH_o, HHo] at z
  exact z
def bk3 (D : Nat → Nat → Int32) (g : Nat → Int32) (b n m : Nat) : Nat → Nat → Int32 := fun a => if a = 3 then (fun r => if r < n then g (b + (1 + 2 * r)) else D 3 r) else if a = 4 then (fun r => if r < n then g (b + (1 + 2 * r + 1)) else D 4 r) else if a = 9 then (fun r => if r < m then g (b + (7 + 2 * r)) else D 9 r) else if a = 11 then (fun r => if r < m then g (b + (7 + 2 * r + 1)) else D 11 r) else D a
theorem bk_0 (D : Nat → Nat → Int32) (g : Nat → Int32) (b : Nat) : bk3 D g b 0 0 = D := by
  funext a
  unfold bk3
  by_cases h1 : a = 3
  · subst h1; simp
  · by_cases h2 : a = 4
    · subst h2; simp
    · by_cases h3 : a = 9
      · subst h3; simp
      · by_cases h4 : a = 11
        · subst h4; simp
        · simp [h1, h2, h3, h4]
theorem bk_s1 (D : Nat → Nat → Int32) (g : Nat → Int32) (b n m : Nat) : ud (ud (bk3 D g b n m) 3 (upd (bk3 D g b n m 3) n (g (b + (1 + 2 * n))))) 4 (upd (bk3 D g b n m 4) n (g (b + (1 + 2 * n + 1)))) = bk3 D g b (n + 1) m := by
  have e3 : bk3 D g b n m 3 = fun r => if r < n then g (b + (1 + 2 * r)) else D 3 r := rfl
  have e4 : bk3 D g b n m 4 = fun r => if r < n then g (b + (1 + 2 * r + 1)) else D 4 r := rfl
  rw [e3, e4, ifl_s (fun r => g (b + (1 + 2 * r))) (D 3), ifl_s (fun r => g (b + (1 + 2 * r + 1))) (D 4)]
  funext a
  unfold ud bk3
  by_cases h1 : a = 3
  · simp [h1]
  · by_cases h2 : a = 4
    · simp [h2]
    · simp [h1, h2]
theorem bk_s2 (D : Nat → Nat → Int32) (g : Nat → Int32) (b n m : Nat) : ud (ud (bk3 D g b n m) 9 (upd (bk3 D g b n m 9) m (g (b + (7 + 2 * m))))) 11 (upd (bk3 D g b n m 11) m (g (b + (7 + 2 * m + 1)))) = bk3 D g b n (m + 1) := by
  have e3 : bk3 D g b n m 9 = fun r => if r < m then g (b + (7 + 2 * r)) else D 9 r := rfl
  have e4 : bk3 D g b n m 11 = fun r => if r < m then g (b + (7 + 2 * r + 1)) else D 11 r := rfl
  rw [e3, e4, ifl_s (fun r => g (b + (7 + 2 * r))) (D 9), ifl_s (fun r => g (b + (7 + 2 * r + 1))) (D 11)]
  funext a
  unfold ud bk3
  by_cases h1 : a = 9
  · simp [h1]
  · by_cases h2 : a = 11
    · simp [h2]
    · simp [h1, h2]
theorem ch_a3 {k c : Nat} (hk : k < 8) {F : Nat → Nat} (hF : F 3 = 19 * (k + 1)) (hc : c < 19) (h : icH) (u H R N : Nat) (D : Nat → Nat → Int32) (f : Nat → Nat → Int32) : icE 45 0 [.ref (u + 13 + 2 * 3), .int (nI k), .int (nI c), dum] [] (HH h u H R N D F f) = some (some (.int (f 3 (19 * k + c))), HH h u H R N D F f) := by
  have n3 : nj 3 = 152 := rfl
  have w3 : wj 3 = 19 := rfl
  have z := ch_at (show 3 < 4 by decide) (F := F) (r := k) (c := c) (by omega) (by rw [w3]; omega) h u H R N D f
  rwa [w3, Nat.mul_comm k 19] at z
theorem l_back1 {k : Nat} (hk : k < 8) {F : Nat → Nat} (hF : F 3 = 19 * (k + 1)) (h : icH) (u H R N : Nat) (D : Nat → Nat → Int32) (f : Nat → Nat → Int32) : ∀ (m i : Nat), i + m = 3 → icE 33 33 [.ref u, .int (nI k), .int (nI (1 + 2 * i)), .int (nI i)] [] (HH h u H R N (bk3 D (f 3) (19 * k) i 0) F f) = icE 33 88 [.ref u, .int (nI k), .int (nI (7 + 2 * 0)), .int (nI 0)] [] (HH h u H R N (bk3 D (f 3) (19 * k) 3 0) F f)
  | 0, i, him => by
    have : i = 3 := by omega
    subst this
    rw [rh_33_33]
    simp only [SA, rw_33, if_pos (nI_le (Nat.le_refl 3) (show 3 < 2 ^ 31 by omega))]
  | m + 1, i, him => by
    have ih := l_back1 hk hF h u H R N D f m (i + 1) (by omega)
    have b3 : 3 < 2 ^ 31 := by omega
    have hi : i < 3 := by omega
    rw [rh_33_33]
    simp only [SA, rw_33, HH_o, HHo, HHo1, HHc, HHw, if_neg (nI_ge hi b3), is_n hi b3, ch_a3 hk hF (show 1 + 2 * i < 19 by omega), ch_a3 hk hF (show 1 + 2 * i + 1 < 19 by omega), nI_add, ud_n (show (4 : Nat) ≠ 3 by decide)]
    rw [bk_s1]
    exact ih
theorem l_back2 {k : Nat} (hk : k < 8) {F : Nat → Nat} (hF : F 3 = 19 * (k + 1)) (h : icH) (u H R N : Nat) (D : Nat → Nat → Int32) (f : Nat → Nat → Int32) : ∀ (m i : Nat), i + m = 6 → icE 33 88 [.ref u, .int (nI k), .int (nI (7 + 2 * i)), .int (nI i)] [] (HH h u H R N (bk3 D (f 3) (19 * k) 3 i) F f) = some (none, HH h u H R N (bk3 D (f 3) (19 * k) 3 6) (un F 3 (19 * k)) f)
  | 0, i, him => by
    have : i = 6 := by omega
    subst this
    have n3 : nj 3 = 152 := rfl
    have w3 : wj 3 = 19 := rfl
    have z := ch_dropL (show 3 < 4 by decide) (F := F) (by omega) h u H R N (bk3 D (f 3) (19 * k) 3 6) f
    rw [w3, hF, show 19 * (k + 1) - 19 = 19 * k by omega] at z
    rw [rh_33_88]
    simp only [SA, rw_33, HH_o, HHo, if_pos (nI_le (Nat.le_refl 6) (show 6 < 2 ^ 31 by omega)), z]
  | m + 1, i, him => by
    have ih := l_back2 hk hF h u H R N D f m (i + 1) (by omega)
    have b6 : 6 < 2 ^ 31 := by omega
    have hi : i < 6 := by omega
    rw [rh_33_88]
    simp only [SA, rw_33, HH_o, HHo, HHo1, HHc, HHw, if_neg (nI_ge hi b6), is_n hi b6, ch_a3 hk hF (show 7 + 2 * i < 19 by omega), ch_a3 hk hF (show 7 + 2 * i + 1 < 19 by omega), nI_add, ud_n (show (11 : Nat) ≠ 9 by decide)]
    rw [bk_s2]
    exact ih
theorem c_goBack {k H0 : Nat} (hk : k < 8) {F : Nat → Nat} (hF : F 3 = 19 * (k + 1)) {f : Nat → Nat → Int32} (hf : f 3 (19 * k + 0) = nI H0) (h : icH) (u H R N : Nat) (D : Nat → Nat → Int32) : icE 33 0 [.ref u, dum, dum, dum] [] (HH h u H R N D F f) = some (none, HH h u H0 R N (bk3 D (f 3) (19 * k) 3 6) (un F 3 (19 * k)) f) := by
  have n3 : nj 3 = 152 := rfl
  have w3 : wj 3 = 19 := rfl
  have z := ch_size (show 3 < 4 by decide) (F := F) (by omega) h u H R N D f
  rw [hF, w3, Nat.mul_div_cancel_left (k + 1) (by decide : 0 < 19)] at z
  simp only [SA, rw_33, HH_o, HHo, HHo1, HHwo, z, nI_sb (show 1 ≤ k + 1 by omega), Nat.add_sub_cancel, ch_a3 hk hF (show 0 < 19 by omega), nI_add, hf]
  have y := l_back1 hk hF h u H0 R N D f 3 0 (by omega)
  rw [bk_0] at y
  exact y.trans (l_back2 hk hF h u H0 R N D f 6 0 (by omega))
