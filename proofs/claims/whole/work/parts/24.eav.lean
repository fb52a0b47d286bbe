/-! ===== Eaves: the cells ===== -/
def ud (D : Nat → Nat → Int32) (a : Nat) (f : Nat → Int32) : Nat → Nat → Int32 := fun b => if b = a then f else D b
theorem ud_s (D : Nat → Nat → Int32) (a : Nat) (f : Nat → Int32) : ud D a f a = f := by simp [ud]
theorem ud_n {D : Nat → Nat → Int32} {a b : Nat} {f : Nat → Int32} (hab : b ≠ a) : ud D a f b = D b := by simp [ud, hab]
theorem ud_u (D : Nat → Nat → Int32) (a : Nat) (f g : Nat → Int32) : ud (ud D a f) a g = ud D a g := by
  funext b; unfold ud; split <;> rfl
def eS (a : Nat) : Nat := if a = 1 then 8 else if a ≤ 5 then 3 else 6
def eo (e H R N : Nat) : icC := ob 0 [.int (nI H), .ref (e + 1), .int (nI R), .ref (e + 2), .ref (e + 3), .ref (e + 4), .ref (e + 5), .int (nI N), .ref (e + 6), .ref (e + 7), .ref (e + 8), .ref (e + 9), .ref (e + 10), .ref (e + 11)]
def HE (h : icH) (e H R N : Nat) (D : Nat → Nat → Int32) : icH := (h.1, h.2.1, fun a => if a = e then some (eo e H R N) else if e < a ∧ a ≤ e + 11 then some (ai (eS (a - e)) (D (a - e))) else h.2.2 a)
theorem HE_n {h : icH} {e H R N a : Nat} {D : Nat → Nat → Int32} (ha : a < e ∨ e + 11 < a) : hg (HE h e H R N D) a = hg h a := by
  unfold hg HE
  dsimp only
  rw [if_neg (by omega), if_neg (by omega)]
theorem HE_o (h : icH) (e H R N : Nat) (D : Nat → Nat → Int32) : hg (HE h e H R N D) e = some (ob 0 [.int (nI H), .ref (e + 1), .int (nI R), .ref (e + 2), .ref (e + 3), .ref (e + 4), .ref (e + 5), .int (nI N), .ref (e + 6), .ref (e + 7), .ref (e + 8), .ref (e + 9), .ref (e + 10), .ref (e + 11)]) := by
  unfold hg HE
  dsimp only
  rw [if_pos rfl]
  rfl
theorem HE_c {h : icH} {e H R N j : Nat} {D : Nat → Nat → Int32} (h0 : 0 < j) (h1 : j ≤ 11) : hg (HE h e H R N D) (e + j) = some (ai (eS j) (D j)) := by
  unfold hg HE
  dsimp only
  rw [if_neg (by omega), if_pos (by omega), Nat.add_sub_cancel_left]
theorem HEr : (∀ (h : icH) (e H R N : Nat) (D : Nat → Nat → Int32), hg (HE h e H R N D) (e + 1) = some (ai 8 (D 1))) ∧ (∀ (h : icH) (e H R N : Nat) (D : Nat → Nat → Int32), hg (HE h e H R N D) (e + 2) = some (ai 3 (D 2))) ∧ (∀ (h : icH) (e H R N : Nat) (D : Nat → Nat → Int32), hg (HE h e H R N D) (e + 3) = some (ai 3 (D 3))) ∧ (∀ (h : icH) (e H R N : Nat) (D : Nat → Nat → Int32), hg (HE h e H R N D) (e + 4) = some (ai 3 (D 4))) ∧ (∀ (h : icH) (e H R N : Nat) (D : Nat → Nat → Int32), hg (HE h e H R N D) (e + 5) = some (ai 3 (D 5))) ∧ (∀ (h : icH) (e H R N : Nat) (D : Nat → Nat → Int32), hg (HE h e H R N D) (e + 6) = some (ai 6 (D 6))) ∧ (∀ (h : icH) (e H R N : Nat) (D : Nat → Nat → Int32), hg (HE h e H R N D) (e + 7) = some (ai 6 (D 7))) ∧ (∀ (h : icH) (e H R N : Nat) (D : Nat → Nat → Int32), hg (HE h e H R N D) (e + 8) = some (ai 6 (D 8))) ∧ (∀ (h : icH) (e H R N : Nat) (D : Nat → Nat → Int32), hg (HE h e H R N D) (e + 9) = some (ai 6 (D 9))) ∧ (∀ (h : icH) (e H R N : Nat) (D : Nat → Nat → Int32), hg (HE h e H R N D) (e + 10) = some (ai 6 (D 10))) ∧ (∀ (h : icH) (e H R N : Nat) (D : Nat → Nat → Int32), hg (HE h e H R N D) (e + 11) = some (ai 6 (D 11))) := by
  refine ⟨?_, ?_, ?_, ?_, ?_, ?_, ?_, ?_, ?_, ?_, ?_⟩ <;> (intro h e H R N D; exact HE_c (by decide) (by decide))
theorem HE_wo (h : icH) (e H R N H' R' N' : Nat) (D : Nat → Nat → Int32) : hput (HE h e H R N D) e (ob 0 [.int (nI H'), .ref (e + 1), .int (nI R'), .ref (e + 2), .ref (e + 3), .ref (e + 4), .ref (e + 5), .int (nI N'), .ref (e + 6), .ref (e + 7), .ref (e + 8), .ref (e + 9), .ref (e + 10), .ref (e + 11)]) = HE h e H' R' N' D := by
  unfold hput HE
  dsimp only
  congr 2
  funext b
  by_cases hb : b = e
  · rw [if_pos hb, if_pos hb]; rfl
  · rw [if_neg hb, if_neg hb, if_neg hb]
theorem HE_wc {h : icH} {e H R N j n : Nat} {D : Nat → Nat → Int32} {f : Nat → Int32} (h0 : 0 < j ∧ j ≤ 11) (hn : eS j = n) : hput (HE h e H R N D) (e + j) (ai n f) = HE h e H R N (ud D j f) := by
  unfold hput HE
  dsimp only
  congr 2
  funext b
  by_cases hb : b = e + j
  · rw [if_pos hb, if_neg (by omega), if_pos (by omega), hb, Nat.add_sub_cancel_left, ud_s, hn]
  · rw [if_neg hb]
    by_cases h1 : b = e
    · rw [if_pos h1, if_pos h1]
    · rw [if_neg h1, if_neg h1]
      by_cases h2 : e < b ∧ b ≤ e + 11
      · rw [if_pos h2, if_pos h2, ud_n (by omega)]
      · rw [if_neg h2, if_neg h2]
theorem HEw : (∀ (h : icH) (e H R N : Nat) (D : Nat → Nat → Int32) (f : Nat → Int32), hput (HE h e H R N D) (e + 1) (ai 8 f) = HE h e H R N (ud D 1 f)) ∧ (∀ (h : icH) (e H R N : Nat) (D : Nat → Nat → Int32) (f : Nat → Int32), hput (HE h e H R N D) (e + 2) (ai 3 f) = HE h e H R N (ud D 2 f)) ∧ (∀ (h : icH) (e H R N : Nat) (D : Nat → Nat → Int32) (f : Nat → Int32), hput (HE h e H R N D) (e + 3) (ai 3 f) = HE h e H R N (ud D 3 f)) ∧ (∀ (h : icH) (e H R N : Nat) (D : Nat → Nat → Int32) (f : Nat → Int32), hput (HE h e H R N D) (e + 4) (ai 3 f) = HE h e H R N (ud D 4 f)) ∧ (∀ (h : icH) (e H R N : Nat) (D : Nat → Nat → Int32) (f : Nat → Int32), hput (HE h e H R N D) (e + 5) (ai 3 f) = HE h e H R N (ud D 5 f)) ∧ (∀ (h : icH) (e H R N : Nat) (D : Nat → Nat → Int32) (f : Nat → Int32), hput (HE h e H R N D) (e + 6) (ai 6 f) = HE h e H R N (ud D 6 f)) ∧ (∀ (h : icH) (e H R N : Nat) (D : Nat → Nat → Int32) (f : Nat → Int32), hput (HE h e H R N D) (e + 7) (ai 6 f) = HE h e H R N (ud D 7 f)) ∧ (∀ (h : icH) (e H R N : Nat) (D : Nat → Nat → Int32) (f : Nat → Int32), hput (HE h e H R N D) (e + 8) (ai 6 f) = HE h e H R N (ud D 8 f)) ∧ (∀ (h : icH) (e H R N : Nat) (D : Nat → Nat → Int32) (f : Nat → Int32), hput (HE h e H R N D) (e + 9) (ai 6 f) = HE h e H R N (ud D 9 f)) ∧ (∀ (h : icH) (e H R N : Nat) (D : Nat → Nat → Int32) (f : Nat → Int32), hput (HE h e H R N D) (e + 10) (ai 6 f) = HE h e H R N (ud D 10 f)) ∧ (∀ (h : icH) (e H R N : Nat) (D : Nat → Nat → Int32) (f : Nat → Int32), hput (HE h e H R N D) (e + 11) (ai 6 f) = HE h e H R N (ud D 11 f)) := by
  refine ⟨?_, ?_, ?_, ?_, ?_, ?_, ?_, ?_, ?_, ?_, ?_⟩ <;> (intro h e H R N D f; exact HE_wc (by decide) (by decide))
theorem HE_h (h : icH) (e H R N H' R' N' : Nat) (D D' : Nat → Nat → Int32) : HE (HE h e H R N D) e H' R' N' D' = HE h e H' R' N' D' := by
  unfold HE
  dsimp only
  congr 2
  funext b
  by_cases h1 : b = e
  · rw [if_pos h1, if_pos h1]
  · rw [if_neg h1, if_neg h1]
    by_cases h2 : e < b ∧ b ≤ e + 11
    · rw [if_pos h2, if_neg h1, if_pos h2]
    · rw [if_neg h2, if_neg h1, if_neg h2, if_neg h2]
theorem c_warmthAt {n : Nat} (hn : n < 2 ^ 31) (h : icH) (e H R N : Nat) (D : Nat → Nat → Int32) : icE 11 0 [.ref e, .int (nI n)] [] (HE h e H R N D) = some (some (.int (D 1 (n % 8))), HE h e H R N D) := by
  simp only [SA, rw_11, HE_o, HEr, c_floorMod hn, ia_n (show n % 8 < 8 by omega) (show 8 < 2 ^ 31 by omega)]
theorem t_1_39_0 : ∀ (L S : List Value) (h : icH), exe icE 1 (e_tsw 39 85 1 5 #[33, 36, 39, 52, 72] L (.int (nI 0) :: S) h) = icE 1 124 L S h := fun _ _ _ => rfl
theorem t_1_39_1 : ∀ (L S : List Value) (h : icH), exe icE 1 (e_tsw 39 85 1 5 #[33, 36, 39, 52, 72] L (.int (nI 1) :: S) h) = icE 1 72 L S h := fun _ _ _ => rfl
theorem t_1_39_2 : ∀ (L S : List Value) (h : icH), exe icE 1 (e_tsw 39 85 1 5 #[33, 36, 39, 52, 72] L (.int (nI 2) :: S) h) = icE 1 75 L S h := fun _ _ _ => rfl
theorem t_1_39_3 : ∀ (L S : List Value) (h : icH), exe icE 1 (e_tsw 39 85 1 5 #[33, 36, 39, 52, 72] L (.int (nI 3) :: S) h) = icE 1 78 L S h := fun _ _ _ => rfl
theorem t_1_39_4 : ∀ (L S : List Value) (h : icH), exe icE 1 (e_tsw 39 85 1 5 #[33, 36, 39, 52, 72] L (.int (nI 4) :: S) h) = icE 1 91 L S h := fun _ _ _ => rfl
theorem t_1_39_5 : ∀ (L S : List Value) (h : icH), exe icE 1 (e_tsw 39 85 1 5 #[33, 36, 39, 52, 72] L (.int (nI 5) :: S) h) = icE 1 111 L S h := fun _ _ _ => rfl
theorem tw_1_39 : (∀ (L S : List Value) (h : icH), exe icE 1 (e_tsw 39 85 1 5 #[33, 36, 39, 52, 72] L (.int (nI 0) :: S) h) = icE 1 124 L S h) ∧ (∀ (L S : List Value) (h : icH), exe icE 1 (e_tsw 39 85 1 5 #[33, 36, 39, 52, 72] L (.int (nI 1) :: S) h) = icE 1 72 L S h) ∧ (∀ (L S : List Value) (h : icH), exe icE 1 (e_tsw 39 85 1 5 #[33, 36, 39, 52, 72] L (.int (nI 2) :: S) h) = icE 1 75 L S h) ∧ (∀ (L S : List Value) (h : icH), exe icE 1 (e_tsw 39 85 1 5 #[33, 36, 39, 52, 72] L (.int (nI 3) :: S) h) = icE 1 78 L S h) ∧ (∀ (L S : List Value) (h : icH), exe icE 1 (e_tsw 39 85 1 5 #[33, 36, 39, 52, 72] L (.int (nI 4) :: S) h) = icE 1 91 L S h) ∧ (∀ (L S : List Value) (h : icH), exe icE 1 (e_tsw 39 85 1 5 #[33, 36, 39, 52, 72] L (.int (nI 5) :: S) h) = icE 1 111 L S h) := ⟨t_1_39_0, t_1_39_1, t_1_39_2, t_1_39_3, t_1_39_4, t_1_39_5⟩
theorem t_2_35_0 : ∀ (L S : List Value) (h : icH), exe icE 2 (e_tsw 35 87 1 5 #[33, 36, 39, 57, 71] L (.int (nI 0) :: S) h) = icE 2 122 L S h := fun _ _ _ => rfl
theorem t_2_35_1 : ∀ (L S : List Value) (h : icH), exe icE 2 (e_tsw 35 87 1 5 #[33, 36, 39, 57, 71] L (.int (nI 1) :: S) h) = icE 2 68 L S h := fun _ _ _ => rfl
theorem t_2_35_2 : ∀ (L S : List Value) (h : icH), exe icE 2 (e_tsw 35 87 1 5 #[33, 36, 39, 57, 71] L (.int (nI 2) :: S) h) = icE 2 71 L S h := fun _ _ _ => rfl
theorem t_2_35_3 : ∀ (L S : List Value) (h : icH), exe icE 2 (e_tsw 35 87 1 5 #[33, 36, 39, 57, 71] L (.int (nI 3) :: S) h) = icE 2 74 L S h := fun _ _ _ => rfl
theorem t_2_35_4 : ∀ (L S : List Value) (h : icH), exe icE 2 (e_tsw 35 87 1 5 #[33, 36, 39, 57, 71] L (.int (nI 4) :: S) h) = icE 2 92 L S h := fun _ _ _ => rfl
theorem t_2_35_5 : ∀ (L S : List Value) (h : icH), exe icE 2 (e_tsw 35 87 1 5 #[33, 36, 39, 57, 71] L (.int (nI 5) :: S) h) = icE 2 106 L S h := fun _ _ _ => rfl
theorem tw_2_35 : (∀ (L S : List Value) (h : icH), exe icE 2 (e_tsw 35 87 1 5 #[33, 36, 39, 57, 71] L (.int (nI 0) :: S) h) = icE 2 122 L S h) ∧ (∀ (L S : List Value) (h : icH), exe icE 2 (e_tsw 35 87 1 5 #[33, 36, 39, 57, 71] L (.int (nI 1) :: S) h) = icE 2 68 L S h) ∧ (∀ (L S : List Value) (h : icH), exe icE 2 (e_tsw 35 87 1 5 #[33, 36, 39, 57, 71] L (.int (nI 2) :: S) h) = icE 2 71 L S h) ∧ (∀ (L S : List Value) (h : icH), exe icE 2 (e_tsw 35 87 1 5 #[33, 36, 39, 57, 71] L (.int (nI 3) :: S) h) = icE 2 74 L S h) ∧ (∀ (L S : List Value) (h : icH), exe icE 2 (e_tsw 35 87 1 5 #[33, 36, 39, 57, 71] L (.int (nI 4) :: S) h) = icE 2 92 L S h) ∧ (∀ (L S : List Value) (h : icH), exe icE 2 (e_tsw 35 87 1 5 #[33, 36, 39, 57, 71] L (.int (nI 5) :: S) h) = icE 2 106 L S h) := ⟨t_2_35_0, t_2_35_1, t_2_35_2, t_2_35_3, t_2_35_4, t_2_35_5⟩
def wat (k : Nat) (w e s : Int32) : Int32 :=
  let p := imn (imx (w + e) (nI 0)) s
  let sl := if p = 0 then nI 0 else imn (p + nI 2) s
  let th := p / nI 2
  if k = 1 then sl else if k = 2 then th else if k = 3 then (if -4 ≤ w then sl else nI 0) else if k = 4 then (if s - s / nI 2 * nI 2 = 0 then th else imx (th - nI 1) (nI 0)) else if k = 5 then (if s ≤ nI 40 then p else s) else p
theorem c_waterOf {k : Nat} (hk : k < 6) (w q s : Int32) (h : icH) : icE 1 0 [.int (nI k), .int w, .int q, .int s, dum, dum, dum] [] h = some (some (.int (wat k w q s)), h) := by
  have h2 : ¬ nI 2 = 0 := by decide
  have hk2 : k = 0 ∨ k = 1 ∨ k = 2 ∨ k = 3 ∨ k = 4 ∨ k = 5 := by omega
  unfold wat
  rcases hk2 with rfl | rfl | rfl | rfl | rfl | rfl <;> simp only [SA, rw_1, c_max, c_min, tw_1_39, if_neg h2, if_pos, if_neg, reduceIte, Nat.reduceEqDiff]
  all_goals generalize imn (imx (w + q) (nI 0)) s = p
  all_goals repeat' (first | rfl | contradiction | split)
def mor (k : Nat) (l w q : Int32) : Int32 :=
  let p := if 0 ≤ w then -w else q
  let fa := p / nI 2
  let th := if p ≤ 0 then p else p + nI 1
  if k = 1 then fa else if k = 2 then th else if k = 3 then (if fa ≤ 0 then fa else if l ≤ nI 20 then fa else nI 0) else if k = 4 then (if w ≤ 0 then p else p - nI 2) else if k = 5 then (if l - l / nI 5 * nI 5 = 0 then nI 2 * th else th) else p
theorem c_moreOf {k : Nat} (hk : k < 6) (l w q : Int32) (h : icH) : icE 2 0 [.int (nI k), .int l, .int w, .int q, dum, dum, dum] [] h = some (some (.int (mor k l w q)), h) := by
  have h2 : ¬ nI 2 = 0 := by decide
  have h5 : ¬ nI 5 = 0 := by decide
  have hk2 : k = 0 ∨ k = 1 ∨ k = 2 ∨ k = 3 ∨ k = 4 ∨ k = 5 := by omega
  unfold mor
  rcases hk2 with rfl | rfl | rfl | rfl | rfl | rfl <;> simp only [SA, rw_2, c_max, c_min, tw_2_35, if_neg h2, if_neg h5, reduceIte, Nat.reduceEqDiff]
  all_goals by_cases hw : 0 ≤ w <;> simp only [hw, reduceIte]
  all_goals repeat' (first | rfl | contradiction | split)
