/-! ===== House.take ===== -/
theorem HE_HH {e u : Nat} (hd : e + 11 < u ∨ u + 20 < e) (X : icH) (H R N : Nat) (D : Nat → Nat → Int32) (F : Nat → Nat) (f : Nat → Nat → Int32) (H' R' N' : Nat) (D' : Nat → Nat → Int32) : HE (HH X u H R N D F f) e H' R' N' D' = HH (HE X e H' R' N' D') u H R N D F f := by
  unfold HE HH
  dsimp only
  congr 2
  funext a
  by_cases h1 : u ≤ a ∧ a ≤ u + 20
  · rw [if_pos h1, if_pos h1, if_neg (by omega), if_neg (by omega)]
  · rw [if_neg h1, if_neg h1]
theorem HR_HH {e u : Nat} (hd : e + 1 < u ∨ u + 20 < e) (X : icH) (H R N : Nat) (D : Nat → Nat → Int32) (F : Nat → Nat) (f : Nat → Nat → Int32) (w n F' : Nat) (f' : Nat → Int32) : HR (HH X u H R N D F f) e w n F' f' = HH (HR X e w n F' f') u H R N D F f := by
  unfold HR HH
  dsimp only
  congr 2
  funext a
  by_cases h1 : u ≤ a ∧ a ≤ u + 20
  · rw [if_pos h1, if_pos h1, if_neg (by omega), if_neg (by omega)]
  · rw [if_neg h1, if_neg h1]
theorem ch_takeE {u v : Nat} (hd : v + 20 < u ∨ u + 20 < v) (h : icH) (H R N : Nat) (D : Nat → Nat → Int32) (F : Nat → Nat) (f : Nat → Nat → Int32) (H' R' N' : Nat) (D' : Nat → Nat → Int32) (F' : Nat → Nat) (f' : Nat → Nat → Int32) : icE 4 0 [.ref (u + 1), .ref (v + 1)] [] (HH (HH h v H' R' N' D' F' f') u H R N D F f) = some (none, HH (HH h v H' R' N' D' F' f') u H' R' N' (tk D D') F f) := by
  have c := c_takeE (e := u + 1) (f := v + 1) (by omega) (HH (HH h v H' R' N' D' F' f') u H R N D F f) H R N H' R' N' D D'
  rwa [HE_HH (by omega), HH_e, HH_E, HH_E] at c
theorem ch_takeR {u v j : Nat} (hj : j < 4) (hd : v + 20 < u ∨ u + 20 < v) {F' : Nat → Nat} (hF : F' j ≤ nj j) (h : icH) (H R N : Nat) (D : Nat → Nat → Int32) (F : Nat → Nat) (f : Nat → Nat → Int32) (H' R' N' : Nat) (D' : Nat → Nat → Int32) (f' : Nat → Nat → Int32) : icE 51 0 [.ref (u + 13 + 2 * j), .ref (v + 13 + 2 * j)] [] (HH (HH h v H' R' N' D' F' f') u H R N D F f) = some (none, HH (HH h v H' R' N' D' F' f') u H R N D (un F j (F' j)) (ud f j (va_cpy (f' j) (f j) 0 0 (F' j)))) := by
  have c := c_rtake (nj_ok hj) (F := F j) hF (a := u + 13 + 2 * j) (b := v + 13 + 2 * j) (by omega) (HH (HH h v H' R' N' D' F' f') u H R N D F f) (wj j) (f j) (f' j)
  rwa [HR_HH (by omega), HH_r hj, HH_r hj, HH_R hj] at c
theorem c_htake {u v : Nat} (hd : v + 20 < u ∨ u + 20 < v) {F' : Nat → Nat} (hF : FOK F') (h : icH) (H R N : Nat) (D : Nat → Nat → Int32) (F : Nat → Nat) (f : Nat → Nat → Int32) (H' R' N' : Nat) (D' : Nat → Nat → Int32) (f' : Nat → Nat → Int32) : icE 31 0 [.ref u, .ref v] [] (HH (HH h v H' R' N' D' F' f') u H R N D F f) = some (none, HH (HH h v H' R' N' D' F' f') u H' R' N' (tk D D') (un (un (un (un F 0 (F' 0)) 1 (F' 1)) 2 (F' 2)) 3 (F' 3)) (ud (ud (ud (ud f 0 (va_cpy (f' 0) (f 0) 0 0 (F' 0))) 1 (va_cpy (f' 1) (f 1) 0 0 (F' 1))) 2 (va_cpy (f' 2) (f 2) 0 0 (F' 2))) 3 (va_cpy (f' 3) (f 3) 0 0 (F' 3)))) := by
  obtain ⟨h0, h1, h2, h3⟩ := hF
  have q0 : ∀ (x : icH) (H R N : Nat) (D : Nat → Nat → Int32) (F : Nat → Nat) (f : Nat → Nat → Int32), hg (HH x u H R N D F f) v = hg x v := fun x H R N D F f => HH_n (by omega)
  have q1 : ∀ (x : icH) (H R N : Nat) (D : Nat → Nat → Int32) (F : Nat → Nat) (f : Nat → Nat → Int32), hg (HH x u H R N D F f) (v + 1) = hg x (v + 1) := fun x H R N D F f => HH_n (by omega)
  have q2 : ∀ (j : Nat), j < 4 → ∀ (x : icH) (H R N : Nat) (D : Nat → Nat → Int32) (F : Nat → Nat) (f : Nat → Nat → Int32), hg (HH x u H R N D F f) (v + 13 + 2 * j) = hg x (v + 13 + 2 * j) := fun j hj x H R N D F f => HH_n (by omega)
  simp only [SA, rw_31, HH_o, q0, q1, HHo, HHo1, q2 0 (by decide), q2 1 (by decide), q2 2 (by decide), q2 3 (by decide), ch_takeE hd, ch_takeR (show 0 < 4 by decide) hd h0, ch_takeR (show 1 < 4 by decide) hd h1, ch_takeR (show 2 < 4 by decide) hd h2, ch_takeR (show 3 < 4 by decide) hd h3, ud_n (show (1 : Nat) ≠ 0 by decide), ud_n (show (2 : Nat) ≠ 0 by decide), ud_n (show (2 : Nat) ≠ 1 by decide), ud_n (show (3 : Nat) ≠ 0 by decide), ud_n (show (3 : Nat) ≠ 1 by decide), ud_n (show (3 : Nat) ≠ 2 by decide)]
