/-! ===== the constructors: the class ===== -/
theorem as_h {n v a j : Nat} {gg : Nat → Option Nat} {fs : List Value} (hj : j < n) (hn : n < 2 ^ 31) (k nx : Nat) (L S : List Value) (h : icH) : y_as (some (ah n gg)) (some (ob 2 fs)) a v (nI j) k nx L S h = icE k nx L S (hput h a (ah n (fun i => if i = j then some v else gg i))) := by
  show exe icE k (if 0 ≤ (nI j).toInt ∧ (nI j).toInt < (n : Int) then ugo nx L S (hput h a (ah n (fun i => if i = (nI j).toInt.toNat then some v else gg i))) else none) = _
  rw [if_pos (by rw [nI_toInt (by omega)]; omega), nI_toInt (by omega)]
  rfl
theorem gi_dec : ¬ nI 2 ≤ nI 0 ∧ ¬ nI 2 ≤ nI 1 ∧ nI 2 ≤ nI 2 := by decide
theorem hc_48 : hc 48 0 0 0 D0 (fun _ => 0) (fun _ _ => 0) 48 = ob 2 [.ref 49, .ref 61, .ref 63, .ref 65, .ref 67] := rfl
theorem hc_69 : hc 69 0 0 0 D0 (fun _ => 0) (fun _ _ => 0) 69 = ob 2 [.ref 70, .ref 82, .ref 84, .ref 86, .ref 88] := rfl
theorem HH_of {X : icH} {u H R N : Nat} {D : Nat → Nat → Int32} {F : Nat → Nat} {f : Nat → Nat → Int32} (h : ∀ a, u ≤ a → a ≤ u + 20 → hg X a = some (hc u H R N D F f a)) : HH X u H R N D F f = X := by
  refine icH_ext rfl rfl (fun a => ?_)
  by_cases q : u ≤ a ∧ a ≤ u + 20
  · exact (if_pos q).trans (h a q.1 q.2).symm
  · exact if_neg q
theorem HE_of {X : icH} {e H R N : Nat} {D : Nat → Nat → Int32} (h0 : hg X e = some (eo e H R N)) (h : ∀ a, e < a → a ≤ e + 11 → hg X a = some (ai (eS (a - e)) (D (a - e)))) : HE X e H R N D = X := by
  refine icH_ext rfl rfl (fun a => ?_)
  by_cases r : a = e
  · exact (if_pos r).trans (r ▸ h0.symm)
  · by_cases q : e < a ∧ a ≤ e + 11
    · exact ((if_neg r).trans (if_pos q)).trans (h a q.1 q.2).symm
    · exact (if_neg r).trans (if_neg q)
theorem i_C (n2 : Nat) (g : Nat → Option icC) (h0 : g 0 = some (ob 7 [.null, .null, .null, .null, .null, .long 0, .long 0, .null, .null, .null, .null, .null, .null])) : ∃ X, icE 69 0 [.ref 0, dum] [] (1, n2, g) = some (none, X) ∧ X.1 = 90 ∧ X.2.1 ≤ n2 + 3000 ∧ (∀ a, 90 ≤ a → hg X a = g a) ∧ hg X 0 = some (xo 0 1) ∧ (∃ gg, hg X 22 = some (ah 2 gg) ∧ ∀ i, i < 2 → gg i = some (iu i)) ∧ hg X 23 = some (az 2 (fun _ => 0)) ∧ hg X 24 = some (to6 0 (nI 0) (nI 0) (nI 0) (nI 0)) ∧ hg X 25 = some (.inl (1, 150, fun _ => 0)) ∧ hg X 26 = some (ai 5 (fun _ => 0)) ∧ hg X 27 = some (ai 3 (fun _ => 0)) ∧ (hg X 40 = some (ai 6 (fun _ => 0)) ∧ hg X 41 = some (ai 24 (fun _ => 0)) ∧ hg X 43 = some (ai 10 (fun _ => 0)) ∧ hg X 45 = some (ai 6 (fun _ => 0)) ∧ hg X 47 = some (ai 6 (fun _ => 0))) ∧ (hg X 42 = some (ob 1 [.ref 43, .int (nI 0), .int (nI 1)]) ∧ hg X 44 = some (ob 3 [.ref 45, .int (nI 20), .int (nI 100)]) ∧ hg X 46 = some (ob 4 [.ref 47, .int (nI 60), .int (nI 100)])) ∧ HH X 1 0 0 0 D0 (fun _ => 0) (fun _ _ => 0) = X ∧ HH X 48 0 0 0 D0 (fun _ => 0) (fun _ _ => 0) = X ∧ HH X 69 0 0 0 D0 (fun _ => 0) (fun _ _ => 0) = X ∧ HE X 28 0 0 0 D0 = X := by
  simp only [SA, rw_69, rh_69_120, rw_53, rw_25, rw_34, rw_38, rw_20, hg_t, hp_t, h0, u_new2 (n1 := 1) (show 1 < icLim by decide), u_new2 (n1 := 48) (show 48 < icLim by decide), u_new2 (n1 := 69) (show 69 < icLim by decide), i_H1, i_H48, i_H69, i_E28, HH_t, HE_t, u_anew (n1 := 22) (m := 2) (show 22 < icLim by decide) (by decide), u_newa (n1 := 23) (m := 2) (t := 2) (show 23 < icLim by decide) (by decide) (by decide), u_new6 (n1 := 24) (show 24 < icLim by decide), u_newa (n1 := 25) (m := 150) (t := 1) (show 25 < icLim by decide) (by decide) (by decide), u_newa (n1 := 26) (m := 5) (t := 0) (show 26 < icLim by decide) (by decide) (by decide), u_newa (n1 := 27) (m := 3) (t := 0) (show 27 < icLim by decide) (by decide) (by decide), u_new0 (n1 := 28) (show 28 < icLim by decide), u_newa (n1 := 40) (m := 6) (t := 0) (show 40 < icLim by decide) (by decide) (by decide), u_newa (n1 := 41) (m := 24) (t := 0) (show 41 < icLim by decide) (by decide) (by decide), u_new1 (n1 := 42) (show 42 < icLim by decide), u_newa (n1 := 43) (m := 10) (t := 0) (show 43 < icLim by decide) (by decide) (by decide), u_new3 (n1 := 44) (show 44 < icLim by decide), u_newa (n1 := 45) (m := 6) (t := 0) (show 45 < icLim by decide) (by decide) (by decide), u_new4 (n1 := 46) (show 46 < icLim by decide), u_newa (n1 := 47) (m := 6) (t := 0) (show 47 < icLim by decide) (by decide) (by decide), c_max, mxi_1, if_neg gi_dec.1, if_neg gi_dec.2.1, if_pos gi_dec.2.2, hc_48, hc_69, as_h (n := 2) (j := 0) (by decide) (by decide), as_h (n := 2) (j := 1) (by decide) (by decide), nI_add, Nat.reduceAdd, Nat.reduceEqDiff, Nat.reduceLT, Nat.reduceLeDiff, false_and, and_false, and_true, true_and, reduceIte]
  refine ⟨_, rfl, rfl, ?_, fun a ha => ?_, rfl, ⟨_, rfl, fun i hi => ?_⟩, rfl, rfl, rfl, rfl, rfl, ⟨rfl, rfl, rfl, rfl, rfl⟩, ⟨rfl, rfl, rfl⟩, HH_of (fun a h1 h2 => by
    have : a = 1 ∨ a = 2 ∨ a = 3 ∨ a = 4 ∨ a = 5 ∨ a = 6 ∨ a = 7 ∨ a = 8 ∨ a = 9 ∨ a = 10 ∨ a = 11 ∨ a = 12 ∨ a = 13 ∨ a = 14 ∨ a = 15 ∨ a = 16 ∨ a = 17 ∨ a = 18 ∨ a = 19 ∨ a = 20 ∨ a = 21 := by omega
    rcases this with rfl | rfl | rfl | rfl | rfl | rfl | rfl | rfl | rfl | rfl | rfl | rfl | rfl | rfl | rfl | rfl | rfl | rfl | rfl | rfl | rfl <;> rfl), HH_of (fun a h1 h2 => by
    have : a = 48 ∨ a = 49 ∨ a = 50 ∨ a = 51 ∨ a = 52 ∨ a = 53 ∨ a = 54 ∨ a = 55 ∨ a = 56 ∨ a = 57 ∨ a = 58 ∨ a = 59 ∨ a = 60 ∨ a = 61 ∨ a = 62 ∨ a = 63 ∨ a = 64 ∨ a = 65 ∨ a = 66 ∨ a = 67 ∨ a = 68 := by omega
    rcases this with rfl | rfl | rfl | rfl | rfl | rfl | rfl | rfl | rfl | rfl | rfl | rfl | rfl | rfl | rfl | rfl | rfl | rfl | rfl | rfl | rfl <;> rfl), HH_of (fun a h1 h2 => by
    have : a = 69 ∨ a = 70 ∨ a = 71 ∨ a = 72 ∨ a = 73 ∨ a = 74 ∨ a = 75 ∨ a = 76 ∨ a = 77 ∨ a = 78 ∨ a = 79 ∨ a = 80 ∨ a = 81 ∨ a = 82 ∨ a = 83 ∨ a = 84 ∨ a = 85 ∨ a = 86 ∨ a = 87 ∨ a = 88 ∨ a = 89 := by omega
    rcases this with rfl | rfl | rfl | rfl | rfl | rfl | rfl | rfl | rfl | rfl | rfl | rfl | rfl | rfl | rfl | rfl | rfl | rfl | rfl | rfl | rfl <;> rfl), HE_of rfl (fun a h1 h2 => by
    have : a = 29 ∨ a = 30 ∨ a = 31 ∨ a = 32 ∨ a = 33 ∨ a = 34 ∨ a = 35 ∨ a = 36 ∨ a = 37 ∨ a = 38 ∨ a = 39 := by omega
    rcases this with rfl | rfl | rfl | rfl | rfl | rfl | rfl | rfl | rfl | rfl | rfl <;> rfl)⟩
  · dsimp only; omega
  · rw [hg_t]; repeat rw [if_neg (by omega)]
  · have : i = 0 ∨ i = 1 := by omega
    rcases this with rfl | rfl <;> rfl
