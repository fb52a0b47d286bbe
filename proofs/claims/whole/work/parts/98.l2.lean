/-! ===== the constructors: House ===== -/
theorem HE_t (n1 n2 e H R N : Nat) (g : Nat → Option icC) (D : Nat → Nat → Int32) : HE (n1, n2, g) e H R N D = (n1, n2, fun a => if a = e then some (eo e H R N) else if e < a ∧ a ≤ e + 11 then some (ai (eS (a - e)) (D (a - e))) else g a) := rfl
theorem HH_t (n1 n2 u H R N : Nat) (g : Nat → Option icC) (D : Nat → Nat → Int32) (F : Nat → Nat) (f : Nat → Nat → Int32) : HH (n1, n2, g) u H R N D F f = (n1, n2, fun a => if u ≤ a ∧ a ≤ u + 20 then some (hc u H R N D F f a) else g a) := rfl
theorem u_new0 {n1 n2 : Nat} {g : Nat → Option icC} (hn : n1 < icLim) (k nx : Nat) (L S : List Value) : exe icE k (e_new 0 (dfl 0) nx L S (n1, n2, g)) = icE k nx L (.ref n1 :: S) (n1 + 1, n2 + 14, fun b => if b = n1 then some (ob 0 [.int 0, .null, .int 0, .null, .null, .null, .null, .int 0, .null, .null, .null, .null, .null, .null]) else g b) := u_new hn 0 (dfl 0) k nx L S
theorem u_new1 {n1 n2 : Nat} {g : Nat → Option icC} (hn : n1 < icLim) (k nx : Nat) (L S : List Value) : exe icE k (e_new 1 (dfl 1) nx L S (n1, n2, g)) = icE k nx L (.ref n1 :: S) (n1 + 1, n2 + 3, fun b => if b = n1 then some (ob 1 [.null, .int 0, .int 0]) else g b) := u_new hn 1 (dfl 1) k nx L S
theorem u_new2 {n1 n2 : Nat} {g : Nat → Option icC} (hn : n1 < icLim) (k nx : Nat) (L S : List Value) : exe icE k (e_new 2 (dfl 2) nx L S (n1, n2, g)) = icE k nx L (.ref n1 :: S) (n1 + 1, n2 + 5, fun b => if b = n1 then some (ob 2 [.null, .null, .null, .null, .null]) else g b) := u_new hn 2 (dfl 2) k nx L S
theorem u_new3 {n1 n2 : Nat} {g : Nat → Option icC} (hn : n1 < icLim) (k nx : Nat) (L S : List Value) : exe icE k (e_new 3 (dfl 3) nx L S (n1, n2, g)) = icE k nx L (.ref n1 :: S) (n1 + 1, n2 + 3, fun b => if b = n1 then some (ob 3 [.null, .int 0, .int 0]) else g b) := u_new hn 3 (dfl 3) k nx L S
theorem u_new4 {n1 n2 : Nat} {g : Nat → Option icC} (hn : n1 < icLim) (k nx : Nat) (L S : List Value) : exe icE k (e_new 4 (dfl 4) nx L S (n1, n2, g)) = icE k nx L (.ref n1 :: S) (n1 + 1, n2 + 3, fun b => if b = n1 then some (ob 4 [.null, .int 0, .int 0]) else g b) := u_new hn 4 (dfl 4) k nx L S
theorem u_new5 {n1 n2 : Nat} {g : Nat → Option icC} (hn : n1 < icLim) (k nx : Nat) (L S : List Value) : exe icE k (e_new 5 (dfl 5) nx L S (n1, n2, g)) = icE k nx L (.ref n1 :: S) (n1 + 1, n2 + 3, fun b => if b = n1 then some (ob 5 [.int 0, .null, .int 0]) else g b) := u_new hn 5 (dfl 5) k nx L S
theorem u_new6 {n1 n2 : Nat} {g : Nat → Option icC} (hn : n1 < icLim) (k nx : Nat) (L S : List Value) : exe icE k (e_new 6 (dfl 6) nx L S (n1, n2, g)) = icE k nx L (.ref n1 :: S) (n1 + 1, n2 + 7, fun b => if b = n1 then some (ob 6 [.null, .int 0, .int 0, .int 0, .int 0, .int 0, .null]) else g b) := u_new hn 6 (dfl 6) k nx L S
theorem u_new7 {n1 n2 : Nat} {g : Nat → Option icC} (hn : n1 < icLim) (k nx : Nat) (L S : List Value) : exe icE k (e_new 7 (dfl 7) nx L S (n1, n2, g)) = icE k nx L (.ref n1 :: S) (n1 + 1, n2 + 13, fun b => if b = n1 then some (ob 7 [.null, .null, .null, .null, .null, .long 0, .long 0, .null, .null, .null, .null, .null, .null]) else g b) := u_new hn 7 (dfl 7) k nx L S
theorem u_new8 {n1 n2 : Nat} {g : Nat → Option icC} (hn : n1 < icLim) (k nx : Nat) (L S : List Value) : exe icE k (e_new 8 (dfl 8) nx L S (n1, n2, g)) = icE k nx L (.ref n1 :: S) (n1 + 1, n2 + 21, fun b => if b = n1 then some (ob 8 [.null, .null, .null, .null, .null, .int 0, .long 0, .long 0, .null, .null, .int 0, .int 0, .int 0, .int 0, .null, .null, .int 0, .null, .null, .null, .null]) else g b) := u_new hn 8 (dfl 8) k nx L S
theorem mxi_1 : imx (nI 1) (nI 4) = nI 4 ∧ imx (nI 1) (nI 5) = nI 5 ∧ imx (nI 1) (nI 19) = nI 19 ∧ imx (nI 0) (nI 5) = nI 5 ∧ imx (nI 0) (nI 6) = nI 6 ∧ imx (nI 0) (nI 8) = nI 8 ∧ imx (nI 0) (nI 10) = nI 10 := by decide
theorem mli_1 : nI 5 * nI 4 = nI 20 ∧ nI 6 * nI 5 = nI 30 ∧ nI 8 * nI 19 = nI 152 := by decide
theorem i_H1 (n2 : Nat) (g : Nat → Option icC) (h0 : g 1 = some (ob 2 [.null, .null, .null, .null, .null])) : icE 29 0 [.ref 1] [] (2, n2, g) = some (none, HH (22, n2 + 314, g) 1 0 0 0 D0 (fun _ => 0) (fun _ _ => 0)) := by
  simp only [SA, rw_29, rw_42, hg_t, hp_t, h0, u_new0 (n1 := 2) (show 2 < icLim by decide), i_E2, HE_t, u_new5 (n1 := 14) (show 14 < icLim by decide), u_newa (n1 := 15) (m := 20) (show 15 < icLim by decide) (show 20 ≤ 100000 by decide) (show 0 < 3 by decide), u_new5 (n1 := 16) (show 16 < icLim by decide), u_newa (n1 := 17) (m := 30) (show 17 < icLim by decide) (show 30 ≤ 100000 by decide) (show 0 < 3 by decide), u_new5 (n1 := 18) (show 18 < icLim by decide), u_newa (n1 := 19) (m := 30) (show 19 < icLim by decide) (show 30 ≤ 100000 by decide) (show 0 < 3 by decide), u_new5 (n1 := 20) (show 20 < icLim by decide), u_newa (n1 := 21) (m := 152) (show 21 < icLim by decide) (show 152 ≤ 100000 by decide) (show 0 < 3 by decide), c_max, mxi_1, mli_1, Nat.reduceAdd, Nat.reduceEqDiff, Nat.reduceLT, Nat.reduceLeDiff, false_and, and_false, and_true, true_and, reduceIte]
  refine congrArg (fun z => some (none, z)) (icH_ext rfl ?_ (fun b => ?_))
  · show n2 + 14 + 56 + 3 + 20 + 3 + 30 + 3 + 30 + 3 + 152 = n2 + 314; omega
  · rw [hg_t, HH_t, hg_t]
    by_cases b0 : b = 1
    · subst b0; rfl
    by_cases b1 : b = 2
    · subst b1; rfl
    by_cases b2 : b = 3
    · subst b2; rfl
    by_cases b3 : b = 4
    · subst b3; rfl
    by_cases b4 : b = 5
    · subst b4; rfl
    by_cases b5 : b = 6
    · subst b5; rfl
    by_cases b6 : b = 7
    · subst b6; rfl
    by_cases b7 : b = 8
    · subst b7; rfl
    by_cases b8 : b = 9
    · subst b8; rfl
    by_cases b9 : b = 10
    · subst b9; rfl
    by_cases b10 : b = 11
    · subst b10; rfl
    by_cases b11 : b = 12
    · subst b11; rfl
    by_cases b12 : b = 13
    · subst b12; rfl
    by_cases b13 : b = 14
    · subst b13; rfl
    by_cases b14 : b = 15
    · subst b14; rfl
    by_cases b15 : b = 16
    · subst b15; rfl
    by_cases b16 : b = 17
    · subst b16; rfl
    by_cases b17 : b = 18
    · subst b17; rfl
    by_cases b18 : b = 19
    · subst b18; rfl
    by_cases b19 : b = 20
    · subst b19; rfl
    by_cases b20 : b = 21
    · subst b20; rfl
    rw [if_neg (show ¬ (1 ≤ b ∧ b ≤ 1 + 20) by omega)]
    simp only [if_neg b0, if_neg b1, if_neg b2, if_neg b3, if_neg b4, if_neg b5, if_neg b6, if_neg b7, if_neg b8, if_neg b9, if_neg b10, if_neg b11, if_neg b12, if_neg b13, if_neg b14, if_neg b15, if_neg b16, if_neg b17, if_neg b18, if_neg b19, if_neg b20]
    exact if_neg (by omega)
theorem i_H48 (n2 : Nat) (g : Nat → Option icC) (h0 : g 48 = some (ob 2 [.null, .null, .null, .null, .null])) : icE 29 0 [.ref 48] [] (49, n2, g) = some (none, HH (69, n2 + 314, g) 48 0 0 0 D0 (fun _ => 0) (fun _ _ => 0)) := by
  simp only [SA, rw_29, rw_42, hg_t, hp_t, h0, u_new0 (n1 := 49) (show 49 < icLim by decide), i_E49, HE_t, u_new5 (n1 := 61) (show 61 < icLim by decide), u_newa (n1 := 62) (m := 20) (show 62 < icLim by decide) (show 20 ≤ 100000 by decide) (show 0 < 3 by decide), u_new5 (n1 := 63) (show 63 < icLim by decide), u_newa (n1 := 64) (m := 30) (show 64 < icLim by decide) (show 30 ≤ 100000 by decide) (show 0 < 3 by decide), u_new5 (n1 := 65) (show 65 < icLim by decide), u_newa (n1 := 66) (m := 30) (show 66 < icLim by decide) (show 30 ≤ 100000 by decide) (show 0 < 3 by decide), u_new5 (n1 := 67) (show 67 < icLim by decide), u_newa (n1 := 68) (m := 152) (show 68 < icLim by decide) (show 152 ≤ 100000 by decide) (show 0 < 3 by decide), c_max, mxi_1, mli_1, Nat.reduceAdd, Nat.reduceEqDiff, Nat.reduceLT, Nat.reduceLeDiff, false_and, and_false, and_true, true_and, reduceIte]
  refine congrArg (fun z => some (none, z)) (icH_ext rfl ?_ (fun b => ?_))
  · show n2 + 14 + 56 + 3 + 20 + 3 + 30 + 3 + 30 + 3 + 152 = n2 + 314; omega
  · rw [hg_t, HH_t, hg_t]
    by_cases b0 : b = 48
    · subst b0; rfl
    by_cases b1 : b = 49
    · subst b1; rfl
    by_cases b2 : b = 50
    · subst b2; rfl
    by_cases b3 : b = 51
    · subst b3; rfl
    by_cases b4 : b = 52
    · subst b4; rfl
    by_cases b5 : b = 53
    · subst b5; rfl
    by_cases b6 : b = 54
    · subst b6; rfl
    by_cases b7 : b = 55
    · subst b7; rfl
    by_cases b8 : b = 56
    · subst b8; rfl
    by_cases b9 : b = 57
    · subst b9; rfl
    by_cases b10 : b = 58
    · subst b10; rfl
    by_cases b11 : b = 59
    · subst b11; rfl
    by_cases b12 : b = 60
    · subst b12; rfl
    by_cases b13 : b = 61
    · subst b13; rfl
    by_cases b14 : b = 62
    · subst b14; rfl
    by_cases b15 : b = 63
    · subst b15; rfl
    by_cases b16 : b = 64
    · subst b16; rfl
    by_cases b17 : b = 65
    · subst b17; rfl
    by_cases b18 : b = 66
    · subst b18; rfl
    by_cases b19 : b = 67
    · subst b19; rfl
    by_cases b20 : b = 68
    · subst b20; rfl
    rw [if_neg (show ¬ (48 ≤ b ∧ b ≤ 48 + 20) by omega)]
    simp only [if_neg b0, if_neg b1, if_neg b2, if_neg b3, if_neg b4, if_neg b5, if_neg b6, if_neg b7, if_neg b8, if_neg b9, if_neg b10, if_neg b11, if_neg b12, if_neg b13, if_neg b14, if_neg b15, if_neg b16, if_neg b17, if_neg b18, if_neg b19, if_neg b20]
    exact if_neg (by omega)
theorem i_H69 (n2 : Nat) (g : Nat → Option icC) (h0 : g 69 = some (ob 2 [.null, .null, .null, .null, .null])) : icE 29 0 [.ref 69] [] (70, n2, g) = some (none, HH (90, n2 + 314, g) 69 0 0 0 D0 (fun _ => 0) (fun _ _ => 0)) := by
  simp only [SA, rw_29, rw_42, hg_t, hp_t, h0, u_new0 (n1 := 70) (show 70 < icLim by decide), i_E70, HE_t, u_new5 (n1 := 82) (show 82 < icLim by decide), u_newa (n1 := 83) (m := 20) (show 83 < icLim by decide) (show 20 ≤ 100000 by decide) (show 0 < 3 by decide), u_new5 (n1 := 84) (show 84 < icLim by decide), u_newa (n1 := 85) (m := 30) (show 85 < icLim by decide) (show 30 ≤ 100000 by decide) (show 0 < 3 by decide), u_new5 (n1 := 86) (show 86 < icLim by decide), u_newa (n1 := 87) (m := 30) (show 87 < icLim by decide) (show 30 ≤ 100000 by decide) (show 0 < 3 by decide), u_new5 (n1 := 88) (show 88 < icLim by decide), u_newa (n1 := 89) (m := 152) (show 89 < icLim by decide) (show 152 ≤ 100000 by decide) (show 0 < 3 by decide), c_max, mxi_1, mli_1, Nat.reduceAdd, Nat.reduceEqDiff, Nat.reduceLT, Nat.reduceLeDiff, false_and, and_false, and_true, true_and, reduceIte]
  refine congrArg (fun z => some (none, z)) (icH_ext rfl ?_ (fun b => ?_))
  · show n2 + 14 + 56 + 3 + 20 + 3 + 30 + 3 + 30 + 3 + 152 = n2 + 314; omega
  · rw [hg_t, HH_t, hg_t]
    by_cases b0 : b = 69
    · subst b0; rfl
    by_cases b1 : b = 70
    · subst b1; rfl
    by_cases b2 : b = 71
    · subst b2; rfl
    by_cases b3 : b = 72
    · subst b3; rfl
    by_cases b4 : b = 73
    · subst b4; rfl
    by_cases b5 : b = 74
    · subst b5; rfl
    by_cases b6 : b = 75
    · subst b6; rfl
    by_cases b7 : b = 76
    · subst b7; rfl
    by_cases b8 : b = 77
    · subst b8; rfl
    by_cases b9 : b = 78
    · subst b9; rfl
    by_cases b10 : b = 79
    · subst b10; rfl
    by_cases b11 : b = 80
    · subst b11; rfl
    by_cases b12 : b = 81
    · subst b12; rfl
    by_cases b13 : b = 82
    · subst b13; rfl
    by_cases b14 : b = 83
    · subst b14; rfl
    by_cases b15 : b = 84
    · subst b15; rfl
    by_cases b16 : b = 85
    · subst b16; rfl
    by_cases b17 : b = 86
    · subst b17; rfl
    by_cases b18 : b = 87
    · subst b18; rfl
    by_cases b19 : b = 88
    · subst b19; rfl
    by_cases b20 : b = 89
    · subst b20; rfl
    rw [if_neg (show ¬ (69 ≤ b ∧ b ≤ 69 + 20) by omega)]
    simp only [if_neg b0, if_neg b1, if_neg b2, if_neg b3, if_neg b4, if_neg b5, if_neg b6, if_neg b7, if_neg b8, if_neg b9, if_neg b10, if_neg b11, if_neg b12, if_neg b13, if_neg b14, if_neg b15, if_neg b16, if_neg b17, if_neg b18, if_neg b19, if_neg b20]
    exact if_neg (by omega)
