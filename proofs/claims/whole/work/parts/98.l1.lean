/-! ===== the constructors: Eaves ===== -/
def D0 : Nat → Nat → Int32 := fun a => if a = 1 then fil (fun _ => 0) (-1) 0 8 else fun _ => 0
theorem i_E2 (n2 : Nat) (g : Nat → Option icC) (h0 : g 2 = some (ob 0 [.int 0, .null, .int 0, .null, .null, .null, .null, .int 0, .null, .null, .null, .null, .null, .null])) : icE 0 0 [.ref 2] [] (3, n2, g) = some (none, HE (14, n2 + 56, g) 2 0 0 0 D0) := by
  simp only [SA, rw_0, hg_t, hp_t, h0, u_newa (n1 := 3) (show 3 < icLim by decide) (show 8 ≤ 100000 by decide) (show 0 < 3 by decide), u_newa (n1 := 4) (show 4 < icLim by decide) (show 3 ≤ 100000 by decide) (show 0 < 3 by decide), u_newa (n1 := 5) (show 5 < icLim by decide) (show 3 ≤ 100000 by decide) (show 0 < 3 by decide), u_newa (n1 := 6) (show 6 < icLim by decide) (show 3 ≤ 100000 by decide) (show 0 < 3 by decide), u_newa (n1 := 7) (show 7 < icLim by decide) (show 3 ≤ 100000 by decide) (show 0 < 3 by decide), u_newa (n1 := 8) (show 8 < icLim by decide) (show 6 ≤ 100000 by decide) (show 0 < 3 by decide), u_newa (n1 := 9) (show 9 < icLim by decide) (show 6 ≤ 100000 by decide) (show 0 < 3 by decide), u_newa (n1 := 10) (show 10 < icLim by decide) (show 6 ≤ 100000 by decide) (show 0 < 3 by decide), u_newa (n1 := 11) (show 11 < icLim by decide) (show 6 ≤ 100000 by decide) (show 0 < 3 by decide), u_newa (n1 := 12) (show 12 < icLim by decide) (show 6 ≤ 100000 by decide) (show 0 < 3 by decide), u_newa (n1 := 13) (show 13 < icLim by decide) (show 6 ≤ 100000 by decide) (show 0 < 3 by decide), Nat.reduceAdd, Nat.reduceEqDiff, reduceIte]
  rw [c_fill (a := 3) (n := 8) (f := fun _ => 0) (by decide) (-1)]
  · simp only [SA, rw_0, hp_t]
    refine congrArg (fun z => some (none, z)) (icH_ext rfl ?_ (fun b => ?_))
    · show n2 + 8 + 3 + 3 + 3 + 3 + 6 + 6 + 6 + 6 + 6 + 6 = n2 + 56; omega
    · rw [hg_t]
      by_cases b0 : b = 2
      · subst b0; rfl
      by_cases b1 : b = 3
      · subst b1; rfl
      by_cases b2 : b = 4
      · subst b2; rfl
      by_cases b3 : b = 5
      · subst b3; rfl
      by_cases b4 : b = 6
      · subst b4; rfl
      by_cases b5 : b = 7
      · subst b5; rfl
      by_cases b6 : b = 8
      · subst b6; rfl
      by_cases b7 : b = 9
      · subst b7; rfl
      by_cases b8 : b = 10
      · subst b8; rfl
      by_cases b9 : b = 11
      · subst b9; rfl
      by_cases b10 : b = 12
      · subst b10; rfl
      by_cases b11 : b = 13
      · subst b11; rfl
      simp only [if_neg b0, if_neg b1, if_neg b2, if_neg b3, if_neg b4, if_neg b5, if_neg b6, if_neg b7, if_neg b8, if_neg b9, if_neg b10, if_neg b11]
      exact (HE_n (h := (14, n2 + 56, g)) (e := 2) (a := b) (by omega)).symm
  · rfl
theorem i_E28 (n2 : Nat) (g : Nat → Option icC) (h0 : g 28 = some (ob 0 [.int 0, .null, .int 0, .null, .null, .null, .null, .int 0, .null, .null, .null, .null, .null, .null])) : icE 0 0 [.ref 28] [] (29, n2, g) = some (none, HE (40, n2 + 56, g) 28 0 0 0 D0) := by
  simp only [SA, rw_0, hg_t, hp_t, h0, u_newa (n1 := 29) (show 29 < icLim by decide) (show 8 ≤ 100000 by decide) (show 0 < 3 by decide), u_newa (n1 := 30) (show 30 < icLim by decide) (show 3 ≤ 100000 by decide) (show 0 < 3 by decide), u_newa (n1 := 31) (show 31 < icLim by decide) (show 3 ≤ 100000 by decide) (show 0 < 3 by decide), u_newa (n1 := 32) (show 32 < icLim by decide) (show 3 ≤ 100000 by decide) (show 0 < 3 by decide), u_newa (n1 := 33) (show 33 < icLim by decide) (show 3 ≤ 100000 by decide) (show 0 < 3 by decide), u_newa (n1 := 34) (show 34 < icLim by decide) (show 6 ≤ 100000 by decide) (show 0 < 3 by decide), u_newa (n1 := 35) (show 35 < icLim by decide) (show 6 ≤ 100000 by decide) (show 0 < 3 by decide), u_newa (n1 := 36) (show 36 < icLim by decide) (show 6 ≤ 100000 by decide) (show 0 < 3 by decide), u_newa (n1 := 37) (show 37 < icLim by decide) (show 6 ≤ 100000 by decide) (show 0 < 3 by decide), u_newa (n1 := 38) (show 38 < icLim by decide) (show 6 ≤ 100000 by decide) (show 0 < 3 by decide), u_newa (n1 := 39) (show 39 < icLim by decide) (show 6 ≤ 100000 by decide) (show 0 < 3 by decide), Nat.reduceAdd, Nat.reduceEqDiff, reduceIte]
  rw [c_fill (a := 29) (n := 8) (f := fun _ => 0) (by decide) (-1)]
  · simp only [SA, rw_0, hp_t]
    refine congrArg (fun z => some (none, z)) (icH_ext rfl ?_ (fun b => ?_))
    · show n2 + 8 + 3 + 3 + 3 + 3 + 6 + 6 + 6 + 6 + 6 + 6 = n2 + 56; omega
    · rw [hg_t]
      by_cases b0 : b = 28
      · subst b0; rfl
      by_cases b1 : b = 29
      · subst b1; rfl
      by_cases b2 : b = 30
      · subst b2; rfl
      by_cases b3 : b = 31
      · subst b3; rfl
      by_cases b4 : b = 32
      · subst b4; rfl
      by_cases b5 : b = 33
      · subst b5; rfl
      by_cases b6 : b = 34
      · subst b6; rfl
      by_cases b7 : b = 35
      · subst b7; rfl
      by_cases b8 : b = 36
      · subst b8; rfl
      by_cases b9 : b = 37
      · subst b9; rfl
      by_cases b10 : b = 38
      · subst b10; rfl
      by_cases b11 : b = 39
      · subst b11; rfl
      simp only [if_neg b0, if_neg b1, if_neg b2, if_neg b3, if_neg b4, if_neg b5, if_neg b6, if_neg b7, if_neg b8, if_neg b9, if_neg b10, if_neg b11]
      exact (HE_n (h := (40, n2 + 56, g)) (e := 28) (a := b) (by omega)).symm
  · rfl
theorem i_E49 (n2 : Nat) (g : Nat → Option icC) (h0 : g 49 = some (ob 0 [.int 0, .null, .int 0, .null, .null, .null, .null, .int 0, .null, .null, .null, .null, .null, .null])) : icE 0 0 [.ref 49] [] (50, n2, g) = some (none, HE (61, n2 + 56, g) 49 0 0 0 D0) := by
  simp only [SA, rw_0, hg_t, hp_t, h0, u_newa (n1 := 50) (show 50 < icLim by decide) (show 8 ≤ 100000 by decide) (show 0 < 3 by decide), u_newa (n1 := 51) (show 51 < icLim by decide) (show 3 ≤ 100000 by decide) (show 0 < 3 by decide), u_newa (n1 := 52) (show 52 < icLim by decide) (show 3 ≤ 100000 by decide) (show 0 < 3 by decide), u_newa (n1 := 53) (show 53 < icLim by decide) (show 3 ≤ 100000 by decide) (show 0 < 3 by decide), u_newa (n1 := 54) (show 54 < icLim by decide) (show 3 ≤ 100000 by decide) (show 0 < 3 by decide), u_newa (n1 := 55) (show 55 < icLim by decide) (show 6 ≤ 100000 by decide) (show 0 < 3 by decide), u_newa (n1 := 56) (show 56 < icLim by decide) (show 6 ≤ 100000 by decide) (show 0 < 3 by decide), u_newa (n1 := 57) (show 57 < icLim by decide) (show 6 ≤ 100000 by decide) (show 0 < 3 by decide), u_newa (n1 := 58) (show 58 < icLim by decide) (show 6 ≤ 100000 by decide) (show 0 < 3 by decide), u_newa (n1 := 59) (show 59 < icLim by decide) (show 6 ≤ 100000 by decide) (show 0 < 3 by decide), u_newa (n1 := 60) (show 60 < icLim by decide) (show 6 ≤ 100000 by decide) (show 0 < 3 by decide), Nat.reduceAdd, Nat.reduceEqDiff, reduceIte]
  rw [c_fill (a := 50) (n := 8) (f := fun _ => 0) (by decide) (-1)]
  · simp only [SA, rw_0, hp_t]
    refine congrArg (fun z => some (none, z)) (icH_ext rfl ?_ (fun b => ?_))
    · show n2 + 8 + 3 + 3 + 3 + 3 + 6 + 6 + 6 + 6 + 6 + 6 = n2 + 56; omega
    · rw [hg_t]
      by_cases b0 : b = 49
      · subst b0; rfl
      by_cases b1 : b = 50
      · subst b1; rfl
      by_cases b2 : b = 51
      · subst b2; rfl
      by_cases b3 : b = 52
      · subst b3; rfl
      by_cases b4 : b = 53
      · subst b4; rfl
      by_cases b5 : b = 54
      · subst b5; rfl
      by_cases b6 : b = 55
      · subst b6; rfl
      by_cases b7 : b = 56
      · subst b7; rfl
      by_cases b8 : b = 57
      · subst b8; rfl
      by_cases b9 : b = 58
      · subst b9; rfl
      by_cases b10 : b = 59
      · subst b10; rfl
      by_cases b11 : b = 60
      · subst b11; rfl
      simp only [if_neg b0, if_neg b1, if_neg b2, if_neg b3, if_neg b4, if_neg b5, if_neg b6, if_neg b7, if_neg b8, if_neg b9, if_neg b10, if_neg b11]
      exact (HE_n (h := (61, n2 + 56, g)) (e := 49) (a := b) (by omega)).symm
  · rfl
theorem i_E70 (n2 : Nat) (g : Nat → Option icC) (h0 : g 70 = some (ob 0 [.int 0, .null, .int 0, .null, .null, .null, .null, .int 0, .null, .null, .null, .null, .null, .null])) : icE 0 0 [.ref 70] [] (71, n2, g) = some (none, HE (82, n2 + 56, g) 70 0 0 0 D0) := by
  simp only [SA, rw_0, hg_t, hp_t, h0, u_newa (n1 := 71) (show 71 < icLim by decide) (show 8 ≤ 100000 by decide) (show 0 < 3 by decide), u_newa (n1 := 72) (show 72 < icLim by decide) (show 3 ≤ 100000 by decide) (show 0 < 3 by decide), u_newa (n1 := 73) (show 73 < icLim by decide) (show 3 ≤ 100000 by decide) (show 0 < 3 by decide), u_newa (n1 := 74) (show 74 < icLim by decide) (show 3 ≤ 100000 by decide) (show 0 < 3 by decide), u_newa (n1 := 75) (show 75 < icLim by decide) (show 3 ≤ 100000 by decide) (show 0 < 3 by decide), u_newa (n1 := 76) (show 76 < icLim by decide) (show 6 ≤ 100000 by decide) (show 0 < 3 by decide), u_newa (n1 := 77) (show 77 < icLim by decide) (show 6 ≤ 100000 by decide) (show 0 < 3 by decide), u_newa (n1 := 78) (show 78 < icLim by decide) (show 6 ≤ 100000 by decide) (show 0 < 3 by decide), u_newa (n1 := 79) (show 79 < icLim by decide) (show 6 ≤ 100000 by decide) (show 0 < 3 by decide), u_newa (n1 := 80) (show 80 < icLim by decide) (show 6 ≤ 100000 by decide) (show 0 < 3 by decide), u_newa (n1 := 81) (show 81 < icLim by decide) (show 6 ≤ 100000 by decide) (show 0 < 3 by decide), Nat.reduceAdd, Nat.reduceEqDiff, reduceIte]
  rw [c_fill (a := 71) (n := 8) (f := fun _ => 0) (by decide) (-1)]
  · simp only [SA, rw_0, hp_t]
    refine congrArg (fun z => some (none, z)) (icH_ext rfl ?_ (fun b => ?_))
    · show n2 + 8 + 3 + 3 + 3 + 3 + 6 + 6 + 6 + 6 + 6 + 6 = n2 + 56; omega
    · rw [hg_t]
      by_cases b0 : b = 70
      · subst b0; rfl
      by_cases b1 : b = 71
      · subst b1; rfl
      by_cases b2 : b = 72
      · subst b2; rfl
      by_cases b3 : b = 73
      · subst b3; rfl
      by_cases b4 : b = 74
      · subst b4; rfl
      by_cases b5 : b = 75
      · subst b5; rfl
      by_cases b6 : b = 76
      · subst b6; rfl
      by_cases b7 : b = 77
      · subst b7; rfl
      by_cases b8 : b = 78
      · subst b8; rfl
      by_cases b9 : b = 79
      · subst b9; rfl
      by_cases b10 : b = 80
      · subst b10; rfl
      by_cases b11 : b = 81
      · subst b11; rfl
      simp only [if_neg b0, if_neg b1, if_neg b2, if_neg b3, if_neg b4, if_neg b5, if_neg b6, if_neg b7, if_neg b8, if_neg b9, if_neg b10, if_neg b11]
      exact (HE_n (h := (82, n2 + 56, g)) (e := 70) (a := b) (by omega)).symm
  · rfl
