/-! ===== the class: what happens ===== -/
-- cX8_undo: heads []
theorem fe_81 (pc : Nat) : fet 81 pc = look k_81 pc := rfl
theorem r_81_0 (L S : List Value) (h : icH) : icE 81 0 L S h = exe icE 81 (e_aload 0 1 L S h) := icE_eq (i := .aload_n 0) (len := 1) (x1 := 0) (x2 := 0) (x3 := 0) (x4 := 64) ((fe_81 0).trans rfl) L S h
theorem r_81_1 (L S : List Value) (h : icH) : icE 81 1 L S h = exe icE 81 (e_getf 0 7 4 L S h) := icE_eq (i := .getfield 10) (len := 3) (x1 := 0) (x2 := 7) (x3 := 12) (x4 := 293) ((fe_81 1).trans rfl) L S h
theorem r_81_4 (L S : List Value) (h : icH) : icE 81 4 L S h = exe icE 81 (e_getf 4 2 7 L S h) := icE_eq (i := .getfield 96) (len := 3) (x1 := 4) (x2 := 2) (x3 := 12) (x4 := 206) ((fe_81 4).trans rfl) L S h
theorem r_81_7 (L S : List Value) (h : icH) : icE 81 7 L S h = exe icE 81 (e_vcal 5 43 1 0 10 L S h) := icE_eq (i := .invokevirtual 174) (len := 3) (x1 := 43) (x2 := 3) (x3 := 5) (x4 := 623) ((fe_81 7).trans rfl) L S h
theorem r_81_10 (L S : List Value) (h : icH) : icE 81 10 L S h = exe icE 81 (e_if .ne 18 13 L S h) := icE_eq (i := .ifCond .ne 8) (len := 3) (x1 := 18) (x2 := 0) (x3 := 0) (x4 := 64) ((fe_81 10).trans rfl) L S h
theorem r_81_13 (L S : List Value) (h : icH) : icE 81 13 L S h = exe icE 81 (e_aload 0 14 L S h) := icE_eq (i := .aload_n 0) (len := 1) (x1 := 0) (x2 := 0) (x3 := 0) (x4 := 64) ((fe_81 13).trans rfl) L S h
theorem r_81_14 (L S : List Value) (h : icH) : icE 81 14 L S h = exe icE 81 (e_vcal 7 114 1 0 17 L S h) := icE_eq (i := .invokevirtual 155) (len := 3) (x1 := 114) (x2 := 3) (x3 := 7) (x4 := 599) ((fe_81 14).trans rfl) L S h
theorem r_81_17 (L S : List Value) (h : icH) : icE 81 17 L S h = exe icE 81 (e_iret 0 L S h) := icE_eq (i := .ireturn) (len := 1) (x1 := 0) (x2 := 0) (x3 := 0) (x4 := 64) ((fe_81 17).trans rfl) L S h
theorem r_81_18 (L S : List Value) (h : icH) : icE 81 18 L S h = exe icE 81 (e_aload 0 19 L S h) := icE_eq (i := .aload_n 0) (len := 1) (x1 := 0) (x2 := 0) (x3 := 0) (x4 := 64) ((fe_81 18).trans rfl) L S h
theorem r_81_19 (L S : List Value) (h : icH) : icE 81 19 L S h = exe icE 81 (e_getf 0 7 22 L S h) := icE_eq (i := .getfield 10) (len := 3) (x1 := 0) (x2 := 7) (x3 := 12) (x4 := 293) ((fe_81 19).trans rfl) L S h
theorem r_81_22 (L S : List Value) (h : icH) : icE 81 22 L S h = exe icE 81 (e_vcal 2 33 4 0 25 L S h) := icE_eq (i := .invokevirtual 176) (len := 3) (x1 := 33) (x2 := 3) (x3 := 2) (x4 := 624) ((fe_81 22).trans rfl) L S h
theorem r_81_25 (L S : List Value) (h : icH) : icE 81 25 L S h = exe icE 81 (e_aload 0 26 L S h) := icE_eq (i := .aload_n 0) (len := 1) (x1 := 0) (x2 := 0) (x3 := 0) (x4 := 64) ((fe_81 25).trans rfl) L S h
theorem r_81_26 (L S : List Value) (h : icH) : icE 81 26 L S h = exe icE 81 (e_getf 0 7 29 L S h) := icE_eq (i := .getfield 10) (len := 3) (x1 := 0) (x2 := 7) (x3 := 12) (x4 := 293) ((fe_81 26).trans rfl) L S h
theorem r_81_29 (L S : List Value) (h : icH) : icE 81 29 L S h = exe icE 81 (e_getf 0 2 32 L S h) := icE_eq (i := .getfield 82) (len := 3) (x1 := 0) (x2 := 2) (x3 := 12) (x4 := 192) ((fe_81 29).trans rfl) L S h
theorem r_81_32 (L S : List Value) (h : icH) : icE 81 32 L S h = exe icE 81 (e_getf 0 0 35 L S h) := icE_eq (i := .getfield 179) (len := 3) (x1 := 0) (x2 := 0) (x3 := 0) (x4 := 108) ((fe_81 32).trans rfl) L S h
theorem r_81_35 (L S : List Value) (h : icH) : icE 81 35 L S h = exe icE 81 (e_iret 0 L S h) := icE_eq (i := .ireturn) (len := 1) (x1 := 0) (x2 := 0) (x3 := 0) (x4 := 64) ((fe_81 35).trans rfl) L S h
theorem rw_81 : (∀ (L S : List Value) (h : icH), icE 81 0 L S h = exe icE 81 (e_aload 0 1 L S h)) ∧ (∀ (L S : List Value) (h : icH), icE 81 1 L S h = exe icE 81 (e_getf 0 7 4 L S h)) ∧ (∀ (L S : List Value) (h : icH), icE 81 4 L S h = exe icE 81 (e_getf 4 2 7 L S h)) ∧ (∀ (L S : List Value) (h : icH), icE 81 7 L S h = exe icE 81 (e_vcal 5 43 1 0 10 L S h)) ∧ (∀ (L S : List Value) (h : icH), icE 81 10 L S h = exe icE 81 (e_if .ne 18 13 L S h)) ∧ (∀ (L S : List Value) (h : icH), icE 81 13 L S h = exe icE 81 (e_aload 0 14 L S h)) ∧ (∀ (L S : List Value) (h : icH), icE 81 14 L S h = exe icE 81 (e_vcal 7 114 1 0 17 L S h)) ∧ (∀ (L S : List Value) (h : icH), icE 81 17 L S h = exe icE 81 (e_iret 0 L S h)) ∧ (∀ (L S : List Value) (h : icH), icE 81 18 L S h = exe icE 81 (e_aload 0 19 L S h)) ∧ (∀ (L S : List Value) (h : icH), icE 81 19 L S h = exe icE 81 (e_getf 0 7 22 L S h)) ∧ (∀ (L S : List Value) (h : icH), icE 81 22 L S h = exe icE 81 (e_vcal 2 33 4 0 25 L S h)) ∧ (∀ (L S : List Value) (h : icH), icE 81 25 L S h = exe icE 81 (e_aload 0 26 L S h)) ∧ (∀ (L S : List Value) (h : icH), icE 81 26 L S h = exe icE 81 (e_getf 0 7 29 L S h)) ∧ (∀ (L S : List Value) (h : icH), icE 81 29 L S h = exe icE 81 (e_getf 0 2 32 L S h)) ∧ (∀ (L S : List Value) (h : icH), icE 81 32 L S h = exe icE 81 (e_getf 0 0 35 L S h)) ∧ (∀ (L S : List Value) (h : icH), icE 81 35 L S h = exe icE 81 (e_iret 0 L S h)) := ⟨r_81_0, r_81_1, r_81_4, r_81_7, r_81_10, r_81_13, r_81_14, r_81_17, r_81_18, r_81_19, r_81_22, r_81_25, r_81_26, r_81_29, r_81_32, r_81_35⟩
-- cX8_forget: heads []
theorem fe_99 (pc : Nat) : fet 99 pc = look k_99 pc := rfl
theorem r_99_0 (L S : List Value) (h : icH) : icE 99 0 L S h = exe icE 99 (e_iload 1 1 L S h) := icE_eq (i := .iload_n 1) (len := 1) (x1 := 0) (x2 := 0) (x3 := 0) (x4 := 64) ((fe_99 0).trans rfl) L S h
theorem r_99_1 (L S : List Value) (h : icH) : icE 99 1 L S h = exe icE 99 (e_tsw 1 60 0 2 #[27, 38, 49] L S h) := icE_eq (i := .tableswitch 60 0 2 #[27, 38, 49]) (len := 27) (x1 := 1) (x2 := 0) (x3 := 0) (x4 := 64) ((fe_99 1).trans rfl) L S h
theorem r_99_28 (L S : List Value) (h : icH) : icE 99 28 L S h = exe icE 99 (e_aload 0 29 L S h) := icE_eq (i := .aload_n 0) (len := 1) (x1 := 0) (x2 := 0) (x3 := 0) (x4 := 64) ((fe_99 28).trans rfl) L S h
theorem r_99_29 (L S : List Value) (h : icH) : icE 99 29 L S h = exe icE 99 (e_getf 0 7 32 L S h) := icE_eq (i := .getfield 10) (len := 3) (x1 := 0) (x2 := 7) (x3 := 12) (x4 := 293) ((fe_99 29).trans rfl) L S h
theorem r_99_32 (L S : List Value) (h : icH) : icE 99 32 L S h = exe icE 99 (e_getf 1 2 35 L S h) := icE_eq (i := .getfield 220) (len := 3) (x1 := 1) (x2 := 2) (x3 := 12) (x4 := 198) ((fe_99 32).trans rfl) L S h
theorem r_99_35 (L S : List Value) (h : icH) : icE 99 35 L S h = exe icE 99 (e_vcal 5 48 2 0 38 L S h) := icE_eq (i := .invokevirtual 100) (len := 3) (x1 := 48) (x2 := 3) (x3 := 5) (x4 := 364) ((fe_99 35).trans rfl) L S h
theorem r_99_38 (L S : List Value) (h : icH) : icE 99 38 L S h = exe icE 99 (e_iret 0 L S h) := icE_eq (i := .ireturn) (len := 1) (x1 := 0) (x2 := 0) (x3 := 0) (x4 := 64) ((fe_99 38).trans rfl) L S h
theorem r_99_39 (L S : List Value) (h : icH) : icE 99 39 L S h = exe icE 99 (e_aload 0 40 L S h) := icE_eq (i := .aload_n 0) (len := 1) (x1 := 0) (x2 := 0) (x3 := 0) (x4 := 64) ((fe_99 39).trans rfl) L S h
theorem r_99_40 (L S : List Value) (h : icH) : icE 99 40 L S h = exe icE 99 (e_getf 0 7 43 L S h) := icE_eq (i := .getfield 10) (len := 3) (x1 := 0) (x2 := 7) (x3 := 12) (x4 := 293) ((fe_99 40).trans rfl) L S h
theorem r_99_43 (L S : List Value) (h : icH) : icE 99 43 L S h = exe icE 99 (e_getf 2 2 46 L S h) := icE_eq (i := .getfield 239) (len := 3) (x1 := 2) (x2 := 2) (x3 := 12) (x4 := 201) ((fe_99 43).trans rfl) L S h
theorem r_99_46 (L S : List Value) (h : icH) : icE 99 46 L S h = exe icE 99 (e_vcal 5 48 2 0 49 L S h) := icE_eq (i := .invokevirtual 100) (len := 3) (x1 := 48) (x2 := 3) (x3 := 5) (x4 := 364) ((fe_99 46).trans rfl) L S h
theorem r_99_49 (L S : List Value) (h : icH) : icE 99 49 L S h = exe icE 99 (e_iret 0 L S h) := icE_eq (i := .ireturn) (len := 1) (x1 := 0) (x2 := 0) (x3 := 0) (x4 := 64) ((fe_99 49).trans rfl) L S h
theorem r_99_50 (L S : List Value) (h : icH) : icE 99 50 L S h = exe icE 99 (e_aload 0 51 L S h) := icE_eq (i := .aload_n 0) (len := 1) (x1 := 0) (x2 := 0) (x3 := 0) (x4 := 64) ((fe_99 50).trans rfl) L S h
theorem r_99_51 (L S : List Value) (h : icH) : icE 99 51 L S h = exe icE 99 (e_getf 0 7 54 L S h) := icE_eq (i := .getfield 10) (len := 3) (x1 := 0) (x2 := 7) (x3 := 12) (x4 := 293) ((fe_99 51).trans rfl) L S h
theorem r_99_54 (L S : List Value) (h : icH) : icE 99 54 L S h = exe icE 99 (e_getf 3 2 57 L S h) := icE_eq (i := .getfield 242) (len := 3) (x1 := 3) (x2 := 2) (x3 := 12) (x4 := 204) ((fe_99 54).trans rfl) L S h
theorem r_99_57 (L S : List Value) (h : icH) : icE 99 57 L S h = exe icE 99 (e_vcal 5 48 2 0 60 L S h) := icE_eq (i := .invokevirtual 100) (len := 3) (x1 := 48) (x2 := 3) (x3 := 5) (x4 := 364) ((fe_99 57).trans rfl) L S h
theorem r_99_60 (L S : List Value) (h : icH) : icE 99 60 L S h = exe icE 99 (e_iret 0 L S h) := icE_eq (i := .ireturn) (len := 1) (x1 := 0) (x2 := 0) (x3 := 0) (x4 := 64) ((fe_99 60).trans rfl) L S h
theorem r_99_61 (L S : List Value) (h : icH) : icE 99 61 L S h = exe icE 99 (e_aload 0 62 L S h) := icE_eq (i := .aload_n 0) (len := 1) (x1 := 0) (x2 := 0) (x3 := 0) (x4 := 64) ((fe_99 61).trans rfl) L S h
theorem r_99_62 (L S : List Value) (h : icH) : icE 99 62 L S h = exe icE 99 (e_vcal 7 113 1 0 65 L S h) := icE_eq (i := .invokevirtual 78) (len := 3) (x1 := 113) (x2 := 3) (x3 := 7) (x4 := 340) ((fe_99 62).trans rfl) L S h
theorem r_99_65 (L S : List Value) (h : icH) : icE 99 65 L S h = exe icE 99 (e_iret 0 L S h) := icE_eq (i := .ireturn) (len := 1) (x1 := 0) (x2 := 0) (x3 := 0) (x4 := 64) ((fe_99 65).trans rfl) L S h
theorem rw_99 : (∀ (L S : List Value) (h : icH), icE 99 0 L S h = exe icE 99 (e_iload 1 1 L S h)) ∧ (∀ (L S : List Value) (h : icH), icE 99 1 L S h = exe icE 99 (e_tsw 1 60 0 2 #[27, 38, 49] L S h)) ∧ (∀ (L S : List Value) (h : icH), icE 99 28 L S h = exe icE 99 (e_aload 0 29 L S h)) ∧ (∀ (L S : List Value) (h : icH), icE 99 29 L S h = exe icE 99 (e_getf 0 7 32 L S h)) ∧ (∀ (L S : List Value) (h : icH), icE 99 32 L S h = exe icE 99 (e_getf 1 2 35 L S h)) ∧ (∀ (L S : List Value) (h : icH), icE 99 35 L S h = exe icE 99 (e_vcal 5 48 2 0 38 L S h)) ∧ (∀ (L S : List Value) (h : icH), icE 99 38 L S h = exe icE 99 (e_iret 0 L S h)) ∧ (∀ (L S : List Value) (h : icH), icE 99 39 L S h = exe icE 99 (e_aload 0 40 L S h)) ∧ (∀ (L S : List Value) (h : icH), icE 99 40 L S h = exe icE 99 (e_getf 0 7 43 L S h)) ∧ (∀ (L S : List Value) (h : icH), icE 99 43 L S h = exe icE 99 (e_getf 2 2 46 L S h)) ∧ (∀ (L S : List Value) (h : icH), icE 99 46 L S h = exe icE 99 (e_vcal 5 48 2 0 49 L S h)) ∧ (∀ (L S : List Value) (h : icH), icE 99 49 L S h = exe icE 99 (e_iret 0 L S h)) ∧ (∀ (L S : List Value) (h : icH), icE 99 50 L S h = exe icE 99 (e_aload 0 51 L S h)) ∧ (∀ (L S : List Value) (h : icH), icE 99 51 L S h = exe icE 99 (e_getf 0 7 54 L S h)) ∧ (∀ (L S : List Value) (h : icH), icE 99 54 L S h = exe icE 99 (e_getf 3 2 57 L S h)) ∧ (∀ (L S : List Value) (h : icH), icE 99 57 L S h = exe icE 99 (e_vcal 5 48 2 0 60 L S h)) ∧ (∀ (L S : List Value) (h : icH), icE 99 60 L S h = exe icE 99 (e_iret 0 L S h)) ∧ (∀ (L S : List Value) (h : icH), icE 99 61 L S h = exe icE 99 (e_aload 0 62 L S h)) ∧ (∀ (L S : List Value) (h : icH), icE 99 62 L S h = exe icE 99 (e_vcal 7 113 1 0 65 L S h)) ∧ (∀ (L S : List Value) (h : icH), icE 99 65 L S h = exe icE 99 (e_iret 0 L S h)) := ⟨r_99_0, r_99_1, r_99_28, r_99_29, r_99_32, r_99_35, r_99_38, r_99_39, r_99_40, r_99_43, r_99_46, r_99_49, r_99_50, r_99_51, r_99_54, r_99_57, r_99_60, r_99_61, r_99_62, r_99_65⟩
theorem t_99_1_0 : ∀ (L S : List Value) (h : icH), exe icE 99 (e_tsw 1 60 0 2 #[27, 38, 49] L (.int (nI 0) :: S) h) = icE 99 28 L S h := fun _ _ _ => rfl
theorem t_99_1_1 : ∀ (L S : List Value) (h : icH), exe icE 99 (e_tsw 1 60 0 2 #[27, 38, 49] L (.int (nI 1) :: S) h) = icE 99 39 L S h := fun _ _ _ => rfl
theorem t_99_1_2 : ∀ (L S : List Value) (h : icH), exe icE 99 (e_tsw 1 60 0 2 #[27, 38, 49] L (.int (nI 2) :: S) h) = icE 99 50 L S h := fun _ _ _ => rfl
theorem tw_99_1 : (∀ (L S : List Value) (h : icH), exe icE 99 (e_tsw 1 60 0 2 #[27, 38, 49] L (.int (nI 0) :: S) h) = icE 99 28 L S h) ∧ (∀ (L S : List Value) (h : icH), exe icE 99 (e_tsw 1 60 0 2 #[27, 38, 49] L (.int (nI 1) :: S) h) = icE 99 39 L S h) ∧ (∀ (L S : List Value) (h : icH), exe icE 99 (e_tsw 1 60 0 2 #[27, 38, 49] L (.int (nI 2) :: S) h) = icE 99 50 L S h) := ⟨t_99_1_0, t_99_1_1, t_99_1_2⟩
theorem td_99_1 {x : Int32} (hx : x.toInt < 0 ∨ 2 < x.toInt) (L S : List Value) (h : icH) : exe icE 99 (e_tsw 1 60 0 2 #[27, 38, 49] L (.int x :: S) h) = icE 99 61 L S h := by
  unfold e_tsw
  dsimp only
  rw [if_pos hx]
  rfl
def rg (g : Nat → Int32) (K H : Nat) (D : Nat → Nat → Int32) : Nat → Int32 := if K < 8 then pw g (19 * K) (pr H D) 19 else pw (va_cpy g g 19 0 133) 133 (pr H D) 19
theorem c_rem {K : Nat} {F : Nat → Nat} (hK : K ≤ 8) (hF : F 3 = 19 * K) (h : icH) (u H R N : Nat) (D : Nat → Nat → Int32) (f : Nat → Nat → Int32) : icE 32 0 [.ref u, dum] [] (HH h u H R N D F f) = some (none, HH h u H R N D (un F 3 (19 * min (K + 1) 8)) (ud f 3 (rg (f 3) K H D))) := by
  unfold rg
  by_cases h8 : K < 8
  · rw [if_pos h8, c_remember h8 hF, show min (K + 1) 8 = K + 1 by omega, Nat.mul_add 19 K 1]
  · have : K = 8 := by omega
    subst this
    rw [if_neg h8, c_rememberF hF]
    rfl
theorem x_hours {h : icH} {ab be : Int64} (h0 : hg h 0 = some (xo ab be)) {F : Nat → Nat} {K n H R N : Nat} (hK : K ≤ 8) (hF : F 3 = 19 * K) {D : Nat → Nat → Int32} (hD : EOK R N D) (hW : WOK D) (hH : H ≤ 9999) (hn : 1 ≤ n) (hn2 : n ≤ 96) (f : Nat → Nat → Int32) : icE 77 0 [.ref 0, .int (nI n)] [] (HH h 1 H R N D F f) = some (some (.int (nI (popc (lb (hsn R N (min n (9999 - H)) H D) (nI 0) N)))), HH h 1 (H + min n (9999 - H)) R N (hsn R N (min n (9999 - H)) H D) (un F 3 (19 * min (K + 1) 8)) (ud f 3 (rg (f 3) K H D))) := by
  have q := W_n hn hn2 (by decide)
  have z := c_passHours (show n < 2 ^ 31 by omega) hD hW hH (HH h 1 H R N D (un F 3 (19 * min (K + 1) 8)) (ud f 3 (rg (f 3) K H D))) (1 + 1)
  rw [HH_e, HH_E] at z
  have y := c_hanging hD.2.1 (HH h 1 (H + min n (9999 - H)) R N (hsn R N (min n (9999 - H)) H D) (un F 3 (19 * min (K + 1) 8)) (ud f 3 (rg (f 3) K H D))) (1 + 1) (H + min n (9999 - H)) R (hsn R N (min n (9999 - H)) H D)
  rw [HH_e] at y
  simp only [SA, rw_77, x0_H h0, c_within, if_neg (bi_10 q), HH_o, HHo1, c_rem hK hF, z, y]
theorem x_snows {h : icH} {ab be : Int64} (h0 : hg h 0 = some (xo ab be)) {F : Nat → Nat} {K n r H R N : Nat} (hK : K ≤ 8) (hF : F 3 = 19 * K) (hR : R ≤ 3) (hr : r < R) (hn : 1 ≤ n) (hn2 : n ≤ 60) {D : Nat → Nat → Int32} (hs : D 4 r < nI 60) (f : Nat → Nat → Int32) : icE 78 0 [.ref 0, .int (nI r), .int (nI n)] [] (HH h 1 H R N D F f) = some (some (.int (imn (D 4 r + nI n) (nI 60))), HH h 1 H R N (ud D 4 (upd (D 4) r (imn (D 4 r + nI n) (nI 60)))) (un F 3 (19 * min (K + 1) 8)) (ud f 3 (rg (f 3) K H D))) := by
  have q1 := R_n hr (show R < 2 ^ 31 by omega)
  have q := W_n hn hn2 (by decide)
  have z := c_addSnow (show r < 3 by omega) (nI n) (HH h 1 H R N D (un F 3 (19 * min (K + 1) 8)) (ud f 3 (rg (f 3) K H D))) (1 + 1) H R N D
  rw [HH_e, HH_E] at z
  simp only [SA, rw_78, x0_H h0, c_within, c_isRoof h0, if_neg (bi_10 q1), if_neg (bi_10 q), HH_o, HHo1, HHc, ia_n (show r < 3 by omega) (show 3 < 2 ^ 31 by decide), if_pos hs, c_rem hK hF, z, ud_s, upd_s]
theorem x_snowsN {h : icH} {ab be : Int64} {rf : Nat → Int32} (h0 : hg h 0 = some (xo ab be)) (h27 : hg h 27 = some (ai 3 rf)) {n r H R N : Nat} (hR : R ≤ 3) (hr : r < R) (hn : 1 ≤ n) (hn2 : n ≤ 60) {D : Nat → Nat → Int32} (hs : ¬ D 4 r < nI 60) (F : Nat → Nat) (f : Nat → Nat → Int32) : icE 78 0 [.ref 0, .int (nI r), .int (nI n)] [] (HH h 1 H R N D F f) = some (some (.int (-3)), HH (rfz h rf 1) 1 H R N D F f) := by
  have q1 := R_n hr (show R < 2 ^ 31 by omega)
  have q := W_n hn hn2 (by decide)
  simp only [SA, rw_78, x0_H h0, c_within, c_isRoof h0, if_neg (bi_10 q1), if_neg (bi_10 q), HH_o, HHo1, HHc, ia_n (show r < 3 by omega) (show 3 < 2 ^ 31 by decide), if_neg hs, c_no h0 h27]
theorem x_heats {h : icH} {ab be : Int64} (h0 : hg h 0 = some (xo ab be)) {F : Nat → Nat} {K r H R N : Nat} (hK : K ≤ 8) (hF : F 3 = 19 * K) (hR : R ≤ 3) (hr : r < R) {e : Int32} (he : nI 0 ≤ e ∧ e ≤ nI 9) {D : Nat → Nat → Int32} (hs : ¬ D 3 r = e) (f : Nat → Nat → Int32) : icE 79 0 [.ref 0, .int (nI r), .int e, dum] [] (HH h 1 H R N D F f) = some (some (.int (D 3 r)), HH h 1 H R N (ud D 3 (upd (D 3) r e)) (un F 3 (19 * min (K + 1) 8)) (ud f 3 (rg (f 3) K H D))) := by
  have q1 := R_n hr (show R < 2 ^ 31 by omega)
  simp only [SA, rw_79, x0_H h0, c_within, c_isRoof h0, if_neg (bi_10 q1), if_neg (bi_10 he), HH_o, HHo1, HHc, ia_n (show r < 3 by omega) (show 3 < 2 ^ 31 by decide), if_neg hs, c_rem hK hF, is_n (show r < 3 by omega) (show 3 < 2 ^ 31 by decide), HHw]
theorem x_heatsN {h : icH} {ab be : Int64} {rf : Nat → Int32} (h0 : hg h 0 = some (xo ab be)) (h27 : hg h 27 = some (ai 3 rf)) {r H R N : Nat} (hR : R ≤ 3) (hr : r < R) {e : Int32} (he : nI 0 ≤ e ∧ e ≤ nI 9) {D : Nat → Nat → Int32} (hs : D 3 r = e) (F : Nat → Nat) (f : Nat → Nat → Int32) : icE 79 0 [.ref 0, .int (nI r), .int e, dum] [] (HH h 1 H R N D F f) = some (some (.int (-3)), HH (rfz h rf 1) 1 H R N D F f) := by
  have q1 := R_n hr (show R < 2 ^ 31 by omega)
  simp only [SA, rw_79, x0_H h0, c_within, c_isRoof h0, if_neg (bi_10 q1), if_neg (bi_10 he), HH_o, HHo1, HHc, ia_n (show r < 3 by omega) (show 3 < 2 ^ 31 by decide), if_pos hs, c_no h0 h27]
theorem x_knocks {h : icH} {ab be : Int64} (h0 : hg h 0 = some (xo ab be)) {F : Nat → Nat} {K i H R N : Nat} (hK : K ≤ 8) (hF : F 3 = 19 * K) (hN : N ≤ 6) (hi : i < N) {D : Nat → Nat → Int32} (hs : D 11 i = 0) (f : Nat → Nat → Int32) : icE 80 0 [.ref 0, .int (nI i)] [] (HH h 1 H R N D F f) = some (some (.int (D 9 i)), HH h 1 H R N (ud D 11 (upd (D 11) i (nI 1))) (un F 3 (19 * min (K + 1) 8)) (ud f 3 (rg (f 3) K H D))) := by
  have q1 := R_n hi (show N < 2 ^ 31 by omega)
  simp only [SA, rw_80, x0_H h0, c_isIcicle h0, if_neg (bi_10 q1), HH_o, HHo1, HHc, ia_n (show i < 6 by omega) (show 6 < 2 ^ 31 by decide), if_pos hs, c_rem hK hF, is_n (show i < 6 by omega) (show 6 < 2 ^ 31 by decide), HHw, ud_n (show (9 : Nat) ≠ 11 by decide)]
theorem x_knocksN {h : icH} {ab be : Int64} {rf : Nat → Int32} (h0 : hg h 0 = some (xo ab be)) (h27 : hg h 27 = some (ai 3 rf)) {i H R N : Nat} (hN : N ≤ 6) (hi : i < N) {D : Nat → Nat → Int32} (hs : ¬ D 11 i = 0) (F : Nat → Nat) (f : Nat → Nat → Int32) : icE 80 0 [.ref 0, .int (nI i)] [] (HH h 1 H R N D F f) = some (some (.int (-3)), HH (rfz h rf 1) 1 H R N D F f) := by
  have q1 := R_n hi (show N < 2 ^ 31 by omega)
  simp only [SA, rw_80, x0_H h0, c_isIcicle h0, if_neg (bi_10 q1), HH_o, HHo1, HHc, ia_n (show i < 6 by omega) (show 6 < 2 ^ 31 by decide), if_neg hs, c_no h0 h27]
theorem x_undo {h : icH} {ab be : Int64} (h0 : hg h 0 = some (xo ab be)) {F : Nat → Nat} {K H0 : Nat} (hK : K < 8) (hF : F 3 = 19 * (K + 1)) {f : Nat → Nat → Int32} (hf : f 3 (19 * K + 0) = nI H0) (H R N : Nat) (D : Nat → Nat → Int32) : icE 81 0 [.ref 0] [] (HH h 1 H R N D F f) = some (some (.int (nI H0)), HH h 1 H0 R N (bk3 D (f 3) (19 * K) 3 6) (un F 3 (19 * K)) f) := by
  have n3 : nj 3 = 152 := rfl
  have w3 : wj 3 = 19 := rfl
  have z := ch_size (show 3 < 4 by decide) (F := F) (by omega) h 1 H R N D f
  rw [hF, w3, Nat.mul_div_cancel_left (K + 1) (by decide : 0 < 19)] at z
  simp only [SA, rw_81, x0_H h0, HH_o, HHo1, HHo, z, if_neg (nI_ne0 (show 0 < K + 1 by omega) (show K + 1 < 2 ^ 31 by omega)), c_goBack hK hF hf]
theorem x_undoN {h : icH} {ab be : Int64} {rf : Nat → Int32} (h0 : hg h 0 = some (xo ab be)) (h27 : hg h 27 = some (ai 3 rf)) {F : Nat → Nat} (hF : F 3 = 0) (H R N : Nat) (D : Nat → Nat → Int32) (f : Nat → Nat → Int32) : icE 81 0 [.ref 0] [] (HH h 1 H R N D F f) = some (some (.int (-3)), HH (rfz h rf 1) 1 H R N D F f) := by
  have n3 : nj 3 = 152 := rfl
  have z := ch_size (show 3 < 4 by decide) (F := F) (by omega) h 1 H R N D f
  rw [hF, Nat.zero_div] at z
  simp only [SA, rw_81, x0_H h0, HH_o, HHo1, HHo, z, if_pos nI_0, c_no h0 h27]
