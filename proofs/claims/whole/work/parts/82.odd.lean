/-! ===== odds: the class, fractions ===== -/
-- cX8_fallsInHours: heads [34]
theorem fe_132 (pc : Nat) : fet 132 pc = look k_132 pc := rfl
theorem r_132_0 (L S : List Value) (h : icH) : icE 132 0 L S h = exe icE 132 (e_aload 0 1 L S h) := icE_eq (i := .aload_n 0) (len := 1) (x1 := 0) (x2 := 0) (x3 := 0) (x4 := 64) ((fe_132 0).trans rfl) L S h
theorem r_132_1 (L S : List Value) (h : icH) : icE 132 1 L S h = exe icE 132 (e_getf 0 7 4 L S h) := icE_eq (i := .getfield 10) (len := 3) (x1 := 0) (x2 := 7) (x3 := 12) (x4 := 293) ((fe_132 1).trans rfl) L S h
theorem r_132_4 (L S : List Value) (h : icH) : icE 132 4 L S h = exe icE 132 (e_getf 0 2 7 L S h) := icE_eq (i := .getfield 82) (len := 3) (x1 := 0) (x2 := 2) (x3 := 12) (x4 := 192) ((fe_132 4).trans rfl) L S h
theorem r_132_7 (L S : List Value) (h : icH) : icE 132 7 L S h = exe icE 132 (e_getf 13 0 10 L S h) := icE_eq (i := .getfield 168) (len := 3) (x1 := 13) (x2 := 0) (x3 := 12) (x4 := 141) ((fe_132 7).trans rfl) L S h
theorem r_132_10 (L S : List Value) (h : icH) : icE 132 10 L S h = exe icE 132 (e_iload 1 11 L S h) := icE_eq (i := .iload_n 1) (len := 1) (x1 := 0) (x2 := 0) (x3 := 0) (x4 := 64) ((fe_132 10).trans rfl) L S h
theorem r_132_11 (L S : List Value) (h : icH) : icE 132 11 L S h = exe icE 132 (e_iald 12 L S h) := icE_eq (i := .iaload) (len := 1) (x1 := 0) (x2 := 0) (x3 := 0) (x4 := 64) ((fe_132 11).trans rfl) L S h
theorem r_132_12 (L S : List Value) (h : icH) : icE 132 12 L S h = exe icE 132 (e_if .eq 17 15 L S h) := icE_eq (i := .ifCond .eq 5) (len := 3) (x1 := 17) (x2 := 0) (x3 := 0) (x4 := 64) ((fe_132 12).trans rfl) L S h
theorem r_132_15 (L S : List Value) (h : icH) : icE 132 15 L S h = icE 132 16 L (.int (nI 0) :: S) h := icE_eq (i := .iconst 0) (len := 1) (x1 := 0) (x2 := 0) (x3 := 0) (x4 := 64) ((fe_132 15).trans rfl) L S h
theorem r_132_16 (L S : List Value) (h : icH) : icE 132 16 L S h = exe icE 132 (e_iret 1 L S h) := icE_eq (i := .ireturn) (len := 1) (x1 := 1) (x2 := 0) (x3 := 0) (x4 := 64) ((fe_132 16).trans rfl) L S h
theorem r_132_17 (L S : List Value) (h : icH) : icE 132 17 L S h = exe icE 132 (e_aload 0 18 L S h) := icE_eq (i := .aload_n 0) (len := 1) (x1 := 0) (x2 := 0) (x3 := 0) (x4 := 64) ((fe_132 17).trans rfl) L S h
theorem r_132_18 (L S : List Value) (h : icH) : icE 132 18 L S h = exe icE 132 (e_getf 7 7 21 L S h) := icE_eq (i := .getfield 45) (len := 3) (x1 := 7) (x2 := 7) (x3 := 12) (x4 := 300) ((fe_132 18).trans rfl) L S h
theorem r_132_21 (L S : List Value) (h : icH) : icE 132 21 L S h = exe icE 132 (e_aload 0 22 L S h) := icE_eq (i := .aload_n 0) (len := 1) (x1 := 0) (x2 := 0) (x3 := 0) (x4 := 64) ((fe_132 21).trans rfl) L S h
theorem r_132_22 (L S : List Value) (h : icH) : icE 132 22 L S h = exe icE 132 (e_getf 0 7 25 L S h) := icE_eq (i := .getfield 10) (len := 3) (x1 := 0) (x2 := 7) (x3 := 12) (x4 := 293) ((fe_132 22).trans rfl) L S h
theorem r_132_25 (L S : List Value) (h : icH) : icE 132 25 L S h = exe icE 132 (e_getf 0 2 28 L S h) := icE_eq (i := .getfield 82) (len := 3) (x1 := 0) (x2 := 2) (x3 := 12) (x4 := 192) ((fe_132 25).trans rfl) L S h
theorem r_132_28 (L S : List Value) (h : icH) : icE 132 28 L S h = exe icE 132 (e_vcal 0 4 2 1 31 L S h) := icE_eq (i := .invokevirtual 139) (len := 3) (x1 := 4) (x2 := 3) (x3 := 0) (x4 := 551) ((fe_132 28).trans rfl) L S h
theorem r_132_31 (L S : List Value) (h : icH) : icE 132 31 L S h = icE 132 32 L (.int (nI 0) :: S) h := icE_eq (i := .iconst 0) (len := 1) (x1 := 0) (x2 := 0) (x3 := 0) (x4 := 64) ((fe_132 31).trans rfl) L S h
theorem r_132_32 (L S : List Value) (h : icH) : icE 132 32 L S h = exe icE 132 (e_istore 4 34 L S h) := icE_eq (i := .istore 4) (len := 2) (x1 := 0) (x2 := 0) (x3 := 0) (x4 := 64) ((fe_132 32).trans rfl) L S h
theorem rh_132_34 (L S : List Value) (h : icH) : icE 132 34 L S h = exe icE 132 (e_iload 4 36 L S h) := icE_eq (i := .iload 4) (len := 2) (x1 := 0) (x2 := 0) (x3 := 0) (x4 := 64) ((fe_132 34).trans rfl) L S h
theorem r_132_36 (L S : List Value) (h : icH) : icE 132 36 L S h = exe icE 132 (e_iload 2 37 L S h) := icE_eq (i := .iload_n 2) (len := 1) (x1 := 0) (x2 := 0) (x3 := 0) (x4 := 64) ((fe_132 36).trans rfl) L S h
theorem r_132_37 (L S : List Value) (h : icH) : icE 132 37 L S h = exe icE 132 (e_cmp .ge 61 40 L S h) := icE_eq (i := .if_icmp .ge 24) (len := 3) (x1 := 61) (x2 := 0) (x3 := 0) (x4 := 64) ((fe_132 37).trans rfl) L S h
theorem r_132_40 (L S : List Value) (h : icH) : icE 132 40 L S h = exe icE 132 (e_aload 0 41 L S h) := icE_eq (i := .aload_n 0) (len := 1) (x1 := 0) (x2 := 0) (x3 := 0) (x4 := 64) ((fe_132 40).trans rfl) L S h
theorem r_132_41 (L S : List Value) (h : icH) : icE 132 41 L S h = exe icE 132 (e_getf 7 7 44 L S h) := icE_eq (i := .getfield 45) (len := 3) (x1 := 7) (x2 := 7) (x3 := 12) (x4 := 300) ((fe_132 41).trans rfl) L S h
theorem r_132_44 (L S : List Value) (h : icH) : icE 132 44 L S h = exe icE 132 (e_iload 3 45 L S h) := icE_eq (i := .iload_n 3) (len := 1) (x1 := 0) (x2 := 0) (x3 := 0) (x4 := 64) ((fe_132 44).trans rfl) L S h
theorem r_132_45 (L S : List Value) (h : icH) : icE 132 45 L S h = exe icE 132 (e_iload 4 47 L S h) := icE_eq (i := .iload 4) (len := 2) (x1 := 0) (x2 := 0) (x3 := 0) (x4 := 64) ((fe_132 45).trans rfl) L S h
theorem r_132_47 (L S : List Value) (h : icH) : icE 132 47 L S h = exe icE 132 (e_bin (fun x y => x >>> (y &&& 31)) 48 L S h) := icE_eq (i := .ishr) (len := 1) (x1 := 0) (x2 := 0) (x3 := 0) (x4 := 64) ((fe_132 47).trans rfl) L S h
theorem r_132_48 (L S : List Value) (h : icH) : icE 132 48 L S h = icE 132 49 L (.int (nI 1) :: S) h := icE_eq (i := .iconst 1) (len := 1) (x1 := 0) (x2 := 0) (x3 := 0) (x4 := 64) ((fe_132 48).trans rfl) L S h
theorem r_132_49 (L S : List Value) (h : icH) : icE 132 49 L S h = exe icE 132 (e_bin (fun x y => x &&& y) 50 L S h) := icE_eq (i := .iand) (len := 1) (x1 := 0) (x2 := 0) (x3 := 0) (x4 := 64) ((fe_132 49).trans rfl) L S h
theorem r_132_50 (L S : List Value) (h : icH) : icE 132 50 L S h = icE 132 51 L (.int (nI 3) :: S) h := icE_eq (i := .iconst 3) (len := 1) (x1 := 0) (x2 := 0) (x3 := 0) (x4 := 64) ((fe_132 50).trans rfl) L S h
theorem r_132_51 (L S : List Value) (h : icH) : icE 132 51 L S h = exe icE 132 (e_bin (fun x y => x * y) 52 L S h) := icE_eq (i := .imul) (len := 1) (x1 := 0) (x2 := 0) (x3 := 0) (x4 := 64) ((fe_132 51).trans rfl) L S h
theorem r_132_52 (L S : List Value) (h : icH) : icE 132 52 L S h = exe icE 132 (e_vcal 0 9 4 1 55 L S h) := icE_eq (i := .invokevirtual 193) (len := 3) (x1 := 9) (x2 := 3) (x3 := 0) (x4 := 673) ((fe_132 52).trans rfl) L S h
theorem r_132_55 (L S : List Value) (h : icH) : icE 132 55 L S h = exe icE 132 (e_iinc 4 (nI 1) 58 L S h) := icE_eq (i := .iinc 4 1) (len := 3) (x1 := 0) (x2 := 0) (x3 := 0) (x4 := 64) ((fe_132 55).trans rfl) L S h
theorem r_132_58 (L S : List Value) (h : icH) : icE 132 58 L S h = icE 132 34 L S h := icE_eq (i := .goto (-24)) (len := 3) (x1 := 34) (x2 := 0) (x3 := 0) (x4 := 64) ((fe_132 58).trans rfl) L S h
theorem r_132_61 (L S : List Value) (h : icH) : icE 132 61 L S h = exe icE 132 (e_aload 0 62 L S h) := icE_eq (i := .aload_n 0) (len := 1) (x1 := 0) (x2 := 0) (x3 := 0) (x4 := 64) ((fe_132 61).trans rfl) L S h
theorem r_132_62 (L S : List Value) (h : icH) : icE 132 62 L S h = exe icE 132 (e_getf 7 7 65 L S h) := icE_eq (i := .getfield 45) (len := 3) (x1 := 7) (x2 := 7) (x3 := 12) (x4 := 300) ((fe_132 62).trans rfl) L S h
theorem r_132_65 (L S : List Value) (h : icH) : icE 132 65 L S h = exe icE 132 (e_getf 13 0 68 L S h) := icE_eq (i := .getfield 168) (len := 3) (x1 := 13) (x2 := 0) (x3 := 12) (x4 := 141) ((fe_132 65).trans rfl) L S h
theorem r_132_68 (L S : List Value) (h : icH) : icE 132 68 L S h = exe icE 132 (e_iload 1 69 L S h) := icE_eq (i := .iload_n 1) (len := 1) (x1 := 0) (x2 := 0) (x3 := 0) (x4 := 64) ((fe_132 68).trans rfl) L S h
theorem r_132_69 (L S : List Value) (h : icH) : icE 132 69 L S h = exe icE 132 (e_iald 70 L S h) := icE_eq (i := .iaload) (len := 1) (x1 := 0) (x2 := 0) (x3 := 0) (x4 := 64) ((fe_132 69).trans rfl) L S h
theorem r_132_70 (L S : List Value) (h : icH) : icE 132 70 L S h = icE 132 71 L (.int (nI 2) :: S) h := icE_eq (i := .iconst 2) (len := 1) (x1 := 0) (x2 := 0) (x3 := 0) (x4 := 64) ((fe_132 70).trans rfl) L S h
theorem r_132_71 (L S : List Value) (h : icH) : icE 132 71 L S h = exe icE 132 (e_cmp .ne 78 74 L S h) := icE_eq (i := .if_icmp .ne 7) (len := 3) (x1 := 78) (x2 := 0) (x3 := 0) (x4 := 64) ((fe_132 71).trans rfl) L S h
theorem r_132_74 (L S : List Value) (h : icH) : icE 132 74 L S h = icE 132 75 L (.int (nI 1) :: S) h := icE_eq (i := .iconst 1) (len := 1) (x1 := 0) (x2 := 0) (x3 := 0) (x4 := 64) ((fe_132 74).trans rfl) L S h
theorem r_132_75 (L S : List Value) (h : icH) : icE 132 75 L S h = icE 132 79 L S h := icE_eq (i := .goto 4) (len := 3) (x1 := 79) (x2 := 0) (x3 := 0) (x4 := 64) ((fe_132 75).trans rfl) L S h
theorem r_132_78 (L S : List Value) (h : icH) : icE 132 78 L S h = icE 132 79 L (.int (nI 0) :: S) h := icE_eq (i := .iconst 0) (len := 1) (x1 := 0) (x2 := 0) (x3 := 0) (x4 := 64) ((fe_132 78).trans rfl) L S h
theorem r_132_79 (L S : List Value) (h : icH) : icE 132 79 L S h = exe icE 132 (e_iret 1 L S h) := icE_eq (i := .ireturn) (len := 1) (x1 := 1) (x2 := 0) (x3 := 0) (x4 := 64) ((fe_132 79).trans rfl) L S h
theorem rw_132 : (∀ (L S : List Value) (h : icH), icE 132 0 L S h = exe icE 132 (e_aload 0 1 L S h)) ∧ (∀ (L S : List Value) (h : icH), icE 132 1 L S h = exe icE 132 (e_getf 0 7 4 L S h)) ∧ (∀ (L S : List Value) (h : icH), icE 132 4 L S h = exe icE 132 (e_getf 0 2 7 L S h)) ∧ (∀ (L S : List Value) (h : icH), icE 132 7 L S h = exe icE 132 (e_getf 13 0 10 L S h)) ∧ (∀ (L S : List Value) (h : icH), icE 132 10 L S h = exe icE 132 (e_iload 1 11 L S h)) ∧ (∀ (L S : List Value) (h : icH), icE 132 11 L S h = exe icE 132 (e_iald 12 L S h)) ∧ (∀ (L S : List Value) (h : icH), icE 132 12 L S h = exe icE 132 (e_if .eq 17 15 L S h)) ∧ (∀ (L S : List Value) (h : icH), icE 132 15 L S h = icE 132 16 L (.int (nI 0) :: S) h) ∧ (∀ (L S : List Value) (h : icH), icE 132 16 L S h = exe icE 132 (e_iret 1 L S h)) ∧ (∀ (L S : List Value) (h : icH), icE 132 17 L S h = exe icE 132 (e_aload 0 18 L S h)) ∧ (∀ (L S : List Value) (h : icH), icE 132 18 L S h = exe icE 132 (e_getf 7 7 21 L S h)) ∧ (∀ (L S : List Value) (h : icH), icE 132 21 L S h = exe icE 132 (e_aload 0 22 L S h)) ∧ (∀ (L S : List Value) (h : icH), icE 132 22 L S h = exe icE 132 (e_getf 0 7 25 L S h)) ∧ (∀ (L S : List Value) (h : icH), icE 132 25 L S h = exe icE 132 (e_getf 0 2 28 L S h)) ∧ (∀ (L S : List Value) (h : icH), icE 132 28 L S h = exe icE 132 (e_vcal 0 4 2 1 31 L S h)) ∧ (∀ (L S : List Value) (h : icH), icE 132 31 L S h = icE 132 32 L (.int (nI 0) :: S) h) ∧ (∀ (L S : List Value) (h : icH), icE 132 32 L S h = exe icE 132 (e_istore 4 34 L S h)) ∧ (∀ (L S : List Value) (h : icH), icE 132 36 L S h = exe icE 132 (e_iload 2 37 L S h)) ∧ (∀ (L S : List Value) (h : icH), icE 132 37 L S h = exe icE 132 (e_cmp .ge 61 40 L S h)) ∧ (∀ (L S : List Value) (h : icH), icE 132 40 L S h = exe icE 132 (e_aload 0 41 L S h)) ∧ (∀ (L S : List Value) (h : icH), icE 132 41 L S h = exe icE 132 (e_getf 7 7 44 L S h)) ∧ (∀ (L S : List Value) (h : icH), icE 132 44 L S h = exe icE 132 (e_iload 3 45 L S h)) ∧ (∀ (L S : List Value) (h : icH), icE 132 45 L S h = exe icE 132 (e_iload 4 47 L S h)) ∧ (∀ (L S : List Value) (h : icH), icE 132 47 L S h = exe icE 132 (e_bin (fun x y => x >>> (y &&& 31)) 48 L S h)) ∧ (∀ (L S : List Value) (h : icH), icE 132 48 L S h = icE 132 49 L (.int (nI 1) :: S) h) ∧ (∀ (L S : List Value) (h : icH), icE 132 49 L S h = exe icE 132 (e_bin (fun x y => x &&& y) 50 L S h)) ∧ (∀ (L S : List Value) (h : icH), icE 132 50 L S h = icE 132 51 L (.int (nI 3) :: S) h) ∧ (∀ (L S : List Value) (h : icH), icE 132 51 L S h = exe icE 132 (e_bin (fun x y => x * y) 52 L S h)) ∧ (∀ (L S : List Value) (h : icH), icE 132 52 L S h = exe icE 132 (e_vcal 0 9 4 1 55 L S h)) ∧ (∀ (L S : List Value) (h : icH), icE 132 55 L S h = exe icE 132 (e_iinc 4 (nI 1) 58 L S h)) ∧ (∀ (L S : List Value) (h : icH), icE 132 58 L S h = icE 132 34 L S h) ∧ (∀ (L S : List Value) (h : icH), icE 132 61 L S h = exe icE 132 (e_aload 0 62 L S h)) ∧ (∀ (L S : List Value) (h : icH), icE 132 62 L S h = exe icE 132 (e_getf 7 7 65 L S h)) ∧ (∀ (L S : List Value) (h : icH), icE 132 65 L S h = exe icE 132 (e_getf 13 0 68 L S h)) ∧ (∀ (L S : List Value) (h : icH), icE 132 68 L S h = exe icE 132 (e_iload 1 69 L S h)) ∧ (∀ (L S : List Value) (h : icH), icE 132 69 L S h = exe icE 132 (e_iald 70 L S h)) ∧ (∀ (L S : List Value) (h : icH), icE 132 70 L S h = icE 132 71 L (.int (nI 2) :: S) h) ∧ (∀ (L S : List Value) (h : icH), icE 132 71 L S h = exe icE 132 (e_cmp .ne 78 74 L S h)) ∧ (∀ (L S : List Value) (h : icH), icE 132 74 L S h = icE 132 75 L (.int (nI 1) :: S) h) ∧ (∀ (L S : List Value) (h : icH), icE 132 75 L S h = icE 132 79 L S h) ∧ (∀ (L S : List Value) (h : icH), icE 132 78 L S h = icE 132 79 L (.int (nI 0) :: S) h) ∧ (∀ (L S : List Value) (h : icH), icE 132 79 L S h = exe icE 132 (e_iret 1 L S h)) := ⟨r_132_0, r_132_1, r_132_4, r_132_7, r_132_10, r_132_11, r_132_12, r_132_15, r_132_16, r_132_17, r_132_18, r_132_21, r_132_22, r_132_25, r_132_28, r_132_31, r_132_32, r_132_36, r_132_37, r_132_40, r_132_41, r_132_44, r_132_45, r_132_47, r_132_48, r_132_49, r_132_50, r_132_51, r_132_52, r_132_55, r_132_58, r_132_61, r_132_62, r_132_65, r_132_68, r_132_69, r_132_70, r_132_71, r_132_74, r_132_75, r_132_78, r_132_79⟩
-- cX8_weight: heads [5]
theorem fe_133 (pc : Nat) : fet 133 pc = look k_133 pc := rfl
theorem r_133_0 (L S : List Value) (h : icH) : icE 133 0 L S h = icE 133 1 L (.long (lN 1) :: S) h := icE_eq (i := .lconst 1) (len := 1) (x1 := 0) (x2 := 0) (x3 := 0) (x4 := 64) ((fe_133 0).trans rfl) L S h
theorem r_133_1 (L S : List Value) (h : icH) : icE 133 1 L S h = exe icE 133 (e_lstore 3 2 L S h) := icE_eq (i := .lstore_n 3) (len := 1) (x1 := 0) (x2 := 0) (x3 := 0) (x4 := 64) ((fe_133 1).trans rfl) L S h
theorem r_133_2 (L S : List Value) (h : icH) : icE 133 2 L S h = icE 133 3 L (.int (nI 0) :: S) h := icE_eq (i := .iconst 0) (len := 1) (x1 := 0) (x2 := 0) (x3 := 0) (x4 := 64) ((fe_133 2).trans rfl) L S h
theorem r_133_3 (L S : List Value) (h : icH) : icE 133 3 L S h = exe icE 133 (e_istore 5 5 L S h) := icE_eq (i := .istore 5) (len := 2) (x1 := 0) (x2 := 0) (x3 := 0) (x4 := 64) ((fe_133 3).trans rfl) L S h
theorem rh_133_5 (L S : List Value) (h : icH) : icE 133 5 L S h = exe icE 133 (e_iload 5 7 L S h) := icE_eq (i := .iload 5) (len := 2) (x1 := 0) (x2 := 0) (x3 := 0) (x4 := 64) ((fe_133 5).trans rfl) L S h
theorem r_133_7 (L S : List Value) (h : icH) : icE 133 7 L S h = exe icE 133 (e_iload 0 8 L S h) := icE_eq (i := .iload_n 0) (len := 1) (x1 := 0) (x2 := 0) (x3 := 0) (x4 := 64) ((fe_133 7).trans rfl) L S h
theorem r_133_8 (L S : List Value) (h : icH) : icE 133 8 L S h = exe icE 133 (e_cmp .ge 39 11 L S h) := icE_eq (i := .if_icmp .ge 31) (len := 3) (x1 := 39) (x2 := 0) (x3 := 0) (x4 := 64) ((fe_133 8).trans rfl) L S h
theorem r_133_11 (L S : List Value) (h : icH) : icE 133 11 L S h = exe icE 133 (e_lload 3 12 L S h) := icE_eq (i := .lload_n 3) (len := 1) (x1 := 0) (x2 := 0) (x3 := 0) (x4 := 64) ((fe_133 11).trans rfl) L S h
theorem r_133_12 (L S : List Value) (h : icH) : icE 133 12 L S h = exe icE 133 (e_iload 2 13 L S h) := icE_eq (i := .iload_n 2) (len := 1) (x1 := 0) (x2 := 0) (x3 := 0) (x4 := 64) ((fe_133 12).trans rfl) L S h
theorem r_133_13 (L S : List Value) (h : icH) : icE 133 13 L S h = exe icE 133 (e_iload 5 15 L S h) := icE_eq (i := .iload 5) (len := 2) (x1 := 0) (x2 := 0) (x3 := 0) (x4 := 64) ((fe_133 13).trans rfl) L S h
theorem r_133_15 (L S : List Value) (h : icH) : icE 133 15 L S h = exe icE 133 (e_bin (fun x y => x >>> (y &&& 31)) 16 L S h) := icE_eq (i := .ishr) (len := 1) (x1 := 0) (x2 := 0) (x3 := 0) (x4 := 64) ((fe_133 15).trans rfl) L S h
theorem r_133_16 (L S : List Value) (h : icH) : icE 133 16 L S h = icE 133 17 L (.int (nI 1) :: S) h := icE_eq (i := .iconst 1) (len := 1) (x1 := 0) (x2 := 0) (x3 := 0) (x4 := 64) ((fe_133 16).trans rfl) L S h
theorem r_133_17 (L S : List Value) (h : icH) : icE 133 17 L S h = exe icE 133 (e_bin (fun x y => x &&& y) 18 L S h) := icE_eq (i := .iand) (len := 1) (x1 := 0) (x2 := 0) (x3 := 0) (x4 := 64) ((fe_133 17).trans rfl) L S h
theorem r_133_18 (L S : List Value) (h : icH) : icE 133 18 L S h = exe icE 133 (e_if .eq 26 21 L S h) := icE_eq (i := .ifCond .eq 8) (len := 3) (x1 := 26) (x2 := 0) (x3 := 0) (x4 := 64) ((fe_133 18).trans rfl) L S h
theorem r_133_21 (L S : List Value) (h : icH) : icE 133 21 L S h = exe icE 133 (e_iload 1 22 L S h) := icE_eq (i := .iload_n 1) (len := 1) (x1 := 0) (x2 := 0) (x3 := 0) (x4 := 64) ((fe_133 21).trans rfl) L S h
theorem r_133_22 (L S : List Value) (h : icH) : icE 133 22 L S h = exe icE 133 (e_i2l 23 L S h) := icE_eq (i := .i2l) (len := 1) (x1 := 0) (x2 := 0) (x3 := 0) (x4 := 64) ((fe_133 22).trans rfl) L S h
theorem r_133_23 (L S : List Value) (h : icH) : icE 133 23 L S h = icE 133 31 L S h := icE_eq (i := .goto 8) (len := 3) (x1 := 31) (x2 := 0) (x3 := 0) (x4 := 64) ((fe_133 23).trans rfl) L S h
theorem r_133_26 (L S : List Value) (h : icH) : icE 133 26 L S h = icE 133 28 L (.int (nI 10) :: S) h := icE_eq (i := .bipush 10) (len := 2) (x1 := 0) (x2 := 0) (x3 := 0) (x4 := 64) ((fe_133 26).trans rfl) L S h
theorem r_133_28 (L S : List Value) (h : icH) : icE 133 28 L S h = exe icE 133 (e_iload 1 29 L S h) := icE_eq (i := .iload_n 1) (len := 1) (x1 := 0) (x2 := 0) (x3 := 0) (x4 := 64) ((fe_133 28).trans rfl) L S h
theorem r_133_29 (L S : List Value) (h : icH) : icE 133 29 L S h = exe icE 133 (e_bin (fun x y => x - y) 30 L S h) := icE_eq (i := .isub) (len := 1) (x1 := 0) (x2 := 0) (x3 := 0) (x4 := 64) ((fe_133 29).trans rfl) L S h
theorem r_133_30 (L S : List Value) (h : icH) : icE 133 30 L S h = exe icE 133 (e_i2l 31 L S h) := icE_eq (i := .i2l) (len := 1) (x1 := 0) (x2 := 0) (x3 := 0) (x4 := 64) ((fe_133 30).trans rfl) L S h
theorem r_133_31 (L S : List Value) (h : icH) : icE 133 31 L S h = exe icE 133 (e_lbi (fun x y => x * y) 32 L S h) := icE_eq (i := .lmul) (len := 1) (x1 := 0) (x2 := 0) (x3 := 0) (x4 := 64) ((fe_133 31).trans rfl) L S h
theorem r_133_32 (L S : List Value) (h : icH) : icE 133 32 L S h = exe icE 133 (e_lstore 3 33 L S h) := icE_eq (i := .lstore_n 3) (len := 1) (x1 := 0) (x2 := 0) (x3 := 0) (x4 := 64) ((fe_133 32).trans rfl) L S h
theorem r_133_33 (L S : List Value) (h : icH) : icE 133 33 L S h = exe icE 133 (e_iinc 5 (nI 1) 36 L S h) := icE_eq (i := .iinc 5 1) (len := 3) (x1 := 0) (x2 := 0) (x3 := 0) (x4 := 64) ((fe_133 33).trans rfl) L S h
theorem r_133_36 (L S : List Value) (h : icH) : icE 133 36 L S h = icE 133 5 L S h := icE_eq (i := .goto (-31)) (len := 3) (x1 := 5) (x2 := 0) (x3 := 0) (x4 := 64) ((fe_133 36).trans rfl) L S h
theorem r_133_39 (L S : List Value) (h : icH) : icE 133 39 L S h = exe icE 133 (e_lload 3 40 L S h) := icE_eq (i := .lload_n 3) (len := 1) (x1 := 0) (x2 := 0) (x3 := 0) (x4 := 64) ((fe_133 39).trans rfl) L S h
theorem r_133_40 (L S : List Value) (h : icH) : icE 133 40 L S h = exe icE 133 (e_lret L S h) := icE_eq (i := .lreturn) (len := 1) (x1 := 0) (x2 := 0) (x3 := 0) (x4 := 64) ((fe_133 40).trans rfl) L S h
theorem rw_133 : (∀ (L S : List Value) (h : icH), icE 133 0 L S h = icE 133 1 L (.long (lN 1) :: S) h) ∧ (∀ (L S : List Value) (h : icH), icE 133 1 L S h = exe icE 133 (e_lstore 3 2 L S h)) ∧ (∀ (L S : List Value) (h : icH), icE 133 2 L S h = icE 133 3 L (.int (nI 0) :: S) h) ∧ (∀ (L S : List Value) (h : icH), icE 133 3 L S h = exe icE 133 (e_istore 5 5 L S h)) ∧ (∀ (L S : List Value) (h : icH), icE 133 7 L S h = exe icE 133 (e_iload 0 8 L S h)) ∧ (∀ (L S : List Value) (h : icH), icE 133 8 L S h = exe icE 133 (e_cmp .ge 39 11 L S h)) ∧ (∀ (L S : List Value) (h : icH), icE 133 11 L S h = exe icE 133 (e_lload 3 12 L S h)) ∧ (∀ (L S : List Value) (h : icH), icE 133 12 L S h = exe icE 133 (e_iload 2 13 L S h)) ∧ (∀ (L S : List Value) (h : icH), icE 133 13 L S h = exe icE 133 (e_iload 5 15 L S h)) ∧ (∀ (L S : List Value) (h : icH), icE 133 15 L S h = exe icE 133 (e_bin (fun x y => x >>> (y &&& 31)) 16 L S h)) ∧ (∀ (L S : List Value) (h : icH), icE 133 16 L S h = icE 133 17 L (.int (nI 1) :: S) h) ∧ (∀ (L S : List Value) (h : icH), icE 133 17 L S h = exe icE 133 (e_bin (fun x y => x &&& y) 18 L S h)) ∧ (∀ (L S : List Value) (h : icH), icE 133 18 L S h = exe icE 133 (e_if .eq 26 21 L S h)) ∧ (∀ (L S : List Value) (h : icH), icE 133 21 L S h = exe icE 133 (e_iload 1 22 L S h)) ∧ (∀ (L S : List Value) (h : icH), icE 133 22 L S h = exe icE 133 (e_i2l 23 L S h)) ∧ (∀ (L S : List Value) (h : icH), icE 133 23 L S h = icE 133 31 L S h) ∧ (∀ (L S : List Value) (h : icH), icE 133 26 L S h = icE 133 28 L (.int (nI 10) :: S) h) ∧ (∀ (L S : List Value) (h : icH), icE 133 28 L S h = exe icE 133 (e_iload 1 29 L S h)) ∧ (∀ (L S : List Value) (h : icH), icE 133 29 L S h = exe icE 133 (e_bin (fun x y => x - y) 30 L S h)) ∧ (∀ (L S : List Value) (h : icH), icE 133 30 L S h = exe icE 133 (e_i2l 31 L S h)) ∧ (∀ (L S : List Value) (h : icH), icE 133 31 L S h = exe icE 133 (e_lbi (fun x y => x * y) 32 L S h)) ∧ (∀ (L S : List Value) (h : icH), icE 133 32 L S h = exe icE 133 (e_lstore 3 33 L S h)) ∧ (∀ (L S : List Value) (h : icH), icE 133 33 L S h = exe icE 133 (e_iinc 5 (nI 1) 36 L S h)) ∧ (∀ (L S : List Value) (h : icH), icE 133 36 L S h = icE 133 5 L S h) ∧ (∀ (L S : List Value) (h : icH), icE 133 39 L S h = exe icE 133 (e_lload 3 40 L S h)) ∧ (∀ (L S : List Value) (h : icH), icE 133 40 L S h = exe icE 133 (e_lret L S h)) := ⟨r_133_0, r_133_1, r_133_2, r_133_3, r_133_7, r_133_8, r_133_11, r_133_12, r_133_13, r_133_15, r_133_16, r_133_17, r_133_18, r_133_21, r_133_22, r_133_23, r_133_26, r_133_28, r_133_29, r_133_30, r_133_31, r_133_32, r_133_33, r_133_36, r_133_39, r_133_40⟩
-- cX8_keepFraction: heads [9]
theorem fe_134 (pc : Nat) : fet 134 pc = look k_134 pc := rfl
theorem r_134_0 (L S : List Value) (h : icH) : icE 134 0 L S h = exe icE 134 (e_lload 1 1 L S h) := icE_eq (i := .lload_n 1) (len := 1) (x1 := 0) (x2 := 0) (x3 := 0) (x4 := 64) ((fe_134 0).trans rfl) L S h
theorem r_134_1 (L S : List Value) (h : icH) : icE 134 1 L S h = exe icE 134 (e_lstore 5 3 L S h) := icE_eq (i := .lstore 5) (len := 2) (x1 := 0) (x2 := 0) (x3 := 0) (x4 := 64) ((fe_134 1).trans rfl) L S h
theorem r_134_3 (L S : List Value) (h : icH) : icE 134 3 L S h = exe icE 134 (e_lload 3 4 L S h) := icE_eq (i := .lload_n 3) (len := 1) (x1 := 0) (x2 := 0) (x3 := 0) (x4 := 64) ((fe_134 3).trans rfl) L S h
theorem r_134_4 (L S : List Value) (h : icH) : icE 134 4 L S h = exe icE 134 (e_lstore 7 6 L S h) := icE_eq (i := .lstore 7) (len := 2) (x1 := 0) (x2 := 0) (x3 := 0) (x4 := 64) ((fe_134 4).trans rfl) L S h
theorem r_134_6 (L S : List Value) (h : icH) : icE 134 6 L S h = icE 134 7 L (.int (nI 0) :: S) h := icE_eq (i := .iconst 0) (len := 1) (x1 := 0) (x2 := 0) (x3 := 0) (x4 := 64) ((fe_134 6).trans rfl) L S h
theorem r_134_7 (L S : List Value) (h : icH) : icE 134 7 L S h = exe icE 134 (e_istore 9 9 L S h) := icE_eq (i := .istore 9) (len := 2) (x1 := 0) (x2 := 0) (x3 := 0) (x4 := 64) ((fe_134 7).trans rfl) L S h
theorem rh_134_9 (L S : List Value) (h : icH) : icE 134 9 L S h = exe icE 134 (e_iload 9 11 L S h) := icE_eq (i := .iload 9) (len := 2) (x1 := 0) (x2 := 0) (x3 := 0) (x4 := 64) ((fe_134 9).trans rfl) L S h
theorem r_134_11 (L S : List Value) (h : icH) : icE 134 11 L S h = icE 134 13 L (.int (nI 100) :: S) h := icE_eq (i := .bipush 100) (len := 2) (x1 := 0) (x2 := 0) (x3 := 0) (x4 := 64) ((fe_134 11).trans rfl) L S h
theorem r_134_13 (L S : List Value) (h : icH) : icE 134 13 L S h = exe icE 134 (e_cmp .ge 44 16 L S h) := icE_eq (i := .if_icmp .ge 31) (len := 3) (x1 := 44) (x2 := 0) (x3 := 0) (x4 := 64) ((fe_134 13).trans rfl) L S h
theorem r_134_16 (L S : List Value) (h : icH) : icE 134 16 L S h = exe icE 134 (e_lload 7 18 L S h) := icE_eq (i := .lload 7) (len := 2) (x1 := 0) (x2 := 0) (x3 := 0) (x4 := 64) ((fe_134 16).trans rfl) L S h
theorem r_134_18 (L S : List Value) (h : icH) : icE 134 18 L S h = icE 134 19 L (.long (lN 0) :: S) h := icE_eq (i := .lconst 0) (len := 1) (x1 := 0) (x2 := 0) (x3 := 0) (x4 := 64) ((fe_134 18).trans rfl) L S h
theorem r_134_19 (L S : List Value) (h : icH) : icE 134 19 L S h = exe icE 134 (e_lcmp 20 L S h) := icE_eq (i := .lcmp) (len := 1) (x1 := 0) (x2 := 0) (x3 := 0) (x4 := 64) ((fe_134 19).trans rfl) L S h
theorem r_134_20 (L S : List Value) (h : icH) : icE 134 20 L S h = exe icE 134 (e_if .eq 44 23 L S h) := icE_eq (i := .ifCond .eq 24) (len := 3) (x1 := 44) (x2 := 0) (x3 := 0) (x4 := 64) ((fe_134 20).trans rfl) L S h
theorem r_134_23 (L S : List Value) (h : icH) : icE 134 23 L S h = exe icE 134 (e_lload 5 25 L S h) := icE_eq (i := .lload 5) (len := 2) (x1 := 0) (x2 := 0) (x3 := 0) (x4 := 64) ((fe_134 23).trans rfl) L S h
theorem r_134_25 (L S : List Value) (h : icH) : icE 134 25 L S h = exe icE 134 (e_lload 7 27 L S h) := icE_eq (i := .lload 7) (len := 2) (x1 := 0) (x2 := 0) (x3 := 0) (x4 := 64) ((fe_134 25).trans rfl) L S h
theorem r_134_27 (L S : List Value) (h : icH) : icE 134 27 L S h = exe icE 134 (e_ldv (fun x y => x - x / y * y) 28 L S h) := icE_eq (i := .lrem) (len := 1) (x1 := 0) (x2 := 0) (x3 := 0) (x4 := 64) ((fe_134 27).trans rfl) L S h
theorem r_134_28 (L S : List Value) (h : icH) : icE 134 28 L S h = exe icE 134 (e_lstore 10 30 L S h) := icE_eq (i := .lstore 10) (len := 2) (x1 := 0) (x2 := 0) (x3 := 0) (x4 := 64) ((fe_134 28).trans rfl) L S h
theorem r_134_30 (L S : List Value) (h : icH) : icE 134 30 L S h = exe icE 134 (e_lload 7 32 L S h) := icE_eq (i := .lload 7) (len := 2) (x1 := 0) (x2 := 0) (x3 := 0) (x4 := 64) ((fe_134 30).trans rfl) L S h
theorem r_134_32 (L S : List Value) (h : icH) : icE 134 32 L S h = exe icE 134 (e_lstore 5 34 L S h) := icE_eq (i := .lstore 5) (len := 2) (x1 := 0) (x2 := 0) (x3 := 0) (x4 := 64) ((fe_134 32).trans rfl) L S h
theorem r_134_34 (L S : List Value) (h : icH) : icE 134 34 L S h = exe icE 134 (e_lload 10 36 L S h) := icE_eq (i := .lload 10) (len := 2) (x1 := 0) (x2 := 0) (x3 := 0) (x4 := 64) ((fe_134 34).trans rfl) L S h
theorem r_134_36 (L S : List Value) (h : icH) : icE 134 36 L S h = exe icE 134 (e_lstore 7 38 L S h) := icE_eq (i := .lstore 7) (len := 2) (x1 := 0) (x2 := 0) (x3 := 0) (x4 := 64) ((fe_134 36).trans rfl) L S h
theorem r_134_38 (L S : List Value) (h : icH) : icE 134 38 L S h = exe icE 134 (e_iinc 9 (nI 1) 41 L S h) := icE_eq (i := .iinc 9 1) (len := 3) (x1 := 0) (x2 := 0) (x3 := 0) (x4 := 64) ((fe_134 38).trans rfl) L S h
theorem r_134_41 (L S : List Value) (h : icH) : icE 134 41 L S h = icE 134 9 L S h := icE_eq (i := .goto (-32)) (len := 3) (x1 := 9) (x2 := 0) (x3 := 0) (x4 := 64) ((fe_134 41).trans rfl) L S h
theorem r_134_44 (L S : List Value) (h : icH) : icE 134 44 L S h = exe icE 134 (e_lload 5 46 L S h) := icE_eq (i := .lload 5) (len := 2) (x1 := 0) (x2 := 0) (x3 := 0) (x4 := 64) ((fe_134 44).trans rfl) L S h
theorem r_134_46 (L S : List Value) (h : icH) : icE 134 46 L S h = icE 134 47 L (.long (lN 0) :: S) h := icE_eq (i := .lconst 0) (len := 1) (x1 := 0) (x2 := 0) (x3 := 0) (x4 := 64) ((fe_134 46).trans rfl) L S h
theorem r_134_47 (L S : List Value) (h : icH) : icE 134 47 L S h = exe icE 134 (e_lcmp 48 L S h) := icE_eq (i := .lcmp) (len := 1) (x1 := 0) (x2 := 0) (x3 := 0) (x4 := 64) ((fe_134 47).trans rfl) L S h
theorem r_134_48 (L S : List Value) (h : icH) : icE 134 48 L S h = exe icE 134 (e_if .eq 67 51 L S h) := icE_eq (i := .ifCond .eq 19) (len := 3) (x1 := 67) (x2 := 0) (x3 := 0) (x4 := 64) ((fe_134 48).trans rfl) L S h
theorem r_134_51 (L S : List Value) (h : icH) : icE 134 51 L S h = exe icE 134 (e_aload 0 52 L S h) := icE_eq (i := .aload_n 0) (len := 1) (x1 := 0) (x2 := 0) (x3 := 0) (x4 := 64) ((fe_134 51).trans rfl) L S h
theorem r_134_52 (L S : List Value) (h : icH) : icE 134 52 L S h = exe icE 134 (e_lload 1 53 L S h) := icE_eq (i := .lload_n 1) (len := 1) (x1 := 0) (x2 := 0) (x3 := 0) (x4 := 64) ((fe_134 52).trans rfl) L S h
theorem r_134_53 (L S : List Value) (h : icH) : icE 134 53 L S h = exe icE 134 (e_lload 5 55 L S h) := icE_eq (i := .lload 5) (len := 2) (x1 := 0) (x2 := 0) (x3 := 0) (x4 := 64) ((fe_134 53).trans rfl) L S h
theorem r_134_55 (L S : List Value) (h : icH) : icE 134 55 L S h = exe icE 134 (e_ldv (fun x y => x / y) 56 L S h) := icE_eq (i := .ldiv) (len := 1) (x1 := 0) (x2 := 0) (x3 := 0) (x4 := 64) ((fe_134 55).trans rfl) L S h
theorem r_134_56 (L S : List Value) (h : icH) : icE 134 56 L S h = exe icE 134 (e_putf 5 7 1 59 L S h) := icE_eq (i := .putfield 35) (len := 3) (x1 := 5) (x2 := 7) (x3 := 1) (x4 := 298) ((fe_134 56).trans rfl) L S h
theorem r_134_59 (L S : List Value) (h : icH) : icE 134 59 L S h = exe icE 134 (e_aload 0 60 L S h) := icE_eq (i := .aload_n 0) (len := 1) (x1 := 0) (x2 := 0) (x3 := 0) (x4 := 64) ((fe_134 59).trans rfl) L S h
theorem r_134_60 (L S : List Value) (h : icH) : icE 134 60 L S h = exe icE 134 (e_lload 3 61 L S h) := icE_eq (i := .lload_n 3) (len := 1) (x1 := 0) (x2 := 0) (x3 := 0) (x4 := 64) ((fe_134 60).trans rfl) L S h
theorem r_134_61 (L S : List Value) (h : icH) : icE 134 61 L S h = exe icE 134 (e_lload 5 63 L S h) := icE_eq (i := .lload 5) (len := 2) (x1 := 0) (x2 := 0) (x3 := 0) (x4 := 64) ((fe_134 61).trans rfl) L S h
theorem r_134_63 (L S : List Value) (h : icH) : icE 134 63 L S h = exe icE 134 (e_ldv (fun x y => x / y) 64 L S h) := icE_eq (i := .ldiv) (len := 1) (x1 := 0) (x2 := 0) (x3 := 0) (x4 := 64) ((fe_134 63).trans rfl) L S h
theorem r_134_64 (L S : List Value) (h : icH) : icE 134 64 L S h = exe icE 134 (e_putf 6 7 1 67 L S h) := icE_eq (i := .putfield 39) (len := 3) (x1 := 6) (x2 := 7) (x3 := 1) (x4 := 299) ((fe_134 64).trans rfl) L S h
theorem r_134_67 (L S : List Value) (h : icH) : icE 134 67 L S h = exe icE 134 (e_vret L S h) := icE_eq (i := .return_) (len := 1) (x1 := 0) (x2 := 0) (x3 := 0) (x4 := 64) ((fe_134 67).trans rfl) L S h
theorem rw_134 : (∀ (L S : List Value) (h : icH), icE 134 0 L S h = exe icE 134 (e_lload 1 1 L S h)) ∧ (∀ (L S : List Value) (h : icH), icE 134 1 L S h = exe icE 134 (e_lstore 5 3 L S h)) ∧ (∀ (L S : List Value) (h : icH), icE 134 3 L S h = exe icE 134 (e_lload 3 4 L S h)) ∧ (∀ (L S : List Value) (h : icH), icE 134 4 L S h = exe icE 134 (e_lstore 7 6 L S h)) ∧ (∀ (L S : List Value) (h : icH), icE 134 6 L S h = icE 134 7 L (.int (nI 0) :: S) h) ∧ (∀ (L S : List Value) (h : icH), icE 134 7 L S h = exe icE 134 (e_istore 9 9 L S h)) ∧ (∀ (L S : List Value) (h : icH), icE 134 11 L S h = icE 134 13 L (.int (nI 100) :: S) h) ∧ (∀ (L S : List Value) (h : icH), icE 134 13 L S h = exe icE 134 (e_cmp .ge 44 16 L S h)) ∧ (∀ (L S : List Value) (h : icH), icE 134 16 L S h = exe icE 134 (e_lload 7 18 L S h)) ∧ (∀ (L S : List Value) (h : icH), icE 134 18 L S h = icE 134 19 L (.long (lN 0) :: S) h) ∧ (∀ (L S : List Value) (h : icH), icE 134 19 L S h = exe icE 134 (e_lcmp 20 L S h)) ∧ (∀ (L S : List Value) (h : icH), icE 134 20 L S h = exe icE 134 (e_if .eq 44 23 L S h)) ∧ (∀ (L S : List Value) (h : icH), icE 134 23 L S h = exe icE 134 (e_lload 5 25 L S h)) ∧ (∀ (L S : List Value) (h : icH), icE 134 25 L S h = exe icE 134 (e_lload 7 27 L S h)) ∧ (∀ (L S : List Value) (h : icH), icE 134 27 L S h = exe icE 134 (e_ldv (fun x y => x - x / y * y) 28 L S h)) ∧ (∀ (L S : List Value) (h : icH), icE 134 28 L S h = exe icE 134 (e_lstore 10 30 L S h)) ∧ (∀ (L S : List Value) (h : icH), icE 134 30 L S h = exe icE 134 (e_lload 7 32 L S h)) ∧ (∀ (L S : List Value) (h : icH), icE 134 32 L S h = exe icE 134 (e_lstore 5 34 L S h)) ∧ (∀ (L S : List Value) (h : icH), icE 134 34 L S h = exe icE 134 (e_lload 10 36 L S h)) ∧ (∀ (L S : List Value) (h : icH), icE 134 36 L S h = exe icE 134 (e_lstore 7 38 L S h)) ∧ (∀ (L S : List Value) (h : icH), icE 134 38 L S h = exe icE 134 (e_iinc 9 (nI 1) 41 L S h)) ∧ (∀ (L S : List Value) (h : icH), icE 134 41 L S h = icE 134 9 L S h) ∧ (∀ (L S : List Value) (h : icH), icE 134 44 L S h = exe icE 134 (e_lload 5 46 L S h)) ∧ (∀ (L S : List Value) (h : icH), icE 134 46 L S h = icE 134 47 L (.long (lN 0) :: S) h) ∧ (∀ (L S : List Value) (h : icH), icE 134 47 L S h = exe icE 134 (e_lcmp 48 L S h)) ∧ (∀ (L S : List Value) (h : icH), icE 134 48 L S h = exe icE 134 (e_if .eq 67 51 L S h)) ∧ (∀ (L S : List Value) (h : icH), icE 134 51 L S h = exe icE 134 (e_aload 0 52 L S h)) ∧ (∀ (L S : List Value) (h : icH), icE 134 52 L S h = exe icE 134 (e_lload 1 53 L S h)) ∧ (∀ (L S : List Value) (h : icH), icE 134 53 L S h = exe icE 134 (e_lload 5 55 L S h)) ∧ (∀ (L S : List Value) (h : icH), icE 134 55 L S h = exe icE 134 (e_ldv (fun x y => x / y) 56 L S h)) ∧ (∀ (L S : List Value) (h : icH), icE 134 56 L S h = exe icE 134 (e_putf 5 7 1 59 L S h)) ∧ (∀ (L S : List Value) (h : icH), icE 134 59 L S h = exe icE 134 (e_aload 0 60 L S h)) ∧ (∀ (L S : List Value) (h : icH), icE 134 60 L S h = exe icE 134 (e_lload 3 61 L S h)) ∧ (∀ (L S : List Value) (h : icH), icE 134 61 L S h = exe icE 134 (e_lload 5 63 L S h)) ∧ (∀ (L S : List Value) (h : icH), icE 134 63 L S h = exe icE 134 (e_ldv (fun x y => x / y) 64 L S h)) ∧ (∀ (L S : List Value) (h : icH), icE 134 64 L S h = exe icE 134 (e_putf 6 7 1 67 L S h)) ∧ (∀ (L S : List Value) (h : icH), icE 134 67 L S h = exe icE 134 (e_vret L S h)) := ⟨r_134_0, r_134_1, r_134_3, r_134_4, r_134_6, r_134_7, r_134_11, r_134_13, r_134_16, r_134_18, r_134_19, r_134_20, r_134_23, r_134_25, r_134_27, r_134_28, r_134_30, r_134_32, r_134_34, r_134_36, r_134_38, r_134_41, r_134_44, r_134_46, r_134_47, r_134_48, r_134_51, r_134_52, r_134_53, r_134_55, r_134_56, r_134_59, r_134_60, r_134_61, r_134_63, r_134_64, r_134_67⟩
-- cX9_tellsPart: heads [6]
theorem fe_209 (pc : Nat) : fet 209 pc = look k_209 pc := rfl
theorem r_209_0 (L S : List Value) (h : icH) : icE 209 0 L S h = exe icE 209 (e_lload 1 1 L S h) := icE_eq (i := .lload_n 1) (len := 1) (x1 := 0) (x2 := 0) (x3 := 0) (x4 := 64) ((fe_209 0).trans rfl) L S h
theorem r_209_1 (L S : List Value) (h : icH) : icE 209 1 L S h = exe icE 209 (e_lstore 5 3 L S h) := icE_eq (i := .lstore 5) (len := 2) (x1 := 0) (x2 := 0) (x3 := 0) (x4 := 64) ((fe_209 1).trans rfl) L S h
theorem r_209_3 (L S : List Value) (h : icH) : icE 209 3 L S h = exe icE 209 (e_lload 3 4 L S h) := icE_eq (i := .lload_n 3) (len := 1) (x1 := 0) (x2 := 0) (x3 := 0) (x4 := 64) ((fe_209 3).trans rfl) L S h
theorem r_209_4 (L S : List Value) (h : icH) : icE 209 4 L S h = exe icE 209 (e_lstore 7 6 L S h) := icE_eq (i := .lstore 7) (len := 2) (x1 := 0) (x2 := 0) (x3 := 0) (x4 := 64) ((fe_209 4).trans rfl) L S h
theorem rh_209_6 (L S : List Value) (h : icH) : icE 209 6 L S h = exe icE 209 (e_lload 7 8 L S h) := icE_eq (i := .lload 7) (len := 2) (x1 := 0) (x2 := 0) (x3 := 0) (x4 := 64) ((fe_209 6).trans rfl) L S h
theorem r_209_8 (L S : List Value) (h : icH) : icE 209 8 L S h = icE 209 9 L (.long (lN 0) :: S) h := icE_eq (i := .lconst 0) (len := 1) (x1 := 0) (x2 := 0) (x3 := 0) (x4 := 64) ((fe_209 8).trans rfl) L S h
theorem r_209_9 (L S : List Value) (h : icH) : icE 209 9 L S h = exe icE 209 (e_lcmp 10 L S h) := icE_eq (i := .lcmp) (len := 1) (x1 := 0) (x2 := 0) (x3 := 0) (x4 := 64) ((fe_209 9).trans rfl) L S h
theorem r_209_10 (L S : List Value) (h : icH) : icE 209 10 L S h = exe icE 209 (e_if .eq 31 13 L S h) := icE_eq (i := .ifCond .eq 21) (len := 3) (x1 := 31) (x2 := 0) (x3 := 0) (x4 := 64) ((fe_209 10).trans rfl) L S h
theorem r_209_13 (L S : List Value) (h : icH) : icE 209 13 L S h = exe icE 209 (e_lload 5 15 L S h) := icE_eq (i := .lload 5) (len := 2) (x1 := 0) (x2 := 0) (x3 := 0) (x4 := 64) ((fe_209 13).trans rfl) L S h
theorem r_209_15 (L S : List Value) (h : icH) : icE 209 15 L S h = exe icE 209 (e_lload 7 17 L S h) := icE_eq (i := .lload 7) (len := 2) (x1 := 0) (x2 := 0) (x3 := 0) (x4 := 64) ((fe_209 15).trans rfl) L S h
theorem r_209_17 (L S : List Value) (h : icH) : icE 209 17 L S h = exe icE 209 (e_ldv (fun x y => x - x / y * y) 18 L S h) := icE_eq (i := .lrem) (len := 1) (x1 := 0) (x2 := 0) (x3 := 0) (x4 := 64) ((fe_209 17).trans rfl) L S h
theorem r_209_18 (L S : List Value) (h : icH) : icE 209 18 L S h = exe icE 209 (e_lstore 9 20 L S h) := icE_eq (i := .lstore 9) (len := 2) (x1 := 0) (x2 := 0) (x3 := 0) (x4 := 64) ((fe_209 18).trans rfl) L S h
theorem r_209_20 (L S : List Value) (h : icH) : icE 209 20 L S h = exe icE 209 (e_lload 7 22 L S h) := icE_eq (i := .lload 7) (len := 2) (x1 := 0) (x2 := 0) (x3 := 0) (x4 := 64) ((fe_209 20).trans rfl) L S h
theorem r_209_22 (L S : List Value) (h : icH) : icE 209 22 L S h = exe icE 209 (e_lstore 5 24 L S h) := icE_eq (i := .lstore 5) (len := 2) (x1 := 0) (x2 := 0) (x3 := 0) (x4 := 64) ((fe_209 22).trans rfl) L S h
theorem r_209_24 (L S : List Value) (h : icH) : icE 209 24 L S h = exe icE 209 (e_lload 9 26 L S h) := icE_eq (i := .lload 9) (len := 2) (x1 := 0) (x2 := 0) (x3 := 0) (x4 := 64) ((fe_209 24).trans rfl) L S h
theorem r_209_26 (L S : List Value) (h : icH) : icE 209 26 L S h = exe icE 209 (e_lstore 7 28 L S h) := icE_eq (i := .lstore 7) (len := 2) (x1 := 0) (x2 := 0) (x3 := 0) (x4 := 64) ((fe_209 26).trans rfl) L S h
theorem r_209_28 (L S : List Value) (h : icH) : icE 209 28 L S h = icE 209 6 L S h := icE_eq (i := .goto (-22)) (len := 3) (x1 := 6) (x2 := 0) (x3 := 0) (x4 := 64) ((fe_209 28).trans rfl) L S h
theorem r_209_31 (L S : List Value) (h : icH) : icE 209 31 L S h = exe icE 209 (e_aload 0 32 L S h) := icE_eq (i := .aload_n 0) (len := 1) (x1 := 0) (x2 := 0) (x3 := 0) (x4 := 64) ((fe_209 31).trans rfl) L S h
theorem r_209_32 (L S : List Value) (h : icH) : icE 209 32 L S h = exe icE 209 (e_lload 1 33 L S h) := icE_eq (i := .lload_n 1) (len := 1) (x1 := 0) (x2 := 0) (x3 := 0) (x4 := 64) ((fe_209 32).trans rfl) L S h
theorem r_209_33 (L S : List Value) (h : icH) : icE 209 33 L S h = exe icE 209 (e_lload 5 35 L S h) := icE_eq (i := .lload 5) (len := 2) (x1 := 0) (x2 := 0) (x3 := 0) (x4 := 64) ((fe_209 33).trans rfl) L S h
theorem r_209_35 (L S : List Value) (h : icH) : icE 209 35 L S h = exe icE 209 (e_ldv (fun x y => x / y) 36 L S h) := icE_eq (i := .ldiv) (len := 1) (x1 := 0) (x2 := 0) (x3 := 0) (x4 := 64) ((fe_209 35).trans rfl) L S h
theorem r_209_36 (L S : List Value) (h : icH) : icE 209 36 L S h = exe icE 209 (e_putf 6 8 1 39 L S h) := icE_eq (i := .putfield 242) (len := 3) (x1 := 6) (x2 := 8) (x3 := 1) (x4 := 963) ((fe_209 36).trans rfl) L S h
theorem r_209_39 (L S : List Value) (h : icH) : icE 209 39 L S h = exe icE 209 (e_aload 0 40 L S h) := icE_eq (i := .aload_n 0) (len := 1) (x1 := 0) (x2 := 0) (x3 := 0) (x4 := 64) ((fe_209 39).trans rfl) L S h
theorem r_209_40 (L S : List Value) (h : icH) : icE 209 40 L S h = exe icE 209 (e_lload 3 41 L S h) := icE_eq (i := .lload_n 3) (len := 1) (x1 := 0) (x2 := 0) (x3 := 0) (x4 := 64) ((fe_209 40).trans rfl) L S h
theorem r_209_41 (L S : List Value) (h : icH) : icE 209 41 L S h = exe icE 209 (e_lload 5 43 L S h) := icE_eq (i := .lload 5) (len := 2) (x1 := 0) (x2 := 0) (x3 := 0) (x4 := 64) ((fe_209 41).trans rfl) L S h
theorem r_209_43 (L S : List Value) (h : icH) : icE 209 43 L S h = exe icE 209 (e_ldv (fun x y => x / y) 44 L S h) := icE_eq (i := .ldiv) (len := 1) (x1 := 0) (x2 := 0) (x3 := 0) (x4 := 64) ((fe_209 43).trans rfl) L S h
theorem r_209_44 (L S : List Value) (h : icH) : icE 209 44 L S h = exe icE 209 (e_putf 7 8 1 47 L S h) := icE_eq (i := .putfield 26) (len := 3) (x1 := 7) (x2 := 8) (x3 := 1) (x4 := 964) ((fe_209 44).trans rfl) L S h
theorem r_209_47 (L S : List Value) (h : icH) : icE 209 47 L S h = exe icE 209 (e_vret L S h) := icE_eq (i := .return_) (len := 1) (x1 := 0) (x2 := 0) (x3 := 0) (x4 := 64) ((fe_209 47).trans rfl) L S h
theorem rw_209 : (∀ (L S : List Value) (h : icH), icE 209 0 L S h = exe icE 209 (e_lload 1 1 L S h)) ∧ (∀ (L S : List Value) (h : icH), icE 209 1 L S h = exe icE 209 (e_lstore 5 3 L S h)) ∧ (∀ (L S : List Value) (h : icH), icE 209 3 L S h = exe icE 209 (e_lload 3 4 L S h)) ∧ (∀ (L S : List Value) (h : icH), icE 209 4 L S h = exe icE 209 (e_lstore 7 6 L S h)) ∧ (∀ (L S : List Value) (h : icH), icE 209 8 L S h = icE 209 9 L (.long (lN 0) :: S) h) ∧ (∀ (L S : List Value) (h : icH), icE 209 9 L S h = exe icE 209 (e_lcmp 10 L S h)) ∧ (∀ (L S : List Value) (h : icH), icE 209 10 L S h = exe icE 209 (e_if .eq 31 13 L S h)) ∧ (∀ (L S : List Value) (h : icH), icE 209 13 L S h = exe icE 209 (e_lload 5 15 L S h)) ∧ (∀ (L S : List Value) (h : icH), icE 209 15 L S h = exe icE 209 (e_lload 7 17 L S h)) ∧ (∀ (L S : List Value) (h : icH), icE 209 17 L S h = exe icE 209 (e_ldv (fun x y => x - x / y * y) 18 L S h)) ∧ (∀ (L S : List Value) (h : icH), icE 209 18 L S h = exe icE 209 (e_lstore 9 20 L S h)) ∧ (∀ (L S : List Value) (h : icH), icE 209 20 L S h = exe icE 209 (e_lload 7 22 L S h)) ∧ (∀ (L S : List Value) (h : icH), icE 209 22 L S h = exe icE 209 (e_lstore 5 24 L S h)) ∧ (∀ (L S : List Value) (h : icH), icE 209 24 L S h = exe icE 209 (e_lload 9 26 L S h)) ∧ (∀ (L S : List Value) (h : icH), icE 209 26 L S h = exe icE 209 (e_lstore 7 28 L S h)) ∧ (∀ (L S : List Value) (h : icH), icE 209 28 L S h = icE 209 6 L S h) ∧ (∀ (L S : List Value) (h : icH), icE 209 31 L S h = exe icE 209 (e_aload 0 32 L S h)) ∧ (∀ (L S : List Value) (h : icH), icE 209 32 L S h = exe icE 209 (e_lload 1 33 L S h)) ∧ (∀ (L S : List Value) (h : icH), icE 209 33 L S h = exe icE 209 (e_lload 5 35 L S h)) ∧ (∀ (L S : List Value) (h : icH), icE 209 35 L S h = exe icE 209 (e_ldv (fun x y => x / y) 36 L S h)) ∧ (∀ (L S : List Value) (h : icH), icE 209 36 L S h = exe icE 209 (e_putf 6 8 1 39 L S h)) ∧ (∀ (L S : List Value) (h : icH), icE 209 39 L S h = exe icE 209 (e_aload 0 40 L S h)) ∧ (∀ (L S : List Value) (h : icH), icE 209 40 L S h = exe icE 209 (e_lload 3 41 L S h)) ∧ (∀ (L S : List Value) (h : icH), icE 209 41 L S h = exe icE 209 (e_lload 5 43 L S h)) ∧ (∀ (L S : List Value) (h : icH), icE 209 43 L S h = exe icE 209 (e_ldv (fun x y => x / y) 44 L S h)) ∧ (∀ (L S : List Value) (h : icH), icE 209 44 L S h = exe icE 209 (e_putf 7 8 1 47 L S h)) ∧ (∀ (L S : List Value) (h : icH), icE 209 47 L S h = exe icE 209 (e_vret L S h)) := ⟨r_209_0, r_209_1, r_209_3, r_209_4, r_209_8, r_209_9, r_209_10, r_209_13, r_209_15, r_209_17, r_209_18, r_209_20, r_209_22, r_209_24, r_209_26, r_209_28, r_209_31, r_209_32, r_209_33, r_209_35, r_209_36, r_209_39, r_209_40, r_209_41, r_209_43, r_209_44, r_209_47⟩
theorem gcd_s {x y : Nat} : Nat.gcd y (x % y) = Nat.gcd x y := by
  rw [Nat.gcd_comm y (x % y), ← Nat.gcd_rec y x, Nat.gcd_comm]
theorem half_mod {y z : Nat} (h0 : 0 < z) (h : z ≤ y) : 2 * (y % z) < y := by
  have h1 := Nat.mod_lt y h0
  have h2 := Nat.div_add_mod y z
  have h3 : 1 ≤ y / z := (Nat.one_le_div_iff h0).mpr h
  have h4 : z * 1 ≤ z * (y / z) := Nat.mul_le_mul_left z h3
  omega
theorem lN_z {y : Nat} (h : y < 2 ^ 63) : lN y = 0 ↔ y = 0 := pk_lEQ h (by decide)
theorem lN_z' {y : Nat} (h : y < 2 ^ 63) : lN y = lN 0 ↔ y = 0 := pk_lEQ h (by decide)
theorem s_keep {x y s : Nat} (hx : x < 2 ^ 63) (hy : y < 2 ^ 63) (h0 : 0 < y) (hs : s < 100) (t b : Int64) (z1 z2 : Value) (h : icH) : icE 134 9 [.ref 0, .long t, dum, .long b, dum, .long (lN x), dum, .long (lN y), dum, .int (nI s), z1, z2] [] h = icE 134 9 [.ref 0, .long t, dum, .long b, dum, .long (lN y), dum, .long (lN (x % y)), dum, .int (nI (s + 1)), .long (lN (x % y)), dum] [] h := by
  have n1 : ¬ lN y = lN 0 := fun z => by have := (lN_z' hy).mp z; omega
  have n2 : ¬ lN y = 0 := fun z => by have := (lN_z hy).mp z; omega
  rw [rh_134_9]
  simp only [SA, rw_134, if_neg (nI_ge hs (show 100 < 2 ^ 31 by decide)), lg_cmp_eq, if_neg n1, if_neg n2, pk_lRem hx h0 hy, nI_add]
theorem l_keep (t b : Int64) (h : icH) : ∀ (k x y s : Nat) (z1 z2 : Value), x < 2 ^ 63 → y < 2 ^ k → k ≤ 62 → s + 2 * k < 99 → ∃ s' z1' z2', icE 134 9 [.ref 0, .long t, dum, .long b, dum, .long (lN x), dum, .long (lN y), dum, .int (nI s), z1, z2] [] h = icE 134 44 [.ref 0, .long t, dum, .long b, dum, .long (lN (Nat.gcd x y)), dum, .long (lN 0), dum, .int (nI s'), z1', z2'] [] h
  | 0, x, y, s, z1, z2, hx, hy, hk, hs => by
    have y0 : y = 0 := by omega
    subst y0
    refine ⟨s, z1, z2, ?_⟩
    rw [rh_134_9, Nat.gcd_zero_right]
    simp only [SA, rw_134, if_neg (nI_ge (show s < 100 by omega) (show 100 < 2 ^ 31 by decide)), lg_cmp_eq, if_true]
  | k + 1, x, y, s, z1, z2, hx, hy, hk, hs => by
    have pk : 2 ^ (k + 1) ≤ 2 ^ 62 := Nat.pow_le_pow_right (by decide) hk
    by_cases c0 : y = 0
    · subst c0
      refine ⟨s, z1, z2, ?_⟩
      rw [rh_134_9, Nat.gcd_zero_right]
      simp only [SA, rw_134, if_neg (nI_ge (show s < 100 by omega) (show 100 < 2 ^ 31 by decide)), lg_cmp_eq, if_true]
    · have s1 := s_keep hx (show y < 2 ^ 63 by omega) (by omega) (show s < 100 by omega) t b z1 z2 h
      have lt := Nat.mod_lt x (show 0 < y by omega)
      by_cases c1 : x % y = 0
      · refine ⟨s + 1, .long (lN (x % y)), dum, ?_⟩
        rw [s1, ← gcd_s, c1, Nat.gcd_zero_right, rh_134_9]
        simp only [SA, rw_134, if_neg (nI_ge (show s + 1 < 100 by omega) (show 100 < 2 ^ 31 by decide)), lg_cmp_eq, if_true]
      · have s2 := s_keep (show y < 2 ^ 63 by omega) (show x % y < 2 ^ 63 by omega) (by omega) (show s + 1 < 100 by omega) t b (.long (lN (x % y))) dum h
        have hm := half_mod (y := y) (z := x % y) (by omega) (by omega)
        rw [Nat.pow_succ] at hy
        obtain ⟨s', z1', z2', ih⟩ := l_keep t b h k (x % y) (y % (x % y)) (s + 1 + 1) (.long (lN (y % (x % y)))) dum (by omega) (by omega) (by omega) (by omega)
        refine ⟨s', z1', z2', ?_⟩
        rw [s1, s2, ih, gcd_s, gcd_s]
theorem c_keep {h : icH} {ab be : Int64} (h0 : hg h 0 = some (xo ab be)) {x y : Nat} (hx : x < 2 ^ 63) (hy : y < 2 ^ 40) (y0 : 0 < y) : icE 134 0 [.ref 0, .long (lN x), dum, .long (lN y), dum, dum, dum, dum, dum, dum, dum, dum] [] h = some (none, hput h 0 (xo (lN (x / Nat.gcd x y)) (lN (y / Nat.gcd x y)))) := by
  obtain ⟨s', z1, z2, z⟩ := l_keep (lN x) (lN y) h 40 x y 0 dum dum hx hy (by decide) (by decide)
  have g0 : 0 < Nat.gcd x y := Nat.gcd_pos_of_pos_right x y0
  have gl : Nat.gcd x y ≤ y := Nat.gcd_le_right x y0
  have n1 : ¬ lN (Nat.gcd x y) = lN 0 := fun z => by have := (lN_z' (by omega)).mp z; omega
  have n2 : ¬ lN (Nat.gcd x y) = 0 := fun z => by have := (lN_z (by omega)).mp z; omega
  have h0' : hg h 0 = some (ob 7 [.ref 1, .ref 22, .ref 23, .ref 24, .ref 27, .long ab, .long be, .ref 28, .ref 40, .ref 41, .ref 42, .ref 44, .ref 46]) := h0
  refine Eq.trans (b := icE 134 44 [.ref 0, .long (lN x), dum, .long (lN y), dum, .long (lN (Nat.gcd x y)), dum, .long (lN 0), dum, .int (nI s'), z1, z2] [] h) ?_ ?_
  · refine Eq.trans ?_ z
    simp only [SA, rw_134]
  · simp only [SA, rw_134, lg_cmp_eq, if_neg n1, if_neg n2, pk_lDiv hx g0 (show Nat.gcd x y < 2 ^ 63 by omega), pk_lDiv (show y < 2 ^ 63 by omega) g0 (show Nat.gcd x y < 2 ^ 63 by omega), h0', hg_s, hp_p]
    rfl
theorem l_tells (t b : Int64) (m : Nat) (h : icH) : ∀ (y x : Nat) (z1 z2 : Value), x < 2 ^ 63 → y < 2 ^ 63 → ∃ z1' z2', icE 209 6 [.ref m, .long t, dum, .long b, dum, .long (lN x), dum, .long (lN y), dum, z1, z2] [] h = icE 209 31 [.ref m, .long t, dum, .long b, dum, .long (lN (Nat.gcd x y)), dum, .long (lN 0), dum, z1', z2'] [] h := by
  intro y
  induction y using Nat.strongRecOn with
  | ind y ih =>
    intro x z1 z2 hx hy
    by_cases c0 : y = 0
    · subst c0
      refine ⟨z1, z2, ?_⟩
      rw [rh_209_6, Nat.gcd_zero_right]
      simp only [SA, rw_209, lg_cmp_eq, if_true]
    · have lt := Nat.mod_lt x (show 0 < y by omega)
      have n1 : ¬ lN y = lN 0 := fun z => by have := (lN_z' hy).mp z; omega
      have n2 : ¬ lN y = 0 := fun z => by have := (lN_z hy).mp z; omega
      obtain ⟨z1', z2', q⟩ := ih (x % y) lt y (.long (lN (x % y))) dum hy (by omega)
      refine ⟨z1', z2', ?_⟩
      rw [gcd_s] at q
      refine Eq.trans ?_ q
      rw [rh_209_6]
      simp only [SA, rw_209, lg_cmp_eq, if_neg n1, if_neg n2, pk_lRem hx (show 0 < y by omega) hy]
theorem HM_i6 (h : icH) (m : Nat) (ab be : Int64) (ii : Nat → Int32) (A : Nat → Nat → Int32) : HM h m ab be (i6 (ii 0) (ii 1) (ii 2) (ii 3) (ii 4) (ii 5)) A = HM h m ab be ii A := rfl
theorem c_tells {x y : Nat} (hx : x < 2 ^ 63) (hy : y < 2 ^ 40) (y0 : 0 < y) (h : icH) (m : Nat) (ab be : Int64) (ii : Nat → Int32) (A : Nat → Nat → Int32) : icE 209 0 [.ref m, .long (lN x), dum, .long (lN y), dum, dum, dum, dum, dum, dum, dum] [] (HM h m ab be ii A) = some (none, HM h m (lN (x / Nat.gcd x y)) (lN (y / Nat.gcd x y)) ii A) := by
  obtain ⟨z1, z2, z⟩ := l_tells (lN x) (lN y) m (HM h m ab be ii A) y x dum dum hx (by omega)
  have g0 : 0 < Nat.gcd x y := Nat.gcd_pos_of_pos_right x y0
  have gl : Nat.gcd x y ≤ y := Nat.gcd_le_right x y0
  have n2 : ¬ lN (Nat.gcd x y) = 0 := fun z => by have := (lN_z (by omega)).mp z; omega
  refine Eq.trans (b := icE 209 31 [.ref m, .long (lN x), dum, .long (lN y), dum, .long (lN (Nat.gcd x y)), dum, .long (lN 0), dum, z1, z2] [] (HM h m ab be ii A)) ?_ ?_
  · refine Eq.trans ?_ z
    simp only [SA, rw_209]
  · simp only [SA, rw_209, HM_o, HM_wo, if_neg n2, pk_lDiv hx g0 (show Nat.gcd x y < 2 ^ 63 by omega), pk_lDiv (show y < 2 ^ 63 by omega) g0 (show Nat.gcd x y < 2 ^ 63 by omega), i6_0, i6_1, i6_2, i6_3, i6_4, i6_5]
    rfl
/-! hours that may be warmer -/
def bw (U t : Nat) : Nat := U / 2 ^ t % 2
def ho (R N H U : Nat) (D : Nat → Nat → Int32) : Nat → Nat → Nat → Int32
  | 0 => D
  | t + 1 => hw (ho R N H U D t) (wmt (ho R N H U D t) (H + t + 1) (nI (bw U t * 3))) R N
theorem ho_6 {R N H U : Nat} {D : Nat → Nat → Int32} : ∀ t, ho R N H U D t 6 = D 6
  | 0 => rfl
  | t + 1 => by
    show hw _ _ R N 6 = _
    rw [hw_n (by decide) (by decide) (by decide) (by decide), ho_6 t]
theorem wmt_E {R N H : Nat} {wr : Int32} {D E : Nat → Nat → Int32} (h : ERl R N E D) : wmt E H wr = wmt D H wr := by
  unfold wmt
  rw [h.1 (H % 8) (Nat.mod_lt _ (by decide))]
theorem l_fih {h : icH} {ab be : Int64} (h0 : hg h 0 = some (xo ab be)) {R N H n i U : Nat} {D0 : Nat → Nat → Int32} (hU : U < 64) (hn : n ≤ 6) (hH : H ≤ 9999) (hi : i < N) (fa : Nat → Int32) (Hl Rl Nl : Nat) (D : Nat → Nat → Int32) (F : Nat → Nat) (f : Nat → Nat → Int32) : ∀ (m t : Nat) (E : Nat → Nat → Int32), t + m = n → EOK R N E → ERl R N E (ho R N H U D0 t) → ∃ E', icE 132 34 [.ref 0, .int (nI i), .int (nI n), .int (nI U), .int (nI t)] [] (HX h fa (H + t) R N E Hl Rl Nl D F f) = some (some (.int (bi (ho R N H U D0 n 11 i = nI 2))), HX h fa (H + n) R N E' Hl Rl Nl D F f)
  | 0, t, E, him, hE, hT => by
    have : t = n := by omega
    subst this
    have hN := hE.2.1
    have e11 : E 11 i = ho R N H U D0 t 11 i := hT.2.2 11 (by decide) (by decide) i hi
    refine ⟨E, ?_⟩
    rw [rh_132_34]
    by_cases c : ho R N H U D0 t 11 i = nI 2
    · rw [bi_t c]
      simp only [SA, rw_132, HXz h0, HX_28, HXt, if_pos (nI_le (Nat.le_refl t) (show t < 2 ^ 31 by omega)), ia_n (show i < 6 by omega) (show 6 < 2 ^ 31 by decide), e11, if_pos c]
    · rw [bi_f c]
      simp only [SA, rw_132, HXz h0, HX_28, HXt, if_pos (nI_le (Nat.le_refl t) (show t < 2 ^ 31 by omega)), ia_n (show i < 6 by omega) (show 6 < 2 ^ 31 by decide), e11, if_neg c]
  | m + 1, t, E, him, hE, hT => by
    have w0 := wmt_E (H := H + t + 1) (wr := nI (bw U t * 3)) hT
    obtain ⟨E', ih⟩ := l_fih h0 hU hn hH hi fa Hl Rl Nl D F f m (t + 1) (hw E (wmt E (H + t + 1) (nI (bw U t * 3))) R N) (by omega) (EOK_hw hE _) (by
      rw [w0]
      exact ERl_hw hT hE.2.2.2.2 _)
    refine ⟨E', ?_⟩
    refine Eq.trans ?_ ih
    have sh := sh10 U (by omega) t (by omega)
    have e : nI (U / 2 ^ t % 2 * 3) = nI (bw U t * 3) := rfl
    rw [rh_132_34]
    simp only [SA, rw_132, HXz h0, HX_28, if_neg (nI_ge (show t < n by omega) (show n < 2 ^ 31 by omega)), sh, pk_mul, e, HX_passW hE (show H + t + 1 < 2 ^ 31 by omega), nI_add]
    rfl
theorem c_fih {h : icH} {ab be : Int64} (h0 : hg h 0 = some (xo ab be)) {R N H n i U : Nat} {D : Nat → Nat → Int32} (hD : EOK R N D) (hU : U < 64) (hn : n ≤ 6) (hH : H ≤ 9999) (hi : i < N) (fa : Nat → Int32) (Ht Rt Nt : Nat) (E : Nat → Nat → Int32) (F : Nat → Nat) (f : Nat → Nat → Int32) : ∃ Ht' Rt' Nt' E', icE 132 0 [.ref 0, .int (nI i), .int (nI n), .int (nI U), dum] [] (HX h fa Ht Rt Nt E H R N D F f) = some (some (.int (bi (D 11 i = 0 ∧ ho R N H U D n 11 i = nI 2))), HX h fa Ht' Rt' Nt' E' H R N D F f) := by
  have hN := hD.2.1
  by_cases c : D 11 i = 0
  · obtain ⟨E', z⟩ := l_fih h0 hU hn hH hi fa H R N D F f n 0 (tk E D) (by omega) (EOK_E hD (ERl_tk hD.1 hD.2.1 E D)) (ERl_tk hD.1 hD.2.1 E D)
    refine ⟨H + n, R, N, E', ?_⟩
    have e : bi (D 11 i = 0 ∧ ho R N H U D n 11 i = nI 2) = bi (ho R N H U D n 11 i = nI 2) := by
      by_cases c2 : ho R N H U D n 11 i = nI 2
      · rw [bi_t c2, bi_t ⟨c, c2⟩]
      · rw [bi_f c2, bi_f (fun z => c2 z.2)]
    rw [e]
    refine Eq.trans ?_ z
    simp only [SA, rw_132, HXz h0, HX_1, HX_2, HX_28, HXl, ia_n (show i < 6 by omega) (show 6 < 2 ^ 31 by decide), if_pos c, HX_take, Nat.add_zero]
  · refine ⟨Ht, Rt, Nt, E, ?_⟩
    rw [bi_f (fun z => c z.1)]
    simp only [SA, rw_132, HXz h0, HX_1, HX_2, HX_28, HXl, ia_n (show i < 6 by omega) (show 6 < 2 ^ 31 by decide), if_neg c]
def wg (c U : Nat) : Nat → Nat
  | 0 => 1
  | t + 1 => wg c U t * (if bw U t = 0 then 10 - c else c)
theorem wg_le {c U : Nat} (hc : c ≤ 10) : ∀ t, wg c U t ≤ 10 ^ t
  | 0 => Nat.le_refl 1
  | t + 1 => by
    have ih := wg_le (U := U) hc t
    unfold wg
    rw [Nat.pow_succ]
    apply Nat.mul_le_mul ih
    split <;> omega
theorem l_weight {n c U : Nat} (hn : n ≤ 6) (hc : c ≤ 10) (hU : U < 64) (h : icH) : ∀ (m t : Nat), t + m = n → icE 133 5 [.int (nI n), .int (nI c), .int (nI U), .long (lN (wg c U t)), dum, .int (nI t)] [] h = some (some (.long (lN (wg c U n))), h)
  | 0, t, him => by
    have : t = n := by omega
    subst this
    rw [rh_133_5]
    simp only [SA, rw_133, if_pos (nI_le (Nat.le_refl t) (show t < 2 ^ 31 by omega))]
  | m + 1, t, him => by
    have ih := l_weight hn hc hU h m (t + 1) (by omega)
    have sh := sh10 U (by omega) t (by omega)
    have eb : U / 2 ^ t % 2 = bw U t := rfl
    rw [eb] at sh
    have e : wg c U (t + 1) = wg c U t * (if bw U t = 0 then 10 - c else c) := rfl
    rw [e] at ih
    refine Eq.trans ?_ ih
    rw [rh_133_5]
    by_cases q : bw U t = 0
    · have q2 : nI (bw U t) = 0 := by rw [q]; rfl
      rw [if_pos q]
      simp only [SA, rw_133, if_neg (nI_ge (show t < n by omega) (show n < 2 ^ 31 by omega)), sh, if_pos q2, nI_sb hc, nI_l (show 10 - c < 2 ^ 31 by omega), lN_mul, nI_add]
    · have q1 : bw U t = 1 := by have : bw U t < 2 := Nat.mod_lt _ (by decide); omega
      have q2 : ¬ nI (bw U t) = 0 := by rw [q1]; decide
      rw [if_neg q]
      simp only [SA, rw_133, if_neg (nI_ge (show t < n by omega) (show n < 2 ^ 31 by omega)), sh, if_neg q2, nI_l (show c < 2 ^ 31 by omega), lN_mul, nI_add]
theorem c_weight {n c U : Nat} (hn : n ≤ 6) (hc : c ≤ 10) (hU : U < 64) (h : icH) : icE 133 0 [.int (nI n), .int (nI c), .int (nI U), dum, dum, dum] [] h = some (some (.long (lN (wg c U n))), h) := by
  have z := l_weight hn hc hU h n 0 (by omega)
  refine Eq.trans ?_ z
  simp only [SA, rw_133, wg]
def sw (R N H : Nat) (D : Nat → Nat → Int32) (i n c : Nat) : Nat → Nat
  | 0 => 0
  | U + 1 => sw R N H D i n c U + (if D 11 i = 0 ∧ ho R N H U D n 11 i = nI 2 then wg c U n else 0)
theorem p10_le {n : Nat} (hn : n ≤ 6) : 10 ^ n ≤ 1000000 := Nat.pow_le_pow_right (by decide) hn
theorem sw_le {R N H : Nat} {D : Nat → Nat → Int32} {i n c : Nat} (hc : c ≤ 10) (hn : n ≤ 6) : ∀ U, sw R N H D i n c U ≤ U * 1000000
  | 0 => Nat.zero_le _
  | U + 1 => by
    have ih := sw_le (R := R) (N := N) (H := H) (D := D) (i := i) hc hn U
    have w1 := wg_le (U := U) hc n
    have w2 := Nat.le_trans w1 (p10_le hn)
    unfold sw
    rw [Nat.succ_mul]
    split
    · exact Nat.add_le_add ih w2
    · exact Nat.le_trans ih (Nat.le_add_right _ _)
theorem sh1n : ∀ n, n ≤ 6 → nI 1 <<< (nI n &&& 31) = nI (2 ^ n) := by decide
theorem p2_le {n : Nat} (hn : n ≤ 6) : 2 ^ n ≤ 64 := Nat.pow_le_pow_right (by decide) hn
theorem l_odd0 {n : Nat} (hn : n ≤ 6) (i c : Int32) (y7 y8 : Value) (h : icH) : ∀ (m t : Nat), t + m = n → icE 105 39 [.ref 0, .int i, .int (nI n), .int c, .long (lN (10 ^ t)), dum, .int (nI t), y7, y8] [] h = icE 105 65 [.ref 0, .int i, .int (nI n), .int c, .long (lN (10 ^ n)), dum, .long (lN 0), dum, .int (nI 0)] [] h
  | 0, t, him => by
    have : t = n := by omega
    subst this
    rw [rh_105_39]
    simp only [SA, rw_105, if_pos (nI_le (Nat.le_refl t) (show t < 2 ^ 31 by omega))]
  | m + 1, t, him => by
    have ih := l_odd0 hn i c y7 y8 h m (t + 1) (by omega)
    refine Eq.trans ?_ ih
    rw [rh_105_39]
    simp only [SA, rw_105, if_neg (nI_ge (show t < n by omega) (show n < 2 ^ 31 by omega)), lN_mul, ← Nat.pow_succ, nI_add]
theorem l_odds {h : icH} {ab be : Int64} (h0 : hg h 0 = some (xo ab be)) {R N H n i c : Nat} {D : Nat → Nat → Int32} (hD : EOK R N D) (hn : n ≤ 6) (hc : c ≤ 10) (hH : H ≤ 9999) (hi : i < N) (fa : Nat → Int32) (F : Nat → Nat) (f : Nat → Nat → Int32) (al : Int64) : ∀ (m U : Nat) (Ht Rt Nt : Nat) (E : Nat → Nat → Int32), U + m = 2 ^ n → ∃ Ht' Rt' Nt' E', icE 105 65 [.ref 0, .int (nI i), .int (nI n), .int (nI c), .long al, dum, .long (lN (sw R N H D i n c U)), dum, .int (nI U)] [] (HX h fa Ht Rt Nt E H R N D F f) = icE 105 102 [.ref 0, .int (nI i), .int (nI n), .int (nI c), .long al, dum, .long (lN (sw R N H D i n c (2 ^ n))), dum, .int (nI (2 ^ n))] [] (HX h fa Ht' Rt' Nt' E' H R N D F f)
  | 0, U, Ht, Rt, Nt, E, him => by
    have p2 := p2_le hn
    have : U = 2 ^ n := by omega
    subst this
    refine ⟨Ht, Rt, Nt, E, ?_⟩
    rw [rh_105_65]
    simp only [SA, rw_105, sh1n n hn, if_pos (nI_le (Nat.le_refl (2 ^ n)) (show 2 ^ n < 2 ^ 31 by omega))]
  | m + 1, U, Ht, Rt, Nt, E, him => by
    have p2 := p2_le hn
    obtain ⟨H1, R1, N1, E1, s1⟩ := c_fih h0 hD (show U < 64 by omega) hn hH hi fa Ht Rt Nt E F f
    obtain ⟨Ht', Rt', Nt', E', ih⟩ := l_odds h0 hD hn hc hH hi fa F f al m (U + 1) H1 R1 N1 E1 (by omega)
    have e : sw R N H D i n c (U + 1) = sw R N H D i n c U + (if D 11 i = 0 ∧ ho R N H U D n 11 i = nI 2 then wg c U n else 0) := rfl
    rw [e] at ih
    refine ⟨Ht', Rt', Nt', E', ?_⟩
    refine Eq.trans ?_ ih
    rw [rh_105_65]
    by_cases q : D 11 i = 0 ∧ ho R N H U D n 11 i = nI 2
    · rw [if_pos q]
      simp only [SA, rw_105, HXz h0, sh1n n hn, if_neg (nI_ge (show U < 2 ^ n by omega) (show 2 ^ n < 2 ^ 31 by omega)), s1, if_neg (bi_10 q), c_weight hn hc (show U < 64 by omega), lN_add, nI_add]
    · rw [if_neg q, Nat.add_zero]
      simp only [SA, rw_105, HXz h0, sh1n n hn, if_neg (nI_ge (show U < 2 ^ n by omega) (show 2 ^ n < 2 ^ 31 by omega)), s1, if_pos (bi_00 q), nI_add]
theorem x_odds {h : icH} {ab be : Int64} (h0 : hg h 0 = some (xo ab be)) {R N H n i c : Nat} {D : Nat → Nat → Int32} (hD : EOK R N D) (hn : n ≤ 6) (hc : c ≤ 10) (hH : H ≤ 9999) (hi : i < N) (fa : Nat → Int32) (Ht Rt Nt : Nat) (E : Nat → Nat → Int32) (F : Nat → Nat) (f : Nat → Nat → Int32) : ∃ Ht' Rt' Nt' E', icE 105 0 [.ref 0, .int (nI i), .int (nI n), .int (nI c), dum, dum, dum, dum, dum] [] (HX h fa Ht Rt Nt E H R N D F f) = some (some (.int (nI 1)), HX (hput h 0 (xo (lN (sw R N H D i n c (2 ^ n) / Nat.gcd (sw R N H D i n c (2 ^ n)) (10 ^ n))) (lN (10 ^ n / Nat.gcd (sw R N H D i n c (2 ^ n)) (10 ^ n))))) fa Ht' Rt' Nt' E' H R N D F f) := by
  have hN := hD.2.1
  have p2 := p2_le hn
  have p10 := p10_le hn
  have p0 : 0 < 10 ^ n := Nat.pow_pos (by decide)
  have sl := sw_le (R := R) (N := N) (H := H) (D := D) (i := i) hc hn (2 ^ n)
  have sl2 : sw R N H D i n c (2 ^ n) < 2 ^ 63 := Nat.lt_of_le_of_lt sl (Nat.lt_of_le_of_lt (Nat.mul_le_mul_right _ p2) (by decide))
  have z1 := l_odd0 hn (nI i) (nI c) dum dum (HX h fa Ht Rt Nt E H R N D F f) n 0 (by omega)
  obtain ⟨Ht', Rt', Nt', E', z2⟩ := l_odds h0 hD hn hc hH hi fa F f (lN (10 ^ n)) (2 ^ n) 0 Ht Rt Nt E (by omega)
  refine ⟨Ht', Rt', Nt', E', ?_⟩
  have k := c_keep (h := HX h fa Ht' Rt' Nt' E' H R N D F f) (HXz h0 fa Ht' Rt' Nt' E' H R N D F f) sl2 (show 10 ^ n < 2 ^ 40 by omega) p0
  rw [HX_p (by omega)] at k
  refine Eq.trans (b := icE 105 39 [.ref 0, .int (nI i), .int (nI n), .int (nI c), .long (lN (10 ^ 0)), dum, .int (nI 0), dum, dum] [] (HX h fa Ht Rt Nt E H R N D F f)) ?_ (z1.trans (Eq.trans z2 ?_))
  · simp only [SA, rw_105, HXz h0, HX_isI h0, c_within, if_neg (bi_10 (R_n hi (show N < 2 ^ 31 by omega))), if_neg (bi_10 (W_n (Nat.zero_le n) hn (by decide))), if_neg (bi_10 (W_n (Nat.zero_le c) hc (by decide))), Nat.pow_zero]
  · simp only [SA, rw_105, HXz h0, k]
