/-! ===== reading: tokens, the reference ===== -/
-- cX9_letter: heads []
theorem fe_160 (pc : Nat) : fet 160 pc = look k_160 pc := rfl
theorem r_160_0 (L S : List Value) (h : icH) : icE 160 0 L S h = exe icE 160 (e_iload 1 1 L S h) := icE_eq (i := .iload_n 1) (len := 1) (x1 := 0) (x2 := 0) (x3 := 0) (x4 := 64) ((fe_160 0).trans rfl) L S h
theorem r_160_1 (L S : List Value) (h : icH) : icE 160 1 L S h = exe icE 160 (e_aload 0 2 L S h) := icE_eq (i := .aload_n 0) (len := 1) (x1 := 0) (x2 := 0) (x3 := 0) (x4 := 64) ((fe_160 1).trans rfl) L S h
theorem r_160_2 (L S : List Value) (h : icH) : icE 160 2 L S h = exe icE 160 (e_getf 5 8 5 L S h) := icE_eq (i := .getfield 123) (len := 3) (x1 := 5) (x2 := 8) (x3 := 0) (x4 := 962) ((fe_160 2).trans rfl) L S h
theorem r_160_5 (L S : List Value) (h : icH) : icE 160 5 L S h = exe icE 160 (e_cmp .ge 17 8 L S h) := icE_eq (i := .if_icmp .ge 12) (len := 3) (x1 := 17) (x2 := 0) (x3 := 0) (x4 := 64) ((fe_160 5).trans rfl) L S h
theorem r_160_8 (L S : List Value) (h : icH) : icE 160 8 L S h = exe icE 160 (e_aload 0 9 L S h) := icE_eq (i := .aload_n 0) (len := 1) (x1 := 0) (x2 := 0) (x3 := 0) (x4 := 64) ((fe_160 8).trans rfl) L S h
theorem r_160_9 (L S : List Value) (h : icH) : icE 160 9 L S h = exe icE 160 (e_getf 4 8 12 L S h) := icE_eq (i := .getfield 23) (len := 3) (x1 := 4) (x2 := 8) (x3 := 12) (x4 := 961) ((fe_160 9).trans rfl) L S h
theorem r_160_12 (L S : List Value) (h : icH) : icE 160 12 L S h = exe icE 160 (e_iload 1 13 L S h) := icE_eq (i := .iload_n 1) (len := 1) (x1 := 0) (x2 := 0) (x3 := 0) (x4 := 64) ((fe_160 12).trans rfl) L S h
theorem r_160_13 (L S : List Value) (h : icH) : icE 160 13 L S h = exe icE 160 (e_iald 14 L S h) := icE_eq (i := .iaload) (len := 1) (x1 := 0) (x2 := 0) (x3 := 0) (x4 := 64) ((fe_160 13).trans rfl) L S h
theorem r_160_14 (L S : List Value) (h : icH) : icE 160 14 L S h = icE 160 18 L S h := icE_eq (i := .goto 4) (len := 3) (x1 := 18) (x2 := 0) (x3 := 0) (x4 := 64) ((fe_160 14).trans rfl) L S h
theorem r_160_17 (L S : List Value) (h : icH) : icE 160 17 L S h = icE 160 18 L (.int (-1) :: S) h := icE_eq (i := .iconst (-1)) (len := 1) (x1 := 0) (x2 := 0) (x3 := 0) (x4 := 64) ((fe_160 17).trans rfl) L S h
theorem r_160_18 (L S : List Value) (h : icH) : icE 160 18 L S h = exe icE 160 (e_iret 0 L S h) := icE_eq (i := .ireturn) (len := 1) (x1 := 0) (x2 := 0) (x3 := 0) (x4 := 64) ((fe_160 18).trans rfl) L S h
theorem rw_160 : (∀ (L S : List Value) (h : icH), icE 160 0 L S h = exe icE 160 (e_iload 1 1 L S h)) ∧ (∀ (L S : List Value) (h : icH), icE 160 1 L S h = exe icE 160 (e_aload 0 2 L S h)) ∧ (∀ (L S : List Value) (h : icH), icE 160 2 L S h = exe icE 160 (e_getf 5 8 5 L S h)) ∧ (∀ (L S : List Value) (h : icH), icE 160 5 L S h = exe icE 160 (e_cmp .ge 17 8 L S h)) ∧ (∀ (L S : List Value) (h : icH), icE 160 8 L S h = exe icE 160 (e_aload 0 9 L S h)) ∧ (∀ (L S : List Value) (h : icH), icE 160 9 L S h = exe icE 160 (e_getf 4 8 12 L S h)) ∧ (∀ (L S : List Value) (h : icH), icE 160 12 L S h = exe icE 160 (e_iload 1 13 L S h)) ∧ (∀ (L S : List Value) (h : icH), icE 160 13 L S h = exe icE 160 (e_iald 14 L S h)) ∧ (∀ (L S : List Value) (h : icH), icE 160 14 L S h = icE 160 18 L S h) ∧ (∀ (L S : List Value) (h : icH), icE 160 17 L S h = icE 160 18 L (.int (-1) :: S) h) ∧ (∀ (L S : List Value) (h : icH), icE 160 18 L S h = exe icE 160 (e_iret 0 L S h)) := ⟨r_160_0, r_160_1, r_160_2, r_160_5, r_160_8, r_160_9, r_160_12, r_160_13, r_160_14, r_160_17, r_160_18⟩
-- cX9_step: heads [0, 115, 157]
theorem fe_161 (pc : Nat) : fet 161 pc = look k_161 pc := rfl
theorem rh_161_0 (L S : List Value) (h : icH) : icE 161 0 L S h = exe icE 161 (e_aload 0 1 L S h) := icE_eq (i := .aload_n 0) (len := 1) (x1 := 0) (x2 := 0) (x3 := 0) (x4 := 64) ((fe_161 0).trans rfl) L S h
theorem r_161_1 (L S : List Value) (h : icH) : icE 161 1 L S h = exe icE 161 (e_aload 0 2 L S h) := icE_eq (i := .aload_n 0) (len := 1) (x1 := 0) (x2 := 0) (x3 := 0) (x4 := 64) ((fe_161 1).trans rfl) L S h
theorem r_161_2 (L S : List Value) (h : icH) : icE 161 2 L S h = exe icE 161 (e_getf 10 8 5 L S h) := icE_eq (i := .getfield 127) (len := 3) (x1 := 10) (x2 := 8) (x3 := 0) (x4 := 967) ((fe_161 2).trans rfl) L S h
theorem r_161_5 (L S : List Value) (h : icH) : icE 161 5 L S h = exe icE 161 (e_vcal 8 160 2 1 8 L S h) := icE_eq (i := .invokevirtual 130) (len := 3) (x1 := 160) (x2 := 3) (x3 := 8) (x4 := 1098) ((fe_161 5).trans rfl) L S h
theorem r_161_8 (L S : List Value) (h : icH) : icE 161 8 L S h = icE 161 10 L (.int (nI 32) :: S) h := icE_eq (i := .bipush 32) (len := 2) (x1 := 0) (x2 := 0) (x3 := 0) (x4 := 64) ((fe_161 8).trans rfl) L S h
theorem r_161_10 (L S : List Value) (h : icH) : icE 161 10 L S h = exe icE 161 (e_cmp .ne 26 13 L S h) := icE_eq (i := .if_icmp .ne 16) (len := 3) (x1 := 26) (x2 := 0) (x3 := 0) (x4 := 64) ((fe_161 10).trans rfl) L S h
theorem r_161_13 (L S : List Value) (h : icH) : icE 161 13 L S h = exe icE 161 (e_aload 0 14 L S h) := icE_eq (i := .aload_n 0) (len := 1) (x1 := 0) (x2 := 0) (x3 := 0) (x4 := 64) ((fe_161 13).trans rfl) L S h
theorem r_161_14 (L S : List Value) (h : icH) : icE 161 14 L S h = exe icE 161 (e_dup 15 L S h) := icE_eq (i := .dup) (len := 1) (x1 := 0) (x2 := 0) (x3 := 0) (x4 := 64) ((fe_161 14).trans rfl) L S h
theorem r_161_15 (L S : List Value) (h : icH) : icE 161 15 L S h = exe icE 161 (e_getf 10 8 18 L S h) := icE_eq (i := .getfield 127) (len := 3) (x1 := 10) (x2 := 8) (x3 := 0) (x4 := 967) ((fe_161 15).trans rfl) L S h
theorem r_161_18 (L S : List Value) (h : icH) : icE 161 18 L S h = icE 161 19 L (.int (nI 1) :: S) h := icE_eq (i := .iconst 1) (len := 1) (x1 := 0) (x2 := 0) (x3 := 0) (x4 := 64) ((fe_161 18).trans rfl) L S h
theorem r_161_19 (L S : List Value) (h : icH) : icE 161 19 L S h = exe icE 161 (e_bin (fun x y => x + y) 20 L S h) := icE_eq (i := .iadd) (len := 1) (x1 := 0) (x2 := 0) (x3 := 0) (x4 := 64) ((fe_161 19).trans rfl) L S h
theorem r_161_20 (L S : List Value) (h : icH) : icE 161 20 L S h = exe icE 161 (e_putf 10 8 0 23 L S h) := icE_eq (i := .putfield 127) (len := 3) (x1 := 10) (x2 := 8) (x3 := 0) (x4 := 967) ((fe_161 20).trans rfl) L S h
theorem r_161_23 (L S : List Value) (h : icH) : icE 161 23 L S h = icE 161 0 L S h := icE_eq (i := .goto (-23)) (len := 3) (x1 := 0) (x2 := 0) (x3 := 0) (x4 := 64) ((fe_161 23).trans rfl) L S h
theorem r_161_26 (L S : List Value) (h : icH) : icE 161 26 L S h = exe icE 161 (e_aload 0 27 L S h) := icE_eq (i := .aload_n 0) (len := 1) (x1 := 0) (x2 := 0) (x3 := 0) (x4 := 64) ((fe_161 26).trans rfl) L S h
theorem r_161_27 (L S : List Value) (h : icH) : icE 161 27 L S h = exe icE 161 (e_aload 0 28 L S h) := icE_eq (i := .aload_n 0) (len := 1) (x1 := 0) (x2 := 0) (x3 := 0) (x4 := 64) ((fe_161 27).trans rfl) L S h
theorem r_161_28 (L S : List Value) (h : icH) : icE 161 28 L S h = exe icE 161 (e_getf 10 8 31 L S h) := icE_eq (i := .getfield 127) (len := 3) (x1 := 10) (x2 := 8) (x3 := 0) (x4 := 967) ((fe_161 28).trans rfl) L S h
theorem r_161_31 (L S : List Value) (h : icH) : icE 161 31 L S h = exe icE 161 (e_putf 11 8 0 34 L S h) := icE_eq (i := .putfield 133) (len := 3) (x1 := 11) (x2 := 8) (x3 := 0) (x4 := 968) ((fe_161 31).trans rfl) L S h
theorem r_161_34 (L S : List Value) (h : icH) : icE 161 34 L S h = exe icE 161 (e_aload 0 35 L S h) := icE_eq (i := .aload_n 0) (len := 1) (x1 := 0) (x2 := 0) (x3 := 0) (x4 := 64) ((fe_161 34).trans rfl) L S h
theorem r_161_35 (L S : List Value) (h : icH) : icE 161 35 L S h = exe icE 161 (e_aload 0 36 L S h) := icE_eq (i := .aload_n 0) (len := 1) (x1 := 0) (x2 := 0) (x3 := 0) (x4 := 64) ((fe_161 35).trans rfl) L S h
theorem r_161_36 (L S : List Value) (h : icH) : icE 161 36 L S h = exe icE 161 (e_getf 10 8 39 L S h) := icE_eq (i := .getfield 127) (len := 3) (x1 := 10) (x2 := 8) (x3 := 0) (x4 := 967) ((fe_161 36).trans rfl) L S h
theorem r_161_39 (L S : List Value) (h : icH) : icE 161 39 L S h = exe icE 161 (e_vcal 8 160 2 1 42 L S h) := icE_eq (i := .invokevirtual 130) (len := 3) (x1 := 160) (x2 := 3) (x3 := 8) (x4 := 1098) ((fe_161 39).trans rfl) L S h
theorem r_161_42 (L S : List Value) (h : icH) : icE 161 42 L S h = exe icE 161 (e_istore 1 43 L S h) := icE_eq (i := .istore_n 1) (len := 1) (x1 := 0) (x2 := 0) (x3 := 0) (x4 := 64) ((fe_161 42).trans rfl) L S h
theorem r_161_43 (L S : List Value) (h : icH) : icE 161 43 L S h = exe icE 161 (e_aload 0 44 L S h) := icE_eq (i := .aload_n 0) (len := 1) (x1 := 0) (x2 := 0) (x3 := 0) (x4 := 64) ((fe_161 43).trans rfl) L S h
theorem r_161_44 (L S : List Value) (h : icH) : icE 161 44 L S h = icE 161 45 L (.int (nI 0) :: S) h := icE_eq (i := .iconst 0) (len := 1) (x1 := 0) (x2 := 0) (x3 := 0) (x4 := 64) ((fe_161 44).trans rfl) L S h
theorem r_161_45 (L S : List Value) (h : icH) : icE 161 45 L S h = exe icE 161 (e_putf 13 8 0 48 L S h) := icE_eq (i := .putfield 136) (len := 3) (x1 := 13) (x2 := 8) (x3 := 0) (x4 := 970) ((fe_161 45).trans rfl) L S h
theorem r_161_48 (L S : List Value) (h : icH) : icE 161 48 L S h = exe icE 161 (e_aload 0 49 L S h) := icE_eq (i := .aload_n 0) (len := 1) (x1 := 0) (x2 := 0) (x3 := 0) (x4 := 64) ((fe_161 48).trans rfl) L S h
theorem r_161_49 (L S : List Value) (h : icH) : icE 161 49 L S h = exe icE 161 (e_iload 1 50 L S h) := icE_eq (i := .iload_n 1) (len := 1) (x1 := 0) (x2 := 0) (x3 := 0) (x4 := 64) ((fe_161 49).trans rfl) L S h
theorem r_161_50 (L S : List Value) (h : icH) : icE 161 50 L S h = exe icE 161 (e_if .ge 57 53 L S h) := icE_eq (i := .ifCond .ge 7) (len := 3) (x1 := 57) (x2 := 0) (x3 := 0) (x4 := 64) ((fe_161 50).trans rfl) L S h
theorem r_161_53 (L S : List Value) (h : icH) : icE 161 53 L S h = icE 161 54 L (.int (nI 0) :: S) h := icE_eq (i := .iconst 0) (len := 1) (x1 := 0) (x2 := 0) (x3 := 0) (x4 := 64) ((fe_161 53).trans rfl) L S h
theorem r_161_54 (L S : List Value) (h : icH) : icE 161 54 L S h = icE 161 104 L S h := icE_eq (i := .goto 50) (len := 3) (x1 := 104) (x2 := 0) (x3 := 0) (x4 := 64) ((fe_161 54).trans rfl) L S h
theorem r_161_57 (L S : List Value) (h : icH) : icE 161 57 L S h = exe icE 161 (e_iload 1 58 L S h) := icE_eq (i := .iload_n 1) (len := 1) (x1 := 0) (x2 := 0) (x3 := 0) (x4 := 64) ((fe_161 57).trans rfl) L S h
theorem r_161_58 (L S : List Value) (h : icH) : icE 161 58 L S h = exe icE 161 (e_i2l 59 L S h) := icE_eq (i := .i2l) (len := 1) (x1 := 0) (x2 := 0) (x3 := 0) (x4 := 64) ((fe_161 58).trans rfl) L S h
theorem r_161_59 (L S : List Value) (h : icH) : icE 161 59 L S h = icE 161 62 L (.long (lN 97) :: S) h := icE_eq (i := .ldc2_w 139) (len := 3) (x1 := 97) (x2 := 0) (x3 := 0) (x4 := 1102) ((fe_161 59).trans rfl) L S h
theorem r_161_62 (L S : List Value) (h : icH) : icE 161 62 L S h = icE 161 65 L (.long (lN 122) :: S) h := icE_eq (i := .ldc2_w 141) (len := 3) (x1 := 122) (x2 := 0) (x3 := 0) (x4 := 1103) ((fe_161 62).trans rfl) L S h
theorem r_161_65 (L S : List Value) (h : icH) : icE 161 65 L S h = exe icE 161 (e_call 136 6 3 68 L S h) := icE_eq (i := .invokestatic 54) (len := 3) (x1 := 136) (x2 := 1) (x3 := 0) (x4 := 1030) ((fe_161 65).trans rfl) L S h
theorem r_161_68 (L S : List Value) (h : icH) : icE 161 68 L S h = exe icE 161 (e_if .eq 75 71 L S h) := icE_eq (i := .ifCond .eq 7) (len := 3) (x1 := 75) (x2 := 0) (x3 := 0) (x4 := 64) ((fe_161 68).trans rfl) L S h
theorem r_161_71 (L S : List Value) (h : icH) : icE 161 71 L S h = icE 161 72 L (.int (nI 1) :: S) h := icE_eq (i := .iconst 1) (len := 1) (x1 := 0) (x2 := 0) (x3 := 0) (x4 := 64) ((fe_161 71).trans rfl) L S h
theorem r_161_72 (L S : List Value) (h : icH) : icE 161 72 L S h = icE 161 104 L S h := icE_eq (i := .goto 32) (len := 3) (x1 := 104) (x2 := 0) (x3 := 0) (x4 := 64) ((fe_161 72).trans rfl) L S h
theorem r_161_75 (L S : List Value) (h : icH) : icE 161 75 L S h = exe icE 161 (e_iload 1 76 L S h) := icE_eq (i := .iload_n 1) (len := 1) (x1 := 0) (x2 := 0) (x3 := 0) (x4 := 64) ((fe_161 75).trans rfl) L S h
theorem r_161_76 (L S : List Value) (h : icH) : icE 161 76 L S h = exe icE 161 (e_i2l 77 L S h) := icE_eq (i := .i2l) (len := 1) (x1 := 0) (x2 := 0) (x3 := 0) (x4 := 64) ((fe_161 76).trans rfl) L S h
theorem r_161_77 (L S : List Value) (h : icH) : icE 161 77 L S h = icE 161 80 L (.long (lN 48) :: S) h := icE_eq (i := .ldc2_w 143) (len := 3) (x1 := 48) (x2 := 0) (x3 := 0) (x4 := 1104) ((fe_161 77).trans rfl) L S h
theorem r_161_80 (L S : List Value) (h : icH) : icE 161 80 L S h = icE 161 83 L (.long (lN 57) :: S) h := icE_eq (i := .ldc2_w 145) (len := 3) (x1 := 57) (x2 := 0) (x3 := 0) (x4 := 1105) ((fe_161 80).trans rfl) L S h
theorem r_161_83 (L S : List Value) (h : icH) : icE 161 83 L S h = exe icE 161 (e_call 136 6 3 86 L S h) := icE_eq (i := .invokestatic 54) (len := 3) (x1 := 136) (x2 := 1) (x3 := 0) (x4 := 1030) ((fe_161 83).trans rfl) L S h
theorem r_161_86 (L S : List Value) (h : icH) : icE 161 86 L S h = exe icE 161 (e_if .eq 93 89 L S h) := icE_eq (i := .ifCond .eq 7) (len := 3) (x1 := 93) (x2 := 0) (x3 := 0) (x4 := 64) ((fe_161 86).trans rfl) L S h
theorem r_161_89 (L S : List Value) (h : icH) : icE 161 89 L S h = icE 161 90 L (.int (nI 2) :: S) h := icE_eq (i := .iconst 2) (len := 1) (x1 := 0) (x2 := 0) (x3 := 0) (x4 := 64) ((fe_161 89).trans rfl) L S h
theorem r_161_90 (L S : List Value) (h : icH) : icE 161 90 L S h = icE 161 104 L S h := icE_eq (i := .goto 14) (len := 3) (x1 := 104) (x2 := 0) (x3 := 0) (x4 := 64) ((fe_161 90).trans rfl) L S h
theorem r_161_93 (L S : List Value) (h : icH) : icE 161 93 L S h = exe icE 161 (e_iload 1 94 L S h) := icE_eq (i := .iload_n 1) (len := 1) (x1 := 0) (x2 := 0) (x3 := 0) (x4 := 64) ((fe_161 93).trans rfl) L S h
theorem r_161_94 (L S : List Value) (h : icH) : icE 161 94 L S h = icE 161 96 L (.int (nI 59) :: S) h := icE_eq (i := .bipush 59) (len := 2) (x1 := 0) (x2 := 0) (x3 := 0) (x4 := 64) ((fe_161 94).trans rfl) L S h
theorem r_161_96 (L S : List Value) (h : icH) : icE 161 96 L S h = exe icE 161 (e_cmp .ne 103 99 L S h) := icE_eq (i := .if_icmp .ne 7) (len := 3) (x1 := 103) (x2 := 0) (x3 := 0) (x4 := 64) ((fe_161 96).trans rfl) L S h
theorem r_161_99 (L S : List Value) (h : icH) : icE 161 99 L S h = icE 161 100 L (.int (nI 3) :: S) h := icE_eq (i := .iconst 3) (len := 1) (x1 := 0) (x2 := 0) (x3 := 0) (x4 := 64) ((fe_161 99).trans rfl) L S h
theorem r_161_100 (L S : List Value) (h : icH) : icE 161 100 L S h = icE 161 104 L S h := icE_eq (i := .goto 4) (len := 3) (x1 := 104) (x2 := 0) (x3 := 0) (x4 := 64) ((fe_161 100).trans rfl) L S h
theorem r_161_103 (L S : List Value) (h : icH) : icE 161 103 L S h = icE 161 104 L (.int (nI 4) :: S) h := icE_eq (i := .iconst 4) (len := 1) (x1 := 0) (x2 := 0) (x3 := 0) (x4 := 64) ((fe_161 103).trans rfl) L S h
theorem r_161_104 (L S : List Value) (h : icH) : icE 161 104 L S h = exe icE 161 (e_putf 12 8 0 107 L S h) := icE_eq (i := .putfield 147) (len := 3) (x1 := 12) (x2 := 8) (x3 := 0) (x4 := 969) ((fe_161 104).trans rfl) L S h
theorem r_161_107 (L S : List Value) (h : icH) : icE 161 107 L S h = exe icE 161 (e_aload 0 108 L S h) := icE_eq (i := .aload_n 0) (len := 1) (x1 := 0) (x2 := 0) (x3 := 0) (x4 := 64) ((fe_161 107).trans rfl) L S h
theorem r_161_108 (L S : List Value) (h : icH) : icE 161 108 L S h = exe icE 161 (e_getf 12 8 111 L S h) := icE_eq (i := .getfield 147) (len := 3) (x1 := 12) (x2 := 8) (x3 := 0) (x4 := 969) ((fe_161 108).trans rfl) L S h
theorem r_161_111 (L S : List Value) (h : icH) : icE 161 111 L S h = icE 161 112 L (.int (nI 1) :: S) h := icE_eq (i := .iconst 1) (len := 1) (x1 := 0) (x2 := 0) (x3 := 0) (x4 := 64) ((fe_161 111).trans rfl) L S h
theorem r_161_112 (L S : List Value) (h : icH) : icE 161 112 L S h = exe icE 161 (e_cmp .ne 149 115 L S h) := icE_eq (i := .if_icmp .ne 37) (len := 3) (x1 := 149) (x2 := 0) (x3 := 0) (x4 := 64) ((fe_161 112).trans rfl) L S h
theorem rh_161_115 (L S : List Value) (h : icH) : icE 161 115 L S h = exe icE 161 (e_aload 0 116 L S h) := icE_eq (i := .aload_n 0) (len := 1) (x1 := 0) (x2 := 0) (x3 := 0) (x4 := 64) ((fe_161 115).trans rfl) L S h
theorem r_161_116 (L S : List Value) (h : icH) : icE 161 116 L S h = exe icE 161 (e_aload 0 117 L S h) := icE_eq (i := .aload_n 0) (len := 1) (x1 := 0) (x2 := 0) (x3 := 0) (x4 := 64) ((fe_161 116).trans rfl) L S h
theorem r_161_117 (L S : List Value) (h : icH) : icE 161 117 L S h = exe icE 161 (e_getf 10 8 120 L S h) := icE_eq (i := .getfield 127) (len := 3) (x1 := 10) (x2 := 8) (x3 := 0) (x4 := 967) ((fe_161 117).trans rfl) L S h
theorem r_161_120 (L S : List Value) (h : icH) : icE 161 120 L S h = exe icE 161 (e_vcal 8 160 2 1 123 L S h) := icE_eq (i := .invokevirtual 130) (len := 3) (x1 := 160) (x2 := 3) (x3 := 8) (x4 := 1098) ((fe_161 120).trans rfl) L S h
theorem r_161_123 (L S : List Value) (h : icH) : icE 161 123 L S h = exe icE 161 (e_i2l 124 L S h) := icE_eq (i := .i2l) (len := 1) (x1 := 0) (x2 := 0) (x3 := 0) (x4 := 64) ((fe_161 123).trans rfl) L S h
theorem r_161_124 (L S : List Value) (h : icH) : icE 161 124 L S h = icE 161 127 L (.long (lN 97) :: S) h := icE_eq (i := .ldc2_w 139) (len := 3) (x1 := 97) (x2 := 0) (x3 := 0) (x4 := 1102) ((fe_161 124).trans rfl) L S h
theorem r_161_127 (L S : List Value) (h : icH) : icE 161 127 L S h = icE 161 130 L (.long (lN 122) :: S) h := icE_eq (i := .ldc2_w 141) (len := 3) (x1 := 122) (x2 := 0) (x3 := 0) (x4 := 1103) ((fe_161 127).trans rfl) L S h
theorem r_161_130 (L S : List Value) (h : icH) : icE 161 130 L S h = exe icE 161 (e_call 136 6 3 133 L S h) := icE_eq (i := .invokestatic 54) (len := 3) (x1 := 136) (x2 := 1) (x3 := 0) (x4 := 1030) ((fe_161 130).trans rfl) L S h
theorem r_161_133 (L S : List Value) (h : icH) : icE 161 133 L S h = exe icE 161 (e_if .eq 280 136 L S h) := icE_eq (i := .ifCond .eq 147) (len := 3) (x1 := 280) (x2 := 0) (x3 := 0) (x4 := 64) ((fe_161 133).trans rfl) L S h
theorem r_161_136 (L S : List Value) (h : icH) : icE 161 136 L S h = exe icE 161 (e_aload 0 137 L S h) := icE_eq (i := .aload_n 0) (len := 1) (x1 := 0) (x2 := 0) (x3 := 0) (x4 := 64) ((fe_161 136).trans rfl) L S h
theorem r_161_137 (L S : List Value) (h : icH) : icE 161 137 L S h = exe icE 161 (e_dup 138 L S h) := icE_eq (i := .dup) (len := 1) (x1 := 0) (x2 := 0) (x3 := 0) (x4 := 64) ((fe_161 137).trans rfl) L S h
theorem r_161_138 (L S : List Value) (h : icH) : icE 161 138 L S h = exe icE 161 (e_getf 10 8 141 L S h) := icE_eq (i := .getfield 127) (len := 3) (x1 := 10) (x2 := 8) (x3 := 0) (x4 := 967) ((fe_161 138).trans rfl) L S h
theorem r_161_141 (L S : List Value) (h : icH) : icE 161 141 L S h = icE 161 142 L (.int (nI 1) :: S) h := icE_eq (i := .iconst 1) (len := 1) (x1 := 0) (x2 := 0) (x3 := 0) (x4 := 64) ((fe_161 141).trans rfl) L S h
theorem r_161_142 (L S : List Value) (h : icH) : icE 161 142 L S h = exe icE 161 (e_bin (fun x y => x + y) 143 L S h) := icE_eq (i := .iadd) (len := 1) (x1 := 0) (x2 := 0) (x3 := 0) (x4 := 64) ((fe_161 142).trans rfl) L S h
theorem r_161_143 (L S : List Value) (h : icH) : icE 161 143 L S h = exe icE 161 (e_putf 10 8 0 146 L S h) := icE_eq (i := .putfield 127) (len := 3) (x1 := 10) (x2 := 8) (x3 := 0) (x4 := 967) ((fe_161 143).trans rfl) L S h
theorem r_161_146 (L S : List Value) (h : icH) : icE 161 146 L S h = icE 161 115 L S h := icE_eq (i := .goto (-31)) (len := 3) (x1 := 115) (x2 := 0) (x3 := 0) (x4 := 64) ((fe_161 146).trans rfl) L S h
theorem r_161_149 (L S : List Value) (h : icH) : icE 161 149 L S h = exe icE 161 (e_aload 0 150 L S h) := icE_eq (i := .aload_n 0) (len := 1) (x1 := 0) (x2 := 0) (x3 := 0) (x4 := 64) ((fe_161 149).trans rfl) L S h
theorem r_161_150 (L S : List Value) (h : icH) : icE 161 150 L S h = exe icE 161 (e_getf 12 8 153 L S h) := icE_eq (i := .getfield 147) (len := 3) (x1 := 12) (x2 := 8) (x3 := 0) (x4 := 969) ((fe_161 150).trans rfl) L S h
theorem r_161_153 (L S : List Value) (h : icH) : icE 161 153 L S h = icE 161 154 L (.int (nI 2) :: S) h := icE_eq (i := .iconst 2) (len := 1) (x1 := 0) (x2 := 0) (x3 := 0) (x4 := 64) ((fe_161 153).trans rfl) L S h
theorem r_161_154 (L S : List Value) (h : icH) : icE 161 154 L S h = exe icE 161 (e_cmp .ne 259 157 L S h) := icE_eq (i := .if_icmp .ne 105) (len := 3) (x1 := 259) (x2 := 0) (x3 := 0) (x4 := 64) ((fe_161 154).trans rfl) L S h
theorem rh_161_157 (L S : List Value) (h : icH) : icE 161 157 L S h = exe icE 161 (e_aload 0 158 L S h) := icE_eq (i := .aload_n 0) (len := 1) (x1 := 0) (x2 := 0) (x3 := 0) (x4 := 64) ((fe_161 157).trans rfl) L S h
theorem r_161_158 (L S : List Value) (h : icH) : icE 161 158 L S h = exe icE 161 (e_aload 0 159 L S h) := icE_eq (i := .aload_n 0) (len := 1) (x1 := 0) (x2 := 0) (x3 := 0) (x4 := 64) ((fe_161 158).trans rfl) L S h
theorem r_161_159 (L S : List Value) (h : icH) : icE 161 159 L S h = exe icE 161 (e_getf 10 8 162 L S h) := icE_eq (i := .getfield 127) (len := 3) (x1 := 10) (x2 := 8) (x3 := 0) (x4 := 967) ((fe_161 159).trans rfl) L S h
theorem r_161_162 (L S : List Value) (h : icH) : icE 161 162 L S h = exe icE 161 (e_vcal 8 160 2 1 165 L S h) := icE_eq (i := .invokevirtual 130) (len := 3) (x1 := 160) (x2 := 3) (x3 := 8) (x4 := 1098) ((fe_161 162).trans rfl) L S h
theorem r_161_165 (L S : List Value) (h : icH) : icE 161 165 L S h = exe icE 161 (e_i2l 166 L S h) := icE_eq (i := .i2l) (len := 1) (x1 := 0) (x2 := 0) (x3 := 0) (x4 := 64) ((fe_161 165).trans rfl) L S h
theorem r_161_166 (L S : List Value) (h : icH) : icE 161 166 L S h = icE 161 169 L (.long (lN 48) :: S) h := icE_eq (i := .ldc2_w 143) (len := 3) (x1 := 48) (x2 := 0) (x3 := 0) (x4 := 1104) ((fe_161 166).trans rfl) L S h
theorem r_161_169 (L S : List Value) (h : icH) : icE 161 169 L S h = icE 161 172 L (.long (lN 57) :: S) h := icE_eq (i := .ldc2_w 145) (len := 3) (x1 := 57) (x2 := 0) (x3 := 0) (x4 := 1105) ((fe_161 169).trans rfl) L S h
theorem r_161_172 (L S : List Value) (h : icH) : icE 161 172 L S h = exe icE 161 (e_call 136 6 3 175 L S h) := icE_eq (i := .invokestatic 54) (len := 3) (x1 := 136) (x2 := 1) (x3 := 0) (x4 := 1030) ((fe_161 172).trans rfl) L S h
theorem r_161_175 (L S : List Value) (h : icH) : icE 161 175 L S h = exe icE 161 (e_if .eq 234 178 L S h) := icE_eq (i := .ifCond .eq 59) (len := 3) (x1 := 234) (x2 := 0) (x3 := 0) (x4 := 64) ((fe_161 175).trans rfl) L S h
theorem r_161_178 (L S : List Value) (h : icH) : icE 161 178 L S h = exe icE 161 (e_aload 0 179 L S h) := icE_eq (i := .aload_n 0) (len := 1) (x1 := 0) (x2 := 0) (x3 := 0) (x4 := 64) ((fe_161 178).trans rfl) L S h
theorem r_161_179 (L S : List Value) (h : icH) : icE 161 179 L S h = exe icE 161 (e_aload 0 180 L S h) := icE_eq (i := .aload_n 0) (len := 1) (x1 := 0) (x2 := 0) (x3 := 0) (x4 := 64) ((fe_161 179).trans rfl) L S h
theorem r_161_180 (L S : List Value) (h : icH) : icE 161 180 L S h = exe icE 161 (e_getf 10 8 183 L S h) := icE_eq (i := .getfield 127) (len := 3) (x1 := 10) (x2 := 8) (x3 := 0) (x4 := 967) ((fe_161 180).trans rfl) L S h
theorem r_161_183 (L S : List Value) (h : icH) : icE 161 183 L S h = exe icE 161 (e_aload 0 184 L S h) := icE_eq (i := .aload_n 0) (len := 1) (x1 := 0) (x2 := 0) (x3 := 0) (x4 := 64) ((fe_161 183).trans rfl) L S h
theorem r_161_184 (L S : List Value) (h : icH) : icE 161 184 L S h = exe icE 161 (e_getf 11 8 187 L S h) := icE_eq (i := .getfield 133) (len := 3) (x1 := 11) (x2 := 8) (x3 := 0) (x4 := 968) ((fe_161 184).trans rfl) L S h
theorem r_161_187 (L S : List Value) (h : icH) : icE 161 187 L S h = exe icE 161 (e_bin (fun x y => x - y) 188 L S h) := icE_eq (i := .isub) (len := 1) (x1 := 0) (x2 := 0) (x3 := 0) (x4 := 64) ((fe_161 187).trans rfl) L S h
theorem r_161_188 (L S : List Value) (h : icH) : icE 161 188 L S h = icE 161 189 L (.int (nI 2) :: S) h := icE_eq (i := .iconst 2) (len := 1) (x1 := 0) (x2 := 0) (x3 := 0) (x4 := 64) ((fe_161 188).trans rfl) L S h
theorem r_161_189 (L S : List Value) (h : icH) : icE 161 189 L S h = exe icE 161 (e_cmp .ge 214 192 L S h) := icE_eq (i := .if_icmp .ge 25) (len := 3) (x1 := 214) (x2 := 0) (x3 := 0) (x4 := 64) ((fe_161 189).trans rfl) L S h
theorem r_161_192 (L S : List Value) (h : icH) : icE 161 192 L S h = icE 161 194 L (.int (nI 10) :: S) h := icE_eq (i := .bipush 10) (len := 2) (x1 := 0) (x2 := 0) (x3 := 0) (x4 := 64) ((fe_161 192).trans rfl) L S h
theorem r_161_194 (L S : List Value) (h : icH) : icE 161 194 L S h = exe icE 161 (e_aload 0 195 L S h) := icE_eq (i := .aload_n 0) (len := 1) (x1 := 0) (x2 := 0) (x3 := 0) (x4 := 64) ((fe_161 194).trans rfl) L S h
theorem r_161_195 (L S : List Value) (h : icH) : icE 161 195 L S h = exe icE 161 (e_getf 13 8 198 L S h) := icE_eq (i := .getfield 136) (len := 3) (x1 := 13) (x2 := 8) (x3 := 0) (x4 := 970) ((fe_161 195).trans rfl) L S h
theorem r_161_198 (L S : List Value) (h : icH) : icE 161 198 L S h = exe icE 161 (e_bin (fun x y => x * y) 199 L S h) := icE_eq (i := .imul) (len := 1) (x1 := 0) (x2 := 0) (x3 := 0) (x4 := 64) ((fe_161 198).trans rfl) L S h
theorem r_161_199 (L S : List Value) (h : icH) : icE 161 199 L S h = exe icE 161 (e_aload 0 200 L S h) := icE_eq (i := .aload_n 0) (len := 1) (x1 := 0) (x2 := 0) (x3 := 0) (x4 := 64) ((fe_161 199).trans rfl) L S h
theorem r_161_200 (L S : List Value) (h : icH) : icE 161 200 L S h = exe icE 161 (e_aload 0 201 L S h) := icE_eq (i := .aload_n 0) (len := 1) (x1 := 0) (x2 := 0) (x3 := 0) (x4 := 64) ((fe_161 200).trans rfl) L S h
theorem r_161_201 (L S : List Value) (h : icH) : icE 161 201 L S h = exe icE 161 (e_getf 10 8 204 L S h) := icE_eq (i := .getfield 127) (len := 3) (x1 := 10) (x2 := 8) (x3 := 0) (x4 := 967) ((fe_161 201).trans rfl) L S h
theorem r_161_204 (L S : List Value) (h : icH) : icE 161 204 L S h = exe icE 161 (e_vcal 8 160 2 1 207 L S h) := icE_eq (i := .invokevirtual 130) (len := 3) (x1 := 160) (x2 := 3) (x3 := 8) (x4 := 1098) ((fe_161 204).trans rfl) L S h
theorem r_161_207 (L S : List Value) (h : icH) : icE 161 207 L S h = exe icE 161 (e_bin (fun x y => x + y) 208 L S h) := icE_eq (i := .iadd) (len := 1) (x1 := 0) (x2 := 0) (x3 := 0) (x4 := 64) ((fe_161 207).trans rfl) L S h
theorem r_161_208 (L S : List Value) (h : icH) : icE 161 208 L S h = icE 161 210 L (.int (nI 48) :: S) h := icE_eq (i := .bipush 48) (len := 2) (x1 := 0) (x2 := 0) (x3 := 0) (x4 := 64) ((fe_161 208).trans rfl) L S h
theorem r_161_210 (L S : List Value) (h : icH) : icE 161 210 L S h = exe icE 161 (e_bin (fun x y => x - y) 211 L S h) := icE_eq (i := .isub) (len := 1) (x1 := 0) (x2 := 0) (x3 := 0) (x4 := 64) ((fe_161 210).trans rfl) L S h
theorem r_161_211 (L S : List Value) (h : icH) : icE 161 211 L S h = icE 161 218 L S h := icE_eq (i := .goto 7) (len := 3) (x1 := 218) (x2 := 0) (x3 := 0) (x4 := 64) ((fe_161 211).trans rfl) L S h
theorem r_161_214 (L S : List Value) (h : icH) : icE 161 214 L S h = exe icE 161 (e_aload 0 215 L S h) := icE_eq (i := .aload_n 0) (len := 1) (x1 := 0) (x2 := 0) (x3 := 0) (x4 := 64) ((fe_161 214).trans rfl) L S h
theorem r_161_215 (L S : List Value) (h : icH) : icE 161 215 L S h = exe icE 161 (e_getf 13 8 218 L S h) := icE_eq (i := .getfield 136) (len := 3) (x1 := 13) (x2 := 8) (x3 := 0) (x4 := 970) ((fe_161 215).trans rfl) L S h
theorem r_161_218 (L S : List Value) (h : icH) : icE 161 218 L S h = exe icE 161 (e_putf 13 8 0 221 L S h) := icE_eq (i := .putfield 136) (len := 3) (x1 := 13) (x2 := 8) (x3 := 0) (x4 := 970) ((fe_161 218).trans rfl) L S h
theorem r_161_221 (L S : List Value) (h : icH) : icE 161 221 L S h = exe icE 161 (e_aload 0 222 L S h) := icE_eq (i := .aload_n 0) (len := 1) (x1 := 0) (x2 := 0) (x3 := 0) (x4 := 64) ((fe_161 221).trans rfl) L S h
theorem r_161_222 (L S : List Value) (h : icH) : icE 161 222 L S h = exe icE 161 (e_dup 223 L S h) := icE_eq (i := .dup) (len := 1) (x1 := 0) (x2 := 0) (x3 := 0) (x4 := 64) ((fe_161 222).trans rfl) L S h
theorem r_161_223 (L S : List Value) (h : icH) : icE 161 223 L S h = exe icE 161 (e_getf 10 8 226 L S h) := icE_eq (i := .getfield 127) (len := 3) (x1 := 10) (x2 := 8) (x3 := 0) (x4 := 967) ((fe_161 223).trans rfl) L S h
theorem r_161_226 (L S : List Value) (h : icH) : icE 161 226 L S h = icE 161 227 L (.int (nI 1) :: S) h := icE_eq (i := .iconst 1) (len := 1) (x1 := 0) (x2 := 0) (x3 := 0) (x4 := 64) ((fe_161 226).trans rfl) L S h
theorem r_161_227 (L S : List Value) (h : icH) : icE 161 227 L S h = exe icE 161 (e_bin (fun x y => x + y) 228 L S h) := icE_eq (i := .iadd) (len := 1) (x1 := 0) (x2 := 0) (x3 := 0) (x4 := 64) ((fe_161 227).trans rfl) L S h
theorem r_161_228 (L S : List Value) (h : icH) : icE 161 228 L S h = exe icE 161 (e_putf 10 8 0 231 L S h) := icE_eq (i := .putfield 127) (len := 3) (x1 := 10) (x2 := 8) (x3 := 0) (x4 := 967) ((fe_161 228).trans rfl) L S h
theorem r_161_231 (L S : List Value) (h : icH) : icE 161 231 L S h = icE 161 157 L S h := icE_eq (i := .goto (-74)) (len := 3) (x1 := 157) (x2 := 0) (x3 := 0) (x4 := 64) ((fe_161 231).trans rfl) L S h
theorem r_161_234 (L S : List Value) (h : icH) : icE 161 234 L S h = exe icE 161 (e_aload 0 235 L S h) := icE_eq (i := .aload_n 0) (len := 1) (x1 := 0) (x2 := 0) (x3 := 0) (x4 := 64) ((fe_161 234).trans rfl) L S h
theorem r_161_235 (L S : List Value) (h : icH) : icE 161 235 L S h = exe icE 161 (e_aload 0 236 L S h) := icE_eq (i := .aload_n 0) (len := 1) (x1 := 0) (x2 := 0) (x3 := 0) (x4 := 64) ((fe_161 235).trans rfl) L S h
theorem r_161_236 (L S : List Value) (h : icH) : icE 161 236 L S h = exe icE 161 (e_getf 10 8 239 L S h) := icE_eq (i := .getfield 127) (len := 3) (x1 := 10) (x2 := 8) (x3 := 0) (x4 := 967) ((fe_161 236).trans rfl) L S h
theorem r_161_239 (L S : List Value) (h : icH) : icE 161 239 L S h = exe icE 161 (e_aload 0 240 L S h) := icE_eq (i := .aload_n 0) (len := 1) (x1 := 0) (x2 := 0) (x3 := 0) (x4 := 64) ((fe_161 239).trans rfl) L S h
theorem r_161_240 (L S : List Value) (h : icH) : icE 161 240 L S h = exe icE 161 (e_getf 11 8 243 L S h) := icE_eq (i := .getfield 133) (len := 3) (x1 := 11) (x2 := 8) (x3 := 0) (x4 := 968) ((fe_161 240).trans rfl) L S h
theorem r_161_243 (L S : List Value) (h : icH) : icE 161 243 L S h = exe icE 161 (e_bin (fun x y => x - y) 244 L S h) := icE_eq (i := .isub) (len := 1) (x1 := 0) (x2 := 0) (x3 := 0) (x4 := 64) ((fe_161 243).trans rfl) L S h
theorem r_161_244 (L S : List Value) (h : icH) : icE 161 244 L S h = icE 161 245 L (.int (nI 2) :: S) h := icE_eq (i := .iconst 2) (len := 1) (x1 := 0) (x2 := 0) (x3 := 0) (x4 := 64) ((fe_161 244).trans rfl) L S h
theorem r_161_245 (L S : List Value) (h : icH) : icE 161 245 L S h = exe icE 161 (e_cmp .le 252 248 L S h) := icE_eq (i := .if_icmp .le 7) (len := 3) (x1 := 252) (x2 := 0) (x3 := 0) (x4 := 64) ((fe_161 245).trans rfl) L S h
theorem r_161_248 (L S : List Value) (h : icH) : icE 161 248 L S h = icE 161 249 L (.int (nI 4) :: S) h := icE_eq (i := .iconst 4) (len := 1) (x1 := 0) (x2 := 0) (x3 := 0) (x4 := 64) ((fe_161 248).trans rfl) L S h
theorem r_161_249 (L S : List Value) (h : icH) : icE 161 249 L S h = icE 161 253 L S h := icE_eq (i := .goto 4) (len := 3) (x1 := 253) (x2 := 0) (x3 := 0) (x4 := 64) ((fe_161 249).trans rfl) L S h
theorem r_161_252 (L S : List Value) (h : icH) : icE 161 252 L S h = icE 161 253 L (.int (nI 2) :: S) h := icE_eq (i := .iconst 2) (len := 1) (x1 := 0) (x2 := 0) (x3 := 0) (x4 := 64) ((fe_161 252).trans rfl) L S h
theorem r_161_253 (L S : List Value) (h : icH) : icE 161 253 L S h = exe icE 161 (e_putf 12 8 0 256 L S h) := icE_eq (i := .putfield 147) (len := 3) (x1 := 12) (x2 := 8) (x3 := 0) (x4 := 969) ((fe_161 253).trans rfl) L S h
theorem r_161_256 (L S : List Value) (h : icH) : icE 161 256 L S h = icE 161 280 L S h := icE_eq (i := .goto 24) (len := 3) (x1 := 280) (x2 := 0) (x3 := 0) (x4 := 64) ((fe_161 256).trans rfl) L S h
theorem r_161_259 (L S : List Value) (h : icH) : icE 161 259 L S h = exe icE 161 (e_aload 0 260 L S h) := icE_eq (i := .aload_n 0) (len := 1) (x1 := 0) (x2 := 0) (x3 := 0) (x4 := 64) ((fe_161 259).trans rfl) L S h
theorem r_161_260 (L S : List Value) (h : icH) : icE 161 260 L S h = exe icE 161 (e_dup 261 L S h) := icE_eq (i := .dup) (len := 1) (x1 := 0) (x2 := 0) (x3 := 0) (x4 := 64) ((fe_161 260).trans rfl) L S h
theorem r_161_261 (L S : List Value) (h : icH) : icE 161 261 L S h = exe icE 161 (e_getf 10 8 264 L S h) := icE_eq (i := .getfield 127) (len := 3) (x1 := 10) (x2 := 8) (x3 := 0) (x4 := 967) ((fe_161 261).trans rfl) L S h
theorem r_161_264 (L S : List Value) (h : icH) : icE 161 264 L S h = exe icE 161 (e_aload 0 265 L S h) := icE_eq (i := .aload_n 0) (len := 1) (x1 := 0) (x2 := 0) (x3 := 0) (x4 := 64) ((fe_161 264).trans rfl) L S h
theorem r_161_265 (L S : List Value) (h : icH) : icE 161 265 L S h = exe icE 161 (e_getf 12 8 268 L S h) := icE_eq (i := .getfield 147) (len := 3) (x1 := 12) (x2 := 8) (x3 := 0) (x4 := 969) ((fe_161 265).trans rfl) L S h
theorem r_161_268 (L S : List Value) (h : icH) : icE 161 268 L S h = exe icE 161 (e_if .ne 275 271 L S h) := icE_eq (i := .ifCond .ne 7) (len := 3) (x1 := 275) (x2 := 0) (x3 := 0) (x4 := 64) ((fe_161 268).trans rfl) L S h
theorem r_161_271 (L S : List Value) (h : icH) : icE 161 271 L S h = icE 161 272 L (.int (nI 0) :: S) h := icE_eq (i := .iconst 0) (len := 1) (x1 := 0) (x2 := 0) (x3 := 0) (x4 := 64) ((fe_161 271).trans rfl) L S h
theorem r_161_272 (L S : List Value) (h : icH) : icE 161 272 L S h = icE 161 276 L S h := icE_eq (i := .goto 4) (len := 3) (x1 := 276) (x2 := 0) (x3 := 0) (x4 := 64) ((fe_161 272).trans rfl) L S h
theorem r_161_275 (L S : List Value) (h : icH) : icE 161 275 L S h = icE 161 276 L (.int (nI 1) :: S) h := icE_eq (i := .iconst 1) (len := 1) (x1 := 0) (x2 := 0) (x3 := 0) (x4 := 64) ((fe_161 275).trans rfl) L S h
theorem r_161_276 (L S : List Value) (h : icH) : icE 161 276 L S h = exe icE 161 (e_bin (fun x y => x + y) 277 L S h) := icE_eq (i := .iadd) (len := 1) (x1 := 0) (x2 := 0) (x3 := 0) (x4 := 64) ((fe_161 276).trans rfl) L S h
theorem r_161_277 (L S : List Value) (h : icH) : icE 161 277 L S h = exe icE 161 (e_putf 10 8 0 280 L S h) := icE_eq (i := .putfield 127) (len := 3) (x1 := 10) (x2 := 8) (x3 := 0) (x4 := 967) ((fe_161 277).trans rfl) L S h
theorem r_161_280 (L S : List Value) (h : icH) : icE 161 280 L S h = exe icE 161 (e_vret L S h) := icE_eq (i := .return_) (len := 1) (x1 := 0) (x2 := 0) (x3 := 0) (x4 := 64) ((fe_161 280).trans rfl) L S h
theorem rw_161 : (∀ (L S : List Value) (h : icH), icE 161 1 L S h = exe icE 161 (e_aload 0 2 L S h)) ∧ (∀ (L S : List Value) (h : icH), icE 161 2 L S h = exe icE 161 (e_getf 10 8 5 L S h)) ∧ (∀ (L S : List Value) (h : icH), icE 161 5 L S h = exe icE 161 (e_vcal 8 160 2 1 8 L S h)) ∧ (∀ (L S : List Value) (h : icH), icE 161 8 L S h = icE 161 10 L (.int (nI 32) :: S) h) ∧ (∀ (L S : List Value) (h : icH), icE 161 10 L S h = exe icE 161 (e_cmp .ne 26 13 L S h)) ∧ (∀ (L S : List Value) (h : icH), icE 161 13 L S h = exe icE 161 (e_aload 0 14 L S h)) ∧ (∀ (L S : List Value) (h : icH), icE 161 14 L S h = exe icE 161 (e_dup 15 L S h)) ∧ (∀ (L S : List Value) (h : icH), icE 161 15 L S h = exe icE 161 (e_getf 10 8 18 L S h)) ∧ (∀ (L S : List Value) (h : icH), icE 161 18 L S h = icE 161 19 L (.int (nI 1) :: S) h) ∧ (∀ (L S : List Value) (h : icH), icE 161 19 L S h = exe icE 161 (e_bin (fun x y => x + y) 20 L S h)) ∧ (∀ (L S : List Value) (h : icH), icE 161 20 L S h = exe icE 161 (e_putf 10 8 0 23 L S h)) ∧ (∀ (L S : List Value) (h : icH), icE 161 23 L S h = icE 161 0 L S h) ∧ (∀ (L S : List Value) (h : icH), icE 161 26 L S h = exe icE 161 (e_aload 0 27 L S h)) ∧ (∀ (L S : List Value) (h : icH), icE 161 27 L S h = exe icE 161 (e_aload 0 28 L S h)) ∧ (∀ (L S : List Value) (h : icH), icE 161 28 L S h = exe icE 161 (e_getf 10 8 31 L S h)) ∧ (∀ (L S : List Value) (h : icH), icE 161 31 L S h = exe icE 161 (e_putf 11 8 0 34 L S h)) ∧ (∀ (L S : List Value) (h : icH), icE 161 34 L S h = exe icE 161 (e_aload 0 35 L S h)) ∧ (∀ (L S : List Value) (h : icH), icE 161 35 L S h = exe icE 161 (e_aload 0 36 L S h)) ∧ (∀ (L S : List Value) (h : icH), icE 161 36 L S h = exe icE 161 (e_getf 10 8 39 L S h)) ∧ (∀ (L S : List Value) (h : icH), icE 161 39 L S h = exe icE 161 (e_vcal 8 160 2 1 42 L S h)) ∧ (∀ (L S : List Value) (h : icH), icE 161 42 L S h = exe icE 161 (e_istore 1 43 L S h)) ∧ (∀ (L S : List Value) (h : icH), icE 161 43 L S h = exe icE 161 (e_aload 0 44 L S h)) ∧ (∀ (L S : List Value) (h : icH), icE 161 44 L S h = icE 161 45 L (.int (nI 0) :: S) h) ∧ (∀ (L S : List Value) (h : icH), icE 161 45 L S h = exe icE 161 (e_putf 13 8 0 48 L S h)) ∧ (∀ (L S : List Value) (h : icH), icE 161 48 L S h = exe icE 161 (e_aload 0 49 L S h)) ∧ (∀ (L S : List Value) (h : icH), icE 161 49 L S h = exe icE 161 (e_iload 1 50 L S h)) ∧ (∀ (L S : List Value) (h : icH), icE 161 50 L S h = exe icE 161 (e_if .ge 57 53 L S h)) ∧ (∀ (L S : List Value) (h : icH), icE 161 53 L S h = icE 161 54 L (.int (nI 0) :: S) h) ∧ (∀ (L S : List Value) (h : icH), icE 161 54 L S h = icE 161 104 L S h) ∧ (∀ (L S : List Value) (h : icH), icE 161 57 L S h = exe icE 161 (e_iload 1 58 L S h)) ∧ (∀ (L S : List Value) (h : icH), icE 161 58 L S h = exe icE 161 (e_i2l 59 L S h)) ∧ (∀ (L S : List Value) (h : icH), icE 161 59 L S h = icE 161 62 L (.long (lN 97) :: S) h) ∧ (∀ (L S : List Value) (h : icH), icE 161 62 L S h = icE 161 65 L (.long (lN 122) :: S) h) ∧ (∀ (L S : List Value) (h : icH), icE 161 65 L S h = exe icE 161 (e_call 136 6 3 68 L S h)) ∧ (∀ (L S : List Value) (h : icH), icE 161 68 L S h = exe icE 161 (e_if .eq 75 71 L S h)) ∧ (∀ (L S : List Value) (h : icH), icE 161 71 L S h = icE 161 72 L (.int (nI 1) :: S) h) ∧ (∀ (L S : List Value) (h : icH), icE 161 72 L S h = icE 161 104 L S h) ∧ (∀ (L S : List Value) (h : icH), icE 161 75 L S h = exe icE 161 (e_iload 1 76 L S h)) ∧ (∀ (L S : List Value) (h : icH), icE 161 76 L S h = exe icE 161 (e_i2l 77 L S h)) ∧ (∀ (L S : List Value) (h : icH), icE 161 77 L S h = icE 161 80 L (.long (lN 48) :: S) h) ∧ (∀ (L S : List Value) (h : icH), icE 161 80 L S h = icE 161 83 L (.long (lN 57) :: S) h) ∧ (∀ (L S : List Value) (h : icH), icE 161 83 L S h = exe icE 161 (e_call 136 6 3 86 L S h)) ∧ (∀ (L S : List Value) (h : icH), icE 161 86 L S h = exe icE 161 (e_if .eq 93 89 L S h)) ∧ (∀ (L S : List Value) (h : icH), icE 161 89 L S h = icE 161 90 L (.int (nI 2) :: S) h) ∧ (∀ (L S : List Value) (h : icH), icE 161 90 L S h = icE 161 104 L S h) ∧ (∀ (L S : List Value) (h : icH), icE 161 93 L S h = exe icE 161 (e_iload 1 94 L S h)) ∧ (∀ (L S : List Value) (h : icH), icE 161 94 L S h = icE 161 96 L (.int (nI 59) :: S) h) ∧ (∀ (L S : List Value) (h : icH), icE 161 96 L S h = exe icE 161 (e_cmp .ne 103 99 L S h)) ∧ (∀ (L S : List Value) (h : icH), icE 161 99 L S h = icE 161 100 L (.int (nI 3) :: S) h) ∧ (∀ (L S : List Value) (h : icH), icE 161 100 L S h = icE 161 104 L S h) ∧ (∀ (L S : List Value) (h : icH), icE 161 103 L S h = icE 161 104 L (.int (nI 4) :: S) h) ∧ (∀ (L S : List Value) (h : icH), icE 161 104 L S h = exe icE 161 (e_putf 12 8 0 107 L S h)) ∧ (∀ (L S : List Value) (h : icH), icE 161 107 L S h = exe icE 161 (e_aload 0 108 L S h)) ∧ (∀ (L S : List Value) (h : icH), icE 161 108 L S h = exe icE 161 (e_getf 12 8 111 L S h)) ∧ (∀ (L S : List Value) (h : icH), icE 161 111 L S h = icE 161 112 L (.int (nI 1) :: S) h) ∧ (∀ (L S : List Value) (h : icH), icE 161 112 L S h = exe icE 161 (e_cmp .ne 149 115 L S h)) ∧ (∀ (L S : List Value) (h : icH), icE 161 116 L S h = exe icE 161 (e_aload 0 117 L S h)) ∧ (∀ (L S : List Value) (h : icH), icE 161 117 L S h = exe icE 161 (e_getf 10 8 120 L S h)) ∧ (∀ (L S : List Value) (h : icH), icE 161 120 L S h = exe icE 161 (e_vcal 8 160 2 1 123 L S h)) ∧ (∀ (L S : List Value) (h : icH), icE 161 123 L S h = exe icE 161 (e_i2l 124 L S h)) ∧ (∀ (L S : List Value) (h : icH), icE 161 124 L S h = icE 161 127 L (.long (lN 97) :: S) h) ∧ (∀ (L S : List Value) (h : icH), icE 161 127 L S h = icE 161 130 L (.long (lN 122) :: S) h) ∧ (∀ (L S : List Value) (h : icH), icE 161 130 L S h = exe icE 161 (e_call 136 6 3 133 L S h)) ∧ (∀ (L S : List Value) (h : icH), icE 161 133 L S h = exe icE 161 (e_if .eq 280 136 L S h)) ∧ (∀ (L S : List Value) (h : icH), icE 161 136 L S h = exe icE 161 (e_aload 0 137 L S h)) ∧ (∀ (L S : List Value) (h : icH), icE 161 137 L S h = exe icE 161 (e_dup 138 L S h)) ∧ (∀ (L S : List Value) (h : icH), icE 161 138 L S h = exe icE 161 (e_getf 10 8 141 L S h)) ∧ (∀ (L S : List Value) (h : icH), icE 161 141 L S h = icE 161 142 L (.int (nI 1) :: S) h) ∧ (∀ (L S : List Value) (h : icH), icE 161 142 L S h = exe icE 161 (e_bin (fun x y => x + y) 143 L S h)) ∧ (∀ (L S : List Value) (h : icH), icE 161 143 L S h = exe icE 161 (e_putf 10 8 0 146 L S h)) ∧ (∀ (L S : List Value) (h : icH), icE 161 146 L S h = icE 161 115 L S h) ∧ (∀ (L S : List Value) (h : icH), icE 161 149 L S h = exe icE 161 (e_aload 0 150 L S h)) ∧ (∀ (L S : List Value) (h : icH), icE 161 150 L S h = exe icE 161 (e_getf 12 8 153 L S h)) ∧ (∀ (L S : List Value) (h : icH), icE 161 153 L S h = icE 161 154 L (.int (nI 2) :: S) h) ∧ (∀ (L S : List Value) (h : icH), icE 161 154 L S h = exe icE 161 (e_cmp .ne 259 157 L S h)) ∧ (∀ (L S : List Value) (h : icH), icE 161 158 L S h = exe icE 161 (e_aload 0 159 L S h)) ∧ (∀ (L S : List Value) (h : icH), icE 161 159 L S h = exe icE 161 (e_getf 10 8 162 L S h)) ∧ (∀ (L S : List Value) (h : icH), icE 161 162 L S h = exe icE 161 (e_vcal 8 160 2 1 165 L S h)) ∧ (∀ (L S : List Value) (h : icH), icE 161 165 L S h = exe icE 161 (e_i2l 166 L S h)) ∧ (∀ (L S : List Value) (h : icH), icE 161 166 L S h = icE 161 169 L (.long (lN 48) :: S) h) ∧ (∀ (L S : List Value) (h : icH), icE 161 169 L S h = icE 161 172 L (.long (lN 57) :: S) h) ∧ (∀ (L S : List Value) (h : icH), icE 161 172 L S h = exe icE 161 (e_call 136 6 3 175 L S h)) ∧ (∀ (L S : List Value) (h : icH), icE 161 175 L S h = exe icE 161 (e_if .eq 234 178 L S h)) ∧ (∀ (L S : List Value) (h : icH), icE 161 178 L S h = exe icE 161 (e_aload 0 179 L S h)) ∧ (∀ (L S : List Value) (h : icH), icE 161 179 L S h = exe icE 161 (e_aload 0 180 L S h)) ∧ (∀ (L S : List Value) (h : icH), icE 161 180 L S h = exe icE 161 (e_getf 10 8 183 L S h)) ∧ (∀ (L S : List Value) (h : icH), icE 161 183 L S h = exe icE 161 (e_aload 0 184 L S h)) ∧ (∀ (L S : List Value) (h : icH), icE 161 184 L S h = exe icE 161 (e_getf 11 8 187 L S h)) ∧ (∀ (L S : List Value) (h : icH), icE 161 187 L S h = exe icE 161 (e_bin (fun x y => x - y) 188 L S h)) ∧ (∀ (L S : List Value) (h : icH), icE 161 188 L S h = icE 161 189 L (.int (nI 2) :: S) h) ∧ (∀ (L S : List Value) (h : icH), icE 161 189 L S h = exe icE 161 (e_cmp .ge 214 192 L S h)) ∧ (∀ (L S : List Value) (h : icH), icE 161 192 L S h = icE 161 194 L (.int (nI 10) :: S) h) ∧ (∀ (L S : List Value) (h : icH), icE 161 194 L S h = exe icE 161 (e_aload 0 195 L S h)) ∧ (∀ (L S : List Value) (h : icH), icE 161 195 L S h = exe icE 161 (e_getf 13 8 198 L S h)) ∧ (∀ (L S : List Value) (h : icH), icE 161 198 L S h = exe icE 161 (e_bin (fun x y => x * y) 199 L S h)) ∧ (∀ (L S : List Value) (h : icH), icE 161 199 L S h = exe icE 161 (e_aload 0 200 L S h)) ∧ (∀ (L S : List Value) (h : icH), icE 161 200 L S h = exe icE 161 (e_aload 0 201 L S h)) ∧ (∀ (L S : List Value) (h : icH), icE 161 201 L S h = exe icE 161 (e_getf 10 8 204 L S h)) ∧ (∀ (L S : List Value) (h : icH), icE 161 204 L S h = exe icE 161 (e_vcal 8 160 2 1 207 L S h)) ∧ (∀ (L S : List Value) (h : icH), icE 161 207 L S h = exe icE 161 (e_bin (fun x y => x + y) 208 L S h)) ∧ (∀ (L S : List Value) (h : icH), icE 161 208 L S h = icE 161 210 L (.int (nI 48) :: S) h) ∧ (∀ (L S : List Value) (h : icH), icE 161 210 L S h = exe icE 161 (e_bin (fun x y => x - y) 211 L S h)) ∧ (∀ (L S : List Value) (h : icH), icE 161 211 L S h = icE 161 218 L S h) ∧ (∀ (L S : List Value) (h : icH), icE 161 214 L S h = exe icE 161 (e_aload 0 215 L S h)) ∧ (∀ (L S : List Value) (h : icH), icE 161 215 L S h = exe icE 161 (e_getf 13 8 218 L S h)) ∧ (∀ (L S : List Value) (h : icH), icE 161 218 L S h = exe icE 161 (e_putf 13 8 0 221 L S h)) ∧ (∀ (L S : List Value) (h : icH), icE 161 221 L S h = exe icE 161 (e_aload 0 222 L S h)) ∧ (∀ (L S : List Value) (h : icH), icE 161 222 L S h = exe icE 161 (e_dup 223 L S h)) ∧ (∀ (L S : List Value) (h : icH), icE 161 223 L S h = exe icE 161 (e_getf 10 8 226 L S h)) ∧ (∀ (L S : List Value) (h : icH), icE 161 226 L S h = icE 161 227 L (.int (nI 1) :: S) h) ∧ (∀ (L S : List Value) (h : icH), icE 161 227 L S h = exe icE 161 (e_bin (fun x y => x + y) 228 L S h)) ∧ (∀ (L S : List Value) (h : icH), icE 161 228 L S h = exe icE 161 (e_putf 10 8 0 231 L S h)) ∧ (∀ (L S : List Value) (h : icH), icE 161 231 L S h = icE 161 157 L S h) ∧ (∀ (L S : List Value) (h : icH), icE 161 234 L S h = exe icE 161 (e_aload 0 235 L S h)) ∧ (∀ (L S : List Value) (h : icH), icE 161 235 L S h = exe icE 161 (e_aload 0 236 L S h)) ∧ (∀ (L S : List Value) (h : icH), icE 161 236 L S h = exe icE 161 (e_getf 10 8 239 L S h)) ∧ (∀ (L S : List Value) (h : icH), icE 161 239 L S h = exe icE 161 (e_aload 0 240 L S h)) ∧ (∀ (L S : List Value) (h : icH), icE 161 240 L S h = exe icE 161 (e_getf 11 8 243 L S h)) ∧ (∀ (L S : List Value) (h : icH), icE 161 243 L S h = exe icE 161 (e_bin (fun x y => x - y) 244 L S h)) ∧ (∀ (L S : List Value) (h : icH), icE 161 244 L S h = icE 161 245 L (.int (nI 2) :: S) h) ∧ (∀ (L S : List Value) (h : icH), icE 161 245 L S h = exe icE 161 (e_cmp .le 252 248 L S h)) ∧ (∀ (L S : List Value) (h : icH), icE 161 248 L S h = icE 161 249 L (.int (nI 4) :: S) h) ∧ (∀ (L S : List Value) (h : icH), icE 161 249 L S h = icE 161 253 L S h) ∧ (∀ (L S : List Value) (h : icH), icE 161 252 L S h = icE 161 253 L (.int (nI 2) :: S) h) ∧ (∀ (L S : List Value) (h : icH), icE 161 253 L S h = exe icE 161 (e_putf 12 8 0 256 L S h)) ∧ (∀ (L S : List Value) (h : icH), icE 161 256 L S h = icE 161 280 L S h) ∧ (∀ (L S : List Value) (h : icH), icE 161 259 L S h = exe icE 161 (e_aload 0 260 L S h)) ∧ (∀ (L S : List Value) (h : icH), icE 161 260 L S h = exe icE 161 (e_dup 261 L S h)) ∧ (∀ (L S : List Value) (h : icH), icE 161 261 L S h = exe icE 161 (e_getf 10 8 264 L S h)) ∧ (∀ (L S : List Value) (h : icH), icE 161 264 L S h = exe icE 161 (e_aload 0 265 L S h)) ∧ (∀ (L S : List Value) (h : icH), icE 161 265 L S h = exe icE 161 (e_getf 12 8 268 L S h)) ∧ (∀ (L S : List Value) (h : icH), icE 161 268 L S h = exe icE 161 (e_if .ne 275 271 L S h)) ∧ (∀ (L S : List Value) (h : icH), icE 161 271 L S h = icE 161 272 L (.int (nI 0) :: S) h) ∧ (∀ (L S : List Value) (h : icH), icE 161 272 L S h = icE 161 276 L S h) ∧ (∀ (L S : List Value) (h : icH), icE 161 275 L S h = icE 161 276 L (.int (nI 1) :: S) h) ∧ (∀ (L S : List Value) (h : icH), icE 161 276 L S h = exe icE 161 (e_bin (fun x y => x + y) 277 L S h)) ∧ (∀ (L S : List Value) (h : icH), icE 161 277 L S h = exe icE 161 (e_putf 10 8 0 280 L S h)) ∧ (∀ (L S : List Value) (h : icH), icE 161 280 L S h = exe icE 161 (e_vret L S h)) := ⟨r_161_1, r_161_2, r_161_5, r_161_8, r_161_10, r_161_13, r_161_14, r_161_15, r_161_18, r_161_19, r_161_20, r_161_23, r_161_26, r_161_27, r_161_28, r_161_31, r_161_34, r_161_35, r_161_36, r_161_39, r_161_42, r_161_43, r_161_44, r_161_45, r_161_48, r_161_49, r_161_50, r_161_53, r_161_54, r_161_57, r_161_58, r_161_59, r_161_62, r_161_65, r_161_68, r_161_71, r_161_72, r_161_75, r_161_76, r_161_77, r_161_80, r_161_83, r_161_86, r_161_89, r_161_90, r_161_93, r_161_94, r_161_96, r_161_99, r_161_100, r_161_103, r_161_104, r_161_107, r_161_108, r_161_111, r_161_112, r_161_116, r_161_117, r_161_120, r_161_123, r_161_124, r_161_127, r_161_130, r_161_133, r_161_136, r_161_137, r_161_138, r_161_141, r_161_142, r_161_143, r_161_146, r_161_149, r_161_150, r_161_153, r_161_154, r_161_158, r_161_159, r_161_162, r_161_165, r_161_166, r_161_169, r_161_172, r_161_175, r_161_178, r_161_179, r_161_180, r_161_183, r_161_184, r_161_187, r_161_188, r_161_189, r_161_192, r_161_194, r_161_195, r_161_198, r_161_199, r_161_200, r_161_201, r_161_204, r_161_207, r_161_208, r_161_210, r_161_211, r_161_214, r_161_215, r_161_218, r_161_221, r_161_222, r_161_223, r_161_226, r_161_227, r_161_228, r_161_231, r_161_234, r_161_235, r_161_236, r_161_239, r_161_240, r_161_243, r_161_244, r_161_245, r_161_248, r_161_249, r_161_252, r_161_253, r_161_256, r_161_259, r_161_260, r_161_261, r_161_264, r_161_265, r_161_268, r_161_271, r_161_272, r_161_275, r_161_276, r_161_277, r_161_280⟩
-- cX9_isWord: heads []
theorem fe_162 (pc : Nat) : fet 162 pc = look k_162 pc := rfl
theorem r_162_0 (L S : List Value) (h : icH) : icE 162 0 L S h = exe icE 162 (e_aload 0 1 L S h) := icE_eq (i := .aload_n 0) (len := 1) (x1 := 0) (x2 := 0) (x3 := 0) (x4 := 64) ((fe_162 0).trans rfl) L S h
theorem r_162_1 (L S : List Value) (h : icH) : icE 162 1 L S h = exe icE 162 (e_getf 12 8 4 L S h) := icE_eq (i := .getfield 147) (len := 3) (x1 := 12) (x2 := 8) (x3 := 0) (x4 := 969) ((fe_162 1).trans rfl) L S h
theorem r_162_4 (L S : List Value) (h : icH) : icE 162 4 L S h = icE 162 5 L (.int (nI 1) :: S) h := icE_eq (i := .iconst 1) (len := 1) (x1 := 0) (x2 := 0) (x3 := 0) (x4 := 64) ((fe_162 4).trans rfl) L S h
theorem r_162_5 (L S : List Value) (h : icH) : icE 162 5 L S h = exe icE 162 (e_cmp .ne 52 8 L S h) := icE_eq (i := .if_icmp .ne 47) (len := 3) (x1 := 52) (x2 := 0) (x3 := 0) (x4 := 64) ((fe_162 5).trans rfl) L S h
theorem r_162_8 (L S : List Value) (h : icH) : icE 162 8 L S h = exe icE 162 (e_aload 0 9 L S h) := icE_eq (i := .aload_n 0) (len := 1) (x1 := 0) (x2 := 0) (x3 := 0) (x4 := 64) ((fe_162 8).trans rfl) L S h
theorem r_162_9 (L S : List Value) (h : icH) : icE 162 9 L S h = exe icE 162 (e_aload 0 10 L S h) := icE_eq (i := .aload_n 0) (len := 1) (x1 := 0) (x2 := 0) (x3 := 0) (x4 := 64) ((fe_162 9).trans rfl) L S h
theorem r_162_10 (L S : List Value) (h : icH) : icE 162 10 L S h = exe icE 162 (e_getf 11 8 13 L S h) := icE_eq (i := .getfield 133) (len := 3) (x1 := 11) (x2 := 8) (x3 := 0) (x4 := 968) ((fe_162 10).trans rfl) L S h
theorem r_162_13 (L S : List Value) (h : icH) : icE 162 13 L S h = exe icE 162 (e_vcal 8 160 2 1 16 L S h) := icE_eq (i := .invokevirtual 130) (len := 3) (x1 := 160) (x2 := 3) (x3 := 8) (x4 := 1098) ((fe_162 13).trans rfl) L S h
theorem r_162_16 (L S : List Value) (h : icH) : icE 162 16 L S h = exe icE 162 (e_iload 1 17 L S h) := icE_eq (i := .iload_n 1) (len := 1) (x1 := 0) (x2 := 0) (x3 := 0) (x4 := 64) ((fe_162 16).trans rfl) L S h
theorem r_162_17 (L S : List Value) (h : icH) : icE 162 17 L S h = exe icE 162 (e_cmp .ne 52 20 L S h) := icE_eq (i := .if_icmp .ne 35) (len := 3) (x1 := 52) (x2 := 0) (x3 := 0) (x4 := 64) ((fe_162 17).trans rfl) L S h
theorem r_162_20 (L S : List Value) (h : icH) : icE 162 20 L S h = exe icE 162 (e_aload 0 21 L S h) := icE_eq (i := .aload_n 0) (len := 1) (x1 := 0) (x2 := 0) (x3 := 0) (x4 := 64) ((fe_162 20).trans rfl) L S h
theorem r_162_21 (L S : List Value) (h : icH) : icE 162 21 L S h = exe icE 162 (e_aload 0 22 L S h) := icE_eq (i := .aload_n 0) (len := 1) (x1 := 0) (x2 := 0) (x3 := 0) (x4 := 64) ((fe_162 21).trans rfl) L S h
theorem r_162_22 (L S : List Value) (h : icH) : icE 162 22 L S h = exe icE 162 (e_getf 11 8 25 L S h) := icE_eq (i := .getfield 133) (len := 3) (x1 := 11) (x2 := 8) (x3 := 0) (x4 := 968) ((fe_162 22).trans rfl) L S h
theorem r_162_25 (L S : List Value) (h : icH) : icE 162 25 L S h = icE 162 26 L (.int (nI 1) :: S) h := icE_eq (i := .iconst 1) (len := 1) (x1 := 0) (x2 := 0) (x3 := 0) (x4 := 64) ((fe_162 25).trans rfl) L S h
theorem r_162_26 (L S : List Value) (h : icH) : icE 162 26 L S h = exe icE 162 (e_bin (fun x y => x + y) 27 L S h) := icE_eq (i := .iadd) (len := 1) (x1 := 0) (x2 := 0) (x3 := 0) (x4 := 64) ((fe_162 26).trans rfl) L S h
theorem r_162_27 (L S : List Value) (h : icH) : icE 162 27 L S h = exe icE 162 (e_vcal 8 160 2 1 30 L S h) := icE_eq (i := .invokevirtual 130) (len := 3) (x1 := 160) (x2 := 3) (x3 := 8) (x4 := 1098) ((fe_162 27).trans rfl) L S h
theorem r_162_30 (L S : List Value) (h : icH) : icE 162 30 L S h = exe icE 162 (e_iload 2 31 L S h) := icE_eq (i := .iload_n 2) (len := 1) (x1 := 0) (x2 := 0) (x3 := 0) (x4 := 64) ((fe_162 30).trans rfl) L S h
theorem r_162_31 (L S : List Value) (h : icH) : icE 162 31 L S h = exe icE 162 (e_cmp .ne 52 34 L S h) := icE_eq (i := .if_icmp .ne 21) (len := 3) (x1 := 52) (x2 := 0) (x3 := 0) (x4 := 64) ((fe_162 31).trans rfl) L S h
theorem r_162_34 (L S : List Value) (h : icH) : icE 162 34 L S h = exe icE 162 (e_aload 0 35 L S h) := icE_eq (i := .aload_n 0) (len := 1) (x1 := 0) (x2 := 0) (x3 := 0) (x4 := 64) ((fe_162 34).trans rfl) L S h
theorem r_162_35 (L S : List Value) (h : icH) : icE 162 35 L S h = exe icE 162 (e_aload 0 36 L S h) := icE_eq (i := .aload_n 0) (len := 1) (x1 := 0) (x2 := 0) (x3 := 0) (x4 := 64) ((fe_162 35).trans rfl) L S h
theorem r_162_36 (L S : List Value) (h : icH) : icE 162 36 L S h = exe icE 162 (e_getf 11 8 39 L S h) := icE_eq (i := .getfield 133) (len := 3) (x1 := 11) (x2 := 8) (x3 := 0) (x4 := 968) ((fe_162 36).trans rfl) L S h
theorem r_162_39 (L S : List Value) (h : icH) : icE 162 39 L S h = icE 162 40 L (.int (nI 2) :: S) h := icE_eq (i := .iconst 2) (len := 1) (x1 := 0) (x2 := 0) (x3 := 0) (x4 := 64) ((fe_162 39).trans rfl) L S h
theorem r_162_40 (L S : List Value) (h : icH) : icE 162 40 L S h = exe icE 162 (e_bin (fun x y => x + y) 41 L S h) := icE_eq (i := .iadd) (len := 1) (x1 := 0) (x2 := 0) (x3 := 0) (x4 := 64) ((fe_162 40).trans rfl) L S h
theorem r_162_41 (L S : List Value) (h : icH) : icE 162 41 L S h = exe icE 162 (e_vcal 8 160 2 1 44 L S h) := icE_eq (i := .invokevirtual 130) (len := 3) (x1 := 160) (x2 := 3) (x3 := 8) (x4 := 1098) ((fe_162 41).trans rfl) L S h
theorem r_162_44 (L S : List Value) (h : icH) : icE 162 44 L S h = exe icE 162 (e_iload 3 45 L S h) := icE_eq (i := .iload_n 3) (len := 1) (x1 := 0) (x2 := 0) (x3 := 0) (x4 := 64) ((fe_162 44).trans rfl) L S h
theorem r_162_45 (L S : List Value) (h : icH) : icE 162 45 L S h = exe icE 162 (e_cmp .ne 52 48 L S h) := icE_eq (i := .if_icmp .ne 7) (len := 3) (x1 := 52) (x2 := 0) (x3 := 0) (x4 := 64) ((fe_162 45).trans rfl) L S h
theorem r_162_48 (L S : List Value) (h : icH) : icE 162 48 L S h = icE 162 49 L (.int (nI 1) :: S) h := icE_eq (i := .iconst 1) (len := 1) (x1 := 0) (x2 := 0) (x3 := 0) (x4 := 64) ((fe_162 48).trans rfl) L S h
theorem r_162_49 (L S : List Value) (h : icH) : icE 162 49 L S h = icE 162 53 L S h := icE_eq (i := .goto 4) (len := 3) (x1 := 53) (x2 := 0) (x3 := 0) (x4 := 64) ((fe_162 49).trans rfl) L S h
theorem r_162_52 (L S : List Value) (h : icH) : icE 162 52 L S h = icE 162 53 L (.int (nI 0) :: S) h := icE_eq (i := .iconst 0) (len := 1) (x1 := 0) (x2 := 0) (x3 := 0) (x4 := 64) ((fe_162 52).trans rfl) L S h
theorem r_162_53 (L S : List Value) (h : icH) : icE 162 53 L S h = exe icE 162 (e_istore 6 55 L S h) := icE_eq (i := .istore 6) (len := 2) (x1 := 0) (x2 := 0) (x3 := 0) (x4 := 64) ((fe_162 53).trans rfl) L S h
theorem r_162_55 (L S : List Value) (h : icH) : icE 162 55 L S h = exe icE 162 (e_iload 4 57 L S h) := icE_eq (i := .iload 4) (len := 2) (x1 := 0) (x2 := 0) (x3 := 0) (x4 := 64) ((fe_162 55).trans rfl) L S h
theorem r_162_57 (L S : List Value) (h : icH) : icE 162 57 L S h = exe icE 162 (e_if .ne 64 60 L S h) := icE_eq (i := .ifCond .ne 7) (len := 3) (x1 := 64) (x2 := 0) (x3 := 0) (x4 := 64) ((fe_162 57).trans rfl) L S h
theorem r_162_60 (L S : List Value) (h : icH) : icE 162 60 L S h = icE 162 61 L (.int (nI 3) :: S) h := icE_eq (i := .iconst 3) (len := 1) (x1 := 0) (x2 := 0) (x3 := 0) (x4 := 64) ((fe_162 60).trans rfl) L S h
theorem r_162_61 (L S : List Value) (h : icH) : icE 162 61 L S h = icE 162 74 L S h := icE_eq (i := .goto 13) (len := 3) (x1 := 74) (x2 := 0) (x3 := 0) (x4 := 64) ((fe_162 61).trans rfl) L S h
theorem r_162_64 (L S : List Value) (h : icH) : icE 162 64 L S h = exe icE 162 (e_iload 5 66 L S h) := icE_eq (i := .iload 5) (len := 2) (x1 := 0) (x2 := 0) (x3 := 0) (x4 := 64) ((fe_162 64).trans rfl) L S h
theorem r_162_66 (L S : List Value) (h : icH) : icE 162 66 L S h = exe icE 162 (e_if .ne 73 69 L S h) := icE_eq (i := .ifCond .ne 7) (len := 3) (x1 := 73) (x2 := 0) (x3 := 0) (x4 := 64) ((fe_162 66).trans rfl) L S h
theorem r_162_69 (L S : List Value) (h : icH) : icE 162 69 L S h = icE 162 70 L (.int (nI 4) :: S) h := icE_eq (i := .iconst 4) (len := 1) (x1 := 0) (x2 := 0) (x3 := 0) (x4 := 64) ((fe_162 69).trans rfl) L S h
theorem r_162_70 (L S : List Value) (h : icH) : icE 162 70 L S h = icE 162 74 L S h := icE_eq (i := .goto 4) (len := 3) (x1 := 74) (x2 := 0) (x3 := 0) (x4 := 64) ((fe_162 70).trans rfl) L S h
theorem r_162_73 (L S : List Value) (h : icH) : icE 162 73 L S h = icE 162 74 L (.int (nI 5) :: S) h := icE_eq (i := .iconst 5) (len := 1) (x1 := 0) (x2 := 0) (x3 := 0) (x4 := 64) ((fe_162 73).trans rfl) L S h
theorem r_162_74 (L S : List Value) (h : icH) : icE 162 74 L S h = exe icE 162 (e_istore 7 76 L S h) := icE_eq (i := .istore 7) (len := 2) (x1 := 0) (x2 := 0) (x3 := 0) (x4 := 64) ((fe_162 74).trans rfl) L S h
theorem r_162_76 (L S : List Value) (h : icH) : icE 162 76 L S h = exe icE 162 (e_iload 6 78 L S h) := icE_eq (i := .iload 6) (len := 2) (x1 := 0) (x2 := 0) (x3 := 0) (x4 := 64) ((fe_162 76).trans rfl) L S h
theorem r_162_78 (L S : List Value) (h : icH) : icE 162 78 L S h = exe icE 162 (e_if .eq 141 81 L S h) := icE_eq (i := .ifCond .eq 63) (len := 3) (x1 := 141) (x2 := 0) (x3 := 0) (x4 := 64) ((fe_162 78).trans rfl) L S h
theorem r_162_81 (L S : List Value) (h : icH) : icE 162 81 L S h = exe icE 162 (e_aload 0 82 L S h) := icE_eq (i := .aload_n 0) (len := 1) (x1 := 0) (x2 := 0) (x3 := 0) (x4 := 64) ((fe_162 81).trans rfl) L S h
theorem r_162_82 (L S : List Value) (h : icH) : icE 162 82 L S h = exe icE 162 (e_getf 10 8 85 L S h) := icE_eq (i := .getfield 127) (len := 3) (x1 := 10) (x2 := 8) (x3 := 0) (x4 := 967) ((fe_162 82).trans rfl) L S h
theorem r_162_85 (L S : List Value) (h : icH) : icE 162 85 L S h = exe icE 162 (e_aload 0 86 L S h) := icE_eq (i := .aload_n 0) (len := 1) (x1 := 0) (x2 := 0) (x3 := 0) (x4 := 64) ((fe_162 85).trans rfl) L S h
theorem r_162_86 (L S : List Value) (h : icH) : icE 162 86 L S h = exe icE 162 (e_getf 11 8 89 L S h) := icE_eq (i := .getfield 133) (len := 3) (x1 := 11) (x2 := 8) (x3 := 0) (x4 := 968) ((fe_162 86).trans rfl) L S h
theorem r_162_89 (L S : List Value) (h : icH) : icE 162 89 L S h = exe icE 162 (e_bin (fun x y => x - y) 90 L S h) := icE_eq (i := .isub) (len := 1) (x1 := 0) (x2 := 0) (x3 := 0) (x4 := 64) ((fe_162 89).trans rfl) L S h
theorem r_162_90 (L S : List Value) (h : icH) : icE 162 90 L S h = exe icE 162 (e_iload 7 92 L S h) := icE_eq (i := .iload 7) (len := 2) (x1 := 0) (x2 := 0) (x3 := 0) (x4 := 64) ((fe_162 90).trans rfl) L S h
theorem r_162_92 (L S : List Value) (h : icH) : icE 162 92 L S h = exe icE 162 (e_cmp .ne 141 95 L S h) := icE_eq (i := .if_icmp .ne 49) (len := 3) (x1 := 141) (x2 := 0) (x3 := 0) (x4 := 64) ((fe_162 92).trans rfl) L S h
theorem r_162_95 (L S : List Value) (h : icH) : icE 162 95 L S h = exe icE 162 (e_iload 7 97 L S h) := icE_eq (i := .iload 7) (len := 2) (x1 := 0) (x2 := 0) (x3 := 0) (x4 := 64) ((fe_162 95).trans rfl) L S h
theorem r_162_97 (L S : List Value) (h : icH) : icE 162 97 L S h = icE 162 98 L (.int (nI 3) :: S) h := icE_eq (i := .iconst 3) (len := 1) (x1 := 0) (x2 := 0) (x3 := 0) (x4 := 64) ((fe_162 97).trans rfl) L S h
theorem r_162_98 (L S : List Value) (h : icH) : icE 162 98 L S h = exe icE 162 (e_cmp .eq 116 101 L S h) := icE_eq (i := .if_icmp .eq 18) (len := 3) (x1 := 116) (x2 := 0) (x3 := 0) (x4 := 64) ((fe_162 98).trans rfl) L S h
theorem r_162_101 (L S : List Value) (h : icH) : icE 162 101 L S h = exe icE 162 (e_aload 0 102 L S h) := icE_eq (i := .aload_n 0) (len := 1) (x1 := 0) (x2 := 0) (x3 := 0) (x4 := 64) ((fe_162 101).trans rfl) L S h
theorem r_162_102 (L S : List Value) (h : icH) : icE 162 102 L S h = exe icE 162 (e_aload 0 103 L S h) := icE_eq (i := .aload_n 0) (len := 1) (x1 := 0) (x2 := 0) (x3 := 0) (x4 := 64) ((fe_162 102).trans rfl) L S h
theorem r_162_103 (L S : List Value) (h : icH) : icE 162 103 L S h = exe icE 162 (e_getf 11 8 106 L S h) := icE_eq (i := .getfield 133) (len := 3) (x1 := 11) (x2 := 8) (x3 := 0) (x4 := 968) ((fe_162 103).trans rfl) L S h
theorem r_162_106 (L S : List Value) (h : icH) : icE 162 106 L S h = icE 162 107 L (.int (nI 3) :: S) h := icE_eq (i := .iconst 3) (len := 1) (x1 := 0) (x2 := 0) (x3 := 0) (x4 := 64) ((fe_162 106).trans rfl) L S h
theorem r_162_107 (L S : List Value) (h : icH) : icE 162 107 L S h = exe icE 162 (e_bin (fun x y => x + y) 108 L S h) := icE_eq (i := .iadd) (len := 1) (x1 := 0) (x2 := 0) (x3 := 0) (x4 := 64) ((fe_162 107).trans rfl) L S h
theorem r_162_108 (L S : List Value) (h : icH) : icE 162 108 L S h = exe icE 162 (e_vcal 8 160 2 1 111 L S h) := icE_eq (i := .invokevirtual 130) (len := 3) (x1 := 160) (x2 := 3) (x3 := 8) (x4 := 1098) ((fe_162 108).trans rfl) L S h
theorem r_162_111 (L S : List Value) (h : icH) : icE 162 111 L S h = exe icE 162 (e_iload 4 113 L S h) := icE_eq (i := .iload 4) (len := 2) (x1 := 0) (x2 := 0) (x3 := 0) (x4 := 64) ((fe_162 111).trans rfl) L S h
theorem r_162_113 (L S : List Value) (h : icH) : icE 162 113 L S h = exe icE 162 (e_cmp .ne 141 116 L S h) := icE_eq (i := .if_icmp .ne 28) (len := 3) (x1 := 141) (x2 := 0) (x3 := 0) (x4 := 64) ((fe_162 113).trans rfl) L S h
theorem r_162_116 (L S : List Value) (h : icH) : icE 162 116 L S h = exe icE 162 (e_iload 7 118 L S h) := icE_eq (i := .iload 7) (len := 2) (x1 := 0) (x2 := 0) (x3 := 0) (x4 := 64) ((fe_162 116).trans rfl) L S h
theorem r_162_118 (L S : List Value) (h : icH) : icE 162 118 L S h = icE 162 119 L (.int (nI 5) :: S) h := icE_eq (i := .iconst 5) (len := 1) (x1 := 0) (x2 := 0) (x3 := 0) (x4 := 64) ((fe_162 118).trans rfl) L S h
theorem r_162_119 (L S : List Value) (h : icH) : icE 162 119 L S h = exe icE 162 (e_cmp .lt 137 122 L S h) := icE_eq (i := .if_icmp .lt 18) (len := 3) (x1 := 137) (x2 := 0) (x3 := 0) (x4 := 64) ((fe_162 119).trans rfl) L S h
theorem r_162_122 (L S : List Value) (h : icH) : icE 162 122 L S h = exe icE 162 (e_aload 0 123 L S h) := icE_eq (i := .aload_n 0) (len := 1) (x1 := 0) (x2 := 0) (x3 := 0) (x4 := 64) ((fe_162 122).trans rfl) L S h
theorem r_162_123 (L S : List Value) (h : icH) : icE 162 123 L S h = exe icE 162 (e_aload 0 124 L S h) := icE_eq (i := .aload_n 0) (len := 1) (x1 := 0) (x2 := 0) (x3 := 0) (x4 := 64) ((fe_162 123).trans rfl) L S h
theorem r_162_124 (L S : List Value) (h : icH) : icE 162 124 L S h = exe icE 162 (e_getf 11 8 127 L S h) := icE_eq (i := .getfield 133) (len := 3) (x1 := 11) (x2 := 8) (x3 := 0) (x4 := 968) ((fe_162 124).trans rfl) L S h
theorem r_162_127 (L S : List Value) (h : icH) : icE 162 127 L S h = icE 162 128 L (.int (nI 4) :: S) h := icE_eq (i := .iconst 4) (len := 1) (x1 := 0) (x2 := 0) (x3 := 0) (x4 := 64) ((fe_162 127).trans rfl) L S h
theorem r_162_128 (L S : List Value) (h : icH) : icE 162 128 L S h = exe icE 162 (e_bin (fun x y => x + y) 129 L S h) := icE_eq (i := .iadd) (len := 1) (x1 := 0) (x2 := 0) (x3 := 0) (x4 := 64) ((fe_162 128).trans rfl) L S h
theorem r_162_129 (L S : List Value) (h : icH) : icE 162 129 L S h = exe icE 162 (e_vcal 8 160 2 1 132 L S h) := icE_eq (i := .invokevirtual 130) (len := 3) (x1 := 160) (x2 := 3) (x3 := 8) (x4 := 1098) ((fe_162 129).trans rfl) L S h
theorem r_162_132 (L S : List Value) (h : icH) : icE 162 132 L S h = exe icE 162 (e_iload 5 134 L S h) := icE_eq (i := .iload 5) (len := 2) (x1 := 0) (x2 := 0) (x3 := 0) (x4 := 64) ((fe_162 132).trans rfl) L S h
theorem r_162_134 (L S : List Value) (h : icH) : icE 162 134 L S h = exe icE 162 (e_cmp .ne 141 137 L S h) := icE_eq (i := .if_icmp .ne 7) (len := 3) (x1 := 141) (x2 := 0) (x3 := 0) (x4 := 64) ((fe_162 134).trans rfl) L S h
theorem r_162_137 (L S : List Value) (h : icH) : icE 162 137 L S h = icE 162 138 L (.int (nI 1) :: S) h := icE_eq (i := .iconst 1) (len := 1) (x1 := 0) (x2 := 0) (x3 := 0) (x4 := 64) ((fe_162 137).trans rfl) L S h
theorem r_162_138 (L S : List Value) (h : icH) : icE 162 138 L S h = icE 162 142 L S h := icE_eq (i := .goto 4) (len := 3) (x1 := 142) (x2 := 0) (x3 := 0) (x4 := 64) ((fe_162 138).trans rfl) L S h
theorem r_162_141 (L S : List Value) (h : icH) : icE 162 141 L S h = icE 162 142 L (.int (nI 0) :: S) h := icE_eq (i := .iconst 0) (len := 1) (x1 := 0) (x2 := 0) (x3 := 0) (x4 := 64) ((fe_162 141).trans rfl) L S h
theorem r_162_142 (L S : List Value) (h : icH) : icE 162 142 L S h = exe icE 162 (e_iret 1 L S h) := icE_eq (i := .ireturn) (len := 1) (x1 := 1) (x2 := 0) (x3 := 0) (x4 := 64) ((fe_162 142).trans rfl) L S h
theorem rw_162 : (∀ (L S : List Value) (h : icH), icE 162 0 L S h = exe icE 162 (e_aload 0 1 L S h)) ∧ (∀ (L S : List Value) (h : icH), icE 162 1 L S h = exe icE 162 (e_getf 12 8 4 L S h)) ∧ (∀ (L S : List Value) (h : icH), icE 162 4 L S h = icE 162 5 L (.int (nI 1) :: S) h) ∧ (∀ (L S : List Value) (h : icH), icE 162 5 L S h = exe icE 162 (e_cmp .ne 52 8 L S h)) ∧ (∀ (L S : List Value) (h : icH), icE 162 8 L S h = exe icE 162 (e_aload 0 9 L S h)) ∧ (∀ (L S : List Value) (h : icH), icE 162 9 L S h = exe icE 162 (e_aload 0 10 L S h)) ∧ (∀ (L S : List Value) (h : icH), icE 162 10 L S h = exe icE 162 (e_getf 11 8 13 L S h)) ∧ (∀ (L S : List Value) (h : icH), icE 162 13 L S h = exe icE 162 (e_vcal 8 160 2 1 16 L S h)) ∧ (∀ (L S : List Value) (h : icH), icE 162 16 L S h = exe icE 162 (e_iload 1 17 L S h)) ∧ (∀ (L S : List Value) (h : icH), icE 162 17 L S h = exe icE 162 (e_cmp .ne 52 20 L S h)) ∧ (∀ (L S : List Value) (h : icH), icE 162 20 L S h = exe icE 162 (e_aload 0 21 L S h)) ∧ (∀ (L S : List Value) (h : icH), icE 162 21 L S h = exe icE 162 (e_aload 0 22 L S h)) ∧ (∀ (L S : List Value) (h : icH), icE 162 22 L S h = exe icE 162 (e_getf 11 8 25 L S h)) ∧ (∀ (L S : List Value) (h : icH), icE 162 25 L S h = icE 162 26 L (.int (nI 1) :: S) h) ∧ (∀ (L S : List Value) (h : icH), icE 162 26 L S h = exe icE 162 (e_bin (fun x y => x + y) 27 L S h)) ∧ (∀ (L S : List Value) (h : icH), icE 162 27 L S h = exe icE 162 (e_vcal 8 160 2 1 30 L S h)) ∧ (∀ (L S : List Value) (h : icH), icE 162 30 L S h = exe icE 162 (e_iload 2 31 L S h)) ∧ (∀ (L S : List Value) (h : icH), icE 162 31 L S h = exe icE 162 (e_cmp .ne 52 34 L S h)) ∧ (∀ (L S : List Value) (h : icH), icE 162 34 L S h = exe icE 162 (e_aload 0 35 L S h)) ∧ (∀ (L S : List Value) (h : icH), icE 162 35 L S h = exe icE 162 (e_aload 0 36 L S h)) ∧ (∀ (L S : List Value) (h : icH), icE 162 36 L S h = exe icE 162 (e_getf 11 8 39 L S h)) ∧ (∀ (L S : List Value) (h : icH), icE 162 39 L S h = icE 162 40 L (.int (nI 2) :: S) h) ∧ (∀ (L S : List Value) (h : icH), icE 162 40 L S h = exe icE 162 (e_bin (fun x y => x + y) 41 L S h)) ∧ (∀ (L S : List Value) (h : icH), icE 162 41 L S h = exe icE 162 (e_vcal 8 160 2 1 44 L S h)) ∧ (∀ (L S : List Value) (h : icH), icE 162 44 L S h = exe icE 162 (e_iload 3 45 L S h)) ∧ (∀ (L S : List Value) (h : icH), icE 162 45 L S h = exe icE 162 (e_cmp .ne 52 48 L S h)) ∧ (∀ (L S : List Value) (h : icH), icE 162 48 L S h = icE 162 49 L (.int (nI 1) :: S) h) ∧ (∀ (L S : List Value) (h : icH), icE 162 49 L S h = icE 162 53 L S h) ∧ (∀ (L S : List Value) (h : icH), icE 162 52 L S h = icE 162 53 L (.int (nI 0) :: S) h) ∧ (∀ (L S : List Value) (h : icH), icE 162 53 L S h = exe icE 162 (e_istore 6 55 L S h)) ∧ (∀ (L S : List Value) (h : icH), icE 162 55 L S h = exe icE 162 (e_iload 4 57 L S h)) ∧ (∀ (L S : List Value) (h : icH), icE 162 57 L S h = exe icE 162 (e_if .ne 64 60 L S h)) ∧ (∀ (L S : List Value) (h : icH), icE 162 60 L S h = icE 162 61 L (.int (nI 3) :: S) h) ∧ (∀ (L S : List Value) (h : icH), icE 162 61 L S h = icE 162 74 L S h) ∧ (∀ (L S : List Value) (h : icH), icE 162 64 L S h = exe icE 162 (e_iload 5 66 L S h)) ∧ (∀ (L S : List Value) (h : icH), icE 162 66 L S h = exe icE 162 (e_if .ne 73 69 L S h)) ∧ (∀ (L S : List Value) (h : icH), icE 162 69 L S h = icE 162 70 L (.int (nI 4) :: S) h) ∧ (∀ (L S : List Value) (h : icH), icE 162 70 L S h = icE 162 74 L S h) ∧ (∀ (L S : List Value) (h : icH), icE 162 73 L S h = icE 162 74 L (.int (nI 5) :: S) h) ∧ (∀ (L S : List Value) (h : icH), icE 162 74 L S h = exe icE 162 (e_istore 7 76 L S h)) ∧ (∀ (L S : List Value) (h : icH), icE 162 76 L S h = exe icE 162 (e_iload 6 78 L S h)) ∧ (∀ (L S : List Value) (h : icH), icE 162 78 L S h = exe icE 162 (e_if .eq 141 81 L S h)) ∧ (∀ (L S : List Value) (h : icH), icE 162 81 L S h = exe icE 162 (e_aload 0 82 L S h)) ∧ (∀ (L S : List Value) (h : icH), icE 162 82 L S h = exe icE 162 (e_getf 10 8 85 L S h)) ∧ (∀ (L S : List Value) (h : icH), icE 162 85 L S h = exe icE 162 (e_aload 0 86 L S h)) ∧ (∀ (L S : List Value) (h : icH), icE 162 86 L S h = exe icE 162 (e_getf 11 8 89 L S h)) ∧ (∀ (L S : List Value) (h : icH), icE 162 89 L S h = exe icE 162 (e_bin (fun x y => x - y) 90 L S h)) ∧ (∀ (L S : List Value) (h : icH), icE 162 90 L S h = exe icE 162 (e_iload 7 92 L S h)) ∧ (∀ (L S : List Value) (h : icH), icE 162 92 L S h = exe icE 162 (e_cmp .ne 141 95 L S h)) ∧ (∀ (L S : List Value) (h : icH), icE 162 95 L S h = exe icE 162 (e_iload 7 97 L S h)) ∧ (∀ (L S : List Value) (h : icH), icE 162 97 L S h = icE 162 98 L (.int (nI 3) :: S) h) ∧ (∀ (L S : List Value) (h : icH), icE 162 98 L S h = exe icE 162 (e_cmp .eq 116 101 L S h)) ∧ (∀ (L S : List Value) (h : icH), icE 162 101 L S h = exe icE 162 (e_aload 0 102 L S h)) ∧ (∀ (L S : List Value) (h : icH), icE 162 102 L S h = exe icE 162 (e_aload 0 103 L S h)) ∧ (∀ (L S : List Value) (h : icH), icE 162 103 L S h = exe icE 162 (e_getf 11 8 106 L S h)) ∧ (∀ (L S : List Value) (h : icH), icE 162 106 L S h = icE 162 107 L (.int (nI 3) :: S) h) ∧ (∀ (L S : List Value) (h : icH), icE 162 107 L S h = exe icE 162 (e_bin (fun x y => x + y) 108 L S h)) ∧ (∀ (L S : List Value) (h : icH), icE 162 108 L S h = exe icE 162 (e_vcal 8 160 2 1 111 L S h)) ∧ (∀ (L S : List Value) (h : icH), icE 162 111 L S h = exe icE 162 (e_iload 4 113 L S h)) ∧ (∀ (L S : List Value) (h : icH), icE 162 113 L S h = exe icE 162 (e_cmp .ne 141 116 L S h)) ∧ (∀ (L S : List Value) (h : icH), icE 162 116 L S h = exe icE 162 (e_iload 7 118 L S h)) ∧ (∀ (L S : List Value) (h : icH), icE 162 118 L S h = icE 162 119 L (.int (nI 5) :: S) h) ∧ (∀ (L S : List Value) (h : icH), icE 162 119 L S h = exe icE 162 (e_cmp .lt 137 122 L S h)) ∧ (∀ (L S : List Value) (h : icH), icE 162 122 L S h = exe icE 162 (e_aload 0 123 L S h)) ∧ (∀ (L S : List Value) (h : icH), icE 162 123 L S h = exe icE 162 (e_aload 0 124 L S h)) ∧ (∀ (L S : List Value) (h : icH), icE 162 124 L S h = exe icE 162 (e_getf 11 8 127 L S h)) ∧ (∀ (L S : List Value) (h : icH), icE 162 127 L S h = icE 162 128 L (.int (nI 4) :: S) h) ∧ (∀ (L S : List Value) (h : icH), icE 162 128 L S h = exe icE 162 (e_bin (fun x y => x + y) 129 L S h)) ∧ (∀ (L S : List Value) (h : icH), icE 162 129 L S h = exe icE 162 (e_vcal 8 160 2 1 132 L S h)) ∧ (∀ (L S : List Value) (h : icH), icE 162 132 L S h = exe icE 162 (e_iload 5 134 L S h)) ∧ (∀ (L S : List Value) (h : icH), icE 162 134 L S h = exe icE 162 (e_cmp .ne 141 137 L S h)) ∧ (∀ (L S : List Value) (h : icH), icE 162 137 L S h = icE 162 138 L (.int (nI 1) :: S) h) ∧ (∀ (L S : List Value) (h : icH), icE 162 138 L S h = icE 162 142 L S h) ∧ (∀ (L S : List Value) (h : icH), icE 162 141 L S h = icE 162 142 L (.int (nI 0) :: S) h) ∧ (∀ (L S : List Value) (h : icH), icE 162 142 L S h = exe icE 162 (e_iret 1 L S h)) := ⟨r_162_0, r_162_1, r_162_4, r_162_5, r_162_8, r_162_9, r_162_10, r_162_13, r_162_16, r_162_17, r_162_20, r_162_21, r_162_22, r_162_25, r_162_26, r_162_27, r_162_30, r_162_31, r_162_34, r_162_35, r_162_36, r_162_39, r_162_40, r_162_41, r_162_44, r_162_45, r_162_48, r_162_49, r_162_52, r_162_53, r_162_55, r_162_57, r_162_60, r_162_61, r_162_64, r_162_66, r_162_69, r_162_70, r_162_73, r_162_74, r_162_76, r_162_78, r_162_81, r_162_82, r_162_85, r_162_86, r_162_89, r_162_90, r_162_92, r_162_95, r_162_97, r_162_98, r_162_101, r_162_102, r_162_103, r_162_106, r_162_107, r_162_108, r_162_111, r_162_113, r_162_116, r_162_118, r_162_119, r_162_122, r_162_123, r_162_124, r_162_127, r_162_128, r_162_129, r_162_132, r_162_134, r_162_137, r_162_138, r_162_141, r_162_142⟩
-- cX9_number: heads []
theorem fe_163 (pc : Nat) : fet 163 pc = look k_163 pc := rfl
theorem r_163_0 (L S : List Value) (h : icH) : icE 163 0 L S h = exe icE 163 (e_aload 0 1 L S h) := icE_eq (i := .aload_n 0) (len := 1) (x1 := 0) (x2 := 0) (x3 := 0) (x4 := 64) ((fe_163 0).trans rfl) L S h
theorem r_163_1 (L S : List Value) (h : icH) : icE 163 1 L S h = exe icE 163 (e_vcal 8 161 2 0 4 L S h) := icE_eq (i := .invokevirtual 150) (len := 3) (x1 := 161) (x2 := 3) (x3 := 8) (x4 := 1094) ((fe_163 1).trans rfl) L S h
theorem r_163_4 (L S : List Value) (h : icH) : icE 163 4 L S h = exe icE 163 (e_aload 0 5 L S h) := icE_eq (i := .aload_n 0) (len := 1) (x1 := 0) (x2 := 0) (x3 := 0) (x4 := 64) ((fe_163 4).trans rfl) L S h
theorem r_163_5 (L S : List Value) (h : icH) : icE 163 5 L S h = exe icE 163 (e_getf 14 8 8 L S h) := icE_eq (i := .getfield 36) (len := 3) (x1 := 14) (x2 := 8) (x3 := 12) (x4 := 971) ((fe_163 5).trans rfl) L S h
theorem r_163_8 (L S : List Value) (h : icH) : icE 163 8 L S h = exe icE 163 (e_iload 1 9 L S h) := icE_eq (i := .iload_n 1) (len := 1) (x1 := 0) (x2 := 0) (x3 := 0) (x4 := 64) ((fe_163 8).trans rfl) L S h
theorem r_163_9 (L S : List Value) (h : icH) : icE 163 9 L S h = exe icE 163 (e_aload 0 10 L S h) := icE_eq (i := .aload_n 0) (len := 1) (x1 := 0) (x2 := 0) (x3 := 0) (x4 := 64) ((fe_163 9).trans rfl) L S h
theorem r_163_10 (L S : List Value) (h : icH) : icE 163 10 L S h = exe icE 163 (e_getf 13 8 13 L S h) := icE_eq (i := .getfield 136) (len := 3) (x1 := 13) (x2 := 8) (x3 := 0) (x4 := 970) ((fe_163 10).trans rfl) L S h
theorem r_163_13 (L S : List Value) (h : icH) : icE 163 13 L S h = exe icE 163 (e_iast 14 L S h) := icE_eq (i := .iastore) (len := 1) (x1 := 0) (x2 := 0) (x3 := 0) (x4 := 64) ((fe_163 13).trans rfl) L S h
theorem r_163_14 (L S : List Value) (h : icH) : icE 163 14 L S h = exe icE 163 (e_aload 0 15 L S h) := icE_eq (i := .aload_n 0) (len := 1) (x1 := 0) (x2 := 0) (x3 := 0) (x4 := 64) ((fe_163 14).trans rfl) L S h
theorem r_163_15 (L S : List Value) (h : icH) : icE 163 15 L S h = exe icE 163 (e_getf 12 8 18 L S h) := icE_eq (i := .getfield 147) (len := 3) (x1 := 12) (x2 := 8) (x3 := 0) (x4 := 969) ((fe_163 15).trans rfl) L S h
theorem r_163_18 (L S : List Value) (h : icH) : icE 163 18 L S h = icE 163 19 L (.int (nI 2) :: S) h := icE_eq (i := .iconst 2) (len := 1) (x1 := 0) (x2 := 0) (x3 := 0) (x4 := 64) ((fe_163 18).trans rfl) L S h
theorem r_163_19 (L S : List Value) (h : icH) : icE 163 19 L S h = exe icE 163 (e_cmp .ne 41 22 L S h) := icE_eq (i := .if_icmp .ne 22) (len := 3) (x1 := 41) (x2 := 0) (x3 := 0) (x4 := 64) ((fe_163 19).trans rfl) L S h
theorem r_163_22 (L S : List Value) (h : icH) : icE 163 22 L S h = exe icE 163 (e_aload 0 23 L S h) := icE_eq (i := .aload_n 0) (len := 1) (x1 := 0) (x2 := 0) (x3 := 0) (x4 := 64) ((fe_163 22).trans rfl) L S h
theorem r_163_23 (L S : List Value) (h : icH) : icE 163 23 L S h = exe icE 163 (e_getf 13 8 26 L S h) := icE_eq (i := .getfield 136) (len := 3) (x1 := 13) (x2 := 8) (x3 := 0) (x4 := 970) ((fe_163 23).trans rfl) L S h
theorem r_163_26 (L S : List Value) (h : icH) : icE 163 26 L S h = exe icE 163 (e_i2l 27 L S h) := icE_eq (i := .i2l) (len := 1) (x1 := 0) (x2 := 0) (x3 := 0) (x4 := 64) ((fe_163 26).trans rfl) L S h
theorem r_163_27 (L S : List Value) (h : icH) : icE 163 27 L S h = exe icE 163 (e_iload 2 28 L S h) := icE_eq (i := .iload_n 2) (len := 1) (x1 := 0) (x2 := 0) (x3 := 0) (x4 := 64) ((fe_163 27).trans rfl) L S h
theorem r_163_28 (L S : List Value) (h : icH) : icE 163 28 L S h = exe icE 163 (e_i2l 29 L S h) := icE_eq (i := .i2l) (len := 1) (x1 := 0) (x2 := 0) (x3 := 0) (x4 := 64) ((fe_163 28).trans rfl) L S h
theorem r_163_29 (L S : List Value) (h : icH) : icE 163 29 L S h = exe icE 163 (e_iload 3 30 L S h) := icE_eq (i := .iload_n 3) (len := 1) (x1 := 0) (x2 := 0) (x3 := 0) (x4 := 64) ((fe_163 29).trans rfl) L S h
theorem r_163_30 (L S : List Value) (h : icH) : icE 163 30 L S h = exe icE 163 (e_i2l 31 L S h) := icE_eq (i := .i2l) (len := 1) (x1 := 0) (x2 := 0) (x3 := 0) (x4 := 64) ((fe_163 30).trans rfl) L S h
theorem r_163_31 (L S : List Value) (h : icH) : icE 163 31 L S h = exe icE 163 (e_call 136 6 3 34 L S h) := icE_eq (i := .invokestatic 54) (len := 3) (x1 := 136) (x2 := 1) (x3 := 0) (x4 := 1030) ((fe_163 31).trans rfl) L S h
theorem r_163_34 (L S : List Value) (h : icH) : icE 163 34 L S h = exe icE 163 (e_if .eq 41 37 L S h) := icE_eq (i := .ifCond .eq 7) (len := 3) (x1 := 41) (x2 := 0) (x3 := 0) (x4 := 64) ((fe_163 34).trans rfl) L S h
theorem r_163_37 (L S : List Value) (h : icH) : icE 163 37 L S h = icE 163 38 L (.int (nI 1) :: S) h := icE_eq (i := .iconst 1) (len := 1) (x1 := 0) (x2 := 0) (x3 := 0) (x4 := 64) ((fe_163 37).trans rfl) L S h
theorem r_163_38 (L S : List Value) (h : icH) : icE 163 38 L S h = icE 163 42 L S h := icE_eq (i := .goto 4) (len := 3) (x1 := 42) (x2 := 0) (x3 := 0) (x4 := 64) ((fe_163 38).trans rfl) L S h
theorem r_163_41 (L S : List Value) (h : icH) : icE 163 41 L S h = icE 163 42 L (.int (nI 0) :: S) h := icE_eq (i := .iconst 0) (len := 1) (x1 := 0) (x2 := 0) (x3 := 0) (x4 := 64) ((fe_163 41).trans rfl) L S h
theorem r_163_42 (L S : List Value) (h : icH) : icE 163 42 L S h = exe icE 163 (e_iret 1 L S h) := icE_eq (i := .ireturn) (len := 1) (x1 := 1) (x2 := 0) (x3 := 0) (x4 := 64) ((fe_163 42).trans rfl) L S h
theorem rw_163 : (∀ (L S : List Value) (h : icH), icE 163 0 L S h = exe icE 163 (e_aload 0 1 L S h)) ∧ (∀ (L S : List Value) (h : icH), icE 163 1 L S h = exe icE 163 (e_vcal 8 161 2 0 4 L S h)) ∧ (∀ (L S : List Value) (h : icH), icE 163 4 L S h = exe icE 163 (e_aload 0 5 L S h)) ∧ (∀ (L S : List Value) (h : icH), icE 163 5 L S h = exe icE 163 (e_getf 14 8 8 L S h)) ∧ (∀ (L S : List Value) (h : icH), icE 163 8 L S h = exe icE 163 (e_iload 1 9 L S h)) ∧ (∀ (L S : List Value) (h : icH), icE 163 9 L S h = exe icE 163 (e_aload 0 10 L S h)) ∧ (∀ (L S : List Value) (h : icH), icE 163 10 L S h = exe icE 163 (e_getf 13 8 13 L S h)) ∧ (∀ (L S : List Value) (h : icH), icE 163 13 L S h = exe icE 163 (e_iast 14 L S h)) ∧ (∀ (L S : List Value) (h : icH), icE 163 14 L S h = exe icE 163 (e_aload 0 15 L S h)) ∧ (∀ (L S : List Value) (h : icH), icE 163 15 L S h = exe icE 163 (e_getf 12 8 18 L S h)) ∧ (∀ (L S : List Value) (h : icH), icE 163 18 L S h = icE 163 19 L (.int (nI 2) :: S) h) ∧ (∀ (L S : List Value) (h : icH), icE 163 19 L S h = exe icE 163 (e_cmp .ne 41 22 L S h)) ∧ (∀ (L S : List Value) (h : icH), icE 163 22 L S h = exe icE 163 (e_aload 0 23 L S h)) ∧ (∀ (L S : List Value) (h : icH), icE 163 23 L S h = exe icE 163 (e_getf 13 8 26 L S h)) ∧ (∀ (L S : List Value) (h : icH), icE 163 26 L S h = exe icE 163 (e_i2l 27 L S h)) ∧ (∀ (L S : List Value) (h : icH), icE 163 27 L S h = exe icE 163 (e_iload 2 28 L S h)) ∧ (∀ (L S : List Value) (h : icH), icE 163 28 L S h = exe icE 163 (e_i2l 29 L S h)) ∧ (∀ (L S : List Value) (h : icH), icE 163 29 L S h = exe icE 163 (e_iload 3 30 L S h)) ∧ (∀ (L S : List Value) (h : icH), icE 163 30 L S h = exe icE 163 (e_i2l 31 L S h)) ∧ (∀ (L S : List Value) (h : icH), icE 163 31 L S h = exe icE 163 (e_call 136 6 3 34 L S h)) ∧ (∀ (L S : List Value) (h : icH), icE 163 34 L S h = exe icE 163 (e_if .eq 41 37 L S h)) ∧ (∀ (L S : List Value) (h : icH), icE 163 37 L S h = icE 163 38 L (.int (nI 1) :: S) h) ∧ (∀ (L S : List Value) (h : icH), icE 163 38 L S h = icE 163 42 L S h) ∧ (∀ (L S : List Value) (h : icH), icE 163 41 L S h = icE 163 42 L (.int (nI 0) :: S) h) ∧ (∀ (L S : List Value) (h : icH), icE 163 42 L S h = exe icE 163 (e_iret 1 L S h)) := ⟨r_163_0, r_163_1, r_163_4, r_163_5, r_163_8, r_163_9, r_163_10, r_163_13, r_163_14, r_163_15, r_163_18, r_163_19, r_163_22, r_163_23, r_163_26, r_163_27, r_163_28, r_163_29, r_163_30, r_163_31, r_163_34, r_163_37, r_163_38, r_163_41, r_163_42⟩
-- cX9_ends: heads []
theorem fe_164 (pc : Nat) : fet 164 pc = look k_164 pc := rfl
theorem r_164_0 (L S : List Value) (h : icH) : icE 164 0 L S h = exe icE 164 (e_aload 0 1 L S h) := icE_eq (i := .aload_n 0) (len := 1) (x1 := 0) (x2 := 0) (x3 := 0) (x4 := 64) ((fe_164 0).trans rfl) L S h
theorem r_164_1 (L S : List Value) (h : icH) : icE 164 1 L S h = exe icE 164 (e_vcal 8 161 2 0 4 L S h) := icE_eq (i := .invokevirtual 150) (len := 3) (x1 := 161) (x2 := 3) (x3 := 8) (x4 := 1094) ((fe_164 1).trans rfl) L S h
theorem r_164_4 (L S : List Value) (h : icH) : icE 164 4 L S h = exe icE 164 (e_aload 0 5 L S h) := icE_eq (i := .aload_n 0) (len := 1) (x1 := 0) (x2 := 0) (x3 := 0) (x4 := 64) ((fe_164 4).trans rfl) L S h
theorem r_164_5 (L S : List Value) (h : icH) : icE 164 5 L S h = exe icE 164 (e_getf 12 8 8 L S h) := icE_eq (i := .getfield 147) (len := 3) (x1 := 12) (x2 := 8) (x3 := 0) (x4 := 969) ((fe_164 5).trans rfl) L S h
theorem r_164_8 (L S : List Value) (h : icH) : icE 164 8 L S h = icE 164 9 L (.int (nI 3) :: S) h := icE_eq (i := .iconst 3) (len := 1) (x1 := 0) (x2 := 0) (x3 := 0) (x4 := 64) ((fe_164 8).trans rfl) L S h
theorem r_164_9 (L S : List Value) (h : icH) : icE 164 9 L S h = exe icE 164 (e_cmp .ne 16 12 L S h) := icE_eq (i := .if_icmp .ne 7) (len := 3) (x1 := 16) (x2 := 0) (x3 := 0) (x4 := 64) ((fe_164 9).trans rfl) L S h
theorem r_164_12 (L S : List Value) (h : icH) : icE 164 12 L S h = icE 164 13 L (.int (nI 1) :: S) h := icE_eq (i := .iconst 1) (len := 1) (x1 := 0) (x2 := 0) (x3 := 0) (x4 := 64) ((fe_164 12).trans rfl) L S h
theorem r_164_13 (L S : List Value) (h : icH) : icE 164 13 L S h = icE 164 17 L S h := icE_eq (i := .goto 4) (len := 3) (x1 := 17) (x2 := 0) (x3 := 0) (x4 := 64) ((fe_164 13).trans rfl) L S h
theorem r_164_16 (L S : List Value) (h : icH) : icE 164 16 L S h = icE 164 17 L (.int (nI 0) :: S) h := icE_eq (i := .iconst 0) (len := 1) (x1 := 0) (x2 := 0) (x3 := 0) (x4 := 64) ((fe_164 16).trans rfl) L S h
theorem r_164_17 (L S : List Value) (h : icH) : icE 164 17 L S h = exe icE 164 (e_iret 1 L S h) := icE_eq (i := .ireturn) (len := 1) (x1 := 1) (x2 := 0) (x3 := 0) (x4 := 64) ((fe_164 17).trans rfl) L S h
theorem rw_164 : (∀ (L S : List Value) (h : icH), icE 164 0 L S h = exe icE 164 (e_aload 0 1 L S h)) ∧ (∀ (L S : List Value) (h : icH), icE 164 1 L S h = exe icE 164 (e_vcal 8 161 2 0 4 L S h)) ∧ (∀ (L S : List Value) (h : icH), icE 164 4 L S h = exe icE 164 (e_aload 0 5 L S h)) ∧ (∀ (L S : List Value) (h : icH), icE 164 5 L S h = exe icE 164 (e_getf 12 8 8 L S h)) ∧ (∀ (L S : List Value) (h : icH), icE 164 8 L S h = icE 164 9 L (.int (nI 3) :: S) h) ∧ (∀ (L S : List Value) (h : icH), icE 164 9 L S h = exe icE 164 (e_cmp .ne 16 12 L S h)) ∧ (∀ (L S : List Value) (h : icH), icE 164 12 L S h = icE 164 13 L (.int (nI 1) :: S) h) ∧ (∀ (L S : List Value) (h : icH), icE 164 13 L S h = icE 164 17 L S h) ∧ (∀ (L S : List Value) (h : icH), icE 164 16 L S h = icE 164 17 L (.int (nI 0) :: S) h) ∧ (∀ (L S : List Value) (h : icH), icE 164 17 L S h = exe icE 164 (e_iret 1 L S h)) := ⟨r_164_0, r_164_1, r_164_4, r_164_5, r_164_8, r_164_9, r_164_12, r_164_13, r_164_16, r_164_17⟩
-- cX9_readsItem: heads []
theorem fe_165 (pc : Nat) : fet 165 pc = look k_165 pc := rfl
set_option maxRecDepth 10000 in
theorem r_165_0 (L S : List Value) (h : icH) : icE 165 0 L S h = exe icE 165 (e_aload 0 1 L S h) := icE_eq (i := .aload_n 0) (len := 1) (x1 := 0) (x2 := 0) (x3 := 0) (x4 := 64) ((fe_165 0).trans rfl) L S h
set_option maxRecDepth 10000 in
theorem r_165_1 (L S : List Value) (h : icH) : icE 165 1 L S h = icE 165 3 L (.int (nI 119) :: S) h := icE_eq (i := .bipush 119) (len := 2) (x1 := 0) (x2 := 0) (x3 := 0) (x4 := 64) ((fe_165 1).trans rfl) L S h
set_option maxRecDepth 10000 in
theorem r_165_3 (L S : List Value) (h : icH) : icE 165 3 L S h = icE 165 5 L (.int (nI 97) :: S) h := icE_eq (i := .bipush 97) (len := 2) (x1 := 0) (x2 := 0) (x3 := 0) (x4 := 64) ((fe_165 3).trans rfl) L S h
set_option maxRecDepth 10000 in
theorem r_165_5 (L S : List Value) (h : icH) : icE 165 5 L S h = icE 165 7 L (.int (nI 114) :: S) h := icE_eq (i := .bipush 114) (len := 2) (x1 := 0) (x2 := 0) (x3 := 0) (x4 := 64) ((fe_165 5).trans rfl) L S h
set_option maxRecDepth 10000 in
theorem r_165_7 (L S : List Value) (h : icH) : icE 165 7 L S h = icE 165 9 L (.int (nI 109) :: S) h := icE_eq (i := .bipush 109) (len := 2) (x1 := 0) (x2 := 0) (x3 := 0) (x4 := 64) ((fe_165 7).trans rfl) L S h
set_option maxRecDepth 10000 in
theorem r_165_9 (L S : List Value) (h : icH) : icE 165 9 L S h = icE 165 10 L (.int (nI 0) :: S) h := icE_eq (i := .iconst 0) (len := 1) (x1 := 0) (x2 := 0) (x3 := 0) (x4 := 64) ((fe_165 9).trans rfl) L S h
set_option maxRecDepth 10000 in
theorem r_165_10 (L S : List Value) (h : icH) : icE 165 10 L S h = exe icE 165 (e_vcal 8 162 8 5 13 L S h) := icE_eq (i := .invokevirtual 153) (len := 3) (x1 := 162) (x2 := 3) (x3 := 8) (x4 := 1106) ((fe_165 10).trans rfl) L S h
set_option maxRecDepth 10000 in
theorem r_165_13 (L S : List Value) (h : icH) : icE 165 13 L S h = exe icE 165 (e_if .eq 71 16 L S h) := icE_eq (i := .ifCond .eq 58) (len := 3) (x1 := 71) (x2 := 0) (x3 := 0) (x4 := 64) ((fe_165 13).trans rfl) L S h
set_option maxRecDepth 10000 in
theorem r_165_16 (L S : List Value) (h : icH) : icE 165 16 L S h = exe icE 165 (e_aload 0 17 L S h) := icE_eq (i := .aload_n 0) (len := 1) (x1 := 0) (x2 := 0) (x3 := 0) (x4 := 64) ((fe_165 16).trans rfl) L S h
set_option maxRecDepth 10000 in
theorem r_165_17 (L S : List Value) (h : icH) : icE 165 17 L S h = icE 165 18 L (.int (nI 0) :: S) h := icE_eq (i := .iconst 0) (len := 1) (x1 := 0) (x2 := 0) (x3 := 0) (x4 := 64) ((fe_165 17).trans rfl) L S h
set_option maxRecDepth 10000 in
theorem r_165_18 (L S : List Value) (h : icH) : icE 165 18 L S h = icE 165 19 L (.int (nI 0) :: S) h := icE_eq (i := .iconst 0) (len := 1) (x1 := 0) (x2 := 0) (x3 := 0) (x4 := 64) ((fe_165 18).trans rfl) L S h
set_option maxRecDepth 10000 in
theorem r_165_19 (L S : List Value) (h : icH) : icE 165 19 L S h = icE 165 21 L (.int (nI 7) :: S) h := icE_eq (i := .bipush 7) (len := 2) (x1 := 0) (x2 := 0) (x3 := 0) (x4 := 64) ((fe_165 19).trans rfl) L S h
set_option maxRecDepth 10000 in
theorem r_165_21 (L S : List Value) (h : icH) : icE 165 21 L S h = exe icE 165 (e_vcal 8 163 4 3 24 L S h) := icE_eq (i := .invokevirtual 157) (len := 3) (x1 := 163) (x2 := 3) (x3 := 8) (x4 := 1110) ((fe_165 21).trans rfl) L S h
set_option maxRecDepth 10000 in
theorem r_165_24 (L S : List Value) (h : icH) : icE 165 24 L S h = exe icE 165 (e_if .eq 45 27 L S h) := icE_eq (i := .ifCond .eq 21) (len := 3) (x1 := 45) (x2 := 0) (x3 := 0) (x4 := 64) ((fe_165 24).trans rfl) L S h
set_option maxRecDepth 10000 in
theorem r_165_27 (L S : List Value) (h : icH) : icE 165 27 L S h = exe icE 165 (e_aload 0 28 L S h) := icE_eq (i := .aload_n 0) (len := 1) (x1 := 0) (x2 := 0) (x3 := 0) (x4 := 64) ((fe_165 27).trans rfl) L S h
set_option maxRecDepth 10000 in
theorem r_165_28 (L S : List Value) (h : icH) : icE 165 28 L S h = icE 165 29 L (.int (nI 1) :: S) h := icE_eq (i := .iconst 1) (len := 1) (x1 := 0) (x2 := 0) (x3 := 0) (x4 := 64) ((fe_165 28).trans rfl) L S h
set_option maxRecDepth 10000 in
theorem r_165_29 (L S : List Value) (h : icH) : icE 165 29 L S h = icE 165 30 L (.int (nI 0) :: S) h := icE_eq (i := .iconst 0) (len := 1) (x1 := 0) (x2 := 0) (x3 := 0) (x4 := 64) ((fe_165 29).trans rfl) L S h
set_option maxRecDepth 10000 in
theorem r_165_30 (L S : List Value) (h : icH) : icE 165 30 L S h = icE 165 32 L (.int (nI 18) :: S) h := icE_eq (i := .bipush 18) (len := 2) (x1 := 0) (x2 := 0) (x3 := 0) (x4 := 64) ((fe_165 30).trans rfl) L S h
set_option maxRecDepth 10000 in
theorem r_165_32 (L S : List Value) (h : icH) : icE 165 32 L S h = exe icE 165 (e_vcal 8 163 4 3 35 L S h) := icE_eq (i := .invokevirtual 157) (len := 3) (x1 := 163) (x2 := 3) (x3 := 8) (x4 := 1110) ((fe_165 32).trans rfl) L S h
set_option maxRecDepth 10000 in
theorem r_165_35 (L S : List Value) (h : icH) : icE 165 35 L S h = exe icE 165 (e_if .eq 45 38 L S h) := icE_eq (i := .ifCond .eq 10) (len := 3) (x1 := 45) (x2 := 0) (x3 := 0) (x4 := 64) ((fe_165 35).trans rfl) L S h
set_option maxRecDepth 10000 in
theorem r_165_38 (L S : List Value) (h : icH) : icE 165 38 L S h = exe icE 165 (e_aload 0 39 L S h) := icE_eq (i := .aload_n 0) (len := 1) (x1 := 0) (x2 := 0) (x3 := 0) (x4 := 64) ((fe_165 38).trans rfl) L S h
set_option maxRecDepth 10000 in
theorem r_165_39 (L S : List Value) (h : icH) : icE 165 39 L S h = exe icE 165 (e_vcal 8 164 1 0 42 L S h) := icE_eq (i := .invokevirtual 161) (len := 3) (x1 := 164) (x2 := 3) (x3 := 8) (x4 := 1114) ((fe_165 39).trans rfl) L S h
set_option maxRecDepth 10000 in
theorem r_165_42 (L S : List Value) (h : icH) : icE 165 42 L S h = exe icE 165 (e_if .ne 47 45 L S h) := icE_eq (i := .ifCond .ne 5) (len := 3) (x1 := 47) (x2 := 0) (x3 := 0) (x4 := 64) ((fe_165 42).trans rfl) L S h
set_option maxRecDepth 10000 in
theorem r_165_45 (L S : List Value) (h : icH) : icE 165 45 L S h = icE 165 46 L (.int (nI 0) :: S) h := icE_eq (i := .iconst 0) (len := 1) (x1 := 0) (x2 := 0) (x3 := 0) (x4 := 64) ((fe_165 45).trans rfl) L S h
set_option maxRecDepth 10000 in
theorem r_165_46 (L S : List Value) (h : icH) : icE 165 46 L S h = exe icE 165 (e_iret 1 L S h) := icE_eq (i := .ireturn) (len := 1) (x1 := 1) (x2 := 0) (x3 := 0) (x4 := 64) ((fe_165 46).trans rfl) L S h
set_option maxRecDepth 10000 in
theorem r_165_47 (L S : List Value) (h : icH) : icE 165 47 L S h = exe icE 165 (e_aload 0 48 L S h) := icE_eq (i := .aload_n 0) (len := 1) (x1 := 0) (x2 := 0) (x3 := 0) (x4 := 64) ((fe_165 47).trans rfl) L S h
set_option maxRecDepth 10000 in
theorem r_165_48 (L S : List Value) (h : icH) : icE 165 48 L S h = exe icE 165 (e_getf 0 8 51 L S h) := icE_eq (i := .getfield 7) (len := 3) (x1 := 0) (x2 := 8) (x3 := 12) (x4 := 957) ((fe_165 48).trans rfl) L S h
set_option maxRecDepth 10000 in
theorem r_165_51 (L S : List Value) (h : icH) : icE 165 51 L S h = icE 165 52 L (.int (nI 1) :: S) h := icE_eq (i := .iconst 1) (len := 1) (x1 := 0) (x2 := 0) (x3 := 0) (x4 := 64) ((fe_165 51).trans rfl) L S h
set_option maxRecDepth 10000 in
theorem r_165_52 (L S : List Value) (h : icH) : icE 165 52 L S h = exe icE 165 (e_aload 0 53 L S h) := icE_eq (i := .aload_n 0) (len := 1) (x1 := 0) (x2 := 0) (x3 := 0) (x4 := 64) ((fe_165 52).trans rfl) L S h
set_option maxRecDepth 10000 in
theorem r_165_53 (L S : List Value) (h : icH) : icE 165 53 L S h = exe icE 165 (e_getf 14 8 56 L S h) := icE_eq (i := .getfield 36) (len := 3) (x1 := 14) (x2 := 8) (x3 := 12) (x4 := 971) ((fe_165 53).trans rfl) L S h
set_option maxRecDepth 10000 in
theorem r_165_56 (L S : List Value) (h : icH) : icE 165 56 L S h = icE 165 57 L (.int (nI 0) :: S) h := icE_eq (i := .iconst 0) (len := 1) (x1 := 0) (x2 := 0) (x3 := 0) (x4 := 64) ((fe_165 56).trans rfl) L S h
set_option maxRecDepth 10000 in
theorem r_165_57 (L S : List Value) (h : icH) : icE 165 57 L S h = exe icE 165 (e_iald 58 L S h) := icE_eq (i := .iaload) (len := 1) (x1 := 0) (x2 := 0) (x3 := 0) (x4 := 64) ((fe_165 57).trans rfl) L S h
set_option maxRecDepth 10000 in
theorem r_165_58 (L S : List Value) (h : icH) : icE 165 58 L S h = exe icE 165 (e_bin (fun x y => x + y) 59 L S h) := icE_eq (i := .iadd) (len := 1) (x1 := 0) (x2 := 0) (x3 := 0) (x4 := 64) ((fe_165 58).trans rfl) L S h
set_option maxRecDepth 10000 in
theorem r_165_59 (L S : List Value) (h : icH) : icE 165 59 L S h = exe icE 165 (e_aload 0 60 L S h) := icE_eq (i := .aload_n 0) (len := 1) (x1 := 0) (x2 := 0) (x3 := 0) (x4 := 64) ((fe_165 59).trans rfl) L S h
set_option maxRecDepth 10000 in
theorem r_165_60 (L S : List Value) (h : icH) : icE 165 60 L S h = exe icE 165 (e_getf 14 8 63 L S h) := icE_eq (i := .getfield 36) (len := 3) (x1 := 14) (x2 := 8) (x3 := 12) (x4 := 971) ((fe_165 60).trans rfl) L S h
set_option maxRecDepth 10000 in
theorem r_165_63 (L S : List Value) (h : icH) : icE 165 63 L S h = icE 165 64 L (.int (nI 1) :: S) h := icE_eq (i := .iconst 1) (len := 1) (x1 := 0) (x2 := 0) (x3 := 0) (x4 := 64) ((fe_165 63).trans rfl) L S h
set_option maxRecDepth 10000 in
theorem r_165_64 (L S : List Value) (h : icH) : icE 165 64 L S h = exe icE 165 (e_iald 65 L S h) := icE_eq (i := .iaload) (len := 1) (x1 := 0) (x2 := 0) (x3 := 0) (x4 := 64) ((fe_165 64).trans rfl) L S h
set_option maxRecDepth 10000 in
theorem r_165_65 (L S : List Value) (h : icH) : icE 165 65 L S h = icE 165 67 L (.int (nI 9) :: S) h := icE_eq (i := .bipush 9) (len := 2) (x1 := 0) (x2 := 0) (x3 := 0) (x4 := 64) ((fe_165 65).trans rfl) L S h
set_option maxRecDepth 10000 in
theorem r_165_67 (L S : List Value) (h : icH) : icE 165 67 L S h = exe icE 165 (e_bin (fun x y => x - y) 68 L S h) := icE_eq (i := .isub) (len := 1) (x1 := 0) (x2 := 0) (x3 := 0) (x4 := 64) ((fe_165 67).trans rfl) L S h
set_option maxRecDepth 10000 in
theorem r_165_68 (L S : List Value) (h : icH) : icE 165 68 L S h = exe icE 165 (e_iast 69 L S h) := icE_eq (i := .iastore) (len := 1) (x1 := 0) (x2 := 0) (x3 := 0) (x4 := 64) ((fe_165 68).trans rfl) L S h
set_option maxRecDepth 10000 in
theorem r_165_69 (L S : List Value) (h : icH) : icE 165 69 L S h = icE 165 70 L (.int (nI 1) :: S) h := icE_eq (i := .iconst 1) (len := 1) (x1 := 0) (x2 := 0) (x3 := 0) (x4 := 64) ((fe_165 69).trans rfl) L S h
set_option maxRecDepth 10000 in
theorem r_165_70 (L S : List Value) (h : icH) : icE 165 70 L S h = exe icE 165 (e_iret 1 L S h) := icE_eq (i := .ireturn) (len := 1) (x1 := 1) (x2 := 0) (x3 := 0) (x4 := 64) ((fe_165 70).trans rfl) L S h
set_option maxRecDepth 10000 in
theorem r_165_71 (L S : List Value) (h : icH) : icE 165 71 L S h = exe icE 165 (e_aload 0 72 L S h) := icE_eq (i := .aload_n 0) (len := 1) (x1 := 0) (x2 := 0) (x3 := 0) (x4 := 64) ((fe_165 71).trans rfl) L S h
set_option maxRecDepth 10000 in
theorem r_165_72 (L S : List Value) (h : icH) : icE 165 72 L S h = icE 165 74 L (.int (nI 114) :: S) h := icE_eq (i := .bipush 114) (len := 2) (x1 := 0) (x2 := 0) (x3 := 0) (x4 := 64) ((fe_165 72).trans rfl) L S h
set_option maxRecDepth 10000 in
theorem r_165_74 (L S : List Value) (h : icH) : icE 165 74 L S h = icE 165 76 L (.int (nI 111) :: S) h := icE_eq (i := .bipush 111) (len := 2) (x1 := 0) (x2 := 0) (x3 := 0) (x4 := 64) ((fe_165 74).trans rfl) L S h
set_option maxRecDepth 10000 in
theorem r_165_76 (L S : List Value) (h : icH) : icE 165 76 L S h = icE 165 78 L (.int (nI 111) :: S) h := icE_eq (i := .bipush 111) (len := 2) (x1 := 0) (x2 := 0) (x3 := 0) (x4 := 64) ((fe_165 76).trans rfl) L S h
set_option maxRecDepth 10000 in
theorem r_165_78 (L S : List Value) (h : icH) : icE 165 78 L S h = icE 165 80 L (.int (nI 102) :: S) h := icE_eq (i := .bipush 102) (len := 2) (x1 := 0) (x2 := 0) (x3 := 0) (x4 := 64) ((fe_165 78).trans rfl) L S h
set_option maxRecDepth 10000 in
theorem r_165_80 (L S : List Value) (h : icH) : icE 165 80 L S h = icE 165 81 L (.int (nI 0) :: S) h := icE_eq (i := .iconst 0) (len := 1) (x1 := 0) (x2 := 0) (x3 := 0) (x4 := 64) ((fe_165 80).trans rfl) L S h
set_option maxRecDepth 10000 in
theorem r_165_81 (L S : List Value) (h : icH) : icE 165 81 L S h = exe icE 165 (e_vcal 8 162 8 5 84 L S h) := icE_eq (i := .invokevirtual 153) (len := 3) (x1 := 162) (x2 := 3) (x3 := 8) (x4 := 1106) ((fe_165 81).trans rfl) L S h
set_option maxRecDepth 10000 in
theorem r_165_84 (L S : List Value) (h : icH) : icE 165 84 L S h = exe icE 165 (e_if .eq 163 87 L S h) := icE_eq (i := .ifCond .eq 79) (len := 3) (x1 := 163) (x2 := 0) (x3 := 0) (x4 := 64) ((fe_165 84).trans rfl) L S h
set_option maxRecDepth 10000 in
theorem r_165_87 (L S : List Value) (h : icH) : icE 165 87 L S h = exe icE 165 (e_aload 0 88 L S h) := icE_eq (i := .aload_n 0) (len := 1) (x1 := 0) (x2 := 0) (x3 := 0) (x4 := 64) ((fe_165 87).trans rfl) L S h
set_option maxRecDepth 10000 in
theorem r_165_88 (L S : List Value) (h : icH) : icE 165 88 L S h = exe icE 165 (e_getf 0 8 91 L S h) := icE_eq (i := .getfield 7) (len := 3) (x1 := 0) (x2 := 8) (x3 := 12) (x4 := 957) ((fe_165 88).trans rfl) L S h
set_option maxRecDepth 10000 in
theorem r_165_91 (L S : List Value) (h : icH) : icE 165 91 L S h = icE 165 93 L (.int (nI 9) :: S) h := icE_eq (i := .bipush 9) (len := 2) (x1 := 0) (x2 := 0) (x3 := 0) (x4 := 64) ((fe_165 91).trans rfl) L S h
set_option maxRecDepth 10000 in
theorem r_165_93 (L S : List Value) (h : icH) : icE 165 93 L S h = exe icE 165 (e_iald 94 L S h) := icE_eq (i := .iaload) (len := 1) (x1 := 0) (x2 := 0) (x3 := 0) (x4 := 64) ((fe_165 93).trans rfl) L S h
set_option maxRecDepth 10000 in
theorem r_165_94 (L S : List Value) (h : icH) : icE 165 94 L S h = icE 165 95 L (.int (nI 3) :: S) h := icE_eq (i := .iconst 3) (len := 1) (x1 := 0) (x2 := 0) (x3 := 0) (x4 := 64) ((fe_165 94).trans rfl) L S h
set_option maxRecDepth 10000 in
theorem r_165_95 (L S : List Value) (h : icH) : icE 165 95 L S h = exe icE 165 (e_cmp .ge 163 98 L S h) := icE_eq (i := .if_icmp .ge 68) (len := 3) (x1 := 163) (x2 := 0) (x3 := 0) (x4 := 64) ((fe_165 95).trans rfl) L S h
set_option maxRecDepth 10000 in
theorem r_165_98 (L S : List Value) (h : icH) : icE 165 98 L S h = exe icE 165 (e_aload 0 99 L S h) := icE_eq (i := .aload_n 0) (len := 1) (x1 := 0) (x2 := 0) (x3 := 0) (x4 := 64) ((fe_165 98).trans rfl) L S h
set_option maxRecDepth 10000 in
theorem r_165_99 (L S : List Value) (h : icH) : icE 165 99 L S h = icE 165 100 L (.int (nI 0) :: S) h := icE_eq (i := .iconst 0) (len := 1) (x1 := 0) (x2 := 0) (x3 := 0) (x4 := 64) ((fe_165 99).trans rfl) L S h
set_option maxRecDepth 10000 in
theorem r_165_100 (L S : List Value) (h : icH) : icE 165 100 L S h = icE 165 101 L (.int (nI 0) :: S) h := icE_eq (i := .iconst 0) (len := 1) (x1 := 0) (x2 := 0) (x3 := 0) (x4 := 64) ((fe_165 100).trans rfl) L S h
set_option maxRecDepth 10000 in
theorem r_165_101 (L S : List Value) (h : icH) : icE 165 101 L S h = icE 165 102 L (.int (nI 5) :: S) h := icE_eq (i := .iconst 5) (len := 1) (x1 := 0) (x2 := 0) (x3 := 0) (x4 := 64) ((fe_165 101).trans rfl) L S h
set_option maxRecDepth 10000 in
theorem r_165_102 (L S : List Value) (h : icH) : icE 165 102 L S h = exe icE 165 (e_vcal 8 163 4 3 105 L S h) := icE_eq (i := .invokevirtual 157) (len := 3) (x1 := 163) (x2 := 3) (x3 := 8) (x4 := 1110) ((fe_165 102).trans rfl) L S h
set_option maxRecDepth 10000 in
theorem r_165_105 (L S : List Value) (h : icH) : icE 165 105 L S h = exe icE 165 (e_if .eq 137 108 L S h) := icE_eq (i := .ifCond .eq 32) (len := 3) (x1 := 137) (x2 := 0) (x3 := 0) (x4 := 64) ((fe_165 105).trans rfl) L S h
set_option maxRecDepth 10000 in
theorem r_165_108 (L S : List Value) (h : icH) : icE 165 108 L S h = exe icE 165 (e_aload 0 109 L S h) := icE_eq (i := .aload_n 0) (len := 1) (x1 := 0) (x2 := 0) (x3 := 0) (x4 := 64) ((fe_165 108).trans rfl) L S h
set_option maxRecDepth 10000 in
theorem r_165_109 (L S : List Value) (h : icH) : icE 165 109 L S h = icE 165 110 L (.int (nI 1) :: S) h := icE_eq (i := .iconst 1) (len := 1) (x1 := 0) (x2 := 0) (x3 := 0) (x4 := 64) ((fe_165 109).trans rfl) L S h
set_option maxRecDepth 10000 in
theorem r_165_110 (L S : List Value) (h : icH) : icE 165 110 L S h = icE 165 111 L (.int (nI 0) :: S) h := icE_eq (i := .iconst 0) (len := 1) (x1 := 0) (x2 := 0) (x3 := 0) (x4 := 64) ((fe_165 110).trans rfl) L S h
set_option maxRecDepth 10000 in
theorem r_165_111 (L S : List Value) (h : icH) : icE 165 111 L S h = icE 165 113 L (.int (nI 9) :: S) h := icE_eq (i := .bipush 9) (len := 2) (x1 := 0) (x2 := 0) (x3 := 0) (x4 := 64) ((fe_165 111).trans rfl) L S h
set_option maxRecDepth 10000 in
theorem r_165_113 (L S : List Value) (h : icH) : icE 165 113 L S h = exe icE 165 (e_vcal 8 163 4 3 116 L S h) := icE_eq (i := .invokevirtual 157) (len := 3) (x1 := 163) (x2 := 3) (x3 := 8) (x4 := 1110) ((fe_165 113).trans rfl) L S h
set_option maxRecDepth 10000 in
theorem r_165_116 (L S : List Value) (h : icH) : icE 165 116 L S h = exe icE 165 (e_if .eq 137 119 L S h) := icE_eq (i := .ifCond .eq 21) (len := 3) (x1 := 137) (x2 := 0) (x3 := 0) (x4 := 64) ((fe_165 116).trans rfl) L S h
set_option maxRecDepth 10000 in
theorem r_165_119 (L S : List Value) (h : icH) : icE 165 119 L S h = exe icE 165 (e_aload 0 120 L S h) := icE_eq (i := .aload_n 0) (len := 1) (x1 := 0) (x2 := 0) (x3 := 0) (x4 := 64) ((fe_165 119).trans rfl) L S h
set_option maxRecDepth 10000 in
theorem r_165_120 (L S : List Value) (h : icH) : icE 165 120 L S h = icE 165 121 L (.int (nI 2) :: S) h := icE_eq (i := .iconst 2) (len := 1) (x1 := 0) (x2 := 0) (x3 := 0) (x4 := 64) ((fe_165 120).trans rfl) L S h
set_option maxRecDepth 10000 in
theorem r_165_121 (L S : List Value) (h : icH) : icE 165 121 L S h = icE 165 122 L (.int (nI 0) :: S) h := icE_eq (i := .iconst 0) (len := 1) (x1 := 0) (x2 := 0) (x3 := 0) (x4 := 64) ((fe_165 121).trans rfl) L S h
set_option maxRecDepth 10000 in
theorem r_165_122 (L S : List Value) (h : icH) : icE 165 122 L S h = icE 165 124 L (.int (nI 60) :: S) h := icE_eq (i := .bipush 60) (len := 2) (x1 := 0) (x2 := 0) (x3 := 0) (x4 := 64) ((fe_165 122).trans rfl) L S h
set_option maxRecDepth 10000 in
theorem r_165_124 (L S : List Value) (h : icH) : icE 165 124 L S h = exe icE 165 (e_vcal 8 163 4 3 127 L S h) := icE_eq (i := .invokevirtual 157) (len := 3) (x1 := 163) (x2 := 3) (x3 := 8) (x4 := 1110) ((fe_165 124).trans rfl) L S h
set_option maxRecDepth 10000 in
theorem r_165_127 (L S : List Value) (h : icH) : icE 165 127 L S h = exe icE 165 (e_if .eq 137 130 L S h) := icE_eq (i := .ifCond .eq 10) (len := 3) (x1 := 137) (x2 := 0) (x3 := 0) (x4 := 64) ((fe_165 127).trans rfl) L S h
set_option maxRecDepth 10000 in
theorem r_165_130 (L S : List Value) (h : icH) : icE 165 130 L S h = exe icE 165 (e_aload 0 131 L S h) := icE_eq (i := .aload_n 0) (len := 1) (x1 := 0) (x2 := 0) (x3 := 0) (x4 := 64) ((fe_165 130).trans rfl) L S h
set_option maxRecDepth 10000 in
theorem r_165_131 (L S : List Value) (h : icH) : icE 165 131 L S h = exe icE 165 (e_vcal 8 164 1 0 134 L S h) := icE_eq (i := .invokevirtual 161) (len := 3) (x1 := 164) (x2 := 3) (x3 := 8) (x4 := 1114) ((fe_165 131).trans rfl) L S h
set_option maxRecDepth 10000 in
theorem r_165_134 (L S : List Value) (h : icH) : icE 165 134 L S h = exe icE 165 (e_if .ne 139 137 L S h) := icE_eq (i := .ifCond .ne 5) (len := 3) (x1 := 139) (x2 := 0) (x3 := 0) (x4 := 64) ((fe_165 134).trans rfl) L S h
set_option maxRecDepth 10000 in
theorem r_165_137 (L S : List Value) (h : icH) : icE 165 137 L S h = icE 165 138 L (.int (nI 0) :: S) h := icE_eq (i := .iconst 0) (len := 1) (x1 := 0) (x2 := 0) (x3 := 0) (x4 := 64) ((fe_165 137).trans rfl) L S h
set_option maxRecDepth 10000 in
theorem r_165_138 (L S : List Value) (h : icH) : icE 165 138 L S h = exe icE 165 (e_iret 1 L S h) := icE_eq (i := .ireturn) (len := 1) (x1 := 1) (x2 := 0) (x3 := 0) (x4 := 64) ((fe_165 138).trans rfl) L S h
set_option maxRecDepth 10000 in
theorem r_165_139 (L S : List Value) (h : icH) : icE 165 139 L S h = exe icE 165 (e_aload 0 140 L S h) := icE_eq (i := .aload_n 0) (len := 1) (x1 := 0) (x2 := 0) (x3 := 0) (x4 := 64) ((fe_165 139).trans rfl) L S h
set_option maxRecDepth 10000 in
theorem r_165_140 (L S : List Value) (h : icH) : icE 165 140 L S h = exe icE 165 (e_aload 0 141 L S h) := icE_eq (i := .aload_n 0) (len := 1) (x1 := 0) (x2 := 0) (x3 := 0) (x4 := 64) ((fe_165 140).trans rfl) L S h
set_option maxRecDepth 10000 in
theorem r_165_141 (L S : List Value) (h : icH) : icE 165 141 L S h = exe icE 165 (e_getf 14 8 144 L S h) := icE_eq (i := .getfield 36) (len := 3) (x1 := 14) (x2 := 8) (x3 := 12) (x4 := 971) ((fe_165 141).trans rfl) L S h
set_option maxRecDepth 10000 in
theorem r_165_144 (L S : List Value) (h : icH) : icE 165 144 L S h = icE 165 145 L (.int (nI 0) :: S) h := icE_eq (i := .iconst 0) (len := 1) (x1 := 0) (x2 := 0) (x3 := 0) (x4 := 64) ((fe_165 144).trans rfl) L S h
set_option maxRecDepth 10000 in
theorem r_165_145 (L S : List Value) (h : icH) : icE 165 145 L S h = exe icE 165 (e_iald 146 L S h) := icE_eq (i := .iaload) (len := 1) (x1 := 0) (x2 := 0) (x3 := 0) (x4 := 64) ((fe_165 145).trans rfl) L S h
set_option maxRecDepth 10000 in
theorem r_165_146 (L S : List Value) (h : icH) : icE 165 146 L S h = exe icE 165 (e_aload 0 147 L S h) := icE_eq (i := .aload_n 0) (len := 1) (x1 := 0) (x2 := 0) (x3 := 0) (x4 := 64) ((fe_165 146).trans rfl) L S h
set_option maxRecDepth 10000 in
theorem r_165_147 (L S : List Value) (h : icH) : icE 165 147 L S h = exe icE 165 (e_getf 14 8 150 L S h) := icE_eq (i := .getfield 36) (len := 3) (x1 := 14) (x2 := 8) (x3 := 12) (x4 := 971) ((fe_165 147).trans rfl) L S h
set_option maxRecDepth 10000 in
theorem r_165_150 (L S : List Value) (h : icH) : icE 165 150 L S h = icE 165 151 L (.int (nI 1) :: S) h := icE_eq (i := .iconst 1) (len := 1) (x1 := 0) (x2 := 0) (x3 := 0) (x4 := 64) ((fe_165 150).trans rfl) L S h
set_option maxRecDepth 10000 in
theorem r_165_151 (L S : List Value) (h : icH) : icE 165 151 L S h = exe icE 165 (e_iald 152 L S h) := icE_eq (i := .iaload) (len := 1) (x1 := 0) (x2 := 0) (x3 := 0) (x4 := 64) ((fe_165 151).trans rfl) L S h
set_option maxRecDepth 10000 in
theorem r_165_152 (L S : List Value) (h : icH) : icE 165 152 L S h = exe icE 165 (e_aload 0 153 L S h) := icE_eq (i := .aload_n 0) (len := 1) (x1 := 0) (x2 := 0) (x3 := 0) (x4 := 64) ((fe_165 152).trans rfl) L S h
set_option maxRecDepth 10000 in
theorem r_165_153 (L S : List Value) (h : icH) : icE 165 153 L S h = exe icE 165 (e_getf 14 8 156 L S h) := icE_eq (i := .getfield 36) (len := 3) (x1 := 14) (x2 := 8) (x3 := 12) (x4 := 971) ((fe_165 153).trans rfl) L S h
set_option maxRecDepth 10000 in
theorem r_165_156 (L S : List Value) (h : icH) : icE 165 156 L S h = icE 165 157 L (.int (nI 2) :: S) h := icE_eq (i := .iconst 2) (len := 1) (x1 := 0) (x2 := 0) (x3 := 0) (x4 := 64) ((fe_165 156).trans rfl) L S h
set_option maxRecDepth 10000 in
theorem r_165_157 (L S : List Value) (h : icH) : icE 165 157 L S h = exe icE 165 (e_iald 158 L S h) := icE_eq (i := .iaload) (len := 1) (x1 := 0) (x2 := 0) (x3 := 0) (x4 := 64) ((fe_165 157).trans rfl) L S h
set_option maxRecDepth 10000 in
theorem r_165_158 (L S : List Value) (h : icH) : icE 165 158 L S h = exe icE 165 (e_vcal 8 154 5 3 161 L S h) := icE_eq (i := .invokevirtual 106) (len := 3) (x1 := 154) (x2 := 3) (x3 := 8) (x4 := 1056) ((fe_165 158).trans rfl) L S h
set_option maxRecDepth 10000 in
theorem r_165_161 (L S : List Value) (h : icH) : icE 165 161 L S h = icE 165 162 L (.int (nI 1) :: S) h := icE_eq (i := .iconst 1) (len := 1) (x1 := 0) (x2 := 0) (x3 := 0) (x4 := 64) ((fe_165 161).trans rfl) L S h
set_option maxRecDepth 10000 in
theorem r_165_162 (L S : List Value) (h : icH) : icE 165 162 L S h = exe icE 165 (e_iret 1 L S h) := icE_eq (i := .ireturn) (len := 1) (x1 := 1) (x2 := 0) (x3 := 0) (x4 := 64) ((fe_165 162).trans rfl) L S h
set_option maxRecDepth 10000 in
theorem r_165_163 (L S : List Value) (h : icH) : icE 165 163 L S h = exe icE 165 (e_aload 0 164 L S h) := icE_eq (i := .aload_n 0) (len := 1) (x1 := 0) (x2 := 0) (x3 := 0) (x4 := 64) ((fe_165 163).trans rfl) L S h
set_option maxRecDepth 10000 in
theorem r_165_164 (L S : List Value) (h : icH) : icE 165 164 L S h = icE 165 166 L (.int (nI 105) :: S) h := icE_eq (i := .bipush 105) (len := 2) (x1 := 0) (x2 := 0) (x3 := 0) (x4 := 64) ((fe_165 164).trans rfl) L S h
set_option maxRecDepth 10000 in
theorem r_165_166 (L S : List Value) (h : icH) : icE 165 166 L S h = icE 165 168 L (.int (nI 99) :: S) h := icE_eq (i := .bipush 99) (len := 2) (x1 := 0) (x2 := 0) (x3 := 0) (x4 := 64) ((fe_165 166).trans rfl) L S h
set_option maxRecDepth 10000 in
theorem r_165_168 (L S : List Value) (h : icH) : icE 165 168 L S h = icE 165 170 L (.int (nI 101) :: S) h := icE_eq (i := .bipush 101) (len := 2) (x1 := 0) (x2 := 0) (x3 := 0) (x4 := 64) ((fe_165 168).trans rfl) L S h
set_option maxRecDepth 10000 in
theorem r_165_170 (L S : List Value) (h : icH) : icE 165 170 L S h = icE 165 171 L (.int (nI 0) :: S) h := icE_eq (i := .iconst 0) (len := 1) (x1 := 0) (x2 := 0) (x3 := 0) (x4 := 64) ((fe_165 170).trans rfl) L S h
set_option maxRecDepth 10000 in
theorem r_165_171 (L S : List Value) (h : icH) : icE 165 171 L S h = icE 165 172 L (.int (nI 0) :: S) h := icE_eq (i := .iconst 0) (len := 1) (x1 := 0) (x2 := 0) (x3 := 0) (x4 := 64) ((fe_165 171).trans rfl) L S h
set_option maxRecDepth 10000 in
theorem r_165_172 (L S : List Value) (h : icH) : icE 165 172 L S h = exe icE 165 (e_vcal 8 162 8 5 175 L S h) := icE_eq (i := .invokevirtual 153) (len := 3) (x1 := 162) (x2 := 3) (x3 := 8) (x4 := 1106) ((fe_165 172).trans rfl) L S h
set_option maxRecDepth 10000 in
theorem r_165_175 (L S : List Value) (h : icH) : icE 165 175 L S h = exe icE 165 (e_if .eq 296 178 L S h) := icE_eq (i := .ifCond .eq 121) (len := 3) (x1 := 296) (x2 := 0) (x3 := 0) (x4 := 64) ((fe_165 175).trans rfl) L S h
set_option maxRecDepth 10000 in
theorem r_165_178 (L S : List Value) (h : icH) : icE 165 178 L S h = exe icE 165 (e_aload 0 179 L S h) := icE_eq (i := .aload_n 0) (len := 1) (x1 := 0) (x2 := 0) (x3 := 0) (x4 := 64) ((fe_165 178).trans rfl) L S h
set_option maxRecDepth 10000 in
theorem r_165_179 (L S : List Value) (h : icH) : icE 165 179 L S h = exe icE 165 (e_getf 0 8 182 L S h) := icE_eq (i := .getfield 7) (len := 3) (x1 := 0) (x2 := 8) (x3 := 12) (x4 := 957) ((fe_165 179).trans rfl) L S h
set_option maxRecDepth 10000 in
theorem r_165_182 (L S : List Value) (h : icH) : icE 165 182 L S h = icE 165 184 L (.int (nI 10) :: S) h := icE_eq (i := .bipush 10) (len := 2) (x1 := 0) (x2 := 0) (x3 := 0) (x4 := 64) ((fe_165 182).trans rfl) L S h
set_option maxRecDepth 10000 in
theorem r_165_184 (L S : List Value) (h : icH) : icE 165 184 L S h = exe icE 165 (e_iald 185 L S h) := icE_eq (i := .iaload) (len := 1) (x1 := 0) (x2 := 0) (x3 := 0) (x4 := 64) ((fe_165 184).trans rfl) L S h
set_option maxRecDepth 10000 in
theorem r_165_185 (L S : List Value) (h : icH) : icE 165 185 L S h = icE 165 187 L (.int (nI 6) :: S) h := icE_eq (i := .bipush 6) (len := 2) (x1 := 0) (x2 := 0) (x3 := 0) (x4 := 64) ((fe_165 185).trans rfl) L S h
set_option maxRecDepth 10000 in
theorem r_165_187 (L S : List Value) (h : icH) : icE 165 187 L S h = exe icE 165 (e_cmp .ge 296 190 L S h) := icE_eq (i := .if_icmp .ge 109) (len := 3) (x1 := 296) (x2 := 0) (x3 := 0) (x4 := 64) ((fe_165 187).trans rfl) L S h
set_option maxRecDepth 10000 in
theorem r_165_190 (L S : List Value) (h : icH) : icE 165 190 L S h = exe icE 165 (e_aload 0 191 L S h) := icE_eq (i := .aload_n 0) (len := 1) (x1 := 0) (x2 := 0) (x3 := 0) (x4 := 64) ((fe_165 190).trans rfl) L S h
set_option maxRecDepth 10000 in
theorem r_165_191 (L S : List Value) (h : icH) : icE 165 191 L S h = icE 165 192 L (.int (nI 0) :: S) h := icE_eq (i := .iconst 0) (len := 1) (x1 := 0) (x2 := 0) (x3 := 0) (x4 := 64) ((fe_165 191).trans rfl) L S h
set_option maxRecDepth 10000 in
theorem r_165_192 (L S : List Value) (h : icH) : icE 165 192 L S h = icE 165 193 L (.int (nI 0) :: S) h := icE_eq (i := .iconst 0) (len := 1) (x1 := 0) (x2 := 0) (x3 := 0) (x4 := 64) ((fe_165 192).trans rfl) L S h
set_option maxRecDepth 10000 in
theorem r_165_193 (L S : List Value) (h : icH) : icE 165 193 L S h = exe icE 165 (e_aload 0 194 L S h) := icE_eq (i := .aload_n 0) (len := 1) (x1 := 0) (x2 := 0) (x3 := 0) (x4 := 64) ((fe_165 193).trans rfl) L S h
set_option maxRecDepth 10000 in
theorem r_165_194 (L S : List Value) (h : icH) : icE 165 194 L S h = exe icE 165 (e_getf 0 8 197 L S h) := icE_eq (i := .getfield 7) (len := 3) (x1 := 0) (x2 := 8) (x3 := 12) (x4 := 957) ((fe_165 194).trans rfl) L S h
set_option maxRecDepth 10000 in
theorem r_165_197 (L S : List Value) (h : icH) : icE 165 197 L S h = icE 165 199 L (.int (nI 9) :: S) h := icE_eq (i := .bipush 9) (len := 2) (x1 := 0) (x2 := 0) (x3 := 0) (x4 := 64) ((fe_165 197).trans rfl) L S h
set_option maxRecDepth 10000 in
theorem r_165_199 (L S : List Value) (h : icH) : icE 165 199 L S h = exe icE 165 (e_iald 200 L S h) := icE_eq (i := .iaload) (len := 1) (x1 := 0) (x2 := 0) (x3 := 0) (x4 := 64) ((fe_165 199).trans rfl) L S h
set_option maxRecDepth 10000 in
theorem r_165_200 (L S : List Value) (h : icH) : icE 165 200 L S h = icE 165 201 L (.int (nI 1) :: S) h := icE_eq (i := .iconst 1) (len := 1) (x1 := 0) (x2 := 0) (x3 := 0) (x4 := 64) ((fe_165 200).trans rfl) L S h
set_option maxRecDepth 10000 in
theorem r_165_201 (L S : List Value) (h : icH) : icE 165 201 L S h = exe icE 165 (e_bin (fun x y => x - y) 202 L S h) := icE_eq (i := .isub) (len := 1) (x1 := 0) (x2 := 0) (x3 := 0) (x4 := 64) ((fe_165 201).trans rfl) L S h
set_option maxRecDepth 10000 in
theorem r_165_202 (L S : List Value) (h : icH) : icE 165 202 L S h = exe icE 165 (e_vcal 8 163 4 3 205 L S h) := icE_eq (i := .invokevirtual 157) (len := 3) (x1 := 163) (x2 := 3) (x3 := 8) (x4 := 1110) ((fe_165 202).trans rfl) L S h
set_option maxRecDepth 10000 in
theorem r_165_205 (L S : List Value) (h : icH) : icE 165 205 L S h = exe icE 165 (e_if .eq 258 208 L S h) := icE_eq (i := .ifCond .eq 53) (len := 3) (x1 := 258) (x2 := 0) (x3 := 0) (x4 := 64) ((fe_165 205).trans rfl) L S h
set_option maxRecDepth 10000 in
theorem r_165_208 (L S : List Value) (h : icH) : icE 165 208 L S h = exe icE 165 (e_aload 0 209 L S h) := icE_eq (i := .aload_n 0) (len := 1) (x1 := 0) (x2 := 0) (x3 := 0) (x4 := 64) ((fe_165 208).trans rfl) L S h
set_option maxRecDepth 10000 in
theorem r_165_209 (L S : List Value) (h : icH) : icE 165 209 L S h = icE 165 210 L (.int (nI 1) :: S) h := icE_eq (i := .iconst 1) (len := 1) (x1 := 0) (x2 := 0) (x3 := 0) (x4 := 64) ((fe_165 209).trans rfl) L S h
set_option maxRecDepth 10000 in
theorem r_165_210 (L S : List Value) (h : icH) : icE 165 210 L S h = icE 165 211 L (.int (nI 0) :: S) h := icE_eq (i := .iconst 0) (len := 1) (x1 := 0) (x2 := 0) (x3 := 0) (x4 := 64) ((fe_165 210).trans rfl) L S h
set_option maxRecDepth 10000 in
theorem r_165_211 (L S : List Value) (h : icH) : icE 165 211 L S h = icE 165 212 L (.int (nI 5) :: S) h := icE_eq (i := .iconst 5) (len := 1) (x1 := 0) (x2 := 0) (x3 := 0) (x4 := 64) ((fe_165 211).trans rfl) L S h
set_option maxRecDepth 10000 in
theorem r_165_212 (L S : List Value) (h : icH) : icE 165 212 L S h = exe icE 165 (e_vcal 8 163 4 3 215 L S h) := icE_eq (i := .invokevirtual 157) (len := 3) (x1 := 163) (x2 := 3) (x3 := 8) (x4 := 1110) ((fe_165 212).trans rfl) L S h
set_option maxRecDepth 10000 in
theorem r_165_215 (L S : List Value) (h : icH) : icE 165 215 L S h = exe icE 165 (e_if .eq 258 218 L S h) := icE_eq (i := .ifCond .eq 43) (len := 3) (x1 := 258) (x2 := 0) (x3 := 0) (x4 := 64) ((fe_165 215).trans rfl) L S h
set_option maxRecDepth 10000 in
theorem r_165_218 (L S : List Value) (h : icH) : icE 165 218 L S h = exe icE 165 (e_aload 0 219 L S h) := icE_eq (i := .aload_n 0) (len := 1) (x1 := 0) (x2 := 0) (x3 := 0) (x4 := 64) ((fe_165 218).trans rfl) L S h
set_option maxRecDepth 10000 in
theorem r_165_219 (L S : List Value) (h : icH) : icE 165 219 L S h = icE 165 220 L (.int (nI 2) :: S) h := icE_eq (i := .iconst 2) (len := 1) (x1 := 0) (x2 := 0) (x3 := 0) (x4 := 64) ((fe_165 219).trans rfl) L S h
set_option maxRecDepth 10000 in
theorem r_165_220 (L S : List Value) (h : icH) : icE 165 220 L S h = icE 165 221 L (.int (nI 0) :: S) h := icE_eq (i := .iconst 0) (len := 1) (x1 := 0) (x2 := 0) (x3 := 0) (x4 := 64) ((fe_165 220).trans rfl) L S h
set_option maxRecDepth 10000 in
theorem r_165_221 (L S : List Value) (h : icH) : icE 165 221 L S h = icE 165 223 L (.int (nI 7) :: S) h := icE_eq (i := .bipush 7) (len := 2) (x1 := 0) (x2 := 0) (x3 := 0) (x4 := 64) ((fe_165 221).trans rfl) L S h
set_option maxRecDepth 10000 in
theorem r_165_223 (L S : List Value) (h : icH) : icE 165 223 L S h = exe icE 165 (e_vcal 8 163 4 3 226 L S h) := icE_eq (i := .invokevirtual 157) (len := 3) (x1 := 163) (x2 := 3) (x3 := 8) (x4 := 1110) ((fe_165 223).trans rfl) L S h
set_option maxRecDepth 10000 in
theorem r_165_226 (L S : List Value) (h : icH) : icE 165 226 L S h = exe icE 165 (e_if .eq 258 229 L S h) := icE_eq (i := .ifCond .eq 32) (len := 3) (x1 := 258) (x2 := 0) (x3 := 0) (x4 := 64) ((fe_165 226).trans rfl) L S h
set_option maxRecDepth 10000 in
theorem r_165_229 (L S : List Value) (h : icH) : icE 165 229 L S h = exe icE 165 (e_aload 0 230 L S h) := icE_eq (i := .aload_n 0) (len := 1) (x1 := 0) (x2 := 0) (x3 := 0) (x4 := 64) ((fe_165 229).trans rfl) L S h
set_option maxRecDepth 10000 in
theorem r_165_230 (L S : List Value) (h : icH) : icE 165 230 L S h = icE 165 231 L (.int (nI 3) :: S) h := icE_eq (i := .iconst 3) (len := 1) (x1 := 0) (x2 := 0) (x3 := 0) (x4 := 64) ((fe_165 230).trans rfl) L S h
set_option maxRecDepth 10000 in
theorem r_165_231 (L S : List Value) (h : icH) : icE 165 231 L S h = icE 165 232 L (.int (nI 1) :: S) h := icE_eq (i := .iconst 1) (len := 1) (x1 := 0) (x2 := 0) (x3 := 0) (x4 := 64) ((fe_165 231).trans rfl) L S h
set_option maxRecDepth 10000 in
theorem r_165_232 (L S : List Value) (h : icH) : icE 165 232 L S h = icE 165 234 L (.int (nI 30) :: S) h := icE_eq (i := .bipush 30) (len := 2) (x1 := 0) (x2 := 0) (x3 := 0) (x4 := 64) ((fe_165 232).trans rfl) L S h
set_option maxRecDepth 10000 in
theorem r_165_234 (L S : List Value) (h : icH) : icE 165 234 L S h = exe icE 165 (e_vcal 8 163 4 3 237 L S h) := icE_eq (i := .invokevirtual 157) (len := 3) (x1 := 163) (x2 := 3) (x3 := 8) (x4 := 1110) ((fe_165 234).trans rfl) L S h
set_option maxRecDepth 10000 in
theorem r_165_237 (L S : List Value) (h : icH) : icE 165 237 L S h = exe icE 165 (e_if .eq 258 240 L S h) := icE_eq (i := .ifCond .eq 21) (len := 3) (x1 := 258) (x2 := 0) (x3 := 0) (x4 := 64) ((fe_165 237).trans rfl) L S h
set_option maxRecDepth 10000 in
theorem r_165_240 (L S : List Value) (h : icH) : icE 165 240 L S h = exe icE 165 (e_aload 0 241 L S h) := icE_eq (i := .aload_n 0) (len := 1) (x1 := 0) (x2 := 0) (x3 := 0) (x4 := 64) ((fe_165 240).trans rfl) L S h
set_option maxRecDepth 10000 in
theorem r_165_241 (L S : List Value) (h : icH) : icE 165 241 L S h = icE 165 242 L (.int (nI 4) :: S) h := icE_eq (i := .iconst 4) (len := 1) (x1 := 0) (x2 := 0) (x3 := 0) (x4 := 64) ((fe_165 241).trans rfl) L S h
set_option maxRecDepth 10000 in
theorem r_165_242 (L S : List Value) (h : icH) : icE 165 242 L S h = icE 165 243 L (.int (nI 1) :: S) h := icE_eq (i := .iconst 1) (len := 1) (x1 := 0) (x2 := 0) (x3 := 0) (x4 := 64) ((fe_165 242).trans rfl) L S h
set_option maxRecDepth 10000 in
theorem r_165_243 (L S : List Value) (h : icH) : icE 165 243 L S h = icE 165 245 L (.int (nI 40) :: S) h := icE_eq (i := .bipush 40) (len := 2) (x1 := 0) (x2 := 0) (x3 := 0) (x4 := 64) ((fe_165 243).trans rfl) L S h
set_option maxRecDepth 10000 in
theorem r_165_245 (L S : List Value) (h : icH) : icE 165 245 L S h = exe icE 165 (e_vcal 8 163 4 3 248 L S h) := icE_eq (i := .invokevirtual 157) (len := 3) (x1 := 163) (x2 := 3) (x3 := 8) (x4 := 1110) ((fe_165 245).trans rfl) L S h
set_option maxRecDepth 10000 in
theorem r_165_248 (L S : List Value) (h : icH) : icE 165 248 L S h = exe icE 165 (e_if .eq 258 251 L S h) := icE_eq (i := .ifCond .eq 10) (len := 3) (x1 := 258) (x2 := 0) (x3 := 0) (x4 := 64) ((fe_165 248).trans rfl) L S h
set_option maxRecDepth 10000 in
theorem r_165_251 (L S : List Value) (h : icH) : icE 165 251 L S h = exe icE 165 (e_aload 0 252 L S h) := icE_eq (i := .aload_n 0) (len := 1) (x1 := 0) (x2 := 0) (x3 := 0) (x4 := 64) ((fe_165 251).trans rfl) L S h
set_option maxRecDepth 10000 in
theorem r_165_252 (L S : List Value) (h : icH) : icE 165 252 L S h = exe icE 165 (e_vcal 8 164 1 0 255 L S h) := icE_eq (i := .invokevirtual 161) (len := 3) (x1 := 164) (x2 := 3) (x3 := 8) (x4 := 1114) ((fe_165 252).trans rfl) L S h
set_option maxRecDepth 10000 in
theorem r_165_255 (L S : List Value) (h : icH) : icE 165 255 L S h = exe icE 165 (e_if .ne 260 258 L S h) := icE_eq (i := .ifCond .ne 5) (len := 3) (x1 := 260) (x2 := 0) (x3 := 0) (x4 := 64) ((fe_165 255).trans rfl) L S h
set_option maxRecDepth 10000 in
theorem r_165_258 (L S : List Value) (h : icH) : icE 165 258 L S h = icE 165 259 L (.int (nI 0) :: S) h := icE_eq (i := .iconst 0) (len := 1) (x1 := 0) (x2 := 0) (x3 := 0) (x4 := 64) ((fe_165 258).trans rfl) L S h
set_option maxRecDepth 10000 in
theorem r_165_259 (L S : List Value) (h : icH) : icE 165 259 L S h = exe icE 165 (e_iret 1 L S h) := icE_eq (i := .ireturn) (len := 1) (x1 := 1) (x2 := 0) (x3 := 0) (x4 := 64) ((fe_165 259).trans rfl) L S h
set_option maxRecDepth 10000 in
theorem r_165_260 (L S : List Value) (h : icH) : icE 165 260 L S h = exe icE 165 (e_aload 0 261 L S h) := icE_eq (i := .aload_n 0) (len := 1) (x1 := 0) (x2 := 0) (x3 := 0) (x4 := 64) ((fe_165 260).trans rfl) L S h
set_option maxRecDepth 10000 in
theorem r_165_261 (L S : List Value) (h : icH) : icE 165 261 L S h = exe icE 165 (e_aload 0 262 L S h) := icE_eq (i := .aload_n 0) (len := 1) (x1 := 0) (x2 := 0) (x3 := 0) (x4 := 64) ((fe_165 261).trans rfl) L S h
set_option maxRecDepth 10000 in
theorem r_165_262 (L S : List Value) (h : icH) : icE 165 262 L S h = exe icE 165 (e_getf 14 8 265 L S h) := icE_eq (i := .getfield 36) (len := 3) (x1 := 14) (x2 := 8) (x3 := 12) (x4 := 971) ((fe_165 262).trans rfl) L S h
set_option maxRecDepth 10000 in
theorem r_165_265 (L S : List Value) (h : icH) : icE 165 265 L S h = icE 165 266 L (.int (nI 0) :: S) h := icE_eq (i := .iconst 0) (len := 1) (x1 := 0) (x2 := 0) (x3 := 0) (x4 := 64) ((fe_165 265).trans rfl) L S h
set_option maxRecDepth 10000 in
theorem r_165_266 (L S : List Value) (h : icH) : icE 165 266 L S h = exe icE 165 (e_iald 267 L S h) := icE_eq (i := .iaload) (len := 1) (x1 := 0) (x2 := 0) (x3 := 0) (x4 := 64) ((fe_165 266).trans rfl) L S h
set_option maxRecDepth 10000 in
theorem r_165_267 (L S : List Value) (h : icH) : icE 165 267 L S h = exe icE 165 (e_aload 0 268 L S h) := icE_eq (i := .aload_n 0) (len := 1) (x1 := 0) (x2 := 0) (x3 := 0) (x4 := 64) ((fe_165 267).trans rfl) L S h
set_option maxRecDepth 10000 in
theorem r_165_268 (L S : List Value) (h : icH) : icE 165 268 L S h = exe icE 165 (e_getf 14 8 271 L S h) := icE_eq (i := .getfield 36) (len := 3) (x1 := 14) (x2 := 8) (x3 := 12) (x4 := 971) ((fe_165 268).trans rfl) L S h
set_option maxRecDepth 10000 in
theorem r_165_271 (L S : List Value) (h : icH) : icE 165 271 L S h = icE 165 272 L (.int (nI 1) :: S) h := icE_eq (i := .iconst 1) (len := 1) (x1 := 0) (x2 := 0) (x3 := 0) (x4 := 64) ((fe_165 271).trans rfl) L S h
set_option maxRecDepth 10000 in
theorem r_165_272 (L S : List Value) (h : icH) : icE 165 272 L S h = exe icE 165 (e_iald 273 L S h) := icE_eq (i := .iaload) (len := 1) (x1 := 0) (x2 := 0) (x3 := 0) (x4 := 64) ((fe_165 272).trans rfl) L S h
set_option maxRecDepth 10000 in
theorem r_165_273 (L S : List Value) (h : icH) : icE 165 273 L S h = exe icE 165 (e_aload 0 274 L S h) := icE_eq (i := .aload_n 0) (len := 1) (x1 := 0) (x2 := 0) (x3 := 0) (x4 := 64) ((fe_165 273).trans rfl) L S h
set_option maxRecDepth 10000 in
theorem r_165_274 (L S : List Value) (h : icH) : icE 165 274 L S h = exe icE 165 (e_getf 14 8 277 L S h) := icE_eq (i := .getfield 36) (len := 3) (x1 := 14) (x2 := 8) (x3 := 12) (x4 := 971) ((fe_165 274).trans rfl) L S h
set_option maxRecDepth 10000 in
theorem r_165_277 (L S : List Value) (h : icH) : icE 165 277 L S h = icE 165 278 L (.int (nI 2) :: S) h := icE_eq (i := .iconst 2) (len := 1) (x1 := 0) (x2 := 0) (x3 := 0) (x4 := 64) ((fe_165 277).trans rfl) L S h
set_option maxRecDepth 10000 in
theorem r_165_278 (L S : List Value) (h : icH) : icE 165 278 L S h = exe icE 165 (e_iald 279 L S h) := icE_eq (i := .iaload) (len := 1) (x1 := 0) (x2 := 0) (x3 := 0) (x4 := 64) ((fe_165 278).trans rfl) L S h
set_option maxRecDepth 10000 in
theorem r_165_279 (L S : List Value) (h : icH) : icE 165 279 L S h = exe icE 165 (e_aload 0 280 L S h) := icE_eq (i := .aload_n 0) (len := 1) (x1 := 0) (x2 := 0) (x3 := 0) (x4 := 64) ((fe_165 279).trans rfl) L S h
set_option maxRecDepth 10000 in
theorem r_165_280 (L S : List Value) (h : icH) : icE 165 280 L S h = exe icE 165 (e_getf 14 8 283 L S h) := icE_eq (i := .getfield 36) (len := 3) (x1 := 14) (x2 := 8) (x3 := 12) (x4 := 971) ((fe_165 280).trans rfl) L S h
set_option maxRecDepth 10000 in
theorem r_165_283 (L S : List Value) (h : icH) : icE 165 283 L S h = icE 165 284 L (.int (nI 3) :: S) h := icE_eq (i := .iconst 3) (len := 1) (x1 := 0) (x2 := 0) (x3 := 0) (x4 := 64) ((fe_165 283).trans rfl) L S h
set_option maxRecDepth 10000 in
theorem r_165_284 (L S : List Value) (h : icH) : icE 165 284 L S h = exe icE 165 (e_iald 285 L S h) := icE_eq (i := .iaload) (len := 1) (x1 := 0) (x2 := 0) (x3 := 0) (x4 := 64) ((fe_165 284).trans rfl) L S h
set_option maxRecDepth 10000 in
theorem r_165_285 (L S : List Value) (h : icH) : icE 165 285 L S h = exe icE 165 (e_aload 0 286 L S h) := icE_eq (i := .aload_n 0) (len := 1) (x1 := 0) (x2 := 0) (x3 := 0) (x4 := 64) ((fe_165 285).trans rfl) L S h
set_option maxRecDepth 10000 in
theorem r_165_286 (L S : List Value) (h : icH) : icE 165 286 L S h = exe icE 165 (e_getf 14 8 289 L S h) := icE_eq (i := .getfield 36) (len := 3) (x1 := 14) (x2 := 8) (x3 := 12) (x4 := 971) ((fe_165 286).trans rfl) L S h
set_option maxRecDepth 10000 in
theorem r_165_289 (L S : List Value) (h : icH) : icE 165 289 L S h = icE 165 290 L (.int (nI 4) :: S) h := icE_eq (i := .iconst 4) (len := 1) (x1 := 0) (x2 := 0) (x3 := 0) (x4 := 64) ((fe_165 289).trans rfl) L S h
set_option maxRecDepth 10000 in
theorem r_165_290 (L S : List Value) (h : icH) : icE 165 290 L S h = exe icE 165 (e_iald 291 L S h) := icE_eq (i := .iaload) (len := 1) (x1 := 0) (x2 := 0) (x3 := 0) (x4 := 64) ((fe_165 290).trans rfl) L S h
set_option maxRecDepth 10000 in
theorem r_165_291 (L S : List Value) (h : icH) : icE 165 291 L S h = exe icE 165 (e_vcal 8 156 7 5 294 L S h) := icE_eq (i := .invokevirtual 117) (len := 3) (x1 := 156) (x2 := 3) (x3 := 8) (x4 := 1070) ((fe_165 291).trans rfl) L S h
set_option maxRecDepth 10000 in
theorem r_165_294 (L S : List Value) (h : icH) : icE 165 294 L S h = icE 165 295 L (.int (nI 1) :: S) h := icE_eq (i := .iconst 1) (len := 1) (x1 := 0) (x2 := 0) (x3 := 0) (x4 := 64) ((fe_165 294).trans rfl) L S h
set_option maxRecDepth 10000 in
theorem r_165_295 (L S : List Value) (h : icH) : icE 165 295 L S h = exe icE 165 (e_iret 1 L S h) := icE_eq (i := .ireturn) (len := 1) (x1 := 1) (x2 := 0) (x3 := 0) (x4 := 64) ((fe_165 295).trans rfl) L S h
set_option maxRecDepth 10000 in
theorem r_165_296 (L S : List Value) (h : icH) : icE 165 296 L S h = exe icE 165 (e_aload 0 297 L S h) := icE_eq (i := .aload_n 0) (len := 1) (x1 := 0) (x2 := 0) (x3 := 0) (x4 := 64) ((fe_165 296).trans rfl) L S h
set_option maxRecDepth 10000 in
theorem r_165_297 (L S : List Value) (h : icH) : icE 165 297 L S h = icE 165 299 L (.int (nI 104) :: S) h := icE_eq (i := .bipush 104) (len := 2) (x1 := 0) (x2 := 0) (x3 := 0) (x4 := 64) ((fe_165 297).trans rfl) L S h
set_option maxRecDepth 10000 in
theorem r_165_299 (L S : List Value) (h : icH) : icE 165 299 L S h = icE 165 301 L (.int (nI 111) :: S) h := icE_eq (i := .bipush 111) (len := 2) (x1 := 0) (x2 := 0) (x3 := 0) (x4 := 64) ((fe_165 299).trans rfl) L S h
set_option maxRecDepth 10000 in
theorem r_165_301 (L S : List Value) (h : icH) : icE 165 301 L S h = icE 165 303 L (.int (nI 117) :: S) h := icE_eq (i := .bipush 117) (len := 2) (x1 := 0) (x2 := 0) (x3 := 0) (x4 := 64) ((fe_165 301).trans rfl) L S h
set_option maxRecDepth 10000 in
theorem r_165_303 (L S : List Value) (h : icH) : icE 165 303 L S h = icE 165 305 L (.int (nI 114) :: S) h := icE_eq (i := .bipush 114) (len := 2) (x1 := 0) (x2 := 0) (x3 := 0) (x4 := 64) ((fe_165 303).trans rfl) L S h
set_option maxRecDepth 10000 in
theorem r_165_305 (L S : List Value) (h : icH) : icE 165 305 L S h = icE 165 307 L (.int (nI 115) :: S) h := icE_eq (i := .bipush 115) (len := 2) (x1 := 0) (x2 := 0) (x3 := 0) (x4 := 64) ((fe_165 305).trans rfl) L S h
set_option maxRecDepth 10000 in
theorem r_165_307 (L S : List Value) (h : icH) : icE 165 307 L S h = exe icE 165 (e_vcal 8 162 8 5 310 L S h) := icE_eq (i := .invokevirtual 153) (len := 3) (x1 := 162) (x2 := 3) (x3 := 8) (x4 := 1106) ((fe_165 307).trans rfl) L S h
set_option maxRecDepth 10000 in
theorem r_165_310 (L S : List Value) (h : icH) : icE 165 310 L S h = exe icE 165 (e_if .eq 331 313 L S h) := icE_eq (i := .ifCond .eq 21) (len := 3) (x1 := 331) (x2 := 0) (x3 := 0) (x4 := 64) ((fe_165 310).trans rfl) L S h
set_option maxRecDepth 10000 in
theorem r_165_313 (L S : List Value) (h : icH) : icE 165 313 L S h = exe icE 165 (e_aload 0 314 L S h) := icE_eq (i := .aload_n 0) (len := 1) (x1 := 0) (x2 := 0) (x3 := 0) (x4 := 64) ((fe_165 313).trans rfl) L S h
set_option maxRecDepth 10000 in
theorem r_165_314 (L S : List Value) (h : icH) : icE 165 314 L S h = icE 165 315 L (.int (nI 0) :: S) h := icE_eq (i := .iconst 0) (len := 1) (x1 := 0) (x2 := 0) (x3 := 0) (x4 := 64) ((fe_165 314).trans rfl) L S h
set_option maxRecDepth 10000 in
theorem r_165_315 (L S : List Value) (h : icH) : icE 165 315 L S h = icE 165 316 L (.int (nI 1) :: S) h := icE_eq (i := .iconst 1) (len := 1) (x1 := 0) (x2 := 0) (x3 := 0) (x4 := 64) ((fe_165 315).trans rfl) L S h
set_option maxRecDepth 10000 in
theorem r_165_316 (L S : List Value) (h : icH) : icE 165 316 L S h = icE 165 318 L (.int (nI 99) :: S) h := icE_eq (i := .bipush 99) (len := 2) (x1 := 0) (x2 := 0) (x3 := 0) (x4 := 64) ((fe_165 316).trans rfl) L S h
set_option maxRecDepth 10000 in
theorem r_165_318 (L S : List Value) (h : icH) : icE 165 318 L S h = exe icE 165 (e_vcal 8 163 4 3 321 L S h) := icE_eq (i := .invokevirtual 157) (len := 3) (x1 := 163) (x2 := 3) (x3 := 8) (x4 := 1110) ((fe_165 318).trans rfl) L S h
set_option maxRecDepth 10000 in
theorem r_165_321 (L S : List Value) (h : icH) : icE 165 321 L S h = exe icE 165 (e_if .eq 331 324 L S h) := icE_eq (i := .ifCond .eq 10) (len := 3) (x1 := 331) (x2 := 0) (x3 := 0) (x4 := 64) ((fe_165 321).trans rfl) L S h
set_option maxRecDepth 10000 in
theorem r_165_324 (L S : List Value) (h : icH) : icE 165 324 L S h = exe icE 165 (e_aload 0 325 L S h) := icE_eq (i := .aload_n 0) (len := 1) (x1 := 0) (x2 := 0) (x3 := 0) (x4 := 64) ((fe_165 324).trans rfl) L S h
set_option maxRecDepth 10000 in
theorem r_165_325 (L S : List Value) (h : icH) : icE 165 325 L S h = exe icE 165 (e_vcal 8 164 1 0 328 L S h) := icE_eq (i := .invokevirtual 161) (len := 3) (x1 := 164) (x2 := 3) (x3 := 8) (x4 := 1114) ((fe_165 325).trans rfl) L S h
set_option maxRecDepth 10000 in
theorem r_165_328 (L S : List Value) (h : icH) : icE 165 328 L S h = exe icE 165 (e_if .ne 333 331 L S h) := icE_eq (i := .ifCond .ne 5) (len := 3) (x1 := 333) (x2 := 0) (x3 := 0) (x4 := 64) ((fe_165 328).trans rfl) L S h
set_option maxRecDepth 10000 in
theorem r_165_331 (L S : List Value) (h : icH) : icE 165 331 L S h = icE 165 332 L (.int (nI 0) :: S) h := icE_eq (i := .iconst 0) (len := 1) (x1 := 0) (x2 := 0) (x3 := 0) (x4 := 64) ((fe_165 331).trans rfl) L S h
set_option maxRecDepth 10000 in
theorem r_165_332 (L S : List Value) (h : icH) : icE 165 332 L S h = exe icE 165 (e_iret 1 L S h) := icE_eq (i := .ireturn) (len := 1) (x1 := 1) (x2 := 0) (x3 := 0) (x4 := 64) ((fe_165 332).trans rfl) L S h
set_option maxRecDepth 10000 in
theorem r_165_333 (L S : List Value) (h : icH) : icE 165 333 L S h = exe icE 165 (e_aload 0 334 L S h) := icE_eq (i := .aload_n 0) (len := 1) (x1 := 0) (x2 := 0) (x3 := 0) (x4 := 64) ((fe_165 333).trans rfl) L S h
set_option maxRecDepth 10000 in
theorem r_165_334 (L S : List Value) (h : icH) : icE 165 334 L S h = exe icE 165 (e_aload 0 335 L S h) := icE_eq (i := .aload_n 0) (len := 1) (x1 := 0) (x2 := 0) (x3 := 0) (x4 := 64) ((fe_165 334).trans rfl) L S h
set_option maxRecDepth 10000 in
theorem r_165_335 (L S : List Value) (h : icH) : icE 165 335 L S h = exe icE 165 (e_getf 14 8 338 L S h) := icE_eq (i := .getfield 36) (len := 3) (x1 := 14) (x2 := 8) (x3 := 12) (x4 := 971) ((fe_165 335).trans rfl) L S h
set_option maxRecDepth 10000 in
theorem r_165_338 (L S : List Value) (h : icH) : icE 165 338 L S h = icE 165 339 L (.int (nI 0) :: S) h := icE_eq (i := .iconst 0) (len := 1) (x1 := 0) (x2 := 0) (x3 := 0) (x4 := 64) ((fe_165 338).trans rfl) L S h
set_option maxRecDepth 10000 in
theorem r_165_339 (L S : List Value) (h : icH) : icE 165 339 L S h = exe icE 165 (e_iald 340 L S h) := icE_eq (i := .iaload) (len := 1) (x1 := 0) (x2 := 0) (x3 := 0) (x4 := 64) ((fe_165 339).trans rfl) L S h
set_option maxRecDepth 10000 in
theorem r_165_340 (L S : List Value) (h : icH) : icE 165 340 L S h = exe icE 165 (e_vcal 8 166 3 1 343 L S h) := icE_eq (i := .invokevirtual 165) (len := 3) (x1 := 166) (x2 := 3) (x3 := 8) (x4 := 1122) ((fe_165 340).trans rfl) L S h
set_option maxRecDepth 10000 in
theorem r_165_343 (L S : List Value) (h : icH) : icE 165 343 L S h = exe icE 165 (e_pop 344 L S h) := icE_eq (i := .pop) (len := 1) (x1 := 0) (x2 := 0) (x3 := 0) (x4 := 64) ((fe_165 343).trans rfl) L S h
set_option maxRecDepth 10000 in
theorem r_165_344 (L S : List Value) (h : icH) : icE 165 344 L S h = icE 165 345 L (.int (nI 1) :: S) h := icE_eq (i := .iconst 1) (len := 1) (x1 := 0) (x2 := 0) (x3 := 0) (x4 := 64) ((fe_165 344).trans rfl) L S h
set_option maxRecDepth 10000 in
theorem r_165_345 (L S : List Value) (h : icH) : icE 165 345 L S h = exe icE 165 (e_iret 1 L S h) := icE_eq (i := .ireturn) (len := 1) (x1 := 1) (x2 := 0) (x3 := 0) (x4 := 64) ((fe_165 345).trans rfl) L S h
set_option maxRecDepth 10000 in
theorem rw_165 : (∀ (L S : List Value) (h : icH), icE 165 0 L S h = exe icE 165 (e_aload 0 1 L S h)) ∧ (∀ (L S : List Value) (h : icH), icE 165 1 L S h = icE 165 3 L (.int (nI 119) :: S) h) ∧ (∀ (L S : List Value) (h : icH), icE 165 3 L S h = icE 165 5 L (.int (nI 97) :: S) h) ∧ (∀ (L S : List Value) (h : icH), icE 165 5 L S h = icE 165 7 L (.int (nI 114) :: S) h) ∧ (∀ (L S : List Value) (h : icH), icE 165 7 L S h = icE 165 9 L (.int (nI 109) :: S) h) ∧ (∀ (L S : List Value) (h : icH), icE 165 9 L S h = icE 165 10 L (.int (nI 0) :: S) h) ∧ (∀ (L S : List Value) (h : icH), icE 165 10 L S h = exe icE 165 (e_vcal 8 162 8 5 13 L S h)) ∧ (∀ (L S : List Value) (h : icH), icE 165 13 L S h = exe icE 165 (e_if .eq 71 16 L S h)) ∧ (∀ (L S : List Value) (h : icH), icE 165 16 L S h = exe icE 165 (e_aload 0 17 L S h)) ∧ (∀ (L S : List Value) (h : icH), icE 165 17 L S h = icE 165 18 L (.int (nI 0) :: S) h) ∧ (∀ (L S : List Value) (h : icH), icE 165 18 L S h = icE 165 19 L (.int (nI 0) :: S) h) ∧ (∀ (L S : List Value) (h : icH), icE 165 19 L S h = icE 165 21 L (.int (nI 7) :: S) h) ∧ (∀ (L S : List Value) (h : icH), icE 165 21 L S h = exe icE 165 (e_vcal 8 163 4 3 24 L S h)) ∧ (∀ (L S : List Value) (h : icH), icE 165 24 L S h = exe icE 165 (e_if .eq 45 27 L S h)) ∧ (∀ (L S : List Value) (h : icH), icE 165 27 L S h = exe icE 165 (e_aload 0 28 L S h)) ∧ (∀ (L S : List Value) (h : icH), icE 165 28 L S h = icE 165 29 L (.int (nI 1) :: S) h) ∧ (∀ (L S : List Value) (h : icH), icE 165 29 L S h = icE 165 30 L (.int (nI 0) :: S) h) ∧ (∀ (L S : List Value) (h : icH), icE 165 30 L S h = icE 165 32 L (.int (nI 18) :: S) h) ∧ (∀ (L S : List Value) (h : icH), icE 165 32 L S h = exe icE 165 (e_vcal 8 163 4 3 35 L S h)) ∧ (∀ (L S : List Value) (h : icH), icE 165 35 L S h = exe icE 165 (e_if .eq 45 38 L S h)) ∧ (∀ (L S : List Value) (h : icH), icE 165 38 L S h = exe icE 165 (e_aload 0 39 L S h)) ∧ (∀ (L S : List Value) (h : icH), icE 165 39 L S h = exe icE 165 (e_vcal 8 164 1 0 42 L S h)) ∧ (∀ (L S : List Value) (h : icH), icE 165 42 L S h = exe icE 165 (e_if .ne 47 45 L S h)) ∧ (∀ (L S : List Value) (h : icH), icE 165 45 L S h = icE 165 46 L (.int (nI 0) :: S) h) ∧ (∀ (L S : List Value) (h : icH), icE 165 46 L S h = exe icE 165 (e_iret 1 L S h)) ∧ (∀ (L S : List Value) (h : icH), icE 165 47 L S h = exe icE 165 (e_aload 0 48 L S h)) ∧ (∀ (L S : List Value) (h : icH), icE 165 48 L S h = exe icE 165 (e_getf 0 8 51 L S h)) ∧ (∀ (L S : List Value) (h : icH), icE 165 51 L S h = icE 165 52 L (.int (nI 1) :: S) h) ∧ (∀ (L S : List Value) (h : icH), icE 165 52 L S h = exe icE 165 (e_aload 0 53 L S h)) ∧ (∀ (L S : List Value) (h : icH), icE 165 53 L S h = exe icE 165 (e_getf 14 8 56 L S h)) ∧ (∀ (L S : List Value) (h : icH), icE 165 56 L S h = icE 165 57 L (.int (nI 0) :: S) h) ∧ (∀ (L S : List Value) (h : icH), icE 165 57 L S h = exe icE 165 (e_iald 58 L S h)) ∧ (∀ (L S : List Value) (h : icH), icE 165 58 L S h = exe icE 165 (e_bin (fun x y => x + y) 59 L S h)) ∧ (∀ (L S : List Value) (h : icH), icE 165 59 L S h = exe icE 165 (e_aload 0 60 L S h)) ∧ (∀ (L S : List Value) (h : icH), icE 165 60 L S h = exe icE 165 (e_getf 14 8 63 L S h)) ∧ (∀ (L S : List Value) (h : icH), icE 165 63 L S h = icE 165 64 L (.int (nI 1) :: S) h) ∧ (∀ (L S : List Value) (h : icH), icE 165 64 L S h = exe icE 165 (e_iald 65 L S h)) ∧ (∀ (L S : List Value) (h : icH), icE 165 65 L S h = icE 165 67 L (.int (nI 9) :: S) h) ∧ (∀ (L S : List Value) (h : icH), icE 165 67 L S h = exe icE 165 (e_bin (fun x y => x - y) 68 L S h)) ∧ (∀ (L S : List Value) (h : icH), icE 165 68 L S h = exe icE 165 (e_iast 69 L S h)) ∧ (∀ (L S : List Value) (h : icH), icE 165 69 L S h = icE 165 70 L (.int (nI 1) :: S) h) ∧ (∀ (L S : List Value) (h : icH), icE 165 70 L S h = exe icE 165 (e_iret 1 L S h)) ∧ (∀ (L S : List Value) (h : icH), icE 165 71 L S h = exe icE 165 (e_aload 0 72 L S h)) ∧ (∀ (L S : List Value) (h : icH), icE 165 72 L S h = icE 165 74 L (.int (nI 114) :: S) h) ∧ (∀ (L S : List Value) (h : icH), icE 165 74 L S h = icE 165 76 L (.int (nI 111) :: S) h) ∧ (∀ (L S : List Value) (h : icH), icE 165 76 L S h = icE 165 78 L (.int (nI 111) :: S) h) ∧ (∀ (L S : List Value) (h : icH), icE 165 78 L S h = icE 165 80 L (.int (nI 102) :: S) h) ∧ (∀ (L S : List Value) (h : icH), icE 165 80 L S h = icE 165 81 L (.int (nI 0) :: S) h) ∧ (∀ (L S : List Value) (h : icH), icE 165 81 L S h = exe icE 165 (e_vcal 8 162 8 5 84 L S h)) ∧ (∀ (L S : List Value) (h : icH), icE 165 84 L S h = exe icE 165 (e_if .eq 163 87 L S h)) ∧ (∀ (L S : List Value) (h : icH), icE 165 87 L S h = exe icE 165 (e_aload 0 88 L S h)) ∧ (∀ (L S : List Value) (h : icH), icE 165 88 L S h = exe icE 165 (e_getf 0 8 91 L S h)) ∧ (∀ (L S : List Value) (h : icH), icE 165 91 L S h = icE 165 93 L (.int (nI 9) :: S) h) ∧ (∀ (L S : List Value) (h : icH), icE 165 93 L S h = exe icE 165 (e_iald 94 L S h)) ∧ (∀ (L S : List Value) (h : icH), icE 165 94 L S h = icE 165 95 L (.int (nI 3) :: S) h) ∧ (∀ (L S : List Value) (h : icH), icE 165 95 L S h = exe icE 165 (e_cmp .ge 163 98 L S h)) ∧ (∀ (L S : List Value) (h : icH), icE 165 98 L S h = exe icE 165 (e_aload 0 99 L S h)) ∧ (∀ (L S : List Value) (h : icH), icE 165 99 L S h = icE 165 100 L (.int (nI 0) :: S) h) ∧ (∀ (L S : List Value) (h : icH), icE 165 100 L S h = icE 165 101 L (.int (nI 0) :: S) h) ∧ (∀ (L S : List Value) (h : icH), icE 165 101 L S h = icE 165 102 L (.int (nI 5) :: S) h) ∧ (∀ (L S : List Value) (h : icH), icE 165 102 L S h = exe icE 165 (e_vcal 8 163 4 3 105 L S h)) ∧ (∀ (L S : List Value) (h : icH), icE 165 105 L S h = exe icE 165 (e_if .eq 137 108 L S h)) ∧ (∀ (L S : List Value) (h : icH), icE 165 108 L S h = exe icE 165 (e_aload 0 109 L S h)) ∧ (∀ (L S : List Value) (h : icH), icE 165 109 L S h = icE 165 110 L (.int (nI 1) :: S) h) ∧ (∀ (L S : List Value) (h : icH), icE 165 110 L S h = icE 165 111 L (.int (nI 0) :: S) h) ∧ (∀ (L S : List Value) (h : icH), icE 165 111 L S h = icE 165 113 L (.int (nI 9) :: S) h) ∧ (∀ (L S : List Value) (h : icH), icE 165 113 L S h = exe icE 165 (e_vcal 8 163 4 3 116 L S h)) ∧ (∀ (L S : List Value) (h : icH), icE 165 116 L S h = exe icE 165 (e_if .eq 137 119 L S h)) ∧ (∀ (L S : List Value) (h : icH), icE 165 119 L S h = exe icE 165 (e_aload 0 120 L S h)) ∧ (∀ (L S : List Value) (h : icH), icE 165 120 L S h = icE 165 121 L (.int (nI 2) :: S) h) ∧ (∀ (L S : List Value) (h : icH), icE 165 121 L S h = icE 165 122 L (.int (nI 0) :: S) h) ∧ (∀ (L S : List Value) (h : icH), icE 165 122 L S h = icE 165 124 L (.int (nI 60) :: S) h) ∧ (∀ (L S : List Value) (h : icH), icE 165 124 L S h = exe icE 165 (e_vcal 8 163 4 3 127 L S h)) ∧ (∀ (L S : List Value) (h : icH), icE 165 127 L S h = exe icE 165 (e_if .eq 137 130 L S h)) ∧ (∀ (L S : List Value) (h : icH), icE 165 130 L S h = exe icE 165 (e_aload 0 131 L S h)) ∧ (∀ (L S : List Value) (h : icH), icE 165 131 L S h = exe icE 165 (e_vcal 8 164 1 0 134 L S h)) ∧ (∀ (L S : List Value) (h : icH), icE 165 134 L S h = exe icE 165 (e_if .ne 139 137 L S h)) ∧ (∀ (L S : List Value) (h : icH), icE 165 137 L S h = icE 165 138 L (.int (nI 0) :: S) h) ∧ (∀ (L S : List Value) (h : icH), icE 165 138 L S h = exe icE 165 (e_iret 1 L S h)) ∧ (∀ (L S : List Value) (h : icH), icE 165 139 L S h = exe icE 165 (e_aload 0 140 L S h)) ∧ (∀ (L S : List Value) (h : icH), icE 165 140 L S h = exe icE 165 (e_aload 0 141 L S h)) ∧ (∀ (L S : List Value) (h : icH), icE 165 141 L S h = exe icE 165 (e_getf 14 8 144 L S h)) ∧ (∀ (L S : List Value) (h : icH), icE 165 144 L S h = icE 165 145 L (.int (nI 0) :: S) h) ∧ (∀ (L S : List Value) (h : icH), icE 165 145 L S h = exe icE 165 (e_iald 146 L S h)) ∧ (∀ (L S : List Value) (h : icH), icE 165 146 L S h = exe icE 165 (e_aload 0 147 L S h)) ∧ (∀ (L S : List Value) (h : icH), icE 165 147 L S h = exe icE 165 (e_getf 14 8 150 L S h)) ∧ (∀ (L S : List Value) (h : icH), icE 165 150 L S h = icE 165 151 L (.int (nI 1) :: S) h) ∧ (∀ (L S : List Value) (h : icH), icE 165 151 L S h = exe icE 165 (e_iald 152 L S h)) ∧ (∀ (L S : List Value) (h : icH), icE 165 152 L S h = exe icE 165 (e_aload 0 153 L S h)) ∧ (∀ (L S : List Value) (h : icH), icE 165 153 L S h = exe icE 165 (e_getf 14 8 156 L S h)) ∧ (∀ (L S : List Value) (h : icH), icE 165 156 L S h = icE 165 157 L (.int (nI 2) :: S) h) ∧ (∀ (L S : List Value) (h : icH), icE 165 157 L S h = exe icE 165 (e_iald 158 L S h)) ∧ (∀ (L S : List Value) (h : icH), icE 165 158 L S h = exe icE 165 (e_vcal 8 154 5 3 161 L S h)) ∧ (∀ (L S : List Value) (h : icH), icE 165 161 L S h = icE 165 162 L (.int (nI 1) :: S) h) ∧ (∀ (L S : List Value) (h : icH), icE 165 162 L S h = exe icE 165 (e_iret 1 L S h)) ∧ (∀ (L S : List Value) (h : icH), icE 165 163 L S h = exe icE 165 (e_aload 0 164 L S h)) ∧ (∀ (L S : List Value) (h : icH), icE 165 164 L S h = icE 165 166 L (.int (nI 105) :: S) h) ∧ (∀ (L S : List Value) (h : icH), icE 165 166 L S h = icE 165 168 L (.int (nI 99) :: S) h) ∧ (∀ (L S : List Value) (h : icH), icE 165 168 L S h = icE 165 170 L (.int (nI 101) :: S) h) ∧ (∀ (L S : List Value) (h : icH), icE 165 170 L S h = icE 165 171 L (.int (nI 0) :: S) h) ∧ (∀ (L S : List Value) (h : icH), icE 165 171 L S h = icE 165 172 L (.int (nI 0) :: S) h) ∧ (∀ (L S : List Value) (h : icH), icE 165 172 L S h = exe icE 165 (e_vcal 8 162 8 5 175 L S h)) ∧ (∀ (L S : List Value) (h : icH), icE 165 175 L S h = exe icE 165 (e_if .eq 296 178 L S h)) ∧ (∀ (L S : List Value) (h : icH), icE 165 178 L S h = exe icE 165 (e_aload 0 179 L S h)) ∧ (∀ (L S : List Value) (h : icH), icE 165 179 L S h = exe icE 165 (e_getf 0 8 182 L S h)) ∧ (∀ (L S : List Value) (h : icH), icE 165 182 L S h = icE 165 184 L (.int (nI 10) :: S) h) ∧ (∀ (L S : List Value) (h : icH), icE 165 184 L S h = exe icE 165 (e_iald 185 L S h)) ∧ (∀ (L S : List Value) (h : icH), icE 165 185 L S h = icE 165 187 L (.int (nI 6) :: S) h) ∧ (∀ (L S : List Value) (h : icH), icE 165 187 L S h = exe icE 165 (e_cmp .ge 296 190 L S h)) ∧ (∀ (L S : List Value) (h : icH), icE 165 190 L S h = exe icE 165 (e_aload 0 191 L S h)) ∧ (∀ (L S : List Value) (h : icH), icE 165 191 L S h = icE 165 192 L (.int (nI 0) :: S) h) ∧ (∀ (L S : List Value) (h : icH), icE 165 192 L S h = icE 165 193 L (.int (nI 0) :: S) h) ∧ (∀ (L S : List Value) (h : icH), icE 165 193 L S h = exe icE 165 (e_aload 0 194 L S h)) ∧ (∀ (L S : List Value) (h : icH), icE 165 194 L S h = exe icE 165 (e_getf 0 8 197 L S h)) ∧ (∀ (L S : List Value) (h : icH), icE 165 197 L S h = icE 165 199 L (.int (nI 9) :: S) h) ∧ (∀ (L S : List Value) (h : icH), icE 165 199 L S h = exe icE 165 (e_iald 200 L S h)) ∧ (∀ (L S : List Value) (h : icH), icE 165 200 L S h = icE 165 201 L (.int (nI 1) :: S) h) ∧ (∀ (L S : List Value) (h : icH), icE 165 201 L S h = exe icE 165 (e_bin (fun x y => x - y) 202 L S h)) ∧ (∀ (L S : List Value) (h : icH), icE 165 202 L S h = exe icE 165 (e_vcal 8 163 4 3 205 L S h)) ∧ (∀ (L S : List Value) (h : icH), icE 165 205 L S h = exe icE 165 (e_if .eq 258 208 L S h)) ∧ (∀ (L S : List Value) (h : icH), icE 165 208 L S h = exe icE 165 (e_aload 0 209 L S h)) ∧ (∀ (L S : List Value) (h : icH), icE 165 209 L S h = icE 165 210 L (.int (nI 1) :: S) h) ∧ (∀ (L S : List Value) (h : icH), icE 165 210 L S h = icE 165 211 L (.int (nI 0) :: S) h) ∧ (∀ (L S : List Value) (h : icH), icE 165 211 L S h = icE 165 212 L (.int (nI 5) :: S) h) ∧ (∀ (L S : List Value) (h : icH), icE 165 212 L S h = exe icE 165 (e_vcal 8 163 4 3 215 L S h)) ∧ (∀ (L S : List Value) (h : icH), icE 165 215 L S h = exe icE 165 (e_if .eq 258 218 L S h)) ∧ (∀ (L S : List Value) (h : icH), icE 165 218 L S h = exe icE 165 (e_aload 0 219 L S h)) ∧ (∀ (L S : List Value) (h : icH), icE 165 219 L S h = icE 165 220 L (.int (nI 2) :: S) h) ∧ (∀ (L S : List Value) (h : icH), icE 165 220 L S h = icE 165 221 L (.int (nI 0) :: S) h) ∧ (∀ (L S : List Value) (h : icH), icE 165 221 L S h = icE 165 223 L (.int (nI 7) :: S) h) ∧ (∀ (L S : List Value) (h : icH), icE 165 223 L S h = exe icE 165 (e_vcal 8 163 4 3 226 L S h)) ∧ (∀ (L S : List Value) (h : icH), icE 165 226 L S h = exe icE 165 (e_if .eq 258 229 L S h)) ∧ (∀ (L S : List Value) (h : icH), icE 165 229 L S h = exe icE 165 (e_aload 0 230 L S h)) ∧ (∀ (L S : List Value) (h : icH), icE 165 230 L S h = icE 165 231 L (.int (nI 3) :: S) h) ∧ (∀ (L S : List Value) (h : icH), icE 165 231 L S h = icE 165 232 L (.int (nI 1) :: S) h) ∧ (∀ (L S : List Value) (h : icH), icE 165 232 L S h = icE 165 234 L (.int (nI 30) :: S) h) ∧ (∀ (L S : List Value) (h : icH), icE 165 234 L S h = exe icE 165 (e_vcal 8 163 4 3 237 L S h)) ∧ (∀ (L S : List Value) (h : icH), icE 165 237 L S h = exe icE 165 (e_if .eq 258 240 L S h)) ∧ (∀ (L S : List Value) (h : icH), icE 165 240 L S h = exe icE 165 (e_aload 0 241 L S h)) ∧ (∀ (L S : List Value) (h : icH), icE 165 241 L S h = icE 165 242 L (.int (nI 4) :: S) h) ∧ (∀ (L S : List Value) (h : icH), icE 165 242 L S h = icE 165 243 L (.int (nI 1) :: S) h) ∧ (∀ (L S : List Value) (h : icH), icE 165 243 L S h = icE 165 245 L (.int (nI 40) :: S) h) ∧ (∀ (L S : List Value) (h : icH), icE 165 245 L S h = exe icE 165 (e_vcal 8 163 4 3 248 L S h)) ∧ (∀ (L S : List Value) (h : icH), icE 165 248 L S h = exe icE 165 (e_if .eq 258 251 L S h)) ∧ (∀ (L S : List Value) (h : icH), icE 165 251 L S h = exe icE 165 (e_aload 0 252 L S h)) ∧ (∀ (L S : List Value) (h : icH), icE 165 252 L S h = exe icE 165 (e_vcal 8 164 1 0 255 L S h)) ∧ (∀ (L S : List Value) (h : icH), icE 165 255 L S h = exe icE 165 (e_if .ne 260 258 L S h)) ∧ (∀ (L S : List Value) (h : icH), icE 165 258 L S h = icE 165 259 L (.int (nI 0) :: S) h) ∧ (∀ (L S : List Value) (h : icH), icE 165 259 L S h = exe icE 165 (e_iret 1 L S h)) ∧ (∀ (L S : List Value) (h : icH), icE 165 260 L S h = exe icE 165 (e_aload 0 261 L S h)) ∧ (∀ (L S : List Value) (h : icH), icE 165 261 L S h = exe icE 165 (e_aload 0 262 L S h)) ∧ (∀ (L S : List Value) (h : icH), icE 165 262 L S h = exe icE 165 (e_getf 14 8 265 L S h)) ∧ (∀ (L S : List Value) (h : icH), icE 165 265 L S h = icE 165 266 L (.int (nI 0) :: S) h) ∧ (∀ (L S : List Value) (h : icH), icE 165 266 L S h = exe icE 165 (e_iald 267 L S h)) ∧ (∀ (L S : List Value) (h : icH), icE 165 267 L S h = exe icE 165 (e_aload 0 268 L S h)) ∧ (∀ (L S : List Value) (h : icH), icE 165 268 L S h = exe icE 165 (e_getf 14 8 271 L S h)) ∧ (∀ (L S : List Value) (h : icH), icE 165 271 L S h = icE 165 272 L (.int (nI 1) :: S) h) ∧ (∀ (L S : List Value) (h : icH), icE 165 272 L S h = exe icE 165 (e_iald 273 L S h)) ∧ (∀ (L S : List Value) (h : icH), icE 165 273 L S h = exe icE 165 (e_aload 0 274 L S h)) ∧ (∀ (L S : List Value) (h : icH), icE 165 274 L S h = exe icE 165 (e_getf 14 8 277 L S h)) ∧ (∀ (L S : List Value) (h : icH), icE 165 277 L S h = icE 165 278 L (.int (nI 2) :: S) h) ∧ (∀ (L S : List Value) (h : icH), icE 165 278 L S h = exe icE 165 (e_iald 279 L S h)) ∧ (∀ (L S : List Value) (h : icH), icE 165 279 L S h = exe icE 165 (e_aload 0 280 L S h)) ∧ (∀ (L S : List Value) (h : icH), icE 165 280 L S h = exe icE 165 (e_getf 14 8 283 L S h)) ∧ (∀ (L S : List Value) (h : icH), icE 165 283 L S h = icE 165 284 L (.int (nI 3) :: S) h) ∧ (∀ (L S : List Value) (h : icH), icE 165 284 L S h = exe icE 165 (e_iald 285 L S h)) ∧ (∀ (L S : List Value) (h : icH), icE 165 285 L S h = exe icE 165 (e_aload 0 286 L S h)) ∧ (∀ (L S : List Value) (h : icH), icE 165 286 L S h = exe icE 165 (e_getf 14 8 289 L S h)) ∧ (∀ (L S : List Value) (h : icH), icE 165 289 L S h = icE 165 290 L (.int (nI 4) :: S) h) ∧ (∀ (L S : List Value) (h : icH), icE 165 290 L S h = exe icE 165 (e_iald 291 L S h)) ∧ (∀ (L S : List Value) (h : icH), icE 165 291 L S h = exe icE 165 (e_vcal 8 156 7 5 294 L S h)) ∧ (∀ (L S : List Value) (h : icH), icE 165 294 L S h = icE 165 295 L (.int (nI 1) :: S) h) ∧ (∀ (L S : List Value) (h : icH), icE 165 295 L S h = exe icE 165 (e_iret 1 L S h)) ∧ (∀ (L S : List Value) (h : icH), icE 165 296 L S h = exe icE 165 (e_aload 0 297 L S h)) ∧ (∀ (L S : List Value) (h : icH), icE 165 297 L S h = icE 165 299 L (.int (nI 104) :: S) h) ∧ (∀ (L S : List Value) (h : icH), icE 165 299 L S h = icE 165 301 L (.int (nI 111) :: S) h) ∧ (∀ (L S : List Value) (h : icH), icE 165 301 L S h = icE 165 303 L (.int (nI 117) :: S) h) ∧ (∀ (L S : List Value) (h : icH), icE 165 303 L S h = icE 165 305 L (.int (nI 114) :: S) h) ∧ (∀ (L S : List Value) (h : icH), icE 165 305 L S h = icE 165 307 L (.int (nI 115) :: S) h) ∧ (∀ (L S : List Value) (h : icH), icE 165 307 L S h = exe icE 165 (e_vcal 8 162 8 5 310 L S h)) ∧ (∀ (L S : List Value) (h : icH), icE 165 310 L S h = exe icE 165 (e_if .eq 331 313 L S h)) ∧ (∀ (L S : List Value) (h : icH), icE 165 313 L S h = exe icE 165 (e_aload 0 314 L S h)) ∧ (∀ (L S : List Value) (h : icH), icE 165 314 L S h = icE 165 315 L (.int (nI 0) :: S) h) ∧ (∀ (L S : List Value) (h : icH), icE 165 315 L S h = icE 165 316 L (.int (nI 1) :: S) h) ∧ (∀ (L S : List Value) (h : icH), icE 165 316 L S h = icE 165 318 L (.int (nI 99) :: S) h) ∧ (∀ (L S : List Value) (h : icH), icE 165 318 L S h = exe icE 165 (e_vcal 8 163 4 3 321 L S h)) ∧ (∀ (L S : List Value) (h : icH), icE 165 321 L S h = exe icE 165 (e_if .eq 331 324 L S h)) ∧ (∀ (L S : List Value) (h : icH), icE 165 324 L S h = exe icE 165 (e_aload 0 325 L S h)) ∧ (∀ (L S : List Value) (h : icH), icE 165 325 L S h = exe icE 165 (e_vcal 8 164 1 0 328 L S h)) ∧ (∀ (L S : List Value) (h : icH), icE 165 328 L S h = exe icE 165 (e_if .ne 333 331 L S h)) ∧ (∀ (L S : List Value) (h : icH), icE 165 331 L S h = icE 165 332 L (.int (nI 0) :: S) h) ∧ (∀ (L S : List Value) (h : icH), icE 165 332 L S h = exe icE 165 (e_iret 1 L S h)) ∧ (∀ (L S : List Value) (h : icH), icE 165 333 L S h = exe icE 165 (e_aload 0 334 L S h)) ∧ (∀ (L S : List Value) (h : icH), icE 165 334 L S h = exe icE 165 (e_aload 0 335 L S h)) ∧ (∀ (L S : List Value) (h : icH), icE 165 335 L S h = exe icE 165 (e_getf 14 8 338 L S h)) ∧ (∀ (L S : List Value) (h : icH), icE 165 338 L S h = icE 165 339 L (.int (nI 0) :: S) h) ∧ (∀ (L S : List Value) (h : icH), icE 165 339 L S h = exe icE 165 (e_iald 340 L S h)) ∧ (∀ (L S : List Value) (h : icH), icE 165 340 L S h = exe icE 165 (e_vcal 8 166 3 1 343 L S h)) ∧ (∀ (L S : List Value) (h : icH), icE 165 343 L S h = exe icE 165 (e_pop 344 L S h)) ∧ (∀ (L S : List Value) (h : icH), icE 165 344 L S h = icE 165 345 L (.int (nI 1) :: S) h) ∧ (∀ (L S : List Value) (h : icH), icE 165 345 L S h = exe icE 165 (e_iret 1 L S h)) := ⟨r_165_0, r_165_1, r_165_3, r_165_5, r_165_7, r_165_9, r_165_10, r_165_13, r_165_16, r_165_17, r_165_18, r_165_19, r_165_21, r_165_24, r_165_27, r_165_28, r_165_29, r_165_30, r_165_32, r_165_35, r_165_38, r_165_39, r_165_42, r_165_45, r_165_46, r_165_47, r_165_48, r_165_51, r_165_52, r_165_53, r_165_56, r_165_57, r_165_58, r_165_59, r_165_60, r_165_63, r_165_64, r_165_65, r_165_67, r_165_68, r_165_69, r_165_70, r_165_71, r_165_72, r_165_74, r_165_76, r_165_78, r_165_80, r_165_81, r_165_84, r_165_87, r_165_88, r_165_91, r_165_93, r_165_94, r_165_95, r_165_98, r_165_99, r_165_100, r_165_101, r_165_102, r_165_105, r_165_108, r_165_109, r_165_110, r_165_111, r_165_113, r_165_116, r_165_119, r_165_120, r_165_121, r_165_122, r_165_124, r_165_127, r_165_130, r_165_131, r_165_134, r_165_137, r_165_138, r_165_139, r_165_140, r_165_141, r_165_144, r_165_145, r_165_146, r_165_147, r_165_150, r_165_151, r_165_152, r_165_153, r_165_156, r_165_157, r_165_158, r_165_161, r_165_162, r_165_163, r_165_164, r_165_166, r_165_168, r_165_170, r_165_171, r_165_172, r_165_175, r_165_178, r_165_179, r_165_182, r_165_184, r_165_185, r_165_187, r_165_190, r_165_191, r_165_192, r_165_193, r_165_194, r_165_197, r_165_199, r_165_200, r_165_201, r_165_202, r_165_205, r_165_208, r_165_209, r_165_210, r_165_211, r_165_212, r_165_215, r_165_218, r_165_219, r_165_220, r_165_221, r_165_223, r_165_226, r_165_229, r_165_230, r_165_231, r_165_232, r_165_234, r_165_237, r_165_240, r_165_241, r_165_242, r_165_243, r_165_245, r_165_248, r_165_251, r_165_252, r_165_255, r_165_258, r_165_259, r_165_260, r_165_261, r_165_262, r_165_265, r_165_266, r_165_267, r_165_268, r_165_271, r_165_272, r_165_273, r_165_274, r_165_277, r_165_278, r_165_279, r_165_280, r_165_283, r_165_284, r_165_285, r_165_286, r_165_289, r_165_290, r_165_291, r_165_294, r_165_295, r_165_296, r_165_297, r_165_299, r_165_301, r_165_303, r_165_305, r_165_307, r_165_310, r_165_313, r_165_314, r_165_315, r_165_316, r_165_318, r_165_321, r_165_324, r_165_325, r_165_328, r_165_331, r_165_332, r_165_333, r_165_334, r_165_335, r_165_338, r_165_339, r_165_340, r_165_343, r_165_344, r_165_345⟩
-- cX9_reads: heads [78]
theorem fe_167 (pc : Nat) : fet 167 pc = look k_167 pc := rfl
theorem r_167_0 (L S : List Value) (h : icH) : icE 167 0 L S h = exe icE 167 (e_aload 0 1 L S h) := icE_eq (i := .aload_n 0) (len := 1) (x1 := 0) (x2 := 0) (x3 := 0) (x4 := 64) ((fe_167 0).trans rfl) L S h
theorem r_167_1 (L S : List Value) (h : icH) : icE 167 1 L S h = icE 167 2 L (.int (nI 0) :: S) h := icE_eq (i := .iconst 0) (len := 1) (x1 := 0) (x2 := 0) (x3 := 0) (x4 := 64) ((fe_167 1).trans rfl) L S h
theorem r_167_2 (L S : List Value) (h : icH) : icE 167 2 L S h = exe icE 167 (e_putf 10 8 0 5 L S h) := icE_eq (i := .putfield 127) (len := 3) (x1 := 10) (x2 := 8) (x3 := 0) (x4 := 967) ((fe_167 2).trans rfl) L S h
theorem r_167_5 (L S : List Value) (h : icH) : icE 167 5 L S h = exe icE 167 (e_aload 0 6 L S h) := icE_eq (i := .aload_n 0) (len := 1) (x1 := 0) (x2 := 0) (x3 := 0) (x4 := 64) ((fe_167 5).trans rfl) L S h
theorem r_167_6 (L S : List Value) (h : icH) : icE 167 6 L S h = icE 167 7 L (.int (nI 0) :: S) h := icE_eq (i := .iconst 0) (len := 1) (x1 := 0) (x2 := 0) (x3 := 0) (x4 := 64) ((fe_167 6).trans rfl) L S h
theorem r_167_7 (L S : List Value) (h : icH) : icE 167 7 L S h = exe icE 167 (e_putf 16 8 0 10 L S h) := icE_eq (i := .putfield 172) (len := 3) (x1 := 16) (x2 := 8) (x3 := 0) (x4 := 973) ((fe_167 7).trans rfl) L S h
theorem r_167_10 (L S : List Value) (h : icH) : icE 167 10 L S h = exe icE 167 (e_aload 0 11 L S h) := icE_eq (i := .aload_n 0) (len := 1) (x1 := 0) (x2 := 0) (x3 := 0) (x4 := 64) ((fe_167 10).trans rfl) L S h
theorem r_167_11 (L S : List Value) (h : icH) : icE 167 11 L S h = exe icE 167 (e_vcal 8 161 2 0 14 L S h) := icE_eq (i := .invokevirtual 150) (len := 3) (x1 := 161) (x2 := 3) (x3 := 8) (x4 := 1094) ((fe_167 11).trans rfl) L S h
theorem r_167_14 (L S : List Value) (h : icH) : icE 167 14 L S h = exe icE 167 (e_aload 0 15 L S h) := icE_eq (i := .aload_n 0) (len := 1) (x1 := 0) (x2 := 0) (x3 := 0) (x4 := 64) ((fe_167 14).trans rfl) L S h
theorem r_167_15 (L S : List Value) (h : icH) : icE 167 15 L S h = icE 167 17 L (.int (nI 104) :: S) h := icE_eq (i := .bipush 104) (len := 2) (x1 := 0) (x2 := 0) (x3 := 0) (x4 := 64) ((fe_167 15).trans rfl) L S h
theorem r_167_17 (L S : List Value) (h : icH) : icE 167 17 L S h = icE 167 19 L (.int (nI 111) :: S) h := icE_eq (i := .bipush 111) (len := 2) (x1 := 0) (x2 := 0) (x3 := 0) (x4 := 64) ((fe_167 17).trans rfl) L S h
theorem r_167_19 (L S : List Value) (h : icH) : icE 167 19 L S h = icE 167 21 L (.int (nI 117) :: S) h := icE_eq (i := .bipush 117) (len := 2) (x1 := 0) (x2 := 0) (x3 := 0) (x4 := 64) ((fe_167 19).trans rfl) L S h
theorem r_167_21 (L S : List Value) (h : icH) : icE 167 21 L S h = icE 167 23 L (.int (nI 115) :: S) h := icE_eq (i := .bipush 115) (len := 2) (x1 := 0) (x2 := 0) (x3 := 0) (x4 := 64) ((fe_167 21).trans rfl) L S h
theorem r_167_23 (L S : List Value) (h : icH) : icE 167 23 L S h = icE 167 25 L (.int (nI 101) :: S) h := icE_eq (i := .bipush 101) (len := 2) (x1 := 0) (x2 := 0) (x3 := 0) (x4 := 64) ((fe_167 23).trans rfl) L S h
theorem r_167_25 (L S : List Value) (h : icH) : icE 167 25 L S h = exe icE 167 (e_vcal 8 162 8 5 28 L S h) := icE_eq (i := .invokevirtual 153) (len := 3) (x1 := 162) (x2 := 3) (x3 := 8) (x4 := 1106) ((fe_167 25).trans rfl) L S h
theorem r_167_28 (L S : List Value) (h : icH) : icE 167 28 L S h = exe icE 167 (e_if .eq 49 31 L S h) := icE_eq (i := .ifCond .eq 21) (len := 3) (x1 := 49) (x2 := 0) (x3 := 0) (x4 := 64) ((fe_167 28).trans rfl) L S h
theorem r_167_31 (L S : List Value) (h : icH) : icE 167 31 L S h = exe icE 167 (e_aload 0 32 L S h) := icE_eq (i := .aload_n 0) (len := 1) (x1 := 0) (x2 := 0) (x3 := 0) (x4 := 64) ((fe_167 31).trans rfl) L S h
theorem r_167_32 (L S : List Value) (h : icH) : icE 167 32 L S h = icE 167 33 L (.int (nI 0) :: S) h := icE_eq (i := .iconst 0) (len := 1) (x1 := 0) (x2 := 0) (x3 := 0) (x4 := 64) ((fe_167 32).trans rfl) L S h
theorem r_167_33 (L S : List Value) (h : icH) : icE 167 33 L S h = icE 167 34 L (.int (nI 0) :: S) h := icE_eq (i := .iconst 0) (len := 1) (x1 := 0) (x2 := 0) (x3 := 0) (x4 := 64) ((fe_167 33).trans rfl) L S h
theorem r_167_34 (L S : List Value) (h : icH) : icE 167 34 L S h = icE 167 36 L (.int (nI 18) :: S) h := icE_eq (i := .bipush 18) (len := 2) (x1 := 0) (x2 := 0) (x3 := 0) (x4 := 64) ((fe_167 34).trans rfl) L S h
theorem r_167_36 (L S : List Value) (h : icH) : icE 167 36 L S h = exe icE 167 (e_vcal 8 163 4 3 39 L S h) := icE_eq (i := .invokevirtual 157) (len := 3) (x1 := 163) (x2 := 3) (x3 := 8) (x4 := 1110) ((fe_167 36).trans rfl) L S h
theorem r_167_39 (L S : List Value) (h : icH) : icE 167 39 L S h = exe icE 167 (e_if .eq 49 42 L S h) := icE_eq (i := .ifCond .eq 10) (len := 3) (x1 := 49) (x2 := 0) (x3 := 0) (x4 := 64) ((fe_167 39).trans rfl) L S h
theorem r_167_42 (L S : List Value) (h : icH) : icE 167 42 L S h = exe icE 167 (e_aload 0 43 L S h) := icE_eq (i := .aload_n 0) (len := 1) (x1 := 0) (x2 := 0) (x3 := 0) (x4 := 64) ((fe_167 42).trans rfl) L S h
theorem r_167_43 (L S : List Value) (h : icH) : icE 167 43 L S h = exe icE 167 (e_vcal 8 164 1 0 46 L S h) := icE_eq (i := .invokevirtual 161) (len := 3) (x1 := 164) (x2 := 3) (x3 := 8) (x4 := 1114) ((fe_167 43).trans rfl) L S h
theorem r_167_46 (L S : List Value) (h : icH) : icE 167 46 L S h = exe icE 167 (e_if .ne 51 49 L S h) := icE_eq (i := .ifCond .ne 5) (len := 3) (x1 := 51) (x2 := 0) (x3 := 0) (x4 := 64) ((fe_167 46).trans rfl) L S h
theorem r_167_49 (L S : List Value) (h : icH) : icE 167 49 L S h = icE 167 50 L (.int (nI 0) :: S) h := icE_eq (i := .iconst 0) (len := 1) (x1 := 0) (x2 := 0) (x3 := 0) (x4 := 64) ((fe_167 49).trans rfl) L S h
theorem r_167_50 (L S : List Value) (h : icH) : icE 167 50 L S h = exe icE 167 (e_iret 1 L S h) := icE_eq (i := .ireturn) (len := 1) (x1 := 1) (x2 := 0) (x3 := 0) (x4 := 64) ((fe_167 50).trans rfl) L S h
theorem r_167_51 (L S : List Value) (h : icH) : icE 167 51 L S h = exe icE 167 (e_aload 0 52 L S h) := icE_eq (i := .aload_n 0) (len := 1) (x1 := 0) (x2 := 0) (x3 := 0) (x4 := 64) ((fe_167 51).trans rfl) L S h
theorem r_167_52 (L S : List Value) (h : icH) : icE 167 52 L S h = exe icE 167 (e_aload 0 53 L S h) := icE_eq (i := .aload_n 0) (len := 1) (x1 := 0) (x2 := 0) (x3 := 0) (x4 := 64) ((fe_167 52).trans rfl) L S h
theorem r_167_53 (L S : List Value) (h : icH) : icE 167 53 L S h = exe icE 167 (e_getf 14 8 56 L S h) := icE_eq (i := .getfield 36) (len := 3) (x1 := 14) (x2 := 8) (x3 := 12) (x4 := 971) ((fe_167 53).trans rfl) L S h
theorem r_167_56 (L S : List Value) (h : icH) : icE 167 56 L S h = icE 167 57 L (.int (nI 0) :: S) h := icE_eq (i := .iconst 0) (len := 1) (x1 := 0) (x2 := 0) (x3 := 0) (x4 := 64) ((fe_167 56).trans rfl) L S h
theorem r_167_57 (L S : List Value) (h : icH) : icE 167 57 L S h = exe icE 167 (e_iald 58 L S h) := icE_eq (i := .iaload) (len := 1) (x1 := 0) (x2 := 0) (x3 := 0) (x4 := 64) ((fe_167 57).trans rfl) L S h
theorem r_167_58 (L S : List Value) (h : icH) : icE 167 58 L S h = icE 167 60 L (.int (nI 9) :: S) h := icE_eq (i := .bipush 9) (len := 2) (x1 := 0) (x2 := 0) (x3 := 0) (x4 := 64) ((fe_167 58).trans rfl) L S h
theorem r_167_60 (L S : List Value) (h : icH) : icE 167 60 L S h = exe icE 167 (e_bin (fun x y => x - y) 61 L S h) := icE_eq (i := .isub) (len := 1) (x1 := 0) (x2 := 0) (x3 := 0) (x4 := 64) ((fe_167 60).trans rfl) L S h
theorem r_167_61 (L S : List Value) (h : icH) : icE 167 61 L S h = exe icE 167 (e_vcal 8 151 3 1 64 L S h) := icE_eq (i := .invokevirtual 92) (len := 3) (x1 := 151) (x2 := 3) (x3 := 8) (x4 := 1037) ((fe_167 61).trans rfl) L S h
theorem r_167_64 (L S : List Value) (h : icH) : icE 167 64 L S h = exe icE 167 (e_aload 0 65 L S h) := icE_eq (i := .aload_n 0) (len := 1) (x1 := 0) (x2 := 0) (x3 := 0) (x4 := 64) ((fe_167 64).trans rfl) L S h
theorem r_167_65 (L S : List Value) (h : icH) : icE 167 65 L S h = exe icE 167 (e_dup 66 L S h) := icE_eq (i := .dup) (len := 1) (x1 := 0) (x2 := 0) (x3 := 0) (x4 := 64) ((fe_167 65).trans rfl) L S h
theorem r_167_66 (L S : List Value) (h : icH) : icE 167 66 L S h = exe icE 167 (e_getf 16 8 69 L S h) := icE_eq (i := .getfield 172) (len := 3) (x1 := 16) (x2 := 8) (x3 := 0) (x4 := 973) ((fe_167 66).trans rfl) L S h
theorem r_167_69 (L S : List Value) (h : icH) : icE 167 69 L S h = icE 167 70 L (.int (nI 1) :: S) h := icE_eq (i := .iconst 1) (len := 1) (x1 := 0) (x2 := 0) (x3 := 0) (x4 := 64) ((fe_167 69).trans rfl) L S h
theorem r_167_70 (L S : List Value) (h : icH) : icE 167 70 L S h = exe icE 167 (e_bin (fun x y => x + y) 71 L S h) := icE_eq (i := .iadd) (len := 1) (x1 := 0) (x2 := 0) (x3 := 0) (x4 := 64) ((fe_167 70).trans rfl) L S h
theorem r_167_71 (L S : List Value) (h : icH) : icE 167 71 L S h = exe icE 167 (e_putf 16 8 0 74 L S h) := icE_eq (i := .putfield 172) (len := 3) (x1 := 16) (x2 := 8) (x3 := 0) (x4 := 973) ((fe_167 71).trans rfl) L S h
theorem r_167_74 (L S : List Value) (h : icH) : icE 167 74 L S h = exe icE 167 (e_aload 0 75 L S h) := icE_eq (i := .aload_n 0) (len := 1) (x1 := 0) (x2 := 0) (x3 := 0) (x4 := 64) ((fe_167 74).trans rfl) L S h
theorem r_167_75 (L S : List Value) (h : icH) : icE 167 75 L S h = exe icE 167 (e_vcal 8 161 2 0 78 L S h) := icE_eq (i := .invokevirtual 150) (len := 3) (x1 := 161) (x2 := 3) (x3 := 8) (x4 := 1094) ((fe_167 75).trans rfl) L S h
theorem rh_167_78 (L S : List Value) (h : icH) : icE 167 78 L S h = exe icE 167 (e_aload 0 79 L S h) := icE_eq (i := .aload_n 0) (len := 1) (x1 := 0) (x2 := 0) (x3 := 0) (x4 := 64) ((fe_167 78).trans rfl) L S h
theorem r_167_79 (L S : List Value) (h : icH) : icE 167 79 L S h = exe icE 167 (e_getf 12 8 82 L S h) := icE_eq (i := .getfield 147) (len := 3) (x1 := 12) (x2 := 8) (x3 := 0) (x4 := 969) ((fe_167 79).trans rfl) L S h
theorem r_167_82 (L S : List Value) (h : icH) : icE 167 82 L S h = exe icE 167 (e_if .eq 111 85 L S h) := icE_eq (i := .ifCond .eq 29) (len := 3) (x1 := 111) (x2 := 0) (x3 := 0) (x4 := 64) ((fe_167 82).trans rfl) L S h
theorem r_167_85 (L S : List Value) (h : icH) : icE 167 85 L S h = exe icE 167 (e_aload 0 86 L S h) := icE_eq (i := .aload_n 0) (len := 1) (x1 := 0) (x2 := 0) (x3 := 0) (x4 := 64) ((fe_167 85).trans rfl) L S h
theorem r_167_86 (L S : List Value) (h : icH) : icE 167 86 L S h = exe icE 167 (e_vcal 8 165 1 0 89 L S h) := icE_eq (i := .invokevirtual 175) (len := 3) (x1 := 165) (x2 := 3) (x3 := 8) (x4 := 1118) ((fe_167 86).trans rfl) L S h
theorem r_167_89 (L S : List Value) (h : icH) : icE 167 89 L S h = exe icE 167 (e_if .ne 94 92 L S h) := icE_eq (i := .ifCond .ne 5) (len := 3) (x1 := 94) (x2 := 0) (x3 := 0) (x4 := 64) ((fe_167 89).trans rfl) L S h
theorem r_167_92 (L S : List Value) (h : icH) : icE 167 92 L S h = icE 167 93 L (.int (nI 0) :: S) h := icE_eq (i := .iconst 0) (len := 1) (x1 := 0) (x2 := 0) (x3 := 0) (x4 := 64) ((fe_167 92).trans rfl) L S h
theorem r_167_93 (L S : List Value) (h : icH) : icE 167 93 L S h = exe icE 167 (e_iret 1 L S h) := icE_eq (i := .ireturn) (len := 1) (x1 := 1) (x2 := 0) (x3 := 0) (x4 := 64) ((fe_167 93).trans rfl) L S h
theorem r_167_94 (L S : List Value) (h : icH) : icE 167 94 L S h = exe icE 167 (e_aload 0 95 L S h) := icE_eq (i := .aload_n 0) (len := 1) (x1 := 0) (x2 := 0) (x3 := 0) (x4 := 64) ((fe_167 94).trans rfl) L S h
theorem r_167_95 (L S : List Value) (h : icH) : icE 167 95 L S h = exe icE 167 (e_dup 96 L S h) := icE_eq (i := .dup) (len := 1) (x1 := 0) (x2 := 0) (x3 := 0) (x4 := 64) ((fe_167 95).trans rfl) L S h
theorem r_167_96 (L S : List Value) (h : icH) : icE 167 96 L S h = exe icE 167 (e_getf 16 8 99 L S h) := icE_eq (i := .getfield 172) (len := 3) (x1 := 16) (x2 := 8) (x3 := 0) (x4 := 973) ((fe_167 96).trans rfl) L S h
theorem r_167_99 (L S : List Value) (h : icH) : icE 167 99 L S h = icE 167 100 L (.int (nI 1) :: S) h := icE_eq (i := .iconst 1) (len := 1) (x1 := 0) (x2 := 0) (x3 := 0) (x4 := 64) ((fe_167 99).trans rfl) L S h
theorem r_167_100 (L S : List Value) (h : icH) : icE 167 100 L S h = exe icE 167 (e_bin (fun x y => x + y) 101 L S h) := icE_eq (i := .iadd) (len := 1) (x1 := 0) (x2 := 0) (x3 := 0) (x4 := 64) ((fe_167 100).trans rfl) L S h
theorem r_167_101 (L S : List Value) (h : icH) : icE 167 101 L S h = exe icE 167 (e_putf 16 8 0 104 L S h) := icE_eq (i := .putfield 172) (len := 3) (x1 := 16) (x2 := 8) (x3 := 0) (x4 := 973) ((fe_167 101).trans rfl) L S h
theorem r_167_104 (L S : List Value) (h : icH) : icE 167 104 L S h = exe icE 167 (e_aload 0 105 L S h) := icE_eq (i := .aload_n 0) (len := 1) (x1 := 0) (x2 := 0) (x3 := 0) (x4 := 64) ((fe_167 104).trans rfl) L S h
theorem r_167_105 (L S : List Value) (h : icH) : icE 167 105 L S h = exe icE 167 (e_vcal 8 161 2 0 108 L S h) := icE_eq (i := .invokevirtual 150) (len := 3) (x1 := 161) (x2 := 3) (x3 := 8) (x4 := 1094) ((fe_167 105).trans rfl) L S h
theorem r_167_108 (L S : List Value) (h : icH) : icE 167 108 L S h = icE 167 78 L S h := icE_eq (i := .goto (-30)) (len := 3) (x1 := 78) (x2 := 0) (x3 := 0) (x4 := 64) ((fe_167 108).trans rfl) L S h
theorem r_167_111 (L S : List Value) (h : icH) : icE 167 111 L S h = exe icE 167 (e_aload 0 112 L S h) := icE_eq (i := .aload_n 0) (len := 1) (x1 := 0) (x2 := 0) (x3 := 0) (x4 := 64) ((fe_167 111).trans rfl) L S h
theorem r_167_112 (L S : List Value) (h : icH) : icE 167 112 L S h = exe icE 167 (e_getf 0 8 115 L S h) := icE_eq (i := .getfield 7) (len := 3) (x1 := 0) (x2 := 8) (x3 := 12) (x4 := 957) ((fe_167 112).trans rfl) L S h
theorem r_167_115 (L S : List Value) (h : icH) : icE 167 115 L S h = icE 167 118 L (.int (nI 139) :: S) h := icE_eq (i := .sipush 139) (len := 3) (x1 := 0) (x2 := 0) (x3 := 0) (x4 := 64) ((fe_167 115).trans rfl) L S h
theorem r_167_118 (L S : List Value) (h : icH) : icE 167 118 L S h = icE 167 119 L (.int (nI 0) :: S) h := icE_eq (i := .iconst 0) (len := 1) (x1 := 0) (x2 := 0) (x3 := 0) (x4 := 64) ((fe_167 118).trans rfl) L S h
theorem r_167_119 (L S : List Value) (h : icH) : icE 167 119 L S h = exe icE 167 (e_iast 120 L S h) := icE_eq (i := .iastore) (len := 1) (x1 := 0) (x2 := 0) (x3 := 0) (x4 := 64) ((fe_167 119).trans rfl) L S h
theorem r_167_120 (L S : List Value) (h : icH) : icE 167 120 L S h = icE 167 121 L (.int (nI 1) :: S) h := icE_eq (i := .iconst 1) (len := 1) (x1 := 0) (x2 := 0) (x3 := 0) (x4 := 64) ((fe_167 120).trans rfl) L S h
theorem r_167_121 (L S : List Value) (h : icH) : icE 167 121 L S h = exe icE 167 (e_iret 1 L S h) := icE_eq (i := .ireturn) (len := 1) (x1 := 1) (x2 := 0) (x3 := 0) (x4 := 64) ((fe_167 121).trans rfl) L S h
theorem rw_167 : (∀ (L S : List Value) (h : icH), icE 167 0 L S h = exe icE 167 (e_aload 0 1 L S h)) ∧ (∀ (L S : List Value) (h : icH), icE 167 1 L S h = icE 167 2 L (.int (nI 0) :: S) h) ∧ (∀ (L S : List Value) (h : icH), icE 167 2 L S h = exe icE 167 (e_putf 10 8 0 5 L S h)) ∧ (∀ (L S : List Value) (h : icH), icE 167 5 L S h = exe icE 167 (e_aload 0 6 L S h)) ∧ (∀ (L S : List Value) (h : icH), icE 167 6 L S h = icE 167 7 L (.int (nI 0) :: S) h) ∧ (∀ (L S : List Value) (h : icH), icE 167 7 L S h = exe icE 167 (e_putf 16 8 0 10 L S h)) ∧ (∀ (L S : List Value) (h : icH), icE 167 10 L S h = exe icE 167 (e_aload 0 11 L S h)) ∧ (∀ (L S : List Value) (h : icH), icE 167 11 L S h = exe icE 167 (e_vcal 8 161 2 0 14 L S h)) ∧ (∀ (L S : List Value) (h : icH), icE 167 14 L S h = exe icE 167 (e_aload 0 15 L S h)) ∧ (∀ (L S : List Value) (h : icH), icE 167 15 L S h = icE 167 17 L (.int (nI 104) :: S) h) ∧ (∀ (L S : List Value) (h : icH), icE 167 17 L S h = icE 167 19 L (.int (nI 111) :: S) h) ∧ (∀ (L S : List Value) (h : icH), icE 167 19 L S h = icE 167 21 L (.int (nI 117) :: S) h) ∧ (∀ (L S : List Value) (h : icH), icE 167 21 L S h = icE 167 23 L (.int (nI 115) :: S) h) ∧ (∀ (L S : List Value) (h : icH), icE 167 23 L S h = icE 167 25 L (.int (nI 101) :: S) h) ∧ (∀ (L S : List Value) (h : icH), icE 167 25 L S h = exe icE 167 (e_vcal 8 162 8 5 28 L S h)) ∧ (∀ (L S : List Value) (h : icH), icE 167 28 L S h = exe icE 167 (e_if .eq 49 31 L S h)) ∧ (∀ (L S : List Value) (h : icH), icE 167 31 L S h = exe icE 167 (e_aload 0 32 L S h)) ∧ (∀ (L S : List Value) (h : icH), icE 167 32 L S h = icE 167 33 L (.int (nI 0) :: S) h) ∧ (∀ (L S : List Value) (h : icH), icE 167 33 L S h = icE 167 34 L (.int (nI 0) :: S) h) ∧ (∀ (L S : List Value) (h : icH), icE 167 34 L S h = icE 167 36 L (.int (nI 18) :: S) h) ∧ (∀ (L S : List Value) (h : icH), icE 167 36 L S h = exe icE 167 (e_vcal 8 163 4 3 39 L S h)) ∧ (∀ (L S : List Value) (h : icH), icE 167 39 L S h = exe icE 167 (e_if .eq 49 42 L S h)) ∧ (∀ (L S : List Value) (h : icH), icE 167 42 L S h = exe icE 167 (e_aload 0 43 L S h)) ∧ (∀ (L S : List Value) (h : icH), icE 167 43 L S h = exe icE 167 (e_vcal 8 164 1 0 46 L S h)) ∧ (∀ (L S : List Value) (h : icH), icE 167 46 L S h = exe icE 167 (e_if .ne 51 49 L S h)) ∧ (∀ (L S : List Value) (h : icH), icE 167 49 L S h = icE 167 50 L (.int (nI 0) :: S) h) ∧ (∀ (L S : List Value) (h : icH), icE 167 50 L S h = exe icE 167 (e_iret 1 L S h)) ∧ (∀ (L S : List Value) (h : icH), icE 167 51 L S h = exe icE 167 (e_aload 0 52 L S h)) ∧ (∀ (L S : List Value) (h : icH), icE 167 52 L S h = exe icE 167 (e_aload 0 53 L S h)) ∧ (∀ (L S : List Value) (h : icH), icE 167 53 L S h = exe icE 167 (e_getf 14 8 56 L S h)) ∧ (∀ (L S : List Value) (h : icH), icE 167 56 L S h = icE 167 57 L (.int (nI 0) :: S) h) ∧ (∀ (L S : List Value) (h : icH), icE 167 57 L S h = exe icE 167 (e_iald 58 L S h)) ∧ (∀ (L S : List Value) (h : icH), icE 167 58 L S h = icE 167 60 L (.int (nI 9) :: S) h) ∧ (∀ (L S : List Value) (h : icH), icE 167 60 L S h = exe icE 167 (e_bin (fun x y => x - y) 61 L S h)) ∧ (∀ (L S : List Value) (h : icH), icE 167 61 L S h = exe icE 167 (e_vcal 8 151 3 1 64 L S h)) ∧ (∀ (L S : List Value) (h : icH), icE 167 64 L S h = exe icE 167 (e_aload 0 65 L S h)) ∧ (∀ (L S : List Value) (h : icH), icE 167 65 L S h = exe icE 167 (e_dup 66 L S h)) ∧ (∀ (L S : List Value) (h : icH), icE 167 66 L S h = exe icE 167 (e_getf 16 8 69 L S h)) ∧ (∀ (L S : List Value) (h : icH), icE 167 69 L S h = icE 167 70 L (.int (nI 1) :: S) h) ∧ (∀ (L S : List Value) (h : icH), icE 167 70 L S h = exe icE 167 (e_bin (fun x y => x + y) 71 L S h)) ∧ (∀ (L S : List Value) (h : icH), icE 167 71 L S h = exe icE 167 (e_putf 16 8 0 74 L S h)) ∧ (∀ (L S : List Value) (h : icH), icE 167 74 L S h = exe icE 167 (e_aload 0 75 L S h)) ∧ (∀ (L S : List Value) (h : icH), icE 167 75 L S h = exe icE 167 (e_vcal 8 161 2 0 78 L S h)) ∧ (∀ (L S : List Value) (h : icH), icE 167 79 L S h = exe icE 167 (e_getf 12 8 82 L S h)) ∧ (∀ (L S : List Value) (h : icH), icE 167 82 L S h = exe icE 167 (e_if .eq 111 85 L S h)) ∧ (∀ (L S : List Value) (h : icH), icE 167 85 L S h = exe icE 167 (e_aload 0 86 L S h)) ∧ (∀ (L S : List Value) (h : icH), icE 167 86 L S h = exe icE 167 (e_vcal 8 165 1 0 89 L S h)) ∧ (∀ (L S : List Value) (h : icH), icE 167 89 L S h = exe icE 167 (e_if .ne 94 92 L S h)) ∧ (∀ (L S : List Value) (h : icH), icE 167 92 L S h = icE 167 93 L (.int (nI 0) :: S) h) ∧ (∀ (L S : List Value) (h : icH), icE 167 93 L S h = exe icE 167 (e_iret 1 L S h)) ∧ (∀ (L S : List Value) (h : icH), icE 167 94 L S h = exe icE 167 (e_aload 0 95 L S h)) ∧ (∀ (L S : List Value) (h : icH), icE 167 95 L S h = exe icE 167 (e_dup 96 L S h)) ∧ (∀ (L S : List Value) (h : icH), icE 167 96 L S h = exe icE 167 (e_getf 16 8 99 L S h)) ∧ (∀ (L S : List Value) (h : icH), icE 167 99 L S h = icE 167 100 L (.int (nI 1) :: S) h) ∧ (∀ (L S : List Value) (h : icH), icE 167 100 L S h = exe icE 167 (e_bin (fun x y => x + y) 101 L S h)) ∧ (∀ (L S : List Value) (h : icH), icE 167 101 L S h = exe icE 167 (e_putf 16 8 0 104 L S h)) ∧ (∀ (L S : List Value) (h : icH), icE 167 104 L S h = exe icE 167 (e_aload 0 105 L S h)) ∧ (∀ (L S : List Value) (h : icH), icE 167 105 L S h = exe icE 167 (e_vcal 8 161 2 0 108 L S h)) ∧ (∀ (L S : List Value) (h : icH), icE 167 108 L S h = icE 167 78 L S h) ∧ (∀ (L S : List Value) (h : icH), icE 167 111 L S h = exe icE 167 (e_aload 0 112 L S h)) ∧ (∀ (L S : List Value) (h : icH), icE 167 112 L S h = exe icE 167 (e_getf 0 8 115 L S h)) ∧ (∀ (L S : List Value) (h : icH), icE 167 115 L S h = icE 167 118 L (.int (nI 139) :: S) h) ∧ (∀ (L S : List Value) (h : icH), icE 167 118 L S h = icE 167 119 L (.int (nI 0) :: S) h) ∧ (∀ (L S : List Value) (h : icH), icE 167 119 L S h = exe icE 167 (e_iast 120 L S h)) ∧ (∀ (L S : List Value) (h : icH), icE 167 120 L S h = icE 167 121 L (.int (nI 1) :: S) h) ∧ (∀ (L S : List Value) (h : icH), icE 167 121 L S h = exe icE 167 (e_iret 1 L S h)) := ⟨r_167_0, r_167_1, r_167_2, r_167_5, r_167_6, r_167_7, r_167_10, r_167_11, r_167_14, r_167_15, r_167_17, r_167_19, r_167_21, r_167_23, r_167_25, r_167_28, r_167_31, r_167_32, r_167_33, r_167_34, r_167_36, r_167_39, r_167_42, r_167_43, r_167_46, r_167_49, r_167_50, r_167_51, r_167_52, r_167_53, r_167_56, r_167_57, r_167_58, r_167_60, r_167_61, r_167_64, r_167_65, r_167_66, r_167_69, r_167_70, r_167_71, r_167_74, r_167_75, r_167_79, r_167_82, r_167_85, r_167_86, r_167_89, r_167_92, r_167_93, r_167_94, r_167_95, r_167_96, r_167_99, r_167_100, r_167_101, r_167_104, r_167_105, r_167_108, r_167_111, r_167_112, r_167_115, r_167_118, r_167_119, r_167_120, r_167_121⟩
-- cX9_read: heads []
theorem fe_168 (pc : Nat) : fet 168 pc = look k_168 pc := rfl
theorem r_168_0 (L S : List Value) (h : icH) : icE 168 0 L S h = exe icE 168 (e_aload 0 1 L S h) := icE_eq (i := .aload_n 0) (len := 1) (x1 := 0) (x2 := 0) (x3 := 0) (x4 := 64) ((fe_168 0).trans rfl) L S h
theorem r_168_1 (L S : List Value) (h : icH) : icE 168 1 L S h = exe icE 168 (e_getf 0 8 4 L S h) := icE_eq (i := .getfield 7) (len := 3) (x1 := 0) (x2 := 8) (x3 := 12) (x4 := 957) ((fe_168 1).trans rfl) L S h
theorem r_168_4 (L S : List Value) (h : icH) : icE 168 4 L S h = icE 168 5 L (.int (nI 0) :: S) h := icE_eq (i := .iconst 0) (len := 1) (x1 := 0) (x2 := 0) (x3 := 0) (x4 := 64) ((fe_168 4).trans rfl) L S h
theorem r_168_5 (L S : List Value) (h : icH) : icE 168 5 L S h = exe icE 168 (e_aload 0 6 L S h) := icE_eq (i := .aload_n 0) (len := 1) (x1 := 0) (x2 := 0) (x3 := 0) (x4 := 64) ((fe_168 5).trans rfl) L S h
theorem r_168_6 (L S : List Value) (h : icH) : icE 168 6 L S h = exe icE 168 (e_getf 15 8 9 L S h) := icE_eq (i := .getfield 39) (len := 3) (x1 := 15) (x2 := 8) (x3 := 12) (x4 := 972) ((fe_168 6).trans rfl) L S h
theorem r_168_9 (L S : List Value) (h : icH) : icE 168 9 L S h = icE 168 10 L (.int (nI 0) :: S) h := icE_eq (i := .iconst 0) (len := 1) (x1 := 0) (x2 := 0) (x3 := 0) (x4 := 64) ((fe_168 9).trans rfl) L S h
theorem r_168_10 (L S : List Value) (h : icH) : icE 168 10 L S h = icE 168 13 L (.int (nI 292) :: S) h := icE_eq (i := .sipush 292) (len := 3) (x1 := 0) (x2 := 0) (x3 := 0) (x4 := 64) ((fe_168 10).trans rfl) L S h
theorem r_168_13 (L S : List Value) (h : icH) : icE 168 13 L S h = exe icE 168 (e_call 138 6 5 16 L S h) := icE_eq (i := .invokestatic 178) (len := 3) (x1 := 138) (x2 := 1) (x3 := 0) (x4 := 1087) ((fe_168 13).trans rfl) L S h
theorem r_168_16 (L S : List Value) (h : icH) : icE 168 16 L S h = exe icE 168 (e_aload 0 17 L S h) := icE_eq (i := .aload_n 0) (len := 1) (x1 := 0) (x2 := 0) (x3 := 0) (x4 := 64) ((fe_168 16).trans rfl) L S h
theorem r_168_17 (L S : List Value) (h : icH) : icE 168 17 L S h = exe icE 168 (e_vcal 8 167 1 0 20 L S h) := icE_eq (i := .invokevirtual 182) (len := 3) (x1 := 167) (x2 := 3) (x3 := 8) (x4 := 1090) ((fe_168 17).trans rfl) L S h
theorem r_168_20 (L S : List Value) (h : icH) : icE 168 20 L S h = exe icE 168 (e_if .ne 47 23 L S h) := icE_eq (i := .ifCond .ne 27) (len := 3) (x1 := 47) (x2 := 0) (x3 := 0) (x4 := 64) ((fe_168 20).trans rfl) L S h
theorem r_168_23 (L S : List Value) (h : icH) : icE 168 23 L S h = exe icE 168 (e_aload 0 24 L S h) := icE_eq (i := .aload_n 0) (len := 1) (x1 := 0) (x2 := 0) (x3 := 0) (x4 := 64) ((fe_168 23).trans rfl) L S h
theorem r_168_24 (L S : List Value) (h : icH) : icE 168 24 L S h = exe icE 168 (e_getf 15 8 27 L S h) := icE_eq (i := .getfield 39) (len := 3) (x1 := 15) (x2 := 8) (x3 := 12) (x4 := 972) ((fe_168 24).trans rfl) L S h
theorem r_168_27 (L S : List Value) (h : icH) : icE 168 27 L S h = icE 168 28 L (.int (nI 0) :: S) h := icE_eq (i := .iconst 0) (len := 1) (x1 := 0) (x2 := 0) (x3 := 0) (x4 := 64) ((fe_168 27).trans rfl) L S h
theorem r_168_28 (L S : List Value) (h : icH) : icE 168 28 L S h = exe icE 168 (e_aload 0 29 L S h) := icE_eq (i := .aload_n 0) (len := 1) (x1 := 0) (x2 := 0) (x3 := 0) (x4 := 64) ((fe_168 28).trans rfl) L S h
theorem r_168_29 (L S : List Value) (h : icH) : icE 168 29 L S h = exe icE 168 (e_getf 0 8 32 L S h) := icE_eq (i := .getfield 7) (len := 3) (x1 := 0) (x2 := 8) (x3 := 12) (x4 := 957) ((fe_168 29).trans rfl) L S h
theorem r_168_32 (L S : List Value) (h : icH) : icE 168 32 L S h = icE 168 33 L (.int (nI 0) :: S) h := icE_eq (i := .iconst 0) (len := 1) (x1 := 0) (x2 := 0) (x3 := 0) (x4 := 64) ((fe_168 32).trans rfl) L S h
theorem r_168_33 (L S : List Value) (h : icH) : icE 168 33 L S h = icE 168 36 L (.int (nI 292) :: S) h := icE_eq (i := .sipush 292) (len := 3) (x1 := 0) (x2 := 0) (x3 := 0) (x4 := 64) ((fe_168 33).trans rfl) L S h
theorem r_168_36 (L S : List Value) (h : icH) : icE 168 36 L S h = exe icE 168 (e_call 138 6 5 39 L S h) := icE_eq (i := .invokestatic 178) (len := 3) (x1 := 138) (x2 := 1) (x3 := 0) (x4 := 1087) ((fe_168 36).trans rfl) L S h
theorem r_168_39 (L S : List Value) (h : icH) : icE 168 39 L S h = icE 168 41 L (.int (-10) :: S) h := icE_eq (i := .bipush (-10)) (len := 2) (x1 := 0) (x2 := 0) (x3 := 0) (x4 := 64) ((fe_168 39).trans rfl) L S h
theorem r_168_41 (L S : List Value) (h : icH) : icE 168 41 L S h = exe icE 168 (e_aload 0 42 L S h) := icE_eq (i := .aload_n 0) (len := 1) (x1 := 0) (x2 := 0) (x3 := 0) (x4 := 64) ((fe_168 41).trans rfl) L S h
theorem r_168_42 (L S : List Value) (h : icH) : icE 168 42 L S h = exe icE 168 (e_getf 11 8 45 L S h) := icE_eq (i := .getfield 133) (len := 3) (x1 := 11) (x2 := 8) (x3 := 0) (x4 := 968) ((fe_168 42).trans rfl) L S h
theorem r_168_45 (L S : List Value) (h : icH) : icE 168 45 L S h = exe icE 168 (e_bin (fun x y => x - y) 46 L S h) := icE_eq (i := .isub) (len := 1) (x1 := 0) (x2 := 0) (x3 := 0) (x4 := 64) ((fe_168 45).trans rfl) L S h
theorem r_168_46 (L S : List Value) (h : icH) : icE 168 46 L S h = exe icE 168 (e_iret 0 L S h) := icE_eq (i := .ireturn) (len := 1) (x1 := 0) (x2 := 0) (x3 := 0) (x4 := 64) ((fe_168 46).trans rfl) L S h
theorem r_168_47 (L S : List Value) (h : icH) : icE 168 47 L S h = exe icE 168 (e_aload 0 48 L S h) := icE_eq (i := .aload_n 0) (len := 1) (x1 := 0) (x2 := 0) (x3 := 0) (x4 := 64) ((fe_168 47).trans rfl) L S h
theorem r_168_48 (L S : List Value) (h : icH) : icE 168 48 L S h = exe icE 168 (e_getf 16 8 51 L S h) := icE_eq (i := .getfield 172) (len := 3) (x1 := 16) (x2 := 8) (x3 := 0) (x4 := 973) ((fe_168 48).trans rfl) L S h
theorem r_168_51 (L S : List Value) (h : icH) : icE 168 51 L S h = exe icE 168 (e_iret 0 L S h) := icE_eq (i := .ireturn) (len := 1) (x1 := 0) (x2 := 0) (x3 := 0) (x4 := 64) ((fe_168 51).trans rfl) L S h
theorem rw_168 : (∀ (L S : List Value) (h : icH), icE 168 0 L S h = exe icE 168 (e_aload 0 1 L S h)) ∧ (∀ (L S : List Value) (h : icH), icE 168 1 L S h = exe icE 168 (e_getf 0 8 4 L S h)) ∧ (∀ (L S : List Value) (h : icH), icE 168 4 L S h = icE 168 5 L (.int (nI 0) :: S) h) ∧ (∀ (L S : List Value) (h : icH), icE 168 5 L S h = exe icE 168 (e_aload 0 6 L S h)) ∧ (∀ (L S : List Value) (h : icH), icE 168 6 L S h = exe icE 168 (e_getf 15 8 9 L S h)) ∧ (∀ (L S : List Value) (h : icH), icE 168 9 L S h = icE 168 10 L (.int (nI 0) :: S) h) ∧ (∀ (L S : List Value) (h : icH), icE 168 10 L S h = icE 168 13 L (.int (nI 292) :: S) h) ∧ (∀ (L S : List Value) (h : icH), icE 168 13 L S h = exe icE 168 (e_call 138 6 5 16 L S h)) ∧ (∀ (L S : List Value) (h : icH), icE 168 16 L S h = exe icE 168 (e_aload 0 17 L S h)) ∧ (∀ (L S : List Value) (h : icH), icE 168 17 L S h = exe icE 168 (e_vcal 8 167 1 0 20 L S h)) ∧ (∀ (L S : List Value) (h : icH), icE 168 20 L S h = exe icE 168 (e_if .ne 47 23 L S h)) ∧ (∀ (L S : List Value) (h : icH), icE 168 23 L S h = exe icE 168 (e_aload 0 24 L S h)) ∧ (∀ (L S : List Value) (h : icH), icE 168 24 L S h = exe icE 168 (e_getf 15 8 27 L S h)) ∧ (∀ (L S : List Value) (h : icH), icE 168 27 L S h = icE 168 28 L (.int (nI 0) :: S) h) ∧ (∀ (L S : List Value) (h : icH), icE 168 28 L S h = exe icE 168 (e_aload 0 29 L S h)) ∧ (∀ (L S : List Value) (h : icH), icE 168 29 L S h = exe icE 168 (e_getf 0 8 32 L S h)) ∧ (∀ (L S : List Value) (h : icH), icE 168 32 L S h = icE 168 33 L (.int (nI 0) :: S) h) ∧ (∀ (L S : List Value) (h : icH), icE 168 33 L S h = icE 168 36 L (.int (nI 292) :: S) h) ∧ (∀ (L S : List Value) (h : icH), icE 168 36 L S h = exe icE 168 (e_call 138 6 5 39 L S h)) ∧ (∀ (L S : List Value) (h : icH), icE 168 39 L S h = icE 168 41 L (.int (-10) :: S) h) ∧ (∀ (L S : List Value) (h : icH), icE 168 41 L S h = exe icE 168 (e_aload 0 42 L S h)) ∧ (∀ (L S : List Value) (h : icH), icE 168 42 L S h = exe icE 168 (e_getf 11 8 45 L S h)) ∧ (∀ (L S : List Value) (h : icH), icE 168 45 L S h = exe icE 168 (e_bin (fun x y => x - y) 46 L S h)) ∧ (∀ (L S : List Value) (h : icH), icE 168 46 L S h = exe icE 168 (e_iret 0 L S h)) ∧ (∀ (L S : List Value) (h : icH), icE 168 47 L S h = exe icE 168 (e_aload 0 48 L S h)) ∧ (∀ (L S : List Value) (h : icH), icE 168 48 L S h = exe icE 168 (e_getf 16 8 51 L S h)) ∧ (∀ (L S : List Value) (h : icH), icE 168 51 L S h = exe icE 168 (e_iret 0 L S h)) := ⟨r_168_0, r_168_1, r_168_4, r_168_5, r_168_6, r_168_9, r_168_10, r_168_13, r_168_16, r_168_17, r_168_20, r_168_23, r_168_24, r_168_27, r_168_28, r_168_29, r_168_32, r_168_33, r_168_36, r_168_39, r_168_41, r_168_42, r_168_45, r_168_46, r_168_47, r_168_48, r_168_51⟩
theorem c_letter {A : Nat → Nat → Int32} {b : Nat → Nat} {q z : Nat} (hb : ∀ k, k < z → A 5 k = nI (b k) ∧ b k < 128) (hz : z ≤ 150) (hq : q < 2 ^ 31) (x1 x2 x3 x4 x5 : Int32) (h : icH) (m : Nat) (ab be : Int64) : icE 160 0 [.ref m, .int (nI q)] [] (HM h m ab be (i6 (nI z) x1 x2 x3 x4 x5) A) = some (some (.int (if q < z then nI (b q) else -1)), HM h m ab be (i6 (nI z) x1 x2 x3 x4 x5) A) := by
  by_cases c : q < z
  · rw [if_pos c, ← (hb q c).1]
    simp only [SA, rw_160, HM_o, HMr, i6_0, if_neg (nI_ge c (show z < 2 ^ 31 by omega)), ia_n (show q < 150 by omega) (show 150 < 2 ^ 31 by decide)]
  · rw [if_neg c]
    simp only [SA, rw_160, HM_o, HMr, i6_0, if_pos (nI_le (show z ≤ q by omega) hq)]
def lt (b : Nat → Nat) (z q : Nat) : Int32 := if q < z then nI (b q) else -1
theorem lt_i {b : Nat → Nat} {z q : Nat} (hb : ∀ k, k < z → b k < 128) {lo hi : Nat} (hlo : lo < 2 ^ 31) (hhi : hi < 2 ^ 31) : (nI lo ≤ lt b z q ∧ lt b z q ≤ nI hi) ↔ (q < z ∧ lo ≤ b q ∧ b q ≤ hi) := by
  unfold lt
  by_cases c : q < z
  · have := hb q c
    rw [if_pos c, nI_leI hlo (by omega), nI_leI (by omega) hhi]
    exact ⟨fun w => ⟨c, w⟩, fun w => w.2⟩
  · rw [if_neg c]
    constructor
    · intro w
      have e1 : (-1 : Int32).toInt = -1 := by decide
      have w1 := w.1
      rw [Int32.le_iff_toInt_le, nI_toInt hlo] at w1
      omega
    · intro w; exact absurd w.1 c
theorem lt_e {b : Nat → Nat} {z q c : Nat} (hb : ∀ k, k < z → b k < 128) (hc : c < 2 ^ 31) : lt b z q = nI c ↔ (q < z ∧ b q = c) := by
  unfold lt
  by_cases d : q < z
  · have := hb q d
    rw [if_pos d, nI_eq (by omega) hc]
    exact ⟨fun w => ⟨d, w⟩, fun w => w.2⟩
  · rw [if_neg d]
    exact ⟨fun w => absurd w.symm (m1_n hc), fun w => absurd w.1 d⟩
theorem l_mskip {A : Nat → Nat → Int32} {b : Nat → Nat} {z : Nat} (hb : ∀ k, k < z → A 5 k = nI (b k) ∧ b k < 128) (hz : z ≤ 150) (x2 x3 x4 x5 : Int32) (w : Value) (h : icH) (m : Nat) (ab be : Int64) : ∀ (k q : Nat), q + k = z → icE 161 0 [.ref m, w] [] (HM h m ab be (i6 (nI z) (nI q) x2 x3 x4 x5) A) = icE 161 26 [.ref m, w] [] (HM h m ab be (i6 (nI z) (nI (tkS b z q)) x2 x3 x4 x5) A)
  | 0, q, him => by
    have eq : tkS b z q = q := ru_e (by omega)
    have n : ¬ lt b z q = nI 32 := fun y => by have := ((lt_e (fun k hk => (hb k hk).2) (by decide)).mp y).1; omega
    unfold lt at n
    rw [eq, rh_161_0]
    simp only [SA, rw_161, HM_o, i6_1, c_letter hb hz (show q < 2 ^ 31 by omega), if_neg n]
  | k + 1, q, him => by
    have hq : q < z := by omega
    by_cases c : b q = 32
    · have ih := l_mskip hb hz x2 x3 x4 x5 w h m ab be k (q + 1) (by omega)
      have es : tkS b z q = tkS b z (q + 1) := ru_s hq (decide_eq_true c)
      have n : lt b z q = nI 32 := (lt_e (fun k hk => (hb k hk).2) (by decide)).mpr ⟨hq, c⟩
      unfold lt at n
      rw [es]
      refine Eq.trans ?_ ih
      rw [rh_161_0]
      simp only [SA, rw_161, HM_o, HM_wo, i6_0, i6_1, i6_2, i6_3, i6_4, i6_5, c_letter hb hz (show q < 2 ^ 31 by omega), if_pos n, nI_add]
    · have eq : tkS b z q = q := ru_e (fun y => c (of_decide_eq_true y.2))
      have n : ¬ lt b z q = nI 32 := fun y => c ((lt_e (fun k hk => (hb k hk).2) (by decide)).mp y).2
      unfold lt at n
      rw [eq, rh_161_0]
      simp only [SA, rw_161, HM_o, i6_1, c_letter hb hz (show q < 2 ^ 31 by omega), if_neg n]
theorem l_mword {A : Nat → Nat → Int32} {b : Nat → Nat} {z : Nat} (hb : ∀ k, k < z → A 5 k = nI (b k) ∧ b k < 128) (hz : z ≤ 150) (x2 x3 x4 x5 : Int32) (w : Value) (h : icH) (m : Nat) (ab be : Int64) : ∀ (k q : Nat), q + k = z → icE 161 115 [.ref m, w] [] (HM h m ab be (i6 (nI z) (nI q) x2 x3 x4 x5) A) = some (none, HM h m ab be (i6 (nI z) (nI (ru isL b z q)) x2 x3 x4 x5) A)
  | 0, q, him => by
    have n : ¬ (nI 97 ≤ lt b z q ∧ lt b z q ≤ nI 122) := fun y => by have := ((lt_i (fun k hk => (hb k hk).2) (by decide) (by decide)).mp y).1; omega
    unfold lt at n
    rw [ru_e (by omega), rh_161_115]
    simp only [SA, rw_161, HM_o, i6_1, c_letter hb hz (show q < 2 ^ 31 by omega), c_in, lN_t (show 97 < 2 ^ 31 by decide), lN_t (show 122 < 2 ^ 31 by decide), i64_le, if_pos (bi_00 n)]
  | k + 1, q, him => by
    have hq : q < z := by omega
    have li := lt_i (b := b) (z := z) (q := q) (fun k hk => (hb k hk).2) (show 97 < 2 ^ 31 by decide) (show 122 < 2 ^ 31 by decide)
    by_cases c : isL (b q) = true
    · have ih := l_mword hb hz x2 x3 x4 x5 w h m ab be k (q + 1) (by omega)
      have n := li.mpr ⟨hq, of_decide_eq_true c⟩
      unfold lt at n
      rw [ru_s hq c]
      refine Eq.trans ?_ ih
      rw [rh_161_115]
      simp only [SA, rw_161, HM_o, HM_wo, i6_0, i6_1, i6_2, i6_3, i6_4, i6_5, c_letter hb hz (show q < 2 ^ 31 by omega), c_in, lN_t (show 97 < 2 ^ 31 by decide), lN_t (show 122 < 2 ^ 31 by decide), i64_le, if_neg (bi_10 n), nI_add]
    · have n : ¬ (nI 97 ≤ lt b z q ∧ lt b z q ≤ nI 122) := fun y => c (decide_eq_true (li.mp y).2)
      unfold lt at n
      rw [ru_e (fun y => c y.2), rh_161_115]
      simp only [SA, rw_161, HM_o, i6_1, c_letter hb hz (show q < 2 ^ 31 by omega), c_in, lN_t (show 97 < 2 ^ 31 by decide), lN_t (show 122 < 2 ^ 31 by decide), i64_le, if_pos (bi_00 n)]
def vm (b : Nat → Nat) (s : Nat) : Nat → Nat
  | 0 => 0
  | n + 1 => if n < 2 then 10 * vm b s n + b (s + n) - 48 else vm b s n
theorem vm_le {b : Nat → Nat} {s : Nat} : ∀ n, (∀ k, k < n → b (s + k) < 128) → vm b s n ≤ 2000
  | 0, _ => Nat.zero_le _
  | 1, hb => by
    have e : vm b s 1 = 10 * 0 + b (s + 0) - 48 := rfl
    have := hb 0 (by omega)
    omega
  | 2, hb => by
    have e : vm b s 2 = 10 * (10 * 0 + b (s + 0) - 48) + b (s + 1) - 48 := rfl
    have := hb 0 (by omega)
    have := hb 1 (by omega)
    omega
  | n + 3, hb => by
    have e : vm b s (n + 3) = if n + 2 < 2 then 10 * vm b s (n + 2) + b (s + (n + 2)) - 48 else vm b s (n + 2) := rfl
    rw [e, if_neg (by omega)]
    exact vm_le (n + 2) (fun k hk => hb k (by omega))
theorem l_mnum {A : Nat → Nat → Int32} {b : Nat → Nat} {z s0 : Nat} (hb : ∀ k, k < z → A 5 k = nI (b k) ∧ b k < 128) (hz : z ≤ 150) (x3 x5 : Int32) (w : Value) (h : icH) (m : Nat) (ab be : Int64) : ∀ (k n : Nat), s0 + n + k = z → icE 161 157 [.ref m, w] [] (HM h m ab be (i6 (nI z) (nI (s0 + n)) (nI s0) x3 (nI (vm b s0 n)) x5) A) = some (none, HM h m ab be (i6 (nI z) (nI (ru isF b z (s0 + n))) (nI s0) (nI (if 2 < ru isF b z (s0 + n) - s0 then 4 else 2)) (nI (vm b s0 (ru isF b z (s0 + n) - s0))) x5) A)
  | 0, n, him => by
    have nn : ¬ (nI 48 ≤ lt b z (s0 + n) ∧ lt b z (s0 + n) ≤ nI 57) := fun y => by have := ((lt_i (fun k hk => (hb k hk).2) (by decide) (by decide)).mp y).1; omega
    unfold lt at nn
    rw [ru_e (by omega), Nat.add_sub_cancel_left, rh_161_157]
    by_cases c : n ≤ 2
    · rw [if_neg (show ¬ 2 < n by omega)]
      simp only [SA, rw_161, HM_o, HM_wo, i6_0, i6_1, i6_2, i6_3, i6_4, i6_5, c_letter hb hz (show s0 + n < 2 ^ 31 by omega), c_in, lN_t (show 48 < 2 ^ 31 by decide), lN_t (show 57 < 2 ^ 31 by decide), i64_le, if_pos (bi_00 nn), nI_sb (show s0 ≤ s0 + n by omega), Nat.add_sub_cancel_left, if_pos (nI_le c (show 2 < 2 ^ 31 by decide))]
    · rw [if_pos (show 2 < n by omega)]
      simp only [SA, rw_161, HM_o, HM_wo, i6_0, i6_1, i6_2, i6_3, i6_4, i6_5, c_letter hb hz (show s0 + n < 2 ^ 31 by omega), c_in, lN_t (show 48 < 2 ^ 31 by decide), lN_t (show 57 < 2 ^ 31 by decide), i64_le, if_pos (bi_00 nn), nI_sb (show s0 ≤ s0 + n by omega), Nat.add_sub_cancel_left, if_neg (nI_ge (show 2 < n by omega) (show n < 2 ^ 31 by omega))]
  | k + 1, n, him => by
    have hq : s0 + n < z := by omega
    have li := lt_i (b := b) (z := z) (q := s0 + n) (fun k hk => (hb k hk).2) (show 48 < 2 ^ 31 by decide) (show 57 < 2 ^ 31 by decide)
    by_cases c : isF (b (s0 + n)) = true
    · have ih := l_mnum (s0 := s0) hb hz x3 x5 w h m ab be k (n + 1) (by omega)
      have nn := li.mpr ⟨hq, of_decide_eq_true c⟩
      unfold lt at nn
      have c48 : 48 ≤ b (s0 + n) := (of_decide_eq_true c).1
      have vl := vm_le (b := b) (s := s0) n (fun k hk => (hb (s0 + k) (by omega)).2)
      have ev : vm b s0 (n + 1) = if n < 2 then 10 * vm b s0 n + b (s0 + n) - 48 else vm b s0 n := rfl
      rw [ru_s hq c, Nat.add_assoc s0 n 1]
      refine Eq.trans ?_ ih
      rw [ev, rh_161_157]
      by_cases c2 : n < 2
      · rw [if_pos c2]
        have nn' := nn
        rw [if_pos hq] at nn'
        simp only [SA, rw_161, HM_o, HM_wo, i6_0, i6_1, i6_2, i6_3, i6_4, i6_5, c_letter hb hz (show s0 + n < 2 ^ 31 by omega), c_in, lN_t (show 48 < 2 ^ 31 by decide), lN_t (show 57 < 2 ^ 31 by decide), i64_le, if_neg (bi_10 nn'), nI_sb (show s0 ≤ s0 + n by omega), Nat.add_sub_cancel_left, if_neg (nI_ge c2 (show 2 < 2 ^ 31 by decide)), if_pos hq, pk_mul, nI_add, nI_sb (show 48 ≤ 10 * vm b s0 n + b (s0 + n) by omega), Nat.add_assoc]
      · rw [if_neg c2]
        simp only [SA, rw_161, HM_o, HM_wo, i6_0, i6_1, i6_2, i6_3, i6_4, i6_5, c_letter hb hz (show s0 + n < 2 ^ 31 by omega), c_in, lN_t (show 48 < 2 ^ 31 by decide), lN_t (show 57 < 2 ^ 31 by decide), i64_le, if_neg (bi_10 nn), nI_sb (show s0 ≤ s0 + n by omega), Nat.add_sub_cancel_left, if_pos (nI_le (show 2 ≤ n by omega) (show n < 2 ^ 31 by omega)), nI_add, Nat.add_assoc]
    · have nn : ¬ (nI 48 ≤ lt b z (s0 + n) ∧ lt b z (s0 + n) ≤ nI 57) := fun y => c (decide_eq_true (li.mp y).2)
      unfold lt at nn
      rw [ru_e (fun y => c y.2), Nat.add_sub_cancel_left, rh_161_157]
      by_cases c2 : n ≤ 2
      · rw [if_neg (show ¬ 2 < n by omega)]
        simp only [SA, rw_161, HM_o, HM_wo, i6_0, i6_1, i6_2, i6_3, i6_4, i6_5, c_letter hb hz (show s0 + n < 2 ^ 31 by omega), c_in, lN_t (show 48 < 2 ^ 31 by decide), lN_t (show 57 < 2 ^ 31 by decide), i64_le, if_pos (bi_00 nn), nI_sb (show s0 ≤ s0 + n by omega), Nat.add_sub_cancel_left, if_pos (nI_le c2 (show 2 < 2 ^ 31 by decide))]
      · rw [if_pos (show 2 < n by omega)]
        simp only [SA, rw_161, HM_o, HM_wo, i6_0, i6_1, i6_2, i6_3, i6_4, i6_5, c_letter hb hz (show s0 + n < 2 ^ 31 by omega), c_in, lN_t (show 48 < 2 ^ 31 by decide), lN_t (show 57 < 2 ^ 31 by decide), i64_le, if_pos (bi_00 nn), nI_sb (show s0 ≤ s0 + n by omega), Nat.add_sub_cancel_left, if_neg (nI_ge (show 2 < n by omega) (show n < 2 ^ 31 by omega))]
theorem c_step {A : Nat → Nat → Int32} {b : Nat → Nat} {z p : Nat} (hb : ∀ k, k < z → A 5 k = nI (b k) ∧ b k < 128) (hz : z ≤ 150) (hp : p ≤ z) (x2 x3 x4 x5 : Int32) (h : icH) (m : Nat) (ab be : Int64) : ∃ v', icE 161 0 [.ref m, dum] [] (HM h m ab be (i6 (nI z) (nI p) x2 x3 x4 x5) A) = some (none, HM h m ab be (i6 (nI z) (nI (tkE b z p)) (nI (tkS b z p)) (nI (tkT b z p)) v' x5) A) ∧ (tkT b z p = 2 → v' = nI (tkV b z p)) := by
  have sk := l_mskip hb hz x2 x3 x4 x5 dum h m ab be (z - p) p (by omega)
  have sl := tkS_le (b := b) hp
  have hb2 : ∀ k, k < z → b k < 128 := fun k hk => (hb k hk).2
  unfold tkV tkT tkE
  generalize tkS b z p = q at *
  rw [sk]
  have l97 := lt_i (b := b) (z := z) (q := q) hb2 (show 97 < 2 ^ 31 by decide) (show 122 < 2 ^ 31 by decide)
  have l48 := lt_i (b := b) (z := z) (q := q) hb2 (show 48 < 2 ^ 31 by decide) (show 57 < 2 ^ 31 by decide)
  have l59 := lt_e (b := b) (z := z) (q := q) (c := 59) hb2 (by decide)
  have cl := c_letter hb hz (show q < 2 ^ 31 by omega)
  by_cases c0 : z ≤ q
  · have eT : tT b z q = 0 := if_pos c0
    have eE : tE b z q = q := if_pos c0
    refine ⟨nI 0, ?_, fun w => by rw [eT] at w; cases w⟩
    rw [eT, eE]
    simp only [SA, rw_161, HM_o, HM_wo, i6_0, i6_1, i6_2, i6_3, i6_4, i6_5, cl, if_neg (show ¬ q < z by omega), if_neg (show ¬ (0 : Int32) ≤ -1 by decide), if_neg (show ¬ nI 0 = nI 1 by decide), if_neg (show ¬ nI 0 = nI 2 by decide), if_pos (show nI 0 = 0 by decide), nI_add, Nat.add_zero]
  · have hq : q < z := by omega
    have e2 := hb2 q hq
    have ge0 : (0 : Int32) ≤ nI (b q) := nI_pos' (by omega)
    by_cases c1 : isL (b q) = true
    · have eT : tT b z q = 1 := by unfold tT; rw [if_neg c0, if_pos c1]
      have eE : tE b z q = ru isL b z q := by unfold tE; rw [if_neg c0, if_pos c1]
      have n := l97.mpr ⟨hq, of_decide_eq_true c1⟩
      unfold lt at n
      rw [if_pos hq] at n
      refine ⟨nI 0, ?_, fun w => by rw [eT] at w; cases w⟩
      rw [eT, eE]
      refine Eq.trans ?_ (l_mword hb hz (nI q) (nI 1) (nI 0) x5 (.int (nI (b q))) h m ab be (z - q) q (by omega))
      simp only [SA, rw_161, HM_o, HM_wo, i6_0, i6_1, i6_2, i6_3, i6_4, i6_5, cl, if_pos hq, if_pos ge0, c_in, lN_t (show 97 < 2 ^ 31 by decide), lN_t (show 122 < 2 ^ 31 by decide), i64_le, if_neg (bi_10 n), if_true]
    · have n : ¬ (nI 97 ≤ lt b z q ∧ lt b z q ≤ nI 122) := fun y => c1 (decide_eq_true (l97.mp y).2)
      unfold lt at n
      rw [if_pos hq] at n
      by_cases c2 : isF (b q) = true
      · have eT : tT b z q = if 2 < ru isF b z q - q then 4 else 2 := by unfold tT; rw [if_neg c0, if_neg c1, if_pos c2]
        have eE : tE b z q = ru isF b z q := by unfold tE; rw [if_neg c0, if_neg c1, if_pos c2]
        have n2 := l48.mpr ⟨hq, of_decide_eq_true c2⟩
        unfold lt at n2
        rw [if_pos hq] at n2
        have ln := l_mnum (s0 := q) hb hz (nI 2) x5 (.int (nI (b q))) h m ab be (z - q) 0 (by omega)
        rw [Nat.add_zero] at ln
        have rl := ru_le (P := isF) (b := b) (z := z) (z - (q + 1)) (q + 1) (by omega)
        rw [← ru_s hq c2] at rl
        refine ⟨nI (vm b q (ru isF b z q - q)), ?_, fun w => ?_⟩
        · rw [eT, eE]
          refine Eq.trans ?_ ln
          simp only [SA, rw_161, HM_o, HM_wo, i6_0, i6_1, i6_2, i6_3, i6_4, i6_5, cl, if_pos hq, if_pos ge0, c_in, lN_t (show 97 < 2 ^ 31 by decide), lN_t (show 122 < 2 ^ 31 by decide), lN_t (show 48 < 2 ^ 31 by decide), lN_t (show 57 < 2 ^ 31 by decide), i64_le, if_pos (bi_00 n), if_neg (bi_10 n2), if_neg (show ¬ nI 2 = nI 1 by decide), if_true, vm]
        · rw [eT] at w
          have k2 : ¬ 2 < ru isF b z q - q := fun x => by rw [if_pos x] at w; cases w
          rw [eE]
          congr 1
          have c48 := (of_decide_eq_true c2).1
          by_cases k : ru isF b z q = q + 1
          · rw [if_pos k, k, Nat.add_sub_cancel_left]
            show 10 * 0 + b (q + 0) - 48 = _
            rw [Nat.add_zero]
            omega
          · rw [if_neg k, show ru isF b z q - q = 2 by omega]
            show 10 * (10 * 0 + b (q + 0) - 48) + b (q + 1) - 48 = _
            rw [Nat.add_zero]
            have d2 : 48 ≤ b (q + 1) := by
              by_cases x : isF (b (q + 1)) = true
              · exact (of_decide_eq_true x).1
              · rw [ru_s hq c2, ru_e (fun w => x w.2)] at k
                exact absurd rfl k
            omega
      · have n2 : ¬ (nI 48 ≤ lt b z q ∧ lt b z q ≤ nI 57) := fun y => c2 (decide_eq_true (l48.mp y).2)
        unfold lt at n2
        rw [if_pos hq] at n2
        have eE : tE b z q = q + 1 := by unfold tE; rw [if_neg c0, if_neg c1, if_neg c2]
        by_cases c3 : b q = 59
        · have eT : tT b z q = 3 := by unfold tT; rw [if_neg c0, if_neg c1, if_neg c2, if_pos c3]
          have c3' : nI (b q) = nI 59 := by rw [c3]
          refine ⟨nI 0, ?_, fun w => by rw [eT] at w; cases w⟩
          rw [eT, eE]
          simp only [SA, rw_161, HM_o, HM_wo, i6_0, i6_1, i6_2, i6_3, i6_4, i6_5, cl, if_pos hq, if_pos ge0, c_in, lN_t (show 97 < 2 ^ 31 by decide), lN_t (show 122 < 2 ^ 31 by decide), lN_t (show 48 < 2 ^ 31 by decide), lN_t (show 57 < 2 ^ 31 by decide), i64_le, if_pos (bi_00 n), if_pos (bi_00 n2), if_pos c3', if_neg (show ¬ nI 3 = nI 1 by decide), if_neg (show ¬ nI 3 = nI 2 by decide), if_neg (show ¬ nI 3 = 0 by decide), nI_add]
        · have eT : tT b z q = 4 := by unfold tT; rw [if_neg c0, if_neg c1, if_neg c2, if_neg c3]
          have c3' : ¬ nI (b q) = nI 59 := fun w => c3 ((nI_eq (by omega) (by decide)).mp w)
          refine ⟨nI 0, ?_, fun w => by rw [eT] at w; cases w⟩
          rw [eT, eE]
          simp only [SA, rw_161, HM_o, HM_wo, i6_0, i6_1, i6_2, i6_3, i6_4, i6_5, cl, if_pos hq, if_pos ge0, c_in, lN_t (show 97 < 2 ^ 31 by decide), lN_t (show 122 < 2 ^ 31 by decide), lN_t (show 48 < 2 ^ 31 by decide), lN_t (show 57 < 2 ^ 31 by decide), i64_le, if_pos (bi_00 n), if_pos (bi_00 n2), if_neg c3', if_neg (show ¬ nI 4 = nI 1 by decide), if_neg (show ¬ nI 4 = nI 2 by decide), if_neg (show ¬ nI 4 = 0 by decide), nI_add]
