/-! ===== the reference: most ===== -/
-- cX9_power: heads [4]
theorem fe_189 (pc : Nat) : fet 189 pc = look k_189 pc := rfl
theorem r_189_0 (L S : List Value) (h : icH) : icE 189 0 L S h = icE 189 1 L (.int (nI 1) :: S) h := icE_eq (i := .iconst 1) (len := 1) (x1 := 0) (x2 := 0) (x3 := 0) (x4 := 64) ((fe_189 0).trans rfl) L S h
theorem r_189_1 (L S : List Value) (h : icH) : icE 189 1 L S h = exe icE 189 (e_istore 2 2 L S h) := icE_eq (i := .istore_n 2) (len := 1) (x1 := 0) (x2 := 0) (x3 := 0) (x4 := 64) ((fe_189 1).trans rfl) L S h
theorem r_189_2 (L S : List Value) (h : icH) : icE 189 2 L S h = icE 189 3 L (.int (nI 0) :: S) h := icE_eq (i := .iconst 0) (len := 1) (x1 := 0) (x2 := 0) (x3 := 0) (x4 := 64) ((fe_189 2).trans rfl) L S h
theorem r_189_3 (L S : List Value) (h : icH) : icE 189 3 L S h = exe icE 189 (e_istore 3 4 L S h) := icE_eq (i := .istore_n 3) (len := 1) (x1 := 0) (x2 := 0) (x3 := 0) (x4 := 64) ((fe_189 3).trans rfl) L S h
theorem rh_189_4 (L S : List Value) (h : icH) : icE 189 4 L S h = exe icE 189 (e_iload 3 5 L S h) := icE_eq (i := .iload_n 3) (len := 1) (x1 := 0) (x2 := 0) (x3 := 0) (x4 := 64) ((fe_189 4).trans rfl) L S h
theorem r_189_5 (L S : List Value) (h : icH) : icE 189 5 L S h = exe icE 189 (e_iload 1 6 L S h) := icE_eq (i := .iload_n 1) (len := 1) (x1 := 0) (x2 := 0) (x3 := 0) (x4 := 64) ((fe_189 5).trans rfl) L S h
theorem r_189_6 (L S : List Value) (h : icH) : icE 189 6 L S h = exe icE 189 (e_cmp .ge 19 9 L S h) := icE_eq (i := .if_icmp .ge 13) (len := 3) (x1 := 19) (x2 := 0) (x3 := 0) (x4 := 64) ((fe_189 6).trans rfl) L S h
theorem r_189_9 (L S : List Value) (h : icH) : icE 189 9 L S h = exe icE 189 (e_iload 2 10 L S h) := icE_eq (i := .iload_n 2) (len := 1) (x1 := 0) (x2 := 0) (x3 := 0) (x4 := 64) ((fe_189 9).trans rfl) L S h
theorem r_189_10 (L S : List Value) (h : icH) : icE 189 10 L S h = exe icE 189 (e_iload 0 11 L S h) := icE_eq (i := .iload_n 0) (len := 1) (x1 := 0) (x2 := 0) (x3 := 0) (x4 := 64) ((fe_189 10).trans rfl) L S h
theorem r_189_11 (L S : List Value) (h : icH) : icE 189 11 L S h = exe icE 189 (e_bin (fun x y => x * y) 12 L S h) := icE_eq (i := .imul) (len := 1) (x1 := 0) (x2 := 0) (x3 := 0) (x4 := 64) ((fe_189 11).trans rfl) L S h
theorem r_189_12 (L S : List Value) (h : icH) : icE 189 12 L S h = exe icE 189 (e_istore 2 13 L S h) := icE_eq (i := .istore_n 2) (len := 1) (x1 := 0) (x2 := 0) (x3 := 0) (x4 := 64) ((fe_189 12).trans rfl) L S h
theorem r_189_13 (L S : List Value) (h : icH) : icE 189 13 L S h = exe icE 189 (e_iinc 3 (nI 1) 16 L S h) := icE_eq (i := .iinc 3 1) (len := 3) (x1 := 0) (x2 := 0) (x3 := 0) (x4 := 64) ((fe_189 13).trans rfl) L S h
theorem r_189_16 (L S : List Value) (h : icH) : icE 189 16 L S h = icE 189 4 L S h := icE_eq (i := .goto (-12)) (len := 3) (x1 := 4) (x2 := 0) (x3 := 0) (x4 := 64) ((fe_189 16).trans rfl) L S h
theorem r_189_19 (L S : List Value) (h : icH) : icE 189 19 L S h = exe icE 189 (e_iload 2 20 L S h) := icE_eq (i := .iload_n 2) (len := 1) (x1 := 0) (x2 := 0) (x3 := 0) (x4 := 64) ((fe_189 19).trans rfl) L S h
theorem r_189_20 (L S : List Value) (h : icH) : icE 189 20 L S h = exe icE 189 (e_iret 0 L S h) := icE_eq (i := .ireturn) (len := 1) (x1 := 0) (x2 := 0) (x3 := 0) (x4 := 64) ((fe_189 20).trans rfl) L S h
theorem rw_189 : (∀ (L S : List Value) (h : icH), icE 189 0 L S h = icE 189 1 L (.int (nI 1) :: S) h) ∧ (∀ (L S : List Value) (h : icH), icE 189 1 L S h = exe icE 189 (e_istore 2 2 L S h)) ∧ (∀ (L S : List Value) (h : icH), icE 189 2 L S h = icE 189 3 L (.int (nI 0) :: S) h) ∧ (∀ (L S : List Value) (h : icH), icE 189 3 L S h = exe icE 189 (e_istore 3 4 L S h)) ∧ (∀ (L S : List Value) (h : icH), icE 189 5 L S h = exe icE 189 (e_iload 1 6 L S h)) ∧ (∀ (L S : List Value) (h : icH), icE 189 6 L S h = exe icE 189 (e_cmp .ge 19 9 L S h)) ∧ (∀ (L S : List Value) (h : icH), icE 189 9 L S h = exe icE 189 (e_iload 2 10 L S h)) ∧ (∀ (L S : List Value) (h : icH), icE 189 10 L S h = exe icE 189 (e_iload 0 11 L S h)) ∧ (∀ (L S : List Value) (h : icH), icE 189 11 L S h = exe icE 189 (e_bin (fun x y => x * y) 12 L S h)) ∧ (∀ (L S : List Value) (h : icH), icE 189 12 L S h = exe icE 189 (e_istore 2 13 L S h)) ∧ (∀ (L S : List Value) (h : icH), icE 189 13 L S h = exe icE 189 (e_iinc 3 (nI 1) 16 L S h)) ∧ (∀ (L S : List Value) (h : icH), icE 189 16 L S h = icE 189 4 L S h) ∧ (∀ (L S : List Value) (h : icH), icE 189 19 L S h = exe icE 189 (e_iload 2 20 L S h)) ∧ (∀ (L S : List Value) (h : icH), icE 189 20 L S h = exe icE 189 (e_iret 0 L S h)) := ⟨r_189_0, r_189_1, r_189_2, r_189_3, r_189_5, r_189_6, r_189_9, r_189_10, r_189_11, r_189_12, r_189_13, r_189_16, r_189_19, r_189_20⟩
-- cX9_brings: heads [17]
theorem fe_190 (pc : Nat) : fet 190 pc = look k_190 pc := rfl
theorem r_190_0 (L S : List Value) (h : icH) : icE 190 0 L S h = exe icE 190 (e_aload 0 1 L S h) := icE_eq (i := .aload_n 0) (len := 1) (x1 := 0) (x2 := 0) (x3 := 0) (x4 := 64) ((fe_190 0).trans rfl) L S h
theorem r_190_1 (L S : List Value) (h : icH) : icE 190 1 L S h = exe icE 190 (e_vcal 8 180 1 0 4 L S h) := icE_eq (i := .invokevirtual 201) (len := 3) (x1 := 180) (x2 := 3) (x3 := 8) (x4 := 1207) ((fe_190 1).trans rfl) L S h
theorem r_190_4 (L S : List Value) (h : icH) : icE 190 4 L S h = icE 190 5 L (.int (nI 0) :: S) h := icE_eq (i := .iconst 0) (len := 1) (x1 := 0) (x2 := 0) (x3 := 0) (x4 := 64) ((fe_190 4).trans rfl) L S h
theorem r_190_5 (L S : List Value) (h : icH) : icE 190 5 L S h = exe icE 190 (e_istore 3 6 L S h) := icE_eq (i := .istore_n 3) (len := 1) (x1 := 0) (x2 := 0) (x3 := 0) (x4 := 64) ((fe_190 5).trans rfl) L S h
theorem r_190_6 (L S : List Value) (h : icH) : icE 190 6 L S h = icE 190 8 L (.int (nI 7) :: S) h := icE_eq (i := .bipush 7) (len := 2) (x1 := 0) (x2 := 0) (x3 := 0) (x4 := 64) ((fe_190 6).trans rfl) L S h
theorem r_190_8 (L S : List Value) (h : icH) : icE 190 8 L S h = exe icE 190 (e_iload 2 9 L S h) := icE_eq (i := .iload_n 2) (len := 1) (x1 := 0) (x2 := 0) (x3 := 0) (x4 := 64) ((fe_190 8).trans rfl) L S h
theorem r_190_9 (L S : List Value) (h : icH) : icE 190 9 L S h = exe icE 190 (e_call 189 4 2 12 L S h) := icE_eq (i := .invokestatic 207) (len := 3) (x1 := 189) (x2 := 1) (x3 := 0) (x4 := 1244) ((fe_190 9).trans rfl) L S h
theorem r_190_12 (L S : List Value) (h : icH) : icE 190 12 L S h = icE 190 14 L (.int (nI 7) :: S) h := icE_eq (i := .bipush 7) (len := 2) (x1 := 0) (x2 := 0) (x3 := 0) (x4 := 64) ((fe_190 12).trans rfl) L S h
theorem r_190_14 (L S : List Value) (h : icH) : icE 190 14 L S h = exe icE 190 (e_dvi (fun x y => x / y) 15 L S h) := icE_eq (i := .idiv) (len := 1) (x1 := 0) (x2 := 0) (x3 := 0) (x4 := 64) ((fe_190 14).trans rfl) L S h
theorem r_190_15 (L S : List Value) (h : icH) : icE 190 15 L S h = exe icE 190 (e_istore 4 17 L S h) := icE_eq (i := .istore 4) (len := 2) (x1 := 0) (x2 := 0) (x3 := 0) (x4 := 64) ((fe_190 15).trans rfl) L S h
theorem rh_190_17 (L S : List Value) (h : icH) : icE 190 17 L S h = exe icE 190 (e_iload 4 19 L S h) := icE_eq (i := .iload 4) (len := 2) (x1 := 0) (x2 := 0) (x3 := 0) (x4 := 64) ((fe_190 17).trans rfl) L S h
theorem r_190_19 (L S : List Value) (h : icH) : icE 190 19 L S h = exe icE 190 (e_if .le 108 22 L S h) := icE_eq (i := .ifCond .le 89) (len := 3) (x1 := 108) (x2 := 0) (x3 := 0) (x4 := 64) ((fe_190 19).trans rfl) L S h
theorem r_190_22 (L S : List Value) (h : icH) : icE 190 22 L S h = exe icE 190 (e_iload 1 23 L S h) := icE_eq (i := .iload_n 1) (len := 1) (x1 := 0) (x2 := 0) (x3 := 0) (x4 := 64) ((fe_190 22).trans rfl) L S h
theorem r_190_23 (L S : List Value) (h : icH) : icE 190 23 L S h = exe icE 190 (e_iload 4 25 L S h) := icE_eq (i := .iload 4) (len := 2) (x1 := 0) (x2 := 0) (x3 := 0) (x4 := 64) ((fe_190 23).trans rfl) L S h
theorem r_190_25 (L S : List Value) (h : icH) : icE 190 25 L S h = exe icE 190 (e_dvi (fun x y => x / y) 26 L S h) := icE_eq (i := .idiv) (len := 1) (x1 := 0) (x2 := 0) (x3 := 0) (x4 := 64) ((fe_190 25).trans rfl) L S h
theorem r_190_26 (L S : List Value) (h : icH) : icE 190 26 L S h = icE 190 28 L (.int (nI 7) :: S) h := icE_eq (i := .bipush 7) (len := 2) (x1 := 0) (x2 := 0) (x3 := 0) (x4 := 64) ((fe_190 26).trans rfl) L S h
theorem r_190_28 (L S : List Value) (h : icH) : icE 190 28 L S h = exe icE 190 (e_dvi (fun x y => x - x / y * y) 29 L S h) := icE_eq (i := .irem) (len := 1) (x1 := 0) (x2 := 0) (x3 := 0) (x4 := 64) ((fe_190 28).trans rfl) L S h
theorem r_190_29 (L S : List Value) (h : icH) : icE 190 29 L S h = exe icE 190 (e_istore 5 31 L S h) := icE_eq (i := .istore 5) (len := 2) (x1 := 0) (x2 := 0) (x3 := 0) (x4 := 64) ((fe_190 29).trans rfl) L S h
theorem r_190_31 (L S : List Value) (h : icH) : icE 190 31 L S h = exe icE 190 (e_iload 5 33 L S h) := icE_eq (i := .iload 5) (len := 2) (x1 := 0) (x2 := 0) (x3 := 0) (x4 := 64) ((fe_190 31).trans rfl) L S h
theorem r_190_33 (L S : List Value) (h : icH) : icE 190 33 L S h = icE 190 35 L (.int (nI 6) :: S) h := icE_eq (i := .bipush 6) (len := 2) (x1 := 0) (x2 := 0) (x3 := 0) (x4 := 64) ((fe_190 33).trans rfl) L S h
theorem r_190_35 (L S : List Value) (h : icH) : icE 190 35 L S h = exe icE 190 (e_cmp .ge 89 38 L S h) := icE_eq (i := .if_icmp .ge 54) (len := 3) (x1 := 89) (x2 := 0) (x3 := 0) (x4 := 64) ((fe_190 35).trans rfl) L S h
theorem r_190_38 (L S : List Value) (h : icH) : icE 190 38 L S h = exe icE 190 (e_iload 5 40 L S h) := icE_eq (i := .iload 5) (len := 2) (x1 := 0) (x2 := 0) (x3 := 0) (x4 := 64) ((fe_190 38).trans rfl) L S h
theorem r_190_40 (L S : List Value) (h : icH) : icE 190 40 L S h = exe icE 190 (e_aload 0 41 L S h) := icE_eq (i := .aload_n 0) (len := 1) (x1 := 0) (x2 := 0) (x3 := 0) (x4 := 64) ((fe_190 40).trans rfl) L S h
theorem r_190_41 (L S : List Value) (h : icH) : icE 190 41 L S h = exe icE 190 (e_getf 0 8 44 L S h) := icE_eq (i := .getfield 7) (len := 3) (x1 := 0) (x2 := 8) (x3 := 12) (x4 := 957) ((fe_190 41).trans rfl) L S h
theorem r_190_44 (L S : List Value) (h : icH) : icE 190 44 L S h = icE 190 46 L (.int (nI 10) :: S) h := icE_eq (i := .bipush 10) (len := 2) (x1 := 0) (x2 := 0) (x3 := 0) (x4 := 64) ((fe_190 44).trans rfl) L S h
theorem r_190_46 (L S : List Value) (h : icH) : icE 190 46 L S h = exe icE 190 (e_iald 47 L S h) := icE_eq (i := .iaload) (len := 1) (x1 := 0) (x2 := 0) (x3 := 0) (x4 := 64) ((fe_190 46).trans rfl) L S h
theorem r_190_47 (L S : List Value) (h : icH) : icE 190 47 L S h = exe icE 190 (e_cmp .ge 63 50 L S h) := icE_eq (i := .if_icmp .ge 16) (len := 3) (x1 := 63) (x2 := 0) (x3 := 0) (x4 := 64) ((fe_190 47).trans rfl) L S h
theorem r_190_50 (L S : List Value) (h : icH) : icE 190 50 L S h = exe icE 190 (e_aload 0 51 L S h) := icE_eq (i := .aload_n 0) (len := 1) (x1 := 0) (x2 := 0) (x3 := 0) (x4 := 64) ((fe_190 50).trans rfl) L S h
theorem r_190_51 (L S : List Value) (h : icH) : icE 190 51 L S h = exe icE 190 (e_getf 1 8 54 L S h) := icE_eq (i := .getfield 13) (len := 3) (x1 := 1) (x2 := 8) (x3 := 12) (x4 := 958) ((fe_190 51).trans rfl) L S h
theorem r_190_54 (L S : List Value) (h : icH) : icE 190 54 L S h = icE 190 56 L (.int (nI 50) :: S) h := icE_eq (i := .bipush 50) (len := 2) (x1 := 0) (x2 := 0) (x3 := 0) (x4 := 64) ((fe_190 54).trans rfl) L S h
theorem r_190_56 (L S : List Value) (h : icH) : icE 190 56 L S h = exe icE 190 (e_iload 5 58 L S h) := icE_eq (i := .iload 5) (len := 2) (x1 := 0) (x2 := 0) (x3 := 0) (x4 := 64) ((fe_190 56).trans rfl) L S h
theorem r_190_58 (L S : List Value) (h : icH) : icE 190 58 L S h = exe icE 190 (e_bin (fun x y => x + y) 59 L S h) := icE_eq (i := .iadd) (len := 1) (x1 := 0) (x2 := 0) (x3 := 0) (x4 := 64) ((fe_190 58).trans rfl) L S h
theorem r_190_59 (L S : List Value) (h : icH) : icE 190 59 L S h = exe icE 190 (e_iald 60 L S h) := icE_eq (i := .iaload) (len := 1) (x1 := 0) (x2 := 0) (x3 := 0) (x4 := 64) ((fe_190 59).trans rfl) L S h
theorem r_190_60 (L S : List Value) (h : icH) : icE 190 60 L S h = exe icE 190 (e_if .eq 65 63 L S h) := icE_eq (i := .ifCond .eq 5) (len := 3) (x1 := 65) (x2 := 0) (x3 := 0) (x4 := 64) ((fe_190 60).trans rfl) L S h
theorem r_190_63 (L S : List Value) (h : icH) : icE 190 63 L S h = icE 190 64 L (.int (-1) :: S) h := icE_eq (i := .iconst (-1)) (len := 1) (x1 := 0) (x2 := 0) (x3 := 0) (x4 := 64) ((fe_190 63).trans rfl) L S h
theorem r_190_64 (L S : List Value) (h : icH) : icE 190 64 L S h = exe icE 190 (e_iret 0 L S h) := icE_eq (i := .ireturn) (len := 1) (x1 := 0) (x2 := 0) (x3 := 0) (x4 := 64) ((fe_190 64).trans rfl) L S h
theorem r_190_65 (L S : List Value) (h : icH) : icE 190 65 L S h = exe icE 190 (e_aload 0 66 L S h) := icE_eq (i := .aload_n 0) (len := 1) (x1 := 0) (x2 := 0) (x3 := 0) (x4 := 64) ((fe_190 65).trans rfl) L S h
theorem r_190_66 (L S : List Value) (h : icH) : icE 190 66 L S h = exe icE 190 (e_getf 1 8 69 L S h) := icE_eq (i := .getfield 13) (len := 3) (x1 := 1) (x2 := 8) (x3 := 12) (x4 := 958) ((fe_190 66).trans rfl) L S h
theorem r_190_69 (L S : List Value) (h : icH) : icE 190 69 L S h = icE 190 71 L (.int (nI 50) :: S) h := icE_eq (i := .bipush 50) (len := 2) (x1 := 0) (x2 := 0) (x3 := 0) (x4 := 64) ((fe_190 69).trans rfl) L S h
theorem r_190_71 (L S : List Value) (h : icH) : icE 190 71 L S h = exe icE 190 (e_iload 5 73 L S h) := icE_eq (i := .iload 5) (len := 2) (x1 := 0) (x2 := 0) (x3 := 0) (x4 := 64) ((fe_190 71).trans rfl) L S h
theorem r_190_73 (L S : List Value) (h : icH) : icE 190 73 L S h = exe icE 190 (e_bin (fun x y => x + y) 74 L S h) := icE_eq (i := .iadd) (len := 1) (x1 := 0) (x2 := 0) (x3 := 0) (x4 := 64) ((fe_190 73).trans rfl) L S h
theorem r_190_74 (L S : List Value) (h : icH) : icE 190 74 L S h = icE 190 75 L (.int (nI 1) :: S) h := icE_eq (i := .iconst 1) (len := 1) (x1 := 0) (x2 := 0) (x3 := 0) (x4 := 64) ((fe_190 74).trans rfl) L S h
theorem r_190_75 (L S : List Value) (h : icH) : icE 190 75 L S h = exe icE 190 (e_iast 76 L S h) := icE_eq (i := .iastore) (len := 1) (x1 := 0) (x2 := 0) (x3 := 0) (x4 := 64) ((fe_190 75).trans rfl) L S h
theorem r_190_76 (L S : List Value) (h : icH) : icE 190 76 L S h = exe icE 190 (e_iload 3 77 L S h) := icE_eq (i := .iload_n 3) (len := 1) (x1 := 0) (x2 := 0) (x3 := 0) (x4 := 64) ((fe_190 76).trans rfl) L S h
theorem r_190_77 (L S : List Value) (h : icH) : icE 190 77 L S h = exe icE 190 (e_aload 0 78 L S h) := icE_eq (i := .aload_n 0) (len := 1) (x1 := 0) (x2 := 0) (x3 := 0) (x4 := 64) ((fe_190 77).trans rfl) L S h
theorem r_190_78 (L S : List Value) (h : icH) : icE 190 78 L S h = exe icE 190 (e_getf 1 8 81 L S h) := icE_eq (i := .getfield 13) (len := 3) (x1 := 1) (x2 := 8) (x3 := 12) (x4 := 958) ((fe_190 78).trans rfl) L S h
theorem r_190_81 (L S : List Value) (h : icH) : icE 190 81 L S h = icE 190 83 L (.int (nI 38) :: S) h := icE_eq (i := .bipush 38) (len := 2) (x1 := 0) (x2 := 0) (x3 := 0) (x4 := 64) ((fe_190 81).trans rfl) L S h
theorem r_190_83 (L S : List Value) (h : icH) : icE 190 83 L S h = exe icE 190 (e_iload 5 85 L S h) := icE_eq (i := .iload 5) (len := 2) (x1 := 0) (x2 := 0) (x3 := 0) (x4 := 64) ((fe_190 83).trans rfl) L S h
theorem r_190_85 (L S : List Value) (h : icH) : icE 190 85 L S h = exe icE 190 (e_bin (fun x y => x + y) 86 L S h) := icE_eq (i := .iadd) (len := 1) (x1 := 0) (x2 := 0) (x3 := 0) (x4 := 64) ((fe_190 85).trans rfl) L S h
theorem r_190_86 (L S : List Value) (h : icH) : icE 190 86 L S h = exe icE 190 (e_iald 87 L S h) := icE_eq (i := .iaload) (len := 1) (x1 := 0) (x2 := 0) (x3 := 0) (x4 := 64) ((fe_190 86).trans rfl) L S h
theorem r_190_87 (L S : List Value) (h : icH) : icE 190 87 L S h = exe icE 190 (e_bin (fun x y => x + y) 88 L S h) := icE_eq (i := .iadd) (len := 1) (x1 := 0) (x2 := 0) (x3 := 0) (x4 := 64) ((fe_190 87).trans rfl) L S h
theorem r_190_88 (L S : List Value) (h : icH) : icE 190 88 L S h = exe icE 190 (e_istore 3 89 L S h) := icE_eq (i := .istore_n 3) (len := 1) (x1 := 0) (x2 := 0) (x3 := 0) (x4 := 64) ((fe_190 88).trans rfl) L S h
theorem r_190_89 (L S : List Value) (h : icH) : icE 190 89 L S h = exe icE 190 (e_aload 0 90 L S h) := icE_eq (i := .aload_n 0) (len := 1) (x1 := 0) (x2 := 0) (x3 := 0) (x4 := 64) ((fe_190 89).trans rfl) L S h
theorem r_190_90 (L S : List Value) (h : icH) : icE 190 90 L S h = exe icE 190 (e_aload 0 91 L S h) := icE_eq (i := .aload_n 0) (len := 1) (x1 := 0) (x2 := 0) (x3 := 0) (x4 := 64) ((fe_190 90).trans rfl) L S h
theorem r_190_91 (L S : List Value) (h : icH) : icE 190 91 L S h = exe icE 190 (e_getf 1 8 94 L S h) := icE_eq (i := .getfield 13) (len := 3) (x1 := 1) (x2 := 8) (x3 := 12) (x4 := 958) ((fe_190 91).trans rfl) L S h
theorem r_190_94 (L S : List Value) (h : icH) : icE 190 94 L S h = exe icE 190 (e_vcal 8 150 2 1 97 L S h) := icE_eq (i := .invokevirtual 168) (len := 3) (x1 := 150) (x2 := 3) (x3 := 8) (x4 := 1126) ((fe_190 94).trans rfl) L S h
theorem r_190_97 (L S : List Value) (h : icH) : icE 190 97 L S h = exe icE 190 (e_pop 98 L S h) := icE_eq (i := .pop) (len := 1) (x1 := 0) (x2 := 0) (x3 := 0) (x4 := 64) ((fe_190 97).trans rfl) L S h
theorem r_190_98 (L S : List Value) (h : icH) : icE 190 98 L S h = exe icE 190 (e_iload 4 100 L S h) := icE_eq (i := .iload 4) (len := 2) (x1 := 0) (x2 := 0) (x3 := 0) (x4 := 64) ((fe_190 98).trans rfl) L S h
theorem r_190_100 (L S : List Value) (h : icH) : icE 190 100 L S h = icE 190 102 L (.int (nI 7) :: S) h := icE_eq (i := .bipush 7) (len := 2) (x1 := 0) (x2 := 0) (x3 := 0) (x4 := 64) ((fe_190 100).trans rfl) L S h
theorem r_190_102 (L S : List Value) (h : icH) : icE 190 102 L S h = exe icE 190 (e_dvi (fun x y => x / y) 103 L S h) := icE_eq (i := .idiv) (len := 1) (x1 := 0) (x2 := 0) (x3 := 0) (x4 := 64) ((fe_190 102).trans rfl) L S h
theorem r_190_103 (L S : List Value) (h : icH) : icE 190 103 L S h = exe icE 190 (e_istore 4 105 L S h) := icE_eq (i := .istore 4) (len := 2) (x1 := 0) (x2 := 0) (x3 := 0) (x4 := 64) ((fe_190 103).trans rfl) L S h
theorem r_190_105 (L S : List Value) (h : icH) : icE 190 105 L S h = icE 190 17 L S h := icE_eq (i := .goto (-88)) (len := 3) (x1 := 17) (x2 := 0) (x3 := 0) (x4 := 64) ((fe_190 105).trans rfl) L S h
theorem r_190_108 (L S : List Value) (h : icH) : icE 190 108 L S h = exe icE 190 (e_iload 3 109 L S h) := icE_eq (i := .iload_n 3) (len := 1) (x1 := 0) (x2 := 0) (x3 := 0) (x4 := 64) ((fe_190 108).trans rfl) L S h
theorem r_190_109 (L S : List Value) (h : icH) : icE 190 109 L S h = exe icE 190 (e_iret 0 L S h) := icE_eq (i := .ireturn) (len := 1) (x1 := 0) (x2 := 0) (x3 := 0) (x4 := 64) ((fe_190 109).trans rfl) L S h
theorem rw_190 : (∀ (L S : List Value) (h : icH), icE 190 0 L S h = exe icE 190 (e_aload 0 1 L S h)) ∧ (∀ (L S : List Value) (h : icH), icE 190 1 L S h = exe icE 190 (e_vcal 8 180 1 0 4 L S h)) ∧ (∀ (L S : List Value) (h : icH), icE 190 4 L S h = icE 190 5 L (.int (nI 0) :: S) h) ∧ (∀ (L S : List Value) (h : icH), icE 190 5 L S h = exe icE 190 (e_istore 3 6 L S h)) ∧ (∀ (L S : List Value) (h : icH), icE 190 6 L S h = icE 190 8 L (.int (nI 7) :: S) h) ∧ (∀ (L S : List Value) (h : icH), icE 190 8 L S h = exe icE 190 (e_iload 2 9 L S h)) ∧ (∀ (L S : List Value) (h : icH), icE 190 9 L S h = exe icE 190 (e_call 189 4 2 12 L S h)) ∧ (∀ (L S : List Value) (h : icH), icE 190 12 L S h = icE 190 14 L (.int (nI 7) :: S) h) ∧ (∀ (L S : List Value) (h : icH), icE 190 14 L S h = exe icE 190 (e_dvi (fun x y => x / y) 15 L S h)) ∧ (∀ (L S : List Value) (h : icH), icE 190 15 L S h = exe icE 190 (e_istore 4 17 L S h)) ∧ (∀ (L S : List Value) (h : icH), icE 190 19 L S h = exe icE 190 (e_if .le 108 22 L S h)) ∧ (∀ (L S : List Value) (h : icH), icE 190 22 L S h = exe icE 190 (e_iload 1 23 L S h)) ∧ (∀ (L S : List Value) (h : icH), icE 190 23 L S h = exe icE 190 (e_iload 4 25 L S h)) ∧ (∀ (L S : List Value) (h : icH), icE 190 25 L S h = exe icE 190 (e_dvi (fun x y => x / y) 26 L S h)) ∧ (∀ (L S : List Value) (h : icH), icE 190 26 L S h = icE 190 28 L (.int (nI 7) :: S) h) ∧ (∀ (L S : List Value) (h : icH), icE 190 28 L S h = exe icE 190 (e_dvi (fun x y => x - x / y * y) 29 L S h)) ∧ (∀ (L S : List Value) (h : icH), icE 190 29 L S h = exe icE 190 (e_istore 5 31 L S h)) ∧ (∀ (L S : List Value) (h : icH), icE 190 31 L S h = exe icE 190 (e_iload 5 33 L S h)) ∧ (∀ (L S : List Value) (h : icH), icE 190 33 L S h = icE 190 35 L (.int (nI 6) :: S) h) ∧ (∀ (L S : List Value) (h : icH), icE 190 35 L S h = exe icE 190 (e_cmp .ge 89 38 L S h)) ∧ (∀ (L S : List Value) (h : icH), icE 190 38 L S h = exe icE 190 (e_iload 5 40 L S h)) ∧ (∀ (L S : List Value) (h : icH), icE 190 40 L S h = exe icE 190 (e_aload 0 41 L S h)) ∧ (∀ (L S : List Value) (h : icH), icE 190 41 L S h = exe icE 190 (e_getf 0 8 44 L S h)) ∧ (∀ (L S : List Value) (h : icH), icE 190 44 L S h = icE 190 46 L (.int (nI 10) :: S) h) ∧ (∀ (L S : List Value) (h : icH), icE 190 46 L S h = exe icE 190 (e_iald 47 L S h)) ∧ (∀ (L S : List Value) (h : icH), icE 190 47 L S h = exe icE 190 (e_cmp .ge 63 50 L S h)) ∧ (∀ (L S : List Value) (h : icH), icE 190 50 L S h = exe icE 190 (e_aload 0 51 L S h)) ∧ (∀ (L S : List Value) (h : icH), icE 190 51 L S h = exe icE 190 (e_getf 1 8 54 L S h)) ∧ (∀ (L S : List Value) (h : icH), icE 190 54 L S h = icE 190 56 L (.int (nI 50) :: S) h) ∧ (∀ (L S : List Value) (h : icH), icE 190 56 L S h = exe icE 190 (e_iload 5 58 L S h)) ∧ (∀ (L S : List Value) (h : icH), icE 190 58 L S h = exe icE 190 (e_bin (fun x y => x + y) 59 L S h)) ∧ (∀ (L S : List Value) (h : icH), icE 190 59 L S h = exe icE 190 (e_iald 60 L S h)) ∧ (∀ (L S : List Value) (h : icH), icE 190 60 L S h = exe icE 190 (e_if .eq 65 63 L S h)) ∧ (∀ (L S : List Value) (h : icH), icE 190 63 L S h = icE 190 64 L (.int (-1) :: S) h) ∧ (∀ (L S : List Value) (h : icH), icE 190 64 L S h = exe icE 190 (e_iret 0 L S h)) ∧ (∀ (L S : List Value) (h : icH), icE 190 65 L S h = exe icE 190 (e_aload 0 66 L S h)) ∧ (∀ (L S : List Value) (h : icH), icE 190 66 L S h = exe icE 190 (e_getf 1 8 69 L S h)) ∧ (∀ (L S : List Value) (h : icH), icE 190 69 L S h = icE 190 71 L (.int (nI 50) :: S) h) ∧ (∀ (L S : List Value) (h : icH), icE 190 71 L S h = exe icE 190 (e_iload 5 73 L S h)) ∧ (∀ (L S : List Value) (h : icH), icE 190 73 L S h = exe icE 190 (e_bin (fun x y => x + y) 74 L S h)) ∧ (∀ (L S : List Value) (h : icH), icE 190 74 L S h = icE 190 75 L (.int (nI 1) :: S) h) ∧ (∀ (L S : List Value) (h : icH), icE 190 75 L S h = exe icE 190 (e_iast 76 L S h)) ∧ (∀ (L S : List Value) (h : icH), icE 190 76 L S h = exe icE 190 (e_iload 3 77 L S h)) ∧ (∀ (L S : List Value) (h : icH), icE 190 77 L S h = exe icE 190 (e_aload 0 78 L S h)) ∧ (∀ (L S : List Value) (h : icH), icE 190 78 L S h = exe icE 190 (e_getf 1 8 81 L S h)) ∧ (∀ (L S : List Value) (h : icH), icE 190 81 L S h = icE 190 83 L (.int (nI 38) :: S) h) ∧ (∀ (L S : List Value) (h : icH), icE 190 83 L S h = exe icE 190 (e_iload 5 85 L S h)) ∧ (∀ (L S : List Value) (h : icH), icE 190 85 L S h = exe icE 190 (e_bin (fun x y => x + y) 86 L S h)) ∧ (∀ (L S : List Value) (h : icH), icE 190 86 L S h = exe icE 190 (e_iald 87 L S h)) ∧ (∀ (L S : List Value) (h : icH), icE 190 87 L S h = exe icE 190 (e_bin (fun x y => x + y) 88 L S h)) ∧ (∀ (L S : List Value) (h : icH), icE 190 88 L S h = exe icE 190 (e_istore 3 89 L S h)) ∧ (∀ (L S : List Value) (h : icH), icE 190 89 L S h = exe icE 190 (e_aload 0 90 L S h)) ∧ (∀ (L S : List Value) (h : icH), icE 190 90 L S h = exe icE 190 (e_aload 0 91 L S h)) ∧ (∀ (L S : List Value) (h : icH), icE 190 91 L S h = exe icE 190 (e_getf 1 8 94 L S h)) ∧ (∀ (L S : List Value) (h : icH), icE 190 94 L S h = exe icE 190 (e_vcal 8 150 2 1 97 L S h)) ∧ (∀ (L S : List Value) (h : icH), icE 190 97 L S h = exe icE 190 (e_pop 98 L S h)) ∧ (∀ (L S : List Value) (h : icH), icE 190 98 L S h = exe icE 190 (e_iload 4 100 L S h)) ∧ (∀ (L S : List Value) (h : icH), icE 190 100 L S h = icE 190 102 L (.int (nI 7) :: S) h) ∧ (∀ (L S : List Value) (h : icH), icE 190 102 L S h = exe icE 190 (e_dvi (fun x y => x / y) 103 L S h)) ∧ (∀ (L S : List Value) (h : icH), icE 190 103 L S h = exe icE 190 (e_istore 4 105 L S h)) ∧ (∀ (L S : List Value) (h : icH), icE 190 105 L S h = icE 190 17 L S h) ∧ (∀ (L S : List Value) (h : icH), icE 190 108 L S h = exe icE 190 (e_iload 3 109 L S h)) ∧ (∀ (L S : List Value) (h : icH), icE 190 109 L S h = exe icE 190 (e_iret 0 L S h)) := ⟨r_190_0, r_190_1, r_190_4, r_190_5, r_190_6, r_190_8, r_190_9, r_190_12, r_190_14, r_190_15, r_190_19, r_190_22, r_190_23, r_190_25, r_190_26, r_190_28, r_190_29, r_190_31, r_190_33, r_190_35, r_190_38, r_190_40, r_190_41, r_190_44, r_190_46, r_190_47, r_190_50, r_190_51, r_190_54, r_190_56, r_190_58, r_190_59, r_190_60, r_190_63, r_190_64, r_190_65, r_190_66, r_190_69, r_190_71, r_190_73, r_190_74, r_190_75, r_190_76, r_190_77, r_190_78, r_190_81, r_190_83, r_190_85, r_190_86, r_190_87, r_190_88, r_190_89, r_190_90, r_190_91, r_190_94, r_190_97, r_190_98, r_190_100, r_190_102, r_190_103, r_190_105, r_190_108, r_190_109⟩
-- cX9_most: heads [40]
theorem fe_191 (pc : Nat) : fet 191 pc = look k_191 pc := rfl
theorem r_191_0 (L S : List Value) (h : icH) : icE 191 0 L S h = exe icE 191 (e_iload 1 1 L S h) := icE_eq (i := .iload_n 1) (len := 1) (x1 := 0) (x2 := 0) (x3 := 0) (x4 := 64) ((fe_191 0).trans rfl) L S h
theorem r_191_1 (L S : List Value) (h : icH) : icE 191 1 L S h = exe icE 191 (e_i2l 2 L S h) := icE_eq (i := .i2l) (len := 1) (x1 := 0) (x2 := 0) (x3 := 0) (x4 := 64) ((fe_191 1).trans rfl) L S h
theorem r_191_2 (L S : List Value) (h : icH) : icE 191 2 L S h = icE 191 3 L (.long (lN 1) :: S) h := icE_eq (i := .lconst 1) (len := 1) (x1 := 0) (x2 := 0) (x3 := 0) (x4 := 64) ((fe_191 2).trans rfl) L S h
theorem r_191_3 (L S : List Value) (h : icH) : icE 191 3 L S h = icE 191 6 L (.long (lN 4) :: S) h := icE_eq (i := .ldc2_w 210) (len := 3) (x1 := 4) (x2 := 0) (x3 := 0) (x4 := 1243) ((fe_191 3).trans rfl) L S h
theorem r_191_6 (L S : List Value) (h : icH) : icE 191 6 L S h = exe icE 191 (e_call 136 6 3 9 L S h) := icE_eq (i := .invokestatic 54) (len := 3) (x1 := 136) (x2 := 1) (x3 := 0) (x4 := 1030) ((fe_191 6).trans rfl) L S h
theorem r_191_9 (L S : List Value) (h : icH) : icE 191 9 L S h = exe icE 191 (e_if .eq 17 12 L S h) := icE_eq (i := .ifCond .eq 8) (len := 3) (x1 := 17) (x2 := 0) (x3 := 0) (x4 := 64) ((fe_191 9).trans rfl) L S h
theorem r_191_12 (L S : List Value) (h : icH) : icE 191 12 L S h = exe icE 191 (e_iload 2 13 L S h) := icE_eq (i := .iload_n 2) (len := 1) (x1 := 0) (x2 := 0) (x3 := 0) (x4 := 64) ((fe_191 12).trans rfl) L S h
theorem r_191_13 (L S : List Value) (h : icH) : icE 191 13 L S h = icE 191 14 L (.int (-1) :: S) h := icE_eq (i := .iconst (-1)) (len := 1) (x1 := 0) (x2 := 0) (x3 := 0) (x4 := 64) ((fe_191 13).trans rfl) L S h
theorem r_191_14 (L S : List Value) (h : icH) : icE 191 14 L S h = exe icE 191 (e_cmp .ge 24 17 L S h) := icE_eq (i := .if_icmp .ge 10) (len := 3) (x1 := 24) (x2 := 0) (x3 := 0) (x4 := 64) ((fe_191 14).trans rfl) L S h
theorem r_191_17 (L S : List Value) (h : icH) : icE 191 17 L S h = exe icE 191 (e_aload 0 18 L S h) := icE_eq (i := .aload_n 0) (len := 1) (x1 := 0) (x2 := 0) (x3 := 0) (x4 := 64) ((fe_191 17).trans rfl) L S h
theorem r_191_18 (L S : List Value) (h : icH) : icE 191 18 L S h = icE 191 20 L (.int (-10) :: S) h := icE_eq (i := .bipush (-10)) (len := 2) (x1 := 0) (x2 := 0) (x3 := 0) (x4 := 64) ((fe_191 18).trans rfl) L S h
theorem r_191_20 (L S : List Value) (h : icH) : icE 191 20 L S h = exe icE 191 (e_vcal 8 139 2 1 23 L S h) := icE_eq (i := .invokevirtual 88) (len := 3) (x1 := 139) (x2 := 3) (x3 := 8) (x4 := 1033) ((fe_191 20).trans rfl) L S h
theorem r_191_23 (L S : List Value) (h : icH) : icE 191 23 L S h = exe icE 191 (e_iret 0 L S h) := icE_eq (i := .ireturn) (len := 1) (x1 := 0) (x2 := 0) (x3 := 0) (x4 := 64) ((fe_191 23).trans rfl) L S h
theorem r_191_24 (L S : List Value) (h : icH) : icE 191 24 L S h = exe icE 191 (e_iload 2 25 L S h) := icE_eq (i := .iload_n 2) (len := 1) (x1 := 0) (x2 := 0) (x3 := 0) (x4 := 64) ((fe_191 24).trans rfl) L S h
theorem r_191_25 (L S : List Value) (h : icH) : icE 191 25 L S h = exe icE 191 (e_iload 1 26 L S h) := icE_eq (i := .iload_n 1) (len := 1) (x1 := 0) (x2 := 0) (x3 := 0) (x4 := 64) ((fe_191 25).trans rfl) L S h
theorem r_191_26 (L S : List Value) (h : icH) : icE 191 26 L S h = exe icE 191 (e_cmp .lt 32 29 L S h) := icE_eq (i := .if_icmp .lt 6) (len := 3) (x1 := 32) (x2 := 0) (x3 := 0) (x4 := 64) ((fe_191 26).trans rfl) L S h
theorem r_191_29 (L S : List Value) (h : icH) : icE 191 29 L S h = icE 191 31 L (.int (-5) :: S) h := icE_eq (i := .bipush (-5)) (len := 2) (x1 := 0) (x2 := 0) (x3 := 0) (x4 := 64) ((fe_191 29).trans rfl) L S h
theorem r_191_31 (L S : List Value) (h : icH) : icE 191 31 L S h = exe icE 191 (e_iret 0 L S h) := icE_eq (i := .ireturn) (len := 1) (x1 := 0) (x2 := 0) (x3 := 0) (x4 := 64) ((fe_191 31).trans rfl) L S h
theorem r_191_32 (L S : List Value) (h : icH) : icE 191 32 L S h = icE 191 33 L (.int (nI 0) :: S) h := icE_eq (i := .iconst 0) (len := 1) (x1 := 0) (x2 := 0) (x3 := 0) (x4 := 64) ((fe_191 32).trans rfl) L S h
theorem r_191_33 (L S : List Value) (h : icH) : icE 191 33 L S h = exe icE 191 (e_istore 3 34 L S h) := icE_eq (i := .istore_n 3) (len := 1) (x1 := 0) (x2 := 0) (x3 := 0) (x4 := 64) ((fe_191 33).trans rfl) L S h
theorem r_191_34 (L S : List Value) (h : icH) : icE 191 34 L S h = icE 191 35 L (.int (-1) :: S) h := icE_eq (i := .iconst (-1)) (len := 1) (x1 := 0) (x2 := 0) (x3 := 0) (x4 := 64) ((fe_191 34).trans rfl) L S h
theorem r_191_35 (L S : List Value) (h : icH) : icE 191 35 L S h = exe icE 191 (e_istore 4 37 L S h) := icE_eq (i := .istore 4) (len := 2) (x1 := 0) (x2 := 0) (x3 := 0) (x4 := 64) ((fe_191 35).trans rfl) L S h
theorem r_191_37 (L S : List Value) (h : icH) : icE 191 37 L S h = icE 191 38 L (.int (nI 0) :: S) h := icE_eq (i := .iconst 0) (len := 1) (x1 := 0) (x2 := 0) (x3 := 0) (x4 := 64) ((fe_191 37).trans rfl) L S h
theorem r_191_38 (L S : List Value) (h : icH) : icE 191 38 L S h = exe icE 191 (e_istore 5 40 L S h) := icE_eq (i := .istore 5) (len := 2) (x1 := 0) (x2 := 0) (x3 := 0) (x4 := 64) ((fe_191 38).trans rfl) L S h
theorem rh_191_40 (L S : List Value) (h : icH) : icE 191 40 L S h = exe icE 191 (e_iload 5 42 L S h) := icE_eq (i := .iload 5) (len := 2) (x1 := 0) (x2 := 0) (x3 := 0) (x4 := 64) ((fe_191 40).trans rfl) L S h
theorem r_191_42 (L S : List Value) (h : icH) : icE 191 42 L S h = icE 191 44 L (.int (nI 7) :: S) h := icE_eq (i := .bipush 7) (len := 2) (x1 := 0) (x2 := 0) (x3 := 0) (x4 := 64) ((fe_191 42).trans rfl) L S h
theorem r_191_44 (L S : List Value) (h : icH) : icE 191 44 L S h = exe icE 191 (e_iload 1 45 L S h) := icE_eq (i := .iload_n 1) (len := 1) (x1 := 0) (x2 := 0) (x3 := 0) (x4 := 64) ((fe_191 44).trans rfl) L S h
theorem r_191_45 (L S : List Value) (h : icH) : icE 191 45 L S h = exe icE 191 (e_call 189 4 2 48 L S h) := icE_eq (i := .invokestatic 207) (len := 3) (x1 := 189) (x2 := 1) (x3 := 0) (x4 := 1244) ((fe_191 45).trans rfl) L S h
theorem r_191_48 (L S : List Value) (h : icH) : icE 191 48 L S h = exe icE 191 (e_cmp .ge 80 51 L S h) := icE_eq (i := .if_icmp .ge 32) (len := 3) (x1 := 80) (x2 := 0) (x3 := 0) (x4 := 64) ((fe_191 48).trans rfl) L S h
theorem r_191_51 (L S : List Value) (h : icH) : icE 191 51 L S h = exe icE 191 (e_aload 0 52 L S h) := icE_eq (i := .aload_n 0) (len := 1) (x1 := 0) (x2 := 0) (x3 := 0) (x4 := 64) ((fe_191 51).trans rfl) L S h
theorem r_191_52 (L S : List Value) (h : icH) : icE 191 52 L S h = exe icE 191 (e_iload 5 54 L S h) := icE_eq (i := .iload 5) (len := 2) (x1 := 0) (x2 := 0) (x3 := 0) (x4 := 64) ((fe_191 52).trans rfl) L S h
theorem r_191_54 (L S : List Value) (h : icH) : icE 191 54 L S h = exe icE 191 (e_iload 1 55 L S h) := icE_eq (i := .iload_n 1) (len := 1) (x1 := 0) (x2 := 0) (x3 := 0) (x4 := 64) ((fe_191 54).trans rfl) L S h
theorem r_191_55 (L S : List Value) (h : icH) : icE 191 55 L S h = exe icE 191 (e_vcal 8 190 6 2 58 L S h) := icE_eq (i := .invokevirtual 212) (len := 3) (x1 := 190) (x2 := 3) (x3 := 8) (x4 := 1247) ((fe_191 55).trans rfl) L S h
theorem r_191_58 (L S : List Value) (h : icH) : icE 191 58 L S h = exe icE 191 (e_istore 6 60 L S h) := icE_eq (i := .istore 6) (len := 2) (x1 := 0) (x2 := 0) (x3 := 0) (x4 := 64) ((fe_191 58).trans rfl) L S h
theorem r_191_60 (L S : List Value) (h : icH) : icE 191 60 L S h = exe icE 191 (e_iload 6 62 L S h) := icE_eq (i := .iload 6) (len := 2) (x1 := 0) (x2 := 0) (x3 := 0) (x4 := 64) ((fe_191 60).trans rfl) L S h
theorem r_191_62 (L S : List Value) (h : icH) : icE 191 62 L S h = exe icE 191 (e_iload 4 64 L S h) := icE_eq (i := .iload 4) (len := 2) (x1 := 0) (x2 := 0) (x3 := 0) (x4 := 64) ((fe_191 62).trans rfl) L S h
theorem r_191_64 (L S : List Value) (h : icH) : icE 191 64 L S h = exe icE 191 (e_cmp .le 74 67 L S h) := icE_eq (i := .if_icmp .le 10) (len := 3) (x1 := 74) (x2 := 0) (x3 := 0) (x4 := 64) ((fe_191 64).trans rfl) L S h
theorem r_191_67 (L S : List Value) (h : icH) : icE 191 67 L S h = exe icE 191 (e_iload 6 69 L S h) := icE_eq (i := .iload 6) (len := 2) (x1 := 0) (x2 := 0) (x3 := 0) (x4 := 64) ((fe_191 67).trans rfl) L S h
theorem r_191_69 (L S : List Value) (h : icH) : icE 191 69 L S h = exe icE 191 (e_istore 4 71 L S h) := icE_eq (i := .istore 4) (len := 2) (x1 := 0) (x2 := 0) (x3 := 0) (x4 := 64) ((fe_191 69).trans rfl) L S h
theorem r_191_71 (L S : List Value) (h : icH) : icE 191 71 L S h = exe icE 191 (e_iload 5 73 L S h) := icE_eq (i := .iload 5) (len := 2) (x1 := 0) (x2 := 0) (x3 := 0) (x4 := 64) ((fe_191 71).trans rfl) L S h
theorem r_191_73 (L S : List Value) (h : icH) : icE 191 73 L S h = exe icE 191 (e_istore 3 74 L S h) := icE_eq (i := .istore_n 3) (len := 1) (x1 := 0) (x2 := 0) (x3 := 0) (x4 := 64) ((fe_191 73).trans rfl) L S h
theorem r_191_74 (L S : List Value) (h : icH) : icE 191 74 L S h = exe icE 191 (e_iinc 5 (nI 1) 77 L S h) := icE_eq (i := .iinc 5 1) (len := 3) (x1 := 0) (x2 := 0) (x3 := 0) (x4 := 64) ((fe_191 74).trans rfl) L S h
theorem r_191_77 (L S : List Value) (h : icH) : icE 191 77 L S h = icE 191 40 L S h := icE_eq (i := .goto (-37)) (len := 3) (x1 := 40) (x2 := 0) (x3 := 0) (x4 := 64) ((fe_191 77).trans rfl) L S h
theorem r_191_80 (L S : List Value) (h : icH) : icE 191 80 L S h = exe icE 191 (e_iload 2 81 L S h) := icE_eq (i := .iload_n 2) (len := 1) (x1 := 0) (x2 := 0) (x3 := 0) (x4 := 64) ((fe_191 80).trans rfl) L S h
theorem r_191_81 (L S : List Value) (h : icH) : icE 191 81 L S h = exe icE 191 (e_if .ge 89 84 L S h) := icE_eq (i := .ifCond .ge 8) (len := 3) (x1 := 89) (x2 := 0) (x3 := 0) (x4 := 64) ((fe_191 81).trans rfl) L S h
theorem r_191_84 (L S : List Value) (h : icH) : icE 191 84 L S h = exe icE 191 (e_iload 4 86 L S h) := icE_eq (i := .iload 4) (len := 2) (x1 := 0) (x2 := 0) (x3 := 0) (x4 := 64) ((fe_191 84).trans rfl) L S h
theorem r_191_86 (L S : List Value) (h : icH) : icE 191 86 L S h = icE 191 104 L S h := icE_eq (i := .goto 18) (len := 3) (x1 := 104) (x2 := 0) (x3 := 0) (x4 := 64) ((fe_191 86).trans rfl) L S h
theorem r_191_89 (L S : List Value) (h : icH) : icE 191 89 L S h = exe icE 191 (e_iload 3 90 L S h) := icE_eq (i := .iload_n 3) (len := 1) (x1 := 0) (x2 := 0) (x3 := 0) (x4 := 64) ((fe_191 89).trans rfl) L S h
theorem r_191_90 (L S : List Value) (h : icH) : icE 191 90 L S h = icE 191 92 L (.int (nI 7) :: S) h := icE_eq (i := .bipush 7) (len := 2) (x1 := 0) (x2 := 0) (x3 := 0) (x4 := 64) ((fe_191 90).trans rfl) L S h
theorem r_191_92 (L S : List Value) (h : icH) : icE 191 92 L S h = exe icE 191 (e_iload 1 93 L S h) := icE_eq (i := .iload_n 1) (len := 1) (x1 := 0) (x2 := 0) (x3 := 0) (x4 := 64) ((fe_191 92).trans rfl) L S h
theorem r_191_93 (L S : List Value) (h : icH) : icE 191 93 L S h = icE 191 94 L (.int (nI 1) :: S) h := icE_eq (i := .iconst 1) (len := 1) (x1 := 0) (x2 := 0) (x3 := 0) (x4 := 64) ((fe_191 93).trans rfl) L S h
theorem r_191_94 (L S : List Value) (h : icH) : icE 191 94 L S h = exe icE 191 (e_bin (fun x y => x - y) 95 L S h) := icE_eq (i := .isub) (len := 1) (x1 := 0) (x2 := 0) (x3 := 0) (x4 := 64) ((fe_191 94).trans rfl) L S h
theorem r_191_95 (L S : List Value) (h : icH) : icE 191 95 L S h = exe icE 191 (e_iload 2 96 L S h) := icE_eq (i := .iload_n 2) (len := 1) (x1 := 0) (x2 := 0) (x3 := 0) (x4 := 64) ((fe_191 95).trans rfl) L S h
theorem r_191_96 (L S : List Value) (h : icH) : icE 191 96 L S h = exe icE 191 (e_bin (fun x y => x - y) 97 L S h) := icE_eq (i := .isub) (len := 1) (x1 := 0) (x2 := 0) (x3 := 0) (x4 := 64) ((fe_191 96).trans rfl) L S h
theorem r_191_97 (L S : List Value) (h : icH) : icE 191 97 L S h = exe icE 191 (e_call 189 4 2 100 L S h) := icE_eq (i := .invokestatic 207) (len := 3) (x1 := 189) (x2 := 1) (x3 := 0) (x4 := 1244) ((fe_191 97).trans rfl) L S h
theorem r_191_100 (L S : List Value) (h : icH) : icE 191 100 L S h = exe icE 191 (e_dvi (fun x y => x / y) 101 L S h) := icE_eq (i := .idiv) (len := 1) (x1 := 0) (x2 := 0) (x3 := 0) (x4 := 64) ((fe_191 100).trans rfl) L S h
theorem r_191_101 (L S : List Value) (h : icH) : icE 191 101 L S h = icE 191 103 L (.int (nI 7) :: S) h := icE_eq (i := .bipush 7) (len := 2) (x1 := 0) (x2 := 0) (x3 := 0) (x4 := 64) ((fe_191 101).trans rfl) L S h
theorem r_191_103 (L S : List Value) (h : icH) : icE 191 103 L S h = exe icE 191 (e_dvi (fun x y => x - x / y * y) 104 L S h) := icE_eq (i := .irem) (len := 1) (x1 := 0) (x2 := 0) (x3 := 0) (x4 := 64) ((fe_191 103).trans rfl) L S h
theorem r_191_104 (L S : List Value) (h : icH) : icE 191 104 L S h = exe icE 191 (e_iret 0 L S h) := icE_eq (i := .ireturn) (len := 1) (x1 := 0) (x2 := 0) (x3 := 0) (x4 := 64) ((fe_191 104).trans rfl) L S h
theorem rw_191 : (∀ (L S : List Value) (h : icH), icE 191 0 L S h = exe icE 191 (e_iload 1 1 L S h)) ∧ (∀ (L S : List Value) (h : icH), icE 191 1 L S h = exe icE 191 (e_i2l 2 L S h)) ∧ (∀ (L S : List Value) (h : icH), icE 191 2 L S h = icE 191 3 L (.long (lN 1) :: S) h) ∧ (∀ (L S : List Value) (h : icH), icE 191 3 L S h = icE 191 6 L (.long (lN 4) :: S) h) ∧ (∀ (L S : List Value) (h : icH), icE 191 6 L S h = exe icE 191 (e_call 136 6 3 9 L S h)) ∧ (∀ (L S : List Value) (h : icH), icE 191 9 L S h = exe icE 191 (e_if .eq 17 12 L S h)) ∧ (∀ (L S : List Value) (h : icH), icE 191 12 L S h = exe icE 191 (e_iload 2 13 L S h)) ∧ (∀ (L S : List Value) (h : icH), icE 191 13 L S h = icE 191 14 L (.int (-1) :: S) h) ∧ (∀ (L S : List Value) (h : icH), icE 191 14 L S h = exe icE 191 (e_cmp .ge 24 17 L S h)) ∧ (∀ (L S : List Value) (h : icH), icE 191 17 L S h = exe icE 191 (e_aload 0 18 L S h)) ∧ (∀ (L S : List Value) (h : icH), icE 191 18 L S h = icE 191 20 L (.int (-10) :: S) h) ∧ (∀ (L S : List Value) (h : icH), icE 191 20 L S h = exe icE 191 (e_vcal 8 139 2 1 23 L S h)) ∧ (∀ (L S : List Value) (h : icH), icE 191 23 L S h = exe icE 191 (e_iret 0 L S h)) ∧ (∀ (L S : List Value) (h : icH), icE 191 24 L S h = exe icE 191 (e_iload 2 25 L S h)) ∧ (∀ (L S : List Value) (h : icH), icE 191 25 L S h = exe icE 191 (e_iload 1 26 L S h)) ∧ (∀ (L S : List Value) (h : icH), icE 191 26 L S h = exe icE 191 (e_cmp .lt 32 29 L S h)) ∧ (∀ (L S : List Value) (h : icH), icE 191 29 L S h = icE 191 31 L (.int (-5) :: S) h) ∧ (∀ (L S : List Value) (h : icH), icE 191 31 L S h = exe icE 191 (e_iret 0 L S h)) ∧ (∀ (L S : List Value) (h : icH), icE 191 32 L S h = icE 191 33 L (.int (nI 0) :: S) h) ∧ (∀ (L S : List Value) (h : icH), icE 191 33 L S h = exe icE 191 (e_istore 3 34 L S h)) ∧ (∀ (L S : List Value) (h : icH), icE 191 34 L S h = icE 191 35 L (.int (-1) :: S) h) ∧ (∀ (L S : List Value) (h : icH), icE 191 35 L S h = exe icE 191 (e_istore 4 37 L S h)) ∧ (∀ (L S : List Value) (h : icH), icE 191 37 L S h = icE 191 38 L (.int (nI 0) :: S) h) ∧ (∀ (L S : List Value) (h : icH), icE 191 38 L S h = exe icE 191 (e_istore 5 40 L S h)) ∧ (∀ (L S : List Value) (h : icH), icE 191 42 L S h = icE 191 44 L (.int (nI 7) :: S) h) ∧ (∀ (L S : List Value) (h : icH), icE 191 44 L S h = exe icE 191 (e_iload 1 45 L S h)) ∧ (∀ (L S : List Value) (h : icH), icE 191 45 L S h = exe icE 191 (e_call 189 4 2 48 L S h)) ∧ (∀ (L S : List Value) (h : icH), icE 191 48 L S h = exe icE 191 (e_cmp .ge 80 51 L S h)) ∧ (∀ (L S : List Value) (h : icH), icE 191 51 L S h = exe icE 191 (e_aload 0 52 L S h)) ∧ (∀ (L S : List Value) (h : icH), icE 191 52 L S h = exe icE 191 (e_iload 5 54 L S h)) ∧ (∀ (L S : List Value) (h : icH), icE 191 54 L S h = exe icE 191 (e_iload 1 55 L S h)) ∧ (∀ (L S : List Value) (h : icH), icE 191 55 L S h = exe icE 191 (e_vcal 8 190 6 2 58 L S h)) ∧ (∀ (L S : List Value) (h : icH), icE 191 58 L S h = exe icE 191 (e_istore 6 60 L S h)) ∧ (∀ (L S : List Value) (h : icH), icE 191 60 L S h = exe icE 191 (e_iload 6 62 L S h)) ∧ (∀ (L S : List Value) (h : icH), icE 191 62 L S h = exe icE 191 (e_iload 4 64 L S h)) ∧ (∀ (L S : List Value) (h : icH), icE 191 64 L S h = exe icE 191 (e_cmp .le 74 67 L S h)) ∧ (∀ (L S : List Value) (h : icH), icE 191 67 L S h = exe icE 191 (e_iload 6 69 L S h)) ∧ (∀ (L S : List Value) (h : icH), icE 191 69 L S h = exe icE 191 (e_istore 4 71 L S h)) ∧ (∀ (L S : List Value) (h : icH), icE 191 71 L S h = exe icE 191 (e_iload 5 73 L S h)) ∧ (∀ (L S : List Value) (h : icH), icE 191 73 L S h = exe icE 191 (e_istore 3 74 L S h)) ∧ (∀ (L S : List Value) (h : icH), icE 191 74 L S h = exe icE 191 (e_iinc 5 (nI 1) 77 L S h)) ∧ (∀ (L S : List Value) (h : icH), icE 191 77 L S h = icE 191 40 L S h) ∧ (∀ (L S : List Value) (h : icH), icE 191 80 L S h = exe icE 191 (e_iload 2 81 L S h)) ∧ (∀ (L S : List Value) (h : icH), icE 191 81 L S h = exe icE 191 (e_if .ge 89 84 L S h)) ∧ (∀ (L S : List Value) (h : icH), icE 191 84 L S h = exe icE 191 (e_iload 4 86 L S h)) ∧ (∀ (L S : List Value) (h : icH), icE 191 86 L S h = icE 191 104 L S h) ∧ (∀ (L S : List Value) (h : icH), icE 191 89 L S h = exe icE 191 (e_iload 3 90 L S h)) ∧ (∀ (L S : List Value) (h : icH), icE 191 90 L S h = icE 191 92 L (.int (nI 7) :: S) h) ∧ (∀ (L S : List Value) (h : icH), icE 191 92 L S h = exe icE 191 (e_iload 1 93 L S h)) ∧ (∀ (L S : List Value) (h : icH), icE 191 93 L S h = icE 191 94 L (.int (nI 1) :: S) h) ∧ (∀ (L S : List Value) (h : icH), icE 191 94 L S h = exe icE 191 (e_bin (fun x y => x - y) 95 L S h)) ∧ (∀ (L S : List Value) (h : icH), icE 191 95 L S h = exe icE 191 (e_iload 2 96 L S h)) ∧ (∀ (L S : List Value) (h : icH), icE 191 96 L S h = exe icE 191 (e_bin (fun x y => x - y) 97 L S h)) ∧ (∀ (L S : List Value) (h : icH), icE 191 97 L S h = exe icE 191 (e_call 189 4 2 100 L S h)) ∧ (∀ (L S : List Value) (h : icH), icE 191 100 L S h = exe icE 191 (e_dvi (fun x y => x / y) 101 L S h)) ∧ (∀ (L S : List Value) (h : icH), icE 191 101 L S h = icE 191 103 L (.int (nI 7) :: S) h) ∧ (∀ (L S : List Value) (h : icH), icE 191 103 L S h = exe icE 191 (e_dvi (fun x y => x - x / y * y) 104 L S h)) ∧ (∀ (L S : List Value) (h : icH), icE 191 104 L S h = exe icE 191 (e_iret 0 L S h)) := ⟨r_191_0, r_191_1, r_191_2, r_191_3, r_191_6, r_191_9, r_191_12, r_191_13, r_191_14, r_191_17, r_191_18, r_191_20, r_191_23, r_191_24, r_191_25, r_191_26, r_191_29, r_191_31, r_191_32, r_191_33, r_191_34, r_191_35, r_191_37, r_191_38, r_191_42, r_191_44, r_191_45, r_191_48, r_191_51, r_191_52, r_191_54, r_191_55, r_191_58, r_191_60, r_191_62, r_191_64, r_191_67, r_191_69, r_191_71, r_191_73, r_191_74, r_191_77, r_191_80, r_191_81, r_191_84, r_191_86, r_191_89, r_191_90, r_191_92, r_191_93, r_191_94, r_191_95, r_191_96, r_191_97, r_191_100, r_191_101, r_191_103, r_191_104⟩
theorem h9_t {R N : Nat} {D : Nat → Nat → Int32} (hD : ∀ i, i < N → kd R (D 6 i)) (h9 : ∀ i, i < N → (-1 : Int32) < D 9 i) (H : Nat) : ∀ t i, i < N → (-1 : Int32) < hsn R N t H D 9 i
  | 0, i, hi => h9 i hi
  | t + 1, i, hi => by
    have ih := h9_t hD h9 H t i hi
    rw [hsn_s]
    unfold hs
    rw [hw_9 hi ((hsn_st hD t H).1 i hi)]
    split
    · unfold imx
      have e1 : (-1 : Int32).toInt = -1 := by decide
      have e0 : (nI 0).toInt = 0 := by decide
      split
      · decide
      · next q => rw [Int32.lt_iff_toInt_lt] at q ⊢; omega
    · exact ih
/-- two states that are alike but for those that were knocked off -/
def KN (R N : Nat) (K : Nat → Prop) (D Z : Nat → Nat → Int32) : Prop := (∀ k, k < 8 → D 1 k = Z 1 k) ∧ (∀ a, 2 ≤ a → a ≤ 4 → ∀ r, r < R → D a r = Z a r) ∧ (∀ a, 6 ≤ a → a ≤ 10 → a ≠ 9 → ∀ i, i < N → D a i = Z a i) ∧ (∀ i, i < N → ¬ K i → D 9 i = Z 9 i ∧ D 11 i = Z 11 i) ∧ (∀ i, i < N → K i → ¬ D 11 i = 0)
theorem KN_hs {R N H : Nat} {K : Nat → Prop} {D Z : Nat → Nat → Int32} (h : KN R N K D Z) (h6 : ∀ i, i < N → kd R (D 6 i)) : KN R N K (hs R N H D) (hs R N H Z) := by
  obtain ⟨k1, k2, k3, k4, k5⟩ := h
  have ew : D 1 ((H + 1) % 8) = Z 1 ((H + 1) % 8) := k1 _ (Nat.mod_lt _ (by decide))
  unfold hs
  rw [ew]
  have wt : ∀ r, r < R → wtr D (Z 1 ((H + 1) % 8)) r = wtr Z (Z 1 ((H + 1) % 8)) r := by
    intro r hr
    unfold wtr
    rw [k2 2 (by decide) (by decide) r hr, k2 3 (by decide) (by decide) r hr, k2 4 (by decide) (by decide) r hr]
  have z6 : ∀ i, i < N → kd R (Z 6 i) := fun i hi => by rw [← k3 6 (by decide) (by decide) (by decide) i hi]; exact h6 i hi
  refine ⟨fun k hk => ?_, fun a h1 h2 r hr => ?_, fun a h1 h2 h3 i hi => ?_, fun i hi hk => ?_, fun i hi hk => ?_⟩
  · rw [hw_n (by decide) (by decide) (by decide) (by decide), hw_n (by decide) (by decide) (by decide) (by decide)]; exact k1 k hk
  · by_cases c : a = 4
    · subst c
      rw [hw_4 hr, hw_4 hr, wt r hr, k2 4 (by decide) (by decide) r hr]
    · rw [hw_n c (by omega) (by omega) (by omega), hw_n c (by omega) (by omega) (by omega)]; exact k2 a h1 h2 r hr
  · rw [hw_n (by omega) (by omega) (by omega) (by omega), hw_n (by omega) (by omega) (by omega) (by omega)]; exact k3 a h1 h2 h3 i hi
  · have q := k4 i hi hk
    have e6 := k3 6 (by decide) (by decide) (by decide) i hi
    have el : lgh D (Z 1 ((H + 1) % 8)) i = lgh Z (Z 1 ((H + 1) % 8)) i := by
      unfold lgh
      rw [q.1, k3 7 (by decide) (by decide) (by decide) i hi, wt _ (h6 i hi).2, e6]
    have eg : gxh D (Z 1 ((H + 1) % 8)) i = gxh Z (Z 1 ((H + 1) % 8)) i := by
      unfold gxh
      rw [el, k3 10 (by decide) (by decide) (by decide) i hi, q.2]
    rw [hw_9 hi (h6 i hi), hw_9 hi (z6 i hi), hw_11 hi (h6 i hi), hw_11 hi (z6 i hi), el, eg, q.1, q.2]
    exact ⟨rfl, rfl⟩
  · rw [hw_11 hi (h6 i hi), if_neg (k5 i hi hk)]
    exact k5 i hi hk
def MK (R N t H : Nat) (D : Nat → Nat → Int32) (K : Nat → Prop) (T : Nat → Int32) : Prop := TOK R N T ∧ T 0 = nI (H + t) ∧ ∃ D', (∀ V, ERl R N (vw T V) D') ∧ KN R N K D' (hsn R N t H D)
theorem MK_0 {R N H : Nat} {D : Nat → Nat → Int32} {T : Nat → Int32} {K : Nat → Prop} (hK : ∀ i, ¬ K i) (h : MR R N 0 H D T) : MK R N 0 H D K T :=
  ⟨h.1, h.2.1, D, h.2.2, fun _ _ => rfl, fun _ _ _ _ _ => rfl, fun _ _ _ _ _ _ => rfl, fun _ _ _ => ⟨rfl, rfl⟩, fun i _ hk => absurd hk (hK i)⟩
theorem MK_step {R N t H : Nat} {D : Nat → Nat → Int32} {K : Nat → Prop} {A : Nat → Nat → Int32} (hM : MK R N t H D K (A 2)) (hb : H + t + 1 < 2 ^ 31) (h : icH) (m : Nat) (ab be : Int64) (ii : Nat → Int32) : ∃ (v : Int32) (T' W' : Nat → Int32), icE 150 0 [.ref m, .ref (m + 2)] [] (HM h m ab be ii A) = some (some (.int v), HM h m ab be ii (ud (ud A 2 T') 7 W')) ∧ MK R N (t + 1) H D K T' := by
  obtain ⟨T', W', z, t1, t2, t3, t4⟩ := c_mstep (t := 2) (Or.inr rfl) h m ab be ii hM.1 hM.2.1 hb
  obtain ⟨D', e1, e2⟩ := hM.2.2
  have k6 : ∀ i, i < N → kd R (D' 6 i) := fun i hi => by
    rw [← (e1 (A 7)).2.2 6 (by decide) (by decide) i hi]; exact MR_k6 hM.1 (A 7) i hi
  refine ⟨_, T', W', z, t1, t2, hs R N (H + t) D', fun V => ?_, ?_⟩
  · exact ERl_t (t3 V (A 7)) (ERl_hs (e1 (A 7)) (MR_k6 hM.1 (A 7)) (H + t))
  · rw [hsn_s]; exact KN_hs e2 k6
theorem MK_kn {R N t H i : Nat} {D : Nat → Nat → Int32} {K : Nat → Prop} {T : Nat → Int32} (hi : i < N) (hM : MK R N t H D K T) : MK R N t H D (fun x => K x ∨ x = i) (upd T (50 + i) (nI 1)) := by
  obtain ⟨⟨h9, h10, hR, hN, hk, hs, hki, hro⟩, h0, D', e1, k1, k2, k3, k4, k5⟩ := hM
  have n : ∀ c, c ≠ 50 + i → upd T (50 + i) (nI 1) c = T c := fun c hc => pk_un hc
  refine ⟨⟨?_, ?_, hR, hN, fun q hq => ?_, fun q hq => ?_, fun q hq => ?_, fun q hq => ?_⟩, ?_, ud D' 11 (upd (D' 11) i (nI 1)), fun V => ?_, ?_⟩
  · rw [n _ (by omega)]; exact h9
  · rw [n _ (by omega)]; exact h10
  · rw [n _ (by omega)]; exact hk q hq
  · rw [n _ (by omega)]; exact hs q hq
  · rw [n _ (by omega)]; exact hki q hq
  · rw [n _ (by omega)]; exact hro q hq
  · rw [n _ (by omega)]; exact h0
  · have z := e1 V
    refine ⟨fun k hk => ?_, fun a h1 h2 r hr => ?_, fun a h1 h2 j hj => ?_⟩
    · rw [ud_n (by decide), ← z.1 k hk]; exact n (1 + k) (by omega)
    · rw [ud_n (by omega), ← z.2.1 a h1 h2 r hr]
      unfold vw
      rw [if_neg (by omega), if_neg (by omega)]
      have : bs a = 5 + 3 * a := by unfold bs; rw [if_neg (by omega), if_pos (by omega)]
      rw [this]
      exact n _ (by omega)
    · by_cases c : a = 11
      · subst c
        rw [ud_s]
        show upd T (50 + i) (nI 1) (50 + j) = _
        by_cases c2 : j = i
        · rw [c2, pk_us, pk_us]
        · rw [pk_un c2, pk_un (by omega)]; exact z.2.2 11 h1 h2 j hj
      · rw [ud_n c, ← z.2.2 a h1 h2 j hj]
        unfold vw
        rw [if_neg (by omega), if_neg (by omega)]
        have : bs a = 6 * a - 16 := by unfold bs; rw [if_neg (by omega), if_neg (by omega)]
        rw [this]
        exact n _ (by omega)
  · refine ⟨fun k hk => ?_, fun a h1 h2 r hr => ?_, fun a h1 h2 h3 j hj => ?_, fun j hj hk => ?_, fun j hj hk => ?_⟩
    · rw [ud_n (by decide)]; exact k1 k hk
    · rw [ud_n (by omega)]; exact k2 a h1 h2 r hr
    · rw [ud_n (by omega)]; exact k3 a h1 h2 h3 j hj
    · rw [ud_n (by decide), ud_s, pk_un (fun z => hk (Or.inr z))]
      exact k4 j hj (fun z => hk (Or.inl z))
    · rw [ud_s]
      by_cases c : j = i
      · rw [c, pk_us]; decide
      · rw [pk_un c]; exact k5 j hj (hk.elim (fun z => z) (fun z => absurd z c))
theorem l_power {o n : Nat} (h : icH) : ∀ (m t : Nat), t + m = n → n < 2 ^ 31 → icE 189 4 [.int (nI o), .int (nI n), .int (nI (o ^ t)), .int (nI t)] [] h = some (some (.int (nI (o ^ n))), h)
  | 0, t, e, hn => by
    have : t = n := by omega
    subst this
    rw [rh_189_4]
    simp only [SA, rw_189, if_pos (nI_le (Nat.le_refl t) hn)]
  | m + 1, t, e, hn => by
    have ih := l_power (o := o) h m (t + 1) (by omega) hn
    refine Eq.trans ?_ ih
    rw [rh_189_4]
    simp only [SA, rw_189, if_neg (nI_ge (show t < n by omega) hn), pk_mul, nI_add, ← Nat.pow_succ]
theorem c_power (o : Nat) {n : Nat} (hn : n < 2 ^ 31) (h : icH) : icE 189 0 [.int (nI o), .int (nI n), dum, dum] [] h = some (some (.int (nI (o ^ n))), h) := by
  have z := l_power (o := o) h n 0 (by omega) hn
  refine Eq.trans ?_ z
  simp only [SA, rw_189, Nat.pow_zero]
theorem l_brings {R N H n row : Nat} {D : Nat → Nat → Int32} (hD : EOK R N D) (h9 : ∀ i, i < N → (-1 : Int32) < D 9 i) (hH : H ≤ 9999) (hn : n ≤ 4) (hrow : row < 2 ^ 31) (h : icH) (m : Nat) (ab be : Int64) (ii : Nat → Int32) (nn : Int32) : ∀ (k t : Nat) (y : Value) (A : Nat → Nat → Int32), t + k = n → A 1 10 = nI N → MK R N t H D (fun x => ∃ u, u < t ∧ dg n row u = x) (A 2) → VL R N H D n row 0 t → ∃ A', icE 190 17 [.ref m, .int (nI row), .int nn, .int (Sm R N H D n row t), .int (nI (7 ^ n / 7 ^ (t + 1))), y] [] (HM h m ab be ii A) = some (some (.int (kv R N H D n row)), HM h m ab be ii A') ∧ MSC A A'
  | 0, t, y, A, e, h10, hM, hv => by
    have : t = n := by omega
    subst this
    refine ⟨A, ?_, MSC_r A⟩
    have e0 : 7 ^ t / 7 ^ (t + 1) = 0 := Nat.div_eq_of_lt (Nat.pow_lt_pow_right (by decide) (Nat.lt_succ_self t))
    rw [kv_t hv, rh_190_17, e0]
    simp only [SA, rw_190, if_pos (show nI 0 ≤ 0 by decide)]
  | k + 1, t, y, A, e, h10, hM, hv => by
    have hN := hD.2.1
    have b2 : 292 < 2 ^ 31 := by decide
    have b5 : 56 < 2 ^ 31 := by decide
    have p7 := p7_le hn
    have eu : 7 ^ n / 7 ^ (t + 1) = 7 ^ (n - 1 - t) := by rw [Nat.pow_div (by omega) (by decide), show n - (t + 1) = n - 1 - t by omega]
    have u0 : 0 < 7 ^ (n - 1 - t) := Nat.pow_pos (by decide)
    have ul : 7 ^ (n - 1 - t) ≤ 2401 := p7_le (by omega)
    have un : 7 ^ n / 7 ^ (t + 1) / 7 = 7 ^ n / 7 ^ (t + 1 + 1) := by rw [Nat.div_div_eq_div_mul, Nat.pow_succ 7 (t + 1)]
    have hd7 : dg n row t < 7 := Nat.mod_lt _ (by decide)
    have hql : row / 7 ^ (n - 1 - t) < 2 ^ 31 := Nat.lt_of_le_of_lt (Nat.div_le_self _ _) hrow
    have b7 : ¬ nI 7 = 0 := by decide
    have bu : ¬ nI (7 ^ (n - 1 - t)) = 0 := nI_ne0 u0 (by omega)
    have hrem : nI (row / 7 ^ (n - 1 - t)) - nI (row / 7 ^ (n - 1 - t) / 7) * nI 7 = nI (dg n row t) := by
      rw [← pk_div hql (show 0 < 7 by decide) (show 7 < 2 ^ 31 by decide), pk_rem hql (show 0 < 7 by decide) (show 7 < 2 ^ 31 by decide)]
    have pd1 := pk_div hrow u0 (show 7 ^ (n - 1 - t) < 2 ^ 31 by omega)
    have pd2 := pk_div hql (show 0 < 7 by decide) (show 7 < 2 ^ 31 by decide)
    have pd3 := pk_div (show 7 ^ (n - 1 - t) < 2 ^ 31 by omega) (show 0 < 7 by decide) (show 7 < 2 ^ 31 by decide)
    rw [← eu] at pd3
    rw [un] at pd3
    rw [eu] at pd3
    have es : Sm R N H D n row (t + 1) = Sm R N H D n row t + xs R N H D n row t := rfl
    have cp := nI_nle u0 (show 7 ^ (n - 1 - t) < 2 ^ 31 by omega)
    rw [eu]
    by_cases c6 : dg n row t = 6
    · have ex : xs R N H D n row t = nI 0 := if_pos c6
      have c6' : nI 6 ≤ nI (dg n row t) := by rw [c6]; decide
      obtain ⟨v, T', W', z, hM'⟩ := MK_step hM (by omega) h m ab be ii
      obtain ⟨A', ih, q⟩ := l_brings hD h9 hH hn hrow h m ab be ii nn k (t + 1) (.int (nI (dg n row t))) (ud (ud A 2 T') 7 W') (by omega) (by rw [ud_n (by decide), ud_n (by decide)]; exact h10) (by
        rw [ud_n (by decide), ud_s]
        obtain ⟨m1, m2, D', m3, k1, k2, k3, k4, k5⟩ := hM'
        refine ⟨m1, m2, D', m3, k1, k2, k3, fun i hi hk => k4 i hi (fun ⟨u, x1, x2⟩ => hk ⟨u, by omega, x2⟩), fun i hi hk => k5 i hi ?_⟩
        obtain ⟨u, x1, x2⟩ := hk
        by_cases w : u = t
        · subst w; rw [c6] at x2; omega
        · exact ⟨u, by omega, x2⟩) (by
        intro u h1 h2 h3
        by_cases w : u = t
        · subst w; exact absurd c6 h3
        · have := hv u h1 (by omega) h3
          refine ⟨this.1, fun x k1 k2 k3 => ?_⟩
          by_cases w2 : x = t
          · subst w2; rw [c6]; exact fun g => h3 g.symm
          · exact this.2 x k1 (by omega) k3)
      rw [es, ex, nI_0, Int32.add_zero] at ih
      refine ⟨A', Eq.trans ?_ ih, MSC_t (MSC_u (MSC_u (MSC_r A) (by decide) T') (by decide) W') q⟩
      rw [rh_190_17]
      simp only [SA, rw_190, HM_o, if_neg cp, if_neg b7, if_neg bu, pd1, pd2, hrem, if_pos c6', z, pd3]
    · have hc : dg n row t < 6 := by omega
      have c6' : ¬ nI 6 ≤ nI (dg n row t) := nI_ge hc (by decide)
      by_cases cN : dg n row t < N
      · obtain ⟨D', m3, k1, k2, k3, k4, k5⟩ := hM.2.2
        have et : A 2 (50 + dg n row t) = D' 11 (dg n row t) := (m3 (A 7)).2.2 11 (by decide) (by decide) _ cN
        have et9 : A 2 (38 + dg n row t) = D' 9 (dg n row t) := (m3 (A 7)).2.2 9 (by decide) (by decide) _ cN
        by_cases c0 : A 2 (50 + dg n row t) = 0
        · have nk : ¬ ∃ u, u < t ∧ dg n row u = dg n row t := fun z => k5 _ cN z (et.symm.trans c0)
          have q4 := k4 _ cN nk
          have lzv : lz R N H D t (dg n row t) = hsn R N t H D 9 (dg n row t) := if_pos ⟨cN, by rw [← q4.2, ← et]; exact c0⟩
          have lzn : lz R N H D t (dg n row t) ≠ -1 := by
            rw [lzv]
            intro z
            have := h9_t hD.2.2.2.2 h9 H t _ cN
            rw [z] at this
            exact absurd this (by decide)
          have ex : xs R N H D n row t = A 2 (38 + dg n row t) := by rw [et9, q4.1, ← lzv]; exact if_neg c6
          have hMk := MK_kn cN hM
          obtain ⟨v, T', W', z, hM'⟩ := MK_step (A := ud A 2 (upd (A 2) (50 + dg n row t) (nI 1))) (by rw [ud_s]; exact hMk) (by omega) h m ab be ii
          rw [ud_u] at z
          obtain ⟨A', ih, q⟩ := l_brings hD h9 hH hn hrow h m ab be ii nn k (t + 1) (.int (nI (dg n row t))) (ud (ud A 2 T') 7 W') (by omega) (by rw [ud_n (by decide), ud_n (by decide)]; exact h10) (by
            rw [ud_n (by decide), ud_s]
            obtain ⟨m1, m2, D', m3, k1, k2, k3, k4, k5⟩ := hM'
            refine ⟨m1, m2, D', m3, k1, k2, k3, fun i hi hk => k4 i hi ?_, fun i hi hk => k5 i hi ?_⟩
            · rintro (⟨u, x1, x2⟩ | x)
              · exact hk ⟨u, by omega, x2⟩
              · exact hk ⟨t, by omega, x.symm⟩
            · obtain ⟨u, x1, x2⟩ := hk
              by_cases w : u = t
              · subst w; exact Or.inr x2.symm
              · exact Or.inl ⟨u, by omega, x2⟩) (by
            intro u h1 h2 h3
            by_cases w : u = t
            · subst w; exact ⟨lzn, fun x k1 k2 k3 g => nk ⟨x, by omega, g⟩⟩
            · have := hv u h1 (by omega) h3
              refine ⟨this.1, fun x k1 k2 k3 => ?_⟩
              by_cases w2 : x = t
              · subst w2; exact fun g => nk ⟨u, by omega, g.symm⟩
              · exact this.2 x k1 (by omega) k3)
          rw [es, ex] at ih
          refine ⟨A', Eq.trans ?_ ih, MSC_t (MSC_u (MSC_u (MSC_r A) (by decide) T') (by decide) W') q⟩
          rw [rh_190_17]
          simp only [SA, rw_190, HM_o, HMr, HMw, if_neg cp, if_neg b7, if_neg bu, pd1, pd2, hrem, if_neg c6', ia_n (show 10 < 292 by decide) b2, h10, if_neg (nI_ge cN (show N < 2 ^ 31 by omega)), nI_add, ia_n (show 50 + dg n row t < 56 by omega) b5, if_pos c0, is_n (show 50 + dg n row t < 56 by omega) b5, ud_s, ia_n (show 38 + dg n row t < 56 by omega) b5, pk_un (show 38 + dg n row t ≠ 50 + dg n row t by omega), z, pd3]
        · have nv : ¬ VL R N H D n row 0 n := by
            intro v
            have vt := v t (Nat.zero_le t) (by omega) c6
            have nk : ¬ ∃ u, u < t ∧ dg n row u = dg n row t := fun ⟨u, x1, x2⟩ => vt.2 u (Nat.zero_le u) (by omega) (by omega) x2
            have q4 := k4 _ cN nk
            exact vt.1 (if_neg (fun z => c0 (by rw [et, q4.2]; exact z.2)))
          rw [kv_f nv]
          refine ⟨A, ?_, MSC_r A⟩
          rw [rh_190_17]
          simp only [SA, rw_190, HM_o, HMr, if_neg cp, if_neg b7, if_neg bu, pd1, pd2, hrem, if_neg c6', ia_n (show 10 < 292 by decide) b2, h10, if_neg (nI_ge cN (show N < 2 ^ 31 by omega)), nI_add, ia_n (show 50 + dg n row t < 56 by omega) b5, if_neg c0]
      · have nv : ¬ VL R N H D n row 0 n := by
          intro v
          have vt := v t (Nat.zero_le t) (by omega) c6
          exact vt.1 (if_neg (fun z => cN z.1))
        rw [kv_f nv]
        refine ⟨A, ?_, MSC_r A⟩
        rw [rh_190_17]
        simp only [SA, rw_190, HM_o, HMr, if_neg cp, if_neg b7, if_neg bu, pd1, pd2, hrem, if_neg c6', ia_n (show 10 < 292 by decide) b2, h10, if_pos (nI_le (show N ≤ dg n row t by omega) (show dg n row t < 2 ^ 31 by omega))]
theorem c_brings {R N H n row : Nat} {D : Nat → Nat → Int32} {A : Nat → Nat → Int32} (hM : MR R N 0 H D (A 1)) (hD : EOK R N D) (h9 : ∀ i, i < N → (-1 : Int32) < D 9 i) (hH : H ≤ 9999) (hn : n ≤ 4) (hrow : row < 2 ^ 31) (h : icH) (m : Nat) (ab be : Int64) (ii : Nat → Int32) : ∃ A', icE 190 0 [.ref m, .int (nI row), .int (nI n), dum, dum, dum] [] (HM h m ab be ii A) = some (some (.int (kv R N H D n row)), HM h m ab be ii A') ∧ MSC A A' := by
  have p7 := p7_le hn
  obtain ⟨A', z, q⟩ := l_brings hD h9 hH hn hrow h m ab be ii (nI n) n 0 dum (ud A 2 (va_cpy (A 1) (A 2) 0 0 56)) (by omega) (by rw [ud_n (by decide)]; exact hM.1.2.1) (by rw [ud_s]; exact MK_0 (fun i ⟨u, x, _⟩ => absurd x (Nat.not_lt_zero u)) (MR_lay hM _)) (fun u _ x => absurd x (Nat.not_lt_zero u))
  refine ⟨A', Eq.trans ?_ z, MSC_t (MSC_u (MSC_r A) (by decide) _) q⟩
  simp only [SA, rw_190, HM_o, c_laysAside, c_power 7 (show n < 2 ^ 31 by omega), if_neg (show ¬ nI 7 = 0 by decide), pk_div (show 7 ^ n < 2 ^ 31 by omega) (show 0 < 7 by decide) (show 7 < 2 ^ 31 by decide), Nat.zero_add, Nat.pow_one, Sm]
theorem l_mmost {R N H n : Nat} {D : Nat → Nat → Int32} (hD : EOK R N D) (h9 : ∀ i, i < N → (-1 : Int32) < D 9 i) (hH : H ≤ 9999) (hn : n ≤ 4) (kk : Int32) (h : icH) (m : Nat) (ab be : Int64) (ii : Nat → Int32) : ∀ (k r : Nat) (y : Value) (A : Nat → Nat → Int32), r + k = 7 ^ n → MR R N 0 H D (A 1) → ∃ y' A', icE 191 40 [.ref m, .int (nI n), .int kk, .int (nI (mb (kv R N H D n) r).1), .int (mb (kv R N H D n) r).2, .int (nI r), y] [] (HM h m ab be ii A) = icE 191 80 [.ref m, .int (nI n), .int kk, .int (nI (mb (kv R N H D n) (7 ^ n)).1), .int (mb (kv R N H D n) (7 ^ n)).2, .int (nI (7 ^ n)), y'] [] (HM h m ab be ii A') ∧ MSC A A'
  | 0, r, y, A, e, hM => by
    have p7 := p7_le hn
    have : r = 7 ^ n := by omega
    subst this
    refine ⟨y, A, ?_, MSC_r A⟩
    rw [rh_191_40]
    simp only [SA, rw_191, c_power 7 (show n < 2 ^ 31 by omega), if_pos (nI_le (Nat.le_refl (7 ^ n)) (show 7 ^ n < 2 ^ 31 by omega))]
  | k + 1, r, y, A, e, hM => by
    have p7 := p7_le hn
    obtain ⟨A1, s1, s2⟩ := c_brings hM hD h9 hH hn (show r < 2 ^ 31 by omega) h m ab be ii
    obtain ⟨y', A', ih, q⟩ := l_mmost hD h9 hH hn kk h m ab be ii k (r + 1) (.int (kv R N H D n r)) A1 (by omega) (by rw [MSC_1 s2]; exact hM)
    refine ⟨y', A', Eq.trans ?_ ih, MSC_t s2 q⟩
    rw [rh_191_40]
    by_cases c : (mb (kv R N H D n) r).2 < kv R N H D n r
    · have e1 : mb (kv R N H D n) (r + 1) = (r, kv R N H D n r) := if_pos c
      rw [e1]
      simp only [SA, rw_191, HM_o, c_power 7 (show n < 2 ^ 31 by omega), if_neg (nI_ge (show r < 7 ^ n by omega) (show 7 ^ n < 2 ^ 31 by omega)), s1, if_neg (i32_le_lt.mpr c), nI_add]
    · have e1 : mb (kv R N H D n) (r + 1) = mb (kv R N H D n) r := if_neg c
      rw [e1]
      have c' : kv R N H D n r ≤ (mb (kv R N H D n) r).2 := by
        rw [Int32.le_iff_toInt_le]; rw [Int32.lt_iff_toInt_lt] at c; omega
      simp only [SA, rw_191, HM_o, c_power 7 (show n < 2 ^ 31 by omega), if_neg (nI_ge (show r < 7 ^ n by omega) (show 7 ^ n < 2 ^ 31 by omega)), s1, if_pos c', nI_add]
theorem bv_ge {k : Nat} (hk : k < 2 ^ 31) : (-1 : Int32) ≤ bv k := by
  unfold bv
  split
  · decide
  · rw [Int32.le_iff_toInt_le, nI_toInt (by omega)]
    have : (-1 : Int32).toInt = -1 := by decide
    omega
theorem bv_lt {k n : Nat} (hk : k ≤ n) (hn : n < 2 ^ 31) : bv k < nI n := by
  unfold bv
  split
  · rw [Int32.lt_iff_toInt_lt, nI_toInt (by omega)]
    have : (-1 : Int32).toInt = -1 := by decide
    omega
  · exact nI_lt (by omega) (by omega)
theorem m_most {R N H n : Nat} {D : Nat → Nat → Int32} {A : Nat → Nat → Int32} (hM : MR R N 0 H D (A 1)) (hD : EOK R N D) (h9 : ∀ i, i < N → (-1 : Int32) < D 9 i) (hH : H ≤ 9999) (hn0 : 1 ≤ n) (hn : n ≤ 4) (k : Nat) (hk : k ≤ n) (h : icH) (m : Nat) (ab be : Int64) (ii : Nat → Int32) : ∃ A', icE 191 0 [.ref m, .int (nI n), .int (bv k), dum, dum, dum, dum] [] (HM h m ab be ii A) = some (some (.int (if k = 0 then (mb (kv R N H D n) (7 ^ n)).2 else nI (dg n (mb (kv R N H D n) (7 ^ n)).1 (k - 1)))), HM h m ab be ii A') ∧ MSC A A' := by
  have p7 := p7_le hn
  have ml := mb_le (kv R N H D n) (7 ^ n)
  obtain ⟨y', A', s, q⟩ := l_mmost hD h9 hH hn (bv k) h m ab be ii (7 ^ n) 0 dum A (by omega) hM
  refine ⟨A', ?_, q⟩
  refine Eq.trans (b := icE 191 40 [.ref m, .int (nI n), .int (bv k), .int (nI (mb (kv R N H D n) 0).1), .int (mb (kv R N H D n) 0).2, .int (nI 0), dum] [] (HM h m ab be ii A)) ?_ (s.trans ?_)
  · simp only [SA, rw_191, c_in, l64, lN_t (show 4 < 2 ^ 31 by decide), i64_le, if_neg (bi_10 (W_n hn0 hn (by decide))), if_pos (bv_ge (show k < 2 ^ 31 by omega)), if_pos (bv_lt hk (show n < 2 ^ 31 by omega)), mb]
  · by_cases c : k = 0
    · subst c
      have e : bv 0 = -1 := rfl
      rw [e, if_pos rfl]
      simp only [SA, rw_191, if_neg (show ¬ (0 : Int32) ≤ -1 by decide)]
    · have e : bv k = nI (k - 1) := if_neg c
      have pl : 7 ^ (n - 1 - (k - 1)) ≤ 2401 := p7_le (by omega)
      have p0 : 0 < 7 ^ (n - 1 - (k - 1)) := Nat.pow_pos (by decide)
      have ql : (mb (kv R N H D n) (7 ^ n)).1 / 7 ^ (n - 1 - (k - 1)) < 2 ^ 31 := Nat.lt_of_le_of_lt (Nat.div_le_self _ _) (by omega)
      have hrem : nI ((mb (kv R N H D n) (7 ^ n)).1 / 7 ^ (n - 1 - (k - 1))) - nI ((mb (kv R N H D n) (7 ^ n)).1 / 7 ^ (n - 1 - (k - 1)) / 7) * nI 7 = nI (dg n (mb (kv R N H D n) (7 ^ n)).1 (k - 1)) := by
        rw [← pk_div ql (show 0 < 7 by decide) (show 7 < 2 ^ 31 by decide), pk_rem ql (show 0 < 7 by decide) (show 7 < 2 ^ 31 by decide)]
      rw [e, if_neg c]
      simp only [SA, rw_191, if_pos (nI_pos' (show k - 1 < 2 ^ 31 by omega)), nI_sb hn0, nI_sb (show k - 1 ≤ n - 1 by omega), c_power 7 (show n - 1 - (k - 1) < 2 ^ 31 by omega), if_neg (nI_ne0 p0 (show 7 ^ (n - 1 - (k - 1)) < 2 ^ 31 by omega)), pk_div (show (mb (kv R N H D n) (7 ^ n)).1 < 2 ^ 31 by omega) p0 (show 7 ^ (n - 1 - (k - 1)) < 2 ^ 31 by omega), if_neg (show ¬ nI 7 = 0 by decide), pk_div ql (show 0 < 7 by decide) (show 7 < 2 ^ 31 by decide), hrem]
theorem m_mostF {n : Nat} (hn0 : 1 ≤ n) (hn : n ≤ 4) {k : Int32} (h1 : -1 ≤ k) (hk : ¬ k < nI n) (m : Nat) (h : icH) : icE 191 0 [.ref m, .int (nI n), .int k, dum, dum, dum, dum] [] h = some (some (.int (-5)), h) := by
  simp only [SA, rw_191, c_in, l64, lN_t (show 4 < 2 ^ 31 by decide), i64_le, if_neg (bi_10 (W_n hn0 hn (by decide))), if_pos h1, if_neg hk]
theorem m_mostB {A : Nat → Nat → Int32} {n k : Int32} (hb : ¬ ((nI 1 ≤ n ∧ n ≤ nI 4) ∧ -1 ≤ k)) (h : icH) (m : Nat) (ab be : Int64) (ii : Nat → Int32) : icE 191 0 [.ref m, .int n, .int k, dum, dum, dum, dum] [] (HM h m ab be ii A) = some (some (.int (-10)), HM h m ab be ii (ud A 6 (upd (A 6) 0 (A 6 0 + nI 1)))) := by
  by_cases q : nI 1 ≤ n ∧ n ≤ nI 4
  · have q2 : ¬ -1 ≤ k := fun z => hb ⟨q, z⟩
    simp only [SA, rw_191, HM_o, c_in, l64, lN_t (show 4 < 2 ^ 31 by decide), i64_le, if_neg (bi_10 q), if_neg q2, c_mbad]
  · simp only [SA, rw_191, HM_o, c_in, l64, lN_t (show 4 < 2 ^ 31 by decide), i64_le, if_pos (bi_00 q), c_mbad]
