/-! ===== the reference: what fits, the next look ===== -/
-- cX9_heatsOf: heads [6, 28]
theorem fe_193 (pc : Nat) : fet 193 pc = look k_193 pc := rfl
theorem r_193_0 (L S : List Value) (h : icH) : icE 193 0 L S h = icE 193 3 L (.int (nI 1023) :: S) h := icE_eq (i := .sipush 1023) (len := 3) (x1 := 0) (x2 := 0) (x3 := 0) (x4 := 64) ((fe_193 0).trans rfl) L S h
theorem r_193_3 (L S : List Value) (h : icH) : icE 193 3 L S h = exe icE 193 (e_istore 2 4 L S h) := icE_eq (i := .istore_n 2) (len := 1) (x1 := 0) (x2 := 0) (x3 := 0) (x4 := 64) ((fe_193 3).trans rfl) L S h
theorem r_193_4 (L S : List Value) (h : icH) : icE 193 4 L S h = icE 193 5 L (.int (nI 0) :: S) h := icE_eq (i := .iconst 0) (len := 1) (x1 := 0) (x2 := 0) (x3 := 0) (x4 := 64) ((fe_193 4).trans rfl) L S h
theorem r_193_5 (L S : List Value) (h : icH) : icE 193 5 L S h = exe icE 193 (e_istore 3 6 L S h) := icE_eq (i := .istore_n 3) (len := 1) (x1 := 0) (x2 := 0) (x3 := 0) (x4 := 64) ((fe_193 5).trans rfl) L S h
theorem rh_193_6 (L S : List Value) (h : icH) : icE 193 6 L S h = exe icE 193 (e_iload 3 7 L S h) := icE_eq (i := .iload_n 3) (len := 1) (x1 := 0) (x2 := 0) (x3 := 0) (x4 := 64) ((fe_193 6).trans rfl) L S h
theorem r_193_7 (L S : List Value) (h : icH) : icE 193 7 L S h = exe icE 193 (e_aload 0 8 L S h) := icE_eq (i := .aload_n 0) (len := 1) (x1 := 0) (x2 := 0) (x3 := 0) (x4 := 64) ((fe_193 7).trans rfl) L S h
theorem r_193_8 (L S : List Value) (h : icH) : icE 193 8 L S h = exe icE 193 (e_getf 0 8 11 L S h) := icE_eq (i := .getfield 7) (len := 3) (x1 := 0) (x2 := 8) (x3 := 12) (x4 := 957) ((fe_193 8).trans rfl) L S h
theorem r_193_11 (L S : List Value) (h : icH) : icE 193 11 L S h = icE 193 13 L (.int (nI 56) :: S) h := icE_eq (i := .bipush 56) (len := 2) (x1 := 0) (x2 := 0) (x3 := 0) (x4 := 64) ((fe_193 11).trans rfl) L S h
theorem r_193_13 (L S : List Value) (h : icH) : icE 193 13 L S h = exe icE 193 (e_iald 14 L S h) := icE_eq (i := .iaload) (len := 1) (x1 := 0) (x2 := 0) (x3 := 0) (x4 := 64) ((fe_193 13).trans rfl) L S h
theorem r_193_14 (L S : List Value) (h : icH) : icE 193 14 L S h = exe icE 193 (e_cmp .ge 117 17 L S h) := icE_eq (i := .if_icmp .ge 103) (len := 3) (x1 := 117) (x2 := 0) (x3 := 0) (x4 := 64) ((fe_193 14).trans rfl) L S h
theorem r_193_17 (L S : List Value) (h : icH) : icE 193 17 L S h = icE 193 19 L (.int (nI 57) :: S) h := icE_eq (i := .bipush 57) (len := 2) (x1 := 0) (x2 := 0) (x3 := 0) (x4 := 64) ((fe_193 17).trans rfl) L S h
theorem r_193_19 (L S : List Value) (h : icH) : icE 193 19 L S h = icE 193 20 L (.int (nI 4) :: S) h := icE_eq (i := .iconst 4) (len := 1) (x1 := 0) (x2 := 0) (x3 := 0) (x4 := 64) ((fe_193 19).trans rfl) L S h
theorem r_193_20 (L S : List Value) (h : icH) : icE 193 20 L S h = exe icE 193 (e_iload 3 21 L S h) := icE_eq (i := .iload_n 3) (len := 1) (x1 := 0) (x2 := 0) (x3 := 0) (x4 := 64) ((fe_193 20).trans rfl) L S h
theorem r_193_21 (L S : List Value) (h : icH) : icE 193 21 L S h = exe icE 193 (e_bin (fun x y => x * y) 22 L S h) := icE_eq (i := .imul) (len := 1) (x1 := 0) (x2 := 0) (x3 := 0) (x4 := 64) ((fe_193 21).trans rfl) L S h
theorem r_193_22 (L S : List Value) (h : icH) : icE 193 22 L S h = exe icE 193 (e_bin (fun x y => x + y) 23 L S h) := icE_eq (i := .iadd) (len := 1) (x1 := 0) (x2 := 0) (x3 := 0) (x4 := 64) ((fe_193 22).trans rfl) L S h
theorem r_193_23 (L S : List Value) (h : icH) : icE 193 23 L S h = exe icE 193 (e_istore 4 25 L S h) := icE_eq (i := .istore 4) (len := 2) (x1 := 0) (x2 := 0) (x3 := 0) (x4 := 64) ((fe_193 23).trans rfl) L S h
theorem r_193_25 (L S : List Value) (h : icH) : icE 193 25 L S h = icE 193 26 L (.int (nI 0) :: S) h := icE_eq (i := .iconst 0) (len := 1) (x1 := 0) (x2 := 0) (x3 := 0) (x4 := 64) ((fe_193 25).trans rfl) L S h
theorem r_193_26 (L S : List Value) (h : icH) : icE 193 26 L S h = exe icE 193 (e_istore 5 28 L S h) := icE_eq (i := .istore 5) (len := 2) (x1 := 0) (x2 := 0) (x3 := 0) (x4 := 64) ((fe_193 26).trans rfl) L S h
theorem rh_193_28 (L S : List Value) (h : icH) : icE 193 28 L S h = exe icE 193 (e_iload 5 30 L S h) := icE_eq (i := .iload 5) (len := 2) (x1 := 0) (x2 := 0) (x3 := 0) (x4 := 64) ((fe_193 28).trans rfl) L S h
theorem r_193_30 (L S : List Value) (h : icH) : icE 193 30 L S h = icE 193 32 L (.int (nI 10) :: S) h := icE_eq (i := .bipush 10) (len := 2) (x1 := 0) (x2 := 0) (x3 := 0) (x4 := 64) ((fe_193 30).trans rfl) L S h
theorem r_193_32 (L S : List Value) (h : icH) : icE 193 32 L S h = exe icE 193 (e_cmp .ge 111 35 L S h) := icE_eq (i := .if_icmp .ge 79) (len := 3) (x1 := 111) (x2 := 0) (x3 := 0) (x4 := 64) ((fe_193 32).trans rfl) L S h
theorem r_193_35 (L S : List Value) (h : icH) : icE 193 35 L S h = exe icE 193 (e_aload 0 36 L S h) := icE_eq (i := .aload_n 0) (len := 1) (x1 := 0) (x2 := 0) (x3 := 0) (x4 := 64) ((fe_193 35).trans rfl) L S h
theorem r_193_36 (L S : List Value) (h : icH) : icE 193 36 L S h = exe icE 193 (e_getf 0 8 39 L S h) := icE_eq (i := .getfield 7) (len := 3) (x1 := 0) (x2 := 8) (x3 := 12) (x4 := 957) ((fe_193 36).trans rfl) L S h
theorem r_193_39 (L S : List Value) (h : icH) : icE 193 39 L S h = exe icE 193 (e_iload 4 41 L S h) := icE_eq (i := .iload 4) (len := 2) (x1 := 0) (x2 := 0) (x3 := 0) (x4 := 64) ((fe_193 39).trans rfl) L S h
theorem r_193_41 (L S : List Value) (h : icH) : icE 193 41 L S h = exe icE 193 (e_iald 42 L S h) := icE_eq (i := .iaload) (len := 1) (x1 := 0) (x2 := 0) (x3 := 0) (x4 := 64) ((fe_193 41).trans rfl) L S h
theorem r_193_42 (L S : List Value) (h : icH) : icE 193 42 L S h = exe icE 193 (e_iload 1 43 L S h) := icE_eq (i := .iload_n 1) (len := 1) (x1 := 0) (x2 := 0) (x3 := 0) (x4 := 64) ((fe_193 42).trans rfl) L S h
theorem r_193_43 (L S : List Value) (h : icH) : icE 193 43 L S h = exe icE 193 (e_cmp .ne 111 46 L S h) := icE_eq (i := .if_icmp .ne 68) (len := 3) (x1 := 111) (x2 := 0) (x3 := 0) (x4 := 64) ((fe_193 43).trans rfl) L S h
theorem r_193_46 (L S : List Value) (h : icH) : icE 193 46 L S h = exe icE 193 (e_iload 2 47 L S h) := icE_eq (i := .iload_n 2) (len := 1) (x1 := 0) (x2 := 0) (x3 := 0) (x4 := 64) ((fe_193 46).trans rfl) L S h
theorem r_193_47 (L S : List Value) (h : icH) : icE 193 47 L S h = exe icE 193 (e_aload 0 48 L S h) := icE_eq (i := .aload_n 0) (len := 1) (x1 := 0) (x2 := 0) (x3 := 0) (x4 := 64) ((fe_193 47).trans rfl) L S h
theorem r_193_48 (L S : List Value) (h : icH) : icE 193 48 L S h = exe icE 193 (e_getf 0 8 51 L S h) := icE_eq (i := .getfield 7) (len := 3) (x1 := 0) (x2 := 8) (x3 := 12) (x4 := 957) ((fe_193 48).trans rfl) L S h
theorem r_193_51 (L S : List Value) (h : icH) : icE 193 51 L S h = icE 193 53 L (.int (nI 11) :: S) h := icE_eq (i := .bipush 11) (len := 2) (x1 := 0) (x2 := 0) (x3 := 0) (x4 := 64) ((fe_193 51).trans rfl) L S h
theorem r_193_53 (L S : List Value) (h : icH) : icE 193 53 L S h = exe icE 193 (e_iload 1 54 L S h) := icE_eq (i := .iload_n 1) (len := 1) (x1 := 0) (x2 := 0) (x3 := 0) (x4 := 64) ((fe_193 53).trans rfl) L S h
theorem r_193_54 (L S : List Value) (h : icH) : icE 193 54 L S h = exe icE 193 (e_bin (fun x y => x + y) 55 L S h) := icE_eq (i := .iadd) (len := 1) (x1 := 0) (x2 := 0) (x3 := 0) (x4 := 64) ((fe_193 54).trans rfl) L S h
theorem r_193_55 (L S : List Value) (h : icH) : icE 193 55 L S h = exe icE 193 (e_iald 56 L S h) := icE_eq (i := .iaload) (len := 1) (x1 := 0) (x2 := 0) (x3 := 0) (x4 := 64) ((fe_193 55).trans rfl) L S h
theorem r_193_56 (L S : List Value) (h : icH) : icE 193 56 L S h = exe icE 193 (e_aload 0 57 L S h) := icE_eq (i := .aload_n 0) (len := 1) (x1 := 0) (x2 := 0) (x3 := 0) (x4 := 64) ((fe_193 56).trans rfl) L S h
theorem r_193_57 (L S : List Value) (h : icH) : icE 193 57 L S h = exe icE 193 (e_getf 0 8 60 L S h) := icE_eq (i := .getfield 7) (len := 3) (x1 := 0) (x2 := 8) (x3 := 12) (x4 := 957) ((fe_193 57).trans rfl) L S h
theorem r_193_60 (L S : List Value) (h : icH) : icE 193 60 L S h = exe icE 193 (e_iload 4 62 L S h) := icE_eq (i := .iload 4) (len := 2) (x1 := 0) (x2 := 0) (x3 := 0) (x4 := 64) ((fe_193 60).trans rfl) L S h
theorem r_193_62 (L S : List Value) (h : icH) : icE 193 62 L S h = icE 193 63 L (.int (nI 1) :: S) h := icE_eq (i := .iconst 1) (len := 1) (x1 := 0) (x2 := 0) (x3 := 0) (x4 := 64) ((fe_193 62).trans rfl) L S h
theorem r_193_63 (L S : List Value) (h : icH) : icE 193 63 L S h = exe icE 193 (e_bin (fun x y => x + y) 64 L S h) := icE_eq (i := .iadd) (len := 1) (x1 := 0) (x2 := 0) (x3 := 0) (x4 := 64) ((fe_193 63).trans rfl) L S h
theorem r_193_64 (L S : List Value) (h : icH) : icE 193 64 L S h = exe icE 193 (e_iald 65 L S h) := icE_eq (i := .iaload) (len := 1) (x1 := 0) (x2 := 0) (x3 := 0) (x4 := 64) ((fe_193 64).trans rfl) L S h
theorem r_193_65 (L S : List Value) (h : icH) : icE 193 65 L S h = exe icE 193 (e_iload 5 67 L S h) := icE_eq (i := .iload 5) (len := 2) (x1 := 0) (x2 := 0) (x3 := 0) (x4 := 64) ((fe_193 65).trans rfl) L S h
theorem r_193_67 (L S : List Value) (h : icH) : icE 193 67 L S h = exe icE 193 (e_aload 0 68 L S h) := icE_eq (i := .aload_n 0) (len := 1) (x1 := 0) (x2 := 0) (x3 := 0) (x4 := 64) ((fe_193 67).trans rfl) L S h
theorem r_193_68 (L S : List Value) (h : icH) : icE 193 68 L S h = exe icE 193 (e_getf 0 8 71 L S h) := icE_eq (i := .getfield 7) (len := 3) (x1 := 0) (x2 := 8) (x3 := 12) (x4 := 957) ((fe_193 68).trans rfl) L S h
theorem r_193_71 (L S : List Value) (h : icH) : icE 193 71 L S h = exe icE 193 (e_iload 4 73 L S h) := icE_eq (i := .iload 4) (len := 2) (x1 := 0) (x2 := 0) (x3 := 0) (x4 := 64) ((fe_193 71).trans rfl) L S h
theorem r_193_73 (L S : List Value) (h : icH) : icE 193 73 L S h = icE 193 74 L (.int (nI 2) :: S) h := icE_eq (i := .iconst 2) (len := 1) (x1 := 0) (x2 := 0) (x3 := 0) (x4 := 64) ((fe_193 73).trans rfl) L S h
theorem r_193_74 (L S : List Value) (h : icH) : icE 193 74 L S h = exe icE 193 (e_bin (fun x y => x + y) 75 L S h) := icE_eq (i := .iadd) (len := 1) (x1 := 0) (x2 := 0) (x3 := 0) (x4 := 64) ((fe_193 74).trans rfl) L S h
theorem r_193_75 (L S : List Value) (h : icH) : icE 193 75 L S h = exe icE 193 (e_iald 76 L S h) := icE_eq (i := .iaload) (len := 1) (x1 := 0) (x2 := 0) (x3 := 0) (x4 := 64) ((fe_193 75).trans rfl) L S h
theorem r_193_76 (L S : List Value) (h : icH) : icE 193 76 L S h = exe icE 193 (e_call 145 7 4 79 L S h) := icE_eq (i := .invokestatic 66) (len := 3) (x1 := 145) (x2 := 1) (x3 := 0) (x4 := 1140) ((fe_193 76).trans rfl) L S h
theorem r_193_79 (L S : List Value) (h : icH) : icE 193 79 L S h = exe icE 193 (e_aload 0 80 L S h) := icE_eq (i := .aload_n 0) (len := 1) (x1 := 0) (x2 := 0) (x3 := 0) (x4 := 64) ((fe_193 79).trans rfl) L S h
theorem r_193_80 (L S : List Value) (h : icH) : icE 193 80 L S h = exe icE 193 (e_getf 0 8 83 L S h) := icE_eq (i := .getfield 7) (len := 3) (x1 := 0) (x2 := 8) (x3 := 12) (x4 := 957) ((fe_193 80).trans rfl) L S h
theorem r_193_83 (L S : List Value) (h : icH) : icE 193 83 L S h = exe icE 193 (e_iload 4 85 L S h) := icE_eq (i := .iload 4) (len := 2) (x1 := 0) (x2 := 0) (x3 := 0) (x4 := 64) ((fe_193 83).trans rfl) L S h
theorem r_193_85 (L S : List Value) (h : icH) : icE 193 85 L S h = icE 193 86 L (.int (nI 3) :: S) h := icE_eq (i := .iconst 3) (len := 1) (x1 := 0) (x2 := 0) (x3 := 0) (x4 := 64) ((fe_193 85).trans rfl) L S h
theorem r_193_86 (L S : List Value) (h : icH) : icE 193 86 L S h = exe icE 193 (e_bin (fun x y => x + y) 87 L S h) := icE_eq (i := .iadd) (len := 1) (x1 := 0) (x2 := 0) (x3 := 0) (x4 := 64) ((fe_193 86).trans rfl) L S h
theorem r_193_87 (L S : List Value) (h : icH) : icE 193 87 L S h = exe icE 193 (e_iald 88 L S h) := icE_eq (i := .iaload) (len := 1) (x1 := 0) (x2 := 0) (x3 := 0) (x4 := 64) ((fe_193 87).trans rfl) L S h
theorem r_193_88 (L S : List Value) (h : icH) : icE 193 88 L S h = exe icE 193 (e_cmp .ne 97 91 L S h) := icE_eq (i := .if_icmp .ne 9) (len := 3) (x1 := 97) (x2 := 0) (x3 := 0) (x4 := 64) ((fe_193 88).trans rfl) L S h
theorem r_193_91 (L S : List Value) (h : icH) : icE 193 91 L S h = icE 193 94 L (.int (nI 1023) :: S) h := icE_eq (i := .sipush 1023) (len := 3) (x1 := 0) (x2 := 0) (x3 := 0) (x4 := 64) ((fe_193 91).trans rfl) L S h
theorem r_193_94 (L S : List Value) (h : icH) : icE 193 94 L S h = icE 193 103 L S h := icE_eq (i := .goto 9) (len := 3) (x1 := 103) (x2 := 0) (x3 := 0) (x4 := 64) ((fe_193 94).trans rfl) L S h
theorem r_193_97 (L S : List Value) (h : icH) : icE 193 97 L S h = icE 193 98 L (.int (nI 1) :: S) h := icE_eq (i := .iconst 1) (len := 1) (x1 := 0) (x2 := 0) (x3 := 0) (x4 := 64) ((fe_193 97).trans rfl) L S h
theorem r_193_98 (L S : List Value) (h : icH) : icE 193 98 L S h = exe icE 193 (e_iload 5 100 L S h) := icE_eq (i := .iload 5) (len := 2) (x1 := 0) (x2 := 0) (x3 := 0) (x4 := 64) ((fe_193 98).trans rfl) L S h
theorem r_193_100 (L S : List Value) (h : icH) : icE 193 100 L S h = exe icE 193 (e_bin (fun x y => x <<< (y &&& 31)) 101 L S h) := icE_eq (i := .ishl) (len := 1) (x1 := 0) (x2 := 0) (x3 := 0) (x4 := 64) ((fe_193 100).trans rfl) L S h
theorem r_193_101 (L S : List Value) (h : icH) : icE 193 101 L S h = icE 193 102 L (.int (-1) :: S) h := icE_eq (i := .iconst (-1)) (len := 1) (x1 := 0) (x2 := 0) (x3 := 0) (x4 := 64) ((fe_193 101).trans rfl) L S h
theorem r_193_102 (L S : List Value) (h : icH) : icE 193 102 L S h = exe icE 193 (e_bin (fun x y => x ^^^ y) 103 L S h) := icE_eq (i := .ixor) (len := 1) (x1 := 0) (x2 := 0) (x3 := 0) (x4 := 64) ((fe_193 102).trans rfl) L S h
theorem r_193_103 (L S : List Value) (h : icH) : icE 193 103 L S h = exe icE 193 (e_bin (fun x y => x &&& y) 104 L S h) := icE_eq (i := .iand) (len := 1) (x1 := 0) (x2 := 0) (x3 := 0) (x4 := 64) ((fe_193 103).trans rfl) L S h
theorem r_193_104 (L S : List Value) (h : icH) : icE 193 104 L S h = exe icE 193 (e_istore 2 105 L S h) := icE_eq (i := .istore_n 2) (len := 1) (x1 := 0) (x2 := 0) (x3 := 0) (x4 := 64) ((fe_193 104).trans rfl) L S h
theorem r_193_105 (L S : List Value) (h : icH) : icE 193 105 L S h = exe icE 193 (e_iinc 5 (nI 1) 108 L S h) := icE_eq (i := .iinc 5 1) (len := 3) (x1 := 0) (x2 := 0) (x3 := 0) (x4 := 64) ((fe_193 105).trans rfl) L S h
theorem r_193_108 (L S : List Value) (h : icH) : icE 193 108 L S h = icE 193 28 L S h := icE_eq (i := .goto (-80)) (len := 3) (x1 := 28) (x2 := 0) (x3 := 0) (x4 := 64) ((fe_193 108).trans rfl) L S h
theorem r_193_111 (L S : List Value) (h : icH) : icE 193 111 L S h = exe icE 193 (e_iinc 3 (nI 1) 114 L S h) := icE_eq (i := .iinc 3 1) (len := 3) (x1 := 0) (x2 := 0) (x3 := 0) (x4 := 64) ((fe_193 111).trans rfl) L S h
theorem r_193_114 (L S : List Value) (h : icH) : icE 193 114 L S h = icE 193 6 L S h := icE_eq (i := .goto (-108)) (len := 3) (x1 := 6) (x2 := 0) (x3 := 0) (x4 := 64) ((fe_193 114).trans rfl) L S h
theorem r_193_117 (L S : List Value) (h : icH) : icE 193 117 L S h = exe icE 193 (e_iload 2 118 L S h) := icE_eq (i := .iload_n 2) (len := 1) (x1 := 0) (x2 := 0) (x3 := 0) (x4 := 64) ((fe_193 117).trans rfl) L S h
theorem r_193_118 (L S : List Value) (h : icH) : icE 193 118 L S h = exe icE 193 (e_iret 0 L S h) := icE_eq (i := .ireturn) (len := 1) (x1 := 0) (x2 := 0) (x3 := 0) (x4 := 64) ((fe_193 118).trans rfl) L S h
theorem rw_193 : (∀ (L S : List Value) (h : icH), icE 193 0 L S h = icE 193 3 L (.int (nI 1023) :: S) h) ∧ (∀ (L S : List Value) (h : icH), icE 193 3 L S h = exe icE 193 (e_istore 2 4 L S h)) ∧ (∀ (L S : List Value) (h : icH), icE 193 4 L S h = icE 193 5 L (.int (nI 0) :: S) h) ∧ (∀ (L S : List Value) (h : icH), icE 193 5 L S h = exe icE 193 (e_istore 3 6 L S h)) ∧ (∀ (L S : List Value) (h : icH), icE 193 7 L S h = exe icE 193 (e_aload 0 8 L S h)) ∧ (∀ (L S : List Value) (h : icH), icE 193 8 L S h = exe icE 193 (e_getf 0 8 11 L S h)) ∧ (∀ (L S : List Value) (h : icH), icE 193 11 L S h = icE 193 13 L (.int (nI 56) :: S) h) ∧ (∀ (L S : List Value) (h : icH), icE 193 13 L S h = exe icE 193 (e_iald 14 L S h)) ∧ (∀ (L S : List Value) (h : icH), icE 193 14 L S h = exe icE 193 (e_cmp .ge 117 17 L S h)) ∧ (∀ (L S : List Value) (h : icH), icE 193 17 L S h = icE 193 19 L (.int (nI 57) :: S) h) ∧ (∀ (L S : List Value) (h : icH), icE 193 19 L S h = icE 193 20 L (.int (nI 4) :: S) h) ∧ (∀ (L S : List Value) (h : icH), icE 193 20 L S h = exe icE 193 (e_iload 3 21 L S h)) ∧ (∀ (L S : List Value) (h : icH), icE 193 21 L S h = exe icE 193 (e_bin (fun x y => x * y) 22 L S h)) ∧ (∀ (L S : List Value) (h : icH), icE 193 22 L S h = exe icE 193 (e_bin (fun x y => x + y) 23 L S h)) ∧ (∀ (L S : List Value) (h : icH), icE 193 23 L S h = exe icE 193 (e_istore 4 25 L S h)) ∧ (∀ (L S : List Value) (h : icH), icE 193 25 L S h = icE 193 26 L (.int (nI 0) :: S) h) ∧ (∀ (L S : List Value) (h : icH), icE 193 26 L S h = exe icE 193 (e_istore 5 28 L S h)) ∧ (∀ (L S : List Value) (h : icH), icE 193 30 L S h = icE 193 32 L (.int (nI 10) :: S) h) ∧ (∀ (L S : List Value) (h : icH), icE 193 32 L S h = exe icE 193 (e_cmp .ge 111 35 L S h)) ∧ (∀ (L S : List Value) (h : icH), icE 193 35 L S h = exe icE 193 (e_aload 0 36 L S h)) ∧ (∀ (L S : List Value) (h : icH), icE 193 36 L S h = exe icE 193 (e_getf 0 8 39 L S h)) ∧ (∀ (L S : List Value) (h : icH), icE 193 39 L S h = exe icE 193 (e_iload 4 41 L S h)) ∧ (∀ (L S : List Value) (h : icH), icE 193 41 L S h = exe icE 193 (e_iald 42 L S h)) ∧ (∀ (L S : List Value) (h : icH), icE 193 42 L S h = exe icE 193 (e_iload 1 43 L S h)) ∧ (∀ (L S : List Value) (h : icH), icE 193 43 L S h = exe icE 193 (e_cmp .ne 111 46 L S h)) ∧ (∀ (L S : List Value) (h : icH), icE 193 46 L S h = exe icE 193 (e_iload 2 47 L S h)) ∧ (∀ (L S : List Value) (h : icH), icE 193 47 L S h = exe icE 193 (e_aload 0 48 L S h)) ∧ (∀ (L S : List Value) (h : icH), icE 193 48 L S h = exe icE 193 (e_getf 0 8 51 L S h)) ∧ (∀ (L S : List Value) (h : icH), icE 193 51 L S h = icE 193 53 L (.int (nI 11) :: S) h) ∧ (∀ (L S : List Value) (h : icH), icE 193 53 L S h = exe icE 193 (e_iload 1 54 L S h)) ∧ (∀ (L S : List Value) (h : icH), icE 193 54 L S h = exe icE 193 (e_bin (fun x y => x + y) 55 L S h)) ∧ (∀ (L S : List Value) (h : icH), icE 193 55 L S h = exe icE 193 (e_iald 56 L S h)) ∧ (∀ (L S : List Value) (h : icH), icE 193 56 L S h = exe icE 193 (e_aload 0 57 L S h)) ∧ (∀ (L S : List Value) (h : icH), icE 193 57 L S h = exe icE 193 (e_getf 0 8 60 L S h)) ∧ (∀ (L S : List Value) (h : icH), icE 193 60 L S h = exe icE 193 (e_iload 4 62 L S h)) ∧ (∀ (L S : List Value) (h : icH), icE 193 62 L S h = icE 193 63 L (.int (nI 1) :: S) h) ∧ (∀ (L S : List Value) (h : icH), icE 193 63 L S h = exe icE 193 (e_bin (fun x y => x + y) 64 L S h)) ∧ (∀ (L S : List Value) (h : icH), icE 193 64 L S h = exe icE 193 (e_iald 65 L S h)) ∧ (∀ (L S : List Value) (h : icH), icE 193 65 L S h = exe icE 193 (e_iload 5 67 L S h)) ∧ (∀ (L S : List Value) (h : icH), icE 193 67 L S h = exe icE 193 (e_aload 0 68 L S h)) ∧ (∀ (L S : List Value) (h : icH), icE 193 68 L S h = exe icE 193 (e_getf 0 8 71 L S h)) ∧ (∀ (L S : List Value) (h : icH), icE 193 71 L S h = exe icE 193 (e_iload 4 73 L S h)) ∧ (∀ (L S : List Value) (h : icH), icE 193 73 L S h = icE 193 74 L (.int (nI 2) :: S) h) ∧ (∀ (L S : List Value) (h : icH), icE 193 74 L S h = exe icE 193 (e_bin (fun x y => x + y) 75 L S h)) ∧ (∀ (L S : List Value) (h : icH), icE 193 75 L S h = exe icE 193 (e_iald 76 L S h)) ∧ (∀ (L S : List Value) (h : icH), icE 193 76 L S h = exe icE 193 (e_call 145 7 4 79 L S h)) ∧ (∀ (L S : List Value) (h : icH), icE 193 79 L S h = exe icE 193 (e_aload 0 80 L S h)) ∧ (∀ (L S : List Value) (h : icH), icE 193 80 L S h = exe icE 193 (e_getf 0 8 83 L S h)) ∧ (∀ (L S : List Value) (h : icH), icE 193 83 L S h = exe icE 193 (e_iload 4 85 L S h)) ∧ (∀ (L S : List Value) (h : icH), icE 193 85 L S h = icE 193 86 L (.int (nI 3) :: S) h) ∧ (∀ (L S : List Value) (h : icH), icE 193 86 L S h = exe icE 193 (e_bin (fun x y => x + y) 87 L S h)) ∧ (∀ (L S : List Value) (h : icH), icE 193 87 L S h = exe icE 193 (e_iald 88 L S h)) ∧ (∀ (L S : List Value) (h : icH), icE 193 88 L S h = exe icE 193 (e_cmp .ne 97 91 L S h)) ∧ (∀ (L S : List Value) (h : icH), icE 193 91 L S h = icE 193 94 L (.int (nI 1023) :: S) h) ∧ (∀ (L S : List Value) (h : icH), icE 193 94 L S h = icE 193 103 L S h) ∧ (∀ (L S : List Value) (h : icH), icE 193 97 L S h = icE 193 98 L (.int (nI 1) :: S) h) ∧ (∀ (L S : List Value) (h : icH), icE 193 98 L S h = exe icE 193 (e_iload 5 100 L S h)) ∧ (∀ (L S : List Value) (h : icH), icE 193 100 L S h = exe icE 193 (e_bin (fun x y => x <<< (y &&& 31)) 101 L S h)) ∧ (∀ (L S : List Value) (h : icH), icE 193 101 L S h = icE 193 102 L (.int (-1) :: S) h) ∧ (∀ (L S : List Value) (h : icH), icE 193 102 L S h = exe icE 193 (e_bin (fun x y => x ^^^ y) 103 L S h)) ∧ (∀ (L S : List Value) (h : icH), icE 193 103 L S h = exe icE 193 (e_bin (fun x y => x &&& y) 104 L S h)) ∧ (∀ (L S : List Value) (h : icH), icE 193 104 L S h = exe icE 193 (e_istore 2 105 L S h)) ∧ (∀ (L S : List Value) (h : icH), icE 193 105 L S h = exe icE 193 (e_iinc 5 (nI 1) 108 L S h)) ∧ (∀ (L S : List Value) (h : icH), icE 193 108 L S h = icE 193 28 L S h) ∧ (∀ (L S : List Value) (h : icH), icE 193 111 L S h = exe icE 193 (e_iinc 3 (nI 1) 114 L S h)) ∧ (∀ (L S : List Value) (h : icH), icE 193 114 L S h = icE 193 6 L S h) ∧ (∀ (L S : List Value) (h : icH), icE 193 117 L S h = exe icE 193 (e_iload 2 118 L S h)) ∧ (∀ (L S : List Value) (h : icH), icE 193 118 L S h = exe icE 193 (e_iret 0 L S h)) := ⟨r_193_0, r_193_3, r_193_4, r_193_5, r_193_7, r_193_8, r_193_11, r_193_13, r_193_14, r_193_17, r_193_19, r_193_20, r_193_21, r_193_22, r_193_23, r_193_25, r_193_26, r_193_30, r_193_32, r_193_35, r_193_36, r_193_39, r_193_41, r_193_42, r_193_43, r_193_46, r_193_47, r_193_48, r_193_51, r_193_53, r_193_54, r_193_55, r_193_56, r_193_57, r_193_60, r_193_62, r_193_63, r_193_64, r_193_65, r_193_67, r_193_68, r_193_71, r_193_73, r_193_74, r_193_75, r_193_76, r_193_79, r_193_80, r_193_83, r_193_85, r_193_86, r_193_87, r_193_88, r_193_91, r_193_94, r_193_97, r_193_98, r_193_100, r_193_101, r_193_102, r_193_103, r_193_104, r_193_105, r_193_108, r_193_111, r_193_114, r_193_117, r_193_118⟩
-- cX9_mostAlike: heads [5, 17]
theorem fe_195 (pc : Nat) : fet 195 pc = look k_195 pc := rfl
theorem r_195_0 (L S : List Value) (h : icH) : icE 195 0 L S h = icE 195 1 L (.int (nI 0) :: S) h := icE_eq (i := .iconst 0) (len := 1) (x1 := 0) (x2 := 0) (x3 := 0) (x4 := 64) ((fe_195 0).trans rfl) L S h
theorem r_195_1 (L S : List Value) (h : icH) : icE 195 1 L S h = exe icE 195 (e_istore 3 2 L S h) := icE_eq (i := .istore_n 3) (len := 1) (x1 := 0) (x2 := 0) (x3 := 0) (x4 := 64) ((fe_195 1).trans rfl) L S h
theorem r_195_2 (L S : List Value) (h : icH) : icE 195 2 L S h = icE 195 3 L (.int (nI 0) :: S) h := icE_eq (i := .iconst 0) (len := 1) (x1 := 0) (x2 := 0) (x3 := 0) (x4 := 64) ((fe_195 2).trans rfl) L S h
theorem r_195_3 (L S : List Value) (h : icH) : icE 195 3 L S h = exe icE 195 (e_istore 4 5 L S h) := icE_eq (i := .istore 4) (len := 2) (x1 := 0) (x2 := 0) (x3 := 0) (x4 := 64) ((fe_195 3).trans rfl) L S h
theorem rh_195_5 (L S : List Value) (h : icH) : icE 195 5 L S h = exe icE 195 (e_iload 4 7 L S h) := icE_eq (i := .iload 4) (len := 2) (x1 := 0) (x2 := 0) (x3 := 0) (x4 := 64) ((fe_195 5).trans rfl) L S h
theorem r_195_7 (L S : List Value) (h : icH) : icE 195 7 L S h = exe icE 195 (e_iload 2 8 L S h) := icE_eq (i := .iload_n 2) (len := 1) (x1 := 0) (x2 := 0) (x3 := 0) (x4 := 64) ((fe_195 7).trans rfl) L S h
theorem r_195_8 (L S : List Value) (h : icH) : icE 195 8 L S h = exe icE 195 (e_cmp .ge 90 11 L S h) := icE_eq (i := .if_icmp .ge 82) (len := 3) (x1 := 90) (x2 := 0) (x3 := 0) (x4 := 64) ((fe_195 8).trans rfl) L S h
theorem r_195_11 (L S : List Value) (h : icH) : icE 195 11 L S h = icE 195 12 L (.int (nI 0) :: S) h := icE_eq (i := .iconst 0) (len := 1) (x1 := 0) (x2 := 0) (x3 := 0) (x4 := 64) ((fe_195 11).trans rfl) L S h
theorem r_195_12 (L S : List Value) (h : icH) : icE 195 12 L S h = exe icE 195 (e_istore 5 14 L S h) := icE_eq (i := .istore 5) (len := 2) (x1 := 0) (x2 := 0) (x3 := 0) (x4 := 64) ((fe_195 12).trans rfl) L S h
theorem r_195_14 (L S : List Value) (h : icH) : icE 195 14 L S h = icE 195 15 L (.int (nI 0) :: S) h := icE_eq (i := .iconst 0) (len := 1) (x1 := 0) (x2 := 0) (x3 := 0) (x4 := 64) ((fe_195 14).trans rfl) L S h
theorem r_195_15 (L S : List Value) (h : icH) : icE 195 15 L S h = exe icE 195 (e_istore 6 17 L S h) := icE_eq (i := .istore 6) (len := 2) (x1 := 0) (x2 := 0) (x3 := 0) (x4 := 64) ((fe_195 15).trans rfl) L S h
theorem rh_195_17 (L S : List Value) (h : icH) : icE 195 17 L S h = exe icE 195 (e_iload 6 19 L S h) := icE_eq (i := .iload 6) (len := 2) (x1 := 0) (x2 := 0) (x3 := 0) (x4 := 64) ((fe_195 17).trans rfl) L S h
theorem r_195_19 (L S : List Value) (h : icH) : icE 195 19 L S h = exe icE 195 (e_iload 2 20 L S h) := icE_eq (i := .iload_n 2) (len := 1) (x1 := 0) (x2 := 0) (x3 := 0) (x4 := 64) ((fe_195 19).trans rfl) L S h
theorem r_195_20 (L S : List Value) (h : icH) : icE 195 20 L S h = exe icE 195 (e_cmp .ge 71 23 L S h) := icE_eq (i := .if_icmp .ge 51) (len := 3) (x1 := 71) (x2 := 0) (x3 := 0) (x4 := 64) ((fe_195 20).trans rfl) L S h
theorem r_195_23 (L S : List Value) (h : icH) : icE 195 23 L S h = exe icE 195 (e_iload 5 25 L S h) := icE_eq (i := .iload 5) (len := 2) (x1 := 0) (x2 := 0) (x3 := 0) (x4 := 64) ((fe_195 23).trans rfl) L S h
theorem r_195_25 (L S : List Value) (h : icH) : icE 195 25 L S h = exe icE 195 (e_iload 1 26 L S h) := icE_eq (i := .iload_n 1) (len := 1) (x1 := 0) (x2 := 0) (x3 := 0) (x4 := 64) ((fe_195 25).trans rfl) L S h
theorem r_195_26 (L S : List Value) (h : icH) : icE 195 26 L S h = exe icE 195 (e_iload 4 28 L S h) := icE_eq (i := .iload 4) (len := 2) (x1 := 0) (x2 := 0) (x3 := 0) (x4 := 64) ((fe_195 26).trans rfl) L S h
theorem r_195_28 (L S : List Value) (h : icH) : icE 195 28 L S h = exe icE 195 (e_bin (fun x y => x >>> (y &&& 31)) 29 L S h) := icE_eq (i := .ishr) (len := 1) (x1 := 0) (x2 := 0) (x3 := 0) (x4 := 64) ((fe_195 28).trans rfl) L S h
theorem r_195_29 (L S : List Value) (h : icH) : icE 195 29 L S h = exe icE 195 (e_iload 1 30 L S h) := icE_eq (i := .iload_n 1) (len := 1) (x1 := 0) (x2 := 0) (x3 := 0) (x4 := 64) ((fe_195 29).trans rfl) L S h
theorem r_195_30 (L S : List Value) (h : icH) : icE 195 30 L S h = exe icE 195 (e_iload 6 32 L S h) := icE_eq (i := .iload 6) (len := 2) (x1 := 0) (x2 := 0) (x3 := 0) (x4 := 64) ((fe_195 30).trans rfl) L S h
theorem r_195_32 (L S : List Value) (h : icH) : icE 195 32 L S h = exe icE 195 (e_bin (fun x y => x >>> (y &&& 31)) 33 L S h) := icE_eq (i := .ishr) (len := 1) (x1 := 0) (x2 := 0) (x3 := 0) (x4 := 64) ((fe_195 32).trans rfl) L S h
theorem r_195_33 (L S : List Value) (h : icH) : icE 195 33 L S h = exe icE 195 (e_bin (fun x y => x &&& y) 34 L S h) := icE_eq (i := .iand) (len := 1) (x1 := 0) (x2 := 0) (x3 := 0) (x4 := 64) ((fe_195 33).trans rfl) L S h
theorem r_195_34 (L S : List Value) (h : icH) : icE 195 34 L S h = icE 195 35 L (.int (nI 1) :: S) h := icE_eq (i := .iconst 1) (len := 1) (x1 := 0) (x2 := 0) (x3 := 0) (x4 := 64) ((fe_195 34).trans rfl) L S h
theorem r_195_35 (L S : List Value) (h : icH) : icE 195 35 L S h = exe icE 195 (e_bin (fun x y => x &&& y) 36 L S h) := icE_eq (i := .iand) (len := 1) (x1 := 0) (x2 := 0) (x3 := 0) (x4 := 64) ((fe_195 35).trans rfl) L S h
theorem r_195_36 (L S : List Value) (h : icH) : icE 195 36 L S h = icE 195 37 L (.int (nI 1) :: S) h := icE_eq (i := .iconst 1) (len := 1) (x1 := 0) (x2 := 0) (x3 := 0) (x4 := 64) ((fe_195 36).trans rfl) L S h
theorem r_195_37 (L S : List Value) (h : icH) : icE 195 37 L S h = exe icE 195 (e_cmp .ne 61 40 L S h) := icE_eq (i := .if_icmp .ne 24) (len := 3) (x1 := 61) (x2 := 0) (x3 := 0) (x4 := 64) ((fe_195 37).trans rfl) L S h
theorem r_195_40 (L S : List Value) (h : icH) : icE 195 40 L S h = exe icE 195 (e_aload 0 41 L S h) := icE_eq (i := .aload_n 0) (len := 1) (x1 := 0) (x2 := 0) (x3 := 0) (x4 := 64) ((fe_195 40).trans rfl) L S h
theorem r_195_41 (L S : List Value) (h : icH) : icE 195 41 L S h = exe icE 195 (e_getf 18 8 44 L S h) := icE_eq (i := .getfield 45) (len := 3) (x1 := 18) (x2 := 8) (x3 := 12) (x4 := 975) ((fe_195 41).trans rfl) L S h
theorem r_195_44 (L S : List Value) (h : icH) : icE 195 44 L S h = exe icE 195 (e_iload 4 46 L S h) := icE_eq (i := .iload 4) (len := 2) (x1 := 0) (x2 := 0) (x3 := 0) (x4 := 64) ((fe_195 44).trans rfl) L S h
theorem r_195_46 (L S : List Value) (h : icH) : icE 195 46 L S h = exe icE 195 (e_iald 47 L S h) := icE_eq (i := .iaload) (len := 1) (x1 := 0) (x2 := 0) (x3 := 0) (x4 := 64) ((fe_195 46).trans rfl) L S h
theorem r_195_47 (L S : List Value) (h : icH) : icE 195 47 L S h = exe icE 195 (e_aload 0 48 L S h) := icE_eq (i := .aload_n 0) (len := 1) (x1 := 0) (x2 := 0) (x3 := 0) (x4 := 64) ((fe_195 47).trans rfl) L S h
theorem r_195_48 (L S : List Value) (h : icH) : icE 195 48 L S h = exe icE 195 (e_getf 18 8 51 L S h) := icE_eq (i := .getfield 45) (len := 3) (x1 := 18) (x2 := 8) (x3 := 12) (x4 := 975) ((fe_195 48).trans rfl) L S h
theorem r_195_51 (L S : List Value) (h : icH) : icE 195 51 L S h = exe icE 195 (e_iload 6 53 L S h) := icE_eq (i := .iload 6) (len := 2) (x1 := 0) (x2 := 0) (x3 := 0) (x4 := 64) ((fe_195 51).trans rfl) L S h
theorem r_195_53 (L S : List Value) (h : icH) : icE 195 53 L S h = exe icE 195 (e_iald 54 L S h) := icE_eq (i := .iaload) (len := 1) (x1 := 0) (x2 := 0) (x3 := 0) (x4 := 64) ((fe_195 53).trans rfl) L S h
theorem r_195_54 (L S : List Value) (h : icH) : icE 195 54 L S h = exe icE 195 (e_cmp .ne 61 57 L S h) := icE_eq (i := .if_icmp .ne 7) (len := 3) (x1 := 61) (x2 := 0) (x3 := 0) (x4 := 64) ((fe_195 54).trans rfl) L S h
theorem r_195_57 (L S : List Value) (h : icH) : icE 195 57 L S h = icE 195 58 L (.int (nI 1) :: S) h := icE_eq (i := .iconst 1) (len := 1) (x1 := 0) (x2 := 0) (x3 := 0) (x4 := 64) ((fe_195 57).trans rfl) L S h
theorem r_195_58 (L S : List Value) (h : icH) : icE 195 58 L S h = icE 195 62 L S h := icE_eq (i := .goto 4) (len := 3) (x1 := 62) (x2 := 0) (x3 := 0) (x4 := 64) ((fe_195 58).trans rfl) L S h
theorem r_195_61 (L S : List Value) (h : icH) : icE 195 61 L S h = icE 195 62 L (.int (nI 0) :: S) h := icE_eq (i := .iconst 0) (len := 1) (x1 := 0) (x2 := 0) (x3 := 0) (x4 := 64) ((fe_195 61).trans rfl) L S h
theorem r_195_62 (L S : List Value) (h : icH) : icE 195 62 L S h = exe icE 195 (e_bin (fun x y => x + y) 63 L S h) := icE_eq (i := .iadd) (len := 1) (x1 := 0) (x2 := 0) (x3 := 0) (x4 := 64) ((fe_195 62).trans rfl) L S h
theorem r_195_63 (L S : List Value) (h : icH) : icE 195 63 L S h = exe icE 195 (e_istore 5 65 L S h) := icE_eq (i := .istore 5) (len := 2) (x1 := 0) (x2 := 0) (x3 := 0) (x4 := 64) ((fe_195 63).trans rfl) L S h
theorem r_195_65 (L S : List Value) (h : icH) : icE 195 65 L S h = exe icE 195 (e_iinc 6 (nI 1) 68 L S h) := icE_eq (i := .iinc 6 1) (len := 3) (x1 := 0) (x2 := 0) (x3 := 0) (x4 := 64) ((fe_195 65).trans rfl) L S h
theorem r_195_68 (L S : List Value) (h : icH) : icE 195 68 L S h = icE 195 17 L S h := icE_eq (i := .goto (-51)) (len := 3) (x1 := 17) (x2 := 0) (x3 := 0) (x4 := 64) ((fe_195 68).trans rfl) L S h
theorem r_195_71 (L S : List Value) (h : icH) : icE 195 71 L S h = exe icE 195 (e_iload 5 73 L S h) := icE_eq (i := .iload 5) (len := 2) (x1 := 0) (x2 := 0) (x3 := 0) (x4 := 64) ((fe_195 71).trans rfl) L S h
theorem r_195_73 (L S : List Value) (h : icH) : icE 195 73 L S h = exe icE 195 (e_iload 3 74 L S h) := icE_eq (i := .iload_n 3) (len := 1) (x1 := 0) (x2 := 0) (x3 := 0) (x4 := 64) ((fe_195 73).trans rfl) L S h
theorem r_195_74 (L S : List Value) (h : icH) : icE 195 74 L S h = exe icE 195 (e_cmp .le 82 77 L S h) := icE_eq (i := .if_icmp .le 8) (len := 3) (x1 := 82) (x2 := 0) (x3 := 0) (x4 := 64) ((fe_195 74).trans rfl) L S h
theorem r_195_77 (L S : List Value) (h : icH) : icE 195 77 L S h = exe icE 195 (e_iload 5 79 L S h) := icE_eq (i := .iload 5) (len := 2) (x1 := 0) (x2 := 0) (x3 := 0) (x4 := 64) ((fe_195 77).trans rfl) L S h
theorem r_195_79 (L S : List Value) (h : icH) : icE 195 79 L S h = icE 195 83 L S h := icE_eq (i := .goto 4) (len := 3) (x1 := 83) (x2 := 0) (x3 := 0) (x4 := 64) ((fe_195 79).trans rfl) L S h
theorem r_195_82 (L S : List Value) (h : icH) : icE 195 82 L S h = exe icE 195 (e_iload 3 83 L S h) := icE_eq (i := .iload_n 3) (len := 1) (x1 := 0) (x2 := 0) (x3 := 0) (x4 := 64) ((fe_195 82).trans rfl) L S h
theorem r_195_83 (L S : List Value) (h : icH) : icE 195 83 L S h = exe icE 195 (e_istore 3 84 L S h) := icE_eq (i := .istore_n 3) (len := 1) (x1 := 0) (x2 := 0) (x3 := 0) (x4 := 64) ((fe_195 83).trans rfl) L S h
theorem r_195_84 (L S : List Value) (h : icH) : icE 195 84 L S h = exe icE 195 (e_iinc 4 (nI 1) 87 L S h) := icE_eq (i := .iinc 4 1) (len := 3) (x1 := 0) (x2 := 0) (x3 := 0) (x4 := 64) ((fe_195 84).trans rfl) L S h
theorem r_195_87 (L S : List Value) (h : icH) : icE 195 87 L S h = icE 195 5 L S h := icE_eq (i := .goto (-82)) (len := 3) (x1 := 5) (x2 := 0) (x3 := 0) (x4 := 64) ((fe_195 87).trans rfl) L S h
theorem r_195_90 (L S : List Value) (h : icH) : icE 195 90 L S h = exe icE 195 (e_iload 3 91 L S h) := icE_eq (i := .iload_n 3) (len := 1) (x1 := 0) (x2 := 0) (x3 := 0) (x4 := 64) ((fe_195 90).trans rfl) L S h
theorem r_195_91 (L S : List Value) (h : icH) : icE 195 91 L S h = exe icE 195 (e_iret 0 L S h) := icE_eq (i := .ireturn) (len := 1) (x1 := 0) (x2 := 0) (x3 := 0) (x4 := 64) ((fe_195 91).trans rfl) L S h
theorem rw_195 : (∀ (L S : List Value) (h : icH), icE 195 0 L S h = icE 195 1 L (.int (nI 0) :: S) h) ∧ (∀ (L S : List Value) (h : icH), icE 195 1 L S h = exe icE 195 (e_istore 3 2 L S h)) ∧ (∀ (L S : List Value) (h : icH), icE 195 2 L S h = icE 195 3 L (.int (nI 0) :: S) h) ∧ (∀ (L S : List Value) (h : icH), icE 195 3 L S h = exe icE 195 (e_istore 4 5 L S h)) ∧ (∀ (L S : List Value) (h : icH), icE 195 7 L S h = exe icE 195 (e_iload 2 8 L S h)) ∧ (∀ (L S : List Value) (h : icH), icE 195 8 L S h = exe icE 195 (e_cmp .ge 90 11 L S h)) ∧ (∀ (L S : List Value) (h : icH), icE 195 11 L S h = icE 195 12 L (.int (nI 0) :: S) h) ∧ (∀ (L S : List Value) (h : icH), icE 195 12 L S h = exe icE 195 (e_istore 5 14 L S h)) ∧ (∀ (L S : List Value) (h : icH), icE 195 14 L S h = icE 195 15 L (.int (nI 0) :: S) h) ∧ (∀ (L S : List Value) (h : icH), icE 195 15 L S h = exe icE 195 (e_istore 6 17 L S h)) ∧ (∀ (L S : List Value) (h : icH), icE 195 19 L S h = exe icE 195 (e_iload 2 20 L S h)) ∧ (∀ (L S : List Value) (h : icH), icE 195 20 L S h = exe icE 195 (e_cmp .ge 71 23 L S h)) ∧ (∀ (L S : List Value) (h : icH), icE 195 23 L S h = exe icE 195 (e_iload 5 25 L S h)) ∧ (∀ (L S : List Value) (h : icH), icE 195 25 L S h = exe icE 195 (e_iload 1 26 L S h)) ∧ (∀ (L S : List Value) (h : icH), icE 195 26 L S h = exe icE 195 (e_iload 4 28 L S h)) ∧ (∀ (L S : List Value) (h : icH), icE 195 28 L S h = exe icE 195 (e_bin (fun x y => x >>> (y &&& 31)) 29 L S h)) ∧ (∀ (L S : List Value) (h : icH), icE 195 29 L S h = exe icE 195 (e_iload 1 30 L S h)) ∧ (∀ (L S : List Value) (h : icH), icE 195 30 L S h = exe icE 195 (e_iload 6 32 L S h)) ∧ (∀ (L S : List Value) (h : icH), icE 195 32 L S h = exe icE 195 (e_bin (fun x y => x >>> (y &&& 31)) 33 L S h)) ∧ (∀ (L S : List Value) (h : icH), icE 195 33 L S h = exe icE 195 (e_bin (fun x y => x &&& y) 34 L S h)) ∧ (∀ (L S : List Value) (h : icH), icE 195 34 L S h = icE 195 35 L (.int (nI 1) :: S) h) ∧ (∀ (L S : List Value) (h : icH), icE 195 35 L S h = exe icE 195 (e_bin (fun x y => x &&& y) 36 L S h)) ∧ (∀ (L S : List Value) (h : icH), icE 195 36 L S h = icE 195 37 L (.int (nI 1) :: S) h) ∧ (∀ (L S : List Value) (h : icH), icE 195 37 L S h = exe icE 195 (e_cmp .ne 61 40 L S h)) ∧ (∀ (L S : List Value) (h : icH), icE 195 40 L S h = exe icE 195 (e_aload 0 41 L S h)) ∧ (∀ (L S : List Value) (h : icH), icE 195 41 L S h = exe icE 195 (e_getf 18 8 44 L S h)) ∧ (∀ (L S : List Value) (h : icH), icE 195 44 L S h = exe icE 195 (e_iload 4 46 L S h)) ∧ (∀ (L S : List Value) (h : icH), icE 195 46 L S h = exe icE 195 (e_iald 47 L S h)) ∧ (∀ (L S : List Value) (h : icH), icE 195 47 L S h = exe icE 195 (e_aload 0 48 L S h)) ∧ (∀ (L S : List Value) (h : icH), icE 195 48 L S h = exe icE 195 (e_getf 18 8 51 L S h)) ∧ (∀ (L S : List Value) (h : icH), icE 195 51 L S h = exe icE 195 (e_iload 6 53 L S h)) ∧ (∀ (L S : List Value) (h : icH), icE 195 53 L S h = exe icE 195 (e_iald 54 L S h)) ∧ (∀ (L S : List Value) (h : icH), icE 195 54 L S h = exe icE 195 (e_cmp .ne 61 57 L S h)) ∧ (∀ (L S : List Value) (h : icH), icE 195 57 L S h = icE 195 58 L (.int (nI 1) :: S) h) ∧ (∀ (L S : List Value) (h : icH), icE 195 58 L S h = icE 195 62 L S h) ∧ (∀ (L S : List Value) (h : icH), icE 195 61 L S h = icE 195 62 L (.int (nI 0) :: S) h) ∧ (∀ (L S : List Value) (h : icH), icE 195 62 L S h = exe icE 195 (e_bin (fun x y => x + y) 63 L S h)) ∧ (∀ (L S : List Value) (h : icH), icE 195 63 L S h = exe icE 195 (e_istore 5 65 L S h)) ∧ (∀ (L S : List Value) (h : icH), icE 195 65 L S h = exe icE 195 (e_iinc 6 (nI 1) 68 L S h)) ∧ (∀ (L S : List Value) (h : icH), icE 195 68 L S h = icE 195 17 L S h) ∧ (∀ (L S : List Value) (h : icH), icE 195 71 L S h = exe icE 195 (e_iload 5 73 L S h)) ∧ (∀ (L S : List Value) (h : icH), icE 195 73 L S h = exe icE 195 (e_iload 3 74 L S h)) ∧ (∀ (L S : List Value) (h : icH), icE 195 74 L S h = exe icE 195 (e_cmp .le 82 77 L S h)) ∧ (∀ (L S : List Value) (h : icH), icE 195 77 L S h = exe icE 195 (e_iload 5 79 L S h)) ∧ (∀ (L S : List Value) (h : icH), icE 195 79 L S h = icE 195 83 L S h) ∧ (∀ (L S : List Value) (h : icH), icE 195 82 L S h = exe icE 195 (e_iload 3 83 L S h)) ∧ (∀ (L S : List Value) (h : icH), icE 195 83 L S h = exe icE 195 (e_istore 3 84 L S h)) ∧ (∀ (L S : List Value) (h : icH), icE 195 84 L S h = exe icE 195 (e_iinc 4 (nI 1) 87 L S h)) ∧ (∀ (L S : List Value) (h : icH), icE 195 87 L S h = icE 195 5 L S h) ∧ (∀ (L S : List Value) (h : icH), icE 195 90 L S h = exe icE 195 (e_iload 3 91 L S h)) ∧ (∀ (L S : List Value) (h : icH), icE 195 91 L S h = exe icE 195 (e_iret 0 L S h)) := ⟨r_195_0, r_195_1, r_195_2, r_195_3, r_195_7, r_195_8, r_195_11, r_195_12, r_195_14, r_195_15, r_195_19, r_195_20, r_195_23, r_195_25, r_195_26, r_195_28, r_195_29, r_195_30, r_195_32, r_195_33, r_195_34, r_195_35, r_195_36, r_195_37, r_195_40, r_195_41, r_195_44, r_195_46, r_195_47, r_195_48, r_195_51, r_195_53, r_195_54, r_195_57, r_195_58, r_195_61, r_195_62, r_195_63, r_195_65, r_195_68, r_195_71, r_195_73, r_195_74, r_195_77, r_195_79, r_195_82, r_195_83, r_195_84, r_195_87, r_195_90, r_195_91⟩
-- cX9_icesOf: heads [5, 27]
theorem fe_200 (pc : Nat) : fet 200 pc = look k_200 pc := rfl
theorem r_200_0 (L S : List Value) (h : icH) : icE 200 0 L S h = icE 200 2 L (.int (nI 63) :: S) h := icE_eq (i := .bipush 63) (len := 2) (x1 := 0) (x2 := 0) (x3 := 0) (x4 := 64) ((fe_200 0).trans rfl) L S h
theorem r_200_2 (L S : List Value) (h : icH) : icE 200 2 L S h = exe icE 200 (e_istore 2 3 L S h) := icE_eq (i := .istore_n 2) (len := 1) (x1 := 0) (x2 := 0) (x3 := 0) (x4 := 64) ((fe_200 2).trans rfl) L S h
theorem r_200_3 (L S : List Value) (h : icH) : icE 200 3 L S h = icE 200 4 L (.int (nI 0) :: S) h := icE_eq (i := .iconst 0) (len := 1) (x1 := 0) (x2 := 0) (x3 := 0) (x4 := 64) ((fe_200 3).trans rfl) L S h
theorem r_200_4 (L S : List Value) (h : icH) : icE 200 4 L S h = exe icE 200 (e_istore 3 5 L S h) := icE_eq (i := .istore_n 3) (len := 1) (x1 := 0) (x2 := 0) (x3 := 0) (x4 := 64) ((fe_200 4).trans rfl) L S h
theorem rh_200_5 (L S : List Value) (h : icH) : icE 200 5 L S h = exe icE 200 (e_iload 3 6 L S h) := icE_eq (i := .iload_n 3) (len := 1) (x1 := 0) (x2 := 0) (x3 := 0) (x4 := 64) ((fe_200 5).trans rfl) L S h
theorem r_200_6 (L S : List Value) (h : icH) : icE 200 6 L S h = exe icE 200 (e_aload 0 7 L S h) := icE_eq (i := .aload_n 0) (len := 1) (x1 := 0) (x2 := 0) (x3 := 0) (x4 := 64) ((fe_200 6).trans rfl) L S h
theorem r_200_7 (L S : List Value) (h : icH) : icE 200 7 L S h = exe icE 200 (e_getf 0 8 10 L S h) := icE_eq (i := .getfield 7) (len := 3) (x1 := 0) (x2 := 8) (x3 := 12) (x4 := 957) ((fe_200 7).trans rfl) L S h
theorem r_200_10 (L S : List Value) (h : icH) : icE 200 10 L S h = icE 200 12 L (.int (nI 77) :: S) h := icE_eq (i := .bipush 77) (len := 2) (x1 := 0) (x2 := 0) (x3 := 0) (x4 := 64) ((fe_200 10).trans rfl) L S h
theorem r_200_12 (L S : List Value) (h : icH) : icE 200 12 L S h = exe icE 200 (e_iald 13 L S h) := icE_eq (i := .iaload) (len := 1) (x1 := 0) (x2 := 0) (x3 := 0) (x4 := 64) ((fe_200 12).trans rfl) L S h
theorem r_200_13 (L S : List Value) (h : icH) : icE 200 13 L S h = exe icE 200 (e_cmp .ge 115 16 L S h) := icE_eq (i := .if_icmp .ge 102) (len := 3) (x1 := 115) (x2 := 0) (x3 := 0) (x4 := 64) ((fe_200 13).trans rfl) L S h
theorem r_200_16 (L S : List Value) (h : icH) : icE 200 16 L S h = icE 200 18 L (.int (nI 78) :: S) h := icE_eq (i := .bipush 78) (len := 2) (x1 := 0) (x2 := 0) (x3 := 0) (x4 := 64) ((fe_200 16).trans rfl) L S h
theorem r_200_18 (L S : List Value) (h : icH) : icE 200 18 L S h = icE 200 19 L (.int (nI 5) :: S) h := icE_eq (i := .iconst 5) (len := 1) (x1 := 0) (x2 := 0) (x3 := 0) (x4 := 64) ((fe_200 18).trans rfl) L S h
theorem r_200_19 (L S : List Value) (h : icH) : icE 200 19 L S h = exe icE 200 (e_iload 3 20 L S h) := icE_eq (i := .iload_n 3) (len := 1) (x1 := 0) (x2 := 0) (x3 := 0) (x4 := 64) ((fe_200 19).trans rfl) L S h
theorem r_200_20 (L S : List Value) (h : icH) : icE 200 20 L S h = exe icE 200 (e_bin (fun x y => x * y) 21 L S h) := icE_eq (i := .imul) (len := 1) (x1 := 0) (x2 := 0) (x3 := 0) (x4 := 64) ((fe_200 20).trans rfl) L S h
theorem r_200_21 (L S : List Value) (h : icH) : icE 200 21 L S h = exe icE 200 (e_bin (fun x y => x + y) 22 L S h) := icE_eq (i := .iadd) (len := 1) (x1 := 0) (x2 := 0) (x3 := 0) (x4 := 64) ((fe_200 21).trans rfl) L S h
theorem r_200_22 (L S : List Value) (h : icH) : icE 200 22 L S h = exe icE 200 (e_istore 4 24 L S h) := icE_eq (i := .istore 4) (len := 2) (x1 := 0) (x2 := 0) (x3 := 0) (x4 := 64) ((fe_200 22).trans rfl) L S h
theorem r_200_24 (L S : List Value) (h : icH) : icE 200 24 L S h = icE 200 25 L (.int (nI 0) :: S) h := icE_eq (i := .iconst 0) (len := 1) (x1 := 0) (x2 := 0) (x3 := 0) (x4 := 64) ((fe_200 24).trans rfl) L S h
theorem r_200_25 (L S : List Value) (h : icH) : icE 200 25 L S h = exe icE 200 (e_istore 5 27 L S h) := icE_eq (i := .istore 5) (len := 2) (x1 := 0) (x2 := 0) (x3 := 0) (x4 := 64) ((fe_200 25).trans rfl) L S h
theorem rh_200_27 (L S : List Value) (h : icH) : icE 200 27 L S h = exe icE 200 (e_iload 5 29 L S h) := icE_eq (i := .iload 5) (len := 2) (x1 := 0) (x2 := 0) (x3 := 0) (x4 := 64) ((fe_200 27).trans rfl) L S h
theorem r_200_29 (L S : List Value) (h : icH) : icE 200 29 L S h = icE 200 31 L (.int (nI 6) :: S) h := icE_eq (i := .bipush 6) (len := 2) (x1 := 0) (x2 := 0) (x3 := 0) (x4 := 64) ((fe_200 29).trans rfl) L S h
theorem r_200_31 (L S : List Value) (h : icH) : icE 200 31 L S h = exe icE 200 (e_cmp .ge 109 34 L S h) := icE_eq (i := .if_icmp .ge 78) (len := 3) (x1 := 109) (x2 := 0) (x3 := 0) (x4 := 64) ((fe_200 31).trans rfl) L S h
theorem r_200_34 (L S : List Value) (h : icH) : icE 200 34 L S h = exe icE 200 (e_aload 0 35 L S h) := icE_eq (i := .aload_n 0) (len := 1) (x1 := 0) (x2 := 0) (x3 := 0) (x4 := 64) ((fe_200 34).trans rfl) L S h
theorem r_200_35 (L S : List Value) (h : icH) : icE 200 35 L S h = exe icE 200 (e_getf 0 8 38 L S h) := icE_eq (i := .getfield 7) (len := 3) (x1 := 0) (x2 := 8) (x3 := 12) (x4 := 957) ((fe_200 35).trans rfl) L S h
theorem r_200_38 (L S : List Value) (h : icH) : icE 200 38 L S h = exe icE 200 (e_iload 4 40 L S h) := icE_eq (i := .iload 4) (len := 2) (x1 := 0) (x2 := 0) (x3 := 0) (x4 := 64) ((fe_200 38).trans rfl) L S h
theorem r_200_40 (L S : List Value) (h : icH) : icE 200 40 L S h = exe icE 200 (e_iald 41 L S h) := icE_eq (i := .iaload) (len := 1) (x1 := 0) (x2 := 0) (x3 := 0) (x4 := 64) ((fe_200 40).trans rfl) L S h
theorem r_200_41 (L S : List Value) (h : icH) : icE 200 41 L S h = exe icE 200 (e_iload 1 42 L S h) := icE_eq (i := .iload_n 1) (len := 1) (x1 := 0) (x2 := 0) (x3 := 0) (x4 := 64) ((fe_200 41).trans rfl) L S h
theorem r_200_42 (L S : List Value) (h : icH) : icE 200 42 L S h = exe icE 200 (e_cmp .ne 109 45 L S h) := icE_eq (i := .if_icmp .ne 67) (len := 3) (x1 := 109) (x2 := 0) (x3 := 0) (x4 := 64) ((fe_200 42).trans rfl) L S h
theorem r_200_45 (L S : List Value) (h : icH) : icE 200 45 L S h = exe icE 200 (e_iload 2 46 L S h) := icE_eq (i := .iload_n 2) (len := 1) (x1 := 0) (x2 := 0) (x3 := 0) (x4 := 64) ((fe_200 45).trans rfl) L S h
theorem r_200_46 (L S : List Value) (h : icH) : icE 200 46 L S h = exe icE 200 (e_iload 5 48 L S h) := icE_eq (i := .iload 5) (len := 2) (x1 := 0) (x2 := 0) (x3 := 0) (x4 := 64) ((fe_200 46).trans rfl) L S h
theorem r_200_48 (L S : List Value) (h : icH) : icE 200 48 L S h = exe icE 200 (e_aload 0 49 L S h) := icE_eq (i := .aload_n 0) (len := 1) (x1 := 0) (x2 := 0) (x3 := 0) (x4 := 64) ((fe_200 48).trans rfl) L S h
theorem r_200_49 (L S : List Value) (h : icH) : icE 200 49 L S h = exe icE 200 (e_getf 0 8 52 L S h) := icE_eq (i := .getfield 7) (len := 3) (x1 := 0) (x2 := 8) (x3 := 12) (x4 := 957) ((fe_200 49).trans rfl) L S h
theorem r_200_52 (L S : List Value) (h : icH) : icE 200 52 L S h = exe icE 200 (e_iload 4 54 L S h) := icE_eq (i := .iload 4) (len := 2) (x1 := 0) (x2 := 0) (x3 := 0) (x4 := 64) ((fe_200 52).trans rfl) L S h
theorem r_200_54 (L S : List Value) (h : icH) : icE 200 54 L S h = icE 200 55 L (.int (nI 1) :: S) h := icE_eq (i := .iconst 1) (len := 1) (x1 := 0) (x2 := 0) (x3 := 0) (x4 := 64) ((fe_200 54).trans rfl) L S h
theorem r_200_55 (L S : List Value) (h : icH) : icE 200 55 L S h = exe icE 200 (e_bin (fun x y => x + y) 56 L S h) := icE_eq (i := .iadd) (len := 1) (x1 := 0) (x2 := 0) (x3 := 0) (x4 := 64) ((fe_200 55).trans rfl) L S h
theorem r_200_56 (L S : List Value) (h : icH) : icE 200 56 L S h = exe icE 200 (e_iald 57 L S h) := icE_eq (i := .iaload) (len := 1) (x1 := 0) (x2 := 0) (x3 := 0) (x4 := 64) ((fe_200 56).trans rfl) L S h
theorem r_200_57 (L S : List Value) (h : icH) : icE 200 57 L S h = exe icE 200 (e_aload 0 58 L S h) := icE_eq (i := .aload_n 0) (len := 1) (x1 := 0) (x2 := 0) (x3 := 0) (x4 := 64) ((fe_200 57).trans rfl) L S h
theorem r_200_58 (L S : List Value) (h : icH) : icE 200 58 L S h = exe icE 200 (e_getf 0 8 61 L S h) := icE_eq (i := .getfield 7) (len := 3) (x1 := 0) (x2 := 8) (x3 := 12) (x4 := 957) ((fe_200 58).trans rfl) L S h
theorem r_200_61 (L S : List Value) (h : icH) : icE 200 61 L S h = exe icE 200 (e_iload 4 63 L S h) := icE_eq (i := .iload 4) (len := 2) (x1 := 0) (x2 := 0) (x3 := 0) (x4 := 64) ((fe_200 61).trans rfl) L S h
theorem r_200_63 (L S : List Value) (h : icH) : icE 200 63 L S h = icE 200 64 L (.int (nI 2) :: S) h := icE_eq (i := .iconst 2) (len := 1) (x1 := 0) (x2 := 0) (x3 := 0) (x4 := 64) ((fe_200 63).trans rfl) L S h
theorem r_200_64 (L S : List Value) (h : icH) : icE 200 64 L S h = exe icE 200 (e_bin (fun x y => x + y) 65 L S h) := icE_eq (i := .iadd) (len := 1) (x1 := 0) (x2 := 0) (x3 := 0) (x4 := 64) ((fe_200 64).trans rfl) L S h
theorem r_200_65 (L S : List Value) (h : icH) : icE 200 65 L S h = exe icE 200 (e_iald 66 L S h) := icE_eq (i := .iaload) (len := 1) (x1 := 0) (x2 := 0) (x3 := 0) (x4 := 64) ((fe_200 65).trans rfl) L S h
theorem r_200_66 (L S : List Value) (h : icH) : icE 200 66 L S h = exe icE 200 (e_aload 0 67 L S h) := icE_eq (i := .aload_n 0) (len := 1) (x1 := 0) (x2 := 0) (x3 := 0) (x4 := 64) ((fe_200 66).trans rfl) L S h
theorem r_200_67 (L S : List Value) (h : icH) : icE 200 67 L S h = exe icE 200 (e_getf 0 8 70 L S h) := icE_eq (i := .getfield 7) (len := 3) (x1 := 0) (x2 := 8) (x3 := 12) (x4 := 957) ((fe_200 67).trans rfl) L S h
theorem r_200_70 (L S : List Value) (h : icH) : icE 200 70 L S h = exe icE 200 (e_iload 4 72 L S h) := icE_eq (i := .iload 4) (len := 2) (x1 := 0) (x2 := 0) (x3 := 0) (x4 := 64) ((fe_200 70).trans rfl) L S h
theorem r_200_72 (L S : List Value) (h : icH) : icE 200 72 L S h = icE 200 73 L (.int (nI 3) :: S) h := icE_eq (i := .iconst 3) (len := 1) (x1 := 0) (x2 := 0) (x3 := 0) (x4 := 64) ((fe_200 72).trans rfl) L S h
theorem r_200_73 (L S : List Value) (h : icH) : icE 200 73 L S h = exe icE 200 (e_bin (fun x y => x + y) 74 L S h) := icE_eq (i := .iadd) (len := 1) (x1 := 0) (x2 := 0) (x3 := 0) (x4 := 64) ((fe_200 73).trans rfl) L S h
theorem r_200_74 (L S : List Value) (h : icH) : icE 200 74 L S h = exe icE 200 (e_iald 75 L S h) := icE_eq (i := .iaload) (len := 1) (x1 := 0) (x2 := 0) (x3 := 0) (x4 := 64) ((fe_200 74).trans rfl) L S h
theorem r_200_75 (L S : List Value) (h : icH) : icE 200 75 L S h = exe icE 200 (e_call 146 6 4 78 L S h) := icE_eq (i := .invokestatic 74) (len := 3) (x1 := 146) (x2 := 1) (x3 := 0) (x4 := 1146) ((fe_200 75).trans rfl) L S h
theorem r_200_78 (L S : List Value) (h : icH) : icE 200 78 L S h = exe icE 200 (e_aload 0 79 L S h) := icE_eq (i := .aload_n 0) (len := 1) (x1 := 0) (x2 := 0) (x3 := 0) (x4 := 64) ((fe_200 78).trans rfl) L S h
theorem r_200_79 (L S : List Value) (h : icH) : icE 200 79 L S h = exe icE 200 (e_getf 0 8 82 L S h) := icE_eq (i := .getfield 7) (len := 3) (x1 := 0) (x2 := 8) (x3 := 12) (x4 := 957) ((fe_200 79).trans rfl) L S h
theorem r_200_82 (L S : List Value) (h : icH) : icE 200 82 L S h = exe icE 200 (e_iload 4 84 L S h) := icE_eq (i := .iload 4) (len := 2) (x1 := 0) (x2 := 0) (x3 := 0) (x4 := 64) ((fe_200 82).trans rfl) L S h
theorem r_200_84 (L S : List Value) (h : icH) : icE 200 84 L S h = icE 200 85 L (.int (nI 4) :: S) h := icE_eq (i := .iconst 4) (len := 1) (x1 := 0) (x2 := 0) (x3 := 0) (x4 := 64) ((fe_200 84).trans rfl) L S h
theorem r_200_85 (L S : List Value) (h : icH) : icE 200 85 L S h = exe icE 200 (e_bin (fun x y => x + y) 86 L S h) := icE_eq (i := .iadd) (len := 1) (x1 := 0) (x2 := 0) (x3 := 0) (x4 := 64) ((fe_200 85).trans rfl) L S h
theorem r_200_86 (L S : List Value) (h : icH) : icE 200 86 L S h = exe icE 200 (e_iald 87 L S h) := icE_eq (i := .iaload) (len := 1) (x1 := 0) (x2 := 0) (x3 := 0) (x4 := 64) ((fe_200 86).trans rfl) L S h
theorem r_200_87 (L S : List Value) (h : icH) : icE 200 87 L S h = exe icE 200 (e_cmp .ne 95 90 L S h) := icE_eq (i := .if_icmp .ne 8) (len := 3) (x1 := 95) (x2 := 0) (x3 := 0) (x4 := 64) ((fe_200 87).trans rfl) L S h
theorem r_200_90 (L S : List Value) (h : icH) : icE 200 90 L S h = icE 200 92 L (.int (nI 63) :: S) h := icE_eq (i := .bipush 63) (len := 2) (x1 := 0) (x2 := 0) (x3 := 0) (x4 := 64) ((fe_200 90).trans rfl) L S h
theorem r_200_92 (L S : List Value) (h : icH) : icE 200 92 L S h = icE 200 101 L S h := icE_eq (i := .goto 9) (len := 3) (x1 := 101) (x2 := 0) (x3 := 0) (x4 := 64) ((fe_200 92).trans rfl) L S h
theorem r_200_95 (L S : List Value) (h : icH) : icE 200 95 L S h = icE 200 96 L (.int (nI 1) :: S) h := icE_eq (i := .iconst 1) (len := 1) (x1 := 0) (x2 := 0) (x3 := 0) (x4 := 64) ((fe_200 95).trans rfl) L S h
theorem r_200_96 (L S : List Value) (h : icH) : icE 200 96 L S h = exe icE 200 (e_iload 5 98 L S h) := icE_eq (i := .iload 5) (len := 2) (x1 := 0) (x2 := 0) (x3 := 0) (x4 := 64) ((fe_200 96).trans rfl) L S h
theorem r_200_98 (L S : List Value) (h : icH) : icE 200 98 L S h = exe icE 200 (e_bin (fun x y => x <<< (y &&& 31)) 99 L S h) := icE_eq (i := .ishl) (len := 1) (x1 := 0) (x2 := 0) (x3 := 0) (x4 := 64) ((fe_200 98).trans rfl) L S h
theorem r_200_99 (L S : List Value) (h : icH) : icE 200 99 L S h = icE 200 100 L (.int (-1) :: S) h := icE_eq (i := .iconst (-1)) (len := 1) (x1 := 0) (x2 := 0) (x3 := 0) (x4 := 64) ((fe_200 99).trans rfl) L S h
theorem r_200_100 (L S : List Value) (h : icH) : icE 200 100 L S h = exe icE 200 (e_bin (fun x y => x ^^^ y) 101 L S h) := icE_eq (i := .ixor) (len := 1) (x1 := 0) (x2 := 0) (x3 := 0) (x4 := 64) ((fe_200 100).trans rfl) L S h
theorem r_200_101 (L S : List Value) (h : icH) : icE 200 101 L S h = exe icE 200 (e_bin (fun x y => x &&& y) 102 L S h) := icE_eq (i := .iand) (len := 1) (x1 := 0) (x2 := 0) (x3 := 0) (x4 := 64) ((fe_200 101).trans rfl) L S h
theorem r_200_102 (L S : List Value) (h : icH) : icE 200 102 L S h = exe icE 200 (e_istore 2 103 L S h) := icE_eq (i := .istore_n 2) (len := 1) (x1 := 0) (x2 := 0) (x3 := 0) (x4 := 64) ((fe_200 102).trans rfl) L S h
theorem r_200_103 (L S : List Value) (h : icH) : icE 200 103 L S h = exe icE 200 (e_iinc 5 (nI 1) 106 L S h) := icE_eq (i := .iinc 5 1) (len := 3) (x1 := 0) (x2 := 0) (x3 := 0) (x4 := 64) ((fe_200 103).trans rfl) L S h
theorem r_200_106 (L S : List Value) (h : icH) : icE 200 106 L S h = icE 200 27 L S h := icE_eq (i := .goto (-79)) (len := 3) (x1 := 27) (x2 := 0) (x3 := 0) (x4 := 64) ((fe_200 106).trans rfl) L S h
theorem r_200_109 (L S : List Value) (h : icH) : icE 200 109 L S h = exe icE 200 (e_iinc 3 (nI 1) 112 L S h) := icE_eq (i := .iinc 3 1) (len := 3) (x1 := 0) (x2 := 0) (x3 := 0) (x4 := 64) ((fe_200 109).trans rfl) L S h
theorem r_200_112 (L S : List Value) (h : icH) : icE 200 112 L S h = icE 200 5 L S h := icE_eq (i := .goto (-107)) (len := 3) (x1 := 5) (x2 := 0) (x3 := 0) (x4 := 64) ((fe_200 112).trans rfl) L S h
theorem r_200_115 (L S : List Value) (h : icH) : icE 200 115 L S h = exe icE 200 (e_iload 2 116 L S h) := icE_eq (i := .iload_n 2) (len := 1) (x1 := 0) (x2 := 0) (x3 := 0) (x4 := 64) ((fe_200 115).trans rfl) L S h
theorem r_200_116 (L S : List Value) (h : icH) : icE 200 116 L S h = exe icE 200 (e_iret 0 L S h) := icE_eq (i := .ireturn) (len := 1) (x1 := 0) (x2 := 0) (x3 := 0) (x4 := 64) ((fe_200 116).trans rfl) L S h
theorem rw_200 : (∀ (L S : List Value) (h : icH), icE 200 0 L S h = icE 200 2 L (.int (nI 63) :: S) h) ∧ (∀ (L S : List Value) (h : icH), icE 200 2 L S h = exe icE 200 (e_istore 2 3 L S h)) ∧ (∀ (L S : List Value) (h : icH), icE 200 3 L S h = icE 200 4 L (.int (nI 0) :: S) h) ∧ (∀ (L S : List Value) (h : icH), icE 200 4 L S h = exe icE 200 (e_istore 3 5 L S h)) ∧ (∀ (L S : List Value) (h : icH), icE 200 6 L S h = exe icE 200 (e_aload 0 7 L S h)) ∧ (∀ (L S : List Value) (h : icH), icE 200 7 L S h = exe icE 200 (e_getf 0 8 10 L S h)) ∧ (∀ (L S : List Value) (h : icH), icE 200 10 L S h = icE 200 12 L (.int (nI 77) :: S) h) ∧ (∀ (L S : List Value) (h : icH), icE 200 12 L S h = exe icE 200 (e_iald 13 L S h)) ∧ (∀ (L S : List Value) (h : icH), icE 200 13 L S h = exe icE 200 (e_cmp .ge 115 16 L S h)) ∧ (∀ (L S : List Value) (h : icH), icE 200 16 L S h = icE 200 18 L (.int (nI 78) :: S) h) ∧ (∀ (L S : List Value) (h : icH), icE 200 18 L S h = icE 200 19 L (.int (nI 5) :: S) h) ∧ (∀ (L S : List Value) (h : icH), icE 200 19 L S h = exe icE 200 (e_iload 3 20 L S h)) ∧ (∀ (L S : List Value) (h : icH), icE 200 20 L S h = exe icE 200 (e_bin (fun x y => x * y) 21 L S h)) ∧ (∀ (L S : List Value) (h : icH), icE 200 21 L S h = exe icE 200 (e_bin (fun x y => x + y) 22 L S h)) ∧ (∀ (L S : List Value) (h : icH), icE 200 22 L S h = exe icE 200 (e_istore 4 24 L S h)) ∧ (∀ (L S : List Value) (h : icH), icE 200 24 L S h = icE 200 25 L (.int (nI 0) :: S) h) ∧ (∀ (L S : List Value) (h : icH), icE 200 25 L S h = exe icE 200 (e_istore 5 27 L S h)) ∧ (∀ (L S : List Value) (h : icH), icE 200 29 L S h = icE 200 31 L (.int (nI 6) :: S) h) ∧ (∀ (L S : List Value) (h : icH), icE 200 31 L S h = exe icE 200 (e_cmp .ge 109 34 L S h)) ∧ (∀ (L S : List Value) (h : icH), icE 200 34 L S h = exe icE 200 (e_aload 0 35 L S h)) ∧ (∀ (L S : List Value) (h : icH), icE 200 35 L S h = exe icE 200 (e_getf 0 8 38 L S h)) ∧ (∀ (L S : List Value) (h : icH), icE 200 38 L S h = exe icE 200 (e_iload 4 40 L S h)) ∧ (∀ (L S : List Value) (h : icH), icE 200 40 L S h = exe icE 200 (e_iald 41 L S h)) ∧ (∀ (L S : List Value) (h : icH), icE 200 41 L S h = exe icE 200 (e_iload 1 42 L S h)) ∧ (∀ (L S : List Value) (h : icH), icE 200 42 L S h = exe icE 200 (e_cmp .ne 109 45 L S h)) ∧ (∀ (L S : List Value) (h : icH), icE 200 45 L S h = exe icE 200 (e_iload 2 46 L S h)) ∧ (∀ (L S : List Value) (h : icH), icE 200 46 L S h = exe icE 200 (e_iload 5 48 L S h)) ∧ (∀ (L S : List Value) (h : icH), icE 200 48 L S h = exe icE 200 (e_aload 0 49 L S h)) ∧ (∀ (L S : List Value) (h : icH), icE 200 49 L S h = exe icE 200 (e_getf 0 8 52 L S h)) ∧ (∀ (L S : List Value) (h : icH), icE 200 52 L S h = exe icE 200 (e_iload 4 54 L S h)) ∧ (∀ (L S : List Value) (h : icH), icE 200 54 L S h = icE 200 55 L (.int (nI 1) :: S) h) ∧ (∀ (L S : List Value) (h : icH), icE 200 55 L S h = exe icE 200 (e_bin (fun x y => x + y) 56 L S h)) ∧ (∀ (L S : List Value) (h : icH), icE 200 56 L S h = exe icE 200 (e_iald 57 L S h)) ∧ (∀ (L S : List Value) (h : icH), icE 200 57 L S h = exe icE 200 (e_aload 0 58 L S h)) ∧ (∀ (L S : List Value) (h : icH), icE 200 58 L S h = exe icE 200 (e_getf 0 8 61 L S h)) ∧ (∀ (L S : List Value) (h : icH), icE 200 61 L S h = exe icE 200 (e_iload 4 63 L S h)) ∧ (∀ (L S : List Value) (h : icH), icE 200 63 L S h = icE 200 64 L (.int (nI 2) :: S) h) ∧ (∀ (L S : List Value) (h : icH), icE 200 64 L S h = exe icE 200 (e_bin (fun x y => x + y) 65 L S h)) ∧ (∀ (L S : List Value) (h : icH), icE 200 65 L S h = exe icE 200 (e_iald 66 L S h)) ∧ (∀ (L S : List Value) (h : icH), icE 200 66 L S h = exe icE 200 (e_aload 0 67 L S h)) ∧ (∀ (L S : List Value) (h : icH), icE 200 67 L S h = exe icE 200 (e_getf 0 8 70 L S h)) ∧ (∀ (L S : List Value) (h : icH), icE 200 70 L S h = exe icE 200 (e_iload 4 72 L S h)) ∧ (∀ (L S : List Value) (h : icH), icE 200 72 L S h = icE 200 73 L (.int (nI 3) :: S) h) ∧ (∀ (L S : List Value) (h : icH), icE 200 73 L S h = exe icE 200 (e_bin (fun x y => x + y) 74 L S h)) ∧ (∀ (L S : List Value) (h : icH), icE 200 74 L S h = exe icE 200 (e_iald 75 L S h)) ∧ (∀ (L S : List Value) (h : icH), icE 200 75 L S h = exe icE 200 (e_call 146 6 4 78 L S h)) ∧ (∀ (L S : List Value) (h : icH), icE 200 78 L S h = exe icE 200 (e_aload 0 79 L S h)) ∧ (∀ (L S : List Value) (h : icH), icE 200 79 L S h = exe icE 200 (e_getf 0 8 82 L S h)) ∧ (∀ (L S : List Value) (h : icH), icE 200 82 L S h = exe icE 200 (e_iload 4 84 L S h)) ∧ (∀ (L S : List Value) (h : icH), icE 200 84 L S h = icE 200 85 L (.int (nI 4) :: S) h) ∧ (∀ (L S : List Value) (h : icH), icE 200 85 L S h = exe icE 200 (e_bin (fun x y => x + y) 86 L S h)) ∧ (∀ (L S : List Value) (h : icH), icE 200 86 L S h = exe icE 200 (e_iald 87 L S h)) ∧ (∀ (L S : List Value) (h : icH), icE 200 87 L S h = exe icE 200 (e_cmp .ne 95 90 L S h)) ∧ (∀ (L S : List Value) (h : icH), icE 200 90 L S h = icE 200 92 L (.int (nI 63) :: S) h) ∧ (∀ (L S : List Value) (h : icH), icE 200 92 L S h = icE 200 101 L S h) ∧ (∀ (L S : List Value) (h : icH), icE 200 95 L S h = icE 200 96 L (.int (nI 1) :: S) h) ∧ (∀ (L S : List Value) (h : icH), icE 200 96 L S h = exe icE 200 (e_iload 5 98 L S h)) ∧ (∀ (L S : List Value) (h : icH), icE 200 98 L S h = exe icE 200 (e_bin (fun x y => x <<< (y &&& 31)) 99 L S h)) ∧ (∀ (L S : List Value) (h : icH), icE 200 99 L S h = icE 200 100 L (.int (-1) :: S) h) ∧ (∀ (L S : List Value) (h : icH), icE 200 100 L S h = exe icE 200 (e_bin (fun x y => x ^^^ y) 101 L S h)) ∧ (∀ (L S : List Value) (h : icH), icE 200 101 L S h = exe icE 200 (e_bin (fun x y => x &&& y) 102 L S h)) ∧ (∀ (L S : List Value) (h : icH), icE 200 102 L S h = exe icE 200 (e_istore 2 103 L S h)) ∧ (∀ (L S : List Value) (h : icH), icE 200 103 L S h = exe icE 200 (e_iinc 5 (nI 1) 106 L S h)) ∧ (∀ (L S : List Value) (h : icH), icE 200 106 L S h = icE 200 27 L S h) ∧ (∀ (L S : List Value) (h : icH), icE 200 109 L S h = exe icE 200 (e_iinc 3 (nI 1) 112 L S h)) ∧ (∀ (L S : List Value) (h : icH), icE 200 112 L S h = icE 200 5 L S h) ∧ (∀ (L S : List Value) (h : icH), icE 200 115 L S h = exe icE 200 (e_iload 2 116 L S h)) ∧ (∀ (L S : List Value) (h : icH), icE 200 116 L S h = exe icE 200 (e_iret 0 L S h)) := ⟨r_200_0, r_200_2, r_200_3, r_200_4, r_200_6, r_200_7, r_200_10, r_200_12, r_200_13, r_200_16, r_200_18, r_200_19, r_200_20, r_200_21, r_200_22, r_200_24, r_200_25, r_200_29, r_200_31, r_200_34, r_200_35, r_200_38, r_200_40, r_200_41, r_200_42, r_200_45, r_200_46, r_200_48, r_200_49, r_200_52, r_200_54, r_200_55, r_200_56, r_200_57, r_200_58, r_200_61, r_200_63, r_200_64, r_200_65, r_200_66, r_200_67, r_200_70, r_200_72, r_200_73, r_200_74, r_200_75, r_200_78, r_200_79, r_200_82, r_200_84, r_200_85, r_200_86, r_200_87, r_200_90, r_200_92, r_200_95, r_200_96, r_200_98, r_200_99, r_200_100, r_200_101, r_200_102, r_200_103, r_200_106, r_200_109, r_200_112, r_200_115, r_200_116⟩
-- cX9_roofsOf: heads [5, 27]
theorem fe_203 (pc : Nat) : fet 203 pc = look k_203 pc := rfl
theorem r_203_0 (L S : List Value) (h : icH) : icE 203 0 L S h = icE 203 2 L (.int (nI 63) :: S) h := icE_eq (i := .bipush 63) (len := 2) (x1 := 0) (x2 := 0) (x3 := 0) (x4 := 64) ((fe_203 0).trans rfl) L S h
theorem r_203_2 (L S : List Value) (h : icH) : icE 203 2 L S h = exe icE 203 (e_istore 2 3 L S h) := icE_eq (i := .istore_n 2) (len := 1) (x1 := 0) (x2 := 0) (x3 := 0) (x4 := 64) ((fe_203 2).trans rfl) L S h
theorem r_203_3 (L S : List Value) (h : icH) : icE 203 3 L S h = icE 203 4 L (.int (nI 0) :: S) h := icE_eq (i := .iconst 0) (len := 1) (x1 := 0) (x2 := 0) (x3 := 0) (x4 := 64) ((fe_203 3).trans rfl) L S h
theorem r_203_4 (L S : List Value) (h : icH) : icE 203 4 L S h = exe icE 203 (e_istore 3 5 L S h) := icE_eq (i := .istore_n 3) (len := 1) (x1 := 0) (x2 := 0) (x3 := 0) (x4 := 64) ((fe_203 4).trans rfl) L S h
theorem rh_203_5 (L S : List Value) (h : icH) : icE 203 5 L S h = exe icE 203 (e_iload 3 6 L S h) := icE_eq (i := .iload_n 3) (len := 1) (x1 := 0) (x2 := 0) (x3 := 0) (x4 := 64) ((fe_203 5).trans rfl) L S h
theorem r_203_6 (L S : List Value) (h : icH) : icE 203 6 L S h = exe icE 203 (e_aload 0 7 L S h) := icE_eq (i := .aload_n 0) (len := 1) (x1 := 0) (x2 := 0) (x3 := 0) (x4 := 64) ((fe_203 6).trans rfl) L S h
theorem r_203_7 (L S : List Value) (h : icH) : icE 203 7 L S h = exe icE 203 (e_getf 0 8 10 L S h) := icE_eq (i := .getfield 7) (len := 3) (x1 := 0) (x2 := 8) (x3 := 12) (x4 := 957) ((fe_203 7).trans rfl) L S h
theorem r_203_10 (L S : List Value) (h : icH) : icE 203 10 L S h = icE 203 12 L (.int (nI 108) :: S) h := icE_eq (i := .bipush 108) (len := 2) (x1 := 0) (x2 := 0) (x3 := 0) (x4 := 64) ((fe_203 10).trans rfl) L S h
theorem r_203_12 (L S : List Value) (h : icH) : icE 203 12 L S h = exe icE 203 (e_iald 13 L S h) := icE_eq (i := .iaload) (len := 1) (x1 := 0) (x2 := 0) (x3 := 0) (x4 := 64) ((fe_203 12).trans rfl) L S h
theorem r_203_13 (L S : List Value) (h : icH) : icE 203 13 L S h = exe icE 203 (e_cmp .ge 115 16 L S h) := icE_eq (i := .if_icmp .ge 102) (len := 3) (x1 := 115) (x2 := 0) (x3 := 0) (x4 := 64) ((fe_203 13).trans rfl) L S h
theorem r_203_16 (L S : List Value) (h : icH) : icE 203 16 L S h = icE 203 18 L (.int (nI 109) :: S) h := icE_eq (i := .bipush 109) (len := 2) (x1 := 0) (x2 := 0) (x3 := 0) (x4 := 64) ((fe_203 16).trans rfl) L S h
theorem r_203_18 (L S : List Value) (h : icH) : icE 203 18 L S h = icE 203 19 L (.int (nI 5) :: S) h := icE_eq (i := .iconst 5) (len := 1) (x1 := 0) (x2 := 0) (x3 := 0) (x4 := 64) ((fe_203 18).trans rfl) L S h
theorem r_203_19 (L S : List Value) (h : icH) : icE 203 19 L S h = exe icE 203 (e_iload 3 20 L S h) := icE_eq (i := .iload_n 3) (len := 1) (x1 := 0) (x2 := 0) (x3 := 0) (x4 := 64) ((fe_203 19).trans rfl) L S h
theorem r_203_20 (L S : List Value) (h : icH) : icE 203 20 L S h = exe icE 203 (e_bin (fun x y => x * y) 21 L S h) := icE_eq (i := .imul) (len := 1) (x1 := 0) (x2 := 0) (x3 := 0) (x4 := 64) ((fe_203 20).trans rfl) L S h
theorem r_203_21 (L S : List Value) (h : icH) : icE 203 21 L S h = exe icE 203 (e_bin (fun x y => x + y) 22 L S h) := icE_eq (i := .iadd) (len := 1) (x1 := 0) (x2 := 0) (x3 := 0) (x4 := 64) ((fe_203 21).trans rfl) L S h
theorem r_203_22 (L S : List Value) (h : icH) : icE 203 22 L S h = exe icE 203 (e_istore 4 24 L S h) := icE_eq (i := .istore 4) (len := 2) (x1 := 0) (x2 := 0) (x3 := 0) (x4 := 64) ((fe_203 22).trans rfl) L S h
theorem r_203_24 (L S : List Value) (h : icH) : icE 203 24 L S h = icE 203 25 L (.int (nI 0) :: S) h := icE_eq (i := .iconst 0) (len := 1) (x1 := 0) (x2 := 0) (x3 := 0) (x4 := 64) ((fe_203 24).trans rfl) L S h
theorem r_203_25 (L S : List Value) (h : icH) : icE 203 25 L S h = exe icE 203 (e_istore 5 27 L S h) := icE_eq (i := .istore 5) (len := 2) (x1 := 0) (x2 := 0) (x3 := 0) (x4 := 64) ((fe_203 25).trans rfl) L S h
theorem rh_203_27 (L S : List Value) (h : icH) : icE 203 27 L S h = exe icE 203 (e_iload 5 29 L S h) := icE_eq (i := .iload 5) (len := 2) (x1 := 0) (x2 := 0) (x3 := 0) (x4 := 64) ((fe_203 27).trans rfl) L S h
theorem r_203_29 (L S : List Value) (h : icH) : icE 203 29 L S h = icE 203 31 L (.int (nI 6) :: S) h := icE_eq (i := .bipush 6) (len := 2) (x1 := 0) (x2 := 0) (x3 := 0) (x4 := 64) ((fe_203 29).trans rfl) L S h
theorem r_203_31 (L S : List Value) (h : icH) : icE 203 31 L S h = exe icE 203 (e_cmp .ge 109 34 L S h) := icE_eq (i := .if_icmp .ge 78) (len := 3) (x1 := 109) (x2 := 0) (x3 := 0) (x4 := 64) ((fe_203 31).trans rfl) L S h
theorem r_203_34 (L S : List Value) (h : icH) : icE 203 34 L S h = exe icE 203 (e_aload 0 35 L S h) := icE_eq (i := .aload_n 0) (len := 1) (x1 := 0) (x2 := 0) (x3 := 0) (x4 := 64) ((fe_203 34).trans rfl) L S h
theorem r_203_35 (L S : List Value) (h : icH) : icE 203 35 L S h = exe icE 203 (e_getf 0 8 38 L S h) := icE_eq (i := .getfield 7) (len := 3) (x1 := 0) (x2 := 8) (x3 := 12) (x4 := 957) ((fe_203 35).trans rfl) L S h
theorem r_203_38 (L S : List Value) (h : icH) : icE 203 38 L S h = exe icE 203 (e_iload 4 40 L S h) := icE_eq (i := .iload 4) (len := 2) (x1 := 0) (x2 := 0) (x3 := 0) (x4 := 64) ((fe_203 38).trans rfl) L S h
theorem r_203_40 (L S : List Value) (h : icH) : icE 203 40 L S h = exe icE 203 (e_iald 41 L S h) := icE_eq (i := .iaload) (len := 1) (x1 := 0) (x2 := 0) (x3 := 0) (x4 := 64) ((fe_203 40).trans rfl) L S h
theorem r_203_41 (L S : List Value) (h : icH) : icE 203 41 L S h = exe icE 203 (e_iload 1 42 L S h) := icE_eq (i := .iload_n 1) (len := 1) (x1 := 0) (x2 := 0) (x3 := 0) (x4 := 64) ((fe_203 41).trans rfl) L S h
theorem r_203_42 (L S : List Value) (h : icH) : icE 203 42 L S h = exe icE 203 (e_cmp .ne 109 45 L S h) := icE_eq (i := .if_icmp .ne 67) (len := 3) (x1 := 109) (x2 := 0) (x3 := 0) (x4 := 64) ((fe_203 42).trans rfl) L S h
theorem r_203_45 (L S : List Value) (h : icH) : icE 203 45 L S h = exe icE 203 (e_iload 2 46 L S h) := icE_eq (i := .iload_n 2) (len := 1) (x1 := 0) (x2 := 0) (x3 := 0) (x4 := 64) ((fe_203 45).trans rfl) L S h
theorem r_203_46 (L S : List Value) (h : icH) : icE 203 46 L S h = exe icE 203 (e_iload 5 48 L S h) := icE_eq (i := .iload 5) (len := 2) (x1 := 0) (x2 := 0) (x3 := 0) (x4 := 64) ((fe_203 46).trans rfl) L S h
theorem r_203_48 (L S : List Value) (h : icH) : icE 203 48 L S h = exe icE 203 (e_aload 0 49 L S h) := icE_eq (i := .aload_n 0) (len := 1) (x1 := 0) (x2 := 0) (x3 := 0) (x4 := 64) ((fe_203 48).trans rfl) L S h
theorem r_203_49 (L S : List Value) (h : icH) : icE 203 49 L S h = exe icE 203 (e_getf 0 8 52 L S h) := icE_eq (i := .getfield 7) (len := 3) (x1 := 0) (x2 := 8) (x3 := 12) (x4 := 957) ((fe_203 49).trans rfl) L S h
theorem r_203_52 (L S : List Value) (h : icH) : icE 203 52 L S h = exe icE 203 (e_iload 4 54 L S h) := icE_eq (i := .iload 4) (len := 2) (x1 := 0) (x2 := 0) (x3 := 0) (x4 := 64) ((fe_203 52).trans rfl) L S h
theorem r_203_54 (L S : List Value) (h : icH) : icE 203 54 L S h = icE 203 55 L (.int (nI 2) :: S) h := icE_eq (i := .iconst 2) (len := 1) (x1 := 0) (x2 := 0) (x3 := 0) (x4 := 64) ((fe_203 54).trans rfl) L S h
theorem r_203_55 (L S : List Value) (h : icH) : icE 203 55 L S h = exe icE 203 (e_bin (fun x y => x + y) 56 L S h) := icE_eq (i := .iadd) (len := 1) (x1 := 0) (x2 := 0) (x3 := 0) (x4 := 64) ((fe_203 55).trans rfl) L S h
theorem r_203_56 (L S : List Value) (h : icH) : icE 203 56 L S h = exe icE 203 (e_iald 57 L S h) := icE_eq (i := .iaload) (len := 1) (x1 := 0) (x2 := 0) (x3 := 0) (x4 := 64) ((fe_203 56).trans rfl) L S h
theorem r_203_57 (L S : List Value) (h : icH) : icE 203 57 L S h = exe icE 203 (e_aload 0 58 L S h) := icE_eq (i := .aload_n 0) (len := 1) (x1 := 0) (x2 := 0) (x3 := 0) (x4 := 64) ((fe_203 57).trans rfl) L S h
theorem r_203_58 (L S : List Value) (h : icH) : icE 203 58 L S h = exe icE 203 (e_getf 0 8 61 L S h) := icE_eq (i := .getfield 7) (len := 3) (x1 := 0) (x2 := 8) (x3 := 12) (x4 := 957) ((fe_203 58).trans rfl) L S h
theorem r_203_61 (L S : List Value) (h : icH) : icE 203 61 L S h = exe icE 203 (e_iload 4 63 L S h) := icE_eq (i := .iload 4) (len := 2) (x1 := 0) (x2 := 0) (x3 := 0) (x4 := 64) ((fe_203 61).trans rfl) L S h
theorem r_203_63 (L S : List Value) (h : icH) : icE 203 63 L S h = icE 203 64 L (.int (nI 1) :: S) h := icE_eq (i := .iconst 1) (len := 1) (x1 := 0) (x2 := 0) (x3 := 0) (x4 := 64) ((fe_203 63).trans rfl) L S h
theorem r_203_64 (L S : List Value) (h : icH) : icE 203 64 L S h = exe icE 203 (e_bin (fun x y => x + y) 65 L S h) := icE_eq (i := .iadd) (len := 1) (x1 := 0) (x2 := 0) (x3 := 0) (x4 := 64) ((fe_203 64).trans rfl) L S h
theorem r_203_65 (L S : List Value) (h : icH) : icE 203 65 L S h = exe icE 203 (e_iald 66 L S h) := icE_eq (i := .iaload) (len := 1) (x1 := 0) (x2 := 0) (x3 := 0) (x4 := 64) ((fe_203 65).trans rfl) L S h
theorem r_203_66 (L S : List Value) (h : icH) : icE 203 66 L S h = exe icE 203 (e_aload 0 67 L S h) := icE_eq (i := .aload_n 0) (len := 1) (x1 := 0) (x2 := 0) (x3 := 0) (x4 := 64) ((fe_203 66).trans rfl) L S h
theorem r_203_67 (L S : List Value) (h : icH) : icE 203 67 L S h = exe icE 203 (e_getf 0 8 70 L S h) := icE_eq (i := .getfield 7) (len := 3) (x1 := 0) (x2 := 8) (x3 := 12) (x4 := 957) ((fe_203 67).trans rfl) L S h
theorem r_203_70 (L S : List Value) (h : icH) : icE 203 70 L S h = exe icE 203 (e_iload 4 72 L S h) := icE_eq (i := .iload 4) (len := 2) (x1 := 0) (x2 := 0) (x3 := 0) (x4 := 64) ((fe_203 70).trans rfl) L S h
theorem r_203_72 (L S : List Value) (h : icH) : icE 203 72 L S h = icE 203 73 L (.int (nI 3) :: S) h := icE_eq (i := .iconst 3) (len := 1) (x1 := 0) (x2 := 0) (x3 := 0) (x4 := 64) ((fe_203 72).trans rfl) L S h
theorem r_203_73 (L S : List Value) (h : icH) : icE 203 73 L S h = exe icE 203 (e_bin (fun x y => x + y) 74 L S h) := icE_eq (i := .iadd) (len := 1) (x1 := 0) (x2 := 0) (x3 := 0) (x4 := 64) ((fe_203 73).trans rfl) L S h
theorem r_203_74 (L S : List Value) (h : icH) : icE 203 74 L S h = exe icE 203 (e_iald 75 L S h) := icE_eq (i := .iaload) (len := 1) (x1 := 0) (x2 := 0) (x3 := 0) (x4 := 64) ((fe_203 74).trans rfl) L S h
theorem r_203_75 (L S : List Value) (h : icH) : icE 203 75 L S h = exe icE 203 (e_call 145 7 4 78 L S h) := icE_eq (i := .invokestatic 66) (len := 3) (x1 := 145) (x2 := 1) (x3 := 0) (x4 := 1140) ((fe_203 75).trans rfl) L S h
theorem r_203_78 (L S : List Value) (h : icH) : icE 203 78 L S h = exe icE 203 (e_aload 0 79 L S h) := icE_eq (i := .aload_n 0) (len := 1) (x1 := 0) (x2 := 0) (x3 := 0) (x4 := 64) ((fe_203 78).trans rfl) L S h
theorem r_203_79 (L S : List Value) (h : icH) : icE 203 79 L S h = exe icE 203 (e_getf 0 8 82 L S h) := icE_eq (i := .getfield 7) (len := 3) (x1 := 0) (x2 := 8) (x3 := 12) (x4 := 957) ((fe_203 79).trans rfl) L S h
theorem r_203_82 (L S : List Value) (h : icH) : icE 203 82 L S h = exe icE 203 (e_iload 4 84 L S h) := icE_eq (i := .iload 4) (len := 2) (x1 := 0) (x2 := 0) (x3 := 0) (x4 := 64) ((fe_203 82).trans rfl) L S h
theorem r_203_84 (L S : List Value) (h : icH) : icE 203 84 L S h = icE 203 85 L (.int (nI 4) :: S) h := icE_eq (i := .iconst 4) (len := 1) (x1 := 0) (x2 := 0) (x3 := 0) (x4 := 64) ((fe_203 84).trans rfl) L S h
theorem r_203_85 (L S : List Value) (h : icH) : icE 203 85 L S h = exe icE 203 (e_bin (fun x y => x + y) 86 L S h) := icE_eq (i := .iadd) (len := 1) (x1 := 0) (x2 := 0) (x3 := 0) (x4 := 64) ((fe_203 85).trans rfl) L S h
theorem r_203_86 (L S : List Value) (h : icH) : icE 203 86 L S h = exe icE 203 (e_iald 87 L S h) := icE_eq (i := .iaload) (len := 1) (x1 := 0) (x2 := 0) (x3 := 0) (x4 := 64) ((fe_203 86).trans rfl) L S h
theorem r_203_87 (L S : List Value) (h : icH) : icE 203 87 L S h = exe icE 203 (e_cmp .ne 95 90 L S h) := icE_eq (i := .if_icmp .ne 8) (len := 3) (x1 := 95) (x2 := 0) (x3 := 0) (x4 := 64) ((fe_203 87).trans rfl) L S h
theorem r_203_90 (L S : List Value) (h : icH) : icE 203 90 L S h = icE 203 92 L (.int (nI 63) :: S) h := icE_eq (i := .bipush 63) (len := 2) (x1 := 0) (x2 := 0) (x3 := 0) (x4 := 64) ((fe_203 90).trans rfl) L S h
theorem r_203_92 (L S : List Value) (h : icH) : icE 203 92 L S h = icE 203 101 L S h := icE_eq (i := .goto 9) (len := 3) (x1 := 101) (x2 := 0) (x3 := 0) (x4 := 64) ((fe_203 92).trans rfl) L S h
theorem r_203_95 (L S : List Value) (h : icH) : icE 203 95 L S h = icE 203 96 L (.int (nI 1) :: S) h := icE_eq (i := .iconst 1) (len := 1) (x1 := 0) (x2 := 0) (x3 := 0) (x4 := 64) ((fe_203 95).trans rfl) L S h
theorem r_203_96 (L S : List Value) (h : icH) : icE 203 96 L S h = exe icE 203 (e_iload 5 98 L S h) := icE_eq (i := .iload 5) (len := 2) (x1 := 0) (x2 := 0) (x3 := 0) (x4 := 64) ((fe_203 96).trans rfl) L S h
theorem r_203_98 (L S : List Value) (h : icH) : icE 203 98 L S h = exe icE 203 (e_bin (fun x y => x <<< (y &&& 31)) 99 L S h) := icE_eq (i := .ishl) (len := 1) (x1 := 0) (x2 := 0) (x3 := 0) (x4 := 64) ((fe_203 98).trans rfl) L S h
theorem r_203_99 (L S : List Value) (h : icH) : icE 203 99 L S h = icE 203 100 L (.int (-1) :: S) h := icE_eq (i := .iconst (-1)) (len := 1) (x1 := 0) (x2 := 0) (x3 := 0) (x4 := 64) ((fe_203 99).trans rfl) L S h
theorem r_203_100 (L S : List Value) (h : icH) : icE 203 100 L S h = exe icE 203 (e_bin (fun x y => x ^^^ y) 101 L S h) := icE_eq (i := .ixor) (len := 1) (x1 := 0) (x2 := 0) (x3 := 0) (x4 := 64) ((fe_203 100).trans rfl) L S h
theorem r_203_101 (L S : List Value) (h : icH) : icE 203 101 L S h = exe icE 203 (e_bin (fun x y => x &&& y) 102 L S h) := icE_eq (i := .iand) (len := 1) (x1 := 0) (x2 := 0) (x3 := 0) (x4 := 64) ((fe_203 101).trans rfl) L S h
theorem r_203_102 (L S : List Value) (h : icH) : icE 203 102 L S h = exe icE 203 (e_istore 2 103 L S h) := icE_eq (i := .istore_n 2) (len := 1) (x1 := 0) (x2 := 0) (x3 := 0) (x4 := 64) ((fe_203 102).trans rfl) L S h
theorem r_203_103 (L S : List Value) (h : icH) : icE 203 103 L S h = exe icE 203 (e_iinc 5 (nI 1) 106 L S h) := icE_eq (i := .iinc 5 1) (len := 3) (x1 := 0) (x2 := 0) (x3 := 0) (x4 := 64) ((fe_203 103).trans rfl) L S h
theorem r_203_106 (L S : List Value) (h : icH) : icE 203 106 L S h = icE 203 27 L S h := icE_eq (i := .goto (-79)) (len := 3) (x1 := 27) (x2 := 0) (x3 := 0) (x4 := 64) ((fe_203 106).trans rfl) L S h
theorem r_203_109 (L S : List Value) (h : icH) : icE 203 109 L S h = exe icE 203 (e_iinc 3 (nI 1) 112 L S h) := icE_eq (i := .iinc 3 1) (len := 3) (x1 := 0) (x2 := 0) (x3 := 0) (x4 := 64) ((fe_203 109).trans rfl) L S h
theorem r_203_112 (L S : List Value) (h : icH) : icE 203 112 L S h = icE 203 5 L S h := icE_eq (i := .goto (-107)) (len := 3) (x1 := 5) (x2 := 0) (x3 := 0) (x4 := 64) ((fe_203 112).trans rfl) L S h
theorem r_203_115 (L S : List Value) (h : icH) : icE 203 115 L S h = exe icE 203 (e_iload 2 116 L S h) := icE_eq (i := .iload_n 2) (len := 1) (x1 := 0) (x2 := 0) (x3 := 0) (x4 := 64) ((fe_203 115).trans rfl) L S h
theorem r_203_116 (L S : List Value) (h : icH) : icE 203 116 L S h = exe icE 203 (e_iret 0 L S h) := icE_eq (i := .ireturn) (len := 1) (x1 := 0) (x2 := 0) (x3 := 0) (x4 := 64) ((fe_203 116).trans rfl) L S h
theorem rw_203 : (∀ (L S : List Value) (h : icH), icE 203 0 L S h = icE 203 2 L (.int (nI 63) :: S) h) ∧ (∀ (L S : List Value) (h : icH), icE 203 2 L S h = exe icE 203 (e_istore 2 3 L S h)) ∧ (∀ (L S : List Value) (h : icH), icE 203 3 L S h = icE 203 4 L (.int (nI 0) :: S) h) ∧ (∀ (L S : List Value) (h : icH), icE 203 4 L S h = exe icE 203 (e_istore 3 5 L S h)) ∧ (∀ (L S : List Value) (h : icH), icE 203 6 L S h = exe icE 203 (e_aload 0 7 L S h)) ∧ (∀ (L S : List Value) (h : icH), icE 203 7 L S h = exe icE 203 (e_getf 0 8 10 L S h)) ∧ (∀ (L S : List Value) (h : icH), icE 203 10 L S h = icE 203 12 L (.int (nI 108) :: S) h) ∧ (∀ (L S : List Value) (h : icH), icE 203 12 L S h = exe icE 203 (e_iald 13 L S h)) ∧ (∀ (L S : List Value) (h : icH), icE 203 13 L S h = exe icE 203 (e_cmp .ge 115 16 L S h)) ∧ (∀ (L S : List Value) (h : icH), icE 203 16 L S h = icE 203 18 L (.int (nI 109) :: S) h) ∧ (∀ (L S : List Value) (h : icH), icE 203 18 L S h = icE 203 19 L (.int (nI 5) :: S) h) ∧ (∀ (L S : List Value) (h : icH), icE 203 19 L S h = exe icE 203 (e_iload 3 20 L S h)) ∧ (∀ (L S : List Value) (h : icH), icE 203 20 L S h = exe icE 203 (e_bin (fun x y => x * y) 21 L S h)) ∧ (∀ (L S : List Value) (h : icH), icE 203 21 L S h = exe icE 203 (e_bin (fun x y => x + y) 22 L S h)) ∧ (∀ (L S : List Value) (h : icH), icE 203 22 L S h = exe icE 203 (e_istore 4 24 L S h)) ∧ (∀ (L S : List Value) (h : icH), icE 203 24 L S h = icE 203 25 L (.int (nI 0) :: S) h) ∧ (∀ (L S : List Value) (h : icH), icE 203 25 L S h = exe icE 203 (e_istore 5 27 L S h)) ∧ (∀ (L S : List Value) (h : icH), icE 203 29 L S h = icE 203 31 L (.int (nI 6) :: S) h) ∧ (∀ (L S : List Value) (h : icH), icE 203 31 L S h = exe icE 203 (e_cmp .ge 109 34 L S h)) ∧ (∀ (L S : List Value) (h : icH), icE 203 34 L S h = exe icE 203 (e_aload 0 35 L S h)) ∧ (∀ (L S : List Value) (h : icH), icE 203 35 L S h = exe icE 203 (e_getf 0 8 38 L S h)) ∧ (∀ (L S : List Value) (h : icH), icE 203 38 L S h = exe icE 203 (e_iload 4 40 L S h)) ∧ (∀ (L S : List Value) (h : icH), icE 203 40 L S h = exe icE 203 (e_iald 41 L S h)) ∧ (∀ (L S : List Value) (h : icH), icE 203 41 L S h = exe icE 203 (e_iload 1 42 L S h)) ∧ (∀ (L S : List Value) (h : icH), icE 203 42 L S h = exe icE 203 (e_cmp .ne 109 45 L S h)) ∧ (∀ (L S : List Value) (h : icH), icE 203 45 L S h = exe icE 203 (e_iload 2 46 L S h)) ∧ (∀ (L S : List Value) (h : icH), icE 203 46 L S h = exe icE 203 (e_iload 5 48 L S h)) ∧ (∀ (L S : List Value) (h : icH), icE 203 48 L S h = exe icE 203 (e_aload 0 49 L S h)) ∧ (∀ (L S : List Value) (h : icH), icE 203 49 L S h = exe icE 203 (e_getf 0 8 52 L S h)) ∧ (∀ (L S : List Value) (h : icH), icE 203 52 L S h = exe icE 203 (e_iload 4 54 L S h)) ∧ (∀ (L S : List Value) (h : icH), icE 203 54 L S h = icE 203 55 L (.int (nI 2) :: S) h) ∧ (∀ (L S : List Value) (h : icH), icE 203 55 L S h = exe icE 203 (e_bin (fun x y => x + y) 56 L S h)) ∧ (∀ (L S : List Value) (h : icH), icE 203 56 L S h = exe icE 203 (e_iald 57 L S h)) ∧ (∀ (L S : List Value) (h : icH), icE 203 57 L S h = exe icE 203 (e_aload 0 58 L S h)) ∧ (∀ (L S : List Value) (h : icH), icE 203 58 L S h = exe icE 203 (e_getf 0 8 61 L S h)) ∧ (∀ (L S : List Value) (h : icH), icE 203 61 L S h = exe icE 203 (e_iload 4 63 L S h)) ∧ (∀ (L S : List Value) (h : icH), icE 203 63 L S h = icE 203 64 L (.int (nI 1) :: S) h) ∧ (∀ (L S : List Value) (h : icH), icE 203 64 L S h = exe icE 203 (e_bin (fun x y => x + y) 65 L S h)) ∧ (∀ (L S : List Value) (h : icH), icE 203 65 L S h = exe icE 203 (e_iald 66 L S h)) ∧ (∀ (L S : List Value) (h : icH), icE 203 66 L S h = exe icE 203 (e_aload 0 67 L S h)) ∧ (∀ (L S : List Value) (h : icH), icE 203 67 L S h = exe icE 203 (e_getf 0 8 70 L S h)) ∧ (∀ (L S : List Value) (h : icH), icE 203 70 L S h = exe icE 203 (e_iload 4 72 L S h)) ∧ (∀ (L S : List Value) (h : icH), icE 203 72 L S h = icE 203 73 L (.int (nI 3) :: S) h) ∧ (∀ (L S : List Value) (h : icH), icE 203 73 L S h = exe icE 203 (e_bin (fun x y => x + y) 74 L S h)) ∧ (∀ (L S : List Value) (h : icH), icE 203 74 L S h = exe icE 203 (e_iald 75 L S h)) ∧ (∀ (L S : List Value) (h : icH), icE 203 75 L S h = exe icE 203 (e_call 145 7 4 78 L S h)) ∧ (∀ (L S : List Value) (h : icH), icE 203 78 L S h = exe icE 203 (e_aload 0 79 L S h)) ∧ (∀ (L S : List Value) (h : icH), icE 203 79 L S h = exe icE 203 (e_getf 0 8 82 L S h)) ∧ (∀ (L S : List Value) (h : icH), icE 203 82 L S h = exe icE 203 (e_iload 4 84 L S h)) ∧ (∀ (L S : List Value) (h : icH), icE 203 84 L S h = icE 203 85 L (.int (nI 4) :: S) h) ∧ (∀ (L S : List Value) (h : icH), icE 203 85 L S h = exe icE 203 (e_bin (fun x y => x + y) 86 L S h)) ∧ (∀ (L S : List Value) (h : icH), icE 203 86 L S h = exe icE 203 (e_iald 87 L S h)) ∧ (∀ (L S : List Value) (h : icH), icE 203 87 L S h = exe icE 203 (e_cmp .ne 95 90 L S h)) ∧ (∀ (L S : List Value) (h : icH), icE 203 90 L S h = icE 203 92 L (.int (nI 63) :: S) h) ∧ (∀ (L S : List Value) (h : icH), icE 203 92 L S h = icE 203 101 L S h) ∧ (∀ (L S : List Value) (h : icH), icE 203 95 L S h = icE 203 96 L (.int (nI 1) :: S) h) ∧ (∀ (L S : List Value) (h : icH), icE 203 96 L S h = exe icE 203 (e_iload 5 98 L S h)) ∧ (∀ (L S : List Value) (h : icH), icE 203 98 L S h = exe icE 203 (e_bin (fun x y => x <<< (y &&& 31)) 99 L S h)) ∧ (∀ (L S : List Value) (h : icH), icE 203 99 L S h = icE 203 100 L (.int (-1) :: S) h) ∧ (∀ (L S : List Value) (h : icH), icE 203 100 L S h = exe icE 203 (e_bin (fun x y => x ^^^ y) 101 L S h)) ∧ (∀ (L S : List Value) (h : icH), icE 203 101 L S h = exe icE 203 (e_bin (fun x y => x &&& y) 102 L S h)) ∧ (∀ (L S : List Value) (h : icH), icE 203 102 L S h = exe icE 203 (e_istore 2 103 L S h)) ∧ (∀ (L S : List Value) (h : icH), icE 203 103 L S h = exe icE 203 (e_iinc 5 (nI 1) 106 L S h)) ∧ (∀ (L S : List Value) (h : icH), icE 203 106 L S h = icE 203 27 L S h) ∧ (∀ (L S : List Value) (h : icH), icE 203 109 L S h = exe icE 203 (e_iinc 3 (nI 1) 112 L S h)) ∧ (∀ (L S : List Value) (h : icH), icE 203 112 L S h = icE 203 5 L S h) ∧ (∀ (L S : List Value) (h : icH), icE 203 115 L S h = exe icE 203 (e_iload 2 116 L S h)) ∧ (∀ (L S : List Value) (h : icH), icE 203 116 L S h = exe icE 203 (e_iret 0 L S h)) := ⟨r_203_0, r_203_2, r_203_3, r_203_4, r_203_6, r_203_7, r_203_10, r_203_12, r_203_13, r_203_16, r_203_18, r_203_19, r_203_20, r_203_21, r_203_22, r_203_24, r_203_25, r_203_29, r_203_31, r_203_34, r_203_35, r_203_38, r_203_40, r_203_41, r_203_42, r_203_45, r_203_46, r_203_48, r_203_49, r_203_52, r_203_54, r_203_55, r_203_56, r_203_57, r_203_58, r_203_61, r_203_63, r_203_64, r_203_65, r_203_66, r_203_67, r_203_70, r_203_72, r_203_73, r_203_74, r_203_75, r_203_78, r_203_79, r_203_82, r_203_84, r_203_85, r_203_86, r_203_87, r_203_90, r_203_92, r_203_95, r_203_96, r_203_98, r_203_99, r_203_100, r_203_101, r_203_102, r_203_103, r_203_106, r_203_109, r_203_112, r_203_115, r_203_116⟩
theorem l_al2 {p : Nat → Bool} {n a : Nat} (hn : n ≤ 10) (ha : a < n) (x3 : Value) (h : icH) (m : Nat) (ab be : Int64) (ii : Nat → Int32) (A : Nat → Nat → Int32) : ∀ (k b : Nat), b + k = n → icE 195 17 [.ref m, .int (nI (msk p n)), .int (nI n), x3, .int (nI a), .int (nI (if p a = true then Cq p (A 11) (A 11 a) b else 0)), .int (nI b)] [] (HM h m ab be ii A) = icE 195 71 [.ref m, .int (nI (msk p n)), .int (nI n), x3, .int (nI a), .int (nI (if p a = true then Cq p (A 11) (A 11 a) n else 0)), .int (nI n)] [] (HM h m ab be ii A)
  | 0, b, him => by
    have : b = n := by omega
    subst this
    rw [rh_195_17]
    simp only [SA, rw_195, if_pos (nI_le (Nat.le_refl b) (show b < 2 ^ 31 by omega))]
  | k + 1, b, him => by
    have hb : b < n := by omega
    have b10 : 10 < 2 ^ 31 := by decide
    have ih := l_al2 (p := p) hn ha x3 h m ab be ii A k (b + 1) (by omega)
    refine Eq.trans ?_ ih
    have sh := msk_s2 p hn ha hb
    rw [rh_195_17]
    by_cases d : p a = true
    · have e : Cq p (A 11) (A 11 a) (b + 1) = Cq p (A 11) (A 11 a) b + (if p b = true ∧ A 11 a = A 11 b then 1 else 0) := rfl
      rw [if_pos d, if_pos d, e]
      by_cases d1 : p b = true
      · rw [if_pos ⟨d, d1⟩] at sh
        by_cases d2 : A 11 a = A 11 b
        · rw [if_pos ⟨d1, d2⟩]
          simp only [SA, rw_195, HM_o, HMr, if_neg (nI_ge hb (show n < 2 ^ 31 by omega)), sh, if_true, ia_n (show a < 10 by omega) b10, ia_n (show b < 10 by omega) b10, if_pos d2, nI_add]
        · rw [if_neg (fun z => d2 z.2)]
          simp only [SA, rw_195, HM_o, HMr, if_neg (nI_ge hb (show n < 2 ^ 31 by omega)), sh, if_true, ia_n (show a < 10 by omega) b10, ia_n (show b < 10 by omega) b10, if_neg d2, nI_add]
      · rw [if_neg (fun z => d1 z.2)] at sh
        rw [if_neg (fun z => d1 z.1)]
        simp only [SA, rw_195, HM_o, HMr, if_neg (nI_ge hb (show n < 2 ^ 31 by omega)), sh, if_neg (show ¬ nI 0 = nI 1 by decide), nI_add]
    · rw [if_neg (fun z => d z.1)] at sh
      rw [if_neg d, if_neg d]
      simp only [SA, rw_195, HM_o, HMr, if_neg (nI_ge hb (show n < 2 ^ 31 by omega)), sh, if_neg (show ¬ nI 0 = nI 1 by decide), nI_add, Nat.add_zero]
theorem l_al1 {p : Nat → Bool} {n : Nat} (hn : n ≤ 10) (h : icH) (m : Nat) (ab be : Int64) (ii : Nat → Int32) (A : Nat → Nat → Int32) : ∀ (k a : Nat) (y z : Value), a + k = n → icE 195 5 [.ref m, .int (nI (msk p n)), .int (nI n), .int (nI (Mq p (A 11) n a)), .int (nI a), y, z] [] (HM h m ab be ii A) = some (some (.int (nI (Mq p (A 11) n n))), HM h m ab be ii A)
  | 0, a, y, z, him => by
    have : a = n := by omega
    subst this
    rw [rh_195_5]
    simp only [SA, rw_195, if_pos (nI_le (Nat.le_refl a) (show a < 2 ^ 31 by omega))]
  | k + 1, a, y, z, him => by
    have ha : a < n := by omega
    have ih := l_al1 (p := p) hn h m ab be ii A k (a + 1) (.int (nI (if p a = true then Cq p (A 11) (A 11 a) n else 0))) (.int (nI n)) (by omega)
    have s := l_al2 (p := p) hn ha (.int (nI (Mq p (A 11) n a))) h m ab be ii A n 0 (by omega)
    have e0 : (if p a = true then Cq p (A 11) (A 11 a) 0 else 0) = 0 := by split <;> rfl
    rw [e0] at s
    have eM : Mq p (A 11) n (a + 1) = max (Mq p (A 11) n a) (if p a = true then Cq p (A 11) (A 11 a) n else 0) := rfl
    have ml : Mq p (A 11) n a ≤ n := Nat.le_trans (Mq_G p (A 11) n a) (Gq_le p (A 11) n)
    have cl : (if p a = true then Cq p (A 11) (A 11 a) n else 0) ≤ n := by
      split
      · exact Cq_le p (A 11) (A 11 a) n
      · omega
    rw [eM] at ih
    refine Eq.trans ?_ ih
    rw [rh_195_5]
    simp only [SA, rw_195, if_neg (nI_ge ha (show n < 2 ^ 31 by omega))]
    rw [s]
    generalize (if p a = true then Cq p (A 11) (A 11 a) n else 0) = x at *
    by_cases c : x ≤ Mq p (A 11) n a
    · rw [Nat.max_eq_left c]
      simp only [SA, rw_195, if_pos (nI_le c (show Mq p (A 11) n a < 2 ^ 31 by omega)), nI_add]
    · rw [Nat.max_eq_right (by omega)]
      simp only [SA, rw_195, if_neg (nI_ge (show Mq p (A 11) n a < x by omega) (show x < 2 ^ 31 by omega)), nI_add]
theorem c_alike {p : Nat → Bool} {n : Nat} (hn : n ≤ 10) {lk : Nat → Int32} {A : Nat → Nat → Int32} (hA : ∀ c, c < n → A 11 c = lk c) (h : icH) (m : Nat) (ab be : Int64) (ii : Nat → Int32) : icE 195 0 [.ref m, .int (nI (msk p n)), .int (nI n), dum, dum, dum, dum] [] (HM h m ab be ii A) = some (some (.int (nI (Gq p lk n))), HM h m ab be ii A) := by
  have z := l_al1 (p := p) hn h m ab be ii A n 0 dum dum (by omega)
  rw [← GM, Gq_c n (fun c hc _ => hA c hc)] at z
  refine Eq.trans ?_ z
  simp only [SA, rw_195, Mq]
theorem fit_s (b : Nat → Nat → Bool) (k c : Nat) : (!(anyB (b c) (k + 1))) = ((!(anyB (b c) k)) && !(b c k)) := by
  show (!(anyB (b c) k || b c k)) = _
  cases anyB (b c) k <;> rfl
theorem gh_ml2 {R N K r k : Nat} {D f : Nat → Nat → Int32} {A : Nat → Nat → Int32} (hM : MR R N 0 0 D (upd (A 1) 0 (nI 0))) (hK : K ≤ 5) (hk : k < K) (hf : ∀ c, c < 4 * K → A 1 (57 + c) = f 0 c) (hs : ∀ k, k < K → kd 61 (f 0 (4 * k + 2))) (hr : r < R) (c1 : f 0 (4 * k) = nI r) (h : icH) (m : Nat) (ab be : Int64) (ii : Nat → Int32) : ∀ (n e : Nat), e + n = 10 → icE 193 28 [.ref m, .int (nI r), .int (nI (msk (fun c => if c < e then gh_fit f D r (k + 1) c else gh_fit f D r k c) 10)), .int (nI k), .int (nI (57 + 4 * k)), .int (nI e)] [] (HM h m ab be ii A) = icE 193 111 [.ref m, .int (nI r), .int (nI (msk (gh_fit f D r (k + 1)) 10)), .int (nI k), .int (nI (57 + 4 * k)), .int (nI 10)] [] (HM h m ab be ii A)
  | 0, e, him => by
    have : e = 10 := by omega
    subst this
    rw [msk_c (q := gh_fit f D r (k + 1)) 10 (fun c hc => if_pos hc)]
    rw [rh_193_28]
    simp only [SA, rw_193, if_pos (nI_le (Nat.le_refl 10) (show 10 < 2 ^ 31 by decide))]
  | n + 1, e, him => by
    have he : e < 10 := by omega
    have b2 : 292 < 2 ^ 31 := by decide
    have hR := hM.1.2.2.1
    have hN := hM.1.2.2.2.1
    have ih := gh_ml2 hM hK hk hf hs hr c1 h m ab be ii n (e + 1) (by omega)
    refine Eq.trans ?_ ih
    have f0 : A 1 (57 + 4 * k) = nI r := (hf (4 * k) (by omega)).trans c1
    have f1 : A 1 (57 + 4 * k + 1) = f 0 (4 * k + 1) := hf (4 * k + 1) (by omega)
    have f2 : A 1 (57 + 4 * k + 2) = f 0 (4 * k + 2) := hf (4 * k + 2) (by omega)
    have f3 : A 1 (57 + 4 * k + 3) = f 0 (4 * k + 3) := hf (4 * k + 3) (by omega)
    have fl : A 1 (57 + 4 * k + 3) = f 0 (4 * k + 3) := hf (4 * k + 3) (by omega)
    have e11 : A 1 (11 + r) = D 2 r := (pk_un (show 11 + r ≠ 0 by omega)).symm.trans ((hM.2.2 (A 7)).2.1 2 (by decide) (by decide) r hr)
    have kd2 : kd 6 (D 2 r) := by rw [← e11, ← pk_un (f := A 1) (x := nI 0) (show 11 + r ≠ 0 by omega)]; exact hM.1.2.2.2.2.1 r hr
    have k61 := hs k hk
    have cw : icE 145 0 [.int (D 2 r), .int (f 0 (4 * k + 1)), .int (nI e), .int (f 0 (4 * k + 2)), dum, dum, dum] [] (HM h m ab be ii A) = some (some (.int (gh_br f D r k e)), HM h m ab be ii A) := c_mwat kd2 k61.1 (by have := k61.2; omega) _ _ _
    have lt := msk_10 (fun c => if c < e then gh_fit f D r (k + 1) c else gh_fit f D r k c) (show 10 ≤ 10 by decide)
    rw [rh_193_28]
    by_cases c2 : gh_br f D r k e = f 0 (4 * k + 3)
    · have em : msk (fun c => if c < e + 1 then gh_fit f D r (k + 1) c else gh_fit f D r k c) 10 = msk (fun c => if c < e then gh_fit f D r (k + 1) c else gh_fit f D r k c) 10 := by
        apply msk_c
        intro c hc
        by_cases q : c = e
        · subst q
          rw [if_pos (Nat.lt_succ_self c), if_neg (Nat.lt_irrefl c)]
          have : gh_bad f D r c k = false := decide_eq_false (fun z => z.2 c2)
          show (!(anyB (gh_bad f D r c) (k + 1))) = _
          rw [fit_s (fun c k => gh_bad f D r c k) k c]
          rw [this]
          exact Bool.and_true _
        · by_cases q2 : c < e
          · rw [if_pos q2, if_pos (by omega)]
          · rw [if_neg q2, if_neg (by omega)]
      rw [em]
      simp only [SA, rw_193, HM_o, HMr, if_neg (nI_ge he (show 10 < 2 ^ 31 by decide)), nI_add, ia_n (show 57 + 4 * k < 292 by omega) b2, ia_n (show 57 + 4 * k + 1 < 292 by omega) b2, ia_n (show 57 + 4 * k + 2 < 292 by omega) b2, ia_n (show 57 + 4 * k + 3 < 292 by omega) b2, ia_n (show 57 + 4 * k + 3 < 292 by omega) b2, ia_n (show 11 + r < 292 by omega) b2, e11, f0, f1, f2, f3, fl, if_true, cw, if_pos c2, an10 _ lt]
    · have em : msk (fun c => if c < e + 1 then gh_fit f D r (k + 1) c else gh_fit f D r k c) 10 = msk (fun c => if c = e then false else (fun c => if c < e then gh_fit f D r (k + 1) c else gh_fit f D r k c) c) 10 := by
        apply msk_c
        intro c hc
        by_cases q : c = e
        · subst q
          rw [if_pos (Nat.lt_succ_self c), if_pos rfl]
          have : gh_bad f D r c k = true := decide_eq_true ⟨c1, c2⟩
          show (!(anyB (gh_bad f D r c) (k + 1))) = _
          rw [fit_s (fun c k => gh_bad f D r c k) k c]
          rw [this]
          exact Bool.and_false _
        · rw [if_neg q]
          dsimp only
          by_cases q2 : c < e
          · rw [if_pos q2, if_pos (by omega)]
          · rw [if_neg q2, if_neg (by omega)]
      rw [em, msk_cl 10 he]
      simp only [SA, rw_193, HM_o, HMr, if_neg (nI_ge he (show 10 < 2 ^ 31 by decide)), nI_add, ia_n (show 57 + 4 * k < 292 by omega) b2, ia_n (show 57 + 4 * k + 1 < 292 by omega) b2, ia_n (show 57 + 4 * k + 2 < 292 by omega) b2, ia_n (show 57 + 4 * k + 3 < 292 by omega) b2, ia_n (show 57 + 4 * k + 3 < 292 by omega) b2, ia_n (show 11 + r < 292 by omega) b2, e11, f0, f1, f2, f3, fl, if_true, cw, if_neg c2, cl10 _ lt e (show e < 10 by omega)]
theorem gh_ml1 {R N K r : Nat} {D f : Nat → Nat → Int32} {A : Nat → Nat → Int32} (hM : MR R N 0 0 D (upd (A 1) 0 (nI 0))) (hK : K ≤ 5) (hA : A 1 56 = nI K) (hf : ∀ c, c < 4 * K → A 1 (57 + c) = f 0 c) (hs : ∀ k, k < K → kd 61 (f 0 (4 * k + 2))) (hr : r < R) (h : icH) (m : Nat) (ab be : Int64) (ii : Nat → Int32) : ∀ (n k : Nat) (y z : Value), k + n = K → icE 193 6 [.ref m, .int (nI r), .int (nI (msk (gh_fit f D r k) 10)), .int (nI k), y, z] [] (HM h m ab be ii A) = some (some (.int (nI (msk (gh_fit f D r K) 10))), HM h m ab be ii A)
  | 0, k, y, z, him => by
    have : k = K := by omega
    subst this
    rw [rh_193_6]
    simp only [SA, rw_193, HM_o, HMr, ia_n (show 56 < 292 by decide) (show 292 < 2 ^ 31 by decide), hA, if_pos (nI_le (Nat.le_refl k) (show k < 2 ^ 31 by omega))]
  | n + 1, k, y, z, him => by
    have hk : k < K := by omega
    have b2 : 292 < 2 ^ 31 := by decide
    have f0 : A 1 (57 + 4 * k) = f 0 (4 * k) := hf (4 * k) (by omega)
    by_cases c1 : f 0 (4 * k) = nI r
    · have ih := gh_ml1 hM hK hA hf hs hr h m ab be ii n (k + 1) (.int (nI (57 + 4 * k))) (.int (nI 10)) (by omega)
      have s := gh_ml2 hM hK hk hf hs hr c1 h m ab be ii 10 0 (by omega)
      rw [msk_c (p := fun c => if c < 0 then gh_fit f D r (k + 1) c else gh_fit f D r k c) (q := gh_fit f D r k) 10 (fun c hc => if_neg (Nat.not_lt_zero c))] at s
      refine Eq.trans ?_ ih
      rw [rh_193_6]
      simp only [SA, rw_193, HM_o, HMr, ia_n (show 56 < 292 by decide) b2, hA, if_neg (nI_ge hk (show K < 2 ^ 31 by omega)), pk_mul, nI_add]
      rw [s]
      simp only [SA, rw_193, nI_add]
    · have ih := gh_ml1 hM hK hA hf hs hr h m ab be ii n (k + 1) (.int (nI (57 + 4 * k))) (.int (nI 0)) (by omega)
      have em : msk (gh_fit f D r (k + 1)) 10 = msk (gh_fit f D r k) 10 := by
        apply msk_c
        intro c hc
        have : gh_bad f D r c k = false := decide_eq_false (fun z => c1 z.1)
        show (!(anyB (gh_bad f D r c) (k + 1))) = _
        rw [fit_s (fun c k => gh_bad f D r c k) k c]
        rw [this]
        exact Bool.and_true _
      rw [em] at ih
      refine Eq.trans ?_ ih
      rw [rh_193_6]
      simp only [SA, rw_193, HM_o, HMr, ia_n (show 56 < 292 by decide) b2, hA, if_neg (nI_ge hk (show K < 2 ^ 31 by omega)), pk_mul, nI_add, rh_193_28, if_neg (nI_ge (show 0 < 10 by decide) (show 10 < 2 ^ 31 by decide)), ia_n (show 57 + 4 * k < 292 by omega) b2, f0, if_neg c1]
theorem gh_mof {R N K r : Nat} {D f : Nat → Nat → Int32} {A : Nat → Nat → Int32} (hM : MR R N 0 0 D (upd (A 1) 0 (nI 0))) (hK : K ≤ 5) (hA : A 1 56 = nI K) (hf : ∀ c, c < 4 * K → A 1 (57 + c) = f 0 c) (hs : ∀ k, k < K → kd 61 (f 0 (4 * k + 2))) (hr : r < R) (h : icH) (m : Nat) (ab be : Int64) (ii : Nat → Int32) : icE 193 0 [.ref m, .int (nI r), dum, dum, dum, dum] [] (HM h m ab be ii A) = some (some (.int (nI (msk (gh_fit f D r K) 10))), HM h m ab be ii A) := by
  have z := gh_ml1 hM hK hA hf hs hr h m ab be ii K 0 dum dum (by omega)
  have e : msk (gh_fit f D r 0) 10 = 1023 := by
    have := msk_1 10
    have e2 : msk (gh_fit f D r 0) 10 = msk (fun _ => true) 10 := rfl
    rw [e2]
    omega
  rw [e] at z
  refine Eq.trans ?_ z
  simp only [SA, rw_193]
theorem m_warms {R N K r : Nat} {D f : Nat → Nat → Int32} {A : Nat → Nat → Int32} (hM : MR R N 0 0 D (upd (A 1) 0 (nI 0))) (hK : K ≤ 5) (hA : A 1 56 = nI K) (hf : ∀ c, c < 4 * K → A 1 (57 + c) = f 0 c) (hs : ∀ k, k < K → kd 61 (f 0 (4 * k + 2))) (hr : r < R) (h : icH) (m : Nat) (ab be : Int64) (ii : Nat → Int32) : icE 194 0 [.ref m, .int (nI r)] [] (HM h m ab be ii A) = some (some (.int (nI (msk (gh_fit f D r K) 10))), HM h m ab be ii A) := by
  have q : nI 0 ≤ nI r ∧ nI r ≤ A 1 9 - nI 1 := MR_r hM hr
  simp only [SA, rw_194, HM_o, c_misRoof, if_neg (bi_10 q), gh_mof hM hK hA hf hs hr]
theorem gh_mfill {R N r : Nat} {D : Nat → Nat → Int32} (hr : r < R) {x2 x3 x4 : Value} {w s : Nat} (hs : s < 1) (h : icH) (m : Nat) (ab be : Int64) (ii : Nat → Int32) : ∀ (n e : Nat) (A : Nat → Nat → Int32), e + n = 10 → MR R N 0 0 D (upd (A 1) 0 (nI 0)) → (∀ c, c < e → A 11 c = gh_lk D r (wv w) (nI s) c) → ∃ g, icE 196 44 [.ref m, .int (nI r), x2, x3, x4, .int (nI w), .int (nI e)] [] (HM h m ab be ii A) = icE 196 92 [.ref m, .int (nI r), x2, x3, x4, .int (nI w), .int (nI 10)] [] (HM h m ab be ii (ud A 11 g)) ∧ ∀ c, c < 10 → g c = gh_lk D r (wv w) (nI s) c
  | 0, e, A, him, hM, hA => by
    have : e = 10 := by omega
    subst this
    refine ⟨A 11, ?_, hA⟩
    rw [rh_196_44]
    simp only [SA, rw_196, if_pos (nI_le (Nat.le_refl 10) (show 10 < 2 ^ 31 by decide)), ud_id]
  | n + 1, e, A, him, hM, hA => by
    have he : e < 10 := by omega
    have b2 : 292 < 2 ^ 31 := by decide
    have hR := hM.1.2.2.1
    have hN := hM.1.2.2.2.1
    obtain ⟨g, ih, q⟩ := gh_mfill hr (x2 := x2) (x3 := x3) (x4 := x4) (w := w) hs h m ab be ii n (e + 1) (ud A 11 (upd (A 11) e (gh_lk D r (wv w) (nI s) e))) (by omega) (by rw [ud_n (by decide)]; exact hM) (by
      intro c hc
      rw [ud_s]
      by_cases z : c = e
      · rw [z, pk_us]
      · rw [pk_un z]; exact hA c (by omega))
    rw [ud_u] at ih
    refine ⟨g, ?_, q⟩
    refine Eq.trans ?_ ih
    have ew : nI w - nI 9 = wv w := rfl
    have e11 : A 1 (11 + r) = D 2 r := (pk_un (show 11 + r ≠ 0 by omega)).symm.trans ((hM.2.2 (A 7)).2.1 2 (by decide) (by decide) r hr)
    have e17 : A 1 (17 + r) = D 4 r := (pk_un (show 17 + r ≠ 0 by omega)).symm.trans ((hM.2.2 (A 7)).2.1 4 (by decide) (by decide) r hr)
    have kd2 : kd 6 (D 2 r) := by rw [← e11, ← pk_un (f := A 1) (x := nI 0) (show 11 + r ≠ 0 by omega)]; exact hM.1.2.2.2.2.1 r hr
    have k61 : kd 61 (D 4 r) := by rw [← e17, ← pk_un (f := A 1) (x := nI 0) (show 17 + r ≠ 0 by omega)]; exact hM.1.2.2.2.2.2.1 r hr
    have cw : icE 145 0 [.int (D 2 r), .int (wv w), .int (nI e), .int (D 4 r), dum, dum, dum] [] (HM h m ab be ii A) = some (some (.int (gh_lk D r (wv w) (nI s) e)), HM h m ab be ii A) := c_mwat kd2 k61.1 (by have := k61.2; omega) _ _ _
    rw [rh_196_44]
    simp only [SA, rw_196, HM_o, HMr, HMw, if_neg (nI_ge he (show 10 < 2 ^ 31 by decide)), nI_add, ia_n (show 11 + r < 292 by omega) b2, ia_n (show 17 + r < 292 by omega) b2, e11, e17, ew, cw, is_n (show e < 10 by omega) (show 10 < 2 ^ 31 by decide)]
theorem gh_mt1 {R N r : Nat} {D : Nat → Nat → Int32} (hr : r < R) {p : Nat → Bool} (mn : ¬ nI (msk p 10) = 0) (h : icH) (m : Nat) (ab be : Int64) (ii : Nat → Int32) : ∀ (n w : Nat) (z : Value) (A : Nat → Nat → Int32), w + n = 19 → MR R N 0 0 D (upd (A 1) 0 (nI 0)) → ∃ A', icE 196 30 [.ref m, .int (nI r), .int (nI (msk p 10)), .int (bq (gh_g p D r) gh_cd (w * 1)).1, .int (nI (bq (gh_g p D r) gh_cd (w * 1)).2), .int (nI w), z] [] (HM h m ab be ii A) = some (some (.int (bq (gh_g p D r) gh_cd (19 * 1)).1), HM h m ab be ii A') ∧ MSC A A'
  | 0, w, z, A, him, hM => by
    have : w = 19 := by omega
    subst this
    refine ⟨A, ?_, MSC_r A⟩
    rw [rh_196_30]
    simp only [SA, rw_196, if_pos (nI_le (Nat.le_refl 19) (show 19 < 2 ^ 31 by decide))]
  | n + 1, w, z, A, him, hM => by
    obtain ⟨g, s1, s2⟩ := gh_mfill hr (w := w) (s := 0) (by decide) h m ab be ii 10 0 A (by omega) hM (fun c hc => absurd hc (Nat.not_lt_zero c)) (x2 := .int (nI (msk p 10))) (x3 := .int (bq (gh_g p D r) gh_cd (w * 1)).1) (x4 := .int (nI (bq (gh_g p D r) gh_cd (w * 1)).2))
    have al := c_alike (p := p) (show 10 ≤ 10 by decide) (A := ud A 11 g) (lk := gh_lk D r (wv w) (nI 0)) (by rw [ud_s]; exact s2) h m ab be ii
    have eg : Gq p (gh_lk D r (wv w) (nI 0)) 10 = gh_g p D r (w * 1) := by
      unfold gh_g
      rw [show (w * 1) / 1 = w by omega, show (w * 1) % 1 = 0 by omega]
    have ec : gh_cd (w * 1) = w := by unfold gh_cd; omega
    rw [eg] at al
    have gl : gh_g p D r (w * 1) ≤ 10 := Gq_le p _ 10
    have bl : (bq (gh_g p D r) gh_cd (w * 1)).2 ≤ 99 := by
      by_cases c : w * 1 = 0
      · rw [c]; exact Nat.le_refl 99
      · have := bq_le (cd := gh_cd) (g := gh_g p D r) (n := 10) (fun q => Gq_le p _ 10) (by decide) (w * 1 - 1)
        rw [show w * 1 - 1 + 1 = w * 1 by omega] at this
        omega
    obtain ⟨A', ih, q⟩ := gh_mt1 hr mn h m ab be ii n (w + 1) (.int (nI (gh_g p D r (w * 1)))) (ud A 11 g) (by omega) (by rw [ud_n (by decide)]; exact hM)
    have eb : bq (gh_g p D r) gh_cd ((w + 1) * 1) = if gh_g p D r (w * 1) < (bq (gh_g p D r) gh_cd (w * 1)).2 then (nI (gh_cd (w * 1)), gh_g p D r (w * 1)) else bq (gh_g p D r) gh_cd (w * 1) := by
      rw [show (w + 1) * 1 = w * 1 + 1 by omega]; rfl
    rw [ec] at eb
    refine ⟨A', ?_, MSC_t (MSC_u (MSC_r A) (by decide) g) q⟩
    refine Eq.trans ?_ ih
    rw [rh_196_30]
    simp only [SA, rw_196, if_neg (nI_ge (show w < 19 by omega) (show 19 < 2 ^ 31 by decide)), if_neg mn]
    rw [s1, eb]
    by_cases c : gh_g p D r (w * 1) < (bq (gh_g p D r) gh_cd (w * 1)).2
    · rw [if_pos c]
      simp only [SA, rw_196, HM_o, al, if_neg (nI_ge c (show (bq (gh_g p D r) gh_cd (w * 1)).2 < 2 ^ 31 by omega)), c_lessN (show (bq (gh_g p D r) gh_cd (w * 1)).2 < 2 ^ 31 by omega) (show gh_g p D r (w * 1) < 2 ^ 31 by omega), Nat.min_eq_right (Nat.le_of_lt c), nI_add]
    · rw [if_neg c]
      simp only [SA, rw_196, HM_o, al, if_pos (nI_le (show (bq (gh_g p D r) gh_cd (w * 1)).2 ≤ gh_g p D r (w * 1) by omega) (show gh_g p D r (w * 1) < 2 ^ 31 by omega)), c_lessN (show (bq (gh_g p D r) gh_cd (w * 1)).2 < 2 ^ 31 by omega) (show gh_g p D r (w * 1) < 2 ^ 31 by omega), Nat.min_eq_left (Nat.le_of_not_lt c), nI_add]
theorem m_tell {R N K r : Nat} {D f : Nat → Nat → Int32} {A : Nat → Nat → Int32} (hM : MR R N 0 0 D (upd (A 1) 0 (nI 0))) (hK : K ≤ 5) (hA : A 1 56 = nI K) (hf : ∀ c, c < 4 * K → A 1 (57 + c) = f 0 c) (hs : ∀ k, k < K → kd 61 (f 0 (4 * k + 2))) (hr : r < R) (h : icH) (m : Nat) (ab be : Int64) (ii : Nat → Int32) : ∃ A', icE 196 0 [.ref m, .int (nI r), dum, dum, dum, dum, dum] [] (HM h m ab be ii A) = some (some (.int (gh_bst f D r K)), HM h m ab be ii A') ∧ MSC A A' := by
  have q : nI 0 ≤ nI r ∧ nI r ≤ A 1 9 - nI 1 := MR_r hM hr
  have mo := gh_mof hM hK hA hf hs hr h m ab be ii
  have lt := msk_10 (gh_fit f D r K) (show 10 ≤ 10 by decide)
  by_cases c : msk (gh_fit f D r K) 10 = 0
  · refine ⟨A, ?_, MSC_r A⟩
    have e : gh_bst f D r K = -1 := if_pos c
    have c0 : nI (msk (gh_fit f D r K) 10) = 0 := by rw [c]; rfl
    rw [e]
    simp only [SA, rw_196, HM_o, c_misRoof, if_neg (bi_10 q), mo, rh_196_30, if_neg (nI_ge (show 0 < 19 by decide) (show 19 < 2 ^ 31 by decide)), if_pos c0]
  · have e : gh_bst f D r K = (bq (gh_g (gh_fit f D r K) D r) gh_cd (19 * 1)).1 := if_neg c
    have mn : ¬ nI (msk (gh_fit f D r K) 10) = 0 := fun z => c ((nI_eq (by omega) (by decide)).mp (z.trans (show (0 : Int32) = nI 0 from rfl)))
    rw [e]
    obtain ⟨A', z, y⟩ := gh_mt1 hr (p := gh_fit f D r K) mn h m ab be ii 19 0 dum A (by omega) hM
    refine ⟨A', ?_, y⟩
    refine Eq.trans ?_ z
    simp only [SA, rw_196, HM_o, c_misRoof, if_neg (bi_10 q), mo, Nat.zero_mul, bq]
