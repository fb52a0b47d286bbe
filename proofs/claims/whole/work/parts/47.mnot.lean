/-! ===== the reference: small ones, notes ===== -/
-- cX9_notes: heads [15]
theorem fe_169 (pc : Nat) : fet 169 pc = look k_169 pc := rfl
theorem r_169_0 (L S : List Value) (h : icH) : icE 169 0 L S h = exe icE 169 (e_aload 0 1 L S h) := icE_eq (i := .aload_n 0) (len := 1) (x1 := 0) (x2 := 0) (x3 := 0) (x4 := 64) ((fe_169 0).trans rfl) L S h
theorem r_169_1 (L S : List Value) (h : icH) : icE 169 1 L S h = exe icE 169 (e_getf 0 8 4 L S h) := icE_eq (i := .getfield 7) (len := 3) (x1 := 0) (x2 := 8) (x3 := 12) (x4 := 957) ((fe_169 1).trans rfl) L S h
theorem r_169_4 (L S : List Value) (h : icH) : icE 169 4 L S h = icE 169 7 L (.int (nI 139) :: S) h := icE_eq (i := .sipush 139) (len := 3) (x1 := 0) (x2 := 0) (x3 := 0) (x4 := 64) ((fe_169 4).trans rfl) L S h
theorem r_169_7 (L S : List Value) (h : icH) : icE 169 7 L S h = exe icE 169 (e_iald 8 L S h) := icE_eq (i := .iaload) (len := 1) (x1 := 0) (x2 := 0) (x3 := 0) (x4 := 64) ((fe_169 7).trans rfl) L S h
theorem r_169_8 (L S : List Value) (h : icH) : icE 169 8 L S h = icE 169 10 L (.int (nI 8) :: S) h := icE_eq (i := .bipush 8) (len := 2) (x1 := 0) (x2 := 0) (x3 := 0) (x4 := 64) ((fe_169 8).trans rfl) L S h
theorem r_169_10 (L S : List Value) (h : icH) : icE 169 10 L S h = exe icE 169 (e_cmp .ne 60 13 L S h) := icE_eq (i := .if_icmp .ne 50) (len := 3) (x1 := 60) (x2 := 0) (x3 := 0) (x4 := 64) ((fe_169 10).trans rfl) L S h
theorem r_169_13 (L S : List Value) (h : icH) : icE 169 13 L S h = icE 169 14 L (.int (nI 0) :: S) h := icE_eq (i := .iconst 0) (len := 1) (x1 := 0) (x2 := 0) (x3 := 0) (x4 := 64) ((fe_169 13).trans rfl) L S h
theorem r_169_14 (L S : List Value) (h : icH) : icE 169 14 L S h = exe icE 169 (e_istore 1 15 L S h) := icE_eq (i := .istore_n 1) (len := 1) (x1 := 0) (x2 := 0) (x3 := 0) (x4 := 64) ((fe_169 14).trans rfl) L S h
theorem rh_169_15 (L S : List Value) (h : icH) : icE 169 15 L S h = exe icE 169 (e_iload 1 16 L S h) := icE_eq (i := .iload_n 1) (len := 1) (x1 := 0) (x2 := 0) (x3 := 0) (x4 := 64) ((fe_169 15).trans rfl) L S h
theorem r_169_16 (L S : List Value) (h : icH) : icE 169 16 L S h = icE 169 19 L (.int (nI 133) :: S) h := icE_eq (i := .sipush 133) (len := 3) (x1 := 0) (x2 := 0) (x3 := 0) (x4 := 64) ((fe_169 16).trans rfl) L S h
theorem r_169_19 (L S : List Value) (h : icH) : icE 169 19 L S h = exe icE 169 (e_cmp .ge 48 22 L S h) := icE_eq (i := .if_icmp .ge 29) (len := 3) (x1 := 48) (x2 := 0) (x3 := 0) (x4 := 64) ((fe_169 19).trans rfl) L S h
theorem r_169_22 (L S : List Value) (h : icH) : icE 169 22 L S h = exe icE 169 (e_aload 0 23 L S h) := icE_eq (i := .aload_n 0) (len := 1) (x1 := 0) (x2 := 0) (x3 := 0) (x4 := 64) ((fe_169 22).trans rfl) L S h
theorem r_169_23 (L S : List Value) (h : icH) : icE 169 23 L S h = exe icE 169 (e_getf 0 8 26 L S h) := icE_eq (i := .getfield 7) (len := 3) (x1 := 0) (x2 := 8) (x3 := 12) (x4 := 957) ((fe_169 23).trans rfl) L S h
theorem r_169_26 (L S : List Value) (h : icH) : icE 169 26 L S h = icE 169 29 L (.int (nI 140) :: S) h := icE_eq (i := .sipush 140) (len := 3) (x1 := 0) (x2 := 0) (x3 := 0) (x4 := 64) ((fe_169 26).trans rfl) L S h
theorem r_169_29 (L S : List Value) (h : icH) : icE 169 29 L S h = exe icE 169 (e_iload 1 30 L S h) := icE_eq (i := .iload_n 1) (len := 1) (x1 := 0) (x2 := 0) (x3 := 0) (x4 := 64) ((fe_169 29).trans rfl) L S h
theorem r_169_30 (L S : List Value) (h : icH) : icE 169 30 L S h = exe icE 169 (e_bin (fun x y => x + y) 31 L S h) := icE_eq (i := .iadd) (len := 1) (x1 := 0) (x2 := 0) (x3 := 0) (x4 := 64) ((fe_169 30).trans rfl) L S h
theorem r_169_31 (L S : List Value) (h : icH) : icE 169 31 L S h = exe icE 169 (e_aload 0 32 L S h) := icE_eq (i := .aload_n 0) (len := 1) (x1 := 0) (x2 := 0) (x3 := 0) (x4 := 64) ((fe_169 31).trans rfl) L S h
theorem r_169_32 (L S : List Value) (h : icH) : icE 169 32 L S h = exe icE 169 (e_getf 0 8 35 L S h) := icE_eq (i := .getfield 7) (len := 3) (x1 := 0) (x2 := 8) (x3 := 12) (x4 := 957) ((fe_169 32).trans rfl) L S h
theorem r_169_35 (L S : List Value) (h : icH) : icE 169 35 L S h = icE 169 38 L (.int (nI 159) :: S) h := icE_eq (i := .sipush 159) (len := 3) (x1 := 0) (x2 := 0) (x3 := 0) (x4 := 64) ((fe_169 35).trans rfl) L S h
theorem r_169_38 (L S : List Value) (h : icH) : icE 169 38 L S h = exe icE 169 (e_iload 1 39 L S h) := icE_eq (i := .iload_n 1) (len := 1) (x1 := 0) (x2 := 0) (x3 := 0) (x4 := 64) ((fe_169 38).trans rfl) L S h
theorem r_169_39 (L S : List Value) (h : icH) : icE 169 39 L S h = exe icE 169 (e_bin (fun x y => x + y) 40 L S h) := icE_eq (i := .iadd) (len := 1) (x1 := 0) (x2 := 0) (x3 := 0) (x4 := 64) ((fe_169 39).trans rfl) L S h
theorem r_169_40 (L S : List Value) (h : icH) : icE 169 40 L S h = exe icE 169 (e_iald 41 L S h) := icE_eq (i := .iaload) (len := 1) (x1 := 0) (x2 := 0) (x3 := 0) (x4 := 64) ((fe_169 40).trans rfl) L S h
theorem r_169_41 (L S : List Value) (h : icH) : icE 169 41 L S h = exe icE 169 (e_iast 42 L S h) := icE_eq (i := .iastore) (len := 1) (x1 := 0) (x2 := 0) (x3 := 0) (x4 := 64) ((fe_169 41).trans rfl) L S h
theorem r_169_42 (L S : List Value) (h : icH) : icE 169 42 L S h = exe icE 169 (e_iinc 1 (nI 1) 45 L S h) := icE_eq (i := .iinc 1 1) (len := 3) (x1 := 0) (x2 := 0) (x3 := 0) (x4 := 64) ((fe_169 42).trans rfl) L S h
theorem r_169_45 (L S : List Value) (h : icH) : icE 169 45 L S h = icE 169 15 L S h := icE_eq (i := .goto (-30)) (len := 3) (x1 := 15) (x2 := 0) (x3 := 0) (x4 := 64) ((fe_169 45).trans rfl) L S h
theorem r_169_48 (L S : List Value) (h : icH) : icE 169 48 L S h = exe icE 169 (e_aload 0 49 L S h) := icE_eq (i := .aload_n 0) (len := 1) (x1 := 0) (x2 := 0) (x3 := 0) (x4 := 64) ((fe_169 48).trans rfl) L S h
theorem r_169_49 (L S : List Value) (h : icH) : icE 169 49 L S h = exe icE 169 (e_getf 0 8 52 L S h) := icE_eq (i := .getfield 7) (len := 3) (x1 := 0) (x2 := 8) (x3 := 12) (x4 := 957) ((fe_169 49).trans rfl) L S h
theorem r_169_52 (L S : List Value) (h : icH) : icE 169 52 L S h = icE 169 55 L (.int (nI 139) :: S) h := icE_eq (i := .sipush 139) (len := 3) (x1 := 0) (x2 := 0) (x3 := 0) (x4 := 64) ((fe_169 52).trans rfl) L S h
theorem r_169_55 (L S : List Value) (h : icH) : icE 169 55 L S h = exe icE 169 (e_dup2 56 L S h) := icE_eq (i := .dup2) (len := 1) (x1 := 0) (x2 := 0) (x3 := 0) (x4 := 64) ((fe_169 55).trans rfl) L S h
theorem r_169_56 (L S : List Value) (h : icH) : icE 169 56 L S h = exe icE 169 (e_iald 57 L S h) := icE_eq (i := .iaload) (len := 1) (x1 := 0) (x2 := 0) (x3 := 0) (x4 := 64) ((fe_169 56).trans rfl) L S h
theorem r_169_57 (L S : List Value) (h : icH) : icE 169 57 L S h = icE 169 58 L (.int (nI 1) :: S) h := icE_eq (i := .iconst 1) (len := 1) (x1 := 0) (x2 := 0) (x3 := 0) (x4 := 64) ((fe_169 57).trans rfl) L S h
theorem r_169_58 (L S : List Value) (h : icH) : icE 169 58 L S h = exe icE 169 (e_bin (fun x y => x - y) 59 L S h) := icE_eq (i := .isub) (len := 1) (x1 := 0) (x2 := 0) (x3 := 0) (x4 := 64) ((fe_169 58).trans rfl) L S h
theorem r_169_59 (L S : List Value) (h : icH) : icE 169 59 L S h = exe icE 169 (e_iast 60 L S h) := icE_eq (i := .iastore) (len := 1) (x1 := 0) (x2 := 0) (x3 := 0) (x4 := 64) ((fe_169 59).trans rfl) L S h
theorem r_169_60 (L S : List Value) (h : icH) : icE 169 60 L S h = icE 169 63 L (.int (nI 140) :: S) h := icE_eq (i := .sipush 140) (len := 3) (x1 := 0) (x2 := 0) (x3 := 0) (x4 := 64) ((fe_169 60).trans rfl) L S h
theorem r_169_63 (L S : List Value) (h : icH) : icE 169 63 L S h = icE 169 65 L (.int (nI 19) :: S) h := icE_eq (i := .bipush 19) (len := 2) (x1 := 0) (x2 := 0) (x3 := 0) (x4 := 64) ((fe_169 63).trans rfl) L S h
theorem r_169_65 (L S : List Value) (h : icH) : icE 169 65 L S h = exe icE 169 (e_aload 0 66 L S h) := icE_eq (i := .aload_n 0) (len := 1) (x1 := 0) (x2 := 0) (x3 := 0) (x4 := 64) ((fe_169 65).trans rfl) L S h
theorem r_169_66 (L S : List Value) (h : icH) : icE 169 66 L S h = exe icE 169 (e_getf 0 8 69 L S h) := icE_eq (i := .getfield 7) (len := 3) (x1 := 0) (x2 := 8) (x3 := 12) (x4 := 957) ((fe_169 66).trans rfl) L S h
theorem r_169_69 (L S : List Value) (h : icH) : icE 169 69 L S h = icE 169 72 L (.int (nI 139) :: S) h := icE_eq (i := .sipush 139) (len := 3) (x1 := 0) (x2 := 0) (x3 := 0) (x4 := 64) ((fe_169 69).trans rfl) L S h
theorem r_169_72 (L S : List Value) (h : icH) : icE 169 72 L S h = exe icE 169 (e_iald 73 L S h) := icE_eq (i := .iaload) (len := 1) (x1 := 0) (x2 := 0) (x3 := 0) (x4 := 64) ((fe_169 72).trans rfl) L S h
theorem r_169_73 (L S : List Value) (h : icH) : icE 169 73 L S h = exe icE 169 (e_bin (fun x y => x * y) 74 L S h) := icE_eq (i := .imul) (len := 1) (x1 := 0) (x2 := 0) (x3 := 0) (x4 := 64) ((fe_169 73).trans rfl) L S h
theorem r_169_74 (L S : List Value) (h : icH) : icE 169 74 L S h = exe icE 169 (e_bin (fun x y => x + y) 75 L S h) := icE_eq (i := .iadd) (len := 1) (x1 := 0) (x2 := 0) (x3 := 0) (x4 := 64) ((fe_169 74).trans rfl) L S h
theorem r_169_75 (L S : List Value) (h : icH) : icE 169 75 L S h = exe icE 169 (e_istore 1 76 L S h) := icE_eq (i := .istore_n 1) (len := 1) (x1 := 0) (x2 := 0) (x3 := 0) (x4 := 64) ((fe_169 75).trans rfl) L S h
theorem r_169_76 (L S : List Value) (h : icH) : icE 169 76 L S h = exe icE 169 (e_aload 0 77 L S h) := icE_eq (i := .aload_n 0) (len := 1) (x1 := 0) (x2 := 0) (x3 := 0) (x4 := 64) ((fe_169 76).trans rfl) L S h
theorem r_169_77 (L S : List Value) (h : icH) : icE 169 77 L S h = exe icE 169 (e_getf 0 8 80 L S h) := icE_eq (i := .getfield 7) (len := 3) (x1 := 0) (x2 := 8) (x3 := 12) (x4 := 957) ((fe_169 77).trans rfl) L S h
theorem r_169_80 (L S : List Value) (h : icH) : icE 169 80 L S h = exe icE 169 (e_iload 1 81 L S h) := icE_eq (i := .iload_n 1) (len := 1) (x1 := 0) (x2 := 0) (x3 := 0) (x4 := 64) ((fe_169 80).trans rfl) L S h
theorem r_169_81 (L S : List Value) (h : icH) : icE 169 81 L S h = exe icE 169 (e_aload 0 82 L S h) := icE_eq (i := .aload_n 0) (len := 1) (x1 := 0) (x2 := 0) (x3 := 0) (x4 := 64) ((fe_169 81).trans rfl) L S h
theorem r_169_82 (L S : List Value) (h : icH) : icE 169 82 L S h = exe icE 169 (e_getf 0 8 85 L S h) := icE_eq (i := .getfield 7) (len := 3) (x1 := 0) (x2 := 8) (x3 := 12) (x4 := 957) ((fe_169 82).trans rfl) L S h
theorem r_169_85 (L S : List Value) (h : icH) : icE 169 85 L S h = icE 169 86 L (.int (nI 0) :: S) h := icE_eq (i := .iconst 0) (len := 1) (x1 := 0) (x2 := 0) (x3 := 0) (x4 := 64) ((fe_169 85).trans rfl) L S h
theorem r_169_86 (L S : List Value) (h : icH) : icE 169 86 L S h = exe icE 169 (e_iald 87 L S h) := icE_eq (i := .iaload) (len := 1) (x1 := 0) (x2 := 0) (x3 := 0) (x4 := 64) ((fe_169 86).trans rfl) L S h
theorem r_169_87 (L S : List Value) (h : icH) : icE 169 87 L S h = exe icE 169 (e_iast 88 L S h) := icE_eq (i := .iastore) (len := 1) (x1 := 0) (x2 := 0) (x3 := 0) (x4 := 64) ((fe_169 87).trans rfl) L S h
theorem r_169_88 (L S : List Value) (h : icH) : icE 169 88 L S h = exe icE 169 (e_aload 0 89 L S h) := icE_eq (i := .aload_n 0) (len := 1) (x1 := 0) (x2 := 0) (x3 := 0) (x4 := 64) ((fe_169 88).trans rfl) L S h
theorem r_169_89 (L S : List Value) (h : icH) : icE 169 89 L S h = exe icE 169 (e_getf 0 8 92 L S h) := icE_eq (i := .getfield 7) (len := 3) (x1 := 0) (x2 := 8) (x3 := 12) (x4 := 957) ((fe_169 89).trans rfl) L S h
theorem r_169_92 (L S : List Value) (h : icH) : icE 169 92 L S h = icE 169 94 L (.int (nI 14) :: S) h := icE_eq (i := .bipush 14) (len := 2) (x1 := 0) (x2 := 0) (x3 := 0) (x4 := 64) ((fe_169 92).trans rfl) L S h
theorem r_169_94 (L S : List Value) (h : icH) : icE 169 94 L S h = exe icE 169 (e_aload 0 95 L S h) := icE_eq (i := .aload_n 0) (len := 1) (x1 := 0) (x2 := 0) (x3 := 0) (x4 := 64) ((fe_169 94).trans rfl) L S h
theorem r_169_95 (L S : List Value) (h : icH) : icE 169 95 L S h = exe icE 169 (e_getf 0 8 98 L S h) := icE_eq (i := .getfield 7) (len := 3) (x1 := 0) (x2 := 8) (x3 := 12) (x4 := 957) ((fe_169 95).trans rfl) L S h
theorem r_169_98 (L S : List Value) (h : icH) : icE 169 98 L S h = exe icE 169 (e_iload 1 99 L S h) := icE_eq (i := .iload_n 1) (len := 1) (x1 := 0) (x2 := 0) (x3 := 0) (x4 := 64) ((fe_169 98).trans rfl) L S h
theorem r_169_99 (L S : List Value) (h : icH) : icE 169 99 L S h = icE 169 100 L (.int (nI 1) :: S) h := icE_eq (i := .iconst 1) (len := 1) (x1 := 0) (x2 := 0) (x3 := 0) (x4 := 64) ((fe_169 99).trans rfl) L S h
theorem r_169_100 (L S : List Value) (h : icH) : icE 169 100 L S h = exe icE 169 (e_bin (fun x y => x + y) 101 L S h) := icE_eq (i := .iadd) (len := 1) (x1 := 0) (x2 := 0) (x3 := 0) (x4 := 64) ((fe_169 100).trans rfl) L S h
theorem r_169_101 (L S : List Value) (h : icH) : icE 169 101 L S h = icE 169 103 L (.int (nI 6) :: S) h := icE_eq (i := .bipush 6) (len := 2) (x1 := 0) (x2 := 0) (x3 := 0) (x4 := 64) ((fe_169 101).trans rfl) L S h
theorem r_169_103 (L S : List Value) (h : icH) : icE 169 103 L S h = exe icE 169 (e_call 138 6 5 106 L S h) := icE_eq (i := .invokestatic 178) (len := 3) (x1 := 138) (x2 := 1) (x3 := 0) (x4 := 1087) ((fe_169 103).trans rfl) L S h
theorem r_169_106 (L S : List Value) (h : icH) : icE 169 106 L S h = exe icE 169 (e_aload 0 107 L S h) := icE_eq (i := .aload_n 0) (len := 1) (x1 := 0) (x2 := 0) (x3 := 0) (x4 := 64) ((fe_169 106).trans rfl) L S h
theorem r_169_107 (L S : List Value) (h : icH) : icE 169 107 L S h = exe icE 169 (e_getf 0 8 110 L S h) := icE_eq (i := .getfield 7) (len := 3) (x1 := 0) (x2 := 8) (x3 := 12) (x4 := 957) ((fe_169 107).trans rfl) L S h
theorem r_169_110 (L S : List Value) (h : icH) : icE 169 110 L S h = icE 169 112 L (.int (nI 38) :: S) h := icE_eq (i := .bipush 38) (len := 2) (x1 := 0) (x2 := 0) (x3 := 0) (x4 := 64) ((fe_169 110).trans rfl) L S h
theorem r_169_112 (L S : List Value) (h : icH) : icE 169 112 L S h = exe icE 169 (e_aload 0 113 L S h) := icE_eq (i := .aload_n 0) (len := 1) (x1 := 0) (x2 := 0) (x3 := 0) (x4 := 64) ((fe_169 112).trans rfl) L S h
theorem r_169_113 (L S : List Value) (h : icH) : icE 169 113 L S h = exe icE 169 (e_getf 0 8 116 L S h) := icE_eq (i := .getfield 7) (len := 3) (x1 := 0) (x2 := 8) (x3 := 12) (x4 := 957) ((fe_169 113).trans rfl) L S h
theorem r_169_116 (L S : List Value) (h : icH) : icE 169 116 L S h = exe icE 169 (e_iload 1 117 L S h) := icE_eq (i := .iload_n 1) (len := 1) (x1 := 0) (x2 := 0) (x3 := 0) (x4 := 64) ((fe_169 116).trans rfl) L S h
theorem r_169_117 (L S : List Value) (h : icH) : icE 169 117 L S h = icE 169 119 L (.int (nI 7) :: S) h := icE_eq (i := .bipush 7) (len := 2) (x1 := 0) (x2 := 0) (x3 := 0) (x4 := 64) ((fe_169 117).trans rfl) L S h
theorem r_169_119 (L S : List Value) (h : icH) : icE 169 119 L S h = exe icE 169 (e_bin (fun x y => x + y) 120 L S h) := icE_eq (i := .iadd) (len := 1) (x1 := 0) (x2 := 0) (x3 := 0) (x4 := 64) ((fe_169 119).trans rfl) L S h
theorem r_169_120 (L S : List Value) (h : icH) : icE 169 120 L S h = icE 169 122 L (.int (nI 6) :: S) h := icE_eq (i := .bipush 6) (len := 2) (x1 := 0) (x2 := 0) (x3 := 0) (x4 := 64) ((fe_169 120).trans rfl) L S h
theorem r_169_122 (L S : List Value) (h : icH) : icE 169 122 L S h = exe icE 169 (e_call 138 6 5 125 L S h) := icE_eq (i := .invokestatic 178) (len := 3) (x1 := 138) (x2 := 1) (x3 := 0) (x4 := 1087) ((fe_169 122).trans rfl) L S h
theorem r_169_125 (L S : List Value) (h : icH) : icE 169 125 L S h = exe icE 169 (e_aload 0 126 L S h) := icE_eq (i := .aload_n 0) (len := 1) (x1 := 0) (x2 := 0) (x3 := 0) (x4 := 64) ((fe_169 125).trans rfl) L S h
theorem r_169_126 (L S : List Value) (h : icH) : icE 169 126 L S h = exe icE 169 (e_getf 0 8 129 L S h) := icE_eq (i := .getfield 7) (len := 3) (x1 := 0) (x2 := 8) (x3 := 12) (x4 := 957) ((fe_169 126).trans rfl) L S h
theorem r_169_129 (L S : List Value) (h : icH) : icE 169 129 L S h = icE 169 131 L (.int (nI 50) :: S) h := icE_eq (i := .bipush 50) (len := 2) (x1 := 0) (x2 := 0) (x3 := 0) (x4 := 64) ((fe_169 129).trans rfl) L S h
theorem r_169_131 (L S : List Value) (h : icH) : icE 169 131 L S h = exe icE 169 (e_aload 0 132 L S h) := icE_eq (i := .aload_n 0) (len := 1) (x1 := 0) (x2 := 0) (x3 := 0) (x4 := 64) ((fe_169 131).trans rfl) L S h
theorem r_169_132 (L S : List Value) (h : icH) : icE 169 132 L S h = exe icE 169 (e_getf 0 8 135 L S h) := icE_eq (i := .getfield 7) (len := 3) (x1 := 0) (x2 := 8) (x3 := 12) (x4 := 957) ((fe_169 132).trans rfl) L S h
theorem r_169_135 (L S : List Value) (h : icH) : icE 169 135 L S h = exe icE 169 (e_iload 1 136 L S h) := icE_eq (i := .iload_n 1) (len := 1) (x1 := 0) (x2 := 0) (x3 := 0) (x4 := 64) ((fe_169 135).trans rfl) L S h
theorem r_169_136 (L S : List Value) (h : icH) : icE 169 136 L S h = icE 169 138 L (.int (nI 13) :: S) h := icE_eq (i := .bipush 13) (len := 2) (x1 := 0) (x2 := 0) (x3 := 0) (x4 := 64) ((fe_169 136).trans rfl) L S h
theorem r_169_138 (L S : List Value) (h : icH) : icE 169 138 L S h = exe icE 169 (e_bin (fun x y => x + y) 139 L S h) := icE_eq (i := .iadd) (len := 1) (x1 := 0) (x2 := 0) (x3 := 0) (x4 := 64) ((fe_169 138).trans rfl) L S h
theorem r_169_139 (L S : List Value) (h : icH) : icE 169 139 L S h = icE 169 141 L (.int (nI 6) :: S) h := icE_eq (i := .bipush 6) (len := 2) (x1 := 0) (x2 := 0) (x3 := 0) (x4 := 64) ((fe_169 139).trans rfl) L S h
theorem r_169_141 (L S : List Value) (h : icH) : icE 169 141 L S h = exe icE 169 (e_call 138 6 5 144 L S h) := icE_eq (i := .invokestatic 178) (len := 3) (x1 := 138) (x2 := 1) (x3 := 0) (x4 := 1087) ((fe_169 141).trans rfl) L S h
theorem r_169_144 (L S : List Value) (h : icH) : icE 169 144 L S h = exe icE 169 (e_aload 0 145 L S h) := icE_eq (i := .aload_n 0) (len := 1) (x1 := 0) (x2 := 0) (x3 := 0) (x4 := 64) ((fe_169 144).trans rfl) L S h
theorem r_169_145 (L S : List Value) (h : icH) : icE 169 145 L S h = exe icE 169 (e_getf 0 8 148 L S h) := icE_eq (i := .getfield 7) (len := 3) (x1 := 0) (x2 := 8) (x3 := 12) (x4 := 957) ((fe_169 145).trans rfl) L S h
theorem r_169_148 (L S : List Value) (h : icH) : icE 169 148 L S h = icE 169 151 L (.int (nI 139) :: S) h := icE_eq (i := .sipush 139) (len := 3) (x1 := 0) (x2 := 0) (x3 := 0) (x4 := 64) ((fe_169 148).trans rfl) L S h
theorem r_169_151 (L S : List Value) (h : icH) : icE 169 151 L S h = exe icE 169 (e_dup2 152 L S h) := icE_eq (i := .dup2) (len := 1) (x1 := 0) (x2 := 0) (x3 := 0) (x4 := 64) ((fe_169 151).trans rfl) L S h
theorem r_169_152 (L S : List Value) (h : icH) : icE 169 152 L S h = exe icE 169 (e_iald 153 L S h) := icE_eq (i := .iaload) (len := 1) (x1 := 0) (x2 := 0) (x3 := 0) (x4 := 64) ((fe_169 152).trans rfl) L S h
theorem r_169_153 (L S : List Value) (h : icH) : icE 169 153 L S h = icE 169 154 L (.int (nI 1) :: S) h := icE_eq (i := .iconst 1) (len := 1) (x1 := 0) (x2 := 0) (x3 := 0) (x4 := 64) ((fe_169 153).trans rfl) L S h
theorem r_169_154 (L S : List Value) (h : icH) : icE 169 154 L S h = exe icE 169 (e_bin (fun x y => x + y) 155 L S h) := icE_eq (i := .iadd) (len := 1) (x1 := 0) (x2 := 0) (x3 := 0) (x4 := 64) ((fe_169 154).trans rfl) L S h
theorem r_169_155 (L S : List Value) (h : icH) : icE 169 155 L S h = exe icE 169 (e_iast 156 L S h) := icE_eq (i := .iastore) (len := 1) (x1 := 0) (x2 := 0) (x3 := 0) (x4 := 64) ((fe_169 155).trans rfl) L S h
theorem r_169_156 (L S : List Value) (h : icH) : icE 169 156 L S h = exe icE 169 (e_vret L S h) := icE_eq (i := .return_) (len := 1) (x1 := 0) (x2 := 0) (x3 := 0) (x4 := 64) ((fe_169 156).trans rfl) L S h
theorem rw_169 : (∀ (L S : List Value) (h : icH), icE 169 0 L S h = exe icE 169 (e_aload 0 1 L S h)) ∧ (∀ (L S : List Value) (h : icH), icE 169 1 L S h = exe icE 169 (e_getf 0 8 4 L S h)) ∧ (∀ (L S : List Value) (h : icH), icE 169 4 L S h = icE 169 7 L (.int (nI 139) :: S) h) ∧ (∀ (L S : List Value) (h : icH), icE 169 7 L S h = exe icE 169 (e_iald 8 L S h)) ∧ (∀ (L S : List Value) (h : icH), icE 169 8 L S h = icE 169 10 L (.int (nI 8) :: S) h) ∧ (∀ (L S : List Value) (h : icH), icE 169 10 L S h = exe icE 169 (e_cmp .ne 60 13 L S h)) ∧ (∀ (L S : List Value) (h : icH), icE 169 13 L S h = icE 169 14 L (.int (nI 0) :: S) h) ∧ (∀ (L S : List Value) (h : icH), icE 169 14 L S h = exe icE 169 (e_istore 1 15 L S h)) ∧ (∀ (L S : List Value) (h : icH), icE 169 16 L S h = icE 169 19 L (.int (nI 133) :: S) h) ∧ (∀ (L S : List Value) (h : icH), icE 169 19 L S h = exe icE 169 (e_cmp .ge 48 22 L S h)) ∧ (∀ (L S : List Value) (h : icH), icE 169 22 L S h = exe icE 169 (e_aload 0 23 L S h)) ∧ (∀ (L S : List Value) (h : icH), icE 169 23 L S h = exe icE 169 (e_getf 0 8 26 L S h)) ∧ (∀ (L S : List Value) (h : icH), icE 169 26 L S h = icE 169 29 L (.int (nI 140) :: S) h) ∧ (∀ (L S : List Value) (h : icH), icE 169 29 L S h = exe icE 169 (e_iload 1 30 L S h)) ∧ (∀ (L S : List Value) (h : icH), icE 169 30 L S h = exe icE 169 (e_bin (fun x y => x + y) 31 L S h)) ∧ (∀ (L S : List Value) (h : icH), icE 169 31 L S h = exe icE 169 (e_aload 0 32 L S h)) ∧ (∀ (L S : List Value) (h : icH), icE 169 32 L S h = exe icE 169 (e_getf 0 8 35 L S h)) ∧ (∀ (L S : List Value) (h : icH), icE 169 35 L S h = icE 169 38 L (.int (nI 159) :: S) h) ∧ (∀ (L S : List Value) (h : icH), icE 169 38 L S h = exe icE 169 (e_iload 1 39 L S h)) ∧ (∀ (L S : List Value) (h : icH), icE 169 39 L S h = exe icE 169 (e_bin (fun x y => x + y) 40 L S h)) ∧ (∀ (L S : List Value) (h : icH), icE 169 40 L S h = exe icE 169 (e_iald 41 L S h)) ∧ (∀ (L S : List Value) (h : icH), icE 169 41 L S h = exe icE 169 (e_iast 42 L S h)) ∧ (∀ (L S : List Value) (h : icH), icE 169 42 L S h = exe icE 169 (e_iinc 1 (nI 1) 45 L S h)) ∧ (∀ (L S : List Value) (h : icH), icE 169 45 L S h = icE 169 15 L S h) ∧ (∀ (L S : List Value) (h : icH), icE 169 48 L S h = exe icE 169 (e_aload 0 49 L S h)) ∧ (∀ (L S : List Value) (h : icH), icE 169 49 L S h = exe icE 169 (e_getf 0 8 52 L S h)) ∧ (∀ (L S : List Value) (h : icH), icE 169 52 L S h = icE 169 55 L (.int (nI 139) :: S) h) ∧ (∀ (L S : List Value) (h : icH), icE 169 55 L S h = exe icE 169 (e_dup2 56 L S h)) ∧ (∀ (L S : List Value) (h : icH), icE 169 56 L S h = exe icE 169 (e_iald 57 L S h)) ∧ (∀ (L S : List Value) (h : icH), icE 169 57 L S h = icE 169 58 L (.int (nI 1) :: S) h) ∧ (∀ (L S : List Value) (h : icH), icE 169 58 L S h = exe icE 169 (e_bin (fun x y => x - y) 59 L S h)) ∧ (∀ (L S : List Value) (h : icH), icE 169 59 L S h = exe icE 169 (e_iast 60 L S h)) ∧ (∀ (L S : List Value) (h : icH), icE 169 60 L S h = icE 169 63 L (.int (nI 140) :: S) h) ∧ (∀ (L S : List Value) (h : icH), icE 169 63 L S h = icE 169 65 L (.int (nI 19) :: S) h) ∧ (∀ (L S : List Value) (h : icH), icE 169 65 L S h = exe icE 169 (e_aload 0 66 L S h)) ∧ (∀ (L S : List Value) (h : icH), icE 169 66 L S h = exe icE 169 (e_getf 0 8 69 L S h)) ∧ (∀ (L S : List Value) (h : icH), icE 169 69 L S h = icE 169 72 L (.int (nI 139) :: S) h) ∧ (∀ (L S : List Value) (h : icH), icE 169 72 L S h = exe icE 169 (e_iald 73 L S h)) ∧ (∀ (L S : List Value) (h : icH), icE 169 73 L S h = exe icE 169 (e_bin (fun x y => x * y) 74 L S h)) ∧ (∀ (L S : List Value) (h : icH), icE 169 74 L S h = exe icE 169 (e_bin (fun x y => x + y) 75 L S h)) ∧ (∀ (L S : List Value) (h : icH), icE 169 75 L S h = exe icE 169 (e_istore 1 76 L S h)) ∧ (∀ (L S : List Value) (h : icH), icE 169 76 L S h = exe icE 169 (e_aload 0 77 L S h)) ∧ (∀ (L S : List Value) (h : icH), icE 169 77 L S h = exe icE 169 (e_getf 0 8 80 L S h)) ∧ (∀ (L S : List Value) (h : icH), icE 169 80 L S h = exe icE 169 (e_iload 1 81 L S h)) ∧ (∀ (L S : List Value) (h : icH), icE 169 81 L S h = exe icE 169 (e_aload 0 82 L S h)) ∧ (∀ (L S : List Value) (h : icH), icE 169 82 L S h = exe icE 169 (e_getf 0 8 85 L S h)) ∧ (∀ (L S : List Value) (h : icH), icE 169 85 L S h = icE 169 86 L (.int (nI 0) :: S) h) ∧ (∀ (L S : List Value) (h : icH), icE 169 86 L S h = exe icE 169 (e_iald 87 L S h)) ∧ (∀ (L S : List Value) (h : icH), icE 169 87 L S h = exe icE 169 (e_iast 88 L S h)) ∧ (∀ (L S : List Value) (h : icH), icE 169 88 L S h = exe icE 169 (e_aload 0 89 L S h)) ∧ (∀ (L S : List Value) (h : icH), icE 169 89 L S h = exe icE 169 (e_getf 0 8 92 L S h)) ∧ (∀ (L S : List Value) (h : icH), icE 169 92 L S h = icE 169 94 L (.int (nI 14) :: S) h) ∧ (∀ (L S : List Value) (h : icH), icE 169 94 L S h = exe icE 169 (e_aload 0 95 L S h)) ∧ (∀ (L S : List Value) (h : icH), icE 169 95 L S h = exe icE 169 (e_getf 0 8 98 L S h)) ∧ (∀ (L S : List Value) (h : icH), icE 169 98 L S h = exe icE 169 (e_iload 1 99 L S h)) ∧ (∀ (L S : List Value) (h : icH), icE 169 99 L S h = icE 169 100 L (.int (nI 1) :: S) h) ∧ (∀ (L S : List Value) (h : icH), icE 169 100 L S h = exe icE 169 (e_bin (fun x y => x + y) 101 L S h)) ∧ (∀ (L S : List Value) (h : icH), icE 169 101 L S h = icE 169 103 L (.int (nI 6) :: S) h) ∧ (∀ (L S : List Value) (h : icH), icE 169 103 L S h = exe icE 169 (e_call 138 6 5 106 L S h)) ∧ (∀ (L S : List Value) (h : icH), icE 169 106 L S h = exe icE 169 (e_aload 0 107 L S h)) ∧ (∀ (L S : List Value) (h : icH), icE 169 107 L S h = exe icE 169 (e_getf 0 8 110 L S h)) ∧ (∀ (L S : List Value) (h : icH), icE 169 110 L S h = icE 169 112 L (.int (nI 38) :: S) h) ∧ (∀ (L S : List Value) (h : icH), icE 169 112 L S h = exe icE 169 (e_aload 0 113 L S h)) ∧ (∀ (L S : List Value) (h : icH), icE 169 113 L S h = exe icE 169 (e_getf 0 8 116 L S h)) ∧ (∀ (L S : List Value) (h : icH), icE 169 116 L S h = exe icE 169 (e_iload 1 117 L S h)) ∧ (∀ (L S : List Value) (h : icH), icE 169 117 L S h = icE 169 119 L (.int (nI 7) :: S) h) ∧ (∀ (L S : List Value) (h : icH), icE 169 119 L S h = exe icE 169 (e_bin (fun x y => x + y) 120 L S h)) ∧ (∀ (L S : List Value) (h : icH), icE 169 120 L S h = icE 169 122 L (.int (nI 6) :: S) h) ∧ (∀ (L S : List Value) (h : icH), icE 169 122 L S h = exe icE 169 (e_call 138 6 5 125 L S h)) ∧ (∀ (L S : List Value) (h : icH), icE 169 125 L S h = exe icE 169 (e_aload 0 126 L S h)) ∧ (∀ (L S : List Value) (h : icH), icE 169 126 L S h = exe icE 169 (e_getf 0 8 129 L S h)) ∧ (∀ (L S : List Value) (h : icH), icE 169 129 L S h = icE 169 131 L (.int (nI 50) :: S) h) ∧ (∀ (L S : List Value) (h : icH), icE 169 131 L S h = exe icE 169 (e_aload 0 132 L S h)) ∧ (∀ (L S : List Value) (h : icH), icE 169 132 L S h = exe icE 169 (e_getf 0 8 135 L S h)) ∧ (∀ (L S : List Value) (h : icH), icE 169 135 L S h = exe icE 169 (e_iload 1 136 L S h)) ∧ (∀ (L S : List Value) (h : icH), icE 169 136 L S h = icE 169 138 L (.int (nI 13) :: S) h) ∧ (∀ (L S : List Value) (h : icH), icE 169 138 L S h = exe icE 169 (e_bin (fun x y => x + y) 139 L S h)) ∧ (∀ (L S : List Value) (h : icH), icE 169 139 L S h = icE 169 141 L (.int (nI 6) :: S) h) ∧ (∀ (L S : List Value) (h : icH), icE 169 141 L S h = exe icE 169 (e_call 138 6 5 144 L S h)) ∧ (∀ (L S : List Value) (h : icH), icE 169 144 L S h = exe icE 169 (e_aload 0 145 L S h)) ∧ (∀ (L S : List Value) (h : icH), icE 169 145 L S h = exe icE 169 (e_getf 0 8 148 L S h)) ∧ (∀ (L S : List Value) (h : icH), icE 169 148 L S h = icE 169 151 L (.int (nI 139) :: S) h) ∧ (∀ (L S : List Value) (h : icH), icE 169 151 L S h = exe icE 169 (e_dup2 152 L S h)) ∧ (∀ (L S : List Value) (h : icH), icE 169 152 L S h = exe icE 169 (e_iald 153 L S h)) ∧ (∀ (L S : List Value) (h : icH), icE 169 153 L S h = icE 169 154 L (.int (nI 1) :: S) h) ∧ (∀ (L S : List Value) (h : icH), icE 169 154 L S h = exe icE 169 (e_bin (fun x y => x + y) 155 L S h)) ∧ (∀ (L S : List Value) (h : icH), icE 169 155 L S h = exe icE 169 (e_iast 156 L S h)) ∧ (∀ (L S : List Value) (h : icH), icE 169 156 L S h = exe icE 169 (e_vret L S h)) := ⟨r_169_0, r_169_1, r_169_4, r_169_7, r_169_8, r_169_10, r_169_13, r_169_14, r_169_16, r_169_19, r_169_22, r_169_23, r_169_26, r_169_29, r_169_30, r_169_31, r_169_32, r_169_35, r_169_38, r_169_39, r_169_40, r_169_41, r_169_42, r_169_45, r_169_48, r_169_49, r_169_52, r_169_55, r_169_56, r_169_57, r_169_58, r_169_59, r_169_60, r_169_63, r_169_65, r_169_66, r_169_69, r_169_72, r_169_73, r_169_74, r_169_75, r_169_76, r_169_77, r_169_80, r_169_81, r_169_82, r_169_85, r_169_86, r_169_87, r_169_88, r_169_89, r_169_92, r_169_94, r_169_95, r_169_98, r_169_99, r_169_100, r_169_101, r_169_103, r_169_106, r_169_107, r_169_110, r_169_112, r_169_113, r_169_116, r_169_117, r_169_119, r_169_120, r_169_122, r_169_125, r_169_126, r_169_129, r_169_131, r_169_132, r_169_135, r_169_136, r_169_138, r_169_139, r_169_141, r_169_144, r_169_145, r_169_148, r_169_151, r_169_152, r_169_153, r_169_154, r_169_155, r_169_156⟩
theorem c_mbad (v : Int32) (h : icH) (m : Nat) (ab be : Int64) (ii : Nat → Int32) (A : Nat → Nat → Int32) : icE 139 0 [.ref m, .int v] [] (HM h m ab be ii A) = some (some (.int v), HM h m ab be ii (ud A 6 (upd (A 6) 0 (A 6 0 + nI 1)))) := by
  simp only [SA, rw_139, HM_o, HMr, ia_n (show 0 < 3 by decide) (show 3 < 2 ^ 31 by decide), is_n (show 0 < 3 by decide) (show 3 < 2 ^ 31 by decide), HMw]
theorem c_mno (h : icH) (m : Nat) (ab be : Int64) (ii : Nat → Int32) (A : Nat → Nat → Int32) : icE 140 0 [.ref m] [] (HM h m ab be ii A) = some (some (.int (-3)), HM h m ab be ii (ud A 6 (upd (A 6) 1 (A 6 1 + nI 1)))) := by
  simp only [SA, rw_140, HM_o, HMr, ia_n (show 1 < 3 by decide) (show 3 < 2 ^ 31 by decide), is_n (show 1 < 3 by decide) (show 3 < 2 ^ 31 by decide), HMw]
theorem c_mfull (h : icH) (m : Nat) (ab be : Int64) (ii : Nat → Int32) (A : Nat → Nat → Int32) : icE 141 0 [.ref m] [] (HM h m ab be ii A) = some (some (.int (-4)), HM h m ab be ii (ud A 6 (upd (A 6) 2 (A 6 2 + nI 1)))) := by
  simp only [SA, rw_141, HM_o, HMr, ia_n (show 2 < 3 by decide) (show 3 < 2 ^ 31 by decide), is_n (show 2 < 3 by decide) (show 3 < 2 ^ 31 by decide), HMw]
theorem c_misRoof (r : Int32) (h : icH) (m : Nat) (ab be : Int64) (ii : Nat → Int32) (A : Nat → Nat → Int32) : icE 142 0 [.ref m, .int r] [] (HM h m ab be ii A) = some (some (.int (bi (nI 0 ≤ r ∧ r ≤ A 1 9 - nI 1))), HM h m ab be ii A) := by
  simp only [SA, rw_142, HM_o, HMr, ia_n (show 9 < 292 by decide) (show 292 < 2 ^ 31 by decide), c_in, u_irb, lN_t (show 0 < 2 ^ 31 by decide), i64_le]
theorem c_misIce (r : Int32) (h : icH) (m : Nat) (ab be : Int64) (ii : Nat → Int32) (A : Nat → Nat → Int32) : icE 143 0 [.ref m, .int r] [] (HM h m ab be ii A) = some (some (.int (bi (nI 0 ≤ r ∧ r ≤ A 1 10 - nI 1))), HM h m ab be ii A) := by
  simp only [SA, rw_143, HM_o, HMr, ia_n (show 10 < 292 by decide) (show 292 < 2 ^ 31 by decide), c_in, u_irb, lN_t (show 0 < 2 ^ 31 by decide), i64_le]
theorem c_misWarmth (w : Int32) (h : icH) : icE 144 0 [.int w] [] h = some (some (.int (bi (-9 ≤ w ∧ w ≤ nI 9))), h) := by
  have e : (-9 : Int64) = (-9 : Int32).toInt64 := by decide
  simp only [SA, rw_144, c_in, u_irb, lN_t (show 9 < 2 ^ 31 by decide), e, i64_le]
theorem l_copiesS {a na sp dp n : Nat} (hs : sp + n ≤ na) (hd : dp + n ≤ na) (hj : sp + n ≤ dp ∨ dp + n ≤ sp) (hna : na < 2 ^ 31) (g : Nat → Int32) : ∀ (k i : Nat) (h : icH), i + k = n → hg h a = some (ai na (va_cpy g g sp dp i)) → icE 138 3 [.ref a, .int (nI sp), .ref a, .int (nI dp), .int (nI n), .int (nI i)] [] h = some (none, hput h a (ai na (va_cpy g g sp dp n)))
  | 0, i, h, hik, Ha => by
    have : i = n := by omega
    subst this
    rw [rh_138_3]
    simp only [SA, rw_138, if_pos (nI_le (Nat.le_refl i) (show i < 2 ^ 31 by omega)), hp_id Ha]
  | k + 1, i, h, hik, Ha => by
    have e1 : va_cpy g g sp dp i (sp + i) = g (sp + i) := pk_cpy_out (by omega)
    have e2 : upd (va_cpy g g sp dp i) (dp + i) (g (sp + i)) = va_cpy g g sp dp (i + 1) := by
      funext j
      by_cases h1 : j = dp + i
      · subst h1
        rw [upd_s, pk_cpy_in (by omega) (by omega), Nat.add_sub_cancel_left]
      · rw [upd_n h1]
        by_cases h2 : dp ≤ j ∧ j < dp + i
        · rw [pk_cpy_in h2.1 h2.2, pk_cpy_in h2.1 (by omega)]
        · rw [pk_cpy_out (by omega), pk_cpy_out (by omega)]
    rw [rh_138_3]
    simp only [SA, rw_138, if_neg (nI_ge (show i < n by omega) (show n < 2 ^ 31 by omega)), nI_add, Ha, ia_n (show sp + i < na by omega) hna, is_n (show dp + i < na by omega) hna, e1, e2]
    rw [l_copiesS hs hd hj hna g k (i + 1) _ (by omega) (hg_s _ _ _), hp_p]
theorem c_copiesS {a na sp dp n : Nat} (hs : sp + n ≤ na) (hd : dp + n ≤ na) (hj : sp + n ≤ dp ∨ dp + n ≤ sp) (hna : na < 2 ^ 31) {g : Nat → Int32} {h : icH} (Ha : hg h a = some (ai na g)) : icE 138 0 [.ref a, .int (nI sp), .ref a, .int (nI dp), .int (nI n), dum] [] h = some (none, hput h a (ai na (va_cpy g g sp dp n))) := by
  have e : va_cpy g g sp dp 0 = g := by funext j; exact pk_cpy_out (by omega)
  simp only [SA, rw_138]
  exact l_copiesS hs hd hj hna g n 0 h (by omega) (by rw [e]; exact Ha)
theorem cm_cp {sp dp n : Nat} (hs : sp + n ≤ 292) (hd : dp + n ≤ 292) (hj : sp + n ≤ dp ∨ dp + n ≤ sp) (h : icH) (m : Nat) (ab be : Int64) (ii : Nat → Int32) (A : Nat → Nat → Int32) : icE 138 0 [.ref (m + 1), .int (nI sp), .ref (m + 1), .int (nI dp), .int (nI n), dum] [] (HM h m ab be ii A) = some (none, HM h m ab be ii (ud A 1 (va_cpy (A 1) (A 1) sp dp n))) := by
  rw [c_copiesS hs hd hj (by decide) (HMr.1 h m ab be ii A), HMw.1]
def mrow (T : Nat → Int32) (j : Nat) : Int32 := if j = 0 then T 0 else if j < 7 then T (13 + j) else if j < 13 then T (31 + j) else T (37 + j)
def nts (T : Nat → Int32) (K : Nat) : Nat → Int32 := fun c => if c = 139 then nI (K + 1) else if 140 + 19 * K ≤ c ∧ c < 140 + 19 * K + 19 then mrow T (c - (140 + 19 * K)) else T c
theorem nts_e {T : Nat → Int32} {K : Nat} : upd (va_cpy (va_cpy (va_cpy (upd T (140 + 19 * K) (T 0)) (upd T (140 + 19 * K) (T 0)) 14 (140 + 19 * K + 1) 6) (va_cpy (upd T (140 + 19 * K) (T 0)) (upd T (140 + 19 * K) (T 0)) 14 (140 + 19 * K + 1) 6) 38 (140 + 19 * K + 7) 6) (va_cpy (va_cpy (upd T (140 + 19 * K) (T 0)) (upd T (140 + 19 * K) (T 0)) 14 (140 + 19 * K + 1) 6) (va_cpy (upd T (140 + 19 * K) (T 0)) (upd T (140 + 19 * K) (T 0)) 14 (140 + 19 * K + 1) 6) 38 (140 + 19 * K + 7) 6) 50 (140 + 19 * K + 13) 6) 139 (nI (K + 1)) = nts T K := by
  funext c
  unfold nts mrow
  generalize hto : 140 + 19 * K = to
  by_cases h0 : c = 139
  · subst h0
    rw [upd_s, if_pos rfl]
  · rw [upd_n h0, if_neg h0]
    by_cases h1 : to + 13 ≤ c ∧ c < to + 13 + 6
    · rw [pk_cpy_in h1.1 h1.2, pk_cpy_out (by omega), pk_cpy_out (by omega), upd_n (by omega), if_pos (by omega), if_neg (by omega), if_neg (by omega), if_neg (by omega)]
      congr 1
      omega
    · rw [pk_cpy_out (by omega)]
      by_cases h2 : to + 7 ≤ c ∧ c < to + 7 + 6
      · rw [pk_cpy_in h2.1 h2.2, pk_cpy_out (by omega), upd_n (by omega), if_pos (by omega), if_neg (by omega), if_neg (by omega), if_pos (by omega)]
        congr 1
        omega
      · rw [pk_cpy_out (by omega)]
        by_cases h3 : to + 1 ≤ c ∧ c < to + 1 + 6
        · rw [pk_cpy_in h3.1 h3.2, upd_n (by omega), if_pos (by omega), if_neg (by omega), if_pos (by omega)]
          congr 1
          omega
        · rw [pk_cpy_out (by omega)]
          by_cases h4 : c = to
          · rw [h4, upd_s, if_pos (by omega), if_pos (by omega)]
          · rw [upd_n h4, if_neg (by omega)]
theorem l_notes {K : Nat} (hK : K < 8) {x : Value} (hx : x.category = 1) (h : icH) (m : Nat) (ab be : Int64) (ii : Nat → Int32) {A : Nat → Nat → Int32} (hA : A 1 139 = nI K) : icE 169 60 [.ref m, x] [] (HM h m ab be ii A) = some (none, HM h m ab be ii (ud A 1 (nts (A 1) K))) := by
  have b : 292 < 2 ^ 31 := by decide
  have q : ∀ (f : Nat → Int32), f 139 = nI K → va_cpy f f 14 (140 + 19 * K + 1) 6 139 = nI K := fun f hf => (pk_cpy_out (by omega)).trans hf
  have q2 : ∀ (f : Nat → Int32), f 139 = nI K → va_cpy f f 38 (140 + 19 * K + 7) 6 139 = nI K := fun f hf => (pk_cpy_out (by omega)).trans hf
  have q3 : ∀ (f : Nat → Int32), f 139 = nI K → va_cpy f f 50 (140 + 19 * K + 13) 6 139 = nI K := fun f hf => (pk_cpy_out (by omega)).trans hf
  have q0 : upd (A 1) (140 + 19 * K) (A 1 0) 139 = nI K := (upd_n (by omega)).trans hA
  simp only [SA, rw_169, HM_o, HMr, ia_n (show 139 < 292 by decide) b, hA, pk_mul, nI_add, ia_n (show 0 < 292 by decide) b, is_n (show 140 + 19 * K < 292 by omega) b, HMw, cm_cp (show 14 + 6 ≤ 292 by decide) (show 140 + 19 * K + 1 + 6 ≤ 292 by omega) (by omega), cm_cp (show 38 + 6 ≤ 292 by decide) (show 140 + 19 * K + 7 + 6 ≤ 292 by omega) (by omega), cm_cp (show 50 + 6 ≤ 292 by decide) (show 140 + 19 * K + 13 + 6 ≤ 292 by omega) (by omega), ud_s, ud_u, q3 _ (q2 _ (q _ q0)), is_n (show 139 < 292 by decide) b]
  rw [nts_e]
def shf (T : Nat → Int32) (i : Nat) : Nat → Int32 := fun c => if 140 ≤ c ∧ c < 140 + i then T (c + 19) else T c
theorem l_shift (h : icH) (m : Nat) (ab be : Int64) (ii : Nat → Int32) (A : Nat → Nat → Int32) (T : Nat → Int32) (hT : T 139 = nI 8) : ∀ (k i : Nat), i + k = 133 → icE 169 15 [.ref m, .int (nI i)] [] (HM h m ab be ii (ud A 1 (shf T i))) = some (none, HM h m ab be ii (ud A 1 (nts (upd (shf T 133) 139 (nI 7)) 7)))
  | 0, i, hik => by
    have : i = 133 := by omega
    subst this
    have b : 292 < 2 ^ 31 := by decide
    have e : shf T 133 139 = nI 8 := (if_neg (by omega)).trans hT
    have z := l_notes (K := 7) (by decide) (x := .int (nI 133)) rfl h m ab be ii (A := ud A 1 (upd (shf T 133) 139 (nI 7))) (by rw [ud_s, upd_s])
    rw [ud_s, ud_u] at z
    rw [← z, rh_169_15]
    have z2 : nI 8 - nI 1 = nI 7 := nI_sb (by decide)
    simp only [SA, rw_169, HM_o, HMr, if_pos (nI_le (Nat.le_refl 133) (show 133 < 2 ^ 31 by decide)), ia_n (show 139 < 292 by decide) b, ud_s, ud_u, e, z2, is_n (show 139 < 292 by decide) b, HMw]
  | k + 1, i, hik => by
    have ih := l_shift h m ab be ii A T hT k (i + 1) (by omega)
    have b : 292 < 2 ^ 31 := by decide
    have e1 : shf T i (159 + i) = T (159 + i) := if_neg (by omega)
    have e2 : upd (shf T i) (140 + i) (T (159 + i)) = shf T (i + 1) := by
      funext c
      unfold shf
      by_cases h1 : c = 140 + i
      · subst h1
        rw [upd_s, if_pos (by omega)]
        congr 1
        omega
      · rw [upd_n h1]
        by_cases h2 : 140 ≤ c ∧ c < 140 + i
        · rw [if_pos h2, if_pos (by omega)]
        · rw [if_neg h2, if_neg (by omega)]
    rw [rh_169_15]
    simp only [SA, rw_169, HM_o, HMr, if_neg (nI_ge (show i < 133 by omega) (show 133 < 2 ^ 31 by decide)), nI_add, ia_n (show 159 + i < 292 by omega) b, ud_s, e1, is_n (show 140 + i < 292 by omega) b, HMw, e2, ud_u]
    exact ih
theorem c_notes {K : Nat} (hK : K < 8) (h : icH) (m : Nat) (ab be : Int64) (ii : Nat → Int32) {A : Nat → Nat → Int32} (hA : A 1 139 = nI K) : icE 169 0 [.ref m, dum] [] (HM h m ab be ii A) = some (none, HM h m ab be ii (ud A 1 (nts (A 1) K))) := by
  rw [← l_notes hK (x := dum) rfl h m ab be ii hA]
  have b : 292 < 2 ^ 31 := by decide
  have e : ¬ nI K = nI 8 := by rw [nI_eq (by omega) (by decide)]; omega
  simp only [SA, rw_169, HM_o, HMr, ia_n (show 139 < 292 by decide) b, hA, if_neg e]
theorem c_notesF (h : icH) (m : Nat) (ab be : Int64) (ii : Nat → Int32) {A : Nat → Nat → Int32} (hA : A 1 139 = nI 8) : icE 169 0 [.ref m, dum] [] (HM h m ab be ii A) = some (none, HM h m ab be ii (ud A 1 (nts (upd (shf (A 1) 133) 139 (nI 7)) 7))) := by
  have b : 292 < 2 ^ 31 := by decide
  have e : shf (A 1) 0 = A 1 := by funext c; exact if_neg (by omega)
  have z := l_shift h m ab be ii A (A 1) hA 133 0 (by omega)
  rw [e, ud_id] at z
  rw [← z]
  simp only [SA, rw_169, HM_o, HMr, ia_n (show 139 < 292 by decide) b, hA, if_pos]
