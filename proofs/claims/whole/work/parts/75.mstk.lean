/-! ===== the reference: sticks ===== -/
-- cX9_gets: heads []
theorem fe_206 (pc : Nat) : fet 206 pc = look k_206 pc := rfl
theorem r_206_0 (L S : List Value) (h : icH) : icE 206 0 L S h = exe icE 206 (e_iload 1 1 L S h) := icE_eq (i := .iload_n 1) (len := 1) (x1 := 0) (x2 := 0) (x3 := 0) (x4 := 64) ((fe_206 0).trans rfl) L S h
theorem r_206_1 (L S : List Value) (h : icH) : icE 206 1 L S h = exe icE 206 (e_iload 2 2 L S h) := icE_eq (i := .iload_n 2) (len := 1) (x1 := 0) (x2 := 0) (x3 := 0) (x4 := 64) ((fe_206 1).trans rfl) L S h
theorem r_206_2 (L S : List Value) (h : icH) : icE 206 2 L S h = exe icE 206 (e_cmp .ne 9 5 L S h) := icE_eq (i := .if_icmp .ne 7) (len := 3) (x1 := 9) (x2 := 0) (x3 := 0) (x4 := 64) ((fe_206 2).trans rfl) L S h
theorem r_206_5 (L S : List Value) (h : icH) : icE 206 5 L S h = icE 206 6 L (.int (-1) :: S) h := icE_eq (i := .iconst (-1)) (len := 1) (x1 := 0) (x2 := 0) (x3 := 0) (x4 := 64) ((fe_206 5).trans rfl) L S h
theorem r_206_6 (L S : List Value) (h : icH) : icE 206 6 L S h = icE 206 15 L S h := icE_eq (i := .goto 9) (len := 3) (x1 := 15) (x2 := 0) (x3 := 0) (x4 := 64) ((fe_206 6).trans rfl) L S h
theorem r_206_9 (L S : List Value) (h : icH) : icE 206 9 L S h = exe icE 206 (e_aload 0 10 L S h) := icE_eq (i := .aload_n 0) (len := 1) (x1 := 0) (x2 := 0) (x3 := 0) (x4 := 64) ((fe_206 9).trans rfl) L S h
theorem r_206_10 (L S : List Value) (h : icH) : icE 206 10 L S h = exe icE 206 (e_getf 20 8 13 L S h) := icE_eq (i := .getfield 51) (len := 3) (x1 := 20) (x2 := 8) (x3 := 12) (x4 := 977) ((fe_206 10).trans rfl) L S h
theorem r_206_13 (L S : List Value) (h : icH) : icE 206 13 L S h = exe icE 206 (e_iload 2 14 L S h) := icE_eq (i := .iload_n 2) (len := 1) (x1 := 0) (x2 := 0) (x3 := 0) (x4 := 64) ((fe_206 13).trans rfl) L S h
theorem r_206_14 (L S : List Value) (h : icH) : icE 206 14 L S h = exe icE 206 (e_iald 15 L S h) := icE_eq (i := .iaload) (len := 1) (x1 := 0) (x2 := 0) (x3 := 0) (x4 := 64) ((fe_206 14).trans rfl) L S h
theorem r_206_15 (L S : List Value) (h : icH) : icE 206 15 L S h = exe icE 206 (e_iret 0 L S h) := icE_eq (i := .ireturn) (len := 1) (x1 := 0) (x2 := 0) (x3 := 0) (x4 := 64) ((fe_206 15).trans rfl) L S h
theorem rw_206 : (∀ (L S : List Value) (h : icH), icE 206 0 L S h = exe icE 206 (e_iload 1 1 L S h)) ∧ (∀ (L S : List Value) (h : icH), icE 206 1 L S h = exe icE 206 (e_iload 2 2 L S h)) ∧ (∀ (L S : List Value) (h : icH), icE 206 2 L S h = exe icE 206 (e_cmp .ne 9 5 L S h)) ∧ (∀ (L S : List Value) (h : icH), icE 206 5 L S h = icE 206 6 L (.int (-1) :: S) h) ∧ (∀ (L S : List Value) (h : icH), icE 206 6 L S h = icE 206 15 L S h) ∧ (∀ (L S : List Value) (h : icH), icE 206 9 L S h = exe icE 206 (e_aload 0 10 L S h)) ∧ (∀ (L S : List Value) (h : icH), icE 206 10 L S h = exe icE 206 (e_getf 20 8 13 L S h)) ∧ (∀ (L S : List Value) (h : icH), icE 206 13 L S h = exe icE 206 (e_iload 2 14 L S h)) ∧ (∀ (L S : List Value) (h : icH), icE 206 14 L S h = exe icE 206 (e_iald 15 L S h)) ∧ (∀ (L S : List Value) (h : icH), icE 206 15 L S h = exe icE 206 (e_iret 0 L S h)) := ⟨r_206_0, r_206_1, r_206_2, r_206_5, r_206_6, r_206_9, r_206_10, r_206_13, r_206_14, r_206_15⟩
-- cX9_rests: heads [33]
theorem fe_207 (pc : Nat) : fet 207 pc = look k_207 pc := rfl
theorem r_207_0 (L S : List Value) (h : icH) : icE 207 0 L S h = exe icE 207 (e_aload 0 1 L S h) := icE_eq (i := .aload_n 0) (len := 1) (x1 := 0) (x2 := 0) (x3 := 0) (x4 := 64) ((fe_207 0).trans rfl) L S h
theorem r_207_1 (L S : List Value) (h : icH) : icE 207 1 L S h = exe icE 207 (e_getf 0 8 4 L S h) := icE_eq (i := .getfield 7) (len := 3) (x1 := 0) (x2 := 8) (x3 := 12) (x4 := 957) ((fe_207 1).trans rfl) L S h
theorem r_207_4 (L S : List Value) (h : icH) : icE 207 4 L S h = icE 207 6 L (.int (nI 50) :: S) h := icE_eq (i := .bipush 50) (len := 2) (x1 := 0) (x2 := 0) (x3 := 0) (x4 := 64) ((fe_207 4).trans rfl) L S h
theorem r_207_6 (L S : List Value) (h : icH) : icE 207 6 L S h = exe icE 207 (e_iload 1 7 L S h) := icE_eq (i := .iload_n 1) (len := 1) (x1 := 0) (x2 := 0) (x3 := 0) (x4 := 64) ((fe_207 6).trans rfl) L S h
theorem r_207_7 (L S : List Value) (h : icH) : icE 207 7 L S h = exe icE 207 (e_bin (fun x y => x + y) 8 L S h) := icE_eq (i := .iadd) (len := 1) (x1 := 0) (x2 := 0) (x3 := 0) (x4 := 64) ((fe_207 7).trans rfl) L S h
theorem r_207_8 (L S : List Value) (h : icH) : icE 207 8 L S h = exe icE 207 (e_iald 9 L S h) := icE_eq (i := .iaload) (len := 1) (x1 := 0) (x2 := 0) (x3 := 0) (x4 := 64) ((fe_207 8).trans rfl) L S h
theorem r_207_9 (L S : List Value) (h : icH) : icE 207 9 L S h = exe icE 207 (e_if .ne 28 12 L S h) := icE_eq (i := .ifCond .ne 19) (len := 3) (x1 := 28) (x2 := 0) (x3 := 0) (x4 := 64) ((fe_207 9).trans rfl) L S h
theorem r_207_12 (L S : List Value) (h : icH) : icE 207 12 L S h = exe icE 207 (e_aload 0 13 L S h) := icE_eq (i := .aload_n 0) (len := 1) (x1 := 0) (x2 := 0) (x3 := 0) (x4 := 64) ((fe_207 12).trans rfl) L S h
theorem r_207_13 (L S : List Value) (h : icH) : icE 207 13 L S h = exe icE 207 (e_getf 0 8 16 L S h) := icE_eq (i := .getfield 7) (len := 3) (x1 := 0) (x2 := 8) (x3 := 12) (x4 := 957) ((fe_207 13).trans rfl) L S h
theorem r_207_16 (L S : List Value) (h : icH) : icE 207 16 L S h = icE 207 18 L (.int (nI 50) :: S) h := icE_eq (i := .bipush 50) (len := 2) (x1 := 0) (x2 := 0) (x3 := 0) (x4 := 64) ((fe_207 16).trans rfl) L S h
theorem r_207_18 (L S : List Value) (h : icH) : icE 207 18 L S h = exe icE 207 (e_iload 2 19 L S h) := icE_eq (i := .iload_n 2) (len := 1) (x1 := 0) (x2 := 0) (x3 := 0) (x4 := 64) ((fe_207 18).trans rfl) L S h
theorem r_207_19 (L S : List Value) (h : icH) : icE 207 19 L S h = exe icE 207 (e_bin (fun x y => x + y) 20 L S h) := icE_eq (i := .iadd) (len := 1) (x1 := 0) (x2 := 0) (x3 := 0) (x4 := 64) ((fe_207 19).trans rfl) L S h
theorem r_207_20 (L S : List Value) (h : icH) : icE 207 20 L S h = exe icE 207 (e_iald 21 L S h) := icE_eq (i := .iaload) (len := 1) (x1 := 0) (x2 := 0) (x3 := 0) (x4 := 64) ((fe_207 20).trans rfl) L S h
theorem r_207_21 (L S : List Value) (h : icH) : icE 207 21 L S h = exe icE 207 (e_if .ne 28 24 L S h) := icE_eq (i := .ifCond .ne 7) (len := 3) (x1 := 28) (x2 := 0) (x3 := 0) (x4 := 64) ((fe_207 21).trans rfl) L S h
theorem r_207_24 (L S : List Value) (h : icH) : icE 207 24 L S h = icE 207 25 L (.int (nI 1) :: S) h := icE_eq (i := .iconst 1) (len := 1) (x1 := 0) (x2 := 0) (x3 := 0) (x4 := 64) ((fe_207 24).trans rfl) L S h
theorem r_207_25 (L S : List Value) (h : icH) : icE 207 25 L S h = icE 207 29 L S h := icE_eq (i := .goto 4) (len := 3) (x1 := 29) (x2 := 0) (x3 := 0) (x4 := 64) ((fe_207 25).trans rfl) L S h
theorem r_207_28 (L S : List Value) (h : icH) : icE 207 28 L S h = icE 207 29 L (.int (nI 0) :: S) h := icE_eq (i := .iconst 0) (len := 1) (x1 := 0) (x2 := 0) (x3 := 0) (x4 := 64) ((fe_207 28).trans rfl) L S h
theorem r_207_29 (L S : List Value) (h : icH) : icE 207 29 L S h = exe icE 207 (e_istore 3 30 L S h) := icE_eq (i := .istore_n 3) (len := 1) (x1 := 0) (x2 := 0) (x3 := 0) (x4 := 64) ((fe_207 29).trans rfl) L S h
theorem r_207_30 (L S : List Value) (h : icH) : icE 207 30 L S h = icE 207 31 L (.int (nI 0) :: S) h := icE_eq (i := .iconst 0) (len := 1) (x1 := 0) (x2 := 0) (x3 := 0) (x4 := 64) ((fe_207 30).trans rfl) L S h
theorem r_207_31 (L S : List Value) (h : icH) : icE 207 31 L S h = exe icE 207 (e_istore 4 33 L S h) := icE_eq (i := .istore 4) (len := 2) (x1 := 0) (x2 := 0) (x3 := 0) (x4 := 64) ((fe_207 31).trans rfl) L S h
theorem rh_207_33 (L S : List Value) (h : icH) : icE 207 33 L S h = exe icE 207 (e_iload 4 35 L S h) := icE_eq (i := .iload 4) (len := 2) (x1 := 0) (x2 := 0) (x3 := 0) (x4 := 64) ((fe_207 33).trans rfl) L S h
theorem r_207_35 (L S : List Value) (h : icH) : icE 207 35 L S h = exe icE 207 (e_aload 0 36 L S h) := icE_eq (i := .aload_n 0) (len := 1) (x1 := 0) (x2 := 0) (x3 := 0) (x4 := 64) ((fe_207 35).trans rfl) L S h
theorem r_207_36 (L S : List Value) (h : icH) : icE 207 36 L S h = exe icE 207 (e_getf 0 8 39 L S h) := icE_eq (i := .getfield 7) (len := 3) (x1 := 0) (x2 := 8) (x3 := 12) (x4 := 957) ((fe_207 36).trans rfl) L S h
theorem r_207_39 (L S : List Value) (h : icH) : icE 207 39 L S h = icE 207 41 L (.int (nI 10) :: S) h := icE_eq (i := .bipush 10) (len := 2) (x1 := 0) (x2 := 0) (x3 := 0) (x4 := 64) ((fe_207 39).trans rfl) L S h
theorem r_207_41 (L S : List Value) (h : icH) : icE 207 41 L S h = exe icE 207 (e_iald 42 L S h) := icE_eq (i := .iaload) (len := 1) (x1 := 0) (x2 := 0) (x3 := 0) (x4 := 64) ((fe_207 41).trans rfl) L S h
theorem r_207_42 (L S : List Value) (h : icH) : icE 207 42 L S h = exe icE 207 (e_cmp .ge 106 45 L S h) := icE_eq (i := .if_icmp .ge 64) (len := 3) (x1 := 106) (x2 := 0) (x3 := 0) (x4 := 64) ((fe_207 42).trans rfl) L S h
theorem r_207_45 (L S : List Value) (h : icH) : icE 207 45 L S h = exe icE 207 (e_iload 3 46 L S h) := icE_eq (i := .iload_n 3) (len := 1) (x1 := 0) (x2 := 0) (x3 := 0) (x4 := 64) ((fe_207 45).trans rfl) L S h
theorem r_207_46 (L S : List Value) (h : icH) : icE 207 46 L S h = exe icE 207 (e_if .eq 98 49 L S h) := icE_eq (i := .ifCond .eq 52) (len := 3) (x1 := 98) (x2 := 0) (x3 := 0) (x4 := 64) ((fe_207 46).trans rfl) L S h
theorem r_207_49 (L S : List Value) (h : icH) : icE 207 49 L S h = exe icE 207 (e_aload 0 50 L S h) := icE_eq (i := .aload_n 0) (len := 1) (x1 := 0) (x2 := 0) (x3 := 0) (x4 := 64) ((fe_207 49).trans rfl) L S h
theorem r_207_50 (L S : List Value) (h : icH) : icE 207 50 L S h = exe icE 207 (e_getf 0 8 53 L S h) := icE_eq (i := .getfield 7) (len := 3) (x1 := 0) (x2 := 8) (x3 := 12) (x4 := 957) ((fe_207 50).trans rfl) L S h
theorem r_207_53 (L S : List Value) (h : icH) : icE 207 53 L S h = icE 207 55 L (.int (nI 50) :: S) h := icE_eq (i := .bipush 50) (len := 2) (x1 := 0) (x2 := 0) (x3 := 0) (x4 := 64) ((fe_207 53).trans rfl) L S h
theorem r_207_55 (L S : List Value) (h : icH) : icE 207 55 L S h = exe icE 207 (e_iload 4 57 L S h) := icE_eq (i := .iload 4) (len := 2) (x1 := 0) (x2 := 0) (x3 := 0) (x4 := 64) ((fe_207 55).trans rfl) L S h
theorem r_207_57 (L S : List Value) (h : icH) : icE 207 57 L S h = exe icE 207 (e_bin (fun x y => x + y) 58 L S h) := icE_eq (i := .iadd) (len := 1) (x1 := 0) (x2 := 0) (x3 := 0) (x4 := 64) ((fe_207 57).trans rfl) L S h
theorem r_207_58 (L S : List Value) (h : icH) : icE 207 58 L S h = exe icE 207 (e_iald 59 L S h) := icE_eq (i := .iaload) (len := 1) (x1 := 0) (x2 := 0) (x3 := 0) (x4 := 64) ((fe_207 58).trans rfl) L S h
theorem r_207_59 (L S : List Value) (h : icH) : icE 207 59 L S h = exe icE 207 (e_if .ne 94 62 L S h) := icE_eq (i := .ifCond .ne 35) (len := 3) (x1 := 94) (x2 := 0) (x3 := 0) (x4 := 64) ((fe_207 59).trans rfl) L S h
theorem r_207_62 (L S : List Value) (h : icH) : icE 207 62 L S h = exe icE 207 (e_aload 0 63 L S h) := icE_eq (i := .aload_n 0) (len := 1) (x1 := 0) (x2 := 0) (x3 := 0) (x4 := 64) ((fe_207 62).trans rfl) L S h
theorem r_207_63 (L S : List Value) (h : icH) : icE 207 63 L S h = exe icE 207 (e_getf 19 8 66 L S h) := icE_eq (i := .getfield 48) (len := 3) (x1 := 19) (x2 := 8) (x3 := 12) (x4 := 976) ((fe_207 63).trans rfl) L S h
theorem r_207_66 (L S : List Value) (h : icH) : icE 207 66 L S h = exe icE 207 (e_iload 4 68 L S h) := icE_eq (i := .iload 4) (len := 2) (x1 := 0) (x2 := 0) (x3 := 0) (x4 := 64) ((fe_207 66).trans rfl) L S h
theorem r_207_68 (L S : List Value) (h : icH) : icE 207 68 L S h = exe icE 207 (e_iald 69 L S h) := icE_eq (i := .iaload) (len := 1) (x1 := 0) (x2 := 0) (x3 := 0) (x4 := 64) ((fe_207 68).trans rfl) L S h
theorem r_207_69 (L S : List Value) (h : icH) : icE 207 69 L S h = exe icE 207 (e_aload 0 70 L S h) := icE_eq (i := .aload_n 0) (len := 1) (x1 := 0) (x2 := 0) (x3 := 0) (x4 := 64) ((fe_207 69).trans rfl) L S h
theorem r_207_70 (L S : List Value) (h : icH) : icE 207 70 L S h = exe icE 207 (e_getf 19 8 73 L S h) := icE_eq (i := .getfield 48) (len := 3) (x1 := 19) (x2 := 8) (x3 := 12) (x4 := 976) ((fe_207 70).trans rfl) L S h
theorem r_207_73 (L S : List Value) (h : icH) : icE 207 73 L S h = exe icE 207 (e_iload 1 74 L S h) := icE_eq (i := .iload_n 1) (len := 1) (x1 := 0) (x2 := 0) (x3 := 0) (x4 := 64) ((fe_207 73).trans rfl) L S h
theorem r_207_74 (L S : List Value) (h : icH) : icE 207 74 L S h = exe icE 207 (e_iald 75 L S h) := icE_eq (i := .iaload) (len := 1) (x1 := 0) (x2 := 0) (x3 := 0) (x4 := 64) ((fe_207 74).trans rfl) L S h
theorem r_207_75 (L S : List Value) (h : icH) : icE 207 75 L S h = exe icE 207 (e_cmp .gt 98 78 L S h) := icE_eq (i := .if_icmp .gt 23) (len := 3) (x1 := 98) (x2 := 0) (x3 := 0) (x4 := 64) ((fe_207 75).trans rfl) L S h
theorem r_207_78 (L S : List Value) (h : icH) : icE 207 78 L S h = exe icE 207 (e_aload 0 79 L S h) := icE_eq (i := .aload_n 0) (len := 1) (x1 := 0) (x2 := 0) (x3 := 0) (x4 := 64) ((fe_207 78).trans rfl) L S h
theorem r_207_79 (L S : List Value) (h : icH) : icE 207 79 L S h = exe icE 207 (e_iload 1 80 L S h) := icE_eq (i := .iload_n 1) (len := 1) (x1 := 0) (x2 := 0) (x3 := 0) (x4 := 64) ((fe_207 79).trans rfl) L S h
theorem r_207_80 (L S : List Value) (h : icH) : icE 207 80 L S h = exe icE 207 (e_iload 4 82 L S h) := icE_eq (i := .iload 4) (len := 2) (x1 := 0) (x2 := 0) (x3 := 0) (x4 := 64) ((fe_207 80).trans rfl) L S h
theorem r_207_82 (L S : List Value) (h : icH) : icE 207 82 L S h = exe icE 207 (e_vcal 8 206 3 2 85 L S h) := icE_eq (i := .invokevirtual 235) (len := 3) (x1 := 206) (x2 := 3) (x3 := 8) (x4 := 1319) ((fe_207 82).trans rfl) L S h
theorem r_207_85 (L S : List Value) (h : icH) : icE 207 85 L S h = exe icE 207 (e_aload 0 86 L S h) := icE_eq (i := .aload_n 0) (len := 1) (x1 := 0) (x2 := 0) (x3 := 0) (x4 := 64) ((fe_207 85).trans rfl) L S h
theorem r_207_86 (L S : List Value) (h : icH) : icE 207 86 L S h = exe icE 207 (e_iload 1 87 L S h) := icE_eq (i := .iload_n 1) (len := 1) (x1 := 0) (x2 := 0) (x3 := 0) (x4 := 64) ((fe_207 86).trans rfl) L S h
theorem r_207_87 (L S : List Value) (h : icH) : icE 207 87 L S h = exe icE 207 (e_iload 2 88 L S h) := icE_eq (i := .iload_n 2) (len := 1) (x1 := 0) (x2 := 0) (x3 := 0) (x4 := 64) ((fe_207 87).trans rfl) L S h
theorem r_207_88 (L S : List Value) (h : icH) : icE 207 88 L S h = exe icE 207 (e_vcal 8 206 3 2 91 L S h) := icE_eq (i := .invokevirtual 235) (len := 3) (x1 := 206) (x2 := 3) (x3 := 8) (x4 := 1319) ((fe_207 88).trans rfl) L S h
theorem r_207_91 (L S : List Value) (h : icH) : icE 207 91 L S h = exe icE 207 (e_cmp .gt 98 94 L S h) := icE_eq (i := .if_icmp .gt 7) (len := 3) (x1 := 98) (x2 := 0) (x3 := 0) (x4 := 64) ((fe_207 91).trans rfl) L S h
theorem r_207_94 (L S : List Value) (h : icH) : icE 207 94 L S h = icE 207 95 L (.int (nI 1) :: S) h := icE_eq (i := .iconst 1) (len := 1) (x1 := 0) (x2 := 0) (x3 := 0) (x4 := 64) ((fe_207 94).trans rfl) L S h
theorem r_207_95 (L S : List Value) (h : icH) : icE 207 95 L S h = icE 207 99 L S h := icE_eq (i := .goto 4) (len := 3) (x1 := 99) (x2 := 0) (x3 := 0) (x4 := 64) ((fe_207 95).trans rfl) L S h
theorem r_207_98 (L S : List Value) (h : icH) : icE 207 98 L S h = icE 207 99 L (.int (nI 0) :: S) h := icE_eq (i := .iconst 0) (len := 1) (x1 := 0) (x2 := 0) (x3 := 0) (x4 := 64) ((fe_207 98).trans rfl) L S h
theorem r_207_99 (L S : List Value) (h : icH) : icE 207 99 L S h = exe icE 207 (e_istore 3 100 L S h) := icE_eq (i := .istore_n 3) (len := 1) (x1 := 0) (x2 := 0) (x3 := 0) (x4 := 64) ((fe_207 99).trans rfl) L S h
theorem r_207_100 (L S : List Value) (h : icH) : icE 207 100 L S h = exe icE 207 (e_iinc 4 (nI 1) 103 L S h) := icE_eq (i := .iinc 4 1) (len := 3) (x1 := 0) (x2 := 0) (x3 := 0) (x4 := 64) ((fe_207 100).trans rfl) L S h
theorem r_207_103 (L S : List Value) (h : icH) : icE 207 103 L S h = icE 207 33 L S h := icE_eq (i := .goto (-70)) (len := 3) (x1 := 33) (x2 := 0) (x3 := 0) (x4 := 64) ((fe_207 103).trans rfl) L S h
theorem r_207_106 (L S : List Value) (h : icH) : icE 207 106 L S h = exe icE 207 (e_iload 3 107 L S h) := icE_eq (i := .iload_n 3) (len := 1) (x1 := 0) (x2 := 0) (x3 := 0) (x4 := 64) ((fe_207 106).trans rfl) L S h
theorem r_207_107 (L S : List Value) (h : icH) : icE 207 107 L S h = exe icE 207 (e_iret 1 L S h) := icE_eq (i := .ireturn) (len := 1) (x1 := 1) (x2 := 0) (x3 := 0) (x4 := 64) ((fe_207 107).trans rfl) L S h
theorem rw_207 : (∀ (L S : List Value) (h : icH), icE 207 0 L S h = exe icE 207 (e_aload 0 1 L S h)) ∧ (∀ (L S : List Value) (h : icH), icE 207 1 L S h = exe icE 207 (e_getf 0 8 4 L S h)) ∧ (∀ (L S : List Value) (h : icH), icE 207 4 L S h = icE 207 6 L (.int (nI 50) :: S) h) ∧ (∀ (L S : List Value) (h : icH), icE 207 6 L S h = exe icE 207 (e_iload 1 7 L S h)) ∧ (∀ (L S : List Value) (h : icH), icE 207 7 L S h = exe icE 207 (e_bin (fun x y => x + y) 8 L S h)) ∧ (∀ (L S : List Value) (h : icH), icE 207 8 L S h = exe icE 207 (e_iald 9 L S h)) ∧ (∀ (L S : List Value) (h : icH), icE 207 9 L S h = exe icE 207 (e_if .ne 28 12 L S h)) ∧ (∀ (L S : List Value) (h : icH), icE 207 12 L S h = exe icE 207 (e_aload 0 13 L S h)) ∧ (∀ (L S : List Value) (h : icH), icE 207 13 L S h = exe icE 207 (e_getf 0 8 16 L S h)) ∧ (∀ (L S : List Value) (h : icH), icE 207 16 L S h = icE 207 18 L (.int (nI 50) :: S) h) ∧ (∀ (L S : List Value) (h : icH), icE 207 18 L S h = exe icE 207 (e_iload 2 19 L S h)) ∧ (∀ (L S : List Value) (h : icH), icE 207 19 L S h = exe icE 207 (e_bin (fun x y => x + y) 20 L S h)) ∧ (∀ (L S : List Value) (h : icH), icE 207 20 L S h = exe icE 207 (e_iald 21 L S h)) ∧ (∀ (L S : List Value) (h : icH), icE 207 21 L S h = exe icE 207 (e_if .ne 28 24 L S h)) ∧ (∀ (L S : List Value) (h : icH), icE 207 24 L S h = icE 207 25 L (.int (nI 1) :: S) h) ∧ (∀ (L S : List Value) (h : icH), icE 207 25 L S h = icE 207 29 L S h) ∧ (∀ (L S : List Value) (h : icH), icE 207 28 L S h = icE 207 29 L (.int (nI 0) :: S) h) ∧ (∀ (L S : List Value) (h : icH), icE 207 29 L S h = exe icE 207 (e_istore 3 30 L S h)) ∧ (∀ (L S : List Value) (h : icH), icE 207 30 L S h = icE 207 31 L (.int (nI 0) :: S) h) ∧ (∀ (L S : List Value) (h : icH), icE 207 31 L S h = exe icE 207 (e_istore 4 33 L S h)) ∧ (∀ (L S : List Value) (h : icH), icE 207 35 L S h = exe icE 207 (e_aload 0 36 L S h)) ∧ (∀ (L S : List Value) (h : icH), icE 207 36 L S h = exe icE 207 (e_getf 0 8 39 L S h)) ∧ (∀ (L S : List Value) (h : icH), icE 207 39 L S h = icE 207 41 L (.int (nI 10) :: S) h) ∧ (∀ (L S : List Value) (h : icH), icE 207 41 L S h = exe icE 207 (e_iald 42 L S h)) ∧ (∀ (L S : List Value) (h : icH), icE 207 42 L S h = exe icE 207 (e_cmp .ge 106 45 L S h)) ∧ (∀ (L S : List Value) (h : icH), icE 207 45 L S h = exe icE 207 (e_iload 3 46 L S h)) ∧ (∀ (L S : List Value) (h : icH), icE 207 46 L S h = exe icE 207 (e_if .eq 98 49 L S h)) ∧ (∀ (L S : List Value) (h : icH), icE 207 49 L S h = exe icE 207 (e_aload 0 50 L S h)) ∧ (∀ (L S : List Value) (h : icH), icE 207 50 L S h = exe icE 207 (e_getf 0 8 53 L S h)) ∧ (∀ (L S : List Value) (h : icH), icE 207 53 L S h = icE 207 55 L (.int (nI 50) :: S) h) ∧ (∀ (L S : List Value) (h : icH), icE 207 55 L S h = exe icE 207 (e_iload 4 57 L S h)) ∧ (∀ (L S : List Value) (h : icH), icE 207 57 L S h = exe icE 207 (e_bin (fun x y => x + y) 58 L S h)) ∧ (∀ (L S : List Value) (h : icH), icE 207 58 L S h = exe icE 207 (e_iald 59 L S h)) ∧ (∀ (L S : List Value) (h : icH), icE 207 59 L S h = exe icE 207 (e_if .ne 94 62 L S h)) ∧ (∀ (L S : List Value) (h : icH), icE 207 62 L S h = exe icE 207 (e_aload 0 63 L S h)) ∧ (∀ (L S : List Value) (h : icH), icE 207 63 L S h = exe icE 207 (e_getf 19 8 66 L S h)) ∧ (∀ (L S : List Value) (h : icH), icE 207 66 L S h = exe icE 207 (e_iload 4 68 L S h)) ∧ (∀ (L S : List Value) (h : icH), icE 207 68 L S h = exe icE 207 (e_iald 69 L S h)) ∧ (∀ (L S : List Value) (h : icH), icE 207 69 L S h = exe icE 207 (e_aload 0 70 L S h)) ∧ (∀ (L S : List Value) (h : icH), icE 207 70 L S h = exe icE 207 (e_getf 19 8 73 L S h)) ∧ (∀ (L S : List Value) (h : icH), icE 207 73 L S h = exe icE 207 (e_iload 1 74 L S h)) ∧ (∀ (L S : List Value) (h : icH), icE 207 74 L S h = exe icE 207 (e_iald 75 L S h)) ∧ (∀ (L S : List Value) (h : icH), icE 207 75 L S h = exe icE 207 (e_cmp .gt 98 78 L S h)) ∧ (∀ (L S : List Value) (h : icH), icE 207 78 L S h = exe icE 207 (e_aload 0 79 L S h)) ∧ (∀ (L S : List Value) (h : icH), icE 207 79 L S h = exe icE 207 (e_iload 1 80 L S h)) ∧ (∀ (L S : List Value) (h : icH), icE 207 80 L S h = exe icE 207 (e_iload 4 82 L S h)) ∧ (∀ (L S : List Value) (h : icH), icE 207 82 L S h = exe icE 207 (e_vcal 8 206 3 2 85 L S h)) ∧ (∀ (L S : List Value) (h : icH), icE 207 85 L S h = exe icE 207 (e_aload 0 86 L S h)) ∧ (∀ (L S : List Value) (h : icH), icE 207 86 L S h = exe icE 207 (e_iload 1 87 L S h)) ∧ (∀ (L S : List Value) (h : icH), icE 207 87 L S h = exe icE 207 (e_iload 2 88 L S h)) ∧ (∀ (L S : List Value) (h : icH), icE 207 88 L S h = exe icE 207 (e_vcal 8 206 3 2 91 L S h)) ∧ (∀ (L S : List Value) (h : icH), icE 207 91 L S h = exe icE 207 (e_cmp .gt 98 94 L S h)) ∧ (∀ (L S : List Value) (h : icH), icE 207 94 L S h = icE 207 95 L (.int (nI 1) :: S) h) ∧ (∀ (L S : List Value) (h : icH), icE 207 95 L S h = icE 207 99 L S h) ∧ (∀ (L S : List Value) (h : icH), icE 207 98 L S h = icE 207 99 L (.int (nI 0) :: S) h) ∧ (∀ (L S : List Value) (h : icH), icE 207 99 L S h = exe icE 207 (e_istore 3 100 L S h)) ∧ (∀ (L S : List Value) (h : icH), icE 207 100 L S h = exe icE 207 (e_iinc 4 (nI 1) 103 L S h)) ∧ (∀ (L S : List Value) (h : icH), icE 207 103 L S h = icE 207 33 L S h) ∧ (∀ (L S : List Value) (h : icH), icE 207 106 L S h = exe icE 207 (e_iload 3 107 L S h)) ∧ (∀ (L S : List Value) (h : icH), icE 207 107 L S h = exe icE 207 (e_iret 1 L S h)) := ⟨r_207_0, r_207_1, r_207_4, r_207_6, r_207_7, r_207_8, r_207_9, r_207_12, r_207_13, r_207_16, r_207_18, r_207_19, r_207_20, r_207_21, r_207_24, r_207_25, r_207_28, r_207_29, r_207_30, r_207_31, r_207_35, r_207_36, r_207_39, r_207_41, r_207_42, r_207_45, r_207_46, r_207_49, r_207_50, r_207_53, r_207_55, r_207_57, r_207_58, r_207_59, r_207_62, r_207_63, r_207_66, r_207_68, r_207_69, r_207_70, r_207_73, r_207_74, r_207_75, r_207_78, r_207_79, r_207_80, r_207_82, r_207_85, r_207_86, r_207_87, r_207_88, r_207_91, r_207_94, r_207_95, r_207_98, r_207_99, r_207_100, r_207_103, r_207_106, r_207_107⟩
-- cX9_sticks: heads [18, 34, 118, 132]
theorem fe_208 (pc : Nat) : fet 208 pc = look k_208 pc := rfl
theorem r_208_0 (L S : List Value) (h : icH) : icE 208 0 L S h = exe icE 208 (e_iload 1 1 L S h) := icE_eq (i := .iload_n 1) (len := 1) (x1 := 0) (x2 := 0) (x3 := 0) (x4 := 64) ((fe_208 0).trans rfl) L S h
theorem r_208_1 (L S : List Value) (h : icH) : icE 208 1 L S h = icE 208 2 L (.int (-1) :: S) h := icE_eq (i := .iconst (-1)) (len := 1) (x1 := 0) (x2 := 0) (x3 := 0) (x4 := 64) ((fe_208 1).trans rfl) L S h
theorem r_208_2 (L S : List Value) (h : icH) : icE 208 2 L S h = exe icE 208 (e_cmp .ge 12 5 L S h) := icE_eq (i := .if_icmp .ge 10) (len := 3) (x1 := 12) (x2 := 0) (x3 := 0) (x4 := 64) ((fe_208 2).trans rfl) L S h
theorem r_208_5 (L S : List Value) (h : icH) : icE 208 5 L S h = exe icE 208 (e_aload 0 6 L S h) := icE_eq (i := .aload_n 0) (len := 1) (x1 := 0) (x2 := 0) (x3 := 0) (x4 := 64) ((fe_208 5).trans rfl) L S h
theorem r_208_6 (L S : List Value) (h : icH) : icE 208 6 L S h = icE 208 8 L (.int (-10) :: S) h := icE_eq (i := .bipush (-10)) (len := 2) (x1 := 0) (x2 := 0) (x3 := 0) (x4 := 64) ((fe_208 6).trans rfl) L S h
theorem r_208_8 (L S : List Value) (h : icH) : icE 208 8 L S h = exe icE 208 (e_vcal 8 139 2 1 11 L S h) := icE_eq (i := .invokevirtual 88) (len := 3) (x1 := 139) (x2 := 3) (x3 := 8) (x4 := 1033) ((fe_208 8).trans rfl) L S h
theorem r_208_11 (L S : List Value) (h : icH) : icE 208 11 L S h = exe icE 208 (e_iret 0 L S h) := icE_eq (i := .ireturn) (len := 1) (x1 := 0) (x2 := 0) (x3 := 0) (x4 := 64) ((fe_208 11).trans rfl) L S h
theorem r_208_12 (L S : List Value) (h : icH) : icE 208 12 L S h = exe icE 208 (e_aload 0 13 L S h) := icE_eq (i := .aload_n 0) (len := 1) (x1 := 0) (x2 := 0) (x3 := 0) (x4 := 64) ((fe_208 12).trans rfl) L S h
theorem r_208_13 (L S : List Value) (h : icH) : icE 208 13 L S h = exe icE 208 (e_vcal 8 180 1 0 16 L S h) := icE_eq (i := .invokevirtual 201) (len := 3) (x1 := 180) (x2 := 3) (x3 := 8) (x4 := 1207) ((fe_208 13).trans rfl) L S h
theorem r_208_16 (L S : List Value) (h : icH) : icE 208 16 L S h = icE 208 17 L (.int (nI 1) :: S) h := icE_eq (i := .iconst 1) (len := 1) (x1 := 0) (x2 := 0) (x3 := 0) (x4 := 64) ((fe_208 16).trans rfl) L S h
theorem r_208_17 (L S : List Value) (h : icH) : icE 208 17 L S h = exe icE 208 (e_istore 2 18 L S h) := icE_eq (i := .istore_n 2) (len := 1) (x1 := 0) (x2 := 0) (x3 := 0) (x4 := 64) ((fe_208 17).trans rfl) L S h
theorem rh_208_18 (L S : List Value) (h : icH) : icE 208 18 L S h = exe icE 208 (e_iload 2 19 L S h) := icE_eq (i := .iload_n 2) (len := 1) (x1 := 0) (x2 := 0) (x3 := 0) (x4 := 64) ((fe_208 18).trans rfl) L S h
theorem r_208_19 (L S : List Value) (h : icH) : icE 208 19 L S h = icE 208 20 L (.int (nI 4) :: S) h := icE_eq (i := .iconst 4) (len := 1) (x1 := 0) (x2 := 0) (x3 := 0) (x4 := 64) ((fe_208 19).trans rfl) L S h
theorem r_208_20 (L S : List Value) (h : icH) : icE 208 20 L S h = exe icE 208 (e_cmp .ge 114 23 L S h) := icE_eq (i := .if_icmp .ge 94) (len := 3) (x1 := 114) (x2 := 0) (x3 := 0) (x4 := 64) ((fe_208 20).trans rfl) L S h
theorem r_208_23 (L S : List Value) (h : icH) : icE 208 23 L S h = exe icE 208 (e_aload 0 24 L S h) := icE_eq (i := .aload_n 0) (len := 1) (x1 := 0) (x2 := 0) (x3 := 0) (x4 := 64) ((fe_208 23).trans rfl) L S h
theorem r_208_24 (L S : List Value) (h : icH) : icE 208 24 L S h = exe icE 208 (e_aload 0 25 L S h) := icE_eq (i := .aload_n 0) (len := 1) (x1 := 0) (x2 := 0) (x3 := 0) (x4 := 64) ((fe_208 24).trans rfl) L S h
theorem r_208_25 (L S : List Value) (h : icH) : icE 208 25 L S h = exe icE 208 (e_getf 1 8 28 L S h) := icE_eq (i := .getfield 13) (len := 3) (x1 := 1) (x2 := 8) (x3 := 12) (x4 := 958) ((fe_208 25).trans rfl) L S h
theorem r_208_28 (L S : List Value) (h : icH) : icE 208 28 L S h = exe icE 208 (e_vcal 8 150 2 1 31 L S h) := icE_eq (i := .invokevirtual 168) (len := 3) (x1 := 150) (x2 := 3) (x3 := 8) (x4 := 1126) ((fe_208 28).trans rfl) L S h
theorem r_208_31 (L S : List Value) (h : icH) : icE 208 31 L S h = exe icE 208 (e_pop 32 L S h) := icE_eq (i := .pop) (len := 1) (x1 := 0) (x2 := 0) (x3 := 0) (x4 := 64) ((fe_208 31).trans rfl) L S h
theorem r_208_32 (L S : List Value) (h : icH) : icE 208 32 L S h = icE 208 33 L (.int (nI 0) :: S) h := icE_eq (i := .iconst 0) (len := 1) (x1 := 0) (x2 := 0) (x3 := 0) (x4 := 64) ((fe_208 32).trans rfl) L S h
theorem r_208_33 (L S : List Value) (h : icH) : icE 208 33 L S h = exe icE 208 (e_istore 3 34 L S h) := icE_eq (i := .istore_n 3) (len := 1) (x1 := 0) (x2 := 0) (x3 := 0) (x4 := 64) ((fe_208 33).trans rfl) L S h
theorem rh_208_34 (L S : List Value) (h : icH) : icE 208 34 L S h = exe icE 208 (e_iload 3 35 L S h) := icE_eq (i := .iload_n 3) (len := 1) (x1 := 0) (x2 := 0) (x3 := 0) (x4 := 64) ((fe_208 34).trans rfl) L S h
theorem r_208_35 (L S : List Value) (h : icH) : icE 208 35 L S h = exe icE 208 (e_aload 0 36 L S h) := icE_eq (i := .aload_n 0) (len := 1) (x1 := 0) (x2 := 0) (x3 := 0) (x4 := 64) ((fe_208 35).trans rfl) L S h
theorem r_208_36 (L S : List Value) (h : icH) : icE 208 36 L S h = exe icE 208 (e_getf 0 8 39 L S h) := icE_eq (i := .getfield 7) (len := 3) (x1 := 0) (x2 := 8) (x3 := 12) (x4 := 957) ((fe_208 36).trans rfl) L S h
theorem r_208_39 (L S : List Value) (h : icH) : icE 208 39 L S h = icE 208 41 L (.int (nI 10) :: S) h := icE_eq (i := .bipush 10) (len := 2) (x1 := 0) (x2 := 0) (x3 := 0) (x4 := 64) ((fe_208 39).trans rfl) L S h
theorem r_208_41 (L S : List Value) (h : icH) : icE 208 41 L S h = exe icE 208 (e_iald 42 L S h) := icE_eq (i := .iaload) (len := 1) (x1 := 0) (x2 := 0) (x3 := 0) (x4 := 64) ((fe_208 41).trans rfl) L S h
theorem r_208_42 (L S : List Value) (h : icH) : icE 208 42 L S h = exe icE 208 (e_cmp .ge 108 45 L S h) := icE_eq (i := .if_icmp .ge 66) (len := 3) (x1 := 108) (x2 := 0) (x3 := 0) (x4 := 64) ((fe_208 42).trans rfl) L S h
theorem r_208_45 (L S : List Value) (h : icH) : icE 208 45 L S h = exe icE 208 (e_aload 0 46 L S h) := icE_eq (i := .aload_n 0) (len := 1) (x1 := 0) (x2 := 0) (x3 := 0) (x4 := 64) ((fe_208 45).trans rfl) L S h
theorem r_208_46 (L S : List Value) (h : icH) : icE 208 46 L S h = exe icE 208 (e_getf 1 8 49 L S h) := icE_eq (i := .getfield 13) (len := 3) (x1 := 1) (x2 := 8) (x3 := 12) (x4 := 958) ((fe_208 46).trans rfl) L S h
theorem r_208_49 (L S : List Value) (h : icH) : icE 208 49 L S h = icE 208 51 L (.int (nI 50) :: S) h := icE_eq (i := .bipush 50) (len := 2) (x1 := 0) (x2 := 0) (x3 := 0) (x4 := 64) ((fe_208 49).trans rfl) L S h
theorem r_208_51 (L S : List Value) (h : icH) : icE 208 51 L S h = exe icE 208 (e_iload 3 52 L S h) := icE_eq (i := .iload_n 3) (len := 1) (x1 := 0) (x2 := 0) (x3 := 0) (x4 := 64) ((fe_208 51).trans rfl) L S h
theorem r_208_52 (L S : List Value) (h : icH) : icE 208 52 L S h = exe icE 208 (e_bin (fun x y => x + y) 53 L S h) := icE_eq (i := .iadd) (len := 1) (x1 := 0) (x2 := 0) (x3 := 0) (x4 := 64) ((fe_208 52).trans rfl) L S h
theorem r_208_53 (L S : List Value) (h : icH) : icE 208 53 L S h = exe icE 208 (e_iald 54 L S h) := icE_eq (i := .iaload) (len := 1) (x1 := 0) (x2 := 0) (x3 := 0) (x4 := 64) ((fe_208 53).trans rfl) L S h
theorem r_208_54 (L S : List Value) (h : icH) : icE 208 54 L S h = exe icE 208 (e_if .ne 69 57 L S h) := icE_eq (i := .ifCond .ne 15) (len := 3) (x1 := 69) (x2 := 0) (x3 := 0) (x4 := 64) ((fe_208 54).trans rfl) L S h
theorem r_208_57 (L S : List Value) (h : icH) : icE 208 57 L S h = exe icE 208 (e_aload 0 58 L S h) := icE_eq (i := .aload_n 0) (len := 1) (x1 := 0) (x2 := 0) (x3 := 0) (x4 := 64) ((fe_208 57).trans rfl) L S h
theorem r_208_58 (L S : List Value) (h : icH) : icE 208 58 L S h = exe icE 208 (e_getf 1 8 61 L S h) := icE_eq (i := .getfield 13) (len := 3) (x1 := 1) (x2 := 8) (x3 := 12) (x4 := 958) ((fe_208 58).trans rfl) L S h
theorem r_208_61 (L S : List Value) (h : icH) : icE 208 61 L S h = icE 208 63 L (.int (nI 38) :: S) h := icE_eq (i := .bipush 38) (len := 2) (x1 := 0) (x2 := 0) (x3 := 0) (x4 := 64) ((fe_208 61).trans rfl) L S h
theorem r_208_63 (L S : List Value) (h : icH) : icE 208 63 L S h = exe icE 208 (e_iload 3 64 L S h) := icE_eq (i := .iload_n 3) (len := 1) (x1 := 0) (x2 := 0) (x3 := 0) (x4 := 64) ((fe_208 63).trans rfl) L S h
theorem r_208_64 (L S : List Value) (h : icH) : icE 208 64 L S h = exe icE 208 (e_bin (fun x y => x + y) 65 L S h) := icE_eq (i := .iadd) (len := 1) (x1 := 0) (x2 := 0) (x3 := 0) (x4 := 64) ((fe_208 64).trans rfl) L S h
theorem r_208_65 (L S : List Value) (h : icH) : icE 208 65 L S h = exe icE 208 (e_iald 66 L S h) := icE_eq (i := .iaload) (len := 1) (x1 := 0) (x2 := 0) (x3 := 0) (x4 := 64) ((fe_208 65).trans rfl) L S h
theorem r_208_66 (L S : List Value) (h : icH) : icE 208 66 L S h = icE 208 70 L S h := icE_eq (i := .goto 4) (len := 3) (x1 := 70) (x2 := 0) (x3 := 0) (x4 := 64) ((fe_208 66).trans rfl) L S h
theorem r_208_69 (L S : List Value) (h : icH) : icE 208 69 L S h = icE 208 70 L (.int (-1) :: S) h := icE_eq (i := .iconst (-1)) (len := 1) (x1 := 0) (x2 := 0) (x3 := 0) (x4 := 64) ((fe_208 69).trans rfl) L S h
theorem r_208_70 (L S : List Value) (h : icH) : icE 208 70 L S h = exe icE 208 (e_istore 4 72 L S h) := icE_eq (i := .istore 4) (len := 2) (x1 := 0) (x2 := 0) (x3 := 0) (x4 := 64) ((fe_208 70).trans rfl) L S h
theorem r_208_72 (L S : List Value) (h : icH) : icE 208 72 L S h = exe icE 208 (e_aload 0 73 L S h) := icE_eq (i := .aload_n 0) (len := 1) (x1 := 0) (x2 := 0) (x3 := 0) (x4 := 64) ((fe_208 72).trans rfl) L S h
theorem r_208_73 (L S : List Value) (h : icH) : icE 208 73 L S h = exe icE 208 (e_getf 19 8 76 L S h) := icE_eq (i := .getfield 48) (len := 3) (x1 := 19) (x2 := 8) (x3 := 12) (x4 := 976) ((fe_208 73).trans rfl) L S h
theorem r_208_76 (L S : List Value) (h : icH) : icE 208 76 L S h = exe icE 208 (e_iload 3 77 L S h) := icE_eq (i := .iload_n 3) (len := 1) (x1 := 0) (x2 := 0) (x3 := 0) (x4 := 64) ((fe_208 76).trans rfl) L S h
theorem r_208_77 (L S : List Value) (h : icH) : icE 208 77 L S h = exe icE 208 (e_iload 2 78 L S h) := icE_eq (i := .iload_n 2) (len := 1) (x1 := 0) (x2 := 0) (x3 := 0) (x4 := 64) ((fe_208 77).trans rfl) L S h
theorem r_208_78 (L S : List Value) (h : icH) : icE 208 78 L S h = icE 208 79 L (.int (nI 2) :: S) h := icE_eq (i := .iconst 2) (len := 1) (x1 := 0) (x2 := 0) (x3 := 0) (x4 := 64) ((fe_208 78).trans rfl) L S h
theorem r_208_79 (L S : List Value) (h : icH) : icE 208 79 L S h = exe icE 208 (e_cmp .ne 87 82 L S h) := icE_eq (i := .if_icmp .ne 8) (len := 3) (x1 := 87) (x2 := 0) (x3 := 0) (x4 := 64) ((fe_208 79).trans rfl) L S h
theorem r_208_82 (L S : List Value) (h : icH) : icE 208 82 L S h = exe icE 208 (e_iload 4 84 L S h) := icE_eq (i := .iload 4) (len := 2) (x1 := 0) (x2 := 0) (x3 := 0) (x4 := 64) ((fe_208 82).trans rfl) L S h
theorem r_208_84 (L S : List Value) (h : icH) : icE 208 84 L S h = icE 208 93 L S h := icE_eq (i := .goto 9) (len := 3) (x1 := 93) (x2 := 0) (x3 := 0) (x4 := 64) ((fe_208 84).trans rfl) L S h
theorem r_208_87 (L S : List Value) (h : icH) : icE 208 87 L S h = exe icE 208 (e_aload 0 88 L S h) := icE_eq (i := .aload_n 0) (len := 1) (x1 := 0) (x2 := 0) (x3 := 0) (x4 := 64) ((fe_208 87).trans rfl) L S h
theorem r_208_88 (L S : List Value) (h : icH) : icE 208 88 L S h = exe icE 208 (e_getf 19 8 91 L S h) := icE_eq (i := .getfield 48) (len := 3) (x1 := 19) (x2 := 8) (x3 := 12) (x4 := 976) ((fe_208 88).trans rfl) L S h
theorem r_208_91 (L S : List Value) (h : icH) : icE 208 91 L S h = exe icE 208 (e_iload 3 92 L S h) := icE_eq (i := .iload_n 3) (len := 1) (x1 := 0) (x2 := 0) (x3 := 0) (x4 := 64) ((fe_208 91).trans rfl) L S h
theorem r_208_92 (L S : List Value) (h : icH) : icE 208 92 L S h = exe icE 208 (e_iald 93 L S h) := icE_eq (i := .iaload) (len := 1) (x1 := 0) (x2 := 0) (x3 := 0) (x4 := 64) ((fe_208 92).trans rfl) L S h
theorem r_208_93 (L S : List Value) (h : icH) : icE 208 93 L S h = exe icE 208 (e_iast 94 L S h) := icE_eq (i := .iastore) (len := 1) (x1 := 0) (x2 := 0) (x3 := 0) (x4 := 64) ((fe_208 93).trans rfl) L S h
theorem r_208_94 (L S : List Value) (h : icH) : icE 208 94 L S h = exe icE 208 (e_aload 0 95 L S h) := icE_eq (i := .aload_n 0) (len := 1) (x1 := 0) (x2 := 0) (x3 := 0) (x4 := 64) ((fe_208 94).trans rfl) L S h
theorem r_208_95 (L S : List Value) (h : icH) : icE 208 95 L S h = exe icE 208 (e_getf 20 8 98 L S h) := icE_eq (i := .getfield 51) (len := 3) (x1 := 20) (x2 := 8) (x3 := 12) (x4 := 977) ((fe_208 95).trans rfl) L S h
theorem r_208_98 (L S : List Value) (h : icH) : icE 208 98 L S h = exe icE 208 (e_iload 3 99 L S h) := icE_eq (i := .iload_n 3) (len := 1) (x1 := 0) (x2 := 0) (x3 := 0) (x4 := 64) ((fe_208 98).trans rfl) L S h
theorem r_208_99 (L S : List Value) (h : icH) : icE 208 99 L S h = exe icE 208 (e_iload 4 101 L S h) := icE_eq (i := .iload 4) (len := 2) (x1 := 0) (x2 := 0) (x3 := 0) (x4 := 64) ((fe_208 99).trans rfl) L S h
theorem r_208_101 (L S : List Value) (h : icH) : icE 208 101 L S h = exe icE 208 (e_iast 102 L S h) := icE_eq (i := .iastore) (len := 1) (x1 := 0) (x2 := 0) (x3 := 0) (x4 := 64) ((fe_208 101).trans rfl) L S h
theorem r_208_102 (L S : List Value) (h : icH) : icE 208 102 L S h = exe icE 208 (e_iinc 3 (nI 1) 105 L S h) := icE_eq (i := .iinc 3 1) (len := 3) (x1 := 0) (x2 := 0) (x3 := 0) (x4 := 64) ((fe_208 102).trans rfl) L S h
theorem r_208_105 (L S : List Value) (h : icH) : icE 208 105 L S h = icE 208 34 L S h := icE_eq (i := .goto (-71)) (len := 3) (x1 := 34) (x2 := 0) (x3 := 0) (x4 := 64) ((fe_208 105).trans rfl) L S h
theorem r_208_108 (L S : List Value) (h : icH) : icE 208 108 L S h = exe icE 208 (e_iinc 2 (nI 1) 111 L S h) := icE_eq (i := .iinc 2 1) (len := 3) (x1 := 0) (x2 := 0) (x3 := 0) (x4 := 64) ((fe_208 108).trans rfl) L S h
theorem r_208_111 (L S : List Value) (h : icH) : icE 208 111 L S h = icE 208 18 L S h := icE_eq (i := .goto (-93)) (len := 3) (x1 := 18) (x2 := 0) (x3 := 0) (x4 := 64) ((fe_208 111).trans rfl) L S h
theorem r_208_114 (L S : List Value) (h : icH) : icE 208 114 L S h = icE 208 115 L (.int (nI 0) :: S) h := icE_eq (i := .iconst 0) (len := 1) (x1 := 0) (x2 := 0) (x3 := 0) (x4 := 64) ((fe_208 114).trans rfl) L S h
theorem r_208_115 (L S : List Value) (h : icH) : icE 208 115 L S h = exe icE 208 (e_istore 2 116 L S h) := icE_eq (i := .istore_n 2) (len := 1) (x1 := 0) (x2 := 0) (x3 := 0) (x4 := 64) ((fe_208 115).trans rfl) L S h
theorem r_208_116 (L S : List Value) (h : icH) : icE 208 116 L S h = icE 208 117 L (.int (nI 0) :: S) h := icE_eq (i := .iconst 0) (len := 1) (x1 := 0) (x2 := 0) (x3 := 0) (x4 := 64) ((fe_208 116).trans rfl) L S h
theorem r_208_117 (L S : List Value) (h : icH) : icE 208 117 L S h = exe icE 208 (e_istore 3 118 L S h) := icE_eq (i := .istore_n 3) (len := 1) (x1 := 0) (x2 := 0) (x3 := 0) (x4 := 64) ((fe_208 117).trans rfl) L S h
theorem rh_208_118 (L S : List Value) (h : icH) : icE 208 118 L S h = exe icE 208 (e_iload 3 119 L S h) := icE_eq (i := .iload_n 3) (len := 1) (x1 := 0) (x2 := 0) (x3 := 0) (x4 := 64) ((fe_208 118).trans rfl) L S h
theorem r_208_119 (L S : List Value) (h : icH) : icE 208 119 L S h = exe icE 208 (e_aload 0 120 L S h) := icE_eq (i := .aload_n 0) (len := 1) (x1 := 0) (x2 := 0) (x3 := 0) (x4 := 64) ((fe_208 119).trans rfl) L S h
theorem r_208_120 (L S : List Value) (h : icH) : icE 208 120 L S h = exe icE 208 (e_getf 0 8 123 L S h) := icE_eq (i := .getfield 7) (len := 3) (x1 := 0) (x2 := 8) (x3 := 12) (x4 := 957) ((fe_208 120).trans rfl) L S h
theorem r_208_123 (L S : List Value) (h : icH) : icE 208 123 L S h = icE 208 125 L (.int (nI 10) :: S) h := icE_eq (i := .bipush 10) (len := 2) (x1 := 0) (x2 := 0) (x3 := 0) (x4 := 64) ((fe_208 123).trans rfl) L S h
theorem r_208_125 (L S : List Value) (h : icH) : icE 208 125 L S h = exe icE 208 (e_iald 126 L S h) := icE_eq (i := .iaload) (len := 1) (x1 := 0) (x2 := 0) (x3 := 0) (x4 := 64) ((fe_208 125).trans rfl) L S h
theorem r_208_126 (L S : List Value) (h : icH) : icE 208 126 L S h = exe icE 208 (e_cmp .ge 182 129 L S h) := icE_eq (i := .if_icmp .ge 56) (len := 3) (x1 := 182) (x2 := 0) (x3 := 0) (x4 := 64) ((fe_208 126).trans rfl) L S h
theorem r_208_129 (L S : List Value) (h : icH) : icE 208 129 L S h = icE 208 130 L (.int (nI 0) :: S) h := icE_eq (i := .iconst 0) (len := 1) (x1 := 0) (x2 := 0) (x3 := 0) (x4 := 64) ((fe_208 129).trans rfl) L S h
theorem r_208_130 (L S : List Value) (h : icH) : icE 208 130 L S h = exe icE 208 (e_istore 4 132 L S h) := icE_eq (i := .istore 4) (len := 2) (x1 := 0) (x2 := 0) (x3 := 0) (x4 := 64) ((fe_208 130).trans rfl) L S h
theorem rh_208_132 (L S : List Value) (h : icH) : icE 208 132 L S h = exe icE 208 (e_iload 4 134 L S h) := icE_eq (i := .iload 4) (len := 2) (x1 := 0) (x2 := 0) (x3 := 0) (x4 := 64) ((fe_208 132).trans rfl) L S h
theorem r_208_134 (L S : List Value) (h : icH) : icE 208 134 L S h = exe icE 208 (e_aload 0 135 L S h) := icE_eq (i := .aload_n 0) (len := 1) (x1 := 0) (x2 := 0) (x3 := 0) (x4 := 64) ((fe_208 134).trans rfl) L S h
theorem r_208_135 (L S : List Value) (h : icH) : icE 208 135 L S h = exe icE 208 (e_getf 0 8 138 L S h) := icE_eq (i := .getfield 7) (len := 3) (x1 := 0) (x2 := 8) (x3 := 12) (x4 := 957) ((fe_208 135).trans rfl) L S h
theorem r_208_138 (L S : List Value) (h : icH) : icE 208 138 L S h = icE 208 140 L (.int (nI 10) :: S) h := icE_eq (i := .bipush 10) (len := 2) (x1 := 0) (x2 := 0) (x3 := 0) (x4 := 64) ((fe_208 138).trans rfl) L S h
theorem r_208_140 (L S : List Value) (h : icH) : icE 208 140 L S h = exe icE 208 (e_iald 141 L S h) := icE_eq (i := .iaload) (len := 1) (x1 := 0) (x2 := 0) (x3 := 0) (x4 := 64) ((fe_208 140).trans rfl) L S h
theorem r_208_141 (L S : List Value) (h : icH) : icE 208 141 L S h = exe icE 208 (e_cmp .ge 176 144 L S h) := icE_eq (i := .if_icmp .ge 35) (len := 3) (x1 := 176) (x2 := 0) (x3 := 0) (x4 := 64) ((fe_208 141).trans rfl) L S h
theorem r_208_144 (L S : List Value) (h : icH) : icE 208 144 L S h = exe icE 208 (e_aload 0 145 L S h) := icE_eq (i := .aload_n 0) (len := 1) (x1 := 0) (x2 := 0) (x3 := 0) (x4 := 64) ((fe_208 144).trans rfl) L S h
theorem r_208_145 (L S : List Value) (h : icH) : icE 208 145 L S h = exe icE 208 (e_iload 3 146 L S h) := icE_eq (i := .iload_n 3) (len := 1) (x1 := 0) (x2 := 0) (x3 := 0) (x4 := 64) ((fe_208 145).trans rfl) L S h
theorem r_208_146 (L S : List Value) (h : icH) : icE 208 146 L S h = exe icE 208 (e_iload 4 148 L S h) := icE_eq (i := .iload 4) (len := 2) (x1 := 0) (x2 := 0) (x3 := 0) (x4 := 64) ((fe_208 146).trans rfl) L S h
theorem r_208_148 (L S : List Value) (h : icH) : icE 208 148 L S h = exe icE 208 (e_vcal 8 207 5 2 151 L S h) := icE_eq (i := .invokevirtual 238) (len := 3) (x1 := 207) (x2 := 3) (x3 := 8) (x4 := 1315) ((fe_208 148).trans rfl) L S h
theorem r_208_151 (L S : List Value) (h : icH) : icE 208 151 L S h = exe icE 208 (e_if .eq 170 154 L S h) := icE_eq (i := .ifCond .eq 19) (len := 3) (x1 := 170) (x2 := 0) (x3 := 0) (x4 := 64) ((fe_208 151).trans rfl) L S h
theorem r_208_154 (L S : List Value) (h : icH) : icE 208 154 L S h = exe icE 208 (e_iload 2 155 L S h) := icE_eq (i := .iload_n 2) (len := 1) (x1 := 0) (x2 := 0) (x3 := 0) (x4 := 64) ((fe_208 154).trans rfl) L S h
theorem r_208_155 (L S : List Value) (h : icH) : icE 208 155 L S h = exe icE 208 (e_iload 1 156 L S h) := icE_eq (i := .iload_n 1) (len := 1) (x1 := 0) (x2 := 0) (x3 := 0) (x4 := 64) ((fe_208 155).trans rfl) L S h
theorem r_208_156 (L S : List Value) (h : icH) : icE 208 156 L S h = exe icE 208 (e_cmp .ne 167 159 L S h) := icE_eq (i := .if_icmp .ne 11) (len := 3) (x1 := 167) (x2 := 0) (x3 := 0) (x4 := 64) ((fe_208 156).trans rfl) L S h
theorem r_208_159 (L S : List Value) (h : icH) : icE 208 159 L S h = icE 208 161 L (.int (nI 10) :: S) h := icE_eq (i := .bipush 10) (len := 2) (x1 := 0) (x2 := 0) (x3 := 0) (x4 := 64) ((fe_208 159).trans rfl) L S h
theorem r_208_161 (L S : List Value) (h : icH) : icE 208 161 L S h = exe icE 208 (e_iload 3 162 L S h) := icE_eq (i := .iload_n 3) (len := 1) (x1 := 0) (x2 := 0) (x3 := 0) (x4 := 64) ((fe_208 161).trans rfl) L S h
theorem r_208_162 (L S : List Value) (h : icH) : icE 208 162 L S h = exe icE 208 (e_bin (fun x y => x * y) 163 L S h) := icE_eq (i := .imul) (len := 1) (x1 := 0) (x2 := 0) (x3 := 0) (x4 := 64) ((fe_208 162).trans rfl) L S h
theorem r_208_163 (L S : List Value) (h : icH) : icE 208 163 L S h = exe icE 208 (e_iload 4 165 L S h) := icE_eq (i := .iload 4) (len := 2) (x1 := 0) (x2 := 0) (x3 := 0) (x4 := 64) ((fe_208 163).trans rfl) L S h
theorem r_208_165 (L S : List Value) (h : icH) : icE 208 165 L S h = exe icE 208 (e_bin (fun x y => x + y) 166 L S h) := icE_eq (i := .iadd) (len := 1) (x1 := 0) (x2 := 0) (x3 := 0) (x4 := 64) ((fe_208 165).trans rfl) L S h
theorem r_208_166 (L S : List Value) (h : icH) : icE 208 166 L S h = exe icE 208 (e_iret 0 L S h) := icE_eq (i := .ireturn) (len := 1) (x1 := 0) (x2 := 0) (x3 := 0) (x4 := 64) ((fe_208 166).trans rfl) L S h
theorem r_208_167 (L S : List Value) (h : icH) : icE 208 167 L S h = exe icE 208 (e_iinc 2 (nI 1) 170 L S h) := icE_eq (i := .iinc 2 1) (len := 3) (x1 := 0) (x2 := 0) (x3 := 0) (x4 := 64) ((fe_208 167).trans rfl) L S h
theorem r_208_170 (L S : List Value) (h : icH) : icE 208 170 L S h = exe icE 208 (e_iinc 4 (nI 1) 173 L S h) := icE_eq (i := .iinc 4 1) (len := 3) (x1 := 0) (x2 := 0) (x3 := 0) (x4 := 64) ((fe_208 170).trans rfl) L S h
theorem r_208_173 (L S : List Value) (h : icH) : icE 208 173 L S h = icE 208 132 L S h := icE_eq (i := .goto (-41)) (len := 3) (x1 := 132) (x2 := 0) (x3 := 0) (x4 := 64) ((fe_208 173).trans rfl) L S h
theorem r_208_176 (L S : List Value) (h : icH) : icE 208 176 L S h = exe icE 208 (e_iinc 3 (nI 1) 179 L S h) := icE_eq (i := .iinc 3 1) (len := 3) (x1 := 0) (x2 := 0) (x3 := 0) (x4 := 64) ((fe_208 176).trans rfl) L S h
theorem r_208_179 (L S : List Value) (h : icH) : icE 208 179 L S h = icE 208 118 L S h := icE_eq (i := .goto (-61)) (len := 3) (x1 := 118) (x2 := 0) (x3 := 0) (x4 := 64) ((fe_208 179).trans rfl) L S h
theorem r_208_182 (L S : List Value) (h : icH) : icE 208 182 L S h = exe icE 208 (e_iload 1 183 L S h) := icE_eq (i := .iload_n 1) (len := 1) (x1 := 0) (x2 := 0) (x3 := 0) (x4 := 64) ((fe_208 182).trans rfl) L S h
theorem r_208_183 (L S : List Value) (h : icH) : icE 208 183 L S h = exe icE 208 (e_if .ge 190 186 L S h) := icE_eq (i := .ifCond .ge 7) (len := 3) (x1 := 190) (x2 := 0) (x3 := 0) (x4 := 64) ((fe_208 183).trans rfl) L S h
theorem r_208_186 (L S : List Value) (h : icH) : icE 208 186 L S h = exe icE 208 (e_iload 2 187 L S h) := icE_eq (i := .iload_n 2) (len := 1) (x1 := 0) (x2 := 0) (x3 := 0) (x4 := 64) ((fe_208 186).trans rfl) L S h
theorem r_208_187 (L S : List Value) (h : icH) : icE 208 187 L S h = icE 208 192 L S h := icE_eq (i := .goto 5) (len := 3) (x1 := 192) (x2 := 0) (x3 := 0) (x4 := 64) ((fe_208 187).trans rfl) L S h
theorem r_208_190 (L S : List Value) (h : icH) : icE 208 190 L S h = icE 208 192 L (.int (-5) :: S) h := icE_eq (i := .bipush (-5)) (len := 2) (x1 := 0) (x2 := 0) (x3 := 0) (x4 := 64) ((fe_208 190).trans rfl) L S h
theorem r_208_192 (L S : List Value) (h : icH) : icE 208 192 L S h = exe icE 208 (e_iret 0 L S h) := icE_eq (i := .ireturn) (len := 1) (x1 := 0) (x2 := 0) (x3 := 0) (x4 := 64) ((fe_208 192).trans rfl) L S h
theorem rw_208 : (∀ (L S : List Value) (h : icH), icE 208 0 L S h = exe icE 208 (e_iload 1 1 L S h)) ∧ (∀ (L S : List Value) (h : icH), icE 208 1 L S h = icE 208 2 L (.int (-1) :: S) h) ∧ (∀ (L S : List Value) (h : icH), icE 208 2 L S h = exe icE 208 (e_cmp .ge 12 5 L S h)) ∧ (∀ (L S : List Value) (h : icH), icE 208 5 L S h = exe icE 208 (e_aload 0 6 L S h)) ∧ (∀ (L S : List Value) (h : icH), icE 208 6 L S h = icE 208 8 L (.int (-10) :: S) h) ∧ (∀ (L S : List Value) (h : icH), icE 208 8 L S h = exe icE 208 (e_vcal 8 139 2 1 11 L S h)) ∧ (∀ (L S : List Value) (h : icH), icE 208 11 L S h = exe icE 208 (e_iret 0 L S h)) ∧ (∀ (L S : List Value) (h : icH), icE 208 12 L S h = exe icE 208 (e_aload 0 13 L S h)) ∧ (∀ (L S : List Value) (h : icH), icE 208 13 L S h = exe icE 208 (e_vcal 8 180 1 0 16 L S h)) ∧ (∀ (L S : List Value) (h : icH), icE 208 16 L S h = icE 208 17 L (.int (nI 1) :: S) h) ∧ (∀ (L S : List Value) (h : icH), icE 208 17 L S h = exe icE 208 (e_istore 2 18 L S h)) ∧ (∀ (L S : List Value) (h : icH), icE 208 19 L S h = icE 208 20 L (.int (nI 4) :: S) h) ∧ (∀ (L S : List Value) (h : icH), icE 208 20 L S h = exe icE 208 (e_cmp .ge 114 23 L S h)) ∧ (∀ (L S : List Value) (h : icH), icE 208 23 L S h = exe icE 208 (e_aload 0 24 L S h)) ∧ (∀ (L S : List Value) (h : icH), icE 208 24 L S h = exe icE 208 (e_aload 0 25 L S h)) ∧ (∀ (L S : List Value) (h : icH), icE 208 25 L S h = exe icE 208 (e_getf 1 8 28 L S h)) ∧ (∀ (L S : List Value) (h : icH), icE 208 28 L S h = exe icE 208 (e_vcal 8 150 2 1 31 L S h)) ∧ (∀ (L S : List Value) (h : icH), icE 208 31 L S h = exe icE 208 (e_pop 32 L S h)) ∧ (∀ (L S : List Value) (h : icH), icE 208 32 L S h = icE 208 33 L (.int (nI 0) :: S) h) ∧ (∀ (L S : List Value) (h : icH), icE 208 33 L S h = exe icE 208 (e_istore 3 34 L S h)) ∧ (∀ (L S : List Value) (h : icH), icE 208 35 L S h = exe icE 208 (e_aload 0 36 L S h)) ∧ (∀ (L S : List Value) (h : icH), icE 208 36 L S h = exe icE 208 (e_getf 0 8 39 L S h)) ∧ (∀ (L S : List Value) (h : icH), icE 208 39 L S h = icE 208 41 L (.int (nI 10) :: S) h) ∧ (∀ (L S : List Value) (h : icH), icE 208 41 L S h = exe icE 208 (e_iald 42 L S h)) ∧ (∀ (L S : List Value) (h : icH), icE 208 42 L S h = exe icE 208 (e_cmp .ge 108 45 L S h)) ∧ (∀ (L S : List Value) (h : icH), icE 208 45 L S h = exe icE 208 (e_aload 0 46 L S h)) ∧ (∀ (L S : List Value) (h : icH), icE 208 46 L S h = exe icE 208 (e_getf 1 8 49 L S h)) ∧ (∀ (L S : List Value) (h : icH), icE 208 49 L S h = icE 208 51 L (.int (nI 50) :: S) h) ∧ (∀ (L S : List Value) (h : icH), icE 208 51 L S h = exe icE 208 (e_iload 3 52 L S h)) ∧ (∀ (L S : List Value) (h : icH), icE 208 52 L S h = exe icE 208 (e_bin (fun x y => x + y) 53 L S h)) ∧ (∀ (L S : List Value) (h : icH), icE 208 53 L S h = exe icE 208 (e_iald 54 L S h)) ∧ (∀ (L S : List Value) (h : icH), icE 208 54 L S h = exe icE 208 (e_if .ne 69 57 L S h)) ∧ (∀ (L S : List Value) (h : icH), icE 208 57 L S h = exe icE 208 (e_aload 0 58 L S h)) ∧ (∀ (L S : List Value) (h : icH), icE 208 58 L S h = exe icE 208 (e_getf 1 8 61 L S h)) ∧ (∀ (L S : List Value) (h : icH), icE 208 61 L S h = icE 208 63 L (.int (nI 38) :: S) h) ∧ (∀ (L S : List Value) (h : icH), icE 208 63 L S h = exe icE 208 (e_iload 3 64 L S h)) ∧ (∀ (L S : List Value) (h : icH), icE 208 64 L S h = exe icE 208 (e_bin (fun x y => x + y) 65 L S h)) ∧ (∀ (L S : List Value) (h : icH), icE 208 65 L S h = exe icE 208 (e_iald 66 L S h)) ∧ (∀ (L S : List Value) (h : icH), icE 208 66 L S h = icE 208 70 L S h) ∧ (∀ (L S : List Value) (h : icH), icE 208 69 L S h = icE 208 70 L (.int (-1) :: S) h) ∧ (∀ (L S : List Value) (h : icH), icE 208 70 L S h = exe icE 208 (e_istore 4 72 L S h)) ∧ (∀ (L S : List Value) (h : icH), icE 208 72 L S h = exe icE 208 (e_aload 0 73 L S h)) ∧ (∀ (L S : List Value) (h : icH), icE 208 73 L S h = exe icE 208 (e_getf 19 8 76 L S h)) ∧ (∀ (L S : List Value) (h : icH), icE 208 76 L S h = exe icE 208 (e_iload 3 77 L S h)) ∧ (∀ (L S : List Value) (h : icH), icE 208 77 L S h = exe icE 208 (e_iload 2 78 L S h)) ∧ (∀ (L S : List Value) (h : icH), icE 208 78 L S h = icE 208 79 L (.int (nI 2) :: S) h) ∧ (∀ (L S : List Value) (h : icH), icE 208 79 L S h = exe icE 208 (e_cmp .ne 87 82 L S h)) ∧ (∀ (L S : List Value) (h : icH), icE 208 82 L S h = exe icE 208 (e_iload 4 84 L S h)) ∧ (∀ (L S : List Value) (h : icH), icE 208 84 L S h = icE 208 93 L S h) ∧ (∀ (L S : List Value) (h : icH), icE 208 87 L S h = exe icE 208 (e_aload 0 88 L S h)) ∧ (∀ (L S : List Value) (h : icH), icE 208 88 L S h = exe icE 208 (e_getf 19 8 91 L S h)) ∧ (∀ (L S : List Value) (h : icH), icE 208 91 L S h = exe icE 208 (e_iload 3 92 L S h)) ∧ (∀ (L S : List Value) (h : icH), icE 208 92 L S h = exe icE 208 (e_iald 93 L S h)) ∧ (∀ (L S : List Value) (h : icH), icE 208 93 L S h = exe icE 208 (e_iast 94 L S h)) ∧ (∀ (L S : List Value) (h : icH), icE 208 94 L S h = exe icE 208 (e_aload 0 95 L S h)) ∧ (∀ (L S : List Value) (h : icH), icE 208 95 L S h = exe icE 208 (e_getf 20 8 98 L S h)) ∧ (∀ (L S : List Value) (h : icH), icE 208 98 L S h = exe icE 208 (e_iload 3 99 L S h)) ∧ (∀ (L S : List Value) (h : icH), icE 208 99 L S h = exe icE 208 (e_iload 4 101 L S h)) ∧ (∀ (L S : List Value) (h : icH), icE 208 101 L S h = exe icE 208 (e_iast 102 L S h)) ∧ (∀ (L S : List Value) (h : icH), icE 208 102 L S h = exe icE 208 (e_iinc 3 (nI 1) 105 L S h)) ∧ (∀ (L S : List Value) (h : icH), icE 208 105 L S h = icE 208 34 L S h) ∧ (∀ (L S : List Value) (h : icH), icE 208 108 L S h = exe icE 208 (e_iinc 2 (nI 1) 111 L S h)) ∧ (∀ (L S : List Value) (h : icH), icE 208 111 L S h = icE 208 18 L S h) ∧ (∀ (L S : List Value) (h : icH), icE 208 114 L S h = icE 208 115 L (.int (nI 0) :: S) h) ∧ (∀ (L S : List Value) (h : icH), icE 208 115 L S h = exe icE 208 (e_istore 2 116 L S h)) ∧ (∀ (L S : List Value) (h : icH), icE 208 116 L S h = icE 208 117 L (.int (nI 0) :: S) h) ∧ (∀ (L S : List Value) (h : icH), icE 208 117 L S h = exe icE 208 (e_istore 3 118 L S h)) ∧ (∀ (L S : List Value) (h : icH), icE 208 119 L S h = exe icE 208 (e_aload 0 120 L S h)) ∧ (∀ (L S : List Value) (h : icH), icE 208 120 L S h = exe icE 208 (e_getf 0 8 123 L S h)) ∧ (∀ (L S : List Value) (h : icH), icE 208 123 L S h = icE 208 125 L (.int (nI 10) :: S) h) ∧ (∀ (L S : List Value) (h : icH), icE 208 125 L S h = exe icE 208 (e_iald 126 L S h)) ∧ (∀ (L S : List Value) (h : icH), icE 208 126 L S h = exe icE 208 (e_cmp .ge 182 129 L S h)) ∧ (∀ (L S : List Value) (h : icH), icE 208 129 L S h = icE 208 130 L (.int (nI 0) :: S) h) ∧ (∀ (L S : List Value) (h : icH), icE 208 130 L S h = exe icE 208 (e_istore 4 132 L S h)) ∧ (∀ (L S : List Value) (h : icH), icE 208 134 L S h = exe icE 208 (e_aload 0 135 L S h)) ∧ (∀ (L S : List Value) (h : icH), icE 208 135 L S h = exe icE 208 (e_getf 0 8 138 L S h)) ∧ (∀ (L S : List Value) (h : icH), icE 208 138 L S h = icE 208 140 L (.int (nI 10) :: S) h) ∧ (∀ (L S : List Value) (h : icH), icE 208 140 L S h = exe icE 208 (e_iald 141 L S h)) ∧ (∀ (L S : List Value) (h : icH), icE 208 141 L S h = exe icE 208 (e_cmp .ge 176 144 L S h)) ∧ (∀ (L S : List Value) (h : icH), icE 208 144 L S h = exe icE 208 (e_aload 0 145 L S h)) ∧ (∀ (L S : List Value) (h : icH), icE 208 145 L S h = exe icE 208 (e_iload 3 146 L S h)) ∧ (∀ (L S : List Value) (h : icH), icE 208 146 L S h = exe icE 208 (e_iload 4 148 L S h)) ∧ (∀ (L S : List Value) (h : icH), icE 208 148 L S h = exe icE 208 (e_vcal 8 207 5 2 151 L S h)) ∧ (∀ (L S : List Value) (h : icH), icE 208 151 L S h = exe icE 208 (e_if .eq 170 154 L S h)) ∧ (∀ (L S : List Value) (h : icH), icE 208 154 L S h = exe icE 208 (e_iload 2 155 L S h)) ∧ (∀ (L S : List Value) (h : icH), icE 208 155 L S h = exe icE 208 (e_iload 1 156 L S h)) ∧ (∀ (L S : List Value) (h : icH), icE 208 156 L S h = exe icE 208 (e_cmp .ne 167 159 L S h)) ∧ (∀ (L S : List Value) (h : icH), icE 208 159 L S h = icE 208 161 L (.int (nI 10) :: S) h) ∧ (∀ (L S : List Value) (h : icH), icE 208 161 L S h = exe icE 208 (e_iload 3 162 L S h)) ∧ (∀ (L S : List Value) (h : icH), icE 208 162 L S h = exe icE 208 (e_bin (fun x y => x * y) 163 L S h)) ∧ (∀ (L S : List Value) (h : icH), icE 208 163 L S h = exe icE 208 (e_iload 4 165 L S h)) ∧ (∀ (L S : List Value) (h : icH), icE 208 165 L S h = exe icE 208 (e_bin (fun x y => x + y) 166 L S h)) ∧ (∀ (L S : List Value) (h : icH), icE 208 166 L S h = exe icE 208 (e_iret 0 L S h)) ∧ (∀ (L S : List Value) (h : icH), icE 208 167 L S h = exe icE 208 (e_iinc 2 (nI 1) 170 L S h)) ∧ (∀ (L S : List Value) (h : icH), icE 208 170 L S h = exe icE 208 (e_iinc 4 (nI 1) 173 L S h)) ∧ (∀ (L S : List Value) (h : icH), icE 208 173 L S h = icE 208 132 L S h) ∧ (∀ (L S : List Value) (h : icH), icE 208 176 L S h = exe icE 208 (e_iinc 3 (nI 1) 179 L S h)) ∧ (∀ (L S : List Value) (h : icH), icE 208 179 L S h = icE 208 118 L S h) ∧ (∀ (L S : List Value) (h : icH), icE 208 182 L S h = exe icE 208 (e_iload 1 183 L S h)) ∧ (∀ (L S : List Value) (h : icH), icE 208 183 L S h = exe icE 208 (e_if .ge 190 186 L S h)) ∧ (∀ (L S : List Value) (h : icH), icE 208 186 L S h = exe icE 208 (e_iload 2 187 L S h)) ∧ (∀ (L S : List Value) (h : icH), icE 208 187 L S h = icE 208 192 L S h) ∧ (∀ (L S : List Value) (h : icH), icE 208 190 L S h = icE 208 192 L (.int (-5) :: S) h) ∧ (∀ (L S : List Value) (h : icH), icE 208 192 L S h = exe icE 208 (e_iret 0 L S h)) := ⟨r_208_0, r_208_1, r_208_2, r_208_5, r_208_6, r_208_8, r_208_11, r_208_12, r_208_13, r_208_16, r_208_17, r_208_19, r_208_20, r_208_23, r_208_24, r_208_25, r_208_28, r_208_31, r_208_32, r_208_33, r_208_35, r_208_36, r_208_39, r_208_41, r_208_42, r_208_45, r_208_46, r_208_49, r_208_51, r_208_52, r_208_53, r_208_54, r_208_57, r_208_58, r_208_61, r_208_63, r_208_64, r_208_65, r_208_66, r_208_69, r_208_70, r_208_72, r_208_73, r_208_76, r_208_77, r_208_78, r_208_79, r_208_82, r_208_84, r_208_87, r_208_88, r_208_91, r_208_92, r_208_93, r_208_94, r_208_95, r_208_98, r_208_99, r_208_101, r_208_102, r_208_105, r_208_108, r_208_111, r_208_114, r_208_115, r_208_116, r_208_117, r_208_119, r_208_120, r_208_123, r_208_125, r_208_126, r_208_129, r_208_130, r_208_134, r_208_135, r_208_138, r_208_140, r_208_141, r_208_144, r_208_145, r_208_146, r_208_148, r_208_151, r_208_154, r_208_155, r_208_156, r_208_159, r_208_161, r_208_162, r_208_163, r_208_165, r_208_166, r_208_167, r_208_170, r_208_173, r_208_176, r_208_179, r_208_182, r_208_183, r_208_186, r_208_187, r_208_190, r_208_192⟩
theorem c_gets {A : Nat → Nat → Int32} {i j : Nat} (hi : i < 6) (hj : j < 6) (h : icH) (m : Nat) (ab be : Int64) (ii : Nat → Int32) : icE 206 0 [.ref m, .int (nI i), .int (nI j)] [] (HM h m ab be ii A) = some (some (.int (if i = j then -1 else A 13 j)), HM h m ab be ii A) := by
  by_cases c : i = j
  · rw [if_pos c]
    have : nI i = nI j := by rw [c]
    simp only [SA, rw_206, if_pos this]
  · rw [if_neg c]
    have : ¬ nI i = nI j := fun z => c ((nI_eq (by omega) (by omega)).mp z)
    simp only [SA, rw_206, HM_o, HMr, if_neg this, ia_n hj (show 6 < 2 ^ 31 by decide)]
theorem l_mrests {R N H i j : Nat} {D A : Nat → Nat → Int32} (hN : N ≤ 6) (h10 : A 1 10 = nI N) (hL : ∀ q, q < N → A 1 (50 + q) = D 11 q) (h12 : ∀ q, q < N → A 12 q = lz R N H D 2 q) (h13 : ∀ q, q < N → A 13 q = lz R N H D 3 q) (hi : i < N) (hj : j < N) (h : icH) (m : Nat) (ab be : Int64) (ii : Nat → Int32) (P : Bool) : ∀ (k o : Nat), o + k = N → icE 207 33 [.ref m, .int (nI i), .int (nI j), .int (bi ((P && !(anyB (rvB R N H D i j) o)) = true)), .int (nI o)] [] (HM h m ab be ii A) = some (some (.int (bi ((P && !(anyB (rvB R N H D i j) N)) = true))), HM h m ab be ii A)
  | 0, o, him => by
    have : o = N := by omega
    subst this
    rw [rh_207_33]
    simp only [SA, rw_207, HM_o, HMr, ia_n (show 10 < 292 by decide) (show 292 < 2 ^ 31 by decide), h10, if_pos (nI_le (Nat.le_refl o) (show o < 2 ^ 31 by omega)), u_irb]
  | k + 1, o, him => by
    have ih := l_mrests hN h10 hL h12 h13 hi hj h m ab be ii P k (o + 1) (by omega)
    have ho : o < N := by omega
    have b2 : 292 < 2 ^ 31 := by decide
    have b6 : 6 < 2 ^ 31 := by decide
    have es : anyB (rvB R N H D i j) (o + 1) = (anyB (rvB R N H D i j) o || rvB R N H D i j o) := rfl
    have g1 := c_gets (A := A) (show i < 6 by omega) (show o < 6 by omega) h m ab be ii
    have g2 := c_gets (A := A) (show i < 6 by omega) (show j < 6 by omega) h m ab be ii
    have f1 : (if i = o then (-1 : Int32) else A 13 o) = og R N H D i o := by unfold og; rw [h13 o ho]
    have f2 : (if i = j then (-1 : Int32) else A 13 j) = og R N H D i j := by unfold og; rw [h13 j hj]
    rw [f1] at g1
    rw [f2] at g2
    rw [es] at ih
    refine Eq.trans ?_ ih
    by_cases c0 : (P && !(anyB (rvB R N H D i j) o)) = true
    · have p1 : P = true := by cases P; cases c0; rfl
      have p2 : anyB (rvB R N H D i j) o = false := by cases hq : anyB (rvB R N H D i j) o; rfl; rw [hq] at c0; cases P <;> cases c0
      rw [p1, p2, Bool.false_or, Bool.true_and, Bool.true_and]
      rw [rh_207_33, bi_t (show (!false) = true from rfl)]
      by_cases c1 : D 11 o = 0
      · by_cases c2 : lz R N H D 2 o ≤ lz R N H D 2 i
        · have d2 : ¬ lz R N H D 2 i < lz R N H D 2 o := fun z => i32_le_lt.mpr z c2
          by_cases c3 : og R N H D i o ≤ og R N H D i j
          · have d3 : ¬ og R N H D i j < og R N H D i o := fun z => i32_le_lt.mpr z c3
            rw [show rvB R N H D i j o = false from decide_eq_false (fun z => z.2 ⟨c2, c3⟩), bi_t (show (!false) = true from rfl)]
            simp only [SA, rw_207, HM_o, HMr, ia_n (show 10 < 292 by decide) b2, h10, if_neg (nI_ge ho (show N < 2 ^ 31 by omega)), if_neg (show ¬ nI 1 = 0 by decide), nI_add, ia_n (show 50 + o < 292 by omega) b2, ia_n (show o < 6 by omega) b6, ia_n (show i < 6 by omega) b6, hL o ho, h12 o ho, h12 i hi, if_pos c1, if_neg d2, g1, g2, if_neg d3]
          · have d3 : og R N H D i j < og R N H D i o := i32_le_lt.mp c3
            rw [show rvB R N H D i j o = true from decide_eq_true ⟨c1, fun z => c3 z.2⟩, bi_f (show ¬ (!true) = true by decide)]
            simp only [SA, rw_207, HM_o, HMr, ia_n (show 10 < 292 by decide) b2, h10, if_neg (nI_ge ho (show N < 2 ^ 31 by omega)), if_neg (show ¬ nI 1 = 0 by decide), nI_add, ia_n (show 50 + o < 292 by omega) b2, ia_n (show o < 6 by omega) b6, ia_n (show i < 6 by omega) b6, hL o ho, h12 o ho, h12 i hi, if_pos c1, if_neg d2, g1, g2, if_pos d3]
        · have d2 : lz R N H D 2 i < lz R N H D 2 o := i32_le_lt.mp c2
          rw [show rvB R N H D i j o = true from decide_eq_true ⟨c1, fun z => c2 z.1⟩, bi_f (show ¬ (!true) = true by decide)]
          simp only [SA, rw_207, HM_o, HMr, ia_n (show 10 < 292 by decide) b2, h10, if_neg (nI_ge ho (show N < 2 ^ 31 by omega)), if_neg (show ¬ nI 1 = 0 by decide), nI_add, ia_n (show 50 + o < 292 by omega) b2, ia_n (show o < 6 by omega) b6, ia_n (show i < 6 by omega) b6, hL o ho, h12 o ho, h12 i hi, if_pos c1, if_pos d2]
      · rw [show rvB R N H D i j o = false from decide_eq_false (fun z => c1 z.1), bi_t (show (!false) = true from rfl)]
        simp only [SA, rw_207, HM_o, HMr, ia_n (show 10 < 292 by decide) b2, h10, if_neg (nI_ge ho (show N < 2 ^ 31 by omega)), if_neg (show ¬ nI 1 = 0 by decide), nI_add, ia_n (show 50 + o < 292 by omega) b2, hL o ho, if_neg c1]
    · have c0' : ¬ (P && !(anyB (rvB R N H D i j) o || rvB R N H D i j o)) = true := by
        cases P <;> cases hq : anyB (rvB R N H D i j) o <;> simp_all
      rw [bi_f c0, bi_f c0', rh_207_33]
      simp only [SA, rw_207, HM_o, HMr, ia_n (show 10 < 292 by decide) b2, h10, if_neg (nI_ge ho (show N < 2 ^ 31 by omega)), if_pos (show nI 0 = 0 by decide), nI_add]
theorem c_mrests {R N H i j : Nat} {D A : Nat → Nat → Int32} (hN : N ≤ 6) (h10 : A 1 10 = nI N) (hL : ∀ q, q < N → A 1 (50 + q) = D 11 q) (h12 : ∀ q, q < N → A 12 q = lz R N H D 2 q) (h13 : ∀ q, q < N → A 13 q = lz R N H D 3 q) (hi : i < N) (hj : j < N) (h : icH) (m : Nat) (ab be : Int64) (ii : Nat → Int32) : icE 207 0 [.ref m, .int (nI i), .int (nI j), dum, dum] [] (HM h m ab be ii A) = some (some (.int (bi (rsB R N H D i j = true))), HM h m ab be ii A) := by
  have b2 : 292 < 2 ^ 31 := by decide
  have z := l_mrests hN h10 hL h12 h13 hi hj h m ab be ii (decide (D 11 i = 0 ∧ D 11 j = 0)) N 0 (by omega)
  have e0 : anyB (rvB R N H D i j) 0 = false := rfl
  rw [e0] at z
  refine Eq.trans ?_ z
  by_cases c1 : D 11 i = 0
  · by_cases c2 : D 11 j = 0
    · rw [decide_eq_true ⟨c1, c2⟩, bi_t (show (true && !false) = true from rfl)]
      simp only [SA, rw_207, HM_o, HMr, nI_add, ia_n (show 50 + i < 292 by omega) b2, ia_n (show 50 + j < 292 by omega) b2, hL i hi, hL j hj, if_pos c1, if_pos c2]
    · rw [decide_eq_false (fun z => c2 z.2), bi_f (show ¬ (false && !false) = true by decide)]
      simp only [SA, rw_207, HM_o, HMr, nI_add, ia_n (show 50 + i < 292 by omega) b2, ia_n (show 50 + j < 292 by omega) b2, hL i hi, hL j hj, if_pos c1, if_neg c2]
  · rw [decide_eq_false (fun z => c1 z.1), bi_f (show ¬ (false && !false) = true by decide)]
    simp only [SA, rw_207, HM_o, HMr, nI_add, ia_n (show 50 + i < 292 by omega) b2, ia_n (show 50 + j < 292 by omega) b2, hL i hi, if_neg c1]
theorem l_mst2 {R N H i : Nat} {D A : Nat → Nat → Int32} (hN : N ≤ 6) (h10 : A 1 10 = nI N) (hL : ∀ q, q < N → A 1 (50 + q) = D 11 q) (h12 : ∀ q, q < N → A 12 q = lz R N H D 2 q) (h13 : ∀ q, q < N → A 13 q = lz R N H D 3 q) (hi : i < N) (k : Int32) (h : icH) (m : Nat) (ab be : Int64) (ii : Nat → Int32) : ∀ (n j c : Nat), j + n = N → (∀ a, sj (rsB R N H D) k i n j c = .inl a → icE 208 132 [.ref m, .int k, .int (nI c), .int (nI i), .int (nI j)] [] (HM h m ab be ii A) = some (some (.int a), HM h m ab be ii A)) ∧ (∀ c', sj (rsB R N H D) k i n j c = .inr c' → icE 208 132 [.ref m, .int k, .int (nI c), .int (nI i), .int (nI j)] [] (HM h m ab be ii A) = icE 208 118 [.ref m, .int k, .int (nI c'), .int (nI (i + 1)), .int (nI N)] [] (HM h m ab be ii A))
  | 0, j, c, him => by
    have : j = N := by omega
    subst this
    refine ⟨fun a z => (by cases z), fun c' z => ?_⟩
    cases z
    rw [rh_208_132]
    simp only [SA, rw_208, HM_o, HMr, ia_n (show 10 < 292 by decide) (show 292 < 2 ^ 31 by decide), h10, if_pos (nI_le (Nat.le_refl j) (show j < 2 ^ 31 by omega)), nI_add]
  | n + 1, j, c, him => by
    have hj : j < N := by omega
    have b2 : 292 < 2 ^ 31 := by decide
    have cr := c_mrests hN h10 hL h12 h13 hi hj h m ab be ii
    have e : sj (rsB R N H D) k i (n + 1) j c = if rsB R N H D i j = true then (if nI c = k then .inl (nI (10 * i + j)) else sj (rsB R N H D) k i n (j + 1) (c + 1)) else sj (rsB R N H D) k i n (j + 1) c := rfl
    rw [e]
    by_cases c1 : rsB R N H D i j = true
    · rw [if_pos c1]
      by_cases c2 : nI c = k
      · rw [if_pos c2]
        refine ⟨fun a z => ?_, fun c' z => (by cases z)⟩
        cases z
        rw [rh_208_132]
        simp only [SA, rw_208, HM_o, HMr, ia_n (show 10 < 292 by decide) b2, h10, if_neg (nI_ge hj (show N < 2 ^ 31 by omega)), cr, if_neg (bi_10 c1), if_pos c2, pk_mul, nI_add]
      · rw [if_neg c2]
        have ih := l_mst2 hN h10 hL h12 h13 hi k h m ab be ii n (j + 1) (c + 1) (by omega)
        refine ⟨fun a z => Eq.trans ?_ (ih.1 a z), fun c' z => Eq.trans ?_ (ih.2 c' z)⟩ <;> rw [rh_208_132] <;> simp only [SA, rw_208, HM_o, HMr, ia_n (show 10 < 292 by decide) b2, h10, if_neg (nI_ge hj (show N < 2 ^ 31 by omega)), cr, if_neg (bi_10 c1), if_neg c2, nI_add]
    · rw [if_neg c1]
      have ih := l_mst2 hN h10 hL h12 h13 hi k h m ab be ii n (j + 1) c (by omega)
      refine ⟨fun a z => Eq.trans ?_ (ih.1 a z), fun c' z => Eq.trans ?_ (ih.2 c' z)⟩ <;> rw [rh_208_132] <;> simp only [SA, rw_208, HM_o, HMr, ia_n (show 10 < 292 by decide) b2, h10, if_neg (nI_ge hj (show N < 2 ^ 31 by omega)), cr, if_pos (bi_00 c1), nI_add]
theorem l_mst1 {R N H : Nat} {D A : Nat → Nat → Int32} (hN : N ≤ 6) (h10 : A 1 10 = nI N) (hL : ∀ q, q < N → A 1 (50 + q) = D 11 q) (h12 : ∀ q, q < N → A 12 q = lz R N H D 2 q) (h13 : ∀ q, q < N → A 13 q = lz R N H D 3 q) {k : Int32} (hk : -1 ≤ k) (h : icH) (m : Nat) (ab be : Int64) (ii : Nat → Int32) : ∀ (n i c : Nat) (y : Value), i + n = N → icE 208 118 [.ref m, .int k, .int (nI c), .int (nI i), y] [] (HM h m ab be ii A) = some (some (.int (match si (rsB R N H D) k N n i c with | .inl a => a | .inr c => if k = -1 then nI c else -5)), HM h m ab be ii A)
  | 0, i, c, y, him => by
    have : i = N := by omega
    subst this
    rw [rh_208_118]
    unfold si
    by_cases q : k = -1
    · subst q
      simp only [SA, rw_208, HM_o, HMr, ia_n (show 10 < 292 by decide) (show 292 < 2 ^ 31 by decide), h10, if_pos (nI_le (Nat.le_refl i) (show i < 2 ^ 31 by omega)), if_neg (show ¬ (0 : Int32) ≤ -1 by decide), if_true]
    · have q2 : (0 : Int32) ≤ k := by
        rw [Int32.le_iff_toInt_le] at hk ⊢
        have e1 : (-1 : Int32).toInt = -1 := by decide
        have e2 : (0 : Int32).toInt = 0 := by decide
        have : k.toInt ≠ -1 := fun z => q (Int32.toInt_inj.mp (z.trans e1.symm))
        omega
      simp only [SA, rw_208, HM_o, HMr, ia_n (show 10 < 292 by decide) (show 292 < 2 ^ 31 by decide), h10, if_pos (nI_le (Nat.le_refl i) (show i < 2 ^ 31 by omega)), if_pos q2, if_neg q]
  | n + 1, i, c, y, him => by
    have hi : i < N := by omega
    have s := l_mst2 hN h10 hL h12 h13 hi k h m ab be ii N 0 c (by omega)
    rw [rh_208_118]
    simp only [SA, rw_208, HM_o, HMr, ia_n (show 10 < 292 by decide) (show 292 < 2 ^ 31 by decide), h10, if_neg (nI_ge hi (show N < 2 ^ 31 by omega))]
    unfold si
    cases hq : sj (rsB R N H D) k i N 0 c with
    | inl a => exact s.1 a hq
    | inr c' => exact (s.2 c' hq).trans (l_mst1 hN h10 hL h12 h13 hk h m ab be ii n (i + 1) c' (.int (nI N)) (by omega))
theorem s_ml {R N H t i : Nat} {D0 A : Nat → Nat → Int32} (hN : N ≤ 6) (ht : t < 3) (hi : i < N) (h10 : A 1 10 = nI N) (hM : MR R N (t + 1) H D0 (A 2)) (k : Int32) (z : Value) (h : icH) (m : Nat) (ab be : Int64) (ii : Nat → Int32) : icE 208 34 [.ref m, .int k, .int (nI (t + 1)), .int (nI i), z] [] (HM h m ab be ii A) = icE 208 34 [.ref m, .int k, .int (nI (t + 1)), .int (nI (i + 1)), .int (lz R N H D0 (t + 1) i)] [] (HM h m ab be ii (ud (ud A 12 (upd (A 12) i (if t = 1 then lz R N H D0 2 i else A 12 i))) 13 (upd (A 13) i (lz R N H D0 (t + 1) i)))) := by
  have b2 : 292 < 2 ^ 31 := by decide
  have b5 : 56 < 2 ^ 31 := by decide
  have b6 : 6 < 2 ^ 31 := by decide
  have e9 := MR_9 hM hi
  have e11 := MR_11 hM hi
  rw [rh_208_34]
  by_cases c2 : t = 1
  · subst c2
    by_cases c1 : hsn R N (1 + 1) H D0 11 i = 0
    · have e : lz R N H D0 (1 + 1) i = hsn R N (1 + 1) H D0 9 i := if_pos ⟨hi, c1⟩
      have e' : lz R N H D0 2 i = hsn R N (1 + 1) H D0 9 i := e
      rw [e]
      simp only [SA, rw_208, HM_o, HMr, HMw, ia_n (show 10 < 292 by decide) b2, h10, if_neg (nI_ge hi (show N < 2 ^ 31 by omega)), nI_add, ia_n (show 50 + i < 56 by omega) b5, ia_n (show 38 + i < 56 by omega) b5, e9, e11, if_pos c1, if_true, is_n (show i < 6 by omega) b6, ia_n (show i < 6 by omega) b6, ud_n (show (13 : Nat) ≠ 12 by decide), if_pos (show nI (1 + 1) = nI 2 from rfl)]
    · have e : lz R N H D0 (1 + 1) i = -1 := if_neg (fun z => c1 z.2)
      have e' : lz R N H D0 2 i = -1 := e
      rw [e]
      simp only [SA, rw_208, HM_o, HMr, HMw, ia_n (show 10 < 292 by decide) b2, h10, if_neg (nI_ge hi (show N < 2 ^ 31 by omega)), nI_add, ia_n (show 50 + i < 56 by omega) b5, ia_n (show 38 + i < 56 by omega) b5, e9, e11, if_neg c1, if_true, is_n (show i < 6 by omega) b6, ia_n (show i < 6 by omega) b6, ud_n (show (13 : Nat) ≠ 12 by decide), if_pos (show nI (1 + 1) = nI 2 from rfl)]
  · have c3 : ¬ nI (t + 1) = nI 2 := fun z => c2 (by have := (nI_eq (by omega) (by omega)).mp z; omega)
    rw [if_neg c2]
    by_cases c1 : hsn R N (t + 1) H D0 11 i = 0
    · have e : lz R N H D0 (t + 1) i = hsn R N (t + 1) H D0 9 i := if_pos ⟨hi, c1⟩
      rw [e]
      simp only [SA, rw_208, HM_o, HMr, HMw, ia_n (show 10 < 292 by decide) b2, h10, if_neg (nI_ge hi (show N < 2 ^ 31 by omega)), nI_add, ia_n (show 50 + i < 56 by omega) b5, ia_n (show 38 + i < 56 by omega) b5, e9, e11, if_pos c1, is_n (show i < 6 by omega) b6, ia_n (show i < 6 by omega) b6, ud_n (show (13 : Nat) ≠ 12 by decide), if_neg c3]
    · have e : lz R N H D0 (t + 1) i = -1 := if_neg (fun z => c1 z.2)
      rw [e]
      simp only [SA, rw_208, HM_o, HMr, HMw, ia_n (show 10 < 292 by decide) b2, h10, if_neg (nI_ge hi (show N < 2 ^ 31 by omega)), nI_add, ia_n (show 50 + i < 56 by omega) b5, ia_n (show 38 + i < 56 by omega) b5, e9, e11, if_neg c1, is_n (show i < 6 by omega) b6, ia_n (show i < 6 by omega) b6, ud_n (show (13 : Nat) ≠ 12 by decide), if_neg c3]
theorem l_ml2 {R N H t : Nat} {D0 : Nat → Nat → Int32} (hN : N ≤ 6) (ht : t < 3) (k : Int32) (h : icH) (m : Nat) (ab be : Int64) (ii : Nat → Int32) : ∀ (n i : Nat) (z : Value) (A : Nat → Nat → Int32), i + n = N → A 1 10 = nI N → MR R N (t + 1) H D0 (A 2) → (∀ q, q < N → (q < i ∨ 2 ≤ t) → 1 ≤ t → A 12 q = lz R N H D0 2 q) → (∀ q, q < i → A 13 q = lz R N H D0 (t + 1) q) → ∃ z' A', icE 208 34 [.ref m, .int k, .int (nI (t + 1)), .int (nI i), z] [] (HM h m ab be ii A) = icE 208 18 [.ref m, .int k, .int (nI (t + 1 + 1)), .int (nI N), z'] [] (HM h m ab be ii A') ∧ MSC A A' ∧ A' 2 = A 2 ∧ (∀ q, q < N → 1 ≤ t → A' 12 q = lz R N H D0 2 q) ∧ (∀ q, q < N → A' 13 q = lz R N H D0 (t + 1) q)
  | 0, i, z, A, him, h10, hM, h12, h13 => by
    have : i = N := by omega
    subst this
    refine ⟨z, A, ?_, MSC_r A, rfl, fun q hq h1 => h12 q hq (Or.inl hq) h1, h13⟩
    rw [rh_208_34]
    simp only [SA, rw_208, HM_o, HMr, ia_n (show 10 < 292 by decide) (show 292 < 2 ^ 31 by decide), h10, if_pos (nI_le (Nat.le_refl i) (show i < 2 ^ 31 by omega)), nI_add]
  | n + 1, i, z, A, him, h10, hM, h12, h13 => by
    have hi : i < N := by omega
    have s := s_ml hN ht hi h10 hM k z h m ab be ii
    obtain ⟨z', A', y1, y2, y3, y4, y5⟩ := l_ml2 hN ht k h m ab be ii n (i + 1) (.int (lz R N H D0 (t + 1) i)) (ud (ud A 12 (upd (A 12) i (if t = 1 then lz R N H D0 2 i else A 12 i))) 13 (upd (A 13) i (lz R N H D0 (t + 1) i))) (by omega) (by rw [ud_n (by decide), ud_n (by decide)]; exact h10) (by rw [ud_n (by decide), ud_n (by decide)]; exact hM) (by
        intro q hq h1 h2
        rw [ud_n (by decide), ud_s]
        by_cases e : q = i
        · rw [e, pk_us]
          by_cases t1 : t = 1
          · rw [if_pos t1]
          · rw [if_neg t1]; exact h12 i hi (Or.inr (by omega)) h2
        · rw [pk_un e]; exact h12 q hq (by omega) h2) (by
        intro q hq
        rw [ud_s]
        by_cases e : q = i
        · rw [e, pk_us]
        · rw [pk_un e]; exact h13 q (by omega))
    refine ⟨z', A', s.trans y1, MSC_t (MSC_u (MSC_u (MSC_r A) (by decide) _) (by decide) _) y2, ?_, y4, y5⟩
    rw [y3, ud_n (by decide), ud_n (by decide)]
theorem l_ml1 {R N H : Nat} {D0 : Nat → Nat → Int32} (hN : N ≤ 6) (hH : H ≤ 9999) (k : Int32) (h : icH) (m : Nat) (ab be : Int64) (ii : Nat → Int32) : ∀ (n t : Nat) (y z : Value) (A : Nat → Nat → Int32), t + n = 3 → A 1 10 = nI N → MR R N t H D0 (A 2) → (∀ q, q < N → 2 ≤ t → A 12 q = lz R N H D0 2 q) → (∀ q, q < N → 1 ≤ t → A 13 q = lz R N H D0 t q) → ∃ z' A', icE 208 18 [.ref m, .int k, .int (nI (t + 1)), y, z] [] (HM h m ab be ii A) = icE 208 118 [.ref m, .int k, .int (nI 0), .int (nI 0), z'] [] (HM h m ab be ii A') ∧ MSC A A' ∧ (∀ q, q < N → A' 12 q = lz R N H D0 2 q) ∧ (∀ q, q < N → A' 13 q = lz R N H D0 3 q)
  | 0, t, y, z, A, him, h10, hM, h12, h13 => by
    have : t = 3 := by omega
    subst this
    refine ⟨z, A, ?_, MSC_r A, fun q hq => h12 q hq (by omega), fun q hq => h13 q hq (by omega)⟩
    rw [rh_208_18]
    simp only [SA, rw_208, if_pos (nI_le (Nat.le_refl (3 + 1)) (show 3 + 1 < 2 ^ 31 by decide)), if_pos (show nI 4 ≤ nI (3 + 1) by decide)]
  | n + 1, t, y, z, A, him, h10, hM, h12, h13 => by
    obtain ⟨v, T', W', s0, hM'⟩ := MR_step hM (by omega) h m ab be ii
    have e1 : ud (ud A 2 T') 7 W' 1 = A 1 := by rw [ud_n (by decide), ud_n (by decide)]
    have e2 : ud (ud A 2 T') 7 W' 2 = T' := by rw [ud_n (by decide), ud_s]
    have e12 : ud (ud A 2 T') 7 W' 12 = A 12 := by rw [ud_n (by decide), ud_n (by decide)]
    obtain ⟨z1, A1, s1, s2, s3, s4, s5⟩ := l_ml2 (R := R) (H := H) (t := t) (D0 := D0) hN (by omega) k h m ab be ii N 0 z (ud (ud A 2 T') 7 W') (by omega) (by rw [e1]; exact h10) (by rw [e2]; exact hM') (by rw [e12]; exact fun q hq h1 h2 => h12 q hq (by omega)) (fun q hq => absurd hq (Nat.not_lt_zero q))
    obtain ⟨z', A', y1, y2, y3, y4⟩ := l_ml1 hN hH k h m ab be ii n (t + 1) (.int (nI N)) z1 A1 (by omega) (by rw [MSC_1 s2, e1]; exact h10) (by rw [s3, e2]; exact hM') (fun q hq h1 => s4 q hq (by omega)) (fun q hq _ => s5 q hq)
    refine ⟨z', A', ?_, MSC_t (MSC_t (MSC_u (MSC_u (MSC_r A) (by decide) T') (by decide) W') s2) y2, y3, y4⟩
    refine Eq.trans ?_ y1
    refine Eq.trans ?_ s1
    rw [rh_208_18]
    simp only [SA, rw_208, HM_o, if_neg (nI_ge (show t + 1 < 4 by omega) (show 4 < 2 ^ 31 by decide)), s0]
theorem m_sticks {R N H : Nat} {D : Nat → Nat → Int32} {A : Nat → Nat → Int32} (hM : MR R N 0 H D (A 1)) (hH : H ≤ 9999) {k : Int32} (hk : -1 ≤ k) (h : icH) (m : Nat) (ab be : Int64) (ii : Nat → Int32) : ∃ A', icE 208 0 [.ref m, .int k, dum, dum, dum] [] (HM h m ab be ii A) = some (some (.int (stk (rsB R N H D) k N)), HM h m ab be ii A') ∧ MSC A A' := by
  have hN := hM.1.2.2.2.1
  obtain ⟨z', A', y1, y2, y3, y4⟩ := l_ml1 (D0 := D) hN hH k h m ab be ii 3 0 dum dum (ud A 2 (va_cpy (A 1) (A 2) 0 0 56)) (by omega) (by rw [ud_n (by decide)]; exact hM.1.2.1) (by rw [ud_s]; exact MR_lay hM _) (fun q hq h1 => absurd h1 (by decide)) (fun q hq h1 => absurd h1 (by decide))
  have m1 : A' 1 = A 1 := (MSC_1 y2).trans (ud_n (by decide))
  have z := l_mst1 (R := R) (H := H) (D := D) hN (A := A') (by rw [m1]; exact hM.1.2.1) (by rw [m1]; exact fun j hj => MR_11 hM hj) y3 y4 hk h m ab be ii N 0 0 z' (by omega)
  refine ⟨A', ?_, MSC_t (MSC_u (MSC_r A) (by decide) _) y2⟩
  refine Eq.trans ?_ z
  refine Eq.trans ?_ y1
  simp only [SA, rw_208, HM_o, if_pos hk, c_laysAside]
theorem m_sticksB {A : Nat → Nat → Int32} {k : Int32} (hk : ¬ -1 ≤ k) (h : icH) (m : Nat) (ab be : Int64) (ii : Nat → Int32) : icE 208 0 [.ref m, .int k, dum, dum, dum] [] (HM h m ab be ii A) = some (some (.int (-10)), HM h m ab be ii (ud A 6 (upd (A 6) 0 (A 6 0 + nI 1)))) := by
  simp only [SA, rw_208, HM_o, if_neg hk, c_mbad]
