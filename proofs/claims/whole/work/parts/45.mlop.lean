/-! ===== the reference: passes, copies, begins, goes, standing ===== -/
-- cX9_goes: heads [2]
theorem fe_166 (pc : Nat) : fet 166 pc = look k_166 pc := rfl
theorem r_166_0 (L S : List Value) (h : icH) : icE 166 0 L S h = icE 166 1 L (.int (nI 0) :: S) h := icE_eq (i := .iconst 0) (len := 1) (x1 := 0) (x2 := 0) (x3 := 0) (x4 := 64) ((fe_166 0).trans rfl) L S h
theorem r_166_1 (L S : List Value) (h : icH) : icE 166 1 L S h = exe icE 166 (e_istore 2 2 L S h) := icE_eq (i := .istore_n 2) (len := 1) (x1 := 0) (x2 := 0) (x3 := 0) (x4 := 64) ((fe_166 1).trans rfl) L S h
theorem rh_166_2 (L S : List Value) (h : icH) : icE 166 2 L S h = exe icE 166 (e_iload 2 3 L S h) := icE_eq (i := .iload_n 2) (len := 1) (x1 := 0) (x2 := 0) (x3 := 0) (x4 := 64) ((fe_166 2).trans rfl) L S h
theorem r_166_3 (L S : List Value) (h : icH) : icE 166 3 L S h = exe icE 166 (e_iload 1 4 L S h) := icE_eq (i := .iload_n 1) (len := 1) (x1 := 0) (x2 := 0) (x3 := 0) (x4 := 64) ((fe_166 3).trans rfl) L S h
theorem r_166_4 (L S : List Value) (h : icH) : icE 166 4 L S h = exe icE 166 (e_cmp .ge 34 7 L S h) := icE_eq (i := .if_icmp .ge 30) (len := 3) (x1 := 34) (x2 := 0) (x3 := 0) (x4 := 64) ((fe_166 4).trans rfl) L S h
theorem r_166_7 (L S : List Value) (h : icH) : icE 166 7 L S h = exe icE 166 (e_aload 0 8 L S h) := icE_eq (i := .aload_n 0) (len := 1) (x1 := 0) (x2 := 0) (x3 := 0) (x4 := 64) ((fe_166 7).trans rfl) L S h
theorem r_166_8 (L S : List Value) (h : icH) : icE 166 8 L S h = exe icE 166 (e_getf 0 8 11 L S h) := icE_eq (i := .getfield 7) (len := 3) (x1 := 0) (x2 := 8) (x3 := 12) (x4 := 957) ((fe_166 8).trans rfl) L S h
theorem r_166_11 (L S : List Value) (h : icH) : icE 166 11 L S h = icE 166 12 L (.int (nI 0) :: S) h := icE_eq (i := .iconst 0) (len := 1) (x1 := 0) (x2 := 0) (x3 := 0) (x4 := 64) ((fe_166 11).trans rfl) L S h
theorem r_166_12 (L S : List Value) (h : icH) : icE 166 12 L S h = exe icE 166 (e_iald 13 L S h) := icE_eq (i := .iaload) (len := 1) (x1 := 0) (x2 := 0) (x3 := 0) (x4 := 64) ((fe_166 12).trans rfl) L S h
theorem r_166_13 (L S : List Value) (h : icH) : icE 166 13 L S h = icE 166 16 L (.int (nI 9999) :: S) h := icE_eq (i := .sipush 9999) (len := 3) (x1 := 0) (x2 := 0) (x3 := 0) (x4 := 64) ((fe_166 13).trans rfl) L S h
theorem r_166_16 (L S : List Value) (h : icH) : icE 166 16 L S h = exe icE 166 (e_cmp .ge 34 19 L S h) := icE_eq (i := .if_icmp .ge 18) (len := 3) (x1 := 34) (x2 := 0) (x3 := 0) (x4 := 64) ((fe_166 16).trans rfl) L S h
theorem r_166_19 (L S : List Value) (h : icH) : icE 166 19 L S h = exe icE 166 (e_aload 0 20 L S h) := icE_eq (i := .aload_n 0) (len := 1) (x1 := 0) (x2 := 0) (x3 := 0) (x4 := 64) ((fe_166 19).trans rfl) L S h
theorem r_166_20 (L S : List Value) (h : icH) : icE 166 20 L S h = exe icE 166 (e_aload 0 21 L S h) := icE_eq (i := .aload_n 0) (len := 1) (x1 := 0) (x2 := 0) (x3 := 0) (x4 := 64) ((fe_166 20).trans rfl) L S h
theorem r_166_21 (L S : List Value) (h : icH) : icE 166 21 L S h = exe icE 166 (e_getf 0 8 24 L S h) := icE_eq (i := .getfield 7) (len := 3) (x1 := 0) (x2 := 8) (x3 := 12) (x4 := 957) ((fe_166 21).trans rfl) L S h
theorem r_166_24 (L S : List Value) (h : icH) : icE 166 24 L S h = exe icE 166 (e_vcal 8 150 2 1 27 L S h) := icE_eq (i := .invokevirtual 168) (len := 3) (x1 := 150) (x2 := 3) (x3 := 8) (x4 := 1126) ((fe_166 24).trans rfl) L S h
theorem r_166_27 (L S : List Value) (h : icH) : icE 166 27 L S h = exe icE 166 (e_pop 28 L S h) := icE_eq (i := .pop) (len := 1) (x1 := 0) (x2 := 0) (x3 := 0) (x4 := 64) ((fe_166 27).trans rfl) L S h
theorem r_166_28 (L S : List Value) (h : icH) : icE 166 28 L S h = exe icE 166 (e_iinc 2 (nI 1) 31 L S h) := icE_eq (i := .iinc 2 1) (len := 3) (x1 := 0) (x2 := 0) (x3 := 0) (x4 := 64) ((fe_166 28).trans rfl) L S h
theorem r_166_31 (L S : List Value) (h : icH) : icE 166 31 L S h = icE 166 2 L S h := icE_eq (i := .goto (-29)) (len := 3) (x1 := 2) (x2 := 0) (x3 := 0) (x4 := 64) ((fe_166 31).trans rfl) L S h
theorem r_166_34 (L S : List Value) (h : icH) : icE 166 34 L S h = exe icE 166 (e_iload 2 35 L S h) := icE_eq (i := .iload_n 2) (len := 1) (x1 := 0) (x2 := 0) (x3 := 0) (x4 := 64) ((fe_166 34).trans rfl) L S h
theorem r_166_35 (L S : List Value) (h : icH) : icE 166 35 L S h = exe icE 166 (e_iret 0 L S h) := icE_eq (i := .ireturn) (len := 1) (x1 := 0) (x2 := 0) (x3 := 0) (x4 := 64) ((fe_166 35).trans rfl) L S h
theorem rw_166 : (∀ (L S : List Value) (h : icH), icE 166 0 L S h = icE 166 1 L (.int (nI 0) :: S) h) ∧ (∀ (L S : List Value) (h : icH), icE 166 1 L S h = exe icE 166 (e_istore 2 2 L S h)) ∧ (∀ (L S : List Value) (h : icH), icE 166 3 L S h = exe icE 166 (e_iload 1 4 L S h)) ∧ (∀ (L S : List Value) (h : icH), icE 166 4 L S h = exe icE 166 (e_cmp .ge 34 7 L S h)) ∧ (∀ (L S : List Value) (h : icH), icE 166 7 L S h = exe icE 166 (e_aload 0 8 L S h)) ∧ (∀ (L S : List Value) (h : icH), icE 166 8 L S h = exe icE 166 (e_getf 0 8 11 L S h)) ∧ (∀ (L S : List Value) (h : icH), icE 166 11 L S h = icE 166 12 L (.int (nI 0) :: S) h) ∧ (∀ (L S : List Value) (h : icH), icE 166 12 L S h = exe icE 166 (e_iald 13 L S h)) ∧ (∀ (L S : List Value) (h : icH), icE 166 13 L S h = icE 166 16 L (.int (nI 9999) :: S) h) ∧ (∀ (L S : List Value) (h : icH), icE 166 16 L S h = exe icE 166 (e_cmp .ge 34 19 L S h)) ∧ (∀ (L S : List Value) (h : icH), icE 166 19 L S h = exe icE 166 (e_aload 0 20 L S h)) ∧ (∀ (L S : List Value) (h : icH), icE 166 20 L S h = exe icE 166 (e_aload 0 21 L S h)) ∧ (∀ (L S : List Value) (h : icH), icE 166 21 L S h = exe icE 166 (e_getf 0 8 24 L S h)) ∧ (∀ (L S : List Value) (h : icH), icE 166 24 L S h = exe icE 166 (e_vcal 8 150 2 1 27 L S h)) ∧ (∀ (L S : List Value) (h : icH), icE 166 27 L S h = exe icE 166 (e_pop 28 L S h)) ∧ (∀ (L S : List Value) (h : icH), icE 166 28 L S h = exe icE 166 (e_iinc 2 (nI 1) 31 L S h)) ∧ (∀ (L S : List Value) (h : icH), icE 166 31 L S h = icE 166 2 L S h) ∧ (∀ (L S : List Value) (h : icH), icE 166 34 L S h = exe icE 166 (e_iload 2 35 L S h)) ∧ (∀ (L S : List Value) (h : icH), icE 166 35 L S h = exe icE 166 (e_iret 0 L S h)) := ⟨r_166_0, r_166_1, r_166_3, r_166_4, r_166_7, r_166_8, r_166_11, r_166_12, r_166_13, r_166_16, r_166_19, r_166_20, r_166_21, r_166_24, r_166_27, r_166_28, r_166_31, r_166_34, r_166_35⟩
-- cX9_standing: heads [4]
theorem fe_170 (pc : Nat) : fet 170 pc = look k_170 pc := rfl
theorem r_170_0 (L S : List Value) (h : icH) : icE 170 0 L S h = icE 170 1 L (.int (nI 0) :: S) h := icE_eq (i := .iconst 0) (len := 1) (x1 := 0) (x2 := 0) (x3 := 0) (x4 := 64) ((fe_170 0).trans rfl) L S h
theorem r_170_1 (L S : List Value) (h : icH) : icE 170 1 L S h = exe icE 170 (e_istore 2 2 L S h) := icE_eq (i := .istore_n 2) (len := 1) (x1 := 0) (x2 := 0) (x3 := 0) (x4 := 64) ((fe_170 1).trans rfl) L S h
theorem r_170_2 (L S : List Value) (h : icH) : icE 170 2 L S h = icE 170 3 L (.int (nI 0) :: S) h := icE_eq (i := .iconst 0) (len := 1) (x1 := 0) (x2 := 0) (x3 := 0) (x4 := 64) ((fe_170 2).trans rfl) L S h
theorem r_170_3 (L S : List Value) (h : icH) : icE 170 3 L S h = exe icE 170 (e_istore 3 4 L S h) := icE_eq (i := .istore_n 3) (len := 1) (x1 := 0) (x2 := 0) (x3 := 0) (x4 := 64) ((fe_170 3).trans rfl) L S h
theorem rh_170_4 (L S : List Value) (h : icH) : icE 170 4 L S h = exe icE 170 (e_iload 3 5 L S h) := icE_eq (i := .iload_n 3) (len := 1) (x1 := 0) (x2 := 0) (x3 := 0) (x4 := 64) ((fe_170 4).trans rfl) L S h
theorem r_170_5 (L S : List Value) (h : icH) : icE 170 5 L S h = exe icE 170 (e_aload 1 6 L S h) := icE_eq (i := .aload_n 1) (len := 1) (x1 := 0) (x2 := 0) (x3 := 0) (x4 := 64) ((fe_170 5).trans rfl) L S h
theorem r_170_6 (L S : List Value) (h : icH) : icE 170 6 L S h = icE 170 8 L (.int (nI 10) :: S) h := icE_eq (i := .bipush 10) (len := 2) (x1 := 0) (x2 := 0) (x3 := 0) (x4 := 64) ((fe_170 6).trans rfl) L S h
theorem r_170_8 (L S : List Value) (h : icH) : icE 170 8 L S h = exe icE 170 (e_iald 9 L S h) := icE_eq (i := .iaload) (len := 1) (x1 := 0) (x2 := 0) (x3 := 0) (x4 := 64) ((fe_170 8).trans rfl) L S h
theorem r_170_9 (L S : List Value) (h : icH) : icE 170 9 L S h = exe icE 170 (e_cmp .ge 35 12 L S h) := icE_eq (i := .if_icmp .ge 26) (len := 3) (x1 := 35) (x2 := 0) (x3 := 0) (x4 := 64) ((fe_170 9).trans rfl) L S h
theorem r_170_12 (L S : List Value) (h : icH) : icE 170 12 L S h = exe icE 170 (e_iload 2 13 L S h) := icE_eq (i := .iload_n 2) (len := 1) (x1 := 0) (x2 := 0) (x3 := 0) (x4 := 64) ((fe_170 12).trans rfl) L S h
theorem r_170_13 (L S : List Value) (h : icH) : icE 170 13 L S h = exe icE 170 (e_aload 1 14 L S h) := icE_eq (i := .aload_n 1) (len := 1) (x1 := 0) (x2 := 0) (x3 := 0) (x4 := 64) ((fe_170 13).trans rfl) L S h
theorem r_170_14 (L S : List Value) (h : icH) : icE 170 14 L S h = icE 170 16 L (.int (nI 50) :: S) h := icE_eq (i := .bipush 50) (len := 2) (x1 := 0) (x2 := 0) (x3 := 0) (x4 := 64) ((fe_170 14).trans rfl) L S h
theorem r_170_16 (L S : List Value) (h : icH) : icE 170 16 L S h = exe icE 170 (e_iload 3 17 L S h) := icE_eq (i := .iload_n 3) (len := 1) (x1 := 0) (x2 := 0) (x3 := 0) (x4 := 64) ((fe_170 16).trans rfl) L S h
theorem r_170_17 (L S : List Value) (h : icH) : icE 170 17 L S h = exe icE 170 (e_bin (fun x y => x + y) 18 L S h) := icE_eq (i := .iadd) (len := 1) (x1 := 0) (x2 := 0) (x3 := 0) (x4 := 64) ((fe_170 17).trans rfl) L S h
theorem r_170_18 (L S : List Value) (h : icH) : icE 170 18 L S h = exe icE 170 (e_iald 19 L S h) := icE_eq (i := .iaload) (len := 1) (x1 := 0) (x2 := 0) (x3 := 0) (x4 := 64) ((fe_170 18).trans rfl) L S h
theorem r_170_19 (L S : List Value) (h : icH) : icE 170 19 L S h = exe icE 170 (e_if .ne 26 22 L S h) := icE_eq (i := .ifCond .ne 7) (len := 3) (x1 := 26) (x2 := 0) (x3 := 0) (x4 := 64) ((fe_170 19).trans rfl) L S h
theorem r_170_22 (L S : List Value) (h : icH) : icE 170 22 L S h = icE 170 23 L (.int (nI 1) :: S) h := icE_eq (i := .iconst 1) (len := 1) (x1 := 0) (x2 := 0) (x3 := 0) (x4 := 64) ((fe_170 22).trans rfl) L S h
theorem r_170_23 (L S : List Value) (h : icH) : icE 170 23 L S h = icE 170 27 L S h := icE_eq (i := .goto 4) (len := 3) (x1 := 27) (x2 := 0) (x3 := 0) (x4 := 64) ((fe_170 23).trans rfl) L S h
theorem r_170_26 (L S : List Value) (h : icH) : icE 170 26 L S h = icE 170 27 L (.int (nI 0) :: S) h := icE_eq (i := .iconst 0) (len := 1) (x1 := 0) (x2 := 0) (x3 := 0) (x4 := 64) ((fe_170 26).trans rfl) L S h
theorem r_170_27 (L S : List Value) (h : icH) : icE 170 27 L S h = exe icE 170 (e_bin (fun x y => x + y) 28 L S h) := icE_eq (i := .iadd) (len := 1) (x1 := 0) (x2 := 0) (x3 := 0) (x4 := 64) ((fe_170 27).trans rfl) L S h
theorem r_170_28 (L S : List Value) (h : icH) : icE 170 28 L S h = exe icE 170 (e_istore 2 29 L S h) := icE_eq (i := .istore_n 2) (len := 1) (x1 := 0) (x2 := 0) (x3 := 0) (x4 := 64) ((fe_170 28).trans rfl) L S h
theorem r_170_29 (L S : List Value) (h : icH) : icE 170 29 L S h = exe icE 170 (e_iinc 3 (nI 1) 32 L S h) := icE_eq (i := .iinc 3 1) (len := 3) (x1 := 0) (x2 := 0) (x3 := 0) (x4 := 64) ((fe_170 29).trans rfl) L S h
theorem r_170_32 (L S : List Value) (h : icH) : icE 170 32 L S h = icE 170 4 L S h := icE_eq (i := .goto (-28)) (len := 3) (x1 := 4) (x2 := 0) (x3 := 0) (x4 := 64) ((fe_170 32).trans rfl) L S h
theorem r_170_35 (L S : List Value) (h : icH) : icE 170 35 L S h = exe icE 170 (e_iload 2 36 L S h) := icE_eq (i := .iload_n 2) (len := 1) (x1 := 0) (x2 := 0) (x3 := 0) (x4 := 64) ((fe_170 35).trans rfl) L S h
theorem r_170_36 (L S : List Value) (h : icH) : icE 170 36 L S h = exe icE 170 (e_iret 0 L S h) := icE_eq (i := .ireturn) (len := 1) (x1 := 0) (x2 := 0) (x3 := 0) (x4 := 64) ((fe_170 36).trans rfl) L S h
theorem rw_170 : (∀ (L S : List Value) (h : icH), icE 170 0 L S h = icE 170 1 L (.int (nI 0) :: S) h) ∧ (∀ (L S : List Value) (h : icH), icE 170 1 L S h = exe icE 170 (e_istore 2 2 L S h)) ∧ (∀ (L S : List Value) (h : icH), icE 170 2 L S h = icE 170 3 L (.int (nI 0) :: S) h) ∧ (∀ (L S : List Value) (h : icH), icE 170 3 L S h = exe icE 170 (e_istore 3 4 L S h)) ∧ (∀ (L S : List Value) (h : icH), icE 170 5 L S h = exe icE 170 (e_aload 1 6 L S h)) ∧ (∀ (L S : List Value) (h : icH), icE 170 6 L S h = icE 170 8 L (.int (nI 10) :: S) h) ∧ (∀ (L S : List Value) (h : icH), icE 170 8 L S h = exe icE 170 (e_iald 9 L S h)) ∧ (∀ (L S : List Value) (h : icH), icE 170 9 L S h = exe icE 170 (e_cmp .ge 35 12 L S h)) ∧ (∀ (L S : List Value) (h : icH), icE 170 12 L S h = exe icE 170 (e_iload 2 13 L S h)) ∧ (∀ (L S : List Value) (h : icH), icE 170 13 L S h = exe icE 170 (e_aload 1 14 L S h)) ∧ (∀ (L S : List Value) (h : icH), icE 170 14 L S h = icE 170 16 L (.int (nI 50) :: S) h) ∧ (∀ (L S : List Value) (h : icH), icE 170 16 L S h = exe icE 170 (e_iload 3 17 L S h)) ∧ (∀ (L S : List Value) (h : icH), icE 170 17 L S h = exe icE 170 (e_bin (fun x y => x + y) 18 L S h)) ∧ (∀ (L S : List Value) (h : icH), icE 170 18 L S h = exe icE 170 (e_iald 19 L S h)) ∧ (∀ (L S : List Value) (h : icH), icE 170 19 L S h = exe icE 170 (e_if .ne 26 22 L S h)) ∧ (∀ (L S : List Value) (h : icH), icE 170 22 L S h = icE 170 23 L (.int (nI 1) :: S) h) ∧ (∀ (L S : List Value) (h : icH), icE 170 23 L S h = icE 170 27 L S h) ∧ (∀ (L S : List Value) (h : icH), icE 170 26 L S h = icE 170 27 L (.int (nI 0) :: S) h) ∧ (∀ (L S : List Value) (h : icH), icE 170 27 L S h = exe icE 170 (e_bin (fun x y => x + y) 28 L S h)) ∧ (∀ (L S : List Value) (h : icH), icE 170 28 L S h = exe icE 170 (e_istore 2 29 L S h)) ∧ (∀ (L S : List Value) (h : icH), icE 170 29 L S h = exe icE 170 (e_iinc 3 (nI 1) 32 L S h)) ∧ (∀ (L S : List Value) (h : icH), icE 170 32 L S h = icE 170 4 L S h) ∧ (∀ (L S : List Value) (h : icH), icE 170 35 L S h = exe icE 170 (e_iload 2 36 L S h)) ∧ (∀ (L S : List Value) (h : icH), icE 170 36 L S h = exe icE 170 (e_iret 0 L S h)) := ⟨r_170_0, r_170_1, r_170_2, r_170_3, r_170_5, r_170_6, r_170_8, r_170_9, r_170_12, r_170_13, r_170_14, r_170_16, r_170_17, r_170_18, r_170_19, r_170_22, r_170_23, r_170_26, r_170_27, r_170_28, r_170_29, r_170_32, r_170_35, r_170_36⟩
-- cX9_laysAside: heads []
theorem fe_180 (pc : Nat) : fet 180 pc = look k_180 pc := rfl
theorem r_180_0 (L S : List Value) (h : icH) : icE 180 0 L S h = exe icE 180 (e_aload 0 1 L S h) := icE_eq (i := .aload_n 0) (len := 1) (x1 := 0) (x2 := 0) (x3 := 0) (x4 := 64) ((fe_180 0).trans rfl) L S h
theorem r_180_1 (L S : List Value) (h : icH) : icE 180 1 L S h = exe icE 180 (e_getf 0 8 4 L S h) := icE_eq (i := .getfield 7) (len := 3) (x1 := 0) (x2 := 8) (x3 := 12) (x4 := 957) ((fe_180 1).trans rfl) L S h
theorem r_180_4 (L S : List Value) (h : icH) : icE 180 4 L S h = icE 180 5 L (.int (nI 0) :: S) h := icE_eq (i := .iconst 0) (len := 1) (x1 := 0) (x2 := 0) (x3 := 0) (x4 := 64) ((fe_180 4).trans rfl) L S h
theorem r_180_5 (L S : List Value) (h : icH) : icE 180 5 L S h = exe icE 180 (e_aload 0 6 L S h) := icE_eq (i := .aload_n 0) (len := 1) (x1 := 0) (x2 := 0) (x3 := 0) (x4 := 64) ((fe_180 5).trans rfl) L S h
theorem r_180_6 (L S : List Value) (h : icH) : icE 180 6 L S h = exe icE 180 (e_getf 1 8 9 L S h) := icE_eq (i := .getfield 13) (len := 3) (x1 := 1) (x2 := 8) (x3 := 12) (x4 := 958) ((fe_180 6).trans rfl) L S h
theorem r_180_9 (L S : List Value) (h : icH) : icE 180 9 L S h = icE 180 10 L (.int (nI 0) :: S) h := icE_eq (i := .iconst 0) (len := 1) (x1 := 0) (x2 := 0) (x3 := 0) (x4 := 64) ((fe_180 9).trans rfl) L S h
theorem r_180_10 (L S : List Value) (h : icH) : icE 180 10 L S h = icE 180 12 L (.int (nI 56) :: S) h := icE_eq (i := .bipush 56) (len := 2) (x1 := 0) (x2 := 0) (x3 := 0) (x4 := 64) ((fe_180 10).trans rfl) L S h
theorem r_180_12 (L S : List Value) (h : icH) : icE 180 12 L S h = exe icE 180 (e_call 138 6 5 15 L S h) := icE_eq (i := .invokestatic 178) (len := 3) (x1 := 138) (x2 := 1) (x3 := 0) (x4 := 1087) ((fe_180 12).trans rfl) L S h
theorem r_180_15 (L S : List Value) (h : icH) : icE 180 15 L S h = exe icE 180 (e_vret L S h) := icE_eq (i := .return_) (len := 1) (x1 := 0) (x2 := 0) (x3 := 0) (x4 := 64) ((fe_180 15).trans rfl) L S h
theorem rw_180 : (∀ (L S : List Value) (h : icH), icE 180 0 L S h = exe icE 180 (e_aload 0 1 L S h)) ∧ (∀ (L S : List Value) (h : icH), icE 180 1 L S h = exe icE 180 (e_getf 0 8 4 L S h)) ∧ (∀ (L S : List Value) (h : icH), icE 180 4 L S h = icE 180 5 L (.int (nI 0) :: S) h) ∧ (∀ (L S : List Value) (h : icH), icE 180 5 L S h = exe icE 180 (e_aload 0 6 L S h)) ∧ (∀ (L S : List Value) (h : icH), icE 180 6 L S h = exe icE 180 (e_getf 1 8 9 L S h)) ∧ (∀ (L S : List Value) (h : icH), icE 180 9 L S h = icE 180 10 L (.int (nI 0) :: S) h) ∧ (∀ (L S : List Value) (h : icH), icE 180 10 L S h = icE 180 12 L (.int (nI 56) :: S) h) ∧ (∀ (L S : List Value) (h : icH), icE 180 12 L S h = exe icE 180 (e_call 138 6 5 15 L S h)) ∧ (∀ (L S : List Value) (h : icH), icE 180 15 L S h = exe icE 180 (e_vret L S h)) := ⟨r_180_0, r_180_1, r_180_4, r_180_5, r_180_6, r_180_9, r_180_10, r_180_12, r_180_15⟩
theorem c_passes {t R N H : Nat} (ht : t = 1 ∨ t = 2) (h : icH) (m : Nat) (ab be : Int64) (ii : Nat → Int32) {A : Nat → Nat → Int32} (hT : TOK R N (A t)) (hH : A t 0 = nI H) (hb : H + 1 < 2 ^ 31) : icE 150 0 [.ref m, .ref (m + t)] [] (HM h m ab be ii A) = some (some (.int (nI (cfh (vw (upd (A t) 0 (nI (H + 1))) (A 7)) (A t (1 + (H + 1) % 8)) N))), HM h m ab be ii (ud (ud A t (mh (upd (A t) 0 (nI (H + 1))) (A 7) (A t (1 + (H + 1) % 8)) R N)) 7 (m7 (upd (A t) 0 (nI (H + 1))) (A 7) (A t (1 + (H + 1) % 8)) R))) := by
  have hm := ms_t ht
  simp only [SA, rw_150, HM_o, HMt ht, ia_n (show 0 < ms t by omega) hm.2, hH, nI_add, c_warmthOf ht hb, c_passesBy ht (A t (1 + (H + 1) % 8)) h m ab be ii hT hH]
theorem l_copies {a b na nb sp dp n : Nat} (hab : a ≠ b) (hs : sp + n ≤ na) (hd : dp + n ≤ nb) (hna : na < 2 ^ 31) (hnb : nb < 2 ^ 31) (f : Nat → Int32) : ∀ (k i : Nat) (g : Nat → Int32) (h : icH), i + k = n → hg h a = some (ai na f) → hg h b = some (ai nb g) → icE 138 3 [.ref a, .int (nI sp), .ref b, .int (nI dp), .int (nI n), .int (nI i)] [] h = some (none, hput h b (ai nb (va_cpy f g (sp + i) (dp + i) (n - i))))
  | 0, i, g, h, hik, Ha, Hb => by
    have : i = n := by omega
    subst this
    have e : va_cpy f g (sp + i) (dp + i) (i - i) = g := by
      funext j
      exact pk_cpy_out (by omega)
    rw [rh_138_3]
    simp only [SA, rw_138, if_pos (nI_le (Nat.le_refl i) (show i < 2 ^ 31 by omega)), e, hp_id Hb]
  | k + 1, i, g, h, hik, Ha, Hb => by
    rw [rh_138_3]
    simp only [SA, rw_138, if_neg (nI_ge (show i < n by omega) (show n < 2 ^ 31 by omega)), nI_add, Ha, Hb, ia_n (show sp + i < na by omega) hna, is_n (show dp + i < nb by omega) hnb]
    rw [l_copies hab hs hd hna hnb f k (i + 1) (upd g (dp + i) (f (sp + i))) _ (by omega) ((hg_n hab).trans Ha) (hg_s _ _ _), hp_p]
    congr 3
    congr 1
    funext j
    by_cases h1 : j = dp + i
    · subst h1
      rw [pk_cpy_out (by omega), upd_s, pk_cpy_in (by omega) (by omega)]
      congr 1
      omega
    · by_cases h2 : dp + i ≤ j ∧ j < dp + i + (n - i)
      · rw [pk_cpy_in (by omega) (by omega), pk_cpy_in (by omega) (by omega)]
        congr 1
        omega
      · rw [pk_cpy_out (by omega), pk_cpy_out (by omega), upd_n h1]
theorem c_copies {a b na nb sp dp n : Nat} (hab : a ≠ b) (hs : sp + n ≤ na) (hd : dp + n ≤ nb) (hna : na < 2 ^ 31) (hnb : nb < 2 ^ 31) {f g : Nat → Int32} {h : icH} (Ha : hg h a = some (ai na f)) (Hb : hg h b = some (ai nb g)) : icE 138 0 [.ref a, .int (nI sp), .ref b, .int (nI dp), .int (nI n), dum] [] h = some (none, hput h b (ai nb (va_cpy f g sp dp n))) := by
  simp only [SA, rw_138]
  exact l_copies hab hs hd hna hnb f n 0 g h (by omega) Ha Hb
theorem c_laysAside (h : icH) (m : Nat) (ab be : Int64) (ii : Nat → Int32) (A : Nat → Nat → Int32) : icE 180 0 [.ref m] [] (HM h m ab be ii A) = some (none, HM h m ab be ii (ud A 2 (va_cpy (A 1) (A 2) 0 0 56))) := by
  have c := c_copies (a := m + 1) (b := m + 2) (sp := 0) (dp := 0) (n := 56) (by omega) (show 0 + 56 ≤ 292 by decide) (show 0 + 56 ≤ 56 by decide) (by decide) (by decide) (HMr.1 h m ab be ii A) (HMr.2.1 h m ab be ii A)
  simp only [SA, rw_180, HM_o, HMr, c, HMw]
theorem l_begins1 (w : Int32) (h : icH) (m : Nat) (ab be : Int64) (ii : Nat → Int32) : ∀ (k i : Nat) (A : Nat → Nat → Int32), i + k = 292 → icE 151 2 [.ref m, .int w, .int (nI i)] [] (HM h m ab be ii A) = icE 151 24 [.ref m, .int w, .int (nI 0)] [] (HM h m ab be ii (ud A 1 (fil (A 1) (nI 0) i 292)))
  | 0, i, A, hik => by
    have : i = 292 := by omega
    subst this
    rw [rh_151_2]
    simp only [SA, rw_151, if_pos (nI_le (Nat.le_refl 292) (show 292 < 2 ^ 31 by decide)), fil_n, ud_id]
  | k + 1, i, A, hik => by
    rw [rh_151_2]
    simp only [SA, rw_151, HM_o, HMr, if_neg (nI_ge (show i < 292 by omega) (show 292 < 2 ^ 31 by decide)), is_n (show i < 292 by omega) (show 292 < 2 ^ 31 by decide), HMw, nI_add]
    rw [l_begins1 w h m ab be ii k (i + 1) _ (by omega), ud_s, ud_u, fil_s (by omega)]
theorem l_begins2 (w : Int32) (h : icH) (m : Nat) (ab be : Int64) (ii : Nat → Int32) : ∀ (k i : Nat) (A : Nat → Nat → Int32), i + k = 8 → icE 151 24 [.ref m, .int w, .int (nI i)] [] (HM h m ab be ii A) = some (none, HM h m ab be ii (ud A 1 (fil (A 1) w (1 + i) 9)))
  | 0, i, A, hik => by
    have : i = 8 := by omega
    subst this
    rw [rh_151_24]
    have e : fil (A 1) w (1 + 8) 9 = A 1 := fil_n _ _ _
    simp only [SA, rw_151, if_pos (nI_le (Nat.le_refl 8) (show 8 < 2 ^ 31 by decide)), e, ud_id]
  | k + 1, i, A, hik => by
    rw [rh_151_24]
    simp only [SA, rw_151, HM_o, HMr, if_neg (nI_ge (show i < 8 by omega) (show 8 < 2 ^ 31 by decide)), is_n (show 1 + i < 292 by omega) (show 292 < 2 ^ 31 by decide), HMw, nI_add]
    rw [l_begins2 w h m ab be ii k (i + 1) _ (by omega), ud_s, ud_u, ← Nat.add_assoc, fil_s (by omega)]
theorem c_begins (w : Int32) (h : icH) (m : Nat) (ab be : Int64) (ii : Nat → Int32) (A : Nat → Nat → Int32) : icE 151 0 [.ref m, .int w, dum] [] (HM h m ab be ii A) = some (none, HM h m ab be ii (ud A 1 (fil (fil (A 1) (nI 0) 0 292) w 1 9))) := by
  simp only [SA, rw_151]
  rw [l_begins1 w h m ab be ii 292 0 A (by omega), l_begins2 w h m ab be ii 8 0 _ (by omega), ud_s, ud_u]
def cnt (T : Nat → Int32) : Nat → Nat
  | 0 => 0
  | n + 1 => cnt T n + (if T (50 + n) = 0 then 1 else 0)
theorem l_standing {t N : Nat} (ht : t = 1 ∨ t = 2) (h : icH) (m : Nat) (ab be : Int64) (ii : Nat → Int32) (A : Nat → Nat → Int32) (hN : A t 10 = nI N) (hN6 : N ≤ 6) : ∀ (k i : Nat), i + k = N → icE 170 4 [.ref m, .ref (m + t), .int (nI (cnt (A t) i)), .int (nI i)] [] (HM h m ab be ii A) = some (some (.int (nI (cnt (A t) N))), HM h m ab be ii A)
  | 0, i, hik => by
    have : i = N := by omega
    subst this
    have hm := ms_t ht
    rw [rh_170_4]
    simp only [SA, rw_170, HMt ht, ia_n (show 10 < ms t by omega) hm.2, hN, if_pos (nI_le (Nat.le_refl i) (show i < 2 ^ 31 by omega))]
  | k + 1, i, hik => by
    have ih := l_standing ht h m ab be ii A hN hN6 k (i + 1) (by omega)
    have hm := ms_t ht
    have e : cnt (A t) (i + 1) = cnt (A t) i + (if A t (50 + i) = 0 then 1 else 0) := rfl
    rw [e] at ih
    rw [rh_170_4]
    by_cases h0 : A t (50 + i) = 0
    · rw [if_pos h0] at ih
      simp only [SA, rw_170, HMt ht, ia_n (show 10 < ms t by omega) hm.2, hN, if_neg (nI_ge (show i < N by omega) (show N < 2 ^ 31 by omega)), nI_add, ia_n (show 50 + i < ms t by omega) hm.2, if_pos h0]
      exact ih
    · rw [if_neg h0] at ih
      simp only [SA, rw_170, HMt ht, ia_n (show 10 < ms t by omega) hm.2, hN, if_neg (nI_ge (show i < N by omega) (show N < 2 ^ 31 by omega)), nI_add, ia_n (show 50 + i < ms t by omega) hm.2, if_neg h0]
      exact ih
theorem c_standing {t N : Nat} (ht : t = 1 ∨ t = 2) (h : icH) (m : Nat) (ab be : Int64) (ii : Nat → Int32) {A : Nat → Nat → Int32} (hN : A t 10 = nI N) (hN6 : N ≤ 6) : icE 170 0 [.ref m, .ref (m + t), dum, dum] [] (HM h m ab be ii A) = some (some (.int (nI (cnt (A t) N))), HM h m ab be ii A) := by
  simp only [SA, rw_170]
  exact l_standing ht h m ab be ii A hN hN6 N 0 (by omega)
theorem popc_lb (D : Nat → Nat → Int32) (v : Int32) : ∀ (b0 b1 b2 b3 b4 b5 : Nat), b0 < 2 → b1 < 2 → b2 < 2 → b3 < 2 → b4 < 2 → b5 < 2 → popc (b0 + 2 * b1 + 4 * b2 + 8 * b3 + 16 * b4 + 32 * b5) = b0 + b1 + b2 + b3 + b4 + b5 := by
  intro b0 b1 b2 b3 b4 b5 h0 h1 h2 h3 h4 h5
  unfold popc
  omega
def ctD (D : Nat → Nat → Int32) (v : Int32) : Nat → Nat
  | 0 => 0
  | n + 1 => ctD D v n + (if D 11 n = v then 1 else 0)
theorem lb_b (D : Nat → Nat → Int32) (v : Int32) {N : Nat} (hN : N ≤ 6) : ∃ b0 b1 b2 b3 b4 b5 : Nat, b0 < 2 ∧ b1 < 2 ∧ b2 < 2 ∧ b3 < 2 ∧ b4 < 2 ∧ b5 < 2 ∧ lb D v N = b0 + 2 * b1 + 4 * b2 + 8 * b3 + 16 * b4 + 32 * b5 ∧ ctD D v N = b0 + b1 + b2 + b3 + b4 + b5 := by
  refine ⟨if 0 < N ∧ D 11 0 = v then 1 else 0, if 1 < N ∧ D 11 1 = v then 1 else 0, if 2 < N ∧ D 11 2 = v then 1 else 0, if 3 < N ∧ D 11 3 = v then 1 else 0, if 4 < N ∧ D 11 4 = v then 1 else 0, if 5 < N ∧ D 11 5 = v then 1 else 0, by split <;> omega, by split <;> omega, by split <;> omega, by split <;> omega, by split <;> omega, by split <;> omega, ?_, ?_⟩
  · have : N = 0 ∨ N = 1 ∨ N = 2 ∨ N = 3 ∨ N = 4 ∨ N = 5 ∨ N = 6 := by omega
    rcases this with rfl | rfl | rfl | rfl | rfl | rfl | rfl <;> simp only [lb, Nat.reduceLT, false_and, true_and, if_false] <;> (repeat' split) <;> omega
  · have : N = 0 ∨ N = 1 ∨ N = 2 ∨ N = 3 ∨ N = 4 ∨ N = 5 ∨ N = 6 := by omega
    rcases this with rfl | rfl | rfl | rfl | rfl | rfl | rfl <;> simp only [ctD, Nat.reduceLT, false_and, true_and, if_false] <;> omega
theorem popc_ct {N : Nat} (hN : N ≤ 6) (D : Nat → Nat → Int32) (v : Int32) : popc (lb D v N) = ctD D v N := by
  obtain ⟨b0, b1, b2, b3, b4, b5, h0, h1, h2, h3, h4, h5, e1, e2⟩ := lb_b D v hN
  rw [e1, e2]
  exact popc_lb D v b0 b1 b2 b3 b4 b5 h0 h1 h2 h3 h4 h5
