/-! ===== the class: what fits, the next look ===== -/
-- cX1_fitting: heads [5]
theorem fe_21 (pc : Nat) : fet 21 pc = look k_21 pc := rfl
theorem r_21_0 (L S : List Value) (h : icH) : icE 21 0 L S h = icE 21 1 L (.int (nI 0) :: S) h := icE_eq (i := .iconst 0) (len := 1) (x1 := 0) (x2 := 0) (x3 := 0) (x4 := 64) ((fe_21 0).trans rfl) L S h
theorem r_21_1 (L S : List Value) (h : icH) : icE 21 1 L S h = exe icE 21 (e_istore 3 2 L S h) := icE_eq (i := .istore_n 3) (len := 1) (x1 := 0) (x2 := 0) (x3 := 0) (x4 := 64) ((fe_21 1).trans rfl) L S h
theorem r_21_2 (L S : List Value) (h : icH) : icE 21 2 L S h = icE 21 3 L (.int (nI 0) :: S) h := icE_eq (i := .iconst 0) (len := 1) (x1 := 0) (x2 := 0) (x3 := 0) (x4 := 64) ((fe_21 2).trans rfl) L S h
theorem r_21_3 (L S : List Value) (h : icH) : icE 21 3 L S h = exe icE 21 (e_istore 4 5 L S h) := icE_eq (i := .istore 4) (len := 2) (x1 := 0) (x2 := 0) (x3 := 0) (x4 := 64) ((fe_21 3).trans rfl) L S h
theorem rh_21_5 (L S : List Value) (h : icH) : icE 21 5 L S h = exe icE 21 (e_iload 4 7 L S h) := icE_eq (i := .iload 4) (len := 2) (x1 := 0) (x2 := 0) (x3 := 0) (x4 := 64) ((fe_21 5).trans rfl) L S h
theorem r_21_7 (L S : List Value) (h : icH) : icE 21 7 L S h = exe icE 21 (e_aload 0 8 L S h) := icE_eq (i := .aload_n 0) (len := 1) (x1 := 0) (x2 := 0) (x3 := 0) (x4 := 64) ((fe_21 7).trans rfl) L S h
theorem r_21_8 (L S : List Value) (h : icH) : icE 21 8 L S h = exe icE 21 (e_getf 0 9 11 L S h) := icE_eq (i := .getfield 15) (len := 3) (x1 := 0) (x2 := 9) (x3 := 12) (x4 := 263) ((fe_21 8).trans rfl) L S h
theorem r_21_11 (L S : List Value) (h : icH) : icE 21 11 L S h = exe icE 21 (e_alen 12 L S h) := icE_eq (i := .arraylength) (len := 1) (x1 := 0) (x2 := 0) (x3 := 0) (x4 := 64) ((fe_21 11).trans rfl) L S h
theorem r_21_12 (L S : List Value) (h : icH) : icE 21 12 L S h = exe icE 21 (e_cmp .ge 39 15 L S h) := icE_eq (i := .if_icmp .ge 27) (len := 3) (x1 := 39) (x2 := 0) (x3 := 0) (x4 := 64) ((fe_21 12).trans rfl) L S h
theorem r_21_15 (L S : List Value) (h : icH) : icE 21 15 L S h = exe icE 21 (e_aload 0 16 L S h) := icE_eq (i := .aload_n 0) (len := 1) (x1 := 0) (x2 := 0) (x3 := 0) (x4 := 64) ((fe_21 15).trans rfl) L S h
theorem r_21_16 (L S : List Value) (h : icH) : icE 21 16 L S h = exe icE 21 (e_aload 1 17 L S h) := icE_eq (i := .aload_n 1) (len := 1) (x1 := 0) (x2 := 0) (x3 := 0) (x4 := 64) ((fe_21 16).trans rfl) L S h
theorem r_21_17 (L S : List Value) (h : icH) : icE 21 17 L S h = exe icE 21 (e_iload 2 18 L S h) := icE_eq (i := .iload_n 2) (len := 1) (x1 := 0) (x2 := 0) (x3 := 0) (x4 := 64) ((fe_21 17).trans rfl) L S h
theorem r_21_18 (L S : List Value) (h : icH) : icE 21 18 L S h = exe icE 21 (e_iload 4 20 L S h) := icE_eq (i := .iload 4) (len := 2) (x1 := 0) (x2 := 0) (x3 := 0) (x4 := 64) ((fe_21 18).trans rfl) L S h
theorem r_21_20 (L S : List Value) (h : icH) : icE 21 20 L S h = exe icE 21 (e_vcal 9 22 6 3 23 L S h) := icE_eq (i := .invokevirtual 28) (len := 3) (x1 := 22) (x2 := 4) (x3 := 0) (x4 := 759) ((fe_21 20).trans rfl) L S h
theorem r_21_23 (L S : List Value) (h : icH) : icE 21 23 L S h = exe icE 21 (e_if .eq 33 26 L S h) := icE_eq (i := .ifCond .eq 10) (len := 3) (x1 := 33) (x2 := 0) (x3 := 0) (x4 := 64) ((fe_21 23).trans rfl) L S h
theorem r_21_26 (L S : List Value) (h : icH) : icE 21 26 L S h = exe icE 21 (e_iload 3 27 L S h) := icE_eq (i := .iload_n 3) (len := 1) (x1 := 0) (x2 := 0) (x3 := 0) (x4 := 64) ((fe_21 26).trans rfl) L S h
theorem r_21_27 (L S : List Value) (h : icH) : icE 21 27 L S h = icE 21 28 L (.int (nI 1) :: S) h := icE_eq (i := .iconst 1) (len := 1) (x1 := 0) (x2 := 0) (x3 := 0) (x4 := 64) ((fe_21 27).trans rfl) L S h
theorem r_21_28 (L S : List Value) (h : icH) : icE 21 28 L S h = exe icE 21 (e_iload 4 30 L S h) := icE_eq (i := .iload 4) (len := 2) (x1 := 0) (x2 := 0) (x3 := 0) (x4 := 64) ((fe_21 28).trans rfl) L S h
theorem r_21_30 (L S : List Value) (h : icH) : icE 21 30 L S h = exe icE 21 (e_bin (fun x y => x <<< (y &&& 31)) 31 L S h) := icE_eq (i := .ishl) (len := 1) (x1 := 0) (x2 := 0) (x3 := 0) (x4 := 64) ((fe_21 30).trans rfl) L S h
theorem r_21_31 (L S : List Value) (h : icH) : icE 21 31 L S h = exe icE 21 (e_bin (fun x y => x ||| y) 32 L S h) := icE_eq (i := .ior) (len := 1) (x1 := 0) (x2 := 0) (x3 := 0) (x4 := 64) ((fe_21 31).trans rfl) L S h
theorem r_21_32 (L S : List Value) (h : icH) : icE 21 32 L S h = exe icE 21 (e_istore 3 33 L S h) := icE_eq (i := .istore_n 3) (len := 1) (x1 := 0) (x2 := 0) (x3 := 0) (x4 := 64) ((fe_21 32).trans rfl) L S h
theorem r_21_33 (L S : List Value) (h : icH) : icE 21 33 L S h = exe icE 21 (e_iinc 4 (nI 1) 36 L S h) := icE_eq (i := .iinc 4 1) (len := 3) (x1 := 0) (x2 := 0) (x3 := 0) (x4 := 64) ((fe_21 33).trans rfl) L S h
theorem r_21_36 (L S : List Value) (h : icH) : icE 21 36 L S h = icE 21 5 L S h := icE_eq (i := .goto (-31)) (len := 3) (x1 := 5) (x2 := 0) (x3 := 0) (x4 := 64) ((fe_21 36).trans rfl) L S h
theorem r_21_39 (L S : List Value) (h : icH) : icE 21 39 L S h = exe icE 21 (e_iload 3 40 L S h) := icE_eq (i := .iload_n 3) (len := 1) (x1 := 0) (x2 := 0) (x3 := 0) (x4 := 64) ((fe_21 39).trans rfl) L S h
theorem r_21_40 (L S : List Value) (h : icH) : icE 21 40 L S h = exe icE 21 (e_iret 0 L S h) := icE_eq (i := .ireturn) (len := 1) (x1 := 0) (x2 := 0) (x3 := 0) (x4 := 64) ((fe_21 40).trans rfl) L S h
theorem rw_21 : (∀ (L S : List Value) (h : icH), icE 21 0 L S h = icE 21 1 L (.int (nI 0) :: S) h) ∧ (∀ (L S : List Value) (h : icH), icE 21 1 L S h = exe icE 21 (e_istore 3 2 L S h)) ∧ (∀ (L S : List Value) (h : icH), icE 21 2 L S h = icE 21 3 L (.int (nI 0) :: S) h) ∧ (∀ (L S : List Value) (h : icH), icE 21 3 L S h = exe icE 21 (e_istore 4 5 L S h)) ∧ (∀ (L S : List Value) (h : icH), icE 21 7 L S h = exe icE 21 (e_aload 0 8 L S h)) ∧ (∀ (L S : List Value) (h : icH), icE 21 8 L S h = exe icE 21 (e_getf 0 9 11 L S h)) ∧ (∀ (L S : List Value) (h : icH), icE 21 11 L S h = exe icE 21 (e_alen 12 L S h)) ∧ (∀ (L S : List Value) (h : icH), icE 21 12 L S h = exe icE 21 (e_cmp .ge 39 15 L S h)) ∧ (∀ (L S : List Value) (h : icH), icE 21 15 L S h = exe icE 21 (e_aload 0 16 L S h)) ∧ (∀ (L S : List Value) (h : icH), icE 21 16 L S h = exe icE 21 (e_aload 1 17 L S h)) ∧ (∀ (L S : List Value) (h : icH), icE 21 17 L S h = exe icE 21 (e_iload 2 18 L S h)) ∧ (∀ (L S : List Value) (h : icH), icE 21 18 L S h = exe icE 21 (e_iload 4 20 L S h)) ∧ (∀ (L S : List Value) (h : icH), icE 21 20 L S h = exe icE 21 (e_vcal 9 22 6 3 23 L S h)) ∧ (∀ (L S : List Value) (h : icH), icE 21 23 L S h = exe icE 21 (e_if .eq 33 26 L S h)) ∧ (∀ (L S : List Value) (h : icH), icE 21 26 L S h = exe icE 21 (e_iload 3 27 L S h)) ∧ (∀ (L S : List Value) (h : icH), icE 21 27 L S h = icE 21 28 L (.int (nI 1) :: S) h) ∧ (∀ (L S : List Value) (h : icH), icE 21 28 L S h = exe icE 21 (e_iload 4 30 L S h)) ∧ (∀ (L S : List Value) (h : icH), icE 21 30 L S h = exe icE 21 (e_bin (fun x y => x <<< (y &&& 31)) 31 L S h)) ∧ (∀ (L S : List Value) (h : icH), icE 21 31 L S h = exe icE 21 (e_bin (fun x y => x ||| y) 32 L S h)) ∧ (∀ (L S : List Value) (h : icH), icE 21 32 L S h = exe icE 21 (e_istore 3 33 L S h)) ∧ (∀ (L S : List Value) (h : icH), icE 21 33 L S h = exe icE 21 (e_iinc 4 (nI 1) 36 L S h)) ∧ (∀ (L S : List Value) (h : icH), icE 21 36 L S h = icE 21 5 L S h) ∧ (∀ (L S : List Value) (h : icH), icE 21 39 L S h = exe icE 21 (e_iload 3 40 L S h)) ∧ (∀ (L S : List Value) (h : icH), icE 21 40 L S h = exe icE 21 (e_iret 0 L S h)) := ⟨r_21_0, r_21_1, r_21_2, r_21_3, r_21_7, r_21_8, r_21_11, r_21_12, r_21_15, r_21_16, r_21_17, r_21_18, r_21_20, r_21_23, r_21_26, r_21_27, r_21_28, r_21_30, r_21_31, r_21_32, r_21_33, r_21_36, r_21_39, r_21_40⟩
-- cX1_fits: heads [10]
theorem fe_22 (pc : Nat) : fet 22 pc = look k_22 pc := rfl
theorem r_22_0 (L S : List Value) (h : icH) : icE 22 0 L S h = exe icE 22 (e_aload 0 1 L S h) := icE_eq (i := .aload_n 0) (len := 1) (x1 := 0) (x2 := 0) (x3 := 0) (x4 := 64) ((fe_22 0).trans rfl) L S h
theorem r_22_1 (L S : List Value) (h : icH) : icE 22 1 L S h = exe icE 22 (e_aload 1 2 L S h) := icE_eq (i := .aload_n 1) (len := 1) (x1 := 0) (x2 := 0) (x3 := 0) (x4 := 64) ((fe_22 1).trans rfl) L S h
theorem r_22_2 (L S : List Value) (h : icH) : icE 22 2 L S h = exe icE 22 (e_abst 26 35 39 2 2 2 1 5 L S h) := icE_eq (i := .invokevirtual 32) (len := 3) (x1 := 26) (x2 := 7) (x3 := 0) (x4 := 763) ((fe_22 2).trans rfl) L S h
theorem r_22_5 (L S : List Value) (h : icH) : icE 22 5 L S h = exe icE 22 (e_astore 4 7 L S h) := icE_eq (i := .astore 4) (len := 2) (x1 := 0) (x2 := 0) (x3 := 0) (x4 := 64) ((fe_22 5).trans rfl) L S h
theorem r_22_7 (L S : List Value) (h : icH) : icE 22 7 L S h = icE 22 8 L (.int (nI 0) :: S) h := icE_eq (i := .iconst 0) (len := 1) (x1 := 0) (x2 := 0) (x3 := 0) (x4 := 64) ((fe_22 7).trans rfl) L S h
theorem r_22_8 (L S : List Value) (h : icH) : icE 22 8 L S h = exe icE 22 (e_istore 5 10 L S h) := icE_eq (i := .istore 5) (len := 2) (x1 := 0) (x2 := 0) (x3 := 0) (x4 := 64) ((fe_22 8).trans rfl) L S h
theorem rh_22_10 (L S : List Value) (h : icH) : icE 22 10 L S h = exe icE 22 (e_iload 5 12 L S h) := icE_eq (i := .iload 5) (len := 2) (x1 := 0) (x2 := 0) (x3 := 0) (x4 := 64) ((fe_22 10).trans rfl) L S h
theorem r_22_12 (L S : List Value) (h : icH) : icE 22 12 L S h = exe icE 22 (e_aload 4 14 L S h) := icE_eq (i := .aload 4) (len := 2) (x1 := 0) (x2 := 0) (x3 := 0) (x4 := 64) ((fe_22 12).trans rfl) L S h
theorem r_22_14 (L S : List Value) (h : icH) : icE 22 14 L S h = exe icE 22 (e_vcal 5 43 1 0 17 L S h) := icE_eq (i := .invokevirtual 36) (len := 3) (x1 := 43) (x2 := 3) (x3 := 5) (x4 := 775) ((fe_22 14).trans rfl) L S h
theorem r_22_17 (L S : List Value) (h : icH) : icE 22 17 L S h = exe icE 22 (e_cmp .ge 58 20 L S h) := icE_eq (i := .if_icmp .ge 41) (len := 3) (x1 := 58) (x2 := 0) (x3 := 0) (x4 := 64) ((fe_22 17).trans rfl) L S h
theorem r_22_20 (L S : List Value) (h : icH) : icE 22 20 L S h = exe icE 22 (e_aload 4 22 L S h) := icE_eq (i := .aload 4) (len := 2) (x1 := 0) (x2 := 0) (x3 := 0) (x4 := 64) ((fe_22 20).trans rfl) L S h
theorem r_22_22 (L S : List Value) (h : icH) : icE 22 22 L S h = exe icE 22 (e_iload 5 24 L S h) := icE_eq (i := .iload 5) (len := 2) (x1 := 0) (x2 := 0) (x3 := 0) (x4 := 64) ((fe_22 22).trans rfl) L S h
theorem r_22_24 (L S : List Value) (h : icH) : icE 22 24 L S h = icE 22 25 L (.int (nI 0) :: S) h := icE_eq (i := .iconst 0) (len := 1) (x1 := 0) (x2 := 0) (x3 := 0) (x4 := 64) ((fe_22 24).trans rfl) L S h
theorem r_22_25 (L S : List Value) (h : icH) : icE 22 25 L S h = exe icE 22 (e_vcal 5 45 4 2 28 L S h) := icE_eq (i := .invokevirtual 42) (len := 3) (x1 := 45) (x2 := 3) (x3 := 5) (x4 := 776) ((fe_22 25).trans rfl) L S h
theorem r_22_28 (L S : List Value) (h : icH) : icE 22 28 L S h = exe icE 22 (e_iload 2 29 L S h) := icE_eq (i := .iload_n 2) (len := 1) (x1 := 0) (x2 := 0) (x3 := 0) (x4 := 64) ((fe_22 28).trans rfl) L S h
theorem r_22_29 (L S : List Value) (h : icH) : icE 22 29 L S h = exe icE 22 (e_cmp .ne 52 32 L S h) := icE_eq (i := .if_icmp .ne 23) (len := 3) (x1 := 52) (x2 := 0) (x3 := 0) (x4 := 64) ((fe_22 29).trans rfl) L S h
theorem r_22_32 (L S : List Value) (h : icH) : icE 22 32 L S h = exe icE 22 (e_aload 0 33 L S h) := icE_eq (i := .aload_n 0) (len := 1) (x1 := 0) (x2 := 0) (x3 := 0) (x4 := 64) ((fe_22 32).trans rfl) L S h
theorem r_22_33 (L S : List Value) (h : icH) : icE 22 33 L S h = exe icE 22 (e_aload 1 34 L S h) := icE_eq (i := .aload_n 1) (len := 1) (x1 := 0) (x2 := 0) (x3 := 0) (x4 := 64) ((fe_22 33).trans rfl) L S h
theorem r_22_34 (L S : List Value) (h : icH) : icE 22 34 L S h = exe icE 22 (e_iload 5 36 L S h) := icE_eq (i := .iload 5) (len := 2) (x1 := 0) (x2 := 0) (x3 := 0) (x4 := 64) ((fe_22 34).trans rfl) L S h
theorem r_22_36 (L S : List Value) (h : icH) : icE 22 36 L S h = exe icE 22 (e_iload 3 37 L S h) := icE_eq (i := .iload_n 3) (len := 1) (x1 := 0) (x2 := 0) (x3 := 0) (x4 := 64) ((fe_22 36).trans rfl) L S h
theorem r_22_37 (L S : List Value) (h : icH) : icE 22 37 L S h = exe icE 22 (e_abst 27 36 40 6 5 5 3 40 L S h) := icE_eq (i := .invokevirtual 45) (len := 3) (x1 := 27) (x2 := 7) (x3 := 1) (x4 := 777) ((fe_22 37).trans rfl) L S h
theorem r_22_40 (L S : List Value) (h : icH) : icE 22 40 L S h = exe icE 22 (e_aload 4 42 L S h) := icE_eq (i := .aload 4) (len := 2) (x1 := 0) (x2 := 0) (x3 := 0) (x4 := 64) ((fe_22 40).trans rfl) L S h
theorem r_22_42 (L S : List Value) (h : icH) : icE 22 42 L S h = exe icE 22 (e_iload 5 44 L S h) := icE_eq (i := .iload 5) (len := 2) (x1 := 0) (x2 := 0) (x3 := 0) (x4 := 64) ((fe_22 42).trans rfl) L S h
theorem r_22_44 (L S : List Value) (h : icH) : icE 22 44 L S h = exe icE 22 (e_vcal 5 46 2 1 47 L S h) := icE_eq (i := .invokevirtual 49) (len := 3) (x1 := 46) (x2 := 3) (x3 := 5) (x4 := 795) ((fe_22 44).trans rfl) L S h
theorem r_22_47 (L S : List Value) (h : icH) : icE 22 47 L S h = exe icE 22 (e_cmp .eq 52 50 L S h) := icE_eq (i := .if_icmp .eq 5) (len := 3) (x1 := 52) (x2 := 0) (x3 := 0) (x4 := 64) ((fe_22 47).trans rfl) L S h
theorem r_22_50 (L S : List Value) (h : icH) : icE 22 50 L S h = icE 22 51 L (.int (nI 0) :: S) h := icE_eq (i := .iconst 0) (len := 1) (x1 := 0) (x2 := 0) (x3 := 0) (x4 := 64) ((fe_22 50).trans rfl) L S h
theorem r_22_51 (L S : List Value) (h : icH) : icE 22 51 L S h = exe icE 22 (e_iret 1 L S h) := icE_eq (i := .ireturn) (len := 1) (x1 := 1) (x2 := 0) (x3 := 0) (x4 := 64) ((fe_22 51).trans rfl) L S h
theorem r_22_52 (L S : List Value) (h : icH) : icE 22 52 L S h = exe icE 22 (e_iinc 5 (nI 1) 55 L S h) := icE_eq (i := .iinc 5 1) (len := 3) (x1 := 0) (x2 := 0) (x3 := 0) (x4 := 64) ((fe_22 52).trans rfl) L S h
theorem r_22_55 (L S : List Value) (h : icH) : icE 22 55 L S h = icE 22 10 L S h := icE_eq (i := .goto (-45)) (len := 3) (x1 := 10) (x2 := 0) (x3 := 0) (x4 := 64) ((fe_22 55).trans rfl) L S h
theorem r_22_58 (L S : List Value) (h : icH) : icE 22 58 L S h = icE 22 59 L (.int (nI 1) :: S) h := icE_eq (i := .iconst 1) (len := 1) (x1 := 0) (x2 := 0) (x3 := 0) (x4 := 64) ((fe_22 58).trans rfl) L S h
theorem r_22_59 (L S : List Value) (h : icH) : icE 22 59 L S h = exe icE 22 (e_iret 1 L S h) := icE_eq (i := .ireturn) (len := 1) (x1 := 1) (x2 := 0) (x3 := 0) (x4 := 64) ((fe_22 59).trans rfl) L S h
theorem rw_22 : (∀ (L S : List Value) (h : icH), icE 22 0 L S h = exe icE 22 (e_aload 0 1 L S h)) ∧ (∀ (L S : List Value) (h : icH), icE 22 1 L S h = exe icE 22 (e_aload 1 2 L S h)) ∧ (∀ (L S : List Value) (h : icH), icE 22 2 L S h = exe icE 22 (e_abst 26 35 39 2 2 2 1 5 L S h)) ∧ (∀ (L S : List Value) (h : icH), icE 22 5 L S h = exe icE 22 (e_astore 4 7 L S h)) ∧ (∀ (L S : List Value) (h : icH), icE 22 7 L S h = icE 22 8 L (.int (nI 0) :: S) h) ∧ (∀ (L S : List Value) (h : icH), icE 22 8 L S h = exe icE 22 (e_istore 5 10 L S h)) ∧ (∀ (L S : List Value) (h : icH), icE 22 12 L S h = exe icE 22 (e_aload 4 14 L S h)) ∧ (∀ (L S : List Value) (h : icH), icE 22 14 L S h = exe icE 22 (e_vcal 5 43 1 0 17 L S h)) ∧ (∀ (L S : List Value) (h : icH), icE 22 17 L S h = exe icE 22 (e_cmp .ge 58 20 L S h)) ∧ (∀ (L S : List Value) (h : icH), icE 22 20 L S h = exe icE 22 (e_aload 4 22 L S h)) ∧ (∀ (L S : List Value) (h : icH), icE 22 22 L S h = exe icE 22 (e_iload 5 24 L S h)) ∧ (∀ (L S : List Value) (h : icH), icE 22 24 L S h = icE 22 25 L (.int (nI 0) :: S) h) ∧ (∀ (L S : List Value) (h : icH), icE 22 25 L S h = exe icE 22 (e_vcal 5 45 4 2 28 L S h)) ∧ (∀ (L S : List Value) (h : icH), icE 22 28 L S h = exe icE 22 (e_iload 2 29 L S h)) ∧ (∀ (L S : List Value) (h : icH), icE 22 29 L S h = exe icE 22 (e_cmp .ne 52 32 L S h)) ∧ (∀ (L S : List Value) (h : icH), icE 22 32 L S h = exe icE 22 (e_aload 0 33 L S h)) ∧ (∀ (L S : List Value) (h : icH), icE 22 33 L S h = exe icE 22 (e_aload 1 34 L S h)) ∧ (∀ (L S : List Value) (h : icH), icE 22 34 L S h = exe icE 22 (e_iload 5 36 L S h)) ∧ (∀ (L S : List Value) (h : icH), icE 22 36 L S h = exe icE 22 (e_iload 3 37 L S h)) ∧ (∀ (L S : List Value) (h : icH), icE 22 37 L S h = exe icE 22 (e_abst 27 36 40 6 5 5 3 40 L S h)) ∧ (∀ (L S : List Value) (h : icH), icE 22 40 L S h = exe icE 22 (e_aload 4 42 L S h)) ∧ (∀ (L S : List Value) (h : icH), icE 22 42 L S h = exe icE 22 (e_iload 5 44 L S h)) ∧ (∀ (L S : List Value) (h : icH), icE 22 44 L S h = exe icE 22 (e_vcal 5 46 2 1 47 L S h)) ∧ (∀ (L S : List Value) (h : icH), icE 22 47 L S h = exe icE 22 (e_cmp .eq 52 50 L S h)) ∧ (∀ (L S : List Value) (h : icH), icE 22 50 L S h = icE 22 51 L (.int (nI 0) :: S) h) ∧ (∀ (L S : List Value) (h : icH), icE 22 51 L S h = exe icE 22 (e_iret 1 L S h)) ∧ (∀ (L S : List Value) (h : icH), icE 22 52 L S h = exe icE 22 (e_iinc 5 (nI 1) 55 L S h)) ∧ (∀ (L S : List Value) (h : icH), icE 22 55 L S h = icE 22 10 L S h) ∧ (∀ (L S : List Value) (h : icH), icE 22 58 L S h = icE 22 59 L (.int (nI 1) :: S) h) ∧ (∀ (L S : List Value) (h : icH), icE 22 59 L S h = exe icE 22 (e_iret 1 L S h)) := ⟨r_22_0, r_22_1, r_22_2, r_22_5, r_22_7, r_22_8, r_22_12, r_22_14, r_22_17, r_22_20, r_22_22, r_22_24, r_22_25, r_22_28, r_22_29, r_22_32, r_22_33, r_22_34, r_22_36, r_22_37, r_22_40, r_22_42, r_22_44, r_22_47, r_22_50, r_22_51, r_22_52, r_22_55, r_22_58, r_22_59⟩
-- cX1_bestLook: heads [23, 43]
theorem fe_23 (pc : Nat) : fet 23 pc = look k_23 pc := rfl
theorem r_23_0 (L S : List Value) (h : icH) : icE 23 0 L S h = exe icE 23 (e_aload 0 1 L S h) := icE_eq (i := .aload_n 0) (len := 1) (x1 := 0) (x2 := 0) (x3 := 0) (x4 := 64) ((fe_23 0).trans rfl) L S h
theorem r_23_1 (L S : List Value) (h : icH) : icE 23 1 L S h = exe icE 23 (e_aload 1 2 L S h) := icE_eq (i := .aload_n 1) (len := 1) (x1 := 0) (x2 := 0) (x3 := 0) (x4 := 64) ((fe_23 1).trans rfl) L S h
theorem r_23_2 (L S : List Value) (h : icH) : icE 23 2 L S h = exe icE 23 (e_iload 2 3 L S h) := icE_eq (i := .iload_n 2) (len := 1) (x1 := 0) (x2 := 0) (x3 := 0) (x4 := 64) ((fe_23 2).trans rfl) L S h
theorem r_23_3 (L S : List Value) (h : icH) : icE 23 3 L S h = exe icE 23 (e_vcal 9 21 5 2 6 L S h) := icE_eq (i := .invokevirtual 53) (len := 3) (x1 := 21) (x2 := 4) (x3 := 0) (x4 := 811) ((fe_23 3).trans rfl) L S h
theorem r_23_6 (L S : List Value) (h : icH) : icE 23 6 L S h = exe icE 23 (e_istore 3 7 L S h) := icE_eq (i := .istore_n 3) (len := 1) (x1 := 0) (x2 := 0) (x3 := 0) (x4 := 64) ((fe_23 6).trans rfl) L S h
theorem r_23_7 (L S : List Value) (h : icH) : icE 23 7 L S h = icE 23 8 L (.int (-1) :: S) h := icE_eq (i := .iconst (-1)) (len := 1) (x1 := 0) (x2 := 0) (x3 := 0) (x4 := 64) ((fe_23 7).trans rfl) L S h
theorem r_23_8 (L S : List Value) (h : icH) : icE 23 8 L S h = exe icE 23 (e_istore 4 10 L S h) := icE_eq (i := .istore 4) (len := 2) (x1 := 0) (x2 := 0) (x3 := 0) (x4 := 64) ((fe_23 8).trans rfl) L S h
theorem r_23_10 (L S : List Value) (h : icH) : icE 23 10 L S h = exe icE 23 (e_aload 0 11 L S h) := icE_eq (i := .aload_n 0) (len := 1) (x1 := 0) (x2 := 0) (x3 := 0) (x4 := 64) ((fe_23 10).trans rfl) L S h
theorem r_23_11 (L S : List Value) (h : icH) : icE 23 11 L S h = exe icE 23 (e_getf 0 9 14 L S h) := icE_eq (i := .getfield 15) (len := 3) (x1 := 0) (x2 := 9) (x3 := 12) (x4 := 263) ((fe_23 11).trans rfl) L S h
theorem r_23_14 (L S : List Value) (h : icH) : icE 23 14 L S h = exe icE 23 (e_alen 15 L S h) := icE_eq (i := .arraylength) (len := 1) (x1 := 0) (x2 := 0) (x3 := 0) (x4 := 64) ((fe_23 14).trans rfl) L S h
theorem r_23_15 (L S : List Value) (h : icH) : icE 23 15 L S h = icE 23 16 L (.int (nI 1) :: S) h := icE_eq (i := .iconst 1) (len := 1) (x1 := 0) (x2 := 0) (x3 := 0) (x4 := 64) ((fe_23 15).trans rfl) L S h
theorem r_23_16 (L S : List Value) (h : icH) : icE 23 16 L S h = exe icE 23 (e_bin (fun x y => x + y) 17 L S h) := icE_eq (i := .iadd) (len := 1) (x1 := 0) (x2 := 0) (x3 := 0) (x4 := 64) ((fe_23 16).trans rfl) L S h
theorem r_23_17 (L S : List Value) (h : icH) : icE 23 17 L S h = exe icE 23 (e_istore 5 19 L S h) := icE_eq (i := .istore 5) (len := 2) (x1 := 0) (x2 := 0) (x3 := 0) (x4 := 64) ((fe_23 17).trans rfl) L S h
theorem r_23_19 (L S : List Value) (h : icH) : icE 23 19 L S h = icE 23 21 L (.int (-9) :: S) h := icE_eq (i := .bipush (-9)) (len := 2) (x1 := 0) (x2 := 0) (x3 := 0) (x4 := 64) ((fe_23 19).trans rfl) L S h
theorem r_23_21 (L S : List Value) (h : icH) : icE 23 21 L S h = exe icE 23 (e_istore 6 23 L S h) := icE_eq (i := .istore 6) (len := 2) (x1 := 0) (x2 := 0) (x3 := 0) (x4 := 64) ((fe_23 21).trans rfl) L S h
theorem rh_23_23 (L S : List Value) (h : icH) : icE 23 23 L S h = exe icE 23 (e_iload 6 25 L S h) := icE_eq (i := .iload 6) (len := 2) (x1 := 0) (x2 := 0) (x3 := 0) (x4 := 64) ((fe_23 23).trans rfl) L S h
theorem r_23_25 (L S : List Value) (h : icH) : icE 23 25 L S h = icE 23 27 L (.int (nI 9) :: S) h := icE_eq (i := .bipush 9) (len := 2) (x1 := 0) (x2 := 0) (x3 := 0) (x4 := 64) ((fe_23 25).trans rfl) L S h
theorem r_23_27 (L S : List Value) (h : icH) : icE 23 27 L S h = exe icE 23 (e_cmp .gt 111 30 L S h) := icE_eq (i := .if_icmp .gt 84) (len := 3) (x1 := 111) (x2 := 0) (x3 := 0) (x4 := 64) ((fe_23 27).trans rfl) L S h
theorem r_23_30 (L S : List Value) (h : icH) : icE 23 30 L S h = exe icE 23 (e_iload 3 31 L S h) := icE_eq (i := .iload_n 3) (len := 1) (x1 := 0) (x2 := 0) (x3 := 0) (x4 := 64) ((fe_23 30).trans rfl) L S h
theorem r_23_31 (L S : List Value) (h : icH) : icE 23 31 L S h = exe icE 23 (e_if .eq 111 34 L S h) := icE_eq (i := .ifCond .eq 80) (len := 3) (x1 := 111) (x2 := 0) (x3 := 0) (x4 := 64) ((fe_23 31).trans rfl) L S h
theorem r_23_34 (L S : List Value) (h : icH) : icE 23 34 L S h = exe icE 23 (e_iload 5 36 L S h) := icE_eq (i := .iload 5) (len := 2) (x1 := 0) (x2 := 0) (x3 := 0) (x4 := 64) ((fe_23 34).trans rfl) L S h
theorem r_23_36 (L S : List Value) (h : icH) : icE 23 36 L S h = icE 23 37 L (.int (nI 1) :: S) h := icE_eq (i := .iconst 1) (len := 1) (x1 := 0) (x2 := 0) (x3 := 0) (x4 := 64) ((fe_23 36).trans rfl) L S h
theorem r_23_37 (L S : List Value) (h : icH) : icE 23 37 L S h = exe icE 23 (e_cmp .le 111 40 L S h) := icE_eq (i := .if_icmp .le 74) (len := 3) (x1 := 111) (x2 := 0) (x3 := 0) (x4 := 64) ((fe_23 37).trans rfl) L S h
theorem r_23_40 (L S : List Value) (h : icH) : icE 23 40 L S h = icE 23 41 L (.int (nI 0) :: S) h := icE_eq (i := .iconst 0) (len := 1) (x1 := 0) (x2 := 0) (x3 := 0) (x4 := 64) ((fe_23 40).trans rfl) L S h
theorem r_23_41 (L S : List Value) (h : icH) : icE 23 41 L S h = exe icE 23 (e_istore 7 43 L S h) := icE_eq (i := .istore 7) (len := 2) (x1 := 0) (x2 := 0) (x3 := 0) (x4 := 64) ((fe_23 41).trans rfl) L S h
theorem rh_23_43 (L S : List Value) (h : icH) : icE 23 43 L S h = exe icE 23 (e_iload 7 45 L S h) := icE_eq (i := .iload 7) (len := 2) (x1 := 0) (x2 := 0) (x3 := 0) (x4 := 64) ((fe_23 43).trans rfl) L S h
theorem r_23_45 (L S : List Value) (h : icH) : icE 23 45 L S h = exe icE 23 (e_aload 0 46 L S h) := icE_eq (i := .aload_n 0) (len := 1) (x1 := 0) (x2 := 0) (x3 := 0) (x4 := 64) ((fe_23 45).trans rfl) L S h
theorem r_23_46 (L S : List Value) (h : icH) : icE 23 46 L S h = exe icE 23 (e_getf 1 9 49 L S h) := icE_eq (i := .getfield 21) (len := 3) (x1 := 1) (x2 := 9) (x3 := 10) (x4 := 264) ((fe_23 46).trans rfl) L S h
theorem r_23_49 (L S : List Value) (h : icH) : icE 23 49 L S h = exe icE 23 (e_cmp .gt 105 52 L S h) := icE_eq (i := .if_icmp .gt 56) (len := 3) (x1 := 105) (x2 := 0) (x3 := 0) (x4 := 64) ((fe_23 49).trans rfl) L S h
theorem r_23_52 (L S : List Value) (h : icH) : icE 23 52 L S h = exe icE 23 (e_iload 5 54 L S h) := icE_eq (i := .iload 5) (len := 2) (x1 := 0) (x2 := 0) (x3 := 0) (x4 := 64) ((fe_23 52).trans rfl) L S h
theorem r_23_54 (L S : List Value) (h : icH) : icE 23 54 L S h = icE 23 55 L (.int (nI 1) :: S) h := icE_eq (i := .iconst 1) (len := 1) (x1 := 0) (x2 := 0) (x3 := 0) (x4 := 64) ((fe_23 54).trans rfl) L S h
theorem r_23_55 (L S : List Value) (h : icH) : icE 23 55 L S h = exe icE 23 (e_cmp .le 105 58 L S h) := icE_eq (i := .if_icmp .le 50) (len := 3) (x1 := 105) (x2 := 0) (x3 := 0) (x4 := 64) ((fe_23 55).trans rfl) L S h
theorem r_23_58 (L S : List Value) (h : icH) : icE 23 58 L S h = exe icE 23 (e_aload 0 59 L S h) := icE_eq (i := .aload_n 0) (len := 1) (x1 := 0) (x2 := 0) (x3 := 0) (x4 := 64) ((fe_23 58).trans rfl) L S h
theorem r_23_59 (L S : List Value) (h : icH) : icE 23 59 L S h = exe icE 23 (e_aload 1 60 L S h) := icE_eq (i := .aload_n 1) (len := 1) (x1 := 0) (x2 := 0) (x3 := 0) (x4 := 64) ((fe_23 59).trans rfl) L S h
theorem r_23_60 (L S : List Value) (h : icH) : icE 23 60 L S h = exe icE 23 (e_iload 2 61 L S h) := icE_eq (i := .iload_n 2) (len := 1) (x1 := 0) (x2 := 0) (x3 := 0) (x4 := 64) ((fe_23 60).trans rfl) L S h
theorem r_23_61 (L S : List Value) (h : icH) : icE 23 61 L S h = exe icE 23 (e_iload 6 63 L S h) := icE_eq (i := .iload 6) (len := 2) (x1 := 0) (x2 := 0) (x3 := 0) (x4 := 64) ((fe_23 61).trans rfl) L S h
theorem r_23_63 (L S : List Value) (h : icH) : icE 23 63 L S h = exe icE 23 (e_iload 7 65 L S h) := icE_eq (i := .iload 7) (len := 2) (x1 := 0) (x2 := 0) (x3 := 0) (x4 := 64) ((fe_23 63).trans rfl) L S h
theorem r_23_65 (L S : List Value) (h : icH) : icE 23 65 L S h = exe icE 23 (e_iload 3 66 L S h) := icE_eq (i := .iload_n 3) (len := 1) (x1 := 0) (x2 := 0) (x3 := 0) (x4 := 64) ((fe_23 65).trans rfl) L S h
theorem r_23_66 (L S : List Value) (h : icH) : icE 23 66 L S h = exe icE 23 (e_iload 5 68 L S h) := icE_eq (i := .iload 5) (len := 2) (x1 := 0) (x2 := 0) (x3 := 0) (x4 := 64) ((fe_23 66).trans rfl) L S h
theorem r_23_68 (L S : List Value) (h : icH) : icE 23 68 L S h = exe icE 23 (e_vcal 9 24 11 6 71 L S h) := icE_eq (i := .invokevirtual 57) (len := 3) (x1 := 24) (x2 := 4) (x3 := 0) (x4 := 812) ((fe_23 68).trans rfl) L S h
theorem r_23_71 (L S : List Value) (h : icH) : icE 23 71 L S h = exe icE 23 (e_istore 8 73 L S h) := icE_eq (i := .istore 8) (len := 2) (x1 := 0) (x2 := 0) (x3 := 0) (x4 := 64) ((fe_23 71).trans rfl) L S h
theorem r_23_73 (L S : List Value) (h : icH) : icE 23 73 L S h = exe icE 23 (e_iload 8 75 L S h) := icE_eq (i := .iload 8) (len := 2) (x1 := 0) (x2 := 0) (x3 := 0) (x4 := 64) ((fe_23 73).trans rfl) L S h
theorem r_23_75 (L S : List Value) (h : icH) : icE 23 75 L S h = exe icE 23 (e_iload 5 77 L S h) := icE_eq (i := .iload 5) (len := 2) (x1 := 0) (x2 := 0) (x3 := 0) (x4 := 64) ((fe_23 75).trans rfl) L S h
theorem r_23_77 (L S : List Value) (h : icH) : icE 23 77 L S h = exe icE 23 (e_cmp .ge 99 80 L S h) := icE_eq (i := .if_icmp .ge 22) (len := 3) (x1 := 99) (x2 := 0) (x3 := 0) (x4 := 64) ((fe_23 77).trans rfl) L S h
theorem r_23_80 (L S : List Value) (h : icH) : icE 23 80 L S h = exe icE 23 (e_iload 8 82 L S h) := icE_eq (i := .iload 8) (len := 2) (x1 := 0) (x2 := 0) (x3 := 0) (x4 := 64) ((fe_23 80).trans rfl) L S h
theorem r_23_82 (L S : List Value) (h : icH) : icE 23 82 L S h = exe icE 23 (e_istore 5 84 L S h) := icE_eq (i := .istore 5) (len := 2) (x1 := 0) (x2 := 0) (x3 := 0) (x4 := 64) ((fe_23 82).trans rfl) L S h
theorem r_23_84 (L S : List Value) (h : icH) : icE 23 84 L S h = exe icE 23 (e_aload 0 85 L S h) := icE_eq (i := .aload_n 0) (len := 1) (x1 := 0) (x2 := 0) (x3 := 0) (x4 := 64) ((fe_23 84).trans rfl) L S h
theorem r_23_85 (L S : List Value) (h : icH) : icE 23 85 L S h = exe icE 23 (e_getf 2 9 88 L S h) := icE_eq (i := .getfield 25) (len := 3) (x1 := 2) (x2 := 9) (x3 := 10) (x4 := 265) ((fe_23 85).trans rfl) L S h
theorem r_23_88 (L S : List Value) (h : icH) : icE 23 88 L S h = exe icE 23 (e_iload 6 90 L S h) := icE_eq (i := .iload 6) (len := 2) (x1 := 0) (x2 := 0) (x3 := 0) (x4 := 64) ((fe_23 88).trans rfl) L S h
theorem r_23_90 (L S : List Value) (h : icH) : icE 23 90 L S h = icE 23 92 L (.int (-9) :: S) h := icE_eq (i := .bipush (-9)) (len := 2) (x1 := 0) (x2 := 0) (x3 := 0) (x4 := 64) ((fe_23 90).trans rfl) L S h
theorem r_23_92 (L S : List Value) (h : icH) : icE 23 92 L S h = exe icE 23 (e_bin (fun x y => x - y) 93 L S h) := icE_eq (i := .isub) (len := 1) (x1 := 0) (x2 := 0) (x3 := 0) (x4 := 64) ((fe_23 92).trans rfl) L S h
theorem r_23_93 (L S : List Value) (h : icH) : icE 23 93 L S h = exe icE 23 (e_bin (fun x y => x * y) 94 L S h) := icE_eq (i := .imul) (len := 1) (x1 := 0) (x2 := 0) (x3 := 0) (x4 := 64) ((fe_23 93).trans rfl) L S h
theorem r_23_94 (L S : List Value) (h : icH) : icE 23 94 L S h = exe icE 23 (e_iload 7 96 L S h) := icE_eq (i := .iload 7) (len := 2) (x1 := 0) (x2 := 0) (x3 := 0) (x4 := 64) ((fe_23 94).trans rfl) L S h
theorem r_23_96 (L S : List Value) (h : icH) : icE 23 96 L S h = exe icE 23 (e_bin (fun x y => x + y) 97 L S h) := icE_eq (i := .iadd) (len := 1) (x1 := 0) (x2 := 0) (x3 := 0) (x4 := 64) ((fe_23 96).trans rfl) L S h
theorem r_23_97 (L S : List Value) (h : icH) : icE 23 97 L S h = exe icE 23 (e_istore 4 99 L S h) := icE_eq (i := .istore 4) (len := 2) (x1 := 0) (x2 := 0) (x3 := 0) (x4 := 64) ((fe_23 97).trans rfl) L S h
theorem r_23_99 (L S : List Value) (h : icH) : icE 23 99 L S h = exe icE 23 (e_iinc 7 (nI 1) 102 L S h) := icE_eq (i := .iinc 7 1) (len := 3) (x1 := 0) (x2 := 0) (x3 := 0) (x4 := 64) ((fe_23 99).trans rfl) L S h
theorem r_23_102 (L S : List Value) (h : icH) : icE 23 102 L S h = icE 23 43 L S h := icE_eq (i := .goto (-59)) (len := 3) (x1 := 43) (x2 := 0) (x3 := 0) (x4 := 64) ((fe_23 102).trans rfl) L S h
theorem r_23_105 (L S : List Value) (h : icH) : icE 23 105 L S h = exe icE 23 (e_iinc 6 (nI 1) 108 L S h) := icE_eq (i := .iinc 6 1) (len := 3) (x1 := 0) (x2 := 0) (x3 := 0) (x4 := 64) ((fe_23 105).trans rfl) L S h
theorem r_23_108 (L S : List Value) (h : icH) : icE 23 108 L S h = icE 23 23 L S h := icE_eq (i := .goto (-85)) (len := 3) (x1 := 23) (x2 := 0) (x3 := 0) (x4 := 64) ((fe_23 108).trans rfl) L S h
theorem r_23_111 (L S : List Value) (h : icH) : icE 23 111 L S h = exe icE 23 (e_iload 4 113 L S h) := icE_eq (i := .iload 4) (len := 2) (x1 := 0) (x2 := 0) (x3 := 0) (x4 := 64) ((fe_23 111).trans rfl) L S h
theorem r_23_113 (L S : List Value) (h : icH) : icE 23 113 L S h = exe icE 23 (e_iret 0 L S h) := icE_eq (i := .ireturn) (len := 1) (x1 := 0) (x2 := 0) (x3 := 0) (x4 := 64) ((fe_23 113).trans rfl) L S h
theorem rw_23 : (∀ (L S : List Value) (h : icH), icE 23 0 L S h = exe icE 23 (e_aload 0 1 L S h)) ∧ (∀ (L S : List Value) (h : icH), icE 23 1 L S h = exe icE 23 (e_aload 1 2 L S h)) ∧ (∀ (L S : List Value) (h : icH), icE 23 2 L S h = exe icE 23 (e_iload 2 3 L S h)) ∧ (∀ (L S : List Value) (h : icH), icE 23 3 L S h = exe icE 23 (e_vcal 9 21 5 2 6 L S h)) ∧ (∀ (L S : List Value) (h : icH), icE 23 6 L S h = exe icE 23 (e_istore 3 7 L S h)) ∧ (∀ (L S : List Value) (h : icH), icE 23 7 L S h = icE 23 8 L (.int (-1) :: S) h) ∧ (∀ (L S : List Value) (h : icH), icE 23 8 L S h = exe icE 23 (e_istore 4 10 L S h)) ∧ (∀ (L S : List Value) (h : icH), icE 23 10 L S h = exe icE 23 (e_aload 0 11 L S h)) ∧ (∀ (L S : List Value) (h : icH), icE 23 11 L S h = exe icE 23 (e_getf 0 9 14 L S h)) ∧ (∀ (L S : List Value) (h : icH), icE 23 14 L S h = exe icE 23 (e_alen 15 L S h)) ∧ (∀ (L S : List Value) (h : icH), icE 23 15 L S h = icE 23 16 L (.int (nI 1) :: S) h) ∧ (∀ (L S : List Value) (h : icH), icE 23 16 L S h = exe icE 23 (e_bin (fun x y => x + y) 17 L S h)) ∧ (∀ (L S : List Value) (h : icH), icE 23 17 L S h = exe icE 23 (e_istore 5 19 L S h)) ∧ (∀ (L S : List Value) (h : icH), icE 23 19 L S h = icE 23 21 L (.int (-9) :: S) h) ∧ (∀ (L S : List Value) (h : icH), icE 23 21 L S h = exe icE 23 (e_istore 6 23 L S h)) ∧ (∀ (L S : List Value) (h : icH), icE 23 25 L S h = icE 23 27 L (.int (nI 9) :: S) h) ∧ (∀ (L S : List Value) (h : icH), icE 23 27 L S h = exe icE 23 (e_cmp .gt 111 30 L S h)) ∧ (∀ (L S : List Value) (h : icH), icE 23 30 L S h = exe icE 23 (e_iload 3 31 L S h)) ∧ (∀ (L S : List Value) (h : icH), icE 23 31 L S h = exe icE 23 (e_if .eq 111 34 L S h)) ∧ (∀ (L S : List Value) (h : icH), icE 23 34 L S h = exe icE 23 (e_iload 5 36 L S h)) ∧ (∀ (L S : List Value) (h : icH), icE 23 36 L S h = icE 23 37 L (.int (nI 1) :: S) h) ∧ (∀ (L S : List Value) (h : icH), icE 23 37 L S h = exe icE 23 (e_cmp .le 111 40 L S h)) ∧ (∀ (L S : List Value) (h : icH), icE 23 40 L S h = icE 23 41 L (.int (nI 0) :: S) h) ∧ (∀ (L S : List Value) (h : icH), icE 23 41 L S h = exe icE 23 (e_istore 7 43 L S h)) ∧ (∀ (L S : List Value) (h : icH), icE 23 45 L S h = exe icE 23 (e_aload 0 46 L S h)) ∧ (∀ (L S : List Value) (h : icH), icE 23 46 L S h = exe icE 23 (e_getf 1 9 49 L S h)) ∧ (∀ (L S : List Value) (h : icH), icE 23 49 L S h = exe icE 23 (e_cmp .gt 105 52 L S h)) ∧ (∀ (L S : List Value) (h : icH), icE 23 52 L S h = exe icE 23 (e_iload 5 54 L S h)) ∧ (∀ (L S : List Value) (h : icH), icE 23 54 L S h = icE 23 55 L (.int (nI 1) :: S) h) ∧ (∀ (L S : List Value) (h : icH), icE 23 55 L S h = exe icE 23 (e_cmp .le 105 58 L S h)) ∧ (∀ (L S : List Value) (h : icH), icE 23 58 L S h = exe icE 23 (e_aload 0 59 L S h)) ∧ (∀ (L S : List Value) (h : icH), icE 23 59 L S h = exe icE 23 (e_aload 1 60 L S h)) ∧ (∀ (L S : List Value) (h : icH), icE 23 60 L S h = exe icE 23 (e_iload 2 61 L S h)) ∧ (∀ (L S : List Value) (h : icH), icE 23 61 L S h = exe icE 23 (e_iload 6 63 L S h)) ∧ (∀ (L S : List Value) (h : icH), icE 23 63 L S h = exe icE 23 (e_iload 7 65 L S h)) ∧ (∀ (L S : List Value) (h : icH), icE 23 65 L S h = exe icE 23 (e_iload 3 66 L S h)) ∧ (∀ (L S : List Value) (h : icH), icE 23 66 L S h = exe icE 23 (e_iload 5 68 L S h)) ∧ (∀ (L S : List Value) (h : icH), icE 23 68 L S h = exe icE 23 (e_vcal 9 24 11 6 71 L S h)) ∧ (∀ (L S : List Value) (h : icH), icE 23 71 L S h = exe icE 23 (e_istore 8 73 L S h)) ∧ (∀ (L S : List Value) (h : icH), icE 23 73 L S h = exe icE 23 (e_iload 8 75 L S h)) ∧ (∀ (L S : List Value) (h : icH), icE 23 75 L S h = exe icE 23 (e_iload 5 77 L S h)) ∧ (∀ (L S : List Value) (h : icH), icE 23 77 L S h = exe icE 23 (e_cmp .ge 99 80 L S h)) ∧ (∀ (L S : List Value) (h : icH), icE 23 80 L S h = exe icE 23 (e_iload 8 82 L S h)) ∧ (∀ (L S : List Value) (h : icH), icE 23 82 L S h = exe icE 23 (e_istore 5 84 L S h)) ∧ (∀ (L S : List Value) (h : icH), icE 23 84 L S h = exe icE 23 (e_aload 0 85 L S h)) ∧ (∀ (L S : List Value) (h : icH), icE 23 85 L S h = exe icE 23 (e_getf 2 9 88 L S h)) ∧ (∀ (L S : List Value) (h : icH), icE 23 88 L S h = exe icE 23 (e_iload 6 90 L S h)) ∧ (∀ (L S : List Value) (h : icH), icE 23 90 L S h = icE 23 92 L (.int (-9) :: S) h) ∧ (∀ (L S : List Value) (h : icH), icE 23 92 L S h = exe icE 23 (e_bin (fun x y => x - y) 93 L S h)) ∧ (∀ (L S : List Value) (h : icH), icE 23 93 L S h = exe icE 23 (e_bin (fun x y => x * y) 94 L S h)) ∧ (∀ (L S : List Value) (h : icH), icE 23 94 L S h = exe icE 23 (e_iload 7 96 L S h)) ∧ (∀ (L S : List Value) (h : icH), icE 23 96 L S h = exe icE 23 (e_bin (fun x y => x + y) 97 L S h)) ∧ (∀ (L S : List Value) (h : icH), icE 23 97 L S h = exe icE 23 (e_istore 4 99 L S h)) ∧ (∀ (L S : List Value) (h : icH), icE 23 99 L S h = exe icE 23 (e_iinc 7 (nI 1) 102 L S h)) ∧ (∀ (L S : List Value) (h : icH), icE 23 102 L S h = icE 23 43 L S h) ∧ (∀ (L S : List Value) (h : icH), icE 23 105 L S h = exe icE 23 (e_iinc 6 (nI 1) 108 L S h)) ∧ (∀ (L S : List Value) (h : icH), icE 23 108 L S h = icE 23 23 L S h) ∧ (∀ (L S : List Value) (h : icH), icE 23 111 L S h = exe icE 23 (e_iload 4 113 L S h)) ∧ (∀ (L S : List Value) (h : icH), icE 23 113 L S h = exe icE 23 (e_iret 0 L S h)) := ⟨r_23_0, r_23_1, r_23_2, r_23_3, r_23_6, r_23_7, r_23_8, r_23_10, r_23_11, r_23_14, r_23_15, r_23_16, r_23_17, r_23_19, r_23_21, r_23_25, r_23_27, r_23_30, r_23_31, r_23_34, r_23_36, r_23_37, r_23_40, r_23_41, r_23_45, r_23_46, r_23_49, r_23_52, r_23_54, r_23_55, r_23_58, r_23_59, r_23_60, r_23_61, r_23_63, r_23_65, r_23_66, r_23_68, r_23_71, r_23_73, r_23_75, r_23_77, r_23_80, r_23_82, r_23_84, r_23_85, r_23_88, r_23_90, r_23_92, r_23_93, r_23_94, r_23_96, r_23_97, r_23_99, r_23_102, r_23_105, r_23_108, r_23_111, r_23_113⟩
-- cX1_largestGroup: heads [6, 57]
theorem fe_24 (pc : Nat) : fet 24 pc = look k_24 pc := rfl
theorem r_24_0 (L S : List Value) (h : icH) : icE 24 0 L S h = icE 24 1 L (.int (nI 0) :: S) h := icE_eq (i := .iconst 0) (len := 1) (x1 := 0) (x2 := 0) (x3 := 0) (x4 := 64) ((fe_24 0).trans rfl) L S h
theorem r_24_1 (L S : List Value) (h : icH) : icE 24 1 L S h = exe icE 24 (e_istore 7 3 L S h) := icE_eq (i := .istore 7) (len := 2) (x1 := 0) (x2 := 0) (x3 := 0) (x4 := 64) ((fe_24 1).trans rfl) L S h
theorem r_24_3 (L S : List Value) (h : icH) : icE 24 3 L S h = icE 24 4 L (.int (nI 0) :: S) h := icE_eq (i := .iconst 0) (len := 1) (x1 := 0) (x2 := 0) (x3 := 0) (x4 := 64) ((fe_24 3).trans rfl) L S h
theorem r_24_4 (L S : List Value) (h : icH) : icE 24 4 L S h = exe icE 24 (e_istore 8 6 L S h) := icE_eq (i := .istore 8) (len := 2) (x1 := 0) (x2 := 0) (x3 := 0) (x4 := 64) ((fe_24 4).trans rfl) L S h
theorem rh_24_6 (L S : List Value) (h : icH) : icE 24 6 L S h = exe icE 24 (e_iload 8 8 L S h) := icE_eq (i := .iload 8) (len := 2) (x1 := 0) (x2 := 0) (x3 := 0) (x4 := 64) ((fe_24 6).trans rfl) L S h
theorem r_24_8 (L S : List Value) (h : icH) : icE 24 8 L S h = exe icE 24 (e_aload 0 9 L S h) := icE_eq (i := .aload_n 0) (len := 1) (x1 := 0) (x2 := 0) (x3 := 0) (x4 := 64) ((fe_24 8).trans rfl) L S h
theorem r_24_9 (L S : List Value) (h : icH) : icE 24 9 L S h = exe icE 24 (e_getf 0 9 12 L S h) := icE_eq (i := .getfield 15) (len := 3) (x1 := 0) (x2 := 9) (x3 := 12) (x4 := 263) ((fe_24 9).trans rfl) L S h
theorem r_24_12 (L S : List Value) (h : icH) : icE 24 12 L S h = exe icE 24 (e_alen 13 L S h) := icE_eq (i := .arraylength) (len := 1) (x1 := 0) (x2 := 0) (x3 := 0) (x4 := 64) ((fe_24 12).trans rfl) L S h
theorem r_24_13 (L S : List Value) (h : icH) : icE 24 13 L S h = exe icE 24 (e_cmp .ge 115 16 L S h) := icE_eq (i := .if_icmp .ge 102) (len := 3) (x1 := 115) (x2 := 0) (x3 := 0) (x4 := 64) ((fe_24 13).trans rfl) L S h
theorem r_24_16 (L S : List Value) (h : icH) : icE 24 16 L S h = exe icE 24 (e_iload 7 18 L S h) := icE_eq (i := .iload 7) (len := 2) (x1 := 0) (x2 := 0) (x3 := 0) (x4 := 64) ((fe_24 16).trans rfl) L S h
theorem r_24_18 (L S : List Value) (h : icH) : icE 24 18 L S h = exe icE 24 (e_iload 6 20 L S h) := icE_eq (i := .iload 6) (len := 2) (x1 := 0) (x2 := 0) (x3 := 0) (x4 := 64) ((fe_24 18).trans rfl) L S h
theorem r_24_20 (L S : List Value) (h : icH) : icE 24 20 L S h = exe icE 24 (e_cmp .ge 115 23 L S h) := icE_eq (i := .if_icmp .ge 95) (len := 3) (x1 := 115) (x2 := 0) (x3 := 0) (x4 := 64) ((fe_24 20).trans rfl) L S h
theorem r_24_23 (L S : List Value) (h : icH) : icE 24 23 L S h = exe icE 24 (e_iload 5 25 L S h) := icE_eq (i := .iload 5) (len := 2) (x1 := 0) (x2 := 0) (x3 := 0) (x4 := 64) ((fe_24 23).trans rfl) L S h
theorem r_24_25 (L S : List Value) (h : icH) : icE 24 25 L S h = exe icE 24 (e_iload 8 27 L S h) := icE_eq (i := .iload 8) (len := 2) (x1 := 0) (x2 := 0) (x3 := 0) (x4 := 64) ((fe_24 25).trans rfl) L S h
theorem r_24_27 (L S : List Value) (h : icH) : icE 24 27 L S h = exe icE 24 (e_bin (fun x y => x >>> (y &&& 31)) 28 L S h) := icE_eq (i := .ishr) (len := 1) (x1 := 0) (x2 := 0) (x3 := 0) (x4 := 64) ((fe_24 27).trans rfl) L S h
theorem r_24_28 (L S : List Value) (h : icH) : icE 24 28 L S h = icE 24 29 L (.int (nI 1) :: S) h := icE_eq (i := .iconst 1) (len := 1) (x1 := 0) (x2 := 0) (x3 := 0) (x4 := 64) ((fe_24 28).trans rfl) L S h
theorem r_24_29 (L S : List Value) (h : icH) : icE 24 29 L S h = exe icE 24 (e_bin (fun x y => x &&& y) 30 L S h) := icE_eq (i := .iand) (len := 1) (x1 := 0) (x2 := 0) (x3 := 0) (x4 := 64) ((fe_24 29).trans rfl) L S h
theorem r_24_30 (L S : List Value) (h : icH) : icE 24 30 L S h = exe icE 24 (e_if .eq 109 33 L S h) := icE_eq (i := .ifCond .eq 79) (len := 3) (x1 := 109) (x2 := 0) (x3 := 0) (x4 := 64) ((fe_24 30).trans rfl) L S h
theorem r_24_33 (L S : List Value) (h : icH) : icE 24 33 L S h = exe icE 24 (e_aload 0 34 L S h) := icE_eq (i := .aload_n 0) (len := 1) (x1 := 0) (x2 := 0) (x3 := 0) (x4 := 64) ((fe_24 33).trans rfl) L S h
theorem r_24_34 (L S : List Value) (h : icH) : icE 24 34 L S h = exe icE 24 (e_getf 0 9 37 L S h) := icE_eq (i := .getfield 15) (len := 3) (x1 := 0) (x2 := 9) (x3 := 12) (x4 := 263) ((fe_24 34).trans rfl) L S h
theorem r_24_37 (L S : List Value) (h : icH) : icE 24 37 L S h = exe icE 24 (e_iload 8 39 L S h) := icE_eq (i := .iload 8) (len := 2) (x1 := 0) (x2 := 0) (x3 := 0) (x4 := 64) ((fe_24 37).trans rfl) L S h
theorem r_24_39 (L S : List Value) (h : icH) : icE 24 39 L S h = exe icE 24 (e_aload 0 40 L S h) := icE_eq (i := .aload_n 0) (len := 1) (x1 := 0) (x2 := 0) (x3 := 0) (x4 := 64) ((fe_24 39).trans rfl) L S h
theorem r_24_40 (L S : List Value) (h : icH) : icE 24 40 L S h = exe icE 24 (e_aload 1 41 L S h) := icE_eq (i := .aload_n 1) (len := 1) (x1 := 0) (x2 := 0) (x3 := 0) (x4 := 64) ((fe_24 40).trans rfl) L S h
theorem r_24_41 (L S : List Value) (h : icH) : icE 24 41 L S h = exe icE 24 (e_iload 2 42 L S h) := icE_eq (i := .iload_n 2) (len := 1) (x1 := 0) (x2 := 0) (x3 := 0) (x4 := 64) ((fe_24 41).trans rfl) L S h
theorem r_24_42 (L S : List Value) (h : icH) : icE 24 42 L S h = exe icE 24 (e_iload 3 43 L S h) := icE_eq (i := .iload_n 3) (len := 1) (x1 := 0) (x2 := 0) (x3 := 0) (x4 := 64) ((fe_24 42).trans rfl) L S h
theorem r_24_43 (L S : List Value) (h : icH) : icE 24 43 L S h = exe icE 24 (e_iload 4 45 L S h) := icE_eq (i := .iload 4) (len := 2) (x1 := 0) (x2 := 0) (x3 := 0) (x4 := 64) ((fe_24 43).trans rfl) L S h
theorem r_24_45 (L S : List Value) (h : icH) : icE 24 45 L S h = exe icE 24 (e_iload 8 47 L S h) := icE_eq (i := .iload 8) (len := 2) (x1 := 0) (x2 := 0) (x3 := 0) (x4 := 64) ((fe_24 45).trans rfl) L S h
theorem r_24_47 (L S : List Value) (h : icH) : icE 24 47 L S h = exe icE 24 (e_abst 28 37 41 6 6 6 5 50 L S h) := icE_eq (i := .invokevirtual 61) (len := 3) (x1 := 28) (x2 := 7) (x3 := 2) (x4 := 816) ((fe_24 47).trans rfl) L S h
theorem r_24_50 (L S : List Value) (h : icH) : icE 24 50 L S h = exe icE 24 (e_iast 51 L S h) := icE_eq (i := .iastore) (len := 1) (x1 := 0) (x2 := 0) (x3 := 0) (x4 := 64) ((fe_24 50).trans rfl) L S h
theorem r_24_51 (L S : List Value) (h : icH) : icE 24 51 L S h = icE 24 52 L (.int (nI 1) :: S) h := icE_eq (i := .iconst 1) (len := 1) (x1 := 0) (x2 := 0) (x3 := 0) (x4 := 64) ((fe_24 51).trans rfl) L S h
theorem r_24_52 (L S : List Value) (h : icH) : icE 24 52 L S h = exe icE 24 (e_istore 9 54 L S h) := icE_eq (i := .istore 9) (len := 2) (x1 := 0) (x2 := 0) (x3 := 0) (x4 := 64) ((fe_24 52).trans rfl) L S h
theorem r_24_54 (L S : List Value) (h : icH) : icE 24 54 L S h = icE 24 55 L (.int (nI 0) :: S) h := icE_eq (i := .iconst 0) (len := 1) (x1 := 0) (x2 := 0) (x3 := 0) (x4 := 64) ((fe_24 54).trans rfl) L S h
theorem r_24_55 (L S : List Value) (h : icH) : icE 24 55 L S h = exe icE 24 (e_istore 10 57 L S h) := icE_eq (i := .istore 10) (len := 2) (x1 := 0) (x2 := 0) (x3 := 0) (x4 := 64) ((fe_24 55).trans rfl) L S h
theorem rh_24_57 (L S : List Value) (h : icH) : icE 24 57 L S h = exe icE 24 (e_iload 10 59 L S h) := icE_eq (i := .iload 10) (len := 2) (x1 := 0) (x2 := 0) (x3 := 0) (x4 := 64) ((fe_24 57).trans rfl) L S h
theorem r_24_59 (L S : List Value) (h : icH) : icE 24 59 L S h = exe icE 24 (e_iload 8 61 L S h) := icE_eq (i := .iload 8) (len := 2) (x1 := 0) (x2 := 0) (x3 := 0) (x4 := 64) ((fe_24 59).trans rfl) L S h
theorem r_24_61 (L S : List Value) (h : icH) : icE 24 61 L S h = exe icE 24 (e_cmp .ge 100 64 L S h) := icE_eq (i := .if_icmp .ge 39) (len := 3) (x1 := 100) (x2 := 0) (x3 := 0) (x4 := 64) ((fe_24 61).trans rfl) L S h
theorem r_24_64 (L S : List Value) (h : icH) : icE 24 64 L S h = exe icE 24 (e_iload 5 66 L S h) := icE_eq (i := .iload 5) (len := 2) (x1 := 0) (x2 := 0) (x3 := 0) (x4 := 64) ((fe_24 64).trans rfl) L S h
theorem r_24_66 (L S : List Value) (h : icH) : icE 24 66 L S h = exe icE 24 (e_iload 10 68 L S h) := icE_eq (i := .iload 10) (len := 2) (x1 := 0) (x2 := 0) (x3 := 0) (x4 := 64) ((fe_24 66).trans rfl) L S h
theorem r_24_68 (L S : List Value) (h : icH) : icE 24 68 L S h = exe icE 24 (e_bin (fun x y => x >>> (y &&& 31)) 69 L S h) := icE_eq (i := .ishr) (len := 1) (x1 := 0) (x2 := 0) (x3 := 0) (x4 := 64) ((fe_24 68).trans rfl) L S h
theorem r_24_69 (L S : List Value) (h : icH) : icE 24 69 L S h = icE 24 70 L (.int (nI 1) :: S) h := icE_eq (i := .iconst 1) (len := 1) (x1 := 0) (x2 := 0) (x3 := 0) (x4 := 64) ((fe_24 69).trans rfl) L S h
theorem r_24_70 (L S : List Value) (h : icH) : icE 24 70 L S h = exe icE 24 (e_bin (fun x y => x &&& y) 71 L S h) := icE_eq (i := .iand) (len := 1) (x1 := 0) (x2 := 0) (x3 := 0) (x4 := 64) ((fe_24 70).trans rfl) L S h
theorem r_24_71 (L S : List Value) (h : icH) : icE 24 71 L S h = exe icE 24 (e_if .eq 94 74 L S h) := icE_eq (i := .ifCond .eq 23) (len := 3) (x1 := 94) (x2 := 0) (x3 := 0) (x4 := 64) ((fe_24 71).trans rfl) L S h
theorem r_24_74 (L S : List Value) (h : icH) : icE 24 74 L S h = exe icE 24 (e_aload 0 75 L S h) := icE_eq (i := .aload_n 0) (len := 1) (x1 := 0) (x2 := 0) (x3 := 0) (x4 := 64) ((fe_24 74).trans rfl) L S h
theorem r_24_75 (L S : List Value) (h : icH) : icE 24 75 L S h = exe icE 24 (e_getf 0 9 78 L S h) := icE_eq (i := .getfield 15) (len := 3) (x1 := 0) (x2 := 9) (x3 := 12) (x4 := 263) ((fe_24 75).trans rfl) L S h
theorem r_24_78 (L S : List Value) (h : icH) : icE 24 78 L S h = exe icE 24 (e_iload 8 80 L S h) := icE_eq (i := .iload 8) (len := 2) (x1 := 0) (x2 := 0) (x3 := 0) (x4 := 64) ((fe_24 78).trans rfl) L S h
theorem r_24_80 (L S : List Value) (h : icH) : icE 24 80 L S h = exe icE 24 (e_iald 81 L S h) := icE_eq (i := .iaload) (len := 1) (x1 := 0) (x2 := 0) (x3 := 0) (x4 := 64) ((fe_24 80).trans rfl) L S h
theorem r_24_81 (L S : List Value) (h : icH) : icE 24 81 L S h = exe icE 24 (e_aload 0 82 L S h) := icE_eq (i := .aload_n 0) (len := 1) (x1 := 0) (x2 := 0) (x3 := 0) (x4 := 64) ((fe_24 81).trans rfl) L S h
theorem r_24_82 (L S : List Value) (h : icH) : icE 24 82 L S h = exe icE 24 (e_getf 0 9 85 L S h) := icE_eq (i := .getfield 15) (len := 3) (x1 := 0) (x2 := 9) (x3 := 12) (x4 := 263) ((fe_24 82).trans rfl) L S h
theorem r_24_85 (L S : List Value) (h : icH) : icE 24 85 L S h = exe icE 24 (e_iload 10 87 L S h) := icE_eq (i := .iload 10) (len := 2) (x1 := 0) (x2 := 0) (x3 := 0) (x4 := 64) ((fe_24 85).trans rfl) L S h
theorem r_24_87 (L S : List Value) (h : icH) : icE 24 87 L S h = exe icE 24 (e_iald 88 L S h) := icE_eq (i := .iaload) (len := 1) (x1 := 0) (x2 := 0) (x3 := 0) (x4 := 64) ((fe_24 87).trans rfl) L S h
theorem r_24_88 (L S : List Value) (h : icH) : icE 24 88 L S h = exe icE 24 (e_cmp .ne 94 91 L S h) := icE_eq (i := .if_icmp .ne 6) (len := 3) (x1 := 94) (x2 := 0) (x3 := 0) (x4 := 64) ((fe_24 88).trans rfl) L S h
theorem r_24_91 (L S : List Value) (h : icH) : icE 24 91 L S h = exe icE 24 (e_iinc 9 (nI 1) 94 L S h) := icE_eq (i := .iinc 9 1) (len := 3) (x1 := 0) (x2 := 0) (x3 := 0) (x4 := 64) ((fe_24 91).trans rfl) L S h
theorem r_24_94 (L S : List Value) (h : icH) : icE 24 94 L S h = exe icE 24 (e_iinc 10 (nI 1) 97 L S h) := icE_eq (i := .iinc 10 1) (len := 3) (x1 := 0) (x2 := 0) (x3 := 0) (x4 := 64) ((fe_24 94).trans rfl) L S h
theorem r_24_97 (L S : List Value) (h : icH) : icE 24 97 L S h = icE 24 57 L S h := icE_eq (i := .goto (-40)) (len := 3) (x1 := 57) (x2 := 0) (x3 := 0) (x4 := 64) ((fe_24 97).trans rfl) L S h
theorem r_24_100 (L S : List Value) (h : icH) : icE 24 100 L S h = exe icE 24 (e_iload 7 102 L S h) := icE_eq (i := .iload 7) (len := 2) (x1 := 0) (x2 := 0) (x3 := 0) (x4 := 64) ((fe_24 100).trans rfl) L S h
theorem r_24_102 (L S : List Value) (h : icH) : icE 24 102 L S h = exe icE 24 (e_iload 9 104 L S h) := icE_eq (i := .iload 9) (len := 2) (x1 := 0) (x2 := 0) (x3 := 0) (x4 := 64) ((fe_24 102).trans rfl) L S h
theorem r_24_104 (L S : List Value) (h : icH) : icE 24 104 L S h = exe icE 24 (e_call 223 2 2 107 L S h) := icE_eq (i := .invokestatic 9) (len := 3) (x1 := 223) (x2 := 1) (x3 := 0) (x4 := 262) ((fe_24 104).trans rfl) L S h
theorem r_24_107 (L S : List Value) (h : icH) : icE 24 107 L S h = exe icE 24 (e_istore 7 109 L S h) := icE_eq (i := .istore 7) (len := 2) (x1 := 0) (x2 := 0) (x3 := 0) (x4 := 64) ((fe_24 107).trans rfl) L S h
theorem r_24_109 (L S : List Value) (h : icH) : icE 24 109 L S h = exe icE 24 (e_iinc 8 (nI 1) 112 L S h) := icE_eq (i := .iinc 8 1) (len := 3) (x1 := 0) (x2 := 0) (x3 := 0) (x4 := 64) ((fe_24 109).trans rfl) L S h
theorem r_24_112 (L S : List Value) (h : icH) : icE 24 112 L S h = icE 24 6 L S h := icE_eq (i := .goto (-106)) (len := 3) (x1 := 6) (x2 := 0) (x3 := 0) (x4 := 64) ((fe_24 112).trans rfl) L S h
theorem r_24_115 (L S : List Value) (h : icH) : icE 24 115 L S h = exe icE 24 (e_iload 7 117 L S h) := icE_eq (i := .iload 7) (len := 2) (x1 := 0) (x2 := 0) (x3 := 0) (x4 := 64) ((fe_24 115).trans rfl) L S h
theorem r_24_117 (L S : List Value) (h : icH) : icE 24 117 L S h = exe icE 24 (e_iret 0 L S h) := icE_eq (i := .ireturn) (len := 1) (x1 := 0) (x2 := 0) (x3 := 0) (x4 := 64) ((fe_24 117).trans rfl) L S h
theorem rw_24 : (∀ (L S : List Value) (h : icH), icE 24 0 L S h = icE 24 1 L (.int (nI 0) :: S) h) ∧ (∀ (L S : List Value) (h : icH), icE 24 1 L S h = exe icE 24 (e_istore 7 3 L S h)) ∧ (∀ (L S : List Value) (h : icH), icE 24 3 L S h = icE 24 4 L (.int (nI 0) :: S) h) ∧ (∀ (L S : List Value) (h : icH), icE 24 4 L S h = exe icE 24 (e_istore 8 6 L S h)) ∧ (∀ (L S : List Value) (h : icH), icE 24 8 L S h = exe icE 24 (e_aload 0 9 L S h)) ∧ (∀ (L S : List Value) (h : icH), icE 24 9 L S h = exe icE 24 (e_getf 0 9 12 L S h)) ∧ (∀ (L S : List Value) (h : icH), icE 24 12 L S h = exe icE 24 (e_alen 13 L S h)) ∧ (∀ (L S : List Value) (h : icH), icE 24 13 L S h = exe icE 24 (e_cmp .ge 115 16 L S h)) ∧ (∀ (L S : List Value) (h : icH), icE 24 16 L S h = exe icE 24 (e_iload 7 18 L S h)) ∧ (∀ (L S : List Value) (h : icH), icE 24 18 L S h = exe icE 24 (e_iload 6 20 L S h)) ∧ (∀ (L S : List Value) (h : icH), icE 24 20 L S h = exe icE 24 (e_cmp .ge 115 23 L S h)) ∧ (∀ (L S : List Value) (h : icH), icE 24 23 L S h = exe icE 24 (e_iload 5 25 L S h)) ∧ (∀ (L S : List Value) (h : icH), icE 24 25 L S h = exe icE 24 (e_iload 8 27 L S h)) ∧ (∀ (L S : List Value) (h : icH), icE 24 27 L S h = exe icE 24 (e_bin (fun x y => x >>> (y &&& 31)) 28 L S h)) ∧ (∀ (L S : List Value) (h : icH), icE 24 28 L S h = icE 24 29 L (.int (nI 1) :: S) h) ∧ (∀ (L S : List Value) (h : icH), icE 24 29 L S h = exe icE 24 (e_bin (fun x y => x &&& y) 30 L S h)) ∧ (∀ (L S : List Value) (h : icH), icE 24 30 L S h = exe icE 24 (e_if .eq 109 33 L S h)) ∧ (∀ (L S : List Value) (h : icH), icE 24 33 L S h = exe icE 24 (e_aload 0 34 L S h)) ∧ (∀ (L S : List Value) (h : icH), icE 24 34 L S h = exe icE 24 (e_getf 0 9 37 L S h)) ∧ (∀ (L S : List Value) (h : icH), icE 24 37 L S h = exe icE 24 (e_iload 8 39 L S h)) ∧ (∀ (L S : List Value) (h : icH), icE 24 39 L S h = exe icE 24 (e_aload 0 40 L S h)) ∧ (∀ (L S : List Value) (h : icH), icE 24 40 L S h = exe icE 24 (e_aload 1 41 L S h)) ∧ (∀ (L S : List Value) (h : icH), icE 24 41 L S h = exe icE 24 (e_iload 2 42 L S h)) ∧ (∀ (L S : List Value) (h : icH), icE 24 42 L S h = exe icE 24 (e_iload 3 43 L S h)) ∧ (∀ (L S : List Value) (h : icH), icE 24 43 L S h = exe icE 24 (e_iload 4 45 L S h)) ∧ (∀ (L S : List Value) (h : icH), icE 24 45 L S h = exe icE 24 (e_iload 8 47 L S h)) ∧ (∀ (L S : List Value) (h : icH), icE 24 47 L S h = exe icE 24 (e_abst 28 37 41 6 6 6 5 50 L S h)) ∧ (∀ (L S : List Value) (h : icH), icE 24 50 L S h = exe icE 24 (e_iast 51 L S h)) ∧ (∀ (L S : List Value) (h : icH), icE 24 51 L S h = icE 24 52 L (.int (nI 1) :: S) h) ∧ (∀ (L S : List Value) (h : icH), icE 24 52 L S h = exe icE 24 (e_istore 9 54 L S h)) ∧ (∀ (L S : List Value) (h : icH), icE 24 54 L S h = icE 24 55 L (.int (nI 0) :: S) h) ∧ (∀ (L S : List Value) (h : icH), icE 24 55 L S h = exe icE 24 (e_istore 10 57 L S h)) ∧ (∀ (L S : List Value) (h : icH), icE 24 59 L S h = exe icE 24 (e_iload 8 61 L S h)) ∧ (∀ (L S : List Value) (h : icH), icE 24 61 L S h = exe icE 24 (e_cmp .ge 100 64 L S h)) ∧ (∀ (L S : List Value) (h : icH), icE 24 64 L S h = exe icE 24 (e_iload 5 66 L S h)) ∧ (∀ (L S : List Value) (h : icH), icE 24 66 L S h = exe icE 24 (e_iload 10 68 L S h)) ∧ (∀ (L S : List Value) (h : icH), icE 24 68 L S h = exe icE 24 (e_bin (fun x y => x >>> (y &&& 31)) 69 L S h)) ∧ (∀ (L S : List Value) (h : icH), icE 24 69 L S h = icE 24 70 L (.int (nI 1) :: S) h) ∧ (∀ (L S : List Value) (h : icH), icE 24 70 L S h = exe icE 24 (e_bin (fun x y => x &&& y) 71 L S h)) ∧ (∀ (L S : List Value) (h : icH), icE 24 71 L S h = exe icE 24 (e_if .eq 94 74 L S h)) ∧ (∀ (L S : List Value) (h : icH), icE 24 74 L S h = exe icE 24 (e_aload 0 75 L S h)) ∧ (∀ (L S : List Value) (h : icH), icE 24 75 L S h = exe icE 24 (e_getf 0 9 78 L S h)) ∧ (∀ (L S : List Value) (h : icH), icE 24 78 L S h = exe icE 24 (e_iload 8 80 L S h)) ∧ (∀ (L S : List Value) (h : icH), icE 24 80 L S h = exe icE 24 (e_iald 81 L S h)) ∧ (∀ (L S : List Value) (h : icH), icE 24 81 L S h = exe icE 24 (e_aload 0 82 L S h)) ∧ (∀ (L S : List Value) (h : icH), icE 24 82 L S h = exe icE 24 (e_getf 0 9 85 L S h)) ∧ (∀ (L S : List Value) (h : icH), icE 24 85 L S h = exe icE 24 (e_iload 10 87 L S h)) ∧ (∀ (L S : List Value) (h : icH), icE 24 87 L S h = exe icE 24 (e_iald 88 L S h)) ∧ (∀ (L S : List Value) (h : icH), icE 24 88 L S h = exe icE 24 (e_cmp .ne 94 91 L S h)) ∧ (∀ (L S : List Value) (h : icH), icE 24 91 L S h = exe icE 24 (e_iinc 9 (nI 1) 94 L S h)) ∧ (∀ (L S : List Value) (h : icH), icE 24 94 L S h = exe icE 24 (e_iinc 10 (nI 1) 97 L S h)) ∧ (∀ (L S : List Value) (h : icH), icE 24 97 L S h = icE 24 57 L S h) ∧ (∀ (L S : List Value) (h : icH), icE 24 100 L S h = exe icE 24 (e_iload 7 102 L S h)) ∧ (∀ (L S : List Value) (h : icH), icE 24 102 L S h = exe icE 24 (e_iload 9 104 L S h)) ∧ (∀ (L S : List Value) (h : icH), icE 24 104 L S h = exe icE 24 (e_call 223 2 2 107 L S h)) ∧ (∀ (L S : List Value) (h : icH), icE 24 107 L S h = exe icE 24 (e_istore 7 109 L S h)) ∧ (∀ (L S : List Value) (h : icH), icE 24 109 L S h = exe icE 24 (e_iinc 8 (nI 1) 112 L S h)) ∧ (∀ (L S : List Value) (h : icH), icE 24 112 L S h = icE 24 6 L S h) ∧ (∀ (L S : List Value) (h : icH), icE 24 115 L S h = exe icE 24 (e_iload 7 117 L S h)) ∧ (∀ (L S : List Value) (h : icH), icE 24 117 L S h = exe icE 24 (e_iret 0 L S h)) := ⟨r_24_0, r_24_1, r_24_3, r_24_4, r_24_8, r_24_9, r_24_12, r_24_13, r_24_16, r_24_18, r_24_20, r_24_23, r_24_25, r_24_27, r_24_28, r_24_29, r_24_30, r_24_33, r_24_34, r_24_37, r_24_39, r_24_40, r_24_41, r_24_42, r_24_43, r_24_45, r_24_47, r_24_50, r_24_51, r_24_52, r_24_54, r_24_55, r_24_59, r_24_61, r_24_64, r_24_66, r_24_68, r_24_69, r_24_70, r_24_71, r_24_74, r_24_75, r_24_78, r_24_80, r_24_81, r_24_82, r_24_85, r_24_87, r_24_88, r_24_91, r_24_94, r_24_97, r_24_100, r_24_102, r_24_104, r_24_107, r_24_109, r_24_112, r_24_115, r_24_117⟩
-- cX2_rowsOf: heads []
theorem fe_26 (pc : Nat) : fet 26 pc = look k_26 pc := rfl
theorem r_26_0 (L S : List Value) (h : icH) : icE 26 0 L S h = exe icE 26 (e_aload 1 1 L S h) := icE_eq (i := .aload_n 1) (len := 1) (x1 := 0) (x2 := 0) (x3 := 0) (x4 := 64) ((fe_26 0).trans rfl) L S h
theorem r_26_1 (L S : List Value) (h : icH) : icE 26 1 L S h = exe icE 26 (e_getf 1 2 4 L S h) := icE_eq (i := .getfield 9) (len := 3) (x1 := 1) (x2 := 2) (x3 := 12) (x4 := 197) ((fe_26 1).trans rfl) L S h
theorem r_26_4 (L S : List Value) (h : icH) : icE 26 4 L S h = exe icE 26 (e_aret L S h) := icE_eq (i := .areturn) (len := 1) (x1 := 0) (x2 := 0) (x3 := 0) (x4 := 64) ((fe_26 4).trans rfl) L S h
theorem rw_26 : (∀ (L S : List Value) (h : icH), icE 26 0 L S h = exe icE 26 (e_aload 1 1 L S h)) ∧ (∀ (L S : List Value) (h : icH), icE 26 1 L S h = exe icE 26 (e_getf 1 2 4 L S h)) ∧ (∀ (L S : List Value) (h : icH), icE 26 4 L S h = exe icE 26 (e_aret L S h)) := ⟨r_26_0, r_26_1, r_26_4⟩
-- cX2_byRow: heads []
theorem fe_27 (pc : Nat) : fet 27 pc = look k_27 pc := rfl
theorem r_27_0 (L S : List Value) (h : icH) : icE 27 0 L S h = exe icE 27 (e_aload 1 1 L S h) := icE_eq (i := .aload_n 1) (len := 1) (x1 := 0) (x2 := 0) (x3 := 0) (x4 := 64) ((fe_27 0).trans rfl) L S h
theorem r_27_1 (L S : List Value) (h : icH) : icE 27 1 L S h = exe icE 27 (e_getf 1 2 4 L S h) := icE_eq (i := .getfield 9) (len := 3) (x1 := 1) (x2 := 2) (x3 := 12) (x4 := 197) ((fe_27 1).trans rfl) L S h
theorem r_27_4 (L S : List Value) (h : icH) : icE 27 4 L S h = exe icE 27 (e_astore 4 6 L S h) := icE_eq (i := .astore 4) (len := 2) (x1 := 0) (x2 := 0) (x3 := 0) (x4 := 64) ((fe_27 4).trans rfl) L S h
theorem r_27_6 (L S : List Value) (h : icH) : icE 27 6 L S h = exe icE 27 (e_aload 1 7 L S h) := icE_eq (i := .aload_n 1) (len := 1) (x1 := 0) (x2 := 0) (x3 := 0) (x4 := 64) ((fe_27 6).trans rfl) L S h
theorem r_27_7 (L S : List Value) (h : icH) : icE 27 7 L S h = exe icE 27 (e_getf 0 2 10 L S h) := icE_eq (i := .getfield 15) (len := 3) (x1 := 0) (x2 := 2) (x3 := 12) (x4 := 193) ((fe_27 7).trans rfl) L S h
theorem r_27_10 (L S : List Value) (h : icH) : icE 27 10 L S h = exe icE 27 (e_getf 3 0 13 L S h) := icE_eq (i := .getfield 19) (len := 3) (x1 := 3) (x2 := 0) (x3 := 12) (x4 := 116) ((fe_27 10).trans rfl) L S h
theorem r_27_13 (L S : List Value) (h : icH) : icE 27 13 L S h = exe icE 27 (e_aload 4 15 L S h) := icE_eq (i := .aload 4) (len := 2) (x1 := 0) (x2 := 0) (x3 := 0) (x4 := 64) ((fe_27 13).trans rfl) L S h
theorem r_27_15 (L S : List Value) (h : icH) : icE 27 15 L S h = exe icE 27 (e_iload 2 16 L S h) := icE_eq (i := .iload_n 2) (len := 1) (x1 := 0) (x2 := 0) (x3 := 0) (x4 := 64) ((fe_27 15).trans rfl) L S h
theorem r_27_16 (L S : List Value) (h : icH) : icE 27 16 L S h = icE 27 17 L (.int (nI 0) :: S) h := icE_eq (i := .iconst 0) (len := 1) (x1 := 0) (x2 := 0) (x3 := 0) (x4 := 64) ((fe_27 16).trans rfl) L S h
theorem r_27_17 (L S : List Value) (h : icH) : icE 27 17 L S h = exe icE 27 (e_vcal 5 45 4 2 20 L S h) := icE_eq (i := .invokevirtual 25) (len := 3) (x1 := 45) (x2 := 3) (x3 := 5) (x4 := 783) ((fe_27 17).trans rfl) L S h
theorem r_27_20 (L S : List Value) (h : icH) : icE 27 20 L S h = exe icE 27 (e_iald 21 L S h) := icE_eq (i := .iaload) (len := 1) (x1 := 0) (x2 := 0) (x3 := 0) (x4 := 64) ((fe_27 20).trans rfl) L S h
theorem r_27_21 (L S : List Value) (h : icH) : icE 27 21 L S h = exe icE 27 (e_istore 5 23 L S h) := icE_eq (i := .istore 5) (len := 2) (x1 := 0) (x2 := 0) (x3 := 0) (x4 := 64) ((fe_27 21).trans rfl) L S h
theorem r_27_23 (L S : List Value) (h : icH) : icE 27 23 L S h = exe icE 27 (e_iload 5 25 L S h) := icE_eq (i := .iload 5) (len := 2) (x1 := 0) (x2 := 0) (x3 := 0) (x4 := 64) ((fe_27 23).trans rfl) L S h
theorem r_27_25 (L S : List Value) (h : icH) : icE 27 25 L S h = exe icE 27 (e_aload 4 27 L S h) := icE_eq (i := .aload 4) (len := 2) (x1 := 0) (x2 := 0) (x3 := 0) (x4 := 64) ((fe_27 25).trans rfl) L S h
theorem r_27_27 (L S : List Value) (h : icH) : icE 27 27 L S h = exe icE 27 (e_iload 2 28 L S h) := icE_eq (i := .iload_n 2) (len := 1) (x1 := 0) (x2 := 0) (x3 := 0) (x4 := 64) ((fe_27 27).trans rfl) L S h
theorem r_27_28 (L S : List Value) (h : icH) : icE 27 28 L S h = icE 27 29 L (.int (nI 1) :: S) h := icE_eq (i := .iconst 1) (len := 1) (x1 := 0) (x2 := 0) (x3 := 0) (x4 := 64) ((fe_27 28).trans rfl) L S h
theorem r_27_29 (L S : List Value) (h : icH) : icE 27 29 L S h = exe icE 27 (e_vcal 5 45 4 2 32 L S h) := icE_eq (i := .invokevirtual 25) (len := 3) (x1 := 45) (x2 := 3) (x3 := 5) (x4 := 783) ((fe_27 29).trans rfl) L S h
theorem r_27_32 (L S : List Value) (h : icH) : icE 27 32 L S h = exe icE 27 (e_iload 3 33 L S h) := icE_eq (i := .iload_n 3) (len := 1) (x1 := 0) (x2 := 0) (x3 := 0) (x4 := 64) ((fe_27 32).trans rfl) L S h
theorem r_27_33 (L S : List Value) (h : icH) : icE 27 33 L S h = exe icE 27 (e_aload 4 35 L S h) := icE_eq (i := .aload 4) (len := 2) (x1 := 0) (x2 := 0) (x3 := 0) (x4 := 64) ((fe_27 33).trans rfl) L S h
theorem r_27_35 (L S : List Value) (h : icH) : icE 27 35 L S h = exe icE 27 (e_iload 2 36 L S h) := icE_eq (i := .iload_n 2) (len := 1) (x1 := 0) (x2 := 0) (x3 := 0) (x4 := 64) ((fe_27 35).trans rfl) L S h
theorem r_27_36 (L S : List Value) (h : icH) : icE 27 36 L S h = icE 27 37 L (.int (nI 2) :: S) h := icE_eq (i := .iconst 2) (len := 1) (x1 := 0) (x2 := 0) (x3 := 0) (x4 := 64) ((fe_27 36).trans rfl) L S h
theorem r_27_37 (L S : List Value) (h : icH) : icE 27 37 L S h = exe icE 27 (e_vcal 5 45 4 2 40 L S h) := icE_eq (i := .invokevirtual 25) (len := 3) (x1 := 45) (x2 := 3) (x3 := 5) (x4 := 783) ((fe_27 37).trans rfl) L S h
theorem r_27_40 (L S : List Value) (h : icH) : icE 27 40 L S h = exe icE 27 (e_call 1 7 4 43 L S h) := icE_eq (i := .invokestatic 31) (len := 3) (x1 := 1) (x2 := 1) (x3 := 0) (x4 := 784) ((fe_27 40).trans rfl) L S h
theorem r_27_43 (L S : List Value) (h : icH) : icE 27 43 L S h = exe icE 27 (e_iret 0 L S h) := icE_eq (i := .ireturn) (len := 1) (x1 := 0) (x2 := 0) (x3 := 0) (x4 := 64) ((fe_27 43).trans rfl) L S h
theorem rw_27 : (∀ (L S : List Value) (h : icH), icE 27 0 L S h = exe icE 27 (e_aload 1 1 L S h)) ∧ (∀ (L S : List Value) (h : icH), icE 27 1 L S h = exe icE 27 (e_getf 1 2 4 L S h)) ∧ (∀ (L S : List Value) (h : icH), icE 27 4 L S h = exe icE 27 (e_astore 4 6 L S h)) ∧ (∀ (L S : List Value) (h : icH), icE 27 6 L S h = exe icE 27 (e_aload 1 7 L S h)) ∧ (∀ (L S : List Value) (h : icH), icE 27 7 L S h = exe icE 27 (e_getf 0 2 10 L S h)) ∧ (∀ (L S : List Value) (h : icH), icE 27 10 L S h = exe icE 27 (e_getf 3 0 13 L S h)) ∧ (∀ (L S : List Value) (h : icH), icE 27 13 L S h = exe icE 27 (e_aload 4 15 L S h)) ∧ (∀ (L S : List Value) (h : icH), icE 27 15 L S h = exe icE 27 (e_iload 2 16 L S h)) ∧ (∀ (L S : List Value) (h : icH), icE 27 16 L S h = icE 27 17 L (.int (nI 0) :: S) h) ∧ (∀ (L S : List Value) (h : icH), icE 27 17 L S h = exe icE 27 (e_vcal 5 45 4 2 20 L S h)) ∧ (∀ (L S : List Value) (h : icH), icE 27 20 L S h = exe icE 27 (e_iald 21 L S h)) ∧ (∀ (L S : List Value) (h : icH), icE 27 21 L S h = exe icE 27 (e_istore 5 23 L S h)) ∧ (∀ (L S : List Value) (h : icH), icE 27 23 L S h = exe icE 27 (e_iload 5 25 L S h)) ∧ (∀ (L S : List Value) (h : icH), icE 27 25 L S h = exe icE 27 (e_aload 4 27 L S h)) ∧ (∀ (L S : List Value) (h : icH), icE 27 27 L S h = exe icE 27 (e_iload 2 28 L S h)) ∧ (∀ (L S : List Value) (h : icH), icE 27 28 L S h = icE 27 29 L (.int (nI 1) :: S) h) ∧ (∀ (L S : List Value) (h : icH), icE 27 29 L S h = exe icE 27 (e_vcal 5 45 4 2 32 L S h)) ∧ (∀ (L S : List Value) (h : icH), icE 27 32 L S h = exe icE 27 (e_iload 3 33 L S h)) ∧ (∀ (L S : List Value) (h : icH), icE 27 33 L S h = exe icE 27 (e_aload 4 35 L S h)) ∧ (∀ (L S : List Value) (h : icH), icE 27 35 L S h = exe icE 27 (e_iload 2 36 L S h)) ∧ (∀ (L S : List Value) (h : icH), icE 27 36 L S h = icE 27 37 L (.int (nI 2) :: S) h) ∧ (∀ (L S : List Value) (h : icH), icE 27 37 L S h = exe icE 27 (e_vcal 5 45 4 2 40 L S h)) ∧ (∀ (L S : List Value) (h : icH), icE 27 40 L S h = exe icE 27 (e_call 1 7 4 43 L S h)) ∧ (∀ (L S : List Value) (h : icH), icE 27 43 L S h = exe icE 27 (e_iret 0 L S h)) := ⟨r_27_0, r_27_1, r_27_4, r_27_6, r_27_7, r_27_10, r_27_13, r_27_15, r_27_16, r_27_17, r_27_20, r_27_21, r_27_23, r_27_25, r_27_27, r_27_28, r_27_29, r_27_32, r_27_33, r_27_35, r_27_36, r_27_37, r_27_40, r_27_43⟩
-- cX2_byLook: heads []
theorem fe_28 (pc : Nat) : fet 28 pc = look k_28 pc := rfl
theorem r_28_0 (L S : List Value) (h : icH) : icE 28 0 L S h = exe icE 28 (e_aload 1 1 L S h) := icE_eq (i := .aload_n 1) (len := 1) (x1 := 0) (x2 := 0) (x3 := 0) (x4 := 64) ((fe_28 0).trans rfl) L S h
theorem r_28_1 (L S : List Value) (h : icH) : icE 28 1 L S h = exe icE 28 (e_getf 0 2 4 L S h) := icE_eq (i := .getfield 15) (len := 3) (x1 := 0) (x2 := 2) (x3 := 12) (x4 := 193) ((fe_28 1).trans rfl) L S h
theorem r_28_4 (L S : List Value) (h : icH) : icE 28 4 L S h = exe icE 28 (e_getf 3 0 7 L S h) := icE_eq (i := .getfield 19) (len := 3) (x1 := 3) (x2 := 0) (x3 := 12) (x4 := 116) ((fe_28 4).trans rfl) L S h
theorem r_28_7 (L S : List Value) (h : icH) : icE 28 7 L S h = exe icE 28 (e_iload 2 8 L S h) := icE_eq (i := .iload_n 2) (len := 1) (x1 := 0) (x2 := 0) (x3 := 0) (x4 := 64) ((fe_28 7).trans rfl) L S h
theorem r_28_8 (L S : List Value) (h : icH) : icE 28 8 L S h = exe icE 28 (e_iald 9 L S h) := icE_eq (i := .iaload) (len := 1) (x1 := 0) (x2 := 0) (x3 := 0) (x4 := 64) ((fe_28 8).trans rfl) L S h
theorem r_28_9 (L S : List Value) (h : icH) : icE 28 9 L S h = exe icE 28 (e_iload 3 10 L S h) := icE_eq (i := .iload_n 3) (len := 1) (x1 := 0) (x2 := 0) (x3 := 0) (x4 := 64) ((fe_28 9).trans rfl) L S h
theorem r_28_10 (L S : List Value) (h : icH) : icE 28 10 L S h = exe icE 28 (e_iload 5 12 L S h) := icE_eq (i := .iload 5) (len := 2) (x1 := 0) (x2 := 0) (x3 := 0) (x4 := 64) ((fe_28 10).trans rfl) L S h
theorem r_28_12 (L S : List Value) (h : icH) : icE 28 12 L S h = exe icE 28 (e_aload 1 13 L S h) := icE_eq (i := .aload_n 1) (len := 1) (x1 := 0) (x2 := 0) (x3 := 0) (x4 := 64) ((fe_28 12).trans rfl) L S h
theorem r_28_13 (L S : List Value) (h : icH) : icE 28 13 L S h = exe icE 28 (e_getf 0 2 16 L S h) := icE_eq (i := .getfield 15) (len := 3) (x1 := 0) (x2 := 2) (x3 := 12) (x4 := 193) ((fe_28 13).trans rfl) L S h
theorem r_28_16 (L S : List Value) (h : icH) : icE 28 16 L S h = exe icE 28 (e_getf 5 0 19 L S h) := icE_eq (i := .getfield 35) (len := 3) (x1 := 5) (x2 := 0) (x3 := 12) (x4 := 122) ((fe_28 16).trans rfl) L S h
theorem r_28_19 (L S : List Value) (h : icH) : icE 28 19 L S h = exe icE 28 (e_iload 2 20 L S h) := icE_eq (i := .iload_n 2) (len := 1) (x1 := 0) (x2 := 0) (x3 := 0) (x4 := 64) ((fe_28 19).trans rfl) L S h
theorem r_28_20 (L S : List Value) (h : icH) : icE 28 20 L S h = exe icE 28 (e_iald 21 L S h) := icE_eq (i := .iaload) (len := 1) (x1 := 0) (x2 := 0) (x3 := 0) (x4 := 64) ((fe_28 20).trans rfl) L S h
theorem r_28_21 (L S : List Value) (h : icH) : icE 28 21 L S h = exe icE 28 (e_call 1 7 4 24 L S h) := icE_eq (i := .invokestatic 31) (len := 3) (x1 := 1) (x2 := 1) (x3 := 0) (x4 := 784) ((fe_28 21).trans rfl) L S h
theorem r_28_24 (L S : List Value) (h : icH) : icE 28 24 L S h = exe icE 28 (e_iret 0 L S h) := icE_eq (i := .ireturn) (len := 1) (x1 := 0) (x2 := 0) (x3 := 0) (x4 := 64) ((fe_28 24).trans rfl) L S h
theorem rw_28 : (∀ (L S : List Value) (h : icH), icE 28 0 L S h = exe icE 28 (e_aload 1 1 L S h)) ∧ (∀ (L S : List Value) (h : icH), icE 28 1 L S h = exe icE 28 (e_getf 0 2 4 L S h)) ∧ (∀ (L S : List Value) (h : icH), icE 28 4 L S h = exe icE 28 (e_getf 3 0 7 L S h)) ∧ (∀ (L S : List Value) (h : icH), icE 28 7 L S h = exe icE 28 (e_iload 2 8 L S h)) ∧ (∀ (L S : List Value) (h : icH), icE 28 8 L S h = exe icE 28 (e_iald 9 L S h)) ∧ (∀ (L S : List Value) (h : icH), icE 28 9 L S h = exe icE 28 (e_iload 3 10 L S h)) ∧ (∀ (L S : List Value) (h : icH), icE 28 10 L S h = exe icE 28 (e_iload 5 12 L S h)) ∧ (∀ (L S : List Value) (h : icH), icE 28 12 L S h = exe icE 28 (e_aload 1 13 L S h)) ∧ (∀ (L S : List Value) (h : icH), icE 28 13 L S h = exe icE 28 (e_getf 0 2 16 L S h)) ∧ (∀ (L S : List Value) (h : icH), icE 28 16 L S h = exe icE 28 (e_getf 5 0 19 L S h)) ∧ (∀ (L S : List Value) (h : icH), icE 28 19 L S h = exe icE 28 (e_iload 2 20 L S h)) ∧ (∀ (L S : List Value) (h : icH), icE 28 20 L S h = exe icE 28 (e_iald 21 L S h)) ∧ (∀ (L S : List Value) (h : icH), icE 28 21 L S h = exe icE 28 (e_call 1 7 4 24 L S h)) ∧ (∀ (L S : List Value) (h : icH), icE 28 24 L S h = exe icE 28 (e_iret 0 L S h)) := ⟨r_28_0, r_28_1, r_28_4, r_28_7, r_28_8, r_28_9, r_28_10, r_28_12, r_28_13, r_28_16, r_28_19, r_28_20, r_28_21, r_28_24⟩
-- cX4_rowsOf: heads []
theorem fe_35 (pc : Nat) : fet 35 pc = look k_35 pc := rfl
theorem r_35_0 (L S : List Value) (h : icH) : icE 35 0 L S h = exe icE 35 (e_aload 1 1 L S h) := icE_eq (i := .aload_n 1) (len := 1) (x1 := 0) (x2 := 0) (x3 := 0) (x4 := 64) ((fe_35 0).trans rfl) L S h
theorem r_35_1 (L S : List Value) (h : icH) : icE 35 1 L S h = exe icE 35 (e_getf 2 2 4 L S h) := icE_eq (i := .getfield 9) (len := 3) (x1 := 2) (x2 := 2) (x3 := 12) (x4 := 200) ((fe_35 1).trans rfl) L S h
theorem r_35_4 (L S : List Value) (h : icH) : icE 35 4 L S h = exe icE 35 (e_aret L S h) := icE_eq (i := .areturn) (len := 1) (x1 := 0) (x2 := 0) (x3 := 0) (x4 := 64) ((fe_35 4).trans rfl) L S h
theorem rw_35 : (∀ (L S : List Value) (h : icH), icE 35 0 L S h = exe icE 35 (e_aload 1 1 L S h)) ∧ (∀ (L S : List Value) (h : icH), icE 35 1 L S h = exe icE 35 (e_getf 2 2 4 L S h)) ∧ (∀ (L S : List Value) (h : icH), icE 35 4 L S h = exe icE 35 (e_aret L S h)) := ⟨r_35_0, r_35_1, r_35_4⟩
-- cX4_byRow: heads []
theorem fe_36 (pc : Nat) : fet 36 pc = look k_36 pc := rfl
theorem r_36_0 (L S : List Value) (h : icH) : icE 36 0 L S h = exe icE 36 (e_aload 1 1 L S h) := icE_eq (i := .aload_n 1) (len := 1) (x1 := 0) (x2 := 0) (x3 := 0) (x4 := 64) ((fe_36 0).trans rfl) L S h
theorem r_36_1 (L S : List Value) (h : icH) : icE 36 1 L S h = exe icE 36 (e_getf 2 2 4 L S h) := icE_eq (i := .getfield 9) (len := 3) (x1 := 2) (x2 := 2) (x3 := 12) (x4 := 200) ((fe_36 1).trans rfl) L S h
theorem r_36_4 (L S : List Value) (h : icH) : icE 36 4 L S h = exe icE 36 (e_astore 4 6 L S h) := icE_eq (i := .astore 4) (len := 2) (x1 := 0) (x2 := 0) (x3 := 0) (x4 := 64) ((fe_36 4).trans rfl) L S h
theorem r_36_6 (L S : List Value) (h : icH) : icE 36 6 L S h = exe icE 36 (e_iload 3 7 L S h) := icE_eq (i := .iload_n 3) (len := 1) (x1 := 0) (x2 := 0) (x3 := 0) (x4 := 64) ((fe_36 6).trans rfl) L S h
theorem r_36_7 (L S : List Value) (h : icH) : icE 36 7 L S h = exe icE 36 (e_aload 4 9 L S h) := icE_eq (i := .aload 4) (len := 2) (x1 := 0) (x2 := 0) (x3 := 0) (x4 := 64) ((fe_36 7).trans rfl) L S h
theorem r_36_9 (L S : List Value) (h : icH) : icE 36 9 L S h = exe icE 36 (e_iload 2 10 L S h) := icE_eq (i := .iload_n 2) (len := 1) (x1 := 0) (x2 := 0) (x3 := 0) (x4 := 64) ((fe_36 9).trans rfl) L S h
theorem r_36_10 (L S : List Value) (h : icH) : icE 36 10 L S h = icE 36 11 L (.int (nI 1) :: S) h := icE_eq (i := .iconst 1) (len := 1) (x1 := 0) (x2 := 0) (x3 := 0) (x4 := 64) ((fe_36 10).trans rfl) L S h
theorem r_36_11 (L S : List Value) (h : icH) : icE 36 11 L S h = exe icE 36 (e_vcal 5 45 4 2 14 L S h) := icE_eq (i := .invokevirtual 15) (len := 3) (x1 := 45) (x2 := 3) (x3 := 5) (x4 := 788) ((fe_36 11).trans rfl) L S h
theorem r_36_14 (L S : List Value) (h : icH) : icE 36 14 L S h = exe icE 36 (e_aload 4 16 L S h) := icE_eq (i := .aload 4) (len := 2) (x1 := 0) (x2 := 0) (x3 := 0) (x4 := 64) ((fe_36 14).trans rfl) L S h
theorem r_36_16 (L S : List Value) (h : icH) : icE 36 16 L S h = exe icE 36 (e_iload 2 17 L S h) := icE_eq (i := .iload_n 2) (len := 1) (x1 := 0) (x2 := 0) (x3 := 0) (x4 := 64) ((fe_36 16).trans rfl) L S h
theorem r_36_17 (L S : List Value) (h : icH) : icE 36 17 L S h = icE 36 18 L (.int (nI 2) :: S) h := icE_eq (i := .iconst 2) (len := 1) (x1 := 0) (x2 := 0) (x3 := 0) (x4 := 64) ((fe_36 17).trans rfl) L S h
theorem r_36_18 (L S : List Value) (h : icH) : icE 36 18 L S h = exe icE 36 (e_vcal 5 45 4 2 21 L S h) := icE_eq (i := .invokevirtual 15) (len := 3) (x1 := 45) (x2 := 3) (x3 := 5) (x4 := 788) ((fe_36 18).trans rfl) L S h
theorem r_36_21 (L S : List Value) (h : icH) : icE 36 21 L S h = exe icE 36 (e_aload 4 23 L S h) := icE_eq (i := .aload 4) (len := 2) (x1 := 0) (x2 := 0) (x3 := 0) (x4 := 64) ((fe_36 21).trans rfl) L S h
theorem r_36_23 (L S : List Value) (h : icH) : icE 36 23 L S h = exe icE 36 (e_iload 2 24 L S h) := icE_eq (i := .iload_n 2) (len := 1) (x1 := 0) (x2 := 0) (x3 := 0) (x4 := 64) ((fe_36 23).trans rfl) L S h
theorem r_36_24 (L S : List Value) (h : icH) : icE 36 24 L S h = icE 36 25 L (.int (nI 3) :: S) h := icE_eq (i := .iconst 3) (len := 1) (x1 := 0) (x2 := 0) (x3 := 0) (x4 := 64) ((fe_36 24).trans rfl) L S h
theorem r_36_25 (L S : List Value) (h : icH) : icE 36 25 L S h = exe icE 36 (e_vcal 5 45 4 2 28 L S h) := icE_eq (i := .invokevirtual 15) (len := 3) (x1 := 45) (x2 := 3) (x3 := 5) (x4 := 788) ((fe_36 25).trans rfl) L S h
theorem r_36_28 (L S : List Value) (h : icH) : icE 36 28 L S h = exe icE 36 (e_call 2 7 4 31 L S h) := icE_eq (i := .invokestatic 21) (len := 3) (x1 := 2) (x2 := 1) (x3 := 0) (x4 := 789) ((fe_36 28).trans rfl) L S h
theorem r_36_31 (L S : List Value) (h : icH) : icE 36 31 L S h = exe icE 36 (e_iret 0 L S h) := icE_eq (i := .ireturn) (len := 1) (x1 := 0) (x2 := 0) (x3 := 0) (x4 := 64) ((fe_36 31).trans rfl) L S h
theorem rw_36 : (∀ (L S : List Value) (h : icH), icE 36 0 L S h = exe icE 36 (e_aload 1 1 L S h)) ∧ (∀ (L S : List Value) (h : icH), icE 36 1 L S h = exe icE 36 (e_getf 2 2 4 L S h)) ∧ (∀ (L S : List Value) (h : icH), icE 36 4 L S h = exe icE 36 (e_astore 4 6 L S h)) ∧ (∀ (L S : List Value) (h : icH), icE 36 6 L S h = exe icE 36 (e_iload 3 7 L S h)) ∧ (∀ (L S : List Value) (h : icH), icE 36 7 L S h = exe icE 36 (e_aload 4 9 L S h)) ∧ (∀ (L S : List Value) (h : icH), icE 36 9 L S h = exe icE 36 (e_iload 2 10 L S h)) ∧ (∀ (L S : List Value) (h : icH), icE 36 10 L S h = icE 36 11 L (.int (nI 1) :: S) h) ∧ (∀ (L S : List Value) (h : icH), icE 36 11 L S h = exe icE 36 (e_vcal 5 45 4 2 14 L S h)) ∧ (∀ (L S : List Value) (h : icH), icE 36 14 L S h = exe icE 36 (e_aload 4 16 L S h)) ∧ (∀ (L S : List Value) (h : icH), icE 36 16 L S h = exe icE 36 (e_iload 2 17 L S h)) ∧ (∀ (L S : List Value) (h : icH), icE 36 17 L S h = icE 36 18 L (.int (nI 2) :: S) h) ∧ (∀ (L S : List Value) (h : icH), icE 36 18 L S h = exe icE 36 (e_vcal 5 45 4 2 21 L S h)) ∧ (∀ (L S : List Value) (h : icH), icE 36 21 L S h = exe icE 36 (e_aload 4 23 L S h)) ∧ (∀ (L S : List Value) (h : icH), icE 36 23 L S h = exe icE 36 (e_iload 2 24 L S h)) ∧ (∀ (L S : List Value) (h : icH), icE 36 24 L S h = icE 36 25 L (.int (nI 3) :: S) h) ∧ (∀ (L S : List Value) (h : icH), icE 36 25 L S h = exe icE 36 (e_vcal 5 45 4 2 28 L S h)) ∧ (∀ (L S : List Value) (h : icH), icE 36 28 L S h = exe icE 36 (e_call 2 7 4 31 L S h)) ∧ (∀ (L S : List Value) (h : icH), icE 36 31 L S h = exe icE 36 (e_iret 0 L S h)) := ⟨r_36_0, r_36_1, r_36_4, r_36_6, r_36_7, r_36_9, r_36_10, r_36_11, r_36_14, r_36_16, r_36_17, r_36_18, r_36_21, r_36_23, r_36_24, r_36_25, r_36_28, r_36_31⟩
-- cX4_byLook: heads []
theorem fe_37 (pc : Nat) : fet 37 pc = look k_37 pc := rfl
theorem r_37_0 (L S : List Value) (h : icH) : icE 37 0 L S h = exe icE 37 (e_iload 5 2 L S h) := icE_eq (i := .iload 5) (len := 2) (x1 := 0) (x2 := 0) (x3 := 0) (x4 := 64) ((fe_37 0).trans rfl) L S h
theorem r_37_2 (L S : List Value) (h : icH) : icE 37 2 L S h = exe icE 37 (e_aload 1 3 L S h) := icE_eq (i := .aload_n 1) (len := 1) (x1 := 0) (x2 := 0) (x3 := 0) (x4 := 64) ((fe_37 2).trans rfl) L S h
theorem r_37_3 (L S : List Value) (h : icH) : icE 37 3 L S h = exe icE 37 (e_getf 0 2 6 L S h) := icE_eq (i := .getfield 27) (len := 3) (x1 := 0) (x2 := 2) (x3 := 12) (x4 := 194) ((fe_37 3).trans rfl) L S h
theorem r_37_6 (L S : List Value) (h : icH) : icE 37 6 L S h = exe icE 37 (e_getf 11 0 9 L S h) := icE_eq (i := .getfield 31) (len := 3) (x1 := 11) (x2 := 0) (x3 := 12) (x4 := 135) ((fe_37 6).trans rfl) L S h
theorem r_37_9 (L S : List Value) (h : icH) : icE 37 9 L S h = exe icE 37 (e_iload 2 10 L S h) := icE_eq (i := .iload_n 2) (len := 1) (x1 := 0) (x2 := 0) (x3 := 0) (x4 := 64) ((fe_37 9).trans rfl) L S h
theorem r_37_10 (L S : List Value) (h : icH) : icE 37 10 L S h = exe icE 37 (e_iald 11 L S h) := icE_eq (i := .iaload) (len := 1) (x1 := 0) (x2 := 0) (x3 := 0) (x4 := 64) ((fe_37 10).trans rfl) L S h
theorem r_37_11 (L S : List Value) (h : icH) : icE 37 11 L S h = exe icE 37 (e_iload 3 12 L S h) := icE_eq (i := .iload_n 3) (len := 1) (x1 := 0) (x2 := 0) (x3 := 0) (x4 := 64) ((fe_37 11).trans rfl) L S h
theorem r_37_12 (L S : List Value) (h : icH) : icE 37 12 L S h = exe icE 37 (e_iload 4 14 L S h) := icE_eq (i := .iload 4) (len := 2) (x1 := 0) (x2 := 0) (x3 := 0) (x4 := 64) ((fe_37 12).trans rfl) L S h
theorem r_37_14 (L S : List Value) (h : icH) : icE 37 14 L S h = exe icE 37 (e_call 2 7 4 17 L S h) := icE_eq (i := .invokestatic 21) (len := 3) (x1 := 2) (x2 := 1) (x3 := 0) (x4 := 789) ((fe_37 14).trans rfl) L S h
theorem r_37_17 (L S : List Value) (h : icH) : icE 37 17 L S h = exe icE 37 (e_iret 0 L S h) := icE_eq (i := .ireturn) (len := 1) (x1 := 0) (x2 := 0) (x3 := 0) (x4 := 64) ((fe_37 17).trans rfl) L S h
theorem rw_37 : (∀ (L S : List Value) (h : icH), icE 37 0 L S h = exe icE 37 (e_iload 5 2 L S h)) ∧ (∀ (L S : List Value) (h : icH), icE 37 2 L S h = exe icE 37 (e_aload 1 3 L S h)) ∧ (∀ (L S : List Value) (h : icH), icE 37 3 L S h = exe icE 37 (e_getf 0 2 6 L S h)) ∧ (∀ (L S : List Value) (h : icH), icE 37 6 L S h = exe icE 37 (e_getf 11 0 9 L S h)) ∧ (∀ (L S : List Value) (h : icH), icE 37 9 L S h = exe icE 37 (e_iload 2 10 L S h)) ∧ (∀ (L S : List Value) (h : icH), icE 37 10 L S h = exe icE 37 (e_iald 11 L S h)) ∧ (∀ (L S : List Value) (h : icH), icE 37 11 L S h = exe icE 37 (e_iload 3 12 L S h)) ∧ (∀ (L S : List Value) (h : icH), icE 37 12 L S h = exe icE 37 (e_iload 4 14 L S h)) ∧ (∀ (L S : List Value) (h : icH), icE 37 14 L S h = exe icE 37 (e_call 2 7 4 17 L S h)) ∧ (∀ (L S : List Value) (h : icH), icE 37 17 L S h = exe icE 37 (e_iret 0 L S h)) := ⟨r_37_0, r_37_2, r_37_3, r_37_6, r_37_9, r_37_10, r_37_11, r_37_12, r_37_14, r_37_17⟩
-- cX5_rowsOf: heads []
theorem fe_39 (pc : Nat) : fet 39 pc = look k_39 pc := rfl
theorem r_39_0 (L S : List Value) (h : icH) : icE 39 0 L S h = exe icE 39 (e_aload 1 1 L S h) := icE_eq (i := .aload_n 1) (len := 1) (x1 := 0) (x2 := 0) (x3 := 0) (x4 := 64) ((fe_39 0).trans rfl) L S h
theorem r_39_1 (L S : List Value) (h : icH) : icE 39 1 L S h = exe icE 39 (e_getf 3 2 4 L S h) := icE_eq (i := .getfield 9) (len := 3) (x1 := 3) (x2 := 2) (x3 := 12) (x4 := 203) ((fe_39 1).trans rfl) L S h
theorem r_39_4 (L S : List Value) (h : icH) : icE 39 4 L S h = exe icE 39 (e_aret L S h) := icE_eq (i := .areturn) (len := 1) (x1 := 0) (x2 := 0) (x3 := 0) (x4 := 64) ((fe_39 4).trans rfl) L S h
theorem rw_39 : (∀ (L S : List Value) (h : icH), icE 39 0 L S h = exe icE 39 (e_aload 1 1 L S h)) ∧ (∀ (L S : List Value) (h : icH), icE 39 1 L S h = exe icE 39 (e_getf 3 2 4 L S h)) ∧ (∀ (L S : List Value) (h : icH), icE 39 4 L S h = exe icE 39 (e_aret L S h)) := ⟨r_39_0, r_39_1, r_39_4⟩
-- cX5_byRow: heads []
theorem fe_40 (pc : Nat) : fet 40 pc = look k_40 pc := rfl
theorem r_40_0 (L S : List Value) (h : icH) : icE 40 0 L S h = exe icE 40 (e_aload 1 1 L S h) := icE_eq (i := .aload_n 1) (len := 1) (x1 := 0) (x2 := 0) (x3 := 0) (x4 := 64) ((fe_40 0).trans rfl) L S h
theorem r_40_1 (L S : List Value) (h : icH) : icE 40 1 L S h = exe icE 40 (e_getf 3 2 4 L S h) := icE_eq (i := .getfield 9) (len := 3) (x1 := 3) (x2 := 2) (x3 := 12) (x4 := 203) ((fe_40 1).trans rfl) L S h
theorem r_40_4 (L S : List Value) (h : icH) : icE 40 4 L S h = exe icE 40 (e_astore 4 6 L S h) := icE_eq (i := .astore 4) (len := 2) (x1 := 0) (x2 := 0) (x3 := 0) (x4 := 64) ((fe_40 4).trans rfl) L S h
theorem r_40_6 (L S : List Value) (h : icH) : icE 40 6 L S h = exe icE 40 (e_iload 3 7 L S h) := icE_eq (i := .iload_n 3) (len := 1) (x1 := 0) (x2 := 0) (x3 := 0) (x4 := 64) ((fe_40 6).trans rfl) L S h
theorem r_40_7 (L S : List Value) (h : icH) : icE 40 7 L S h = exe icE 40 (e_aload 4 9 L S h) := icE_eq (i := .aload 4) (len := 2) (x1 := 0) (x2 := 0) (x3 := 0) (x4 := 64) ((fe_40 7).trans rfl) L S h
theorem r_40_9 (L S : List Value) (h : icH) : icE 40 9 L S h = exe icE 40 (e_iload 2 10 L S h) := icE_eq (i := .iload_n 2) (len := 1) (x1 := 0) (x2 := 0) (x3 := 0) (x4 := 64) ((fe_40 9).trans rfl) L S h
theorem r_40_10 (L S : List Value) (h : icH) : icE 40 10 L S h = icE 40 11 L (.int (nI 2) :: S) h := icE_eq (i := .iconst 2) (len := 1) (x1 := 0) (x2 := 0) (x3 := 0) (x4 := 64) ((fe_40 10).trans rfl) L S h
theorem r_40_11 (L S : List Value) (h : icH) : icE 40 11 L S h = exe icE 40 (e_vcal 5 45 4 2 14 L S h) := icE_eq (i := .invokevirtual 15) (len := 3) (x1 := 45) (x2 := 3) (x3 := 5) (x4 := 793) ((fe_40 11).trans rfl) L S h
theorem r_40_14 (L S : List Value) (h : icH) : icE 40 14 L S h = exe icE 40 (e_aload 4 16 L S h) := icE_eq (i := .aload 4) (len := 2) (x1 := 0) (x2 := 0) (x3 := 0) (x4 := 64) ((fe_40 14).trans rfl) L S h
theorem r_40_16 (L S : List Value) (h : icH) : icE 40 16 L S h = exe icE 40 (e_iload 2 17 L S h) := icE_eq (i := .iload_n 2) (len := 1) (x1 := 0) (x2 := 0) (x3 := 0) (x4 := 64) ((fe_40 16).trans rfl) L S h
theorem r_40_17 (L S : List Value) (h : icH) : icE 40 17 L S h = icE 40 18 L (.int (nI 1) :: S) h := icE_eq (i := .iconst 1) (len := 1) (x1 := 0) (x2 := 0) (x3 := 0) (x4 := 64) ((fe_40 17).trans rfl) L S h
theorem r_40_18 (L S : List Value) (h : icH) : icE 40 18 L S h = exe icE 40 (e_vcal 5 45 4 2 21 L S h) := icE_eq (i := .invokevirtual 15) (len := 3) (x1 := 45) (x2 := 3) (x3 := 5) (x4 := 793) ((fe_40 18).trans rfl) L S h
theorem r_40_21 (L S : List Value) (h : icH) : icE 40 21 L S h = exe icE 40 (e_aload 4 23 L S h) := icE_eq (i := .aload 4) (len := 2) (x1 := 0) (x2 := 0) (x3 := 0) (x4 := 64) ((fe_40 21).trans rfl) L S h
theorem r_40_23 (L S : List Value) (h : icH) : icE 40 23 L S h = exe icE 40 (e_iload 2 24 L S h) := icE_eq (i := .iload_n 2) (len := 1) (x1 := 0) (x2 := 0) (x3 := 0) (x4 := 64) ((fe_40 23).trans rfl) L S h
theorem r_40_24 (L S : List Value) (h : icH) : icE 40 24 L S h = icE 40 25 L (.int (nI 3) :: S) h := icE_eq (i := .iconst 3) (len := 1) (x1 := 0) (x2 := 0) (x3 := 0) (x4 := 64) ((fe_40 24).trans rfl) L S h
theorem r_40_25 (L S : List Value) (h : icH) : icE 40 25 L S h = exe icE 40 (e_vcal 5 45 4 2 28 L S h) := icE_eq (i := .invokevirtual 15) (len := 3) (x1 := 45) (x2 := 3) (x3 := 5) (x4 := 793) ((fe_40 25).trans rfl) L S h
theorem r_40_28 (L S : List Value) (h : icH) : icE 40 28 L S h = exe icE 40 (e_call 1 7 4 31 L S h) := icE_eq (i := .invokestatic 21) (len := 3) (x1 := 1) (x2 := 1) (x3 := 0) (x4 := 794) ((fe_40 28).trans rfl) L S h
theorem r_40_31 (L S : List Value) (h : icH) : icE 40 31 L S h = exe icE 40 (e_iret 0 L S h) := icE_eq (i := .ireturn) (len := 1) (x1 := 0) (x2 := 0) (x3 := 0) (x4 := 64) ((fe_40 31).trans rfl) L S h
theorem rw_40 : (∀ (L S : List Value) (h : icH), icE 40 0 L S h = exe icE 40 (e_aload 1 1 L S h)) ∧ (∀ (L S : List Value) (h : icH), icE 40 1 L S h = exe icE 40 (e_getf 3 2 4 L S h)) ∧ (∀ (L S : List Value) (h : icH), icE 40 4 L S h = exe icE 40 (e_astore 4 6 L S h)) ∧ (∀ (L S : List Value) (h : icH), icE 40 6 L S h = exe icE 40 (e_iload 3 7 L S h)) ∧ (∀ (L S : List Value) (h : icH), icE 40 7 L S h = exe icE 40 (e_aload 4 9 L S h)) ∧ (∀ (L S : List Value) (h : icH), icE 40 9 L S h = exe icE 40 (e_iload 2 10 L S h)) ∧ (∀ (L S : List Value) (h : icH), icE 40 10 L S h = icE 40 11 L (.int (nI 2) :: S) h) ∧ (∀ (L S : List Value) (h : icH), icE 40 11 L S h = exe icE 40 (e_vcal 5 45 4 2 14 L S h)) ∧ (∀ (L S : List Value) (h : icH), icE 40 14 L S h = exe icE 40 (e_aload 4 16 L S h)) ∧ (∀ (L S : List Value) (h : icH), icE 40 16 L S h = exe icE 40 (e_iload 2 17 L S h)) ∧ (∀ (L S : List Value) (h : icH), icE 40 17 L S h = icE 40 18 L (.int (nI 1) :: S) h) ∧ (∀ (L S : List Value) (h : icH), icE 40 18 L S h = exe icE 40 (e_vcal 5 45 4 2 21 L S h)) ∧ (∀ (L S : List Value) (h : icH), icE 40 21 L S h = exe icE 40 (e_aload 4 23 L S h)) ∧ (∀ (L S : List Value) (h : icH), icE 40 23 L S h = exe icE 40 (e_iload 2 24 L S h)) ∧ (∀ (L S : List Value) (h : icH), icE 40 24 L S h = icE 40 25 L (.int (nI 3) :: S) h) ∧ (∀ (L S : List Value) (h : icH), icE 40 25 L S h = exe icE 40 (e_vcal 5 45 4 2 28 L S h)) ∧ (∀ (L S : List Value) (h : icH), icE 40 28 L S h = exe icE 40 (e_call 1 7 4 31 L S h)) ∧ (∀ (L S : List Value) (h : icH), icE 40 31 L S h = exe icE 40 (e_iret 0 L S h)) := ⟨r_40_0, r_40_1, r_40_4, r_40_6, r_40_7, r_40_9, r_40_10, r_40_11, r_40_14, r_40_16, r_40_17, r_40_18, r_40_21, r_40_23, r_40_24, r_40_25, r_40_28, r_40_31⟩
-- cX5_byLook: heads []
theorem fe_41 (pc : Nat) : fet 41 pc = look k_41 pc := rfl
theorem r_41_0 (L S : List Value) (h : icH) : icE 41 0 L S h = exe icE 41 (e_iload 5 2 L S h) := icE_eq (i := .iload 5) (len := 2) (x1 := 0) (x2 := 0) (x3 := 0) (x4 := 64) ((fe_41 0).trans rfl) L S h
theorem r_41_2 (L S : List Value) (h : icH) : icE 41 2 L S h = exe icE 41 (e_iload 3 3 L S h) := icE_eq (i := .iload_n 3) (len := 1) (x1 := 0) (x2 := 0) (x3 := 0) (x4 := 64) ((fe_41 2).trans rfl) L S h
theorem r_41_3 (L S : List Value) (h : icH) : icE 41 3 L S h = exe icE 41 (e_aload 1 4 L S h) := icE_eq (i := .aload_n 1) (len := 1) (x1 := 0) (x2 := 0) (x3 := 0) (x4 := 64) ((fe_41 3).trans rfl) L S h
theorem r_41_4 (L S : List Value) (h : icH) : icE 41 4 L S h = exe icE 41 (e_getf 0 2 7 L S h) := icE_eq (i := .getfield 27) (len := 3) (x1 := 0) (x2 := 2) (x3 := 12) (x4 := 195) ((fe_41 4).trans rfl) L S h
theorem r_41_7 (L S : List Value) (h : icH) : icE 41 7 L S h = exe icE 41 (e_getf 4 0 10 L S h) := icE_eq (i := .getfield 31) (len := 3) (x1 := 4) (x2 := 0) (x3 := 12) (x4 := 118) ((fe_41 7).trans rfl) L S h
theorem r_41_10 (L S : List Value) (h : icH) : icE 41 10 L S h = exe icE 41 (e_iload 2 11 L S h) := icE_eq (i := .iload_n 2) (len := 1) (x1 := 0) (x2 := 0) (x3 := 0) (x4 := 64) ((fe_41 10).trans rfl) L S h
theorem r_41_11 (L S : List Value) (h : icH) : icE 41 11 L S h = exe icE 41 (e_iald 12 L S h) := icE_eq (i := .iaload) (len := 1) (x1 := 0) (x2 := 0) (x3 := 0) (x4 := 64) ((fe_41 11).trans rfl) L S h
theorem r_41_12 (L S : List Value) (h : icH) : icE 41 12 L S h = exe icE 41 (e_iload 4 14 L S h) := icE_eq (i := .iload 4) (len := 2) (x1 := 0) (x2 := 0) (x3 := 0) (x4 := 64) ((fe_41 12).trans rfl) L S h
theorem r_41_14 (L S : List Value) (h : icH) : icE 41 14 L S h = exe icE 41 (e_call 1 7 4 17 L S h) := icE_eq (i := .invokestatic 21) (len := 3) (x1 := 1) (x2 := 1) (x3 := 0) (x4 := 794) ((fe_41 14).trans rfl) L S h
theorem r_41_17 (L S : List Value) (h : icH) : icE 41 17 L S h = exe icE 41 (e_iret 0 L S h) := icE_eq (i := .ireturn) (len := 1) (x1 := 0) (x2 := 0) (x3 := 0) (x4 := 64) ((fe_41 17).trans rfl) L S h
theorem rw_41 : (∀ (L S : List Value) (h : icH), icE 41 0 L S h = exe icE 41 (e_iload 5 2 L S h)) ∧ (∀ (L S : List Value) (h : icH), icE 41 2 L S h = exe icE 41 (e_iload 3 3 L S h)) ∧ (∀ (L S : List Value) (h : icH), icE 41 3 L S h = exe icE 41 (e_aload 1 4 L S h)) ∧ (∀ (L S : List Value) (h : icH), icE 41 4 L S h = exe icE 41 (e_getf 0 2 7 L S h)) ∧ (∀ (L S : List Value) (h : icH), icE 41 7 L S h = exe icE 41 (e_getf 4 0 10 L S h)) ∧ (∀ (L S : List Value) (h : icH), icE 41 10 L S h = exe icE 41 (e_iload 2 11 L S h)) ∧ (∀ (L S : List Value) (h : icH), icE 41 11 L S h = exe icE 41 (e_iald 12 L S h)) ∧ (∀ (L S : List Value) (h : icH), icE 41 12 L S h = exe icE 41 (e_iload 4 14 L S h)) ∧ (∀ (L S : List Value) (h : icH), icE 41 14 L S h = exe icE 41 (e_call 1 7 4 17 L S h)) ∧ (∀ (L S : List Value) (h : icH), icE 41 17 L S h = exe icE 41 (e_iret 0 L S h)) := ⟨r_41_0, r_41_2, r_41_3, r_41_4, r_41_7, r_41_10, r_41_11, r_41_12, r_41_14, r_41_17⟩
theorem imx_n {a b : Nat} (ha : a < 2 ^ 31) (hb : b < 2 ^ 31) : imx (nI a) (nI b) = nI (max a b) := by
  unfold imx
  by_cases c : a < b
  · rw [if_pos (nI_lt c hb), Nat.max_eq_right (by omega)]
  · rw [if_neg (nI_nlt (by omega) ha), Nat.max_eq_left (by omega)]
theorem gh_q {h : icH} (hq : hg h 42 = some (ob 1 [.ref 43, .int (nI 0), .int (nI 1)])) (an : Nat → Int32) (H R N : Nat) (D : Nat → Nat → Int32) (F : Nat → Nat) (f : Nat → Nat → Int32) : hg (HH (hput h 43 (ai 10 an)) 1 H R N D F f) 42 = some (ob 1 [.ref 43, .int (nI 0), .int (nI 1)]) := by
  rw [HH_n (by omega), hg_n (by decide)]; exact hq
theorem gh_a (h : icH) (an : Nat → Int32) (H R N : Nat) (D : Nat → Nat → Int32) (F : Nat → Nat) (f : Nat → Nat → Int32) : hg (HH (hput h 43 (ai 10 an)) 1 H R N D F f) 43 = some (ai 10 an) := by
  rw [HH_n (by omega), hg_s]
theorem gh_w (h : icH) (an : Nat → Int32) (H R N : Nat) (D : Nat → Nat → Int32) (F : Nat → Nat) (f : Nat → Nat → Int32) (g : Nat → Int32) : hput (HH (hput h 43 (ai 10 an)) 1 H R N D F f) 43 (ai 10 g) = HH (hput h 43 (ai 10 g)) 1 H R N D F f := by
  rw [hp_HH (by omega), hp_p]
theorem gh_at {k c K : Nat} {F : Nat → Nat} (hF : F 0 = 4 * K) (hK : K ≤ 5) (hk : k < K) (hc : c < 4) (h : icH) (H R N : Nat) (D : Nat → Nat → Int32) (f : Nat → Nat → Int32) : icE 45 0 [.ref (1 + 13 + 2 * 0), .int (nI k), .int (nI c), dum] [] (HH h 1 H R N D F f) = some (some (.int (f 0 (4 * k + c))), HH h 1 H R N D F f) := by
  have n3 : nj 0 = 20 := rfl
  have w3 : wj 0 = 4 := rfl
  have z := ch_at (show 0 < 4 by decide) (F := F) (r := k) (c := c) (by omega) (by rw [w3]; omega) h 1 H R N D f
  rwa [w3, Nat.mul_comm k 4] at z
theorem gh_at0 {k K : Nat} {F : Nat → Nat} (hF : F 0 = 4 * K) (hK : K ≤ 5) (hk : k < K) (h : icH) (H R N : Nat) (D : Nat → Nat → Int32) (f : Nat → Nat → Int32) : icE 45 0 [.ref (1 + 13 + 2 * 0), .int (nI k), .int (nI 0), dum] [] (HH h 1 H R N D F f) = some (some (.int (f 0 (4 * k))), HH h 1 H R N D F f) := gh_at hF hK hk (show 0 < 4 by decide) h H R N D f
theorem gh_last {k K : Nat} {F : Nat → Nat} (hF : F 0 = 4 * K) (hK : K ≤ 5) (hk : k < K) (h : icH) (H R N : Nat) (D : Nat → Nat → Int32) (f : Nat → Nat → Int32) : icE 46 0 [.ref (1 + 13 + 2 * 0), .int (nI k)] [] (HH h 1 H R N D F f) = some (some (.int (f 0 (4 * k + 3))), HH h 1 H R N D F f) := by
  have n3 : nj 0 = 20 := rfl
  have w3 : wj 0 = 4 := rfl
  have z := ch_last (show 0 < 4 by decide) (F := F) (r := k) (by omega) (by rw [w3]; omega) h 1 H R N D f
  rwa [w3, Nat.mul_comm k 4] at z
theorem gh_size {K : Nat} {F : Nat → Nat} (hF : F 0 = 4 * K) (hK : K ≤ 5) (h : icH) (H R N : Nat) (D : Nat → Nat → Int32) (f : Nat → Nat → Int32) : icE 43 0 [.ref (1 + 13 + 2 * 0)] [] (HH h 1 H R N D F f) = some (some (.int (nI K)), HH h 1 H R N D F f) := by
  have n3 : nj 0 = 20 := rfl
  have w3 : wj 0 = 4 := rfl
  have z := ch_size (show 0 < 4 by decide) (F := F) (by omega) h 1 H R N D f
  rwa [w3, hF, Nat.mul_div_cancel_left K (by decide : 0 < 4)] at z
def gh_br (f D : Nat → Nat → Int32) (r k c : Nat) : Int32 := wat (kn (D 2 r)) (f 0 (4 * k + 1)) (nI c) (f 0 (4 * k + 2))
theorem gh_cbr {h : icH} (_hq : hg h 42 = some (ob 1 [.ref 43, .int (nI 0), .int (nI 1)])) {R N K r c k : Nat} {D : Nat → Nat → Int32} {F : Nat → Nat} {f : Nat → Nat → Int32} (hD : EOK R N D) (hF : F 0 = 4 * K) (hK : K ≤ 5) (hk : k < K) (hr : r < R) (_hc : c < 10) (h0 : f 0 (4 * k) = nI r) (an : Nat → Int32) (H : Nat) : icE 27 0 [.ref 42, .ref 1, .int (nI k), .int (nI c), dum, dum] [] (HH (hput h 43 (ai 10 an)) 1 H R N D F f) = some (some (.int (gh_br f D r k c)), HH (hput h 43 (ai 10 an)) 1 H R N D F f) := by
  have hR := hD.1
  have a0 := gh_at0 hF hK hk (hput h 43 (ai 10 an)) H R N D f
  rw [h0] at a0
  have a1 := gh_at hF hK hk (show 1 < 4 by decide) (hput h 43 (ai 10 an)) H R N D f
  have a2 := gh_at hF hK hk (show 2 < 4 by decide) (hput h 43 (ai 10 an)) H R N D f
  simp only [SA, rw_27, HH_o, HHo1, HHc, HHo, a0, a1, a2, ia_n (show r < 3 by omega) (show 3 < 2 ^ 31 by decide), c_wat (hD.2.2.1 r hr)]
  rfl
def gh_lk (D : Nat → Nat → Int32) (r : Nat) (w _s : Int32) (c : Nat) : Int32 := wat (kn (D 2 r)) w (nI c) (D 4 r)
theorem gh_clk {h : icH} (_hq : hg h 42 = some (ob 1 [.ref 43, .int (nI 0), .int (nI 1)])) {R N r c : Nat} {w s : Int32} {D : Nat → Nat → Int32} (hD : EOK R N D) (hr : r < R) (_hc : c < 10) (an : Nat → Int32) (H : Nat) (F : Nat → Nat) (f : Nat → Nat → Int32) : icE 28 0 [.ref 42, .ref 1, .int (nI r), .int w, .int s, .int (nI c)] [] (HH (hput h 43 (ai 10 an)) 1 H R N D F f) = some (some (.int (gh_lk D r w s c)), HH (hput h 43 (ai 10 an)) 1 H R N D F f) := by
  have hR := hD.1
  have hN := hD.2.1
  simp only [SA, rw_28, HH_o, HHo1, HHc, HHo, ia_n (show r < 3 by omega) (show 3 < 2 ^ 31 by decide), c_wat (hD.2.2.1 r hr)]
  rfl
abbrev gh_bad (f : Nat → Nat → Int32) (D : Nat → Nat → Int32) (r c k : Nat) : Bool := decide (f 0 (4 * k) = nI r ∧ ¬ gh_br f D r k c = f 0 (4 * k + 3))
abbrev gh_fit (f : Nat → Nat → Int32) (D : Nat → Nat → Int32) (r K c : Nat) : Bool := !(anyB (gh_bad f D r c) K)
theorem gh_lfits {h : icH} (hq : hg h 42 = some (ob 1 [.ref 43, .int (nI 0), .int (nI 1)])) {R N K r c : Nat} {D : Nat → Nat → Int32} {F : Nat → Nat} (hD : EOK R N D) (hF : F 0 = 4 * K) (hK : K ≤ 5) (hr : r < R) (hc : c < 10) (an : Nat → Int32) (H : Nat) (f : Nat → Nat → Int32) : ∀ (m k : Nat), k + m = K → (∀ q, q < k → gh_bad f D r c q = false) → icE 22 10 [.ref 42, .ref 1, .int (nI r), .int (nI c), .ref (1 + 13 + 2 * 0), .int (nI k)] [] (HH (hput h 43 (ai 10 an)) 1 H R N D F f) = some (some (.int (bi (gh_fit f D r K c = true))), HH (hput h 43 (ai 10 an)) 1 H R N D F f)
  | 0, k, him, hno => by
    have : k = K := by omega
    subst this
    have e : anyB (gh_bad f D r c) k = false := Bool.eq_false_iff.mpr (fun z => by obtain ⟨q, hq, y⟩ := (anyB_i _ _).mp z; rw [hno q hq] at y; cases y)
    rw [bi_t (show gh_fit f D r k c = true by unfold gh_fit; rw [e]; rfl), rh_22_10]
    simp only [SA, rw_22, HHo, gh_size hF hK, if_pos (nI_le (Nat.le_refl k) (show k < 2 ^ 31 by omega))]
  | m + 1, k, him, hno => by
    have hk : k < K := by omega
    have a0 := gh_at0 hF hK hk (hput h 43 (ai 10 an)) H R N D f
    have al := gh_last hF hK hk (hput h 43 (ai 10 an)) H R N D f
    have sz := gh_size hF hK (hput h 43 (ai 10 an)) H R N D f
    have nx := fun (hv : gh_bad f D r c k = false) => gh_lfits hq hD hF hK hr hc an H f m (k + 1) (by omega) (fun q hq => by
      by_cases e : q = k
      · rw [e]; exact hv
      · exact hno q (by omega))
    rw [rh_22_10]
    by_cases c1 : f 0 (4 * k) = nI r
    · have br := gh_cbr hq hD hF hK hk hr hc c1 an H (R := R)
      by_cases c2 : gh_br f D r k c = f 0 (4 * k + 3)
      · have ih := nx (decide_eq_false (fun z => z.2 c2))
        simp only [SA, rw_22, HHo, gh_q hq, sz, a0, al, br, if_neg (nI_ge hk (show K < 2 ^ 31 by omega)), if_pos c1, if_pos c2, nI_add]
        exact ih
      · have hv : gh_bad f D r c k = true := decide_eq_true ⟨c1, c2⟩
        have e : anyB (gh_bad f D r c) K = true := (anyB_i _ _).mpr ⟨k, hk, hv⟩
        rw [bi_f (show ¬ gh_fit f D r K c = true by unfold gh_fit; rw [e]; decide)]
        simp only [SA, rw_22, HHo, gh_q hq, sz, a0, al, br, if_neg (nI_ge hk (show K < 2 ^ 31 by omega)), if_pos c1, if_neg c2, nI_add]
    · have ih := nx (decide_eq_false (fun z => c1 z.1))
      simp only [SA, rw_22, HHo, gh_q hq, sz, a0, if_neg (nI_ge hk (show K < 2 ^ 31 by omega)), if_neg c1, nI_add]
      exact ih
theorem gh_fits {h : icH} (hq : hg h 42 = some (ob 1 [.ref 43, .int (nI 0), .int (nI 1)])) {R N K r c : Nat} {D : Nat → Nat → Int32} {F : Nat → Nat} (hD : EOK R N D) (hF : F 0 = 4 * K) (hK : K ≤ 5) (hr : r < R) (hc : c < 10) (an : Nat → Int32) (H : Nat) (f : Nat → Nat → Int32) : icE 22 0 [.ref 42, .ref 1, .int (nI r), .int (nI c), dum, dum] [] (HH (hput h 43 (ai 10 an)) 1 H R N D F f) = some (some (.int (bi (gh_fit f D r K c = true))), HH (hput h 43 (ai 10 an)) 1 H R N D F f) := by
  have z := gh_lfits hq hD hF hK hr hc an H f K 0 (by omega) (fun q hq => absurd hq (Nat.not_lt_zero q))
  refine Eq.trans ?_ z
  simp only [SA, rw_22, rw_26, gh_q hq, HH_o]
theorem gh_lfitting {h : icH} (hq : hg h 42 = some (ob 1 [.ref 43, .int (nI 0), .int (nI 1)])) {R N K r : Nat} {D : Nat → Nat → Int32} {F : Nat → Nat} (hD : EOK R N D) (hF : F 0 = 4 * K) (hK : K ≤ 5) (hr : r < R) (an : Nat → Int32) (H : Nat) (f : Nat → Nat → Int32) : ∀ (m c : Nat), c + m = 10 → icE 21 5 [.ref 42, .ref 1, .int (nI r), .int (nI (msk (gh_fit f D r K) c)), .int (nI c)] [] (HH (hput h 43 (ai 10 an)) 1 H R N D F f) = some (some (.int (nI (msk (gh_fit f D r K) 10))), HH (hput h 43 (ai 10 an)) 1 H R N D F f)
  | 0, c, him => by
    have : c = 10 := by omega
    subst this
    rw [rh_21_5]
    simp only [SA, rw_21, gh_q hq, gh_a, if_pos (nI_le (Nat.le_refl 10) (show 10 < 2 ^ 31 by decide))]
  | m + 1, c, him => by
    have hc : c < 10 := by omega
    have ih := gh_lfitting hq hD hF hK hr an H f m (c + 1) (by omega)
    have e : msk (gh_fit f D r K) (c + 1) = msk (gh_fit f D r K) c + (if gh_fit f D r K c = true then 2 ^ c else 0) := rfl
    rw [e] at ih
    refine Eq.trans ?_ ih
    rw [rh_21_5]
    by_cases d : gh_fit f D r K c = true
    · rw [if_pos d]
      simp only [SA, rw_21, gh_q hq, gh_a, if_neg (nI_ge hc (show 10 < 2 ^ 31 by decide)), gh_fits hq hD hF hK hr hc, if_neg (bi_10 d), or10 c (show c < 10 by omega) _ (msk_lt (gh_fit f D r K) c), nI_add]
    · rw [if_neg d, Nat.add_zero]
      simp only [SA, rw_21, gh_q hq, gh_a, if_neg (nI_ge hc (show 10 < 2 ^ 31 by decide)), gh_fits hq hD hF hK hr hc, if_pos (bi_00 d), nI_add]
theorem gh_fitting {h : icH} (hq : hg h 42 = some (ob 1 [.ref 43, .int (nI 0), .int (nI 1)])) {R N K r : Nat} {D : Nat → Nat → Int32} {F : Nat → Nat} (hD : EOK R N D) (hF : F 0 = 4 * K) (hK : K ≤ 5) (hr : r < R) (an : Nat → Int32) (H : Nat) (f : Nat → Nat → Int32) : icE 21 0 [.ref 42, .ref 1, .int (nI r), dum, dum] [] (HH (hput h 43 (ai 10 an)) 1 H R N D F f) = some (some (.int (nI (msk (gh_fit f D r K) 10))), HH (hput h 43 (ai 10 an)) 1 H R N D F f) := by
  have z := gh_lfitting hq hD hF hK hr an H f 10 0 (by omega)
  refine Eq.trans ?_ z
  simp only [SA, rw_21, msk]
theorem gh_lg2 {h : icH} (hq : hg h 42 = some (ob 1 [.ref 43, .int (nI 0), .int (nI 1)])) {p : Nat → Bool} {a : Nat} (ha : a < 10) (x1 x2 x3 x4 x6 x7 : Value) (an : Nat → Int32) (H R N : Nat) (D : Nat → Nat → Int32) (F : Nat → Nat) (f : Nat → Nat → Int32) : ∀ (m b : Nat), b + m = a → icE 24 57 [.ref 42, x1, x2, x3, x4, .int (nI (msk p 10)), x6, x7, .int (nI a), .int (nI (1 + Cq p an (an a) b)), .int (nI b)] [] (HH (hput h 43 (ai 10 an)) 1 H R N D F f) = icE 24 100 [.ref 42, x1, x2, x3, x4, .int (nI (msk p 10)), x6, x7, .int (nI a), .int (nI (1 + Cq p an (an a) a)), .int (nI a)] [] (HH (hput h 43 (ai 10 an)) 1 H R N D F f)
  | 0, b, him => by
    have : b = a := by omega
    subst this
    rw [rh_24_57]
    simp only [SA, rw_24, if_pos (nI_le (Nat.le_refl b) (show b < 2 ^ 31 by omega))]
  | m + 1, b, him => by
    have hb : b < a := by omega
    have ih := gh_lg2 hq (p := p) ha x1 x2 x3 x4 x6 x7 an H R N D F f m (b + 1) (by omega)
    have e : Cq p an (an a) (b + 1) = Cq p an (an a) b + (if p b = true ∧ an a = an b then 1 else 0) := rfl
    rw [e] at ih
    refine Eq.trans ?_ ih
    have sh := msk_sh p (show 10 ≤ 10 by decide) (show b < 10 by omega)
    have bN : 10 < 2 ^ 31 := by decide
    rw [rh_24_57]
    by_cases d : p b = true
    · rw [if_pos d] at sh
      by_cases d2 : an a = an b
      · rw [if_pos ⟨d, d2⟩]
        simp only [SA, rw_24, gh_q hq, gh_a, if_neg (nI_ge hb (show a < 2 ^ 31 by omega)), sh, if_neg (show ¬ nI 1 = 0 by decide), ia_n ha bN, ia_n (show b < 10 by omega) bN, if_pos d2, nI_add, Nat.add_assoc]
      · rw [if_neg (fun z => d2 z.2), Nat.add_zero]
        simp only [SA, rw_24, gh_q hq, gh_a, if_neg (nI_ge hb (show a < 2 ^ 31 by omega)), sh, if_neg (show ¬ nI 1 = 0 by decide), ia_n ha bN, ia_n (show b < 10 by omega) bN, if_neg d2, nI_add]
    · rw [if_neg d] at sh
      rw [if_neg (fun z => d z.1), Nat.add_zero]
      simp only [SA, rw_24, gh_q hq, gh_a, if_neg (nI_ge hb (show a < 2 ^ 31 by omega)), sh, if_pos (show nI 0 = 0 by decide), nI_add]
theorem gh_lg1 {h : icH} (hq : hg h 42 = some (ob 1 [.ref 43, .int (nI 0), .int (nI 1)])) {R N r s lim : Nat} {w : Int32} {D : Nat → Nat → Int32} (hD : EOK R N D) (hr : r < R) {p : Nat → Bool} (hlim : lim ≤ 11) (H : Nat) (F : Nat → Nat) (f : Nat → Nat → Int32) : ∀ (m a : Nat) (y z : Value) (an : Nat → Int32), a + m = 10 → (∀ c, c < a → p c = true → an c = gh_lk D r w (nI s) c) → (∀ a', a' ≤ a → a' < a → Gq p (gh_lk D r w (nI s)) a' < lim) → ∃ rr an', icE 24 6 [.ref 42, .ref 1, .int (nI r), .int w, .int (nI s), .int (nI (msk p 10)), .int (nI lim), .int (nI (Gq p (gh_lk D r w (nI s)) a)), .int (nI a), y, z] [] (HH (hput h 43 (ai 10 an)) 1 H R N D F f) = some (some (.int (nI rr)), HH (hput h 43 (ai 10 an')) 1 H R N D F f) ∧ rr ≤ 10 ∧ ((Gq p (gh_lk D r w (nI s)) 10 < lim ∧ rr = Gq p (gh_lk D r w (nI s)) 10) ∨ (lim ≤ Gq p (gh_lk D r w (nI s)) 10 ∧ lim ≤ rr))
  | 0, a, y, z, an, him, hA, hG => by
    have : a = 10 := by omega
    subst this
    have gl := Gq_le p (gh_lk D r w (nI s)) 10
    refine ⟨Gq p (gh_lk D r w (nI s)) 10, an, ?_, gl, ?_⟩
    · rw [rh_24_6]
      simp only [SA, rw_24, gh_q hq, gh_a, if_pos (nI_le (Nat.le_refl 10) (show 10 < 2 ^ 31 by decide))]
    · by_cases c : Gq p (gh_lk D r w (nI s)) 10 < lim
      · exact Or.inl ⟨c, rfl⟩
      · exact Or.inr ⟨by omega, by omega⟩
  | m + 1, a, y, z, an, him, hA, hG => by
    have ha : a < 10 := by omega
    have bN : 10 < 2 ^ 31 := by decide
    have gl := Gq_le p (gh_lk D r w (nI s)) a
    by_cases c0 : lim ≤ Gq p (gh_lk D r w (nI s)) a
    · have mo := Gq_mo p (gh_lk D r w (nI s)) a (10 - a)
      rw [show a + (10 - a) = 10 by omega] at mo
      refine ⟨Gq p (gh_lk D r w (nI s)) a, an, ?_, by omega, Or.inr ⟨by omega, c0⟩⟩
      rw [rh_24_6]
      simp only [SA, rw_24, gh_q hq, gh_a, if_neg (nI_ge ha bN), if_pos (nI_le c0 (show Gq p (gh_lk D r w (nI s)) a < 2 ^ 31 by omega))]
    · have eG : Gq p (gh_lk D r w (nI s)) (a + 1) = if p a = true then max (Gq p (gh_lk D r w (nI s)) a) (1 + Cq p (gh_lk D r w (nI s)) (gh_lk D r w (nI s) a) a) else Gq p (gh_lk D r w (nI s)) a := rfl
      have sh := msk_sh p (show 10 ≤ 10 by decide) ha
      by_cases d : p a = true
      · rw [if_pos d] at sh eG
        have hA' : ∀ c, c < a + 1 → p c = true → upd an a (gh_lk D r w (nI s) a) c = gh_lk D r w (nI s) c := by
          intro c hc hp
          by_cases e : c = a
          · rw [e, pk_us]
          · rw [pk_un e]; exact hA c (by omega) hp
        have cq : Cq p (upd an a (gh_lk D r w (nI s) a)) (upd an a (gh_lk D r w (nI s) a) a) a = Cq p (gh_lk D r w (nI s)) (gh_lk D r w (nI s) a) a := by
          rw [pk_us]; exact Cq_c a (fun c hc hp => hA' c (by omega) hp)
        have s2 := gh_lg2 hq (p := p) ha (.ref 1) (.int (nI r)) (.int w) (.int (nI s)) (.int (nI lim)) (.int (nI (Gq p (gh_lk D r w (nI s)) a))) (upd an a (gh_lk D r w (nI s) a)) H R N D F f a 0 (by omega)
        rw [cq] at s2
        have cl := Cq_le p (gh_lk D r w (nI s)) (gh_lk D r w (nI s) a) a
        obtain ⟨rr, an', t1, t2, t3⟩ := gh_lg1 hq hD hr (p := p) hlim H F f m (a + 1) (.int (nI (1 + Cq p (gh_lk D r w (nI s)) (gh_lk D r w (nI s) a) a))) (.int (nI a)) (upd an a (gh_lk D r w (nI s) a)) (by omega) hA' (fun a' _ h2 => by
          by_cases e : a' = a
          · rw [e]; omega
          · exact hG a' (by omega) (by omega))
        rw [eG] at t1
        refine ⟨rr, an', ?_, t2, t3⟩
        refine Eq.trans ?_ t1
        have lkc := gh_clk hq hD hr ha an H F f (w := w) (s := nI s)
        rw [rh_24_6]
        simp only [SA, rw_24, gh_q hq, gh_a, gh_w, if_neg (nI_ge ha bN), if_neg (nI_ge (show Gq p (gh_lk D r w (nI s)) a < lim by omega) (show lim < 2 ^ 31 by omega)), sh, if_neg (show ¬ nI 1 = 0 by decide), lkc, is_n ha bN]
        have s3 : icE 24 57 [.ref 42, .ref 1, .int (nI r), .int w, .int (nI s), .int (nI (msk p 10)), .int (nI lim), .int (nI (Gq p (gh_lk D r w (nI s)) a)), .int (nI a), .int (nI 1), .int (nI 0)] [] (HH (hput h 43 (ai 10 (upd an a (gh_lk D r w (nI s) a)))) 1 H R N D F f) = _ := s2
        rw [s3]
        simp only [SA, rw_24, c_max, imx_n (show Gq p (gh_lk D r w (nI s)) a < 2 ^ 31 by omega) (show 1 + Cq p (gh_lk D r w (nI s)) (gh_lk D r w (nI s) a) a < 2 ^ 31 by omega), nI_add]
      · rw [if_neg d] at sh eG
        obtain ⟨rr, an', t1, t2, t3⟩ := gh_lg1 hq hD hr (p := p) hlim H F f m (a + 1) y z an (by omega) (fun c hc hp => by
          by_cases e : c = a
          · subst e; exact absurd hp d
          · exact hA c (by omega) hp) (fun a' _ h2 => by
          by_cases e : a' = a
          · rw [e]; omega
          · exact hG a' (by omega) (by omega))
        rw [eG] at t1
        refine ⟨rr, an', ?_, t2, t3⟩
        refine Eq.trans ?_ t1
        rw [rh_24_6]
        simp only [SA, rw_24, gh_q hq, gh_a, gh_w, if_neg (nI_ge ha bN), if_neg (nI_ge (show Gq p (gh_lk D r w (nI s)) a < lim by omega) (show lim < 2 ^ 31 by omega)), sh, if_pos (show nI 0 = 0 by decide), nI_add]
theorem gh_lgroup {h : icH} (hq : hg h 42 = some (ob 1 [.ref 43, .int (nI 0), .int (nI 1)])) {R N r s lim : Nat} {w : Int32} {D : Nat → Nat → Int32} (hD : EOK R N D) (hr : r < R) {p : Nat → Bool} (hlim : lim ≤ 11) (an : Nat → Int32) (H : Nat) (F : Nat → Nat) (f : Nat → Nat → Int32) : ∃ rr an', icE 24 0 [.ref 42, .ref 1, .int (nI r), .int w, .int (nI s), .int (nI (msk p 10)), .int (nI lim), dum, dum, dum, dum] [] (HH (hput h 43 (ai 10 an)) 1 H R N D F f) = some (some (.int (nI rr)), HH (hput h 43 (ai 10 an')) 1 H R N D F f) ∧ rr ≤ 10 ∧ ((Gq p (gh_lk D r w (nI s)) 10 < lim ∧ rr = Gq p (gh_lk D r w (nI s)) 10) ∨ (lim ≤ Gq p (gh_lk D r w (nI s)) 10 ∧ lim ≤ rr)) := by
  obtain ⟨rr, an', t1, t2, t3⟩ := gh_lg1 hq hD hr (p := p) hlim H F f 10 0 dum dum an (by omega) (fun c hc => absurd hc (Nat.not_lt_zero c)) (fun a' _ h2 => absurd h2 (Nat.not_lt_zero a')) (s := s) (w := w)
  refine ⟨rr, an', ?_, t2, t3⟩
  refine Eq.trans ?_ t1
  simp only [SA, rw_24, Gq]
/-- how large the group is, at a look; how the look is told -/
abbrev gh_g (p : Nat → Bool) (D : Nat → Nat → Int32) (r q : Nat) : Nat := Gq p (gh_lk D r (wv (q / 1)) (nI (q % 1))) 10
abbrev gh_cd (q : Nat) : Nat := 1 * (q / 1) + q % 1
theorem gh_bl2 {h : icH} (hq : hg h 42 = some (ob 1 [.ref 43, .int (nI 0), .int (nI 1)])) {R N r w : Nat} {D : Nat → Nat → Int32} (hD : EOK R N D) (hr : r < R) {p : Nat → Bool} (hp : ∃ a, a < 10 ∧ p a = true) (hw : w < 19) (H : Nat) (F : Nat → Nat) (f : Nat → Nat → Int32) : ∀ (m s : Nat) (z : Value) (an : Nat → Int32), s + m = 1 → ∃ (q s' : Nat) (z' : Value) (an' : Nat → Int32), icE 23 43 [.ref 42, .ref 1, .int (nI r), .int (nI (msk p 10)), .int (bq (gh_g p D r) gh_cd (w * 1 + s)).1, .int (nI (fq (gh_g p D r) gh_cd 10 (w * 1 + s))), .int (wv w), .int (nI s), z] [] (HH (hput h 43 (ai 10 an)) 1 H R N D F f) = icE 23 23 [.ref 42, .ref 1, .int (nI r), .int (nI (msk p 10)), .int (bq (gh_g p D r) gh_cd q).1, .int (nI (fq (gh_g p D r) gh_cd 10 q)), .int (wv (w + 1)), .int (nI s'), z'] [] (HH (hput h 43 (ai 10 an')) 1 H R N D F f) ∧ (q = (w + 1) * 1 ∨ (q ≤ (w + 1) * 1 ∧ fq (gh_g p D r) gh_cd 10 q ≤ 1))
  | 0, s, z, an, him => by
    have : s = 1 := by omega
    subst this
    refine ⟨w * 1 + 1, 1, z, an, ?_, Or.inl (by omega)⟩
    rw [rh_23_43]
    simp only [SA, rw_23, gh_q hq, if_pos (nI_lt (show 0 < 1 by decide) (show 1 < 2 ^ 31 by decide)), wv_s w hw]
  | m + 1, s, z, an, him => by
    have gle : ∀ q, gh_g p D r q ≤ 10 := fun q => Gq_le p _ 10
    have fle := fq_le (cd := gh_cd) gle (show 10 ≤ 98 by decide) (w * 1 + s)
    by_cases c1 : fq (gh_g p D r) gh_cd 10 (w * 1 + s) ≤ 1
    · refine ⟨w * 1 + s, s, z, an, ?_, Or.inr ⟨by omega, c1⟩⟩
      rw [rh_23_43]
      simp only [SA, rw_23, gh_q hq, if_neg (nI_nlt (show s ≤ 0 by omega) (show 0 < 2 ^ 31 by decide)), if_pos (nI_le c1 (show 1 < 2 ^ 31 by decide)), wv_s w hw]
    · obtain ⟨rr, an1, t1, t2, t3⟩ := gh_lgroup hq hD hr (p := p) (lim := fq (gh_g p D r) gh_cd 10 (w * 1 + s)) (by omega) an H F f (s := s) (w := wv w)
      have eg : Gq p (gh_lk D r (wv w) (nI s)) 10 = gh_g p D r (w * 1 + s) := by
        unfold gh_g
        rw [show (w * 1 + s) / 1 = w by omega, show (w * 1 + s) % 1 = s by omega]
      rw [eg] at t3
      have ec : gh_cd (w * 1 + s) = 1 * w + s := by
        unfold gh_cd
        rw [show (w * 1 + s) / 1 = w by omega, show (w * 1 + s) % 1 = s by omega]
      have fs := fq_s (cd := gh_cd) gle (show 10 ≤ 98 by decide) (w * 1 + s)
      have eb : bq (gh_g p D r) gh_cd (w * 1 + s + 1) = if gh_g p D r (w * 1 + s) < (bq (gh_g p D r) gh_cd (w * 1 + s)).2 then (nI (gh_cd (w * 1 + s)), gh_g p D r (w * 1 + s)) else bq (gh_g p D r) gh_cd (w * 1 + s) := rfl
      obtain ⟨q, s', z', an', y1, y2⟩ := gh_bl2 hq hD hr hp hw H F f m (s + 1) (.int (nI rr)) an1 (by omega)
      refine ⟨q, s', z', an', ?_, y2⟩
      refine Eq.trans ?_ y1
      rw [← Nat.add_assoc]
      rw [rh_23_43]
      rcases t3 with ⟨t4, t5⟩ | ⟨t4, t5⟩
      · have lt := fs.1.mp t4
        rw [if_pos lt, ec] at eb
        rw [fs.2, eb]
        subst t5
        simp only [SA, rw_23, gh_q hq, if_neg (nI_nlt (show s ≤ 0 by omega) (show 0 < 2 ^ 31 by decide)), if_neg (nI_ge (show 1 < fq (gh_g p D r) gh_cd 10 (w * 1 + s) by omega) (show fq (gh_g p D r) gh_cd 10 (w * 1 + s) < 2 ^ 31 by omega)), t1, if_neg (nI_ge t4 (show fq (gh_g p D r) gh_cd 10 (w * 1 + s) < 2 ^ 31 by omega)), wv_9 w (show w < 20 by omega), pk_mul, nI_add]
      · have nlt : ¬ gh_g p D r (w * 1 + s) < (bq (gh_g p D r) gh_cd (w * 1 + s)).2 := fun z => by have := fs.1.mpr z; omega
        rw [if_neg nlt] at eb
        have q0 : w * 1 + s ≠ 0 := by
          intro z
          have e0 : fq (gh_g p D r) gh_cd 10 (w * 1 + s) = 10 + 1 := by unfold fq; rw [if_pos z]
          have := gle (w * 1 + s)
          omega
        have e1 : fq (gh_g p D r) gh_cd 10 (w * 1 + s + 1) = fq (gh_g p D r) gh_cd 10 (w * 1 + s) := by rw [fs.2, eb]; unfold fq; rw [if_neg q0]
        rw [e1, eb]
        simp only [SA, rw_23, gh_q hq, if_neg (nI_nlt (show s ≤ 0 by omega) (show 0 < 2 ^ 31 by decide)), if_neg (nI_ge (show 1 < fq (gh_g p D r) gh_cd 10 (w * 1 + s) by omega) (show fq (gh_g p D r) gh_cd 10 (w * 1 + s) < 2 ^ 31 by omega)), t1, if_pos (nI_le t5 (show rr < 2 ^ 31 by omega)), nI_add]
theorem gh_bl1 {h : icH} (hq : hg h 42 = some (ob 1 [.ref 43, .int (nI 0), .int (nI 1)])) {R N r : Nat} {D : Nat → Nat → Int32} (hD : EOK R N D) (hr : r < R) {p : Nat → Bool} (hp : ∃ a, a < 10 ∧ p a = true) (H : Nat) (F : Nat → Nat) (f : Nat → Nat → Int32) : ∀ (m w q : Nat) (y z : Value) (an : Nat → Int32), w + m = 19 → (q = w * 1 ∨ (q ≤ w * 1 ∧ fq (gh_g p D r) gh_cd 10 q ≤ 1)) → ∃ (an' : Nat → Int32), icE 23 23 [.ref 42, .ref 1, .int (nI r), .int (nI (msk p 10)), .int (bq (gh_g p D r) gh_cd q).1, .int (nI (fq (gh_g p D r) gh_cd 10 q)), .int (wv w), y, z] [] (HH (hput h 43 (ai 10 an)) 1 H R N D F f) = some (some (.int (bq (gh_g p D r) gh_cd (19 * 1)).1), HH (hput h 43 (ai 10 an')) 1 H R N D F f)
  | 0, w, q, y, z, an, him, hqq => by
    have : w = 19 := by omega
    subst this
    have g1 : ∀ q, 1 ≤ gh_g p D r q := fun q => by obtain ⟨a, a1, a2⟩ := hp; exact Gq_1 a1 a2
    refine ⟨an, ?_⟩
    have e : bq (gh_g p D r) gh_cd (19 * 1) = bq (gh_g p D r) gh_cd q := by
      rcases hqq with e | ⟨e1, e2⟩
      · rw [e]
      · have q0 : q ≠ 0 := fun z => by subst z; unfold fq at e2; rw [if_pos rfl] at e2; omega
        have e3 : (bq (gh_g p D r) gh_cd q).2 ≤ 1 := by unfold fq at e2; rwa [if_neg q0] at e2
        have := bq_st (cd := gh_cd) g1 e3 (19 * 1 - q)
        rwa [show q + (19 * 1 - q) = 19 * 1 by omega] at this
    rw [e, rh_23_23]
    simp only [SA, rw_23, if_pos wv_ge]
  | m + 1, w, q, y, z, an, him, hqq => by
    have g1 : ∀ q, 1 ≤ gh_g p D r q := fun q => by obtain ⟨a, a1, a2⟩ := hp; exact Gq_1 a1 a2
    have gle : ∀ q, gh_g p D r q ≤ 10 := fun q => Gq_le p _ 10
    have fle := fq_le (cd := gh_cd) gle (show 10 ≤ 98 by decide) q
    have mn : ¬ nI (msk p 10) = 0 := by
      obtain ⟨a, a1, a2⟩ := hp
      intro z
      have z2 : msk p 10 = 0 := by
        have := msk_10 p (show 10 ≤ 10 by decide)
        have e0 : nI 0 = 0 := rfl
        rw [← e0] at z
        exact (nI_eq (by omega) (by decide)).mp z
      have := msk_bit p 10 a a1
      rw [z2, if_pos a2, Nat.zero_div] at this
      cases this
    by_cases c1 : fq (gh_g p D r) gh_cd 10 q ≤ 1
    · refine ⟨an, ?_⟩
      have q0 : q ≠ 0 := fun z => by subst z; unfold fq at c1; rw [if_pos rfl] at c1; omega
      have e3 : (bq (gh_g p D r) gh_cd q).2 ≤ 1 := by unfold fq at c1; rwa [if_neg q0] at c1
      have e := bq_st (cd := gh_cd) g1 e3 (19 * 1 - q)
      rw [show q + (19 * 1 - q) = 19 * 1 by omega] at e
      rw [e, rh_23_23]
      simp only [SA, rw_23, if_neg (wv_lt (show w < 19 by omega)), if_neg mn, if_pos (nI_le c1 (show 1 < 2 ^ 31 by decide))]
    · have eq : q = w * 1 := by rcases hqq with e | ⟨_, e2⟩; exact e; exact absurd e2 c1
      subst eq
      obtain ⟨q', s', z', an', y1, y2⟩ := gh_bl2 hq hD hr hp (show w < 19 by omega) H F f 1 0 z an (by omega)
      obtain ⟨an2, ih⟩ := gh_bl1 hq hD hr hp H F f m (w + 1) q' (.int (nI s')) z' an' (by omega) y2
      refine ⟨an2, ?_⟩
      refine Eq.trans ?_ ih
      refine Eq.trans ?_ y1
      rw [Nat.add_zero, rh_23_23]
      simp only [SA, rw_23, if_neg (wv_lt (show w < 19 by omega)), if_neg mn, if_neg (nI_ge (show 1 < fq (gh_g p D r) gh_cd 10 (w * 1) by omega) (show fq (gh_g p D r) gh_cd 10 (w * 1) < 2 ^ 31 by omega))]
def gh_bst (f D : Nat → Nat → Int32) (r K : Nat) : Int32 := if msk (gh_fit f D r K) 10 = 0 then -1 else (bq (gh_g (gh_fit f D r K) D r) gh_cd (19 * 1)).1
theorem gh_best {h : icH} (hq : hg h 42 = some (ob 1 [.ref 43, .int (nI 0), .int (nI 1)])) {R N K r : Nat} {D : Nat → Nat → Int32} {F : Nat → Nat} (hD : EOK R N D) (hF : F 0 = 4 * K) (hK : K ≤ 5) (hr : r < R) (an : Nat → Int32) (H : Nat) (f : Nat → Nat → Int32) : ∃ an', icE 23 0 [.ref 42, .ref 1, .int (nI r), dum, dum, dum, dum, dum, dum] [] (HH (hput h 43 (ai 10 an)) 1 H R N D F f) = some (some (.int (gh_bst f D r K)), HH (hput h 43 (ai 10 an')) 1 H R N D F f) := by
  have ft := gh_fitting hq hD hF hK hr an H f
  by_cases c : msk (gh_fit f D r K) 10 = 0
  · refine ⟨an, ?_⟩
    have e : gh_bst f D r K = -1 := if_pos c
    have c0 : nI (msk (gh_fit f D r K) 10) = 0 := by rw [c]; rfl
    rw [e]
    simp only [SA, rw_23, gh_q hq, gh_a, ft, rh_23_23, if_neg (show ¬ nI 9 < -9 by decide), if_pos c0]
  · have e : gh_bst f D r K = (bq (gh_g (gh_fit f D r K) D r) gh_cd (19 * 1)).1 := if_neg c
    rw [e]
    obtain ⟨an', z⟩ := gh_bl1 hq hD hr (msk_ex _ _ c) H F f 19 0 0 dum dum an (by omega) (Or.inl (by omega))
    refine ⟨an', ?_⟩
    refine Eq.trans ?_ z
    have w0 : wv 0 = -9 := by decide
    rw [w0]
    simp only [SA, rw_23, gh_q hq, gh_a, ft, nI_add, bq, fq, if_true]
