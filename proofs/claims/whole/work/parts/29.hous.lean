/-! ===== House ===== -/
-- cX3_begin: heads []
theorem fe_30 (pc : Nat) : fet 30 pc = look k_30 pc := rfl
theorem r_30_0 (L S : List Value) (h : icH) : icE 30 0 L S h = exe icE 30 (e_aload 0 1 L S h) := icE_eq (i := .aload_n 0) (len := 1) (x1 := 0) (x2 := 0) (x3 := 0) (x4 := 64) ((fe_30 0).trans rfl) L S h
theorem r_30_1 (L S : List Value) (h : icH) : icE 30 1 L S h = exe icE 30 (e_getf 0 2 4 L S h) := icE_eq (i := .getfield 12) (len := 3) (x1 := 0) (x2 := 2) (x3 := 12) (x4 := 191) ((fe_30 1).trans rfl) L S h
theorem r_30_4 (L S : List Value) (h : icH) : icE 30 4 L S h = exe icE 30 (e_iload 1 5 L S h) := icE_eq (i := .iload_n 1) (len := 1) (x1 := 0) (x2 := 0) (x3 := 0) (x4 := 64) ((fe_30 4).trans rfl) L S h
theorem r_30_5 (L S : List Value) (h : icH) : icE 30 5 L S h = exe icE 30 (e_vcal 0 3 2 1 8 L S h) := icE_eq (i := .invokevirtual 36) (len := 3) (x1 := 3) (x2 := 3) (x3 := 0) (x4 := 348) ((fe_30 5).trans rfl) L S h
theorem r_30_8 (L S : List Value) (h : icH) : icE 30 8 L S h = exe icE 30 (e_aload 0 9 L S h) := icE_eq (i := .aload_n 0) (len := 1) (x1 := 0) (x2 := 0) (x3 := 0) (x4 := 64) ((fe_30 8).trans rfl) L S h
theorem r_30_9 (L S : List Value) (h : icH) : icE 30 9 L S h = exe icE 30 (e_getf 1 2 12 L S h) := icE_eq (i := .getfield 23) (len := 3) (x1 := 1) (x2 := 2) (x3 := 12) (x4 := 196) ((fe_30 9).trans rfl) L S h
theorem r_30_12 (L S : List Value) (h : icH) : icE 30 12 L S h = exe icE 30 (e_vcal 5 48 2 0 15 L S h) := icE_eq (i := .invokevirtual 40) (len := 3) (x1 := 48) (x2 := 3) (x3 := 5) (x4 := 352) ((fe_30 12).trans rfl) L S h
theorem r_30_15 (L S : List Value) (h : icH) : icE 30 15 L S h = exe icE 30 (e_pop 16 L S h) := icE_eq (i := .pop) (len := 1) (x1 := 0) (x2 := 0) (x3 := 0) (x4 := 64) ((fe_30 15).trans rfl) L S h
theorem r_30_16 (L S : List Value) (h : icH) : icE 30 16 L S h = exe icE 30 (e_aload 0 17 L S h) := icE_eq (i := .aload_n 0) (len := 1) (x1 := 0) (x2 := 0) (x3 := 0) (x4 := 64) ((fe_30 16).trans rfl) L S h
theorem r_30_17 (L S : List Value) (h : icH) : icE 30 17 L S h = exe icE 30 (e_getf 2 2 20 L S h) := icE_eq (i := .getfield 27) (len := 3) (x1 := 2) (x2 := 2) (x3 := 12) (x4 := 199) ((fe_30 17).trans rfl) L S h
theorem r_30_20 (L S : List Value) (h : icH) : icE 30 20 L S h = exe icE 30 (e_vcal 5 48 2 0 23 L S h) := icE_eq (i := .invokevirtual 40) (len := 3) (x1 := 48) (x2 := 3) (x3 := 5) (x4 := 352) ((fe_30 20).trans rfl) L S h
theorem r_30_23 (L S : List Value) (h : icH) : icE 30 23 L S h = exe icE 30 (e_pop 24 L S h) := icE_eq (i := .pop) (len := 1) (x1 := 0) (x2 := 0) (x3 := 0) (x4 := 64) ((fe_30 23).trans rfl) L S h
theorem r_30_24 (L S : List Value) (h : icH) : icE 30 24 L S h = exe icE 30 (e_aload 0 25 L S h) := icE_eq (i := .aload_n 0) (len := 1) (x1 := 0) (x2 := 0) (x3 := 0) (x4 := 64) ((fe_30 24).trans rfl) L S h
theorem r_30_25 (L S : List Value) (h : icH) : icE 30 25 L S h = exe icE 30 (e_getf 3 2 28 L S h) := icE_eq (i := .getfield 30) (len := 3) (x1 := 3) (x2 := 2) (x3 := 12) (x4 := 202) ((fe_30 25).trans rfl) L S h
theorem r_30_28 (L S : List Value) (h : icH) : icE 30 28 L S h = exe icE 30 (e_vcal 5 48 2 0 31 L S h) := icE_eq (i := .invokevirtual 40) (len := 3) (x1 := 48) (x2 := 3) (x3 := 5) (x4 := 352) ((fe_30 28).trans rfl) L S h
theorem r_30_31 (L S : List Value) (h : icH) : icE 30 31 L S h = exe icE 30 (e_pop 32 L S h) := icE_eq (i := .pop) (len := 1) (x1 := 0) (x2 := 0) (x3 := 0) (x4 := 64) ((fe_30 31).trans rfl) L S h
theorem r_30_32 (L S : List Value) (h : icH) : icE 30 32 L S h = exe icE 30 (e_aload 0 33 L S h) := icE_eq (i := .aload_n 0) (len := 1) (x1 := 0) (x2 := 0) (x3 := 0) (x4 := 64) ((fe_30 32).trans rfl) L S h
theorem r_30_33 (L S : List Value) (h : icH) : icE 30 33 L S h = exe icE 30 (e_getf 4 2 36 L S h) := icE_eq (i := .getfield 33) (len := 3) (x1 := 4) (x2 := 2) (x3 := 12) (x4 := 205) ((fe_30 33).trans rfl) L S h
theorem r_30_36 (L S : List Value) (h : icH) : icE 30 36 L S h = exe icE 30 (e_vcal 5 48 2 0 39 L S h) := icE_eq (i := .invokevirtual 40) (len := 3) (x1 := 48) (x2 := 3) (x3 := 5) (x4 := 352) ((fe_30 36).trans rfl) L S h
theorem r_30_39 (L S : List Value) (h : icH) : icE 30 39 L S h = exe icE 30 (e_pop 40 L S h) := icE_eq (i := .pop) (len := 1) (x1 := 0) (x2 := 0) (x3 := 0) (x4 := 64) ((fe_30 39).trans rfl) L S h
theorem r_30_40 (L S : List Value) (h : icH) : icE 30 40 L S h = exe icE 30 (e_vret L S h) := icE_eq (i := .return_) (len := 1) (x1 := 0) (x2 := 0) (x3 := 0) (x4 := 64) ((fe_30 40).trans rfl) L S h
theorem rw_30 : (∀ (L S : List Value) (h : icH), icE 30 0 L S h = exe icE 30 (e_aload 0 1 L S h)) ∧ (∀ (L S : List Value) (h : icH), icE 30 1 L S h = exe icE 30 (e_getf 0 2 4 L S h)) ∧ (∀ (L S : List Value) (h : icH), icE 30 4 L S h = exe icE 30 (e_iload 1 5 L S h)) ∧ (∀ (L S : List Value) (h : icH), icE 30 5 L S h = exe icE 30 (e_vcal 0 3 2 1 8 L S h)) ∧ (∀ (L S : List Value) (h : icH), icE 30 8 L S h = exe icE 30 (e_aload 0 9 L S h)) ∧ (∀ (L S : List Value) (h : icH), icE 30 9 L S h = exe icE 30 (e_getf 1 2 12 L S h)) ∧ (∀ (L S : List Value) (h : icH), icE 30 12 L S h = exe icE 30 (e_vcal 5 48 2 0 15 L S h)) ∧ (∀ (L S : List Value) (h : icH), icE 30 15 L S h = exe icE 30 (e_pop 16 L S h)) ∧ (∀ (L S : List Value) (h : icH), icE 30 16 L S h = exe icE 30 (e_aload 0 17 L S h)) ∧ (∀ (L S : List Value) (h : icH), icE 30 17 L S h = exe icE 30 (e_getf 2 2 20 L S h)) ∧ (∀ (L S : List Value) (h : icH), icE 30 20 L S h = exe icE 30 (e_vcal 5 48 2 0 23 L S h)) ∧ (∀ (L S : List Value) (h : icH), icE 30 23 L S h = exe icE 30 (e_pop 24 L S h)) ∧ (∀ (L S : List Value) (h : icH), icE 30 24 L S h = exe icE 30 (e_aload 0 25 L S h)) ∧ (∀ (L S : List Value) (h : icH), icE 30 25 L S h = exe icE 30 (e_getf 3 2 28 L S h)) ∧ (∀ (L S : List Value) (h : icH), icE 30 28 L S h = exe icE 30 (e_vcal 5 48 2 0 31 L S h)) ∧ (∀ (L S : List Value) (h : icH), icE 30 31 L S h = exe icE 30 (e_pop 32 L S h)) ∧ (∀ (L S : List Value) (h : icH), icE 30 32 L S h = exe icE 30 (e_aload 0 33 L S h)) ∧ (∀ (L S : List Value) (h : icH), icE 30 33 L S h = exe icE 30 (e_getf 4 2 36 L S h)) ∧ (∀ (L S : List Value) (h : icH), icE 30 36 L S h = exe icE 30 (e_vcal 5 48 2 0 39 L S h)) ∧ (∀ (L S : List Value) (h : icH), icE 30 39 L S h = exe icE 30 (e_pop 40 L S h)) ∧ (∀ (L S : List Value) (h : icH), icE 30 40 L S h = exe icE 30 (e_vret L S h)) := ⟨r_30_0, r_30_1, r_30_4, r_30_5, r_30_8, r_30_9, r_30_12, r_30_15, r_30_16, r_30_17, r_30_20, r_30_23, r_30_24, r_30_25, r_30_28, r_30_31, r_30_32, r_30_33, r_30_36, r_30_39, r_30_40⟩
-- cX3_take: heads []
theorem fe_31 (pc : Nat) : fet 31 pc = look k_31 pc := rfl
theorem r_31_0 (L S : List Value) (h : icH) : icE 31 0 L S h = exe icE 31 (e_aload 0 1 L S h) := icE_eq (i := .aload_n 0) (len := 1) (x1 := 0) (x2 := 0) (x3 := 0) (x4 := 64) ((fe_31 0).trans rfl) L S h
theorem r_31_1 (L S : List Value) (h : icH) : icE 31 1 L S h = exe icE 31 (e_getf 0 2 4 L S h) := icE_eq (i := .getfield 12) (len := 3) (x1 := 0) (x2 := 2) (x3 := 12) (x4 := 191) ((fe_31 1).trans rfl) L S h
theorem r_31_4 (L S : List Value) (h : icH) : icE 31 4 L S h = exe icE 31 (e_aload 1 5 L S h) := icE_eq (i := .aload_n 1) (len := 1) (x1 := 0) (x2 := 0) (x3 := 0) (x4 := 64) ((fe_31 4).trans rfl) L S h
theorem r_31_5 (L S : List Value) (h : icH) : icE 31 5 L S h = exe icE 31 (e_getf 0 2 8 L S h) := icE_eq (i := .getfield 12) (len := 3) (x1 := 0) (x2 := 2) (x3 := 12) (x4 := 191) ((fe_31 5).trans rfl) L S h
theorem r_31_8 (L S : List Value) (h : icH) : icE 31 8 L S h = exe icE 31 (e_vcal 0 4 2 1 11 L S h) := icE_eq (i := .invokevirtual 44) (len := 3) (x1 := 4) (x2 := 3) (x3 := 0) (x4 := 910) ((fe_31 8).trans rfl) L S h
theorem r_31_11 (L S : List Value) (h : icH) : icE 31 11 L S h = exe icE 31 (e_aload 0 12 L S h) := icE_eq (i := .aload_n 0) (len := 1) (x1 := 0) (x2 := 0) (x3 := 0) (x4 := 64) ((fe_31 11).trans rfl) L S h
theorem r_31_12 (L S : List Value) (h : icH) : icE 31 12 L S h = exe icE 31 (e_getf 1 2 15 L S h) := icE_eq (i := .getfield 23) (len := 3) (x1 := 1) (x2 := 2) (x3 := 12) (x4 := 196) ((fe_31 12).trans rfl) L S h
theorem r_31_15 (L S : List Value) (h : icH) : icE 31 15 L S h = exe icE 31 (e_aload 1 16 L S h) := icE_eq (i := .aload_n 1) (len := 1) (x1 := 0) (x2 := 0) (x3 := 0) (x4 := 64) ((fe_31 15).trans rfl) L S h
theorem r_31_16 (L S : List Value) (h : icH) : icE 31 16 L S h = exe icE 31 (e_getf 1 2 19 L S h) := icE_eq (i := .getfield 23) (len := 3) (x1 := 1) (x2 := 2) (x3 := 12) (x4 := 196) ((fe_31 16).trans rfl) L S h
theorem r_31_19 (L S : List Value) (h : icH) : icE 31 19 L S h = exe icE 31 (e_vcal 5 51 2 1 22 L S h) := icE_eq (i := .invokevirtual 48) (len := 3) (x1 := 51) (x2 := 3) (x3 := 5) (x4 := 911) ((fe_31 19).trans rfl) L S h
theorem r_31_22 (L S : List Value) (h : icH) : icE 31 22 L S h = exe icE 31 (e_aload 0 23 L S h) := icE_eq (i := .aload_n 0) (len := 1) (x1 := 0) (x2 := 0) (x3 := 0) (x4 := 64) ((fe_31 22).trans rfl) L S h
theorem r_31_23 (L S : List Value) (h : icH) : icE 31 23 L S h = exe icE 31 (e_getf 2 2 26 L S h) := icE_eq (i := .getfield 27) (len := 3) (x1 := 2) (x2 := 2) (x3 := 12) (x4 := 199) ((fe_31 23).trans rfl) L S h
theorem r_31_26 (L S : List Value) (h : icH) : icE 31 26 L S h = exe icE 31 (e_aload 1 27 L S h) := icE_eq (i := .aload_n 1) (len := 1) (x1 := 0) (x2 := 0) (x3 := 0) (x4 := 64) ((fe_31 26).trans rfl) L S h
theorem r_31_27 (L S : List Value) (h : icH) : icE 31 27 L S h = exe icE 31 (e_getf 2 2 30 L S h) := icE_eq (i := .getfield 27) (len := 3) (x1 := 2) (x2 := 2) (x3 := 12) (x4 := 199) ((fe_31 27).trans rfl) L S h
theorem r_31_30 (L S : List Value) (h : icH) : icE 31 30 L S h = exe icE 31 (e_vcal 5 51 2 1 33 L S h) := icE_eq (i := .invokevirtual 48) (len := 3) (x1 := 51) (x2 := 3) (x3 := 5) (x4 := 911) ((fe_31 30).trans rfl) L S h
theorem r_31_33 (L S : List Value) (h : icH) : icE 31 33 L S h = exe icE 31 (e_aload 0 34 L S h) := icE_eq (i := .aload_n 0) (len := 1) (x1 := 0) (x2 := 0) (x3 := 0) (x4 := 64) ((fe_31 33).trans rfl) L S h
theorem r_31_34 (L S : List Value) (h : icH) : icE 31 34 L S h = exe icE 31 (e_getf 3 2 37 L S h) := icE_eq (i := .getfield 30) (len := 3) (x1 := 3) (x2 := 2) (x3 := 12) (x4 := 202) ((fe_31 34).trans rfl) L S h
theorem r_31_37 (L S : List Value) (h : icH) : icE 31 37 L S h = exe icE 31 (e_aload 1 38 L S h) := icE_eq (i := .aload_n 1) (len := 1) (x1 := 0) (x2 := 0) (x3 := 0) (x4 := 64) ((fe_31 37).trans rfl) L S h
theorem r_31_38 (L S : List Value) (h : icH) : icE 31 38 L S h = exe icE 31 (e_getf 3 2 41 L S h) := icE_eq (i := .getfield 30) (len := 3) (x1 := 3) (x2 := 2) (x3 := 12) (x4 := 202) ((fe_31 38).trans rfl) L S h
theorem r_31_41 (L S : List Value) (h : icH) : icE 31 41 L S h = exe icE 31 (e_vcal 5 51 2 1 44 L S h) := icE_eq (i := .invokevirtual 48) (len := 3) (x1 := 51) (x2 := 3) (x3 := 5) (x4 := 911) ((fe_31 41).trans rfl) L S h
theorem r_31_44 (L S : List Value) (h : icH) : icE 31 44 L S h = exe icE 31 (e_aload 0 45 L S h) := icE_eq (i := .aload_n 0) (len := 1) (x1 := 0) (x2 := 0) (x3 := 0) (x4 := 64) ((fe_31 44).trans rfl) L S h
theorem r_31_45 (L S : List Value) (h : icH) : icE 31 45 L S h = exe icE 31 (e_getf 4 2 48 L S h) := icE_eq (i := .getfield 33) (len := 3) (x1 := 4) (x2 := 2) (x3 := 12) (x4 := 205) ((fe_31 45).trans rfl) L S h
theorem r_31_48 (L S : List Value) (h : icH) : icE 31 48 L S h = exe icE 31 (e_aload 1 49 L S h) := icE_eq (i := .aload_n 1) (len := 1) (x1 := 0) (x2 := 0) (x3 := 0) (x4 := 64) ((fe_31 48).trans rfl) L S h
theorem r_31_49 (L S : List Value) (h : icH) : icE 31 49 L S h = exe icE 31 (e_getf 4 2 52 L S h) := icE_eq (i := .getfield 33) (len := 3) (x1 := 4) (x2 := 2) (x3 := 12) (x4 := 205) ((fe_31 49).trans rfl) L S h
theorem r_31_52 (L S : List Value) (h : icH) : icE 31 52 L S h = exe icE 31 (e_vcal 5 51 2 1 55 L S h) := icE_eq (i := .invokevirtual 48) (len := 3) (x1 := 51) (x2 := 3) (x3 := 5) (x4 := 911) ((fe_31 52).trans rfl) L S h
theorem r_31_55 (L S : List Value) (h : icH) : icE 31 55 L S h = exe icE 31 (e_vret L S h) := icE_eq (i := .return_) (len := 1) (x1 := 0) (x2 := 0) (x3 := 0) (x4 := 64) ((fe_31 55).trans rfl) L S h
theorem rw_31 : (∀ (L S : List Value) (h : icH), icE 31 0 L S h = exe icE 31 (e_aload 0 1 L S h)) ∧ (∀ (L S : List Value) (h : icH), icE 31 1 L S h = exe icE 31 (e_getf 0 2 4 L S h)) ∧ (∀ (L S : List Value) (h : icH), icE 31 4 L S h = exe icE 31 (e_aload 1 5 L S h)) ∧ (∀ (L S : List Value) (h : icH), icE 31 5 L S h = exe icE 31 (e_getf 0 2 8 L S h)) ∧ (∀ (L S : List Value) (h : icH), icE 31 8 L S h = exe icE 31 (e_vcal 0 4 2 1 11 L S h)) ∧ (∀ (L S : List Value) (h : icH), icE 31 11 L S h = exe icE 31 (e_aload 0 12 L S h)) ∧ (∀ (L S : List Value) (h : icH), icE 31 12 L S h = exe icE 31 (e_getf 1 2 15 L S h)) ∧ (∀ (L S : List Value) (h : icH), icE 31 15 L S h = exe icE 31 (e_aload 1 16 L S h)) ∧ (∀ (L S : List Value) (h : icH), icE 31 16 L S h = exe icE 31 (e_getf 1 2 19 L S h)) ∧ (∀ (L S : List Value) (h : icH), icE 31 19 L S h = exe icE 31 (e_vcal 5 51 2 1 22 L S h)) ∧ (∀ (L S : List Value) (h : icH), icE 31 22 L S h = exe icE 31 (e_aload 0 23 L S h)) ∧ (∀ (L S : List Value) (h : icH), icE 31 23 L S h = exe icE 31 (e_getf 2 2 26 L S h)) ∧ (∀ (L S : List Value) (h : icH), icE 31 26 L S h = exe icE 31 (e_aload 1 27 L S h)) ∧ (∀ (L S : List Value) (h : icH), icE 31 27 L S h = exe icE 31 (e_getf 2 2 30 L S h)) ∧ (∀ (L S : List Value) (h : icH), icE 31 30 L S h = exe icE 31 (e_vcal 5 51 2 1 33 L S h)) ∧ (∀ (L S : List Value) (h : icH), icE 31 33 L S h = exe icE 31 (e_aload 0 34 L S h)) ∧ (∀ (L S : List Value) (h : icH), icE 31 34 L S h = exe icE 31 (e_getf 3 2 37 L S h)) ∧ (∀ (L S : List Value) (h : icH), icE 31 37 L S h = exe icE 31 (e_aload 1 38 L S h)) ∧ (∀ (L S : List Value) (h : icH), icE 31 38 L S h = exe icE 31 (e_getf 3 2 41 L S h)) ∧ (∀ (L S : List Value) (h : icH), icE 31 41 L S h = exe icE 31 (e_vcal 5 51 2 1 44 L S h)) ∧ (∀ (L S : List Value) (h : icH), icE 31 44 L S h = exe icE 31 (e_aload 0 45 L S h)) ∧ (∀ (L S : List Value) (h : icH), icE 31 45 L S h = exe icE 31 (e_getf 4 2 48 L S h)) ∧ (∀ (L S : List Value) (h : icH), icE 31 48 L S h = exe icE 31 (e_aload 1 49 L S h)) ∧ (∀ (L S : List Value) (h : icH), icE 31 49 L S h = exe icE 31 (e_getf 4 2 52 L S h)) ∧ (∀ (L S : List Value) (h : icH), icE 31 52 L S h = exe icE 31 (e_vcal 5 51 2 1 55 L S h)) ∧ (∀ (L S : List Value) (h : icH), icE 31 55 L S h = exe icE 31 (e_vret L S h)) := ⟨r_31_0, r_31_1, r_31_4, r_31_5, r_31_8, r_31_11, r_31_12, r_31_15, r_31_16, r_31_19, r_31_22, r_31_23, r_31_26, r_31_27, r_31_30, r_31_33, r_31_34, r_31_37, r_31_38, r_31_41, r_31_44, r_31_45, r_31_48, r_31_49, r_31_52, r_31_55⟩
-- cX3_remember: heads [33, 78]
theorem fe_32 (pc : Nat) : fet 32 pc = look k_32 pc := rfl
theorem r_32_0 (L S : List Value) (h : icH) : icE 32 0 L S h = exe icE 32 (e_aload 0 1 L S h) := icE_eq (i := .aload_n 0) (len := 1) (x1 := 0) (x2 := 0) (x3 := 0) (x4 := 64) ((fe_32 0).trans rfl) L S h
theorem r_32_1 (L S : List Value) (h : icH) : icE 32 1 L S h = exe icE 32 (e_getf 4 2 4 L S h) := icE_eq (i := .getfield 33) (len := 3) (x1 := 4) (x2 := 2) (x3 := 12) (x4 := 205) ((fe_32 1).trans rfl) L S h
theorem r_32_4 (L S : List Value) (h : icH) : icE 32 4 L S h = exe icE 32 (e_vcal 5 44 1 0 7 L S h) := icE_eq (i := .invokevirtual 51) (len := 3) (x1 := 44) (x2 := 3) (x3 := 5) (x4 := 566) ((fe_32 4).trans rfl) L S h
theorem r_32_7 (L S : List Value) (h : icH) : icE 32 7 L S h = exe icE 32 (e_if .eq 17 10 L S h) := icE_eq (i := .ifCond .eq 10) (len := 3) (x1 := 17) (x2 := 0) (x3 := 0) (x4 := 64) ((fe_32 7).trans rfl) L S h
theorem r_32_10 (L S : List Value) (h : icH) : icE 32 10 L S h = exe icE 32 (e_aload 0 11 L S h) := icE_eq (i := .aload_n 0) (len := 1) (x1 := 0) (x2 := 0) (x3 := 0) (x4 := 64) ((fe_32 10).trans rfl) L S h
theorem r_32_11 (L S : List Value) (h : icH) : icE 32 11 L S h = exe icE 32 (e_getf 4 2 14 L S h) := icE_eq (i := .getfield 33) (len := 3) (x1 := 4) (x2 := 2) (x3 := 12) (x4 := 205) ((fe_32 11).trans rfl) L S h
theorem r_32_14 (L S : List Value) (h : icH) : icE 32 14 L S h = exe icE 32 (e_vcal 5 49 1 0 17 L S h) := icE_eq (i := .invokevirtual 55) (len := 3) (x1 := 49) (x2 := 3) (x3 := 5) (x4 := 570) ((fe_32 14).trans rfl) L S h
theorem r_32_17 (L S : List Value) (h : icH) : icE 32 17 L S h = exe icE 32 (e_aload 0 18 L S h) := icE_eq (i := .aload_n 0) (len := 1) (x1 := 0) (x2 := 0) (x3 := 0) (x4 := 64) ((fe_32 17).trans rfl) L S h
theorem r_32_18 (L S : List Value) (h : icH) : icE 32 18 L S h = exe icE 32 (e_getf 4 2 21 L S h) := icE_eq (i := .getfield 33) (len := 3) (x1 := 4) (x2 := 2) (x3 := 12) (x4 := 205) ((fe_32 18).trans rfl) L S h
theorem r_32_21 (L S : List Value) (h : icH) : icE 32 21 L S h = exe icE 32 (e_aload 0 22 L S h) := icE_eq (i := .aload_n 0) (len := 1) (x1 := 0) (x2 := 0) (x3 := 0) (x4 := 64) ((fe_32 21).trans rfl) L S h
theorem r_32_22 (L S : List Value) (h : icH) : icE 32 22 L S h = exe icE 32 (e_getf 0 2 25 L S h) := icE_eq (i := .getfield 12) (len := 3) (x1 := 0) (x2 := 2) (x3 := 12) (x4 := 191) ((fe_32 22).trans rfl) L S h
theorem r_32_25 (L S : List Value) (h : icH) : icE 32 25 L S h = exe icE 32 (e_getf 0 0 28 L S h) := icE_eq (i := .getfield 58) (len := 3) (x1 := 0) (x2 := 0) (x3 := 0) (x4 := 107) ((fe_32 25).trans rfl) L S h
theorem r_32_28 (L S : List Value) (h : icH) : icE 32 28 L S h = exe icE 32 (e_vcal 5 47 2 1 31 L S h) := icE_eq (i := .invokevirtual 62) (len := 3) (x1 := 47) (x2 := 3) (x3 := 5) (x4 := 575) ((fe_32 28).trans rfl) L S h
theorem r_32_31 (L S : List Value) (h : icH) : icE 32 31 L S h = icE 32 32 L (.int (nI 0) :: S) h := icE_eq (i := .iconst 0) (len := 1) (x1 := 0) (x2 := 0) (x3 := 0) (x4 := 64) ((fe_32 31).trans rfl) L S h
theorem r_32_32 (L S : List Value) (h : icH) : icE 32 32 L S h = exe icE 32 (e_istore 1 33 L S h) := icE_eq (i := .istore_n 1) (len := 1) (x1 := 0) (x2 := 0) (x3 := 0) (x4 := 64) ((fe_32 32).trans rfl) L S h
theorem rh_32_33 (L S : List Value) (h : icH) : icE 32 33 L S h = exe icE 32 (e_iload 1 34 L S h) := icE_eq (i := .iload_n 1) (len := 1) (x1 := 0) (x2 := 0) (x3 := 0) (x4 := 64) ((fe_32 33).trans rfl) L S h
theorem r_32_34 (L S : List Value) (h : icH) : icE 32 34 L S h = icE 32 35 L (.int (nI 3) :: S) h := icE_eq (i := .iconst 3) (len := 1) (x1 := 0) (x2 := 0) (x3 := 0) (x4 := 64) ((fe_32 34).trans rfl) L S h
theorem r_32_35 (L S : List Value) (h : icH) : icE 32 35 L S h = exe icE 32 (e_cmp .ge 76 38 L S h) := icE_eq (i := .if_icmp .ge 41) (len := 3) (x1 := 76) (x2 := 0) (x3 := 0) (x4 := 64) ((fe_32 35).trans rfl) L S h
theorem r_32_38 (L S : List Value) (h : icH) : icE 32 38 L S h = exe icE 32 (e_aload 0 39 L S h) := icE_eq (i := .aload_n 0) (len := 1) (x1 := 0) (x2 := 0) (x3 := 0) (x4 := 64) ((fe_32 38).trans rfl) L S h
theorem r_32_39 (L S : List Value) (h : icH) : icE 32 39 L S h = exe icE 32 (e_getf 4 2 42 L S h) := icE_eq (i := .getfield 33) (len := 3) (x1 := 4) (x2 := 2) (x3 := 12) (x4 := 205) ((fe_32 39).trans rfl) L S h
theorem r_32_42 (L S : List Value) (h : icH) : icE 32 42 L S h = exe icE 32 (e_aload 0 43 L S h) := icE_eq (i := .aload_n 0) (len := 1) (x1 := 0) (x2 := 0) (x3 := 0) (x4 := 64) ((fe_32 42).trans rfl) L S h
theorem r_32_43 (L S : List Value) (h : icH) : icE 32 43 L S h = exe icE 32 (e_getf 0 2 46 L S h) := icE_eq (i := .getfield 12) (len := 3) (x1 := 0) (x2 := 2) (x3 := 12) (x4 := 191) ((fe_32 43).trans rfl) L S h
theorem r_32_46 (L S : List Value) (h : icH) : icE 32 46 L S h = exe icE 32 (e_getf 4 0 49 L S h) := icE_eq (i := .getfield 65) (len := 3) (x1 := 4) (x2 := 0) (x3 := 12) (x4 := 119) ((fe_32 46).trans rfl) L S h
theorem r_32_49 (L S : List Value) (h : icH) : icE 32 49 L S h = exe icE 32 (e_iload 1 50 L S h) := icE_eq (i := .iload_n 1) (len := 1) (x1 := 0) (x2 := 0) (x3 := 0) (x4 := 64) ((fe_32 49).trans rfl) L S h
theorem r_32_50 (L S : List Value) (h : icH) : icE 32 50 L S h = exe icE 32 (e_iald 51 L S h) := icE_eq (i := .iaload) (len := 1) (x1 := 0) (x2 := 0) (x3 := 0) (x4 := 64) ((fe_32 50).trans rfl) L S h
theorem r_32_51 (L S : List Value) (h : icH) : icE 32 51 L S h = exe icE 32 (e_vcal 5 47 2 1 54 L S h) := icE_eq (i := .invokevirtual 62) (len := 3) (x1 := 47) (x2 := 3) (x3 := 5) (x4 := 575) ((fe_32 51).trans rfl) L S h
theorem r_32_54 (L S : List Value) (h : icH) : icE 32 54 L S h = exe icE 32 (e_aload 0 55 L S h) := icE_eq (i := .aload_n 0) (len := 1) (x1 := 0) (x2 := 0) (x3 := 0) (x4 := 64) ((fe_32 54).trans rfl) L S h
theorem r_32_55 (L S : List Value) (h : icH) : icE 32 55 L S h = exe icE 32 (e_getf 4 2 58 L S h) := icE_eq (i := .getfield 33) (len := 3) (x1 := 4) (x2 := 2) (x3 := 12) (x4 := 205) ((fe_32 55).trans rfl) L S h
theorem r_32_58 (L S : List Value) (h : icH) : icE 32 58 L S h = exe icE 32 (e_aload 0 59 L S h) := icE_eq (i := .aload_n 0) (len := 1) (x1 := 0) (x2 := 0) (x3 := 0) (x4 := 64) ((fe_32 58).trans rfl) L S h
theorem r_32_59 (L S : List Value) (h : icH) : icE 32 59 L S h = exe icE 32 (e_getf 0 2 62 L S h) := icE_eq (i := .getfield 12) (len := 3) (x1 := 0) (x2 := 2) (x3 := 12) (x4 := 191) ((fe_32 59).trans rfl) L S h
theorem r_32_62 (L S : List Value) (h : icH) : icE 32 62 L S h = exe icE 32 (e_getf 5 0 65 L S h) := icE_eq (i := .getfield 69) (len := 3) (x1 := 5) (x2 := 0) (x3 := 12) (x4 := 123) ((fe_32 62).trans rfl) L S h
theorem r_32_65 (L S : List Value) (h : icH) : icE 32 65 L S h = exe icE 32 (e_iload 1 66 L S h) := icE_eq (i := .iload_n 1) (len := 1) (x1 := 0) (x2 := 0) (x3 := 0) (x4 := 64) ((fe_32 65).trans rfl) L S h
theorem r_32_66 (L S : List Value) (h : icH) : icE 32 66 L S h = exe icE 32 (e_iald 67 L S h) := icE_eq (i := .iaload) (len := 1) (x1 := 0) (x2 := 0) (x3 := 0) (x4 := 64) ((fe_32 66).trans rfl) L S h
theorem r_32_67 (L S : List Value) (h : icH) : icE 32 67 L S h = exe icE 32 (e_vcal 5 47 2 1 70 L S h) := icE_eq (i := .invokevirtual 62) (len := 3) (x1 := 47) (x2 := 3) (x3 := 5) (x4 := 575) ((fe_32 67).trans rfl) L S h
theorem r_32_70 (L S : List Value) (h : icH) : icE 32 70 L S h = exe icE 32 (e_iinc 1 (nI 1) 73 L S h) := icE_eq (i := .iinc 1 1) (len := 3) (x1 := 0) (x2 := 0) (x3 := 0) (x4 := 64) ((fe_32 70).trans rfl) L S h
theorem r_32_73 (L S : List Value) (h : icH) : icE 32 73 L S h = icE 32 33 L S h := icE_eq (i := .goto (-40)) (len := 3) (x1 := 33) (x2 := 0) (x3 := 0) (x4 := 64) ((fe_32 73).trans rfl) L S h
theorem r_32_76 (L S : List Value) (h : icH) : icE 32 76 L S h = icE 32 77 L (.int (nI 0) :: S) h := icE_eq (i := .iconst 0) (len := 1) (x1 := 0) (x2 := 0) (x3 := 0) (x4 := 64) ((fe_32 76).trans rfl) L S h
theorem r_32_77 (L S : List Value) (h : icH) : icE 32 77 L S h = exe icE 32 (e_istore 1 78 L S h) := icE_eq (i := .istore_n 1) (len := 1) (x1 := 0) (x2 := 0) (x3 := 0) (x4 := 64) ((fe_32 77).trans rfl) L S h
theorem rh_32_78 (L S : List Value) (h : icH) : icE 32 78 L S h = exe icE 32 (e_iload 1 79 L S h) := icE_eq (i := .iload_n 1) (len := 1) (x1 := 0) (x2 := 0) (x3 := 0) (x4 := 64) ((fe_32 78).trans rfl) L S h
theorem r_32_79 (L S : List Value) (h : icH) : icE 32 79 L S h = icE 32 81 L (.int (nI 6) :: S) h := icE_eq (i := .bipush 6) (len := 2) (x1 := 0) (x2 := 0) (x3 := 0) (x4 := 64) ((fe_32 79).trans rfl) L S h
theorem r_32_81 (L S : List Value) (h : icH) : icE 32 81 L S h = exe icE 32 (e_cmp .ge 122 84 L S h) := icE_eq (i := .if_icmp .ge 41) (len := 3) (x1 := 122) (x2 := 0) (x3 := 0) (x4 := 64) ((fe_32 81).trans rfl) L S h
theorem r_32_84 (L S : List Value) (h : icH) : icE 32 84 L S h = exe icE 32 (e_aload 0 85 L S h) := icE_eq (i := .aload_n 0) (len := 1) (x1 := 0) (x2 := 0) (x3 := 0) (x4 := 64) ((fe_32 84).trans rfl) L S h
theorem r_32_85 (L S : List Value) (h : icH) : icE 32 85 L S h = exe icE 32 (e_getf 4 2 88 L S h) := icE_eq (i := .getfield 33) (len := 3) (x1 := 4) (x2 := 2) (x3 := 12) (x4 := 205) ((fe_32 85).trans rfl) L S h
theorem r_32_88 (L S : List Value) (h : icH) : icE 32 88 L S h = exe icE 32 (e_aload 0 89 L S h) := icE_eq (i := .aload_n 0) (len := 1) (x1 := 0) (x2 := 0) (x3 := 0) (x4 := 64) ((fe_32 88).trans rfl) L S h
theorem r_32_89 (L S : List Value) (h : icH) : icE 32 89 L S h = exe icE 32 (e_getf 0 2 92 L S h) := icE_eq (i := .getfield 12) (len := 3) (x1 := 0) (x2 := 2) (x3 := 12) (x4 := 191) ((fe_32 89).trans rfl) L S h
theorem r_32_92 (L S : List Value) (h : icH) : icE 32 92 L S h = exe icE 32 (e_getf 11 0 95 L S h) := icE_eq (i := .getfield 72) (len := 3) (x1 := 11) (x2 := 0) (x3 := 12) (x4 := 136) ((fe_32 92).trans rfl) L S h
theorem r_32_95 (L S : List Value) (h : icH) : icE 32 95 L S h = exe icE 32 (e_iload 1 96 L S h) := icE_eq (i := .iload_n 1) (len := 1) (x1 := 0) (x2 := 0) (x3 := 0) (x4 := 64) ((fe_32 95).trans rfl) L S h
theorem r_32_96 (L S : List Value) (h : icH) : icE 32 96 L S h = exe icE 32 (e_iald 97 L S h) := icE_eq (i := .iaload) (len := 1) (x1 := 0) (x2 := 0) (x3 := 0) (x4 := 64) ((fe_32 96).trans rfl) L S h
theorem r_32_97 (L S : List Value) (h : icH) : icE 32 97 L S h = exe icE 32 (e_vcal 5 47 2 1 100 L S h) := icE_eq (i := .invokevirtual 62) (len := 3) (x1 := 47) (x2 := 3) (x3 := 5) (x4 := 575) ((fe_32 97).trans rfl) L S h
theorem r_32_100 (L S : List Value) (h : icH) : icE 32 100 L S h = exe icE 32 (e_aload 0 101 L S h) := icE_eq (i := .aload_n 0) (len := 1) (x1 := 0) (x2 := 0) (x3 := 0) (x4 := 64) ((fe_32 100).trans rfl) L S h
theorem r_32_101 (L S : List Value) (h : icH) : icE 32 101 L S h = exe icE 32 (e_getf 4 2 104 L S h) := icE_eq (i := .getfield 33) (len := 3) (x1 := 4) (x2 := 2) (x3 := 12) (x4 := 205) ((fe_32 101).trans rfl) L S h
theorem r_32_104 (L S : List Value) (h : icH) : icE 32 104 L S h = exe icE 32 (e_aload 0 105 L S h) := icE_eq (i := .aload_n 0) (len := 1) (x1 := 0) (x2 := 0) (x3 := 0) (x4 := 64) ((fe_32 104).trans rfl) L S h
theorem r_32_105 (L S : List Value) (h : icH) : icE 32 105 L S h = exe icE 32 (e_getf 0 2 108 L S h) := icE_eq (i := .getfield 12) (len := 3) (x1 := 0) (x2 := 2) (x3 := 12) (x4 := 191) ((fe_32 105).trans rfl) L S h
theorem r_32_108 (L S : List Value) (h : icH) : icE 32 108 L S h = exe icE 32 (e_getf 13 0 111 L S h) := icE_eq (i := .getfield 75) (len := 3) (x1 := 13) (x2 := 0) (x3 := 12) (x4 := 140) ((fe_32 108).trans rfl) L S h
theorem r_32_111 (L S : List Value) (h : icH) : icE 32 111 L S h = exe icE 32 (e_iload 1 112 L S h) := icE_eq (i := .iload_n 1) (len := 1) (x1 := 0) (x2 := 0) (x3 := 0) (x4 := 64) ((fe_32 111).trans rfl) L S h
theorem r_32_112 (L S : List Value) (h : icH) : icE 32 112 L S h = exe icE 32 (e_iald 113 L S h) := icE_eq (i := .iaload) (len := 1) (x1 := 0) (x2 := 0) (x3 := 0) (x4 := 64) ((fe_32 112).trans rfl) L S h
theorem r_32_113 (L S : List Value) (h : icH) : icE 32 113 L S h = exe icE 32 (e_vcal 5 47 2 1 116 L S h) := icE_eq (i := .invokevirtual 62) (len := 3) (x1 := 47) (x2 := 3) (x3 := 5) (x4 := 575) ((fe_32 113).trans rfl) L S h
theorem r_32_116 (L S : List Value) (h : icH) : icE 32 116 L S h = exe icE 32 (e_iinc 1 (nI 1) 119 L S h) := icE_eq (i := .iinc 1 1) (len := 3) (x1 := 0) (x2 := 0) (x3 := 0) (x4 := 64) ((fe_32 116).trans rfl) L S h
theorem r_32_119 (L S : List Value) (h : icH) : icE 32 119 L S h = icE 32 78 L S h := icE_eq (i := .goto (-41)) (len := 3) (x1 := 78) (x2 := 0) (x3 := 0) (x4 := 64) ((fe_32 119).trans rfl) L S h
theorem r_32_122 (L S : List Value) (h : icH) : icE 32 122 L S h = exe icE 32 (e_vret L S h) := icE_eq (i := .return_) (len := 1) (x1 := 0) (x2 := 0) (x3 := 0) (x4 := 64) ((fe_32 122).trans rfl) L S h
theorem rw_32 : (∀ (L S : List Value) (h : icH), icE 32 0 L S h = exe icE 32 (e_aload 0 1 L S h)) ∧ (∀ (L S : List Value) (h : icH), icE 32 1 L S h = exe icE 32 (e_getf 4 2 4 L S h)) ∧ (∀ (L S : List Value) (h : icH), icE 32 4 L S h = exe icE 32 (e_vcal 5 44 1 0 7 L S h)) ∧ (∀ (L S : List Value) (h : icH), icE 32 7 L S h = exe icE 32 (e_if .eq 17 10 L S h)) ∧ (∀ (L S : List Value) (h : icH), icE 32 10 L S h = exe icE 32 (e_aload 0 11 L S h)) ∧ (∀ (L S : List Value) (h : icH), icE 32 11 L S h = exe icE 32 (e_getf 4 2 14 L S h)) ∧ (∀ (L S : List Value) (h : icH), icE 32 14 L S h = exe icE 32 (e_vcal 5 49 1 0 17 L S h)) ∧ (∀ (L S : List Value) (h : icH), icE 32 17 L S h = exe icE 32 (e_aload 0 18 L S h)) ∧ (∀ (L S : List Value) (h : icH), icE 32 18 L S h = exe icE 32 (e_getf 4 2 21 L S h)) ∧ (∀ (L S : List Value) (h : icH), icE 32 21 L S h = exe icE 32 (e_aload 0 22 L S h)) ∧ (∀ (L S : List Value) (h : icH), icE 32 22 L S h = exe icE 32 (e_getf 0 2 25 L S h)) ∧ (∀ (L S : List Value) (h : icH), icE 32 25 L S h = exe icE 32 (e_getf 0 0 28 L S h)) ∧ (∀ (L S : List Value) (h : icH), icE 32 28 L S h = exe icE 32 (e_vcal 5 47 2 1 31 L S h)) ∧ (∀ (L S : List Value) (h : icH), icE 32 31 L S h = icE 32 32 L (.int (nI 0) :: S) h) ∧ (∀ (L S : List Value) (h : icH), icE 32 32 L S h = exe icE 32 (e_istore 1 33 L S h)) ∧ (∀ (L S : List Value) (h : icH), icE 32 34 L S h = icE 32 35 L (.int (nI 3) :: S) h) ∧ (∀ (L S : List Value) (h : icH), icE 32 35 L S h = exe icE 32 (e_cmp .ge 76 38 L S h)) ∧ (∀ (L S : List Value) (h : icH), icE 32 38 L S h = exe icE 32 (e_aload 0 39 L S h)) ∧ (∀ (L S : List Value) (h : icH), icE 32 39 L S h = exe icE 32 (e_getf 4 2 42 L S h)) ∧ (∀ (L S : List Value) (h : icH), icE 32 42 L S h = exe icE 32 (e_aload 0 43 L S h)) ∧ (∀ (L S : List Value) (h : icH), icE 32 43 L S h = exe icE 32 (e_getf 0 2 46 L S h)) ∧ (∀ (L S : List Value) (h : icH), icE 32 46 L S h = exe icE 32 (e_getf 4 0 49 L S h)) ∧ (∀ (L S : List Value) (h : icH), icE 32 49 L S h = exe icE 32 (e_iload 1 50 L S h)) ∧ (∀ (L S : List Value) (h : icH), icE 32 50 L S h = exe icE 32 (e_iald 51 L S h)) ∧ (∀ (L S : List Value) (h : icH), icE 32 51 L S h = exe icE 32 (e_vcal 5 47 2 1 54 L S h)) ∧ (∀ (L S : List Value) (h : icH), icE 32 54 L S h = exe icE 32 (e_aload 0 55 L S h)) ∧ (∀ (L S : List Value) (h : icH), icE 32 55 L S h = exe icE 32 (e_getf 4 2 58 L S h)) ∧ (∀ (L S : List Value) (h : icH), icE 32 58 L S h = exe icE 32 (e_aload 0 59 L S h)) ∧ (∀ (L S : List Value) (h : icH), icE 32 59 L S h = exe icE 32 (e_getf 0 2 62 L S h)) ∧ (∀ (L S : List Value) (h : icH), icE 32 62 L S h = exe icE 32 (e_getf 5 0 65 L S h)) ∧ (∀ (L S : List Value) (h : icH), icE 32 65 L S h = exe icE 32 (e_iload 1 66 L S h)) ∧ (∀ (L S : List Value) (h : icH), icE 32 66 L S h = exe icE 32 (e_iald 67 L S h)) ∧ (∀ (L S : List Value) (h : icH), icE 32 67 L S h = exe icE 32 (e_vcal 5 47 2 1 70 L S h)) ∧ (∀ (L S : List Value) (h : icH), icE 32 70 L S h = exe icE 32 (e_iinc 1 (nI 1) 73 L S h)) ∧ (∀ (L S : List Value) (h : icH), icE 32 73 L S h = icE 32 33 L S h) ∧ (∀ (L S : List Value) (h : icH), icE 32 76 L S h = icE 32 77 L (.int (nI 0) :: S) h) ∧ (∀ (L S : List Value) (h : icH), icE 32 77 L S h = exe icE 32 (e_istore 1 78 L S h)) ∧ (∀ (L S : List Value) (h : icH), icE 32 79 L S h = icE 32 81 L (.int (nI 6) :: S) h) ∧ (∀ (L S : List Value) (h : icH), icE 32 81 L S h = exe icE 32 (e_cmp .ge 122 84 L S h)) ∧ (∀ (L S : List Value) (h : icH), icE 32 84 L S h = exe icE 32 (e_aload 0 85 L S h)) ∧ (∀ (L S : List Value) (h : icH), icE 32 85 L S h = exe icE 32 (e_getf 4 2 88 L S h)) ∧ (∀ (L S : List Value) (h : icH), icE 32 88 L S h = exe icE 32 (e_aload 0 89 L S h)) ∧ (∀ (L S : List Value) (h : icH), icE 32 89 L S h = exe icE 32 (e_getf 0 2 92 L S h)) ∧ (∀ (L S : List Value) (h : icH), icE 32 92 L S h = exe icE 32 (e_getf 11 0 95 L S h)) ∧ (∀ (L S : List Value) (h : icH), icE 32 95 L S h = exe icE 32 (e_iload 1 96 L S h)) ∧ (∀ (L S : List Value) (h : icH), icE 32 96 L S h = exe icE 32 (e_iald 97 L S h)) ∧ (∀ (L S : List Value) (h : icH), icE 32 97 L S h = exe icE 32 (e_vcal 5 47 2 1 100 L S h)) ∧ (∀ (L S : List Value) (h : icH), icE 32 100 L S h = exe icE 32 (e_aload 0 101 L S h)) ∧ (∀ (L S : List Value) (h : icH), icE 32 101 L S h = exe icE 32 (e_getf 4 2 104 L S h)) ∧ (∀ (L S : List Value) (h : icH), icE 32 104 L S h = exe icE 32 (e_aload 0 105 L S h)) ∧ (∀ (L S : List Value) (h : icH), icE 32 105 L S h = exe icE 32 (e_getf 0 2 108 L S h)) ∧ (∀ (L S : List Value) (h : icH), icE 32 108 L S h = exe icE 32 (e_getf 13 0 111 L S h)) ∧ (∀ (L S : List Value) (h : icH), icE 32 111 L S h = exe icE 32 (e_iload 1 112 L S h)) ∧ (∀ (L S : List Value) (h : icH), icE 32 112 L S h = exe icE 32 (e_iald 113 L S h)) ∧ (∀ (L S : List Value) (h : icH), icE 32 113 L S h = exe icE 32 (e_vcal 5 47 2 1 116 L S h)) ∧ (∀ (L S : List Value) (h : icH), icE 32 116 L S h = exe icE 32 (e_iinc 1 (nI 1) 119 L S h)) ∧ (∀ (L S : List Value) (h : icH), icE 32 119 L S h = icE 32 78 L S h) ∧ (∀ (L S : List Value) (h : icH), icE 32 122 L S h = exe icE 32 (e_vret L S h)) := ⟨r_32_0, r_32_1, r_32_4, r_32_7, r_32_10, r_32_11, r_32_14, r_32_17, r_32_18, r_32_21, r_32_22, r_32_25, r_32_28, r_32_31, r_32_32, r_32_34, r_32_35, r_32_38, r_32_39, r_32_42, r_32_43, r_32_46, r_32_49, r_32_50, r_32_51, r_32_54, r_32_55, r_32_58, r_32_59, r_32_62, r_32_65, r_32_66, r_32_67, r_32_70, r_32_73, r_32_76, r_32_77, r_32_79, r_32_81, r_32_84, r_32_85, r_32_88, r_32_89, r_32_92, r_32_95, r_32_96, r_32_97, r_32_100, r_32_101, r_32_104, r_32_105, r_32_108, r_32_111, r_32_112, r_32_113, r_32_116, r_32_119, r_32_122⟩
-- cX3_goBack: heads [33, 88]
theorem fe_33 (pc : Nat) : fet 33 pc = look k_33 pc := rfl
theorem r_33_0 (L S : List Value) (h : icH) : icE 33 0 L S h = exe icE 33 (e_aload 0 1 L S h) := icE_eq (i := .aload_n 0) (len := 1) (x1 := 0) (x2 := 0) (x3 := 0) (x4 := 64) ((fe_33 0).trans rfl) L S h
theorem r_33_1 (L S : List Value) (h : icH) : icE 33 1 L S h = exe icE 33 (e_getf 4 2 4 L S h) := icE_eq (i := .getfield 33) (len := 3) (x1 := 4) (x2 := 2) (x3 := 12) (x4 := 205) ((fe_33 1).trans rfl) L S h
theorem r_33_4 (L S : List Value) (h : icH) : icE 33 4 L S h = exe icE 33 (e_vcal 5 43 1 0 7 L S h) := icE_eq (i := .invokevirtual 78) (len := 3) (x1 := 43) (x2 := 3) (x3 := 5) (x4 := 628) ((fe_33 4).trans rfl) L S h
theorem r_33_7 (L S : List Value) (h : icH) : icE 33 7 L S h = icE 33 8 L (.int (nI 1) :: S) h := icE_eq (i := .iconst 1) (len := 1) (x1 := 0) (x2 := 0) (x3 := 0) (x4 := 64) ((fe_33 7).trans rfl) L S h
theorem r_33_8 (L S : List Value) (h : icH) : icE 33 8 L S h = exe icE 33 (e_bin (fun x y => x - y) 9 L S h) := icE_eq (i := .isub) (len := 1) (x1 := 0) (x2 := 0) (x3 := 0) (x4 := 64) ((fe_33 8).trans rfl) L S h
theorem r_33_9 (L S : List Value) (h : icH) : icE 33 9 L S h = exe icE 33 (e_istore 1 10 L S h) := icE_eq (i := .istore_n 1) (len := 1) (x1 := 0) (x2 := 0) (x3 := 0) (x4 := 64) ((fe_33 9).trans rfl) L S h
theorem r_33_10 (L S : List Value) (h : icH) : icE 33 10 L S h = icE 33 11 L (.int (nI 0) :: S) h := icE_eq (i := .iconst 0) (len := 1) (x1 := 0) (x2 := 0) (x3 := 0) (x4 := 64) ((fe_33 10).trans rfl) L S h
theorem r_33_11 (L S : List Value) (h : icH) : icE 33 11 L S h = exe icE 33 (e_istore 2 12 L S h) := icE_eq (i := .istore_n 2) (len := 1) (x1 := 0) (x2 := 0) (x3 := 0) (x4 := 64) ((fe_33 11).trans rfl) L S h
theorem r_33_12 (L S : List Value) (h : icH) : icE 33 12 L S h = exe icE 33 (e_aload 0 13 L S h) := icE_eq (i := .aload_n 0) (len := 1) (x1 := 0) (x2 := 0) (x3 := 0) (x4 := 64) ((fe_33 12).trans rfl) L S h
theorem r_33_13 (L S : List Value) (h : icH) : icE 33 13 L S h = exe icE 33 (e_getf 0 2 16 L S h) := icE_eq (i := .getfield 12) (len := 3) (x1 := 0) (x2 := 2) (x3 := 12) (x4 := 191) ((fe_33 13).trans rfl) L S h
theorem r_33_16 (L S : List Value) (h : icH) : icE 33 16 L S h = exe icE 33 (e_aload 0 17 L S h) := icE_eq (i := .aload_n 0) (len := 1) (x1 := 0) (x2 := 0) (x3 := 0) (x4 := 64) ((fe_33 16).trans rfl) L S h
theorem r_33_17 (L S : List Value) (h : icH) : icE 33 17 L S h = exe icE 33 (e_getf 4 2 20 L S h) := icE_eq (i := .getfield 33) (len := 3) (x1 := 4) (x2 := 2) (x3 := 12) (x4 := 205) ((fe_33 17).trans rfl) L S h
theorem r_33_20 (L S : List Value) (h : icH) : icE 33 20 L S h = exe icE 33 (e_iload 1 21 L S h) := icE_eq (i := .iload_n 1) (len := 1) (x1 := 0) (x2 := 0) (x3 := 0) (x4 := 64) ((fe_33 20).trans rfl) L S h
theorem r_33_21 (L S : List Value) (h : icH) : icE 33 21 L S h = exe icE 33 (e_iload 2 22 L S h) := icE_eq (i := .iload_n 2) (len := 1) (x1 := 0) (x2 := 0) (x3 := 0) (x4 := 64) ((fe_33 21).trans rfl) L S h
theorem r_33_22 (L S : List Value) (h : icH) : icE 33 22 L S h = exe icE 33 (e_iinc 2 (nI 1) 25 L S h) := icE_eq (i := .iinc 2 1) (len := 3) (x1 := 0) (x2 := 0) (x3 := 0) (x4 := 64) ((fe_33 22).trans rfl) L S h
theorem r_33_25 (L S : List Value) (h : icH) : icE 33 25 L S h = exe icE 33 (e_vcal 5 45 4 2 28 L S h) := icE_eq (i := .invokevirtual 81) (len := 3) (x1 := 45) (x2 := 3) (x3 := 5) (x4 := 629) ((fe_33 25).trans rfl) L S h
theorem r_33_28 (L S : List Value) (h : icH) : icE 33 28 L S h = exe icE 33 (e_putf 0 0 0 31 L S h) := icE_eq (i := .putfield 58) (len := 3) (x1 := 0) (x2 := 0) (x3 := 0) (x4 := 107) ((fe_33 28).trans rfl) L S h
theorem r_33_31 (L S : List Value) (h : icH) : icE 33 31 L S h = icE 33 32 L (.int (nI 0) :: S) h := icE_eq (i := .iconst 0) (len := 1) (x1 := 0) (x2 := 0) (x3 := 0) (x4 := 64) ((fe_33 31).trans rfl) L S h
theorem r_33_32 (L S : List Value) (h : icH) : icE 33 32 L S h = exe icE 33 (e_istore 3 33 L S h) := icE_eq (i := .istore_n 3) (len := 1) (x1 := 0) (x2 := 0) (x3 := 0) (x4 := 64) ((fe_33 32).trans rfl) L S h
theorem rh_33_33 (L S : List Value) (h : icH) : icE 33 33 L S h = exe icE 33 (e_iload 3 34 L S h) := icE_eq (i := .iload_n 3) (len := 1) (x1 := 0) (x2 := 0) (x3 := 0) (x4 := 64) ((fe_33 33).trans rfl) L S h
theorem r_33_34 (L S : List Value) (h : icH) : icE 33 34 L S h = icE 33 35 L (.int (nI 3) :: S) h := icE_eq (i := .iconst 3) (len := 1) (x1 := 0) (x2 := 0) (x3 := 0) (x4 := 64) ((fe_33 34).trans rfl) L S h
theorem r_33_35 (L S : List Value) (h : icH) : icE 33 35 L S h = exe icE 33 (e_cmp .ge 86 38 L S h) := icE_eq (i := .if_icmp .ge 51) (len := 3) (x1 := 86) (x2 := 0) (x3 := 0) (x4 := 64) ((fe_33 35).trans rfl) L S h
theorem r_33_38 (L S : List Value) (h : icH) : icE 33 38 L S h = exe icE 33 (e_aload 0 39 L S h) := icE_eq (i := .aload_n 0) (len := 1) (x1 := 0) (x2 := 0) (x3 := 0) (x4 := 64) ((fe_33 38).trans rfl) L S h
theorem r_33_39 (L S : List Value) (h : icH) : icE 33 39 L S h = exe icE 33 (e_getf 0 2 42 L S h) := icE_eq (i := .getfield 12) (len := 3) (x1 := 0) (x2 := 2) (x3 := 12) (x4 := 191) ((fe_33 39).trans rfl) L S h
theorem r_33_42 (L S : List Value) (h : icH) : icE 33 42 L S h = exe icE 33 (e_getf 4 0 45 L S h) := icE_eq (i := .getfield 65) (len := 3) (x1 := 4) (x2 := 0) (x3 := 12) (x4 := 119) ((fe_33 42).trans rfl) L S h
theorem r_33_45 (L S : List Value) (h : icH) : icE 33 45 L S h = exe icE 33 (e_iload 3 46 L S h) := icE_eq (i := .iload_n 3) (len := 1) (x1 := 0) (x2 := 0) (x3 := 0) (x4 := 64) ((fe_33 45).trans rfl) L S h
theorem r_33_46 (L S : List Value) (h : icH) : icE 33 46 L S h = exe icE 33 (e_aload 0 47 L S h) := icE_eq (i := .aload_n 0) (len := 1) (x1 := 0) (x2 := 0) (x3 := 0) (x4 := 64) ((fe_33 46).trans rfl) L S h
theorem r_33_47 (L S : List Value) (h : icH) : icE 33 47 L S h = exe icE 33 (e_getf 4 2 50 L S h) := icE_eq (i := .getfield 33) (len := 3) (x1 := 4) (x2 := 2) (x3 := 12) (x4 := 205) ((fe_33 47).trans rfl) L S h
theorem r_33_50 (L S : List Value) (h : icH) : icE 33 50 L S h = exe icE 33 (e_iload 1 51 L S h) := icE_eq (i := .iload_n 1) (len := 1) (x1 := 0) (x2 := 0) (x3 := 0) (x4 := 64) ((fe_33 50).trans rfl) L S h
theorem r_33_51 (L S : List Value) (h : icH) : icE 33 51 L S h = exe icE 33 (e_iload 2 52 L S h) := icE_eq (i := .iload_n 2) (len := 1) (x1 := 0) (x2 := 0) (x3 := 0) (x4 := 64) ((fe_33 51).trans rfl) L S h
theorem r_33_52 (L S : List Value) (h : icH) : icE 33 52 L S h = exe icE 33 (e_iinc 2 (nI 1) 55 L S h) := icE_eq (i := .iinc 2 1) (len := 3) (x1 := 0) (x2 := 0) (x3 := 0) (x4 := 64) ((fe_33 52).trans rfl) L S h
theorem r_33_55 (L S : List Value) (h : icH) : icE 33 55 L S h = exe icE 33 (e_vcal 5 45 4 2 58 L S h) := icE_eq (i := .invokevirtual 81) (len := 3) (x1 := 45) (x2 := 3) (x3 := 5) (x4 := 629) ((fe_33 55).trans rfl) L S h
theorem r_33_58 (L S : List Value) (h : icH) : icE 33 58 L S h = exe icE 33 (e_iast 59 L S h) := icE_eq (i := .iastore) (len := 1) (x1 := 0) (x2 := 0) (x3 := 0) (x4 := 64) ((fe_33 58).trans rfl) L S h
theorem r_33_59 (L S : List Value) (h : icH) : icE 33 59 L S h = exe icE 33 (e_aload 0 60 L S h) := icE_eq (i := .aload_n 0) (len := 1) (x1 := 0) (x2 := 0) (x3 := 0) (x4 := 64) ((fe_33 59).trans rfl) L S h
theorem r_33_60 (L S : List Value) (h : icH) : icE 33 60 L S h = exe icE 33 (e_getf 0 2 63 L S h) := icE_eq (i := .getfield 12) (len := 3) (x1 := 0) (x2 := 2) (x3 := 12) (x4 := 191) ((fe_33 60).trans rfl) L S h
theorem r_33_63 (L S : List Value) (h : icH) : icE 33 63 L S h = exe icE 33 (e_getf 5 0 66 L S h) := icE_eq (i := .getfield 69) (len := 3) (x1 := 5) (x2 := 0) (x3 := 12) (x4 := 123) ((fe_33 63).trans rfl) L S h
theorem r_33_66 (L S : List Value) (h : icH) : icE 33 66 L S h = exe icE 33 (e_iload 3 67 L S h) := icE_eq (i := .iload_n 3) (len := 1) (x1 := 0) (x2 := 0) (x3 := 0) (x4 := 64) ((fe_33 66).trans rfl) L S h
theorem r_33_67 (L S : List Value) (h : icH) : icE 33 67 L S h = exe icE 33 (e_aload 0 68 L S h) := icE_eq (i := .aload_n 0) (len := 1) (x1 := 0) (x2 := 0) (x3 := 0) (x4 := 64) ((fe_33 67).trans rfl) L S h
theorem r_33_68 (L S : List Value) (h : icH) : icE 33 68 L S h = exe icE 33 (e_getf 4 2 71 L S h) := icE_eq (i := .getfield 33) (len := 3) (x1 := 4) (x2 := 2) (x3 := 12) (x4 := 205) ((fe_33 68).trans rfl) L S h
theorem r_33_71 (L S : List Value) (h : icH) : icE 33 71 L S h = exe icE 33 (e_iload 1 72 L S h) := icE_eq (i := .iload_n 1) (len := 1) (x1 := 0) (x2 := 0) (x3 := 0) (x4 := 64) ((fe_33 71).trans rfl) L S h
theorem r_33_72 (L S : List Value) (h : icH) : icE 33 72 L S h = exe icE 33 (e_iload 2 73 L S h) := icE_eq (i := .iload_n 2) (len := 1) (x1 := 0) (x2 := 0) (x3 := 0) (x4 := 64) ((fe_33 72).trans rfl) L S h
theorem r_33_73 (L S : List Value) (h : icH) : icE 33 73 L S h = exe icE 33 (e_iinc 2 (nI 1) 76 L S h) := icE_eq (i := .iinc 2 1) (len := 3) (x1 := 0) (x2 := 0) (x3 := 0) (x4 := 64) ((fe_33 73).trans rfl) L S h
theorem r_33_76 (L S : List Value) (h : icH) : icE 33 76 L S h = exe icE 33 (e_vcal 5 45 4 2 79 L S h) := icE_eq (i := .invokevirtual 81) (len := 3) (x1 := 45) (x2 := 3) (x3 := 5) (x4 := 629) ((fe_33 76).trans rfl) L S h
theorem r_33_79 (L S : List Value) (h : icH) : icE 33 79 L S h = exe icE 33 (e_iast 80 L S h) := icE_eq (i := .iastore) (len := 1) (x1 := 0) (x2 := 0) (x3 := 0) (x4 := 64) ((fe_33 79).trans rfl) L S h
theorem r_33_80 (L S : List Value) (h : icH) : icE 33 80 L S h = exe icE 33 (e_iinc 3 (nI 1) 83 L S h) := icE_eq (i := .iinc 3 1) (len := 3) (x1 := 0) (x2 := 0) (x3 := 0) (x4 := 64) ((fe_33 80).trans rfl) L S h
theorem r_33_83 (L S : List Value) (h : icH) : icE 33 83 L S h = icE 33 33 L S h := icE_eq (i := .goto (-50)) (len := 3) (x1 := 33) (x2 := 0) (x3 := 0) (x4 := 64) ((fe_33 83).trans rfl) L S h
theorem r_33_86 (L S : List Value) (h : icH) : icE 33 86 L S h = icE 33 87 L (.int (nI 0) :: S) h := icE_eq (i := .iconst 0) (len := 1) (x1 := 0) (x2 := 0) (x3 := 0) (x4 := 64) ((fe_33 86).trans rfl) L S h
theorem r_33_87 (L S : List Value) (h : icH) : icE 33 87 L S h = exe icE 33 (e_istore 3 88 L S h) := icE_eq (i := .istore_n 3) (len := 1) (x1 := 0) (x2 := 0) (x3 := 0) (x4 := 64) ((fe_33 87).trans rfl) L S h
theorem rh_33_88 (L S : List Value) (h : icH) : icE 33 88 L S h = exe icE 33 (e_iload 3 89 L S h) := icE_eq (i := .iload_n 3) (len := 1) (x1 := 0) (x2 := 0) (x3 := 0) (x4 := 64) ((fe_33 88).trans rfl) L S h
theorem r_33_89 (L S : List Value) (h : icH) : icE 33 89 L S h = icE 33 91 L (.int (nI 6) :: S) h := icE_eq (i := .bipush 6) (len := 2) (x1 := 0) (x2 := 0) (x3 := 0) (x4 := 64) ((fe_33 89).trans rfl) L S h
theorem r_33_91 (L S : List Value) (h : icH) : icE 33 91 L S h = exe icE 33 (e_cmp .ge 142 94 L S h) := icE_eq (i := .if_icmp .ge 51) (len := 3) (x1 := 142) (x2 := 0) (x3 := 0) (x4 := 64) ((fe_33 91).trans rfl) L S h
theorem r_33_94 (L S : List Value) (h : icH) : icE 33 94 L S h = exe icE 33 (e_aload 0 95 L S h) := icE_eq (i := .aload_n 0) (len := 1) (x1 := 0) (x2 := 0) (x3 := 0) (x4 := 64) ((fe_33 94).trans rfl) L S h
theorem r_33_95 (L S : List Value) (h : icH) : icE 33 95 L S h = exe icE 33 (e_getf 0 2 98 L S h) := icE_eq (i := .getfield 12) (len := 3) (x1 := 0) (x2 := 2) (x3 := 12) (x4 := 191) ((fe_33 95).trans rfl) L S h
theorem r_33_98 (L S : List Value) (h : icH) : icE 33 98 L S h = exe icE 33 (e_getf 11 0 101 L S h) := icE_eq (i := .getfield 72) (len := 3) (x1 := 11) (x2 := 0) (x3 := 12) (x4 := 136) ((fe_33 98).trans rfl) L S h
theorem r_33_101 (L S : List Value) (h : icH) : icE 33 101 L S h = exe icE 33 (e_iload 3 102 L S h) := icE_eq (i := .iload_n 3) (len := 1) (x1 := 0) (x2 := 0) (x3 := 0) (x4 := 64) ((fe_33 101).trans rfl) L S h
theorem r_33_102 (L S : List Value) (h : icH) : icE 33 102 L S h = exe icE 33 (e_aload 0 103 L S h) := icE_eq (i := .aload_n 0) (len := 1) (x1 := 0) (x2 := 0) (x3 := 0) (x4 := 64) ((fe_33 102).trans rfl) L S h
theorem r_33_103 (L S : List Value) (h : icH) : icE 33 103 L S h = exe icE 33 (e_getf 4 2 106 L S h) := icE_eq (i := .getfield 33) (len := 3) (x1 := 4) (x2 := 2) (x3 := 12) (x4 := 205) ((fe_33 103).trans rfl) L S h
theorem r_33_106 (L S : List Value) (h : icH) : icE 33 106 L S h = exe icE 33 (e_iload 1 107 L S h) := icE_eq (i := .iload_n 1) (len := 1) (x1 := 0) (x2 := 0) (x3 := 0) (x4 := 64) ((fe_33 106).trans rfl) L S h
theorem r_33_107 (L S : List Value) (h : icH) : icE 33 107 L S h = exe icE 33 (e_iload 2 108 L S h) := icE_eq (i := .iload_n 2) (len := 1) (x1 := 0) (x2 := 0) (x3 := 0) (x4 := 64) ((fe_33 107).trans rfl) L S h
theorem r_33_108 (L S : List Value) (h : icH) : icE 33 108 L S h = exe icE 33 (e_iinc 2 (nI 1) 111 L S h) := icE_eq (i := .iinc 2 1) (len := 3) (x1 := 0) (x2 := 0) (x3 := 0) (x4 := 64) ((fe_33 108).trans rfl) L S h
theorem r_33_111 (L S : List Value) (h : icH) : icE 33 111 L S h = exe icE 33 (e_vcal 5 45 4 2 114 L S h) := icE_eq (i := .invokevirtual 81) (len := 3) (x1 := 45) (x2 := 3) (x3 := 5) (x4 := 629) ((fe_33 111).trans rfl) L S h
theorem r_33_114 (L S : List Value) (h : icH) : icE 33 114 L S h = exe icE 33 (e_iast 115 L S h) := icE_eq (i := .iastore) (len := 1) (x1 := 0) (x2 := 0) (x3 := 0) (x4 := 64) ((fe_33 114).trans rfl) L S h
theorem r_33_115 (L S : List Value) (h : icH) : icE 33 115 L S h = exe icE 33 (e_aload 0 116 L S h) := icE_eq (i := .aload_n 0) (len := 1) (x1 := 0) (x2 := 0) (x3 := 0) (x4 := 64) ((fe_33 115).trans rfl) L S h
theorem r_33_116 (L S : List Value) (h : icH) : icE 33 116 L S h = exe icE 33 (e_getf 0 2 119 L S h) := icE_eq (i := .getfield 12) (len := 3) (x1 := 0) (x2 := 2) (x3 := 12) (x4 := 191) ((fe_33 116).trans rfl) L S h
theorem r_33_119 (L S : List Value) (h : icH) : icE 33 119 L S h = exe icE 33 (e_getf 13 0 122 L S h) := icE_eq (i := .getfield 75) (len := 3) (x1 := 13) (x2 := 0) (x3 := 12) (x4 := 140) ((fe_33 119).trans rfl) L S h
theorem r_33_122 (L S : List Value) (h : icH) : icE 33 122 L S h = exe icE 33 (e_iload 3 123 L S h) := icE_eq (i := .iload_n 3) (len := 1) (x1 := 0) (x2 := 0) (x3 := 0) (x4 := 64) ((fe_33 122).trans rfl) L S h
theorem r_33_123 (L S : List Value) (h : icH) : icE 33 123 L S h = exe icE 33 (e_aload 0 124 L S h) := icE_eq (i := .aload_n 0) (len := 1) (x1 := 0) (x2 := 0) (x3 := 0) (x4 := 64) ((fe_33 123).trans rfl) L S h
theorem r_33_124 (L S : List Value) (h : icH) : icE 33 124 L S h = exe icE 33 (e_getf 4 2 127 L S h) := icE_eq (i := .getfield 33) (len := 3) (x1 := 4) (x2 := 2) (x3 := 12) (x4 := 205) ((fe_33 124).trans rfl) L S h
theorem r_33_127 (L S : List Value) (h : icH) : icE 33 127 L S h = exe icE 33 (e_iload 1 128 L S h) := icE_eq (i := .iload_n 1) (len := 1) (x1 := 0) (x2 := 0) (x3 := 0) (x4 := 64) ((fe_33 127).trans rfl) L S h
theorem r_33_128 (L S : List Value) (h : icH) : icE 33 128 L S h = exe icE 33 (e_iload 2 129 L S h) := icE_eq (i := .iload_n 2) (len := 1) (x1 := 0) (x2 := 0) (x3 := 0) (x4 := 64) ((fe_33 128).trans rfl) L S h
theorem r_33_129 (L S : List Value) (h : icH) : icE 33 129 L S h = exe icE 33 (e_iinc 2 (nI 1) 132 L S h) := icE_eq (i := .iinc 2 1) (len := 3) (x1 := 0) (x2 := 0) (x3 := 0) (x4 := 64) ((fe_33 129).trans rfl) L S h
theorem r_33_132 (L S : List Value) (h : icH) : icE 33 132 L S h = exe icE 33 (e_vcal 5 45 4 2 135 L S h) := icE_eq (i := .invokevirtual 81) (len := 3) (x1 := 45) (x2 := 3) (x3 := 5) (x4 := 629) ((fe_33 132).trans rfl) L S h
theorem r_33_135 (L S : List Value) (h : icH) : icE 33 135 L S h = exe icE 33 (e_iast 136 L S h) := icE_eq (i := .iastore) (len := 1) (x1 := 0) (x2 := 0) (x3 := 0) (x4 := 64) ((fe_33 135).trans rfl) L S h
theorem r_33_136 (L S : List Value) (h : icH) : icE 33 136 L S h = exe icE 33 (e_iinc 3 (nI 1) 139 L S h) := icE_eq (i := .iinc 3 1) (len := 3) (x1 := 0) (x2 := 0) (x3 := 0) (x4 := 64) ((fe_33 136).trans rfl) L S h
theorem r_33_139 (L S : List Value) (h : icH) : icE 33 139 L S h = icE 33 88 L S h := icE_eq (i := .goto (-51)) (len := 3) (x1 := 88) (x2 := 0) (x3 := 0) (x4 := 64) ((fe_33 139).trans rfl) L S h
theorem r_33_142 (L S : List Value) (h : icH) : icE 33 142 L S h = exe icE 33 (e_aload 0 143 L S h) := icE_eq (i := .aload_n 0) (len := 1) (x1 := 0) (x2 := 0) (x3 := 0) (x4 := 64) ((fe_33 142).trans rfl) L S h
theorem r_33_143 (L S : List Value) (h : icH) : icE 33 143 L S h = exe icE 33 (e_getf 4 2 146 L S h) := icE_eq (i := .getfield 33) (len := 3) (x1 := 4) (x2 := 2) (x3 := 12) (x4 := 205) ((fe_33 143).trans rfl) L S h
theorem r_33_146 (L S : List Value) (h : icH) : icE 33 146 L S h = exe icE 33 (e_vcal 5 50 1 0 149 L S h) := icE_eq (i := .invokevirtual 85) (len := 3) (x1 := 50) (x2 := 3) (x3 := 5) (x4 := 633) ((fe_33 146).trans rfl) L S h
theorem r_33_149 (L S : List Value) (h : icH) : icE 33 149 L S h = exe icE 33 (e_vret L S h) := icE_eq (i := .return_) (len := 1) (x1 := 0) (x2 := 0) (x3 := 0) (x4 := 64) ((fe_33 149).trans rfl) L S h
theorem rw_33 : (∀ (L S : List Value) (h : icH), icE 33 0 L S h = exe icE 33 (e_aload 0 1 L S h)) ∧ (∀ (L S : List Value) (h : icH), icE 33 1 L S h = exe icE 33 (e_getf 4 2 4 L S h)) ∧ (∀ (L S : List Value) (h : icH), icE 33 4 L S h = exe icE 33 (e_vcal 5 43 1 0 7 L S h)) ∧ (∀ (L S : List Value) (h : icH), icE 33 7 L S h = icE 33 8 L (.int (nI 1) :: S) h) ∧ (∀ (L S : List Value) (h : icH), icE 33 8 L S h = exe icE 33 (e_bin (fun x y => x - y) 9 L S h)) ∧ (∀ (L S : List Value) (h : icH), icE 33 9 L S h = exe icE 33 (e_istore 1 10 L S h)) ∧ (∀ (L S : List Value) (h : icH), icE 33 10 L S h = icE 33 11 L (.int (nI 0) :: S) h) ∧ (∀ (L S : List Value) (h : icH), icE 33 11 L S h = exe icE 33 (e_istore 2 12 L S h)) ∧ (∀ (L S : List Value) (h : icH), icE 33 12 L S h = exe icE 33 (e_aload 0 13 L S h)) ∧ (∀ (L S : List Value) (h : icH), icE 33 13 L S h = exe icE 33 (e_getf 0 2 16 L S h)) ∧ (∀ (L S : List Value) (h : icH), icE 33 16 L S h = exe icE 33 (e_aload 0 17 L S h)) ∧ (∀ (L S : List Value) (h : icH), icE 33 17 L S h = exe icE 33 (e_getf 4 2 20 L S h)) ∧ (∀ (L S : List Value) (h : icH), icE 33 20 L S h = exe icE 33 (e_iload 1 21 L S h)) ∧ (∀ (L S : List Value) (h : icH), icE 33 21 L S h = exe icE 33 (e_iload 2 22 L S h)) ∧ (∀ (L S : List Value) (h : icH), icE 33 22 L S h = exe icE 33 (e_iinc 2 (nI 1) 25 L S h)) ∧ (∀ (L S : List Value) (h : icH), icE 33 25 L S h = exe icE 33 (e_vcal 5 45 4 2 28 L S h)) ∧ (∀ (L S : List Value) (h : icH), icE 33 28 L S h = exe icE 33 (e_putf 0 0 0 31 L S h)) ∧ (∀ (L S : List Value) (h : icH), icE 33 31 L S h = icE 33 32 L (.int (nI 0) :: S) h) ∧ (∀ (L S : List Value) (h : icH), icE 33 32 L S h = exe icE 33 (e_istore 3 33 L S h)) ∧ (∀ (L S : List Value) (h : icH), icE 33 34 L S h = icE 33 35 L (.int (nI 3) :: S) h) ∧ (∀ (L S : List Value) (h : icH), icE 33 35 L S h = exe icE 33 (e_cmp .ge 86 38 L S h)) ∧ (∀ (L S : List Value) (h : icH), icE 33 38 L S h = exe icE 33 (e_aload 0 39 L S h)) ∧ (∀ (L S : List Value) (h : icH), icE 33 39 L S h = exe icE 33 (e_getf 0 2 42 L S h)) ∧ (∀ (L S : List Value) (h : icH), icE 33 42 L S h = exe icE 33 (e_getf 4 0 45 L S h)) ∧ (∀ (L S : List Value) (h : icH), icE 33 45 L S h = exe icE 33 (e_iload 3 46 L S h)) ∧ (∀ (L S : List Value) (h : icH), icE 33 46 L S h = exe icE 33 (e_aload 0 47 L S h)) ∧ (∀ (L S : List Value) (h : icH), icE 33 47 L S h = exe icE 33 (e_getf 4 2 50 L S h)) ∧ (∀ (L S : List Value) (h : icH), icE 33 50 L S h = exe icE 33 (e_iload 1 51 L S h)) ∧ (∀ (L S : List Value) (h : icH), icE 33 51 L S h = exe icE 33 (e_iload 2 52 L S h)) ∧ (∀ (L S : List Value) (h : icH), icE 33 52 L S h = exe icE 33 (e_iinc 2 (nI 1) 55 L S h)) ∧ (∀ (L S : List Value) (h : icH), icE 33 55 L S h = exe icE 33 (e_vcal 5 45 4 2 58 L S h)) ∧ (∀ (L S : List Value) (h : icH), icE 33 58 L S h = exe icE 33 (e_iast 59 L S h)) ∧ (∀ (L S : List Value) (h : icH), icE 33 59 L S h = exe icE 33 (e_aload 0 60 L S h)) ∧ (∀ (L S : List Value) (h : icH), icE 33 60 L S h = exe icE 33 (e_getf 0 2 63 L S h)) ∧ (∀ (L S : List Value) (h : icH), icE 33 63 L S h = exe icE 33 (e_getf 5 0 66 L S h)) ∧ (∀ (L S : List Value) (h : icH), icE 33 66 L S h = exe icE 33 (e_iload 3 67 L S h)) ∧ (∀ (L S : List Value) (h : icH), icE 33 67 L S h = exe icE 33 (e_aload 0 68 L S h)) ∧ (∀ (L S : List Value) (h : icH), icE 33 68 L S h = exe icE 33 (e_getf 4 2 71 L S h)) ∧ (∀ (L S : List Value) (h : icH), icE 33 71 L S h = exe icE 33 (e_iload 1 72 L S h)) ∧ (∀ (L S : List Value) (h : icH), icE 33 72 L S h = exe icE 33 (e_iload 2 73 L S h)) ∧ (∀ (L S : List Value) (h : icH), icE 33 73 L S h = exe icE 33 (e_iinc 2 (nI 1) 76 L S h)) ∧ (∀ (L S : List Value) (h : icH), icE 33 76 L S h = exe icE 33 (e_vcal 5 45 4 2 79 L S h)) ∧ (∀ (L S : List Value) (h : icH), icE 33 79 L S h = exe icE 33 (e_iast 80 L S h)) ∧ (∀ (L S : List Value) (h : icH), icE 33 80 L S h = exe icE 33 (e_iinc 3 (nI 1) 83 L S h)) ∧ (∀ (L S : List Value) (h : icH), icE 33 83 L S h = icE 33 33 L S h) ∧ (∀ (L S : List Value) (h : icH), icE 33 86 L S h = icE 33 87 L (.int (nI 0) :: S) h) ∧ (∀ (L S : List Value) (h : icH), icE 33 87 L S h = exe icE 33 (e_istore 3 88 L S h)) ∧ (∀ (L S : List Value) (h : icH), icE 33 89 L S h = icE 33 91 L (.int (nI 6) :: S) h) ∧ (∀ (L S : List Value) (h : icH), icE 33 91 L S h = exe icE 33 (e_cmp .ge 142 94 L S h)) ∧ (∀ (L S : List Value) (h : icH), icE 33 94 L S h = exe icE 33 (e_aload 0 95 L S h)) ∧ (∀ (L S : List Value) (h : icH), icE 33 95 L S h = exe icE 33 (e_getf 0 2 98 L S h)) ∧ (∀ (L S : List Value) (h : icH), icE 33 98 L S h = exe icE 33 (e_getf 11 0 101 L S h)) ∧ (∀ (L S : List Value) (h : icH), icE 33 101 L S h = exe icE 33 (e_iload 3 102 L S h)) ∧ (∀ (L S : List Value) (h : icH), icE 33 102 L S h = exe icE 33 (e_aload 0 103 L S h)) ∧ (∀ (L S : List Value) (h : icH), icE 33 103 L S h = exe icE 33 (e_getf 4 2 106 L S h)) ∧ (∀ (L S : List Value) (h : icH), icE 33 106 L S h = exe icE 33 (e_iload 1 107 L S h)) ∧ (∀ (L S : List Value) (h : icH), icE 33 107 L S h = exe icE 33 (e_iload 2 108 L S h)) ∧ (∀ (L S : List Value) (h : icH), icE 33 108 L S h = exe icE 33 (e_iinc 2 (nI 1) 111 L S h)) ∧ (∀ (L S : List Value) (h : icH), icE 33 111 L S h = exe icE 33 (e_vcal 5 45 4 2 114 L S h)) ∧ (∀ (L S : List Value) (h : icH), icE 33 114 L S h = exe icE 33 (e_iast 115 L S h)) ∧ (∀ (L S : List Value) (h : icH), icE 33 115 L S h = exe icE 33 (e_aload 0 116 L S h)) ∧ (∀ (L S : List Value) (h : icH), icE 33 116 L S h = exe icE 33 (e_getf 0 2 119 L S h)) ∧ (∀ (L S : List Value) (h : icH), icE 33 119 L S h = exe icE 33 (e_getf 13 0 122 L S h)) ∧ (∀ (L S : List Value) (h : icH), icE 33 122 L S h = exe icE 33 (e_iload 3 123 L S h)) ∧ (∀ (L S : List Value) (h : icH), icE 33 123 L S h = exe icE 33 (e_aload 0 124 L S h)) ∧ (∀ (L S : List Value) (h : icH), icE 33 124 L S h = exe icE 33 (e_getf 4 2 127 L S h)) ∧ (∀ (L S : List Value) (h : icH), icE 33 127 L S h = exe icE 33 (e_iload 1 128 L S h)) ∧ (∀ (L S : List Value) (h : icH), icE 33 128 L S h = exe icE 33 (e_iload 2 129 L S h)) ∧ (∀ (L S : List Value) (h : icH), icE 33 129 L S h = exe icE 33 (e_iinc 2 (nI 1) 132 L S h)) ∧ (∀ (L S : List Value) (h : icH), icE 33 132 L S h = exe icE 33 (e_vcal 5 45 4 2 135 L S h)) ∧ (∀ (L S : List Value) (h : icH), icE 33 135 L S h = exe icE 33 (e_iast 136 L S h)) ∧ (∀ (L S : List Value) (h : icH), icE 33 136 L S h = exe icE 33 (e_iinc 3 (nI 1) 139 L S h)) ∧ (∀ (L S : List Value) (h : icH), icE 33 139 L S h = icE 33 88 L S h) ∧ (∀ (L S : List Value) (h : icH), icE 33 142 L S h = exe icE 33 (e_aload 0 143 L S h)) ∧ (∀ (L S : List Value) (h : icH), icE 33 143 L S h = exe icE 33 (e_getf 4 2 146 L S h)) ∧ (∀ (L S : List Value) (h : icH), icE 33 146 L S h = exe icE 33 (e_vcal 5 50 1 0 149 L S h)) ∧ (∀ (L S : List Value) (h : icH), icE 33 149 L S h = exe icE 33 (e_vret L S h)) := ⟨r_33_0, r_33_1, r_33_4, r_33_7, r_33_8, r_33_9, r_33_10, r_33_11, r_33_12, r_33_13, r_33_16, r_33_17, r_33_20, r_33_21, r_33_22, r_33_25, r_33_28, r_33_31, r_33_32, r_33_34, r_33_35, r_33_38, r_33_39, r_33_42, r_33_45, r_33_46, r_33_47, r_33_50, r_33_51, r_33_52, r_33_55, r_33_58, r_33_59, r_33_60, r_33_63, r_33_66, r_33_67, r_33_68, r_33_71, r_33_72, r_33_73, r_33_76, r_33_79, r_33_80, r_33_83, r_33_86, r_33_87, r_33_89, r_33_91, r_33_94, r_33_95, r_33_98, r_33_101, r_33_102, r_33_103, r_33_106, r_33_107, r_33_108, r_33_111, r_33_114, r_33_115, r_33_116, r_33_119, r_33_122, r_33_123, r_33_124, r_33_127, r_33_128, r_33_129, r_33_132, r_33_135, r_33_136, r_33_139, r_33_142, r_33_143, r_33_146, r_33_149⟩
def wj (j : Nat) : Nat := if j = 0 then 4 else if j = 3 then 19 else 5
def nj (j : Nat) : Nat := if j = 0 then 20 else if j = 3 then 152 else 30
def un (F : Nat → Nat) (j x : Nat) : Nat → Nat := fun i => if i = j then x else F i
theorem un_s (F : Nat → Nat) (j x : Nat) : un F j x j = x := by simp [un]
theorem un_n {F : Nat → Nat} {j i x : Nat} (h : i ≠ j) : un F j x i = F i := by simp [un, h]
theorem un_u (F : Nat → Nat) (j x y : Nat) : un (un F j x) j y = un F j y := by funext i; unfold un; split <;> rfl
theorem un_id (F : Nat → Nat) (j : Nat) : un F j (F j) = F := by funext i; unfold un; split <;> simp_all
def hc (u H R N : Nat) (D : Nat → Nat → Int32) (F : Nat → Nat) (f : Nat → Nat → Int32) (a : Nat) : icC :=
  if a = u then ob 2 [.ref (u + 1), .ref (u + 13 + 2 * 0), .ref (u + 13 + 2 * 1), .ref (u + 13 + 2 * 2), .ref (u + 13 + 2 * 3)] else if a = u + 1 then eo (u + 1) H R N else if a ≤ u + 12 then ai (eS (a - (u + 1))) (D (a - (u + 1))) else if (a - (u + 13)) % 2 = 0 then ob 5 [.int (nI (wj ((a - (u + 13)) / 2))), .ref (a + 1), .int (nI (F ((a - (u + 13)) / 2)))] else ai (nj ((a - (u + 13)) / 2)) (f ((a - (u + 13)) / 2))
def HH (h : icH) (u H R N : Nat) (D : Nat → Nat → Int32) (F : Nat → Nat) (f : Nat → Nat → Int32) : icH := (h.1, h.2.1, fun a => if u ≤ a ∧ a ≤ u + 20 then some (hc u H R N D F f a) else h.2.2 a)
theorem HH_o (h : icH) (u H R N : Nat) (D : Nat → Nat → Int32) (F : Nat → Nat) (f : Nat → Nat → Int32) : hg (HH h u H R N D F f) u = some (ob 2 [.ref (u + 1), .ref (u + 13 + 2 * 0), .ref (u + 13 + 2 * 1), .ref (u + 13 + 2 * 2), .ref (u + 13 + 2 * 3)]) := by
  unfold hg HH
  dsimp only
  rw [if_pos (by omega)]
  unfold hc
  rw [if_pos rfl]
theorem HH_n {h : icH} {u H R N a : Nat} {D : Nat → Nat → Int32} {F : Nat → Nat} {f : Nat → Nat → Int32} (ha : a < u ∨ u + 20 < a) : hg (HH h u H R N D F f) a = hg h a := by
  unfold hg HH
  dsimp only
  rw [if_neg (by omega)]
theorem HH_E (h : icH) (u H R N H' R' N' : Nat) (D D' : Nat → Nat → Int32) (F : Nat → Nat) (f : Nat → Nat → Int32) : HE (HH h u H R N D F f) (u + 1) H' R' N' D' = HH h u H' R' N' D' F f := by
  unfold HE HH
  dsimp only
  congr 2
  funext a
  by_cases h1 : a = u + 1
  · rw [if_pos h1, if_pos (by omega)]
    unfold hc
    rw [if_neg (by omega), if_pos h1]
  · rw [if_neg h1]
    by_cases h2 : u + 1 < a ∧ a ≤ u + 1 + 11
    · rw [if_pos h2, if_pos (by omega)]
      unfold hc
      rw [if_neg (by omega), if_neg h1, if_pos (by omega)]
    · rw [if_neg h2]
      by_cases h3 : u ≤ a ∧ a ≤ u + 20
      · rw [if_pos h3, if_pos h3]
        unfold hc
        by_cases h4 : a = u
        · rw [if_pos h4, if_pos h4]
        · rw [if_neg h4, if_neg h1, if_neg (show ¬ a ≤ u + 12 by omega), if_neg h4, if_neg h1, if_neg (show ¬ a ≤ u + 12 by omega)]
      · rw [if_neg h3, if_neg h3]
theorem HH_R {j : Nat} (hj : j < 4) (h : icH) (u H R N F' : Nat) (D : Nat → Nat → Int32) (F : Nat → Nat) (f : Nat → Nat → Int32) (f' : Nat → Int32) : HR (HH h u H R N D F f) (u + 13 + 2 * j) (wj j) (nj j) F' f' = HH h u H R N D (un F j F') (ud f j f') := by
  unfold HR HH
  dsimp only
  congr 2
  funext a
  by_cases h1 : a = u + 13 + 2 * j
  · rw [if_pos h1, if_pos (by omega)]
    unfold hc
    have e1 : (a - (u + 13)) / 2 = j := by omega
    have e2 : (a - (u + 13)) % 2 = 0 := by omega
    rw [if_neg (by omega), if_neg (by omega), if_neg (by omega), if_pos e2, e1, un_s, h1]
  · rw [if_neg h1]
    by_cases h2 : a = u + 13 + 2 * j + 1
    · rw [if_pos h2, if_pos (by omega)]
      unfold hc
      have e1 : (a - (u + 13)) / 2 = j := by omega
      have e2 : ¬ (a - (u + 13)) % 2 = 0 := by omega
      rw [if_neg (by omega), if_neg (by omega), if_neg (by omega), if_neg e2, e1, ud_s]
    · rw [if_neg h2]
      by_cases h3 : u ≤ a ∧ a ≤ u + 20
      · rw [if_pos h3, if_pos h3]
        unfold hc
        by_cases h4 : a ≤ u + 12
        · by_cases h5 : a = u
          · rw [if_pos h5, if_pos h5]
          · by_cases h6 : a = u + 1
            · rw [if_neg h5, if_neg h5, if_pos h6, if_pos h6]
            · rw [if_neg h5, if_neg h5, if_neg h6, if_neg h6, if_pos h4, if_pos h4]
        · have e1 : (a - (u + 13)) / 2 ≠ j := by omega
          rw [un_n e1, ud_n e1]
      · rw [if_neg h3, if_neg h3]
theorem HH_e (h : icH) (u H R N : Nat) (D : Nat → Nat → Int32) (F : Nat → Nat) (f : Nat → Nat → Int32) : HE (HH h u H R N D F f) (u + 1) H R N D = HH h u H R N D F f := HH_E h u H R N H R N D D F f
theorem HH_r {j : Nat} (hj : j < 4) (h : icH) (u H R N : Nat) (D : Nat → Nat → Int32) (F : Nat → Nat) (f : Nat → Nat → Int32) : HR (HH h u H R N D F f) (u + 13 + 2 * j) (wj j) (nj j) (F j) (f j) = HH h u H R N D F f := by
  rw [HH_R hj, un_id, ud_id]
theorem wj_ok {j : Nat} (hj : j < 4) : 0 < wj j ∧ wj j < 2 ^ 31 := by
  have : j = 0 ∨ j = 1 ∨ j = 2 ∨ j = 3 := by omega
  rcases this with rfl | rfl | rfl | rfl <;> decide
theorem nj_ok {j : Nat} (hj : j < 4) : nj j < 2 ^ 31 := by
  have : j = 0 ∨ j = 1 ∨ j = 2 ∨ j = 3 := by omega
  rcases this with rfl | rfl | rfl | rfl <;> decide
theorem ch_empty {j : Nat} (hj : j < 4) {F : Nat → Nat} (hF : F j ≤ nj j) (h : icH) (u H R N : Nat) (D : Nat → Nat → Int32) (f : Nat → Nat → Int32) : icE 48 0 [.ref (u + 13 + 2 * j), dum] [] (HH h u H R N D F f) = some (some (.int (nI (F j / wj j))), HH h u H R N D (un F j 0) f) := by
  have b := nj_ok hj
  have c := c_rempty (wj_ok hj) (show F j < 2 ^ 31 by omega) (HH h u H R N D F f) (u + 13 + 2 * j) (nj j) (f j)
  rwa [HH_r hj, HH_R hj, ud_id] at c
theorem ch_size {j : Nat} (hj : j < 4) {F : Nat → Nat} (hF : F j ≤ nj j) (h : icH) (u H R N : Nat) (D : Nat → Nat → Int32) (f : Nat → Nat → Int32) : icE 43 0 [.ref (u + 13 + 2 * j)] [] (HH h u H R N D F f) = some (some (.int (nI (F j / wj j))), HH h u H R N D F f) := by
  have b := nj_ok hj
  have c := c_rsize (wj_ok hj) (show F j < 2 ^ 31 by omega) (HH h u H R N D F f) (u + 13 + 2 * j) (nj j) (f j)
  rwa [HH_r hj] at c
theorem ch_full {j : Nat} (hj : j < 4) {F : Nat → Nat} (hF : F j ≤ nj j) (h : icH) (u H R N : Nat) (D : Nat → Nat → Int32) (f : Nat → Nat → Int32) : icE 44 0 [.ref (u + 13 + 2 * j)] [] (HH h u H R N D F f) = some (some (.int (if F j < nj j then nI 0 else nI 1)), HH h u H R N D F f) := by
  have b := nj_ok hj
  have c := c_rfull b (show F j < 2 ^ 31 by omega) (HH h u H R N D F f) (u + 13 + 2 * j) (wj j) (f j)
  rwa [HH_r hj] at c
theorem ch_write {j : Nat} (hj : j < 4) {F : Nat → Nat} (hF : F j < nj j) (v : Int32) (h : icH) (u H R N : Nat) (D : Nat → Nat → Int32) (f : Nat → Nat → Int32) : icE 47 0 [.ref (u + 13 + 2 * j), .int v] [] (HH h u H R N D F f) = some (none, HH h u H R N D (un F j (F j + 1)) (ud f j (upd (f j) (F j) v))) := by
  have b := nj_ok hj
  have c := c_rwrite b hF v (HH h u H R N D F f) (u + 13 + 2 * j) (wj j) (f j)
  rwa [HH_r hj, HH_R hj] at c
theorem ch_at {j r c : Nat} (hj : j < 4) {F : Nat → Nat} (hF : F j ≤ nj j) (hc : r * wj j + c < F j) (h : icH) (u H R N : Nat) (D : Nat → Nat → Int32) (f : Nat → Nat → Int32) : icE 45 0 [.ref (u + 13 + 2 * j), .int (nI r), .int (nI c), dum] [] (HH h u H R N D F f) = some (some (.int (f j (r * wj j + c))), HH h u H R N D F f) := by
  have b := nj_ok hj
  have c := c_rat b hF (show r * wj j + c < 2 ^ 31 by omega) (HH h u H R N D F f) (u + 13 + 2 * j) (f j)
  rwa [HH_r hj, if_pos hc] at c
theorem ch_last {j r : Nat} (hj : j < 4) {F : Nat → Nat} (hF : F j ≤ nj j) (hc : r * wj j + (wj j - 1) < F j) (h : icH) (u H R N : Nat) (D : Nat → Nat → Int32) (f : Nat → Nat → Int32) : icE 46 0 [.ref (u + 13 + 2 * j), .int (nI r)] [] (HH h u H R N D F f) = some (some (.int (f j (r * wj j + (wj j - 1)))), HH h u H R N D F f) := by
  have b := nj_ok hj
  have c := c_rlast b hF (wj_ok hj).1 (show r * wj j + (wj j - 1) < 2 ^ 31 by omega) (HH h u H R N D F f) (u + 13 + 2 * j) (f j)
  rwa [HH_r hj, if_pos hc] at c
theorem ch_drop1 {j : Nat} (hj : j < 4) {F : Nat → Nat} (hF : F j ≤ nj j) (hw : wj j ≤ F j) (h : icH) (u H R N : Nat) (D : Nat → Nat → Int32) (f : Nat → Nat → Int32) : icE 49 0 [.ref (u + 13 + 2 * j)] [] (HH h u H R N D F f) = some (none, HH h u H R N D (un F j (F j - wj j)) (ud f j (va_cpy (f j) (f j) (wj j) 0 (F j - wj j)))) := by
  have b := nj_ok hj
  have c := c_rdrop1 b hF hw (HH h u H R N D F f) (u + 13 + 2 * j) (f j)
  rwa [HH_r hj, HH_R hj] at c
theorem ch_dropL {j : Nat} (hj : j < 4) {F : Nat → Nat} (hF : F j ≤ nj j) (h : icH) (u H R N : Nat) (D : Nat → Nat → Int32) (f : Nat → Nat → Int32) : icE 50 0 [.ref (u + 13 + 2 * j)] [] (HH h u H R N D F f) = some (none, HH h u H R N D (un F j (F j - wj j)) f) := by
  have b := nj_ok hj
  have c := c_rdropL (n := nj j) (show F j < 2 ^ 31 by omega) (wj_ok hj).2 (HH h u H R N D F f) (u + 13 + 2 * j) (f j)
  rwa [HH_r hj, HH_R hj, ud_id] at c
theorem ch_dig {j : Nat} (hj : j < 4) {F : Nat → Nat} (hF : F j ≤ nj j) (s : Int64) (h : icH) (u H R N : Nat) (D : Nat → Nat → Int32) (f : Nat → Nat → Int32) : icE 52 0 [.ref (u + 13 + 2 * j), .long s, dum, dum, dum, dum] [] (HH h u H R N D F f) = some (some (.long (dgl (f j) s (F j))), HH h u H R N D F f) := by
  have b := nj_ok hj
  have c := c_rdig b hF s (HH h u H R N D F f) (u + 13 + 2 * j) (wj j) (f j)
  rwa [HH_r hj] at c
theorem ch_begin (w : Int32) (h : icH) (u H R N : Nat) (D : Nat → Nat → Int32) (F : Nat → Nat) (f : Nat → Nat → Int32) : icE 3 0 [.ref (u + 1), .int w] [] (HH h u H R N D F f) = some (none, HH h u 0 0 0 (ud D 1 (fil (D 1) w 0 8)) F f) := by
  have c := c_begin w (HH h u H R N D F f) (u + 1) H R N D
  rwa [HH_e, HH_E] at c
def FOK (F : Nat → Nat) : Prop := F 0 ≤ nj 0 ∧ F 1 ≤ nj 1 ∧ F 2 ≤ nj 2 ∧ F 3 ≤ nj 3
theorem c_hbegin {F : Nat → Nat} (hF : FOK F) (w : Int32) (h : icH) (u H R N : Nat) (D : Nat → Nat → Int32) (f : Nat → Nat → Int32) : icE 30 0 [.ref u, .int w] [] (HH h u H R N D F f) = some (none, HH h u 0 0 0 (ud D 1 (fil (D 1) w 0 8)) (fun i => if i < 4 then 0 else F i) f) := by
  obtain ⟨h0, h1, h2, h3⟩ := hF
  have g1 : un F 0 0 1 ≤ nj 1 := by rw [un_n (by decide)]; exact h1
  have g2 : un (un F 0 0) 1 0 2 ≤ nj 2 := by rw [un_n (by decide), un_n (by decide)]; exact h2
  have g3 : un (un (un F 0 0) 1 0) 2 0 3 ≤ nj 3 := by rw [un_n (by decide), un_n (by decide), un_n (by decide)]; exact h3
  have o1 : ∀ (h : icH) (u H R N : Nat) (D : Nat → Nat → Int32) (F : Nat → Nat) (f : Nat → Nat → Int32), hg (HH h u H R N D F f) (u + 1) = some (ob 0 [.int (nI H), .ref (u + 1 + 1), .int (nI R), .ref (u + 1 + 2), .ref (u + 1 + 3), .ref (u + 1 + 4), .ref (u + 1 + 5), .int (nI N), .ref (u + 1 + 6), .ref (u + 1 + 7), .ref (u + 1 + 8), .ref (u + 1 + 9), .ref (u + 1 + 10), .ref (u + 1 + 11)]) := by
    intro h u H R N D F f
    have c := HE_o (HH h u H R N D F f) (u + 1) H R N D
    rwa [HH_e] at c
  have o2 : ∀ (j : Nat), j < 4 → ∀ (h : icH) (u H R N : Nat) (D : Nat → Nat → Int32) (F : Nat → Nat) (f : Nat → Nat → Int32), hg (HH h u H R N D F f) (u + 13 + 2 * j) = some (ob 5 [.int (nI (wj j)), .ref (u + 13 + 2 * j + 1), .int (nI (F j))]) := by
    intro j hj h u H R N D F f
    have c := HR_o (HH h u H R N D F f) (u + 13 + 2 * j) (wj j) (nj j) (F j) (f j)
    rwa [HH_r hj] at c
  simp only [SA, rw_30, HH_o, o1, o2 0 (by decide), o2 1 (by decide), o2 2 (by decide), o2 3 (by decide), ch_begin, ch_empty (show 0 < 4 by decide) h0, ch_empty (show 1 < 4 by decide) g1, ch_empty (show 2 < 4 by decide) g2, ch_empty (show 3 < 4 by decide) g3]
  congr 3
  funext i
  unfold un
  by_cases hi : i < 4
  · rw [if_pos hi]
    have : i = 0 ∨ i = 1 ∨ i = 2 ∨ i = 3 := by omega
    rcases this with rfl | rfl | rfl | rfl <;> simp
  · rw [if_neg hi, if_neg (by omega), if_neg (by omega), if_neg (by omega), if_neg (by omega)]
