theorem ck_0 : k_0.all (chkE q_0) = true := by decide +kernel
theorem ck_1 : k_1.all (chkE q_1) = true := by decide +kernel
theorem ck_2 : k_2.all (chkE q_2) = true := by decide +kernel
theorem ck_3 : k_3.all (chkE q_3) = true := by decide +kernel
theorem ck_4 : k_4.all (chkE q_4) = true := by decide +kernel
theorem ck_5 : k_5.all (chkE q_5) = true := by decide +kernel
theorem ck_6 : k_6.all (chkE q_6) = true := by decide +kernel
theorem ck_7 : k_7.all (chkE q_7) = true := by decide +kernel
theorem ck_8 : k_8.all (chkE q_8) = true := by decide +kernel
theorem ck_9 : k_9.all (chkE q_9) = true := by decide +kernel
theorem ck_10 : k_10.all (chkE q_10) = true := by decide +kernel
theorem ck_11 : k_11.all (chkE q_11) = true := by decide +kernel
theorem ck_12 : k_12.all (chkE q_12) = true := by decide +kernel
theorem ck_13 : k_13.all (chkE q_13) = true := by decide +kernel
theorem ck_14 : k_14.all (chkE q_14) = true := by decide +kernel
theorem ck_15 : k_15.all (chkE q_15) = true := by decide +kernel
theorem ck_16 : k_16.all (chkE q_16) = true := by decide +kernel
theorem ck_17 : k_17.all (chkE q_17) = true := by decide +kernel
theorem ck_18 : k_18.all (chkE q_18) = true := by decide +kernel
theorem ck_19 : k_19.all (chkE q_19) = true := by decide +kernel
theorem ck_20 : k_20.all (chkE q_20) = true := by decide +kernel
theorem ck_21 : k_21.all (chkE q_21) = true := by decide +kernel
theorem ck_22 : k_22.all (chkE q_22) = true := by decide +kernel
theorem ck_23 : k_23.all (chkE q_23) = true := by decide +kernel
theorem ck_24 : k_24.all (chkE q_24) = true := by decide +kernel
theorem ck_25 : k_25.all (chkE q_25) = true := by decide +kernel
theorem ck_26 : k_26.all (chkE q_26) = true := by decide +kernel
theorem ck_27 : k_27.all (chkE q_27) = true := by decide +kernel
theorem ck_28 : k_28.all (chkE q_28) = true := by decide +kernel
theorem ck_29 : k_29.all (chkE q_29) = true := by decide +kernel
theorem ck_30 : k_30.all (chkE q_30) = true := by decide +kernel
theorem ck_31 : k_31.all (chkE q_31) = true := by decide +kernel
theorem ck_32 : k_32.all (chkE q_32) = true := by decide +kernel
theorem ck_33 : k_33.all (chkE q_33) = true := by decide +kernel
theorem ck_34 : k_34.all (chkE q_34) = true := by decide +kernel
theorem ck_35 : k_35.all (chkE q_35) = true := by decide +kernel
theorem ck_36 : k_36.all (chkE q_36) = true := by decide +kernel
theorem ck_37 : k_37.all (chkE q_37) = true := by decide +kernel
theorem ck_38 : k_38.all (chkE q_38) = true := by decide +kernel
theorem ck_39 : k_39.all (chkE q_39) = true := by decide +kernel
theorem ck_40 : k_40.all (chkE q_40) = true := by decide +kernel
theorem ck_41 : k_41.all (chkE q_41) = true := by decide +kernel
theorem ck_42 : k_42.all (chkE q_42) = true := by decide +kernel
theorem ck_43 : k_43.all (chkE q_43) = true := by decide +kernel
theorem ck_44 : k_44.all (chkE q_44) = true := by decide +kernel
theorem ck_45 : k_45.all (chkE q_45) = true := by decide +kernel
theorem ck_46 : k_46.all (chkE q_46) = true := by decide +kernel
theorem ck_47 : k_47.all (chkE q_47) = true := by decide +kernel
theorem ck_48 : k_48.all (chkE q_48) = true := by decide +kernel
theorem ck_49 : k_49.all (chkE q_49) = true := by decide +kernel
theorem ck_50 : k_50.all (chkE q_50) = true := by decide +kernel
theorem ck_51 : k_51.all (chkE q_51) = true := by decide +kernel
theorem ck_52 : k_52.all (chkE q_52) = true := by decide +kernel
theorem ck_53 : k_53.all (chkE q_53) = true := by decide +kernel
theorem ck_54 : k_54.all (chkE q_54) = true := by decide +kernel
theorem ck_55 : k_55.all (chkE q_55) = true := by decide +kernel
theorem mx_0 : MX q_0 := ⟨inL_in (i := mpc.getD 0 0) (by decide +kernel), inL_in (i := mpn.getD 0 0) (by decide +kernel), ⟨by decide +kernel, by decide +kernel⟩, by decide +kernel, by decide +kernel, by decide +kernel⟩
theorem mx_1 : MX q_1 := ⟨inL_in (i := mpc.getD 1 0) (by decide +kernel), inL_in (i := mpn.getD 1 0) (by decide +kernel), ⟨by decide +kernel, by decide +kernel⟩, by decide +kernel, by decide +kernel, by decide +kernel⟩
theorem mx_2 : MX q_2 := ⟨inL_in (i := mpc.getD 2 0) (by decide +kernel), inL_in (i := mpn.getD 2 0) (by decide +kernel), ⟨by decide +kernel, by decide +kernel⟩, by decide +kernel, by decide +kernel, by decide +kernel⟩
theorem mx_3 : MX q_3 := ⟨inL_in (i := mpc.getD 3 0) (by decide +kernel), inL_in (i := mpn.getD 3 0) (by decide +kernel), ⟨by decide +kernel, by decide +kernel⟩, by decide +kernel, by decide +kernel, by decide +kernel⟩
theorem mx_4 : MX q_4 := ⟨inL_in (i := mpc.getD 4 0) (by decide +kernel), inL_in (i := mpn.getD 4 0) (by decide +kernel), ⟨by decide +kernel, by decide +kernel⟩, by decide +kernel, by decide +kernel, by decide +kernel⟩
theorem mx_5 : MX q_5 := ⟨inL_in (i := mpc.getD 5 0) (by decide +kernel), inL_in (i := mpn.getD 5 0) (by decide +kernel), ⟨by decide +kernel, by decide +kernel⟩, by decide +kernel, by decide +kernel, by decide +kernel⟩
theorem mx_6 : MX q_6 := ⟨inL_in (i := mpc.getD 6 0) (by decide +kernel), inL_in (i := mpn.getD 6 0) (by decide +kernel), ⟨by decide +kernel, by decide +kernel⟩, by decide +kernel, by decide +kernel, by decide +kernel⟩
theorem mx_7 : MX q_7 := ⟨inL_in (i := mpc.getD 7 0) (by decide +kernel), inL_in (i := mpn.getD 7 0) (by decide +kernel), ⟨by decide +kernel, by decide +kernel⟩, by decide +kernel, by decide +kernel, by decide +kernel⟩
theorem mx_8 : MX q_8 := ⟨inL_in (i := mpc.getD 8 0) (by decide +kernel), inL_in (i := mpn.getD 8 0) (by decide +kernel), ⟨by decide +kernel, by decide +kernel⟩, by decide +kernel, by decide +kernel, by decide +kernel⟩
theorem mx_9 : MX q_9 := ⟨inL_in (i := mpc.getD 9 0) (by decide +kernel), inL_in (i := mpn.getD 9 0) (by decide +kernel), ⟨by decide +kernel, by decide +kernel⟩, by decide +kernel, by decide +kernel, by decide +kernel⟩
theorem mx_10 : MX q_10 := ⟨inL_in (i := mpc.getD 10 0) (by decide +kernel), inL_in (i := mpn.getD 10 0) (by decide +kernel), ⟨by decide +kernel, by decide +kernel⟩, by decide +kernel, by decide +kernel, by decide +kernel⟩
theorem mx_11 : MX q_11 := ⟨inL_in (i := mpc.getD 11 0) (by decide +kernel), inL_in (i := mpn.getD 11 0) (by decide +kernel), ⟨by decide +kernel, by decide +kernel⟩, by decide +kernel, by decide +kernel, by decide +kernel⟩
theorem mx_12 : MX q_12 := ⟨inL_in (i := mpc.getD 12 0) (by decide +kernel), inL_in (i := mpn.getD 12 0) (by decide +kernel), ⟨by decide +kernel, by decide +kernel⟩, by decide +kernel, by decide +kernel, by decide +kernel⟩
theorem mx_13 : MX q_13 := ⟨inL_in (i := mpc.getD 13 0) (by decide +kernel), inL_in (i := mpn.getD 13 0) (by decide +kernel), ⟨by decide +kernel, by decide +kernel⟩, by decide +kernel, by decide +kernel, by decide +kernel⟩
theorem mx_14 : MX q_14 := ⟨inL_in (i := mpc.getD 14 0) (by decide +kernel), inL_in (i := mpn.getD 14 0) (by decide +kernel), ⟨by decide +kernel, by decide +kernel⟩, by decide +kernel, by decide +kernel, by decide +kernel⟩
theorem mx_15 : MX q_15 := ⟨inL_in (i := mpc.getD 15 0) (by decide +kernel), inL_in (i := mpn.getD 15 0) (by decide +kernel), ⟨by decide +kernel, by decide +kernel⟩, by decide +kernel, by decide +kernel, by decide +kernel⟩
theorem mx_16 : MX q_16 := ⟨inL_in (i := mpc.getD 16 0) (by decide +kernel), inL_in (i := mpn.getD 16 0) (by decide +kernel), ⟨by decide +kernel, by decide +kernel⟩, by decide +kernel, by decide +kernel, by decide +kernel⟩
theorem mx_17 : MX q_17 := ⟨inL_in (i := mpc.getD 17 0) (by decide +kernel), inL_in (i := mpn.getD 17 0) (by decide +kernel), ⟨by decide +kernel, by decide +kernel⟩, by decide +kernel, by decide +kernel, by decide +kernel⟩
theorem mx_18 : MX q_18 := ⟨inL_in (i := mpc.getD 18 0) (by decide +kernel), inL_in (i := mpn.getD 18 0) (by decide +kernel), ⟨by decide +kernel, by decide +kernel⟩, by decide +kernel, by decide +kernel, by decide +kernel⟩
theorem mx_19 : MX q_19 := ⟨inL_in (i := mpc.getD 19 0) (by decide +kernel), inL_in (i := mpn.getD 19 0) (by decide +kernel), ⟨by decide +kernel, by decide +kernel⟩, by decide +kernel, by decide +kernel, by decide +kernel⟩
theorem mx_20 : MX q_20 := ⟨inL_in (i := mpc.getD 20 0) (by decide +kernel), inL_in (i := mpn.getD 20 0) (by decide +kernel), ⟨by decide +kernel, by decide +kernel⟩, by decide +kernel, by decide +kernel, by decide +kernel⟩
theorem mx_21 : MX q_21 := ⟨inL_in (i := mpc.getD 21 0) (by decide +kernel), inL_in (i := mpn.getD 21 0) (by decide +kernel), ⟨by decide +kernel, by decide +kernel⟩, by decide +kernel, by decide +kernel, by decide +kernel⟩
theorem mx_22 : MX q_22 := ⟨inL_in (i := mpc.getD 22 0) (by decide +kernel), inL_in (i := mpn.getD 22 0) (by decide +kernel), ⟨by decide +kernel, by decide +kernel⟩, by decide +kernel, by decide +kernel, by decide +kernel⟩
theorem mx_23 : MX q_23 := ⟨inL_in (i := mpc.getD 23 0) (by decide +kernel), inL_in (i := mpn.getD 23 0) (by decide +kernel), ⟨by decide +kernel, by decide +kernel⟩, by decide +kernel, by decide +kernel, by decide +kernel⟩
theorem mx_24 : MX q_24 := ⟨inL_in (i := mpc.getD 24 0) (by decide +kernel), inL_in (i := mpn.getD 24 0) (by decide +kernel), ⟨by decide +kernel, by decide +kernel⟩, by decide +kernel, by decide +kernel, by decide +kernel⟩
theorem mx_25 : MX q_25 := ⟨inL_in (i := mpc.getD 25 0) (by decide +kernel), inL_in (i := mpn.getD 25 0) (by decide +kernel), ⟨by decide +kernel, by decide +kernel⟩, by decide +kernel, by decide +kernel, by decide +kernel⟩
theorem mx_26 : MX q_26 := ⟨inL_in (i := mpc.getD 26 0) (by decide +kernel), inL_in (i := mpn.getD 26 0) (by decide +kernel), ⟨by decide +kernel, by decide +kernel⟩, by decide +kernel, by decide +kernel, by decide +kernel⟩
theorem mx_27 : MX q_27 := ⟨inL_in (i := mpc.getD 27 0) (by decide +kernel), inL_in (i := mpn.getD 27 0) (by decide +kernel), ⟨by decide +kernel, by decide +kernel⟩, by decide +kernel, by decide +kernel, by decide +kernel⟩
theorem mx_28 : MX q_28 := ⟨inL_in (i := mpc.getD 28 0) (by decide +kernel), inL_in (i := mpn.getD 28 0) (by decide +kernel), ⟨by decide +kernel, by decide +kernel⟩, by decide +kernel, by decide +kernel, by decide +kernel⟩
theorem mx_29 : MX q_29 := ⟨inL_in (i := mpc.getD 29 0) (by decide +kernel), inL_in (i := mpn.getD 29 0) (by decide +kernel), ⟨by decide +kernel, by decide +kernel⟩, by decide +kernel, by decide +kernel, by decide +kernel⟩
theorem mx_30 : MX q_30 := ⟨inL_in (i := mpc.getD 30 0) (by decide +kernel), inL_in (i := mpn.getD 30 0) (by decide +kernel), ⟨by decide +kernel, by decide +kernel⟩, by decide +kernel, by decide +kernel, by decide +kernel⟩
theorem mx_31 : MX q_31 := ⟨inL_in (i := mpc.getD 31 0) (by decide +kernel), inL_in (i := mpn.getD 31 0) (by decide +kernel), ⟨by decide +kernel, by decide +kernel⟩, by decide +kernel, by decide +kernel, by decide +kernel⟩
theorem mx_32 : MX q_32 := ⟨inL_in (i := mpc.getD 32 0) (by decide +kernel), inL_in (i := mpn.getD 32 0) (by decide +kernel), ⟨by decide +kernel, by decide +kernel⟩, by decide +kernel, by decide +kernel, by decide +kernel⟩
theorem mx_33 : MX q_33 := ⟨inL_in (i := mpc.getD 33 0) (by decide +kernel), inL_in (i := mpn.getD 33 0) (by decide +kernel), ⟨by decide +kernel, by decide +kernel⟩, by decide +kernel, by decide +kernel, by decide +kernel⟩
theorem mx_34 : MX q_34 := ⟨inL_in (i := mpc.getD 34 0) (by decide +kernel), inL_in (i := mpn.getD 34 0) (by decide +kernel), ⟨by decide +kernel, by decide +kernel⟩, by decide +kernel, by decide +kernel, by decide +kernel⟩
theorem mx_35 : MX q_35 := ⟨inL_in (i := mpc.getD 35 0) (by decide +kernel), inL_in (i := mpn.getD 35 0) (by decide +kernel), ⟨by decide +kernel, by decide +kernel⟩, by decide +kernel, by decide +kernel, by decide +kernel⟩
theorem mx_36 : MX q_36 := ⟨inL_in (i := mpc.getD 36 0) (by decide +kernel), inL_in (i := mpn.getD 36 0) (by decide +kernel), ⟨by decide +kernel, by decide +kernel⟩, by decide +kernel, by decide +kernel, by decide +kernel⟩
theorem mx_37 : MX q_37 := ⟨inL_in (i := mpc.getD 37 0) (by decide +kernel), inL_in (i := mpn.getD 37 0) (by decide +kernel), ⟨by decide +kernel, by decide +kernel⟩, by decide +kernel, by decide +kernel, by decide +kernel⟩
theorem mx_38 : MX q_38 := ⟨inL_in (i := mpc.getD 38 0) (by decide +kernel), inL_in (i := mpn.getD 38 0) (by decide +kernel), ⟨by decide +kernel, by decide +kernel⟩, by decide +kernel, by decide +kernel, by decide +kernel⟩
theorem mx_39 : MX q_39 := ⟨inL_in (i := mpc.getD 39 0) (by decide +kernel), inL_in (i := mpn.getD 39 0) (by decide +kernel), ⟨by decide +kernel, by decide +kernel⟩, by decide +kernel, by decide +kernel, by decide +kernel⟩
theorem mx_40 : MX q_40 := ⟨inL_in (i := mpc.getD 40 0) (by decide +kernel), inL_in (i := mpn.getD 40 0) (by decide +kernel), ⟨by decide +kernel, by decide +kernel⟩, by decide +kernel, by decide +kernel, by decide +kernel⟩
theorem mx_41 : MX q_41 := ⟨inL_in (i := mpc.getD 41 0) (by decide +kernel), inL_in (i := mpn.getD 41 0) (by decide +kernel), ⟨by decide +kernel, by decide +kernel⟩, by decide +kernel, by decide +kernel, by decide +kernel⟩
theorem mx_42 : MX q_42 := ⟨inL_in (i := mpc.getD 42 0) (by decide +kernel), inL_in (i := mpn.getD 42 0) (by decide +kernel), ⟨by decide +kernel, by decide +kernel⟩, by decide +kernel, by decide +kernel, by decide +kernel⟩
theorem mx_43 : MX q_43 := ⟨inL_in (i := mpc.getD 43 0) (by decide +kernel), inL_in (i := mpn.getD 43 0) (by decide +kernel), ⟨by decide +kernel, by decide +kernel⟩, by decide +kernel, by decide +kernel, by decide +kernel⟩
theorem mx_44 : MX q_44 := ⟨inL_in (i := mpc.getD 44 0) (by decide +kernel), inL_in (i := mpn.getD 44 0) (by decide +kernel), ⟨by decide +kernel, by decide +kernel⟩, by decide +kernel, by decide +kernel, by decide +kernel⟩
theorem mx_45 : MX q_45 := ⟨inL_in (i := mpc.getD 45 0) (by decide +kernel), inL_in (i := mpn.getD 45 0) (by decide +kernel), ⟨by decide +kernel, by decide +kernel⟩, by decide +kernel, by decide +kernel, by decide +kernel⟩
theorem mx_46 : MX q_46 := ⟨inL_in (i := mpc.getD 46 0) (by decide +kernel), inL_in (i := mpn.getD 46 0) (by decide +kernel), ⟨by decide +kernel, by decide +kernel⟩, by decide +kernel, by decide +kernel, by decide +kernel⟩
theorem mx_47 : MX q_47 := ⟨inL_in (i := mpc.getD 47 0) (by decide +kernel), inL_in (i := mpn.getD 47 0) (by decide +kernel), ⟨by decide +kernel, by decide +kernel⟩, by decide +kernel, by decide +kernel, by decide +kernel⟩
theorem mx_48 : MX q_48 := ⟨inL_in (i := mpc.getD 48 0) (by decide +kernel), inL_in (i := mpn.getD 48 0) (by decide +kernel), ⟨by decide +kernel, by decide +kernel⟩, by decide +kernel, by decide +kernel, by decide +kernel⟩
theorem mx_49 : MX q_49 := ⟨inL_in (i := mpc.getD 49 0) (by decide +kernel), inL_in (i := mpn.getD 49 0) (by decide +kernel), ⟨by decide +kernel, by decide +kernel⟩, by decide +kernel, by decide +kernel, by decide +kernel⟩
theorem mx_50 : MX q_50 := ⟨inL_in (i := mpc.getD 50 0) (by decide +kernel), inL_in (i := mpn.getD 50 0) (by decide +kernel), ⟨by decide +kernel, by decide +kernel⟩, by decide +kernel, by decide +kernel, by decide +kernel⟩
theorem mx_51 : MX q_51 := ⟨inL_in (i := mpc.getD 51 0) (by decide +kernel), inL_in (i := mpn.getD 51 0) (by decide +kernel), ⟨by decide +kernel, by decide +kernel⟩, by decide +kernel, by decide +kernel, by decide +kernel⟩
theorem mx_52 : MX q_52 := ⟨inL_in (i := mpc.getD 52 0) (by decide +kernel), inL_in (i := mpn.getD 52 0) (by decide +kernel), ⟨by decide +kernel, by decide +kernel⟩, by decide +kernel, by decide +kernel, by decide +kernel⟩
theorem mx_53 : MX q_53 := ⟨inL_in (i := mpc.getD 53 0) (by decide +kernel), inL_in (i := mpn.getD 53 0) (by decide +kernel), ⟨by decide +kernel, by decide +kernel⟩, by decide +kernel, by decide +kernel, by decide +kernel⟩
theorem mx_54 : MX q_54 := ⟨inL_in (i := mpc.getD 54 0) (by decide +kernel), inL_in (i := mpn.getD 54 0) (by decide +kernel), ⟨by decide +kernel, by decide +kernel⟩, by decide +kernel, by decide +kernel, by decide +kernel⟩
theorem mx_55 : MX q_55 := ⟨inL_in (i := mpc.getD 55 0) (by decide +kernel), inL_in (i := mpn.getD 55 0) (by decide +kernel), ⟨by decide +kernel, by decide +kernel⟩, by decide +kernel, by decide +kernel, by decide +kernel⟩
