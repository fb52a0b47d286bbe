theorem ck_56 : k_56.all (chkE q_56) = true := by decide +kernel
theorem ck_57 : k_57.all (chkE q_57) = true := by decide +kernel
theorem ck_58 : k_58.all (chkE q_58) = true := by decide +kernel
theorem ck_59 : k_59.all (chkE q_59) = true := by decide +kernel
theorem ck_60 : k_60.all (chkE q_60) = true := by decide +kernel
theorem ck_61 : k_61.all (chkE q_61) = true := by decide +kernel
theorem ck_62 : k_62.all (chkE q_62) = true := by decide +kernel
theorem ck_63 : k_63.all (chkE q_63) = true := by decide +kernel
theorem ck_64 : k_64.all (chkE q_64) = true := by decide +kernel
theorem ck_65 : k_65.all (chkE q_65) = true := by decide +kernel
theorem ck_66 : k_66.all (chkE q_66) = true := by decide +kernel
theorem ck_67 : k_67.all (chkE q_67) = true := by decide +kernel
theorem ck_68 : k_68.all (chkE q_68) = true := by decide +kernel
theorem ck_69 : k_69.all (chkE q_69) = true := by decide +kernel
theorem ck_70 : k_70.all (chkE q_70) = true := by decide +kernel
theorem ck_71 : k_71.all (chkE q_71) = true := by decide +kernel
theorem ck_72 : k_72.all (chkE q_72) = true := by decide +kernel
theorem ck_73 : k_73.all (chkE q_73) = true := by decide +kernel
theorem ck_74 : k_74.all (chkE q_74) = true := by decide +kernel
theorem ck_75 : k_75.all (chkE q_75) = true := by decide +kernel
theorem ck_76 : k_76.all (chkE q_76) = true := by decide +kernel
theorem ck_77 : k_77.all (chkE q_77) = true := by decide +kernel
theorem ck_78 : k_78.all (chkE q_78) = true := by decide +kernel
theorem ck_79 : k_79.all (chkE q_79) = true := by decide +kernel
theorem ck_80 : k_80.all (chkE q_80) = true := by decide +kernel
theorem ck_81 : k_81.all (chkE q_81) = true := by decide +kernel
theorem ck_82 : k_82.all (chkE q_82) = true := by decide +kernel
theorem ck_83 : k_83.all (chkE q_83) = true := by decide +kernel
theorem ck_84 : k_84.all (chkE q_84) = true := by decide +kernel
theorem ck_85 : k_85.all (chkE q_85) = true := by decide +kernel
theorem ck_86 : k_86.all (chkE q_86) = true := by decide +kernel
theorem ck_87 : k_87.all (chkE q_87) = true := by decide +kernel
theorem ck_88 : k_88.all (chkE q_88) = true := by decide +kernel
theorem ck_89 : k_89.all (chkE q_89) = true := by decide +kernel
theorem ck_90 : k_90.all (chkE q_90) = true := by decide +kernel
theorem ck_91 : k_91.all (chkE q_91) = true := by decide +kernel
theorem ck_92 : k_92.all (chkE q_92) = true := by decide +kernel
theorem ck_93 : k_93.all (chkE q_93) = true := by decide +kernel
theorem ck_94 : k_94.all (chkE q_94) = true := by decide +kernel
theorem ck_95 : k_95.all (chkE q_95) = true := by decide +kernel
theorem ck_96 : k_96.all (chkE q_96) = true := by decide +kernel
theorem ck_97 : k_97.all (chkE q_97) = true := by decide +kernel
theorem ck_98 : k_98.all (chkE q_98) = true := by decide +kernel
theorem mx_56 : MX q_56 := ⟨inL_in (i := mpc.getD 56 0) (by decide +kernel), inL_in (i := mpn.getD 56 0) (by decide +kernel), ⟨by decide +kernel, by decide +kernel⟩, by decide +kernel, by decide +kernel, by decide +kernel⟩
theorem mx_57 : MX q_57 := ⟨inL_in (i := mpc.getD 57 0) (by decide +kernel), inL_in (i := mpn.getD 57 0) (by decide +kernel), ⟨by decide +kernel, by decide +kernel⟩, by decide +kernel, by decide +kernel, by decide +kernel⟩
theorem mx_58 : MX q_58 := ⟨inL_in (i := mpc.getD 58 0) (by decide +kernel), inL_in (i := mpn.getD 58 0) (by decide +kernel), ⟨by decide +kernel, by decide +kernel⟩, by decide +kernel, by decide +kernel, by decide +kernel⟩
theorem mx_59 : MX q_59 := ⟨inL_in (i := mpc.getD 59 0) (by decide +kernel), inL_in (i := mpn.getD 59 0) (by decide +kernel), ⟨by decide +kernel, by decide +kernel⟩, by decide +kernel, by decide +kernel, by decide +kernel⟩
theorem mx_60 : MX q_60 := ⟨inL_in (i := mpc.getD 60 0) (by decide +kernel), inL_in (i := mpn.getD 60 0) (by decide +kernel), ⟨by decide +kernel, by decide +kernel⟩, by decide +kernel, by decide +kernel, by decide +kernel⟩
theorem mx_61 : MX q_61 := ⟨inL_in (i := mpc.getD 61 0) (by decide +kernel), inL_in (i := mpn.getD 61 0) (by decide +kernel), ⟨by decide +kernel, by decide +kernel⟩, by decide +kernel, by decide +kernel, by decide +kernel⟩
theorem mx_62 : MX q_62 := ⟨inL_in (i := mpc.getD 62 0) (by decide +kernel), inL_in (i := mpn.getD 62 0) (by decide +kernel), ⟨by decide +kernel, by decide +kernel⟩, by decide +kernel, by decide +kernel, by decide +kernel⟩
theorem mx_63 : MX q_63 := ⟨inL_in (i := mpc.getD 63 0) (by decide +kernel), inL_in (i := mpn.getD 63 0) (by decide +kernel), ⟨by decide +kernel, by decide +kernel⟩, by decide +kernel, by decide +kernel, by decide +kernel⟩
theorem mx_64 : MX q_64 := ⟨inL_in (i := mpc.getD 64 0) (by decide +kernel), inL_in (i := mpn.getD 64 0) (by decide +kernel), ⟨by decide +kernel, by decide +kernel⟩, by decide +kernel, by decide +kernel, by decide +kernel⟩
theorem mx_65 : MX q_65 := ⟨inL_in (i := mpc.getD 65 0) (by decide +kernel), inL_in (i := mpn.getD 65 0) (by decide +kernel), ⟨by decide +kernel, by decide +kernel⟩, by decide +kernel, by decide +kernel, by decide +kernel⟩
theorem mx_66 : MX q_66 := ⟨inL_in (i := mpc.getD 66 0) (by decide +kernel), inL_in (i := mpn.getD 66 0) (by decide +kernel), ⟨by decide +kernel, by decide +kernel⟩, by decide +kernel, by decide +kernel, by decide +kernel⟩
theorem mx_67 : MX q_67 := ⟨inL_in (i := mpc.getD 67 0) (by decide +kernel), inL_in (i := mpn.getD 67 0) (by decide +kernel), ⟨by decide +kernel, by decide +kernel⟩, by decide +kernel, by decide +kernel, by decide +kernel⟩
theorem mx_68 : MX q_68 := ⟨inL_in (i := mpc.getD 68 0) (by decide +kernel), inL_in (i := mpn.getD 68 0) (by decide +kernel), ⟨by decide +kernel, by decide +kernel⟩, by decide +kernel, by decide +kernel, by decide +kernel⟩
theorem mx_69 : MX q_69 := ⟨inL_in (i := mpc.getD 69 0) (by decide +kernel), inL_in (i := mpn.getD 69 0) (by decide +kernel), ⟨by decide +kernel, by decide +kernel⟩, by decide +kernel, by decide +kernel, by decide +kernel⟩
theorem mx_70 : MX q_70 := ⟨inL_in (i := mpc.getD 70 0) (by decide +kernel), inL_in (i := mpn.getD 70 0) (by decide +kernel), ⟨by decide +kernel, by decide +kernel⟩, by decide +kernel, by decide +kernel, by decide +kernel⟩
theorem mx_71 : MX q_71 := ⟨inL_in (i := mpc.getD 71 0) (by decide +kernel), inL_in (i := mpn.getD 71 0) (by decide +kernel), ⟨by decide +kernel, by decide +kernel⟩, by decide +kernel, by decide +kernel, by decide +kernel⟩
theorem mx_72 : MX q_72 := ⟨inL_in (i := mpc.getD 72 0) (by decide +kernel), inL_in (i := mpn.getD 72 0) (by decide +kernel), ⟨by decide +kernel, by decide +kernel⟩, by decide +kernel, by decide +kernel, by decide +kernel⟩
theorem mx_73 : MX q_73 := ⟨inL_in (i := mpc.getD 73 0) (by decide +kernel), inL_in (i := mpn.getD 73 0) (by decide +kernel), ⟨by decide +kernel, by decide +kernel⟩, by decide +kernel, by decide +kernel, by decide +kernel⟩
theorem mx_74 : MX q_74 := ⟨inL_in (i := mpc.getD 74 0) (by decide +kernel), inL_in (i := mpn.getD 74 0) (by decide +kernel), ⟨by decide +kernel, by decide +kernel⟩, by decide +kernel, by decide +kernel, by decide +kernel⟩
theorem mx_75 : MX q_75 := ⟨inL_in (i := mpc.getD 75 0) (by decide +kernel), inL_in (i := mpn.getD 75 0) (by decide +kernel), ⟨by decide +kernel, by decide +kernel⟩, by decide +kernel, by decide +kernel, by decide +kernel⟩
theorem mx_76 : MX q_76 := ⟨inL_in (i := mpc.getD 76 0) (by decide +kernel), inL_in (i := mpn.getD 76 0) (by decide +kernel), ⟨by decide +kernel, by decide +kernel⟩, by decide +kernel, by decide +kernel, by decide +kernel⟩
theorem mx_77 : MX q_77 := ⟨inL_in (i := mpc.getD 77 0) (by decide +kernel), inL_in (i := mpn.getD 77 0) (by decide +kernel), ⟨by decide +kernel, by decide +kernel⟩, by decide +kernel, by decide +kernel, by decide +kernel⟩
theorem mx_78 : MX q_78 := ⟨inL_in (i := mpc.getD 78 0) (by decide +kernel), inL_in (i := mpn.getD 78 0) (by decide +kernel), ⟨by decide +kernel, by decide +kernel⟩, by decide +kernel, by decide +kernel, by decide +kernel⟩
theorem mx_79 : MX q_79 := ⟨inL_in (i := mpc.getD 79 0) (by decide +kernel), inL_in (i := mpn.getD 79 0) (by decide +kernel), ⟨by decide +kernel, by decide +kernel⟩, by decide +kernel, by decide +kernel, by decide +kernel⟩
theorem mx_80 : MX q_80 := ⟨inL_in (i := mpc.getD 80 0) (by decide +kernel), inL_in (i := mpn.getD 80 0) (by decide +kernel), ⟨by decide +kernel, by decide +kernel⟩, by decide +kernel, by decide +kernel, by decide +kernel⟩
theorem mx_81 : MX q_81 := ⟨inL_in (i := mpc.getD 81 0) (by decide +kernel), inL_in (i := mpn.getD 81 0) (by decide +kernel), ⟨by decide +kernel, by decide +kernel⟩, by decide +kernel, by decide +kernel, by decide +kernel⟩
theorem mx_82 : MX q_82 := ⟨inL_in (i := mpc.getD 82 0) (by decide +kernel), inL_in (i := mpn.getD 82 0) (by decide +kernel), ⟨by decide +kernel, by decide +kernel⟩, by decide +kernel, by decide +kernel, by decide +kernel⟩
theorem mx_83 : MX q_83 := ⟨inL_in (i := mpc.getD 83 0) (by decide +kernel), inL_in (i := mpn.getD 83 0) (by decide +kernel), ⟨by decide +kernel, by decide +kernel⟩, by decide +kernel, by decide +kernel, by decide +kernel⟩
theorem mx_84 : MX q_84 := ⟨inL_in (i := mpc.getD 84 0) (by decide +kernel), inL_in (i := mpn.getD 84 0) (by decide +kernel), ⟨by decide +kernel, by decide +kernel⟩, by decide +kernel, by decide +kernel, by decide +kernel⟩
theorem mx_85 : MX q_85 := ⟨inL_in (i := mpc.getD 85 0) (by decide +kernel), inL_in (i := mpn.getD 85 0) (by decide +kernel), ⟨by decide +kernel, by decide +kernel⟩, by decide +kernel, by decide +kernel, by decide +kernel⟩
theorem mx_86 : MX q_86 := ⟨inL_in (i := mpc.getD 86 0) (by decide +kernel), inL_in (i := mpn.getD 86 0) (by decide +kernel), ⟨by decide +kernel, by decide +kernel⟩, by decide +kernel, by decide +kernel, by decide +kernel⟩
theorem mx_87 : MX q_87 := ⟨inL_in (i := mpc.getD 87 0) (by decide +kernel), inL_in (i := mpn.getD 87 0) (by decide +kernel), ⟨by decide +kernel, by decide +kernel⟩, by decide +kernel, by decide +kernel, by decide +kernel⟩
theorem mx_88 : MX q_88 := ⟨inL_in (i := mpc.getD 88 0) (by decide +kernel), inL_in (i := mpn.getD 88 0) (by decide +kernel), ⟨by decide +kernel, by decide +kernel⟩, by decide +kernel, by decide +kernel, by decide +kernel⟩
theorem mx_89 : MX q_89 := ⟨inL_in (i := mpc.getD 89 0) (by decide +kernel), inL_in (i := mpn.getD 89 0) (by decide +kernel), ⟨by decide +kernel, by decide +kernel⟩, by decide +kernel, by decide +kernel, by decide +kernel⟩
theorem mx_90 : MX q_90 := ⟨inL_in (i := mpc.getD 90 0) (by decide +kernel), inL_in (i := mpn.getD 90 0) (by decide +kernel), ⟨by decide +kernel, by decide +kernel⟩, by decide +kernel, by decide +kernel, by decide +kernel⟩
theorem mx_91 : MX q_91 := ⟨inL_in (i := mpc.getD 91 0) (by decide +kernel), inL_in (i := mpn.getD 91 0) (by decide +kernel), ⟨by decide +kernel, by decide +kernel⟩, by decide +kernel, by decide +kernel, by decide +kernel⟩
theorem mx_92 : MX q_92 := ⟨inL_in (i := mpc.getD 92 0) (by decide +kernel), inL_in (i := mpn.getD 92 0) (by decide +kernel), ⟨by decide +kernel, by decide +kernel⟩, by decide +kernel, by decide +kernel, by decide +kernel⟩
theorem mx_93 : MX q_93 := ⟨inL_in (i := mpc.getD 93 0) (by decide +kernel), inL_in (i := mpn.getD 93 0) (by decide +kernel), ⟨by decide +kernel, by decide +kernel⟩, by decide +kernel, by decide +kernel, by decide +kernel⟩
theorem mx_94 : MX q_94 := ⟨inL_in (i := mpc.getD 94 0) (by decide +kernel), inL_in (i := mpn.getD 94 0) (by decide +kernel), ⟨by decide +kernel, by decide +kernel⟩, by decide +kernel, by decide +kernel, by decide +kernel⟩
theorem mx_95 : MX q_95 := ⟨inL_in (i := mpc.getD 95 0) (by decide +kernel), inL_in (i := mpn.getD 95 0) (by decide +kernel), ⟨by decide +kernel, by decide +kernel⟩, by decide +kernel, by decide +kernel, by decide +kernel⟩
theorem mx_96 : MX q_96 := ⟨inL_in (i := mpc.getD 96 0) (by decide +kernel), inL_in (i := mpn.getD 96 0) (by decide +kernel), ⟨by decide +kernel, by decide +kernel⟩, by decide +kernel, by decide +kernel, by decide +kernel⟩
theorem mx_97 : MX q_97 := ⟨inL_in (i := mpc.getD 97 0) (by decide +kernel), inL_in (i := mpn.getD 97 0) (by decide +kernel), ⟨by decide +kernel, by decide +kernel⟩, by decide +kernel, by decide +kernel, by decide +kernel⟩
theorem mx_98 : MX q_98 := ⟨inL_in (i := mpc.getD 98 0) (by decide +kernel), inL_in (i := mpn.getD 98 0) (by decide +kernel), ⟨by decide +kernel, by decide +kernel⟩, by decide +kernel, by decide +kernel, by decide +kernel⟩
