/-! ===== the law: rows ===== -/
-- cL_law: heads [18]
theorem fe_226 (pc : Nat) : fet 226 pc = look k_226 pc := rfl
set_option maxRecDepth 20000 in
theorem r_226_0 (L S : List Value) (h : icH) : icE 226 0 L S h = exe icE 226 (e_new 7 (dfl 7) 3 L S h) := icE_eq (i := .new 7) (len := 3) (x1 := 7) (x2 := 0) (x3 := 0) (x4 := 83) ((fe_226 0).trans rfl) L S h
set_option maxRecDepth 20000 in
theorem r_226_3 (L S : List Value) (h : icH) : icE 226 3 L S h = exe icE 226 (e_dup 4 L S h) := icE_eq (i := .dup) (len := 1) (x1 := 0) (x2 := 0) (x3 := 0) (x4 := 64) ((fe_226 3).trans rfl) L S h
set_option maxRecDepth 20000 in
theorem r_226_4 (L S : List Value) (h : icH) : icE 226 4 L S h = exe icE 226 (e_ccal 69 2 0 7 L S h) := icE_eq (i := .invokespecial 9) (len := 3) (x1 := 69) (x2 := 5) (x3 := 0) (x4 := 85) ((fe_226 4).trans rfl) L S h
set_option maxRecDepth 20000 in
theorem r_226_7 (L S : List Value) (h : icH) : icE 226 7 L S h = exe icE 226 (e_astore 1 8 L S h) := icE_eq (i := .astore_n 1) (len := 1) (x1 := 0) (x2 := 0) (x3 := 0) (x4 := 64) ((fe_226 7).trans rfl) L S h
set_option maxRecDepth 20000 in
theorem r_226_8 (L S : List Value) (h : icH) : icE 226 8 L S h = exe icE 226 (e_new 8 (dfl 8) 11 L S h) := icE_eq (i := .new 10) (len := 3) (x1 := 8) (x2 := 0) (x3 := 0) (x4 := 951) ((fe_226 8).trans rfl) L S h
set_option maxRecDepth 20000 in
theorem r_226_11 (L S : List Value) (h : icH) : icE 226 11 L S h = exe icE 226 (e_dup 12 L S h) := icE_eq (i := .dup) (len := 1) (x1 := 0) (x2 := 0) (x3 := 0) (x4 := 64) ((fe_226 11).trans rfl) L S h
set_option maxRecDepth 20000 in
theorem r_226_12 (L S : List Value) (h : icH) : icE 226 12 L S h = exe icE 226 (e_ccal 135 2 0 15 L S h) := icE_eq (i := .invokespecial 12) (len := 3) (x1 := 135) (x2 := 5) (x3 := 0) (x4 := 953) ((fe_226 12).trans rfl) L S h
set_option maxRecDepth 20000 in
theorem r_226_15 (L S : List Value) (h : icH) : icE 226 15 L S h = exe icE 226 (e_astore 2 16 L S h) := icE_eq (i := .astore_n 2) (len := 1) (x1 := 0) (x2 := 0) (x3 := 0) (x4 := 64) ((fe_226 15).trans rfl) L S h
set_option maxRecDepth 20000 in
theorem r_226_16 (L S : List Value) (h : icH) : icE 226 16 L S h = icE 226 17 L (.int (nI 0) :: S) h := icE_eq (i := .iconst 0) (len := 1) (x1 := 0) (x2 := 0) (x3 := 0) (x4 := 64) ((fe_226 16).trans rfl) L S h
set_option maxRecDepth 20000 in
theorem r_226_17 (L S : List Value) (h : icH) : icE 226 17 L S h = exe icE 226 (e_istore 3 18 L S h) := icE_eq (i := .istore_n 3) (len := 1) (x1 := 0) (x2 := 0) (x3 := 0) (x4 := 64) ((fe_226 17).trans rfl) L S h
set_option maxRecDepth 20000 in
theorem rh_226_18 (L S : List Value) (h : icH) : icE 226 18 L S h = exe icE 226 (e_iload 3 19 L S h) := icE_eq (i := .iload_n 3) (len := 1) (x1 := 0) (x2 := 0) (x3 := 0) (x4 := 64) ((fe_226 18).trans rfl) L S h
set_option maxRecDepth 20000 in
theorem r_226_19 (L S : List Value) (h : icH) : icE 226 19 L S h = exe icE 226 (e_aload 0 20 L S h) := icE_eq (i := .aload_n 0) (len := 1) (x1 := 0) (x2 := 0) (x3 := 0) (x4 := 64) ((fe_226 19).trans rfl) L S h
set_option maxRecDepth 20000 in
theorem r_226_20 (L S : List Value) (h : icH) : icE 226 20 L S h = exe icE 226 (e_alen 21 L S h) := icE_eq (i := .arraylength) (len := 1) (x1 := 0) (x2 := 0) (x3 := 0) (x4 := 64) ((fe_226 20).trans rfl) L S h
set_option maxRecDepth 20000 in
theorem r_226_21 (L S : List Value) (h : icH) : icE 226 21 L S h = icE 226 23 L (.int (nI 6) :: S) h := icE_eq (i := .bipush 6) (len := 2) (x1 := 0) (x2 := 0) (x3 := 0) (x4 := 64) ((fe_226 21).trans rfl) L S h
set_option maxRecDepth 20000 in
theorem r_226_23 (L S : List Value) (h : icH) : icE 226 23 L S h = exe icE 226 (e_bin (fun x y => x - y) 24 L S h) := icE_eq (i := .isub) (len := 1) (x1 := 0) (x2 := 0) (x3 := 0) (x4 := 64) ((fe_226 23).trans rfl) L S h
set_option maxRecDepth 20000 in
theorem r_226_24 (L S : List Value) (h : icH) : icE 226 24 L S h = exe icE 226 (e_cmp .gt 1447 27 L S h) := icE_eq (i := .if_icmp .gt 1423) (len := 3) (x1 := 1447) (x2 := 0) (x3 := 0) (x4 := 64) ((fe_226 24).trans rfl) L S h
set_option maxRecDepth 20000 in
theorem r_226_27 (L S : List Value) (h : icH) : icE 226 27 L S h = exe icE 226 (e_aload 0 28 L S h) := icE_eq (i := .aload_n 0) (len := 1) (x1 := 0) (x2 := 0) (x3 := 0) (x4 := 64) ((fe_226 27).trans rfl) L S h
set_option maxRecDepth 20000 in
theorem r_226_28 (L S : List Value) (h : icH) : icE 226 28 L S h = exe icE 226 (e_iload 3 29 L S h) := icE_eq (i := .iload_n 3) (len := 1) (x1 := 0) (x2 := 0) (x3 := 0) (x4 := 64) ((fe_226 28).trans rfl) L S h
set_option maxRecDepth 20000 in
theorem r_226_29 (L S : List Value) (h : icH) : icE 226 29 L S h = exe icE 226 (e_iald 30 L S h) := icE_eq (i := .iaload) (len := 1) (x1 := 0) (x2 := 0) (x3 := 0) (x4 := 64) ((fe_226 29).trans rfl) L S h
set_option maxRecDepth 20000 in
theorem r_226_30 (L S : List Value) (h : icH) : icE 226 30 L S h = icE 226 32 L (.int (nI 63) :: S) h := icE_eq (i := .bipush 63) (len := 2) (x1 := 0) (x2 := 0) (x3 := 0) (x4 := 64) ((fe_226 30).trans rfl) L S h
set_option maxRecDepth 20000 in
theorem r_226_32 (L S : List Value) (h : icH) : icE 226 32 L S h = exe icE 226 (e_bin (fun x y => x &&& y) 33 L S h) := icE_eq (i := .iand) (len := 1) (x1 := 0) (x2 := 0) (x3 := 0) (x4 := 64) ((fe_226 32).trans rfl) L S h
set_option maxRecDepth 20000 in
theorem r_226_33 (L S : List Value) (h : icH) : icE 226 33 L S h = exe icE 226 (e_tsw 33 1408 0 42 #[187, 210, 243, 286, 349, 372, 385, 398, 421, 454, 487, 510, 523, 556, 579, 612, 635, 678, 701, 714, 737, 750, 773, 806, 839, 892, 915, 938, 1001, 1064, 1087, 1110, 1133, 1156, 1179, 1202, 1245, 1278, 1302, 1325, 1348, 1371, 1394] L S h) := icE_eq (i := .tableswitch 1408 0 42 #[187, 210, 243, 286, 349, 372, 385, 398, 421, 454, 487, 510, 523, 556, 579, 612, 635, 678, 701, 714, 737, 750, 773, 806, 839, 892, 915, 938, 1001, 1064, 1087, 1110, 1133, 1156, 1179, 1202, 1245, 1278, 1302, 1325, 1348, 1371, 1394]) (len := 187) (x1 := 33) (x2 := 0) (x3 := 0) (x4 := 64) ((fe_226 33).trans rfl) L S h
set_option maxRecDepth 20000 in
theorem r_226_220 (L S : List Value) (h : icH) : icE 226 220 L S h = exe icE 226 (e_aload 1 221 L S h) := icE_eq (i := .aload_n 1) (len := 1) (x1 := 0) (x2 := 0) (x3 := 0) (x4 := 64) ((fe_226 220).trans rfl) L S h
set_option maxRecDepth 20000 in
theorem r_226_221 (L S : List Value) (h : icH) : icE 226 221 L S h = exe icE 226 (e_aload 0 222 L S h) := icE_eq (i := .aload_n 0) (len := 1) (x1 := 0) (x2 := 0) (x3 := 0) (x4 := 64) ((fe_226 221).trans rfl) L S h
set_option maxRecDepth 20000 in
theorem r_226_222 (L S : List Value) (h : icH) : icE 226 222 L S h = exe icE 226 (e_iload 3 223 L S h) := icE_eq (i := .iload_n 3) (len := 1) (x1 := 0) (x2 := 0) (x3 := 0) (x4 := 64) ((fe_226 222).trans rfl) L S h
set_option maxRecDepth 20000 in
theorem r_226_223 (L S : List Value) (h : icH) : icE 226 223 L S h = icE 226 224 L (.int (nI 1) :: S) h := icE_eq (i := .iconst 1) (len := 1) (x1 := 0) (x2 := 0) (x3 := 0) (x4 := 64) ((fe_226 223).trans rfl) L S h
set_option maxRecDepth 20000 in
theorem r_226_224 (L S : List Value) (h : icH) : icE 226 224 L S h = exe icE 226 (e_bin (fun x y => x + y) 225 L S h) := icE_eq (i := .iadd) (len := 1) (x1 := 0) (x2 := 0) (x3 := 0) (x4 := 64) ((fe_226 224).trans rfl) L S h
set_option maxRecDepth 20000 in
theorem r_226_225 (L S : List Value) (h : icH) : icE 226 225 L S h = exe icE 226 (e_iald 226 L S h) := icE_eq (i := .iaload) (len := 1) (x1 := 0) (x2 := 0) (x3 := 0) (x4 := 64) ((fe_226 225).trans rfl) L S h
set_option maxRecDepth 20000 in
theorem r_226_226 (L S : List Value) (h : icH) : icE 226 226 L S h = exe icE 226 (e_vcal 7 70 3 1 229 L S h) := icE_eq (i := .invokevirtual 13) (len := 3) (x1 := 70) (x2 := 3) (x3 := 7) (x4 := 333) ((fe_226 226).trans rfl) L S h
set_option maxRecDepth 20000 in
theorem r_226_229 (L S : List Value) (h : icH) : icE 226 229 L S h = exe icE 226 (e_aload 2 230 L S h) := icE_eq (i := .aload_n 2) (len := 1) (x1 := 0) (x2 := 0) (x3 := 0) (x4 := 64) ((fe_226 229).trans rfl) L S h
set_option maxRecDepth 20000 in
theorem r_226_230 (L S : List Value) (h : icH) : icE 226 230 L S h = exe icE 226 (e_aload 0 231 L S h) := icE_eq (i := .aload_n 0) (len := 1) (x1 := 0) (x2 := 0) (x3 := 0) (x4 := 64) ((fe_226 230).trans rfl) L S h
set_option maxRecDepth 20000 in
theorem r_226_231 (L S : List Value) (h : icH) : icE 226 231 L S h = exe icE 226 (e_iload 3 232 L S h) := icE_eq (i := .iload_n 3) (len := 1) (x1 := 0) (x2 := 0) (x3 := 0) (x4 := 64) ((fe_226 231).trans rfl) L S h
set_option maxRecDepth 20000 in
theorem r_226_232 (L S : List Value) (h : icH) : icE 226 232 L S h = icE 226 233 L (.int (nI 1) :: S) h := icE_eq (i := .iconst 1) (len := 1) (x1 := 0) (x2 := 0) (x3 := 0) (x4 := 64) ((fe_226 232).trans rfl) L S h
set_option maxRecDepth 20000 in
theorem r_226_233 (L S : List Value) (h : icH) : icE 226 233 L S h = exe icE 226 (e_bin (fun x y => x + y) 234 L S h) := icE_eq (i := .iadd) (len := 1) (x1 := 0) (x2 := 0) (x3 := 0) (x4 := 64) ((fe_226 233).trans rfl) L S h
set_option maxRecDepth 20000 in
theorem r_226_234 (L S : List Value) (h : icH) : icE 226 234 L S h = exe icE 226 (e_iald 235 L S h) := icE_eq (i := .iaload) (len := 1) (x1 := 0) (x2 := 0) (x3 := 0) (x4 := 64) ((fe_226 234).trans rfl) L S h
set_option maxRecDepth 20000 in
theorem r_226_235 (L S : List Value) (h : icH) : icE 226 235 L S h = exe icE 226 (e_vcal 8 152 3 1 238 L S h) := icE_eq (i := .invokevirtual 17) (len := 3) (x1 := 152) (x2 := 3) (x3 := 8) (x4 := 1021) ((fe_226 235).trans rfl) L S h
set_option maxRecDepth 20000 in
theorem r_226_238 (L S : List Value) (h : icH) : icE 226 238 L S h = exe icE 226 (e_cmp .eq 1441 241 L S h) := icE_eq (i := .if_icmp .eq 1203) (len := 3) (x1 := 1441) (x2 := 0) (x3 := 0) (x4 := 64) ((fe_226 238).trans rfl) L S h
set_option maxRecDepth 20000 in
theorem r_226_241 (L S : List Value) (h : icH) : icE 226 241 L S h = icE 226 242 L (.int (nI 0) :: S) h := icE_eq (i := .iconst 0) (len := 1) (x1 := 0) (x2 := 0) (x3 := 0) (x4 := 64) ((fe_226 241).trans rfl) L S h
set_option maxRecDepth 20000 in
theorem r_226_242 (L S : List Value) (h : icH) : icE 226 242 L S h = exe icE 226 (e_iret 1 L S h) := icE_eq (i := .ireturn) (len := 1) (x1 := 1) (x2 := 0) (x3 := 0) (x4 := 64) ((fe_226 242).trans rfl) L S h
set_option maxRecDepth 20000 in
theorem r_226_243 (L S : List Value) (h : icH) : icE 226 243 L S h = exe icE 226 (e_aload 1 244 L S h) := icE_eq (i := .aload_n 1) (len := 1) (x1 := 0) (x2 := 0) (x3 := 0) (x4 := 64) ((fe_226 243).trans rfl) L S h
set_option maxRecDepth 20000 in
theorem r_226_244 (L S : List Value) (h : icH) : icE 226 244 L S h = exe icE 226 (e_aload 0 245 L S h) := icE_eq (i := .aload_n 0) (len := 1) (x1 := 0) (x2 := 0) (x3 := 0) (x4 := 64) ((fe_226 244).trans rfl) L S h
set_option maxRecDepth 20000 in
theorem r_226_245 (L S : List Value) (h : icH) : icE 226 245 L S h = exe icE 226 (e_iload 3 246 L S h) := icE_eq (i := .iload_n 3) (len := 1) (x1 := 0) (x2 := 0) (x3 := 0) (x4 := 64) ((fe_226 245).trans rfl) L S h
set_option maxRecDepth 20000 in
theorem r_226_246 (L S : List Value) (h : icH) : icE 226 246 L S h = icE 226 247 L (.int (nI 1) :: S) h := icE_eq (i := .iconst 1) (len := 1) (x1 := 0) (x2 := 0) (x3 := 0) (x4 := 64) ((fe_226 246).trans rfl) L S h
set_option maxRecDepth 20000 in
theorem r_226_247 (L S : List Value) (h : icH) : icE 226 247 L S h = exe icE 226 (e_bin (fun x y => x + y) 248 L S h) := icE_eq (i := .iadd) (len := 1) (x1 := 0) (x2 := 0) (x3 := 0) (x4 := 64) ((fe_226 247).trans rfl) L S h
set_option maxRecDepth 20000 in
theorem r_226_248 (L S : List Value) (h : icH) : icE 226 248 L S h = exe icE 226 (e_iald 249 L S h) := icE_eq (i := .iaload) (len := 1) (x1 := 0) (x2 := 0) (x3 := 0) (x4 := 64) ((fe_226 248).trans rfl) L S h
set_option maxRecDepth 20000 in
theorem r_226_249 (L S : List Value) (h : icH) : icE 226 249 L S h = exe icE 226 (e_aload 0 250 L S h) := icE_eq (i := .aload_n 0) (len := 1) (x1 := 0) (x2 := 0) (x3 := 0) (x4 := 64) ((fe_226 249).trans rfl) L S h
set_option maxRecDepth 20000 in
theorem r_226_250 (L S : List Value) (h : icH) : icE 226 250 L S h = exe icE 226 (e_iload 3 251 L S h) := icE_eq (i := .iload_n 3) (len := 1) (x1 := 0) (x2 := 0) (x3 := 0) (x4 := 64) ((fe_226 250).trans rfl) L S h
set_option maxRecDepth 20000 in
theorem r_226_251 (L S : List Value) (h : icH) : icE 226 251 L S h = icE 226 252 L (.int (nI 2) :: S) h := icE_eq (i := .iconst 2) (len := 1) (x1 := 0) (x2 := 0) (x3 := 0) (x4 := 64) ((fe_226 251).trans rfl) L S h
set_option maxRecDepth 20000 in
theorem r_226_252 (L S : List Value) (h : icH) : icE 226 252 L S h = exe icE 226 (e_bin (fun x y => x + y) 253 L S h) := icE_eq (i := .iadd) (len := 1) (x1 := 0) (x2 := 0) (x3 := 0) (x4 := 64) ((fe_226 252).trans rfl) L S h
set_option maxRecDepth 20000 in
theorem r_226_253 (L S : List Value) (h : icH) : icE 226 253 L S h = exe icE 226 (e_iald 254 L S h) := icE_eq (i := .iaload) (len := 1) (x1 := 0) (x2 := 0) (x3 := 0) (x4 := 64) ((fe_226 253).trans rfl) L S h
set_option maxRecDepth 20000 in
theorem r_226_254 (L S : List Value) (h : icH) : icE 226 254 L S h = exe icE 226 (e_vcal 7 71 3 2 257 L S h) := icE_eq (i := .invokevirtual 18) (len := 3) (x1 := 71) (x2 := 3) (x3 := 7) (x4 := 360) ((fe_226 254).trans rfl) L S h
set_option maxRecDepth 20000 in
theorem r_226_257 (L S : List Value) (h : icH) : icE 226 257 L S h = exe icE 226 (e_aload 2 258 L S h) := icE_eq (i := .aload_n 2) (len := 1) (x1 := 0) (x2 := 0) (x3 := 0) (x4 := 64) ((fe_226 257).trans rfl) L S h
set_option maxRecDepth 20000 in
theorem r_226_258 (L S : List Value) (h : icH) : icE 226 258 L S h = exe icE 226 (e_aload 0 259 L S h) := icE_eq (i := .aload_n 0) (len := 1) (x1 := 0) (x2 := 0) (x3 := 0) (x4 := 64) ((fe_226 258).trans rfl) L S h
set_option maxRecDepth 20000 in
theorem r_226_259 (L S : List Value) (h : icH) : icE 226 259 L S h = exe icE 226 (e_iload 3 260 L S h) := icE_eq (i := .iload_n 3) (len := 1) (x1 := 0) (x2 := 0) (x3 := 0) (x4 := 64) ((fe_226 259).trans rfl) L S h
set_option maxRecDepth 20000 in
theorem r_226_260 (L S : List Value) (h : icH) : icE 226 260 L S h = icE 226 261 L (.int (nI 1) :: S) h := icE_eq (i := .iconst 1) (len := 1) (x1 := 0) (x2 := 0) (x3 := 0) (x4 := 64) ((fe_226 260).trans rfl) L S h
set_option maxRecDepth 20000 in
theorem r_226_261 (L S : List Value) (h : icH) : icE 226 261 L S h = exe icE 226 (e_bin (fun x y => x + y) 262 L S h) := icE_eq (i := .iadd) (len := 1) (x1 := 0) (x2 := 0) (x3 := 0) (x4 := 64) ((fe_226 261).trans rfl) L S h
set_option maxRecDepth 20000 in
theorem r_226_262 (L S : List Value) (h : icH) : icE 226 262 L S h = exe icE 226 (e_iald 263 L S h) := icE_eq (i := .iaload) (len := 1) (x1 := 0) (x2 := 0) (x3 := 0) (x4 := 64) ((fe_226 262).trans rfl) L S h
set_option maxRecDepth 20000 in
theorem r_226_263 (L S : List Value) (h : icH) : icE 226 263 L S h = exe icE 226 (e_aload 0 264 L S h) := icE_eq (i := .aload_n 0) (len := 1) (x1 := 0) (x2 := 0) (x3 := 0) (x4 := 64) ((fe_226 263).trans rfl) L S h
set_option maxRecDepth 20000 in
theorem r_226_264 (L S : List Value) (h : icH) : icE 226 264 L S h = exe icE 226 (e_iload 3 265 L S h) := icE_eq (i := .iload_n 3) (len := 1) (x1 := 0) (x2 := 0) (x3 := 0) (x4 := 64) ((fe_226 264).trans rfl) L S h
set_option maxRecDepth 20000 in
theorem r_226_265 (L S : List Value) (h : icH) : icE 226 265 L S h = icE 226 266 L (.int (nI 2) :: S) h := icE_eq (i := .iconst 2) (len := 1) (x1 := 0) (x2 := 0) (x3 := 0) (x4 := 64) ((fe_226 265).trans rfl) L S h
set_option maxRecDepth 20000 in
theorem r_226_266 (L S : List Value) (h : icH) : icE 226 266 L S h = exe icE 226 (e_bin (fun x y => x + y) 267 L S h) := icE_eq (i := .iadd) (len := 1) (x1 := 0) (x2 := 0) (x3 := 0) (x4 := 64) ((fe_226 266).trans rfl) L S h
set_option maxRecDepth 20000 in
theorem r_226_267 (L S : List Value) (h : icH) : icE 226 267 L S h = exe icE 226 (e_iald 268 L S h) := icE_eq (i := .iaload) (len := 1) (x1 := 0) (x2 := 0) (x3 := 0) (x4 := 64) ((fe_226 267).trans rfl) L S h
set_option maxRecDepth 20000 in
theorem r_226_268 (L S : List Value) (h : icH) : icE 226 268 L S h = exe icE 226 (e_vcal 8 153 3 2 271 L S h) := icE_eq (i := .invokevirtual 22) (len := 3) (x1 := 153) (x2 := 3) (x3 := 8) (x4 := 1041) ((fe_226 268).trans rfl) L S h
set_option maxRecDepth 20000 in
theorem r_226_271 (L S : List Value) (h : icH) : icE 226 271 L S h = exe icE 226 (e_cmp .eq 1441 274 L S h) := icE_eq (i := .if_icmp .eq 1170) (len := 3) (x1 := 1441) (x2 := 0) (x3 := 0) (x4 := 64) ((fe_226 271).trans rfl) L S h
set_option maxRecDepth 20000 in
theorem r_226_274 (L S : List Value) (h : icH) : icE 226 274 L S h = icE 226 275 L (.int (nI 0) :: S) h := icE_eq (i := .iconst 0) (len := 1) (x1 := 0) (x2 := 0) (x3 := 0) (x4 := 64) ((fe_226 274).trans rfl) L S h
set_option maxRecDepth 20000 in
theorem r_226_275 (L S : List Value) (h : icH) : icE 226 275 L S h = exe icE 226 (e_iret 1 L S h) := icE_eq (i := .ireturn) (len := 1) (x1 := 1) (x2 := 0) (x3 := 0) (x4 := 64) ((fe_226 275).trans rfl) L S h
set_option maxRecDepth 20000 in
theorem r_226_276 (L S : List Value) (h : icH) : icE 226 276 L S h = exe icE 226 (e_aload 1 277 L S h) := icE_eq (i := .aload_n 1) (len := 1) (x1 := 0) (x2 := 0) (x3 := 0) (x4 := 64) ((fe_226 276).trans rfl) L S h
set_option maxRecDepth 20000 in
theorem r_226_277 (L S : List Value) (h : icH) : icE 226 277 L S h = exe icE 226 (e_aload 0 278 L S h) := icE_eq (i := .aload_n 0) (len := 1) (x1 := 0) (x2 := 0) (x3 := 0) (x4 := 64) ((fe_226 277).trans rfl) L S h
set_option maxRecDepth 20000 in
theorem r_226_278 (L S : List Value) (h : icH) : icE 226 278 L S h = exe icE 226 (e_iload 3 279 L S h) := icE_eq (i := .iload_n 3) (len := 1) (x1 := 0) (x2 := 0) (x3 := 0) (x4 := 64) ((fe_226 278).trans rfl) L S h
set_option maxRecDepth 20000 in
theorem r_226_279 (L S : List Value) (h : icH) : icE 226 279 L S h = icE 226 280 L (.int (nI 1) :: S) h := icE_eq (i := .iconst 1) (len := 1) (x1 := 0) (x2 := 0) (x3 := 0) (x4 := 64) ((fe_226 279).trans rfl) L S h
set_option maxRecDepth 20000 in
theorem r_226_280 (L S : List Value) (h : icH) : icE 226 280 L S h = exe icE 226 (e_bin (fun x y => x + y) 281 L S h) := icE_eq (i := .iadd) (len := 1) (x1 := 0) (x2 := 0) (x3 := 0) (x4 := 64) ((fe_226 280).trans rfl) L S h
set_option maxRecDepth 20000 in
theorem r_226_281 (L S : List Value) (h : icH) : icE 226 281 L S h = exe icE 226 (e_iald 282 L S h) := icE_eq (i := .iaload) (len := 1) (x1 := 0) (x2 := 0) (x3 := 0) (x4 := 64) ((fe_226 281).trans rfl) L S h
set_option maxRecDepth 20000 in
theorem r_226_282 (L S : List Value) (h : icH) : icE 226 282 L S h = exe icE 226 (e_aload 0 283 L S h) := icE_eq (i := .aload_n 0) (len := 1) (x1 := 0) (x2 := 0) (x3 := 0) (x4 := 64) ((fe_226 282).trans rfl) L S h
set_option maxRecDepth 20000 in
theorem r_226_283 (L S : List Value) (h : icH) : icE 226 283 L S h = exe icE 226 (e_iload 3 284 L S h) := icE_eq (i := .iload_n 3) (len := 1) (x1 := 0) (x2 := 0) (x3 := 0) (x4 := 64) ((fe_226 283).trans rfl) L S h
set_option maxRecDepth 20000 in
theorem r_226_284 (L S : List Value) (h : icH) : icE 226 284 L S h = icE 226 285 L (.int (nI 2) :: S) h := icE_eq (i := .iconst 2) (len := 1) (x1 := 0) (x2 := 0) (x3 := 0) (x4 := 64) ((fe_226 284).trans rfl) L S h
set_option maxRecDepth 20000 in
theorem r_226_285 (L S : List Value) (h : icH) : icE 226 285 L S h = exe icE 226 (e_bin (fun x y => x + y) 286 L S h) := icE_eq (i := .iadd) (len := 1) (x1 := 0) (x2 := 0) (x3 := 0) (x4 := 64) ((fe_226 285).trans rfl) L S h
set_option maxRecDepth 20000 in
theorem r_226_286 (L S : List Value) (h : icH) : icE 226 286 L S h = exe icE 226 (e_iald 287 L S h) := icE_eq (i := .iaload) (len := 1) (x1 := 0) (x2 := 0) (x3 := 0) (x4 := 64) ((fe_226 286).trans rfl) L S h
set_option maxRecDepth 20000 in
theorem r_226_287 (L S : List Value) (h : icH) : icE 226 287 L S h = exe icE 226 (e_aload 0 288 L S h) := icE_eq (i := .aload_n 0) (len := 1) (x1 := 0) (x2 := 0) (x3 := 0) (x4 := 64) ((fe_226 287).trans rfl) L S h
set_option maxRecDepth 20000 in
theorem r_226_288 (L S : List Value) (h : icH) : icE 226 288 L S h = exe icE 226 (e_iload 3 289 L S h) := icE_eq (i := .iload_n 3) (len := 1) (x1 := 0) (x2 := 0) (x3 := 0) (x4 := 64) ((fe_226 288).trans rfl) L S h
set_option maxRecDepth 20000 in
theorem r_226_289 (L S : List Value) (h : icH) : icE 226 289 L S h = icE 226 290 L (.int (nI 3) :: S) h := icE_eq (i := .iconst 3) (len := 1) (x1 := 0) (x2 := 0) (x3 := 0) (x4 := 64) ((fe_226 289).trans rfl) L S h
set_option maxRecDepth 20000 in
theorem r_226_290 (L S : List Value) (h : icH) : icE 226 290 L S h = exe icE 226 (e_bin (fun x y => x + y) 291 L S h) := icE_eq (i := .iadd) (len := 1) (x1 := 0) (x2 := 0) (x3 := 0) (x4 := 64) ((fe_226 290).trans rfl) L S h
set_option maxRecDepth 20000 in
theorem r_226_291 (L S : List Value) (h : icH) : icE 226 291 L S h = exe icE 226 (e_iald 292 L S h) := icE_eq (i := .iaload) (len := 1) (x1 := 0) (x2 := 0) (x3 := 0) (x4 := 64) ((fe_226 291).trans rfl) L S h
set_option maxRecDepth 20000 in
theorem r_226_292 (L S : List Value) (h : icH) : icE 226 292 L S h = exe icE 226 (e_vcal 7 72 4 3 295 L S h) := icE_eq (i := .invokevirtual 23) (len := 3) (x1 := 72) (x2 := 3) (x3 := 7) (x4 := 365) ((fe_226 292).trans rfl) L S h
set_option maxRecDepth 20000 in
theorem r_226_295 (L S : List Value) (h : icH) : icE 226 295 L S h = exe icE 226 (e_aload 2 296 L S h) := icE_eq (i := .aload_n 2) (len := 1) (x1 := 0) (x2 := 0) (x3 := 0) (x4 := 64) ((fe_226 295).trans rfl) L S h
set_option maxRecDepth 20000 in
theorem r_226_296 (L S : List Value) (h : icH) : icE 226 296 L S h = exe icE 226 (e_aload 0 297 L S h) := icE_eq (i := .aload_n 0) (len := 1) (x1 := 0) (x2 := 0) (x3 := 0) (x4 := 64) ((fe_226 296).trans rfl) L S h
set_option maxRecDepth 20000 in
theorem r_226_297 (L S : List Value) (h : icH) : icE 226 297 L S h = exe icE 226 (e_iload 3 298 L S h) := icE_eq (i := .iload_n 3) (len := 1) (x1 := 0) (x2 := 0) (x3 := 0) (x4 := 64) ((fe_226 297).trans rfl) L S h
set_option maxRecDepth 20000 in
theorem r_226_298 (L S : List Value) (h : icH) : icE 226 298 L S h = icE 226 299 L (.int (nI 1) :: S) h := icE_eq (i := .iconst 1) (len := 1) (x1 := 0) (x2 := 0) (x3 := 0) (x4 := 64) ((fe_226 298).trans rfl) L S h
set_option maxRecDepth 20000 in
theorem r_226_299 (L S : List Value) (h : icH) : icE 226 299 L S h = exe icE 226 (e_bin (fun x y => x + y) 300 L S h) := icE_eq (i := .iadd) (len := 1) (x1 := 0) (x2 := 0) (x3 := 0) (x4 := 64) ((fe_226 299).trans rfl) L S h
set_option maxRecDepth 20000 in
theorem r_226_300 (L S : List Value) (h : icH) : icE 226 300 L S h = exe icE 226 (e_iald 301 L S h) := icE_eq (i := .iaload) (len := 1) (x1 := 0) (x2 := 0) (x3 := 0) (x4 := 64) ((fe_226 300).trans rfl) L S h
set_option maxRecDepth 20000 in
theorem r_226_301 (L S : List Value) (h : icH) : icE 226 301 L S h = exe icE 226 (e_aload 0 302 L S h) := icE_eq (i := .aload_n 0) (len := 1) (x1 := 0) (x2 := 0) (x3 := 0) (x4 := 64) ((fe_226 301).trans rfl) L S h
set_option maxRecDepth 20000 in
theorem r_226_302 (L S : List Value) (h : icH) : icE 226 302 L S h = exe icE 226 (e_iload 3 303 L S h) := icE_eq (i := .iload_n 3) (len := 1) (x1 := 0) (x2 := 0) (x3 := 0) (x4 := 64) ((fe_226 302).trans rfl) L S h
set_option maxRecDepth 20000 in
theorem r_226_303 (L S : List Value) (h : icH) : icE 226 303 L S h = icE 226 304 L (.int (nI 2) :: S) h := icE_eq (i := .iconst 2) (len := 1) (x1 := 0) (x2 := 0) (x3 := 0) (x4 := 64) ((fe_226 303).trans rfl) L S h
set_option maxRecDepth 20000 in
theorem r_226_304 (L S : List Value) (h : icH) : icE 226 304 L S h = exe icE 226 (e_bin (fun x y => x + y) 305 L S h) := icE_eq (i := .iadd) (len := 1) (x1 := 0) (x2 := 0) (x3 := 0) (x4 := 64) ((fe_226 304).trans rfl) L S h
set_option maxRecDepth 20000 in
theorem r_226_305 (L S : List Value) (h : icH) : icE 226 305 L S h = exe icE 226 (e_iald 306 L S h) := icE_eq (i := .iaload) (len := 1) (x1 := 0) (x2 := 0) (x3 := 0) (x4 := 64) ((fe_226 305).trans rfl) L S h
set_option maxRecDepth 20000 in
theorem r_226_306 (L S : List Value) (h : icH) : icE 226 306 L S h = exe icE 226 (e_aload 0 307 L S h) := icE_eq (i := .aload_n 0) (len := 1) (x1 := 0) (x2 := 0) (x3 := 0) (x4 := 64) ((fe_226 306).trans rfl) L S h
set_option maxRecDepth 20000 in
theorem r_226_307 (L S : List Value) (h : icH) : icE 226 307 L S h = exe icE 226 (e_iload 3 308 L S h) := icE_eq (i := .iload_n 3) (len := 1) (x1 := 0) (x2 := 0) (x3 := 0) (x4 := 64) ((fe_226 307).trans rfl) L S h
set_option maxRecDepth 20000 in
theorem r_226_308 (L S : List Value) (h : icH) : icE 226 308 L S h = icE 226 309 L (.int (nI 3) :: S) h := icE_eq (i := .iconst 3) (len := 1) (x1 := 0) (x2 := 0) (x3 := 0) (x4 := 64) ((fe_226 308).trans rfl) L S h
set_option maxRecDepth 20000 in
theorem r_226_309 (L S : List Value) (h : icH) : icE 226 309 L S h = exe icE 226 (e_bin (fun x y => x + y) 310 L S h) := icE_eq (i := .iadd) (len := 1) (x1 := 0) (x2 := 0) (x3 := 0) (x4 := 64) ((fe_226 309).trans rfl) L S h
set_option maxRecDepth 20000 in
theorem r_226_310 (L S : List Value) (h : icH) : icE 226 310 L S h = exe icE 226 (e_iald 311 L S h) := icE_eq (i := .iaload) (len := 1) (x1 := 0) (x2 := 0) (x3 := 0) (x4 := 64) ((fe_226 310).trans rfl) L S h
set_option maxRecDepth 20000 in
theorem r_226_311 (L S : List Value) (h : icH) : icE 226 311 L S h = exe icE 226 (e_vcal 8 155 4 3 314 L S h) := icE_eq (i := .invokevirtual 27) (len := 3) (x1 := 155) (x2 := 3) (x3 := 8) (x4 := 1046) ((fe_226 311).trans rfl) L S h
set_option maxRecDepth 20000 in
theorem r_226_314 (L S : List Value) (h : icH) : icE 226 314 L S h = exe icE 226 (e_cmp .eq 1441 317 L S h) := icE_eq (i := .if_icmp .eq 1127) (len := 3) (x1 := 1441) (x2 := 0) (x3 := 0) (x4 := 64) ((fe_226 314).trans rfl) L S h
set_option maxRecDepth 20000 in
theorem r_226_317 (L S : List Value) (h : icH) : icE 226 317 L S h = icE 226 318 L (.int (nI 0) :: S) h := icE_eq (i := .iconst 0) (len := 1) (x1 := 0) (x2 := 0) (x3 := 0) (x4 := 64) ((fe_226 317).trans rfl) L S h
set_option maxRecDepth 20000 in
theorem r_226_318 (L S : List Value) (h : icH) : icE 226 318 L S h = exe icE 226 (e_iret 1 L S h) := icE_eq (i := .ireturn) (len := 1) (x1 := 1) (x2 := 0) (x3 := 0) (x4 := 64) ((fe_226 318).trans rfl) L S h
set_option maxRecDepth 20000 in
theorem r_226_319 (L S : List Value) (h : icH) : icE 226 319 L S h = exe icE 226 (e_aload 1 320 L S h) := icE_eq (i := .aload_n 1) (len := 1) (x1 := 0) (x2 := 0) (x3 := 0) (x4 := 64) ((fe_226 319).trans rfl) L S h
set_option maxRecDepth 20000 in
theorem r_226_320 (L S : List Value) (h : icH) : icE 226 320 L S h = exe icE 226 (e_aload 0 321 L S h) := icE_eq (i := .aload_n 0) (len := 1) (x1 := 0) (x2 := 0) (x3 := 0) (x4 := 64) ((fe_226 320).trans rfl) L S h
set_option maxRecDepth 20000 in
theorem r_226_321 (L S : List Value) (h : icH) : icE 226 321 L S h = exe icE 226 (e_iload 3 322 L S h) := icE_eq (i := .iload_n 3) (len := 1) (x1 := 0) (x2 := 0) (x3 := 0) (x4 := 64) ((fe_226 321).trans rfl) L S h
set_option maxRecDepth 20000 in
theorem r_226_322 (L S : List Value) (h : icH) : icE 226 322 L S h = icE 226 323 L (.int (nI 1) :: S) h := icE_eq (i := .iconst 1) (len := 1) (x1 := 0) (x2 := 0) (x3 := 0) (x4 := 64) ((fe_226 322).trans rfl) L S h
set_option maxRecDepth 20000 in
theorem r_226_323 (L S : List Value) (h : icH) : icE 226 323 L S h = exe icE 226 (e_bin (fun x y => x + y) 324 L S h) := icE_eq (i := .iadd) (len := 1) (x1 := 0) (x2 := 0) (x3 := 0) (x4 := 64) ((fe_226 323).trans rfl) L S h
set_option maxRecDepth 20000 in
theorem r_226_324 (L S : List Value) (h : icH) : icE 226 324 L S h = exe icE 226 (e_iald 325 L S h) := icE_eq (i := .iaload) (len := 1) (x1 := 0) (x2 := 0) (x3 := 0) (x4 := 64) ((fe_226 324).trans rfl) L S h
set_option maxRecDepth 20000 in
theorem r_226_325 (L S : List Value) (h : icH) : icE 226 325 L S h = exe icE 226 (e_aload 0 326 L S h) := icE_eq (i := .aload_n 0) (len := 1) (x1 := 0) (x2 := 0) (x3 := 0) (x4 := 64) ((fe_226 325).trans rfl) L S h
set_option maxRecDepth 20000 in
theorem r_226_326 (L S : List Value) (h : icH) : icE 226 326 L S h = exe icE 226 (e_iload 3 327 L S h) := icE_eq (i := .iload_n 3) (len := 1) (x1 := 0) (x2 := 0) (x3 := 0) (x4 := 64) ((fe_226 326).trans rfl) L S h
set_option maxRecDepth 20000 in
theorem r_226_327 (L S : List Value) (h : icH) : icE 226 327 L S h = icE 226 328 L (.int (nI 2) :: S) h := icE_eq (i := .iconst 2) (len := 1) (x1 := 0) (x2 := 0) (x3 := 0) (x4 := 64) ((fe_226 327).trans rfl) L S h
set_option maxRecDepth 20000 in
theorem r_226_328 (L S : List Value) (h : icH) : icE 226 328 L S h = exe icE 226 (e_bin (fun x y => x + y) 329 L S h) := icE_eq (i := .iadd) (len := 1) (x1 := 0) (x2 := 0) (x3 := 0) (x4 := 64) ((fe_226 328).trans rfl) L S h
set_option maxRecDepth 20000 in
theorem r_226_329 (L S : List Value) (h : icH) : icE 226 329 L S h = exe icE 226 (e_iald 330 L S h) := icE_eq (i := .iaload) (len := 1) (x1 := 0) (x2 := 0) (x3 := 0) (x4 := 64) ((fe_226 329).trans rfl) L S h
set_option maxRecDepth 20000 in
theorem r_226_330 (L S : List Value) (h : icH) : icE 226 330 L S h = exe icE 226 (e_aload 0 331 L S h) := icE_eq (i := .aload_n 0) (len := 1) (x1 := 0) (x2 := 0) (x3 := 0) (x4 := 64) ((fe_226 330).trans rfl) L S h
set_option maxRecDepth 20000 in
theorem r_226_331 (L S : List Value) (h : icH) : icE 226 331 L S h = exe icE 226 (e_iload 3 332 L S h) := icE_eq (i := .iload_n 3) (len := 1) (x1 := 0) (x2 := 0) (x3 := 0) (x4 := 64) ((fe_226 331).trans rfl) L S h
set_option maxRecDepth 20000 in
theorem r_226_332 (L S : List Value) (h : icH) : icE 226 332 L S h = icE 226 333 L (.int (nI 3) :: S) h := icE_eq (i := .iconst 3) (len := 1) (x1 := 0) (x2 := 0) (x3 := 0) (x4 := 64) ((fe_226 332).trans rfl) L S h
set_option maxRecDepth 20000 in
theorem r_226_333 (L S : List Value) (h : icH) : icE 226 333 L S h = exe icE 226 (e_bin (fun x y => x + y) 334 L S h) := icE_eq (i := .iadd) (len := 1) (x1 := 0) (x2 := 0) (x3 := 0) (x4 := 64) ((fe_226 333).trans rfl) L S h
set_option maxRecDepth 20000 in
theorem r_226_334 (L S : List Value) (h : icH) : icE 226 334 L S h = exe icE 226 (e_iald 335 L S h) := icE_eq (i := .iaload) (len := 1) (x1 := 0) (x2 := 0) (x3 := 0) (x4 := 64) ((fe_226 334).trans rfl) L S h
set_option maxRecDepth 20000 in
theorem r_226_335 (L S : List Value) (h : icH) : icE 226 335 L S h = exe icE 226 (e_aload 0 336 L S h) := icE_eq (i := .aload_n 0) (len := 1) (x1 := 0) (x2 := 0) (x3 := 0) (x4 := 64) ((fe_226 335).trans rfl) L S h
set_option maxRecDepth 20000 in
theorem r_226_336 (L S : List Value) (h : icH) : icE 226 336 L S h = exe icE 226 (e_iload 3 337 L S h) := icE_eq (i := .iload_n 3) (len := 1) (x1 := 0) (x2 := 0) (x3 := 0) (x4 := 64) ((fe_226 336).trans rfl) L S h
set_option maxRecDepth 20000 in
theorem r_226_337 (L S : List Value) (h : icH) : icE 226 337 L S h = icE 226 338 L (.int (nI 4) :: S) h := icE_eq (i := .iconst 4) (len := 1) (x1 := 0) (x2 := 0) (x3 := 0) (x4 := 64) ((fe_226 337).trans rfl) L S h
set_option maxRecDepth 20000 in
theorem r_226_338 (L S : List Value) (h : icH) : icE 226 338 L S h = exe icE 226 (e_bin (fun x y => x + y) 339 L S h) := icE_eq (i := .iadd) (len := 1) (x1 := 0) (x2 := 0) (x3 := 0) (x4 := 64) ((fe_226 338).trans rfl) L S h
set_option maxRecDepth 20000 in
theorem r_226_339 (L S : List Value) (h : icH) : icE 226 339 L S h = exe icE 226 (e_iald 340 L S h) := icE_eq (i := .iaload) (len := 1) (x1 := 0) (x2 := 0) (x3 := 0) (x4 := 64) ((fe_226 339).trans rfl) L S h
set_option maxRecDepth 20000 in
theorem r_226_340 (L S : List Value) (h : icH) : icE 226 340 L S h = exe icE 226 (e_aload 0 341 L S h) := icE_eq (i := .aload_n 0) (len := 1) (x1 := 0) (x2 := 0) (x3 := 0) (x4 := 64) ((fe_226 340).trans rfl) L S h
set_option maxRecDepth 20000 in
theorem r_226_341 (L S : List Value) (h : icH) : icE 226 341 L S h = exe icE 226 (e_iload 3 342 L S h) := icE_eq (i := .iload_n 3) (len := 1) (x1 := 0) (x2 := 0) (x3 := 0) (x4 := 64) ((fe_226 341).trans rfl) L S h
set_option maxRecDepth 20000 in
theorem r_226_342 (L S : List Value) (h : icH) : icE 226 342 L S h = icE 226 343 L (.int (nI 5) :: S) h := icE_eq (i := .iconst 5) (len := 1) (x1 := 0) (x2 := 0) (x3 := 0) (x4 := 64) ((fe_226 342).trans rfl) L S h
set_option maxRecDepth 20000 in
theorem r_226_343 (L S : List Value) (h : icH) : icE 226 343 L S h = exe icE 226 (e_bin (fun x y => x + y) 344 L S h) := icE_eq (i := .iadd) (len := 1) (x1 := 0) (x2 := 0) (x3 := 0) (x4 := 64) ((fe_226 343).trans rfl) L S h
set_option maxRecDepth 20000 in
theorem r_226_344 (L S : List Value) (h : icH) : icE 226 344 L S h = exe icE 226 (e_iald 345 L S h) := icE_eq (i := .iaload) (len := 1) (x1 := 0) (x2 := 0) (x3 := 0) (x4 := 64) ((fe_226 344).trans rfl) L S h
set_option maxRecDepth 20000 in
theorem r_226_345 (L S : List Value) (h : icH) : icE 226 345 L S h = exe icE 226 (e_vcal 7 73 6 5 348 L S h) := icE_eq (i := .invokevirtual 28) (len := 3) (x1 := 73) (x2 := 3) (x3 := 7) (x4 := 380) ((fe_226 345).trans rfl) L S h
set_option maxRecDepth 20000 in
theorem r_226_348 (L S : List Value) (h : icH) : icE 226 348 L S h = exe icE 226 (e_aload 2 349 L S h) := icE_eq (i := .aload_n 2) (len := 1) (x1 := 0) (x2 := 0) (x3 := 0) (x4 := 64) ((fe_226 348).trans rfl) L S h
set_option maxRecDepth 20000 in
theorem r_226_349 (L S : List Value) (h : icH) : icE 226 349 L S h = exe icE 226 (e_aload 0 350 L S h) := icE_eq (i := .aload_n 0) (len := 1) (x1 := 0) (x2 := 0) (x3 := 0) (x4 := 64) ((fe_226 349).trans rfl) L S h
set_option maxRecDepth 20000 in
theorem r_226_350 (L S : List Value) (h : icH) : icE 226 350 L S h = exe icE 226 (e_iload 3 351 L S h) := icE_eq (i := .iload_n 3) (len := 1) (x1 := 0) (x2 := 0) (x3 := 0) (x4 := 64) ((fe_226 350).trans rfl) L S h
set_option maxRecDepth 20000 in
theorem r_226_351 (L S : List Value) (h : icH) : icE 226 351 L S h = icE 226 352 L (.int (nI 1) :: S) h := icE_eq (i := .iconst 1) (len := 1) (x1 := 0) (x2 := 0) (x3 := 0) (x4 := 64) ((fe_226 351).trans rfl) L S h
set_option maxRecDepth 20000 in
theorem r_226_352 (L S : List Value) (h : icH) : icE 226 352 L S h = exe icE 226 (e_bin (fun x y => x + y) 353 L S h) := icE_eq (i := .iadd) (len := 1) (x1 := 0) (x2 := 0) (x3 := 0) (x4 := 64) ((fe_226 352).trans rfl) L S h
set_option maxRecDepth 20000 in
theorem r_226_353 (L S : List Value) (h : icH) : icE 226 353 L S h = exe icE 226 (e_iald 354 L S h) := icE_eq (i := .iaload) (len := 1) (x1 := 0) (x2 := 0) (x3 := 0) (x4 := 64) ((fe_226 353).trans rfl) L S h
set_option maxRecDepth 20000 in
theorem r_226_354 (L S : List Value) (h : icH) : icE 226 354 L S h = exe icE 226 (e_aload 0 355 L S h) := icE_eq (i := .aload_n 0) (len := 1) (x1 := 0) (x2 := 0) (x3 := 0) (x4 := 64) ((fe_226 354).trans rfl) L S h
set_option maxRecDepth 20000 in
theorem r_226_355 (L S : List Value) (h : icH) : icE 226 355 L S h = exe icE 226 (e_iload 3 356 L S h) := icE_eq (i := .iload_n 3) (len := 1) (x1 := 0) (x2 := 0) (x3 := 0) (x4 := 64) ((fe_226 355).trans rfl) L S h
set_option maxRecDepth 20000 in
theorem r_226_356 (L S : List Value) (h : icH) : icE 226 356 L S h = icE 226 357 L (.int (nI 2) :: S) h := icE_eq (i := .iconst 2) (len := 1) (x1 := 0) (x2 := 0) (x3 := 0) (x4 := 64) ((fe_226 356).trans rfl) L S h
set_option maxRecDepth 20000 in
theorem r_226_357 (L S : List Value) (h : icH) : icE 226 357 L S h = exe icE 226 (e_bin (fun x y => x + y) 358 L S h) := icE_eq (i := .iadd) (len := 1) (x1 := 0) (x2 := 0) (x3 := 0) (x4 := 64) ((fe_226 357).trans rfl) L S h
set_option maxRecDepth 20000 in
theorem r_226_358 (L S : List Value) (h : icH) : icE 226 358 L S h = exe icE 226 (e_iald 359 L S h) := icE_eq (i := .iaload) (len := 1) (x1 := 0) (x2 := 0) (x3 := 0) (x4 := 64) ((fe_226 358).trans rfl) L S h
set_option maxRecDepth 20000 in
theorem r_226_359 (L S : List Value) (h : icH) : icE 226 359 L S h = exe icE 226 (e_aload 0 360 L S h) := icE_eq (i := .aload_n 0) (len := 1) (x1 := 0) (x2 := 0) (x3 := 0) (x4 := 64) ((fe_226 359).trans rfl) L S h
set_option maxRecDepth 20000 in
theorem r_226_360 (L S : List Value) (h : icH) : icE 226 360 L S h = exe icE 226 (e_iload 3 361 L S h) := icE_eq (i := .iload_n 3) (len := 1) (x1 := 0) (x2 := 0) (x3 := 0) (x4 := 64) ((fe_226 360).trans rfl) L S h
set_option maxRecDepth 20000 in
theorem r_226_361 (L S : List Value) (h : icH) : icE 226 361 L S h = icE 226 362 L (.int (nI 3) :: S) h := icE_eq (i := .iconst 3) (len := 1) (x1 := 0) (x2 := 0) (x3 := 0) (x4 := 64) ((fe_226 361).trans rfl) L S h
set_option maxRecDepth 20000 in
theorem r_226_362 (L S : List Value) (h : icH) : icE 226 362 L S h = exe icE 226 (e_bin (fun x y => x + y) 363 L S h) := icE_eq (i := .iadd) (len := 1) (x1 := 0) (x2 := 0) (x3 := 0) (x4 := 64) ((fe_226 362).trans rfl) L S h
set_option maxRecDepth 20000 in
theorem r_226_363 (L S : List Value) (h : icH) : icE 226 363 L S h = exe icE 226 (e_iald 364 L S h) := icE_eq (i := .iaload) (len := 1) (x1 := 0) (x2 := 0) (x3 := 0) (x4 := 64) ((fe_226 363).trans rfl) L S h
set_option maxRecDepth 20000 in
theorem r_226_364 (L S : List Value) (h : icH) : icE 226 364 L S h = exe icE 226 (e_aload 0 365 L S h) := icE_eq (i := .aload_n 0) (len := 1) (x1 := 0) (x2 := 0) (x3 := 0) (x4 := 64) ((fe_226 364).trans rfl) L S h
set_option maxRecDepth 20000 in
theorem r_226_365 (L S : List Value) (h : icH) : icE 226 365 L S h = exe icE 226 (e_iload 3 366 L S h) := icE_eq (i := .iload_n 3) (len := 1) (x1 := 0) (x2 := 0) (x3 := 0) (x4 := 64) ((fe_226 365).trans rfl) L S h
set_option maxRecDepth 20000 in
theorem r_226_366 (L S : List Value) (h : icH) : icE 226 366 L S h = icE 226 367 L (.int (nI 4) :: S) h := icE_eq (i := .iconst 4) (len := 1) (x1 := 0) (x2 := 0) (x3 := 0) (x4 := 64) ((fe_226 366).trans rfl) L S h
set_option maxRecDepth 20000 in
theorem r_226_367 (L S : List Value) (h : icH) : icE 226 367 L S h = exe icE 226 (e_bin (fun x y => x + y) 368 L S h) := icE_eq (i := .iadd) (len := 1) (x1 := 0) (x2 := 0) (x3 := 0) (x4 := 64) ((fe_226 367).trans rfl) L S h
set_option maxRecDepth 20000 in
theorem r_226_368 (L S : List Value) (h : icH) : icE 226 368 L S h = exe icE 226 (e_iald 369 L S h) := icE_eq (i := .iaload) (len := 1) (x1 := 0) (x2 := 0) (x3 := 0) (x4 := 64) ((fe_226 368).trans rfl) L S h
set_option maxRecDepth 20000 in
theorem r_226_369 (L S : List Value) (h : icH) : icE 226 369 L S h = exe icE 226 (e_aload 0 370 L S h) := icE_eq (i := .aload_n 0) (len := 1) (x1 := 0) (x2 := 0) (x3 := 0) (x4 := 64) ((fe_226 369).trans rfl) L S h
set_option maxRecDepth 20000 in
theorem r_226_370 (L S : List Value) (h : icH) : icE 226 370 L S h = exe icE 226 (e_iload 3 371 L S h) := icE_eq (i := .iload_n 3) (len := 1) (x1 := 0) (x2 := 0) (x3 := 0) (x4 := 64) ((fe_226 370).trans rfl) L S h
set_option maxRecDepth 20000 in
theorem r_226_371 (L S : List Value) (h : icH) : icE 226 371 L S h = icE 226 372 L (.int (nI 5) :: S) h := icE_eq (i := .iconst 5) (len := 1) (x1 := 0) (x2 := 0) (x3 := 0) (x4 := 64) ((fe_226 371).trans rfl) L S h
set_option maxRecDepth 20000 in
theorem r_226_372 (L S : List Value) (h : icH) : icE 226 372 L S h = exe icE 226 (e_bin (fun x y => x + y) 373 L S h) := icE_eq (i := .iadd) (len := 1) (x1 := 0) (x2 := 0) (x3 := 0) (x4 := 64) ((fe_226 372).trans rfl) L S h
set_option maxRecDepth 20000 in
theorem r_226_373 (L S : List Value) (h : icH) : icE 226 373 L S h = exe icE 226 (e_iald 374 L S h) := icE_eq (i := .iaload) (len := 1) (x1 := 0) (x2 := 0) (x3 := 0) (x4 := 64) ((fe_226 373).trans rfl) L S h
set_option maxRecDepth 20000 in
theorem r_226_374 (L S : List Value) (h : icH) : icE 226 374 L S h = exe icE 226 (e_vcal 8 157 6 5 377 L S h) := icE_eq (i := .invokevirtual 32) (len := 3) (x1 := 157) (x2 := 3) (x3 := 8) (x4 := 1060) ((fe_226 374).trans rfl) L S h
set_option maxRecDepth 20000 in
theorem r_226_377 (L S : List Value) (h : icH) : icE 226 377 L S h = exe icE 226 (e_cmp .eq 1441 380 L S h) := icE_eq (i := .if_icmp .eq 1064) (len := 3) (x1 := 1441) (x2 := 0) (x3 := 0) (x4 := 64) ((fe_226 377).trans rfl) L S h
set_option maxRecDepth 20000 in
theorem r_226_380 (L S : List Value) (h : icH) : icE 226 380 L S h = icE 226 381 L (.int (nI 0) :: S) h := icE_eq (i := .iconst 0) (len := 1) (x1 := 0) (x2 := 0) (x3 := 0) (x4 := 64) ((fe_226 380).trans rfl) L S h
set_option maxRecDepth 20000 in
theorem r_226_381 (L S : List Value) (h : icH) : icE 226 381 L S h = exe icE 226 (e_iret 1 L S h) := icE_eq (i := .ireturn) (len := 1) (x1 := 1) (x2 := 0) (x3 := 0) (x4 := 64) ((fe_226 381).trans rfl) L S h
set_option maxRecDepth 20000 in
theorem r_226_382 (L S : List Value) (h : icH) : icE 226 382 L S h = exe icE 226 (e_aload 1 383 L S h) := icE_eq (i := .aload_n 1) (len := 1) (x1 := 0) (x2 := 0) (x3 := 0) (x4 := 64) ((fe_226 382).trans rfl) L S h
set_option maxRecDepth 20000 in
theorem r_226_383 (L S : List Value) (h : icH) : icE 226 383 L S h = exe icE 226 (e_aload 0 384 L S h) := icE_eq (i := .aload_n 0) (len := 1) (x1 := 0) (x2 := 0) (x3 := 0) (x4 := 64) ((fe_226 383).trans rfl) L S h
set_option maxRecDepth 20000 in
theorem r_226_384 (L S : List Value) (h : icH) : icE 226 384 L S h = exe icE 226 (e_iload 3 385 L S h) := icE_eq (i := .iload_n 3) (len := 1) (x1 := 0) (x2 := 0) (x3 := 0) (x4 := 64) ((fe_226 384).trans rfl) L S h
set_option maxRecDepth 20000 in
theorem r_226_385 (L S : List Value) (h : icH) : icE 226 385 L S h = icE 226 386 L (.int (nI 1) :: S) h := icE_eq (i := .iconst 1) (len := 1) (x1 := 0) (x2 := 0) (x3 := 0) (x4 := 64) ((fe_226 385).trans rfl) L S h
set_option maxRecDepth 20000 in
theorem r_226_386 (L S : List Value) (h : icH) : icE 226 386 L S h = exe icE 226 (e_bin (fun x y => x + y) 387 L S h) := icE_eq (i := .iadd) (len := 1) (x1 := 0) (x2 := 0) (x3 := 0) (x4 := 64) ((fe_226 386).trans rfl) L S h
set_option maxRecDepth 20000 in
theorem r_226_387 (L S : List Value) (h : icH) : icE 226 387 L S h = exe icE 226 (e_iald 388 L S h) := icE_eq (i := .iaload) (len := 1) (x1 := 0) (x2 := 0) (x3 := 0) (x4 := 64) ((fe_226 387).trans rfl) L S h
set_option maxRecDepth 20000 in
theorem r_226_388 (L S : List Value) (h : icH) : icE 226 388 L S h = exe icE 226 (e_vcal 7 74 2 1 391 L S h) := icE_eq (i := .invokevirtual 33) (len := 3) (x1 := 74) (x2 := 3) (x3 := 7) (x4 := 392) ((fe_226 388).trans rfl) L S h
set_option maxRecDepth 20000 in
theorem r_226_391 (L S : List Value) (h : icH) : icE 226 391 L S h = exe icE 226 (e_aload 2 392 L S h) := icE_eq (i := .aload_n 2) (len := 1) (x1 := 0) (x2 := 0) (x3 := 0) (x4 := 64) ((fe_226 391).trans rfl) L S h
set_option maxRecDepth 20000 in
theorem r_226_392 (L S : List Value) (h : icH) : icE 226 392 L S h = exe icE 226 (e_aload 0 393 L S h) := icE_eq (i := .aload_n 0) (len := 1) (x1 := 0) (x2 := 0) (x3 := 0) (x4 := 64) ((fe_226 392).trans rfl) L S h
set_option maxRecDepth 20000 in
theorem r_226_393 (L S : List Value) (h : icH) : icE 226 393 L S h = exe icE 226 (e_iload 3 394 L S h) := icE_eq (i := .iload_n 3) (len := 1) (x1 := 0) (x2 := 0) (x3 := 0) (x4 := 64) ((fe_226 393).trans rfl) L S h
set_option maxRecDepth 20000 in
theorem r_226_394 (L S : List Value) (h : icH) : icE 226 394 L S h = icE 226 395 L (.int (nI 1) :: S) h := icE_eq (i := .iconst 1) (len := 1) (x1 := 0) (x2 := 0) (x3 := 0) (x4 := 64) ((fe_226 394).trans rfl) L S h
set_option maxRecDepth 20000 in
theorem r_226_395 (L S : List Value) (h : icH) : icE 226 395 L S h = exe icE 226 (e_bin (fun x y => x + y) 396 L S h) := icE_eq (i := .iadd) (len := 1) (x1 := 0) (x2 := 0) (x3 := 0) (x4 := 64) ((fe_226 395).trans rfl) L S h
set_option maxRecDepth 20000 in
theorem r_226_396 (L S : List Value) (h : icH) : icE 226 396 L S h = exe icE 226 (e_iald 397 L S h) := icE_eq (i := .iaload) (len := 1) (x1 := 0) (x2 := 0) (x3 := 0) (x4 := 64) ((fe_226 396).trans rfl) L S h
set_option maxRecDepth 20000 in
theorem r_226_397 (L S : List Value) (h : icH) : icE 226 397 L S h = exe icE 226 (e_vcal 8 158 2 1 400 L S h) := icE_eq (i := .invokevirtual 36) (len := 3) (x1 := 158) (x2 := 3) (x3 := 8) (x4 := 1074) ((fe_226 397).trans rfl) L S h
set_option maxRecDepth 20000 in
theorem r_226_400 (L S : List Value) (h : icH) : icE 226 400 L S h = exe icE 226 (e_cmp .eq 1441 403 L S h) := icE_eq (i := .if_icmp .eq 1041) (len := 3) (x1 := 1441) (x2 := 0) (x3 := 0) (x4 := 64) ((fe_226 400).trans rfl) L S h
set_option maxRecDepth 20000 in
theorem r_226_403 (L S : List Value) (h : icH) : icE 226 403 L S h = icE 226 404 L (.int (nI 0) :: S) h := icE_eq (i := .iconst 0) (len := 1) (x1 := 0) (x2 := 0) (x3 := 0) (x4 := 64) ((fe_226 403).trans rfl) L S h
set_option maxRecDepth 20000 in
theorem r_226_404 (L S : List Value) (h : icH) : icE 226 404 L S h = exe icE 226 (e_iret 1 L S h) := icE_eq (i := .ireturn) (len := 1) (x1 := 1) (x2 := 0) (x3 := 0) (x4 := 64) ((fe_226 404).trans rfl) L S h
set_option maxRecDepth 20000 in
theorem r_226_405 (L S : List Value) (h : icH) : icE 226 405 L S h = exe icE 226 (e_aload 1 406 L S h) := icE_eq (i := .aload_n 1) (len := 1) (x1 := 0) (x2 := 0) (x3 := 0) (x4 := 64) ((fe_226 405).trans rfl) L S h
set_option maxRecDepth 20000 in
theorem r_226_406 (L S : List Value) (h : icH) : icE 226 406 L S h = exe icE 226 (e_vcal 7 75 2 0 409 L S h) := icE_eq (i := .invokevirtual 37) (len := 3) (x1 := 75) (x2 := 3) (x3 := 7) (x4 := 400) ((fe_226 406).trans rfl) L S h
set_option maxRecDepth 20000 in
theorem r_226_409 (L S : List Value) (h : icH) : icE 226 409 L S h = exe icE 226 (e_aload 2 410 L S h) := icE_eq (i := .aload_n 2) (len := 1) (x1 := 0) (x2 := 0) (x3 := 0) (x4 := 64) ((fe_226 409).trans rfl) L S h
set_option maxRecDepth 20000 in
theorem r_226_410 (L S : List Value) (h : icH) : icE 226 410 L S h = exe icE 226 (e_vcal 8 159 2 0 413 L S h) := icE_eq (i := .invokevirtual 41) (len := 3) (x1 := 159) (x2 := 3) (x3 := 8) (x4 := 1079) ((fe_226 410).trans rfl) L S h
set_option maxRecDepth 20000 in
theorem r_226_413 (L S : List Value) (h : icH) : icE 226 413 L S h = exe icE 226 (e_cmp .eq 1441 416 L S h) := icE_eq (i := .if_icmp .eq 1028) (len := 3) (x1 := 1441) (x2 := 0) (x3 := 0) (x4 := 64) ((fe_226 413).trans rfl) L S h
set_option maxRecDepth 20000 in
theorem r_226_416 (L S : List Value) (h : icH) : icE 226 416 L S h = icE 226 417 L (.int (nI 0) :: S) h := icE_eq (i := .iconst 0) (len := 1) (x1 := 0) (x2 := 0) (x3 := 0) (x4 := 64) ((fe_226 416).trans rfl) L S h
set_option maxRecDepth 20000 in
theorem r_226_417 (L S : List Value) (h : icH) : icE 226 417 L S h = exe icE 226 (e_iret 1 L S h) := icE_eq (i := .ireturn) (len := 1) (x1 := 1) (x2 := 0) (x3 := 0) (x4 := 64) ((fe_226 417).trans rfl) L S h
set_option maxRecDepth 20000 in
theorem r_226_418 (L S : List Value) (h : icH) : icE 226 418 L S h = exe icE 226 (e_aload 1 419 L S h) := icE_eq (i := .aload_n 1) (len := 1) (x1 := 0) (x2 := 0) (x3 := 0) (x4 := 64) ((fe_226 418).trans rfl) L S h
set_option maxRecDepth 20000 in
theorem r_226_419 (L S : List Value) (h : icH) : icE 226 419 L S h = exe icE 226 (e_vcal 7 76 2 0 422 L S h) := icE_eq (i := .invokevirtual 42) (len := 3) (x1 := 76) (x2 := 3) (x3 := 7) (x4 := 404) ((fe_226 419).trans rfl) L S h
set_option maxRecDepth 20000 in
theorem r_226_422 (L S : List Value) (h : icH) : icE 226 422 L S h = exe icE 226 (e_aload 2 423 L S h) := icE_eq (i := .aload_n 2) (len := 1) (x1 := 0) (x2 := 0) (x3 := 0) (x4 := 64) ((fe_226 422).trans rfl) L S h
set_option maxRecDepth 20000 in
theorem r_226_423 (L S : List Value) (h : icH) : icE 226 423 L S h = exe icE 226 (e_vcal 8 168 1 0 426 L S h) := icE_eq (i := .invokevirtual 45) (len := 3) (x1 := 168) (x2 := 3) (x3 := 8) (x4 := 1083) ((fe_226 423).trans rfl) L S h
set_option maxRecDepth 20000 in
theorem r_226_426 (L S : List Value) (h : icH) : icE 226 426 L S h = exe icE 226 (e_cmp .eq 1441 429 L S h) := icE_eq (i := .if_icmp .eq 1015) (len := 3) (x1 := 1441) (x2 := 0) (x3 := 0) (x4 := 64) ((fe_226 426).trans rfl) L S h
set_option maxRecDepth 20000 in
theorem r_226_429 (L S : List Value) (h : icH) : icE 226 429 L S h = icE 226 430 L (.int (nI 0) :: S) h := icE_eq (i := .iconst 0) (len := 1) (x1 := 0) (x2 := 0) (x3 := 0) (x4 := 64) ((fe_226 429).trans rfl) L S h
set_option maxRecDepth 20000 in
theorem r_226_430 (L S : List Value) (h : icH) : icE 226 430 L S h = exe icE 226 (e_iret 1 L S h) := icE_eq (i := .ireturn) (len := 1) (x1 := 1) (x2 := 0) (x3 := 0) (x4 := 64) ((fe_226 430).trans rfl) L S h
set_option maxRecDepth 20000 in
theorem r_226_431 (L S : List Value) (h : icH) : icE 226 431 L S h = exe icE 226 (e_aload 1 432 L S h) := icE_eq (i := .aload_n 1) (len := 1) (x1 := 0) (x2 := 0) (x3 := 0) (x4 := 64) ((fe_226 431).trans rfl) L S h
set_option maxRecDepth 20000 in
theorem r_226_432 (L S : List Value) (h : icH) : icE 226 432 L S h = exe icE 226 (e_aload 0 433 L S h) := icE_eq (i := .aload_n 0) (len := 1) (x1 := 0) (x2 := 0) (x3 := 0) (x4 := 64) ((fe_226 432).trans rfl) L S h
set_option maxRecDepth 20000 in
theorem r_226_433 (L S : List Value) (h : icH) : icE 226 433 L S h = exe icE 226 (e_iload 3 434 L S h) := icE_eq (i := .iload_n 3) (len := 1) (x1 := 0) (x2 := 0) (x3 := 0) (x4 := 64) ((fe_226 433).trans rfl) L S h
set_option maxRecDepth 20000 in
theorem r_226_434 (L S : List Value) (h : icH) : icE 226 434 L S h = icE 226 435 L (.int (nI 1) :: S) h := icE_eq (i := .iconst 1) (len := 1) (x1 := 0) (x2 := 0) (x3 := 0) (x4 := 64) ((fe_226 434).trans rfl) L S h
set_option maxRecDepth 20000 in
theorem r_226_435 (L S : List Value) (h : icH) : icE 226 435 L S h = exe icE 226 (e_bin (fun x y => x + y) 436 L S h) := icE_eq (i := .iadd) (len := 1) (x1 := 0) (x2 := 0) (x3 := 0) (x4 := 64) ((fe_226 435).trans rfl) L S h
set_option maxRecDepth 20000 in
theorem r_226_436 (L S : List Value) (h : icH) : icE 226 436 L S h = exe icE 226 (e_iald 437 L S h) := icE_eq (i := .iaload) (len := 1) (x1 := 0) (x2 := 0) (x3 := 0) (x4 := 64) ((fe_226 436).trans rfl) L S h
set_option maxRecDepth 20000 in
theorem r_226_437 (L S : List Value) (h : icH) : icE 226 437 L S h = exe icE 226 (e_vcal 7 77 2 1 440 L S h) := icE_eq (i := .invokevirtual 46) (len := 3) (x1 := 77) (x2 := 3) (x3 := 7) (x4 := 558) ((fe_226 437).trans rfl) L S h
set_option maxRecDepth 20000 in
theorem r_226_440 (L S : List Value) (h : icH) : icE 226 440 L S h = exe icE 226 (e_aload 2 441 L S h) := icE_eq (i := .aload_n 2) (len := 1) (x1 := 0) (x2 := 0) (x3 := 0) (x4 := 64) ((fe_226 440).trans rfl) L S h
set_option maxRecDepth 20000 in
theorem r_226_441 (L S : List Value) (h : icH) : icE 226 441 L S h = exe icE 226 (e_aload 0 442 L S h) := icE_eq (i := .aload_n 0) (len := 1) (x1 := 0) (x2 := 0) (x3 := 0) (x4 := 64) ((fe_226 441).trans rfl) L S h
set_option maxRecDepth 20000 in
theorem r_226_442 (L S : List Value) (h : icH) : icE 226 442 L S h = exe icE 226 (e_iload 3 443 L S h) := icE_eq (i := .iload_n 3) (len := 1) (x1 := 0) (x2 := 0) (x3 := 0) (x4 := 64) ((fe_226 442).trans rfl) L S h
set_option maxRecDepth 20000 in
theorem r_226_443 (L S : List Value) (h : icH) : icE 226 443 L S h = icE 226 444 L (.int (nI 1) :: S) h := icE_eq (i := .iconst 1) (len := 1) (x1 := 0) (x2 := 0) (x3 := 0) (x4 := 64) ((fe_226 443).trans rfl) L S h
set_option maxRecDepth 20000 in
theorem r_226_444 (L S : List Value) (h : icH) : icE 226 444 L S h = exe icE 226 (e_bin (fun x y => x + y) 445 L S h) := icE_eq (i := .iadd) (len := 1) (x1 := 0) (x2 := 0) (x3 := 0) (x4 := 64) ((fe_226 444).trans rfl) L S h
set_option maxRecDepth 20000 in
theorem r_226_445 (L S : List Value) (h : icH) : icE 226 445 L S h = exe icE 226 (e_iald 446 L S h) := icE_eq (i := .iaload) (len := 1) (x1 := 0) (x2 := 0) (x3 := 0) (x4 := 64) ((fe_226 445).trans rfl) L S h
set_option maxRecDepth 20000 in
theorem r_226_446 (L S : List Value) (h : icH) : icE 226 446 L S h = exe icE 226 (e_vcal 8 171 2 1 449 L S h) := icE_eq (i := .invokevirtual 49) (len := 3) (x1 := 171) (x2 := 3) (x3 := 8) (x4 := 1149) ((fe_226 446).trans rfl) L S h
set_option maxRecDepth 20000 in
theorem r_226_449 (L S : List Value) (h : icH) : icE 226 449 L S h = exe icE 226 (e_cmp .eq 1441 452 L S h) := icE_eq (i := .if_icmp .eq 992) (len := 3) (x1 := 1441) (x2 := 0) (x3 := 0) (x4 := 64) ((fe_226 449).trans rfl) L S h
set_option maxRecDepth 20000 in
theorem r_226_452 (L S : List Value) (h : icH) : icE 226 452 L S h = icE 226 453 L (.int (nI 0) :: S) h := icE_eq (i := .iconst 0) (len := 1) (x1 := 0) (x2 := 0) (x3 := 0) (x4 := 64) ((fe_226 452).trans rfl) L S h
set_option maxRecDepth 20000 in
theorem r_226_453 (L S : List Value) (h : icH) : icE 226 453 L S h = exe icE 226 (e_iret 1 L S h) := icE_eq (i := .ireturn) (len := 1) (x1 := 1) (x2 := 0) (x3 := 0) (x4 := 64) ((fe_226 453).trans rfl) L S h
set_option maxRecDepth 20000 in
theorem r_226_454 (L S : List Value) (h : icH) : icE 226 454 L S h = exe icE 226 (e_aload 1 455 L S h) := icE_eq (i := .aload_n 1) (len := 1) (x1 := 0) (x2 := 0) (x3 := 0) (x4 := 64) ((fe_226 454).trans rfl) L S h
set_option maxRecDepth 20000 in
theorem r_226_455 (L S : List Value) (h : icH) : icE 226 455 L S h = exe icE 226 (e_aload 0 456 L S h) := icE_eq (i := .aload_n 0) (len := 1) (x1 := 0) (x2 := 0) (x3 := 0) (x4 := 64) ((fe_226 455).trans rfl) L S h
set_option maxRecDepth 20000 in
theorem r_226_456 (L S : List Value) (h : icH) : icE 226 456 L S h = exe icE 226 (e_iload 3 457 L S h) := icE_eq (i := .iload_n 3) (len := 1) (x1 := 0) (x2 := 0) (x3 := 0) (x4 := 64) ((fe_226 456).trans rfl) L S h
set_option maxRecDepth 20000 in
theorem r_226_457 (L S : List Value) (h : icH) : icE 226 457 L S h = icE 226 458 L (.int (nI 1) :: S) h := icE_eq (i := .iconst 1) (len := 1) (x1 := 0) (x2 := 0) (x3 := 0) (x4 := 64) ((fe_226 457).trans rfl) L S h
set_option maxRecDepth 20000 in
theorem r_226_458 (L S : List Value) (h : icH) : icE 226 458 L S h = exe icE 226 (e_bin (fun x y => x + y) 459 L S h) := icE_eq (i := .iadd) (len := 1) (x1 := 0) (x2 := 0) (x3 := 0) (x4 := 64) ((fe_226 458).trans rfl) L S h
set_option maxRecDepth 20000 in
theorem r_226_459 (L S : List Value) (h : icH) : icE 226 459 L S h = exe icE 226 (e_iald 460 L S h) := icE_eq (i := .iaload) (len := 1) (x1 := 0) (x2 := 0) (x3 := 0) (x4 := 64) ((fe_226 459).trans rfl) L S h
set_option maxRecDepth 20000 in
theorem r_226_460 (L S : List Value) (h : icH) : icE 226 460 L S h = exe icE 226 (e_aload 0 461 L S h) := icE_eq (i := .aload_n 0) (len := 1) (x1 := 0) (x2 := 0) (x3 := 0) (x4 := 64) ((fe_226 460).trans rfl) L S h
set_option maxRecDepth 20000 in
theorem r_226_461 (L S : List Value) (h : icH) : icE 226 461 L S h = exe icE 226 (e_iload 3 462 L S h) := icE_eq (i := .iload_n 3) (len := 1) (x1 := 0) (x2 := 0) (x3 := 0) (x4 := 64) ((fe_226 461).trans rfl) L S h
set_option maxRecDepth 20000 in
theorem r_226_462 (L S : List Value) (h : icH) : icE 226 462 L S h = icE 226 463 L (.int (nI 2) :: S) h := icE_eq (i := .iconst 2) (len := 1) (x1 := 0) (x2 := 0) (x3 := 0) (x4 := 64) ((fe_226 462).trans rfl) L S h
set_option maxRecDepth 20000 in
theorem r_226_463 (L S : List Value) (h : icH) : icE 226 463 L S h = exe icE 226 (e_bin (fun x y => x + y) 464 L S h) := icE_eq (i := .iadd) (len := 1) (x1 := 0) (x2 := 0) (x3 := 0) (x4 := 64) ((fe_226 463).trans rfl) L S h
set_option maxRecDepth 20000 in
theorem r_226_464 (L S : List Value) (h : icH) : icE 226 464 L S h = exe icE 226 (e_iald 465 L S h) := icE_eq (i := .iaload) (len := 1) (x1 := 0) (x2 := 0) (x3 := 0) (x4 := 64) ((fe_226 464).trans rfl) L S h
set_option maxRecDepth 20000 in
theorem r_226_465 (L S : List Value) (h : icH) : icE 226 465 L S h = exe icE 226 (e_vcal 7 78 3 2 468 L S h) := icE_eq (i := .invokevirtual 50) (len := 3) (x1 := 78) (x2 := 3) (x3 := 7) (x4 := 595) ((fe_226 465).trans rfl) L S h
set_option maxRecDepth 20000 in
theorem r_226_468 (L S : List Value) (h : icH) : icE 226 468 L S h = exe icE 226 (e_aload 2 469 L S h) := icE_eq (i := .aload_n 2) (len := 1) (x1 := 0) (x2 := 0) (x3 := 0) (x4 := 64) ((fe_226 468).trans rfl) L S h
set_option maxRecDepth 20000 in
theorem r_226_469 (L S : List Value) (h : icH) : icE 226 469 L S h = exe icE 226 (e_aload 0 470 L S h) := icE_eq (i := .aload_n 0) (len := 1) (x1 := 0) (x2 := 0) (x3 := 0) (x4 := 64) ((fe_226 469).trans rfl) L S h
set_option maxRecDepth 20000 in
theorem r_226_470 (L S : List Value) (h : icH) : icE 226 470 L S h = exe icE 226 (e_iload 3 471 L S h) := icE_eq (i := .iload_n 3) (len := 1) (x1 := 0) (x2 := 0) (x3 := 0) (x4 := 64) ((fe_226 470).trans rfl) L S h
set_option maxRecDepth 20000 in
theorem r_226_471 (L S : List Value) (h : icH) : icE 226 471 L S h = icE 226 472 L (.int (nI 1) :: S) h := icE_eq (i := .iconst 1) (len := 1) (x1 := 0) (x2 := 0) (x3 := 0) (x4 := 64) ((fe_226 471).trans rfl) L S h
set_option maxRecDepth 20000 in
theorem r_226_472 (L S : List Value) (h : icH) : icE 226 472 L S h = exe icE 226 (e_bin (fun x y => x + y) 473 L S h) := icE_eq (i := .iadd) (len := 1) (x1 := 0) (x2 := 0) (x3 := 0) (x4 := 64) ((fe_226 472).trans rfl) L S h
set_option maxRecDepth 20000 in
theorem r_226_473 (L S : List Value) (h : icH) : icE 226 473 L S h = exe icE 226 (e_iald 474 L S h) := icE_eq (i := .iaload) (len := 1) (x1 := 0) (x2 := 0) (x3 := 0) (x4 := 64) ((fe_226 473).trans rfl) L S h
set_option maxRecDepth 20000 in
theorem r_226_474 (L S : List Value) (h : icH) : icE 226 474 L S h = exe icE 226 (e_aload 0 475 L S h) := icE_eq (i := .aload_n 0) (len := 1) (x1 := 0) (x2 := 0) (x3 := 0) (x4 := 64) ((fe_226 474).trans rfl) L S h
set_option maxRecDepth 20000 in
theorem r_226_475 (L S : List Value) (h : icH) : icE 226 475 L S h = exe icE 226 (e_iload 3 476 L S h) := icE_eq (i := .iload_n 3) (len := 1) (x1 := 0) (x2 := 0) (x3 := 0) (x4 := 64) ((fe_226 475).trans rfl) L S h
set_option maxRecDepth 20000 in
theorem r_226_476 (L S : List Value) (h : icH) : icE 226 476 L S h = icE 226 477 L (.int (nI 2) :: S) h := icE_eq (i := .iconst 2) (len := 1) (x1 := 0) (x2 := 0) (x3 := 0) (x4 := 64) ((fe_226 476).trans rfl) L S h
set_option maxRecDepth 20000 in
theorem r_226_477 (L S : List Value) (h : icH) : icE 226 477 L S h = exe icE 226 (e_bin (fun x y => x + y) 478 L S h) := icE_eq (i := .iadd) (len := 1) (x1 := 0) (x2 := 0) (x3 := 0) (x4 := 64) ((fe_226 477).trans rfl) L S h
set_option maxRecDepth 20000 in
theorem r_226_478 (L S : List Value) (h : icH) : icE 226 478 L S h = exe icE 226 (e_iald 479 L S h) := icE_eq (i := .iaload) (len := 1) (x1 := 0) (x2 := 0) (x3 := 0) (x4 := 64) ((fe_226 478).trans rfl) L S h
set_option maxRecDepth 20000 in
theorem r_226_479 (L S : List Value) (h : icH) : icE 226 479 L S h = exe icE 226 (e_vcal 8 172 3 2 482 L S h) := icE_eq (i := .invokevirtual 53) (len := 3) (x1 := 172) (x2 := 3) (x3 := 8) (x4 := 1162) ((fe_226 479).trans rfl) L S h
set_option maxRecDepth 20000 in
theorem r_226_482 (L S : List Value) (h : icH) : icE 226 482 L S h = exe icE 226 (e_cmp .eq 1441 485 L S h) := icE_eq (i := .if_icmp .eq 959) (len := 3) (x1 := 1441) (x2 := 0) (x3 := 0) (x4 := 64) ((fe_226 482).trans rfl) L S h
set_option maxRecDepth 20000 in
theorem r_226_485 (L S : List Value) (h : icH) : icE 226 485 L S h = icE 226 486 L (.int (nI 0) :: S) h := icE_eq (i := .iconst 0) (len := 1) (x1 := 0) (x2 := 0) (x3 := 0) (x4 := 64) ((fe_226 485).trans rfl) L S h
set_option maxRecDepth 20000 in
theorem r_226_486 (L S : List Value) (h : icH) : icE 226 486 L S h = exe icE 226 (e_iret 1 L S h) := icE_eq (i := .ireturn) (len := 1) (x1 := 1) (x2 := 0) (x3 := 0) (x4 := 64) ((fe_226 486).trans rfl) L S h
set_option maxRecDepth 20000 in
theorem r_226_487 (L S : List Value) (h : icH) : icE 226 487 L S h = exe icE 226 (e_aload 1 488 L S h) := icE_eq (i := .aload_n 1) (len := 1) (x1 := 0) (x2 := 0) (x3 := 0) (x4 := 64) ((fe_226 487).trans rfl) L S h
set_option maxRecDepth 20000 in
theorem r_226_488 (L S : List Value) (h : icH) : icE 226 488 L S h = exe icE 226 (e_aload 0 489 L S h) := icE_eq (i := .aload_n 0) (len := 1) (x1 := 0) (x2 := 0) (x3 := 0) (x4 := 64) ((fe_226 488).trans rfl) L S h
set_option maxRecDepth 20000 in
theorem r_226_489 (L S : List Value) (h : icH) : icE 226 489 L S h = exe icE 226 (e_iload 3 490 L S h) := icE_eq (i := .iload_n 3) (len := 1) (x1 := 0) (x2 := 0) (x3 := 0) (x4 := 64) ((fe_226 489).trans rfl) L S h
set_option maxRecDepth 20000 in
theorem r_226_490 (L S : List Value) (h : icH) : icE 226 490 L S h = icE 226 491 L (.int (nI 1) :: S) h := icE_eq (i := .iconst 1) (len := 1) (x1 := 0) (x2 := 0) (x3 := 0) (x4 := 64) ((fe_226 490).trans rfl) L S h
set_option maxRecDepth 20000 in
theorem r_226_491 (L S : List Value) (h : icH) : icE 226 491 L S h = exe icE 226 (e_bin (fun x y => x + y) 492 L S h) := icE_eq (i := .iadd) (len := 1) (x1 := 0) (x2 := 0) (x3 := 0) (x4 := 64) ((fe_226 491).trans rfl) L S h
set_option maxRecDepth 20000 in
theorem r_226_492 (L S : List Value) (h : icH) : icE 226 492 L S h = exe icE 226 (e_iald 493 L S h) := icE_eq (i := .iaload) (len := 1) (x1 := 0) (x2 := 0) (x3 := 0) (x4 := 64) ((fe_226 492).trans rfl) L S h
set_option maxRecDepth 20000 in
theorem r_226_493 (L S : List Value) (h : icH) : icE 226 493 L S h = exe icE 226 (e_aload 0 494 L S h) := icE_eq (i := .aload_n 0) (len := 1) (x1 := 0) (x2 := 0) (x3 := 0) (x4 := 64) ((fe_226 493).trans rfl) L S h
set_option maxRecDepth 20000 in
theorem r_226_494 (L S : List Value) (h : icH) : icE 226 494 L S h = exe icE 226 (e_iload 3 495 L S h) := icE_eq (i := .iload_n 3) (len := 1) (x1 := 0) (x2 := 0) (x3 := 0) (x4 := 64) ((fe_226 494).trans rfl) L S h
set_option maxRecDepth 20000 in
theorem r_226_495 (L S : List Value) (h : icH) : icE 226 495 L S h = icE 226 496 L (.int (nI 2) :: S) h := icE_eq (i := .iconst 2) (len := 1) (x1 := 0) (x2 := 0) (x3 := 0) (x4 := 64) ((fe_226 495).trans rfl) L S h
set_option maxRecDepth 20000 in
theorem r_226_496 (L S : List Value) (h : icH) : icE 226 496 L S h = exe icE 226 (e_bin (fun x y => x + y) 497 L S h) := icE_eq (i := .iadd) (len := 1) (x1 := 0) (x2 := 0) (x3 := 0) (x4 := 64) ((fe_226 496).trans rfl) L S h
set_option maxRecDepth 20000 in
theorem r_226_497 (L S : List Value) (h : icH) : icE 226 497 L S h = exe icE 226 (e_iald 498 L S h) := icE_eq (i := .iaload) (len := 1) (x1 := 0) (x2 := 0) (x3 := 0) (x4 := 64) ((fe_226 497).trans rfl) L S h
set_option maxRecDepth 20000 in
theorem r_226_498 (L S : List Value) (h : icH) : icE 226 498 L S h = exe icE 226 (e_vcal 7 79 4 2 501 L S h) := icE_eq (i := .invokevirtual 54) (len := 3) (x1 := 79) (x2 := 3) (x3 := 7) (x4 := 607) ((fe_226 498).trans rfl) L S h
set_option maxRecDepth 20000 in
theorem r_226_501 (L S : List Value) (h : icH) : icE 226 501 L S h = exe icE 226 (e_aload 2 502 L S h) := icE_eq (i := .aload_n 2) (len := 1) (x1 := 0) (x2 := 0) (x3 := 0) (x4 := 64) ((fe_226 501).trans rfl) L S h
set_option maxRecDepth 20000 in
theorem r_226_502 (L S : List Value) (h : icH) : icE 226 502 L S h = exe icE 226 (e_aload 0 503 L S h) := icE_eq (i := .aload_n 0) (len := 1) (x1 := 0) (x2 := 0) (x3 := 0) (x4 := 64) ((fe_226 502).trans rfl) L S h
set_option maxRecDepth 20000 in
theorem r_226_503 (L S : List Value) (h : icH) : icE 226 503 L S h = exe icE 226 (e_iload 3 504 L S h) := icE_eq (i := .iload_n 3) (len := 1) (x1 := 0) (x2 := 0) (x3 := 0) (x4 := 64) ((fe_226 503).trans rfl) L S h
set_option maxRecDepth 20000 in
theorem r_226_504 (L S : List Value) (h : icH) : icE 226 504 L S h = icE 226 505 L (.int (nI 1) :: S) h := icE_eq (i := .iconst 1) (len := 1) (x1 := 0) (x2 := 0) (x3 := 0) (x4 := 64) ((fe_226 504).trans rfl) L S h
set_option maxRecDepth 20000 in
theorem r_226_505 (L S : List Value) (h : icH) : icE 226 505 L S h = exe icE 226 (e_bin (fun x y => x + y) 506 L S h) := icE_eq (i := .iadd) (len := 1) (x1 := 0) (x2 := 0) (x3 := 0) (x4 := 64) ((fe_226 505).trans rfl) L S h
set_option maxRecDepth 20000 in
theorem r_226_506 (L S : List Value) (h : icH) : icE 226 506 L S h = exe icE 226 (e_iald 507 L S h) := icE_eq (i := .iaload) (len := 1) (x1 := 0) (x2 := 0) (x3 := 0) (x4 := 64) ((fe_226 506).trans rfl) L S h
set_option maxRecDepth 20000 in
theorem r_226_507 (L S : List Value) (h : icH) : icE 226 507 L S h = exe icE 226 (e_aload 0 508 L S h) := icE_eq (i := .aload_n 0) (len := 1) (x1 := 0) (x2 := 0) (x3 := 0) (x4 := 64) ((fe_226 507).trans rfl) L S h
set_option maxRecDepth 20000 in
theorem r_226_508 (L S : List Value) (h : icH) : icE 226 508 L S h = exe icE 226 (e_iload 3 509 L S h) := icE_eq (i := .iload_n 3) (len := 1) (x1 := 0) (x2 := 0) (x3 := 0) (x4 := 64) ((fe_226 508).trans rfl) L S h
set_option maxRecDepth 20000 in
theorem r_226_509 (L S : List Value) (h : icH) : icE 226 509 L S h = icE 226 510 L (.int (nI 2) :: S) h := icE_eq (i := .iconst 2) (len := 1) (x1 := 0) (x2 := 0) (x3 := 0) (x4 := 64) ((fe_226 509).trans rfl) L S h
set_option maxRecDepth 20000 in
theorem r_226_510 (L S : List Value) (h : icH) : icE 226 510 L S h = exe icE 226 (e_bin (fun x y => x + y) 511 L S h) := icE_eq (i := .iadd) (len := 1) (x1 := 0) (x2 := 0) (x3 := 0) (x4 := 64) ((fe_226 510).trans rfl) L S h
set_option maxRecDepth 20000 in
theorem r_226_511 (L S : List Value) (h : icH) : icE 226 511 L S h = exe icE 226 (e_iald 512 L S h) := icE_eq (i := .iaload) (len := 1) (x1 := 0) (x2 := 0) (x3 := 0) (x4 := 64) ((fe_226 511).trans rfl) L S h
set_option maxRecDepth 20000 in
theorem r_226_512 (L S : List Value) (h : icH) : icE 226 512 L S h = exe icE 226 (e_vcal 8 173 4 2 515 L S h) := icE_eq (i := .invokevirtual 57) (len := 3) (x1 := 173) (x2 := 3) (x3 := 8) (x4 := 1170) ((fe_226 512).trans rfl) L S h
set_option maxRecDepth 20000 in
theorem r_226_515 (L S : List Value) (h : icH) : icE 226 515 L S h = exe icE 226 (e_cmp .eq 1441 518 L S h) := icE_eq (i := .if_icmp .eq 926) (len := 3) (x1 := 1441) (x2 := 0) (x3 := 0) (x4 := 64) ((fe_226 515).trans rfl) L S h
set_option maxRecDepth 20000 in
theorem r_226_518 (L S : List Value) (h : icH) : icE 226 518 L S h = icE 226 519 L (.int (nI 0) :: S) h := icE_eq (i := .iconst 0) (len := 1) (x1 := 0) (x2 := 0) (x3 := 0) (x4 := 64) ((fe_226 518).trans rfl) L S h
set_option maxRecDepth 20000 in
theorem r_226_519 (L S : List Value) (h : icH) : icE 226 519 L S h = exe icE 226 (e_iret 1 L S h) := icE_eq (i := .ireturn) (len := 1) (x1 := 1) (x2 := 0) (x3 := 0) (x4 := 64) ((fe_226 519).trans rfl) L S h
set_option maxRecDepth 20000 in
theorem r_226_520 (L S : List Value) (h : icH) : icE 226 520 L S h = exe icE 226 (e_aload 1 521 L S h) := icE_eq (i := .aload_n 1) (len := 1) (x1 := 0) (x2 := 0) (x3 := 0) (x4 := 64) ((fe_226 520).trans rfl) L S h
set_option maxRecDepth 20000 in
theorem r_226_521 (L S : List Value) (h : icH) : icE 226 521 L S h = exe icE 226 (e_aload 0 522 L S h) := icE_eq (i := .aload_n 0) (len := 1) (x1 := 0) (x2 := 0) (x3 := 0) (x4 := 64) ((fe_226 521).trans rfl) L S h
set_option maxRecDepth 20000 in
theorem r_226_522 (L S : List Value) (h : icH) : icE 226 522 L S h = exe icE 226 (e_iload 3 523 L S h) := icE_eq (i := .iload_n 3) (len := 1) (x1 := 0) (x2 := 0) (x3 := 0) (x4 := 64) ((fe_226 522).trans rfl) L S h
set_option maxRecDepth 20000 in
theorem r_226_523 (L S : List Value) (h : icH) : icE 226 523 L S h = icE 226 524 L (.int (nI 1) :: S) h := icE_eq (i := .iconst 1) (len := 1) (x1 := 0) (x2 := 0) (x3 := 0) (x4 := 64) ((fe_226 523).trans rfl) L S h
set_option maxRecDepth 20000 in
theorem r_226_524 (L S : List Value) (h : icH) : icE 226 524 L S h = exe icE 226 (e_bin (fun x y => x + y) 525 L S h) := icE_eq (i := .iadd) (len := 1) (x1 := 0) (x2 := 0) (x3 := 0) (x4 := 64) ((fe_226 524).trans rfl) L S h
set_option maxRecDepth 20000 in
theorem r_226_525 (L S : List Value) (h : icH) : icE 226 525 L S h = exe icE 226 (e_iald 526 L S h) := icE_eq (i := .iaload) (len := 1) (x1 := 0) (x2 := 0) (x3 := 0) (x4 := 64) ((fe_226 525).trans rfl) L S h
set_option maxRecDepth 20000 in
theorem r_226_526 (L S : List Value) (h : icH) : icE 226 526 L S h = exe icE 226 (e_vcal 7 80 2 1 529 L S h) := icE_eq (i := .invokevirtual 58) (len := 3) (x1 := 80) (x2 := 3) (x3 := 7) (x4 := 611) ((fe_226 526).trans rfl) L S h
set_option maxRecDepth 20000 in
theorem r_226_529 (L S : List Value) (h : icH) : icE 226 529 L S h = exe icE 226 (e_aload 2 530 L S h) := icE_eq (i := .aload_n 2) (len := 1) (x1 := 0) (x2 := 0) (x3 := 0) (x4 := 64) ((fe_226 529).trans rfl) L S h
set_option maxRecDepth 20000 in
theorem r_226_530 (L S : List Value) (h : icH) : icE 226 530 L S h = exe icE 226 (e_aload 0 531 L S h) := icE_eq (i := .aload_n 0) (len := 1) (x1 := 0) (x2 := 0) (x3 := 0) (x4 := 64) ((fe_226 530).trans rfl) L S h
set_option maxRecDepth 20000 in
theorem r_226_531 (L S : List Value) (h : icH) : icE 226 531 L S h = exe icE 226 (e_iload 3 532 L S h) := icE_eq (i := .iload_n 3) (len := 1) (x1 := 0) (x2 := 0) (x3 := 0) (x4 := 64) ((fe_226 531).trans rfl) L S h
set_option maxRecDepth 20000 in
theorem r_226_532 (L S : List Value) (h : icH) : icE 226 532 L S h = icE 226 533 L (.int (nI 1) :: S) h := icE_eq (i := .iconst 1) (len := 1) (x1 := 0) (x2 := 0) (x3 := 0) (x4 := 64) ((fe_226 532).trans rfl) L S h
set_option maxRecDepth 20000 in
theorem r_226_533 (L S : List Value) (h : icH) : icE 226 533 L S h = exe icE 226 (e_bin (fun x y => x + y) 534 L S h) := icE_eq (i := .iadd) (len := 1) (x1 := 0) (x2 := 0) (x3 := 0) (x4 := 64) ((fe_226 533).trans rfl) L S h
set_option maxRecDepth 20000 in
theorem r_226_534 (L S : List Value) (h : icH) : icE 226 534 L S h = exe icE 226 (e_iald 535 L S h) := icE_eq (i := .iaload) (len := 1) (x1 := 0) (x2 := 0) (x3 := 0) (x4 := 64) ((fe_226 534).trans rfl) L S h
set_option maxRecDepth 20000 in
theorem r_226_535 (L S : List Value) (h : icH) : icE 226 535 L S h = exe icE 226 (e_vcal 8 174 2 1 538 L S h) := icE_eq (i := .invokevirtual 61) (len := 3) (x1 := 174) (x2 := 3) (x3 := 8) (x4 := 1174) ((fe_226 535).trans rfl) L S h
set_option maxRecDepth 20000 in
theorem r_226_538 (L S : List Value) (h : icH) : icE 226 538 L S h = exe icE 226 (e_cmp .eq 1441 541 L S h) := icE_eq (i := .if_icmp .eq 903) (len := 3) (x1 := 1441) (x2 := 0) (x3 := 0) (x4 := 64) ((fe_226 538).trans rfl) L S h
set_option maxRecDepth 20000 in
theorem r_226_541 (L S : List Value) (h : icH) : icE 226 541 L S h = icE 226 542 L (.int (nI 0) :: S) h := icE_eq (i := .iconst 0) (len := 1) (x1 := 0) (x2 := 0) (x3 := 0) (x4 := 64) ((fe_226 541).trans rfl) L S h
set_option maxRecDepth 20000 in
theorem r_226_542 (L S : List Value) (h : icH) : icE 226 542 L S h = exe icE 226 (e_iret 1 L S h) := icE_eq (i := .ireturn) (len := 1) (x1 := 1) (x2 := 0) (x3 := 0) (x4 := 64) ((fe_226 542).trans rfl) L S h
set_option maxRecDepth 20000 in
theorem r_226_543 (L S : List Value) (h : icH) : icE 226 543 L S h = exe icE 226 (e_aload 1 544 L S h) := icE_eq (i := .aload_n 1) (len := 1) (x1 := 0) (x2 := 0) (x3 := 0) (x4 := 64) ((fe_226 543).trans rfl) L S h
set_option maxRecDepth 20000 in
theorem r_226_544 (L S : List Value) (h : icH) : icE 226 544 L S h = exe icE 226 (e_vcal 7 81 1 0 547 L S h) := icE_eq (i := .invokevirtual 62) (len := 3) (x1 := 81) (x2 := 3) (x3 := 7) (x4 := 619) ((fe_226 544).trans rfl) L S h
set_option maxRecDepth 20000 in
theorem r_226_547 (L S : List Value) (h : icH) : icE 226 547 L S h = exe icE 226 (e_aload 2 548 L S h) := icE_eq (i := .aload_n 2) (len := 1) (x1 := 0) (x2 := 0) (x3 := 0) (x4 := 64) ((fe_226 547).trans rfl) L S h
set_option maxRecDepth 20000 in
theorem r_226_548 (L S : List Value) (h : icH) : icE 226 548 L S h = exe icE 226 (e_vcal 8 175 2 0 551 L S h) := icE_eq (i := .invokevirtual 65) (len := 3) (x1 := 175) (x2 := 3) (x3 := 8) (x4 := 1182) ((fe_226 548).trans rfl) L S h
set_option maxRecDepth 20000 in
theorem r_226_551 (L S : List Value) (h : icH) : icE 226 551 L S h = exe icE 226 (e_cmp .eq 1441 554 L S h) := icE_eq (i := .if_icmp .eq 890) (len := 3) (x1 := 1441) (x2 := 0) (x3 := 0) (x4 := 64) ((fe_226 551).trans rfl) L S h
set_option maxRecDepth 20000 in
theorem r_226_554 (L S : List Value) (h : icH) : icE 226 554 L S h = icE 226 555 L (.int (nI 0) :: S) h := icE_eq (i := .iconst 0) (len := 1) (x1 := 0) (x2 := 0) (x3 := 0) (x4 := 64) ((fe_226 554).trans rfl) L S h
set_option maxRecDepth 20000 in
theorem r_226_555 (L S : List Value) (h : icH) : icE 226 555 L S h = exe icE 226 (e_iret 1 L S h) := icE_eq (i := .ireturn) (len := 1) (x1 := 1) (x2 := 0) (x3 := 0) (x4 := 64) ((fe_226 555).trans rfl) L S h
set_option maxRecDepth 20000 in
theorem r_226_556 (L S : List Value) (h : icH) : icE 226 556 L S h = exe icE 226 (e_aload 1 557 L S h) := icE_eq (i := .aload_n 1) (len := 1) (x1 := 0) (x2 := 0) (x3 := 0) (x4 := 64) ((fe_226 556).trans rfl) L S h
set_option maxRecDepth 20000 in
theorem r_226_557 (L S : List Value) (h : icH) : icE 226 557 L S h = exe icE 226 (e_aload 0 558 L S h) := icE_eq (i := .aload_n 0) (len := 1) (x1 := 0) (x2 := 0) (x3 := 0) (x4 := 64) ((fe_226 557).trans rfl) L S h
set_option maxRecDepth 20000 in
theorem r_226_558 (L S : List Value) (h : icH) : icE 226 558 L S h = exe icE 226 (e_iload 3 559 L S h) := icE_eq (i := .iload_n 3) (len := 1) (x1 := 0) (x2 := 0) (x3 := 0) (x4 := 64) ((fe_226 558).trans rfl) L S h
set_option maxRecDepth 20000 in
theorem r_226_559 (L S : List Value) (h : icH) : icE 226 559 L S h = icE 226 560 L (.int (nI 1) :: S) h := icE_eq (i := .iconst 1) (len := 1) (x1 := 0) (x2 := 0) (x3 := 0) (x4 := 64) ((fe_226 559).trans rfl) L S h
set_option maxRecDepth 20000 in
theorem r_226_560 (L S : List Value) (h : icH) : icE 226 560 L S h = exe icE 226 (e_bin (fun x y => x + y) 561 L S h) := icE_eq (i := .iadd) (len := 1) (x1 := 0) (x2 := 0) (x3 := 0) (x4 := 64) ((fe_226 560).trans rfl) L S h
set_option maxRecDepth 20000 in
theorem r_226_561 (L S : List Value) (h : icH) : icE 226 561 L S h = exe icE 226 (e_iald 562 L S h) := icE_eq (i := .iaload) (len := 1) (x1 := 0) (x2 := 0) (x3 := 0) (x4 := 64) ((fe_226 561).trans rfl) L S h
set_option maxRecDepth 20000 in
theorem r_226_562 (L S : List Value) (h : icH) : icE 226 562 L S h = exe icE 226 (e_aload 0 563 L S h) := icE_eq (i := .aload_n 0) (len := 1) (x1 := 0) (x2 := 0) (x3 := 0) (x4 := 64) ((fe_226 562).trans rfl) L S h
set_option maxRecDepth 20000 in
theorem r_226_563 (L S : List Value) (h : icH) : icE 226 563 L S h = exe icE 226 (e_iload 3 564 L S h) := icE_eq (i := .iload_n 3) (len := 1) (x1 := 0) (x2 := 0) (x3 := 0) (x4 := 64) ((fe_226 563).trans rfl) L S h
set_option maxRecDepth 20000 in
theorem r_226_564 (L S : List Value) (h : icH) : icE 226 564 L S h = icE 226 565 L (.int (nI 2) :: S) h := icE_eq (i := .iconst 2) (len := 1) (x1 := 0) (x2 := 0) (x3 := 0) (x4 := 64) ((fe_226 564).trans rfl) L S h
set_option maxRecDepth 20000 in
theorem r_226_565 (L S : List Value) (h : icH) : icE 226 565 L S h = exe icE 226 (e_bin (fun x y => x + y) 566 L S h) := icE_eq (i := .iadd) (len := 1) (x1 := 0) (x2 := 0) (x3 := 0) (x4 := 64) ((fe_226 565).trans rfl) L S h
set_option maxRecDepth 20000 in
theorem r_226_566 (L S : List Value) (h : icH) : icE 226 566 L S h = exe icE 226 (e_iald 567 L S h) := icE_eq (i := .iaload) (len := 1) (x1 := 0) (x2 := 0) (x3 := 0) (x4 := 64) ((fe_226 566).trans rfl) L S h
set_option maxRecDepth 20000 in
theorem r_226_567 (L S : List Value) (h : icH) : icE 226 567 L S h = exe icE 226 (e_vcal 7 82 3 2 570 L S h) := icE_eq (i := .invokevirtual 66) (len := 3) (x1 := 82) (x2 := 3) (x3 := 7) (x4 := 637) ((fe_226 567).trans rfl) L S h
set_option maxRecDepth 20000 in
theorem r_226_570 (L S : List Value) (h : icH) : icE 226 570 L S h = exe icE 226 (e_aload 2 571 L S h) := icE_eq (i := .aload_n 2) (len := 1) (x1 := 0) (x2 := 0) (x3 := 0) (x4 := 64) ((fe_226 570).trans rfl) L S h
set_option maxRecDepth 20000 in
theorem r_226_571 (L S : List Value) (h : icH) : icE 226 571 L S h = exe icE 226 (e_aload 0 572 L S h) := icE_eq (i := .aload_n 0) (len := 1) (x1 := 0) (x2 := 0) (x3 := 0) (x4 := 64) ((fe_226 571).trans rfl) L S h
set_option maxRecDepth 20000 in
theorem r_226_572 (L S : List Value) (h : icH) : icE 226 572 L S h = exe icE 226 (e_iload 3 573 L S h) := icE_eq (i := .iload_n 3) (len := 1) (x1 := 0) (x2 := 0) (x3 := 0) (x4 := 64) ((fe_226 572).trans rfl) L S h
set_option maxRecDepth 20000 in
theorem r_226_573 (L S : List Value) (h : icH) : icE 226 573 L S h = icE 226 574 L (.int (nI 1) :: S) h := icE_eq (i := .iconst 1) (len := 1) (x1 := 0) (x2 := 0) (x3 := 0) (x4 := 64) ((fe_226 573).trans rfl) L S h
set_option maxRecDepth 20000 in
theorem r_226_574 (L S : List Value) (h : icH) : icE 226 574 L S h = exe icE 226 (e_bin (fun x y => x + y) 575 L S h) := icE_eq (i := .iadd) (len := 1) (x1 := 0) (x2 := 0) (x3 := 0) (x4 := 64) ((fe_226 574).trans rfl) L S h
set_option maxRecDepth 20000 in
theorem r_226_575 (L S : List Value) (h : icH) : icE 226 575 L S h = exe icE 226 (e_iald 576 L S h) := icE_eq (i := .iaload) (len := 1) (x1 := 0) (x2 := 0) (x3 := 0) (x4 := 64) ((fe_226 575).trans rfl) L S h
set_option maxRecDepth 20000 in
theorem r_226_576 (L S : List Value) (h : icH) : icE 226 576 L S h = exe icE 226 (e_aload 0 577 L S h) := icE_eq (i := .aload_n 0) (len := 1) (x1 := 0) (x2 := 0) (x3 := 0) (x4 := 64) ((fe_226 576).trans rfl) L S h
set_option maxRecDepth 20000 in
theorem r_226_577 (L S : List Value) (h : icH) : icE 226 577 L S h = exe icE 226 (e_iload 3 578 L S h) := icE_eq (i := .iload_n 3) (len := 1) (x1 := 0) (x2 := 0) (x3 := 0) (x4 := 64) ((fe_226 577).trans rfl) L S h
set_option maxRecDepth 20000 in
theorem r_226_578 (L S : List Value) (h : icH) : icE 226 578 L S h = icE 226 579 L (.int (nI 2) :: S) h := icE_eq (i := .iconst 2) (len := 1) (x1 := 0) (x2 := 0) (x3 := 0) (x4 := 64) ((fe_226 578).trans rfl) L S h
set_option maxRecDepth 20000 in
theorem r_226_579 (L S : List Value) (h : icH) : icE 226 579 L S h = exe icE 226 (e_bin (fun x y => x + y) 580 L S h) := icE_eq (i := .iadd) (len := 1) (x1 := 0) (x2 := 0) (x3 := 0) (x4 := 64) ((fe_226 579).trans rfl) L S h
set_option maxRecDepth 20000 in
theorem r_226_580 (L S : List Value) (h : icH) : icE 226 580 L S h = exe icE 226 (e_iald 581 L S h) := icE_eq (i := .iaload) (len := 1) (x1 := 0) (x2 := 0) (x3 := 0) (x4 := 64) ((fe_226 580).trans rfl) L S h
set_option maxRecDepth 20000 in
theorem r_226_581 (L S : List Value) (h : icH) : icE 226 581 L S h = exe icE 226 (e_vcal 8 176 3 2 584 L S h) := icE_eq (i := .invokevirtual 69) (len := 3) (x1 := 176) (x2 := 3) (x3 := 8) (x4 := 1186) ((fe_226 581).trans rfl) L S h
set_option maxRecDepth 20000 in
theorem r_226_584 (L S : List Value) (h : icH) : icE 226 584 L S h = exe icE 226 (e_cmp .eq 1441 587 L S h) := icE_eq (i := .if_icmp .eq 857) (len := 3) (x1 := 1441) (x2 := 0) (x3 := 0) (x4 := 64) ((fe_226 584).trans rfl) L S h
set_option maxRecDepth 20000 in
theorem r_226_587 (L S : List Value) (h : icH) : icE 226 587 L S h = icE 226 588 L (.int (nI 0) :: S) h := icE_eq (i := .iconst 0) (len := 1) (x1 := 0) (x2 := 0) (x3 := 0) (x4 := 64) ((fe_226 587).trans rfl) L S h
set_option maxRecDepth 20000 in
theorem r_226_588 (L S : List Value) (h : icH) : icE 226 588 L S h = exe icE 226 (e_iret 1 L S h) := icE_eq (i := .ireturn) (len := 1) (x1 := 1) (x2 := 0) (x3 := 0) (x4 := 64) ((fe_226 588).trans rfl) L S h
set_option maxRecDepth 20000 in
theorem r_226_589 (L S : List Value) (h : icH) : icE 226 589 L S h = exe icE 226 (e_aload 1 590 L S h) := icE_eq (i := .aload_n 1) (len := 1) (x1 := 0) (x2 := 0) (x3 := 0) (x4 := 64) ((fe_226 589).trans rfl) L S h
set_option maxRecDepth 20000 in
theorem r_226_590 (L S : List Value) (h : icH) : icE 226 590 L S h = exe icE 226 (e_aload 0 591 L S h) := icE_eq (i := .aload_n 0) (len := 1) (x1 := 0) (x2 := 0) (x3 := 0) (x4 := 64) ((fe_226 590).trans rfl) L S h
set_option maxRecDepth 20000 in
theorem r_226_591 (L S : List Value) (h : icH) : icE 226 591 L S h = exe icE 226 (e_iload 3 592 L S h) := icE_eq (i := .iload_n 3) (len := 1) (x1 := 0) (x2 := 0) (x3 := 0) (x4 := 64) ((fe_226 591).trans rfl) L S h
set_option maxRecDepth 20000 in
theorem r_226_592 (L S : List Value) (h : icH) : icE 226 592 L S h = icE 226 593 L (.int (nI 1) :: S) h := icE_eq (i := .iconst 1) (len := 1) (x1 := 0) (x2 := 0) (x3 := 0) (x4 := 64) ((fe_226 592).trans rfl) L S h
set_option maxRecDepth 20000 in
theorem r_226_593 (L S : List Value) (h : icH) : icE 226 593 L S h = exe icE 226 (e_bin (fun x y => x + y) 594 L S h) := icE_eq (i := .iadd) (len := 1) (x1 := 0) (x2 := 0) (x3 := 0) (x4 := 64) ((fe_226 593).trans rfl) L S h
set_option maxRecDepth 20000 in
theorem r_226_594 (L S : List Value) (h : icH) : icE 226 594 L S h = exe icE 226 (e_iald 595 L S h) := icE_eq (i := .iaload) (len := 1) (x1 := 0) (x2 := 0) (x3 := 0) (x4 := 64) ((fe_226 594).trans rfl) L S h
set_option maxRecDepth 20000 in
theorem r_226_595 (L S : List Value) (h : icH) : icE 226 595 L S h = exe icE 226 (e_vcal 7 83 2 1 598 L S h) := icE_eq (i := .invokevirtual 70) (len := 3) (x1 := 83) (x2 := 3) (x3 := 7) (x4 := 645) ((fe_226 595).trans rfl) L S h
set_option maxRecDepth 20000 in
theorem r_226_598 (L S : List Value) (h : icH) : icE 226 598 L S h = exe icE 226 (e_aload 2 599 L S h) := icE_eq (i := .aload_n 2) (len := 1) (x1 := 0) (x2 := 0) (x3 := 0) (x4 := 64) ((fe_226 598).trans rfl) L S h
set_option maxRecDepth 20000 in
theorem r_226_599 (L S : List Value) (h : icH) : icE 226 599 L S h = exe icE 226 (e_aload 0 600 L S h) := icE_eq (i := .aload_n 0) (len := 1) (x1 := 0) (x2 := 0) (x3 := 0) (x4 := 64) ((fe_226 599).trans rfl) L S h
set_option maxRecDepth 20000 in
theorem r_226_600 (L S : List Value) (h : icH) : icE 226 600 L S h = exe icE 226 (e_iload 3 601 L S h) := icE_eq (i := .iload_n 3) (len := 1) (x1 := 0) (x2 := 0) (x3 := 0) (x4 := 64) ((fe_226 600).trans rfl) L S h
set_option maxRecDepth 20000 in
theorem r_226_601 (L S : List Value) (h : icH) : icE 226 601 L S h = icE 226 602 L (.int (nI 1) :: S) h := icE_eq (i := .iconst 1) (len := 1) (x1 := 0) (x2 := 0) (x3 := 0) (x4 := 64) ((fe_226 601).trans rfl) L S h
set_option maxRecDepth 20000 in
theorem r_226_602 (L S : List Value) (h : icH) : icE 226 602 L S h = exe icE 226 (e_bin (fun x y => x + y) 603 L S h) := icE_eq (i := .iadd) (len := 1) (x1 := 0) (x2 := 0) (x3 := 0) (x4 := 64) ((fe_226 602).trans rfl) L S h
set_option maxRecDepth 20000 in
theorem r_226_603 (L S : List Value) (h : icH) : icE 226 603 L S h = exe icE 226 (e_iald 604 L S h) := icE_eq (i := .iaload) (len := 1) (x1 := 0) (x2 := 0) (x3 := 0) (x4 := 64) ((fe_226 603).trans rfl) L S h
set_option maxRecDepth 20000 in
theorem r_226_604 (L S : List Value) (h : icH) : icE 226 604 L S h = exe icE 226 (e_vcal 8 177 3 1 607 L S h) := icE_eq (i := .invokevirtual 73) (len := 3) (x1 := 177) (x2 := 3) (x3 := 8) (x4 := 1190) ((fe_226 604).trans rfl) L S h
set_option maxRecDepth 20000 in
theorem r_226_607 (L S : List Value) (h : icH) : icE 226 607 L S h = exe icE 226 (e_cmp .eq 1441 610 L S h) := icE_eq (i := .if_icmp .eq 834) (len := 3) (x1 := 1441) (x2 := 0) (x3 := 0) (x4 := 64) ((fe_226 607).trans rfl) L S h
set_option maxRecDepth 20000 in
theorem r_226_610 (L S : List Value) (h : icH) : icE 226 610 L S h = icE 226 611 L (.int (nI 0) :: S) h := icE_eq (i := .iconst 0) (len := 1) (x1 := 0) (x2 := 0) (x3 := 0) (x4 := 64) ((fe_226 610).trans rfl) L S h
set_option maxRecDepth 20000 in
theorem r_226_611 (L S : List Value) (h : icH) : icE 226 611 L S h = exe icE 226 (e_iret 1 L S h) := icE_eq (i := .ireturn) (len := 1) (x1 := 1) (x2 := 0) (x3 := 0) (x4 := 64) ((fe_226 611).trans rfl) L S h
set_option maxRecDepth 20000 in
theorem r_226_612 (L S : List Value) (h : icH) : icE 226 612 L S h = exe icE 226 (e_aload 1 613 L S h) := icE_eq (i := .aload_n 1) (len := 1) (x1 := 0) (x2 := 0) (x3 := 0) (x4 := 64) ((fe_226 612).trans rfl) L S h
set_option maxRecDepth 20000 in
theorem r_226_613 (L S : List Value) (h : icH) : icE 226 613 L S h = exe icE 226 (e_aload 0 614 L S h) := icE_eq (i := .aload_n 0) (len := 1) (x1 := 0) (x2 := 0) (x3 := 0) (x4 := 64) ((fe_226 613).trans rfl) L S h
set_option maxRecDepth 20000 in
theorem r_226_614 (L S : List Value) (h : icH) : icE 226 614 L S h = exe icE 226 (e_iload 3 615 L S h) := icE_eq (i := .iload_n 3) (len := 1) (x1 := 0) (x2 := 0) (x3 := 0) (x4 := 64) ((fe_226 614).trans rfl) L S h
set_option maxRecDepth 20000 in
theorem r_226_615 (L S : List Value) (h : icH) : icE 226 615 L S h = icE 226 616 L (.int (nI 1) :: S) h := icE_eq (i := .iconst 1) (len := 1) (x1 := 0) (x2 := 0) (x3 := 0) (x4 := 64) ((fe_226 615).trans rfl) L S h
set_option maxRecDepth 20000 in
theorem r_226_616 (L S : List Value) (h : icH) : icE 226 616 L S h = exe icE 226 (e_bin (fun x y => x + y) 617 L S h) := icE_eq (i := .iadd) (len := 1) (x1 := 0) (x2 := 0) (x3 := 0) (x4 := 64) ((fe_226 616).trans rfl) L S h
set_option maxRecDepth 20000 in
theorem r_226_617 (L S : List Value) (h : icH) : icE 226 617 L S h = exe icE 226 (e_iald 618 L S h) := icE_eq (i := .iaload) (len := 1) (x1 := 0) (x2 := 0) (x3 := 0) (x4 := 64) ((fe_226 617).trans rfl) L S h
set_option maxRecDepth 20000 in
theorem r_226_618 (L S : List Value) (h : icH) : icE 226 618 L S h = exe icE 226 (e_aload 0 619 L S h) := icE_eq (i := .aload_n 0) (len := 1) (x1 := 0) (x2 := 0) (x3 := 0) (x4 := 64) ((fe_226 618).trans rfl) L S h
set_option maxRecDepth 20000 in
theorem r_226_619 (L S : List Value) (h : icH) : icE 226 619 L S h = exe icE 226 (e_iload 3 620 L S h) := icE_eq (i := .iload_n 3) (len := 1) (x1 := 0) (x2 := 0) (x3 := 0) (x4 := 64) ((fe_226 619).trans rfl) L S h
set_option maxRecDepth 20000 in
theorem r_226_620 (L S : List Value) (h : icH) : icE 226 620 L S h = icE 226 621 L (.int (nI 2) :: S) h := icE_eq (i := .iconst 2) (len := 1) (x1 := 0) (x2 := 0) (x3 := 0) (x4 := 64) ((fe_226 620).trans rfl) L S h
set_option maxRecDepth 20000 in
theorem r_226_621 (L S : List Value) (h : icH) : icE 226 621 L S h = exe icE 226 (e_bin (fun x y => x + y) 622 L S h) := icE_eq (i := .iadd) (len := 1) (x1 := 0) (x2 := 0) (x3 := 0) (x4 := 64) ((fe_226 621).trans rfl) L S h
set_option maxRecDepth 20000 in
theorem r_226_622 (L S : List Value) (h : icH) : icE 226 622 L S h = exe icE 226 (e_iald 623 L S h) := icE_eq (i := .iaload) (len := 1) (x1 := 0) (x2 := 0) (x3 := 0) (x4 := 64) ((fe_226 622).trans rfl) L S h
set_option maxRecDepth 20000 in
theorem r_226_623 (L S : List Value) (h : icH) : icE 226 623 L S h = exe icE 226 (e_vcal 7 84 3 2 626 L S h) := icE_eq (i := .invokevirtual 74) (len := 3) (x1 := 84) (x2 := 3) (x3 := 7) (x4 := 657) ((fe_226 623).trans rfl) L S h
set_option maxRecDepth 20000 in
theorem r_226_626 (L S : List Value) (h : icH) : icE 226 626 L S h = exe icE 226 (e_aload 2 627 L S h) := icE_eq (i := .aload_n 2) (len := 1) (x1 := 0) (x2 := 0) (x3 := 0) (x4 := 64) ((fe_226 626).trans rfl) L S h
set_option maxRecDepth 20000 in
theorem r_226_627 (L S : List Value) (h : icH) : icE 226 627 L S h = exe icE 226 (e_aload 0 628 L S h) := icE_eq (i := .aload_n 0) (len := 1) (x1 := 0) (x2 := 0) (x3 := 0) (x4 := 64) ((fe_226 627).trans rfl) L S h
set_option maxRecDepth 20000 in
theorem r_226_628 (L S : List Value) (h : icH) : icE 226 628 L S h = exe icE 226 (e_iload 3 629 L S h) := icE_eq (i := .iload_n 3) (len := 1) (x1 := 0) (x2 := 0) (x3 := 0) (x4 := 64) ((fe_226 628).trans rfl) L S h
set_option maxRecDepth 20000 in
theorem r_226_629 (L S : List Value) (h : icH) : icE 226 629 L S h = icE 226 630 L (.int (nI 1) :: S) h := icE_eq (i := .iconst 1) (len := 1) (x1 := 0) (x2 := 0) (x3 := 0) (x4 := 64) ((fe_226 629).trans rfl) L S h
set_option maxRecDepth 20000 in
theorem r_226_630 (L S : List Value) (h : icH) : icE 226 630 L S h = exe icE 226 (e_bin (fun x y => x + y) 631 L S h) := icE_eq (i := .iadd) (len := 1) (x1 := 0) (x2 := 0) (x3 := 0) (x4 := 64) ((fe_226 630).trans rfl) L S h
set_option maxRecDepth 20000 in
theorem r_226_631 (L S : List Value) (h : icH) : icE 226 631 L S h = exe icE 226 (e_iald 632 L S h) := icE_eq (i := .iaload) (len := 1) (x1 := 0) (x2 := 0) (x3 := 0) (x4 := 64) ((fe_226 631).trans rfl) L S h
set_option maxRecDepth 20000 in
theorem r_226_632 (L S : List Value) (h : icH) : icE 226 632 L S h = exe icE 226 (e_aload 0 633 L S h) := icE_eq (i := .aload_n 0) (len := 1) (x1 := 0) (x2 := 0) (x3 := 0) (x4 := 64) ((fe_226 632).trans rfl) L S h
set_option maxRecDepth 20000 in
theorem r_226_633 (L S : List Value) (h : icH) : icE 226 633 L S h = exe icE 226 (e_iload 3 634 L S h) := icE_eq (i := .iload_n 3) (len := 1) (x1 := 0) (x2 := 0) (x3 := 0) (x4 := 64) ((fe_226 633).trans rfl) L S h
set_option maxRecDepth 20000 in
theorem r_226_634 (L S : List Value) (h : icH) : icE 226 634 L S h = icE 226 635 L (.int (nI 2) :: S) h := icE_eq (i := .iconst 2) (len := 1) (x1 := 0) (x2 := 0) (x3 := 0) (x4 := 64) ((fe_226 634).trans rfl) L S h
set_option maxRecDepth 20000 in
theorem r_226_635 (L S : List Value) (h : icH) : icE 226 635 L S h = exe icE 226 (e_bin (fun x y => x + y) 636 L S h) := icE_eq (i := .iadd) (len := 1) (x1 := 0) (x2 := 0) (x3 := 0) (x4 := 64) ((fe_226 635).trans rfl) L S h
set_option maxRecDepth 20000 in
theorem r_226_636 (L S : List Value) (h : icH) : icE 226 636 L S h = exe icE 226 (e_iald 637 L S h) := icE_eq (i := .iaload) (len := 1) (x1 := 0) (x2 := 0) (x3 := 0) (x4 := 64) ((fe_226 636).trans rfl) L S h
set_option maxRecDepth 20000 in
theorem r_226_637 (L S : List Value) (h : icH) : icE 226 637 L S h = exe icE 226 (e_vcal 8 178 3 2 640 L S h) := icE_eq (i := .invokevirtual 77) (len := 3) (x1 := 178) (x2 := 3) (x3 := 8) (x4 := 1194) ((fe_226 637).trans rfl) L S h
set_option maxRecDepth 20000 in
theorem r_226_640 (L S : List Value) (h : icH) : icE 226 640 L S h = exe icE 226 (e_cmp .eq 1441 643 L S h) := icE_eq (i := .if_icmp .eq 801) (len := 3) (x1 := 1441) (x2 := 0) (x3 := 0) (x4 := 64) ((fe_226 640).trans rfl) L S h
set_option maxRecDepth 20000 in
theorem r_226_643 (L S : List Value) (h : icH) : icE 226 643 L S h = icE 226 644 L (.int (nI 0) :: S) h := icE_eq (i := .iconst 0) (len := 1) (x1 := 0) (x2 := 0) (x3 := 0) (x4 := 64) ((fe_226 643).trans rfl) L S h
set_option maxRecDepth 20000 in
theorem r_226_644 (L S : List Value) (h : icH) : icE 226 644 L S h = exe icE 226 (e_iret 1 L S h) := icE_eq (i := .ireturn) (len := 1) (x1 := 1) (x2 := 0) (x3 := 0) (x4 := 64) ((fe_226 644).trans rfl) L S h
set_option maxRecDepth 20000 in
theorem r_226_645 (L S : List Value) (h : icH) : icE 226 645 L S h = exe icE 226 (e_aload 1 646 L S h) := icE_eq (i := .aload_n 1) (len := 1) (x1 := 0) (x2 := 0) (x3 := 0) (x4 := 64) ((fe_226 645).trans rfl) L S h
set_option maxRecDepth 20000 in
theorem r_226_646 (L S : List Value) (h : icH) : icE 226 646 L S h = exe icE 226 (e_aload 0 647 L S h) := icE_eq (i := .aload_n 0) (len := 1) (x1 := 0) (x2 := 0) (x3 := 0) (x4 := 64) ((fe_226 646).trans rfl) L S h
set_option maxRecDepth 20000 in
theorem r_226_647 (L S : List Value) (h : icH) : icE 226 647 L S h = exe icE 226 (e_iload 3 648 L S h) := icE_eq (i := .iload_n 3) (len := 1) (x1 := 0) (x2 := 0) (x3 := 0) (x4 := 64) ((fe_226 647).trans rfl) L S h
set_option maxRecDepth 20000 in
theorem r_226_648 (L S : List Value) (h : icH) : icE 226 648 L S h = icE 226 649 L (.int (nI 1) :: S) h := icE_eq (i := .iconst 1) (len := 1) (x1 := 0) (x2 := 0) (x3 := 0) (x4 := 64) ((fe_226 648).trans rfl) L S h
set_option maxRecDepth 20000 in
theorem r_226_649 (L S : List Value) (h : icH) : icE 226 649 L S h = exe icE 226 (e_bin (fun x y => x + y) 650 L S h) := icE_eq (i := .iadd) (len := 1) (x1 := 0) (x2 := 0) (x3 := 0) (x4 := 64) ((fe_226 649).trans rfl) L S h
set_option maxRecDepth 20000 in
theorem r_226_650 (L S : List Value) (h : icH) : icE 226 650 L S h = exe icE 226 (e_iald 651 L S h) := icE_eq (i := .iaload) (len := 1) (x1 := 0) (x2 := 0) (x3 := 0) (x4 := 64) ((fe_226 650).trans rfl) L S h
set_option maxRecDepth 20000 in
theorem r_226_651 (L S : List Value) (h : icH) : icE 226 651 L S h = exe icE 226 (e_vcal 7 85 2 1 654 L S h) := icE_eq (i := .invokevirtual 78) (len := 3) (x1 := 85) (x2 := 3) (x3 := 7) (x4 := 665) ((fe_226 651).trans rfl) L S h
set_option maxRecDepth 20000 in
theorem r_226_654 (L S : List Value) (h : icH) : icE 226 654 L S h = exe icE 226 (e_aload 2 655 L S h) := icE_eq (i := .aload_n 2) (len := 1) (x1 := 0) (x2 := 0) (x3 := 0) (x4 := 64) ((fe_226 654).trans rfl) L S h
set_option maxRecDepth 20000 in
theorem r_226_655 (L S : List Value) (h : icH) : icE 226 655 L S h = exe icE 226 (e_aload 0 656 L S h) := icE_eq (i := .aload_n 0) (len := 1) (x1 := 0) (x2 := 0) (x3 := 0) (x4 := 64) ((fe_226 655).trans rfl) L S h
set_option maxRecDepth 20000 in
theorem r_226_656 (L S : List Value) (h : icH) : icE 226 656 L S h = exe icE 226 (e_iload 3 657 L S h) := icE_eq (i := .iload_n 3) (len := 1) (x1 := 0) (x2 := 0) (x3 := 0) (x4 := 64) ((fe_226 656).trans rfl) L S h
set_option maxRecDepth 20000 in
theorem r_226_657 (L S : List Value) (h : icH) : icE 226 657 L S h = icE 226 658 L (.int (nI 1) :: S) h := icE_eq (i := .iconst 1) (len := 1) (x1 := 0) (x2 := 0) (x3 := 0) (x4 := 64) ((fe_226 657).trans rfl) L S h
set_option maxRecDepth 20000 in
theorem r_226_658 (L S : List Value) (h : icH) : icE 226 658 L S h = exe icE 226 (e_bin (fun x y => x + y) 659 L S h) := icE_eq (i := .iadd) (len := 1) (x1 := 0) (x2 := 0) (x3 := 0) (x4 := 64) ((fe_226 658).trans rfl) L S h
set_option maxRecDepth 20000 in
theorem r_226_659 (L S : List Value) (h : icH) : icE 226 659 L S h = exe icE 226 (e_iald 660 L S h) := icE_eq (i := .iaload) (len := 1) (x1 := 0) (x2 := 0) (x3 := 0) (x4 := 64) ((fe_226 659).trans rfl) L S h
set_option maxRecDepth 20000 in
theorem r_226_660 (L S : List Value) (h : icH) : icE 226 660 L S h = exe icE 226 (e_vcal 8 179 2 1 663 L S h) := icE_eq (i := .invokevirtual 81) (len := 3) (x1 := 179) (x2 := 3) (x3 := 8) (x4 := 1199) ((fe_226 660).trans rfl) L S h
set_option maxRecDepth 20000 in
theorem r_226_663 (L S : List Value) (h : icH) : icE 226 663 L S h = exe icE 226 (e_cmp .eq 1441 666 L S h) := icE_eq (i := .if_icmp .eq 778) (len := 3) (x1 := 1441) (x2 := 0) (x3 := 0) (x4 := 64) ((fe_226 663).trans rfl) L S h
set_option maxRecDepth 20000 in
theorem r_226_666 (L S : List Value) (h : icH) : icE 226 666 L S h = icE 226 667 L (.int (nI 0) :: S) h := icE_eq (i := .iconst 0) (len := 1) (x1 := 0) (x2 := 0) (x3 := 0) (x4 := 64) ((fe_226 666).trans rfl) L S h
set_option maxRecDepth 20000 in
theorem r_226_667 (L S : List Value) (h : icH) : icE 226 667 L S h = exe icE 226 (e_iret 1 L S h) := icE_eq (i := .ireturn) (len := 1) (x1 := 1) (x2 := 0) (x3 := 0) (x4 := 64) ((fe_226 667).trans rfl) L S h
set_option maxRecDepth 20000 in
theorem r_226_668 (L S : List Value) (h : icH) : icE 226 668 L S h = exe icE 226 (e_aload 1 669 L S h) := icE_eq (i := .aload_n 1) (len := 1) (x1 := 0) (x2 := 0) (x3 := 0) (x4 := 64) ((fe_226 668).trans rfl) L S h
set_option maxRecDepth 20000 in
theorem r_226_669 (L S : List Value) (h : icH) : icE 226 669 L S h = exe icE 226 (e_aload 0 670 L S h) := icE_eq (i := .aload_n 0) (len := 1) (x1 := 0) (x2 := 0) (x3 := 0) (x4 := 64) ((fe_226 669).trans rfl) L S h
set_option maxRecDepth 20000 in
theorem r_226_670 (L S : List Value) (h : icH) : icE 226 670 L S h = exe icE 226 (e_iload 3 671 L S h) := icE_eq (i := .iload_n 3) (len := 1) (x1 := 0) (x2 := 0) (x3 := 0) (x4 := 64) ((fe_226 670).trans rfl) L S h
set_option maxRecDepth 20000 in
theorem r_226_671 (L S : List Value) (h : icH) : icE 226 671 L S h = icE 226 672 L (.int (nI 1) :: S) h := icE_eq (i := .iconst 1) (len := 1) (x1 := 0) (x2 := 0) (x3 := 0) (x4 := 64) ((fe_226 671).trans rfl) L S h
set_option maxRecDepth 20000 in
theorem r_226_672 (L S : List Value) (h : icH) : icE 226 672 L S h = exe icE 226 (e_bin (fun x y => x + y) 673 L S h) := icE_eq (i := .iadd) (len := 1) (x1 := 0) (x2 := 0) (x3 := 0) (x4 := 64) ((fe_226 672).trans rfl) L S h
set_option maxRecDepth 20000 in
theorem r_226_673 (L S : List Value) (h : icH) : icE 226 673 L S h = exe icE 226 (e_iald 674 L S h) := icE_eq (i := .iaload) (len := 1) (x1 := 0) (x2 := 0) (x3 := 0) (x4 := 64) ((fe_226 673).trans rfl) L S h
set_option maxRecDepth 20000 in
theorem r_226_674 (L S : List Value) (h : icH) : icE 226 674 L S h = exe icE 226 (e_aload 0 675 L S h) := icE_eq (i := .aload_n 0) (len := 1) (x1 := 0) (x2 := 0) (x3 := 0) (x4 := 64) ((fe_226 674).trans rfl) L S h
set_option maxRecDepth 20000 in
theorem r_226_675 (L S : List Value) (h : icH) : icE 226 675 L S h = exe icE 226 (e_iload 3 676 L S h) := icE_eq (i := .iload_n 3) (len := 1) (x1 := 0) (x2 := 0) (x3 := 0) (x4 := 64) ((fe_226 675).trans rfl) L S h
set_option maxRecDepth 20000 in
theorem r_226_676 (L S : List Value) (h : icH) : icE 226 676 L S h = icE 226 677 L (.int (nI 2) :: S) h := icE_eq (i := .iconst 2) (len := 1) (x1 := 0) (x2 := 0) (x3 := 0) (x4 := 64) ((fe_226 676).trans rfl) L S h
set_option maxRecDepth 20000 in
theorem r_226_677 (L S : List Value) (h : icH) : icE 226 677 L S h = exe icE 226 (e_bin (fun x y => x + y) 678 L S h) := icE_eq (i := .iadd) (len := 1) (x1 := 0) (x2 := 0) (x3 := 0) (x4 := 64) ((fe_226 677).trans rfl) L S h
set_option maxRecDepth 20000 in
theorem r_226_678 (L S : List Value) (h : icH) : icE 226 678 L S h = exe icE 226 (e_iald 679 L S h) := icE_eq (i := .iaload) (len := 1) (x1 := 0) (x2 := 0) (x3 := 0) (x4 := 64) ((fe_226 678).trans rfl) L S h
set_option maxRecDepth 20000 in
theorem r_226_679 (L S : List Value) (h : icH) : icE 226 679 L S h = exe icE 226 (e_aload 0 680 L S h) := icE_eq (i := .aload_n 0) (len := 1) (x1 := 0) (x2 := 0) (x3 := 0) (x4 := 64) ((fe_226 679).trans rfl) L S h
set_option maxRecDepth 20000 in
theorem r_226_680 (L S : List Value) (h : icH) : icE 226 680 L S h = exe icE 226 (e_iload 3 681 L S h) := icE_eq (i := .iload_n 3) (len := 1) (x1 := 0) (x2 := 0) (x3 := 0) (x4 := 64) ((fe_226 680).trans rfl) L S h
set_option maxRecDepth 20000 in
theorem r_226_681 (L S : List Value) (h : icH) : icE 226 681 L S h = icE 226 682 L (.int (nI 3) :: S) h := icE_eq (i := .iconst 3) (len := 1) (x1 := 0) (x2 := 0) (x3 := 0) (x4 := 64) ((fe_226 681).trans rfl) L S h
set_option maxRecDepth 20000 in
theorem r_226_682 (L S : List Value) (h : icH) : icE 226 682 L S h = exe icE 226 (e_bin (fun x y => x + y) 683 L S h) := icE_eq (i := .iadd) (len := 1) (x1 := 0) (x2 := 0) (x3 := 0) (x4 := 64) ((fe_226 682).trans rfl) L S h
set_option maxRecDepth 20000 in
theorem r_226_683 (L S : List Value) (h : icH) : icE 226 683 L S h = exe icE 226 (e_iald 684 L S h) := icE_eq (i := .iaload) (len := 1) (x1 := 0) (x2 := 0) (x3 := 0) (x4 := 64) ((fe_226 683).trans rfl) L S h
set_option maxRecDepth 20000 in
theorem r_226_684 (L S : List Value) (h : icH) : icE 226 684 L S h = exe icE 226 (e_vcal 7 86 5 3 687 L S h) := icE_eq (i := .invokevirtual 82) (len := 3) (x1 := 86) (x2 := 3) (x3 := 7) (x4 := 669) ((fe_226 684).trans rfl) L S h
set_option maxRecDepth 20000 in
theorem r_226_687 (L S : List Value) (h : icH) : icE 226 687 L S h = exe icE 226 (e_aload 2 688 L S h) := icE_eq (i := .aload_n 2) (len := 1) (x1 := 0) (x2 := 0) (x3 := 0) (x4 := 64) ((fe_226 687).trans rfl) L S h
set_option maxRecDepth 20000 in
theorem r_226_688 (L S : List Value) (h : icH) : icE 226 688 L S h = exe icE 226 (e_aload 0 689 L S h) := icE_eq (i := .aload_n 0) (len := 1) (x1 := 0) (x2 := 0) (x3 := 0) (x4 := 64) ((fe_226 688).trans rfl) L S h
set_option maxRecDepth 20000 in
theorem r_226_689 (L S : List Value) (h : icH) : icE 226 689 L S h = exe icE 226 (e_iload 3 690 L S h) := icE_eq (i := .iload_n 3) (len := 1) (x1 := 0) (x2 := 0) (x3 := 0) (x4 := 64) ((fe_226 689).trans rfl) L S h
set_option maxRecDepth 20000 in
theorem r_226_690 (L S : List Value) (h : icH) : icE 226 690 L S h = icE 226 691 L (.int (nI 1) :: S) h := icE_eq (i := .iconst 1) (len := 1) (x1 := 0) (x2 := 0) (x3 := 0) (x4 := 64) ((fe_226 690).trans rfl) L S h
set_option maxRecDepth 20000 in
theorem r_226_691 (L S : List Value) (h : icH) : icE 226 691 L S h = exe icE 226 (e_bin (fun x y => x + y) 692 L S h) := icE_eq (i := .iadd) (len := 1) (x1 := 0) (x2 := 0) (x3 := 0) (x4 := 64) ((fe_226 691).trans rfl) L S h
set_option maxRecDepth 20000 in
theorem r_226_692 (L S : List Value) (h : icH) : icE 226 692 L S h = exe icE 226 (e_iald 693 L S h) := icE_eq (i := .iaload) (len := 1) (x1 := 0) (x2 := 0) (x3 := 0) (x4 := 64) ((fe_226 692).trans rfl) L S h
set_option maxRecDepth 20000 in
theorem r_226_693 (L S : List Value) (h : icH) : icE 226 693 L S h = exe icE 226 (e_aload 0 694 L S h) := icE_eq (i := .aload_n 0) (len := 1) (x1 := 0) (x2 := 0) (x3 := 0) (x4 := 64) ((fe_226 693).trans rfl) L S h
set_option maxRecDepth 20000 in
theorem r_226_694 (L S : List Value) (h : icH) : icE 226 694 L S h = exe icE 226 (e_iload 3 695 L S h) := icE_eq (i := .iload_n 3) (len := 1) (x1 := 0) (x2 := 0) (x3 := 0) (x4 := 64) ((fe_226 694).trans rfl) L S h
set_option maxRecDepth 20000 in
theorem r_226_695 (L S : List Value) (h : icH) : icE 226 695 L S h = icE 226 696 L (.int (nI 2) :: S) h := icE_eq (i := .iconst 2) (len := 1) (x1 := 0) (x2 := 0) (x3 := 0) (x4 := 64) ((fe_226 695).trans rfl) L S h
set_option maxRecDepth 20000 in
theorem r_226_696 (L S : List Value) (h : icH) : icE 226 696 L S h = exe icE 226 (e_bin (fun x y => x + y) 697 L S h) := icE_eq (i := .iadd) (len := 1) (x1 := 0) (x2 := 0) (x3 := 0) (x4 := 64) ((fe_226 696).trans rfl) L S h
set_option maxRecDepth 20000 in
theorem r_226_697 (L S : List Value) (h : icH) : icE 226 697 L S h = exe icE 226 (e_iald 698 L S h) := icE_eq (i := .iaload) (len := 1) (x1 := 0) (x2 := 0) (x3 := 0) (x4 := 64) ((fe_226 697).trans rfl) L S h
set_option maxRecDepth 20000 in
theorem r_226_698 (L S : List Value) (h : icH) : icE 226 698 L S h = exe icE 226 (e_aload 0 699 L S h) := icE_eq (i := .aload_n 0) (len := 1) (x1 := 0) (x2 := 0) (x3 := 0) (x4 := 64) ((fe_226 698).trans rfl) L S h
set_option maxRecDepth 20000 in
theorem r_226_699 (L S : List Value) (h : icH) : icE 226 699 L S h = exe icE 226 (e_iload 3 700 L S h) := icE_eq (i := .iload_n 3) (len := 1) (x1 := 0) (x2 := 0) (x3 := 0) (x4 := 64) ((fe_226 699).trans rfl) L S h
set_option maxRecDepth 20000 in
theorem r_226_700 (L S : List Value) (h : icH) : icE 226 700 L S h = icE 226 701 L (.int (nI 3) :: S) h := icE_eq (i := .iconst 3) (len := 1) (x1 := 0) (x2 := 0) (x3 := 0) (x4 := 64) ((fe_226 700).trans rfl) L S h
set_option maxRecDepth 20000 in
theorem r_226_701 (L S : List Value) (h : icH) : icE 226 701 L S h = exe icE 226 (e_bin (fun x y => x + y) 702 L S h) := icE_eq (i := .iadd) (len := 1) (x1 := 0) (x2 := 0) (x3 := 0) (x4 := 64) ((fe_226 701).trans rfl) L S h
set_option maxRecDepth 20000 in
theorem r_226_702 (L S : List Value) (h : icH) : icE 226 702 L S h = exe icE 226 (e_iald 703 L S h) := icE_eq (i := .iaload) (len := 1) (x1 := 0) (x2 := 0) (x3 := 0) (x4 := 64) ((fe_226 702).trans rfl) L S h
set_option maxRecDepth 20000 in
theorem r_226_703 (L S : List Value) (h : icH) : icE 226 703 L S h = exe icE 226 (e_vcal 8 181 5 3 706 L S h) := icE_eq (i := .invokevirtual 85) (len := 3) (x1 := 181) (x2 := 3) (x3 := 8) (x4 := 1203) ((fe_226 703).trans rfl) L S h
set_option maxRecDepth 20000 in
theorem r_226_706 (L S : List Value) (h : icH) : icE 226 706 L S h = exe icE 226 (e_cmp .eq 1441 709 L S h) := icE_eq (i := .if_icmp .eq 735) (len := 3) (x1 := 1441) (x2 := 0) (x3 := 0) (x4 := 64) ((fe_226 706).trans rfl) L S h
set_option maxRecDepth 20000 in
theorem r_226_709 (L S : List Value) (h : icH) : icE 226 709 L S h = icE 226 710 L (.int (nI 0) :: S) h := icE_eq (i := .iconst 0) (len := 1) (x1 := 0) (x2 := 0) (x3 := 0) (x4 := 64) ((fe_226 709).trans rfl) L S h
set_option maxRecDepth 20000 in
theorem r_226_710 (L S : List Value) (h : icH) : icE 226 710 L S h = exe icE 226 (e_iret 1 L S h) := icE_eq (i := .ireturn) (len := 1) (x1 := 1) (x2 := 0) (x3 := 0) (x4 := 64) ((fe_226 710).trans rfl) L S h
set_option maxRecDepth 20000 in
theorem r_226_711 (L S : List Value) (h : icH) : icE 226 711 L S h = exe icE 226 (e_aload 1 712 L S h) := icE_eq (i := .aload_n 1) (len := 1) (x1 := 0) (x2 := 0) (x3 := 0) (x4 := 64) ((fe_226 711).trans rfl) L S h
set_option maxRecDepth 20000 in
theorem r_226_712 (L S : List Value) (h : icH) : icE 226 712 L S h = exe icE 226 (e_aload 0 713 L S h) := icE_eq (i := .aload_n 0) (len := 1) (x1 := 0) (x2 := 0) (x3 := 0) (x4 := 64) ((fe_226 712).trans rfl) L S h
set_option maxRecDepth 20000 in
theorem r_226_713 (L S : List Value) (h : icH) : icE 226 713 L S h = exe icE 226 (e_iload 3 714 L S h) := icE_eq (i := .iload_n 3) (len := 1) (x1 := 0) (x2 := 0) (x3 := 0) (x4 := 64) ((fe_226 713).trans rfl) L S h
set_option maxRecDepth 20000 in
theorem r_226_714 (L S : List Value) (h : icH) : icE 226 714 L S h = icE 226 715 L (.int (nI 1) :: S) h := icE_eq (i := .iconst 1) (len := 1) (x1 := 0) (x2 := 0) (x3 := 0) (x4 := 64) ((fe_226 714).trans rfl) L S h
set_option maxRecDepth 20000 in
theorem r_226_715 (L S : List Value) (h : icH) : icE 226 715 L S h = exe icE 226 (e_bin (fun x y => x + y) 716 L S h) := icE_eq (i := .iadd) (len := 1) (x1 := 0) (x2 := 0) (x3 := 0) (x4 := 64) ((fe_226 715).trans rfl) L S h
set_option maxRecDepth 20000 in
theorem r_226_716 (L S : List Value) (h : icH) : icE 226 716 L S h = exe icE 226 (e_iald 717 L S h) := icE_eq (i := .iaload) (len := 1) (x1 := 0) (x2 := 0) (x3 := 0) (x4 := 64) ((fe_226 716).trans rfl) L S h
set_option maxRecDepth 20000 in
theorem r_226_717 (L S : List Value) (h : icH) : icE 226 717 L S h = exe icE 226 (e_vcal 7 87 2 1 720 L S h) := icE_eq (i := .invokevirtual 86) (len := 3) (x1 := 87) (x2 := 3) (x3 := 7) (x4 := 674) ((fe_226 717).trans rfl) L S h
set_option maxRecDepth 20000 in
theorem r_226_720 (L S : List Value) (h : icH) : icE 226 720 L S h = exe icE 226 (e_aload 2 721 L S h) := icE_eq (i := .aload_n 2) (len := 1) (x1 := 0) (x2 := 0) (x3 := 0) (x4 := 64) ((fe_226 720).trans rfl) L S h
set_option maxRecDepth 20000 in
theorem r_226_721 (L S : List Value) (h : icH) : icE 226 721 L S h = exe icE 226 (e_aload 0 722 L S h) := icE_eq (i := .aload_n 0) (len := 1) (x1 := 0) (x2 := 0) (x3 := 0) (x4 := 64) ((fe_226 721).trans rfl) L S h
set_option maxRecDepth 20000 in
theorem r_226_722 (L S : List Value) (h : icH) : icE 226 722 L S h = exe icE 226 (e_iload 3 723 L S h) := icE_eq (i := .iload_n 3) (len := 1) (x1 := 0) (x2 := 0) (x3 := 0) (x4 := 64) ((fe_226 722).trans rfl) L S h
set_option maxRecDepth 20000 in
theorem r_226_723 (L S : List Value) (h : icH) : icE 226 723 L S h = icE 226 724 L (.int (nI 1) :: S) h := icE_eq (i := .iconst 1) (len := 1) (x1 := 0) (x2 := 0) (x3 := 0) (x4 := 64) ((fe_226 723).trans rfl) L S h
set_option maxRecDepth 20000 in
theorem r_226_724 (L S : List Value) (h : icH) : icE 226 724 L S h = exe icE 226 (e_bin (fun x y => x + y) 725 L S h) := icE_eq (i := .iadd) (len := 1) (x1 := 0) (x2 := 0) (x3 := 0) (x4 := 64) ((fe_226 724).trans rfl) L S h
set_option maxRecDepth 20000 in
theorem r_226_725 (L S : List Value) (h : icH) : icE 226 725 L S h = exe icE 226 (e_iald 726 L S h) := icE_eq (i := .iaload) (len := 1) (x1 := 0) (x2 := 0) (x3 := 0) (x4 := 64) ((fe_226 725).trans rfl) L S h
set_option maxRecDepth 20000 in
theorem r_226_726 (L S : List Value) (h : icH) : icE 226 726 L S h = exe icE 226 (e_vcal 8 183 2 1 729 L S h) := icE_eq (i := .invokevirtual 89) (len := 3) (x1 := 183) (x2 := 3) (x3 := 8) (x4 := 1211) ((fe_226 726).trans rfl) L S h
set_option maxRecDepth 20000 in
theorem r_226_729 (L S : List Value) (h : icH) : icE 226 729 L S h = exe icE 226 (e_cmp .eq 1441 732 L S h) := icE_eq (i := .if_icmp .eq 712) (len := 3) (x1 := 1441) (x2 := 0) (x3 := 0) (x4 := 64) ((fe_226 729).trans rfl) L S h
set_option maxRecDepth 20000 in
theorem r_226_732 (L S : List Value) (h : icH) : icE 226 732 L S h = icE 226 733 L (.int (nI 0) :: S) h := icE_eq (i := .iconst 0) (len := 1) (x1 := 0) (x2 := 0) (x3 := 0) (x4 := 64) ((fe_226 732).trans rfl) L S h
set_option maxRecDepth 20000 in
theorem r_226_733 (L S : List Value) (h : icH) : icE 226 733 L S h = exe icE 226 (e_iret 1 L S h) := icE_eq (i := .ireturn) (len := 1) (x1 := 1) (x2 := 0) (x3 := 0) (x4 := 64) ((fe_226 733).trans rfl) L S h
set_option maxRecDepth 20000 in
theorem r_226_734 (L S : List Value) (h : icH) : icE 226 734 L S h = exe icE 226 (e_aload 1 735 L S h) := icE_eq (i := .aload_n 1) (len := 1) (x1 := 0) (x2 := 0) (x3 := 0) (x4 := 64) ((fe_226 734).trans rfl) L S h
set_option maxRecDepth 20000 in
theorem r_226_735 (L S : List Value) (h : icH) : icE 226 735 L S h = exe icE 226 (e_vcal 7 88 3 0 738 L S h) := icE_eq (i := .invokevirtual 90) (len := 3) (x1 := 88) (x2 := 3) (x3 := 7) (x4 := 687) ((fe_226 735).trans rfl) L S h
set_option maxRecDepth 20000 in
theorem r_226_738 (L S : List Value) (h : icH) : icE 226 738 L S h = exe icE 226 (e_aload 2 739 L S h) := icE_eq (i := .aload_n 2) (len := 1) (x1 := 0) (x2 := 0) (x3 := 0) (x4 := 64) ((fe_226 738).trans rfl) L S h
set_option maxRecDepth 20000 in
theorem r_226_739 (L S : List Value) (h : icH) : icE 226 739 L S h = exe icE 226 (e_vcal 8 184 4 0 742 L S h) := icE_eq (i := .invokevirtual 93) (len := 3) (x1 := 184) (x2 := 3) (x3 := 8) (x4 := 1219) ((fe_226 739).trans rfl) L S h
set_option maxRecDepth 20000 in
theorem r_226_742 (L S : List Value) (h : icH) : icE 226 742 L S h = exe icE 226 (e_cmp .eq 1441 745 L S h) := icE_eq (i := .if_icmp .eq 699) (len := 3) (x1 := 1441) (x2 := 0) (x3 := 0) (x4 := 64) ((fe_226 742).trans rfl) L S h
set_option maxRecDepth 20000 in
theorem r_226_745 (L S : List Value) (h : icH) : icE 226 745 L S h = icE 226 746 L (.int (nI 0) :: S) h := icE_eq (i := .iconst 0) (len := 1) (x1 := 0) (x2 := 0) (x3 := 0) (x4 := 64) ((fe_226 745).trans rfl) L S h
set_option maxRecDepth 20000 in
theorem r_226_746 (L S : List Value) (h : icH) : icE 226 746 L S h = exe icE 226 (e_iret 1 L S h) := icE_eq (i := .ireturn) (len := 1) (x1 := 1) (x2 := 0) (x3 := 0) (x4 := 64) ((fe_226 746).trans rfl) L S h
set_option maxRecDepth 20000 in
theorem r_226_747 (L S : List Value) (h : icH) : icE 226 747 L S h = exe icE 226 (e_aload 1 748 L S h) := icE_eq (i := .aload_n 1) (len := 1) (x1 := 0) (x2 := 0) (x3 := 0) (x4 := 64) ((fe_226 747).trans rfl) L S h
set_option maxRecDepth 20000 in
theorem r_226_748 (L S : List Value) (h : icH) : icE 226 748 L S h = exe icE 226 (e_aload 0 749 L S h) := icE_eq (i := .aload_n 0) (len := 1) (x1 := 0) (x2 := 0) (x3 := 0) (x4 := 64) ((fe_226 748).trans rfl) L S h
set_option maxRecDepth 20000 in
theorem r_226_749 (L S : List Value) (h : icH) : icE 226 749 L S h = exe icE 226 (e_iload 3 750 L S h) := icE_eq (i := .iload_n 3) (len := 1) (x1 := 0) (x2 := 0) (x3 := 0) (x4 := 64) ((fe_226 749).trans rfl) L S h
set_option maxRecDepth 20000 in
theorem r_226_750 (L S : List Value) (h : icH) : icE 226 750 L S h = icE 226 751 L (.int (nI 1) :: S) h := icE_eq (i := .iconst 1) (len := 1) (x1 := 0) (x2 := 0) (x3 := 0) (x4 := 64) ((fe_226 750).trans rfl) L S h
set_option maxRecDepth 20000 in
theorem r_226_751 (L S : List Value) (h : icH) : icE 226 751 L S h = exe icE 226 (e_bin (fun x y => x + y) 752 L S h) := icE_eq (i := .iadd) (len := 1) (x1 := 0) (x2 := 0) (x3 := 0) (x4 := 64) ((fe_226 751).trans rfl) L S h
set_option maxRecDepth 20000 in
theorem r_226_752 (L S : List Value) (h : icH) : icE 226 752 L S h = exe icE 226 (e_iald 753 L S h) := icE_eq (i := .iaload) (len := 1) (x1 := 0) (x2 := 0) (x3 := 0) (x4 := 64) ((fe_226 752).trans rfl) L S h
set_option maxRecDepth 20000 in
theorem r_226_753 (L S : List Value) (h : icH) : icE 226 753 L S h = exe icE 226 (e_vcal 7 89 4 1 756 L S h) := icE_eq (i := .invokevirtual 94) (len := 3) (x1 := 89) (x2 := 3) (x3 := 7) (x4 := 691) ((fe_226 753).trans rfl) L S h
set_option maxRecDepth 20000 in
theorem r_226_756 (L S : List Value) (h : icH) : icE 226 756 L S h = exe icE 226 (e_aload 2 757 L S h) := icE_eq (i := .aload_n 2) (len := 1) (x1 := 0) (x2 := 0) (x3 := 0) (x4 := 64) ((fe_226 756).trans rfl) L S h
set_option maxRecDepth 20000 in
theorem r_226_757 (L S : List Value) (h : icH) : icE 226 757 L S h = exe icE 226 (e_aload 0 758 L S h) := icE_eq (i := .aload_n 0) (len := 1) (x1 := 0) (x2 := 0) (x3 := 0) (x4 := 64) ((fe_226 757).trans rfl) L S h
set_option maxRecDepth 20000 in
theorem r_226_758 (L S : List Value) (h : icH) : icE 226 758 L S h = exe icE 226 (e_iload 3 759 L S h) := icE_eq (i := .iload_n 3) (len := 1) (x1 := 0) (x2 := 0) (x3 := 0) (x4 := 64) ((fe_226 758).trans rfl) L S h
set_option maxRecDepth 20000 in
theorem r_226_759 (L S : List Value) (h : icH) : icE 226 759 L S h = icE 226 760 L (.int (nI 1) :: S) h := icE_eq (i := .iconst 1) (len := 1) (x1 := 0) (x2 := 0) (x3 := 0) (x4 := 64) ((fe_226 759).trans rfl) L S h
set_option maxRecDepth 20000 in
theorem r_226_760 (L S : List Value) (h : icH) : icE 226 760 L S h = exe icE 226 (e_bin (fun x y => x + y) 761 L S h) := icE_eq (i := .iadd) (len := 1) (x1 := 0) (x2 := 0) (x3 := 0) (x4 := 64) ((fe_226 760).trans rfl) L S h
set_option maxRecDepth 20000 in
theorem r_226_761 (L S : List Value) (h : icH) : icE 226 761 L S h = exe icE 226 (e_iald 762 L S h) := icE_eq (i := .iaload) (len := 1) (x1 := 0) (x2 := 0) (x3 := 0) (x4 := 64) ((fe_226 761).trans rfl) L S h
set_option maxRecDepth 20000 in
theorem r_226_762 (L S : List Value) (h : icH) : icE 226 762 L S h = exe icE 226 (e_vcal 8 185 6 1 765 L S h) := icE_eq (i := .invokevirtual 97) (len := 3) (x1 := 185) (x2 := 3) (x3 := 8) (x4 := 1223) ((fe_226 762).trans rfl) L S h
set_option maxRecDepth 20000 in
theorem r_226_765 (L S : List Value) (h : icH) : icE 226 765 L S h = exe icE 226 (e_cmp .eq 1441 768 L S h) := icE_eq (i := .if_icmp .eq 676) (len := 3) (x1 := 1441) (x2 := 0) (x3 := 0) (x4 := 64) ((fe_226 765).trans rfl) L S h
set_option maxRecDepth 20000 in
theorem r_226_768 (L S : List Value) (h : icH) : icE 226 768 L S h = icE 226 769 L (.int (nI 0) :: S) h := icE_eq (i := .iconst 0) (len := 1) (x1 := 0) (x2 := 0) (x3 := 0) (x4 := 64) ((fe_226 768).trans rfl) L S h
set_option maxRecDepth 20000 in
theorem r_226_769 (L S : List Value) (h : icH) : icE 226 769 L S h = exe icE 226 (e_iret 1 L S h) := icE_eq (i := .ireturn) (len := 1) (x1 := 1) (x2 := 0) (x3 := 0) (x4 := 64) ((fe_226 769).trans rfl) L S h
set_option maxRecDepth 20000 in
theorem r_226_770 (L S : List Value) (h : icH) : icE 226 770 L S h = exe icE 226 (e_aload 1 771 L S h) := icE_eq (i := .aload_n 1) (len := 1) (x1 := 0) (x2 := 0) (x3 := 0) (x4 := 64) ((fe_226 770).trans rfl) L S h
set_option maxRecDepth 20000 in
theorem r_226_771 (L S : List Value) (h : icH) : icE 226 771 L S h = exe icE 226 (e_vcal 7 90 2 0 774 L S h) := icE_eq (i := .invokevirtual 98) (len := 3) (x1 := 90) (x2 := 3) (x3 := 7) (x4 := 703) ((fe_226 771).trans rfl) L S h
set_option maxRecDepth 20000 in
theorem r_226_774 (L S : List Value) (h : icH) : icE 226 774 L S h = exe icE 226 (e_aload 2 775 L S h) := icE_eq (i := .aload_n 2) (len := 1) (x1 := 0) (x2 := 0) (x3 := 0) (x4 := 64) ((fe_226 774).trans rfl) L S h
set_option maxRecDepth 20000 in
theorem r_226_775 (L S : List Value) (h : icH) : icE 226 775 L S h = exe icE 226 (e_vcal 8 186 4 0 778 L S h) := icE_eq (i := .invokevirtual 101) (len := 3) (x1 := 186) (x2 := 3) (x3 := 8) (x4 := 1227) ((fe_226 775).trans rfl) L S h
set_option maxRecDepth 20000 in
theorem r_226_778 (L S : List Value) (h : icH) : icE 226 778 L S h = exe icE 226 (e_cmp .eq 1441 781 L S h) := icE_eq (i := .if_icmp .eq 663) (len := 3) (x1 := 1441) (x2 := 0) (x3 := 0) (x4 := 64) ((fe_226 778).trans rfl) L S h
set_option maxRecDepth 20000 in
theorem r_226_781 (L S : List Value) (h : icH) : icE 226 781 L S h = icE 226 782 L (.int (nI 0) :: S) h := icE_eq (i := .iconst 0) (len := 1) (x1 := 0) (x2 := 0) (x3 := 0) (x4 := 64) ((fe_226 781).trans rfl) L S h
set_option maxRecDepth 20000 in
theorem r_226_782 (L S : List Value) (h : icH) : icE 226 782 L S h = exe icE 226 (e_iret 1 L S h) := icE_eq (i := .ireturn) (len := 1) (x1 := 1) (x2 := 0) (x3 := 0) (x4 := 64) ((fe_226 782).trans rfl) L S h
set_option maxRecDepth 20000 in
theorem r_226_783 (L S : List Value) (h : icH) : icE 226 783 L S h = exe icE 226 (e_aload 1 784 L S h) := icE_eq (i := .aload_n 1) (len := 1) (x1 := 0) (x2 := 0) (x3 := 0) (x4 := 64) ((fe_226 783).trans rfl) L S h
set_option maxRecDepth 20000 in
theorem r_226_784 (L S : List Value) (h : icH) : icE 226 784 L S h = exe icE 226 (e_aload 0 785 L S h) := icE_eq (i := .aload_n 0) (len := 1) (x1 := 0) (x2 := 0) (x3 := 0) (x4 := 64) ((fe_226 784).trans rfl) L S h
set_option maxRecDepth 20000 in
theorem r_226_785 (L S : List Value) (h : icH) : icE 226 785 L S h = exe icE 226 (e_iload 3 786 L S h) := icE_eq (i := .iload_n 3) (len := 1) (x1 := 0) (x2 := 0) (x3 := 0) (x4 := 64) ((fe_226 785).trans rfl) L S h
set_option maxRecDepth 20000 in
theorem r_226_786 (L S : List Value) (h : icH) : icE 226 786 L S h = icE 226 787 L (.int (nI 1) :: S) h := icE_eq (i := .iconst 1) (len := 1) (x1 := 0) (x2 := 0) (x3 := 0) (x4 := 64) ((fe_226 786).trans rfl) L S h
set_option maxRecDepth 20000 in
theorem r_226_787 (L S : List Value) (h : icH) : icE 226 787 L S h = exe icE 226 (e_bin (fun x y => x + y) 788 L S h) := icE_eq (i := .iadd) (len := 1) (x1 := 0) (x2 := 0) (x3 := 0) (x4 := 64) ((fe_226 787).trans rfl) L S h
set_option maxRecDepth 20000 in
theorem r_226_788 (L S : List Value) (h : icH) : icE 226 788 L S h = exe icE 226 (e_iald 789 L S h) := icE_eq (i := .iaload) (len := 1) (x1 := 0) (x2 := 0) (x3 := 0) (x4 := 64) ((fe_226 788).trans rfl) L S h
set_option maxRecDepth 20000 in
theorem r_226_789 (L S : List Value) (h : icH) : icE 226 789 L S h = exe icE 226 (e_vcal 7 91 3 1 792 L S h) := icE_eq (i := .invokevirtual 102) (len := 3) (x1 := 91) (x2 := 3) (x3 := 7) (x4 := 711) ((fe_226 789).trans rfl) L S h
set_option maxRecDepth 20000 in
theorem r_226_792 (L S : List Value) (h : icH) : icE 226 792 L S h = exe icE 226 (e_aload 2 793 L S h) := icE_eq (i := .aload_n 2) (len := 1) (x1 := 0) (x2 := 0) (x3 := 0) (x4 := 64) ((fe_226 792).trans rfl) L S h
set_option maxRecDepth 20000 in
theorem r_226_793 (L S : List Value) (h : icH) : icE 226 793 L S h = exe icE 226 (e_aload 0 794 L S h) := icE_eq (i := .aload_n 0) (len := 1) (x1 := 0) (x2 := 0) (x3 := 0) (x4 := 64) ((fe_226 793).trans rfl) L S h
set_option maxRecDepth 20000 in
theorem r_226_794 (L S : List Value) (h : icH) : icE 226 794 L S h = exe icE 226 (e_iload 3 795 L S h) := icE_eq (i := .iload_n 3) (len := 1) (x1 := 0) (x2 := 0) (x3 := 0) (x4 := 64) ((fe_226 794).trans rfl) L S h
set_option maxRecDepth 20000 in
theorem r_226_795 (L S : List Value) (h : icH) : icE 226 795 L S h = icE 226 796 L (.int (nI 1) :: S) h := icE_eq (i := .iconst 1) (len := 1) (x1 := 0) (x2 := 0) (x3 := 0) (x4 := 64) ((fe_226 795).trans rfl) L S h
set_option maxRecDepth 20000 in
theorem r_226_796 (L S : List Value) (h : icH) : icE 226 796 L S h = exe icE 226 (e_bin (fun x y => x + y) 797 L S h) := icE_eq (i := .iadd) (len := 1) (x1 := 0) (x2 := 0) (x3 := 0) (x4 := 64) ((fe_226 796).trans rfl) L S h
set_option maxRecDepth 20000 in
theorem r_226_797 (L S : List Value) (h : icH) : icE 226 797 L S h = exe icE 226 (e_iald 798 L S h) := icE_eq (i := .iaload) (len := 1) (x1 := 0) (x2 := 0) (x3 := 0) (x4 := 64) ((fe_226 797).trans rfl) L S h
set_option maxRecDepth 20000 in
theorem r_226_798 (L S : List Value) (h : icH) : icE 226 798 L S h = exe icE 226 (e_vcal 8 187 5 1 801 L S h) := icE_eq (i := .invokevirtual 105) (len := 3) (x1 := 187) (x2 := 3) (x3 := 8) (x4 := 1231) ((fe_226 798).trans rfl) L S h
set_option maxRecDepth 20000 in
theorem r_226_801 (L S : List Value) (h : icH) : icE 226 801 L S h = exe icE 226 (e_cmp .eq 1441 804 L S h) := icE_eq (i := .if_icmp .eq 640) (len := 3) (x1 := 1441) (x2 := 0) (x3 := 0) (x4 := 64) ((fe_226 801).trans rfl) L S h
set_option maxRecDepth 20000 in
theorem r_226_804 (L S : List Value) (h : icH) : icE 226 804 L S h = icE 226 805 L (.int (nI 0) :: S) h := icE_eq (i := .iconst 0) (len := 1) (x1 := 0) (x2 := 0) (x3 := 0) (x4 := 64) ((fe_226 804).trans rfl) L S h
set_option maxRecDepth 20000 in
theorem r_226_805 (L S : List Value) (h : icH) : icE 226 805 L S h = exe icE 226 (e_iret 1 L S h) := icE_eq (i := .ireturn) (len := 1) (x1 := 1) (x2 := 0) (x3 := 0) (x4 := 64) ((fe_226 805).trans rfl) L S h
set_option maxRecDepth 20000 in
theorem r_226_806 (L S : List Value) (h : icH) : icE 226 806 L S h = exe icE 226 (e_aload 1 807 L S h) := icE_eq (i := .aload_n 1) (len := 1) (x1 := 0) (x2 := 0) (x3 := 0) (x4 := 64) ((fe_226 806).trans rfl) L S h
set_option maxRecDepth 20000 in
theorem r_226_807 (L S : List Value) (h : icH) : icE 226 807 L S h = exe icE 226 (e_aload 0 808 L S h) := icE_eq (i := .aload_n 0) (len := 1) (x1 := 0) (x2 := 0) (x3 := 0) (x4 := 64) ((fe_226 807).trans rfl) L S h
set_option maxRecDepth 20000 in
theorem r_226_808 (L S : List Value) (h : icH) : icE 226 808 L S h = exe icE 226 (e_iload 3 809 L S h) := icE_eq (i := .iload_n 3) (len := 1) (x1 := 0) (x2 := 0) (x3 := 0) (x4 := 64) ((fe_226 808).trans rfl) L S h
set_option maxRecDepth 20000 in
theorem r_226_809 (L S : List Value) (h : icH) : icE 226 809 L S h = icE 226 810 L (.int (nI 1) :: S) h := icE_eq (i := .iconst 1) (len := 1) (x1 := 0) (x2 := 0) (x3 := 0) (x4 := 64) ((fe_226 809).trans rfl) L S h
set_option maxRecDepth 20000 in
theorem r_226_810 (L S : List Value) (h : icH) : icE 226 810 L S h = exe icE 226 (e_bin (fun x y => x + y) 811 L S h) := icE_eq (i := .iadd) (len := 1) (x1 := 0) (x2 := 0) (x3 := 0) (x4 := 64) ((fe_226 810).trans rfl) L S h
set_option maxRecDepth 20000 in
theorem r_226_811 (L S : List Value) (h : icH) : icE 226 811 L S h = exe icE 226 (e_iald 812 L S h) := icE_eq (i := .iaload) (len := 1) (x1 := 0) (x2 := 0) (x3 := 0) (x4 := 64) ((fe_226 811).trans rfl) L S h
set_option maxRecDepth 20000 in
theorem r_226_812 (L S : List Value) (h : icH) : icE 226 812 L S h = exe icE 226 (e_aload 0 813 L S h) := icE_eq (i := .aload_n 0) (len := 1) (x1 := 0) (x2 := 0) (x3 := 0) (x4 := 64) ((fe_226 812).trans rfl) L S h
set_option maxRecDepth 20000 in
theorem r_226_813 (L S : List Value) (h : icH) : icE 226 813 L S h = exe icE 226 (e_iload 3 814 L S h) := icE_eq (i := .iload_n 3) (len := 1) (x1 := 0) (x2 := 0) (x3 := 0) (x4 := 64) ((fe_226 813).trans rfl) L S h
set_option maxRecDepth 20000 in
theorem r_226_814 (L S : List Value) (h : icH) : icE 226 814 L S h = icE 226 815 L (.int (nI 2) :: S) h := icE_eq (i := .iconst 2) (len := 1) (x1 := 0) (x2 := 0) (x3 := 0) (x4 := 64) ((fe_226 814).trans rfl) L S h
set_option maxRecDepth 20000 in
theorem r_226_815 (L S : List Value) (h : icH) : icE 226 815 L S h = exe icE 226 (e_bin (fun x y => x + y) 816 L S h) := icE_eq (i := .iadd) (len := 1) (x1 := 0) (x2 := 0) (x3 := 0) (x4 := 64) ((fe_226 815).trans rfl) L S h
set_option maxRecDepth 20000 in
theorem r_226_816 (L S : List Value) (h : icH) : icE 226 816 L S h = exe icE 226 (e_iald 817 L S h) := icE_eq (i := .iaload) (len := 1) (x1 := 0) (x2 := 0) (x3 := 0) (x4 := 64) ((fe_226 816).trans rfl) L S h
set_option maxRecDepth 20000 in
theorem r_226_817 (L S : List Value) (h : icH) : icE 226 817 L S h = exe icE 226 (e_vcal 7 92 6 2 820 L S h) := icE_eq (i := .invokevirtual 106) (len := 3) (x1 := 92) (x2 := 3) (x3 := 7) (x4 := 719) ((fe_226 817).trans rfl) L S h
set_option maxRecDepth 20000 in
theorem r_226_820 (L S : List Value) (h : icH) : icE 226 820 L S h = exe icE 226 (e_aload 2 821 L S h) := icE_eq (i := .aload_n 2) (len := 1) (x1 := 0) (x2 := 0) (x3 := 0) (x4 := 64) ((fe_226 820).trans rfl) L S h
set_option maxRecDepth 20000 in
theorem r_226_821 (L S : List Value) (h : icH) : icE 226 821 L S h = exe icE 226 (e_aload 0 822 L S h) := icE_eq (i := .aload_n 0) (len := 1) (x1 := 0) (x2 := 0) (x3 := 0) (x4 := 64) ((fe_226 821).trans rfl) L S h
set_option maxRecDepth 20000 in
theorem r_226_822 (L S : List Value) (h : icH) : icE 226 822 L S h = exe icE 226 (e_iload 3 823 L S h) := icE_eq (i := .iload_n 3) (len := 1) (x1 := 0) (x2 := 0) (x3 := 0) (x4 := 64) ((fe_226 822).trans rfl) L S h
set_option maxRecDepth 20000 in
theorem r_226_823 (L S : List Value) (h : icH) : icE 226 823 L S h = icE 226 824 L (.int (nI 1) :: S) h := icE_eq (i := .iconst 1) (len := 1) (x1 := 0) (x2 := 0) (x3 := 0) (x4 := 64) ((fe_226 823).trans rfl) L S h
set_option maxRecDepth 20000 in
theorem r_226_824 (L S : List Value) (h : icH) : icE 226 824 L S h = exe icE 226 (e_bin (fun x y => x + y) 825 L S h) := icE_eq (i := .iadd) (len := 1) (x1 := 0) (x2 := 0) (x3 := 0) (x4 := 64) ((fe_226 824).trans rfl) L S h
set_option maxRecDepth 20000 in
theorem r_226_825 (L S : List Value) (h : icH) : icE 226 825 L S h = exe icE 226 (e_iald 826 L S h) := icE_eq (i := .iaload) (len := 1) (x1 := 0) (x2 := 0) (x3 := 0) (x4 := 64) ((fe_226 825).trans rfl) L S h
set_option maxRecDepth 20000 in
theorem r_226_826 (L S : List Value) (h : icH) : icE 226 826 L S h = exe icE 226 (e_aload 0 827 L S h) := icE_eq (i := .aload_n 0) (len := 1) (x1 := 0) (x2 := 0) (x3 := 0) (x4 := 64) ((fe_226 826).trans rfl) L S h
set_option maxRecDepth 20000 in
theorem r_226_827 (L S : List Value) (h : icH) : icE 226 827 L S h = exe icE 226 (e_iload 3 828 L S h) := icE_eq (i := .iload_n 3) (len := 1) (x1 := 0) (x2 := 0) (x3 := 0) (x4 := 64) ((fe_226 827).trans rfl) L S h
set_option maxRecDepth 20000 in
theorem r_226_828 (L S : List Value) (h : icH) : icE 226 828 L S h = icE 226 829 L (.int (nI 2) :: S) h := icE_eq (i := .iconst 2) (len := 1) (x1 := 0) (x2 := 0) (x3 := 0) (x4 := 64) ((fe_226 828).trans rfl) L S h
set_option maxRecDepth 20000 in
theorem r_226_829 (L S : List Value) (h : icH) : icE 226 829 L S h = exe icE 226 (e_bin (fun x y => x + y) 830 L S h) := icE_eq (i := .iadd) (len := 1) (x1 := 0) (x2 := 0) (x3 := 0) (x4 := 64) ((fe_226 829).trans rfl) L S h
set_option maxRecDepth 20000 in
theorem r_226_830 (L S : List Value) (h : icH) : icE 226 830 L S h = exe icE 226 (e_iald 831 L S h) := icE_eq (i := .iaload) (len := 1) (x1 := 0) (x2 := 0) (x3 := 0) (x4 := 64) ((fe_226 830).trans rfl) L S h
set_option maxRecDepth 20000 in
theorem r_226_831 (L S : List Value) (h : icH) : icE 226 831 L S h = exe icE 226 (e_vcal 8 188 6 2 834 L S h) := icE_eq (i := .invokevirtual 109) (len := 3) (x1 := 188) (x2 := 3) (x3 := 8) (x4 := 1235) ((fe_226 831).trans rfl) L S h
set_option maxRecDepth 20000 in
theorem r_226_834 (L S : List Value) (h : icH) : icE 226 834 L S h = exe icE 226 (e_cmp .eq 1441 837 L S h) := icE_eq (i := .if_icmp .eq 607) (len := 3) (x1 := 1441) (x2 := 0) (x3 := 0) (x4 := 64) ((fe_226 834).trans rfl) L S h
set_option maxRecDepth 20000 in
theorem r_226_837 (L S : List Value) (h : icH) : icE 226 837 L S h = icE 226 838 L (.int (nI 0) :: S) h := icE_eq (i := .iconst 0) (len := 1) (x1 := 0) (x2 := 0) (x3 := 0) (x4 := 64) ((fe_226 837).trans rfl) L S h
set_option maxRecDepth 20000 in
theorem r_226_838 (L S : List Value) (h : icH) : icE 226 838 L S h = exe icE 226 (e_iret 1 L S h) := icE_eq (i := .ireturn) (len := 1) (x1 := 1) (x2 := 0) (x3 := 0) (x4 := 64) ((fe_226 838).trans rfl) L S h
set_option maxRecDepth 20000 in
theorem r_226_839 (L S : List Value) (h : icH) : icE 226 839 L S h = exe icE 226 (e_aload 1 840 L S h) := icE_eq (i := .aload_n 1) (len := 1) (x1 := 0) (x2 := 0) (x3 := 0) (x4 := 64) ((fe_226 839).trans rfl) L S h
set_option maxRecDepth 20000 in
theorem r_226_840 (L S : List Value) (h : icH) : icE 226 840 L S h = exe icE 226 (e_aload 0 841 L S h) := icE_eq (i := .aload_n 0) (len := 1) (x1 := 0) (x2 := 0) (x3 := 0) (x4 := 64) ((fe_226 840).trans rfl) L S h
set_option maxRecDepth 20000 in
theorem r_226_841 (L S : List Value) (h : icH) : icE 226 841 L S h = exe icE 226 (e_iload 3 842 L S h) := icE_eq (i := .iload_n 3) (len := 1) (x1 := 0) (x2 := 0) (x3 := 0) (x4 := 64) ((fe_226 841).trans rfl) L S h
set_option maxRecDepth 20000 in
theorem r_226_842 (L S : List Value) (h : icH) : icE 226 842 L S h = icE 226 843 L (.int (nI 1) :: S) h := icE_eq (i := .iconst 1) (len := 1) (x1 := 0) (x2 := 0) (x3 := 0) (x4 := 64) ((fe_226 842).trans rfl) L S h
set_option maxRecDepth 20000 in
theorem r_226_843 (L S : List Value) (h : icH) : icE 226 843 L S h = exe icE 226 (e_bin (fun x y => x + y) 844 L S h) := icE_eq (i := .iadd) (len := 1) (x1 := 0) (x2 := 0) (x3 := 0) (x4 := 64) ((fe_226 843).trans rfl) L S h
set_option maxRecDepth 20000 in
theorem r_226_844 (L S : List Value) (h : icH) : icE 226 844 L S h = exe icE 226 (e_iald 845 L S h) := icE_eq (i := .iaload) (len := 1) (x1 := 0) (x2 := 0) (x3 := 0) (x4 := 64) ((fe_226 844).trans rfl) L S h
set_option maxRecDepth 20000 in
theorem r_226_845 (L S : List Value) (h : icH) : icE 226 845 L S h = exe icE 226 (e_aload 0 846 L S h) := icE_eq (i := .aload_n 0) (len := 1) (x1 := 0) (x2 := 0) (x3 := 0) (x4 := 64) ((fe_226 845).trans rfl) L S h
set_option maxRecDepth 20000 in
theorem r_226_846 (L S : List Value) (h : icH) : icE 226 846 L S h = exe icE 226 (e_iload 3 847 L S h) := icE_eq (i := .iload_n 3) (len := 1) (x1 := 0) (x2 := 0) (x3 := 0) (x4 := 64) ((fe_226 846).trans rfl) L S h
set_option maxRecDepth 20000 in
theorem r_226_847 (L S : List Value) (h : icH) : icE 226 847 L S h = icE 226 848 L (.int (nI 2) :: S) h := icE_eq (i := .iconst 2) (len := 1) (x1 := 0) (x2 := 0) (x3 := 0) (x4 := 64) ((fe_226 847).trans rfl) L S h
set_option maxRecDepth 20000 in
theorem r_226_848 (L S : List Value) (h : icH) : icE 226 848 L S h = exe icE 226 (e_bin (fun x y => x + y) 849 L S h) := icE_eq (i := .iadd) (len := 1) (x1 := 0) (x2 := 0) (x3 := 0) (x4 := 64) ((fe_226 848).trans rfl) L S h
set_option maxRecDepth 20000 in
theorem r_226_849 (L S : List Value) (h : icH) : icE 226 849 L S h = exe icE 226 (e_iald 850 L S h) := icE_eq (i := .iaload) (len := 1) (x1 := 0) (x2 := 0) (x3 := 0) (x4 := 64) ((fe_226 849).trans rfl) L S h
set_option maxRecDepth 20000 in
theorem r_226_850 (L S : List Value) (h : icH) : icE 226 850 L S h = exe icE 226 (e_vcal 7 93 8 2 853 L S h) := icE_eq (i := .invokevirtual 110) (len := 3) (x1 := 93) (x2 := 3) (x3 := 7) (x4 := 723) ((fe_226 850).trans rfl) L S h
set_option maxRecDepth 20000 in
theorem r_226_853 (L S : List Value) (h : icH) : icE 226 853 L S h = exe icE 226 (e_aload 2 854 L S h) := icE_eq (i := .aload_n 2) (len := 1) (x1 := 0) (x2 := 0) (x3 := 0) (x4 := 64) ((fe_226 853).trans rfl) L S h
set_option maxRecDepth 20000 in
theorem r_226_854 (L S : List Value) (h : icH) : icE 226 854 L S h = exe icE 226 (e_aload 0 855 L S h) := icE_eq (i := .aload_n 0) (len := 1) (x1 := 0) (x2 := 0) (x3 := 0) (x4 := 64) ((fe_226 854).trans rfl) L S h
set_option maxRecDepth 20000 in
theorem r_226_855 (L S : List Value) (h : icH) : icE 226 855 L S h = exe icE 226 (e_iload 3 856 L S h) := icE_eq (i := .iload_n 3) (len := 1) (x1 := 0) (x2 := 0) (x3 := 0) (x4 := 64) ((fe_226 855).trans rfl) L S h
set_option maxRecDepth 20000 in
theorem r_226_856 (L S : List Value) (h : icH) : icE 226 856 L S h = icE 226 857 L (.int (nI 1) :: S) h := icE_eq (i := .iconst 1) (len := 1) (x1 := 0) (x2 := 0) (x3 := 0) (x4 := 64) ((fe_226 856).trans rfl) L S h
set_option maxRecDepth 20000 in
theorem r_226_857 (L S : List Value) (h : icH) : icE 226 857 L S h = exe icE 226 (e_bin (fun x y => x + y) 858 L S h) := icE_eq (i := .iadd) (len := 1) (x1 := 0) (x2 := 0) (x3 := 0) (x4 := 64) ((fe_226 857).trans rfl) L S h
set_option maxRecDepth 20000 in
theorem r_226_858 (L S : List Value) (h : icH) : icE 226 858 L S h = exe icE 226 (e_iald 859 L S h) := icE_eq (i := .iaload) (len := 1) (x1 := 0) (x2 := 0) (x3 := 0) (x4 := 64) ((fe_226 858).trans rfl) L S h
set_option maxRecDepth 20000 in
theorem r_226_859 (L S : List Value) (h : icH) : icE 226 859 L S h = exe icE 226 (e_aload 0 860 L S h) := icE_eq (i := .aload_n 0) (len := 1) (x1 := 0) (x2 := 0) (x3 := 0) (x4 := 64) ((fe_226 859).trans rfl) L S h
set_option maxRecDepth 20000 in
theorem r_226_860 (L S : List Value) (h : icH) : icE 226 860 L S h = exe icE 226 (e_iload 3 861 L S h) := icE_eq (i := .iload_n 3) (len := 1) (x1 := 0) (x2 := 0) (x3 := 0) (x4 := 64) ((fe_226 860).trans rfl) L S h
set_option maxRecDepth 20000 in
theorem r_226_861 (L S : List Value) (h : icH) : icE 226 861 L S h = icE 226 862 L (.int (nI 2) :: S) h := icE_eq (i := .iconst 2) (len := 1) (x1 := 0) (x2 := 0) (x3 := 0) (x4 := 64) ((fe_226 861).trans rfl) L S h
set_option maxRecDepth 20000 in
theorem r_226_862 (L S : List Value) (h : icH) : icE 226 862 L S h = exe icE 226 (e_bin (fun x y => x + y) 863 L S h) := icE_eq (i := .iadd) (len := 1) (x1 := 0) (x2 := 0) (x3 := 0) (x4 := 64) ((fe_226 862).trans rfl) L S h
set_option maxRecDepth 20000 in
theorem r_226_863 (L S : List Value) (h : icH) : icE 226 863 L S h = exe icE 226 (e_iald 864 L S h) := icE_eq (i := .iaload) (len := 1) (x1 := 0) (x2 := 0) (x3 := 0) (x4 := 64) ((fe_226 863).trans rfl) L S h
set_option maxRecDepth 20000 in
theorem r_226_864 (L S : List Value) (h : icH) : icE 226 864 L S h = exe icE 226 (e_vcal 8 191 7 2 867 L S h) := icE_eq (i := .invokevirtual 113) (len := 3) (x1 := 191) (x2 := 3) (x3 := 8) (x4 := 1239) ((fe_226 864).trans rfl) L S h
set_option maxRecDepth 20000 in
theorem r_226_867 (L S : List Value) (h : icH) : icE 226 867 L S h = exe icE 226 (e_cmp .eq 1441 870 L S h) := icE_eq (i := .if_icmp .eq 574) (len := 3) (x1 := 1441) (x2 := 0) (x3 := 0) (x4 := 64) ((fe_226 867).trans rfl) L S h
set_option maxRecDepth 20000 in
theorem r_226_870 (L S : List Value) (h : icH) : icE 226 870 L S h = icE 226 871 L (.int (nI 0) :: S) h := icE_eq (i := .iconst 0) (len := 1) (x1 := 0) (x2 := 0) (x3 := 0) (x4 := 64) ((fe_226 870).trans rfl) L S h
set_option maxRecDepth 20000 in
theorem r_226_871 (L S : List Value) (h : icH) : icE 226 871 L S h = exe icE 226 (e_iret 1 L S h) := icE_eq (i := .ireturn) (len := 1) (x1 := 1) (x2 := 0) (x3 := 0) (x4 := 64) ((fe_226 871).trans rfl) L S h
set_option maxRecDepth 20000 in
theorem r_226_872 (L S : List Value) (h : icH) : icE 226 872 L S h = exe icE 226 (e_aload 1 873 L S h) := icE_eq (i := .aload_n 1) (len := 1) (x1 := 0) (x2 := 0) (x3 := 0) (x4 := 64) ((fe_226 872).trans rfl) L S h
set_option maxRecDepth 20000 in
theorem r_226_873 (L S : List Value) (h : icH) : icE 226 873 L S h = exe icE 226 (e_aload 0 874 L S h) := icE_eq (i := .aload_n 0) (len := 1) (x1 := 0) (x2 := 0) (x3 := 0) (x4 := 64) ((fe_226 873).trans rfl) L S h
set_option maxRecDepth 20000 in
theorem r_226_874 (L S : List Value) (h : icH) : icE 226 874 L S h = exe icE 226 (e_iload 3 875 L S h) := icE_eq (i := .iload_n 3) (len := 1) (x1 := 0) (x2 := 0) (x3 := 0) (x4 := 64) ((fe_226 874).trans rfl) L S h
set_option maxRecDepth 20000 in
theorem r_226_875 (L S : List Value) (h : icH) : icE 226 875 L S h = icE 226 876 L (.int (nI 1) :: S) h := icE_eq (i := .iconst 1) (len := 1) (x1 := 0) (x2 := 0) (x3 := 0) (x4 := 64) ((fe_226 875).trans rfl) L S h
set_option maxRecDepth 20000 in
theorem r_226_876 (L S : List Value) (h : icH) : icE 226 876 L S h = exe icE 226 (e_bin (fun x y => x + y) 877 L S h) := icE_eq (i := .iadd) (len := 1) (x1 := 0) (x2 := 0) (x3 := 0) (x4 := 64) ((fe_226 876).trans rfl) L S h
set_option maxRecDepth 20000 in
theorem r_226_877 (L S : List Value) (h : icH) : icE 226 877 L S h = exe icE 226 (e_iald 878 L S h) := icE_eq (i := .iaload) (len := 1) (x1 := 0) (x2 := 0) (x3 := 0) (x4 := 64) ((fe_226 877).trans rfl) L S h
set_option maxRecDepth 20000 in
theorem r_226_878 (L S : List Value) (h : icH) : icE 226 878 L S h = exe icE 226 (e_aload 0 879 L S h) := icE_eq (i := .aload_n 0) (len := 1) (x1 := 0) (x2 := 0) (x3 := 0) (x4 := 64) ((fe_226 878).trans rfl) L S h
set_option maxRecDepth 20000 in
theorem r_226_879 (L S : List Value) (h : icH) : icE 226 879 L S h = exe icE 226 (e_iload 3 880 L S h) := icE_eq (i := .iload_n 3) (len := 1) (x1 := 0) (x2 := 0) (x3 := 0) (x4 := 64) ((fe_226 879).trans rfl) L S h
set_option maxRecDepth 20000 in
theorem r_226_880 (L S : List Value) (h : icH) : icE 226 880 L S h = icE 226 881 L (.int (nI 2) :: S) h := icE_eq (i := .iconst 2) (len := 1) (x1 := 0) (x2 := 0) (x3 := 0) (x4 := 64) ((fe_226 880).trans rfl) L S h
set_option maxRecDepth 20000 in
theorem r_226_881 (L S : List Value) (h : icH) : icE 226 881 L S h = exe icE 226 (e_bin (fun x y => x + y) 882 L S h) := icE_eq (i := .iadd) (len := 1) (x1 := 0) (x2 := 0) (x3 := 0) (x4 := 64) ((fe_226 881).trans rfl) L S h
set_option maxRecDepth 20000 in
theorem r_226_882 (L S : List Value) (h : icH) : icE 226 882 L S h = exe icE 226 (e_iald 883 L S h) := icE_eq (i := .iaload) (len := 1) (x1 := 0) (x2 := 0) (x3 := 0) (x4 := 64) ((fe_226 882).trans rfl) L S h
set_option maxRecDepth 20000 in
theorem r_226_883 (L S : List Value) (h : icH) : icE 226 883 L S h = exe icE 226 (e_aload 0 884 L S h) := icE_eq (i := .aload_n 0) (len := 1) (x1 := 0) (x2 := 0) (x3 := 0) (x4 := 64) ((fe_226 883).trans rfl) L S h
set_option maxRecDepth 20000 in
theorem r_226_884 (L S : List Value) (h : icH) : icE 226 884 L S h = exe icE 226 (e_iload 3 885 L S h) := icE_eq (i := .iload_n 3) (len := 1) (x1 := 0) (x2 := 0) (x3 := 0) (x4 := 64) ((fe_226 884).trans rfl) L S h
set_option maxRecDepth 20000 in
theorem r_226_885 (L S : List Value) (h : icH) : icE 226 885 L S h = icE 226 886 L (.int (nI 3) :: S) h := icE_eq (i := .iconst 3) (len := 1) (x1 := 0) (x2 := 0) (x3 := 0) (x4 := 64) ((fe_226 885).trans rfl) L S h
set_option maxRecDepth 20000 in
theorem r_226_886 (L S : List Value) (h : icH) : icE 226 886 L S h = exe icE 226 (e_bin (fun x y => x + y) 887 L S h) := icE_eq (i := .iadd) (len := 1) (x1 := 0) (x2 := 0) (x3 := 0) (x4 := 64) ((fe_226 886).trans rfl) L S h
set_option maxRecDepth 20000 in
theorem r_226_887 (L S : List Value) (h : icH) : icE 226 887 L S h = exe icE 226 (e_iald 888 L S h) := icE_eq (i := .iaload) (len := 1) (x1 := 0) (x2 := 0) (x3 := 0) (x4 := 64) ((fe_226 887).trans rfl) L S h
set_option maxRecDepth 20000 in
theorem r_226_888 (L S : List Value) (h : icH) : icE 226 888 L S h = exe icE 226 (e_aload 0 889 L S h) := icE_eq (i := .aload_n 0) (len := 1) (x1 := 0) (x2 := 0) (x3 := 0) (x4 := 64) ((fe_226 888).trans rfl) L S h
set_option maxRecDepth 20000 in
theorem r_226_889 (L S : List Value) (h : icH) : icE 226 889 L S h = exe icE 226 (e_iload 3 890 L S h) := icE_eq (i := .iload_n 3) (len := 1) (x1 := 0) (x2 := 0) (x3 := 0) (x4 := 64) ((fe_226 889).trans rfl) L S h
set_option maxRecDepth 20000 in
theorem r_226_890 (L S : List Value) (h : icH) : icE 226 890 L S h = icE 226 891 L (.int (nI 4) :: S) h := icE_eq (i := .iconst 4) (len := 1) (x1 := 0) (x2 := 0) (x3 := 0) (x4 := 64) ((fe_226 890).trans rfl) L S h
set_option maxRecDepth 20000 in
theorem r_226_891 (L S : List Value) (h : icH) : icE 226 891 L S h = exe icE 226 (e_bin (fun x y => x + y) 892 L S h) := icE_eq (i := .iadd) (len := 1) (x1 := 0) (x2 := 0) (x3 := 0) (x4 := 64) ((fe_226 891).trans rfl) L S h
set_option maxRecDepth 20000 in
theorem r_226_892 (L S : List Value) (h : icH) : icE 226 892 L S h = exe icE 226 (e_iald 893 L S h) := icE_eq (i := .iaload) (len := 1) (x1 := 0) (x2 := 0) (x3 := 0) (x4 := 64) ((fe_226 892).trans rfl) L S h
set_option maxRecDepth 20000 in
theorem r_226_893 (L S : List Value) (h : icH) : icE 226 893 L S h = exe icE 226 (e_vcal 7 94 5 4 896 L S h) := icE_eq (i := .invokevirtual 114) (len := 3) (x1 := 94) (x2 := 3) (x3 := 7) (x4 := 742) ((fe_226 893).trans rfl) L S h
set_option maxRecDepth 20000 in
theorem r_226_896 (L S : List Value) (h : icH) : icE 226 896 L S h = exe icE 226 (e_aload 2 897 L S h) := icE_eq (i := .aload_n 2) (len := 1) (x1 := 0) (x2 := 0) (x3 := 0) (x4 := 64) ((fe_226 896).trans rfl) L S h
set_option maxRecDepth 20000 in
theorem r_226_897 (L S : List Value) (h : icH) : icE 226 897 L S h = exe icE 226 (e_aload 0 898 L S h) := icE_eq (i := .aload_n 0) (len := 1) (x1 := 0) (x2 := 0) (x3 := 0) (x4 := 64) ((fe_226 897).trans rfl) L S h
set_option maxRecDepth 20000 in
theorem r_226_898 (L S : List Value) (h : icH) : icE 226 898 L S h = exe icE 226 (e_iload 3 899 L S h) := icE_eq (i := .iload_n 3) (len := 1) (x1 := 0) (x2 := 0) (x3 := 0) (x4 := 64) ((fe_226 898).trans rfl) L S h
set_option maxRecDepth 20000 in
theorem r_226_899 (L S : List Value) (h : icH) : icE 226 899 L S h = icE 226 900 L (.int (nI 1) :: S) h := icE_eq (i := .iconst 1) (len := 1) (x1 := 0) (x2 := 0) (x3 := 0) (x4 := 64) ((fe_226 899).trans rfl) L S h
set_option maxRecDepth 20000 in
theorem r_226_900 (L S : List Value) (h : icH) : icE 226 900 L S h = exe icE 226 (e_bin (fun x y => x + y) 901 L S h) := icE_eq (i := .iadd) (len := 1) (x1 := 0) (x2 := 0) (x3 := 0) (x4 := 64) ((fe_226 900).trans rfl) L S h
set_option maxRecDepth 20000 in
theorem r_226_901 (L S : List Value) (h : icH) : icE 226 901 L S h = exe icE 226 (e_iald 902 L S h) := icE_eq (i := .iaload) (len := 1) (x1 := 0) (x2 := 0) (x3 := 0) (x4 := 64) ((fe_226 901).trans rfl) L S h
set_option maxRecDepth 20000 in
theorem r_226_902 (L S : List Value) (h : icH) : icE 226 902 L S h = exe icE 226 (e_aload 0 903 L S h) := icE_eq (i := .aload_n 0) (len := 1) (x1 := 0) (x2 := 0) (x3 := 0) (x4 := 64) ((fe_226 902).trans rfl) L S h
set_option maxRecDepth 20000 in
theorem r_226_903 (L S : List Value) (h : icH) : icE 226 903 L S h = exe icE 226 (e_iload 3 904 L S h) := icE_eq (i := .iload_n 3) (len := 1) (x1 := 0) (x2 := 0) (x3 := 0) (x4 := 64) ((fe_226 903).trans rfl) L S h
set_option maxRecDepth 20000 in
theorem r_226_904 (L S : List Value) (h : icH) : icE 226 904 L S h = icE 226 905 L (.int (nI 2) :: S) h := icE_eq (i := .iconst 2) (len := 1) (x1 := 0) (x2 := 0) (x3 := 0) (x4 := 64) ((fe_226 904).trans rfl) L S h
set_option maxRecDepth 20000 in
theorem r_226_905 (L S : List Value) (h : icH) : icE 226 905 L S h = exe icE 226 (e_bin (fun x y => x + y) 906 L S h) := icE_eq (i := .iadd) (len := 1) (x1 := 0) (x2 := 0) (x3 := 0) (x4 := 64) ((fe_226 905).trans rfl) L S h
set_option maxRecDepth 20000 in
theorem r_226_906 (L S : List Value) (h : icH) : icE 226 906 L S h = exe icE 226 (e_iald 907 L S h) := icE_eq (i := .iaload) (len := 1) (x1 := 0) (x2 := 0) (x3 := 0) (x4 := 64) ((fe_226 906).trans rfl) L S h
set_option maxRecDepth 20000 in
theorem r_226_907 (L S : List Value) (h : icH) : icE 226 907 L S h = exe icE 226 (e_aload 0 908 L S h) := icE_eq (i := .aload_n 0) (len := 1) (x1 := 0) (x2 := 0) (x3 := 0) (x4 := 64) ((fe_226 907).trans rfl) L S h
set_option maxRecDepth 20000 in
theorem r_226_908 (L S : List Value) (h : icH) : icE 226 908 L S h = exe icE 226 (e_iload 3 909 L S h) := icE_eq (i := .iload_n 3) (len := 1) (x1 := 0) (x2 := 0) (x3 := 0) (x4 := 64) ((fe_226 908).trans rfl) L S h
set_option maxRecDepth 20000 in
theorem r_226_909 (L S : List Value) (h : icH) : icE 226 909 L S h = icE 226 910 L (.int (nI 3) :: S) h := icE_eq (i := .iconst 3) (len := 1) (x1 := 0) (x2 := 0) (x3 := 0) (x4 := 64) ((fe_226 909).trans rfl) L S h
set_option maxRecDepth 20000 in
theorem r_226_910 (L S : List Value) (h : icH) : icE 226 910 L S h = exe icE 226 (e_bin (fun x y => x + y) 911 L S h) := icE_eq (i := .iadd) (len := 1) (x1 := 0) (x2 := 0) (x3 := 0) (x4 := 64) ((fe_226 910).trans rfl) L S h
set_option maxRecDepth 20000 in
theorem r_226_911 (L S : List Value) (h : icH) : icE 226 911 L S h = exe icE 226 (e_iald 912 L S h) := icE_eq (i := .iaload) (len := 1) (x1 := 0) (x2 := 0) (x3 := 0) (x4 := 64) ((fe_226 911).trans rfl) L S h
set_option maxRecDepth 20000 in
theorem r_226_912 (L S : List Value) (h : icH) : icE 226 912 L S h = exe icE 226 (e_aload 0 913 L S h) := icE_eq (i := .aload_n 0) (len := 1) (x1 := 0) (x2 := 0) (x3 := 0) (x4 := 64) ((fe_226 912).trans rfl) L S h
set_option maxRecDepth 20000 in
theorem r_226_913 (L S : List Value) (h : icH) : icE 226 913 L S h = exe icE 226 (e_iload 3 914 L S h) := icE_eq (i := .iload_n 3) (len := 1) (x1 := 0) (x2 := 0) (x3 := 0) (x4 := 64) ((fe_226 913).trans rfl) L S h
set_option maxRecDepth 20000 in
theorem r_226_914 (L S : List Value) (h : icH) : icE 226 914 L S h = icE 226 915 L (.int (nI 4) :: S) h := icE_eq (i := .iconst 4) (len := 1) (x1 := 0) (x2 := 0) (x3 := 0) (x4 := 64) ((fe_226 914).trans rfl) L S h
set_option maxRecDepth 20000 in
theorem r_226_915 (L S : List Value) (h : icH) : icE 226 915 L S h = exe icE 226 (e_bin (fun x y => x + y) 916 L S h) := icE_eq (i := .iadd) (len := 1) (x1 := 0) (x2 := 0) (x3 := 0) (x4 := 64) ((fe_226 915).trans rfl) L S h
set_option maxRecDepth 20000 in
theorem r_226_916 (L S : List Value) (h : icH) : icE 226 916 L S h = exe icE 226 (e_iald 917 L S h) := icE_eq (i := .iaload) (len := 1) (x1 := 0) (x2 := 0) (x3 := 0) (x4 := 64) ((fe_226 916).trans rfl) L S h
set_option maxRecDepth 20000 in
theorem r_226_917 (L S : List Value) (h : icH) : icE 226 917 L S h = exe icE 226 (e_vcal 8 192 6 4 920 L S h) := icE_eq (i := .invokevirtual 118) (len := 3) (x1 := 192) (x2 := 3) (x3 := 8) (x4 := 1251) ((fe_226 917).trans rfl) L S h
set_option maxRecDepth 20000 in
theorem r_226_920 (L S : List Value) (h : icH) : icE 226 920 L S h = exe icE 226 (e_cmp .eq 1441 923 L S h) := icE_eq (i := .if_icmp .eq 521) (len := 3) (x1 := 1441) (x2 := 0) (x3 := 0) (x4 := 64) ((fe_226 920).trans rfl) L S h
set_option maxRecDepth 20000 in
theorem r_226_923 (L S : List Value) (h : icH) : icE 226 923 L S h = icE 226 924 L (.int (nI 0) :: S) h := icE_eq (i := .iconst 0) (len := 1) (x1 := 0) (x2 := 0) (x3 := 0) (x4 := 64) ((fe_226 923).trans rfl) L S h
set_option maxRecDepth 20000 in
theorem r_226_924 (L S : List Value) (h : icH) : icE 226 924 L S h = exe icE 226 (e_iret 1 L S h) := icE_eq (i := .ireturn) (len := 1) (x1 := 1) (x2 := 0) (x3 := 0) (x4 := 64) ((fe_226 924).trans rfl) L S h
set_option maxRecDepth 20000 in
theorem r_226_925 (L S : List Value) (h : icH) : icE 226 925 L S h = exe icE 226 (e_aload 1 926 L S h) := icE_eq (i := .aload_n 1) (len := 1) (x1 := 0) (x2 := 0) (x3 := 0) (x4 := 64) ((fe_226 925).trans rfl) L S h
set_option maxRecDepth 20000 in
theorem r_226_926 (L S : List Value) (h : icH) : icE 226 926 L S h = exe icE 226 (e_aload 0 927 L S h) := icE_eq (i := .aload_n 0) (len := 1) (x1 := 0) (x2 := 0) (x3 := 0) (x4 := 64) ((fe_226 926).trans rfl) L S h
set_option maxRecDepth 20000 in
theorem r_226_927 (L S : List Value) (h : icH) : icE 226 927 L S h = exe icE 226 (e_iload 3 928 L S h) := icE_eq (i := .iload_n 3) (len := 1) (x1 := 0) (x2 := 0) (x3 := 0) (x4 := 64) ((fe_226 927).trans rfl) L S h
set_option maxRecDepth 20000 in
theorem r_226_928 (L S : List Value) (h : icH) : icE 226 928 L S h = icE 226 929 L (.int (nI 1) :: S) h := icE_eq (i := .iconst 1) (len := 1) (x1 := 0) (x2 := 0) (x3 := 0) (x4 := 64) ((fe_226 928).trans rfl) L S h
set_option maxRecDepth 20000 in
theorem r_226_929 (L S : List Value) (h : icH) : icE 226 929 L S h = exe icE 226 (e_bin (fun x y => x + y) 930 L S h) := icE_eq (i := .iadd) (len := 1) (x1 := 0) (x2 := 0) (x3 := 0) (x4 := 64) ((fe_226 929).trans rfl) L S h
set_option maxRecDepth 20000 in
theorem r_226_930 (L S : List Value) (h : icH) : icE 226 930 L S h = exe icE 226 (e_iald 931 L S h) := icE_eq (i := .iaload) (len := 1) (x1 := 0) (x2 := 0) (x3 := 0) (x4 := 64) ((fe_226 930).trans rfl) L S h
set_option maxRecDepth 20000 in
theorem r_226_931 (L S : List Value) (h : icH) : icE 226 931 L S h = exe icE 226 (e_vcal 7 95 2 1 934 L S h) := icE_eq (i := .invokevirtual 119) (len := 3) (x1 := 95) (x2 := 3) (x3 := 7) (x4 := 748) ((fe_226 931).trans rfl) L S h
set_option maxRecDepth 20000 in
theorem r_226_934 (L S : List Value) (h : icH) : icE 226 934 L S h = exe icE 226 (e_aload 2 935 L S h) := icE_eq (i := .aload_n 2) (len := 1) (x1 := 0) (x2 := 0) (x3 := 0) (x4 := 64) ((fe_226 934).trans rfl) L S h
set_option maxRecDepth 20000 in
theorem r_226_935 (L S : List Value) (h : icH) : icE 226 935 L S h = exe icE 226 (e_aload 0 936 L S h) := icE_eq (i := .aload_n 0) (len := 1) (x1 := 0) (x2 := 0) (x3 := 0) (x4 := 64) ((fe_226 935).trans rfl) L S h
set_option maxRecDepth 20000 in
theorem r_226_936 (L S : List Value) (h : icH) : icE 226 936 L S h = exe icE 226 (e_iload 3 937 L S h) := icE_eq (i := .iload_n 3) (len := 1) (x1 := 0) (x2 := 0) (x3 := 0) (x4 := 64) ((fe_226 936).trans rfl) L S h
set_option maxRecDepth 20000 in
theorem r_226_937 (L S : List Value) (h : icH) : icE 226 937 L S h = icE 226 938 L (.int (nI 1) :: S) h := icE_eq (i := .iconst 1) (len := 1) (x1 := 0) (x2 := 0) (x3 := 0) (x4 := 64) ((fe_226 937).trans rfl) L S h
set_option maxRecDepth 20000 in
theorem r_226_938 (L S : List Value) (h : icH) : icE 226 938 L S h = exe icE 226 (e_bin (fun x y => x + y) 939 L S h) := icE_eq (i := .iadd) (len := 1) (x1 := 0) (x2 := 0) (x3 := 0) (x4 := 64) ((fe_226 938).trans rfl) L S h
set_option maxRecDepth 20000 in
theorem r_226_939 (L S : List Value) (h : icH) : icE 226 939 L S h = exe icE 226 (e_iald 940 L S h) := icE_eq (i := .iaload) (len := 1) (x1 := 0) (x2 := 0) (x3 := 0) (x4 := 64) ((fe_226 939).trans rfl) L S h
set_option maxRecDepth 20000 in
theorem r_226_940 (L S : List Value) (h : icH) : icE 226 940 L S h = exe icE 226 (e_vcal 8 194 2 1 943 L S h) := icE_eq (i := .invokevirtual 122) (len := 3) (x1 := 194) (x2 := 3) (x3 := 8) (x4 := 1255) ((fe_226 940).trans rfl) L S h
set_option maxRecDepth 20000 in
theorem r_226_943 (L S : List Value) (h : icH) : icE 226 943 L S h = exe icE 226 (e_cmp .eq 1441 946 L S h) := icE_eq (i := .if_icmp .eq 498) (len := 3) (x1 := 1441) (x2 := 0) (x3 := 0) (x4 := 64) ((fe_226 943).trans rfl) L S h
set_option maxRecDepth 20000 in
theorem r_226_946 (L S : List Value) (h : icH) : icE 226 946 L S h = icE 226 947 L (.int (nI 0) :: S) h := icE_eq (i := .iconst 0) (len := 1) (x1 := 0) (x2 := 0) (x3 := 0) (x4 := 64) ((fe_226 946).trans rfl) L S h
set_option maxRecDepth 20000 in
theorem r_226_947 (L S : List Value) (h : icH) : icE 226 947 L S h = exe icE 226 (e_iret 1 L S h) := icE_eq (i := .ireturn) (len := 1) (x1 := 1) (x2 := 0) (x3 := 0) (x4 := 64) ((fe_226 947).trans rfl) L S h
set_option maxRecDepth 20000 in
theorem r_226_948 (L S : List Value) (h : icH) : icE 226 948 L S h = exe icE 226 (e_aload 1 949 L S h) := icE_eq (i := .aload_n 1) (len := 1) (x1 := 0) (x2 := 0) (x3 := 0) (x4 := 64) ((fe_226 948).trans rfl) L S h
set_option maxRecDepth 20000 in
theorem r_226_949 (L S : List Value) (h : icH) : icE 226 949 L S h = exe icE 226 (e_aload 0 950 L S h) := icE_eq (i := .aload_n 0) (len := 1) (x1 := 0) (x2 := 0) (x3 := 0) (x4 := 64) ((fe_226 949).trans rfl) L S h
set_option maxRecDepth 20000 in
theorem r_226_950 (L S : List Value) (h : icH) : icE 226 950 L S h = exe icE 226 (e_iload 3 951 L S h) := icE_eq (i := .iload_n 3) (len := 1) (x1 := 0) (x2 := 0) (x3 := 0) (x4 := 64) ((fe_226 950).trans rfl) L S h
set_option maxRecDepth 20000 in
theorem r_226_951 (L S : List Value) (h : icH) : icE 226 951 L S h = icE 226 952 L (.int (nI 1) :: S) h := icE_eq (i := .iconst 1) (len := 1) (x1 := 0) (x2 := 0) (x3 := 0) (x4 := 64) ((fe_226 951).trans rfl) L S h
set_option maxRecDepth 20000 in
theorem r_226_952 (L S : List Value) (h : icH) : icE 226 952 L S h = exe icE 226 (e_bin (fun x y => x + y) 953 L S h) := icE_eq (i := .iadd) (len := 1) (x1 := 0) (x2 := 0) (x3 := 0) (x4 := 64) ((fe_226 952).trans rfl) L S h
set_option maxRecDepth 20000 in
theorem r_226_953 (L S : List Value) (h : icH) : icE 226 953 L S h = exe icE 226 (e_iald 954 L S h) := icE_eq (i := .iaload) (len := 1) (x1 := 0) (x2 := 0) (x3 := 0) (x4 := 64) ((fe_226 953).trans rfl) L S h
set_option maxRecDepth 20000 in
theorem r_226_954 (L S : List Value) (h : icH) : icE 226 954 L S h = exe icE 226 (e_vcal 7 96 2 1 957 L S h) := icE_eq (i := .invokevirtual 123) (len := 3) (x1 := 96) (x2 := 3) (x3 := 7) (x4 := 800) ((fe_226 954).trans rfl) L S h
set_option maxRecDepth 20000 in
theorem r_226_957 (L S : List Value) (h : icH) : icE 226 957 L S h = exe icE 226 (e_aload 2 958 L S h) := icE_eq (i := .aload_n 2) (len := 1) (x1 := 0) (x2 := 0) (x3 := 0) (x4 := 64) ((fe_226 957).trans rfl) L S h
set_option maxRecDepth 20000 in
theorem r_226_958 (L S : List Value) (h : icH) : icE 226 958 L S h = exe icE 226 (e_aload 0 959 L S h) := icE_eq (i := .aload_n 0) (len := 1) (x1 := 0) (x2 := 0) (x3 := 0) (x4 := 64) ((fe_226 958).trans rfl) L S h
set_option maxRecDepth 20000 in
theorem r_226_959 (L S : List Value) (h : icH) : icE 226 959 L S h = exe icE 226 (e_iload 3 960 L S h) := icE_eq (i := .iload_n 3) (len := 1) (x1 := 0) (x2 := 0) (x3 := 0) (x4 := 64) ((fe_226 959).trans rfl) L S h
set_option maxRecDepth 20000 in
theorem r_226_960 (L S : List Value) (h : icH) : icE 226 960 L S h = icE 226 961 L (.int (nI 1) :: S) h := icE_eq (i := .iconst 1) (len := 1) (x1 := 0) (x2 := 0) (x3 := 0) (x4 := 64) ((fe_226 960).trans rfl) L S h
set_option maxRecDepth 20000 in
theorem r_226_961 (L S : List Value) (h : icH) : icE 226 961 L S h = exe icE 226 (e_bin (fun x y => x + y) 962 L S h) := icE_eq (i := .iadd) (len := 1) (x1 := 0) (x2 := 0) (x3 := 0) (x4 := 64) ((fe_226 961).trans rfl) L S h
set_option maxRecDepth 20000 in
theorem r_226_962 (L S : List Value) (h : icH) : icE 226 962 L S h = exe icE 226 (e_iald 963 L S h) := icE_eq (i := .iaload) (len := 1) (x1 := 0) (x2 := 0) (x3 := 0) (x4 := 64) ((fe_226 962).trans rfl) L S h
set_option maxRecDepth 20000 in
theorem r_226_963 (L S : List Value) (h : icH) : icE 226 963 L S h = exe icE 226 (e_vcal 8 196 7 1 966 L S h) := icE_eq (i := .invokevirtual 126) (len := 3) (x1 := 196) (x2 := 3) (x3 := 8) (x4 := 1263) ((fe_226 963).trans rfl) L S h
set_option maxRecDepth 20000 in
theorem r_226_966 (L S : List Value) (h : icH) : icE 226 966 L S h = exe icE 226 (e_cmp .eq 1441 969 L S h) := icE_eq (i := .if_icmp .eq 475) (len := 3) (x1 := 1441) (x2 := 0) (x3 := 0) (x4 := 64) ((fe_226 966).trans rfl) L S h
set_option maxRecDepth 20000 in
theorem r_226_969 (L S : List Value) (h : icH) : icE 226 969 L S h = icE 226 970 L (.int (nI 0) :: S) h := icE_eq (i := .iconst 0) (len := 1) (x1 := 0) (x2 := 0) (x3 := 0) (x4 := 64) ((fe_226 969).trans rfl) L S h
set_option maxRecDepth 20000 in
theorem r_226_970 (L S : List Value) (h : icH) : icE 226 970 L S h = exe icE 226 (e_iret 1 L S h) := icE_eq (i := .ireturn) (len := 1) (x1 := 1) (x2 := 0) (x3 := 0) (x4 := 64) ((fe_226 970).trans rfl) L S h
set_option maxRecDepth 20000 in
theorem r_226_971 (L S : List Value) (h : icH) : icE 226 971 L S h = exe icE 226 (e_aload 1 972 L S h) := icE_eq (i := .aload_n 1) (len := 1) (x1 := 0) (x2 := 0) (x3 := 0) (x4 := 64) ((fe_226 971).trans rfl) L S h
set_option maxRecDepth 20000 in
theorem r_226_972 (L S : List Value) (h : icH) : icE 226 972 L S h = exe icE 226 (e_aload 0 973 L S h) := icE_eq (i := .aload_n 0) (len := 1) (x1 := 0) (x2 := 0) (x3 := 0) (x4 := 64) ((fe_226 972).trans rfl) L S h
set_option maxRecDepth 20000 in
theorem r_226_973 (L S : List Value) (h : icH) : icE 226 973 L S h = exe icE 226 (e_iload 3 974 L S h) := icE_eq (i := .iload_n 3) (len := 1) (x1 := 0) (x2 := 0) (x3 := 0) (x4 := 64) ((fe_226 973).trans rfl) L S h
set_option maxRecDepth 20000 in
theorem r_226_974 (L S : List Value) (h : icH) : icE 226 974 L S h = icE 226 975 L (.int (nI 1) :: S) h := icE_eq (i := .iconst 1) (len := 1) (x1 := 0) (x2 := 0) (x3 := 0) (x4 := 64) ((fe_226 974).trans rfl) L S h
set_option maxRecDepth 20000 in
theorem r_226_975 (L S : List Value) (h : icH) : icE 226 975 L S h = exe icE 226 (e_bin (fun x y => x + y) 976 L S h) := icE_eq (i := .iadd) (len := 1) (x1 := 0) (x2 := 0) (x3 := 0) (x4 := 64) ((fe_226 975).trans rfl) L S h
set_option maxRecDepth 20000 in
theorem r_226_976 (L S : List Value) (h : icH) : icE 226 976 L S h = exe icE 226 (e_iald 977 L S h) := icE_eq (i := .iaload) (len := 1) (x1 := 0) (x2 := 0) (x3 := 0) (x4 := 64) ((fe_226 976).trans rfl) L S h
set_option maxRecDepth 20000 in
theorem r_226_977 (L S : List Value) (h : icH) : icE 226 977 L S h = exe icE 226 (e_aload 0 978 L S h) := icE_eq (i := .aload_n 0) (len := 1) (x1 := 0) (x2 := 0) (x3 := 0) (x4 := 64) ((fe_226 977).trans rfl) L S h
set_option maxRecDepth 20000 in
theorem r_226_978 (L S : List Value) (h : icH) : icE 226 978 L S h = exe icE 226 (e_iload 3 979 L S h) := icE_eq (i := .iload_n 3) (len := 1) (x1 := 0) (x2 := 0) (x3 := 0) (x4 := 64) ((fe_226 978).trans rfl) L S h
set_option maxRecDepth 20000 in
theorem r_226_979 (L S : List Value) (h : icH) : icE 226 979 L S h = icE 226 980 L (.int (nI 2) :: S) h := icE_eq (i := .iconst 2) (len := 1) (x1 := 0) (x2 := 0) (x3 := 0) (x4 := 64) ((fe_226 979).trans rfl) L S h
set_option maxRecDepth 20000 in
theorem r_226_980 (L S : List Value) (h : icH) : icE 226 980 L S h = exe icE 226 (e_bin (fun x y => x + y) 981 L S h) := icE_eq (i := .iadd) (len := 1) (x1 := 0) (x2 := 0) (x3 := 0) (x4 := 64) ((fe_226 980).trans rfl) L S h
set_option maxRecDepth 20000 in
theorem r_226_981 (L S : List Value) (h : icH) : icE 226 981 L S h = exe icE 226 (e_iald 982 L S h) := icE_eq (i := .iaload) (len := 1) (x1 := 0) (x2 := 0) (x3 := 0) (x4 := 64) ((fe_226 981).trans rfl) L S h
set_option maxRecDepth 20000 in
theorem r_226_982 (L S : List Value) (h : icH) : icE 226 982 L S h = exe icE 226 (e_aload 0 983 L S h) := icE_eq (i := .aload_n 0) (len := 1) (x1 := 0) (x2 := 0) (x3 := 0) (x4 := 64) ((fe_226 982).trans rfl) L S h
set_option maxRecDepth 20000 in
theorem r_226_983 (L S : List Value) (h : icH) : icE 226 983 L S h = exe icE 226 (e_iload 3 984 L S h) := icE_eq (i := .iload_n 3) (len := 1) (x1 := 0) (x2 := 0) (x3 := 0) (x4 := 64) ((fe_226 983).trans rfl) L S h
set_option maxRecDepth 20000 in
theorem r_226_984 (L S : List Value) (h : icH) : icE 226 984 L S h = icE 226 985 L (.int (nI 3) :: S) h := icE_eq (i := .iconst 3) (len := 1) (x1 := 0) (x2 := 0) (x3 := 0) (x4 := 64) ((fe_226 984).trans rfl) L S h
set_option maxRecDepth 20000 in
theorem r_226_985 (L S : List Value) (h : icH) : icE 226 985 L S h = exe icE 226 (e_bin (fun x y => x + y) 986 L S h) := icE_eq (i := .iadd) (len := 1) (x1 := 0) (x2 := 0) (x3 := 0) (x4 := 64) ((fe_226 985).trans rfl) L S h
set_option maxRecDepth 20000 in
theorem r_226_986 (L S : List Value) (h : icH) : icE 226 986 L S h = exe icE 226 (e_iald 987 L S h) := icE_eq (i := .iaload) (len := 1) (x1 := 0) (x2 := 0) (x3 := 0) (x4 := 64) ((fe_226 986).trans rfl) L S h
set_option maxRecDepth 20000 in
theorem r_226_987 (L S : List Value) (h : icH) : icE 226 987 L S h = exe icE 226 (e_aload 0 988 L S h) := icE_eq (i := .aload_n 0) (len := 1) (x1 := 0) (x2 := 0) (x3 := 0) (x4 := 64) ((fe_226 987).trans rfl) L S h
set_option maxRecDepth 20000 in
theorem r_226_988 (L S : List Value) (h : icH) : icE 226 988 L S h = exe icE 226 (e_iload 3 989 L S h) := icE_eq (i := .iload_n 3) (len := 1) (x1 := 0) (x2 := 0) (x3 := 0) (x4 := 64) ((fe_226 988).trans rfl) L S h
set_option maxRecDepth 20000 in
theorem r_226_989 (L S : List Value) (h : icH) : icE 226 989 L S h = icE 226 990 L (.int (nI 4) :: S) h := icE_eq (i := .iconst 4) (len := 1) (x1 := 0) (x2 := 0) (x3 := 0) (x4 := 64) ((fe_226 989).trans rfl) L S h
set_option maxRecDepth 20000 in
theorem r_226_990 (L S : List Value) (h : icH) : icE 226 990 L S h = exe icE 226 (e_bin (fun x y => x + y) 991 L S h) := icE_eq (i := .iadd) (len := 1) (x1 := 0) (x2 := 0) (x3 := 0) (x4 := 64) ((fe_226 990).trans rfl) L S h
set_option maxRecDepth 20000 in
theorem r_226_991 (L S : List Value) (h : icH) : icE 226 991 L S h = exe icE 226 (e_iald 992 L S h) := icE_eq (i := .iaload) (len := 1) (x1 := 0) (x2 := 0) (x3 := 0) (x4 := 64) ((fe_226 991).trans rfl) L S h
set_option maxRecDepth 20000 in
theorem r_226_992 (L S : List Value) (h : icH) : icE 226 992 L S h = exe icE 226 (e_aload 0 993 L S h) := icE_eq (i := .aload_n 0) (len := 1) (x1 := 0) (x2 := 0) (x3 := 0) (x4 := 64) ((fe_226 992).trans rfl) L S h
set_option maxRecDepth 20000 in
theorem r_226_993 (L S : List Value) (h : icH) : icE 226 993 L S h = exe icE 226 (e_iload 3 994 L S h) := icE_eq (i := .iload_n 3) (len := 1) (x1 := 0) (x2 := 0) (x3 := 0) (x4 := 64) ((fe_226 993).trans rfl) L S h
set_option maxRecDepth 20000 in
theorem r_226_994 (L S : List Value) (h : icH) : icE 226 994 L S h = icE 226 995 L (.int (nI 5) :: S) h := icE_eq (i := .iconst 5) (len := 1) (x1 := 0) (x2 := 0) (x3 := 0) (x4 := 64) ((fe_226 994).trans rfl) L S h
set_option maxRecDepth 20000 in
theorem r_226_995 (L S : List Value) (h : icH) : icE 226 995 L S h = exe icE 226 (e_bin (fun x y => x + y) 996 L S h) := icE_eq (i := .iadd) (len := 1) (x1 := 0) (x2 := 0) (x3 := 0) (x4 := 64) ((fe_226 995).trans rfl) L S h
set_option maxRecDepth 20000 in
theorem r_226_996 (L S : List Value) (h : icH) : icE 226 996 L S h = exe icE 226 (e_iald 997 L S h) := icE_eq (i := .iaload) (len := 1) (x1 := 0) (x2 := 0) (x3 := 0) (x4 := 64) ((fe_226 996).trans rfl) L S h
set_option maxRecDepth 20000 in
theorem r_226_997 (L S : List Value) (h : icH) : icE 226 997 L S h = exe icE 226 (e_vcal 7 97 6 5 1000 L S h) := icE_eq (i := .invokevirtual 127) (len := 3) (x1 := 97) (x2 := 3) (x3 := 7) (x4 := 828) ((fe_226 997).trans rfl) L S h
set_option maxRecDepth 20000 in
theorem r_226_1000 (L S : List Value) (h : icH) : icE 226 1000 L S h = exe icE 226 (e_aload 2 1001 L S h) := icE_eq (i := .aload_n 2) (len := 1) (x1 := 0) (x2 := 0) (x3 := 0) (x4 := 64) ((fe_226 1000).trans rfl) L S h
set_option maxRecDepth 20000 in
theorem r_226_1001 (L S : List Value) (h : icH) : icE 226 1001 L S h = exe icE 226 (e_aload 0 1002 L S h) := icE_eq (i := .aload_n 0) (len := 1) (x1 := 0) (x2 := 0) (x3 := 0) (x4 := 64) ((fe_226 1001).trans rfl) L S h
set_option maxRecDepth 20000 in
theorem r_226_1002 (L S : List Value) (h : icH) : icE 226 1002 L S h = exe icE 226 (e_iload 3 1003 L S h) := icE_eq (i := .iload_n 3) (len := 1) (x1 := 0) (x2 := 0) (x3 := 0) (x4 := 64) ((fe_226 1002).trans rfl) L S h
set_option maxRecDepth 20000 in
theorem r_226_1003 (L S : List Value) (h : icH) : icE 226 1003 L S h = icE 226 1004 L (.int (nI 1) :: S) h := icE_eq (i := .iconst 1) (len := 1) (x1 := 0) (x2 := 0) (x3 := 0) (x4 := 64) ((fe_226 1003).trans rfl) L S h
set_option maxRecDepth 20000 in
theorem r_226_1004 (L S : List Value) (h : icH) : icE 226 1004 L S h = exe icE 226 (e_bin (fun x y => x + y) 1005 L S h) := icE_eq (i := .iadd) (len := 1) (x1 := 0) (x2 := 0) (x3 := 0) (x4 := 64) ((fe_226 1004).trans rfl) L S h
set_option maxRecDepth 20000 in
theorem r_226_1005 (L S : List Value) (h : icH) : icE 226 1005 L S h = exe icE 226 (e_iald 1006 L S h) := icE_eq (i := .iaload) (len := 1) (x1 := 0) (x2 := 0) (x3 := 0) (x4 := 64) ((fe_226 1005).trans rfl) L S h
set_option maxRecDepth 20000 in
theorem r_226_1006 (L S : List Value) (h : icH) : icE 226 1006 L S h = exe icE 226 (e_aload 0 1007 L S h) := icE_eq (i := .aload_n 0) (len := 1) (x1 := 0) (x2 := 0) (x3 := 0) (x4 := 64) ((fe_226 1006).trans rfl) L S h
set_option maxRecDepth 20000 in
theorem r_226_1007 (L S : List Value) (h : icH) : icE 226 1007 L S h = exe icE 226 (e_iload 3 1008 L S h) := icE_eq (i := .iload_n 3) (len := 1) (x1 := 0) (x2 := 0) (x3 := 0) (x4 := 64) ((fe_226 1007).trans rfl) L S h
set_option maxRecDepth 20000 in
theorem r_226_1008 (L S : List Value) (h : icH) : icE 226 1008 L S h = icE 226 1009 L (.int (nI 2) :: S) h := icE_eq (i := .iconst 2) (len := 1) (x1 := 0) (x2 := 0) (x3 := 0) (x4 := 64) ((fe_226 1008).trans rfl) L S h
set_option maxRecDepth 20000 in
theorem r_226_1009 (L S : List Value) (h : icH) : icE 226 1009 L S h = exe icE 226 (e_bin (fun x y => x + y) 1010 L S h) := icE_eq (i := .iadd) (len := 1) (x1 := 0) (x2 := 0) (x3 := 0) (x4 := 64) ((fe_226 1009).trans rfl) L S h
set_option maxRecDepth 20000 in
theorem r_226_1010 (L S : List Value) (h : icH) : icE 226 1010 L S h = exe icE 226 (e_iald 1011 L S h) := icE_eq (i := .iaload) (len := 1) (x1 := 0) (x2 := 0) (x3 := 0) (x4 := 64) ((fe_226 1010).trans rfl) L S h
set_option maxRecDepth 20000 in
theorem r_226_1011 (L S : List Value) (h : icH) : icE 226 1011 L S h = exe icE 226 (e_aload 0 1012 L S h) := icE_eq (i := .aload_n 0) (len := 1) (x1 := 0) (x2 := 0) (x3 := 0) (x4 := 64) ((fe_226 1011).trans rfl) L S h
set_option maxRecDepth 20000 in
theorem r_226_1012 (L S : List Value) (h : icH) : icE 226 1012 L S h = exe icE 226 (e_iload 3 1013 L S h) := icE_eq (i := .iload_n 3) (len := 1) (x1 := 0) (x2 := 0) (x3 := 0) (x4 := 64) ((fe_226 1012).trans rfl) L S h
set_option maxRecDepth 20000 in
theorem r_226_1013 (L S : List Value) (h : icH) : icE 226 1013 L S h = icE 226 1014 L (.int (nI 3) :: S) h := icE_eq (i := .iconst 3) (len := 1) (x1 := 0) (x2 := 0) (x3 := 0) (x4 := 64) ((fe_226 1013).trans rfl) L S h
set_option maxRecDepth 20000 in
theorem r_226_1014 (L S : List Value) (h : icH) : icE 226 1014 L S h = exe icE 226 (e_bin (fun x y => x + y) 1015 L S h) := icE_eq (i := .iadd) (len := 1) (x1 := 0) (x2 := 0) (x3 := 0) (x4 := 64) ((fe_226 1014).trans rfl) L S h
set_option maxRecDepth 20000 in
theorem r_226_1015 (L S : List Value) (h : icH) : icE 226 1015 L S h = exe icE 226 (e_iald 1016 L S h) := icE_eq (i := .iaload) (len := 1) (x1 := 0) (x2 := 0) (x3 := 0) (x4 := 64) ((fe_226 1015).trans rfl) L S h
set_option maxRecDepth 20000 in
theorem r_226_1016 (L S : List Value) (h : icH) : icE 226 1016 L S h = exe icE 226 (e_aload 0 1017 L S h) := icE_eq (i := .aload_n 0) (len := 1) (x1 := 0) (x2 := 0) (x3 := 0) (x4 := 64) ((fe_226 1016).trans rfl) L S h
set_option maxRecDepth 20000 in
theorem r_226_1017 (L S : List Value) (h : icH) : icE 226 1017 L S h = exe icE 226 (e_iload 3 1018 L S h) := icE_eq (i := .iload_n 3) (len := 1) (x1 := 0) (x2 := 0) (x3 := 0) (x4 := 64) ((fe_226 1017).trans rfl) L S h
set_option maxRecDepth 20000 in
theorem r_226_1018 (L S : List Value) (h : icH) : icE 226 1018 L S h = icE 226 1019 L (.int (nI 4) :: S) h := icE_eq (i := .iconst 4) (len := 1) (x1 := 0) (x2 := 0) (x3 := 0) (x4 := 64) ((fe_226 1018).trans rfl) L S h
set_option maxRecDepth 20000 in
theorem r_226_1019 (L S : List Value) (h : icH) : icE 226 1019 L S h = exe icE 226 (e_bin (fun x y => x + y) 1020 L S h) := icE_eq (i := .iadd) (len := 1) (x1 := 0) (x2 := 0) (x3 := 0) (x4 := 64) ((fe_226 1019).trans rfl) L S h
set_option maxRecDepth 20000 in
theorem r_226_1020 (L S : List Value) (h : icH) : icE 226 1020 L S h = exe icE 226 (e_iald 1021 L S h) := icE_eq (i := .iaload) (len := 1) (x1 := 0) (x2 := 0) (x3 := 0) (x4 := 64) ((fe_226 1020).trans rfl) L S h
set_option maxRecDepth 20000 in
theorem r_226_1021 (L S : List Value) (h : icH) : icE 226 1021 L S h = exe icE 226 (e_aload 0 1022 L S h) := icE_eq (i := .aload_n 0) (len := 1) (x1 := 0) (x2 := 0) (x3 := 0) (x4 := 64) ((fe_226 1021).trans rfl) L S h
set_option maxRecDepth 20000 in
theorem r_226_1022 (L S : List Value) (h : icH) : icE 226 1022 L S h = exe icE 226 (e_iload 3 1023 L S h) := icE_eq (i := .iload_n 3) (len := 1) (x1 := 0) (x2 := 0) (x3 := 0) (x4 := 64) ((fe_226 1022).trans rfl) L S h
set_option maxRecDepth 20000 in
theorem r_226_1023 (L S : List Value) (h : icH) : icE 226 1023 L S h = icE 226 1024 L (.int (nI 5) :: S) h := icE_eq (i := .iconst 5) (len := 1) (x1 := 0) (x2 := 0) (x3 := 0) (x4 := 64) ((fe_226 1023).trans rfl) L S h
set_option maxRecDepth 20000 in
theorem r_226_1024 (L S : List Value) (h : icH) : icE 226 1024 L S h = exe icE 226 (e_bin (fun x y => x + y) 1025 L S h) := icE_eq (i := .iadd) (len := 1) (x1 := 0) (x2 := 0) (x3 := 0) (x4 := 64) ((fe_226 1024).trans rfl) L S h
set_option maxRecDepth 20000 in
theorem r_226_1025 (L S : List Value) (h : icH) : icE 226 1025 L S h = exe icE 226 (e_iald 1026 L S h) := icE_eq (i := .iaload) (len := 1) (x1 := 0) (x2 := 0) (x3 := 0) (x4 := 64) ((fe_226 1025).trans rfl) L S h
set_option maxRecDepth 20000 in
theorem r_226_1026 (L S : List Value) (h : icH) : icE 226 1026 L S h = exe icE 226 (e_vcal 8 197 7 5 1029 L S h) := icE_eq (i := .invokevirtual 130) (len := 3) (x1 := 197) (x2 := 3) (x3 := 8) (x4 := 1271) ((fe_226 1026).trans rfl) L S h
set_option maxRecDepth 20000 in
theorem r_226_1029 (L S : List Value) (h : icH) : icE 226 1029 L S h = exe icE 226 (e_cmp .eq 1441 1032 L S h) := icE_eq (i := .if_icmp .eq 412) (len := 3) (x1 := 1441) (x2 := 0) (x3 := 0) (x4 := 64) ((fe_226 1029).trans rfl) L S h
set_option maxRecDepth 20000 in
theorem r_226_1032 (L S : List Value) (h : icH) : icE 226 1032 L S h = icE 226 1033 L (.int (nI 0) :: S) h := icE_eq (i := .iconst 0) (len := 1) (x1 := 0) (x2 := 0) (x3 := 0) (x4 := 64) ((fe_226 1032).trans rfl) L S h
set_option maxRecDepth 20000 in
theorem r_226_1033 (L S : List Value) (h : icH) : icE 226 1033 L S h = exe icE 226 (e_iret 1 L S h) := icE_eq (i := .ireturn) (len := 1) (x1 := 1) (x2 := 0) (x3 := 0) (x4 := 64) ((fe_226 1033).trans rfl) L S h
set_option maxRecDepth 20000 in
theorem r_226_1034 (L S : List Value) (h : icH) : icE 226 1034 L S h = exe icE 226 (e_aload 1 1035 L S h) := icE_eq (i := .aload_n 1) (len := 1) (x1 := 0) (x2 := 0) (x3 := 0) (x4 := 64) ((fe_226 1034).trans rfl) L S h
set_option maxRecDepth 20000 in
theorem r_226_1035 (L S : List Value) (h : icH) : icE 226 1035 L S h = exe icE 226 (e_aload 0 1036 L S h) := icE_eq (i := .aload_n 0) (len := 1) (x1 := 0) (x2 := 0) (x3 := 0) (x4 := 64) ((fe_226 1035).trans rfl) L S h
set_option maxRecDepth 20000 in
theorem r_226_1036 (L S : List Value) (h : icH) : icE 226 1036 L S h = exe icE 226 (e_iload 3 1037 L S h) := icE_eq (i := .iload_n 3) (len := 1) (x1 := 0) (x2 := 0) (x3 := 0) (x4 := 64) ((fe_226 1036).trans rfl) L S h
set_option maxRecDepth 20000 in
theorem r_226_1037 (L S : List Value) (h : icH) : icE 226 1037 L S h = icE 226 1038 L (.int (nI 1) :: S) h := icE_eq (i := .iconst 1) (len := 1) (x1 := 0) (x2 := 0) (x3 := 0) (x4 := 64) ((fe_226 1037).trans rfl) L S h
set_option maxRecDepth 20000 in
theorem r_226_1038 (L S : List Value) (h : icH) : icE 226 1038 L S h = exe icE 226 (e_bin (fun x y => x + y) 1039 L S h) := icE_eq (i := .iadd) (len := 1) (x1 := 0) (x2 := 0) (x3 := 0) (x4 := 64) ((fe_226 1038).trans rfl) L S h
set_option maxRecDepth 20000 in
theorem r_226_1039 (L S : List Value) (h : icH) : icE 226 1039 L S h = exe icE 226 (e_iald 1040 L S h) := icE_eq (i := .iaload) (len := 1) (x1 := 0) (x2 := 0) (x3 := 0) (x4 := 64) ((fe_226 1039).trans rfl) L S h
set_option maxRecDepth 20000 in
theorem r_226_1040 (L S : List Value) (h : icH) : icE 226 1040 L S h = exe icE 226 (e_aload 0 1041 L S h) := icE_eq (i := .aload_n 0) (len := 1) (x1 := 0) (x2 := 0) (x3 := 0) (x4 := 64) ((fe_226 1040).trans rfl) L S h
set_option maxRecDepth 20000 in
theorem r_226_1041 (L S : List Value) (h : icH) : icE 226 1041 L S h = exe icE 226 (e_iload 3 1042 L S h) := icE_eq (i := .iload_n 3) (len := 1) (x1 := 0) (x2 := 0) (x3 := 0) (x4 := 64) ((fe_226 1041).trans rfl) L S h
set_option maxRecDepth 20000 in
theorem r_226_1042 (L S : List Value) (h : icH) : icE 226 1042 L S h = icE 226 1043 L (.int (nI 2) :: S) h := icE_eq (i := .iconst 2) (len := 1) (x1 := 0) (x2 := 0) (x3 := 0) (x4 := 64) ((fe_226 1042).trans rfl) L S h
set_option maxRecDepth 20000 in
theorem r_226_1043 (L S : List Value) (h : icH) : icE 226 1043 L S h = exe icE 226 (e_bin (fun x y => x + y) 1044 L S h) := icE_eq (i := .iadd) (len := 1) (x1 := 0) (x2 := 0) (x3 := 0) (x4 := 64) ((fe_226 1043).trans rfl) L S h
set_option maxRecDepth 20000 in
theorem r_226_1044 (L S : List Value) (h : icH) : icE 226 1044 L S h = exe icE 226 (e_iald 1045 L S h) := icE_eq (i := .iaload) (len := 1) (x1 := 0) (x2 := 0) (x3 := 0) (x4 := 64) ((fe_226 1044).trans rfl) L S h
set_option maxRecDepth 20000 in
theorem r_226_1045 (L S : List Value) (h : icH) : icE 226 1045 L S h = exe icE 226 (e_aload 0 1046 L S h) := icE_eq (i := .aload_n 0) (len := 1) (x1 := 0) (x2 := 0) (x3 := 0) (x4 := 64) ((fe_226 1045).trans rfl) L S h
set_option maxRecDepth 20000 in
theorem r_226_1046 (L S : List Value) (h : icH) : icE 226 1046 L S h = exe icE 226 (e_iload 3 1047 L S h) := icE_eq (i := .iload_n 3) (len := 1) (x1 := 0) (x2 := 0) (x3 := 0) (x4 := 64) ((fe_226 1046).trans rfl) L S h
set_option maxRecDepth 20000 in
theorem r_226_1047 (L S : List Value) (h : icH) : icE 226 1047 L S h = icE 226 1048 L (.int (nI 3) :: S) h := icE_eq (i := .iconst 3) (len := 1) (x1 := 0) (x2 := 0) (x3 := 0) (x4 := 64) ((fe_226 1047).trans rfl) L S h
set_option maxRecDepth 20000 in
theorem r_226_1048 (L S : List Value) (h : icH) : icE 226 1048 L S h = exe icE 226 (e_bin (fun x y => x + y) 1049 L S h) := icE_eq (i := .iadd) (len := 1) (x1 := 0) (x2 := 0) (x3 := 0) (x4 := 64) ((fe_226 1048).trans rfl) L S h
set_option maxRecDepth 20000 in
theorem r_226_1049 (L S : List Value) (h : icH) : icE 226 1049 L S h = exe icE 226 (e_iald 1050 L S h) := icE_eq (i := .iaload) (len := 1) (x1 := 0) (x2 := 0) (x3 := 0) (x4 := 64) ((fe_226 1049).trans rfl) L S h
set_option maxRecDepth 20000 in
theorem r_226_1050 (L S : List Value) (h : icH) : icE 226 1050 L S h = exe icE 226 (e_aload 0 1051 L S h) := icE_eq (i := .aload_n 0) (len := 1) (x1 := 0) (x2 := 0) (x3 := 0) (x4 := 64) ((fe_226 1050).trans rfl) L S h
set_option maxRecDepth 20000 in
theorem r_226_1051 (L S : List Value) (h : icH) : icE 226 1051 L S h = exe icE 226 (e_iload 3 1052 L S h) := icE_eq (i := .iload_n 3) (len := 1) (x1 := 0) (x2 := 0) (x3 := 0) (x4 := 64) ((fe_226 1051).trans rfl) L S h
set_option maxRecDepth 20000 in
theorem r_226_1052 (L S : List Value) (h : icH) : icE 226 1052 L S h = icE 226 1053 L (.int (nI 4) :: S) h := icE_eq (i := .iconst 4) (len := 1) (x1 := 0) (x2 := 0) (x3 := 0) (x4 := 64) ((fe_226 1052).trans rfl) L S h
set_option maxRecDepth 20000 in
theorem r_226_1053 (L S : List Value) (h : icH) : icE 226 1053 L S h = exe icE 226 (e_bin (fun x y => x + y) 1054 L S h) := icE_eq (i := .iadd) (len := 1) (x1 := 0) (x2 := 0) (x3 := 0) (x4 := 64) ((fe_226 1053).trans rfl) L S h
set_option maxRecDepth 20000 in
theorem r_226_1054 (L S : List Value) (h : icH) : icE 226 1054 L S h = exe icE 226 (e_iald 1055 L S h) := icE_eq (i := .iaload) (len := 1) (x1 := 0) (x2 := 0) (x3 := 0) (x4 := 64) ((fe_226 1054).trans rfl) L S h
set_option maxRecDepth 20000 in
theorem r_226_1055 (L S : List Value) (h : icH) : icE 226 1055 L S h = exe icE 226 (e_aload 0 1056 L S h) := icE_eq (i := .aload_n 0) (len := 1) (x1 := 0) (x2 := 0) (x3 := 0) (x4 := 64) ((fe_226 1055).trans rfl) L S h
set_option maxRecDepth 20000 in
theorem r_226_1056 (L S : List Value) (h : icH) : icE 226 1056 L S h = exe icE 226 (e_iload 3 1057 L S h) := icE_eq (i := .iload_n 3) (len := 1) (x1 := 0) (x2 := 0) (x3 := 0) (x4 := 64) ((fe_226 1056).trans rfl) L S h
set_option maxRecDepth 20000 in
theorem r_226_1057 (L S : List Value) (h : icH) : icE 226 1057 L S h = icE 226 1058 L (.int (nI 5) :: S) h := icE_eq (i := .iconst 5) (len := 1) (x1 := 0) (x2 := 0) (x3 := 0) (x4 := 64) ((fe_226 1057).trans rfl) L S h
set_option maxRecDepth 20000 in
theorem r_226_1058 (L S : List Value) (h : icH) : icE 226 1058 L S h = exe icE 226 (e_bin (fun x y => x + y) 1059 L S h) := icE_eq (i := .iadd) (len := 1) (x1 := 0) (x2 := 0) (x3 := 0) (x4 := 64) ((fe_226 1058).trans rfl) L S h
set_option maxRecDepth 20000 in
theorem r_226_1059 (L S : List Value) (h : icH) : icE 226 1059 L S h = exe icE 226 (e_iald 1060 L S h) := icE_eq (i := .iaload) (len := 1) (x1 := 0) (x2 := 0) (x3 := 0) (x4 := 64) ((fe_226 1059).trans rfl) L S h
set_option maxRecDepth 20000 in
theorem r_226_1060 (L S : List Value) (h : icH) : icE 226 1060 L S h = exe icE 226 (e_vcal 7 98 6 5 1063 L S h) := icE_eq (i := .invokevirtual 131) (len := 3) (x1 := 98) (x2 := 3) (x3 := 7) (x4 := 832) ((fe_226 1060).trans rfl) L S h
set_option maxRecDepth 20000 in
theorem r_226_1063 (L S : List Value) (h : icH) : icE 226 1063 L S h = exe icE 226 (e_aload 2 1064 L S h) := icE_eq (i := .aload_n 2) (len := 1) (x1 := 0) (x2 := 0) (x3 := 0) (x4 := 64) ((fe_226 1063).trans rfl) L S h
set_option maxRecDepth 20000 in
theorem r_226_1064 (L S : List Value) (h : icH) : icE 226 1064 L S h = exe icE 226 (e_aload 0 1065 L S h) := icE_eq (i := .aload_n 0) (len := 1) (x1 := 0) (x2 := 0) (x3 := 0) (x4 := 64) ((fe_226 1064).trans rfl) L S h
set_option maxRecDepth 20000 in
theorem r_226_1065 (L S : List Value) (h : icH) : icE 226 1065 L S h = exe icE 226 (e_iload 3 1066 L S h) := icE_eq (i := .iload_n 3) (len := 1) (x1 := 0) (x2 := 0) (x3 := 0) (x4 := 64) ((fe_226 1065).trans rfl) L S h
set_option maxRecDepth 20000 in
theorem r_226_1066 (L S : List Value) (h : icH) : icE 226 1066 L S h = icE 226 1067 L (.int (nI 1) :: S) h := icE_eq (i := .iconst 1) (len := 1) (x1 := 0) (x2 := 0) (x3 := 0) (x4 := 64) ((fe_226 1066).trans rfl) L S h
set_option maxRecDepth 20000 in
theorem r_226_1067 (L S : List Value) (h : icH) : icE 226 1067 L S h = exe icE 226 (e_bin (fun x y => x + y) 1068 L S h) := icE_eq (i := .iadd) (len := 1) (x1 := 0) (x2 := 0) (x3 := 0) (x4 := 64) ((fe_226 1067).trans rfl) L S h
set_option maxRecDepth 20000 in
theorem r_226_1068 (L S : List Value) (h : icH) : icE 226 1068 L S h = exe icE 226 (e_iald 1069 L S h) := icE_eq (i := .iaload) (len := 1) (x1 := 0) (x2 := 0) (x3 := 0) (x4 := 64) ((fe_226 1068).trans rfl) L S h
set_option maxRecDepth 20000 in
theorem r_226_1069 (L S : List Value) (h : icH) : icE 226 1069 L S h = exe icE 226 (e_aload 0 1070 L S h) := icE_eq (i := .aload_n 0) (len := 1) (x1 := 0) (x2 := 0) (x3 := 0) (x4 := 64) ((fe_226 1069).trans rfl) L S h
set_option maxRecDepth 20000 in
theorem r_226_1070 (L S : List Value) (h : icH) : icE 226 1070 L S h = exe icE 226 (e_iload 3 1071 L S h) := icE_eq (i := .iload_n 3) (len := 1) (x1 := 0) (x2 := 0) (x3 := 0) (x4 := 64) ((fe_226 1070).trans rfl) L S h
set_option maxRecDepth 20000 in
theorem r_226_1071 (L S : List Value) (h : icH) : icE 226 1071 L S h = icE 226 1072 L (.int (nI 2) :: S) h := icE_eq (i := .iconst 2) (len := 1) (x1 := 0) (x2 := 0) (x3 := 0) (x4 := 64) ((fe_226 1071).trans rfl) L S h
set_option maxRecDepth 20000 in
theorem r_226_1072 (L S : List Value) (h : icH) : icE 226 1072 L S h = exe icE 226 (e_bin (fun x y => x + y) 1073 L S h) := icE_eq (i := .iadd) (len := 1) (x1 := 0) (x2 := 0) (x3 := 0) (x4 := 64) ((fe_226 1072).trans rfl) L S h
set_option maxRecDepth 20000 in
theorem r_226_1073 (L S : List Value) (h : icH) : icE 226 1073 L S h = exe icE 226 (e_iald 1074 L S h) := icE_eq (i := .iaload) (len := 1) (x1 := 0) (x2 := 0) (x3 := 0) (x4 := 64) ((fe_226 1073).trans rfl) L S h
set_option maxRecDepth 20000 in
theorem r_226_1074 (L S : List Value) (h : icH) : icE 226 1074 L S h = exe icE 226 (e_aload 0 1075 L S h) := icE_eq (i := .aload_n 0) (len := 1) (x1 := 0) (x2 := 0) (x3 := 0) (x4 := 64) ((fe_226 1074).trans rfl) L S h
set_option maxRecDepth 20000 in
theorem r_226_1075 (L S : List Value) (h : icH) : icE 226 1075 L S h = exe icE 226 (e_iload 3 1076 L S h) := icE_eq (i := .iload_n 3) (len := 1) (x1 := 0) (x2 := 0) (x3 := 0) (x4 := 64) ((fe_226 1075).trans rfl) L S h
set_option maxRecDepth 20000 in
theorem r_226_1076 (L S : List Value) (h : icH) : icE 226 1076 L S h = icE 226 1077 L (.int (nI 3) :: S) h := icE_eq (i := .iconst 3) (len := 1) (x1 := 0) (x2 := 0) (x3 := 0) (x4 := 64) ((fe_226 1076).trans rfl) L S h
set_option maxRecDepth 20000 in
theorem r_226_1077 (L S : List Value) (h : icH) : icE 226 1077 L S h = exe icE 226 (e_bin (fun x y => x + y) 1078 L S h) := icE_eq (i := .iadd) (len := 1) (x1 := 0) (x2 := 0) (x3 := 0) (x4 := 64) ((fe_226 1077).trans rfl) L S h
set_option maxRecDepth 20000 in
theorem r_226_1078 (L S : List Value) (h : icH) : icE 226 1078 L S h = exe icE 226 (e_iald 1079 L S h) := icE_eq (i := .iaload) (len := 1) (x1 := 0) (x2 := 0) (x3 := 0) (x4 := 64) ((fe_226 1078).trans rfl) L S h
set_option maxRecDepth 20000 in
theorem r_226_1079 (L S : List Value) (h : icH) : icE 226 1079 L S h = exe icE 226 (e_aload 0 1080 L S h) := icE_eq (i := .aload_n 0) (len := 1) (x1 := 0) (x2 := 0) (x3 := 0) (x4 := 64) ((fe_226 1079).trans rfl) L S h
set_option maxRecDepth 20000 in
theorem r_226_1080 (L S : List Value) (h : icH) : icE 226 1080 L S h = exe icE 226 (e_iload 3 1081 L S h) := icE_eq (i := .iload_n 3) (len := 1) (x1 := 0) (x2 := 0) (x3 := 0) (x4 := 64) ((fe_226 1080).trans rfl) L S h
set_option maxRecDepth 20000 in
theorem r_226_1081 (L S : List Value) (h : icH) : icE 226 1081 L S h = icE 226 1082 L (.int (nI 4) :: S) h := icE_eq (i := .iconst 4) (len := 1) (x1 := 0) (x2 := 0) (x3 := 0) (x4 := 64) ((fe_226 1081).trans rfl) L S h
set_option maxRecDepth 20000 in
theorem r_226_1082 (L S : List Value) (h : icH) : icE 226 1082 L S h = exe icE 226 (e_bin (fun x y => x + y) 1083 L S h) := icE_eq (i := .iadd) (len := 1) (x1 := 0) (x2 := 0) (x3 := 0) (x4 := 64) ((fe_226 1082).trans rfl) L S h
set_option maxRecDepth 20000 in
theorem r_226_1083 (L S : List Value) (h : icH) : icE 226 1083 L S h = exe icE 226 (e_iald 1084 L S h) := icE_eq (i := .iaload) (len := 1) (x1 := 0) (x2 := 0) (x3 := 0) (x4 := 64) ((fe_226 1083).trans rfl) L S h
set_option maxRecDepth 20000 in
theorem r_226_1084 (L S : List Value) (h : icH) : icE 226 1084 L S h = exe icE 226 (e_aload 0 1085 L S h) := icE_eq (i := .aload_n 0) (len := 1) (x1 := 0) (x2 := 0) (x3 := 0) (x4 := 64) ((fe_226 1084).trans rfl) L S h
set_option maxRecDepth 20000 in
theorem r_226_1085 (L S : List Value) (h : icH) : icE 226 1085 L S h = exe icE 226 (e_iload 3 1086 L S h) := icE_eq (i := .iload_n 3) (len := 1) (x1 := 0) (x2 := 0) (x3 := 0) (x4 := 64) ((fe_226 1085).trans rfl) L S h
set_option maxRecDepth 20000 in
theorem r_226_1086 (L S : List Value) (h : icH) : icE 226 1086 L S h = icE 226 1087 L (.int (nI 5) :: S) h := icE_eq (i := .iconst 5) (len := 1) (x1 := 0) (x2 := 0) (x3 := 0) (x4 := 64) ((fe_226 1086).trans rfl) L S h
set_option maxRecDepth 20000 in
theorem r_226_1087 (L S : List Value) (h : icH) : icE 226 1087 L S h = exe icE 226 (e_bin (fun x y => x + y) 1088 L S h) := icE_eq (i := .iadd) (len := 1) (x1 := 0) (x2 := 0) (x3 := 0) (x4 := 64) ((fe_226 1087).trans rfl) L S h
set_option maxRecDepth 20000 in
theorem r_226_1088 (L S : List Value) (h : icH) : icE 226 1088 L S h = exe icE 226 (e_iald 1089 L S h) := icE_eq (i := .iaload) (len := 1) (x1 := 0) (x2 := 0) (x3 := 0) (x4 := 64) ((fe_226 1088).trans rfl) L S h
set_option maxRecDepth 20000 in
theorem r_226_1089 (L S : List Value) (h : icH) : icE 226 1089 L S h = exe icE 226 (e_vcal 8 198 7 5 1092 L S h) := icE_eq (i := .invokevirtual 134) (len := 3) (x1 := 198) (x2 := 3) (x3 := 8) (x4 := 1278) ((fe_226 1089).trans rfl) L S h
set_option maxRecDepth 20000 in
theorem r_226_1092 (L S : List Value) (h : icH) : icE 226 1092 L S h = exe icE 226 (e_cmp .eq 1441 1095 L S h) := icE_eq (i := .if_icmp .eq 349) (len := 3) (x1 := 1441) (x2 := 0) (x3 := 0) (x4 := 64) ((fe_226 1092).trans rfl) L S h
set_option maxRecDepth 20000 in
theorem r_226_1095 (L S : List Value) (h : icH) : icE 226 1095 L S h = icE 226 1096 L (.int (nI 0) :: S) h := icE_eq (i := .iconst 0) (len := 1) (x1 := 0) (x2 := 0) (x3 := 0) (x4 := 64) ((fe_226 1095).trans rfl) L S h
set_option maxRecDepth 20000 in
theorem r_226_1096 (L S : List Value) (h : icH) : icE 226 1096 L S h = exe icE 226 (e_iret 1 L S h) := icE_eq (i := .ireturn) (len := 1) (x1 := 1) (x2 := 0) (x3 := 0) (x4 := 64) ((fe_226 1096).trans rfl) L S h
set_option maxRecDepth 20000 in
theorem r_226_1097 (L S : List Value) (h : icH) : icE 226 1097 L S h = exe icE 226 (e_aload 1 1098 L S h) := icE_eq (i := .aload_n 1) (len := 1) (x1 := 0) (x2 := 0) (x3 := 0) (x4 := 64) ((fe_226 1097).trans rfl) L S h
set_option maxRecDepth 20000 in
theorem r_226_1098 (L S : List Value) (h : icH) : icE 226 1098 L S h = exe icE 226 (e_aload 0 1099 L S h) := icE_eq (i := .aload_n 0) (len := 1) (x1 := 0) (x2 := 0) (x3 := 0) (x4 := 64) ((fe_226 1098).trans rfl) L S h
set_option maxRecDepth 20000 in
theorem r_226_1099 (L S : List Value) (h : icH) : icE 226 1099 L S h = exe icE 226 (e_iload 3 1100 L S h) := icE_eq (i := .iload_n 3) (len := 1) (x1 := 0) (x2 := 0) (x3 := 0) (x4 := 64) ((fe_226 1099).trans rfl) L S h
set_option maxRecDepth 20000 in
theorem r_226_1100 (L S : List Value) (h : icH) : icE 226 1100 L S h = icE 226 1101 L (.int (nI 1) :: S) h := icE_eq (i := .iconst 1) (len := 1) (x1 := 0) (x2 := 0) (x3 := 0) (x4 := 64) ((fe_226 1100).trans rfl) L S h
set_option maxRecDepth 20000 in
theorem r_226_1101 (L S : List Value) (h : icH) : icE 226 1101 L S h = exe icE 226 (e_bin (fun x y => x + y) 1102 L S h) := icE_eq (i := .iadd) (len := 1) (x1 := 0) (x2 := 0) (x3 := 0) (x4 := 64) ((fe_226 1101).trans rfl) L S h
set_option maxRecDepth 20000 in
theorem r_226_1102 (L S : List Value) (h : icH) : icE 226 1102 L S h = exe icE 226 (e_iald 1103 L S h) := icE_eq (i := .iaload) (len := 1) (x1 := 0) (x2 := 0) (x3 := 0) (x4 := 64) ((fe_226 1102).trans rfl) L S h
set_option maxRecDepth 20000 in
theorem r_226_1103 (L S : List Value) (h : icH) : icE 226 1103 L S h = exe icE 226 (e_vcal 7 99 2 1 1106 L S h) := icE_eq (i := .invokevirtual 135) (len := 3) (x1 := 99) (x2 := 3) (x3 := 7) (x4 := 836) ((fe_226 1103).trans rfl) L S h
set_option maxRecDepth 20000 in
theorem r_226_1106 (L S : List Value) (h : icH) : icE 226 1106 L S h = exe icE 226 (e_aload 2 1107 L S h) := icE_eq (i := .aload_n 2) (len := 1) (x1 := 0) (x2 := 0) (x3 := 0) (x4 := 64) ((fe_226 1106).trans rfl) L S h
set_option maxRecDepth 20000 in
theorem r_226_1107 (L S : List Value) (h : icH) : icE 226 1107 L S h = exe icE 226 (e_aload 0 1108 L S h) := icE_eq (i := .aload_n 0) (len := 1) (x1 := 0) (x2 := 0) (x3 := 0) (x4 := 64) ((fe_226 1107).trans rfl) L S h
set_option maxRecDepth 20000 in
theorem r_226_1108 (L S : List Value) (h : icH) : icE 226 1108 L S h = exe icE 226 (e_iload 3 1109 L S h) := icE_eq (i := .iload_n 3) (len := 1) (x1 := 0) (x2 := 0) (x3 := 0) (x4 := 64) ((fe_226 1108).trans rfl) L S h
set_option maxRecDepth 20000 in
theorem r_226_1109 (L S : List Value) (h : icH) : icE 226 1109 L S h = icE 226 1110 L (.int (nI 1) :: S) h := icE_eq (i := .iconst 1) (len := 1) (x1 := 0) (x2 := 0) (x3 := 0) (x4 := 64) ((fe_226 1109).trans rfl) L S h
set_option maxRecDepth 20000 in
theorem r_226_1110 (L S : List Value) (h : icH) : icE 226 1110 L S h = exe icE 226 (e_bin (fun x y => x + y) 1111 L S h) := icE_eq (i := .iadd) (len := 1) (x1 := 0) (x2 := 0) (x3 := 0) (x4 := 64) ((fe_226 1110).trans rfl) L S h
set_option maxRecDepth 20000 in
theorem r_226_1111 (L S : List Value) (h : icH) : icE 226 1111 L S h = exe icE 226 (e_iald 1112 L S h) := icE_eq (i := .iaload) (len := 1) (x1 := 0) (x2 := 0) (x3 := 0) (x4 := 64) ((fe_226 1111).trans rfl) L S h
set_option maxRecDepth 20000 in
theorem r_226_1112 (L S : List Value) (h : icH) : icE 226 1112 L S h = exe icE 226 (e_vcal 8 199 4 1 1115 L S h) := icE_eq (i := .invokevirtual 138) (len := 3) (x1 := 199) (x2 := 3) (x3 := 8) (x4 := 1282) ((fe_226 1112).trans rfl) L S h
set_option maxRecDepth 20000 in
theorem r_226_1115 (L S : List Value) (h : icH) : icE 226 1115 L S h = exe icE 226 (e_cmp .eq 1441 1118 L S h) := icE_eq (i := .if_icmp .eq 326) (len := 3) (x1 := 1441) (x2 := 0) (x3 := 0) (x4 := 64) ((fe_226 1115).trans rfl) L S h
set_option maxRecDepth 20000 in
theorem r_226_1118 (L S : List Value) (h : icH) : icE 226 1118 L S h = icE 226 1119 L (.int (nI 0) :: S) h := icE_eq (i := .iconst 0) (len := 1) (x1 := 0) (x2 := 0) (x3 := 0) (x4 := 64) ((fe_226 1118).trans rfl) L S h
set_option maxRecDepth 20000 in
theorem r_226_1119 (L S : List Value) (h : icH) : icE 226 1119 L S h = exe icE 226 (e_iret 1 L S h) := icE_eq (i := .ireturn) (len := 1) (x1 := 1) (x2 := 0) (x3 := 0) (x4 := 64) ((fe_226 1119).trans rfl) L S h
set_option maxRecDepth 20000 in
theorem r_226_1120 (L S : List Value) (h : icH) : icE 226 1120 L S h = exe icE 226 (e_aload 1 1121 L S h) := icE_eq (i := .aload_n 1) (len := 1) (x1 := 0) (x2 := 0) (x3 := 0) (x4 := 64) ((fe_226 1120).trans rfl) L S h
set_option maxRecDepth 20000 in
theorem r_226_1121 (L S : List Value) (h : icH) : icE 226 1121 L S h = exe icE 226 (e_aload 0 1122 L S h) := icE_eq (i := .aload_n 0) (len := 1) (x1 := 0) (x2 := 0) (x3 := 0) (x4 := 64) ((fe_226 1121).trans rfl) L S h
set_option maxRecDepth 20000 in
theorem r_226_1122 (L S : List Value) (h : icH) : icE 226 1122 L S h = exe icE 226 (e_iload 3 1123 L S h) := icE_eq (i := .iload_n 3) (len := 1) (x1 := 0) (x2 := 0) (x3 := 0) (x4 := 64) ((fe_226 1122).trans rfl) L S h
set_option maxRecDepth 20000 in
theorem r_226_1123 (L S : List Value) (h : icH) : icE 226 1123 L S h = icE 226 1124 L (.int (nI 1) :: S) h := icE_eq (i := .iconst 1) (len := 1) (x1 := 0) (x2 := 0) (x3 := 0) (x4 := 64) ((fe_226 1123).trans rfl) L S h
set_option maxRecDepth 20000 in
theorem r_226_1124 (L S : List Value) (h : icH) : icE 226 1124 L S h = exe icE 226 (e_bin (fun x y => x + y) 1125 L S h) := icE_eq (i := .iadd) (len := 1) (x1 := 0) (x2 := 0) (x3 := 0) (x4 := 64) ((fe_226 1124).trans rfl) L S h
set_option maxRecDepth 20000 in
theorem r_226_1125 (L S : List Value) (h : icH) : icE 226 1125 L S h = exe icE 226 (e_iald 1126 L S h) := icE_eq (i := .iaload) (len := 1) (x1 := 0) (x2 := 0) (x3 := 0) (x4 := 64) ((fe_226 1125).trans rfl) L S h
set_option maxRecDepth 20000 in
theorem r_226_1126 (L S : List Value) (h : icH) : icE 226 1126 L S h = exe icE 226 (e_vcal 7 100 2 1 1129 L S h) := icE_eq (i := .invokevirtual 139) (len := 3) (x1 := 100) (x2 := 3) (x3 := 7) (x4 := 840) ((fe_226 1126).trans rfl) L S h
set_option maxRecDepth 20000 in
theorem r_226_1129 (L S : List Value) (h : icH) : icE 226 1129 L S h = exe icE 226 (e_aload 2 1130 L S h) := icE_eq (i := .aload_n 2) (len := 1) (x1 := 0) (x2 := 0) (x3 := 0) (x4 := 64) ((fe_226 1129).trans rfl) L S h
set_option maxRecDepth 20000 in
theorem r_226_1130 (L S : List Value) (h : icH) : icE 226 1130 L S h = exe icE 226 (e_aload 0 1131 L S h) := icE_eq (i := .aload_n 0) (len := 1) (x1 := 0) (x2 := 0) (x3 := 0) (x4 := 64) ((fe_226 1130).trans rfl) L S h
set_option maxRecDepth 20000 in
theorem r_226_1131 (L S : List Value) (h : icH) : icE 226 1131 L S h = exe icE 226 (e_iload 3 1132 L S h) := icE_eq (i := .iload_n 3) (len := 1) (x1 := 0) (x2 := 0) (x3 := 0) (x4 := 64) ((fe_226 1131).trans rfl) L S h
set_option maxRecDepth 20000 in
theorem r_226_1132 (L S : List Value) (h : icH) : icE 226 1132 L S h = icE 226 1133 L (.int (nI 1) :: S) h := icE_eq (i := .iconst 1) (len := 1) (x1 := 0) (x2 := 0) (x3 := 0) (x4 := 64) ((fe_226 1132).trans rfl) L S h
set_option maxRecDepth 20000 in
theorem r_226_1133 (L S : List Value) (h : icH) : icE 226 1133 L S h = exe icE 226 (e_bin (fun x y => x + y) 1134 L S h) := icE_eq (i := .iadd) (len := 1) (x1 := 0) (x2 := 0) (x3 := 0) (x4 := 64) ((fe_226 1133).trans rfl) L S h
set_option maxRecDepth 20000 in
theorem r_226_1134 (L S : List Value) (h : icH) : icE 226 1134 L S h = exe icE 226 (e_iald 1135 L S h) := icE_eq (i := .iaload) (len := 1) (x1 := 0) (x2 := 0) (x3 := 0) (x4 := 64) ((fe_226 1134).trans rfl) L S h
set_option maxRecDepth 20000 in
theorem r_226_1135 (L S : List Value) (h : icH) : icE 226 1135 L S h = exe icE 226 (e_vcal 8 201 2 1 1138 L S h) := icE_eq (i := .invokevirtual 142) (len := 3) (x1 := 201) (x2 := 3) (x3 := 8) (x4 := 1287) ((fe_226 1135).trans rfl) L S h
set_option maxRecDepth 20000 in
theorem r_226_1138 (L S : List Value) (h : icH) : icE 226 1138 L S h = exe icE 226 (e_cmp .eq 1441 1141 L S h) := icE_eq (i := .if_icmp .eq 303) (len := 3) (x1 := 1441) (x2 := 0) (x3 := 0) (x4 := 64) ((fe_226 1138).trans rfl) L S h
set_option maxRecDepth 20000 in
theorem r_226_1141 (L S : List Value) (h : icH) : icE 226 1141 L S h = icE 226 1142 L (.int (nI 0) :: S) h := icE_eq (i := .iconst 0) (len := 1) (x1 := 0) (x2 := 0) (x3 := 0) (x4 := 64) ((fe_226 1141).trans rfl) L S h
set_option maxRecDepth 20000 in
theorem r_226_1142 (L S : List Value) (h : icH) : icE 226 1142 L S h = exe icE 226 (e_iret 1 L S h) := icE_eq (i := .ireturn) (len := 1) (x1 := 1) (x2 := 0) (x3 := 0) (x4 := 64) ((fe_226 1142).trans rfl) L S h
set_option maxRecDepth 20000 in
theorem r_226_1143 (L S : List Value) (h : icH) : icE 226 1143 L S h = exe icE 226 (e_aload 1 1144 L S h) := icE_eq (i := .aload_n 1) (len := 1) (x1 := 0) (x2 := 0) (x3 := 0) (x4 := 64) ((fe_226 1143).trans rfl) L S h
set_option maxRecDepth 20000 in
theorem r_226_1144 (L S : List Value) (h : icH) : icE 226 1144 L S h = exe icE 226 (e_aload 0 1145 L S h) := icE_eq (i := .aload_n 0) (len := 1) (x1 := 0) (x2 := 0) (x3 := 0) (x4 := 64) ((fe_226 1144).trans rfl) L S h
set_option maxRecDepth 20000 in
theorem r_226_1145 (L S : List Value) (h : icH) : icE 226 1145 L S h = exe icE 226 (e_iload 3 1146 L S h) := icE_eq (i := .iload_n 3) (len := 1) (x1 := 0) (x2 := 0) (x3 := 0) (x4 := 64) ((fe_226 1145).trans rfl) L S h
set_option maxRecDepth 20000 in
theorem r_226_1146 (L S : List Value) (h : icH) : icE 226 1146 L S h = icE 226 1147 L (.int (nI 1) :: S) h := icE_eq (i := .iconst 1) (len := 1) (x1 := 0) (x2 := 0) (x3 := 0) (x4 := 64) ((fe_226 1146).trans rfl) L S h
set_option maxRecDepth 20000 in
theorem r_226_1147 (L S : List Value) (h : icH) : icE 226 1147 L S h = exe icE 226 (e_bin (fun x y => x + y) 1148 L S h) := icE_eq (i := .iadd) (len := 1) (x1 := 0) (x2 := 0) (x3 := 0) (x4 := 64) ((fe_226 1147).trans rfl) L S h
set_option maxRecDepth 20000 in
theorem r_226_1148 (L S : List Value) (h : icH) : icE 226 1148 L S h = exe icE 226 (e_iald 1149 L S h) := icE_eq (i := .iaload) (len := 1) (x1 := 0) (x2 := 0) (x3 := 0) (x4 := 64) ((fe_226 1148).trans rfl) L S h
set_option maxRecDepth 20000 in
theorem r_226_1149 (L S : List Value) (h : icH) : icE 226 1149 L S h = exe icE 226 (e_vcal 7 101 2 1 1152 L S h) := icE_eq (i := .invokevirtual 143) (len := 3) (x1 := 101) (x2 := 3) (x3 := 7) (x4 := 844) ((fe_226 1149).trans rfl) L S h
set_option maxRecDepth 20000 in
theorem r_226_1152 (L S : List Value) (h : icH) : icE 226 1152 L S h = exe icE 226 (e_aload 2 1153 L S h) := icE_eq (i := .aload_n 2) (len := 1) (x1 := 0) (x2 := 0) (x3 := 0) (x4 := 64) ((fe_226 1152).trans rfl) L S h
set_option maxRecDepth 20000 in
theorem r_226_1153 (L S : List Value) (h : icH) : icE 226 1153 L S h = exe icE 226 (e_aload 0 1154 L S h) := icE_eq (i := .aload_n 0) (len := 1) (x1 := 0) (x2 := 0) (x3 := 0) (x4 := 64) ((fe_226 1153).trans rfl) L S h
set_option maxRecDepth 20000 in
theorem r_226_1154 (L S : List Value) (h : icH) : icE 226 1154 L S h = exe icE 226 (e_iload 3 1155 L S h) := icE_eq (i := .iload_n 3) (len := 1) (x1 := 0) (x2 := 0) (x3 := 0) (x4 := 64) ((fe_226 1154).trans rfl) L S h
set_option maxRecDepth 20000 in
theorem r_226_1155 (L S : List Value) (h : icH) : icE 226 1155 L S h = icE 226 1156 L (.int (nI 1) :: S) h := icE_eq (i := .iconst 1) (len := 1) (x1 := 0) (x2 := 0) (x3 := 0) (x4 := 64) ((fe_226 1155).trans rfl) L S h
set_option maxRecDepth 20000 in
theorem r_226_1156 (L S : List Value) (h : icH) : icE 226 1156 L S h = exe icE 226 (e_bin (fun x y => x + y) 1157 L S h) := icE_eq (i := .iadd) (len := 1) (x1 := 0) (x2 := 0) (x3 := 0) (x4 := 64) ((fe_226 1156).trans rfl) L S h
set_option maxRecDepth 20000 in
theorem r_226_1157 (L S : List Value) (h : icH) : icE 226 1157 L S h = exe icE 226 (e_iald 1158 L S h) := icE_eq (i := .iaload) (len := 1) (x1 := 0) (x2 := 0) (x3 := 0) (x4 := 64) ((fe_226 1157).trans rfl) L S h
set_option maxRecDepth 20000 in
theorem r_226_1158 (L S : List Value) (h : icH) : icE 226 1158 L S h = exe icE 226 (e_vcal 8 202 8 1 1161 L S h) := icE_eq (i := .invokevirtual 146) (len := 3) (x1 := 202) (x2 := 3) (x3 := 8) (x4 := 1295) ((fe_226 1158).trans rfl) L S h
set_option maxRecDepth 20000 in
theorem r_226_1161 (L S : List Value) (h : icH) : icE 226 1161 L S h = exe icE 226 (e_cmp .eq 1441 1164 L S h) := icE_eq (i := .if_icmp .eq 280) (len := 3) (x1 := 1441) (x2 := 0) (x3 := 0) (x4 := 64) ((fe_226 1161).trans rfl) L S h
set_option maxRecDepth 20000 in
theorem r_226_1164 (L S : List Value) (h : icH) : icE 226 1164 L S h = icE 226 1165 L (.int (nI 0) :: S) h := icE_eq (i := .iconst 0) (len := 1) (x1 := 0) (x2 := 0) (x3 := 0) (x4 := 64) ((fe_226 1164).trans rfl) L S h
set_option maxRecDepth 20000 in
theorem r_226_1165 (L S : List Value) (h : icH) : icE 226 1165 L S h = exe icE 226 (e_iret 1 L S h) := icE_eq (i := .ireturn) (len := 1) (x1 := 1) (x2 := 0) (x3 := 0) (x4 := 64) ((fe_226 1165).trans rfl) L S h
set_option maxRecDepth 20000 in
theorem r_226_1166 (L S : List Value) (h : icH) : icE 226 1166 L S h = exe icE 226 (e_aload 1 1167 L S h) := icE_eq (i := .aload_n 1) (len := 1) (x1 := 0) (x2 := 0) (x3 := 0) (x4 := 64) ((fe_226 1166).trans rfl) L S h
set_option maxRecDepth 20000 in
theorem r_226_1167 (L S : List Value) (h : icH) : icE 226 1167 L S h = exe icE 226 (e_aload 0 1168 L S h) := icE_eq (i := .aload_n 0) (len := 1) (x1 := 0) (x2 := 0) (x3 := 0) (x4 := 64) ((fe_226 1167).trans rfl) L S h
set_option maxRecDepth 20000 in
theorem r_226_1168 (L S : List Value) (h : icH) : icE 226 1168 L S h = exe icE 226 (e_iload 3 1169 L S h) := icE_eq (i := .iload_n 3) (len := 1) (x1 := 0) (x2 := 0) (x3 := 0) (x4 := 64) ((fe_226 1168).trans rfl) L S h
set_option maxRecDepth 20000 in
theorem r_226_1169 (L S : List Value) (h : icH) : icE 226 1169 L S h = icE 226 1170 L (.int (nI 1) :: S) h := icE_eq (i := .iconst 1) (len := 1) (x1 := 0) (x2 := 0) (x3 := 0) (x4 := 64) ((fe_226 1169).trans rfl) L S h
set_option maxRecDepth 20000 in
theorem r_226_1170 (L S : List Value) (h : icH) : icE 226 1170 L S h = exe icE 226 (e_bin (fun x y => x + y) 1171 L S h) := icE_eq (i := .iadd) (len := 1) (x1 := 0) (x2 := 0) (x3 := 0) (x4 := 64) ((fe_226 1170).trans rfl) L S h
set_option maxRecDepth 20000 in
theorem r_226_1171 (L S : List Value) (h : icH) : icE 226 1171 L S h = exe icE 226 (e_iald 1172 L S h) := icE_eq (i := .iaload) (len := 1) (x1 := 0) (x2 := 0) (x3 := 0) (x4 := 64) ((fe_226 1171).trans rfl) L S h
set_option maxRecDepth 20000 in
theorem r_226_1172 (L S : List Value) (h : icH) : icE 226 1172 L S h = exe icE 226 (e_vcal 7 102 2 1 1175 L S h) := icE_eq (i := .invokevirtual 147) (len := 3) (x1 := 102) (x2 := 3) (x3 := 7) (x4 := 848) ((fe_226 1172).trans rfl) L S h
set_option maxRecDepth 20000 in
theorem r_226_1175 (L S : List Value) (h : icH) : icE 226 1175 L S h = exe icE 226 (e_aload 2 1176 L S h) := icE_eq (i := .aload_n 2) (len := 1) (x1 := 0) (x2 := 0) (x3 := 0) (x4 := 64) ((fe_226 1175).trans rfl) L S h
set_option maxRecDepth 20000 in
theorem r_226_1176 (L S : List Value) (h : icH) : icE 226 1176 L S h = exe icE 226 (e_aload 0 1177 L S h) := icE_eq (i := .aload_n 0) (len := 1) (x1 := 0) (x2 := 0) (x3 := 0) (x4 := 64) ((fe_226 1176).trans rfl) L S h
set_option maxRecDepth 20000 in
theorem r_226_1177 (L S : List Value) (h : icH) : icE 226 1177 L S h = exe icE 226 (e_iload 3 1178 L S h) := icE_eq (i := .iload_n 3) (len := 1) (x1 := 0) (x2 := 0) (x3 := 0) (x4 := 64) ((fe_226 1177).trans rfl) L S h
set_option maxRecDepth 20000 in
theorem r_226_1178 (L S : List Value) (h : icH) : icE 226 1178 L S h = icE 226 1179 L (.int (nI 1) :: S) h := icE_eq (i := .iconst 1) (len := 1) (x1 := 0) (x2 := 0) (x3 := 0) (x4 := 64) ((fe_226 1178).trans rfl) L S h
set_option maxRecDepth 20000 in
theorem r_226_1179 (L S : List Value) (h : icH) : icE 226 1179 L S h = exe icE 226 (e_bin (fun x y => x + y) 1180 L S h) := icE_eq (i := .iadd) (len := 1) (x1 := 0) (x2 := 0) (x3 := 0) (x4 := 64) ((fe_226 1179).trans rfl) L S h
set_option maxRecDepth 20000 in
theorem r_226_1180 (L S : List Value) (h : icH) : icE 226 1180 L S h = exe icE 226 (e_iald 1181 L S h) := icE_eq (i := .iaload) (len := 1) (x1 := 0) (x2 := 0) (x3 := 0) (x4 := 64) ((fe_226 1180).trans rfl) L S h
set_option maxRecDepth 20000 in
theorem r_226_1181 (L S : List Value) (h : icH) : icE 226 1181 L S h = exe icE 226 (e_vcal 8 204 2 1 1184 L S h) := icE_eq (i := .invokevirtual 150) (len := 3) (x1 := 204) (x2 := 3) (x3 := 8) (x4 := 1299) ((fe_226 1181).trans rfl) L S h
set_option maxRecDepth 20000 in
theorem r_226_1184 (L S : List Value) (h : icH) : icE 226 1184 L S h = exe icE 226 (e_cmp .eq 1441 1187 L S h) := icE_eq (i := .if_icmp .eq 257) (len := 3) (x1 := 1441) (x2 := 0) (x3 := 0) (x4 := 64) ((fe_226 1184).trans rfl) L S h
set_option maxRecDepth 20000 in
theorem r_226_1187 (L S : List Value) (h : icH) : icE 226 1187 L S h = icE 226 1188 L (.int (nI 0) :: S) h := icE_eq (i := .iconst 0) (len := 1) (x1 := 0) (x2 := 0) (x3 := 0) (x4 := 64) ((fe_226 1187).trans rfl) L S h
set_option maxRecDepth 20000 in
theorem r_226_1188 (L S : List Value) (h : icH) : icE 226 1188 L S h = exe icE 226 (e_iret 1 L S h) := icE_eq (i := .ireturn) (len := 1) (x1 := 1) (x2 := 0) (x3 := 0) (x4 := 64) ((fe_226 1188).trans rfl) L S h
set_option maxRecDepth 20000 in
theorem r_226_1189 (L S : List Value) (h : icH) : icE 226 1189 L S h = exe icE 226 (e_aload 1 1190 L S h) := icE_eq (i := .aload_n 1) (len := 1) (x1 := 0) (x2 := 0) (x3 := 0) (x4 := 64) ((fe_226 1189).trans rfl) L S h
set_option maxRecDepth 20000 in
theorem r_226_1190 (L S : List Value) (h : icH) : icE 226 1190 L S h = exe icE 226 (e_aload 0 1191 L S h) := icE_eq (i := .aload_n 0) (len := 1) (x1 := 0) (x2 := 0) (x3 := 0) (x4 := 64) ((fe_226 1190).trans rfl) L S h
set_option maxRecDepth 20000 in
theorem r_226_1191 (L S : List Value) (h : icH) : icE 226 1191 L S h = exe icE 226 (e_iload 3 1192 L S h) := icE_eq (i := .iload_n 3) (len := 1) (x1 := 0) (x2 := 0) (x3 := 0) (x4 := 64) ((fe_226 1191).trans rfl) L S h
set_option maxRecDepth 20000 in
theorem r_226_1192 (L S : List Value) (h : icH) : icE 226 1192 L S h = icE 226 1193 L (.int (nI 1) :: S) h := icE_eq (i := .iconst 1) (len := 1) (x1 := 0) (x2 := 0) (x3 := 0) (x4 := 64) ((fe_226 1192).trans rfl) L S h
set_option maxRecDepth 20000 in
theorem r_226_1193 (L S : List Value) (h : icH) : icE 226 1193 L S h = exe icE 226 (e_bin (fun x y => x + y) 1194 L S h) := icE_eq (i := .iadd) (len := 1) (x1 := 0) (x2 := 0) (x3 := 0) (x4 := 64) ((fe_226 1193).trans rfl) L S h
set_option maxRecDepth 20000 in
theorem r_226_1194 (L S : List Value) (h : icH) : icE 226 1194 L S h = exe icE 226 (e_iald 1195 L S h) := icE_eq (i := .iaload) (len := 1) (x1 := 0) (x2 := 0) (x3 := 0) (x4 := 64) ((fe_226 1194).trans rfl) L S h
set_option maxRecDepth 20000 in
theorem r_226_1195 (L S : List Value) (h : icH) : icE 226 1195 L S h = exe icE 226 (e_vcal 7 103 2 1 1198 L S h) := icE_eq (i := .invokevirtual 151) (len := 3) (x1 := 103) (x2 := 3) (x3 := 7) (x4 := 852) ((fe_226 1195).trans rfl) L S h
set_option maxRecDepth 20000 in
theorem r_226_1198 (L S : List Value) (h : icH) : icE 226 1198 L S h = exe icE 226 (e_aload 2 1199 L S h) := icE_eq (i := .aload_n 2) (len := 1) (x1 := 0) (x2 := 0) (x3 := 0) (x4 := 64) ((fe_226 1198).trans rfl) L S h
set_option maxRecDepth 20000 in
theorem r_226_1199 (L S : List Value) (h : icH) : icE 226 1199 L S h = exe icE 226 (e_aload 0 1200 L S h) := icE_eq (i := .aload_n 0) (len := 1) (x1 := 0) (x2 := 0) (x3 := 0) (x4 := 64) ((fe_226 1199).trans rfl) L S h
set_option maxRecDepth 20000 in
theorem r_226_1200 (L S : List Value) (h : icH) : icE 226 1200 L S h = exe icE 226 (e_iload 3 1201 L S h) := icE_eq (i := .iload_n 3) (len := 1) (x1 := 0) (x2 := 0) (x3 := 0) (x4 := 64) ((fe_226 1200).trans rfl) L S h
set_option maxRecDepth 20000 in
theorem r_226_1201 (L S : List Value) (h : icH) : icE 226 1201 L S h = icE 226 1202 L (.int (nI 1) :: S) h := icE_eq (i := .iconst 1) (len := 1) (x1 := 0) (x2 := 0) (x3 := 0) (x4 := 64) ((fe_226 1201).trans rfl) L S h
set_option maxRecDepth 20000 in
theorem r_226_1202 (L S : List Value) (h : icH) : icE 226 1202 L S h = exe icE 226 (e_bin (fun x y => x + y) 1203 L S h) := icE_eq (i := .iadd) (len := 1) (x1 := 0) (x2 := 0) (x3 := 0) (x4 := 64) ((fe_226 1202).trans rfl) L S h
set_option maxRecDepth 20000 in
theorem r_226_1203 (L S : List Value) (h : icH) : icE 226 1203 L S h = exe icE 226 (e_iald 1204 L S h) := icE_eq (i := .iaload) (len := 1) (x1 := 0) (x2 := 0) (x3 := 0) (x4 := 64) ((fe_226 1203).trans rfl) L S h
set_option maxRecDepth 20000 in
theorem r_226_1204 (L S : List Value) (h : icH) : icE 226 1204 L S h = exe icE 226 (e_vcal 8 205 8 1 1207 L S h) := icE_eq (i := .invokevirtual 154) (len := 3) (x1 := 205) (x2 := 3) (x3 := 8) (x4 := 1307) ((fe_226 1204).trans rfl) L S h
set_option maxRecDepth 20000 in
theorem r_226_1207 (L S : List Value) (h : icH) : icE 226 1207 L S h = exe icE 226 (e_cmp .eq 1441 1210 L S h) := icE_eq (i := .if_icmp .eq 234) (len := 3) (x1 := 1441) (x2 := 0) (x3 := 0) (x4 := 64) ((fe_226 1207).trans rfl) L S h
set_option maxRecDepth 20000 in
theorem r_226_1210 (L S : List Value) (h : icH) : icE 226 1210 L S h = icE 226 1211 L (.int (nI 0) :: S) h := icE_eq (i := .iconst 0) (len := 1) (x1 := 0) (x2 := 0) (x3 := 0) (x4 := 64) ((fe_226 1210).trans rfl) L S h
set_option maxRecDepth 20000 in
theorem r_226_1211 (L S : List Value) (h : icH) : icE 226 1211 L S h = exe icE 226 (e_iret 1 L S h) := icE_eq (i := .ireturn) (len := 1) (x1 := 1) (x2 := 0) (x3 := 0) (x4 := 64) ((fe_226 1211).trans rfl) L S h
set_option maxRecDepth 20000 in
theorem r_226_1212 (L S : List Value) (h : icH) : icE 226 1212 L S h = exe icE 226 (e_aload 1 1213 L S h) := icE_eq (i := .aload_n 1) (len := 1) (x1 := 0) (x2 := 0) (x3 := 0) (x4 := 64) ((fe_226 1212).trans rfl) L S h
set_option maxRecDepth 20000 in
theorem r_226_1213 (L S : List Value) (h : icH) : icE 226 1213 L S h = exe icE 226 (e_aload 0 1214 L S h) := icE_eq (i := .aload_n 0) (len := 1) (x1 := 0) (x2 := 0) (x3 := 0) (x4 := 64) ((fe_226 1213).trans rfl) L S h
set_option maxRecDepth 20000 in
theorem r_226_1214 (L S : List Value) (h : icH) : icE 226 1214 L S h = exe icE 226 (e_iload 3 1215 L S h) := icE_eq (i := .iload_n 3) (len := 1) (x1 := 0) (x2 := 0) (x3 := 0) (x4 := 64) ((fe_226 1214).trans rfl) L S h
set_option maxRecDepth 20000 in
theorem r_226_1215 (L S : List Value) (h : icH) : icE 226 1215 L S h = icE 226 1216 L (.int (nI 1) :: S) h := icE_eq (i := .iconst 1) (len := 1) (x1 := 0) (x2 := 0) (x3 := 0) (x4 := 64) ((fe_226 1215).trans rfl) L S h
set_option maxRecDepth 20000 in
theorem r_226_1216 (L S : List Value) (h : icH) : icE 226 1216 L S h = exe icE 226 (e_bin (fun x y => x + y) 1217 L S h) := icE_eq (i := .iadd) (len := 1) (x1 := 0) (x2 := 0) (x3 := 0) (x4 := 64) ((fe_226 1216).trans rfl) L S h
set_option maxRecDepth 20000 in
theorem r_226_1217 (L S : List Value) (h : icH) : icE 226 1217 L S h = exe icE 226 (e_iald 1218 L S h) := icE_eq (i := .iaload) (len := 1) (x1 := 0) (x2 := 0) (x3 := 0) (x4 := 64) ((fe_226 1217).trans rfl) L S h
set_option maxRecDepth 20000 in
theorem r_226_1218 (L S : List Value) (h : icH) : icE 226 1218 L S h = exe icE 226 (e_vcal 7 104 5 1 1221 L S h) := icE_eq (i := .invokevirtual 155) (len := 3) (x1 := 104) (x2 := 3) (x3 := 7) (x4 := 856) ((fe_226 1218).trans rfl) L S h
set_option maxRecDepth 20000 in
theorem r_226_1221 (L S : List Value) (h : icH) : icE 226 1221 L S h = exe icE 226 (e_aload 2 1222 L S h) := icE_eq (i := .aload_n 2) (len := 1) (x1 := 0) (x2 := 0) (x3 := 0) (x4 := 64) ((fe_226 1221).trans rfl) L S h
set_option maxRecDepth 20000 in
theorem r_226_1222 (L S : List Value) (h : icH) : icE 226 1222 L S h = exe icE 226 (e_aload 0 1223 L S h) := icE_eq (i := .aload_n 0) (len := 1) (x1 := 0) (x2 := 0) (x3 := 0) (x4 := 64) ((fe_226 1222).trans rfl) L S h
set_option maxRecDepth 20000 in
theorem r_226_1223 (L S : List Value) (h : icH) : icE 226 1223 L S h = exe icE 226 (e_iload 3 1224 L S h) := icE_eq (i := .iload_n 3) (len := 1) (x1 := 0) (x2 := 0) (x3 := 0) (x4 := 64) ((fe_226 1223).trans rfl) L S h
set_option maxRecDepth 20000 in
theorem r_226_1224 (L S : List Value) (h : icH) : icE 226 1224 L S h = icE 226 1225 L (.int (nI 1) :: S) h := icE_eq (i := .iconst 1) (len := 1) (x1 := 0) (x2 := 0) (x3 := 0) (x4 := 64) ((fe_226 1224).trans rfl) L S h
set_option maxRecDepth 20000 in
theorem r_226_1225 (L S : List Value) (h : icH) : icE 226 1225 L S h = exe icE 226 (e_bin (fun x y => x + y) 1226 L S h) := icE_eq (i := .iadd) (len := 1) (x1 := 0) (x2 := 0) (x3 := 0) (x4 := 64) ((fe_226 1225).trans rfl) L S h
set_option maxRecDepth 20000 in
theorem r_226_1226 (L S : List Value) (h : icH) : icE 226 1226 L S h = exe icE 226 (e_iald 1227 L S h) := icE_eq (i := .iaload) (len := 1) (x1 := 0) (x2 := 0) (x3 := 0) (x4 := 64) ((fe_226 1226).trans rfl) L S h
set_option maxRecDepth 20000 in
theorem r_226_1227 (L S : List Value) (h : icH) : icE 226 1227 L S h = exe icE 226 (e_vcal 8 208 5 1 1230 L S h) := icE_eq (i := .invokevirtual 158) (len := 3) (x1 := 208) (x2 := 3) (x3 := 8) (x4 := 1311) ((fe_226 1227).trans rfl) L S h
set_option maxRecDepth 20000 in
theorem r_226_1230 (L S : List Value) (h : icH) : icE 226 1230 L S h = exe icE 226 (e_cmp .eq 1441 1233 L S h) := icE_eq (i := .if_icmp .eq 211) (len := 3) (x1 := 1441) (x2 := 0) (x3 := 0) (x4 := 64) ((fe_226 1230).trans rfl) L S h
set_option maxRecDepth 20000 in
theorem r_226_1233 (L S : List Value) (h : icH) : icE 226 1233 L S h = icE 226 1234 L (.int (nI 0) :: S) h := icE_eq (i := .iconst 0) (len := 1) (x1 := 0) (x2 := 0) (x3 := 0) (x4 := 64) ((fe_226 1233).trans rfl) L S h
set_option maxRecDepth 20000 in
theorem r_226_1234 (L S : List Value) (h : icH) : icE 226 1234 L S h = exe icE 226 (e_iret 1 L S h) := icE_eq (i := .ireturn) (len := 1) (x1 := 1) (x2 := 0) (x3 := 0) (x4 := 64) ((fe_226 1234).trans rfl) L S h
set_option maxRecDepth 20000 in
theorem r_226_1235 (L S : List Value) (h : icH) : icE 226 1235 L S h = exe icE 226 (e_aload 1 1236 L S h) := icE_eq (i := .aload_n 1) (len := 1) (x1 := 0) (x2 := 0) (x3 := 0) (x4 := 64) ((fe_226 1235).trans rfl) L S h
set_option maxRecDepth 20000 in
theorem r_226_1236 (L S : List Value) (h : icH) : icE 226 1236 L S h = exe icE 226 (e_aload 0 1237 L S h) := icE_eq (i := .aload_n 0) (len := 1) (x1 := 0) (x2 := 0) (x3 := 0) (x4 := 64) ((fe_226 1236).trans rfl) L S h
set_option maxRecDepth 20000 in
theorem r_226_1237 (L S : List Value) (h : icH) : icE 226 1237 L S h = exe icE 226 (e_iload 3 1238 L S h) := icE_eq (i := .iload_n 3) (len := 1) (x1 := 0) (x2 := 0) (x3 := 0) (x4 := 64) ((fe_226 1237).trans rfl) L S h
set_option maxRecDepth 20000 in
theorem r_226_1238 (L S : List Value) (h : icH) : icE 226 1238 L S h = icE 226 1239 L (.int (nI 1) :: S) h := icE_eq (i := .iconst 1) (len := 1) (x1 := 0) (x2 := 0) (x3 := 0) (x4 := 64) ((fe_226 1238).trans rfl) L S h
set_option maxRecDepth 20000 in
theorem r_226_1239 (L S : List Value) (h : icH) : icE 226 1239 L S h = exe icE 226 (e_bin (fun x y => x + y) 1240 L S h) := icE_eq (i := .iadd) (len := 1) (x1 := 0) (x2 := 0) (x3 := 0) (x4 := 64) ((fe_226 1239).trans rfl) L S h
set_option maxRecDepth 20000 in
theorem r_226_1240 (L S : List Value) (h : icH) : icE 226 1240 L S h = exe icE 226 (e_iald 1241 L S h) := icE_eq (i := .iaload) (len := 1) (x1 := 0) (x2 := 0) (x3 := 0) (x4 := 64) ((fe_226 1240).trans rfl) L S h
set_option maxRecDepth 20000 in
theorem r_226_1241 (L S : List Value) (h : icH) : icE 226 1241 L S h = exe icE 226 (e_aload 0 1242 L S h) := icE_eq (i := .aload_n 0) (len := 1) (x1 := 0) (x2 := 0) (x3 := 0) (x4 := 64) ((fe_226 1241).trans rfl) L S h
set_option maxRecDepth 20000 in
theorem r_226_1242 (L S : List Value) (h : icH) : icE 226 1242 L S h = exe icE 226 (e_iload 3 1243 L S h) := icE_eq (i := .iload_n 3) (len := 1) (x1 := 0) (x2 := 0) (x3 := 0) (x4 := 64) ((fe_226 1242).trans rfl) L S h
set_option maxRecDepth 20000 in
theorem r_226_1243 (L S : List Value) (h : icH) : icE 226 1243 L S h = icE 226 1244 L (.int (nI 2) :: S) h := icE_eq (i := .iconst 2) (len := 1) (x1 := 0) (x2 := 0) (x3 := 0) (x4 := 64) ((fe_226 1243).trans rfl) L S h
set_option maxRecDepth 20000 in
theorem r_226_1244 (L S : List Value) (h : icH) : icE 226 1244 L S h = exe icE 226 (e_bin (fun x y => x + y) 1245 L S h) := icE_eq (i := .iadd) (len := 1) (x1 := 0) (x2 := 0) (x3 := 0) (x4 := 64) ((fe_226 1244).trans rfl) L S h
set_option maxRecDepth 20000 in
theorem r_226_1245 (L S : List Value) (h : icH) : icE 226 1245 L S h = exe icE 226 (e_iald 1246 L S h) := icE_eq (i := .iaload) (len := 1) (x1 := 0) (x2 := 0) (x3 := 0) (x4 := 64) ((fe_226 1245).trans rfl) L S h
set_option maxRecDepth 20000 in
theorem r_226_1246 (L S : List Value) (h : icH) : icE 226 1246 L S h = exe icE 226 (e_aload 0 1247 L S h) := icE_eq (i := .aload_n 0) (len := 1) (x1 := 0) (x2 := 0) (x3 := 0) (x4 := 64) ((fe_226 1246).trans rfl) L S h
set_option maxRecDepth 20000 in
theorem r_226_1247 (L S : List Value) (h : icH) : icE 226 1247 L S h = exe icE 226 (e_iload 3 1248 L S h) := icE_eq (i := .iload_n 3) (len := 1) (x1 := 0) (x2 := 0) (x3 := 0) (x4 := 64) ((fe_226 1247).trans rfl) L S h
set_option maxRecDepth 20000 in
theorem r_226_1248 (L S : List Value) (h : icH) : icE 226 1248 L S h = icE 226 1249 L (.int (nI 3) :: S) h := icE_eq (i := .iconst 3) (len := 1) (x1 := 0) (x2 := 0) (x3 := 0) (x4 := 64) ((fe_226 1248).trans rfl) L S h
set_option maxRecDepth 20000 in
theorem r_226_1249 (L S : List Value) (h : icH) : icE 226 1249 L S h = exe icE 226 (e_bin (fun x y => x + y) 1250 L S h) := icE_eq (i := .iadd) (len := 1) (x1 := 0) (x2 := 0) (x3 := 0) (x4 := 64) ((fe_226 1249).trans rfl) L S h
set_option maxRecDepth 20000 in
theorem r_226_1250 (L S : List Value) (h : icH) : icE 226 1250 L S h = exe icE 226 (e_iald 1251 L S h) := icE_eq (i := .iaload) (len := 1) (x1 := 0) (x2 := 0) (x3 := 0) (x4 := 64) ((fe_226 1250).trans rfl) L S h
set_option maxRecDepth 20000 in
theorem r_226_1251 (L S : List Value) (h : icH) : icE 226 1251 L S h = exe icE 226 (e_vcal 7 105 9 3 1254 L S h) := icE_eq (i := .invokevirtual 159) (len := 3) (x1 := 105) (x2 := 3) (x3 := 7) (x4 := 868) ((fe_226 1251).trans rfl) L S h
set_option maxRecDepth 20000 in
theorem r_226_1254 (L S : List Value) (h : icH) : icE 226 1254 L S h = exe icE 226 (e_aload 2 1255 L S h) := icE_eq (i := .aload_n 2) (len := 1) (x1 := 0) (x2 := 0) (x3 := 0) (x4 := 64) ((fe_226 1254).trans rfl) L S h
set_option maxRecDepth 20000 in
theorem r_226_1255 (L S : List Value) (h : icH) : icE 226 1255 L S h = exe icE 226 (e_aload 0 1256 L S h) := icE_eq (i := .aload_n 0) (len := 1) (x1 := 0) (x2 := 0) (x3 := 0) (x4 := 64) ((fe_226 1255).trans rfl) L S h
set_option maxRecDepth 20000 in
theorem r_226_1256 (L S : List Value) (h : icH) : icE 226 1256 L S h = exe icE 226 (e_iload 3 1257 L S h) := icE_eq (i := .iload_n 3) (len := 1) (x1 := 0) (x2 := 0) (x3 := 0) (x4 := 64) ((fe_226 1256).trans rfl) L S h
set_option maxRecDepth 20000 in
theorem r_226_1257 (L S : List Value) (h : icH) : icE 226 1257 L S h = icE 226 1258 L (.int (nI 1) :: S) h := icE_eq (i := .iconst 1) (len := 1) (x1 := 0) (x2 := 0) (x3 := 0) (x4 := 64) ((fe_226 1257).trans rfl) L S h
set_option maxRecDepth 20000 in
theorem r_226_1258 (L S : List Value) (h : icH) : icE 226 1258 L S h = exe icE 226 (e_bin (fun x y => x + y) 1259 L S h) := icE_eq (i := .iadd) (len := 1) (x1 := 0) (x2 := 0) (x3 := 0) (x4 := 64) ((fe_226 1258).trans rfl) L S h
set_option maxRecDepth 20000 in
theorem r_226_1259 (L S : List Value) (h : icH) : icE 226 1259 L S h = exe icE 226 (e_iald 1260 L S h) := icE_eq (i := .iaload) (len := 1) (x1 := 0) (x2 := 0) (x3 := 0) (x4 := 64) ((fe_226 1259).trans rfl) L S h
set_option maxRecDepth 20000 in
theorem r_226_1260 (L S : List Value) (h : icH) : icE 226 1260 L S h = exe icE 226 (e_aload 0 1261 L S h) := icE_eq (i := .aload_n 0) (len := 1) (x1 := 0) (x2 := 0) (x3 := 0) (x4 := 64) ((fe_226 1260).trans rfl) L S h
set_option maxRecDepth 20000 in
theorem r_226_1261 (L S : List Value) (h : icH) : icE 226 1261 L S h = exe icE 226 (e_iload 3 1262 L S h) := icE_eq (i := .iload_n 3) (len := 1) (x1 := 0) (x2 := 0) (x3 := 0) (x4 := 64) ((fe_226 1261).trans rfl) L S h
set_option maxRecDepth 20000 in
theorem r_226_1262 (L S : List Value) (h : icH) : icE 226 1262 L S h = icE 226 1263 L (.int (nI 2) :: S) h := icE_eq (i := .iconst 2) (len := 1) (x1 := 0) (x2 := 0) (x3 := 0) (x4 := 64) ((fe_226 1262).trans rfl) L S h
set_option maxRecDepth 20000 in
theorem r_226_1263 (L S : List Value) (h : icH) : icE 226 1263 L S h = exe icE 226 (e_bin (fun x y => x + y) 1264 L S h) := icE_eq (i := .iadd) (len := 1) (x1 := 0) (x2 := 0) (x3 := 0) (x4 := 64) ((fe_226 1263).trans rfl) L S h
set_option maxRecDepth 20000 in
theorem r_226_1264 (L S : List Value) (h : icH) : icE 226 1264 L S h = exe icE 226 (e_iald 1265 L S h) := icE_eq (i := .iaload) (len := 1) (x1 := 0) (x2 := 0) (x3 := 0) (x4 := 64) ((fe_226 1264).trans rfl) L S h
set_option maxRecDepth 20000 in
theorem r_226_1265 (L S : List Value) (h : icH) : icE 226 1265 L S h = exe icE 226 (e_aload 0 1266 L S h) := icE_eq (i := .aload_n 0) (len := 1) (x1 := 0) (x2 := 0) (x3 := 0) (x4 := 64) ((fe_226 1265).trans rfl) L S h
set_option maxRecDepth 20000 in
theorem r_226_1266 (L S : List Value) (h : icH) : icE 226 1266 L S h = exe icE 226 (e_iload 3 1267 L S h) := icE_eq (i := .iload_n 3) (len := 1) (x1 := 0) (x2 := 0) (x3 := 0) (x4 := 64) ((fe_226 1266).trans rfl) L S h
set_option maxRecDepth 20000 in
theorem r_226_1267 (L S : List Value) (h : icH) : icE 226 1267 L S h = icE 226 1268 L (.int (nI 3) :: S) h := icE_eq (i := .iconst 3) (len := 1) (x1 := 0) (x2 := 0) (x3 := 0) (x4 := 64) ((fe_226 1267).trans rfl) L S h
set_option maxRecDepth 20000 in
theorem r_226_1268 (L S : List Value) (h : icH) : icE 226 1268 L S h = exe icE 226 (e_bin (fun x y => x + y) 1269 L S h) := icE_eq (i := .iadd) (len := 1) (x1 := 0) (x2 := 0) (x3 := 0) (x4 := 64) ((fe_226 1268).trans rfl) L S h
set_option maxRecDepth 20000 in
theorem r_226_1269 (L S : List Value) (h : icH) : icE 226 1269 L S h = exe icE 226 (e_iald 1270 L S h) := icE_eq (i := .iaload) (len := 1) (x1 := 0) (x2 := 0) (x3 := 0) (x4 := 64) ((fe_226 1269).trans rfl) L S h
set_option maxRecDepth 20000 in
theorem r_226_1270 (L S : List Value) (h : icH) : icE 226 1270 L S h = exe icE 226 (e_vcal 8 210 11 3 1273 L S h) := icE_eq (i := .invokevirtual 162) (len := 3) (x1 := 210) (x2 := 3) (x3 := 8) (x4 := 1323) ((fe_226 1270).trans rfl) L S h
set_option maxRecDepth 20000 in
theorem r_226_1273 (L S : List Value) (h : icH) : icE 226 1273 L S h = exe icE 226 (e_cmp .eq 1441 1276 L S h) := icE_eq (i := .if_icmp .eq 168) (len := 3) (x1 := 1441) (x2 := 0) (x3 := 0) (x4 := 64) ((fe_226 1273).trans rfl) L S h
set_option maxRecDepth 20000 in
theorem r_226_1276 (L S : List Value) (h : icH) : icE 226 1276 L S h = icE 226 1277 L (.int (nI 0) :: S) h := icE_eq (i := .iconst 0) (len := 1) (x1 := 0) (x2 := 0) (x3 := 0) (x4 := 64) ((fe_226 1276).trans rfl) L S h
set_option maxRecDepth 20000 in
theorem r_226_1277 (L S : List Value) (h : icH) : icE 226 1277 L S h = exe icE 226 (e_iret 1 L S h) := icE_eq (i := .ireturn) (len := 1) (x1 := 1) (x2 := 0) (x3 := 0) (x4 := 64) ((fe_226 1277).trans rfl) L S h
set_option maxRecDepth 20000 in
theorem r_226_1278 (L S : List Value) (h : icH) : icE 226 1278 L S h = exe icE 226 (e_aload 1 1279 L S h) := icE_eq (i := .aload_n 1) (len := 1) (x1 := 0) (x2 := 0) (x3 := 0) (x4 := 64) ((fe_226 1278).trans rfl) L S h
set_option maxRecDepth 20000 in
theorem r_226_1279 (L S : List Value) (h : icH) : icE 226 1279 L S h = exe icE 226 (e_aload 0 1280 L S h) := icE_eq (i := .aload_n 0) (len := 1) (x1 := 0) (x2 := 0) (x3 := 0) (x4 := 64) ((fe_226 1279).trans rfl) L S h
set_option maxRecDepth 20000 in
theorem r_226_1280 (L S : List Value) (h : icH) : icE 226 1280 L S h = exe icE 226 (e_iload 3 1281 L S h) := icE_eq (i := .iload_n 3) (len := 1) (x1 := 0) (x2 := 0) (x3 := 0) (x4 := 64) ((fe_226 1280).trans rfl) L S h
set_option maxRecDepth 20000 in
theorem r_226_1281 (L S : List Value) (h : icH) : icE 226 1281 L S h = icE 226 1282 L (.int (nI 1) :: S) h := icE_eq (i := .iconst 1) (len := 1) (x1 := 0) (x2 := 0) (x3 := 0) (x4 := 64) ((fe_226 1281).trans rfl) L S h
set_option maxRecDepth 20000 in
theorem r_226_1282 (L S : List Value) (h : icH) : icE 226 1282 L S h = exe icE 226 (e_bin (fun x y => x + y) 1283 L S h) := icE_eq (i := .iadd) (len := 1) (x1 := 0) (x2 := 0) (x3 := 0) (x4 := 64) ((fe_226 1282).trans rfl) L S h
set_option maxRecDepth 20000 in
theorem r_226_1283 (L S : List Value) (h : icH) : icE 226 1283 L S h = exe icE 226 (e_iald 1284 L S h) := icE_eq (i := .iaload) (len := 1) (x1 := 0) (x2 := 0) (x3 := 0) (x4 := 64) ((fe_226 1283).trans rfl) L S h
set_option maxRecDepth 20000 in
theorem r_226_1284 (L S : List Value) (h : icH) : icE 226 1284 L S h = exe icE 226 (e_aload 0 1285 L S h) := icE_eq (i := .aload_n 0) (len := 1) (x1 := 0) (x2 := 0) (x3 := 0) (x4 := 64) ((fe_226 1284).trans rfl) L S h
set_option maxRecDepth 20000 in
theorem r_226_1285 (L S : List Value) (h : icH) : icE 226 1285 L S h = exe icE 226 (e_iload 3 1286 L S h) := icE_eq (i := .iload_n 3) (len := 1) (x1 := 0) (x2 := 0) (x3 := 0) (x4 := 64) ((fe_226 1285).trans rfl) L S h
set_option maxRecDepth 20000 in
theorem r_226_1286 (L S : List Value) (h : icH) : icE 226 1286 L S h = icE 226 1287 L (.int (nI 2) :: S) h := icE_eq (i := .iconst 2) (len := 1) (x1 := 0) (x2 := 0) (x3 := 0) (x4 := 64) ((fe_226 1286).trans rfl) L S h
set_option maxRecDepth 20000 in
theorem r_226_1287 (L S : List Value) (h : icH) : icE 226 1287 L S h = exe icE 226 (e_bin (fun x y => x + y) 1288 L S h) := icE_eq (i := .iadd) (len := 1) (x1 := 0) (x2 := 0) (x3 := 0) (x4 := 64) ((fe_226 1287).trans rfl) L S h
set_option maxRecDepth 20000 in
theorem r_226_1288 (L S : List Value) (h : icH) : icE 226 1288 L S h = exe icE 226 (e_iald 1289 L S h) := icE_eq (i := .iaload) (len := 1) (x1 := 0) (x2 := 0) (x3 := 0) (x4 := 64) ((fe_226 1288).trans rfl) L S h
set_option maxRecDepth 20000 in
theorem r_226_1289 (L S : List Value) (h : icH) : icE 226 1289 L S h = exe icE 226 (e_vcal 7 106 8 2 1292 L S h) := icE_eq (i := .invokevirtual 163) (len := 3) (x1 := 106) (x2 := 3) (x3 := 7) (x4 := 884) ((fe_226 1289).trans rfl) L S h
set_option maxRecDepth 20000 in
theorem r_226_1292 (L S : List Value) (h : icH) : icE 226 1292 L S h = exe icE 226 (e_aload 2 1293 L S h) := icE_eq (i := .aload_n 2) (len := 1) (x1 := 0) (x2 := 0) (x3 := 0) (x4 := 64) ((fe_226 1292).trans rfl) L S h
set_option maxRecDepth 20000 in
theorem r_226_1293 (L S : List Value) (h : icH) : icE 226 1293 L S h = exe icE 226 (e_aload 0 1294 L S h) := icE_eq (i := .aload_n 0) (len := 1) (x1 := 0) (x2 := 0) (x3 := 0) (x4 := 64) ((fe_226 1293).trans rfl) L S h
set_option maxRecDepth 20000 in
theorem r_226_1294 (L S : List Value) (h : icH) : icE 226 1294 L S h = exe icE 226 (e_iload 3 1295 L S h) := icE_eq (i := .iload_n 3) (len := 1) (x1 := 0) (x2 := 0) (x3 := 0) (x4 := 64) ((fe_226 1294).trans rfl) L S h
set_option maxRecDepth 20000 in
theorem r_226_1295 (L S : List Value) (h : icH) : icE 226 1295 L S h = icE 226 1296 L (.int (nI 1) :: S) h := icE_eq (i := .iconst 1) (len := 1) (x1 := 0) (x2 := 0) (x3 := 0) (x4 := 64) ((fe_226 1295).trans rfl) L S h
set_option maxRecDepth 20000 in
theorem r_226_1296 (L S : List Value) (h : icH) : icE 226 1296 L S h = exe icE 226 (e_bin (fun x y => x + y) 1297 L S h) := icE_eq (i := .iadd) (len := 1) (x1 := 0) (x2 := 0) (x3 := 0) (x4 := 64) ((fe_226 1296).trans rfl) L S h
set_option maxRecDepth 20000 in
theorem r_226_1297 (L S : List Value) (h : icH) : icE 226 1297 L S h = exe icE 226 (e_iald 1298 L S h) := icE_eq (i := .iaload) (len := 1) (x1 := 0) (x2 := 0) (x3 := 0) (x4 := 64) ((fe_226 1297).trans rfl) L S h
set_option maxRecDepth 20000 in
theorem r_226_1298 (L S : List Value) (h : icH) : icE 226 1298 L S h = exe icE 226 (e_aload 0 1299 L S h) := icE_eq (i := .aload_n 0) (len := 1) (x1 := 0) (x2 := 0) (x3 := 0) (x4 := 64) ((fe_226 1298).trans rfl) L S h
set_option maxRecDepth 20000 in
theorem r_226_1299 (L S : List Value) (h : icH) : icE 226 1299 L S h = exe icE 226 (e_iload 3 1300 L S h) := icE_eq (i := .iload_n 3) (len := 1) (x1 := 0) (x2 := 0) (x3 := 0) (x4 := 64) ((fe_226 1299).trans rfl) L S h
set_option maxRecDepth 20000 in
theorem r_226_1300 (L S : List Value) (h : icH) : icE 226 1300 L S h = icE 226 1301 L (.int (nI 2) :: S) h := icE_eq (i := .iconst 2) (len := 1) (x1 := 0) (x2 := 0) (x3 := 0) (x4 := 64) ((fe_226 1300).trans rfl) L S h
set_option maxRecDepth 20000 in
theorem r_226_1301 (L S : List Value) (h : icH) : icE 226 1301 L S h = exe icE 226 (e_bin (fun x y => x + y) 1302 L S h) := icE_eq (i := .iadd) (len := 1) (x1 := 0) (x2 := 0) (x3 := 0) (x4 := 64) ((fe_226 1301).trans rfl) L S h
set_option maxRecDepth 20000 in
theorem r_226_1302 (L S : List Value) (h : icH) : icE 226 1302 L S h = exe icE 226 (e_iald 1303 L S h) := icE_eq (i := .iaload) (len := 1) (x1 := 0) (x2 := 0) (x3 := 0) (x4 := 64) ((fe_226 1302).trans rfl) L S h
set_option maxRecDepth 20000 in
theorem r_226_1303 (L S : List Value) (h : icH) : icE 226 1303 L S h = exe icE 226 (e_vcal 8 211 8 2 1306 L S h) := icE_eq (i := .invokevirtual 166) (len := 3) (x1 := 211) (x2 := 3) (x3 := 8) (x4 := 1333) ((fe_226 1303).trans rfl) L S h
set_option maxRecDepth 20000 in
theorem r_226_1306 (L S : List Value) (h : icH) : icE 226 1306 L S h = exe icE 226 (e_cmp .eq 1441 1309 L S h) := icE_eq (i := .if_icmp .eq 135) (len := 3) (x1 := 1441) (x2 := 0) (x3 := 0) (x4 := 64) ((fe_226 1306).trans rfl) L S h
set_option maxRecDepth 20000 in
theorem r_226_1309 (L S : List Value) (h : icH) : icE 226 1309 L S h = icE 226 1310 L (.int (nI 0) :: S) h := icE_eq (i := .iconst 0) (len := 1) (x1 := 0) (x2 := 0) (x3 := 0) (x4 := 64) ((fe_226 1309).trans rfl) L S h
set_option maxRecDepth 20000 in
theorem r_226_1310 (L S : List Value) (h : icH) : icE 226 1310 L S h = exe icE 226 (e_iret 1 L S h) := icE_eq (i := .ireturn) (len := 1) (x1 := 1) (x2 := 0) (x3 := 0) (x4 := 64) ((fe_226 1310).trans rfl) L S h
set_option maxRecDepth 20000 in
theorem r_226_1311 (L S : List Value) (h : icH) : icE 226 1311 L S h = exe icE 226 (e_aload 1 1312 L S h) := icE_eq (i := .aload_n 1) (len := 1) (x1 := 0) (x2 := 0) (x3 := 0) (x4 := 64) ((fe_226 1311).trans rfl) L S h
set_option maxRecDepth 20000 in
theorem r_226_1312 (L S : List Value) (h : icH) : icE 226 1312 L S h = exe icE 226 (e_aload 0 1313 L S h) := icE_eq (i := .aload_n 0) (len := 1) (x1 := 0) (x2 := 0) (x3 := 0) (x4 := 64) ((fe_226 1312).trans rfl) L S h
set_option maxRecDepth 20000 in
theorem r_226_1313 (L S : List Value) (h : icH) : icE 226 1313 L S h = exe icE 226 (e_iload 3 1314 L S h) := icE_eq (i := .iload_n 3) (len := 1) (x1 := 0) (x2 := 0) (x3 := 0) (x4 := 64) ((fe_226 1313).trans rfl) L S h
set_option maxRecDepth 20000 in
theorem r_226_1314 (L S : List Value) (h : icH) : icE 226 1314 L S h = icE 226 1315 L (.int (nI 1) :: S) h := icE_eq (i := .iconst 1) (len := 1) (x1 := 0) (x2 := 0) (x3 := 0) (x4 := 64) ((fe_226 1314).trans rfl) L S h
set_option maxRecDepth 20000 in
theorem r_226_1315 (L S : List Value) (h : icH) : icE 226 1315 L S h = exe icE 226 (e_bin (fun x y => x + y) 1316 L S h) := icE_eq (i := .iadd) (len := 1) (x1 := 0) (x2 := 0) (x3 := 0) (x4 := 64) ((fe_226 1315).trans rfl) L S h
set_option maxRecDepth 20000 in
theorem r_226_1316 (L S : List Value) (h : icH) : icE 226 1316 L S h = exe icE 226 (e_iald 1317 L S h) := icE_eq (i := .iaload) (len := 1) (x1 := 0) (x2 := 0) (x3 := 0) (x4 := 64) ((fe_226 1316).trans rfl) L S h
set_option maxRecDepth 20000 in
theorem r_226_1317 (L S : List Value) (h : icH) : icE 226 1317 L S h = exe icE 226 (e_vcal 7 107 2 1 1320 L S h) := icE_eq (i := .invokevirtual 167) (len := 3) (x1 := 107) (x2 := 3) (x3 := 7) (x4 := 898) ((fe_226 1317).trans rfl) L S h
set_option maxRecDepth 20000 in
theorem r_226_1320 (L S : List Value) (h : icH) : icE 226 1320 L S h = exe icE 226 (e_aload 2 1321 L S h) := icE_eq (i := .aload_n 2) (len := 1) (x1 := 0) (x2 := 0) (x3 := 0) (x4 := 64) ((fe_226 1320).trans rfl) L S h
set_option maxRecDepth 20000 in
theorem r_226_1321 (L S : List Value) (h : icH) : icE 226 1321 L S h = exe icE 226 (e_aload 0 1322 L S h) := icE_eq (i := .aload_n 0) (len := 1) (x1 := 0) (x2 := 0) (x3 := 0) (x4 := 64) ((fe_226 1321).trans rfl) L S h
set_option maxRecDepth 20000 in
theorem r_226_1322 (L S : List Value) (h : icH) : icE 226 1322 L S h = exe icE 226 (e_iload 3 1323 L S h) := icE_eq (i := .iload_n 3) (len := 1) (x1 := 0) (x2 := 0) (x3 := 0) (x4 := 64) ((fe_226 1322).trans rfl) L S h
set_option maxRecDepth 20000 in
theorem r_226_1323 (L S : List Value) (h : icH) : icE 226 1323 L S h = icE 226 1324 L (.int (nI 1) :: S) h := icE_eq (i := .iconst 1) (len := 1) (x1 := 0) (x2 := 0) (x3 := 0) (x4 := 64) ((fe_226 1323).trans rfl) L S h
set_option maxRecDepth 20000 in
theorem r_226_1324 (L S : List Value) (h : icH) : icE 226 1324 L S h = exe icE 226 (e_bin (fun x y => x + y) 1325 L S h) := icE_eq (i := .iadd) (len := 1) (x1 := 0) (x2 := 0) (x3 := 0) (x4 := 64) ((fe_226 1324).trans rfl) L S h
set_option maxRecDepth 20000 in
theorem r_226_1325 (L S : List Value) (h : icH) : icE 226 1325 L S h = exe icE 226 (e_iald 1326 L S h) := icE_eq (i := .iaload) (len := 1) (x1 := 0) (x2 := 0) (x3 := 0) (x4 := 64) ((fe_226 1325).trans rfl) L S h
set_option maxRecDepth 20000 in
theorem r_226_1326 (L S : List Value) (h : icH) : icE 226 1326 L S h = exe icE 226 (e_vcal 8 212 2 1 1329 L S h) := icE_eq (i := .invokevirtual 171) (len := 3) (x1 := 212) (x2 := 3) (x3 := 8) (x4 := 1343) ((fe_226 1326).trans rfl) L S h
set_option maxRecDepth 20000 in
theorem r_226_1329 (L S : List Value) (h : icH) : icE 226 1329 L S h = exe icE 226 (e_lcmp 1330 L S h) := icE_eq (i := .lcmp) (len := 1) (x1 := 0) (x2 := 0) (x3 := 0) (x4 := 64) ((fe_226 1329).trans rfl) L S h
set_option maxRecDepth 20000 in
theorem r_226_1330 (L S : List Value) (h : icH) : icE 226 1330 L S h = exe icE 226 (e_if .eq 1441 1333 L S h) := icE_eq (i := .ifCond .eq 111) (len := 3) (x1 := 1441) (x2 := 0) (x3 := 0) (x4 := 64) ((fe_226 1330).trans rfl) L S h
set_option maxRecDepth 20000 in
theorem r_226_1333 (L S : List Value) (h : icH) : icE 226 1333 L S h = icE 226 1334 L (.int (nI 0) :: S) h := icE_eq (i := .iconst 0) (len := 1) (x1 := 0) (x2 := 0) (x3 := 0) (x4 := 64) ((fe_226 1333).trans rfl) L S h
set_option maxRecDepth 20000 in
theorem r_226_1334 (L S : List Value) (h : icH) : icE 226 1334 L S h = exe icE 226 (e_iret 1 L S h) := icE_eq (i := .ireturn) (len := 1) (x1 := 1) (x2 := 0) (x3 := 0) (x4 := 64) ((fe_226 1334).trans rfl) L S h
set_option maxRecDepth 20000 in
theorem r_226_1335 (L S : List Value) (h : icH) : icE 226 1335 L S h = exe icE 226 (e_aload 1 1336 L S h) := icE_eq (i := .aload_n 1) (len := 1) (x1 := 0) (x2 := 0) (x3 := 0) (x4 := 64) ((fe_226 1335).trans rfl) L S h
set_option maxRecDepth 20000 in
theorem r_226_1336 (L S : List Value) (h : icH) : icE 226 1336 L S h = exe icE 226 (e_aload 0 1337 L S h) := icE_eq (i := .aload_n 0) (len := 1) (x1 := 0) (x2 := 0) (x3 := 0) (x4 := 64) ((fe_226 1336).trans rfl) L S h
set_option maxRecDepth 20000 in
theorem r_226_1337 (L S : List Value) (h : icH) : icE 226 1337 L S h = exe icE 226 (e_iload 3 1338 L S h) := icE_eq (i := .iload_n 3) (len := 1) (x1 := 0) (x2 := 0) (x3 := 0) (x4 := 64) ((fe_226 1337).trans rfl) L S h
set_option maxRecDepth 20000 in
theorem r_226_1338 (L S : List Value) (h : icH) : icE 226 1338 L S h = icE 226 1339 L (.int (nI 1) :: S) h := icE_eq (i := .iconst 1) (len := 1) (x1 := 0) (x2 := 0) (x3 := 0) (x4 := 64) ((fe_226 1338).trans rfl) L S h
set_option maxRecDepth 20000 in
theorem r_226_1339 (L S : List Value) (h : icH) : icE 226 1339 L S h = exe icE 226 (e_bin (fun x y => x + y) 1340 L S h) := icE_eq (i := .iadd) (len := 1) (x1 := 0) (x2 := 0) (x3 := 0) (x4 := 64) ((fe_226 1339).trans rfl) L S h
set_option maxRecDepth 20000 in
theorem r_226_1340 (L S : List Value) (h : icH) : icE 226 1340 L S h = exe icE 226 (e_iald 1341 L S h) := icE_eq (i := .iaload) (len := 1) (x1 := 0) (x2 := 0) (x3 := 0) (x4 := 64) ((fe_226 1340).trans rfl) L S h
set_option maxRecDepth 20000 in
theorem r_226_1341 (L S : List Value) (h : icH) : icE 226 1341 L S h = exe icE 226 (e_vcal 7 108 2 1 1344 L S h) := icE_eq (i := .invokevirtual 172) (len := 3) (x1 := 108) (x2 := 3) (x3 := 7) (x4 := 902) ((fe_226 1341).trans rfl) L S h
set_option maxRecDepth 20000 in
theorem r_226_1344 (L S : List Value) (h : icH) : icE 226 1344 L S h = exe icE 226 (e_aload 2 1345 L S h) := icE_eq (i := .aload_n 2) (len := 1) (x1 := 0) (x2 := 0) (x3 := 0) (x4 := 64) ((fe_226 1344).trans rfl) L S h
set_option maxRecDepth 20000 in
theorem r_226_1345 (L S : List Value) (h : icH) : icE 226 1345 L S h = exe icE 226 (e_aload 0 1346 L S h) := icE_eq (i := .aload_n 0) (len := 1) (x1 := 0) (x2 := 0) (x3 := 0) (x4 := 64) ((fe_226 1345).trans rfl) L S h
set_option maxRecDepth 20000 in
theorem r_226_1346 (L S : List Value) (h : icH) : icE 226 1346 L S h = exe icE 226 (e_iload 3 1347 L S h) := icE_eq (i := .iload_n 3) (len := 1) (x1 := 0) (x2 := 0) (x3 := 0) (x4 := 64) ((fe_226 1346).trans rfl) L S h
set_option maxRecDepth 20000 in
theorem r_226_1347 (L S : List Value) (h : icH) : icE 226 1347 L S h = icE 226 1348 L (.int (nI 1) :: S) h := icE_eq (i := .iconst 1) (len := 1) (x1 := 0) (x2 := 0) (x3 := 0) (x4 := 64) ((fe_226 1347).trans rfl) L S h
set_option maxRecDepth 20000 in
theorem r_226_1348 (L S : List Value) (h : icH) : icE 226 1348 L S h = exe icE 226 (e_bin (fun x y => x + y) 1349 L S h) := icE_eq (i := .iadd) (len := 1) (x1 := 0) (x2 := 0) (x3 := 0) (x4 := 64) ((fe_226 1348).trans rfl) L S h
set_option maxRecDepth 20000 in
theorem r_226_1349 (L S : List Value) (h : icH) : icE 226 1349 L S h = exe icE 226 (e_iald 1350 L S h) := icE_eq (i := .iaload) (len := 1) (x1 := 0) (x2 := 0) (x3 := 0) (x4 := 64) ((fe_226 1349).trans rfl) L S h
set_option maxRecDepth 20000 in
theorem r_226_1350 (L S : List Value) (h : icH) : icE 226 1350 L S h = exe icE 226 (e_vcal 8 213 2 1 1353 L S h) := icE_eq (i := .invokevirtual 175) (len := 3) (x1 := 213) (x2 := 3) (x3 := 8) (x4 := 1347) ((fe_226 1350).trans rfl) L S h
set_option maxRecDepth 20000 in
theorem r_226_1353 (L S : List Value) (h : icH) : icE 226 1353 L S h = exe icE 226 (e_cmp .eq 1441 1356 L S h) := icE_eq (i := .if_icmp .eq 88) (len := 3) (x1 := 1441) (x2 := 0) (x3 := 0) (x4 := 64) ((fe_226 1353).trans rfl) L S h
set_option maxRecDepth 20000 in
theorem r_226_1356 (L S : List Value) (h : icH) : icE 226 1356 L S h = icE 226 1357 L (.int (nI 0) :: S) h := icE_eq (i := .iconst 0) (len := 1) (x1 := 0) (x2 := 0) (x3 := 0) (x4 := 64) ((fe_226 1356).trans rfl) L S h
set_option maxRecDepth 20000 in
theorem r_226_1357 (L S : List Value) (h : icH) : icE 226 1357 L S h = exe icE 226 (e_iret 1 L S h) := icE_eq (i := .ireturn) (len := 1) (x1 := 1) (x2 := 0) (x3 := 0) (x4 := 64) ((fe_226 1357).trans rfl) L S h
set_option maxRecDepth 20000 in
theorem r_226_1358 (L S : List Value) (h : icH) : icE 226 1358 L S h = exe icE 226 (e_aload 1 1359 L S h) := icE_eq (i := .aload_n 1) (len := 1) (x1 := 0) (x2 := 0) (x3 := 0) (x4 := 64) ((fe_226 1358).trans rfl) L S h
set_option maxRecDepth 20000 in
theorem r_226_1359 (L S : List Value) (h : icH) : icE 226 1359 L S h = exe icE 226 (e_aload 0 1360 L S h) := icE_eq (i := .aload_n 0) (len := 1) (x1 := 0) (x2 := 0) (x3 := 0) (x4 := 64) ((fe_226 1359).trans rfl) L S h
set_option maxRecDepth 20000 in
theorem r_226_1360 (L S : List Value) (h : icH) : icE 226 1360 L S h = exe icE 226 (e_iload 3 1361 L S h) := icE_eq (i := .iload_n 3) (len := 1) (x1 := 0) (x2 := 0) (x3 := 0) (x4 := 64) ((fe_226 1360).trans rfl) L S h
set_option maxRecDepth 20000 in
theorem r_226_1361 (L S : List Value) (h : icH) : icE 226 1361 L S h = icE 226 1362 L (.int (nI 1) :: S) h := icE_eq (i := .iconst 1) (len := 1) (x1 := 0) (x2 := 0) (x3 := 0) (x4 := 64) ((fe_226 1361).trans rfl) L S h
set_option maxRecDepth 20000 in
theorem r_226_1362 (L S : List Value) (h : icH) : icE 226 1362 L S h = exe icE 226 (e_bin (fun x y => x + y) 1363 L S h) := icE_eq (i := .iadd) (len := 1) (x1 := 0) (x2 := 0) (x3 := 0) (x4 := 64) ((fe_226 1362).trans rfl) L S h
set_option maxRecDepth 20000 in
theorem r_226_1363 (L S : List Value) (h : icH) : icE 226 1363 L S h = exe icE 226 (e_iald 1364 L S h) := icE_eq (i := .iaload) (len := 1) (x1 := 0) (x2 := 0) (x3 := 0) (x4 := 64) ((fe_226 1363).trans rfl) L S h
set_option maxRecDepth 20000 in
theorem r_226_1364 (L S : List Value) (h : icH) : icE 226 1364 L S h = exe icE 226 (e_vcal 7 109 2 1 1367 L S h) := icE_eq (i := .invokevirtual 176) (len := 3) (x1 := 109) (x2 := 3) (x3 := 7) (x4 := 916) ((fe_226 1364).trans rfl) L S h
set_option maxRecDepth 20000 in
theorem r_226_1367 (L S : List Value) (h : icH) : icE 226 1367 L S h = exe icE 226 (e_aload 2 1368 L S h) := icE_eq (i := .aload_n 2) (len := 1) (x1 := 0) (x2 := 0) (x3 := 0) (x4 := 64) ((fe_226 1367).trans rfl) L S h
set_option maxRecDepth 20000 in
theorem r_226_1368 (L S : List Value) (h : icH) : icE 226 1368 L S h = exe icE 226 (e_aload 0 1369 L S h) := icE_eq (i := .aload_n 0) (len := 1) (x1 := 0) (x2 := 0) (x3 := 0) (x4 := 64) ((fe_226 1368).trans rfl) L S h
set_option maxRecDepth 20000 in
theorem r_226_1369 (L S : List Value) (h : icH) : icE 226 1369 L S h = exe icE 226 (e_iload 3 1370 L S h) := icE_eq (i := .iload_n 3) (len := 1) (x1 := 0) (x2 := 0) (x3 := 0) (x4 := 64) ((fe_226 1369).trans rfl) L S h
set_option maxRecDepth 20000 in
theorem r_226_1370 (L S : List Value) (h : icH) : icE 226 1370 L S h = icE 226 1371 L (.int (nI 1) :: S) h := icE_eq (i := .iconst 1) (len := 1) (x1 := 0) (x2 := 0) (x3 := 0) (x4 := 64) ((fe_226 1370).trans rfl) L S h
set_option maxRecDepth 20000 in
theorem r_226_1371 (L S : List Value) (h : icH) : icE 226 1371 L S h = exe icE 226 (e_bin (fun x y => x + y) 1372 L S h) := icE_eq (i := .iadd) (len := 1) (x1 := 0) (x2 := 0) (x3 := 0) (x4 := 64) ((fe_226 1371).trans rfl) L S h
set_option maxRecDepth 20000 in
theorem r_226_1372 (L S : List Value) (h : icH) : icE 226 1372 L S h = exe icE 226 (e_iald 1373 L S h) := icE_eq (i := .iaload) (len := 1) (x1 := 0) (x2 := 0) (x3 := 0) (x4 := 64) ((fe_226 1372).trans rfl) L S h
set_option maxRecDepth 20000 in
theorem r_226_1373 (L S : List Value) (h : icH) : icE 226 1373 L S h = exe icE 226 (e_vcal 8 214 2 1 1376 L S h) := icE_eq (i := .invokevirtual 179) (len := 3) (x1 := 214) (x2 := 3) (x3 := 8) (x4 := 1351) ((fe_226 1373).trans rfl) L S h
set_option maxRecDepth 20000 in
theorem r_226_1376 (L S : List Value) (h : icH) : icE 226 1376 L S h = exe icE 226 (e_cmp .eq 1441 1379 L S h) := icE_eq (i := .if_icmp .eq 65) (len := 3) (x1 := 1441) (x2 := 0) (x3 := 0) (x4 := 64) ((fe_226 1376).trans rfl) L S h
set_option maxRecDepth 20000 in
theorem r_226_1379 (L S : List Value) (h : icH) : icE 226 1379 L S h = icE 226 1380 L (.int (nI 0) :: S) h := icE_eq (i := .iconst 0) (len := 1) (x1 := 0) (x2 := 0) (x3 := 0) (x4 := 64) ((fe_226 1379).trans rfl) L S h
set_option maxRecDepth 20000 in
theorem r_226_1380 (L S : List Value) (h : icH) : icE 226 1380 L S h = exe icE 226 (e_iret 1 L S h) := icE_eq (i := .ireturn) (len := 1) (x1 := 1) (x2 := 0) (x3 := 0) (x4 := 64) ((fe_226 1380).trans rfl) L S h
set_option maxRecDepth 20000 in
theorem r_226_1381 (L S : List Value) (h : icH) : icE 226 1381 L S h = exe icE 226 (e_aload 1 1382 L S h) := icE_eq (i := .aload_n 1) (len := 1) (x1 := 0) (x2 := 0) (x3 := 0) (x4 := 64) ((fe_226 1381).trans rfl) L S h
set_option maxRecDepth 20000 in
theorem r_226_1382 (L S : List Value) (h : icH) : icE 226 1382 L S h = exe icE 226 (e_aload 0 1383 L S h) := icE_eq (i := .aload_n 0) (len := 1) (x1 := 0) (x2 := 0) (x3 := 0) (x4 := 64) ((fe_226 1382).trans rfl) L S h
set_option maxRecDepth 20000 in
theorem r_226_1383 (L S : List Value) (h : icH) : icE 226 1383 L S h = exe icE 226 (e_iload 3 1384 L S h) := icE_eq (i := .iload_n 3) (len := 1) (x1 := 0) (x2 := 0) (x3 := 0) (x4 := 64) ((fe_226 1383).trans rfl) L S h
set_option maxRecDepth 20000 in
theorem r_226_1384 (L S : List Value) (h : icH) : icE 226 1384 L S h = icE 226 1385 L (.int (nI 1) :: S) h := icE_eq (i := .iconst 1) (len := 1) (x1 := 0) (x2 := 0) (x3 := 0) (x4 := 64) ((fe_226 1384).trans rfl) L S h
set_option maxRecDepth 20000 in
theorem r_226_1385 (L S : List Value) (h : icH) : icE 226 1385 L S h = exe icE 226 (e_bin (fun x y => x + y) 1386 L S h) := icE_eq (i := .iadd) (len := 1) (x1 := 0) (x2 := 0) (x3 := 0) (x4 := 64) ((fe_226 1385).trans rfl) L S h
set_option maxRecDepth 20000 in
theorem r_226_1386 (L S : List Value) (h : icH) : icE 226 1386 L S h = exe icE 226 (e_iald 1387 L S h) := icE_eq (i := .iaload) (len := 1) (x1 := 0) (x2 := 0) (x3 := 0) (x4 := 64) ((fe_226 1386).trans rfl) L S h
set_option maxRecDepth 20000 in
theorem r_226_1387 (L S : List Value) (h : icH) : icE 226 1387 L S h = exe icE 226 (e_vcal 7 110 2 1 1390 L S h) := icE_eq (i := .invokevirtual 180) (len := 3) (x1 := 110) (x2 := 3) (x3 := 7) (x4 := 920) ((fe_226 1387).trans rfl) L S h
set_option maxRecDepth 20000 in
theorem r_226_1390 (L S : List Value) (h : icH) : icE 226 1390 L S h = exe icE 226 (e_aload 2 1391 L S h) := icE_eq (i := .aload_n 2) (len := 1) (x1 := 0) (x2 := 0) (x3 := 0) (x4 := 64) ((fe_226 1390).trans rfl) L S h
set_option maxRecDepth 20000 in
theorem r_226_1391 (L S : List Value) (h : icH) : icE 226 1391 L S h = exe icE 226 (e_aload 0 1392 L S h) := icE_eq (i := .aload_n 0) (len := 1) (x1 := 0) (x2 := 0) (x3 := 0) (x4 := 64) ((fe_226 1391).trans rfl) L S h
set_option maxRecDepth 20000 in
theorem r_226_1392 (L S : List Value) (h : icH) : icE 226 1392 L S h = exe icE 226 (e_iload 3 1393 L S h) := icE_eq (i := .iload_n 3) (len := 1) (x1 := 0) (x2 := 0) (x3 := 0) (x4 := 64) ((fe_226 1392).trans rfl) L S h
set_option maxRecDepth 20000 in
theorem r_226_1393 (L S : List Value) (h : icH) : icE 226 1393 L S h = icE 226 1394 L (.int (nI 1) :: S) h := icE_eq (i := .iconst 1) (len := 1) (x1 := 0) (x2 := 0) (x3 := 0) (x4 := 64) ((fe_226 1393).trans rfl) L S h
set_option maxRecDepth 20000 in
theorem r_226_1394 (L S : List Value) (h : icH) : icE 226 1394 L S h = exe icE 226 (e_bin (fun x y => x + y) 1395 L S h) := icE_eq (i := .iadd) (len := 1) (x1 := 0) (x2 := 0) (x3 := 0) (x4 := 64) ((fe_226 1394).trans rfl) L S h
set_option maxRecDepth 20000 in
theorem r_226_1395 (L S : List Value) (h : icH) : icE 226 1395 L S h = exe icE 226 (e_iald 1396 L S h) := icE_eq (i := .iaload) (len := 1) (x1 := 0) (x2 := 0) (x3 := 0) (x4 := 64) ((fe_226 1395).trans rfl) L S h
set_option maxRecDepth 20000 in
theorem r_226_1396 (L S : List Value) (h : icH) : icE 226 1396 L S h = exe icE 226 (e_vcal 8 215 2 1 1399 L S h) := icE_eq (i := .invokevirtual 183) (len := 3) (x1 := 215) (x2 := 3) (x3 := 8) (x4 := 1355) ((fe_226 1396).trans rfl) L S h
set_option maxRecDepth 20000 in
theorem r_226_1399 (L S : List Value) (h : icH) : icE 226 1399 L S h = exe icE 226 (e_cmp .eq 1441 1402 L S h) := icE_eq (i := .if_icmp .eq 42) (len := 3) (x1 := 1441) (x2 := 0) (x3 := 0) (x4 := 64) ((fe_226 1399).trans rfl) L S h
set_option maxRecDepth 20000 in
theorem r_226_1402 (L S : List Value) (h : icH) : icE 226 1402 L S h = icE 226 1403 L (.int (nI 0) :: S) h := icE_eq (i := .iconst 0) (len := 1) (x1 := 0) (x2 := 0) (x3 := 0) (x4 := 64) ((fe_226 1402).trans rfl) L S h
set_option maxRecDepth 20000 in
theorem r_226_1403 (L S : List Value) (h : icH) : icE 226 1403 L S h = exe icE 226 (e_iret 1 L S h) := icE_eq (i := .ireturn) (len := 1) (x1 := 1) (x2 := 0) (x3 := 0) (x4 := 64) ((fe_226 1403).trans rfl) L S h
set_option maxRecDepth 20000 in
theorem r_226_1404 (L S : List Value) (h : icH) : icE 226 1404 L S h = exe icE 226 (e_aload 1 1405 L S h) := icE_eq (i := .aload_n 1) (len := 1) (x1 := 0) (x2 := 0) (x3 := 0) (x4 := 64) ((fe_226 1404).trans rfl) L S h
set_option maxRecDepth 20000 in
theorem r_226_1405 (L S : List Value) (h : icH) : icE 226 1405 L S h = exe icE 226 (e_aload 0 1406 L S h) := icE_eq (i := .aload_n 0) (len := 1) (x1 := 0) (x2 := 0) (x3 := 0) (x4 := 64) ((fe_226 1405).trans rfl) L S h
set_option maxRecDepth 20000 in
theorem r_226_1406 (L S : List Value) (h : icH) : icE 226 1406 L S h = exe icE 226 (e_iload 3 1407 L S h) := icE_eq (i := .iload_n 3) (len := 1) (x1 := 0) (x2 := 0) (x3 := 0) (x4 := 64) ((fe_226 1406).trans rfl) L S h
set_option maxRecDepth 20000 in
theorem r_226_1407 (L S : List Value) (h : icH) : icE 226 1407 L S h = icE 226 1408 L (.int (nI 1) :: S) h := icE_eq (i := .iconst 1) (len := 1) (x1 := 0) (x2 := 0) (x3 := 0) (x4 := 64) ((fe_226 1407).trans rfl) L S h
set_option maxRecDepth 20000 in
theorem r_226_1408 (L S : List Value) (h : icH) : icE 226 1408 L S h = exe icE 226 (e_bin (fun x y => x + y) 1409 L S h) := icE_eq (i := .iadd) (len := 1) (x1 := 0) (x2 := 0) (x3 := 0) (x4 := 64) ((fe_226 1408).trans rfl) L S h
set_option maxRecDepth 20000 in
theorem r_226_1409 (L S : List Value) (h : icH) : icE 226 1409 L S h = exe icE 226 (e_iald 1410 L S h) := icE_eq (i := .iaload) (len := 1) (x1 := 0) (x2 := 0) (x3 := 0) (x4 := 64) ((fe_226 1409).trans rfl) L S h
set_option maxRecDepth 20000 in
theorem r_226_1410 (L S : List Value) (h : icH) : icE 226 1410 L S h = exe icE 226 (e_vcal 7 111 2 1 1413 L S h) := icE_eq (i := .invokevirtual 184) (len := 3) (x1 := 111) (x2 := 3) (x3 := 7) (x4 := 924) ((fe_226 1410).trans rfl) L S h
set_option maxRecDepth 20000 in
theorem r_226_1413 (L S : List Value) (h : icH) : icE 226 1413 L S h = exe icE 226 (e_aload 2 1414 L S h) := icE_eq (i := .aload_n 2) (len := 1) (x1 := 0) (x2 := 0) (x3 := 0) (x4 := 64) ((fe_226 1413).trans rfl) L S h
set_option maxRecDepth 20000 in
theorem r_226_1414 (L S : List Value) (h : icH) : icE 226 1414 L S h = exe icE 226 (e_aload 0 1415 L S h) := icE_eq (i := .aload_n 0) (len := 1) (x1 := 0) (x2 := 0) (x3 := 0) (x4 := 64) ((fe_226 1414).trans rfl) L S h
set_option maxRecDepth 20000 in
theorem r_226_1415 (L S : List Value) (h : icH) : icE 226 1415 L S h = exe icE 226 (e_iload 3 1416 L S h) := icE_eq (i := .iload_n 3) (len := 1) (x1 := 0) (x2 := 0) (x3 := 0) (x4 := 64) ((fe_226 1415).trans rfl) L S h
set_option maxRecDepth 20000 in
theorem r_226_1416 (L S : List Value) (h : icH) : icE 226 1416 L S h = icE 226 1417 L (.int (nI 1) :: S) h := icE_eq (i := .iconst 1) (len := 1) (x1 := 0) (x2 := 0) (x3 := 0) (x4 := 64) ((fe_226 1416).trans rfl) L S h
set_option maxRecDepth 20000 in
theorem r_226_1417 (L S : List Value) (h : icH) : icE 226 1417 L S h = exe icE 226 (e_bin (fun x y => x + y) 1418 L S h) := icE_eq (i := .iadd) (len := 1) (x1 := 0) (x2 := 0) (x3 := 0) (x4 := 64) ((fe_226 1417).trans rfl) L S h
set_option maxRecDepth 20000 in
theorem r_226_1418 (L S : List Value) (h : icH) : icE 226 1418 L S h = exe icE 226 (e_iald 1419 L S h) := icE_eq (i := .iaload) (len := 1) (x1 := 0) (x2 := 0) (x3 := 0) (x4 := 64) ((fe_226 1418).trans rfl) L S h
set_option maxRecDepth 20000 in
theorem r_226_1419 (L S : List Value) (h : icH) : icE 226 1419 L S h = exe icE 226 (e_vcal 8 218 2 1 1422 L S h) := icE_eq (i := .invokevirtual 187) (len := 3) (x1 := 218) (x2 := 3) (x3 := 8) (x4 := 1359) ((fe_226 1419).trans rfl) L S h
set_option maxRecDepth 20000 in
theorem r_226_1422 (L S : List Value) (h : icH) : icE 226 1422 L S h = exe icE 226 (e_cmp .eq 1441 1425 L S h) := icE_eq (i := .if_icmp .eq 19) (len := 3) (x1 := 1441) (x2 := 0) (x3 := 0) (x4 := 64) ((fe_226 1422).trans rfl) L S h
set_option maxRecDepth 20000 in
theorem r_226_1425 (L S : List Value) (h : icH) : icE 226 1425 L S h = icE 226 1426 L (.int (nI 0) :: S) h := icE_eq (i := .iconst 0) (len := 1) (x1 := 0) (x2 := 0) (x3 := 0) (x4 := 64) ((fe_226 1425).trans rfl) L S h
set_option maxRecDepth 20000 in
theorem r_226_1426 (L S : List Value) (h : icH) : icE 226 1426 L S h = exe icE 226 (e_iret 1 L S h) := icE_eq (i := .ireturn) (len := 1) (x1 := 1) (x2 := 0) (x3 := 0) (x4 := 64) ((fe_226 1426).trans rfl) L S h
set_option maxRecDepth 20000 in
theorem r_226_1427 (L S : List Value) (h : icH) : icE 226 1427 L S h = exe icE 226 (e_aload 1 1428 L S h) := icE_eq (i := .aload_n 1) (len := 1) (x1 := 0) (x2 := 0) (x3 := 0) (x4 := 64) ((fe_226 1427).trans rfl) L S h
set_option maxRecDepth 20000 in
theorem r_226_1428 (L S : List Value) (h : icH) : icE 226 1428 L S h = exe icE 226 (e_vcal 7 112 4 0 1431 L S h) := icE_eq (i := .invokevirtual 188) (len := 3) (x1 := 112) (x2 := 3) (x3 := 7) (x4 := 932) ((fe_226 1428).trans rfl) L S h
set_option maxRecDepth 20000 in
theorem r_226_1431 (L S : List Value) (h : icH) : icE 226 1431 L S h = exe icE 226 (e_aload 2 1432 L S h) := icE_eq (i := .aload_n 2) (len := 1) (x1 := 0) (x2 := 0) (x3 := 0) (x4 := 64) ((fe_226 1431).trans rfl) L S h
set_option maxRecDepth 20000 in
theorem r_226_1432 (L S : List Value) (h : icH) : icE 226 1432 L S h = exe icE 226 (e_vcal 8 220 5 0 1435 L S h) := icE_eq (i := .invokevirtual 192) (len := 3) (x1 := 220) (x2 := 3) (x3 := 8) (x4 := 1372) ((fe_226 1432).trans rfl) L S h
set_option maxRecDepth 20000 in
theorem r_226_1435 (L S : List Value) (h : icH) : icE 226 1435 L S h = exe icE 226 (e_lcmp 1436 L S h) := icE_eq (i := .lcmp) (len := 1) (x1 := 0) (x2 := 0) (x3 := 0) (x4 := 64) ((fe_226 1435).trans rfl) L S h
set_option maxRecDepth 20000 in
theorem r_226_1436 (L S : List Value) (h : icH) : icE 226 1436 L S h = exe icE 226 (e_if .eq 1441 1439 L S h) := icE_eq (i := .ifCond .eq 5) (len := 3) (x1 := 1441) (x2 := 0) (x3 := 0) (x4 := 64) ((fe_226 1436).trans rfl) L S h
set_option maxRecDepth 20000 in
theorem r_226_1439 (L S : List Value) (h : icH) : icE 226 1439 L S h = icE 226 1440 L (.int (nI 0) :: S) h := icE_eq (i := .iconst 0) (len := 1) (x1 := 0) (x2 := 0) (x3 := 0) (x4 := 64) ((fe_226 1439).trans rfl) L S h
set_option maxRecDepth 20000 in
theorem r_226_1440 (L S : List Value) (h : icH) : icE 226 1440 L S h = exe icE 226 (e_iret 1 L S h) := icE_eq (i := .ireturn) (len := 1) (x1 := 1) (x2 := 0) (x3 := 0) (x4 := 64) ((fe_226 1440).trans rfl) L S h
set_option maxRecDepth 20000 in
theorem r_226_1441 (L S : List Value) (h : icH) : icE 226 1441 L S h = exe icE 226 (e_iinc 3 (nI 6) 1444 L S h) := icE_eq (i := .iinc 3 6) (len := 3) (x1 := 0) (x2 := 0) (x3 := 0) (x4 := 64) ((fe_226 1441).trans rfl) L S h
set_option maxRecDepth 20000 in
theorem r_226_1444 (L S : List Value) (h : icH) : icE 226 1444 L S h = icE 226 18 L S h := icE_eq (i := .goto (-1426)) (len := 3) (x1 := 18) (x2 := 0) (x3 := 0) (x4 := 64) ((fe_226 1444).trans rfl) L S h
set_option maxRecDepth 20000 in
theorem r_226_1447 (L S : List Value) (h : icH) : icE 226 1447 L S h = icE 226 1448 L (.int (nI 1) :: S) h := icE_eq (i := .iconst 1) (len := 1) (x1 := 0) (x2 := 0) (x3 := 0) (x4 := 64) ((fe_226 1447).trans rfl) L S h
set_option maxRecDepth 20000 in
theorem r_226_1448 (L S : List Value) (h : icH) : icE 226 1448 L S h = exe icE 226 (e_iret 1 L S h) := icE_eq (i := .ireturn) (len := 1) (x1 := 1) (x2 := 0) (x3 := 0) (x4 := 64) ((fe_226 1448).trans rfl) L S h
