/-! ===== the five words: String.length and String.charAt ===== -/
theorem dJ0_length_8abf5_0 : decode cJ0_length_8abf5 0 = .ok (.aload_n 0, 1) := by decide +kernel
theorem dJ0_length_8abf5_1 : decode cJ0_length_8abf5 1 = .ok (.getfield 9, 3) := by decide +kernel
theorem dJ0_length_8abf5_4 : decode cJ0_length_8abf5 4 = .ok (.arraylength, 1) := by decide +kernel
theorem dJ0_length_8abf5_5 : decode cJ0_length_8abf5 5 = .ok (.aload_n 0, 1) := by decide +kernel
theorem dJ0_length_8abf5_6 : decode cJ0_length_8abf5 6 = .ok (.invokevirtual 335, 3) := by decide +kernel
theorem dJ0_length_8abf5_9 : decode cJ0_length_8abf5 9 = .ok (.ishr, 1) := by decide +kernel
theorem dJ0_length_8abf5_10 : decode cJ0_length_8abf5 10 = .ok (.ireturn, 1) := by decide +kernel
theorem dJ0_charAt_5068e_0 : decode cJ0_charAt_5068e 0 = .ok (.aload_n 0, 1) := by decide +kernel
theorem dJ0_charAt_5068e_1 : decode cJ0_charAt_5068e 1 = .ok (.invokevirtual 492, 3) := by decide +kernel
theorem dJ0_charAt_5068e_4 : decode cJ0_charAt_5068e 4 = .ok (.ifCond .eq 12, 3) := by decide +kernel
theorem dJ0_charAt_5068e_7 : decode cJ0_charAt_5068e 7 = .ok (.aload_n 0, 1) := by decide +kernel
theorem dJ0_charAt_5068e_8 : decode cJ0_charAt_5068e 8 = .ok (.getfield 9, 3) := by decide +kernel
theorem dJ0_charAt_5068e_11 : decode cJ0_charAt_5068e 11 = .ok (.iload_n 1, 1) := by decide +kernel
theorem dJ0_charAt_5068e_12 : decode cJ0_charAt_5068e 12 = .ok (.invokestatic 495, 3) := by decide +kernel
theorem dJ0_charAt_5068e_15 : decode cJ0_charAt_5068e 15 = .ok (.ireturn, 1) := by decide +kernel
theorem dJ0_charAt_5068e_16 : decode cJ0_charAt_5068e 16 = .ok (.aload_n 0, 1) := by decide +kernel
theorem dJ0_charAt_5068e_17 : decode cJ0_charAt_5068e 17 = .ok (.getfield 9, 3) := by decide +kernel
theorem dJ0_charAt_5068e_20 : decode cJ0_charAt_5068e 20 = .ok (.iload_n 1, 1) := by decide +kernel
theorem dJ0_charAt_5068e_21 : decode cJ0_charAt_5068e 21 = .ok (.invokestatic 498, 3) := by decide +kernel
theorem dJ0_charAt_5068e_24 : decode cJ0_charAt_5068e 24 = .ok (.ireturn, 1) := by decide +kernel
theorem dJ0_coder_7d493_0 : decode cJ0_coder_7d493 0 = .ok (.getstatic 38, 3) := by decide +kernel
theorem dJ0_coder_7d493_3 : decode cJ0_coder_7d493 3 = .ok (.ifCond .eq 10, 3) := by decide +kernel
theorem dJ0_coder_7d493_6 : decode cJ0_coder_7d493 6 = .ok (.aload_n 0, 1) := by decide +kernel
theorem dJ0_coder_7d493_7 : decode cJ0_coder_7d493 7 = .ok (.getfield 15, 3) := by decide +kernel
theorem dJ0_coder_7d493_10 : decode cJ0_coder_7d493 10 = .ok (.goto 4, 3) := by decide +kernel
theorem dJ0_coder_7d493_13 : decode cJ0_coder_7d493 13 = .ok (.iconst 1, 1) := by decide +kernel
theorem dJ0_coder_7d493_14 : decode cJ0_coder_7d493 14 = .ok (.ireturn, 1) := by decide +kernel
theorem dJ0_isLatin1_aae02_0 : decode cJ0_isLatin1_aae02 0 = .ok (.getstatic 38, 3) := by decide +kernel
theorem dJ0_isLatin1_aae02_3 : decode cJ0_isLatin1_aae02 3 = .ok (.ifCond .eq 14, 3) := by decide +kernel
theorem dJ0_isLatin1_aae02_6 : decode cJ0_isLatin1_aae02 6 = .ok (.aload_n 0, 1) := by decide +kernel
theorem dJ0_isLatin1_aae02_7 : decode cJ0_isLatin1_aae02 7 = .ok (.getfield 15, 3) := by decide +kernel
theorem dJ0_isLatin1_aae02_10 : decode cJ0_isLatin1_aae02 10 = .ok (.ifCond .ne 7, 3) := by decide +kernel
theorem dJ0_isLatin1_aae02_13 : decode cJ0_isLatin1_aae02 13 = .ok (.iconst 1, 1) := by decide +kernel
theorem dJ0_isLatin1_aae02_14 : decode cJ0_isLatin1_aae02 14 = .ok (.goto 4, 3) := by decide +kernel
theorem dJ0_isLatin1_aae02_17 : decode cJ0_isLatin1_aae02 17 = .ok (.iconst 0, 1) := by decide +kernel
theorem dJ0_isLatin1_aae02_18 : decode cJ0_isLatin1_aae02 18 = .ok (.ireturn, 1) := by decide +kernel
theorem dJ0_checkIndex_df160_0 : decode cJ0_checkIndex_df160 0 = .ok (.iload_n 0, 1) := by decide +kernel
theorem dJ0_checkIndex_df160_1 : decode cJ0_checkIndex_df160 1 = .ok (.iload_n 1, 1) := by decide +kernel
theorem dJ0_checkIndex_df160_2 : decode cJ0_checkIndex_df160 2 = .ok (.getstatic 1053, 3) := by decide +kernel
theorem dJ0_checkIndex_df160_5 : decode cJ0_checkIndex_df160 5 = .ok (.invokestatic 1059, 3) := by decide +kernel
theorem dJ0_checkIndex_df160_8 : decode cJ0_checkIndex_df160 8 = .ok (.pop, 1) := by decide +kernel
theorem dJ0_checkIndex_df160_9 : decode cJ0_checkIndex_df160 9 = .ok (.return_, 1) := by decide +kernel
theorem dJ1_charAt_3b067_0 : decode cJ1_charAt_3b067 0 = .ok (.iload_n 1, 1) := by decide +kernel
theorem dJ1_charAt_3b067_1 : decode cJ1_charAt_3b067 1 = .ok (.aload_n 0, 1) := by decide +kernel
theorem dJ1_charAt_3b067_2 : decode cJ1_charAt_3b067 2 = .ok (.arraylength, 1) := by decide +kernel
theorem dJ1_charAt_3b067_3 : decode cJ1_charAt_3b067 3 = .ok (.invokestatic 9, 3) := by decide +kernel
theorem dJ1_charAt_3b067_6 : decode cJ1_charAt_3b067 6 = .ok (.aload_n 0, 1) := by decide +kernel
theorem dJ1_charAt_3b067_7 : decode cJ1_charAt_3b067 7 = .ok (.iload_n 1, 1) := by decide +kernel
theorem dJ1_charAt_3b067_8 : decode cJ1_charAt_3b067 8 = .ok (.baload, 1) := by decide +kernel
theorem dJ1_charAt_3b067_9 : decode cJ1_charAt_3b067 9 = .ok (.sipush 255, 3) := by decide +kernel
theorem dJ1_charAt_3b067_12 : decode cJ1_charAt_3b067 12 = .ok (.iand, 1) := by decide +kernel
theorem dJ1_charAt_3b067_13 : decode cJ1_charAt_3b067 13 = .ok (.i2c, 1) := by decide +kernel
theorem dJ1_charAt_3b067_14 : decode cJ1_charAt_3b067 14 = .ok (.ireturn, 1) := by decide +kernel
theorem dJ3_checkIndex_8e157_0 : decode cJ3_checkIndex_8e157 0 = .ok (.iload_n 0, 1) := by decide +kernel
theorem dJ3_checkIndex_8e157_1 : decode cJ3_checkIndex_8e157 1 = .ok (.ifCond .lt 8, 3) := by decide +kernel
theorem dJ3_checkIndex_8e157_4 : decode cJ3_checkIndex_8e157 4 = .ok (.iload_n 0, 1) := by decide +kernel
theorem dJ3_checkIndex_8e157_5 : decode cJ3_checkIndex_8e157 5 = .ok (.iload_n 1, 1) := by decide +kernel
theorem dJ3_checkIndex_8e157_6 : decode cJ3_checkIndex_8e157 6 = .ok (.if_icmp .lt 10, 3) := by decide +kernel
theorem dJ3_checkIndex_8e157_9 : decode cJ3_checkIndex_8e157 9 = .ok (.aload_n 2, 1) := by decide +kernel
theorem dJ3_checkIndex_8e157_10 : decode cJ3_checkIndex_8e157 10 = .ok (.iload_n 0, 1) := by decide +kernel
theorem dJ3_checkIndex_8e157_11 : decode cJ3_checkIndex_8e157 11 = .ok (.iload_n 1, 1) := by decide +kernel
theorem dJ3_checkIndex_8e157_12 : decode cJ3_checkIndex_8e157 12 = .ok (.invokestatic 95, 3) := by decide +kernel
theorem dJ3_checkIndex_8e157_15 : decode cJ3_checkIndex_8e157 15 = .ok (.athrow, 1) := by decide +kernel
theorem dJ3_checkIndex_8e157_16 : decode cJ3_checkIndex_8e157 16 = .ok (.iload_n 0, 1) := by decide +kernel
theorem dJ3_checkIndex_8e157_17 : decode cJ3_checkIndex_8e157 17 = .ok (.ireturn, 1) := by decide +kernel
def sX (adK adV : Nat → Nat) (U : State) : Prop := vk_S 5 (strB.map List.length) strB adK adV (fun _ => False) U U.heap ∧ va_Z "java/lang/String" "COMPACT_STRINGS" "Z" (.int 1) (fun _ => False) U U.heap ∧ va_Zq "jdk/internal/util/Preconditions" "SIOOBE_FORMATTER" "Ljava/util/function/BiFunction;" (fun _ => False) U U.heap
def sPc (as : List Value) (adK adV : Nat → Nat) : Array Value → State → Prop := va_Pc as (fun U => sX adK adV U)
theorem sX_mv {adK adV : Nat → Nat} {s U : State} (h : sX adK adV s) (hh : U.heap = s.heap) (hal : s.vm.Alike U.vm) : sX adK adV U := by
  obtain ⟨h1, h2, h3⟩ := h
  exact ⟨by rw [hh]; exact vk_S.moved hal h1, by rw [hh]; exact va_Z.moved hal h2, by rw [hh]; exact va_Zq.moved hal h3⟩
theorem sPc_blind {as : List Value} {adK adV : Nat → Nat} : FrameBlind (sPc as adK adV) := fun a U g mk h => ⟨h.1, sX_mv (s := U) (U := U.calling g mk a) h.2 rfl (Vm.Alike.refl U.vm)⟩
def j_cod : icM := (yJ0_coder_7d493, cJ0_coder_7d493, 1, some .byte, 0, 0, [])
def j_lat : icM := (yJ0_isLatin1_aae02, cJ0_isLatin1_aae02, 1, some .boolean, 0, 0, [])
def j_len : icM := (yJ0_length_8abf5, cJ0_length_8abf5, 1, some .int, 1, 0, [])
def j_pck : icM := (yJ3_checkIndex_8e157, cJ3_checkIndex_8e157, 3, some .int, 0, 3, [])
def j_chk : icM := (yJ0_checkIndex_df160, cJ0_checkIndex_df160, 2, none, 1, 2, [])
def j_l1c : icM := (yJ1_charAt_3b067, cJ1_charAt_3b067, 2, some .char, 2, 2, [])
def j_chr : icM := (yJ0_charAt_5068e, cJ0_charAt_5068e, 2, some .char, 3, 1, [])
theorem mx_j_cod : MX j_cod := ⟨inL_in (i := 447) (by decide +kernel), inL_in (i := 77) (by decide +kernel), ⟨by decide +kernel, by decide +kernel⟩, by decide +kernel, by decide +kernel, by decide +kernel⟩
theorem mx_j_lat : MX j_lat := ⟨inL_in (i := 457) (by decide +kernel), inL_in (i := 77) (by decide +kernel), ⟨by decide +kernel, by decide +kernel⟩, by decide +kernel, by decide +kernel, by decide +kernel⟩
theorem mx_j_len : MX j_len := ⟨inL_in (i := 443) (by decide +kernel), inL_in (i := 77) (by decide +kernel), ⟨by decide +kernel, by decide +kernel⟩, by decide +kernel, by decide +kernel, by decide +kernel⟩
theorem mx_j_pck : MX j_pck := ⟨inL_in (i := 468) (by decide +kernel), inL_in (i := 79) (by decide +kernel), ⟨by decide +kernel, by decide +kernel⟩, by decide +kernel, by decide +kernel, by decide +kernel⟩
theorem mx_j_chk : MX j_chk := ⟨inL_in (i := 463) (by decide +kernel), inL_in (i := 77) (by decide +kernel), ⟨by decide +kernel, by decide +kernel⟩, by decide +kernel, by decide +kernel, by decide +kernel⟩
theorem mx_j_l1c : MX j_l1c := ⟨inL_in (i := 460) (by decide +kernel), inL_in (i := 78) (by decide +kernel), ⟨by decide +kernel, by decide +kernel⟩, by decide +kernel, by decide +kernel, by decide +kernel⟩
theorem mx_j_chr : MX j_chr := ⟨inL_in (i := 453) (by decide +kernel), inL_in (i := 77) (by decide +kernel), ⟨by decide +kernel, by decide +kernel⟩, by decide +kernel, by decide +kernel, by decide +kernel⟩
theorem jw_w_cs : Cond.fieldLink "java/lang/String" 38 "java/lang/String" "COMPACT_STRINGS" "Z" ∈ TTg := inL_in (i := 448) (by decide +kernel)
theorem jw_w_cod : Cond.fieldLink "java/lang/String" 15 "java/lang/String" "coder" "B" ∈ TTg := inL_in (i := 1384) (by decide +kernel)
theorem jw_w_val : Cond.fieldLink "java/lang/String" 9 "java/lang/String" "value" "[B" ∈ TTg := inL_in (i := 1383) (by decide +kernel)
theorem jw_w_sio : Cond.fieldLink "java/lang/String" 1053 "jdk/internal/util/Preconditions" "SIOOBE_FORMATTER" "Ljava/util/function/BiFunction;" ∈ TTg := inL_in (i := 464) (by decide +kernel)
theorem jw_l_cod : Cond.methodLink "java/lang/String" 335 yJ0_coder_7d493 ∈ TTg := inL_in (i := 444) (by decide +kernel)
theorem jw_i_cod : Cond.instanceMethod yJ0_coder_7d493 ∈ TTg := inL_in (i := 445) (by decide +kernel)
theorem jw_s_cod : Cond.selects "java/lang/String" yJ0_coder_7d493 yJ0_coder_7d493 ∈ TTg := inL_in (i := 446) (by decide +kernel)
theorem jw_i_len : Cond.instanceMethod yJ0_length_8abf5 ∈ TTg := inL_in (i := 441) (by decide +kernel)
theorem jw_s_len : Cond.selects "java/lang/String" yJ0_length_8abf5 yJ0_length_8abf5 ∈ TTg := inL_in (i := 442) (by decide +kernel)
theorem jw_i_chr : Cond.instanceMethod yJ0_charAt_5068e ∈ TTg := inL_in (i := 451) (by decide +kernel)
theorem jw_s_chr : Cond.selects "java/lang/String" yJ0_charAt_5068e yJ0_charAt_5068e ∈ TTg := inL_in (i := 452) (by decide +kernel)
theorem jw_l_lat : Cond.methodLink "java/lang/String" 492 yJ0_isLatin1_aae02 ∈ TTg := inL_in (i := 454) (by decide +kernel)
theorem jw_i_lat : Cond.instanceMethod yJ0_isLatin1_aae02 ∈ TTg := inL_in (i := 455) (by decide +kernel)
theorem jw_s_lat : Cond.selects "java/lang/String" yJ0_isLatin1_aae02 yJ0_isLatin1_aae02 ∈ TTg := inL_in (i := 456) (by decide +kernel)
theorem jw_l_l1c : Cond.methodLink "java/lang/String" 495 yJ1_charAt_3b067 ∈ TTg := inL_in (i := 458) (by decide +kernel)
theorem jw_t_l1c : Cond.static yJ1_charAt_3b067 ∈ TTg := inL_in (i := 459) (by decide +kernel)
theorem jw_l_chk : Cond.methodLink "java/lang/StringLatin1" 9 yJ0_checkIndex_df160 ∈ TTg := inL_in (i := 461) (by decide +kernel)
theorem jw_t_chk : Cond.static yJ0_checkIndex_df160 ∈ TTg := inL_in (i := 462) (by decide +kernel)
theorem jw_l_pck : Cond.methodLink "java/lang/String" 1059 yJ3_checkIndex_8e157 ∈ TTg := inL_in (i := 466) (by decide +kernel)
theorem jw_t_pck : Cond.static yJ3_checkIndex_8e157 ∈ TTg := inL_in (i := 467) (by decide +kernel)
theorem jw_n_str : Cond.initialized "java/lang/String" ∈ TTg := inL_in (i := 77) (by decide +kernel)
set_option maxHeartbeats 4000000 in
theorem jc_cod (l : Launch) (adK adV : Nat → Nat) (j : Nat) (hj : j < 5) : Met l j_cod.1 (wMt j_cod) (rmt j_cod 0 0) (sPc [.ref (adK j)] adK adV) (QcRead 0) 0 0 (fun _ => False) := by
  refine va_MetF (cc := j_cod.2.1) (maxL := j_cod.2.2.1) (ret := j_cod.2.2.2.1) mx_j_cod.2.2.2.2.2 rfl ?_
  intro p e s m args below meth c s₁ B hml hv
  obtain ⟨rfl, hX⟩ := hv
  obtain ⟨h1, h2, h3⟩ := id hX
  have hx := B.exec
  have hb := B.bytes
  have hr := B.returns
  have hts : ∀ w ∈ TTg, w.before [.ref (adK j)].toArray s = true := fun w hw => atoms_spec (ws := wMt j_cod) B.pre w (List.mem_cons_of_mem _ hw)
  have hown : s.vm.findClass j_cod.1.cls = some m.cls := findClass_of_methodNamed B.named
  have hlocks := B.notSynchronized
  have hS : va_S (fun _ => False) s.heap s.heap [] := va_S.rf
  have hF : ∀ q ∈ ([] : List Loc), (fun _ : Addr => False) q.base := fun q h => absurd h List.not_mem_nil
  have hl := lv_entry ([.ref (adK j)]) (n := j_cod.2.2.1) (Nat.le_of_ble_eq_true rfl)
  rw [lg_entry_eq]
  generalize (lg_sl ([.ref (adK j)]) ++ List.replicate (j_cod.2.2.1 - (lg_sl ([.ref (adK j)])).length) Slot.unset).toArray = ls at hl ⊢
  have hl : lv_has ls 1 [(0, .ref (adK j))] := hl
  refine va_gets hx hb h2 hS hown (hts _ jw_w_cs) (fun _ z => z) dJ0_coder_7d493_0 ?_
  refine lv_if_eq (tgt := 13) hx hb dJ0_coder_7d493_3 (by decide) (fun z => absurd z (by decide)) (fun _ => ?_)
  refine lv_aload_n hx hb dJ0_coder_7d493_6 rfl (lv_at hl 0 rfl) ?_
  refine vk_getf hx hb (h1.1 j hj).2.1 hS hown (hts _ jw_w_cod) (fun _ z => z) dJ0_coder_7d493_7 ?_
  refine lv_goto (tgt := 14) hx hb dJ0_coder_7d493_10 (by decide) ?_
  exact W.zret (v := 0) (ty := .byte) hx hb hr rfl (fun t ht hW => ⟨rfl, ht⟩) hF dJ0_coder_7d493_14 hlocks
set_option maxHeartbeats 4000000 in
theorem jc_lat (l : Launch) (adK adV : Nat → Nat) (j : Nat) (hj : j < 5) : Met l j_lat.1 (wMt j_lat) (rmt j_lat 0 0) (sPc [.ref (adK j)] adK adV) (QcRead 1) 0 0 (fun _ => False) := by
  refine va_MetF (cc := j_lat.2.1) (maxL := j_lat.2.2.1) (ret := j_lat.2.2.2.1) mx_j_lat.2.2.2.2.2 rfl ?_
  intro p e s m args below meth c s₁ B hml hv
  obtain ⟨rfl, hX⟩ := hv
  obtain ⟨h1, h2, h3⟩ := id hX
  have hx := B.exec
  have hb := B.bytes
  have hr := B.returns
  have hts : ∀ w ∈ TTg, w.before [.ref (adK j)].toArray s = true := fun w hw => atoms_spec (ws := wMt j_lat) B.pre w (List.mem_cons_of_mem _ hw)
  have hown : s.vm.findClass j_lat.1.cls = some m.cls := findClass_of_methodNamed B.named
  have hlocks := B.notSynchronized
  have hS : va_S (fun _ => False) s.heap s.heap [] := va_S.rf
  have hF : ∀ q ∈ ([] : List Loc), (fun _ : Addr => False) q.base := fun q h => absurd h List.not_mem_nil
  have hl := lv_entry ([.ref (adK j)]) (n := j_lat.2.2.1) (Nat.le_of_ble_eq_true rfl)
  rw [lg_entry_eq]
  generalize (lg_sl ([.ref (adK j)]) ++ List.replicate (j_lat.2.2.1 - (lg_sl ([.ref (adK j)])).length) Slot.unset).toArray = ls at hl ⊢
  have hl : lv_has ls 1 [(0, .ref (adK j))] := hl
  refine va_gets hx hb h2 hS hown (hts _ jw_w_cs) (fun _ z => z) dJ0_isLatin1_aae02_0 ?_
  refine lv_if_eq (tgt := 17) hx hb dJ0_isLatin1_aae02_3 (by decide) (fun z => absurd z (by decide)) (fun _ => ?_)
  refine lv_aload_n hx hb dJ0_isLatin1_aae02_6 rfl (lv_at hl 0 rfl) ?_
  refine vk_getf hx hb (h1.1 j hj).2.1 hS hown (hts _ jw_w_cod) (fun _ z => z) dJ0_isLatin1_aae02_7 ?_
  refine lv_if_ne (tgt := 17) hx hb dJ0_isLatin1_aae02_10 (by decide) (fun z => absurd rfl z) (fun _ => ?_)
  refine lv_iconst (v := 1) hx hb dJ0_isLatin1_aae02_13 (by decide) ?_
  refine lv_goto (tgt := 18) hx hb dJ0_isLatin1_aae02_14 (by decide) ?_
  exact W.zret (v := 1) (ty := .boolean) hx hb hr rfl (fun t ht hW => ⟨rfl, ht⟩) hF dJ0_isLatin1_aae02_18 hlocks
theorem str_len {j : Nat} (hj : j < 5) : (strB.map List.length).getD j 0 = (strB.getD j []).length := by
  rcases (show j = 0 ∨ j = 1 ∨ j = 2 ∨ j = 3 ∨ j = 4 by omega) with rfl | rfl | rfl | rfl | rfl <;> rfl
theorem gd_V {q : icM} {own C : String} {idx : Nat} (hM : MX q) (h1 : Cond.methodLink own idx q.1 ∈ TTg) (h2 : Cond.instanceMethod q.1 ∈ TTg) (h3 : Cond.selects C q.1 q.1 ∈ TTg) (h4 : Cond.initialized C ∈ TTg) : GoodIn TTg (wsV own idx C q.1 (wMt q)) := by
  intro w hw
  rcases List.mem_append.mp hw with hw | hw
  · simp only [List.mem_cons, List.not_mem_nil, or_false] at hw
    rcases hw with rfl | rfl | rfl | rfl
    · exact gdT h1
    · exact gdT h2
    · exact gdT h3
    · exact gdT h4
  · exact gdT (wMt_in hM w hw)
theorem gd_S {q : icM} {own : String} {idx : Nat} (hM : MX q) (h1 : Cond.methodLink own idx q.1 ∈ TTg) (h2 : Cond.static q.1 ∈ TTg) : GoodIn TTg (va_wsS own idx q.1 (wMt q)) := by
  intro w hw
  rcases List.mem_append.mp hw with hw | hw
  · simp only [List.mem_cons, List.not_mem_nil, or_false] at hw
    rcases hw with rfl | rfl | rfl
    · exact gdT h1
    · exact gdT h2
    · exact gdT hM.2.1
  · exact gdT (wMt_in hM w hw)
set_option maxHeartbeats 4000000 in
theorem jc_len (l : Launch) (adK adV : Nat → Nat) (j : Nat) (hj : j < 5) : Met l j_len.1 (wMt j_len) (rmt j_len 0 0) (sPc [.ref (adK j)] adK adV) (QcRead (Int32.ofNat (strB.getD j []).length)) 0 0 (fun _ => False) := by
  refine va_MetF (cc := j_len.2.1) (maxL := j_len.2.2.1) (ret := j_len.2.2.2.1) mx_j_len.2.2.2.2.2 rfl ?_
  intro p e s m args below meth c s₁ B hml hv
  obtain ⟨rfl, hX⟩ := hv
  obtain ⟨h1, h2, h3⟩ := id hX
  have hx := B.exec
  have hb := B.bytes
  have hr := B.returns
  have hts : ∀ w ∈ TTg, w.before [.ref (adK j)].toArray s = true := fun w hw => atoms_spec (ws := wMt j_len) B.pre w (List.mem_cons_of_mem _ hw)
  have hown : s.vm.findClass j_len.1.cls = some m.cls := findClass_of_methodNamed B.named
  have hlocks := B.notSynchronized
  have hS : va_S (fun _ => False) s.heap s.heap [] := va_S.rf
  have hF : ∀ q ∈ ([] : List Loc), (fun _ : Addr => False) q.base := fun q h => absurd h List.not_mem_nil
  have hl := lv_entry ([.ref (adK j)]) (n := j_len.2.2.1) (Nat.le_of_ble_eq_true rfl)
  rw [lg_entry_eq]
  generalize (lg_sl ([.ref (adK j)]) ++ List.replicate (j_len.2.2.1 - (lg_sl ([.ref (adK j)])).length) Slot.unset).toArray = ls at hl ⊢
  have hl : lv_has ls 1 [(0, .ref (adK j))] := hl
  refine lv_aload_n hx hb dJ0_length_8abf5_0 rfl (lv_at hl 0 rfl) ?_
  refine vk_getf hx hb (h1.1 j hj).2.2.1 hS hown (hts _ jw_w_val) (fun _ z => z) dJ0_length_8abf5_1 ?_
  refine va_tlen hx hb (h1.1 j hj).2.2.2 hS (v := Int32.ofNat (strB.getD j []).length) (by rw [str_len hj]) dJ0_length_8abf5_4 ?_
  refine lv_aload_n hx hb dJ0_length_8abf5_5 rfl (lv_at hl 0 rfl) ?_
  refine W.callR (W.runV (C := "java/lang/String") (As := []) (rest := [.int (Int32.ofNat (strB.getD j []).length)]) (g := F0 m 6 ls [.ref (adK j), .int (Int32.ofNat (strB.getD j []).length)]) ⟨hx, hb, hml, hown, hts⟩ (jc_cod l adK adV j hj) (cwV 0 hts (gd_V mx_j_cod jw_l_cod jw_i_cod jw_s_cod jw_n_str) rfl rfl rfl ⟨rfl, by decide +kernel, by decide +kernel, by decide +kernel⟩ ⟨by decide, by decide⟩) ⟨sPc_blind, vk_recv h1 hj hS, fun U hU hW => ⟨rfl, sX_mv hX hU hW.alike⟩⟩ rfl rfl hl.1 rfl (lv_room (Nat.le_of_ble_eq_true rfl)) dJ0_length_8abf5_6 ⟨Nat.zero_le _, Nat.zero_le _⟩) ?_
  refine lv_ishr hx hb dJ0_length_8abf5_9 ?_
  rw [sb_shr0]
  exact W.iret hx hb hr (fun t ht hW => ⟨rfl, ht⟩) hF dJ0_length_8abf5_10 hlocks
set_option maxHeartbeats 4000000 in
theorem jc_pck (l : Launch) (adK adV : Nat → Nat) (i n : Int32) (v : Value) (hv0 : v.category = 1) (h0 : ¬ i < 0) (hn : i < n) : Met l j_pck.1 (wMt j_pck) (rmt j_pck 0 0) (sPc [.int i, .int n, v] adK adV) (QcRead i) 0 0 (fun _ => False) := by
  refine va_MetF (cc := j_pck.2.1) (maxL := j_pck.2.2.1) (ret := j_pck.2.2.2.1) mx_j_pck.2.2.2.2.2 rfl ?_
  intro p e s m args below meth c s₁ B hml hv
  obtain ⟨rfl, hX⟩ := hv
  obtain ⟨h1, h2, h3⟩ := id hX
  have hx := B.exec
  have hb := B.bytes
  have hr := B.returns
  have hts : ∀ w ∈ TTg, w.before [.int i, .int n, v].toArray s = true := fun w hw => atoms_spec (ws := wMt j_pck) B.pre w (List.mem_cons_of_mem _ hw)
  have hown : s.vm.findClass j_pck.1.cls = some m.cls := findClass_of_methodNamed B.named
  have hlocks := B.notSynchronized
  have hS : va_S (fun _ => False) s.heap s.heap [] := va_S.rf
  have hF : ∀ q ∈ ([] : List Loc), (fun _ : Addr => False) q.base := fun q h => absurd h List.not_mem_nil
  have hl := lv_entry ([.int i, .int n, v]) (n := j_pck.2.2.1) (by rw [lgsl_len]; show 1 + (1 + (v.category + 0)) ≤ 3; omega)
  rw [lg_entry_eq]
  generalize (lg_sl ([.int i, .int n, v]) ++ List.replicate (j_pck.2.2.1 - (lg_sl ([.int i, .int n, v])).length) Slot.unset).toArray = ls at hl ⊢
  have hl : lv_has ls 3 [(0, .int i), (1, .int n)] := lv_less hl (by intro q hq; simp only [List.mem_cons, List.not_mem_nil, or_false] at hq; rcases hq with rfl | rfl <;> simp [lv_args, Value.category])
  refine lv_iload_n hx hb dJ3_checkIndex_8e157_0 rfl (lv_at hl 0 rfl) ?_
  refine lv_if_lt (tgt := 9) hx hb dJ3_checkIndex_8e157_1 (by decide) (fun z => absurd z h0) (fun _ => ?_)
  refine lv_iload_n hx hb dJ3_checkIndex_8e157_4 rfl (lv_at hl 0 rfl) ?_
  refine lv_iload_n hx hb dJ3_checkIndex_8e157_5 rfl (lv_at hl 1 rfl) ?_
  refine lv_icmp_lt (tgt := 16) hx hb dJ3_checkIndex_8e157_6 (by decide) (fun _ => ?_) (fun z => absurd hn z)
  refine lv_iload_n hx hb dJ3_checkIndex_8e157_16 rfl (lv_at hl 0 rfl) ?_
  exact W.iret hx hb hr (fun t ht hW => ⟨rfl, ht⟩) hF dJ3_checkIndex_8e157_17 hlocks
set_option maxHeartbeats 4000000 in
theorem jc_chk (l : Launch) (adK adV : Nat → Nat) (i n : Int32) (h0 : ¬ i < 0) (hn : i < n) : Met l j_chk.1 (wMt j_chk) (rmt j_chk 0 0) (sPc [.int i, .int n] adK adV) (va_Sv (fun _ => True)) 0 0 (fun _ => False) := by
  refine va_MetF (cc := j_chk.2.1) (maxL := j_chk.2.2.1) (ret := j_chk.2.2.2.1) mx_j_chk.2.2.2.2.2 rfl ?_
  intro p e s m args below meth c s₁ B hml hv
  obtain ⟨rfl, hX⟩ := hv
  obtain ⟨h1, h2, h3⟩ := id hX
  have hx := B.exec
  have hb := B.bytes
  have hr := B.returns
  have hts : ∀ w ∈ TTg, w.before [.int i, .int n].toArray s = true := fun w hw => atoms_spec (ws := wMt j_chk) B.pre w (List.mem_cons_of_mem _ hw)
  have hown : s.vm.findClass j_chk.1.cls = some m.cls := findClass_of_methodNamed B.named
  have hlocks := B.notSynchronized
  have hS : va_S (fun _ => False) s.heap s.heap [] := va_S.rf
  have hF : ∀ q ∈ ([] : List Loc), (fun _ : Addr => False) q.base := fun q h => absurd h List.not_mem_nil
  have hl := lv_entry ([.int i, .int n]) (n := j_chk.2.2.1) (Nat.le_of_ble_eq_true rfl)
  rw [lg_entry_eq]
  generalize (lg_sl ([.int i, .int n]) ++ List.replicate (j_chk.2.2.1 - (lg_sl ([.int i, .int n])).length) Slot.unset).toArray = ls at hl ⊢
  have hl : lv_has ls 2 [(0, .int i), (1, .int n)] := hl
  refine lv_iload_n hx hb dJ0_checkIndex_df160_0 rfl (lv_at hl 0 rfl) ?_
  refine lv_iload_n hx hb dJ0_checkIndex_df160_1 rfl (lv_at hl 1 rfl) ?_
  have key : ∀ v : Value, v.category = 1 → W p l e (headSpec (wMt j_chk) (rmt j_chk 0 0)).room s m ([.int i, .int n] : List Value).toArray below meth c s.heap [] 0 0 (MQ below (va_Sv (fun _ => True)) ([.int i, .int n] : List Value).toArray s 0 0 (fun _ => False)) (F0 m 5 ls [v, .int n, .int i]) := by
    intro v hv
    refine W.callR (W.runS (As := [.int i, .int n, v]) (rest := []) (g := F0 m 5 ls [v, .int n, .int i]) ⟨hx, hb, hml, hown, hts⟩ (jc_pck l adK adV i n v hv h0 hn) (va_cwS 3 hts (gd_S mx_j_pck jw_l_pck jw_t_pck) rfl rfl rfl ⟨by decide +kernel, by decide +kernel, by decide +kernel⟩ ⟨by decide, by decide⟩) ⟨sPc_blind, fun U hU hW => ⟨rfl, sX_mv hX hU hW.alike⟩⟩ rfl rfl hl.1 rfl (lv_room (Nat.le_of_ble_eq_true rfl)) dJ0_checkIndex_df160_5 ⟨Nat.zero_le _, Nat.zero_le _⟩) ?_
    refine lv_pop hx hb dJ0_checkIndex_df160_8 rfl ?_
    exact W.vret hx hb hr (fun t ht hW => ⟨rfl, trivial, ht⟩) hF dJ0_checkIndex_df160_9 hlocks
  rcases h3 with h3 | ⟨t3, h3⟩
  · exact va_gets hx hb h3 hS hown (hts _ jw_w_sio) (fun _ z => z) dJ0_checkIndex_df160_2 (key .null rfl)
  · exact va_gets hx hb h3 hS hown (hts _ jw_w_sio) (fun _ z => z) dJ0_checkIndex_df160_2 (key (.ref t3) rfl)
theorem str_chr : ∀ j, j < 5 → ∀ k, k < (strB.getD j []).length → (((strB.getD j []).getD k 0 &&& 255).toUInt32 % 65536).toInt32 = (strB.getD j []).getD k 0 ∧ narrow .char (.int ((strB.getD j []).getD k 0)) = .int ((strB.getD j []).getD k 0) := by decide +kernel
set_option maxHeartbeats 4000000 in
theorem jc_l1c (l : Launch) (adK adV : Nat → Nat) (j : Nat) (hj : j < 5) (i : Int32) (h0 : 0 ≤ i.toInt) (hn : i.toInt < ((strB.getD j []).length : Int)) : Met l j_l1c.1 (wMt j_l1c) (rmt j_l1c 0 0) (sPc [.ref (adV j), .int i] adK adV) (QcRead ((strB.getD j []).getD i.toInt.toNat 0)) 0 0 (fun _ => False) := by
  refine va_MetF (cc := j_l1c.2.1) (maxL := j_l1c.2.2.1) (ret := j_l1c.2.2.2.1) mx_j_l1c.2.2.2.2.2 rfl ?_
  intro p e s m args below meth c s₁ B hml hv
  obtain ⟨rfl, hX⟩ := hv
  obtain ⟨h1, h2, h3⟩ := id hX
  have hx := B.exec
  have hb := B.bytes
  have hr := B.returns
  have hts : ∀ w ∈ TTg, w.before [.ref (adV j), .int i].toArray s = true := fun w hw => atoms_spec (ws := wMt j_l1c) B.pre w (List.mem_cons_of_mem _ hw)
  have hown : s.vm.findClass j_l1c.1.cls = some m.cls := findClass_of_methodNamed B.named
  have hlocks := B.notSynchronized
  have hS : va_S (fun _ => False) s.heap s.heap [] := va_S.rf
  have hF : ∀ q ∈ ([] : List Loc), (fun _ : Addr => False) q.base := fun q h => absurd h List.not_mem_nil
  have hl := lv_entry ([.ref (adV j), .int i]) (n := j_l1c.2.2.1) (Nat.le_of_ble_eq_true rfl)
  rw [lg_entry_eq]
  generalize (lg_sl ([.ref (adV j), .int i]) ++ List.replicate (j_l1c.2.2.1 - (lg_sl ([.ref (adV j), .int i])).length) Slot.unset).toArray = ls at hl ⊢
  have hl : lv_has ls 2 [(0, .ref (adV j)), (1, .int i)] := hl
  have hlen : (strB.getD j []).length ≤ 5 := by
    rcases (show j = 0 ∨ j = 1 ∨ j = 2 ∨ j = 3 ∨ j = 4 by omega) with rfl | rfl | rfl | rfl | rfl <;> decide
  have hi0 : ¬ i < 0 := by rw [Int32.lt_iff_toInt_lt]; simp; omega
  have hin : i < Int32.ofNat (strB.getD j []).length := by
    rw [Int32.lt_iff_toInt_lt, show (Int32.ofNat (strB.getD j []).length).toInt = ((strB.getD j []).length : Int) from nI_toInt (by omega)]
    exact hn
  refine lv_iload_n hx hb dJ1_charAt_3b067_0 rfl (lv_at hl 1 rfl) ?_
  refine lv_aload_n hx hb dJ1_charAt_3b067_1 rfl (lv_at hl 0 rfl) ?_
  refine va_tlen hx hb (h1.1 j hj).2.2.2 hS (v := Int32.ofNat (strB.getD j []).length) (by rw [str_len hj]) dJ1_charAt_3b067_2 ?_
  refine va_csv (W.runS (As := [.int i, .int (Int32.ofNat (strB.getD j []).length)]) (rest := []) (g := F0 m 3 ls [.int (Int32.ofNat (strB.getD j []).length), .int i]) ⟨hx, hb, hml, hown, hts⟩ (jc_chk l adK adV i _ hi0 hin) (va_cwS 2 hts (gd_S mx_j_chk jw_l_chk jw_t_chk) rfl rfl rfl ⟨by decide +kernel, by decide +kernel, by decide +kernel⟩ ⟨by decide, by decide⟩) ⟨sPc_blind, fun U hU hW => ⟨rfl, sX_mv hX hU hW.alike⟩⟩ rfl rfl hl.1 rfl (lv_room (Nat.le_of_ble_eq_true rfl)) dJ1_charAt_3b067_3 ⟨Nat.zero_le _, Nat.zero_le _⟩) (fun _ => ?_)
  refine lv_aload_n hx hb dJ1_charAt_3b067_6 rfl (lv_at hl 0 rfl) ?_
  refine lv_iload_n hx hb dJ1_charAt_3b067_7 rfl (lv_at hl 1 rfl) ?_
  refine va_tb hx hb (h1.1 j hj).2.2.2 hS (vp_in_iff.mpr ⟨h0, by rw [str_len hj]; exact hn⟩) rfl dJ1_charAt_3b067_8 ?_
  refine lv_sipush (v := 255) hx hb dJ1_charAt_3b067_9 (by decide) ?_
  refine lv_iand hx hb dJ1_charAt_3b067_12 ?_
  obtain ⟨k1, k2⟩ := str_chr j hj i.toInt.toNat (by omega)
  refine lv_i2c hx hb dJ1_charAt_3b067_13 k1 ?_
  exact W.zret (ty := .char) hx hb hr k2 (fun t ht hW => ⟨rfl, ht⟩) hF dJ1_charAt_3b067_14 hlocks
set_option maxHeartbeats 4000000 in
theorem jc_chr (l : Launch) (adK adV : Nat → Nat) (j : Nat) (hj : j < 5) (i : Int32) (h0 : 0 ≤ i.toInt) (hn : i.toInt < ((strB.getD j []).length : Int)) : Met l j_chr.1 (wMt j_chr) (rmt j_chr 0 0) (sPc [.ref (adK j), .int i] adK adV) (QcRead ((strB.getD j []).getD i.toInt.toNat 0)) 0 0 (fun _ => False) := by
  refine va_MetF (cc := j_chr.2.1) (maxL := j_chr.2.2.1) (ret := j_chr.2.2.2.1) mx_j_chr.2.2.2.2.2 rfl ?_
  intro p e s m args below meth c s₁ B hml hv
  obtain ⟨rfl, hX⟩ := hv
  obtain ⟨h1, h2, h3⟩ := id hX
  have hx := B.exec
  have hb := B.bytes
  have hr := B.returns
  have hts : ∀ w ∈ TTg, w.before [.ref (adK j), .int i].toArray s = true := fun w hw => atoms_spec (ws := wMt j_chr) B.pre w (List.mem_cons_of_mem _ hw)
  have hown : s.vm.findClass j_chr.1.cls = some m.cls := findClass_of_methodNamed B.named
  have hlocks := B.notSynchronized
  have hS : va_S (fun _ => False) s.heap s.heap [] := va_S.rf
  have hF : ∀ q ∈ ([] : List Loc), (fun _ : Addr => False) q.base := fun q h => absurd h List.not_mem_nil
  have hl := lv_entry ([.ref (adK j), .int i]) (n := j_chr.2.2.1) (Nat.le_of_ble_eq_true rfl)
  rw [lg_entry_eq]
  generalize (lg_sl ([.ref (adK j), .int i]) ++ List.replicate (j_chr.2.2.1 - (lg_sl ([.ref (adK j), .int i])).length) Slot.unset).toArray = ls at hl ⊢
  have hl : lv_has ls 2 [(0, .ref (adK j)), (1, .int i)] := hl
  refine lv_aload_n hx hb dJ0_charAt_5068e_0 rfl (lv_at hl 0 rfl) ?_
  refine W.callR (W.runV (C := "java/lang/String") (As := []) (rest := []) (g := F0 m 1 ls [.ref (adK j)]) ⟨hx, hb, hml, hown, hts⟩ (jc_lat l adK adV j hj) (cwV 0 hts (gd_V mx_j_lat jw_l_lat jw_i_lat jw_s_lat jw_n_str) rfl rfl rfl ⟨rfl, by decide +kernel, by decide +kernel, by decide +kernel⟩ ⟨by decide, by decide⟩) ⟨sPc_blind, vk_recv h1 hj hS, fun U hU hW => ⟨rfl, sX_mv hX hU hW.alike⟩⟩ rfl rfl hl.1 rfl (lv_room (Nat.le_of_ble_eq_true rfl)) dJ0_charAt_5068e_1 ⟨Nat.zero_le _, Nat.zero_le _⟩) ?_
  refine W.eq (g2 := F0 m 4 ls [.int 1]) rfl ?_
  refine lv_if_eq (tgt := 16) hx hb dJ0_charAt_5068e_4 (by decide) (fun z => absurd z (by decide)) (fun _ => ?_)
  refine lv_aload_n hx hb dJ0_charAt_5068e_7 rfl (lv_at hl 0 rfl) ?_
  refine vk_getf hx hb (h1.1 j hj).2.2.1 hS hown (hts _ jw_w_val) (fun _ z => z) dJ0_charAt_5068e_8 ?_
  refine lv_iload_n hx hb dJ0_charAt_5068e_11 rfl (lv_at hl 1 rfl) ?_
  refine W.callR (W.runS (As := [.ref (adV j), .int i]) (rest := []) (g := F0 m 12 ls [.int i, .ref (adV j)]) ⟨hx, hb, hml, hown, hts⟩ (jc_l1c l adK adV j hj i h0 hn) (va_cwS 2 hts (gd_S mx_j_l1c jw_l_l1c jw_t_l1c) rfl rfl rfl ⟨by decide +kernel, by decide +kernel, by decide +kernel⟩ ⟨by decide, by decide⟩) ⟨sPc_blind, fun U hU hW => ⟨rfl, sX_mv hX hU hW.alike⟩⟩ rfl rfl hl.1 rfl (lv_room (Nat.le_of_ble_eq_true rfl)) dJ0_charAt_5068e_12 ⟨Nat.zero_le _, Nat.zero_le _⟩) ?_
  obtain ⟨k1, k2⟩ := str_chr j hj i.toInt.toNat (by omega)
  exact W.zret (ty := .char) hx hb hr k2 (fun t ht hW => ⟨rfl, ht⟩) hF dJ0_charAt_5068e_15 hlocks
theorem sX_of {ad adV : Nat → Nat} {A : Nat → Prop} {Ls : Nat} {xs : Nat → Int32} {s U : State} {H : Heap} {locs : List Loc} (hX : XT ad adV A Ls xs s) (hS : va_S A s.heap H locs) (hU : U.heap = H) (hW : s.WarmedH U.vm) : sX (fun j => ad (icLim + j)) adV U := by
  have := XT_at (A' := fun _ => False) hX hS (fun z h => h.elim) hU hW
  exact this.2.2.2.2
theorem strA (l : Launch) : StrA l := by
  intro p e R s m args below meth c D cid ad adV A Ls xs cells slots Q q pc pc' L S L' S' h h' idx hC hX hL hcs hsl hd hW
  obtain ⟨hx, hb, hml, hown, hts, hlocks, hnm, hK, hA⟩ := hC
  refine ⟨fun hlk hR1 hR2 he => ?_, fun hlk hR1 hR2 he => ?_⟩
  · intro H locs ls V
    obtain ⟨v1, v2, v3, v4, v5, v6, v7⟩ := V
    unfold e_slen at he
    split at he
    next a S0 =>
      split at he
      next hc =>
        obtain ⟨c1, c2, c3⟩ := hc
        obtain ⟨j, rfl⟩ : ∃ j : Nat, a = icLim + j := ⟨a - icLim, (Nat.add_sub_cancel' c1).symm⟩
        have hj : j < 5 := Nat.lt_of_add_lt_add_left c2
        rw [Nat.add_sub_cancel_left] at he
        obtain ⟨rfl, rfl, rfl, rfl⟩ := ugo_inj he
        refine W.callR (W.runV (C := "java/lang/String") (As := []) (rest := S0.map (ca ad)) (b := ad (icLim + j)) (g := F0 m pc ls (.ref (ad (icLim + j)) :: S0.map (ca ad))) ⟨hx, hb, hml, hown, hts⟩ (jc_len l (fun j => ad (icLim + j)) adV j hj) (cwV 0 hts (gd_V mx_j_len hlk jw_i_len jw_s_len jw_n_str) rfl rfl rfl ⟨rfl, by decide +kernel, by decide +kernel, by decide +kernel⟩ ⟨hR1, by show 8 + (1 + 11) + 36 * 1 ≤ R.locals; omega⟩) ⟨sPc_blind, vk_recv (i := j) hX.2.2.2.2.1 hj v6, fun U hU hW => ⟨rfl, sX_of hX v6 hU hW⟩⟩ rfl rfl (by rw [← hL]; exact v7.1) rfl (lv_room (by rw [csum_ca]; exact c3)) hd ⟨hcs, hsl⟩) ?_
        exact hW H locs ls ⟨v1, v2, okS_c trivial (okS_t v3), v4, v5, v6, v7⟩
      next => cases he
    next => cases he
  · intro H locs ls V
    obtain ⟨v1, v2, v3, v4, v5, v6, v7⟩ := V
    unfold e_schr at he
    split at he
    next i a S0 =>
      split at he
      next hc =>
        obtain ⟨c1, c2, c3, c4, c5⟩ := hc
        obtain ⟨j, rfl⟩ : ∃ j : Nat, a = icLim + j := ⟨a - icLim, (Nat.add_sub_cancel' c1).symm⟩
        have hj : j < 5 := Nat.lt_of_add_lt_add_left c2
        rw [Nat.add_sub_cancel_left] at he c4
        obtain ⟨rfl, rfl, rfl, rfl⟩ := ugo_inj he
        refine W.callR (W.runV (C := "java/lang/String") (As := [.int i]) (rest := S0.map (ca ad)) (b := ad (icLim + j)) (g := F0 m pc ls (.int i :: .ref (ad (icLim + j)) :: S0.map (ca ad))) ⟨hx, hb, hml, hown, hts⟩ (jc_chr l (fun j => ad (icLim + j)) adV j hj i c3 c4) (cwV 1 hts (gd_V mx_j_chr hlk jw_i_chr jw_s_chr jw_n_str) rfl rfl rfl ⟨rfl, by decide +kernel, by decide +kernel, by decide +kernel⟩ ⟨hR1, by show 8 + (2 + 11) + 36 * 3 ≤ R.locals; omega⟩) ⟨sPc_blind, vk_recv (i := j) hX.2.2.2.2.1 hj v6, fun U hU hW => ⟨rfl, sX_of hX v6 hU hW⟩⟩ rfl rfl (by rw [← hL]; exact v7.1) rfl (lv_room (by rw [csum_ca]; exact c5)) hd ⟨hcs, hsl⟩) ?_
        exact hW H locs ls ⟨v1, v2, okS_c trivial (okS_t (okS_t v3)), v4, v5, v6, v7⟩
      next => cases he
    next => cases he
