/-! ===== contracts out of runs; calls ===== -/
def nstW : List Cond := [.fieldLinkNest "IcicleEaves" 129 "IcicleEaves$Text" "size" "I" "IcicleEaves", .fieldLinkNest "IcicleEaves" 136 "IcicleEaves$Text" "start" "I" "IcicleEaves", .methodLinkNest "IcicleEaves" 9 yX3_init "IcicleEaves", .methodLinkNest "IcicleEaves" 26 yX7_init "IcicleEaves", .methodLinkNest "IcicleEaves$Text" 106 yX8_within "IcicleEaves", .declares ⟨"IcicleEaves$Guess", "rowsOf", "(LIcicleEaves$House;)LIcicleEaves$Rows;"⟩, .declares ⟨"IcicleEaves$Guess", "byRow", "(LIcicleEaves$House;II)I"⟩, .declares ⟨"IcicleEaves$Guess", "byLook", "(LIcicleEaves$House;IIII)I"⟩]
def strK : Nat → Nat × String := fun k => match k with
  | 0 => (42, "house")
  | 1 => (52, "warm")
  | 2 => (57, "roof")
  | 3 => (67, "ice")
  | _ => (75, "hours")
/-- the five words, and String's own static -/
def XS (ad adV : Nat → Nat) (A : Nat → Prop) (U : State) : Prop := (∀ j, j < 5 → vk_R "IcicleEaves$Text" (strK j).1 (strK j).2 (ad (icLim + j)) U) ∧ vk_S 5 (strB.map List.length) strB (fun j => ad (icLim + j)) adV A U U.heap ∧ va_Z "java/lang/String" "COMPACT_STRINGS" "Z" (.int 1) A U U.heap ∧ va_Zq "jdk/internal/util/Preconditions" "SIOOBE_FORMATTER" "Ljava/util/function/BiFunction;" A U U.heap
def XT (ad adV : Nat → Nat) (A : Nat → Prop) (Ls : Nat) (xs : Nat → Int32) (U : State) : Prop := (∀ w ∈ nstW, va_Nw w U) ∧ va_AO "IcicleEaves$House" U ∧ XX ad A Ls xs U ∧ XS ad adV A U
theorem nst_tab : ∀ w ∈ nstW, w.onTables = true := by decide
theorem nst_warm {s U : State} (hW : s.WarmedH U.vm) (h : ∀ w ∈ nstW, va_Nw w s) : ∀ w ∈ nstW, va_Nw w U := by
  intro w hw
  have h1 := h w hw
  simp only [nstW, List.mem_cons, List.not_mem_nil, or_false] at hw
  rcases hw with rfl | rfl | rfl | rfl | rfl | rfl | rfl | rfl
  · exact va_Nw.warmF hW h1
  · exact va_Nw.warmF hW h1
  · exact va_Nw.warmM hW h1
  · exact va_Nw.warmM hW h1
  · exact va_Nw.warmM hW h1
  · exact va_Nw.warmD hW h1
  · exact va_Nw.warmD hW h1
  · exact va_Nw.warmD hW h1
/-- what stands beside the world goes along, where the world's part is smaller -/
theorem XT_at {ad adV : Nat → Nat} {A A' : Nat → Prop} {Ls : Nat} {xs : Nat → Int32} {s U : State} {H : Heap} {locs : List Loc} (h : XT ad adV A Ls xs s) (hS : va_S A s.heap H locs) (hsub : ∀ z, A' z → A z) (hU : U.heap = H) (hW : s.WarmedH U.vm) : XT ad adV A' Ls xs U := by
  obtain ⟨h1, h2, ⟨h3, h4, h5⟩, h6, h7, h8, h9⟩ := h
  subst hU
  refine ⟨nst_warm hW h1, va_AO.moved hW.alike h2, ⟨?_, ?_, fun z => h5 (hsub _ z)⟩, fun j hj => vk_R.warm hW (h6 j hj), ?_, ?_, ?_⟩
  · exact (va_X.kept (va_X.moved hW.alike h3) (hS.2.1 _ h4 h5))
  · exact Nat.lt_of_lt_of_le h4 hS.1
  · exact ((vk_S.moved hW.alike h7).kept (fun a ha hn => hS.2.1 a ha hn)).narrow hsub
  · exact ((va_Z.moved hW.alike h8).kept (fun a ha hn => hS.2.1 a ha hn)).narrow hsub
  · exact ((va_Zq.moved hW.alike h9).kept (fun a ha hn => hS.2.1 a ha hn)).narrow hsub
theorem XT_same {ad adV : Nat → Nat} {A : Nat → Prop} {Ls : Nat} {xs : Nat → Int32} {u U : State} (hv : U.vm = u.vm) (hh : U.heap = u.heap) (h : XT ad adV A Ls xs u) : XT ad adV A Ls xs U := by
  obtain ⟨h1, h2, ⟨h3, h4, h5⟩, h6, h7, h8, h9⟩ := h
  have hal : u.vm.Alike U.vm := by rw [hv]; exact Vm.Alike.refl _
  refine ⟨fun w hw => va_Nw.same (nst_tab w hw) hv.symm (h1 w hw), va_AO.moved hal h2, ⟨?_, by rw [hh]; exact h4, h5⟩, fun j hj => vk_R.same hv (h6 j hj), ?_, ?_, ?_⟩
  · rw [hh]; exact va_X.moved hal h3
  · rw [hh]; exact vk_S.moved hal h7
  · rw [hh]; exact va_Z.moved hal h8
  · rw [hh]; exact va_Zq.moved hal h9
theorem XT_ag {ad ad' adV : Nat → Nat} {A : Nat → Prop} {Ls : Nat} {xs : Nat → Int32} {U : State} {N : Nat} (hag : ∀ j, okr N j → ad' j = ad j) (h : XT ad adV A Ls xs U) : XT ad' adV A Ls xs U := by
  have e1 : ad' icSc = ad icSc := hag _ (Or.inr (by decide))
  have e2 : ∀ j, ad' (icLim + j) = ad (icLim + j) := fun j => hag _ (Or.inr (Nat.le_add_right _ _))
  obtain ⟨h1, h2, h3, h6, h7, h8⟩ := h
  refine ⟨h1, h2, ?_, fun j hj => by rw [e2]; exact h6 j hj, ?_, h8⟩
  · unfold XX; rw [e1]; exact h3
  · simp only [e2]; exact h7
def wMt (q : icM) : List Cond := .code q.1 q.2.1 q.2.2.1 q.2.2.2.1 :: TTg
def rmt (q : icM) (mc ms : Nat) : Room := { frames := q.2.2.2.2.1, cells := mc, slots := ms, locals := 36 * q.2.2.2.2.1 }
def icPc (D : va_G) (cid : Nat → ClassId) (ad adV : Nat → Nat) (h : icH) (Ls : Nat) (xs : Nat → Int32) (sz : Nat) (as : List Value) : Array Value → State → Prop := va_Pc (as.map (ca ad)) (fun U => U.heap.size = sz ∧ va_P D vwCl (wsO cid ad h) U.heap ∧ va_K D vwCl (tyl cid) U ∧ va_D (fun _ => True) (wsO cid ad h) ∧ XT ad adV (va_A (wsO cid ad h) sz) Ls xs U)
def okR (N : Nat) (r : Option Value) : Prop := ∀ v ∈ r.toList, okv N v
def icQ (D : va_G) (cid : Nat → ClassId) (ad : Nat → Nat) (N : Nat) (A : Nat → Prop) (r : Option Value) (hF : icH) (Ls : Nat) (xs : Nat → Int32) : Array Value → State → Outcome → State → Prop := fun _ st oc t => (∃ ad', (∀ j, okr N j → ad' j = ad j) ∧ oc = .returned (r.map (ca ad')) ∧ hwf Ls xs hF ∧ okR hF.1 r ∧ va_P D vwCl (wsO cid ad' hF) t.heap ∧ va_D A (wsO cid ad' hF)) ∧ va_F A st t
def icMet (l : Launch) (q : icM) (D : va_G) (cid : Nat → ClassId) (adV : Nat → Nat) (Ls : Nat) (xs : Nat → Int32) (as : List Value) (h : icH) (r : Option Value) (hF : icH) : Prop := ∀ ad sz, (∀ v ∈ as, okv h.1 v) → hwf Ls xs h → Met l q.1 (wMt q) (rmt q (hF.1 - h.1) (hF.2.1 - h.2.1)) (icPc D cid ad adV h Ls xs sz as) (icQ D cid ad h.1 (va_A (wsO cid ad h) sz) r hF Ls xs) (hF.1 - h.1) (hF.2.1 - h.2.1) (va_A (wsO cid ad h) sz)
theorem icPc_blind {D : va_G} {cid : Nat → ClassId} {ad adV : Nat → Nat} {h : icH} {Ls : Nat} {xs : Nat → Int32} {sz : Nat} {as : List Value} : FrameBlind (icPc D cid ad adV h Ls xs sz as) := by
  intro a U g mk hp
  obtain ⟨h1, h2, h3, h4, h5, h6⟩ := hp
  exact ⟨h1, h2, h3, va_K.moved (u := U) (U := U.calling g mk a) (Vm.Alike.refl U.vm) h4, h5, XT_same (u := U) (U := U.calling g mk a) rfl rfl h6⟩
theorem vaA_sub {D : va_G} {cl : List vw_C} {A : Nat → Prop} {ws : va_W} {s : State} {H : Heap} {locs : List Loc} (hD : va_D A ws) (hS : va_S A s.heap H locs) (hA : ∀ z, s.heap.size ≤ z → A z) : ∀ z, va_A ws H.size z → A z := by
  intro z hz
  rcases hz with ⟨k, x, hk⟩ | hz
  · exact hD.2 k (z, x) hk
  · exact hA z (Nat.le_trans hS.1 hz)
theorem gdT {w : Cond} (h : w ∈ TTg) : w ∈ TTg ∧ ((w.onTables && w.keeps) = true ∨ ∃ ty, w = .arrayClass ty) := ⟨h, good_of_word (List.mem_filter.mp h).2⟩
theorem tka_eq : ∀ (n : Nat) (acc S as S' : List Value), tka n acc S = some (as, S') → ∃ T : List Value, T.length = n ∧ S = T ++ S' ∧ as = T.reverse ++ acc
  | 0, acc, S, as, S', h => by
    simp only [tka, Option.some.injEq, Prod.mk.injEq] at h
    exact ⟨[], rfl, h.2, h.1.symm⟩
  | n + 1, acc, [], as, S', h => by simp [tka] at h
  | n + 1, acc, v :: S, as, S', h => by
    simp only [tka] at h
    obtain ⟨T, h1, h2, h3⟩ := tka_eq n (v :: acc) S as S' h
    exact ⟨v :: T, by simp [h1], by rw [h2]; rfl, by rw [h3]; simp⟩
theorem tka_0 {n : Nat} {S as S' : List Value} (h : tka n [] S = some (as, S')) : as.length = n ∧ S = as.reverse ++ S' := by
  obtain ⟨T, h1, h2, h3⟩ := tka_eq n [] S as S' h
  rw [List.append_nil] at h3
  subst h3
  exact ⟨by rw [List.length_reverse]; exact h1, by rw [List.reverse_reverse]; exact h2⟩
section Calls2
variable {p : Program} {l : Launch} {e : Env} {R : Room} {s : State} {m : MethodId} {args : Array Value} {below : List Frame} {meth : Method} {c : Code} {D : va_G} {cid : Nat → ClassId} {ad adV : Nat → Nat} {A : Nat → Prop} {Ls : Nat} {xs : Nat → Int32} {cells slots : Nat} {Q : State → Prop} {q qz : icM} {pc : Nat} {L S S' as : List Value} {h hF : icH} {H : Heap} {locs : List Loc} {ls : Array Slot} {r : Option Value}
theorem w_go {N mc ms : Nat} {A1 : Nat → Prop} {st0 rest : List Value} {a : Array Value} (hr : va_Run p l e R s m args below meth c H locs cells slots mc ms (F0 m pc ls st0) rest (icQ D cid ad N A1 r hF Ls xs a) A1) (hS : va_S A s.heap H locs) (hsub : ∀ z, A1 z → A z)
    (kk : ∀ (ad' : Nat → Nat) (H1 : Heap) (locs1 : List Loc), (∀ j, okr N j → ad' j = ad j) → hwf Ls xs hF → okR hF.1 r → va_P D vwCl (wsO cid ad' hF) H1 → va_D A (wsO cid ad' hF) → va_S A s.heap H1 locs1 → W p l e R s m args below meth c H1 locs1 (cells + mc) (slots + ms) Q (F0 m (pc + 3) ls ((r.map (ca ad')).toList ++ rest))) : W p l e R s m args below meth c H locs cells slots Q (F0 m pc ls st0) := by
  intro T hT X
  obtain ⟨v, st₀, t, T', L, h0, X', hL, e1, e2, ⟨⟨ad', g1, hv, g2, g3, g4, g5⟩, hz, hk⟩, st⟩ := hr T hT X
  cases hv
  rw [h0] at hz hk
  obtain ⟨t2, a1, b1⟩ := kk ad' T'.heap (locs ++ L) g1 g2 g3 (by rw [e1]; exact g4) (g5.weaken (fun _ _ _ z => hsub _ z))
    ⟨Nat.le_trans hS.1 (by rw [e1]; exact hz), fun x h1 h2 => by rw [e1, hk x (Nat.lt_of_lt_of_le h1 hS.1) (fun z => h2 (hsub x z))]; exact hS.2.1 x h1 h2, fun x hx => by
      rcases List.mem_append.mp hx with h | h
      · exact hS.2.2 x h
      · exact hsub _ (hL x h)⟩ T' rfl X'
  exact ⟨t2, st t2 a1, b1⟩
/-- what every call asks of the called method -/
def MX (q : icM) : Prop := Cond.code q.1 q.2.1 q.2.2.1 q.2.2.2.1 ∈ TTg ∧ Cond.initialized q.1.cls ∈ TTg ∧ (q.1.cls ≠ "java/lang/invoke/MethodHandle" ∧ q.1.cls ≠ "java/lang/invoke/VarHandle") ∧ (parseMethodDescriptor q.1.desc).map (fun d => d.parameters.length) = some q.2.2.2.2.2.1 ∧ q.2.2.1 ≤ 17 ∧ plainFor q.1 = true
theorem wMt_in (hM : MX qz) : ∀ w ∈ wMt qz, w ∈ TTg := by
  intro w hw
  rcases List.mem_cons.mp hw with rfl | hw
  · exact hM.1
  · exact hw
theorem pre_at (hX : XT ad adV A Ls xs s) (hK : va_K D vwCl (tyl cid) s) (hA : ∀ z, s.heap.size ≤ z → A z) (v4 : va_P D vwCl (wsO cid ad h) H) (v5 : va_D A (wsO cid ad h)) (v6 : va_S A s.heap H locs) (U : State) (hU : U.heap = H) (hW : s.WarmedH U.vm) : icPc D cid ad adV h Ls xs H.size as (as.map (ca ad)).toArray U :=
  ⟨rfl, by rw [hU], by rw [hU]; exact v4, va_K.moved hW.alike hK, v5.weaken (fun _ _ _ _ => trivial), XT_at hX v6 (vaA_sub (D := D) (cl := vwCl) v5 v6 hA) hU hW⟩
theorem after_call (v2 : ∀ v ∈ L, okv h.1 v) (v3 : ∀ v ∈ S', okv h.1 v) (v7 : lv_has ls L.length (lp (ca ad) 0 L)) (hle : h.1 ≤ hF.1)
    (hW : ∀ ad', (∀ j, okr h.1 j → ad' j = ad j) → WW p l e R s m args below meth c D cid ad' A Ls xs (cells + (hF.1 - h.1)) (slots + (hF.2.1 - h.2.1)) Q (pc + 3) L (r.toList ++ S') hF)
    (ad' : Nat → Nat) (H1 : Heap) (locs1 : List Loc) (g1 : ∀ j, okr h.1 j → ad' j = ad j) (g2 : hwf Ls xs hF) (g3 : okR hF.1 r) (g4 : va_P D vwCl (wsO cid ad' hF) H1) (g5 : va_D A (wsO cid ad' hF)) (g6 : va_S A s.heap H1 locs1) : W p l e R s m args below meth c H1 locs1 (cells + (hF.1 - h.1)) (slots + (hF.2.1 - h.2.1)) Q (F0 m (pc + 3) ls ((r.map (ca ad')).toList ++ S'.map (ca ad))) := by
  have hW' := hW ad' g1 H1 locs1 ls ⟨g2, okL_le hle v2, fun v hv => (List.mem_append.mp hv).elim (g3 v) (fun z => okv_le hle (v3 v z)), g4, g5, g6, by rw [lp_ag g1 _ _ v2]; exact v7⟩
  have e1 : (r.toList ++ S').map (ca ad') = (r.map (ca ad')).toList ++ S'.map (ca ad) := by
    rw [List.map_append, map_ca_ag g1 v3]
    cases r <;> rfl
  rw [e1] at hW'
  exact hW'
/-- a static method -/
theorem s_stat (C : CX p s m args meth c q D cid A) (hX : XT ad adV A Ls xs s) (hL : L.length = q.2.2.1) {idx : Nat} (hM : icMet l qz D cid adV Ls xs as h r hF) (hMX : MX qz) (hlk : (Cond.methodLink q.1.cls idx qz.1 ∈ TTg) ∨ ∃ host, va_Nw (.methodLinkNest q.1.cls idx qz.1 host) s) (hst : Cond.static qz.1 ∈ TTg) (hR1 : qz.2.2.2.2.1 + 1 ≤ R.frames) (hR2 : 36 * (qz.2.2.2.2.1 + 1) ≤ R.locals) (hc1 : cells + (hF.1 - h.1) ≤ R.cells) (hc2 : slots + (hF.2.1 - h.2.1) ≤ R.slots) (hle : h.1 ≤ hF.1) (hd : decode q.2.1 pc = .ok (.invokestatic idx, 3)) (ht : tka qz.2.2.2.2.2.1 [] S = some (as, S')) (hs8 : csum S' ≤ 8)
    (hW : ∀ ad', (∀ j, okr h.1 j → ad' j = ad j) → WW p l e R s m args below meth c D cid ad' A Ls xs (cells + (hF.1 - h.1)) (slots + (hF.2.1 - h.2.1)) Q (pc + 3) L (r.toList ++ S') hF) : WW p l e R s m args below meth c D cid ad A Ls xs cells slots Q pc L S h := by
  intro H locs ls V
  obtain ⟨hx, hb, hml, hown, hts, hlocks, hnm, hK, hA⟩ := C
  obtain ⟨v1, v2, v3, v4, v5, v6, v7⟩ := V
  obtain ⟨t1, t2⟩ := tka_0 ht
  have has : ∀ v ∈ as, okv h.1 v := fun v hv => v3 v (by rw [t2]; exact List.mem_append_left _ (List.mem_reverse.mpr hv))
  have hs' : ∀ v ∈ S', okv h.1 v := fun v hv => v3 v (by rw [t2]; exact List.mem_append_right _ hv)
  have hstk : S.map (ca ad) = (as.map (ca ad)).reverse ++ S'.map (ca ad) := by rw [t2, List.map_append, List.map_reverse]
  have hMt := hM ad H.size has v1
  obtain ⟨m1, m2, m3, m4, m5, m6⟩ := hMX
  have hroom : (rmt qz (hF.1 - h.1) (hF.2.1 - h.2.1)).frames + 1 ≤ R.frames ∧ 8 + (qz.2.2.1 + 11) + (rmt qz (hF.1 - h.1) (hF.2.1 - h.2.1)).locals ≤ R.locals := ⟨hR1, by show 8 + (qz.2.2.1 + 11) + 36 * qz.2.2.2.2.1 ≤ R.locals; omega⟩
  have hpre : PreS s H (icPc D cid ad adV h Ls xs H.size as) (as.map (ca ad)) := ⟨icPc_blind, pre_at hX hK hA v4 v5 v6⟩
  have hsub := vaA_sub (D := D) (cl := vwCl) v5 v6 hA
  have hin := wMt_in (qz := qz) ⟨m1, m2, m3, m4, m5, m6⟩
  have hlen : (as.map (ca ad)).length = qz.2.2.2.2.2.1 := by rw [List.length_map]; exact t1
  rw [hstk]
  rcases hlk with hlk | ⟨host, hlk⟩
  · refine w_go (va_runS (g := F0 m pc ls ((as.map (ca ad)).reverse ++ S'.map (ca ad))) ⟨hx, hb, hml, hown, hts⟩ hMt (va_cwS qz.2.2.2.2.2.1 hts (fun w hw => gdT ?_) rfl rfl rfl ⟨m3.1, m3.2, m4⟩ hroom) hpre rfl hlen (by rw [← hL]; exact v7.1) rfl (lv_room (by rw [csum_ca]; exact hs8)) hd ⟨hc1, hc2⟩) v6 hsub (after_call v2 hs' v7 hle hW)
    rcases List.mem_append.mp hw with hw | hw
    · simp only [List.mem_cons, List.not_mem_nil, or_false] at hw
      rcases hw with rfl | rfl | rfl
      · exact hlk
      · exact hst
      · exact m2
    · exact hin w hw
  · exact w_go (va_runSN (g := F0 m pc ls ((as.map (ca ad)).reverse ++ S'.map (ca ad))) ⟨hx, hb, hml, hown, hts⟩ hMt ⟨va_cnB qz.2.2.2.2.2.1 hts (fun w hw => gdT (hin w hw)) rfl rfl rfl hlk (hts _ m2) ⟨m3.1, m3.2, m4⟩ hroom, hts _ hst, trivial⟩ hpre rfl hlen (by rw [← hL]; exact v7.1) rfl (lv_room (by rw [csum_ca]; exact hs8)) hd ⟨hc1, hc2⟩) v6 hsub (after_call v2 hs' v7 hle hW)
/-- a constructor -/
theorem s_spec (C : CX p s m args meth c q D cid A) (hX : XT ad adV A Ls xs s) (hL : L.length = q.2.2.1) {idx b0 : Nat} {as0 : List Value} (has0 : as = .ref b0 :: as0) (hM : icMet l qz D cid adV Ls xs as h r hF) (hMX : MX qz) (hret : qz.2.2.2.1 = none) (hnm1 : qz.1.name = "<init>") (hlk : (Cond.methodLink q.1.cls idx qz.1 ∈ TTg) ∨ ∃ host, va_Nw (.methodLinkNest q.1.cls idx qz.1 host) s) (hst : Cond.instanceMethod qz.1 ∈ TTg) (hR1 : qz.2.2.2.2.1 + 1 ≤ R.frames) (hR2 : 36 * (qz.2.2.2.2.1 + 1) ≤ R.locals) (hc1 : cells + (hF.1 - h.1) ≤ R.cells) (hc2 : slots + (hF.2.1 - h.2.1) ≤ R.slots) (hle : h.1 ≤ hF.1) (hd : decode q.2.1 pc = .ok (.invokespecial idx, 3)) (ht : tka (qz.2.2.2.2.2.1 + 1) [] S = some (as, S')) (hs8 : csum S' ≤ 8)
    (hW : ∀ ad', (∀ j, okr h.1 j → ad' j = ad j) → WW p l e R s m args below meth c D cid ad' A Ls xs (cells + (hF.1 - h.1)) (slots + (hF.2.1 - h.2.1)) Q (pc + 3) L (r.toList ++ S') hF) : WW p l e R s m args below meth c D cid ad A Ls xs cells slots Q pc L S h := by
  intro H locs ls V
  obtain ⟨hx, hb, hml, hown, hts, hlocks, hnm, hK, hA⟩ := C
  obtain ⟨v1, v2, v3, v4, v5, v6, v7⟩ := V
  obtain ⟨t1, t2⟩ := tka_0 ht
  have has : ∀ v ∈ as, okv h.1 v := fun v hv => v3 v (by rw [t2]; exact List.mem_append_left _ (List.mem_reverse.mpr hv))
  have hs' : ∀ v ∈ S', okv h.1 v := fun v hv => v3 v (by rw [t2]; exact List.mem_append_right _ hv)
  have hstk : S.map (ca ad) = (as0.map (ca ad)).reverse ++ .ref (ad b0) :: S'.map (ca ad) := by
    rw [t2, has0, List.reverse_cons, List.append_assoc, List.map_append, List.map_reverse]
    rfl
  have hMt := hM ad H.size has v1
  obtain ⟨m1, m2, m3, m4, m5, m6⟩ := hMX
  have hroom : (rmt qz (hF.1 - h.1) (hF.2.1 - h.2.1)).frames + 1 ≤ R.frames ∧ 8 + (qz.2.2.1 + 11) + (rmt qz (hF.1 - h.1) (hF.2.1 - h.2.1)).locals ≤ R.locals := ⟨hR1, by show 8 + (qz.2.2.1 + 11) + 36 * qz.2.2.2.2.1 ≤ R.locals; omega⟩
  have hpre : PreS s H (icPc D cid ad adV h Ls xs H.size as) (.ref (ad b0) :: as0.map (ca ad)) := ⟨icPc_blind, by
    have := pre_at (as := as) hX hK hA v4 v5 v6
    rw [has0] at this ⊢
    exact this⟩
  have hsub := vaA_sub (D := D) (cl := vwCl) v5 v6 hA
  have hin := wMt_in (qz := qz) ⟨m1, m2, m3, m4, m5, m6⟩
  have hlen : (as0.map (ca ad)).length = qz.2.2.2.2.2.1 := by
    rw [List.length_map]
    rw [has0, List.length_cons] at t1
    omega
  rw [hstk]
  rcases hlk with hlk | ⟨host, hlk⟩
  · exact w_go (va_runI (g := F0 m pc ls ((as0.map (ca ad)).reverse ++ .ref (ad b0) :: S'.map (ca ad))) ⟨hx, hb, hml, hown, hts⟩ hMt (cwI qz.2.2.2.2.2.1 hts (fun w hw => gdT (hin w hw)) (by rw [wMt, hret]) rfl rfl (hts _ m2) (hts _ hlk) (hts _ hst) hnm1 ⟨m3.1, m3.2, m4⟩ hroom) hpre rfl hlen (by rw [← hL]; exact v7.1) rfl (lv_room (by rw [csum_ca]; exact hs8)) hd ⟨hc1, hc2⟩) v6 hsub (after_call v2 hs' v7 hle hW)
  · exact w_go (va_runIN (g := F0 m pc ls ((as0.map (ca ad)).reverse ++ .ref (ad b0) :: S'.map (ca ad))) ⟨hx, hb, hml, hown, hts⟩ hMt ⟨va_cnB qz.2.2.2.2.2.1 hts (fun w hw => gdT (hin w hw)) (by rw [wMt, hret]) rfl rfl hlk (hts _ m2) ⟨m3.1, m3.2, m4⟩ hroom, hnm1, hts _ hst⟩ hpre rfl hlen (by rw [← hL]; exact v7.1) rfl (lv_room (by rw [csum_ca]; exact hs8)) hd ⟨hc1, hc2⟩) v6 hsub (after_call v2 hs' v7 hle hW)
/-- how a call on an object of class C finds its method -/
def VX (s : State) (own : String) (idx : Nat) (C : String) (qz : icM) : Prop :=
  (qz.1.cls = C ∧ Cond.methodLink own idx qz.1 ∈ TTg ∧ Cond.instanceMethod qz.1 ∈ TTg ∧ Cond.selects C qz.1 qz.1 ∈ TTg ∧ Cond.initialized C ∈ TTg) ∨
  (Cond.methodLink own idx qz.1 ∈ TTg ∧ Cond.sameMethod qz.1.cls qz.1.cls qz.1.name qz.1.desc ∈ TTg ∧ Cond.selects C qz.1 qz.1 ∈ TTg ∧ Cond.instanceMethod qz.1 ∈ TTg) ∨
  ∃ x : MethodName, Cond.methodLink own idx x ∈ TTg ∧ Cond.sameMethod x.cls x.cls x.name x.desc ∈ TTg ∧ Cond.selects C x qz.1 ∈ TTg ∧ Cond.instanceMethod qz.1 ∈ TTg ∧ va_Nw (.declares ⟨x.cls, x.name, x.desc⟩) s ∧ (x.cls ≠ "java/lang/invoke/MethodHandle" ∧ x.cls ≠ "java/lang/invoke/VarHandle") ∧ (parseMethodDescriptor x.desc).map (fun d => d.parameters.length) = some qz.2.2.2.2.2.1
/-- a method of an object -/
theorem s_virt (C : CX p s m args meth c q D cid A) (hX : XT ad adV A Ls xs s) (hL : L.length = q.2.2.1) {idx b0 ci : Nat} {as0 fs : List Value} {Cn : String} {T : u_T} {N : Nat} (has0 : as = .ref b0 :: as0) (hcell : hg h b0 = some (ob ci fs)) (hcl : vwCl[ci]? = some (Cn, T, N)) (hM : icMet l qz D cid adV Ls xs as h r hF) (hMX : MX qz) (hV : VX s q.1.cls idx Cn qz) (hR1 : qz.2.2.2.2.1 + 1 ≤ R.frames) (hR2 : 36 * (qz.2.2.2.2.1 + 1) ≤ R.locals) (hc1 : cells + (hF.1 - h.1) ≤ R.cells) (hc2 : slots + (hF.2.1 - h.2.1) ≤ R.slots) (hle : h.1 ≤ hF.1) (hd : decode q.2.1 pc = .ok (.invokevirtual idx, 3)) (ht : tka (qz.2.2.2.2.2.1 + 1) [] S = some (as, S')) (hs8 : csum S' ≤ 8)
    (hW : ∀ ad', (∀ j, okr h.1 j → ad' j = ad j) → WW p l e R s m args below meth c D cid ad' A Ls xs (cells + (hF.1 - h.1)) (slots + (hF.2.1 - h.2.1)) Q (pc + 3) L (r.toList ++ S') hF) : WW p l e R s m args below meth c D cid ad A Ls xs cells slots Q pc L S h := by
  intro H locs ls V
  obtain ⟨hx, hb, hml, hown, hts, hlocks, hnm, hK, hA⟩ := C
  obtain ⟨v1, v2, v3, v4, v5, v6, v7⟩ := V
  have hb0 : b0 < h.1 := hlt v1 hcell (fun _ _ z => by cases z)
  obtain ⟨t1, t2⟩ := tka_0 ht
  have has : ∀ v ∈ as, okv h.1 v := fun v hv => v3 v (by rw [t2]; exact List.mem_append_left _ (List.mem_reverse.mpr hv))
  have hs' : ∀ v ∈ S', okv h.1 v := fun v hv => v3 v (by rw [t2]; exact List.mem_append_right _ hv)
  have hstk : S.map (ca ad) = (as0.map (ca ad)).reverse ++ .ref (ad b0) :: S'.map (ca ad) := by
    rw [t2, has0, List.reverse_cons, List.append_assoc, List.map_append, List.map_reverse]
    rfl
  have hMt := hM ad H.size has v1
  obtain ⟨m1, m2, m3, m4, m5, m6⟩ := hMX
  have hroom : (rmt qz (hF.1 - h.1) (hF.2.1 - h.2.1)).frames + 1 ≤ R.frames ∧ 8 + (qz.2.2.1 + 11) + (rmt qz (hF.1 - h.1) (hF.2.1 - h.2.1)).locals ≤ R.locals := ⟨hR1, by show 8 + (qz.2.2.1 + 11) + 36 * qz.2.2.2.2.1 ≤ R.locals; omega⟩
  have hpre : PreV s H Cn (ad b0) (icPc D cid ad adV h Ls xs H.size as) (as0.map (ca ad)) := ⟨icPc_blind, va_recv hK v4 (ci := ci) (q0 := b0) hcl (wsO_get hb0 hcell), by
    have := pre_at (as := as) hX hK hA v4 v5 v6
    rw [has0] at this ⊢
    exact this⟩
  have hsub := vaA_sub (D := D) (cl := vwCl) v5 v6 hA
  have hin := wMt_in (qz := qz) ⟨m1, m2, m3, m4, m5, m6⟩
  have hlen : (as0.map (ca ad)).length = qz.2.2.2.2.2.1 := by
    rw [List.length_map]
    rw [has0, List.length_cons] at t1
    omega
  rw [hstk]
  rcases hV with ⟨k1, k2, k3, k4, k5⟩ | ⟨k2, k3, k4, k5⟩ | ⟨x, k2, k3, k4, k5, k6, k7, k8⟩
  · refine w_go (va_runV (C := Cn) (g := F0 m pc ls ((as0.map (ca ad)).reverse ++ .ref (ad b0) :: S'.map (ca ad))) ⟨hx, hb, hml, hown, hts⟩ hMt (cwV qz.2.2.2.2.2.1 hts (fun w hw => gdT ?_) rfl rfl rfl ⟨k1, m3.1, m3.2, m4⟩ hroom) hpre rfl hlen (by rw [← hL]; exact v7.1) rfl (lv_room (by rw [csum_ca]; exact hs8)) hd ⟨hc1, hc2⟩) v6 hsub (after_call v2 hs' v7 hle hW)
    rcases List.mem_append.mp hw with hw | hw
    · simp only [List.mem_cons, List.not_mem_nil, or_false] at hw
      rcases hw with rfl | rfl | rfl | rfl
      · exact k2
      · exact k3
      · exact k4
      · exact k5
    · exact hin w hw
  · refine w_go (va_runU (x := qz.1) (owner := qz.1.cls) (C := Cn) (g := F0 m pc ls ((as0.map (ca ad)).reverse ++ .ref (ad b0) :: S'.map (ca ad))) ⟨hx, hb, hml, hown, hts⟩ hMt (va_cwU qz.2.2.2.2.2.1 hts (fun w hw => gdT ?_) rfl rfl rfl rfl ⟨m3.1, m3.2, m4⟩ hroom) hpre rfl hlen (by rw [← hL]; exact v7.1) rfl (lv_room (by rw [csum_ca]; exact hs8)) hd ⟨hc1, hc2⟩) v6 hsub (after_call v2 hs' v7 hle hW)
    rcases List.mem_append.mp hw with hw | hw
    · simp only [List.mem_cons, List.not_mem_nil, or_false] at hw
      rcases hw with rfl | rfl | rfl | rfl | rfl
      · exact k2
      · exact k3
      · exact k4
      · exact k5
      · exact m2
    · exact hin w hw
  · refine w_go (va_runU (x := x) (owner := x.cls) (C := Cn) (g := F0 m pc ls ((as0.map (ca ad)).reverse ++ .ref (ad b0) :: S'.map (ca ad))) ⟨hx, hb, hml, hown, hts⟩ hMt (va_cwA qz.2.2.2.2.2.1 hts (fun w hw => gdT ?_) rfl rfl rfl k6 ⟨k7.1, k7.2, k8⟩ hroom) hpre rfl hlen (by rw [← hL]; exact v7.1) rfl (lv_room (by rw [csum_ca]; exact hs8)) hd ⟨hc1, hc2⟩) v6 hsub (after_call v2 hs' v7 hle hW)
    rcases List.mem_append.mp hw with hw | hw
    · simp only [List.mem_cons, List.not_mem_nil, or_false] at hw
      rcases hw with rfl | rfl | rfl | rfl | rfl
      · exact k2
      · exact k3
      · exact k4
      · exact k5
      · exact m2
    · exact hin w hw
end Calls2
