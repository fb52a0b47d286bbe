/-! ===== cells that are made; calls ===== -/
theorem lp_ag {N : Nat} {ad ad' : Nat → Nat} (hag : ∀ j, okr N j → ad' j = ad j) : ∀ (L : List Value) (i : Nat), (∀ v ∈ L, okv N v) → lp (ca ad') i L = lp (ca ad) i L
  | [], _, _ => rfl
  | v :: L, i, h => by
    simp only [lp]
    rw [lp_ag hag L (i + 1) (okS_t h), ca_ag hag (okS_h h)]
theorem okL_le {N M : Nat} (hNM : N ≤ M) {L : List Value} (h : ∀ v ∈ L, okv N v) : ∀ v ∈ L, okv M v := fun v hv => okv_le hNM (h v hv)
theorem adN_at {ad : Nat → Nat} {N q : Nat} : adN ad N q N = q := by simp [adN]
/-- what the tables say of a class that is made -/
def NX (args : Array Value) (s : State) (own : String) (idx ci : Nat) : Prop := ∃ (C : String) (T : u_T) (N : Nat) (ty : Nat → FieldType), vwCl[ci]? = some (C, T, N) ∧ (∀ w ∈ u_ws C T N, w ∈ TTg) ∧ (∀ k, k < N → parseFieldDescriptor (T k).2.2.1 = some (ty k)) ∧ (Cond.classLink own idx C).before args s = true ∧ (Cond.instantiable C N).before args s = true ∧ (Cond.initialized C).before args s = true ∧ (∀ j, j < N → defaultValue (ty j) = vp_V (dfl ci) j) ∧ (dfl ci).length = N ∧ ∀ v ∈ dfl ci, ∀ a, v ≠ .ref a
theorem dfl_ca {ad : Nat → Nat} {l : List Value} (h : ∀ v ∈ l, ∀ a, v ≠ .ref a) : l.map (ca ad) = l := by
  have : l.map (ca ad) = l.map id := List.map_congr_left (fun v hv => by cases v <;> first | rfl | exact absurd rfl (h _ hv _))
  rw [this, List.map_id]
theorem dfl_ok {N : Nat} {l : List Value} (h : ∀ v ∈ l, ∀ a, v ≠ .ref a) : ∀ v ∈ l, okv N v := fun v hv => by cases v <;> first | trivial | exact absurd rfl (h _ hv _)
section Made
variable {p : Program} {l : Launch} {e : Env} {R : Room} {s : State} {m : MethodId} {args : Array Value} {below : List Frame} {meth : Method} {c : Code} {D : va_G} {cid : Nat → ClassId} {ad : Nat → Nat} {A : Nat → Prop} {Ls : Nat} {xs : Nat → Int32} {cells slots : Nat} {Q : State → Prop} {q : icM} {pc pc' : Nat} {L S L' S' : List Value} {h h' : icH}
theorem s_new (C : CX p s m args meth c q D cid A) {idx ci : Nat} (hF : NX args s q.1.cls idx ci) (hc1 : cells + 1 ≤ R.cells) (hc2 : slots + (dfl ci).length ≤ R.slots) (hd : decode q.2.1 pc = .ok (.new idx, 3)) (he : e_new ci (dfl ci) (pc + 3) L S h = some (.inl (pc', L', S', h'))) (hW : ∀ a', WW p l e R s m args below meth c D cid (adN ad h.1 a') A Ls xs (cells + 1) (slots + (dfl ci).length) Q pc' L' S' h') : WW p l e R s m args below meth c D cid ad A Ls xs cells slots Q pc L S h := by
  intro H locs ls V
  obtain ⟨hx, hb, hml, hown, hts, hlocks, hnm, hK, hA⟩ := C
  obtain ⟨v1, v2, v3, v4, v5, v6, v7⟩ := V
  unfold e_new at he
  split at he
  next hN =>
    obtain ⟨rfl, rfl, rfl, rfl⟩ := ugo_inj he
    obtain ⟨C, T, N, ty, f1, f2, f3, f4, f5, f6, f7, f8, f9⟩ := hF
    subst f8
    refine va_new (ci := ci) (fs := dfl ci) (C := C) (T := T) (N := (dfl ci).length) hx hb hts f2 ty f3 hown f4 f5 f6 hK v4 v5 v6 hA f1 f7 hc1 hc2 hd (fun a' H1 g1 g2 g3 => ?_)
    have e1 : ce cid (adN ad h.1 a') (ob ci (dfl ci)) = .inr (ci, dfl ci) := by simp only [ce, dfl_ca f9]
    have e2 : wsO cid (adN ad h.1 a') (hnew h (ob ci (dfl ci)) (dfl ci).length) = wsO cid ad h ++ [(a', .inr (ci, dfl ci))] := by rw [wsO_new v1 hN, e1]
    have e3 : (Value.ref h.1 :: S).map (ca (adN ad h.1 a')) = .ref a' :: S.map (ca ad) := by
      rw [List.map_cons, map_ca_ag (adN_ag hN) v3]
      show Value.ref (adN ad h.1 a' h.1) :: _ = _
      rw [adN_at]
    have hW' := hW a' H1 locs ls ⟨hwf_new v1 hN (dfl_ok f9), okL_le (Nat.le_succ _) v2, okS_c (Or.inl (Nat.lt_succ_self _)) (okL_le (Nat.le_succ _) v3), by rw [e2]; exact g1, by rw [e2]; exact g2, g3, by rw [lp_ag (adN_ag hN) _ _ v2]; exact v7⟩
    rw [e3] at hW'
    exact hW'
  next => cases he
theorem s_newa_int (C : CX p s m args meth c q D cid A) (hw : (Cond.arrayClass .int).before args s = true) (hcs : ∀ n : Int32, ∀ S0, S = .int n :: S0 → cells + 1 ≤ R.cells ∧ slots + n.toInt.toNat ≤ R.slots) (hd : decode q.2.1 pc = .ok (.newarray .int, 2)) (he : e_newa 0 (pc + 2) L S h = some (.inl (pc', L', S', h'))) (hW : ∀ n : Int32, ∀ S0, S = .int n :: S0 → ∀ a', WW p l e R s m args below meth c D cid (adN ad h.1 a') A Ls xs (cells + 1) (slots + n.toInt.toNat) Q pc' L' S' h') : WW p l e R s m args below meth c D cid ad A Ls xs cells slots Q pc L S h := by
  intro H locs ls V
  obtain ⟨hx, hb, hml, hown, hts, hlocks, hnm, hK, hA⟩ := C
  obtain ⟨v1, v2, v3, v4, v5, v6, v7⟩ := V
  unfold e_newa at he
  split at he
  next n S0 =>
    split at he
    next hN =>
      obtain ⟨hn0, hn1, hN, -⟩ := hN
      obtain ⟨rfl, rfl, rfl, rfl⟩ := ugo_inj he
      obtain ⟨hc1, hc2⟩ := hcs n S0 rfl
      have hW := hW n S0 rfl
      refine va_newa (atype := .int) hx hb hw (ty := .int) rfl hK v4 v5 v6 hA (N' := n.toInt.toNat) (a0 := (n.toInt.toNat, .inl (fun _ => 0))) (fun cA => rfl) (by rw [Int32.lt_iff_toInt_lt]; simp; omega) rfl (by show n.toInt.toNat * 4 ≤ _; omega) hc1 hc2 hd (fun a' cA H1 g0 g1 g2 g3 => ?_)
      have ec : cA = cid 0 := by
        have r1 : va_RA s cA .int := (g0.2 4 (cA, .int) rfl).2
        have r2 : va_RA s (cid 0) .int := (hK.2 0 (cid 0, .int) rfl).2
        exact Option.some.inj (Eq.trans (Eq.symm r1) r2)
      subst ec
      have e2 : wsO cid (adN ad h.1 a') (hnew h (.inl (0, n.toInt.toNat, fun _ => 0)) n.toInt.toNat) = wsO cid ad h ++ [(a', .inl (cid 0, n.toInt.toNat, .inl (fun _ => 0)))] := wsO_new v1 hN
      have e3 : (Value.ref h.1 :: S0).map (ca (adN ad h.1 a')) = .ref a' :: S0.map (ca ad) := by
        rw [List.map_cons, map_ca_ag (adN_ag hN) (okS_t v3)]
        show Value.ref (adN ad h.1 a' h.1) :: _ = _
        rw [adN_at]
      have hW' := hW a' H1 locs ls ⟨hwf_new v1 hN trivial, okL_le (Nat.le_succ _) v2, okS_c (Or.inl (Nat.lt_succ_self _)) (okL_le (Nat.le_succ _) (okS_t v3)), by rw [e2]; exact g1, by rw [e2]; exact g2, g3, by rw [lp_ag (adN_ag hN) _ _ v2]; exact v7⟩
      rw [e3] at hW'
      exact hW'
    next => cases he
  next => cases he
theorem s_newa_byte (C : CX p s m args meth c q D cid A) (hw : (Cond.arrayClass .byte).before args s = true) (hcs : ∀ n : Int32, ∀ S0, S = .int n :: S0 → cells + 1 ≤ R.cells ∧ slots + n.toInt.toNat ≤ R.slots) (hd : decode q.2.1 pc = .ok (.newarray .byte, 2)) (he : e_newa 1 (pc + 2) L S h = some (.inl (pc', L', S', h'))) (hW : ∀ n : Int32, ∀ S0, S = .int n :: S0 → ∀ a', WW p l e R s m args below meth c D cid (adN ad h.1 a') A Ls xs (cells + 1) (slots + n.toInt.toNat) Q pc' L' S' h') : WW p l e R s m args below meth c D cid ad A Ls xs cells slots Q pc L S h := by
  intro H locs ls V
  obtain ⟨hx, hb, hml, hown, hts, hlocks, hnm, hK, hA⟩ := C
  obtain ⟨v1, v2, v3, v4, v5, v6, v7⟩ := V
  unfold e_newa at he
  split at he
  next n S0 =>
    split at he
    next hN =>
      obtain ⟨hn0, hn1, hN, -⟩ := hN
      obtain ⟨rfl, rfl, rfl, rfl⟩ := ugo_inj he
      obtain ⟨hc1, hc2⟩ := hcs n S0 rfl
      have hW := hW n S0 rfl
      refine va_newa (atype := .byte) hx hb hw (ty := .byte) rfl hK v4 v5 v6 hA (N' := n.toInt.toNat) (a0 := (n.toInt.toNat, .inl (fun _ => 0))) (fun cA => rfl) (by rw [Int32.lt_iff_toInt_lt]; simp; omega) rfl (by show n.toInt.toNat * 1 ≤ _; omega) hc1 hc2 hd (fun a' cA H1 g0 g1 g2 g3 => ?_)
      have ec : cA = cid 1 := by
        have r1 : va_RA s cA .byte := (g0.2 4 (cA, .byte) rfl).2
        have r2 : va_RA s (cid 1) .byte := (hK.2 1 (cid 1, .byte) rfl).2
        exact Option.some.inj (Eq.trans (Eq.symm r1) r2)
      subst ec
      have e2 : wsO cid (adN ad h.1 a') (hnew h (.inl (1, n.toInt.toNat, fun _ => 0)) n.toInt.toNat) = wsO cid ad h ++ [(a', .inl (cid 1, n.toInt.toNat, .inl (fun _ => 0)))] := wsO_new v1 hN
      have e3 : (Value.ref h.1 :: S0).map (ca (adN ad h.1 a')) = .ref a' :: S0.map (ca ad) := by
        rw [List.map_cons, map_ca_ag (adN_ag hN) (okS_t v3)]
        show Value.ref (adN ad h.1 a' h.1) :: _ = _
        rw [adN_at]
      have hW' := hW a' H1 locs ls ⟨hwf_new v1 hN trivial, okL_le (Nat.le_succ _) v2, okS_c (Or.inl (Nat.lt_succ_self _)) (okL_le (Nat.le_succ _) (okS_t v3)), by rw [e2]; exact g1, by rw [e2]; exact g2, g3, by rw [lp_ag (adN_ag hN) _ _ v2]; exact v7⟩
      rw [e3] at hW'
      exact hW'
    next => cases he
  next => cases he
theorem s_newa_boolean (C : CX p s m args meth c q D cid A) (hw : (Cond.arrayClass .boolean).before args s = true) (hcs : ∀ n : Int32, ∀ S0, S = .int n :: S0 → cells + 1 ≤ R.cells ∧ slots + n.toInt.toNat ≤ R.slots) (hd : decode q.2.1 pc = .ok (.newarray .boolean, 2)) (he : e_newa 2 (pc + 2) L S h = some (.inl (pc', L', S', h'))) (hW : ∀ n : Int32, ∀ S0, S = .int n :: S0 → ∀ a', WW p l e R s m args below meth c D cid (adN ad h.1 a') A Ls xs (cells + 1) (slots + n.toInt.toNat) Q pc' L' S' h') : WW p l e R s m args below meth c D cid ad A Ls xs cells slots Q pc L S h := by
  intro H locs ls V
  obtain ⟨hx, hb, hml, hown, hts, hlocks, hnm, hK, hA⟩ := C
  obtain ⟨v1, v2, v3, v4, v5, v6, v7⟩ := V
  unfold e_newa at he
  split at he
  next n S0 =>
    split at he
    next hN =>
      obtain ⟨hn0, hn1, hN, -⟩ := hN
      obtain ⟨rfl, rfl, rfl, rfl⟩ := ugo_inj he
      obtain ⟨hc1, hc2⟩ := hcs n S0 rfl
      have hW := hW n S0 rfl
      refine va_newa (atype := .boolean) hx hb hw (ty := .boolean) rfl hK v4 v5 v6 hA (N' := n.toInt.toNat) (a0 := (n.toInt.toNat, .inl (fun _ => 0))) (fun cA => rfl) (by rw [Int32.lt_iff_toInt_lt]; simp; omega) rfl (by show n.toInt.toNat * 1 ≤ _; omega) hc1 hc2 hd (fun a' cA H1 g0 g1 g2 g3 => ?_)
      have ec : cA = cid 2 := by
        have r1 : va_RA s cA .boolean := (g0.2 4 (cA, .boolean) rfl).2
        have r2 : va_RA s (cid 2) .boolean := (hK.2 2 (cid 2, .boolean) rfl).2
        exact Option.some.inj (Eq.trans (Eq.symm r1) r2)
      subst ec
      have e2 : wsO cid (adN ad h.1 a') (hnew h (.inl (2, n.toInt.toNat, fun _ => 0)) n.toInt.toNat) = wsO cid ad h ++ [(a', .inl (cid 2, n.toInt.toNat, .inl (fun _ => 0)))] := wsO_new v1 hN
      have e3 : (Value.ref h.1 :: S0).map (ca (adN ad h.1 a')) = .ref a' :: S0.map (ca ad) := by
        rw [List.map_cons, map_ca_ag (adN_ag hN) (okS_t v3)]
        show Value.ref (adN ad h.1 a' h.1) :: _ = _
        rw [adN_at]
      have hW' := hW a' H1 locs ls ⟨hwf_new v1 hN trivial, okL_le (Nat.le_succ _) v2, okS_c (Or.inl (Nat.lt_succ_self _)) (okL_le (Nat.le_succ _) (okS_t v3)), by rw [e2]; exact g1, by rw [e2]; exact g2, g3, by rw [lp_ag (adN_ag hN) _ _ v2]; exact v7⟩
      rw [e3] at hW'
      exact hW'
    next => cases he
  next => cases he
theorem s_anew (C : CX p s m args meth c q D cid A) {idx : Nat} (hcl : (Cond.classLink q.1.cls idx "IcicleEaves$House").before args s = true) (hao : va_AO "IcicleEaves$House" s) (hcs : ∀ n : Int32, ∀ S0, S = .int n :: S0 → cells + 1 ≤ R.cells ∧ slots + n.toInt.toNat ≤ R.slots) (hd : decode q.2.1 pc = .ok (.anewarray idx, 3)) (he : e_anew (pc + 3) L S h = some (.inl (pc', L', S', h'))) (hW : ∀ n : Int32, ∀ S0, S = .int n :: S0 → ∀ a', WW p l e R s m args below meth c D cid (adN ad h.1 a') A Ls xs (cells + 1) (slots + n.toInt.toNat) Q pc' L' S' h') : WW p l e R s m args below meth c D cid ad A Ls xs cells slots Q pc L S h := by
  intro H locs ls V
  obtain ⟨hx, hb, hml, hown, hts, hlocks, hnm, hK, hA⟩ := C
  obtain ⟨v1, v2, v3, v4, v5, v6, v7⟩ := V
  unfold e_anew at he
  split at he
  next n S0 =>
    split at he
    next hN =>
      obtain ⟨hn0, hn1, hN⟩ := hN
      obtain ⟨rfl, rfl, rfl, rfl⟩ := ugo_inj he
      obtain ⟨hc1, hc2⟩ := hcs n S0 rfl
      have hW := hW n S0 rfl
      refine va_newq hx hb hown hcl hao hK v4 v5 v6 hA (N' := n.toInt.toNat) (by rw [Int32.lt_iff_toInt_lt]; simp; omega) rfl (by omega) hc1 hc2 hd (fun a' cA H1 g0 g1 g2 g3 => ?_)
      have ec : cA = cid 3 := by
        obtain ⟨_, _, _, _, _, r1⟩ : va_RA s cA (.object "IcicleEaves$House") := (g0.2 4 (cA, .object "IcicleEaves$House") rfl).2
        obtain ⟨_, _, _, _, _, r2⟩ : va_RA s (cid 3) (.object "IcicleEaves$House") := (hK.2 3 (cid 3, .object "IcicleEaves$House") rfl).2
        exact Option.some.inj (Eq.trans (Eq.symm r1) r2)
      subst ec
      have e2 : wsO cid (adN ad h.1 a') (hnew h (ah n.toInt.toNat (fun _ => none)) n.toInt.toNat) = wsO cid ad h ++ [(a', .inl (cid 3, n.toInt.toNat, .inr (.inr (.inr (.inr (fun _ => none))))))] := wsO_new v1 hN
      have e3 : (Value.ref h.1 :: S0).map (ca (adN ad h.1 a')) = .ref a' :: S0.map (ca ad) := by
        rw [List.map_cons, map_ca_ag (adN_ag hN) (okS_t v3)]
        show Value.ref (adN ad h.1 a' h.1) :: _ = _
        rw [adN_at]
      have hW' := hW a' H1 locs ls ⟨hwf_new v1 hN (fun k j hk => by cases hk), okL_le (Nat.le_succ _) v2, okS_c (Or.inl (Nat.lt_succ_self _)) (okL_le (Nat.le_succ _) (okS_t v3)), by rw [e2]; exact g1, by rw [e2]; exact g2, g3, by rw [lp_ag (adN_ag hN) _ _ v2]; exact v7⟩
      rw [e3] at hW'
      exact hW'
    next => cases he
  next => cases he
theorem csum_ca (ad : Nat → Nat) (S : List Value) : ((S.map (ca ad)).map fun v => v.category).sum = csum S := by
  unfold csum
  rw [List.map_map]
  congr 1
  exact List.map_congr_left (fun v _ => ca_cat ad v)
theorem s_obji (C : CX p s m args meth c q D cid A) {idx : Nat} (hL : L.length = q.2.2.1) (hl : (Cond.methodLink q.1.cls idx Lib.objectInit).before args s = true) (hi : (Cond.instanceMethod Lib.objectInit).before args s = true) (hcd : (Cond.code Lib.objectInit ⟨#[0xb1]⟩ 1 none).before args s = true) (hR1 : 1 ≤ R.frames) (hR2 : 36 ≤ R.locals) (hd : decode q.2.1 pc = .ok (.invokespecial idx, 3)) (he : e_obji (pc + 3) L S h = some (.inl (pc', L', S', h'))) (hW : WW p l e R s m args below meth c D cid ad A Ls xs cells slots Q pc' L' S' h') : WW p l e R s m args below meth c D cid ad A Ls xs cells slots Q pc L S h := by
  intro H locs ls V
  obtain ⟨hx, hb, hml, hown, hts, hlocks, hnm, hK, hA⟩ := C
  obtain ⟨v1, v2, v3, v4, v5, v6, v7⟩ := V
  unfold e_obji at he
  split at he
  next a S0 =>
    split at he
    next hc =>
      obtain ⟨rfl, rfl, rfl, rfl⟩ := ugo_inj he
      exact W.objInit hx hb hown hl hi hcd (g := F0 m pc ls ((Value.ref a :: S').map (ca ad))) rfl (by rw [hml, ← hL]; exact v7.1) (a := ad a) (rest := S'.map (ca ad)) rfl hd hR1 (by rw [csum_ca]; show 2 * 0 + _ + 12 ≤ _; omega) (hW H locs ls ⟨v1, v2, okS_t v3, v4, v5, v6, v7⟩)
    next => cases he
  next => cases he
theorem s_acpy (C : CX p s m args meth c q D cid A) {idx : Nat} (hL : L.length = q.2.2.1) (hl : (Cond.methodLink q.1.cls idx arraycopyName).before args s = true) (hi : (Cond.native arraycopyName).before args s = true) (hcd : (Cond.static arraycopyName).before args s = true) (hini : (Cond.initialized "java/lang/System").before args s = true) (hR1 : 1 ≤ R.frames) (hR2 : 36 ≤ R.locals) (hd : decode q.2.1 pc = .ok (.invokestatic idx, 3)) (he : e_acpy (pc + 3) L S h = some (.inl (pc', L', S', h'))) (hW : WW p l e R s m args below meth c D cid ad A Ls xs cells slots Q pc' L' S' h') : WW p l e R s m args below meth c D cid ad A Ls xs cells slots Q pc L S h := by
  intro H locs ls V
  obtain ⟨hx, hb, hml, hown, hts, hlocks, hnm, hK, hA⟩ := C
  obtain ⟨v1, v2, v3, v4, v5, v6, v7⟩ := V
  unfold e_acpy at he
  split at he
  next n dp d sp s0 S0 =>
    split at he
    next hc =>
      unfold e_cp1 at he
      split at he
      next n0 f n1 g hcs hcd2 =>
        have hc : s0 < h.1 ∧ d < h.1 ∧ csum S0 = 0 := ⟨hlt v1 hcs (fun _ _ z => by cases z), hlt v1 hcd2 (fun _ _ z => by cases z), hc⟩
        split at he
        next hi2 =>
          obtain ⟨rfl, rfl, rfl, rfl⟩ := ugo_inj he
          obtain ⟨i1, i2, i3, i4, i5⟩ := hi2
          refine va_copyi hx hb (by rw [hml, ← hL]; exact v7.1.symm) hown hl hi hcd hini hK v4 v5 v6 s0 d 0 0 (wsO_get hc.1 hcs) (wsO_get hc.2.1 hcd2) rfl rfl rfl (by rw [Int32.lt_iff_toInt_lt]; simp; omega) (by rw [Int32.lt_iff_toInt_lt]; simp; omega) (by rw [Int32.lt_iff_toInt_lt]; simp; omega) i4 i5 (fun i _ => rfl) hR1 (by rw [csum_ca, hc.2.2]; show 0 + (7 + 11) ≤ _; omega) hd (fun H1 locs1 g1 g2 g3 => hW H1 locs1 ls ⟨hwf_put v1 hc.2.1 trivial, v2, okS_t (okS_t (okS_t (okS_t (okS_t v3)))), ?_, ?_, g3, v7⟩)
          · rw [wsO_put hc.2.1]; exact g1
          · rw [wsO_put hc.2.1]; exact g2
        next => cases he
      next => cases he
    next => cases he
  next => cases he
end Made
