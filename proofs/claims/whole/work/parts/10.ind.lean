/-! ===== the induction ===== -/
theorem exl_len : ∀ as : List Value, (exl as).length = csum as
  | [] => rfl
  | v :: l => by
    have ih := exl_len l
    unfold csum at ih ⊢
    simp only [exl, List.map_cons, List.sum_cons]
    rcases lv_cat v with hv | hv
    · rw [if_neg (by omega), List.length_cons, ih, hv]; omega
    · rw [if_pos hv, List.length_cons, List.length_cons, ih, hv]; omega
theorem pad_len : ∀ (n : Nat) (l : List Value), (pad n l).length = n
  | 0, _ => rfl
  | n + 1, [] => by simp only [pad, List.length_cons, pad_len n []]
  | n + 1, v :: l => by simp only [pad, List.length_cons, pad_len n l]
theorem entL_len (as : List Value) (n : Nat) : (entL as n).length = n := pad_len n _
theorem pad_get : ∀ (n : Nat) (l : List Value) (i : Nat) (v : Value), (pad n l)[i]? = some v → v ≠ dum → l[i]? = some v
  | 0, l, i, v, h, _ => by simp [pad] at h
  | n + 1, [], i, v, h, hv => by
    cases i with
    | zero => simp [pad] at h; exact absurd h.symm hv
    | succ i => simp only [pad, List.getElem?_cons_succ] at h; simpa using pad_get n [] i v h hv
  | n + 1, u :: l, i, v, h, hv => by
    cases i with
    | zero => simpa [pad] using h
    | succ i => simp only [pad, List.getElem?_cons_succ] at h; simpa using pad_get n l i v h hv
theorem exl_args {ad : Nat → Nat} : ∀ (as : List Value) (j i : Nat) (v : Value), (exl as)[i]? = some v → v ≠ dum → (j + i, ca ad v) ∈ lv_args j (as.map (ca ad))
  | [], j, i, v, h, _ => by simp [exl] at h
  | u :: l, j, i, v, h, hv => by
    simp only [List.map_cons, lv_args, ca_cat]
    simp only [exl] at h
    rcases lv_cat u with hu | hu
    · rw [if_neg (by omega)] at h ⊢
      cases i with
      | zero => simp at h; subst h; simp
      | succ i =>
        simp only [List.getElem?_cons_succ] at h
        have := exl_args (ad := ad) l (j + 1) i v h hv
        rw [show j + (i + 1) = j + 1 + i by omega]
        exact List.mem_cons_of_mem _ this
    · rw [if_pos hu] at h ⊢
      cases i with
      | zero => simp at h; subst h; simp
      | succ i =>
        cases i with
        | zero => simp at h; exact absurd h.symm hv
        | succ i =>
          simp only [List.getElem?_cons_succ] at h
          have := exl_args (ad := ad) l (j + 2) i v h hv
          rw [show j + (i + 1 + 1) = j + 2 + i by omega]
          exact List.mem_cons_of_mem _ this
theorem ent_lp {ad : Nat → Nat} {as : List Value} {n : Nat} : ∀ q ∈ lp (ca ad) 0 (entL as n), q ∈ lv_args 0 (as.map (ca ad)) := by
  intro q hq
  obtain ⟨i, v, h1, h2, rfl⟩ := (lp_mem _ 0 q).mp hq
  exact exl_args as 0 i v (pad_get n _ i v h1 h2) h2
theorem ent_ok {N n : Nat} {as : List Value} (h : ∀ v ∈ as, okv N v) : ∀ v ∈ entL as n, okv N v := by
  intro v hv
  by_cases hd : v = dum
  · rw [hd]; trivial
  · obtain ⟨i, hi⟩ := List.getElem?_of_mem hv
    have h1 := pad_get n _ i v hi hd
    have h2 : ∀ (as : List Value) (i : Nat), (exl as)[i]? = some v → v ∈ as := by
      intro as
      induction as with
      | nil => intro i h; simp [exl] at h
      | cons u l ih =>
        intro i h
        simp only [exl] at h
        split at h
        · cases i with
          | zero => simp at h; subst h; exact List.mem_cons_self
          | succ i =>
            cases i with
            | zero => simp at h; exact absurd h.symm hd
            | succ i => exact List.mem_cons_of_mem _ (ih i (by simpa using h))
        · cases i with
          | zero => simp at h; subst h; exact List.mem_cons_self
          | succ i => exact List.mem_cons_of_mem _ (ih i (by simpa using h))
    exact h v (h2 as i h1)
theorem lgsl_len (vs : List Value) : (lg_sl vs).length = csum vs := by
  induction vs with
  | nil => rfl
  | cons v l ih =>
    unfold csum at ih ⊢
    unfold lg_sl at ih ⊢
    simp only [List.flatMap_cons, List.length_append, List.map_cons, List.sum_cons, ih]
    rcases lv_cat v with hv | hv
    · rw [if_neg (by omega), hv]; rfl
    · rw [if_pos hv, hv]; rfl
theorem csum_map (ad : Nat → Nat) (as : List Value) : csum (as.map (ca ad)) = csum as := csum_ca ad as
theorem bool_nar {v : Int32} (h : v = 0 ∨ v = 1) : narrow .boolean (.int v) = .int v := by
  rcases h with rfl | rfl <;> rfl
theorem met_of {l : Launch} (hT : TBL) {n : Nat} (hS : SND l n) {k : Nat} {q : icM} (hk : mt[k]? = some q) (hk6 : k < 226) {as : List Value} {h hF : icH} {r : Option Value} (has : csum as ≤ q.2.2.1) (hr : run n k 0 (entL as q.2.2.1) [] h = some (r, hF)) (D : va_G) (cid : Nat → ClassId) (adV : Nat → Nat) (Ls : Nat) (xs : Nat → Int32) : icMet l q D cid adV Ls xs as h r hF := by
  intro ad sz hok hwf0
  have hMX := hT.2.1 k q hk hk6
  refine va_MetF (cc := q.2.1) (maxL := q.2.2.1) (ret := q.2.2.2.1) hMX.2.2.2.2.2 rfl ?_
  intro p e s m args below meth c s₁ B hml hv
  obtain ⟨rfl, hsz, hP, hK, hD0, hX⟩ := hv
  subst hsz
  have hD := hD0.self (sz := s.heap.size)
  have hts0 := atoms_spec (ws := wMt q) B.pre
  have hC : CX p s m (as.map (ca ad)).toArray meth c q D cid (va_A (wsO cid ad h) s.heap.size) := ⟨B.exec, B.bytes, hml, findClass_of_methodNamed B.named, fun w hw => hts0 w (List.mem_cons_of_mem _ hw), B.notSynchronized, (name_of_methodNamed B.named B.method).1, hK, fun z hz => Or.inr hz⟩
  have hl := lv_entry (as.map (ca ad)) (n := q.2.2.1) (by rw [lgsl_len, csum_map]; exact has)
  rw [lg_entry_eq]
  generalize (lg_sl (as.map (ca ad)) ++ List.replicate (q.2.2.1 - (lg_sl (as.map (ca ad))).length) Slot.unset).toArray = ls at hl ⊢
  refine hS k 0 (entL as q.2.2.1) [] h r hF hr q hk (entL_len _ _) p e _ s m _ below meth c D cid ad adV (va_A (wsO cid ad h) s.heap.size) Ls xs 0 0 (hF.1 - h.1) (hF.2.1 - h.2.1) _ hC hX (Nat.le_refl _) (Nat.le_refl _) (Nat.zero_add _) (Nat.zero_add _) (Nat.le_refl _) (Nat.le_refl _) ?_ s.heap [] ls ⟨hwf0, ent_ok hok, fun v hv => absurd hv List.not_mem_nil, hP, hD, va_S.rf, by rw [entL_len]; exact lv_less hl ent_lp⟩
  intro adF HF locsF lsF pcF i g1 g2 g3 g4 g5 g6 g7 g8
  have hx := B.exec
  have hb := B.bytes
  have hlocks := B.notSynchronized
  have hq : ∀ t : State, t.heap = HF → s.WarmedH t.vm → icQ D cid ad h.1 (va_A (wsO cid ad h) s.heap.size) r hF Ls xs (as.map (ca ad)).toArray s (.returned (r.map (ca adF))) t := fun t ht hW => ⟨⟨adF, g1, rfl, g2, g3, by rw [ht]; exact g4, g5⟩, g6.F ht⟩
  rcases g8 with ⟨rfl, v, rfl, hret | ⟨hret, hv⟩⟩ | ⟨rfl, v, rfl, hret⟩ | ⟨rfl, v, rfl, hret⟩ | ⟨rfl, rfl, hret⟩
  · exact W.iret (v := v) hx hb (B.returns.trans hret) hq g6.2.2 g7 hlocks
  · exact W.zret (v := v) (ty := .boolean) hx hb (B.returns.trans hret) (bool_nar hv) hq g6.2.2 g7 hlocks
  · exact W.lret (v := v) hx hb (B.returns.trans hret) hq g6.2.2 g7 hlocks
  · exact W.aret (v := .ref (adF v)) hx hb (B.returns.trans hret) (Or.inl ⟨_, rfl⟩) (Or.inr ⟨_, rfl⟩) hq g6.2.2 g7 hlocks
  · exact W.vret hx hb (B.returns.trans hret) hq g6.2.2 g7 hlocks
theorem look_mem : ∀ (l : List icI) (pc : Nat) (x : Instr × Nat × Nat × Nat × Nat × Nat), look l pc = some x → (pc, x) ∈ l
  | [], pc, x, h => by simp [look] at h
  | q :: l, pc, x, h => by
    simp only [look] at h
    split at h
    next hq => cases h; subst hq; exact List.mem_cons_self
    next => exact List.mem_cons_of_mem _ (look_mem l pc x h)
theorem mL_eq {z : Nat} {qz : icM} (h : mt[z]? = some qz) : mL z = qz.2.2.1 := by simp only [mL, h]
theorem mA_eq {z : Nat} {qz : icM} (h : mt[z]? = some qz) : mA z = qz.2.2.2.2.2.1 := by simp only [mA, h]
theorem gcl9 {ci cj : Nat} (hi : ci < 10) (h : gclB ci cj = true) : cj < 9 := by
  unfold gclB at h
  split at h
  · simp only [Bool.or_eq_true, beq_iff_eq] at h; omega
  · simp only [beq_iff_eq] at h; omega
theorem vw9 {cj : Nat} {x : vw_C} (h : vwCl[cj]? = some x) : cj < 9 := (List.getElem?_eq_some_iff.mp h).1
theorem nst_use {s : State} {args : Array Value} {w : Cond} (hN : ∀ w ∈ nstW, va_Nw w s) (h : w ∈ nstW) : w.before args s = true := va_Nw.use (nst_tab w h) (hN w h)
theorem fld_FX {args : Array Value} {s : State} {q : icM} {idx k ci x4 : Nat} (hT : TBL) (hts : ∀ w ∈ TTg, w.before args s = true) (hN : ∀ w ∈ nstW, va_Nw w s) (h : (List.range 9).all (fun cj => !gclB ci cj || fldB q idx k x4 cj) = true) : ∀ cj, gclB ci cj = true → cj < 9 → FX args s q.1.cls idx k cj := by
  intro cj hg hc9
  have h1 := List.all_eq_true.mp h cj (List.mem_range.mpr hc9)
  rw [hg] at h1
  simp only [Bool.not_true, Bool.false_or] at h1
  unfold fldB at h1
  split at h1
  next C T N hc =>
    simp only [Bool.and_eq_true, Bool.or_eq_true, decide_eq_true_eq] at h1
    obtain ⟨ty, f1, -⟩ := hT.2.2.1 cj C T N hc
    refine ⟨C, T, N, hc, h1.1, f1, ?_⟩
    rcases h1.2 with h2 | h2
    · exact Or.inl (hts _ (inL_in h2))
    · exact Or.inr ⟨_, nst_use hN h2⟩
  next => cases h1
theorem put_FP {args : Array Value} {s : State} {q : icM} {idx k kind ci x4 : Nat} (hT : TBL) (hts : ∀ w ∈ TTg, w.before args s = true) (hN : ∀ w ∈ nstW, va_Nw w s) (h : (List.range 9).all (fun cj => !gclB ci cj || putB q idx k kind x4 cj) = true) : ∀ cj, gclB ci cj = true → cj < 9 → FP args s q.1.cls q.1.name idx k kind cj := by
  intro cj hg hc9
  have h1 := List.all_eq_true.mp h cj (List.mem_range.mpr hc9)
  rw [hg] at h1
  simp only [Bool.not_true, Bool.false_or] at h1
  unfold putB at h1
  split at h1
  next C T N hc =>
    simp only [Bool.and_eq_true, decide_eq_true_eq] at h1
    obtain ⟨h1, h2, h3⟩ := h1
    obtain ⟨ty, f1, f2, f3, -⟩ := hT.2.2.1 cj C T N hc
    have hty : tyk (ty k) = kind % 10 := by
      rw [f2 k h1] at h2
      exact eq_of_beq h2
    refine ⟨C, T, N, ty, hc, h1, f1, f2, f3, hty, ?_⟩
    split at h3
    next hfin =>
      simp only [Bool.and_eq_true, decide_eq_true_eq] at h3
      exact Or.inr ⟨hfin, h3.1, h3.2.1, hts _ (inL_in h3.2.2)⟩
    next hfin =>
      refine Or.inl ⟨by simpa using hfin, ?_⟩
      simp only [Bool.or_eq_true, decide_eq_true_eq] at h3
      rcases h3 with h3 | h3
      · exact Or.inl (hts _ (inL_in h3))
      · exact Or.inr ⟨_, nst_use hN h3⟩
  next => cases h1
