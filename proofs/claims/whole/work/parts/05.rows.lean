/-! ===== one instruction of the pure machine is one of the machine's ===== -/
/-- private methods of Guess, on the three -/
def gsel : List Cond := [.selects RX2 yX1_fits yX1_fits, .selects RX4 yX1_fits yX1_fits, .selects RX5 yX1_fits yX1_fits, .selects RX2 yX1_largestGroup yX1_largestGroup, .selects RX4 yX1_largestGroup yX1_largestGroup, .selects RX5 yX1_largestGroup yX1_largestGroup]
def tt0 : List Cond := lw_tbl ++ gsel
def TTg : List Cond := tt0.filter goodWord
def tyl (cid : Nat → ClassId) : List (ClassId × FieldType) := [(cid 0, .int), (cid 1, .byte), (cid 2, .boolean), (cid 3, .object "IcicleEaves$House")]
/-- the frame of a method of the table -/
def CX (p : Program) (s : State) (m : MethodId) (args : Array Value) (meth : Method) (c : Code) (q : icM) (D : va_G) (cid : Nat → ClassId) (A : Nat → Prop) : Prop :=
  p.tables.exec = Jvm.exec ∧ c.code = q.2.1 ∧ c.maxLocals = q.2.2.1 ∧ s.vm.findClass q.1.cls = some m.cls ∧ (∀ w ∈ TTg, w.before args s = true) ∧ meth.locks = false ∧ meth.name = q.1.name ∧ va_K D vwCl (tyl cid) s ∧ ∀ z, s.heap.size ≤ z → A z
/-- the machine's heap holds the pure one, its locals the pure ones -/
def SV (D : va_G) (cid : Nat → ClassId) (ad : Nat → Nat) (A : Nat → Prop) (s : State) (Ls : Nat) (xs : Nat → Int32) (L S : List Value) (h : icH) (H : Heap) (locs : List Loc) (ls : Array Slot) : Prop :=
  hwf Ls xs h ∧ (∀ v ∈ L, okv h.1 v) ∧ (∀ v ∈ S, okv h.1 v) ∧ va_P D vwCl (wsO cid ad h) H ∧ va_D A (wsO cid ad h) ∧ va_S A s.heap H locs ∧ lv_has ls L.length (lp (ca ad) 0 L)
def WW (p : Program) (l : Launch) (e : Env) (R : Room) (s : State) (m : MethodId) (args : Array Value) (below : List Frame) (meth : Method) (c : Code) (D : va_G) (cid : Nat → ClassId) (ad : Nat → Nat) (A : Nat → Prop) (Ls : Nat) (xs : Nat → Int32) (cells slots : Nat) (Q : State → Prop) (pc : Nat) (L S : List Value) (h : icH) : Prop :=
  ∀ H locs ls, SV D cid ad A s Ls xs L S h H locs ls → W p l e R s m args below meth c H locs cells slots Q (F0 m pc ls (S.map (ca ad)))
theorem ugo_inj {a a' : Nat} {b b' c c' : List Value} {d d' : icH} (h : ugo a b c d = some (.inl (a', b', c', d'))) : a' = a ∧ b' = b ∧ c' = c ∧ d' = d := by
  cases h; exact ⟨rfl, rfl, rfl, rfl⟩
section Rows
variable {p : Program} {l : Launch} {e : Env} {R : Room} {s : State} {m : MethodId} {args : Array Value} {below : List Frame} {meth : Method} {c : Code} {D : va_G} {cid : Nat → ClassId} {ad : Nat → Nat} {A : Nat → Prop} {Ls : Nat} {xs : Nat → Int32} {cells slots : Nat} {Q : State → Prop} {q : icM} {pc pc' : Nat} {L S L' S' : List Value} {h h' : icH}
theorem s_iconst (C : CX p s m args meth c q D cid A) {n : Int} (hd : decode q.2.1 pc = .ok (.iconst n, 1)) (he : ugo (pc + 1) L (.int (Int32.ofInt n) :: S) h = some (.inl (pc', L', S', h'))) (hW : WW p l e R s m args below meth c D cid ad A Ls xs cells slots Q pc' L' S' h') : WW p l e R s m args below meth c D cid ad A Ls xs cells slots Q pc L S h := by
  intro H locs ls V
  obtain ⟨hx, hb, hml, hown, hts, hlocks, hnm, hK, hA⟩ := C
  obtain ⟨v1, v2, v3, v4, v5, v6, v7⟩ := V
  obtain ⟨rfl, rfl, rfl, rfl⟩ := ugo_inj he
  exact lv_iconst hx hb hd rfl (hW _ _ _ ⟨v1, v2, okS_c trivial v3, v4, v5, v6, v7⟩)
theorem s_bipush (C : CX p s m args meth c q D cid A) {n : Int} (hd : decode q.2.1 pc = .ok (.bipush n, 2)) (he : ugo (pc + 2) L (.int (Int8.ofInt n).toInt32 :: S) h = some (.inl (pc', L', S', h'))) (hW : WW p l e R s m args below meth c D cid ad A Ls xs cells slots Q pc' L' S' h') : WW p l e R s m args below meth c D cid ad A Ls xs cells slots Q pc L S h := by
  intro H locs ls V
  obtain ⟨hx, hb, hml, hown, hts, hlocks, hnm, hK, hA⟩ := C
  obtain ⟨v1, v2, v3, v4, v5, v6, v7⟩ := V
  obtain ⟨rfl, rfl, rfl, rfl⟩ := ugo_inj he
  exact lv_bipush hx hb hd rfl (hW _ _ _ ⟨v1, v2, okS_c trivial v3, v4, v5, v6, v7⟩)
theorem s_sipush (C : CX p s m args meth c q D cid A) {n : Int} (hd : decode q.2.1 pc = .ok (.sipush n, 3)) (he : ugo (pc + 3) L (.int (Int16.ofInt n).toInt32 :: S) h = some (.inl (pc', L', S', h'))) (hW : WW p l e R s m args below meth c D cid ad A Ls xs cells slots Q pc' L' S' h') : WW p l e R s m args below meth c D cid ad A Ls xs cells slots Q pc L S h := by
  intro H locs ls V
  obtain ⟨hx, hb, hml, hown, hts, hlocks, hnm, hK, hA⟩ := C
  obtain ⟨v1, v2, v3, v4, v5, v6, v7⟩ := V
  obtain ⟨rfl, rfl, rfl, rfl⟩ := ugo_inj he
  exact lv_sipush hx hb hd rfl (hW _ _ _ ⟨v1, v2, okS_c trivial v3, v4, v5, v6, v7⟩)
theorem s_lconst (C : CX p s m args meth c q D cid A) {n : Fin 2} (hd : decode q.2.1 pc = .ok (.lconst n, 1)) (he : ugo (pc + 1) L (.long (Int64.ofNat n) :: S) h = some (.inl (pc', L', S', h'))) (hW : WW p l e R s m args below meth c D cid ad A Ls xs cells slots Q pc' L' S' h') : WW p l e R s m args below meth c D cid ad A Ls xs cells slots Q pc L S h := by
  intro H locs ls V
  obtain ⟨hx, hb, hml, hown, hts, hlocks, hnm, hK, hA⟩ := C
  obtain ⟨v1, v2, v3, v4, v5, v6, v7⟩ := V
  obtain ⟨rfl, rfl, rfl, rfl⟩ := ugo_inj he
  exact lv_lconst hx hb hd rfl (hW _ _ _ ⟨v1, v2, okS_c trivial v3, v4, v5, v6, v7⟩)
theorem s_ldc (C : CX p s m args meth c q D cid A) {idx x1 : Nat} (hw : Cond.constant q.1.cls idx (Int32.ofNat x1) ∈ TTg) (hd : decode q.2.1 pc = .ok (.ldc idx, 2)) (he : ugo (pc + 2) L (.int (Int32.ofNat x1) :: S) h = some (.inl (pc', L', S', h'))) (hW : WW p l e R s m args below meth c D cid ad A Ls xs cells slots Q pc' L' S' h') : WW p l e R s m args below meth c D cid ad A Ls xs cells slots Q pc L S h := by
  intro H locs ls V
  obtain ⟨hx, hb, hml, hown, hts, hlocks, hnm, hK, hA⟩ := C
  obtain ⟨v1, v2, v3, v4, v5, v6, v7⟩ := V
  obtain ⟨rfl, rfl, rfl, rfl⟩ := ugo_inj he
  exact lv_ldc hx hb hown (hts _ hw) hd (hW _ _ _ ⟨v1, v2, okS_c trivial v3, v4, v5, v6, v7⟩)
theorem s_ldc_w (C : CX p s m args meth c q D cid A) {idx x1 : Nat} (hw : Cond.constant q.1.cls idx (Int32.ofNat x1) ∈ TTg) (hd : decode q.2.1 pc = .ok (.ldc_w idx, 3)) (he : ugo (pc + 3) L (.int (Int32.ofNat x1) :: S) h = some (.inl (pc', L', S', h'))) (hW : WW p l e R s m args below meth c D cid ad A Ls xs cells slots Q pc' L' S' h') : WW p l e R s m args below meth c D cid ad A Ls xs cells slots Q pc L S h := by
  intro H locs ls V
  obtain ⟨hx, hb, hml, hown, hts, hlocks, hnm, hK, hA⟩ := C
  obtain ⟨v1, v2, v3, v4, v5, v6, v7⟩ := V
  obtain ⟨rfl, rfl, rfl, rfl⟩ := ugo_inj he
  exact lv_ldcw hx hb hown (hts _ hw) hd (hW _ _ _ ⟨v1, v2, okS_c trivial v3, v4, v5, v6, v7⟩)
theorem s_ldc2 (C : CX p s m args meth c q D cid A) {idx x1 : Nat} (hw : Cond.constantLong q.1.cls idx (Int64.ofNat x1) ∈ TTg) (hd : decode q.2.1 pc = .ok (.ldc2_w idx, 3)) (he : ugo (pc + 3) L (.long (Int64.ofNat x1) :: S) h = some (.inl (pc', L', S', h'))) (hW : WW p l e R s m args below meth c D cid ad A Ls xs cells slots Q pc' L' S' h') : WW p l e R s m args below meth c D cid ad A Ls xs cells slots Q pc L S h := by
  intro H locs ls V
  obtain ⟨hx, hb, hml, hown, hts, hlocks, hnm, hK, hA⟩ := C
  obtain ⟨v1, v2, v3, v4, v5, v6, v7⟩ := V
  obtain ⟨rfl, rfl, rfl, rfl⟩ := ugo_inj he
  exact lv_ldc2 hx hb hown (hts _ hw) hd (hW _ _ _ ⟨v1, v2, okS_c trivial v3, v4, v5, v6, v7⟩)
theorem s_iload (C : CX p s m args meth c q D cid A) {i : Nat} (hd : decode q.2.1 pc = .ok (.iload i, 2)) (he : e_iload i (pc + 2) L S h = some (.inl (pc', L', S', h'))) (hW : WW p l e R s m args below meth c D cid ad A Ls xs cells slots Q pc' L' S' h') : WW p l e R s m args below meth c D cid ad A Ls xs cells slots Q pc L S h := by
  intro H locs ls V
  obtain ⟨hx, hb, hml, hown, hts, hlocks, hnm, hK, hA⟩ := C
  obtain ⟨v1, v2, v3, v4, v5, v6, v7⟩ := V
  unfold e_iload at he
  split at he
  next x hn =>
    obtain ⟨rfl, rfl, rfl, rfl⟩ := ugo_inj he
    exact lv_iload hx hb hd (nth_ls v7 hn (by intro z; cases z)) (hW _ _ _ ⟨v1, v2, okS_c trivial v3, v4, v5, v6, v7⟩)
  next => cases he
theorem s_iload_n (C : CX p s m args meth c q D cid A) {i : Fin 4} (hd : decode q.2.1 pc = .ok (.iload_n i, 1)) (he : e_iload i (pc + 1) L S h = some (.inl (pc', L', S', h'))) (hW : WW p l e R s m args below meth c D cid ad A Ls xs cells slots Q pc' L' S' h') : WW p l e R s m args below meth c D cid ad A Ls xs cells slots Q pc L S h := by
  intro H locs ls V
  obtain ⟨hx, hb, hml, hown, hts, hlocks, hnm, hK, hA⟩ := C
  obtain ⟨v1, v2, v3, v4, v5, v6, v7⟩ := V
  unfold e_iload at he
  split at he
  next x hn =>
    obtain ⟨rfl, rfl, rfl, rfl⟩ := ugo_inj he
    exact lv_iload_n hx hb hd rfl (nth_ls v7 hn (by intro z; cases z)) (hW _ _ _ ⟨v1, v2, okS_c trivial v3, v4, v5, v6, v7⟩)
  next => cases he
theorem s_lload (C : CX p s m args meth c q D cid A) {i : Nat} (hd : decode q.2.1 pc = .ok (.lload i, 2)) (he : e_lload i (pc + 2) L S h = some (.inl (pc', L', S', h'))) (hW : WW p l e R s m args below meth c D cid ad A Ls xs cells slots Q pc' L' S' h') : WW p l e R s m args below meth c D cid ad A Ls xs cells slots Q pc L S h := by
  intro H locs ls V
  obtain ⟨hx, hb, hml, hown, hts, hlocks, hnm, hK, hA⟩ := C
  obtain ⟨v1, v2, v3, v4, v5, v6, v7⟩ := V
  unfold e_lload at he
  split at he
  next x hn =>
    obtain ⟨rfl, rfl, rfl, rfl⟩ := ugo_inj he
    exact lv_lload hx hb hd (nth_ls v7 hn (by intro z; cases z)) (hW _ _ _ ⟨v1, v2, okS_c trivial v3, v4, v5, v6, v7⟩)
  next => cases he
theorem s_lload_n (C : CX p s m args meth c q D cid A) {i : Fin 4} (hd : decode q.2.1 pc = .ok (.lload_n i, 1)) (he : e_lload i (pc + 1) L S h = some (.inl (pc', L', S', h'))) (hW : WW p l e R s m args below meth c D cid ad A Ls xs cells slots Q pc' L' S' h') : WW p l e R s m args below meth c D cid ad A Ls xs cells slots Q pc L S h := by
  intro H locs ls V
  obtain ⟨hx, hb, hml, hown, hts, hlocks, hnm, hK, hA⟩ := C
  obtain ⟨v1, v2, v3, v4, v5, v6, v7⟩ := V
  unfold e_lload at he
  split at he
  next x hn =>
    obtain ⟨rfl, rfl, rfl, rfl⟩ := ugo_inj he
    exact lv_lload_n hx hb hd rfl (nth_ls v7 hn (by intro z; cases z)) (hW _ _ _ ⟨v1, v2, okS_c trivial v3, v4, v5, v6, v7⟩)
  next => cases he
theorem s_aload (C : CX p s m args meth c q D cid A) {i : Nat} (hd : decode q.2.1 pc = .ok (.aload i, 2)) (he : e_aload i (pc + 2) L S h = some (.inl (pc', L', S', h'))) (hW : WW p l e R s m args below meth c D cid ad A Ls xs cells slots Q pc' L' S' h') : WW p l e R s m args below meth c D cid ad A Ls xs cells slots Q pc L S h := by
  intro H locs ls V
  obtain ⟨hx, hb, hml, hown, hts, hlocks, hnm, hK, hA⟩ := C
  obtain ⟨v1, v2, v3, v4, v5, v6, v7⟩ := V
  unfold e_aload at he
  split at he
  next x hn =>
    obtain ⟨rfl, rfl, rfl, rfl⟩ := ugo_inj he
    exact lv_aload hx hb hd (nth_ls v7 hn (by intro z; cases z)) (hW _ _ _ ⟨v1, v2, okS_c (nth_ok v2 hn) v3, v4, v5, v6, v7⟩)
  next => cases he
theorem s_aload_n (C : CX p s m args meth c q D cid A) {i : Fin 4} (hd : decode q.2.1 pc = .ok (.aload_n i, 1)) (he : e_aload i (pc + 1) L S h = some (.inl (pc', L', S', h'))) (hW : WW p l e R s m args below meth c D cid ad A Ls xs cells slots Q pc' L' S' h') : WW p l e R s m args below meth c D cid ad A Ls xs cells slots Q pc L S h := by
  intro H locs ls V
  obtain ⟨hx, hb, hml, hown, hts, hlocks, hnm, hK, hA⟩ := C
  obtain ⟨v1, v2, v3, v4, v5, v6, v7⟩ := V
  unfold e_aload at he
  split at he
  next x hn =>
    obtain ⟨rfl, rfl, rfl, rfl⟩ := ugo_inj he
    exact lv_aload_n hx hb hd rfl (nth_ls v7 hn (by intro z; cases z)) (hW _ _ _ ⟨v1, v2, okS_c (nth_ok v2 hn) v3, v4, v5, v6, v7⟩)
  next => cases he
theorem s_istore (C : CX p s m args meth c q D cid A) {i : Nat} (hd : decode q.2.1 pc = .ok (.istore i, 2)) (he : e_istore i (pc + 2) L S h = some (.inl (pc', L', S', h'))) (hW : WW p l e R s m args below meth c D cid ad A Ls xs cells slots Q pc' L' S' h') : WW p l e R s m args below meth c D cid ad A Ls xs cells slots Q pc L S h := by
  intro H locs ls V
  obtain ⟨hx, hb, hml, hown, hts, hlocks, hnm, hK, hA⟩ := C
  obtain ⟨v1, v2, v3, v4, v5, v6, v7⟩ := V
  unfold e_istore at he
  split at he
  next x S0 =>
    split at he
    next hi =>
      obtain ⟨rfl, rfl, rfl, rfl⟩ := ugo_inj he
      exact lv_istore hx hb hd v7 hi rfl (fun ls' hl' => hW _ _ _ ⟨v1, okL_st1 v2 trivial, okS_t v3, v4, v5, v6, by rw [st1_len]; exact lv_less hl' st1_lp⟩)
    next => cases he
  next => cases he
theorem s_istore_n (C : CX p s m args meth c q D cid A) {i : Fin 4} (hd : decode q.2.1 pc = .ok (.istore_n i, 1)) (he : e_istore i (pc + 1) L S h = some (.inl (pc', L', S', h'))) (hW : WW p l e R s m args below meth c D cid ad A Ls xs cells slots Q pc' L' S' h') : WW p l e R s m args below meth c D cid ad A Ls xs cells slots Q pc L S h := by
  intro H locs ls V
  obtain ⟨hx, hb, hml, hown, hts, hlocks, hnm, hK, hA⟩ := C
  obtain ⟨v1, v2, v3, v4, v5, v6, v7⟩ := V
  unfold e_istore at he
  split at he
  next x S0 =>
    split at he
    next hi =>
      obtain ⟨rfl, rfl, rfl, rfl⟩ := ugo_inj he
      exact lv_istore_n hx hb hd rfl v7 hi rfl (fun ls' hl' => hW _ _ _ ⟨v1, okL_st1 v2 trivial, okS_t v3, v4, v5, v6, by rw [st1_len]; exact lv_less hl' st1_lp⟩)
    next => cases he
  next => cases he
theorem s_lstore (C : CX p s m args meth c q D cid A) {i : Nat} (hd : decode q.2.1 pc = .ok (.lstore i, 2)) (he : e_lstore i (pc + 2) L S h = some (.inl (pc', L', S', h'))) (hW : WW p l e R s m args below meth c D cid ad A Ls xs cells slots Q pc' L' S' h') : WW p l e R s m args below meth c D cid ad A Ls xs cells slots Q pc L S h := by
  intro H locs ls V
  obtain ⟨hx, hb, hml, hown, hts, hlocks, hnm, hK, hA⟩ := C
  obtain ⟨v1, v2, v3, v4, v5, v6, v7⟩ := V
  unfold e_lstore at he
  split at he
  next x S0 =>
    split at he
    next hi =>
      obtain ⟨rfl, rfl, rfl, rfl⟩ := ugo_inj he
      exact lv_lstore hx hb hd v7 hi rfl (fun ls' hl' => hW _ _ _ ⟨v1, okL_st2 v2 trivial, okS_t v3, v4, v5, v6, by rw [st2_len]; exact lv_less hl' st2_lp⟩)
    next => cases he
  next => cases he
theorem s_lstore_n (C : CX p s m args meth c q D cid A) {i : Fin 4} (hd : decode q.2.1 pc = .ok (.lstore_n i, 1)) (he : e_lstore i (pc + 1) L S h = some (.inl (pc', L', S', h'))) (hW : WW p l e R s m args below meth c D cid ad A Ls xs cells slots Q pc' L' S' h') : WW p l e R s m args below meth c D cid ad A Ls xs cells slots Q pc L S h := by
  intro H locs ls V
  obtain ⟨hx, hb, hml, hown, hts, hlocks, hnm, hK, hA⟩ := C
  obtain ⟨v1, v2, v3, v4, v5, v6, v7⟩ := V
  unfold e_lstore at he
  split at he
  next x S0 =>
    split at he
    next hi =>
      obtain ⟨rfl, rfl, rfl, rfl⟩ := ugo_inj he
      exact lv_lstore_n hx hb hd rfl v7 hi rfl (fun ls' hl' => hW _ _ _ ⟨v1, okL_st2 v2 trivial, okS_t v3, v4, v5, v6, by rw [st2_len]; exact lv_less hl' st2_lp⟩)
    next => cases he
  next => cases he
theorem s_astore (C : CX p s m args meth c q D cid A) {i : Nat} (hd : decode q.2.1 pc = .ok (.astore i, 2)) (he : e_astore i (pc + 2) L S h = some (.inl (pc', L', S', h'))) (hW : WW p l e R s m args below meth c D cid ad A Ls xs cells slots Q pc' L' S' h') : WW p l e R s m args below meth c D cid ad A Ls xs cells slots Q pc L S h := by
  intro H locs ls V
  obtain ⟨hx, hb, hml, hown, hts, hlocks, hnm, hK, hA⟩ := C
  obtain ⟨v1, v2, v3, v4, v5, v6, v7⟩ := V
  unfold e_astore at he
  split at he
  next x S0 =>
    split at he
    next hi =>
      obtain ⟨rfl, rfl, rfl, rfl⟩ := ugo_inj he
      exact lv_astore hx hb hd v7 hi rfl (fun ls' hl' => hW _ _ _ ⟨v1, okL_st1 v2 (okS_h v3), okS_t v3, v4, v5, v6, by rw [st1_len]; exact lv_less hl' st1_lp⟩)
    next => cases he
  next => cases he
theorem s_astore_n (C : CX p s m args meth c q D cid A) {i : Fin 4} (hd : decode q.2.1 pc = .ok (.astore_n i, 1)) (he : e_astore i (pc + 1) L S h = some (.inl (pc', L', S', h'))) (hW : WW p l e R s m args below meth c D cid ad A Ls xs cells slots Q pc' L' S' h') : WW p l e R s m args below meth c D cid ad A Ls xs cells slots Q pc L S h := by
  intro H locs ls V
  obtain ⟨hx, hb, hml, hown, hts, hlocks, hnm, hK, hA⟩ := C
  obtain ⟨v1, v2, v3, v4, v5, v6, v7⟩ := V
  unfold e_astore at he
  split at he
  next x S0 =>
    split at he
    next hi =>
      obtain ⟨rfl, rfl, rfl, rfl⟩ := ugo_inj he
      exact lv_astore_n hx hb hd rfl v7 hi rfl (fun ls' hl' => hW _ _ _ ⟨v1, okL_st1 v2 (okS_h v3), okS_t v3, v4, v5, v6, by rw [st1_len]; exact lv_less hl' st1_lp⟩)
    next => cases he
  next => cases he
theorem s_iinc (C : CX p s m args meth c q D cid A) {i : Nat} {n : Int} (hd : decode q.2.1 pc = .ok (.iinc i n, 3)) (he : e_iinc i (Int32.ofInt n) (pc + 3) L S h = some (.inl (pc', L', S', h'))) (hW : WW p l e R s m args below meth c D cid ad A Ls xs cells slots Q pc' L' S' h') : WW p l e R s m args below meth c D cid ad A Ls xs cells slots Q pc L S h := by
  intro H locs ls V
  obtain ⟨hx, hb, hml, hown, hts, hlocks, hnm, hK, hA⟩ := C
  obtain ⟨v1, v2, v3, v4, v5, v6, v7⟩ := V
  unfold e_iinc at he
  split at he
  next x hn =>
    split at he
    next hi =>
      obtain ⟨rfl, rfl, rfl, rfl⟩ := ugo_inj he
      obtain ⟨k, hk⟩ := List.getElem?_of_mem (nth_lp (f := ca ad) hn (by intro z; cases z))
      exact lv_iinc hx hb hd v7 hk rfl hi rfl (fun ls' hl' => hW _ _ _ ⟨v1, okL_st1 v2 trivial, v3, v4, v5, v6, by rw [st1_len]; exact lv_less hl' st1_lp⟩)
    next => cases he
  next => cases he
theorem s_iadd (C : CX p s m args meth c q D cid A) (hd : decode q.2.1 pc = .ok (.iadd, 1)) (he : e_bin (fun x y => x + y) (pc + 1) L S h = some (.inl (pc', L', S', h'))) (hW : WW p l e R s m args below meth c D cid ad A Ls xs cells slots Q pc' L' S' h') : WW p l e R s m args below meth c D cid ad A Ls xs cells slots Q pc L S h := by
  intro H locs ls V
  obtain ⟨hx, hb, hml, hown, hts, hlocks, hnm, hK, hA⟩ := C
  obtain ⟨v1, v2, v3, v4, v5, v6, v7⟩ := V
  unfold e_bin at he
  split at he
  next y x S0 =>
    obtain ⟨rfl, rfl, rfl, rfl⟩ := ugo_inj he
    exact lv_iadd hx hb hd (hW _ _ _ ⟨v1, v2, okS_c trivial (okS_t (okS_t v3)), v4, v5, v6, v7⟩)
  next => cases he
theorem s_isub (C : CX p s m args meth c q D cid A) (hd : decode q.2.1 pc = .ok (.isub, 1)) (he : e_bin (fun x y => x - y) (pc + 1) L S h = some (.inl (pc', L', S', h'))) (hW : WW p l e R s m args below meth c D cid ad A Ls xs cells slots Q pc' L' S' h') : WW p l e R s m args below meth c D cid ad A Ls xs cells slots Q pc L S h := by
  intro H locs ls V
  obtain ⟨hx, hb, hml, hown, hts, hlocks, hnm, hK, hA⟩ := C
  obtain ⟨v1, v2, v3, v4, v5, v6, v7⟩ := V
  unfold e_bin at he
  split at he
  next y x S0 =>
    obtain ⟨rfl, rfl, rfl, rfl⟩ := ugo_inj he
    exact lv_isub hx hb hd (hW _ _ _ ⟨v1, v2, okS_c trivial (okS_t (okS_t v3)), v4, v5, v6, v7⟩)
  next => cases he
theorem s_imul (C : CX p s m args meth c q D cid A) (hd : decode q.2.1 pc = .ok (.imul, 1)) (he : e_bin (fun x y => x * y) (pc + 1) L S h = some (.inl (pc', L', S', h'))) (hW : WW p l e R s m args below meth c D cid ad A Ls xs cells slots Q pc' L' S' h') : WW p l e R s m args below meth c D cid ad A Ls xs cells slots Q pc L S h := by
  intro H locs ls V
  obtain ⟨hx, hb, hml, hown, hts, hlocks, hnm, hK, hA⟩ := C
  obtain ⟨v1, v2, v3, v4, v5, v6, v7⟩ := V
  unfold e_bin at he
  split at he
  next y x S0 =>
    obtain ⟨rfl, rfl, rfl, rfl⟩ := ugo_inj he
    exact lv_imul hx hb hd (hW _ _ _ ⟨v1, v2, okS_c trivial (okS_t (okS_t v3)), v4, v5, v6, v7⟩)
  next => cases he
theorem s_iand (C : CX p s m args meth c q D cid A) (hd : decode q.2.1 pc = .ok (.iand, 1)) (he : e_bin (fun x y => x &&& y) (pc + 1) L S h = some (.inl (pc', L', S', h'))) (hW : WW p l e R s m args below meth c D cid ad A Ls xs cells slots Q pc' L' S' h') : WW p l e R s m args below meth c D cid ad A Ls xs cells slots Q pc L S h := by
  intro H locs ls V
  obtain ⟨hx, hb, hml, hown, hts, hlocks, hnm, hK, hA⟩ := C
  obtain ⟨v1, v2, v3, v4, v5, v6, v7⟩ := V
  unfold e_bin at he
  split at he
  next y x S0 =>
    obtain ⟨rfl, rfl, rfl, rfl⟩ := ugo_inj he
    exact lv_iand hx hb hd (hW _ _ _ ⟨v1, v2, okS_c trivial (okS_t (okS_t v3)), v4, v5, v6, v7⟩)
  next => cases he
theorem s_ior (C : CX p s m args meth c q D cid A) (hd : decode q.2.1 pc = .ok (.ior, 1)) (he : e_bin (fun x y => x ||| y) (pc + 1) L S h = some (.inl (pc', L', S', h'))) (hW : WW p l e R s m args below meth c D cid ad A Ls xs cells slots Q pc' L' S' h') : WW p l e R s m args below meth c D cid ad A Ls xs cells slots Q pc L S h := by
  intro H locs ls V
  obtain ⟨hx, hb, hml, hown, hts, hlocks, hnm, hK, hA⟩ := C
  obtain ⟨v1, v2, v3, v4, v5, v6, v7⟩ := V
  unfold e_bin at he
  split at he
  next y x S0 =>
    obtain ⟨rfl, rfl, rfl, rfl⟩ := ugo_inj he
    exact lv_ior hx hb hd (hW _ _ _ ⟨v1, v2, okS_c trivial (okS_t (okS_t v3)), v4, v5, v6, v7⟩)
  next => cases he
theorem s_ixor (C : CX p s m args meth c q D cid A) (hd : decode q.2.1 pc = .ok (.ixor, 1)) (he : e_bin (fun x y => x ^^^ y) (pc + 1) L S h = some (.inl (pc', L', S', h'))) (hW : WW p l e R s m args below meth c D cid ad A Ls xs cells slots Q pc' L' S' h') : WW p l e R s m args below meth c D cid ad A Ls xs cells slots Q pc L S h := by
  intro H locs ls V
  obtain ⟨hx, hb, hml, hown, hts, hlocks, hnm, hK, hA⟩ := C
  obtain ⟨v1, v2, v3, v4, v5, v6, v7⟩ := V
  unfold e_bin at he
  split at he
  next y x S0 =>
    obtain ⟨rfl, rfl, rfl, rfl⟩ := ugo_inj he
    exact lv_ixor hx hb hd (hW _ _ _ ⟨v1, v2, okS_c trivial (okS_t (okS_t v3)), v4, v5, v6, v7⟩)
  next => cases he
theorem s_ishl (C : CX p s m args meth c q D cid A) (hd : decode q.2.1 pc = .ok (.ishl, 1)) (he : e_bin (fun x y => x <<< (y &&& 31)) (pc + 1) L S h = some (.inl (pc', L', S', h'))) (hW : WW p l e R s m args below meth c D cid ad A Ls xs cells slots Q pc' L' S' h') : WW p l e R s m args below meth c D cid ad A Ls xs cells slots Q pc L S h := by
  intro H locs ls V
  obtain ⟨hx, hb, hml, hown, hts, hlocks, hnm, hK, hA⟩ := C
  obtain ⟨v1, v2, v3, v4, v5, v6, v7⟩ := V
  unfold e_bin at he
  split at he
  next y x S0 =>
    obtain ⟨rfl, rfl, rfl, rfl⟩ := ugo_inj he
    exact lv_ishl hx hb hd (hW _ _ _ ⟨v1, v2, okS_c trivial (okS_t (okS_t v3)), v4, v5, v6, v7⟩)
  next => cases he
theorem s_ishr (C : CX p s m args meth c q D cid A) (hd : decode q.2.1 pc = .ok (.ishr, 1)) (he : e_bin (fun x y => x >>> (y &&& 31)) (pc + 1) L S h = some (.inl (pc', L', S', h'))) (hW : WW p l e R s m args below meth c D cid ad A Ls xs cells slots Q pc' L' S' h') : WW p l e R s m args below meth c D cid ad A Ls xs cells slots Q pc L S h := by
  intro H locs ls V
  obtain ⟨hx, hb, hml, hown, hts, hlocks, hnm, hK, hA⟩ := C
  obtain ⟨v1, v2, v3, v4, v5, v6, v7⟩ := V
  unfold e_bin at he
  split at he
  next y x S0 =>
    obtain ⟨rfl, rfl, rfl, rfl⟩ := ugo_inj he
    exact lv_ishr hx hb hd (hW _ _ _ ⟨v1, v2, okS_c trivial (okS_t (okS_t v3)), v4, v5, v6, v7⟩)
  next => cases he
theorem s_iushr (C : CX p s m args meth c q D cid A) (hd : decode q.2.1 pc = .ok (.iushr, 1)) (he : e_bin (fun x y => (x.toUInt32 >>> (y.toUInt32 &&& Int32.toUInt32 31)).toInt32) (pc + 1) L S h = some (.inl (pc', L', S', h'))) (hW : WW p l e R s m args below meth c D cid ad A Ls xs cells slots Q pc' L' S' h') : WW p l e R s m args below meth c D cid ad A Ls xs cells slots Q pc L S h := by
  intro H locs ls V
  obtain ⟨hx, hb, hml, hown, hts, hlocks, hnm, hK, hA⟩ := C
  obtain ⟨v1, v2, v3, v4, v5, v6, v7⟩ := V
  unfold e_bin at he
  split at he
  next y x S0 =>
    obtain ⟨rfl, rfl, rfl, rfl⟩ := ugo_inj he
    exact lv_iushr hx hb hd rfl (hW _ _ _ ⟨v1, v2, okS_c trivial (okS_t (okS_t v3)), v4, v5, v6, v7⟩)
  next => cases he
theorem s_idiv (C : CX p s m args meth c q D cid A) (hd : decode q.2.1 pc = .ok (.idiv, 1)) (he : e_dvi (fun x y => x / y) (pc + 1) L S h = some (.inl (pc', L', S', h'))) (hW : WW p l e R s m args below meth c D cid ad A Ls xs cells slots Q pc' L' S' h') : WW p l e R s m args below meth c D cid ad A Ls xs cells slots Q pc L S h := by
  intro H locs ls V
  obtain ⟨hx, hb, hml, hown, hts, hlocks, hnm, hK, hA⟩ := C
  obtain ⟨v1, v2, v3, v4, v5, v6, v7⟩ := V
  unfold e_dvi at he
  split at he
  next y x S0 =>
    split at he
    next => cases he
    next hne =>
      obtain ⟨rfl, rfl, rfl, rfl⟩ := ugo_inj he
      exact lv_idiv hx hb hd hne (hW _ _ _ ⟨v1, v2, okS_c trivial (okS_t (okS_t v3)), v4, v5, v6, v7⟩)
  next => cases he
theorem s_irem (C : CX p s m args meth c q D cid A) (hd : decode q.2.1 pc = .ok (.irem, 1)) (he : e_dvi (fun x y => x - x / y * y) (pc + 1) L S h = some (.inl (pc', L', S', h'))) (hW : WW p l e R s m args below meth c D cid ad A Ls xs cells slots Q pc' L' S' h') : WW p l e R s m args below meth c D cid ad A Ls xs cells slots Q pc L S h := by
  intro H locs ls V
  obtain ⟨hx, hb, hml, hown, hts, hlocks, hnm, hK, hA⟩ := C
  obtain ⟨v1, v2, v3, v4, v5, v6, v7⟩ := V
  unfold e_dvi at he
  split at he
  next y x S0 =>
    split at he
    next => cases he
    next hne =>
      obtain ⟨rfl, rfl, rfl, rfl⟩ := ugo_inj he
      exact lv_irem hx hb hd hne (hW _ _ _ ⟨v1, v2, okS_c trivial (okS_t (okS_t v3)), v4, v5, v6, v7⟩)
  next => cases he
theorem s_ldiv (C : CX p s m args meth c q D cid A) (hd : decode q.2.1 pc = .ok (.ldiv, 1)) (he : e_ldv (fun x y => x / y) (pc + 1) L S h = some (.inl (pc', L', S', h'))) (hW : WW p l e R s m args below meth c D cid ad A Ls xs cells slots Q pc' L' S' h') : WW p l e R s m args below meth c D cid ad A Ls xs cells slots Q pc L S h := by
  intro H locs ls V
  obtain ⟨hx, hb, hml, hown, hts, hlocks, hnm, hK, hA⟩ := C
  obtain ⟨v1, v2, v3, v4, v5, v6, v7⟩ := V
  unfold e_ldv at he
  split at he
  next y x S0 =>
    split at he
    next => cases he
    next hne =>
      obtain ⟨rfl, rfl, rfl, rfl⟩ := ugo_inj he
      exact lv_ldiv hx hb hd hne (hW _ _ _ ⟨v1, v2, okS_c trivial (okS_t (okS_t v3)), v4, v5, v6, v7⟩)
  next => cases he
theorem s_lrem (C : CX p s m args meth c q D cid A) (hd : decode q.2.1 pc = .ok (.lrem, 1)) (he : e_ldv (fun x y => x - x / y * y) (pc + 1) L S h = some (.inl (pc', L', S', h'))) (hW : WW p l e R s m args below meth c D cid ad A Ls xs cells slots Q pc' L' S' h') : WW p l e R s m args below meth c D cid ad A Ls xs cells slots Q pc L S h := by
  intro H locs ls V
  obtain ⟨hx, hb, hml, hown, hts, hlocks, hnm, hK, hA⟩ := C
  obtain ⟨v1, v2, v3, v4, v5, v6, v7⟩ := V
  unfold e_ldv at he
  split at he
  next y x S0 =>
    split at he
    next => cases he
    next hne =>
      obtain ⟨rfl, rfl, rfl, rfl⟩ := ugo_inj he
      exact lv_lrem hx hb hd hne (hW _ _ _ ⟨v1, v2, okS_c trivial (okS_t (okS_t v3)), v4, v5, v6, v7⟩)
  next => cases he
theorem s_ladd (C : CX p s m args meth c q D cid A) (hd : decode q.2.1 pc = .ok (.ladd, 1)) (he : e_lbi (fun x y => x + y) (pc + 1) L S h = some (.inl (pc', L', S', h'))) (hW : WW p l e R s m args below meth c D cid ad A Ls xs cells slots Q pc' L' S' h') : WW p l e R s m args below meth c D cid ad A Ls xs cells slots Q pc L S h := by
  intro H locs ls V
  obtain ⟨hx, hb, hml, hown, hts, hlocks, hnm, hK, hA⟩ := C
  obtain ⟨v1, v2, v3, v4, v5, v6, v7⟩ := V
  unfold e_lbi at he
  split at he
  next y x S0 =>
    obtain ⟨rfl, rfl, rfl, rfl⟩ := ugo_inj he
    exact lv_ladd hx hb hd (hW _ _ _ ⟨v1, v2, okS_c trivial (okS_t (okS_t v3)), v4, v5, v6, v7⟩)
  next => cases he
theorem s_lmul (C : CX p s m args meth c q D cid A) (hd : decode q.2.1 pc = .ok (.lmul, 1)) (he : e_lbi (fun x y => x * y) (pc + 1) L S h = some (.inl (pc', L', S', h'))) (hW : WW p l e R s m args below meth c D cid ad A Ls xs cells slots Q pc' L' S' h') : WW p l e R s m args below meth c D cid ad A Ls xs cells slots Q pc L S h := by
  intro H locs ls V
  obtain ⟨hx, hb, hml, hown, hts, hlocks, hnm, hK, hA⟩ := C
  obtain ⟨v1, v2, v3, v4, v5, v6, v7⟩ := V
  unfold e_lbi at he
  split at he
  next y x S0 =>
    obtain ⟨rfl, rfl, rfl, rfl⟩ := ugo_inj he
    exact lv_lmul hx hb hd (hW _ _ _ ⟨v1, v2, okS_c trivial (okS_t (okS_t v3)), v4, v5, v6, v7⟩)
  next => cases he
theorem s_ineg (C : CX p s m args meth c q D cid A) (hd : decode q.2.1 pc = .ok (.ineg, 1)) (he : e_una (fun x => -x) (pc + 1) L S h = some (.inl (pc', L', S', h'))) (hW : WW p l e R s m args below meth c D cid ad A Ls xs cells slots Q pc' L' S' h') : WW p l e R s m args below meth c D cid ad A Ls xs cells slots Q pc L S h := by
  intro H locs ls V
  obtain ⟨hx, hb, hml, hown, hts, hlocks, hnm, hK, hA⟩ := C
  obtain ⟨v1, v2, v3, v4, v5, v6, v7⟩ := V
  unfold e_una at he
  split at he
  next x S0 =>
    obtain ⟨rfl, rfl, rfl, rfl⟩ := ugo_inj he
    exact lv_ineg hx hb hd (hW _ _ _ ⟨v1, v2, okS_c trivial (okS_t v3), v4, v5, v6, v7⟩)
  next => cases he
theorem s_i2b (C : CX p s m args meth c q D cid A) (hd : decode q.2.1 pc = .ok (.i2b, 1)) (he : e_una (fun x => x.toInt8.toInt32) (pc + 1) L S h = some (.inl (pc', L', S', h'))) (hW : WW p l e R s m args below meth c D cid ad A Ls xs cells slots Q pc' L' S' h') : WW p l e R s m args below meth c D cid ad A Ls xs cells slots Q pc L S h := by
  intro H locs ls V
  obtain ⟨hx, hb, hml, hown, hts, hlocks, hnm, hK, hA⟩ := C
  obtain ⟨v1, v2, v3, v4, v5, v6, v7⟩ := V
  unfold e_una at he
  split at he
  next x S0 =>
    obtain ⟨rfl, rfl, rfl, rfl⟩ := ugo_inj he
    exact lv_i2b hx hb hd rfl (hW _ _ _ ⟨v1, v2, okS_c trivial (okS_t v3), v4, v5, v6, v7⟩)
  next => cases he
theorem s_i2l (C : CX p s m args meth c q D cid A) (hd : decode q.2.1 pc = .ok (.i2l, 1)) (he : e_i2l (pc + 1) L S h = some (.inl (pc', L', S', h'))) (hW : WW p l e R s m args below meth c D cid ad A Ls xs cells slots Q pc' L' S' h') : WW p l e R s m args below meth c D cid ad A Ls xs cells slots Q pc L S h := by
  intro H locs ls V
  obtain ⟨hx, hb, hml, hown, hts, hlocks, hnm, hK, hA⟩ := C
  obtain ⟨v1, v2, v3, v4, v5, v6, v7⟩ := V
  unfold e_i2l at he
  split at he
  next x S0 =>
    obtain ⟨rfl, rfl, rfl, rfl⟩ := ugo_inj he
    exact lv_i2l hx hb hd rfl (hW _ _ _ ⟨v1, v2, okS_c trivial (okS_t v3), v4, v5, v6, v7⟩)
  next => cases he
theorem s_l2i (C : CX p s m args meth c q D cid A) (hd : decode q.2.1 pc = .ok (.l2i, 1)) (he : e_l2i (pc + 1) L S h = some (.inl (pc', L', S', h'))) (hW : WW p l e R s m args below meth c D cid ad A Ls xs cells slots Q pc' L' S' h') : WW p l e R s m args below meth c D cid ad A Ls xs cells slots Q pc L S h := by
  intro H locs ls V
  obtain ⟨hx, hb, hml, hown, hts, hlocks, hnm, hK, hA⟩ := C
  obtain ⟨v1, v2, v3, v4, v5, v6, v7⟩ := V
  unfold e_l2i at he
  split at he
  next x S0 =>
    obtain ⟨rfl, rfl, rfl, rfl⟩ := ugo_inj he
    exact lv_l2i hx hb hd rfl (hW _ _ _ ⟨v1, v2, okS_c trivial (okS_t v3), v4, v5, v6, v7⟩)
  next => cases he
theorem s_lcmp (C : CX p s m args meth c q D cid A) (hd : decode q.2.1 pc = .ok (.lcmp, 1)) (he : e_lcmp (pc + 1) L S h = some (.inl (pc', L', S', h'))) (hW : WW p l e R s m args below meth c D cid ad A Ls xs cells slots Q pc' L' S' h') : WW p l e R s m args below meth c D cid ad A Ls xs cells slots Q pc L S h := by
  intro H locs ls V
  obtain ⟨hx, hb, hml, hown, hts, hlocks, hnm, hK, hA⟩ := C
  obtain ⟨v1, v2, v3, v4, v5, v6, v7⟩ := V
  unfold e_lcmp at he
  split at he
  next y x S0 =>
    obtain ⟨rfl, rfl, rfl, rfl⟩ := ugo_inj he
    exact W.lcmp hx hb hd (hW _ _ _ ⟨v1, v2, okS_c trivial (okS_t (okS_t v3)), v4, v5, v6, v7⟩)
  next => cases he
theorem s_dup (C : CX p s m args meth c q D cid A) (hd : decode q.2.1 pc = .ok (.dup, 1)) (he : e_dup (pc + 1) L S h = some (.inl (pc', L', S', h'))) (hW : WW p l e R s m args below meth c D cid ad A Ls xs cells slots Q pc' L' S' h') : WW p l e R s m args below meth c D cid ad A Ls xs cells slots Q pc L S h := by
  intro H locs ls V
  obtain ⟨hx, hb, hml, hown, hts, hlocks, hnm, hK, hA⟩ := C
  obtain ⟨v1, v2, v3, v4, v5, v6, v7⟩ := V
  unfold e_dup at he
  split at he
  next v S0 =>
    split at he
    next hc =>
      obtain ⟨rfl, rfl, rfl, rfl⟩ := ugo_inj he
      exact lv_dup hx hb hd (by rw [ca_cat]; exact hc) (hW _ _ _ ⟨v1, v2, okS_c (okS_h v3) v3, v4, v5, v6, v7⟩)
    next => cases he
  next => cases he
theorem s_dup2 (C : CX p s m args meth c q D cid A) (hd : decode q.2.1 pc = .ok (.dup2, 1)) (he : e_dup2 (pc + 1) L S h = some (.inl (pc', L', S', h'))) (hW : WW p l e R s m args below meth c D cid ad A Ls xs cells slots Q pc' L' S' h') : WW p l e R s m args below meth c D cid ad A Ls xs cells slots Q pc L S h := by
  intro H locs ls V
  obtain ⟨hx, hb, hml, hown, hts, hlocks, hnm, hK, hA⟩ := C
  obtain ⟨v1, v2, v3, v4, v5, v6, v7⟩ := V
  unfold e_dup2 at he
  split at he
  next v u S0 =>
    split at he
    next hc =>
      obtain ⟨rfl, rfl, rfl, rfl⟩ := ugo_inj he
      exact lv_dup2_11 hx hb hd (by rw [ca_cat]; exact hc.1) (by rw [ca_cat]; exact hc.2) (hW _ _ _ ⟨v1, v2, okS_c (okS_h v3) (okS_c (okS_h (okS_t v3)) v3), v4, v5, v6, v7⟩)
    next => cases he
  next => cases he
theorem s_pop (C : CX p s m args meth c q D cid A) (hd : decode q.2.1 pc = .ok (.pop, 1)) (he : e_pop (pc + 1) L S h = some (.inl (pc', L', S', h'))) (hW : WW p l e R s m args below meth c D cid ad A Ls xs cells slots Q pc' L' S' h') : WW p l e R s m args below meth c D cid ad A Ls xs cells slots Q pc L S h := by
  intro H locs ls V
  obtain ⟨hx, hb, hml, hown, hts, hlocks, hnm, hK, hA⟩ := C
  obtain ⟨v1, v2, v3, v4, v5, v6, v7⟩ := V
  unfold e_pop at he
  split at he
  next v S0 =>
    split at he
    next hc =>
      obtain ⟨rfl, rfl, rfl, rfl⟩ := ugo_inj he
      exact lv_pop hx hb hd (by rw [ca_cat]; exact hc) (hW _ _ _ ⟨v1, v2, okS_t v3, v4, v5, v6, v7⟩)
    next => cases he
  next => cases he
theorem s_if_eq (C : CX p s m args meth c q D cid A) {off : Int} {t : Nat} (ht : (pc : Int) + off = (t : Int)) (hd : decode q.2.1 pc = .ok (.ifCond .eq off, 3)) (he : e_if .eq t (pc + 3) L S h = some (.inl (pc', L', S', h'))) (hW : WW p l e R s m args below meth c D cid ad A Ls xs cells slots Q pc' L' S' h') : WW p l e R s m args below meth c D cid ad A Ls xs cells slots Q pc L S h := by
  intro H locs ls V
  obtain ⟨hx, hb, hml, hown, hts, hlocks, hnm, hK, hA⟩ := C
  obtain ⟨v1, v2, v3, v4, v5, v6, v7⟩ := V
  unfold e_if at he
  split at he
  next x S0 =>
    dsimp only at he
    split at he
    next hc =>
      obtain ⟨rfl, rfl, rfl, rfl⟩ := ugo_inj he
      exact lv_if_eq hx hb hd ht (fun _ => (hW _ _ _ ⟨v1, v2, okS_t v3, v4, v5, v6, v7⟩)) (fun z => absurd hc z)
    next hc =>
      obtain ⟨rfl, rfl, rfl, rfl⟩ := ugo_inj he
      exact lv_if_eq hx hb hd ht (fun z => absurd z hc) (fun _ => (hW _ _ _ ⟨v1, v2, okS_t v3, v4, v5, v6, v7⟩))
  next => cases he
theorem s_cmp_eq (C : CX p s m args meth c q D cid A) {off : Int} {t : Nat} (ht : (pc : Int) + off = (t : Int)) (hd : decode q.2.1 pc = .ok (.if_icmp .eq off, 3)) (he : e_cmp .eq t (pc + 3) L S h = some (.inl (pc', L', S', h'))) (hW : WW p l e R s m args below meth c D cid ad A Ls xs cells slots Q pc' L' S' h') : WW p l e R s m args below meth c D cid ad A Ls xs cells slots Q pc L S h := by
  intro H locs ls V
  obtain ⟨hx, hb, hml, hown, hts, hlocks, hnm, hK, hA⟩ := C
  obtain ⟨v1, v2, v3, v4, v5, v6, v7⟩ := V
  unfold e_cmp at he
  split at he
  next y x S0 =>
    dsimp only at he
    split at he
    next hc =>
      obtain ⟨rfl, rfl, rfl, rfl⟩ := ugo_inj he
      exact lv_icmp_eq hx hb hd ht (fun _ => (hW _ _ _ ⟨v1, v2, okS_t (okS_t v3), v4, v5, v6, v7⟩)) (fun z => absurd hc z)
    next hc =>
      obtain ⟨rfl, rfl, rfl, rfl⟩ := ugo_inj he
      exact lv_icmp_eq hx hb hd ht (fun z => absurd z hc) (fun _ => (hW _ _ _ ⟨v1, v2, okS_t (okS_t v3), v4, v5, v6, v7⟩))
  next => cases he
theorem s_if_ne (C : CX p s m args meth c q D cid A) {off : Int} {t : Nat} (ht : (pc : Int) + off = (t : Int)) (hd : decode q.2.1 pc = .ok (.ifCond .ne off, 3)) (he : e_if .ne t (pc + 3) L S h = some (.inl (pc', L', S', h'))) (hW : WW p l e R s m args below meth c D cid ad A Ls xs cells slots Q pc' L' S' h') : WW p l e R s m args below meth c D cid ad A Ls xs cells slots Q pc L S h := by
  intro H locs ls V
  obtain ⟨hx, hb, hml, hown, hts, hlocks, hnm, hK, hA⟩ := C
  obtain ⟨v1, v2, v3, v4, v5, v6, v7⟩ := V
  unfold e_if at he
  split at he
  next x S0 =>
    dsimp only at he
    split at he
    next hc =>
      obtain ⟨rfl, rfl, rfl, rfl⟩ := ugo_inj he
      exact lv_if_ne hx hb hd ht (fun z => absurd hc z) (fun _ => (hW _ _ _ ⟨v1, v2, okS_t v3, v4, v5, v6, v7⟩))
    next hc =>
      obtain ⟨rfl, rfl, rfl, rfl⟩ := ugo_inj he
      exact lv_if_ne hx hb hd ht (fun _ => (hW _ _ _ ⟨v1, v2, okS_t v3, v4, v5, v6, v7⟩)) (fun z => absurd z hc)
  next => cases he
theorem s_cmp_ne (C : CX p s m args meth c q D cid A) {off : Int} {t : Nat} (ht : (pc : Int) + off = (t : Int)) (hd : decode q.2.1 pc = .ok (.if_icmp .ne off, 3)) (he : e_cmp .ne t (pc + 3) L S h = some (.inl (pc', L', S', h'))) (hW : WW p l e R s m args below meth c D cid ad A Ls xs cells slots Q pc' L' S' h') : WW p l e R s m args below meth c D cid ad A Ls xs cells slots Q pc L S h := by
  intro H locs ls V
  obtain ⟨hx, hb, hml, hown, hts, hlocks, hnm, hK, hA⟩ := C
  obtain ⟨v1, v2, v3, v4, v5, v6, v7⟩ := V
  unfold e_cmp at he
  split at he
  next y x S0 =>
    dsimp only at he
    split at he
    next hc =>
      obtain ⟨rfl, rfl, rfl, rfl⟩ := ugo_inj he
      exact lv_icmp_ne hx hb hd ht (fun z => absurd hc z) (fun _ => (hW _ _ _ ⟨v1, v2, okS_t (okS_t v3), v4, v5, v6, v7⟩))
    next hc =>
      obtain ⟨rfl, rfl, rfl, rfl⟩ := ugo_inj he
      exact lv_icmp_ne hx hb hd ht (fun _ => (hW _ _ _ ⟨v1, v2, okS_t (okS_t v3), v4, v5, v6, v7⟩)) (fun z => absurd z hc)
  next => cases he
theorem s_if_lt (C : CX p s m args meth c q D cid A) {off : Int} {t : Nat} (ht : (pc : Int) + off = (t : Int)) (hd : decode q.2.1 pc = .ok (.ifCond .lt off, 3)) (he : e_if .lt t (pc + 3) L S h = some (.inl (pc', L', S', h'))) (hW : WW p l e R s m args below meth c D cid ad A Ls xs cells slots Q pc' L' S' h') : WW p l e R s m args below meth c D cid ad A Ls xs cells slots Q pc L S h := by
  intro H locs ls V
  obtain ⟨hx, hb, hml, hown, hts, hlocks, hnm, hK, hA⟩ := C
  obtain ⟨v1, v2, v3, v4, v5, v6, v7⟩ := V
  unfold e_if at he
  split at he
  next x S0 =>
    dsimp only at he
    split at he
    next hc =>
      obtain ⟨rfl, rfl, rfl, rfl⟩ := ugo_inj he
      exact lv_if_lt hx hb hd ht (fun _ => (hW _ _ _ ⟨v1, v2, okS_t v3, v4, v5, v6, v7⟩)) (fun z => absurd hc z)
    next hc =>
      obtain ⟨rfl, rfl, rfl, rfl⟩ := ugo_inj he
      exact lv_if_lt hx hb hd ht (fun z => absurd z hc) (fun _ => (hW _ _ _ ⟨v1, v2, okS_t v3, v4, v5, v6, v7⟩))
  next => cases he
theorem s_cmp_lt (C : CX p s m args meth c q D cid A) {off : Int} {t : Nat} (ht : (pc : Int) + off = (t : Int)) (hd : decode q.2.1 pc = .ok (.if_icmp .lt off, 3)) (he : e_cmp .lt t (pc + 3) L S h = some (.inl (pc', L', S', h'))) (hW : WW p l e R s m args below meth c D cid ad A Ls xs cells slots Q pc' L' S' h') : WW p l e R s m args below meth c D cid ad A Ls xs cells slots Q pc L S h := by
  intro H locs ls V
  obtain ⟨hx, hb, hml, hown, hts, hlocks, hnm, hK, hA⟩ := C
  obtain ⟨v1, v2, v3, v4, v5, v6, v7⟩ := V
  unfold e_cmp at he
  split at he
  next y x S0 =>
    dsimp only at he
    split at he
    next hc =>
      obtain ⟨rfl, rfl, rfl, rfl⟩ := ugo_inj he
      exact lv_icmp_lt hx hb hd ht (fun _ => (hW _ _ _ ⟨v1, v2, okS_t (okS_t v3), v4, v5, v6, v7⟩)) (fun z => absurd hc z)
    next hc =>
      obtain ⟨rfl, rfl, rfl, rfl⟩ := ugo_inj he
      exact lv_icmp_lt hx hb hd ht (fun z => absurd z hc) (fun _ => (hW _ _ _ ⟨v1, v2, okS_t (okS_t v3), v4, v5, v6, v7⟩))
  next => cases he
theorem s_if_ge (C : CX p s m args meth c q D cid A) {off : Int} {t : Nat} (ht : (pc : Int) + off = (t : Int)) (hd : decode q.2.1 pc = .ok (.ifCond .ge off, 3)) (he : e_if .ge t (pc + 3) L S h = some (.inl (pc', L', S', h'))) (hW : WW p l e R s m args below meth c D cid ad A Ls xs cells slots Q pc' L' S' h') : WW p l e R s m args below meth c D cid ad A Ls xs cells slots Q pc L S h := by
  intro H locs ls V
  obtain ⟨hx, hb, hml, hown, hts, hlocks, hnm, hK, hA⟩ := C
  obtain ⟨v1, v2, v3, v4, v5, v6, v7⟩ := V
  unfold e_if at he
  split at he
  next x S0 =>
    dsimp only at he
    split at he
    next hc =>
      obtain ⟨rfl, rfl, rfl, rfl⟩ := ugo_inj he
      exact lv_if_ge hx hb hd ht (fun _ => (hW _ _ _ ⟨v1, v2, okS_t v3, v4, v5, v6, v7⟩)) (fun z => absurd hc z)
    next hc =>
      obtain ⟨rfl, rfl, rfl, rfl⟩ := ugo_inj he
      exact lv_if_ge hx hb hd ht (fun z => absurd z hc) (fun _ => (hW _ _ _ ⟨v1, v2, okS_t v3, v4, v5, v6, v7⟩))
  next => cases he
theorem s_cmp_ge (C : CX p s m args meth c q D cid A) {off : Int} {t : Nat} (ht : (pc : Int) + off = (t : Int)) (hd : decode q.2.1 pc = .ok (.if_icmp .ge off, 3)) (he : e_cmp .ge t (pc + 3) L S h = some (.inl (pc', L', S', h'))) (hW : WW p l e R s m args below meth c D cid ad A Ls xs cells slots Q pc' L' S' h') : WW p l e R s m args below meth c D cid ad A Ls xs cells slots Q pc L S h := by
  intro H locs ls V
  obtain ⟨hx, hb, hml, hown, hts, hlocks, hnm, hK, hA⟩ := C
  obtain ⟨v1, v2, v3, v4, v5, v6, v7⟩ := V
  unfold e_cmp at he
  split at he
  next y x S0 =>
    dsimp only at he
    split at he
    next hc =>
      obtain ⟨rfl, rfl, rfl, rfl⟩ := ugo_inj he
      exact lv_icmp_ge hx hb hd ht (fun _ => (hW _ _ _ ⟨v1, v2, okS_t (okS_t v3), v4, v5, v6, v7⟩)) (fun z => absurd hc z)
    next hc =>
      obtain ⟨rfl, rfl, rfl, rfl⟩ := ugo_inj he
      exact lv_icmp_ge hx hb hd ht (fun z => absurd z hc) (fun _ => (hW _ _ _ ⟨v1, v2, okS_t (okS_t v3), v4, v5, v6, v7⟩))
  next => cases he
theorem s_if_gt (C : CX p s m args meth c q D cid A) {off : Int} {t : Nat} (ht : (pc : Int) + off = (t : Int)) (hd : decode q.2.1 pc = .ok (.ifCond .gt off, 3)) (he : e_if .gt t (pc + 3) L S h = some (.inl (pc', L', S', h'))) (hW : WW p l e R s m args below meth c D cid ad A Ls xs cells slots Q pc' L' S' h') : WW p l e R s m args below meth c D cid ad A Ls xs cells slots Q pc L S h := by
  intro H locs ls V
  obtain ⟨hx, hb, hml, hown, hts, hlocks, hnm, hK, hA⟩ := C
  obtain ⟨v1, v2, v3, v4, v5, v6, v7⟩ := V
  unfold e_if at he
  split at he
  next x S0 =>
    dsimp only at he
    split at he
    next hc =>
      obtain ⟨rfl, rfl, rfl, rfl⟩ := ugo_inj he
      exact lv_if_gt hx hb hd ht (fun _ => (hW _ _ _ ⟨v1, v2, okS_t v3, v4, v5, v6, v7⟩)) (fun z => absurd hc z)
    next hc =>
      obtain ⟨rfl, rfl, rfl, rfl⟩ := ugo_inj he
      exact lv_if_gt hx hb hd ht (fun z => absurd z hc) (fun _ => (hW _ _ _ ⟨v1, v2, okS_t v3, v4, v5, v6, v7⟩))
  next => cases he
theorem s_cmp_gt (C : CX p s m args meth c q D cid A) {off : Int} {t : Nat} (ht : (pc : Int) + off = (t : Int)) (hd : decode q.2.1 pc = .ok (.if_icmp .gt off, 3)) (he : e_cmp .gt t (pc + 3) L S h = some (.inl (pc', L', S', h'))) (hW : WW p l e R s m args below meth c D cid ad A Ls xs cells slots Q pc' L' S' h') : WW p l e R s m args below meth c D cid ad A Ls xs cells slots Q pc L S h := by
  intro H locs ls V
  obtain ⟨hx, hb, hml, hown, hts, hlocks, hnm, hK, hA⟩ := C
  obtain ⟨v1, v2, v3, v4, v5, v6, v7⟩ := V
  unfold e_cmp at he
  split at he
  next y x S0 =>
    dsimp only at he
    split at he
    next hc =>
      obtain ⟨rfl, rfl, rfl, rfl⟩ := ugo_inj he
      exact lv_icmp_gt hx hb hd ht (fun _ => (hW _ _ _ ⟨v1, v2, okS_t (okS_t v3), v4, v5, v6, v7⟩)) (fun z => absurd hc z)
    next hc =>
      obtain ⟨rfl, rfl, rfl, rfl⟩ := ugo_inj he
      exact lv_icmp_gt hx hb hd ht (fun z => absurd z hc) (fun _ => (hW _ _ _ ⟨v1, v2, okS_t (okS_t v3), v4, v5, v6, v7⟩))
  next => cases he
theorem s_if_le (C : CX p s m args meth c q D cid A) {off : Int} {t : Nat} (ht : (pc : Int) + off = (t : Int)) (hd : decode q.2.1 pc = .ok (.ifCond .le off, 3)) (he : e_if .le t (pc + 3) L S h = some (.inl (pc', L', S', h'))) (hW : WW p l e R s m args below meth c D cid ad A Ls xs cells slots Q pc' L' S' h') : WW p l e R s m args below meth c D cid ad A Ls xs cells slots Q pc L S h := by
  intro H locs ls V
  obtain ⟨hx, hb, hml, hown, hts, hlocks, hnm, hK, hA⟩ := C
  obtain ⟨v1, v2, v3, v4, v5, v6, v7⟩ := V
  unfold e_if at he
  split at he
  next x S0 =>
    dsimp only at he
    split at he
    next hc =>
      obtain ⟨rfl, rfl, rfl, rfl⟩ := ugo_inj he
      exact lv_if_le hx hb hd ht (fun _ => (hW _ _ _ ⟨v1, v2, okS_t v3, v4, v5, v6, v7⟩)) (fun z => absurd hc z)
    next hc =>
      obtain ⟨rfl, rfl, rfl, rfl⟩ := ugo_inj he
      exact lv_if_le hx hb hd ht (fun z => absurd z hc) (fun _ => (hW _ _ _ ⟨v1, v2, okS_t v3, v4, v5, v6, v7⟩))
  next => cases he
theorem s_cmp_le (C : CX p s m args meth c q D cid A) {off : Int} {t : Nat} (ht : (pc : Int) + off = (t : Int)) (hd : decode q.2.1 pc = .ok (.if_icmp .le off, 3)) (he : e_cmp .le t (pc + 3) L S h = some (.inl (pc', L', S', h'))) (hW : WW p l e R s m args below meth c D cid ad A Ls xs cells slots Q pc' L' S' h') : WW p l e R s m args below meth c D cid ad A Ls xs cells slots Q pc L S h := by
  intro H locs ls V
  obtain ⟨hx, hb, hml, hown, hts, hlocks, hnm, hK, hA⟩ := C
  obtain ⟨v1, v2, v3, v4, v5, v6, v7⟩ := V
  unfold e_cmp at he
  split at he
  next y x S0 =>
    dsimp only at he
    split at he
    next hc =>
      obtain ⟨rfl, rfl, rfl, rfl⟩ := ugo_inj he
      exact lv_icmp_le hx hb hd ht (fun _ => (hW _ _ _ ⟨v1, v2, okS_t (okS_t v3), v4, v5, v6, v7⟩)) (fun z => absurd hc z)
    next hc =>
      obtain ⟨rfl, rfl, rfl, rfl⟩ := ugo_inj he
      exact lv_icmp_le hx hb hd ht (fun z => absurd z hc) (fun _ => (hW _ _ _ ⟨v1, v2, okS_t (okS_t v3), v4, v5, v6, v7⟩))
  next => cases he
theorem s_goto (C : CX p s m args meth c q D cid A) {off : Int} {t : Nat} (ht : (pc : Int) + off = (t : Int)) (hd : decode q.2.1 pc = .ok (.goto off, 3)) (he : ugo t L S h = some (.inl (pc', L', S', h'))) (hW : WW p l e R s m args below meth c D cid ad A Ls xs cells slots Q pc' L' S' h') : WW p l e R s m args below meth c D cid ad A Ls xs cells slots Q pc L S h := by
  intro H locs ls V
  obtain ⟨hx, hb, hml, hown, hts, hlocks, hnm, hK, hA⟩ := C
  obtain ⟨v1, v2, v3, v4, v5, v6, v7⟩ := V
  obtain ⟨rfl, rfl, rfl, rfl⟩ := ugo_inj he
  exact lv_goto hx hb hd ht (hW _ _ _ ⟨v1, v2, v3, v4, v5, v6, v7⟩)
theorem s_tsw (C : CX p s m args meth c q D cid A) {d lo hi : Int} {offs : Array Int} {len : Nat} (hd : decode q.2.1 pc = .ok (.tableswitch d lo hi offs, len)) (he : e_tsw pc d lo hi offs L S h = some (.inl (pc', L', S', h'))) (hW : WW p l e R s m args below meth c D cid ad A Ls xs cells slots Q pc' L' S' h') : WW p l e R s m args below meth c D cid ad A Ls xs cells slots Q pc L S h := by
  intro H locs ls V
  obtain ⟨hx, hb, hml, hown, hts, hlocks, hnm, hK, hA⟩ := C
  obtain ⟨v1, v2, v3, v4, v5, v6, v7⟩ := V
  unfold e_tsw at he
  split at he
  next x S0 =>
    split at he
    next hc =>
      unfold e_jmp at he
      split at he
      next h0 =>
        obtain ⟨rfl, rfl, rfl, rfl⟩ := ugo_inj he
        exact lv_tableOut hx hb hd hc (by omega) (hW _ _ _ ⟨v1, v2, okS_t v3, v4, v5, v6, v7⟩)
      next => cases he
    next hc =>
      split at he
      next off ho =>
        unfold e_jmp at he
        split at he
        next h0 =>
          obtain ⟨rfl, rfl, rfl, rfl⟩ := ugo_inj he
          exact lv_tableIn hx hb hd (fun z => hc (Or.inl z)) (fun z => hc (Or.inr z)) ho (by omega) (hW _ _ _ ⟨v1, v2, okS_t v3, v4, v5, v6, v7⟩)
        next => cases he
      next => cases he
  next => cases he
theorem s_lsw (C : CX p s m args meth c q D cid A) {d : Int} {ps : Array (Int × Int)} {len : Nat} (hd : decode q.2.1 pc = .ok (.lookupswitch d ps, len)) (he : e_lsw pc d ps L S h = some (.inl (pc', L', S', h'))) (hW : WW p l e R s m args below meth c D cid ad A Ls xs cells slots Q pc' L' S' h') : WW p l e R s m args below meth c D cid ad A Ls xs cells slots Q pc L S h := by
  intro H locs ls V
  obtain ⟨hx, hb, hml, hown, hts, hlocks, hnm, hK, hA⟩ := C
  obtain ⟨v1, v2, v3, v4, v5, v6, v7⟩ := V
  unfold e_lsw at he
  split at he
  next x S0 =>
    split at he
    next hc =>
      unfold e_jmp at he
      split at he
      next h0 =>
        obtain ⟨rfl, rfl, rfl, rfl⟩ := ugo_inj he
        exact lv_lookup hx hb hd hc rfl (by omega) (hW _ _ _ ⟨v1, v2, okS_t v3, v4, v5, v6, v7⟩)
      next => cases he
    next => cases he
  next => cases he
/-- what the tables say of a field: class cj's slot k, by the entry idx of the method's own class -/
def FX (args : Array Value) (s : State) (own : String) (idx k cj : Nat) : Prop := ∃ (C : String) (T : u_T) (N : Nat), vwCl[cj]? = some (C, T, N) ∧ k < N ∧ (∀ w ∈ u_ws C T N, w ∈ TTg) ∧ ((Cond.fieldLink own idx (T k).1 (T k).2.1 (T k).2.2.1).before args s = true ∨ ∃ host, (Cond.fieldLinkNest own idx (T k).1 (T k).2.1 (T k).2.2.1 host).before args s = true)
theorem s_getf (C : CX p s m args meth c q D cid A) {idx k ci : Nat} (hF : ∀ cj, gclB ci cj = true → FX args s q.1.cls idx k cj) (hd : decode q.2.1 pc = .ok (.getfield idx, 3)) (he : e_getf k ci (pc + 3) L S h = some (.inl (pc', L', S', h'))) (hW : WW p l e R s m args below meth c D cid ad A Ls xs cells slots Q pc' L' S' h') : WW p l e R s m args below meth c D cid ad A Ls xs cells slots Q pc L S h := by
  intro H locs ls V
  obtain ⟨hx, hb, hml, hown, hts, hlocks, hnm, hK, hA⟩ := C
  obtain ⟨v1, v2, v3, v4, v5, v6, v7⟩ := V
  unfold e_getf at he
  split at he
  next a S0 =>
    · unfold e_gf1 at he
      split at he
      next cj fs hc =>
        have ha := hlt v1 hc (fun _ _ z => by cases z)
        split at he
        next hg =>
          split at he
          next v hv =>
            obtain ⟨rfl, rfl, rfl, rfl⟩ := ugo_inj he
            obtain ⟨C, T, N, f1, f2, f3, f4⟩ := hF cj hg
            have ho : okv h'.1 v := (hg_ok v1 ha hc) v (List.mem_of_getElem? hv)
            have hW' := hW _ _ _ ⟨v1, v2, okS_c ho (okS_t v3), v4, v5, v6, v7⟩
            have hv' : (fs.map (ca ad))[k]? = some (ca ad v) := by rw [List.getElem?_map, hv]; rfl
            rcases f4 with f4 | ⟨host, f4⟩
            · exact va_get (D := D) (ci := cj) (C := C) (T := T) (N := N) hx hb hts f3 hown hK v4 a (wsO_get ha hc) f1 k f2 f4 (fun _ z => z) hv' hd hW'
            · exact va_getN (D := D) (ci := cj) (C := C) (T := T) (N := N) hx hb hts f3 hown hK v4 a (wsO_get ha hc) f1 k f2 f4 (fun _ z => z) hv' hd hW'
          next => cases he
        next => cases he
      next => cases he
  next => cases he
def tyk : FieldType → Nat
  | .int => 0
  | .long => 1
  | .object _ => 2
  | .array _ => 2
  | _ => 3
theorem kok_fit {kind : Nat} {v : Value} {ty : FieldType} (ad : Nat → Nat) (h : kok kind v = true) (ht : tyk ty = kind % 10) : narrow ty (ca ad v) = ca ad v ∧ fits ty (ca ad v) = true := by
  cases v <;> simp only [kok, beq_iff_eq] at h
  all_goals first | (exact absurd h (by decide)) | (rw [h] at ht; cases ty <;> simp [tyk] at ht <;> exact ⟨rfl, rfl⟩)
def FP (args : Array Value) (s : State) (own nm : String) (idx k kind cj : Nat) : Prop := ∃ (C : String) (T : u_T) (N : Nat) (ty : Nat → FieldType), vwCl[cj]? = some (C, T, N) ∧ k < N ∧ (∀ w ∈ u_ws C T N, w ∈ TTg) ∧ (∀ k, k < N → parseFieldDescriptor (T k).2.2.1 = some (ty k)) ∧ (∀ a, a < N → ∀ b, b < N → a ≠ b → (T a).2.1 ≠ (T b).2.1) ∧ tyk (ty k) = kind % 10 ∧ (((T k).2.2.2 = false ∧ ((Cond.fieldLink own idx (T k).1 (T k).2.1 (T k).2.2.1).before args s = true ∨ ∃ host, (Cond.fieldLinkNest own idx (T k).1 (T k).2.1 (T k).2.2.1 host).before args s = true)) ∨ ((T k).2.2.2 = true ∧ nm = "<init>" ∧ (T k).1 = own ∧ (Cond.fieldLink own idx (T k).1 (T k).2.1 (T k).2.2.1).before args s = true))
theorem s_putf (C : CX p s m args meth c q D cid A) {idx k ci kind : Nat} (hF : ∀ cj, gclB ci cj = true → FP args s q.1.cls q.1.name idx k kind cj) (hd : decode q.2.1 pc = .ok (.putfield idx, 3)) (he : e_putf k ci kind (pc + 3) L S h = some (.inl (pc', L', S', h'))) (hW : WW p l e R s m args below meth c D cid ad A Ls xs cells slots Q pc' L' S' h') : WW p l e R s m args below meth c D cid ad A Ls xs cells slots Q pc L S h := by
  intro H locs ls V
  obtain ⟨hx, hb, hml, hown, hts, hlocks, hnm, hK, hA⟩ := C
  obtain ⟨v1, v2, v3, v4, v5, v6, v7⟩ := V
  unfold e_putf at he
  split at he
  next v a S0 =>
    · unfold e_pf1 at he
      split at he
      next cj fs hc =>
        have ha := hlt v1 hc (fun _ _ z => by cases z)
        split at he
        next hg =>
          obtain ⟨hg, hk, hv⟩ := hg
          obtain ⟨rfl, rfl, rfl, rfl⟩ := ugo_inj he
          obtain ⟨C, T, N, ty, f1, f2, f3, f4, f5, f6, f7⟩ := hF cj hg
          obtain ⟨n1, n2⟩ := kok_fit ad hv f6
          have hoc : okc h.1 (ob cj (fs.set k v)) := by
            intro w hw
            rcases List.mem_or_eq_of_mem_set hw with hw | rfl
            · exact (hg_ok v1 ha hc) w hw
            · exact okS_h v3
          have key : ∀ (H1 : Heap) (locs1 : List Loc), va_P D vwCl ((wsO cid ad h).set a (ad a, .inr (cj, (fs.map (ca ad)).set k (ca ad v)))) H1 → va_D A ((wsO cid ad h).set a (ad a, .inr (cj, (fs.map (ca ad)).set k (ca ad v)))) → va_S A s.heap H1 locs1 → W p l e R s m args below meth c H1 locs1 cells slots Q (F0 m (pc + 3) ls (S'.map (ca ad))) := by
            intro H1 locs1 g1 g2 g3
            rw [← List.map_set] at g1 g2
            refine hW H1 locs1 ls ⟨hwf_put v1 ha hoc, v2, okS_t (okS_t v3), ?_, ?_, g3, v7⟩
            · rw [wsO_put ha]; exact g1
            · rw [wsO_put ha]; exact g2
          have hl : k < (fs.map (ca ad)).length := by rw [List.length_map]; exact hk
          rcases f7 with ⟨f7, f8 | ⟨host, f8⟩⟩ | ⟨f7, f8, f9, f10⟩
          · exact va_put (D := D) (ci := cj) (C := C) (T := T) (N := N) hx hb hts f3 ty f4 f5 hown hK v4 v5 v6 a (wsO_get ha hc) f1 k f2 f8 (fun _ z => z) f7 (f4 k f2) n1 n2 hl hd key
          · exact va_putN (D := D) (ci := cj) (C := C) (T := T) (N := N) hx hb hts f3 ty f4 f5 hown hK v4 v5 v6 a (wsO_get ha hc) f1 k f2 f8 (fun _ z => z) f7 (f4 k f2) n1 n2 hl hd key
          · exact va_putF (D := D) (ci := cj) (C := C) (T := T) (N := N) hx hb hts f3 ty f4 f5 hown hK v4 v5 v6 a (wsO_get ha hc) f1 k f2 f10 (fun _ z => z) f7 (hnm.trans f8) f9 (f4 k f2) n1 n2 hl hd key
        next => cases he
      next => cases he
  next => cases he
/-- the script: outside the world, an int array of length Ls with the values xs -/
def XX (ad : Nat → Nat) (A : Nat → Prop) (Ls : Nat) (xs : Nat → Int32) (s : State) : Prop := va_X (ad icSc) Ls xs s s.heap ∧ ad icSc < s.heap.size ∧ ¬ A (ad icSc)
theorem s_iald (C : CX p s m args meth c q D cid A) (hX : XX ad A Ls xs s) (hd : decode q.2.1 pc = .ok (.iaload, 1)) (he : e_iald (pc + 1) L S h = some (.inl (pc', L', S', h'))) (hW : WW p l e R s m args below meth c D cid ad A Ls xs cells slots Q pc' L' S' h') : WW p l e R s m args below meth c D cid ad A Ls xs cells slots Q pc L S h := by
  intro H locs ls V
  obtain ⟨hx, hb, hml, hown, hts, hlocks, hnm, hK, hA⟩ := C
  obtain ⟨v1, v2, v3, v4, v5, v6, v7⟩ := V
  unfold e_iald at he
  split at he
  next i a S0 =>
    unfold e_ia1 at he
    split at he
    next n f hc =>
      split at he
      next hi =>
        obtain ⟨rfl, rfl, rfl, rfl⟩ := ugo_inj he
        exact va_iald hx hb hK v4 a 0 (wsO_get (hlt v1 hc (fun _ _ z => by cases z)) hc) rfl (vp_in_iff.mpr hi) hd (hW H locs ls ⟨v1, v2, okS_c trivial (okS_t (okS_t v3)), v4, v5, v6, v7⟩)
      next => cases he
    next n f hc =>
      split at he
      next hi =>
        obtain ⟨rfl, rfl, rfl, rfl⟩ := ugo_inj he
        have hin : vp_in i n := vp_in_iff.mpr hi
        have hW' := hW H locs ls ⟨v1, v2, okS_c trivial (okS_t (okS_t v3)), v4, v5, v6, v7⟩
        rcases v1.2.2 a _ hc with ha | ⟨rfl, hc2⟩
        · obtain ⟨d, hd1, hd2⟩ := v1.2.1 a ha
          have e0 : d = as7 n f := Option.some.inj (hd1.symm.trans hc)
          rw [e0] at hd2
          exact hd2.elim
        · simp only [Sum.inl.injEq, Prod.mk.injEq, true_and] at hc2
          obtain ⟨rfl, rfl⟩ := hc2
          exact va_sld hx hb hX.1 hX.2.1 hX.2.2 v6 hin hd hW'
      next => cases he
    next => cases he
  next => cases he
theorem s_alen (C : CX p s m args meth c q D cid A) (hX : XX ad A Ls xs s) (hd : decode q.2.1 pc = .ok (.arraylength, 1)) (he : e_alen (pc + 1) L S h = some (.inl (pc', L', S', h'))) (hW : WW p l e R s m args below meth c D cid ad A Ls xs cells slots Q pc' L' S' h') : WW p l e R s m args below meth c D cid ad A Ls xs cells slots Q pc L S h := by
  intro H locs ls V
  obtain ⟨hx, hb, hml, hown, hts, hlocks, hnm, hK, hA⟩ := C
  obtain ⟨v1, v2, v3, v4, v5, v6, v7⟩ := V
  unfold e_alen at he
  split at he
  next a S0 =>
    unfold e_al1 at he
    split at he
    next n f hc =>
      obtain ⟨rfl, rfl, rfl, rfl⟩ := ugo_inj he
      exact va_alen hx hb hK v4 a 0 (wsO_get (hlt v1 hc (fun _ _ z => by cases z)) hc) (ty := .int) rfl rfl hd (hW H locs ls ⟨v1, v2, okS_c trivial (okS_t v3), v4, v5, v6, v7⟩)
    next n f hc =>
      obtain ⟨rfl, rfl, rfl, rfl⟩ := ugo_inj he
      have hW' := hW H locs ls ⟨v1, v2, okS_c trivial (okS_t v3), v4, v5, v6, v7⟩
      rcases v1.2.2 a _ hc with ha | ⟨rfl, hc2⟩
      · obtain ⟨d, hd1, hd2⟩ := v1.2.1 a ha
        have e0 : d = as7 n f := Option.some.inj (hd1.symm.trans hc)
        rw [e0] at hd2
        exact hd2.elim
      · simp only [Sum.inl.injEq, Prod.mk.injEq, true_and] at hc2
        obtain ⟨rfl, rfl⟩ := hc2
        exact va_slen hx hb hX.1 hX.2.1 hX.2.2 v6 hd hW'
    next => cases he
  next => cases he
theorem s_bald (C : CX p s m args meth c q D cid A) (hd : decode q.2.1 pc = .ok (.baload, 1)) (he : e_bald (pc + 1) L S h = some (.inl (pc', L', S', h'))) (hW : WW p l e R s m args below meth c D cid ad A Ls xs cells slots Q pc' L' S' h') : WW p l e R s m args below meth c D cid ad A Ls xs cells slots Q pc L S h := by
  intro H locs ls V
  obtain ⟨hx, hb, hml, hown, hts, hlocks, hnm, hK, hA⟩ := C
  obtain ⟨v1, v2, v3, v4, v5, v6, v7⟩ := V
  unfold e_bald at he
  split at he
  next i a S0 =>
    · unfold e_ba1 at he
      split at he
      next n f hc =>
        have ha := hlt v1 hc (fun _ _ z => by cases z)
        split at he
        next hi =>
          obtain ⟨rfl, rfl, rfl, rfl⟩ := ugo_inj he
          exact va_bald hx hb hK v4 a 1 (wsO_get ha hc) rfl (vp_in_iff.mpr hi) hd (hW H locs ls ⟨v1, v2, okS_c trivial (okS_t (okS_t v3)), v4, v5, v6, v7⟩)
        next => cases he
      next n f hc =>
        have ha := hlt v1 hc (fun _ _ z => by cases z)
        split at he
        next hi =>
          obtain ⟨rfl, rfl, rfl, rfl⟩ := ugo_inj he
          exact va_zald hx hb hK v4 a 2 (wsO_get ha hc) rfl (vp_in_iff.mpr hi) hd (hW H locs ls ⟨v1, v2, okS_c trivial (okS_t (okS_t v3)), v4, v5, v6, v7⟩)
        next => cases he
      next => cases he
  next => cases he
theorem s_iast (C : CX p s m args meth c q D cid A) (hd : decode q.2.1 pc = .ok (.iastore, 1)) (he : e_iast (pc + 1) L S h = some (.inl (pc', L', S', h'))) (hW : WW p l e R s m args below meth c D cid ad A Ls xs cells slots Q pc' L' S' h') : WW p l e R s m args below meth c D cid ad A Ls xs cells slots Q pc L S h := by
  intro H locs ls V
  obtain ⟨hx, hb, hml, hown, hts, hlocks, hnm, hK, hA⟩ := C
  obtain ⟨v1, v2, v3, v4, v5, v6, v7⟩ := V
  unfold e_iast at he
  split at he
  next x i a S0 =>
    · unfold e_is1 at he
      split at he
      next n f hc =>
        have ha := hlt v1 hc (fun _ _ z => by cases z)
        split at he
        next hi =>
          obtain ⟨rfl, rfl, rfl, rfl⟩ := ugo_inj he
          refine va_iast hx hb hK v4 v5 v6 a 0 (wsO_get ha hc) rfl (vp_in_iff.mpr hi) hd (fun H1 locs1 g1 g2 g3 => hW H1 locs1 ls ⟨hwf_put v1 ha trivial, v2, okS_t (okS_t (okS_t v3)), ?_, ?_, g3, v7⟩)
          · rw [wsO_put ha]; exact g1
          · rw [wsO_put ha]; exact g2
        next => cases he
      next => cases he
  next => cases he
theorem s_bast (C : CX p s m args meth c q D cid A) (hd : decode q.2.1 pc = .ok (.bastore, 1)) (he : e_bast (pc + 1) L S h = some (.inl (pc', L', S', h'))) (hW : WW p l e R s m args below meth c D cid ad A Ls xs cells slots Q pc' L' S' h') : WW p l e R s m args below meth c D cid ad A Ls xs cells slots Q pc L S h := by
  intro H locs ls V
  obtain ⟨hx, hb, hml, hown, hts, hlocks, hnm, hK, hA⟩ := C
  obtain ⟨v1, v2, v3, v4, v5, v6, v7⟩ := V
  unfold e_bast at he
  split at he
  next x i a S0 =>
    · unfold e_bs1 at he
      split at he
      next n f hc =>
        have ha := hlt v1 hc (fun _ _ z => by cases z)
        split at he
        next hi =>
          obtain ⟨rfl, rfl, rfl, rfl⟩ := ugo_inj he
          refine va_bast hx hb hK v4 v5 v6 a 1 (wsO_get ha hc) rfl (vp_in_iff.mpr hi) hd (fun H1 locs1 g1 g2 g3 => hW H1 locs1 ls ⟨hwf_put v1 ha trivial, v2, okS_t (okS_t (okS_t v3)), ?_, ?_, g3, v7⟩)
          · rw [wsO_put ha]; exact g1
          · rw [wsO_put ha]; exact g2
        next => cases he
      next n f hc =>
        have ha := hlt v1 hc (fun _ _ z => by cases z)
        split at he
        next hi =>
          obtain ⟨rfl, rfl, rfl, rfl⟩ := ugo_inj he
          refine va_zast hx hb hK v4 v5 v6 a 2 (wsO_get ha hc) rfl (vp_in_iff.mpr hi) hd (fun H1 locs1 g1 g2 g3 => hW H1 locs1 ls ⟨hwf_put v1 ha trivial, v2, okS_t (okS_t (okS_t v3)), ?_, ?_, g3, v7⟩)
          · rw [wsO_put ha]; exact g1
          · rw [wsO_put ha]; exact g2
        next => cases he
      next => cases he
  next => cases he
theorem s_aald (C : CX p s m args meth c q D cid A) (hd : decode q.2.1 pc = .ok (.aaload, 1)) (he : e_aald (pc + 1) L S h = some (.inl (pc', L', S', h'))) (hW : WW p l e R s m args below meth c D cid ad A Ls xs cells slots Q pc' L' S' h') : WW p l e R s m args below meth c D cid ad A Ls xs cells slots Q pc L S h := by
  intro H locs ls V
  obtain ⟨hx, hb, hml, hown, hts, hlocks, hnm, hK, hA⟩ := C
  obtain ⟨v1, v2, v3, v4, v5, v6, v7⟩ := V
  unfold e_aald at he
  split at he
  next i a S0 =>
    · unfold e_aa1 at he
      split at he
      next n g hc =>
        have ha := hlt v1 hc (fun _ _ z => by cases z)
        split at he
        next hi =>
          split at he
          next b hb2 =>
            obtain ⟨rfl, rfl, rfl, rfl⟩ := ugo_inj he
            have ho : okr h'.1 b := (hg_ok v1 ha hc) _ _ hb2
            refine va_aldq hx hb hK v4 a 3 (C := "IcicleEaves$House") (wsO_get ha hc) rfl (vp_in_iff.mpr hi) hd ?_
            have e1 : va_rf ((g i.toNatClampNeg).map ad) = .ref (ad b) := by
              rw [show g i.toNatClampNeg = some b from hb2]; rfl
            show W p l e R s m args below meth c H locs cells slots Q (F0 m (pc + 1) ls (va_rf ((g i.toNatClampNeg).map ad) :: S0.map (ca ad)))
            rw [e1]
            exact hW H locs ls ⟨v1, v2, okS_c ho (okS_t (okS_t v3)), v4, v5, v6, v7⟩
          next => cases he
        next => cases he
      next => cases he
  next => cases he
theorem s_aast (C : CX p s m args meth c q D cid A) (hd : decode q.2.1 pc = .ok (.aastore, 1)) (he : e_aast (pc + 1) L S h = some (.inl (pc', L', S', h'))) (hW : WW p l e R s m args below meth c D cid ad A Ls xs cells slots Q pc' L' S' h') : WW p l e R s m args below meth c D cid ad A Ls xs cells slots Q pc L S h := by
  intro H locs ls V
  obtain ⟨hx, hb, hml, hown, hts, hlocks, hnm, hK, hA⟩ := C
  obtain ⟨v1, v2, v3, v4, v5, v6, v7⟩ := V
  unfold e_aast at he
  split at he
  next v i a S0 =>
    · unfold e_as1 at he
      split at he
      next n g fs hc hcv =>
        have ha : a < h.1 ∧ v < h.1 := ⟨hlt v1 hc (fun _ _ z => by cases z), hlt v1 hcv (fun _ _ z => by cases z)⟩
        split at he
        next hi =>
          obtain ⟨rfl, rfl, rfl, rfl⟩ := ugo_inj he
          have hoc : okc h.1 (ah n (va_up g i.toInt.toNat (some v))) := by
            intro k j hk
            unfold va_up at hk
            split at hk
            · cases hk; exact okS_h v3
            · exact (hg_ok v1 ha.1 hc) k j hk
          have e1 : ce cid ad (ah n (va_up g i.toInt.toNat (some v))) = .inl (cid 3, n, .inr (.inr (.inr (.inr (va_up (fun k => (g k).map ad) i.toNatClampNeg (some (ad v))))))) := by
            have : (fun k => (va_up g i.toInt.toNat (some v) k).map ad) = va_up (fun k => (g k).map ad) i.toNatClampNeg (some (ad v)) := by
              funext k
              show Option.map ad (if k = i.toInt.toNat then some v else g k) = if k = i.toInt.toNat then some (ad v) else (g k).map ad
              split <;> rfl
            simp only [ce, this]
          refine va_astq hx hb hK v4 v5 v6 a 3 v 2 (r := (RX3, TX3, 5)) (wsO_get ha.1 hc) rfl (wsO_get ha.2 hcv) rfl (vp_in_iff.mpr hi) hd (fun H1 locs1 g1 g2 g3 => hW H1 locs1 ls ⟨hwf_put v1 ha.1 hoc, v2, okS_t (okS_t (okS_t v3)), ?_, ?_, g3, v7⟩)
          · rw [wsO_put ha.1, e1]; exact g1
          · rw [wsO_put ha.1, e1]; exact g2
        next => cases he
      next => cases he
  next => cases he
end Rows
