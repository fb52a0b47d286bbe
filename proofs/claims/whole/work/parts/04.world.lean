/-! ===== the pure heap and the machine's: cells by an address map ===== -/
def icSc : Nat := 2000000
def ca (ad : Nat → Nat) : Value → Value
  | .ref j => .ref (ad j)
  | v => v
def ce (cid : Nat → ClassId) (ad : Nat → Nat) : icC → va_E
  | .inl (t, n, f) => .inl (cid t, n, .inl f)
  | .inr (.inl (n, g)) => .inl (cid 3, n, .inr (.inr (.inr (.inr (fun k => (g k).map ad)))))
  | .inr (.inr (ci, fs)) => .inr (ci, fs.map (ca ad))
def wsO (cid : Nat → ClassId) (ad : Nat → Nat) (h : icH) : va_W := (List.range h.1).map (fun i => (ad i, ce cid ad ((h.2.2 i).getD (ai 0 (fun _ => 0)))))
def okr (N j : Nat) : Prop := j < N ∨ icLim ≤ j
def okv (N : Nat) : Value → Prop
  | .ref j => okr N j
  | _ => True
def okc (N : Nat) : icC → Prop
  | .inl (7, _, _) => False
  | .inl _ => True
  | .inr (.inl (_, g)) => ∀ k j, g k = some j → okr N j
  | .inr (.inr (_, fs)) => ∀ v ∈ fs, okv N v
/-- every cell up to the number is there and names such cells alone; beside them the script alone -/
def hwf (Ls : Nat) (xs : Nat → Int32) (h : icH) : Prop := h.1 ≤ icLim ∧ (∀ i, i < h.1 → ∃ c, h.2.2 i = some c ∧ okc h.1 c) ∧ ∀ i c, h.2.2 i = some c → i < h.1 ∨ (i = icSc ∧ c = as7 Ls xs)
theorem okr_le {N M j : Nat} (hNM : N ≤ M) (h : okr N j) : okr M j := by
  rcases h with h | h
  · exact Or.inl (by omega)
  · exact Or.inr h
theorem okv_le {N M : Nat} (hNM : N ≤ M) {v : Value} (h : okv N v) : okv M v := by
  cases v <;> first | trivial | exact okr_le hNM h
theorem okc_le {N M : Nat} (hNM : N ≤ M) {c : icC} (h : okc N c) : okc M c := by
  match c, h with
  | .inl (7, _, _), h => exact h
  | .inl (0, _, _), _ => trivial
  | .inl (1, _, _), _ => trivial
  | .inl (2, _, _), _ => trivial
  | .inl (3, _, _), _ => trivial
  | .inl (4, _, _), _ => trivial
  | .inl (5, _, _), _ => trivial
  | .inl (6, _, _), _ => trivial
  | .inl (n + 8, _, _), _ => trivial
  | .inr (.inl (_, g)), h => exact fun k j hk => okr_le hNM (h k j hk)
  | .inr (.inr (_, fs)), h => exact fun v hv => okv_le hNM (h v hv)
theorem ca_ag {N : Nat} {ad ad' : Nat → Nat} (hag : ∀ j, okr N j → ad' j = ad j) {v : Value} (h : okv N v) : ca ad' v = ca ad v := by
  cases v with
  | ref j => exact congrArg Value.ref (hag j h)
  | _ => rfl
theorem map_ca_ag {N : Nat} {ad ad' : Nat → Nat} (hag : ∀ j, okr N j → ad' j = ad j) {S : List Value} (h : ∀ v ∈ S, okv N v) : S.map (ca ad') = S.map (ca ad) := List.map_congr_left (fun v hv => ca_ag hag (h v hv))
theorem ce_ag {N : Nat} {cid : Nat → ClassId} {ad ad' : Nat → Nat} (hag : ∀ j, okr N j → ad' j = ad j) {c : icC} (h : okc N c) : ce cid ad' c = ce cid ad c := by
  match c, h with
  | .inl _, _ => rfl
  | .inr (.inl (n, g)), h =>
    have e : (fun k => (g k).map ad') = (fun k => (g k).map ad) := by
      funext k
      cases hk : g k with
      | none => rfl
      | some j => exact congrArg some (hag j (h k j hk))
    simp only [ce, e]
  | .inr (.inr (ci, fs)), h =>
    have e := map_ca_ag hag h
    simp only [ce, e]
theorem wsO_get {cid : Nat → ClassId} {ad : Nat → Nat} {h : icH} {i : Nat} {c : icC} (hi : i < h.1) (hc : hg h i = some c) : (wsO cid ad h)[i]? = some (ad i, ce cid ad c) := by
  have hc : h.2.2 i = some c := hc
  simp [wsO, List.getElem?_map, List.getElem?_range hi, hc]
theorem wsO_put {cid : Nat → ClassId} {ad : Nat → Nat} {h : icH} {i : Nat} {c : icC} (hi : i < h.1) : wsO cid ad (hput h i c) = (wsO cid ad h).set i (ad i, ce cid ad c) := by
  apply List.ext_getElem?
  intro k
  by_cases hk : k < h.1
  · by_cases hki : k = i
    · subst hki
      simp [wsO, hput, List.getElem?_map, List.getElem?_range hk, List.getElem?_set, hk]
    · simp [wsO, hput, List.getElem?_map, List.getElem?_range hk, List.getElem?_set, hki, Ne.symm hki]
  · rw [List.getElem?_eq_none (by simp [wsO, hput]; omega), List.getElem?_eq_none (by simp [wsO]; omega)]
def adN (ad : Nat → Nat) (N q : Nat) : Nat → Nat := fun j => if j = N then q else ad j
theorem adN_ag {ad : Nat → Nat} {N q : Nat} (hN : N < icLim) : ∀ j, okr N j → adN ad N q j = ad j := by
  intro j hj
  have : j ≠ N := by
    rcases hj with h | h
    · omega
    · omega
  simp [adN, this]
theorem wsO_ag {Ls : Nat} {xs : Nat → Int32} {cid : Nat → ClassId} {ad ad' : Nat → Nat} {h : icH} (hw : hwf Ls xs h) (hag : ∀ j, okr h.1 j → ad' j = ad j) : wsO cid ad' h = wsO cid ad h := by
  refine List.map_congr_left (fun i hi => ?_)
  have hi := List.mem_range.mp hi
  obtain ⟨c, hc, ho⟩ := hw.2.1 i hi
  rw [hc]
  show (ad' i, ce cid ad' c) = (ad i, ce cid ad c)
  rw [hag i (Or.inl hi), ce_ag hag ho]
theorem wsO_new {Ls : Nat} {xs : Nat → Int32} {cid : Nat → ClassId} {ad : Nat → Nat} {h : icH} {c : icC} {n q : Nat} (hw : hwf Ls xs h) (hN : h.1 < icLim) : wsO cid (adN ad h.1 q) (hnew h c n) = wsO cid ad h ++ [(q, ce cid (adN ad h.1 q) c)] := by
  have e1 : wsO cid (adN ad h.1 q) h = wsO cid ad h := wsO_ag hw (adN_ag hN)
  rw [← e1]
  unfold wsO hnew
  dsimp only
  rw [List.range_succ, List.map_append]
  congr 1
  · refine List.map_congr_left (fun i hi => ?_)
    have hi := List.mem_range.mp hi
    have : i ≠ h.1 := by omega
    simp [this]
  · simp [adN]
theorem hwf_put {Ls : Nat} {xs : Nat → Int32} {h : icH} {a : Nat} {c : icC} (hw : hwf Ls xs h) (ha : a < h.1) (hc : okc h.1 c) : hwf Ls xs (hput h a c) := by
  refine ⟨hw.1, fun i hi => ?_, fun i d hd => ?_⟩
  · by_cases hia : i = a
    · exact ⟨c, by simp [hput, hia], hc⟩
    · obtain ⟨d, h1, h2⟩ := hw.2.1 i hi
      exact ⟨d, by simp [hput, hia, h1], h2⟩
  · by_cases hia : i = a
    · exact Or.inl (by rw [hia]; exact ha)
    · simp only [hput, hia, if_false] at hd
      exact hw.2.2 i d hd
theorem hwf_new {Ls : Nat} {xs : Nat → Int32} {h : icH} {c : icC} {n : Nat} (hw : hwf Ls xs h) (hN : h.1 < icLim) (hc : okc (h.1 + 1) c) : hwf Ls xs (hnew h c n) := by
  refine ⟨by simp only [hnew]; omega, fun i hi => ?_, fun i d hd => ?_⟩
  · by_cases hia : i = h.1
    · exact ⟨c, by simp [hnew, hia], hc⟩
    · have hi2 : i < h.1 + 1 := hi
      obtain ⟨d, h1, h2⟩ := hw.2.1 i (by omega)
      exact ⟨d, by simp [hnew, hia, h1], okc_le (Nat.le_succ _) h2⟩
  · by_cases hia : i = h.1
    · exact Or.inl (by rw [hia]; exact Nat.lt_succ_self _)
    · simp only [hnew, hia, if_false] at hd
      rcases hw.2.2 i d hd with h | h
      · exact Or.inl (Nat.lt_succ_of_lt h)
      · exact Or.inr h
theorem hlt {Ls : Nat} {xs : Nat → Int32} {h : icH} {a : Nat} {c : icC} (hw : hwf Ls xs h) (hc : hg h a = some c) (hk : ∀ n f, c ≠ as7 n f) : a < h.1 := by
  rcases hw.2.2 a c hc with h1 | ⟨-, h1⟩
  · exact h1
  · exact absurd h1 (hk _ _)
theorem hg_ok {Ls : Nat} {xs : Nat → Int32} {h : icH} {a : Nat} {c : icC} (hw : hwf Ls xs h) (ha : a < h.1) (hc : hg h a = some c) : okc h.1 c := by
  obtain ⟨d, h1, h2⟩ := hw.2.1 a ha
  have : d = c := Option.some.inj (h1.symm.trans hc)
  rw [← this]; exact h2
/-! the locals -/
def lp (f : Value → Value) : Nat → List Value → List (Nat × Value)
  | _, [] => []
  | i, v :: L => if v = dum then lp f (i + 1) L else (i, f v) :: lp f (i + 1) L
theorem lp_mem {f : Value → Value} : ∀ (L : List Value) (j : Nat) (q : Nat × Value), q ∈ lp f j L ↔ ∃ n v, L[n]? = some v ∧ v ≠ dum ∧ q = (j + n, f v)
  | [], j, q => by simp [lp]
  | v :: L, j, q => by
    have ih := lp_mem (f := f) L (j + 1) q
    have sh : (∃ n w, (v :: L)[n]? = some w ∧ w ≠ dum ∧ q = (j + n, f w)) ↔ (v ≠ dum ∧ q = (j, f v)) ∨ ∃ n w, L[n]? = some w ∧ w ≠ dum ∧ q = (j + 1 + n, f w) := by
      constructor
      · rintro ⟨n, w, h1, h2, h3⟩
        cases n with
        | zero => simp at h1; subst h1; exact Or.inl ⟨h2, by simpa using h3⟩
        | succ n => exact Or.inr ⟨n, w, by simpa using h1, h2, by rw [h3]; congr 1; omega⟩
      · rintro (⟨h2, h3⟩ | ⟨n, w, h1, h2, h3⟩)
        · exact ⟨0, v, by simp, h2, by simpa using h3⟩
        · exact ⟨n + 1, w, by simpa using h1, h2, by rw [h3]; congr 1; omega⟩
    rw [sh]
    by_cases hv : v = dum
    · simp only [lp, hv, if_true]
      rw [ih]
      simp
    · simp only [lp, hv, if_false, List.mem_cons]
      rw [ih]
      simp [hv]
theorem nth_get : ∀ (L : List Value) (i : Nat) (v : Value), nth L i = v → v ≠ dum → L[i]? = some v
  | [], _, v, h, hv => absurd h.symm hv
  | u :: L, 0, v, h, _ => by simp only [nth] at h; simp [h]
  | u :: L, i + 1, v, h, hv => by simp only [nth] at h; simpa using nth_get L i v h hv
theorem nth_lp {f : Value → Value} {L : List Value} {i : Nat} {v : Value} (h : nth L i = v) (hv : v ≠ dum) : (i, f v) ∈ lp f 0 L := (lp_mem L 0 _).mpr ⟨i, v, nth_get L i v h hv, hv, by simp⟩
theorem nth_ls {f : Value → Value} {ls : Array Slot} {n : Nat} {L : List Value} {i : Nat} {v : Value} (hl : lv_has ls n (lp f 0 L)) (h : nth L i = v) (hv : v ≠ dum) : ls[i]? = some (.val (f v)) := hl.2.2 (i, f v) (nth_lp h hv)
theorem lv_less {ls : Array Slot} {n : Nat} {l l' : List (Nat × Value)} (h : lv_has ls n l) (hs : ∀ q ∈ l', q ∈ l) : lv_has ls n l' := ⟨h.1, h.2.1, fun q hq => h.2.2 q (hs q hq)⟩
theorem st1_len : ∀ (L : List Value) (i : Nat) (v : Value), (st1 L i v).length = L.length
  | [], _, _ => rfl
  | _ :: _, 0, _ => rfl
  | u :: L, n + 1, v => by simp only [st1, List.length_cons, st1_len L n v]
theorem stn_len : ∀ (L : List Value) (i : Nat), (stn L i).length = L.length
  | [], _ => rfl
  | _ :: _, 0 => rfl
  | u :: L, n + 1 => by simp only [stn, List.length_cons, stn_len L n]
theorem st2_len (L : List Value) (i : Nat) (v : Value) : (st2 L i v).length = L.length := by rw [st2, stn_len, st1_len]
theorem st1_get : ∀ (L : List Value) (i : Nat) (v : Value) (n : Nat) (w : Value), (st1 L i v)[n]? = some w → w ≠ dum → (n = i ∧ w = v) ∨ (n ≠ i ∧ L[n]? = some w ∧ ¬ (n + 1 = i ∧ w.category = 2))
  | [], _, _, n, w, h, _ => by simp [st1] at h
  | u :: L, 0, v, n, w, h, hw => by
    cases n with
    | zero => simp only [st1] at h; simp at h; exact Or.inl ⟨rfl, h.symm⟩
    | succ n => simp only [st1] at h; exact Or.inr ⟨by omega, by simpa using h, by omega⟩
  | u :: L, i + 1, v, n, w, h, hw => by
    cases n with
    | zero =>
      simp only [st1, List.getElem?_cons_zero, Option.some.injEq] at h
      by_cases hc : i = 0 ∧ u.category = 2
      · rw [if_pos hc] at h; exact absurd h.symm hw
      · rw [if_neg hc] at h
        subst h
        exact Or.inr ⟨by omega, by simp, fun z => hc ⟨by omega, z.2⟩⟩
    | succ n =>
      simp only [st1, List.getElem?_cons_succ] at h
      rcases st1_get L i v n w h hw with ⟨a, b⟩ | ⟨a, b, c⟩
      · exact Or.inl ⟨by omega, b⟩
      · exact Or.inr ⟨by omega, by simpa using b, fun z => c ⟨by omega, z.2⟩⟩
theorem stn_get : ∀ (L : List Value) (i : Nat) (n : Nat) (w : Value), (stn L i)[n]? = some w → w ≠ dum → n ≠ i ∧ L[n]? = some w
  | [], _, n, w, h, _ => by simp [stn] at h
  | u :: L, 0, n, w, h, hw => by
    cases n with
    | zero => simp only [stn] at h; simp at h; exact absurd h.symm hw
    | succ n => simp only [stn] at h; exact ⟨by omega, by simpa using h⟩
  | u :: L, i + 1, n, w, h, hw => by
    cases n with
    | zero => simp only [stn] at h; exact ⟨by omega, by simpa using h⟩
    | succ n =>
      simp only [stn, List.getElem?_cons_succ] at h
      obtain ⟨a, b⟩ := stn_get L i n w h hw
      exact ⟨by omega, by simpa using b⟩
theorem ca_cat (ad : Nat → Nat) (v : Value) : (ca ad v).category = v.category := by cases v <;> rfl
theorem ca_dum (ad : Nat → Nat) : ca ad dum = dum := rfl
theorem st1_lp {ad : Nat → Nat} {L : List Value} {i : Nat} {v : Value} : ∀ q ∈ lp (ca ad) 0 (st1 L i v), q ∈ (i, ca ad v) :: (lp (ca ad) 0 L).filter (fun q => !(q.1 == i) && !(q.1 + 1 == i && q.2.category == 2)) := by
  intro q hq
  obtain ⟨n, w, h1, h2, rfl⟩ := (lp_mem _ 0 q).mp hq
  rcases st1_get L i v n w h1 h2 with ⟨rfl, rfl⟩ | ⟨a, b, c⟩
  · simp
  · refine List.mem_cons_of_mem _ (List.mem_filter.mpr ⟨(lp_mem _ 0 _).mpr ⟨n, w, b, h2, rfl⟩, ?_⟩)
    rw [ca_cat]
    simp only [Nat.zero_add, Bool.and_eq_true, Bool.not_eq_true', Bool.and_eq_false_imp, beq_eq_false_iff_ne, ne_eq, beq_iff_eq]
    exact ⟨a, fun z y => c ⟨z, y⟩⟩
theorem st2_lp {ad : Nat → Nat} {L : List Value} {i : Nat} {v : Value} : ∀ q ∈ lp (ca ad) 0 (st2 L i v), q ∈ (i, ca ad v) :: (lp (ca ad) 0 L).filter (fun q => !(q.1 == i) && (!(q.1 == i + 1) && !(q.1 + 1 == i && q.2.category == 2))) := by
  intro q hq
  obtain ⟨n, w, h1, h2, rfl⟩ := (lp_mem _ 0 q).mp hq
  obtain ⟨h3, h4⟩ := stn_get _ _ n w h1 h2
  rcases st1_get L i v n w h4 h2 with ⟨rfl, rfl⟩ | ⟨a, b, c⟩
  · simp
  · refine List.mem_cons_of_mem _ (List.mem_filter.mpr ⟨(lp_mem _ 0 _).mpr ⟨n, w, b, h2, rfl⟩, ?_⟩)
    rw [ca_cat]
    simp only [Nat.zero_add, Bool.and_eq_true, Bool.not_eq_true', Bool.and_eq_false_imp, beq_eq_false_iff_ne, ne_eq, beq_iff_eq]
    exact ⟨a, h3, fun z y => c ⟨z, y⟩⟩
theorem okS_t {N : Nat} {a : Value} {S : List Value} (h : ∀ v ∈ a :: S, okv N v) : ∀ v ∈ S, okv N v := fun v hv => h v (List.mem_cons_of_mem _ hv)
theorem okS_h {N : Nat} {a : Value} {S : List Value} (h : ∀ v ∈ a :: S, okv N v) : okv N a := h a List.mem_cons_self
theorem okS_c {N : Nat} {a : Value} {S : List Value} (h1 : okv N a) (h : ∀ v ∈ S, okv N v) : ∀ v ∈ a :: S, okv N v := List.forall_mem_cons.mpr ⟨h1, h⟩
theorem okL_st1 {N : Nat} {L : List Value} {i : Nat} {v : Value} (h : ∀ w ∈ L, okv N w) (hv : okv N v) : ∀ w ∈ st1 L i v, okv N w := by
  intro w hw
  by_cases hd : w = dum
  · rw [hd]; trivial
  · obtain ⟨n, hn⟩ := List.getElem?_of_mem hw
    rcases st1_get L i v n w hn hd with ⟨-, rfl⟩ | ⟨-, b, -⟩
    · exact hv
    · exact h w (List.mem_of_getElem? b)
theorem okL_st2 {N : Nat} {L : List Value} {i : Nat} {v : Value} (h : ∀ w ∈ L, okv N w) (hv : okv N v) : ∀ w ∈ st2 L i v, okv N w := by
  intro w hw
  by_cases hd : w = dum
  · rw [hd]; trivial
  · obtain ⟨n, hn⟩ := List.getElem?_of_mem hw
    exact okL_st1 h hv w (List.mem_of_getElem? (stn_get _ _ n w hn hd).2)
theorem nth_ok {N : Nat} {L : List Value} {i : Nat} {v : Value} (h : ∀ w ∈ L, okv N w) (hn : nth L i = v) : okv N v := by
  by_cases hd : v = dum
  · rw [hd]; trivial
  · exact h v (List.mem_of_getElem? (nth_get L i v hn hd))
