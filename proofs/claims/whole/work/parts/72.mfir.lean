/-! ===== the reference: first, order, path, least, peak ===== -/
def gw (k : Nat) : Nat := if k = 0 then 99 else k
theorem fw_g (k : Nat) : fw k = nI (gw k) := by unfold fw gw; split <;> rfl
theorem gw_le {k : Nat} (h : k ≤ 96) : gw k ≤ 99 := by unfold gw; split <;> omega
theorem c_lessN {a b : Nat} (ha : a < 2 ^ 31) (hb : b < 2 ^ 31) (h : icH) : icE 137 0 [.int (nI a), .int (nI b)] [] h = some (some (.int (nI (min a b))), h) := by
  rw [c_less]
  by_cases c : b ≤ a
  · rw [if_pos (nI_le c ha), Nat.min_eq_right c]
  · rw [if_neg (nI_ge (by omega) hb), Nat.min_eq_left (by omega)]
def lw (g : Nat → Nat) (i : Nat) : Nat := if fb g i = 0 then 99 else g (fb g i - 1)
theorem lw_s {g : Nat → Nat} {i : Nat} (hl : lw g i ≤ 99) (hi : g i ≤ 96) : (gw (g i) < lw g i ↔ (g i ≠ 0 ∧ (fb g i = 0 ∨ g i < g (fb g i - 1)))) ∧ lw g (i + 1) = min (lw g i) (gw (g i)) := by
  by_cases c0 : g i = 0
  · have e : fb g (i + 1) = fb g i := if_neg (fun z => z.1 c0)
    have e2 : lw g (i + 1) = lw g i := by unfold lw; rw [e]
    have e3 : gw (g i) = 99 := if_pos c0
    rw [e2, e3]
    exact ⟨⟨fun z => (by omega), fun z => absurd c0 z.1⟩, by omega⟩
  · have e3 : gw (g i) = g i := if_neg c0
    by_cases c1 : fb g i = 0
    · have e : fb g (i + 1) = i + 1 := if_pos ⟨c0, Or.inl c1⟩
      have e2 : lw g (i + 1) = g i := by unfold lw; rw [e, if_neg (by omega), Nat.add_sub_cancel]
      have e4 : lw g i = 99 := if_pos c1
      rw [e2, e3, e4]
      exact ⟨⟨fun _ => ⟨c0, Or.inl c1⟩, fun _ => (by omega)⟩, by omega⟩
    · have e4 : lw g i = g (fb g i - 1) := if_neg c1
      by_cases c2 : g i < g (fb g i - 1)
      · have e : fb g (i + 1) = i + 1 := if_pos ⟨c0, Or.inr c2⟩
        have e2 : lw g (i + 1) = g i := by unfold lw; rw [e, if_neg (by omega), Nat.add_sub_cancel]
        rw [e2, e3, e4]
        exact ⟨⟨fun _ => ⟨c0, Or.inr c2⟩, fun _ => c2⟩, by omega⟩
      · have e : fb g (i + 1) = fb g i := if_neg (fun z => z.2.elim c1 c2)
        have e2 : lw g (i + 1) = lw g i := by unfold lw; rw [e]
        rw [e2, e3, e4]
        exact ⟨⟨fun z => absurd z c2, fun z => (z.2.elim (fun y => absurd y c1) (fun y => y))⟩, by omega⟩
theorem lw_le {g : Nat → Nat} {N : Nat} (hg9 : ∀ j, j < N → g j ≤ 96) : ∀ i, i ≤ N → lw g i ≤ 99
  | 0, _ => Nat.le_refl 99
  | i + 1, h => by
    have := lw_le hg9 i (by omega)
    rw [(lw_s this (hg9 i (by omega))).2]
    omega
theorem l_mfirst {N : Nat} (hN : N ≤ 6) {g : Nat → Nat} (hg9 : ∀ j, j < N → g j ≤ 96) {A : Nat → Nat → Int32} (h10 : A 1 10 = nI N) (hf : ∀ j, j < N → A 10 j = fw (g j)) (h : icH) (m : Nat) (ab be : Int64) (ii : Nat → Int32) : ∀ (k i : Nat), i + k = N → icE 184 11 [.ref m, .int (bv (fb g i)), .int (nI (lw g i)), .int (nI i)] [] (HM h m ab be ii A) = some (some (.int (bv (fb g N))), HM h m ab be ii A)
  | 0, i, him => by
    have : i = N := by omega
    subst this
    rw [rh_184_11]
    simp only [SA, rw_184, HM_o, HMr, ia_n (show 10 < 292 by decide) (show 292 < 2 ^ 31 by decide), h10, if_pos (nI_le (Nat.le_refl i) (show i < 2 ^ 31 by omega))]
  | k + 1, i, him => by
    have ih := l_mfirst hN hg9 h10 hf h m ab be ii k (i + 1) (by omega)
    have hi : i < N := by omega
    have b6 : 6 < 2 ^ 31 := by decide
    have gi := hg9 i hi
    have ll := lw_le hg9 i (by omega)
    have q := lw_s ll gi
    have gl := gw_le gi
    have e10 : A 10 i = nI (gw (g i)) := by rw [hf i hi, fw_g]
    rw [q.2] at ih
    rw [rh_184_11]
    by_cases c : gw (g i) < lw g i
    · have e1 : fb g (i + 1) = i + 1 := if_pos (q.1.mp c)
      have e3 : bv (i + 1) = nI i := by unfold bv; rw [if_neg (by omega), Nat.add_sub_cancel]
      rw [e1, e3] at ih
      simp only [SA, rw_184, HM_o, HMr, ia_n (show 10 < 292 by decide) (show 292 < 2 ^ 31 by decide), h10, if_neg (nI_ge hi (show N < 2 ^ 31 by omega)), ia_n (show i < 6 by omega) b6, e10, if_neg (nI_ge c (show lw g i < 2 ^ 31 by omega)), c_lessN (show lw g i < 2 ^ 31 by omega) (show gw (g i) < 2 ^ 31 by omega), nI_add]
      exact ih
    · have e1 : fb g (i + 1) = fb g i := if_neg (fun z => c (q.1.mpr z))
      rw [e1] at ih
      simp only [SA, rw_184, HM_o, HMr, ia_n (show 10 < 292 by decide) (show 292 < 2 ^ 31 by decide), h10, if_neg (nI_ge hi (show N < 2 ^ 31 by omega)), ia_n (show i < 6 by omega) b6, e10, if_pos (nI_le (show lw g i ≤ gw (g i) by omega) (show gw (g i) < 2 ^ 31 by omega)), c_lessN (show lw g i < 2 ^ 31 by omega) (show gw (g i) < 2 ^ 31 by omega), nI_add]
      exact ih
theorem m_first {R N H : Nat} {D : Nat → Nat → Int32} {A : Nat → Nat → Int32} (hM : MR R N 0 H D (A 1)) (hH : H ≤ 9999) (h : icH) (m : Nat) (ab be : Int64) (ii : Nat → Int32) : ∃ A', icE 184 0 [.ref m, dum, dum, dum] [] (HM h m ab be ii A) = some (some (.int (bv (fb (fl R N H (D 11) D 96) N))), HM h m ab be ii A') ∧ MSC A A' := by
  have hN := hM.1.2.2.2.1
  obtain ⟨A', z1, z2, z3⟩ := c_findsFalls hM hH h m ab be ii
  refine ⟨A', ?_, z2⟩
  have y := l_mfirst hN (g := fl R N H (D 11) D 96) (fun j _ => fl_le R N H (D 11) D j 96) (A := A') (by rw [MSC_1 z2]; exact hM.1.2.1) z3 h m ab be ii N 0 (by omega)
  simp only [SA, rw_184, HM_o, z1]
  exact y
theorem gv_w (k : Nat) : (k = 0 ∧ gv k = 97 ∧ gw k = 99) ∨ (k ≠ 0 ∧ gv k = k ∧ gw k = k) := by
  by_cases c : k = 0
  · exact Or.inl ⟨c, if_pos c, if_pos c⟩
  · exact Or.inr ⟨c, if_neg c, if_neg c⟩
theorem bf_w {g : Nat → Nat} {j i : Nat} (hj : g j ≤ 96) (hi : g i ≤ 96) : bf g j i ↔ (gw (g j) < gw (g i) ∨ (gw (g j) = gw (g i) ∧ j < i)) := by
  have a := gv_w (g j)
  have b := gv_w (g i)
  unfold bf
  omega
theorem s_mord {N i e : Nat} (hN : N ≤ 6) (hi : i < N) (he : e < N) {g : Nat → Nat} (hg9 : ∀ j, j < N → g j ≤ 96) {A : Nat → Nat → Int32} (hf : ∀ j, j < N → A 10 j = fw (g j)) (k a : Int32) (z : Value) (h : icH) (m : Nat) (ab be : Int64) (ii : Nat → Int32) : icE 185 62 [.ref m, .int k, .int (nI i), .int a, .int (nI e), z] [] (HM h m ab be ii A) = icE 185 107 [.ref m, .int k, .int (nI i), .int a, .int (nI e), .int (bi (bf g e i))] [] (HM h m ab be ii A) := by
  have b6 : 6 < 2 ^ 31 := by decide
  have ei : A 10 i = nI (gw (g i)) := by rw [hf i hi, fw_g]
  have ee : A 10 e = nI (gw (g e)) := by rw [hf e he, fw_g]
  have li := gw_le (hg9 i hi)
  have le := gw_le (hg9 e he)
  have q := bf_w (hg9 e he) (hg9 i hi)
  by_cases c1 : gw (g e) < gw (g i)
  · rw [bi_t (q.mpr (Or.inl c1))]
    simp only [SA, rw_185, HM_o, HMr, ia_n (show i < 6 by omega) b6, ia_n (show e < 6 by omega) b6, ei, ee, if_pos (nI_lt c1 (show gw (g i) < 2 ^ 31 by omega))]
  · by_cases c2 : gw (g e) = gw (g i)
    · have c4 : nI (gw (g e)) = nI (gw (g i)) := by rw [c2]
      by_cases c3 : e < i
      · rw [bi_t (q.mpr (Or.inr ⟨c2, c3⟩))]
        simp only [SA, rw_185, HM_o, HMr, ia_n (show i < 6 by omega) b6, ia_n (show e < 6 by omega) b6, ei, ee, if_neg (nI_nlt (show gw (g i) ≤ gw (g e) by omega) (show gw (g e) < 2 ^ 31 by omega)), if_pos c4, if_neg (nI_ge c3 (show i < 2 ^ 31 by omega))]
      · rw [bi_f (fun y => (q.mp y).elim c1 (fun x => c3 x.2))]
        simp only [SA, rw_185, HM_o, HMr, ia_n (show i < 6 by omega) b6, ia_n (show e < 6 by omega) b6, ei, ee, if_neg (nI_nlt (show gw (g i) ≤ gw (g e) by omega) (show gw (g e) < 2 ^ 31 by omega)), if_pos c4, if_pos (nI_le (show i ≤ e by omega) (show e < 2 ^ 31 by omega))]
    · have c4 : ¬ nI (gw (g e)) = nI (gw (g i)) := fun y => c2 ((nI_eq (by omega) (by omega)).mp y)
      rw [bi_f (fun y => (q.mp y).elim c1 (fun x => c2 x.1))]
      simp only [SA, rw_185, HM_o, HMr, ia_n (show i < 6 by omega) b6, ia_n (show e < 6 by omega) b6, ei, ee, if_neg (nI_nlt (show gw (g i) ≤ gw (g e) by omega) (show gw (g e) < 2 ^ 31 by omega)), if_neg c4]
theorem l_mord2 {N i : Nat} (hN : N ≤ 6) (hi : i < N) {g : Nat → Nat} (hg9 : ∀ j, j < N → g j ≤ 96) {A : Nat → Nat → Int32} {L : Nat → Int32} (h10 : A 1 10 = nI N) (hL : ∀ j, j < N → A 1 (50 + j) = L j) (hf : ∀ j, j < N → A 10 j = fw (g j)) (k : Int32) (h : icH) (m : Nat) (ab be : Int64) (ii : Nat → Int32) : ∀ (n e : Nat) (z : Value), e + n = N → ∃ z', icE 185 50 [.ref m, .int k, .int (nI i), .int (nI (ec g L i e)), .int (nI e), z] [] (HM h m ab be ii A) = icE 185 139 [.ref m, .int k, .int (nI i), .int (nI (ec g L i N)), .int (nI N), z'] [] (HM h m ab be ii A)
  | 0, e, z, him => by
    have : e = N := by omega
    subst this
    refine ⟨z, ?_⟩
    rw [rh_185_50]
    simp only [SA, rw_185, HM_o, HMr, ia_n (show 10 < 292 by decide) (show 292 < 2 ^ 31 by decide), h10, if_pos (nI_le (Nat.le_refl e) (show e < 2 ^ 31 by omega))]
  | n + 1, e, z, him => by
    have he : e < N := by omega
    have b2 : 292 < 2 ^ 31 := by decide
    obtain ⟨z', ih⟩ := l_mord2 hN hi hg9 h10 hL hf k h m ab be ii n (e + 1) (.int (bi (bf g e i))) (by omega)
    refine ⟨z', ?_⟩
    have s := s_mord hN hi he hg9 hf k (nI (ec g L i e)) z h m ab be ii
    have eL := hL e he
    by_cases c1 : L e = 0
    · by_cases c2 : bf g e i
      · have q : ec g L i (e + 1) = ec g L i e + 1 := by show _ + (if _ then 1 else 0) = _; rw [if_pos ⟨c1, c2⟩]
        rw [q] at ih
        refine Eq.trans ?_ ih
        rw [rh_185_50]
        simp only [SA, rw_185, HM_o, HMr, ia_n (show 10 < 292 by decide) b2, h10, if_neg (nI_ge he (show N < 2 ^ 31 by omega))] at s ⊢
        rw [s]
        simp only [SA, rw_185, HM_o, HMr, nI_add, ia_n (show 50 + e < 292 by omega) b2, eL, if_pos c1, if_neg (bi_10 c2)]
      · have q : ec g L i (e + 1) = ec g L i e := by show _ + (if _ then 1 else 0) = _; rw [if_neg (fun z => c2 z.2)]; rfl
        rw [q] at ih
        refine Eq.trans ?_ ih
        rw [rh_185_50]
        simp only [SA, rw_185, HM_o, HMr, ia_n (show 10 < 292 by decide) b2, h10, if_neg (nI_ge he (show N < 2 ^ 31 by omega))] at s ⊢
        rw [s]
        simp only [SA, rw_185, HM_o, HMr, nI_add, ia_n (show 50 + e < 292 by omega) b2, eL, if_pos c1, if_pos (bi_00 c2), Nat.add_zero]
    · have q : ec g L i (e + 1) = ec g L i e := by show _ + (if _ then 1 else 0) = _; rw [if_neg (fun z => c1 z.1)]; rfl
      rw [q] at ih
      refine Eq.trans ?_ ih
      rw [rh_185_50]
      simp only [SA, rw_185, HM_o, HMr, ia_n (show 10 < 292 by decide) b2, h10, if_neg (nI_ge he (show N < 2 ^ 31 by omega))] at s ⊢
      rw [s]
      simp only [SA, rw_185, HM_o, HMr, nI_add, ia_n (show 50 + e < 292 by omega) b2, eL, if_neg c1, Nat.add_zero]
theorem l_mord1 {N κ : Nat} (hN : N ≤ 6) (hκ : κ < 2 ^ 31) {g : Nat → Nat} (hg9 : ∀ j, j < N → g j ≤ 96) {A : Nat → Nat → Int32} {L : Nat → Int32} (h10 : A 1 10 = nI N) (hL : ∀ j, j < N → A 1 (50 + j) = L j) (hf : ∀ j, j < N → A 10 j = fw (g j)) (h : icH) (m : Nat) (ab be : Int64) (ii : Nat → Int32) : ∀ (n i : Nat) (y z w : Value), i + n = N → icE 185 34 [.ref m, .int (nI κ), .int (nI i), y, z, w] [] (HM h m ab be ii A) = some (some (.int (fs (opr g L N κ) n i)), HM h m ab be ii A)
  | 0, i, y, z, w, him => by
    have : i = N := by omega
    subst this
    rw [rh_185_34]
    simp only [SA, rw_185, HM_o, HMr, ia_n (show 10 < 292 by decide) (show 292 < 2 ^ 31 by decide), h10, if_pos (nI_le (Nat.le_refl i) (show i < 2 ^ 31 by omega)), fs]
  | n + 1, i, y, z, w, him => by
    have hi : i < N := by omega
    have b2 : 292 < 2 ^ 31 := by decide
    obtain ⟨z', s⟩ := l_mord2 hN hi hg9 h10 hL hf (nI κ) h m ab be ii N 0 w (by omega)
    have ih := l_mord1 hN hκ hg9 h10 hL hf h m ab be ii n (i + 1) (.int (nI (ec g L i N))) (.int (nI N)) z' (by omega)
    have le := ec_le g L i N
    have eL := hL i hi
    rw [rh_185_34]
    simp only [SA, rw_185, HM_o, HMr, ia_n (show 10 < 292 by decide) b2, h10, if_neg (nI_ge hi (show N < 2 ^ 31 by omega))]
    have s' : icE 185 50 [.ref m, .int (nI κ), .int (nI i), .int (nI 0), .int (nI 0), w] [] (HM h m ab be ii A) = icE 185 139 [.ref m, .int (nI κ), .int (nI i), .int (nI (ec g L i N)), .int (nI N), z'] [] (HM h m ab be ii A) := s
    rw [s']
    unfold fs
    by_cases c1 : L i = 0
    · by_cases c2 : ec g L i N = κ
      · have c3 : nI (ec g L i N) = nI κ := by rw [c2]
        rw [if_pos ⟨c1, c2⟩]
        simp only [SA, rw_185, HM_o, HMr, nI_add, ia_n (show 50 + i < 292 by omega) b2, eL, if_pos c1, if_pos c3]
      · have c3 : ¬ nI (ec g L i N) = nI κ := fun z => c2 ((nI_eq (by omega) hκ).mp z)
        rw [if_neg (fun z => c2 z.2)]
        simp only [SA, rw_185, HM_o, HMr, nI_add, ia_n (show 50 + i < 292 by omega) b2, eL, if_pos c1, if_neg c3]
        exact ih
    · rw [if_neg (fun z => c1 z.1)]
      simp only [SA, rw_185, HM_o, HMr, nI_add, ia_n (show 50 + i < 292 by omega) b2, eL, if_neg c1]
      exact ih
theorem cnt_ct {R N H : Nat} {D : Nat → Nat → Int32} {T : Nat → Int32} (hM : MR R N 0 H D T) : ∀ n, n ≤ N → cnt T n = ctD D (nI 0) n
  | 0, _ => rfl
  | n + 1, h => by
    have ih := cnt_ct hM n (by omega)
    unfold cnt ctD
    rw [ih, MR_11 hM (show n < N by omega)]
    rfl
theorem m_order {R N H k : Nat} {D : Nat → Nat → Int32} {A : Nat → Nat → Int32} (hM : MR R N 0 H D (A 1)) (hH : H ≤ 9999) (hk : k < ctD D (nI 0) N) (h : icH) (m : Nat) (ab be : Int64) (ii : Nat → Int32) : ∃ A', icE 185 0 [.ref m, .int (nI k), dum, dum, dum, dum] [] (HM h m ab be ii A) = some (some (.int (fs (opr (fl R N H (D 11) D 96) (D 11) N k) N 0)), HM h m ab be ii A') ∧ MSC A A' := by
  have hN := hM.1.2.2.2.1
  have hc := ctD_le D (nI 0) N
  obtain ⟨A', z1, z2, z3⟩ := c_findsFalls hM hH h m ab be ii
  refine ⟨A', ?_, z2⟩
  have y := l_mord1 hN (κ := k) (by omega) (g := fl R N H (D 11) D 96) (fun j _ => fl_le R N H (D 11) D j 96) (A := A') (L := D 11) (by rw [MSC_1 z2]; exact hM.1.2.1) (by rw [MSC_1 z2]; exact fun j hj => MR_11 hM hj) z3 h m ab be ii N 0 dum dum dum (by omega)
  have s := c_standing (t := 1) (N := N) (Or.inl rfl) h m ab be ii (A := A) hM.1.2.1 hN
  rw [cnt_ct hM N (Nat.le_refl N)] at s
  simp only [SA, rw_185, HM_o, s, if_pos (nI_pos' (show k < 2 ^ 31 by omega)), if_pos (nI_lt hk (show ctD D (nI 0) N < 2 ^ 31 by omega)), z1]
  exact y
theorem m_orderB {A : Nat → Nat → Int32} {k : Int32} (hk : ¬ 0 ≤ k) (h : icH) (m : Nat) (ab be : Int64) (ii : Nat → Int32) : icE 185 0 [.ref m, .int k, dum, dum, dum, dum] [] (HM h m ab be ii A) = some (some (.int (-2)), HM h m ab be ii (ud A 6 (upd (A 6) 0 (A 6 0 + nI 1)))) := by
  simp only [SA, rw_185, HM_o, if_neg hk, c_mbad]
theorem m_orderN {R N H k : Nat} {D : Nat → Nat → Int32} {A : Nat → Nat → Int32} (hM : MR R N 0 H D (A 1)) (hk : k < 2 ^ 31) (hc : ctD D (nI 0) N ≤ k) (h : icH) (m : Nat) (ab be : Int64) (ii : Nat → Int32) : icE 185 0 [.ref m, .int (nI k), dum, dum, dum, dum] [] (HM h m ab be ii A) = some (some (.int (-3)), HM h m ab be ii (ud A 6 (upd (A 6) 1 (A 6 1 + nI 1)))) := by
  have s := c_standing (t := 1) (N := N) (Or.inl rfl) h m ab be ii (A := A) hM.1.2.1 hM.1.2.2.2.1
  rw [cnt_ct hM N (Nat.le_refl N)] at s
  simp only [SA, rw_185, HM_o, s, if_pos (nI_pos' hk), if_neg (nI_nlt hc hk), c_mno]
