/-! ===== the class: first, order, path, least, peak ===== -/
def bv (k : Nat) : Int32 := if k = 0 then -1 else nI (k - 1)
def fb (g : Nat → Nat) : Nat → Nat
  | 0 => 0
  | i + 1 => if g i ≠ 0 ∧ (fb g i = 0 ∨ g i < g (fb g i - 1)) then i + 1 else fb g i
theorem fb_le (g : Nat → Nat) : ∀ i, fb g i ≤ i
  | 0 => Nat.le_refl 0
  | i + 1 => by
    have := fb_le g i
    unfold fb
    split <;> omega
theorem l_first {h : icH} {ab be : Int64} (h0 : hg h 0 = some (xo ab be)) {N : Nat} (hN : N ≤ 6) {g : Nat → Nat} (hg9 : ∀ j, j < N → g j ≤ 96) {fa : Nat → Int32} (hf : ∀ j, j < N → fa j = fv (g j)) (Ht Rt Nt : Nat) (E : Nat → Nat → Int32) (H R : Nat) (D : Nat → Nat → Int32) (F : Nat → Nat) (f : Nat → Nat → Int32) : ∀ (m i : Nat), i + m = N → icE 88 10 [.ref 0, .int (bv (fb g i)), .int (nI i)] [] (HX h fa Ht Rt Nt E H R N D F f) = some (some (.int (bv (fb g N))), HX h fa Ht Rt Nt E H R N D F f)
  | 0, i, him => by
    have : i = N := by omega
    subst this
    rw [rh_88_10]
    simp only [SA, rw_88, HXz h0, HX_1, HX_2, if_pos (nI_le (Nat.le_refl i) (show i < 2 ^ 31 by omega))]
  | m + 1, i, him => by
    have ih := l_first h0 hN hg9 hf Ht Rt Nt E H R D F f m (i + 1) (by omega)
    have hi : i < N := by omega
    have b6 : 6 < 2 ^ 31 := by decide
    have gi := hg9 i hi
    have ble := fb_le g i
    rw [rh_88_10]
    by_cases c1 : g i = 0
    · have e1 : fb g (i + 1) = fb g i := if_neg (fun z => z.1 c1)
      have f1 : fa i = -1 := by rw [hf i hi, c1]; rfl
      rw [e1] at ih
      simp only [SA, rw_88, HXz h0, HX_1, HX_2, HX_40, if_neg (nI_ge hi (show N < 2 ^ 31 by omega)), ia_n (show i < 6 by omega) b6, if_pos f1, nI_add]
      exact ih
    · have f1 : fa i = nI (g i) := by rw [hf i hi]; exact if_neg c1
      have f2 : ¬ fa i = -1 := by rw [f1]; exact m1_n (by omega)
      by_cases c2 : fb g i = 0
      · have e1 : fb g (i + 1) = i + 1 := if_pos ⟨c1, Or.inl c2⟩
        have e2 : bv (fb g i) = -1 := if_pos c2
        rw [e1] at ih
        have e3 : bv (i + 1) = nI i := by unfold bv; rw [if_neg (by omega), Nat.add_sub_cancel]
        rw [e3] at ih
        rw [e2]
        simp only [SA, rw_88, HXz h0, HX_1, HX_2, HX_40, if_neg (nI_ge hi (show N < 2 ^ 31 by omega)), ia_n (show i < 6 by omega) b6, if_neg f2, if_true, nI_add]
        exact ih
      · have e2 : bv (fb g i) = nI (fb g i - 1) := if_neg c2
        have e4 : ¬ nI (fb g i - 1) = -1 := m1_n (by omega)
        have hb : fb g i - 1 < N := by omega
        have gb := hg9 _ hb
        by_cases c3 : g i < g (fb g i - 1)
        · have e1 : fb g (i + 1) = i + 1 := if_pos ⟨c1, Or.inr c3⟩
          have e3 : bv (i + 1) = nI i := by unfold bv; rw [if_neg (by omega), Nat.add_sub_cancel]
          have f3 : fa (fb g i - 1) = nI (g (fb g i - 1)) := by rw [hf _ hb]; exact if_neg (by omega)
          rw [e1, e3] at ih
          rw [e2]
          simp only [SA, rw_88, HXz h0, HX_1, HX_2, HX_40, if_neg (nI_ge hi (show N < 2 ^ 31 by omega)), ia_n (show i < 6 by omega) b6, ia_n (show fb g i - 1 < 6 by omega) b6, if_neg f2, if_neg e4, f1, f3, if_neg (nI_ge c3 (show g (fb g i - 1) < 2 ^ 31 by omega)), nI_add]
          simp only [if_neg (m1_n (show g i < 2 ^ 31 by omega))]
          exact ih
        · have e1 : fb g (i + 1) = fb g i := if_neg (fun z => z.2.elim c2 c3)
          rw [e1, e2] at ih
          rw [e2]
          by_cases c4 : g (fb g i - 1) = 0
          · have f3 : fa (fb g i - 1) = -1 := by rw [hf _ hb, c4]; rfl
            have q : (-1 : Int32) ≤ nI (g i) := by rw [Int32.le_iff_toInt_le, nI_toInt (by omega)]; have : (-1 : Int32).toInt = -1 := by decide
                                                   omega
            simp only [SA, rw_88, HXz h0, HX_1, HX_2, HX_40, if_neg (nI_ge hi (show N < 2 ^ 31 by omega)), ia_n (show i < 6 by omega) b6, ia_n (show fb g i - 1 < 6 by omega) b6, if_neg f2, if_neg e4, f1, f3, if_pos q, nI_add]
            simp only [if_neg (m1_n (show g i < 2 ^ 31 by omega))]
            exact ih
          · have f3 : fa (fb g i - 1) = nI (g (fb g i - 1)) := by rw [hf _ hb]; exact if_neg c4
            simp only [SA, rw_88, HXz h0, HX_1, HX_2, HX_40, if_neg (nI_ge hi (show N < 2 ^ 31 by omega)), ia_n (show i < 6 by omega) b6, ia_n (show fb g i - 1 < 6 by omega) b6, if_neg f2, if_neg e4, f1, f3, if_pos (nI_le (show g (fb g i - 1) ≤ g i by omega) (show g i < 2 ^ 31 by omega)), nI_add]
            simp only [if_neg (m1_n (show g i < 2 ^ 31 by omega))]
            exact ih
theorem x_first {h : icH} {ab be : Int64} (h0 : hg h 0 = some (xo ab be)) {R N H : Nat} {D : Nat → Nat → Int32} (hH : H ≤ 9999) (hD : EOK R N D) (hW : WOK D) (fa : Nat → Int32) (Ht Rt Nt : Nat) (E : Nat → Nat → Int32) (F : Nat → Nat) (f : Nat → Nat → Int32) : ∃ fa' Ht' E', icE 88 0 [.ref 0, dum, dum] [] (HX h fa Ht Rt Nt E H R N D F f) = some (some (.int (bv (fb (fl R N H (D 11) D 96) N))), HX h fa' Ht' R N E' H R N D F f) := by
  have hN := hD.2.1
  obtain ⟨fa', E', z, y⟩ := c_findFalls h0 (show 96 ≤ 96 by decide) hH hD hW fa Ht Rt Nt E F f
  refine ⟨fa', H + 96, E', ?_⟩
  simp only [SA, rw_88, HXz h0, z]
  exact l_first h0 hN (g := fl R N H (D 11) D 96) (fun j _ => fl_le R N H (D 11) D j 96) y (H + 96) R N E' H R D F f N 0 (by omega)
/-! the first of some that is so -/
def fs (p : Nat → Prop) [DecidablePred p] : Nat → Nat → Int32
  | 0, _ => -1
  | m + 1, i => if p i then nI i else fs p m (i + 1)
theorem fs_c {p q : Nat → Prop} [DecidablePred p] [DecidablePred q] : ∀ (m i : Nat), (∀ j, i ≤ j → j < i + m → (p j ↔ q j)) → fs p m i = fs q m i
  | 0, _, _ => rfl
  | m + 1, i, h => by
    have hi := h i (Nat.le_refl i) (by omega)
    unfold fs
    rw [fs_c m (i + 1) (fun j h1 h2 => h j (by omega) (by omega))]
    by_cases c : p i
    · rw [if_pos c, if_pos (hi.mp c)]
    · rw [if_neg c, if_neg (fun z => c (hi.mpr z))]
def anyB (p : Nat → Bool) : Nat → Bool
  | 0 => false
  | n + 1 => anyB p n || p n
theorem anyB_i (p : Nat → Bool) : ∀ n, anyB p n = true ↔ ∃ i, i < n ∧ p i = true
  | 0 => ⟨fun z => (by cases z), fun ⟨i, hi, _⟩ => (by omega)⟩
  | n + 1 => by
    unfold anyB
    rw [Bool.or_eq_true, anyB_i p n]
    constructor
    · rintro (⟨i, hi, z⟩ | z)
      · exact ⟨i, by omega, z⟩
      · exact ⟨n, by omega, z⟩
    · rintro ⟨i, hi, z⟩
      by_cases c : i = n
      · subst c; exact Or.inr z
      · exact Or.inl ⟨i, by omega, z⟩
def gv (k : Nat) : Nat := if k = 0 then 97 else k
abbrev bf (g : Nat → Nat) (j i : Nat) : Prop := gv (g j) < gv (g i) ∨ (gv (g j) = gv (g i) ∧ j < i)
theorem c_before {h : icH} {ab be : Int64} (h0 : hg h 0 = some (xo ab be)) {N i j : Nat} (hN : N ≤ 6) (hi : i < N) (hj : j < N) {g : Nat → Nat} (hg9 : ∀ j, j < N → g j ≤ 96) {fa : Nat → Int32} (hf : ∀ j, j < N → fa j = fv (g j)) (Ht Rt Nt : Nat) (E : Nat → Nat → Int32) (H R Nl : Nat) (D : Nat → Nat → Int32) (F : Nat → Nat) (f : Nat → Nat → Int32) : icE 123 0 [.ref 0, .int (nI j), .int (nI i), dum, dum] [] (HX h fa Ht Rt Nt E H R Nl D F f) = some (some (.int (bi (bf g j i))), HX h fa Ht Rt Nt E H R Nl D F f) := by
  have b6 : 6 < 2 ^ 31 := by decide
  have gi := hg9 i hi
  have gj := hg9 j hj
  have v : ∀ k, k < N → ((g k = 0 ∧ fa k = -1 ∧ gv (g k) = 97) ∨ (g k ≠ 0 ∧ fa k = nI (g k) ∧ gv (g k) = g k)) := by
    intro k hk
    by_cases c : g k = 0
    · exact Or.inl ⟨c, by rw [hf k hk, c]; rfl, if_pos c⟩
    · exact Or.inr ⟨c, by rw [hf k hk]; exact if_neg c, if_neg c⟩
  have tail : ∀ a b : Nat, a ≤ 97 → b ≤ 97 → icE 123 45 [.ref 0, .int (nI j), .int (nI i), .int (nI a), .int (nI b)] [] (HX h fa Ht Rt Nt E H R Nl D F f) = some (some (.int (bi (a < b ∨ (a = b ∧ j < i)))), HX h fa Ht Rt Nt E H R Nl D F f) := by
    intro a b ha hb
    by_cases c1 : a < b
    · rw [bi_t (Or.inl c1)]
      simp only [SA, rw_123, if_pos (nI_lt c1 (show b < 2 ^ 31 by omega))]
    · by_cases c2 : a = b
      · subst c2
        by_cases c3 : j < i
        · rw [bi_t (Or.inr ⟨rfl, c3⟩)]
          simp only [SA, rw_123, if_neg (nI_nlt (Nat.le_refl a) (show a < 2 ^ 31 by omega)), if_true, if_neg (nI_ge c3 (show i < 2 ^ 31 by omega))]
        · rw [bi_f (fun z => z.elim c1 (fun y => c3 y.2))]
          simp only [SA, rw_123, if_neg (nI_nlt (Nat.le_refl a) (show a < 2 ^ 31 by omega)), if_true, if_pos (nI_le (show i ≤ j by omega) (show j < 2 ^ 31 by omega))]
      · rw [bi_f (fun z => z.elim c1 (fun y => c2 y.1))]
        have c4 : ¬ nI a = nI b := fun z => c2 ((nI_eq (by omega) (by omega)).mp z)
        simp only [SA, rw_123, if_neg (nI_nlt (show b ≤ a by omega) (show a < 2 ^ 31 by omega)), if_neg c4]
  rcases v j hj with ⟨a1, a2, a3⟩ | ⟨a1, a2, a3⟩ <;> rcases v i hi with ⟨d1, d2, d3⟩ | ⟨d1, d2, d3⟩ <;> unfold bf <;> rw [a3, d3]
  · have t := tail 97 97 (by omega) (by omega)
    simp only [SA, rw_123, HXz h0, HX_40, ia_n (show i < 6 by omega) b6, ia_n (show j < 6 by omega) b6, a2, d2, if_true] at t ⊢
    exact t
  · have t := tail 97 (g i) (by omega) (by omega)
    simp only [SA, rw_123, HXz h0, HX_40, ia_n (show i < 6 by omega) b6, ia_n (show j < 6 by omega) b6, a2, d2, if_true, if_neg (m1_n (show g i < 2 ^ 31 by omega))] at t ⊢
    exact t
  · have t := tail (g j) 97 (by omega) (by omega)
    simp only [SA, rw_123, HXz h0, HX_40, ia_n (show i < 6 by omega) b6, ia_n (show j < 6 by omega) b6, a2, d2, if_true, if_neg (m1_n (show g j < 2 ^ 31 by omega))] at t ⊢
    exact t
  · have t := tail (g j) (g i) (by omega) (by omega)
    simp only [SA, rw_123, HXz h0, HX_40, ia_n (show i < 6 by omega) b6, ia_n (show j < 6 by omega) b6, a2, d2, if_true, if_neg (m1_n (show g j < 2 ^ 31 by omega)), if_neg (m1_n (show g i < 2 ^ 31 by omega))] at t ⊢
    exact t
def ec (g : Nat → Nat) (L : Nat → Int32) (i : Nat) : Nat → Nat
  | 0 => 0
  | j + 1 => ec g L i j + (if L j = 0 ∧ bf g j i then 1 else 0)
theorem ec_le (g : Nat → Nat) (L : Nat → Int32) (i : Nat) : ∀ n, ec g L i n ≤ n
  | 0 => Nat.le_refl 0
  | n + 1 => by
    have := ec_le g L i n
    unfold ec
    split <;> omega
theorem l_early {h : icH} {ab be : Int64} (h0 : hg h 0 = some (xo ab be)) {N i : Nat} (hN : N ≤ 6) (hi : i < N) {g : Nat → Nat} (hg9 : ∀ j, j < N → g j ≤ 96) {fa : Nat → Int32} (hf : ∀ j, j < N → fa j = fv (g j)) (Ht Rt Nt : Nat) (E : Nat → Nat → Int32) (H R : Nat) (D : Nat → Nat → Int32) (F : Nat → Nat) (f : Nat → Nat → Int32) : ∀ (m j : Nat), j + m = N → icE 122 4 [.ref 0, .int (nI i), .int (nI (ec g (D 11) i j)), .int (nI j)] [] (HX h fa Ht Rt Nt E H R N D F f) = some (some (.int (nI (ec g (D 11) i N))), HX h fa Ht Rt Nt E H R N D F f)
  | 0, j, him => by
    have : j = N := by omega
    subst this
    rw [rh_122_4]
    simp only [SA, rw_122, HXz h0, HX_1, HX_2, if_pos (nI_le (Nat.le_refl j) (show j < 2 ^ 31 by omega))]
  | m + 1, j, him => by
    have ih := l_early h0 hN hi hg9 hf Ht Rt Nt E H R D F f m (j + 1) (by omega)
    have hj : j < N := by omega
    have b6 : 6 < 2 ^ 31 := by decide
    rw [rh_122_4]
    by_cases c1 : D 11 j = 0
    · by_cases c2 : bf g j i
      · have e : ec g (D 11) i (j + 1) = ec g (D 11) i j + 1 := by show _ + (if _ then 1 else 0) = _; rw [if_pos ⟨c1, c2⟩]
        rw [e] at ih
        simp only [SA, rw_122, HXz h0, HX_1, HX_2, HXl, if_neg (nI_ge hj (show N < 2 ^ 31 by omega)), ia_n (show j < 6 by omega) b6, if_pos c1, c_before h0 hN hi hj hg9 hf, if_neg (bi_10 c2), nI_add]
        exact ih
      · have e : ec g (D 11) i (j + 1) = ec g (D 11) i j := by show _ + (if _ then 1 else 0) = _; rw [if_neg (fun z => c2 z.2)]; rfl
        rw [e] at ih
        simp only [SA, rw_122, HXz h0, HX_1, HX_2, HXl, if_neg (nI_ge hj (show N < 2 ^ 31 by omega)), ia_n (show j < 6 by omega) b6, if_pos c1, c_before h0 hN hi hj hg9 hf, if_pos (bi_00 c2), nI_add]
        exact ih
    · have e : ec g (D 11) i (j + 1) = ec g (D 11) i j := by show _ + (if _ then 1 else 0) = _; rw [if_neg (fun z => c1 z.1)]; rfl
      rw [e] at ih
      simp only [SA, rw_122, HXz h0, HX_1, HX_2, HXl, if_neg (nI_ge hj (show N < 2 ^ 31 by omega)), ia_n (show j < 6 by omega) b6, if_neg c1, nI_add]
      exact ih
theorem c_early {h : icH} {ab be : Int64} (h0 : hg h 0 = some (xo ab be)) {N i : Nat} (hN : N ≤ 6) (hi : i < N) {g : Nat → Nat} (hg9 : ∀ j, j < N → g j ≤ 96) {fa : Nat → Int32} (hf : ∀ j, j < N → fa j = fv (g j)) (Ht Rt Nt : Nat) (E : Nat → Nat → Int32) (H R : Nat) (D : Nat → Nat → Int32) (F : Nat → Nat) (f : Nat → Nat → Int32) : icE 122 0 [.ref 0, .int (nI i), dum, dum] [] (HX h fa Ht Rt Nt E H R N D F f) = some (some (.int (nI (ec g (D 11) i N))), HX h fa Ht Rt Nt E H R N D F f) := by
  simp only [SA, rw_122]
  exact l_early h0 hN hi hg9 hf Ht Rt Nt E H R D F f N 0 (by omega)
abbrev opr (g : Nat → Nat) (L : Nat → Int32) (N k : Nat) (i : Nat) : Prop := L i = 0 ∧ ec g L i N = k
theorem l_order {h : icH} {ab be : Int64} (h0 : hg h 0 = some (xo ab be)) {N k : Nat} (hN : N ≤ 6) (hk : k < 2 ^ 31) {g : Nat → Nat} (hg9 : ∀ j, j < N → g j ≤ 96) {fa : Nat → Int32} (hf : ∀ j, j < N → fa j = fv (g j)) (Ht Rt Nt : Nat) (E : Nat → Nat → Int32) (H R : Nat) (D : Nat → Nat → Int32) (F : Nat → Nat) (f : Nat → Nat → Int32) : ∀ (m i : Nat), i + m = N → icE 89 38 [.ref 0, .int (nI k), .int (-1), .int (nI i)] [] (HX h fa Ht Rt Nt E H R N D F f) = some (some (.int (fs (opr g (D 11) N k) m i)), HX h fa Ht Rt Nt E H R N D F f)
  | 0, i, him => by
    have : i = N := by omega
    subst this
    rw [rh_89_38]
    simp only [SA, rw_89, HXz h0, HX_1, HX_2, if_pos (nI_le (Nat.le_refl i) (show i < 2 ^ 31 by omega)), fs]
  | m + 1, i, him => by
    have ih := l_order h0 hN hk hg9 hf Ht Rt Nt E H R D F f m (i + 1) (by omega)
    have hi : i < N := by omega
    have b6 : 6 < 2 ^ 31 := by decide
    have le := ec_le g (D 11) i N
    rw [rh_89_38]
    unfold fs
    by_cases c1 : D 11 i = 0
    · by_cases c2 : ec g (D 11) i N = k
      · have c3 : nI (ec g (D 11) i N) = nI k := by rw [c2]
        rw [if_pos ⟨c1, c2⟩]
        simp only [SA, rw_89, HXz h0, HX_1, HX_2, HXl, if_neg (nI_ge hi (show N < 2 ^ 31 by omega)), ia_n (show i < 6 by omega) b6, if_pos c1, c_early h0 hN hi hg9 hf, if_pos c3, if_true, nI_add]
        rw [rh_89_38]
        by_cases c4 : N ≤ i + 1
        · simp only [SA, rw_89, HXz h0, HX_1, HX_2, if_pos (nI_le c4 (show i + 1 < 2 ^ 31 by omega))]
        · simp only [SA, rw_89, HXz h0, HX_1, HX_2, if_neg (nI_ge (show i + 1 < N by omega) (show N < 2 ^ 31 by omega)), if_neg (m1_n (show i < 2 ^ 31 by omega))]
      · have c3 : ¬ nI (ec g (D 11) i N) = nI k := fun z => c2 ((nI_eq (by omega) hk).mp z)
        rw [if_neg (fun z => c2 z.2)]
        simp only [SA, rw_89, HXz h0, HX_1, HX_2, HXl, if_neg (nI_ge hi (show N < 2 ^ 31 by omega)), ia_n (show i < 6 by omega) b6, if_pos c1, c_early h0 hN hi hg9 hf, if_neg c3, if_true, nI_add]
        exact ih
    · rw [if_neg (fun z => c1 z.1)]
      simp only [SA, rw_89, HXz h0, HX_1, HX_2, HXl, if_neg (nI_ge hi (show N < 2 ^ 31 by omega)), ia_n (show i < 6 by omega) b6, if_neg c1, if_true, nI_add]
      exact ih
theorem HX_hang {R N : Nat} (hN : N ≤ 6) (h : icH) (fa : Nat → Int32) (Ht Rt Nt : Nat) (E : Nat → Nat → Int32) (H : Nat) (D : Nat → Nat → Int32) (F : Nat → Nat) (f : Nat → Nat → Int32) : icE 16 0 [.ref (1 + 1)] [] (HX h fa Ht Rt Nt E H R N D F f) = some (some (.int (nI (ctD D (nI 0) N))), HX h fa Ht Rt Nt E H R N D F f) := by
  have c := c_hanging hN (HX h fa Ht Rt Nt E H R N D F f) (1 + 1) H R D
  rwa [HX_l, popc_ct hN] at c
theorem ctD_le (D : Nat → Nat → Int32) (v : Int32) : ∀ n, ctD D v n ≤ n
  | 0 => Nat.le_refl 0
  | n + 1 => by
    have := ctD_le D v n
    unfold ctD
    split <;> omega
theorem x_order {h : icH} {ab be : Int64} (h0 : hg h 0 = some (xo ab be)) {R N H k : Nat} {D : Nat → Nat → Int32} (hH : H ≤ 9999) (hD : EOK R N D) (hW : WOK D) (hk : k < ctD D (nI 0) N) (fa : Nat → Int32) (Ht Rt Nt : Nat) (E : Nat → Nat → Int32) (F : Nat → Nat) (f : Nat → Nat → Int32) : ∃ fa' Ht' E', icE 89 0 [.ref 0, .int (nI k), dum, dum] [] (HX h fa Ht Rt Nt E H R N D F f) = some (some (.int (fs (opr (fl R N H (D 11) D 96) (D 11) N k) N 0)), HX h fa' Ht' R N E' H R N D F f) := by
  have hN := hD.2.1
  have hc := ctD_le D (nI 0) N
  obtain ⟨fa', E', z, y⟩ := c_findFalls h0 (show 96 ≤ 96 by decide) hH hD hW fa Ht Rt Nt E F f
  refine ⟨fa', H + 96, E', ?_⟩
  simp only [SA, rw_89, HXz h0, HX_1, HX_2, HX_hang hN, if_pos (nI_pos' (show k < 2 ^ 31 by omega)), if_pos (nI_lt hk (show ctD D (nI 0) N < 2 ^ 31 by omega)), z]
  exact l_order h0 hN (show k < 2 ^ 31 by omega) (g := fl R N H (D 11) D 96) (fun j _ => fl_le R N H (D 11) D j 96) y (H + 96) R N E' H R D F f N 0 (by omega)
