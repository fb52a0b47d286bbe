/-! ===== the reference: path, least, peak; both alike ===== -/
theorem hsn_st {R N : Nat} {D : Nat → Nat → Int32} (hD : ∀ i, i < N → kd R (D 6 i)) : ∀ (t H : Nat), (∀ i, i < N → kd R (hsn R N t H D 6 i)) ∧ hsn R N t H D 8 = D 8 ∧ hsn R N t H D 6 = D 6
  | 0, _ => ⟨hD, rfl, rfl⟩
  | t + 1, H => by
    have ih := hsn_st hD t H
    rw [hsn_s]
    unfold hs
    rw [hw_n (a := 6) (by decide) (by decide) (by decide) (by decide), hw_n (a := 8) (by decide) (by decide) (by decide) (by decide)]
    exact ih
theorem hsn_11 {R N : Nat} {D : Nat → Nat → Int32} (hD : ∀ i, i < N → kd R (D 6 i)) (t H : Nat) {i : Nat} (hi : i < N) (hl : ¬ hsn R N t H D 11 i = 0) : hsn R N (t + 1) H D 11 i = hsn R N t H D 11 i := by
  rw [hsn_s]
  unfold hs
  rw [hw_11 hi ((hsn_st hD t H).1 i hi), if_neg hl]
theorem hsn_11' {R N : Nat} {D : Nat → Nat → Int32} (hD : ∀ i, i < N → kd R (D 6 i)) (t H : Nat) {i : Nat} (hi : i < N) (hl : ¬ hsn R N t H D 11 i = 0) : ∀ n, hsn R N (t + n) H D 11 i = hsn R N t H D 11 i
  | 0 => rfl
  | n + 1 => by
    have ih := hsn_11' hD t H hi hl n
    rw [← Nat.add_assoc, hsn_11 hD (t + n) H hi (by rw [ih]; exact hl), ih]
theorem fl_iff {R N : Nat} {D : Nat → Nat → Int32} (hD : ∀ i, i < N → kd R (D 6 i)) (H : Nat) {L : Nat → Int32} {i : Nat} (hi : i < N) (hL : D 11 i = L i) : ∀ t, fl R N H L D t i ≠ 0 ↔ (L i = 0 ∧ hsn R N t H D 11 i = nI 2)
  | 0 => by
    constructor
    · intro z; exact absurd rfl z
    · rintro ⟨a, b⟩
      have : D 11 i = nI 2 := b
      rw [hL, a] at this
      exact absurd this (by decide)
  | t + 1 => by
    have ih := fl_iff hD H hi hL t
    have e : fl R N H L D (t + 1) i = if fl R N H L D t i = 0 ∧ L i = 0 ∧ hsn R N (t + 1) H D 11 i = nI 2 then t + 1 else fl R N H L D t i := rfl
    rw [e]
    by_cases c : fl R N H L D t i = 0
    · by_cases c2 : L i = 0 ∧ hsn R N (t + 1) H D 11 i = nI 2
      · rw [if_pos ⟨c, c2⟩]; exact ⟨fun _ => c2, fun _ => by omega⟩
      · rw [if_neg (fun z => c2 z.2)]; exact ⟨fun z => absurd c z, fun z => absurd z c2⟩
    · rw [if_neg (fun z => c z.1)]
      have q := ih.mp c
      refine ⟨fun _ => ⟨q.1, ?_⟩, fun _ => c⟩
      rw [hsn_11 hD t H hi (by rw [q.2]; decide)]
      exact q.2
theorem fl_st {R N H : Nat} {L : Nat → Int32} {D : Nat → Nat → Int32} {t i : Nat} (h : fl R N H L D t i ≠ 0) : ∀ n, fl R N H L D (t + n) i = fl R N H L D t i
  | 0 => rfl
  | n + 1 => by
    have ih := fl_st h n
    have e : fl R N H L D (t + n + 1) i = if fl R N H L D (t + n) i = 0 ∧ L i = 0 ∧ hsn R N (t + n + 1) H D 11 i = nI 2 then t + n + 1 else fl R N H L D (t + n) i := rfl
    show fl R N H L D (t + n + 1) i = _
    rw [e, if_neg (fun z => by rw [ih] at z; exact h z.1), ih]
theorem fl_gt {R N H : Nat} {L : Nat → Int32} {D : Nat → Nat → Int32} {t i : Nat} (h : fl R N H L D t i = 0) : ∀ n, fl R N H L D (t + n) i = 0 ∨ t < fl R N H L D (t + n) i
  | 0 => Or.inl h
  | n + 1 => by
    have ih := fl_gt h n
    have e : fl R N H L D (t + n + 1) i = if fl R N H L D (t + n) i = 0 ∧ L i = 0 ∧ hsn R N (t + n + 1) H D 11 i = nI 2 then t + n + 1 else fl R N H L D (t + n) i := rfl
    show fl R N H L D (t + n + 1) i = 0 ∨ t < fl R N H L D (t + n + 1) i
    rw [e]
    split
    · right; omega
    · exact ih
theorem fl_32 {R N H : Nat} {L : Nat → Int32} {D : Nat → Nat → Int32} {i x : Nat} (h0 : 0 < x) (h1 : x ≤ 32) : fl R N H L D 96 i = x ↔ fl R N H L D 32 i = x := by
  by_cases c : fl R N H L D 32 i = 0
  · have := fl_gt c 64
    have e : fl R N H L D (32 + 64) i = fl R N H L D 96 i := rfl
    rw [e] at this
    omega
  · have := fl_st c 64
    have e : fl R N H L D (32 + 64) i = fl R N H L D 96 i := rfl
    rw [e] at this
    rw [this]
theorem anyB_c {p q : Nat → Bool} : ∀ n, (∀ j, j < n → p j = q j) → anyB p n = anyB q n
  | 0, _ => rfl
  | n + 1, h => by
    unfold anyB
    rw [anyB_c n (fun j hj => h j (by omega)), h n (by omega)]
theorem path_eq {R N H : Nat} {D : Nat → Nat → Int32} (h8 : ∀ i, i < N → kd 8 (D 8 i)) : fs (ppr (fl R N H (D 11) D 32) D N) 25 0 = fs (ppr (fl R N H (D 11) D 96) D N) 25 0 := by
  apply fs_c
  intro b _ hb
  unfold ppr
  rw [anyB_c N (q := hit (fl R N H (D 11) D 96) D b)]
  intro j hj
  have k8 := (h8 j hj).2
  unfold hit
  exact decide_eq_decide.mpr (fl_32 (by omega) (by omega)).symm
theorem s_mpath {N b i : Nat} (hN : N ≤ 6) (hb : b ≤ 24) (hi : i < N) {g : Nat → Nat} (hg9 : ∀ j, j < N → g j ≤ 96) {A D : Nat → Nat → Int32} (h10 : A 1 10 = nI N) (h8 : ∀ i, i < N → kd 8 (D 8 i)) (hp : ∀ j, j < N → A 1 (32 + j) = D 8 j) (hf : ∀ j, j < N → A 10 j = fw (g j)) (q : Bool) (h : icH) (m : Nat) (ab be : Int64) (ii : Nat → Int32) : icE 186 16 [.ref m, .int (nI b), .int (bi (q = true)), .int (nI i)] [] (HM h m ab be ii A) = icE 186 16 [.ref m, .int (nI b), .int (bi ((q || hit g D b i) = true)), .int (nI (i + 1))] [] (HM h m ab be ii A) := by
  have b6 : 6 < 2 ^ 31 := by decide
  have b2 : 292 < 2 ^ 31 := by decide
  have gi := hg9 i hi
  have k8 := h8 i hi
  have k8l := k8.2
  have e8 : A 1 (32 + i) = nI (kn (D 8 i)) := (hp i hi).trans k8.1
  have ef : A 10 i = nI (gw (g i)) := by rw [hf i hi, fw_g]
  have gl := gw_le gi
  rw [rh_186_16]
  cases q with
  | true =>
    rw [Bool.true_or]
    simp only [SA, rw_186, HM_o, HMr, ia_n (show 10 < 292 by decide) b2, h10, if_neg (nI_ge hi (show N < 2 ^ 31 by omega)), if_neg (bi_10 (show true = true from rfl)), nI_add]
    rfl
  | false =>
    rw [Bool.false_or]
    by_cases c : g i = b + kn (D 8 i) + 1
    · have c2 : gw (g i) = b + kn (D 8 i) + 1 := by rw [← c]; exact if_neg (by omega)
      rw [c2] at ef
      rw [bi_t (show hit g D b i = true from decide_eq_true c)]
      simp only [SA, rw_186, HM_o, HMr, ia_n (show 10 < 292 by decide) b2, h10, if_neg (nI_ge hi (show N < 2 ^ 31 by omega)), if_pos (bi_00 (show ¬ (false = true) by decide)), nI_add, ia_n (show i < 6 by omega) b6, ia_n (show 32 + i < 292 by omega) b2, ef, e8, if_true]
    · have c2 : ¬ nI (gw (g i)) = nI (b + kn (D 8 i) + 1) := by
        intro z
        have z2 := (nI_eq (by omega) (by omega)).mp z
        unfold gw at z2
        split at z2 <;> omega
      rw [bi_f (show ¬ hit g D b i = true from by unfold hit; rw [decide_eq_false c]; decide)]
      simp only [SA, rw_186, HM_o, HMr, ia_n (show 10 < 292 by decide) b2, h10, if_neg (nI_ge hi (show N < 2 ^ 31 by omega)), if_pos (bi_00 (show ¬ (false = true) by decide)), nI_add, ia_n (show i < 6 by omega) b6, ia_n (show 32 + i < 292 by omega) b2, ef, e8, if_neg c2]
theorem l_mpath2 {N b : Nat} (hN : N ≤ 6) (hb : b ≤ 24) {g : Nat → Nat} (hg9 : ∀ j, j < N → g j ≤ 96) {A D : Nat → Nat → Int32} (h10 : A 1 10 = nI N) (h8 : ∀ i, i < N → kd 8 (D 8 i)) (hp : ∀ j, j < N → A 1 (32 + j) = D 8 j) (hf : ∀ j, j < N → A 10 j = fw (g j)) (h : icH) (m : Nat) (ab be : Int64) (ii : Nat → Int32) : ∀ (n i : Nat), i + n = N → icE 186 16 [.ref m, .int (nI b), .int (bi (anyB (hit g D b) i = true)), .int (nI i)] [] (HM h m ab be ii A) = icE 186 65 [.ref m, .int (nI b), .int (bi (anyB (hit g D b) N = true)), .int (nI N)] [] (HM h m ab be ii A)
  | 0, i, him => by
    have : i = N := by omega
    subst this
    rw [rh_186_16]
    simp only [SA, rw_186, HM_o, HMr, ia_n (show 10 < 292 by decide) (show 292 < 2 ^ 31 by decide), h10, if_pos (nI_le (Nat.le_refl i) (show i < 2 ^ 31 by omega))]
  | n + 1, i, him => by
    have ih := l_mpath2 hN hb hg9 h10 h8 hp hf h m ab be ii n (i + 1) (by omega)
    exact (s_mpath hN hb (by omega) hg9 h10 h8 hp hf _ h m ab be ii).trans ih
theorem l_mpath1 {N : Nat} (hN : N ≤ 6) {g : Nat → Nat} (hg9 : ∀ j, j < N → g j ≤ 96) {A D : Nat → Nat → Int32} (h10 : A 1 10 = nI N) (h8 : ∀ i, i < N → kd 8 (D 8 i)) (hp : ∀ j, j < N → A 1 (32 + j) = D 8 j) (hf : ∀ j, j < N → A 10 j = fw (g j)) (h : icH) (m : Nat) (ab be : Int64) (ii : Nat → Int32) : ∀ (n b : Nat) (y z : Value), b + n = 25 → icE 186 6 [.ref m, .int (nI b), y, z] [] (HM h m ab be ii A) = some (some (.int (fs (ppr g D N) n b)), HM h m ab be ii A)
  | 0, b, y, z, him => by
    have : b = 25 := by omega
    subst this
    rw [rh_186_6]
    simp only [SA, rw_186, if_pos (nI_le (Nat.le_refl 25) (show 25 < 2 ^ 31 by decide)), fs]
  | n + 1, b, y, z, him => by
    have ih := l_mpath1 hN hg9 h10 h8 hp hf h m ab be ii n (b + 1) (.int (bi (anyB (hit g D b) N = true))) (.int (nI N)) (by omega)
    have s : icE 186 16 [.ref m, .int (nI b), .int (nI 0), .int (nI 0)] [] (HM h m ab be ii A) = _ := l_mpath2 hN (show b ≤ 24 by omega) hg9 h10 h8 hp hf h m ab be ii N 0 (by omega)
    rw [rh_186_6]
    simp only [SA, rw_186, if_neg (nI_ge (show b < 25 by omega) (show 25 < 2 ^ 31 by decide))]
    rw [s]
    unfold fs
    by_cases c : anyB (hit g D b) N = true
    · rw [if_neg (show ¬ ppr g D N b from fun q => by unfold ppr at q; rw [c] at q; cases q)]
      simp only [SA, rw_186, if_neg (bi_10 c), nI_add]
      exact ih
    · rw [if_pos (show ppr g D N b from Bool.eq_false_iff.mpr c)]
      simp only [SA, rw_186, if_pos (bi_00 c)]
theorem m_path {R N H : Nat} {D : Nat → Nat → Int32} {A : Nat → Nat → Int32} (hM : MR R N 0 H D (A 1)) (hH : H ≤ 9999) (h8 : ∀ i, i < N → kd 8 (D 8 i)) (h : icH) (m : Nat) (ab be : Int64) (ii : Nat → Int32) : ∃ A', icE 186 0 [.ref m, dum, dum, dum] [] (HM h m ab be ii A) = some (some (.int (fs (ppr (fl R N H (D 11) D 32) D N) 25 0)), HM h m ab be ii A') ∧ MSC A A' := by
  have hN := hM.1.2.2.2.1
  obtain ⟨A', z1, z2, z3⟩ := c_findsFalls hM hH h m ab be ii
  refine ⟨A', ?_, z2⟩
  rw [path_eq h8]
  have y := l_mpath1 hN (g := fl R N H (D 11) D 96) (fun j _ => fl_le R N H (D 11) D j 96) (A := A') (D := D) (by rw [MSC_1 z2]; exact hM.1.2.1) h8 (by rw [MSC_1 z2]; exact fun j hj => MR_8 hM hj) z3 h m ab be ii 25 0 dum dum (by omega)
  simp only [SA, rw_186, HM_o, z1]
  exact y
abbrev lqB (R N H : Nat) (D : Nat → Nat → Int32) (r e i : Nat) : Bool := decide (D 6 i = nI r ∧ D 11 i = 0 ∧ hsn R N 48 H (dh D r e) 11 i = nI 2)
theorem least_eq {R N H r : Nat} {D : Nat → Nat → Int32} (hD : ∀ i, i < N → kd R (D 6 i)) : fs (lpr R N H D r) 10 0 = fs (fun e => anyB (lqB R N H D r e) N = false) 10 0 := by
  apply fs_c
  intro e _ _
  unfold lpr
  rw [anyB_c N (q := lqB R N H D r e)]
  intro j hj
  unfold aoH lqB
  apply decide_eq_decide.mpr
  have d6 : ∀ i, i < N → kd R (dh D r e 6 i) := by unfold dh; rw [ud_n (by decide)]; exact hD
  have d11 : dh D r e 11 j = D 11 j := by unfold dh; rw [ud_n (by decide)]
  rw [fl_iff d6 H hj d11 48]
theorem l_mleast2 {R N H r : Nat} {D0 : Nat → Nat → Int32} (hH : H ≤ 9999) (e : Int32) (h : icH) (m : Nat) (ab be : Int64) (ii : Nat → Int32) (y : Value) : ∀ (k t : Nat) (A : Nat → Nat → Int32), t + k = 48 → MR R N t H D0 (A 2) → ∃ A', icE 187 39 [.ref m, .int (nI r), .int e, .int (nI t), y] [] (HM h m ab be ii A) = icE 187 60 [.ref m, .int (nI r), .int e, .int (nI 48), y] [] (HM h m ab be ii A') ∧ MSC A A' ∧ MR R N 48 H D0 (A' 2)
  | 0, t, A, him, hM => by
    have : t = 48 := by omega
    subst this
    refine ⟨A, ?_, MSC_r A, hM⟩
    rw [rh_187_39]
    simp only [SA, rw_187, if_pos (nI_le (Nat.le_refl 48) (show 48 < 2 ^ 31 by decide))]
  | k + 1, t, A, him, hM => by
    obtain ⟨v, T', W', z, hM'⟩ := MR_step hM (by omega) h m ab be ii
    obtain ⟨A', ih, q1, q2⟩ := l_mleast2 (r := r) hH e h m ab be ii y k (t + 1) (ud (ud A 2 T') 7 W') (by omega) (by rw [ud_n (by decide), ud_s]; exact hM')
    refine ⟨A', ?_, MSC_t (MSC_u (MSC_u (MSC_r A) (by decide) T') (by decide) W') q1, q2⟩
    refine Eq.trans ?_ ih
    rw [rh_187_39]
    simp only [SA, rw_187, HM_o, if_neg (nI_ge (show t < 48 by omega) (show 48 < 2 ^ 31 by decide)), z, nI_add]
theorem l_mleast3 {N r : Nat} (hN : N ≤ 6) {A D : Nat → Nat → Int32} {Z : Nat → Int32} (h10 : A 1 10 = nI N) (h6 : ∀ j, j < N → A 1 (20 + j) = D 6 j) (hL : ∀ j, j < N → A 1 (50 + j) = D 11 j) (h2 : ∀ j, j < N → A 2 (50 + j) = Z j) (e : Int32) (h : icH) (m : Nat) (ab be : Int64) (ii : Nat → Int32) : ∀ (n i : Nat), i + n = N → icE 187 65 [.ref m, .int (nI r), .int e, .int (bi (anyB (fun i => decide (D 6 i = nI r ∧ D 11 i = 0 ∧ Z i = nI 2)) i = false)), .int (nI i)] [] (HM h m ab be ii A) = icE 187 134 [.ref m, .int (nI r), .int e, .int (bi (anyB (fun i => decide (D 6 i = nI r ∧ D 11 i = 0 ∧ Z i = nI 2)) N = false)), .int (nI N)] [] (HM h m ab be ii A)
  | 0, i, him => by
    have : i = N := by omega
    subst this
    rw [rh_187_65]
    simp only [SA, rw_187, HM_o, HMr, ia_n (show 10 < 292 by decide) (show 292 < 2 ^ 31 by decide), h10, if_pos (nI_le (Nat.le_refl i) (show i < 2 ^ 31 by omega))]
  | n + 1, i, him => by
    have ih := l_mleast3 (r := r) hN h10 h6 hL h2 e h m ab be ii n (i + 1) (by omega)
    have hi : i < N := by omega
    have b5 : 56 < 2 ^ 31 := by decide
    have b2 : 292 < 2 ^ 31 := by decide
    have es : anyB (fun i => decide (D 6 i = nI r ∧ D 11 i = 0 ∧ Z i = nI 2)) (i + 1) = (anyB (fun i => decide (D 6 i = nI r ∧ D 11 i = 0 ∧ Z i = nI 2)) i || decide (D 6 i = nI r ∧ D 11 i = 0 ∧ Z i = nI 2)) := rfl
    rw [es] at ih
    cases hq : anyB (fun i => decide (D 6 i = nI r ∧ D 11 i = 0 ∧ Z i = nI 2)) i with
    | true =>
      rw [hq, Bool.true_or] at ih
      rw [bi_f (by decide)] at ih ⊢
      refine Eq.trans ?_ ih
      rw [rh_187_65]
      simp only [SA, rw_187, HM_o, HMr, ia_n (show 10 < 292 by decide) b2, h10, if_neg (nI_ge hi (show N < 2 ^ 31 by omega)), if_pos (show nI 0 = 0 by decide), nI_add]
    | false =>
      rw [hq, Bool.false_or] at ih
      rw [bi_t rfl]
      by_cases c1 : D 6 i = nI r
      · by_cases c2 : D 11 i = 0
        · by_cases c3 : Z i = nI 2
          · rw [decide_eq_true ⟨c1, c2, c3⟩, bi_f (by decide)] at ih
            refine Eq.trans ?_ ih
            rw [rh_187_65]
            simp only [SA, rw_187, HM_o, HMr, ia_n (show 10 < 292 by decide) b2, h10, if_neg (nI_ge hi (show N < 2 ^ 31 by omega)), if_neg (show ¬ nI 1 = 0 by decide), nI_add, ia_n (show 20 + i < 292 by omega) b2, ia_n (show 50 + i < 292 by omega) b2, ia_n (show 50 + i < 56 by omega) b5, h6 i hi, hL i hi, h2 i hi, if_pos c1, if_pos c2, if_pos c3]
          · rw [decide_eq_false (fun z => c3 z.2.2), bi_t rfl] at ih
            refine Eq.trans ?_ ih
            rw [rh_187_65]
            simp only [SA, rw_187, HM_o, HMr, ia_n (show 10 < 292 by decide) b2, h10, if_neg (nI_ge hi (show N < 2 ^ 31 by omega)), if_neg (show ¬ nI 1 = 0 by decide), nI_add, ia_n (show 20 + i < 292 by omega) b2, ia_n (show 50 + i < 292 by omega) b2, ia_n (show 50 + i < 56 by omega) b5, h6 i hi, hL i hi, h2 i hi, if_pos c1, if_pos c2, if_neg c3]
        · rw [decide_eq_false (fun z => c2 z.2.1), bi_t rfl] at ih
          refine Eq.trans ?_ ih
          rw [rh_187_65]
          simp only [SA, rw_187, HM_o, HMr, ia_n (show 10 < 292 by decide) b2, h10, if_neg (nI_ge hi (show N < 2 ^ 31 by omega)), if_neg (show ¬ nI 1 = 0 by decide), nI_add, ia_n (show 20 + i < 292 by omega) b2, ia_n (show 50 + i < 292 by omega) b2, h6 i hi, hL i hi, if_pos c1, if_neg c2]
      · rw [decide_eq_false (fun z => c1 z.1), bi_t rfl] at ih
        refine Eq.trans ?_ ih
        rw [rh_187_65]
        simp only [SA, rw_187, HM_o, HMr, ia_n (show 10 < 292 by decide) b2, h10, if_neg (nI_ge hi (show N < 2 ^ 31 by omega)), if_neg (show ¬ nI 1 = 0 by decide), nI_add, ia_n (show 20 + i < 292 by omega) b2, h6 i hi, if_neg c1]
theorem MR_dh {R N H r e : Nat} {D : Nat → Nat → Int32} {T : Nat → Int32} (hr : r < R) (h : MR R N 0 H D T) : MR R N 0 H (dh D r e) (upd T (14 + r) (nI e)) := by
  obtain ⟨⟨h9, h10, hR, hN, hk, hs, hki, hro⟩, h0, hE⟩ := h
  have n : ∀ c, c ≠ 14 + r → upd T (14 + r) (nI e) c = T c := fun c hc => pk_un hc
  refine ⟨⟨?_, ?_, hR, hN, fun q hq => ?_, fun q hq => ?_, fun q hq => ?_, fun q hq => ?_⟩, ?_, fun V => ?_⟩
  · rw [n _ (by omega)]; exact h9
  · rw [n _ (by omega)]; exact h10
  · rw [n _ (by omega)]; exact hk q hq
  · rw [n _ (by omega)]; exact hs q hq
  · rw [n _ (by omega)]; exact hki q hq
  · rw [n _ (by omega)]; exact hro q hq
  · rw [n _ (by omega)]; exact h0
  · have z := hE V
    refine ERl_t ?_ (ERl_dh z r e)
    unfold dh
    refine ⟨fun k hk => ?_, fun a h1 h2 q hq => ?_, fun a h1 h2 q hq => ?_⟩
    · rw [ud_n (by decide)]; exact n (1 + k) (by omega)
    · by_cases c : a = 3
      · subst c
        rw [ud_s]
        show upd T (14 + r) (nI e) (14 + q) = upd (vw T V 3) r (nI e) q
        by_cases c2 : q = r
        · rw [c2, pk_us, pk_us]
        · rw [pk_un c2, pk_un (by omega)]; rfl
      · rw [ud_n c]
        unfold vw
        rw [if_neg (by omega), if_neg (by omega)]
        have : bs a = 5 + 3 * a := by unfold bs; rw [if_neg (by omega), if_pos (by omega)]
        rw [this]
        exact n _ (by omega)
    · rw [ud_n (by omega)]
      unfold vw
      rw [if_neg (by omega), if_neg (by omega)]
      have : bs a = 6 * a - 16 := by unfold bs; rw [if_neg (by omega), if_neg (by omega)]
      rw [this]
      exact n _ (by omega)
theorem l_mleast1 {R N H r : Nat} {D : Nat → Nat → Int32} (hH : H ≤ 9999) (hr : r < R) (h : icH) (m : Nat) (ab be : Int64) (ii : Nat → Int32) : ∀ (k e : Nat) (y z : Value) (A : Nat → Nat → Int32), e + k = 10 → MR R N 0 H D (A 1) → ∃ A', icE 187 17 [.ref m, .int (nI r), .int (nI e), y, z] [] (HM h m ab be ii A) = some (some (.int (fs (fun e => anyB (lqB R N H D r e) N = false) k e)), HM h m ab be ii A') ∧ MSC A A'
  | 0, e, y, z, A, him, hM => by
    have : e = 10 := by omega
    subst this
    refine ⟨A, ?_, MSC_r A⟩
    rw [rh_187_17]
    simp only [SA, rw_187, if_pos (nI_le (Nat.le_refl 10) (show 10 < 2 ^ 31 by decide)), fs]
  | k + 1, e, y, z, A, him, hM => by
    have hN := hM.1.2.2.2.1
    have hR := hM.1.2.2.1
    obtain ⟨A1, s1, s2, s3⟩ := l_mleast2 (R := R) (N := N) (r := r) (D0 := dh D r e) hH (nI e) h m ab be ii z 48 0 (ud A 2 (upd (va_cpy (A 1) (A 2) 0 0 56) (14 + r) (nI e))) (by omega) (by rw [ud_s]; exact MR_dh hr (MR_lay hM _))
    have m1 : A1 1 = A 1 := (MSC_1 s2).trans (ud_n (by decide))
    have s4 : icE 187 65 [.ref m, .int (nI r), .int (nI e), .int (nI 1), .int (nI 0)] [] (HM h m ab be ii A1) = _ := l_mleast3 (r := r) hN (A := A1) (D := D) (Z := hsn R N 48 H (dh D r e) 11) (by rw [m1]; exact hM.1.2.1) (by rw [m1]; exact fun j hj => MR_6 hM hj) (by rw [m1]; exact fun j hj => MR_11 hM hj) (fun j hj => MR_11 s3 hj) (nI e) h m ab be ii N 0 (by omega)
    have s0 : MSC A A1 := MSC_t (MSC_u (MSC_r A) (by decide) _) s2
    have b5 : 56 < 2 ^ 31 := by decide
    unfold fs
    by_cases c : anyB (lqB R N H D r e) N = false
    · rw [if_pos c]
      refine ⟨A1, ?_, s0⟩
      rw [rh_187_17]
      simp only [SA, rw_187, HM_o, HMr, HMw, if_neg (nI_ge (show e < 10 by omega) (show 10 < 2 ^ 31 by decide)), c_laysAside, nI_add, ud_s, is_n (show 14 + r < 56 by omega) b5, ud_u]
      rw [s1]
      simp only [SA, rw_187]
      rw [s4]
      simp only [SA, rw_187, if_neg (bi_10 c)]
    · rw [if_neg c]
      obtain ⟨A', ih, q⟩ := l_mleast1 hH hr h m ab be ii k (e + 1) (.int (bi (anyB (lqB R N H D r e) N = false))) (.int (nI N)) A1 (by omega) (by rw [m1]; exact hM)
      refine ⟨A', ?_, MSC_t s0 q⟩
      rw [rh_187_17]
      simp only [SA, rw_187, HM_o, HMr, HMw, if_neg (nI_ge (show e < 10 by omega) (show 10 < 2 ^ 31 by decide)), c_laysAside, nI_add, ud_s, is_n (show 14 + r < 56 by omega) b5, ud_u]
      rw [s1]
      simp only [SA, rw_187]
      rw [s4]
      simp only [SA, rw_187, if_pos (bi_00 c), nI_add]
      exact ih
theorem m_least {R N H r : Nat} {D : Nat → Nat → Int32} {A : Nat → Nat → Int32} (hM : MR R N 0 H D (A 1)) (hD : EOK R N D) (hH : H ≤ 9999) (hr : r < R) (h : icH) (m : Nat) (ab be : Int64) (ii : Nat → Int32) : ∃ A', icE 187 0 [.ref m, .int (nI r), dum, dum, dum] [] (HM h m ab be ii A) = some (some (.int (fs (lpr R N H D r) 10 0)), HM h m ab be ii A') ∧ MSC A A' := by
  obtain ⟨A', z, y⟩ := l_mleast1 hH hr h m ab be ii 10 0 dum dum A (by omega) hM
  refine ⟨A', ?_, y⟩
  rw [least_eq hD.2.2.2.2]
  simp only [SA, rw_187, HM_o, c_misRoof, if_neg (bi_10 (MR_r hM hr))]
  exact z
def mq (R N H : Nat) (D : Nat → Nat → Int32) (i : Nat) : Nat → Int32 × Int32
  | 0 => (-1, -1)
  | t + 1 => if hsn R N t H D 11 i = 0 ∧ (mq R N H D i t).2 < hsn R N t H D 9 i then (nI t, hsn R N t H D 9 i) else mq R N H D i t
theorem mq_pq {R N H : Nat} {D : Nat → Nat → Int32} {i : Nat} (hl : D 11 i = 0) (h9 : (-1 : Int32) < D 9 i) : ∀ t, mq R N H D i (t + 1) = (nI (pq R N H D i t).1, (pq R N H D i t).2)
  | 0 => if_pos ⟨hl, h9⟩
  | t + 1 => by
    have ih := mq_pq (R := R) (N := N) (H := H) hl h9 t
    have e : mq R N H D i (t + 1 + 1) = if hsn R N (t + 1) H D 11 i = 0 ∧ (mq R N H D i (t + 1)).2 < hsn R N (t + 1) H D 9 i then (nI (t + 1), hsn R N (t + 1) H D 9 i) else mq R N H D i (t + 1) := rfl
    have e2 : pq R N H D i (t + 1) = if hsn R N (t + 1) H D 11 i = 0 ∧ (pq R N H D i t).2 < hsn R N (t + 1) H D 9 i then (t + 1, hsn R N (t + 1) H D 9 i) else pq R N H D i t := rfl
    rw [e, e2, ih]
    dsimp only
    split <;> rfl
theorem mq_l {R N H : Nat} {D : Nat → Nat → Int32} (hD : ∀ i, i < N → kd R (D 6 i)) {i : Nat} (hi : i < N) (hl : ¬ D 11 i = 0) : ∀ t, mq R N H D i t = (-1, -1)
  | 0 => rfl
  | t + 1 => by
    have ih := mq_l (H := H) hD hi hl t
    have s := hsn_11' hD 0 H hi hl t
    rw [Nat.zero_add] at s
    have e : mq R N H D i (t + 1) = if hsn R N t H D 11 i = 0 ∧ (mq R N H D i t).2 < hsn R N t H D 9 i then (nI t, hsn R N t H D 9 i) else mq R N H D i t := rfl
    rw [e, if_neg (fun z => hl (s.symm.trans z.1)), ih]
theorem l_mpeak {R N H i j : Nat} {D : Nat → Nat → Int32} (hH : H ≤ 9999) (hi : i < N) (hj : j < 2) (h : icH) (m : Nat) (ab be : Int64) (ii : Nat → Int32) : ∀ (k t : Nat) (A : Nat → Nat → Int32), t + k = 49 → MR R N t H D (A 2) → ∃ A', icE 188 37 [.ref m, .int (nI i), .int (nI j), .int (mq R N H D i t).1, .int (mq R N H D i t).2, .int (nI t)] [] (HM h m ab be ii A) = some (some (.int (if j = 0 then (mq R N H D i 49).1 else (mq R N H D i 49).2)), HM h m ab be ii A') ∧ MSC A A'
  | 0, t, A, him, hM => by
    have : t = 49 := by omega
    subst this
    refine ⟨A, ?_, MSC_r A⟩
    rw [rh_188_37]
    have : j = 0 ∨ j = 1 := by omega
    rcases this with rfl | rfl
    · simp only [SA, rw_188, if_pos (nI_le (Nat.le_refl 49) (show 49 < 2 ^ 31 by decide)), nI_0, if_true]
    · simp only [SA, rw_188, if_pos (nI_le (Nat.le_refl 49) (show 49 < 2 ^ 31 by decide)), if_neg (show ¬ nI 1 = 0 by decide), if_neg (show ¬ (1 : Nat) = 0 by decide)]
  | k + 1, t, A, him, hM => by
    have hN := hM.1.2.2.2.1
    have b5 : 56 < 2 ^ 31 := by decide
    obtain ⟨v, T', W', z, hM'⟩ := MR_step hM (by omega) h m ab be ii
    obtain ⟨A', ih, y⟩ := l_mpeak hH hi hj h m ab be ii k (t + 1) (ud (ud A 2 T') 7 W') (by omega) (by rw [ud_n (by decide), ud_s]; exact hM')
    refine ⟨A', ?_, MSC_t (MSC_u (MSC_u (MSC_r A) (by decide) T') (by decide) W') y⟩
    have e9 := MR_9 hM hi
    have e11 := MR_11 hM hi
    rw [rh_188_37]
    by_cases c1 : hsn R N t H D 11 i = 0
    · by_cases c2 : (mq R N H D i t).2 < hsn R N t H D 9 i
      · have ep : mq R N H D i (t + 1) = (nI t, hsn R N t H D 9 i) := if_pos ⟨c1, c2⟩
        rw [ep] at ih
        have c3 : ¬ hsn R N t H D 9 i ≤ (mq R N H D i t).2 := by
          rw [Int32.lt_iff_toInt_lt] at c2; rw [Int32.le_iff_toInt_le]; omega
        simp only [SA, rw_188, HM_o, HMr, if_neg (nI_ge (show t < 49 by omega) (show 49 < 2 ^ 31 by decide)), nI_add, ia_n (show 50 + i < 56 by omega) b5, ia_n (show 38 + i < 56 by omega) b5, e9, e11, if_pos c1, if_neg c3, z]
        exact ih
      · have ep : mq R N H D i (t + 1) = mq R N H D i t := if_neg (fun z => c2 z.2)
        rw [ep] at ih
        have c3 : hsn R N t H D 9 i ≤ (mq R N H D i t).2 := by
          rw [Int32.lt_iff_toInt_lt] at c2; rw [Int32.le_iff_toInt_le]; omega
        simp only [SA, rw_188, HM_o, HMr, if_neg (nI_ge (show t < 49 by omega) (show 49 < 2 ^ 31 by decide)), nI_add, ia_n (show 50 + i < 56 by omega) b5, ia_n (show 38 + i < 56 by omega) b5, e9, e11, if_pos c1, if_pos c3, z]
        exact ih
    · have ep : mq R N H D i (t + 1) = mq R N H D i t := if_neg (fun z => c1 z.1)
      rw [ep] at ih
      simp only [SA, rw_188, HM_o, HMr, if_neg (nI_ge (show t < 49 by omega) (show 49 < 2 ^ 31 by decide)), nI_add, ia_n (show 50 + i < 56 by omega) b5, e11, if_neg c1, z]
      exact ih
theorem m_peak' {R N H i j : Nat} {D : Nat → Nat → Int32} {A : Nat → Nat → Int32} (hM : MR R N 0 H D (A 1)) (hH : H ≤ 9999) (hi : i < N) (hj : j < 2) (h : icH) (m : Nat) (ab be : Int64) (ii : Nat → Int32) : ∃ A', icE 188 0 [.ref m, .int (nI i), .int (nI j), dum, dum, dum] [] (HM h m ab be ii A) = some (some (.int (if j = 0 then (mq R N H D i 49).1 else (mq R N H D i 49).2)), HM h m ab be ii A') ∧ MSC A A' := by
  obtain ⟨A', z, y⟩ := l_mpeak hH hi hj h m ab be ii 49 0 (ud A 2 (va_cpy (A 1) (A 2) 0 0 56)) (by omega) (by rw [ud_s]; exact MR_lay hM _)
  refine ⟨A', ?_, MSC_t (MSC_u (MSC_r A) (by decide) _) y⟩
  simp only [SA, rw_188, HM_o, c_misIce, c_in, l64, i64_le, if_neg (bi_10 (MR_i hM hi)), if_neg (bi_10 (W_n (Nat.zero_le j) (show j ≤ 1 by omega) (by decide))), c_laysAside]
  exact z
theorem m_peak {R N H i j : Nat} {D : Nat → Nat → Int32} {A : Nat → Nat → Int32} (hM : MR R N 0 H D (A 1)) (hH : H ≤ 9999) (hi : i < N) (hj : j < 2) (hl : D 11 i = 0) (h9 : (-1 : Int32) < D 9 i) (h : icH) (m : Nat) (ab be : Int64) (ii : Nat → Int32) : ∃ A', icE 188 0 [.ref m, .int (nI i), .int (nI j), dum, dum, dum] [] (HM h m ab be ii A) = some (some (.int (if j = 0 then nI (pq R N H D i 48).1 else (pq R N H D i 48).2)), HM h m ab be ii A') ∧ MSC A A' := by
  obtain ⟨A', z, y⟩ := m_peak' hM hH hi hj h m ab be ii
  rw [mq_pq hl h9 48] at z
  exact ⟨A', z, y⟩
theorem m_peakL {R N H i j : Nat} {D : Nat → Nat → Int32} {A : Nat → Nat → Int32} (hM : MR R N 0 H D (A 1)) (hD : EOK R N D) (hH : H ≤ 9999) (hi : i < N) (hj : j < 2) (hl : ¬ D 11 i = 0) (h : icH) (m : Nat) (ab be : Int64) (ii : Nat → Int32) : ∃ A', icE 188 0 [.ref m, .int (nI i), .int (nI j), dum, dum, dum] [] (HM h m ab be ii A) = some (some (.int (-1)), HM h m ab be ii A') ∧ MSC A A' := by
  obtain ⟨A', z, y⟩ := m_peak' hM hH hi hj h m ab be ii
  rw [mq_l hD.2.2.2.2 hi hl 49] at z
  refine ⟨A', ?_, y⟩
  rw [z]
  split <;> rfl
