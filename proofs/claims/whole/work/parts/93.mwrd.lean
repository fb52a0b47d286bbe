/-! ===== reading: words, numbers, items of the reference ===== -/
theorem c_letter' {A : Nat → Nat → Int32} {b : Nat → Nat} {q z : Nat} (hb : ∀ k, k < z → A 5 k = nI (b k) ∧ b k < 128) (hz : z ≤ 150) (hq : q < 2 ^ 31) (x1 x2 x3 x4 x5 : Int32) (h : icH) (m : Nat) (ab be : Int64) : icE 160 0 [.ref m, .int (nI q)] [] (HM h m ab be (i6 (nI z) x1 x2 x3 x4 x5) A) = some (some (.int (lt b z q)), HM h m ab be (i6 (nI z) x1 x2 x3 x4 x5) A) := c_letter hb hz hq x1 x2 x3 x4 x5 h m ab be
theorem c_mnum {A : Nat → Nat → Int32} {b : Nat → Nat} {z p k : Nat} (hb : ∀ k, k < z → A 5 k = nI (b k) ∧ b k < 128) (hz : z ≤ 150) (hp : p ≤ z) (hk : k < 5) (lo hi x2 x3 x4 x5 : Int32) (g : Nat → Int32) (h : icH) (m : Nat) (ab be : Int64) : ∃ v', icE 163 0 [.ref m, .int (nI k), .int lo, .int hi] [] (HM h m ab be (i6 (nI z) (nI p) x2 x3 x4 x5) (ud A 8 g)) = some (some (.int (bi (nbP b z p lo hi))), HM h m ab be (i6 (nI z) (nI (tkE b z p)) (nI (tkS b z p)) (nI (tkT b z p)) v' x5) (ud A 8 (upd g k v'))) ∧ (tkT b z p = 2 → v' = nI (tkV b z p)) := by
  obtain ⟨v', n1, n2⟩ := c_step (A := ud A 8 g) (b := b) (by rw [ud_n (by decide)]; exact hb) hz hp x2 x3 x4 x5 h m ab be
  refine ⟨v', ?_, n2⟩
  have t4 := tk_T b z (tkS b z p)
  by_cases c : tkT b z p = 2
  · have e2 := n2 c
    have c' : nI (tkT b z p) = nI 2 := by rw [c]
    by_cases q : lo ≤ nI (tkV b z p) ∧ nI (tkV b z p) ≤ hi
    · rw [bi_t (show nbP b z p lo hi from ⟨c, q⟩)]
      subst e2
      simp only [SA, rw_163, HM_o, HMr, HMw, n1, i6_0, i6_1, i6_2, i6_3, i6_4, i6_5, is_n hk (show 5 < 2 ^ 31 by decide), ud_s, ud_u, if_pos c', c_in, i64_le, if_neg (bi_10 q)]
    · rw [bi_f (show ¬ nbP b z p lo hi from fun x => q x.2)]
      subst e2
      simp only [SA, rw_163, HM_o, HMr, HMw, n1, i6_0, i6_1, i6_2, i6_3, i6_4, i6_5, is_n hk (show 5 < 2 ^ 31 by decide), ud_s, ud_u, if_pos c', c_in, i64_le, if_pos (bi_00 q)]
  · have c' : ¬ nI (tkT b z p) = nI 2 := fun x => c ((nI_eq (by unfold tkT; omega) (by decide)).mp x)
    rw [bi_f (show ¬ nbP b z p lo hi from fun x => c x.1)]
    simp only [SA, rw_163, HM_o, HMr, HMw, n1, i6_0, i6_1, i6_2, i6_3, i6_4, i6_5, is_n hk (show 5 < 2 ^ 31 by decide), ud_s, ud_u, if_neg c']
theorem c_mends {A : Nat → Nat → Int32} {b : Nat → Nat} {z p : Nat} (hb : ∀ k, k < z → A 5 k = nI (b k) ∧ b k < 128) (hz : z ≤ 150) (hp : p ≤ z) (x2 x3 x4 x5 : Int32) (g : Nat → Int32) (h : icH) (m : Nat) (ab be : Int64) : ∃ v', icE 164 0 [.ref m] [] (HM h m ab be (i6 (nI z) (nI p) x2 x3 x4 x5) (ud A 8 g)) = some (some (.int (bi (tkT b z p = 3))), HM h m ab be (i6 (nI z) (nI (tkE b z p)) (nI (tkS b z p)) (nI (tkT b z p)) v' x5) (ud A 8 g)) := by
  obtain ⟨v', n1, n2⟩ := c_step (A := ud A 8 g) (b := b) (by rw [ud_n (by decide)]; exact hb) hz hp x2 x3 x4 x5 h m ab be
  refine ⟨v', ?_⟩
  have t4 := tk_T b z (tkS b z p)
  by_cases c : tkT b z p = 3
  · have c' : nI (tkT b z p) = nI 3 := by rw [c]
    rw [bi_t c]
    simp only [SA, rw_164, HM_o, n1, i6_3, if_pos c']
  · have c' : ¬ nI (tkT b z p) = nI 3 := fun x => c ((nI_eq (by unfold tkT; omega) (by decide)).mp x)
    rw [bi_f c]
    simp only [SA, rw_164, HM_o, n1, i6_3, if_neg c']
theorem s_misW {A : Nat → Nat → Int32} {b : Nat → Nat} {z S T : Nat} (hb : ∀ k, k < z → A 5 k = nI (b k) ∧ b k < 128) (hz : z ≤ 150) (hS : S ≤ z) (hT : T ≤ 4) (x1 x4 x5 : Int32) (a0 a1 a2 : Int32) (y4 y5 y6 y7 : Value) (h : icH) (m : Nat) (ab be : Int64) : icE 162 0 [.ref m, .int a0, .int a1, .int a2, y4, y5, y6, y7] [] (HM h m ab be (i6 (nI z) x1 (nI S) (nI T) x4 x5) A) = icE 162 53 [.ref m, .int a0, .int a1, .int a2, y4, y5, y6, y7] [.int (bi (T = 1 ∧ lt b z S = a0 ∧ lt b z (S + 1) = a1 ∧ lt b z (S + 2) = a2))] (HM h m ab be (i6 (nI z) x1 (nI S) (nI T) x4 x5) A) := by
  have l0 := c_letter' (A := A) hb hz (show S < 2 ^ 31 by omega) x1 (nI S) (nI T) x4 x5 h m ab be
  have l1 := c_letter' (A := A) hb hz (show S + 1 < 2 ^ 31 by omega) x1 (nI S) (nI T) x4 x5 h m ab be
  have l2 := c_letter' (A := A) hb hz (show S + 2 < 2 ^ 31 by omega) x1 (nI S) (nI T) x4 x5 h m ab be
  have r53 : ∀ v, icE 162 53 [.ref m, .int a0, .int a1, .int a2, y4, y5, y6, y7] [.int v] (HM h m ab be (i6 (nI z) x1 (nI S) (nI T) x4 x5) A) = icE 162 53 [.ref m, .int a0, .int a1, .int a2, y4, y5, y6, y7] [.int v] (HM h m ab be (i6 (nI z) x1 (nI S) (nI T) x4 x5) A) := fun _ => rfl
  by_cases c0 : T = 1
  · have c0' : nI T = nI 1 := by rw [c0]
    by_cases c1 : lt b z S = a0
    · by_cases c2 : lt b z (S + 1) = a1
      · by_cases c3 : lt b z (S + 2) = a2
        · rw [bi_t ⟨c0, c1, c2, c3⟩]
          simp only [SA, rw_162, HM_o, i6_0, i6_1, i6_2, i6_3, l0, nI_add, l1, l2, if_pos c0', if_pos c1, if_pos c2, if_pos c3]
        · rw [bi_f (fun w => c3 w.2.2.2)]
          simp only [SA, rw_162, HM_o, i6_0, i6_1, i6_2, i6_3, l0, nI_add, l1, l2, if_pos c0', if_pos c1, if_pos c2, if_neg c3]
      · rw [bi_f (fun w => c2 w.2.2.1)]
        simp only [SA, rw_162, HM_o, i6_0, i6_1, i6_2, i6_3, l0, nI_add, l1, if_pos c0', if_pos c1, if_neg c2]
    · rw [bi_f (fun w => c1 w.2.1)]
      simp only [SA, rw_162, HM_o, i6_0, i6_1, i6_2, i6_3, l0, if_pos c0', if_neg c1]
  · have c0' : ¬ nI T = nI 1 := fun x => c0 ((nI_eq (by omega) (by decide)).mp x)
    rw [bi_f (fun w => c0 w.1)]
    simp only [SA, rw_162, HM_o, i6_0, i6_1, i6_2, i6_3, if_neg c0']
theorem anyB3 (p : Nat → Bool) : anyB p 3 = false ↔ (p 0 = false ∧ p 1 = false ∧ p 2 = false) := by
  have e : anyB p 3 = (((false || p 0) || p 1) || p 2) := rfl
  rw [e]; cases p 0 <;> cases p 1 <;> cases p 2 <;> decide
theorem anyB4 (p : Nat → Bool) : anyB p 4 = false ↔ (p 0 = false ∧ p 1 = false ∧ p 2 = false ∧ p 3 = false) := by
  have e : anyB p 4 = ((((false || p 0) || p 1) || p 2) || p 3) := rfl
  rw [e]; cases p 0 <;> cases p 1 <;> cases p 2 <;> cases p 3 <;> decide
theorem anyB5 (p : Nat → Bool) : anyB p 5 = false ↔ (p 0 = false ∧ p 1 = false ∧ p 2 = false ∧ p 3 = false ∧ p 4 = false) := by
  have e : anyB p 5 = (((((false || p 0) || p 1) || p 2) || p 3) || p 4) := rfl
  rw [e]; cases p 0 <;> cases p 1 <;> cases p 2 <;> cases p 3 <;> cases p 4 <;> decide
theorem wb_f {j : Nat} {b : Nat → Nat} {S k : Nat} : wb j b S k = false ↔ b (S + k) = wn j k := by
  constructor
  · intro w
    by_cases c : b (S + k) = wn j k
    · exact c
    · have := decide_eq_true c (p := ¬ b (S + k) = wn j k)
      unfold wb at w
      rw [this] at w
      cases w
  · intro w; exact decide_eq_false (fun x => x w)
theorem wd_t {j : Nat} {b : Nat → Nat} {S E : Nat} : wdB j b S E = true ↔ (E = S + wl j ∧ anyB (wb j b S) (wl j) = false) := by
  unfold wdB
  rw [Bool.and_eq_true, decide_eq_true_eq, Bool.not_eq_true']
theorem c_misW0 {A : Nat → Nat → Int32} {b : Nat → Nat} {z S E T : Nat} (hb : ∀ k, k < z → A 5 k = nI (b k) ∧ b k < 128) (hz : z ≤ 150) (hS : S ≤ E) (hE : E ≤ z) (hT : T ≤ 4) (x4 x5 : Int32) (h : icH) (m : Nat) (ab be : Int64) : icE 162 0 [.ref m, .int (nI 104), .int (nI 111), .int (nI 117), .int (nI 115), .int (nI 101), dum, dum] [] (HM h m ab be (i6 (nI z) (nI E) (nI S) (nI T) x4 x5) A) = some (some (.int (bi (T = 1 ∧ wdB 0 b S E = true))), HM h m ab be (i6 (nI z) (nI E) (nI S) (nI T) x4 x5) A) := by
  have hb2 : ∀ k, k < z → b k < 128 := fun k hk => (hb k hk).2
  rw [s_misW hb hz (by omega) hT]
  have l3 := c_letter' (A := A) hb hz (show S + 3 < 2 ^ 31 by omega) (nI E) (nI S) (nI T) x4 x5 h m ab be
  have l4 := c_letter' (A := A) hb hz (show S + 4 < 2 ^ 31 by omega) (nI E) (nI S) (nI T) x4 x5 h m ab be
  by_cases cE : E = S + 5
  · have cE' : nI (E - S) = nI 5 := by rw [show E - S = 5 by omega]
    have wq : wdB 0 b S E = true ↔ (b (S + 0) = 104 ∧ b (S + 1) = 111 ∧ b (S + 2) = 117 ∧ b (S + 3) = 115 ∧ b (S + 4) = 101) := by
      rw [wd_t]
      have e1 : wl 0 = 5 := rfl
      rw [e1, anyB5]
      simp only [wb_f]
      exact ⟨fun w => w.2, fun w => ⟨cE, w⟩⟩
    have isq : (T = 1 ∧ lt b z S = nI 104 ∧ lt b z (S + 1) = nI 111 ∧ lt b z (S + 2) = nI 117) ↔ (T = 1 ∧ b (S + 0) = 104 ∧ b (S + 1) = 111 ∧ b (S + 2) = 117) := by
      rw [lt_e hb2 (by decide), lt_e hb2 (by decide), lt_e hb2 (by decide), Nat.add_zero]
      exact ⟨fun w => ⟨w.1, w.2.1.2, w.2.2.1.2, w.2.2.2.2⟩, fun w => ⟨w.1, ⟨by omega, w.2.1⟩, ⟨by omega, w.2.2.1⟩, ⟨by omega, w.2.2.2⟩⟩⟩
    by_cases cI : T = 1 ∧ lt b z S = nI 104 ∧ lt b z (S + 1) = nI 111 ∧ lt b z (S + 2) = nI 117
    · have cJ := isq.mp cI
      rw [bi_t cI]
      by_cases c3 : lt b z (S + 3) = nI 115
      · have d3 := ((lt_e hb2 (by decide)).mp c3).2
        by_cases c4 : lt b z (S + 4) = nI 101
        · have d4 := ((lt_e hb2 (by decide)).mp c4).2
          rw [bi_t (show T = 1 ∧ wdB 0 b S E = true from ⟨cJ.1, wq.mpr ⟨cJ.2.1, cJ.2.2.1, cJ.2.2.2, d3, d4⟩⟩)]
          simp only [SA, rw_162, HM_o, i6_0, i6_1, i6_2, i6_3, nI_sb hS, if_pos cE', nI_add, l3, l4, if_neg (show ¬ nI 115 = 0 by decide), if_neg (show ¬ nI 101 = 0 by decide), if_neg (show ¬ nI 5 = nI 3 by decide), if_neg (nI_nlt (Nat.le_refl 5) (show 5 < 2 ^ 31 by decide)), if_neg (show ¬ nI 1 = 0 by decide), if_pos c3, if_pos c4]
        · rw [bi_f (show ¬ (T = 1 ∧ wdB 0 b S E = true) from fun w => c4 ((lt_e hb2 (by decide)).mpr ⟨by omega, (wq.mp w.2).2.2.2.2⟩))]
          simp only [SA, rw_162, HM_o, i6_0, i6_1, i6_2, i6_3, nI_sb hS, if_pos cE', nI_add, l3, l4, if_neg (show ¬ nI 115 = 0 by decide), if_neg (show ¬ nI 101 = 0 by decide), if_neg (show ¬ nI 5 = nI 3 by decide), if_neg (nI_nlt (Nat.le_refl 5) (show 5 < 2 ^ 31 by decide)), if_neg (show ¬ nI 1 = 0 by decide), if_pos c3, if_neg c4]
      · rw [bi_f (show ¬ (T = 1 ∧ wdB 0 b S E = true) from fun w => c3 ((lt_e hb2 (by decide)).mpr ⟨by omega, (wq.mp w.2).2.2.2.1⟩))]
        simp only [SA, rw_162, HM_o, i6_0, i6_1, i6_2, i6_3, nI_sb hS, if_pos cE', nI_add, l3, l4, if_neg (show ¬ nI 115 = 0 by decide), if_neg (show ¬ nI 101 = 0 by decide), if_neg (show ¬ nI 5 = nI 3 by decide), if_neg (nI_nlt (Nat.le_refl 5) (show 5 < 2 ^ 31 by decide)), if_neg (show ¬ nI 1 = 0 by decide), if_neg c3]
    · rw [bi_f cI, bi_f (show ¬ (T = 1 ∧ wdB 0 b S E = true) from fun w => cI (isq.mpr ⟨w.1, ⟨(wq.mp w.2).1, (wq.mp w.2).2.1, (wq.mp w.2).2.2.1⟩⟩))]
      simp only [SA, rw_162, if_neg (show ¬ nI 115 = 0 by decide), if_neg (show ¬ nI 101 = 0 by decide), if_pos (show nI 0 = 0 by decide)]
  · have cE' : ¬ nI (E - S) = nI 5 := fun x => cE (by have := (nI_eq (by omega) (by decide)).mp x; omega)
    rw [bi_f (show ¬ (T = 1 ∧ wdB 0 b S E = true) from fun w => cE (wd_t.mp w.2).1)]
    by_cases cI : T = 1 ∧ lt b z S = nI 104 ∧ lt b z (S + 1) = nI 111 ∧ lt b z (S + 2) = nI 117
    · rw [bi_t cI]
      simp only [SA, rw_162, HM_o, i6_0, i6_1, i6_2, i6_3, nI_sb hS, if_neg cE', if_neg (show ¬ nI 115 = 0 by decide), if_neg (show ¬ nI 101 = 0 by decide), if_neg (show ¬ nI 1 = 0 by decide)]
    · rw [bi_f cI]
      simp only [SA, rw_162, if_neg (show ¬ nI 115 = 0 by decide), if_neg (show ¬ nI 101 = 0 by decide), if_pos (show nI 0 = 0 by decide)]
theorem c_misW1 {A : Nat → Nat → Int32} {b : Nat → Nat} {z S E T : Nat} (hb : ∀ k, k < z → A 5 k = nI (b k) ∧ b k < 128) (hz : z ≤ 150) (hS : S ≤ E) (hE : E ≤ z) (hT : T ≤ 4) (x4 x5 : Int32) (h : icH) (m : Nat) (ab be : Int64) : icE 162 0 [.ref m, .int (nI 119), .int (nI 97), .int (nI 114), .int (nI 109), .int (nI 0), dum, dum] [] (HM h m ab be (i6 (nI z) (nI E) (nI S) (nI T) x4 x5) A) = some (some (.int (bi (T = 1 ∧ wdB 1 b S E = true))), HM h m ab be (i6 (nI z) (nI E) (nI S) (nI T) x4 x5) A) := by
  have hb2 : ∀ k, k < z → b k < 128 := fun k hk => (hb k hk).2
  rw [s_misW hb hz (by omega) hT]
  have l3 := c_letter' (A := A) hb hz (show S + 3 < 2 ^ 31 by omega) (nI E) (nI S) (nI T) x4 x5 h m ab be
  have l4 := c_letter' (A := A) hb hz (show S + 4 < 2 ^ 31 by omega) (nI E) (nI S) (nI T) x4 x5 h m ab be
  by_cases cE : E = S + 4
  · have cE' : nI (E - S) = nI 4 := by rw [show E - S = 4 by omega]
    have wq : wdB 1 b S E = true ↔ (b (S + 0) = 119 ∧ b (S + 1) = 97 ∧ b (S + 2) = 114 ∧ b (S + 3) = 109) := by
      rw [wd_t]
      have e1 : wl 1 = 4 := rfl
      rw [e1, anyB4]
      simp only [wb_f]
      exact ⟨fun w => w.2, fun w => ⟨cE, w⟩⟩
    have isq : (T = 1 ∧ lt b z S = nI 119 ∧ lt b z (S + 1) = nI 97 ∧ lt b z (S + 2) = nI 114) ↔ (T = 1 ∧ b (S + 0) = 119 ∧ b (S + 1) = 97 ∧ b (S + 2) = 114) := by
      rw [lt_e hb2 (by decide), lt_e hb2 (by decide), lt_e hb2 (by decide), Nat.add_zero]
      exact ⟨fun w => ⟨w.1, w.2.1.2, w.2.2.1.2, w.2.2.2.2⟩, fun w => ⟨w.1, ⟨by omega, w.2.1⟩, ⟨by omega, w.2.2.1⟩, ⟨by omega, w.2.2.2⟩⟩⟩
    by_cases cI : T = 1 ∧ lt b z S = nI 119 ∧ lt b z (S + 1) = nI 97 ∧ lt b z (S + 2) = nI 114
    · have cJ := isq.mp cI
      rw [bi_t cI]
      by_cases c3 : lt b z (S + 3) = nI 109
      · have d3 := ((lt_e hb2 (by decide)).mp c3).2
        rw [bi_t (show T = 1 ∧ wdB 1 b S E = true from ⟨cJ.1, wq.mpr ⟨cJ.2.1, cJ.2.2.1, cJ.2.2.2, d3⟩⟩)]
        simp only [SA, rw_162, HM_o, i6_0, i6_1, i6_2, i6_3, nI_sb hS, if_pos cE', nI_add, l3, l4, if_neg (show ¬ nI 109 = 0 by decide), if_pos (show nI 0 = 0 by decide), if_neg (show ¬ nI 4 = nI 3 by decide), if_pos (nI_lt (show 4 < 5 by decide) (show 5 < 2 ^ 31 by decide)), if_neg (show ¬ nI 1 = 0 by decide), if_pos c3]
      · rw [bi_f (show ¬ (T = 1 ∧ wdB 1 b S E = true) from fun w => c3 ((lt_e hb2 (by decide)).mpr ⟨by omega, (wq.mp w.2).2.2.2⟩))]
        simp only [SA, rw_162, HM_o, i6_0, i6_1, i6_2, i6_3, nI_sb hS, if_pos cE', nI_add, l3, l4, if_neg (show ¬ nI 109 = 0 by decide), if_pos (show nI 0 = 0 by decide), if_neg (show ¬ nI 4 = nI 3 by decide), if_pos (nI_lt (show 4 < 5 by decide) (show 5 < 2 ^ 31 by decide)), if_neg (show ¬ nI 1 = 0 by decide), if_neg c3]
    · rw [bi_f cI, bi_f (show ¬ (T = 1 ∧ wdB 1 b S E = true) from fun w => cI (isq.mpr ⟨w.1, ⟨(wq.mp w.2).1, (wq.mp w.2).2.1, (wq.mp w.2).2.2.1⟩⟩))]
      simp only [SA, rw_162, if_neg (show ¬ nI 109 = 0 by decide), if_pos (show nI 0 = 0 by decide), if_pos (show nI 0 = 0 by decide)]
  · have cE' : ¬ nI (E - S) = nI 4 := fun x => cE (by have := (nI_eq (by omega) (by decide)).mp x; omega)
    rw [bi_f (show ¬ (T = 1 ∧ wdB 1 b S E = true) from fun w => cE (wd_t.mp w.2).1)]
    by_cases cI : T = 1 ∧ lt b z S = nI 119 ∧ lt b z (S + 1) = nI 97 ∧ lt b z (S + 2) = nI 114
    · rw [bi_t cI]
      simp only [SA, rw_162, HM_o, i6_0, i6_1, i6_2, i6_3, nI_sb hS, if_neg cE', if_neg (show ¬ nI 109 = 0 by decide), if_pos (show nI 0 = 0 by decide), if_neg (show ¬ nI 1 = 0 by decide)]
    · rw [bi_f cI]
      simp only [SA, rw_162, if_neg (show ¬ nI 109 = 0 by decide), if_pos (show nI 0 = 0 by decide), if_pos (show nI 0 = 0 by decide)]
theorem c_misW2 {A : Nat → Nat → Int32} {b : Nat → Nat} {z S E T : Nat} (hb : ∀ k, k < z → A 5 k = nI (b k) ∧ b k < 128) (hz : z ≤ 150) (hS : S ≤ E) (hE : E ≤ z) (hT : T ≤ 4) (x4 x5 : Int32) (h : icH) (m : Nat) (ab be : Int64) : icE 162 0 [.ref m, .int (nI 114), .int (nI 111), .int (nI 111), .int (nI 102), .int (nI 0), dum, dum] [] (HM h m ab be (i6 (nI z) (nI E) (nI S) (nI T) x4 x5) A) = some (some (.int (bi (T = 1 ∧ wdB 2 b S E = true))), HM h m ab be (i6 (nI z) (nI E) (nI S) (nI T) x4 x5) A) := by
  have hb2 : ∀ k, k < z → b k < 128 := fun k hk => (hb k hk).2
  rw [s_misW hb hz (by omega) hT]
  have l3 := c_letter' (A := A) hb hz (show S + 3 < 2 ^ 31 by omega) (nI E) (nI S) (nI T) x4 x5 h m ab be
  have l4 := c_letter' (A := A) hb hz (show S + 4 < 2 ^ 31 by omega) (nI E) (nI S) (nI T) x4 x5 h m ab be
  by_cases cE : E = S + 4
  · have cE' : nI (E - S) = nI 4 := by rw [show E - S = 4 by omega]
    have wq : wdB 2 b S E = true ↔ (b (S + 0) = 114 ∧ b (S + 1) = 111 ∧ b (S + 2) = 111 ∧ b (S + 3) = 102) := by
      rw [wd_t]
      have e1 : wl 2 = 4 := rfl
      rw [e1, anyB4]
      simp only [wb_f]
      exact ⟨fun w => w.2, fun w => ⟨cE, w⟩⟩
    have isq : (T = 1 ∧ lt b z S = nI 114 ∧ lt b z (S + 1) = nI 111 ∧ lt b z (S + 2) = nI 111) ↔ (T = 1 ∧ b (S + 0) = 114 ∧ b (S + 1) = 111 ∧ b (S + 2) = 111) := by
      rw [lt_e hb2 (by decide), lt_e hb2 (by decide), lt_e hb2 (by decide), Nat.add_zero]
      exact ⟨fun w => ⟨w.1, w.2.1.2, w.2.2.1.2, w.2.2.2.2⟩, fun w => ⟨w.1, ⟨by omega, w.2.1⟩, ⟨by omega, w.2.2.1⟩, ⟨by omega, w.2.2.2⟩⟩⟩
    by_cases cI : T = 1 ∧ lt b z S = nI 114 ∧ lt b z (S + 1) = nI 111 ∧ lt b z (S + 2) = nI 111
    · have cJ := isq.mp cI
      rw [bi_t cI]
      by_cases c3 : lt b z (S + 3) = nI 102
      · have d3 := ((lt_e hb2 (by decide)).mp c3).2
        rw [bi_t (show T = 1 ∧ wdB 2 b S E = true from ⟨cJ.1, wq.mpr ⟨cJ.2.1, cJ.2.2.1, cJ.2.2.2, d3⟩⟩)]
        simp only [SA, rw_162, HM_o, i6_0, i6_1, i6_2, i6_3, nI_sb hS, if_pos cE', nI_add, l3, l4, if_neg (show ¬ nI 102 = 0 by decide), if_pos (show nI 0 = 0 by decide), if_neg (show ¬ nI 4 = nI 3 by decide), if_pos (nI_lt (show 4 < 5 by decide) (show 5 < 2 ^ 31 by decide)), if_neg (show ¬ nI 1 = 0 by decide), if_pos c3]
      · rw [bi_f (show ¬ (T = 1 ∧ wdB 2 b S E = true) from fun w => c3 ((lt_e hb2 (by decide)).mpr ⟨by omega, (wq.mp w.2).2.2.2⟩))]
        simp only [SA, rw_162, HM_o, i6_0, i6_1, i6_2, i6_3, nI_sb hS, if_pos cE', nI_add, l3, l4, if_neg (show ¬ nI 102 = 0 by decide), if_pos (show nI 0 = 0 by decide), if_neg (show ¬ nI 4 = nI 3 by decide), if_pos (nI_lt (show 4 < 5 by decide) (show 5 < 2 ^ 31 by decide)), if_neg (show ¬ nI 1 = 0 by decide), if_neg c3]
    · rw [bi_f cI, bi_f (show ¬ (T = 1 ∧ wdB 2 b S E = true) from fun w => cI (isq.mpr ⟨w.1, ⟨(wq.mp w.2).1, (wq.mp w.2).2.1, (wq.mp w.2).2.2.1⟩⟩))]
      simp only [SA, rw_162, if_neg (show ¬ nI 102 = 0 by decide), if_pos (show nI 0 = 0 by decide), if_pos (show nI 0 = 0 by decide)]
  · have cE' : ¬ nI (E - S) = nI 4 := fun x => cE (by have := (nI_eq (by omega) (by decide)).mp x; omega)
    rw [bi_f (show ¬ (T = 1 ∧ wdB 2 b S E = true) from fun w => cE (wd_t.mp w.2).1)]
    by_cases cI : T = 1 ∧ lt b z S = nI 114 ∧ lt b z (S + 1) = nI 111 ∧ lt b z (S + 2) = nI 111
    · rw [bi_t cI]
      simp only [SA, rw_162, HM_o, i6_0, i6_1, i6_2, i6_3, nI_sb hS, if_neg cE', if_neg (show ¬ nI 102 = 0 by decide), if_pos (show nI 0 = 0 by decide), if_neg (show ¬ nI 1 = 0 by decide)]
    · rw [bi_f cI]
      simp only [SA, rw_162, if_neg (show ¬ nI 102 = 0 by decide), if_pos (show nI 0 = 0 by decide), if_pos (show nI 0 = 0 by decide)]
theorem c_misW3 {A : Nat → Nat → Int32} {b : Nat → Nat} {z S E T : Nat} (hb : ∀ k, k < z → A 5 k = nI (b k) ∧ b k < 128) (hz : z ≤ 150) (hS : S ≤ E) (hE : E ≤ z) (hT : T ≤ 4) (x4 x5 : Int32) (h : icH) (m : Nat) (ab be : Int64) : icE 162 0 [.ref m, .int (nI 105), .int (nI 99), .int (nI 101), .int (nI 0), .int (nI 0), dum, dum] [] (HM h m ab be (i6 (nI z) (nI E) (nI S) (nI T) x4 x5) A) = some (some (.int (bi (T = 1 ∧ wdB 3 b S E = true))), HM h m ab be (i6 (nI z) (nI E) (nI S) (nI T) x4 x5) A) := by
  have hb2 : ∀ k, k < z → b k < 128 := fun k hk => (hb k hk).2
  rw [s_misW hb hz (by omega) hT]
  have l3 := c_letter' (A := A) hb hz (show S + 3 < 2 ^ 31 by omega) (nI E) (nI S) (nI T) x4 x5 h m ab be
  have l4 := c_letter' (A := A) hb hz (show S + 4 < 2 ^ 31 by omega) (nI E) (nI S) (nI T) x4 x5 h m ab be
  by_cases cE : E = S + 3
  · have cE' : nI (E - S) = nI 3 := by rw [show E - S = 3 by omega]
    have wq : wdB 3 b S E = true ↔ (b (S + 0) = 105 ∧ b (S + 1) = 99 ∧ b (S + 2) = 101) := by
      rw [wd_t]
      have e1 : wl 3 = 3 := rfl
      rw [e1, anyB3]
      simp only [wb_f]
      exact ⟨fun w => w.2, fun w => ⟨cE, w⟩⟩
    have isq : (T = 1 ∧ lt b z S = nI 105 ∧ lt b z (S + 1) = nI 99 ∧ lt b z (S + 2) = nI 101) ↔ (T = 1 ∧ b (S + 0) = 105 ∧ b (S + 1) = 99 ∧ b (S + 2) = 101) := by
      rw [lt_e hb2 (by decide), lt_e hb2 (by decide), lt_e hb2 (by decide), Nat.add_zero]
      exact ⟨fun w => ⟨w.1, w.2.1.2, w.2.2.1.2, w.2.2.2.2⟩, fun w => ⟨w.1, ⟨by omega, w.2.1⟩, ⟨by omega, w.2.2.1⟩, ⟨by omega, w.2.2.2⟩⟩⟩
    by_cases cI : T = 1 ∧ lt b z S = nI 105 ∧ lt b z (S + 1) = nI 99 ∧ lt b z (S + 2) = nI 101
    · have cJ := isq.mp cI
      rw [bi_t cI]
      rw [bi_t (show T = 1 ∧ wdB 3 b S E = true from ⟨cJ.1, wq.mpr cJ.2⟩)]
      simp only [SA, rw_162, HM_o, i6_0, i6_1, i6_2, i6_3, nI_sb hS, if_pos cE', nI_add, l3, l4, if_pos (show nI 0 = 0 by decide), if_true, if_pos (nI_lt (show 3 < 5 by decide) (show 5 < 2 ^ 31 by decide)), if_neg (show ¬ nI 1 = 0 by decide)]
    · rw [bi_f cI, bi_f (show ¬ (T = 1 ∧ wdB 3 b S E = true) from fun w => cI (isq.mpr ⟨w.1, wq.mp w.2⟩))]
      simp only [SA, rw_162, if_pos (show nI 0 = 0 by decide), if_pos (show nI 0 = 0 by decide)]
  · have cE' : ¬ nI (E - S) = nI 3 := fun x => cE (by have := (nI_eq (by omega) (by decide)).mp x; omega)
    rw [bi_f (show ¬ (T = 1 ∧ wdB 3 b S E = true) from fun w => cE (wd_t.mp w.2).1)]
    by_cases cI : T = 1 ∧ lt b z S = nI 105 ∧ lt b z (S + 1) = nI 99 ∧ lt b z (S + 2) = nI 101
    · rw [bi_t cI]
      simp only [SA, rw_162, HM_o, i6_0, i6_1, i6_2, i6_3, nI_sb hS, if_neg cE', if_pos (show nI 0 = 0 by decide), if_neg (show ¬ nI 1 = 0 by decide)]
    · rw [bi_f cI]
      simp only [SA, rw_162, if_pos (show nI 0 = 0 by decide), if_pos (show nI 0 = 0 by decide)]
theorem c_misW4 {A : Nat → Nat → Int32} {b : Nat → Nat} {z S E T : Nat} (hb : ∀ k, k < z → A 5 k = nI (b k) ∧ b k < 128) (hz : z ≤ 150) (hS : S ≤ E) (hE : E ≤ z) (hT : T ≤ 4) (x4 x5 : Int32) (h : icH) (m : Nat) (ab be : Int64) : icE 162 0 [.ref m, .int (nI 104), .int (nI 111), .int (nI 117), .int (nI 114), .int (nI 115), dum, dum] [] (HM h m ab be (i6 (nI z) (nI E) (nI S) (nI T) x4 x5) A) = some (some (.int (bi (T = 1 ∧ wdB 4 b S E = true))), HM h m ab be (i6 (nI z) (nI E) (nI S) (nI T) x4 x5) A) := by
  have hb2 : ∀ k, k < z → b k < 128 := fun k hk => (hb k hk).2
  rw [s_misW hb hz (by omega) hT]
  have l3 := c_letter' (A := A) hb hz (show S + 3 < 2 ^ 31 by omega) (nI E) (nI S) (nI T) x4 x5 h m ab be
  have l4 := c_letter' (A := A) hb hz (show S + 4 < 2 ^ 31 by omega) (nI E) (nI S) (nI T) x4 x5 h m ab be
  by_cases cE : E = S + 5
  · have cE' : nI (E - S) = nI 5 := by rw [show E - S = 5 by omega]
    have wq : wdB 4 b S E = true ↔ (b (S + 0) = 104 ∧ b (S + 1) = 111 ∧ b (S + 2) = 117 ∧ b (S + 3) = 114 ∧ b (S + 4) = 115) := by
      rw [wd_t]
      have e1 : wl 4 = 5 := rfl
      rw [e1, anyB5]
      simp only [wb_f]
      exact ⟨fun w => w.2, fun w => ⟨cE, w⟩⟩
    have isq : (T = 1 ∧ lt b z S = nI 104 ∧ lt b z (S + 1) = nI 111 ∧ lt b z (S + 2) = nI 117) ↔ (T = 1 ∧ b (S + 0) = 104 ∧ b (S + 1) = 111 ∧ b (S + 2) = 117) := by
      rw [lt_e hb2 (by decide), lt_e hb2 (by decide), lt_e hb2 (by decide), Nat.add_zero]
      exact ⟨fun w => ⟨w.1, w.2.1.2, w.2.2.1.2, w.2.2.2.2⟩, fun w => ⟨w.1, ⟨by omega, w.2.1⟩, ⟨by omega, w.2.2.1⟩, ⟨by omega, w.2.2.2⟩⟩⟩
    by_cases cI : T = 1 ∧ lt b z S = nI 104 ∧ lt b z (S + 1) = nI 111 ∧ lt b z (S + 2) = nI 117
    · have cJ := isq.mp cI
      rw [bi_t cI]
      by_cases c3 : lt b z (S + 3) = nI 114
      · have d3 := ((lt_e hb2 (by decide)).mp c3).2
        by_cases c4 : lt b z (S + 4) = nI 115
        · have d4 := ((lt_e hb2 (by decide)).mp c4).2
          rw [bi_t (show T = 1 ∧ wdB 4 b S E = true from ⟨cJ.1, wq.mpr ⟨cJ.2.1, cJ.2.2.1, cJ.2.2.2, d3, d4⟩⟩)]
          simp only [SA, rw_162, HM_o, i6_0, i6_1, i6_2, i6_3, nI_sb hS, if_pos cE', nI_add, l3, l4, if_neg (show ¬ nI 114 = 0 by decide), if_neg (show ¬ nI 115 = 0 by decide), if_neg (show ¬ nI 5 = nI 3 by decide), if_neg (nI_nlt (Nat.le_refl 5) (show 5 < 2 ^ 31 by decide)), if_neg (show ¬ nI 1 = 0 by decide), if_pos c3, if_pos c4]
        · rw [bi_f (show ¬ (T = 1 ∧ wdB 4 b S E = true) from fun w => c4 ((lt_e hb2 (by decide)).mpr ⟨by omega, (wq.mp w.2).2.2.2.2⟩))]
          simp only [SA, rw_162, HM_o, i6_0, i6_1, i6_2, i6_3, nI_sb hS, if_pos cE', nI_add, l3, l4, if_neg (show ¬ nI 114 = 0 by decide), if_neg (show ¬ nI 115 = 0 by decide), if_neg (show ¬ nI 5 = nI 3 by decide), if_neg (nI_nlt (Nat.le_refl 5) (show 5 < 2 ^ 31 by decide)), if_neg (show ¬ nI 1 = 0 by decide), if_pos c3, if_neg c4]
      · rw [bi_f (show ¬ (T = 1 ∧ wdB 4 b S E = true) from fun w => c3 ((lt_e hb2 (by decide)).mpr ⟨by omega, (wq.mp w.2).2.2.2.1⟩))]
        simp only [SA, rw_162, HM_o, i6_0, i6_1, i6_2, i6_3, nI_sb hS, if_pos cE', nI_add, l3, l4, if_neg (show ¬ nI 114 = 0 by decide), if_neg (show ¬ nI 115 = 0 by decide), if_neg (show ¬ nI 5 = nI 3 by decide), if_neg (nI_nlt (Nat.le_refl 5) (show 5 < 2 ^ 31 by decide)), if_neg (show ¬ nI 1 = 0 by decide), if_neg c3]
    · rw [bi_f cI, bi_f (show ¬ (T = 1 ∧ wdB 4 b S E = true) from fun w => cI (isq.mpr ⟨w.1, ⟨(wq.mp w.2).1, (wq.mp w.2).2.1, (wq.mp w.2).2.2.1⟩⟩))]
      simp only [SA, rw_162, if_neg (show ¬ nI 114 = 0 by decide), if_neg (show ¬ nI 115 = 0 by decide), if_pos (show nI 0 = 0 by decide)]
  · have cE' : ¬ nI (E - S) = nI 5 := fun x => cE (by have := (nI_eq (by omega) (by decide)).mp x; omega)
    rw [bi_f (show ¬ (T = 1 ∧ wdB 4 b S E = true) from fun w => cE (wd_t.mp w.2).1)]
    by_cases cI : T = 1 ∧ lt b z S = nI 104 ∧ lt b z (S + 1) = nI 111 ∧ lt b z (S + 2) = nI 117
    · rw [bi_t cI]
      simp only [SA, rw_162, HM_o, i6_0, i6_1, i6_2, i6_3, nI_sb hS, if_neg cE', if_neg (show ¬ nI 114 = 0 by decide), if_neg (show ¬ nI 115 = 0 by decide), if_neg (show ¬ nI 1 = 0 by decide)]
    · rw [bi_f cI]
      simp only [SA, rw_162, if_neg (show ¬ nI 114 = 0 by decide), if_neg (show ¬ nI 115 = 0 by decide), if_pos (show nI 0 = 0 by decide)]
