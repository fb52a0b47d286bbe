/-! ===== count, digest: the reference ===== -/
/-! the reference -/
theorem l_mlost {N : Nat} (hN : N ≤ 6) {A D : Nat → Nat → Int32} (h10 : A 1 10 = nI N) (hL : ∀ q, q < N → A 1 (50 + q) = D 11 q) (v : Int32) (h : icH) (m : Nat) (ab be : Int64) (ii : Nat → Int32) : ∀ (k i : Nat), i + k = N → icE 216 4 [.ref m, .int v, .int (nI (lb D v i)), .int (nI i)] [] (HM h m ab be ii A) = some (some (.int (nI (lb D v N))), HM h m ab be ii A)
  | 0, i, him => by
    have : i = N := by omega
    subst this
    rw [rh_216_4]
    simp only [SA, rw_216, HM_o, HMr, ia_n (show 10 < 292 by decide) (show 292 < 2 ^ 31 by decide), h10, if_pos (nI_le (Nat.le_refl i) (show i < 2 ^ 31 by omega))]
  | k + 1, i, him => by
    have hi : i < N := by omega
    have b2 : 292 < 2 ^ 31 := by decide
    have ih := l_mlost hN h10 hL v h m ab be ii k (i + 1) (by omega)
    have e : lb D v (i + 1) = lb D v i + (if D 11 i = v then 2 ^ i else 0) := rfl
    rw [e] at ih
    refine Eq.trans ?_ ih
    rw [rh_216_4]
    by_cases c : D 11 i = v
    · rw [if_pos c]
      simp only [SA, rw_216, HM_o, HMr, ia_n (show 10 < 292 by decide) b2, h10, if_neg (nI_ge hi (show N < 2 ^ 31 by omega)), nI_add, ia_n (show 50 + i < 292 by omega) b2, hL i hi, if_pos c, or_bit i (show i < 6 by omega) _ (lb_lt D v i)]
    · rw [if_neg c, Nat.add_zero]
      have o0 : nI (lb D v i) ||| nI 0 = nI (lb D v i) := by rw [nI_0]; exact Int32.or_zero
      simp only [SA, rw_216, HM_o, HMr, ia_n (show 10 < 292 by decide) b2, h10, if_neg (nI_ge hi (show N < 2 ^ 31 by omega)), nI_add, ia_n (show 50 + i < 292 by omega) b2, hL i hi, if_neg c, o0]
theorem c_mlost {N : Nat} (hN : N ≤ 6) {A D : Nat → Nat → Int32} (h10 : A 1 10 = nI N) (hL : ∀ q, q < N → A 1 (50 + q) = D 11 q) (v : Int32) (h : icH) (m : Nat) (ab be : Int64) (ii : Nat → Int32) : icE 216 0 [.ref m, .int v, dum, dum] [] (HM h m ab be ii A) = some (some (.int (nI (lb D v N))), HM h m ab be ii A) := by
  refine Eq.trans ?_ (l_mlost hN h10 hL v h m ab be ii N 0 (by omega))
  simp only [SA, rw_216, lb]
theorem asn_3 {R : Nat} {D : Nat → Nat → Int32} {T : Nat → Int32} (hR : R ≤ 3) (hs : ∀ r, r < R → T (17 + r) = D 4 r) (hz : ∀ r, R ≤ r → r < 3 → T (17 + r) = nI 0) : T 17 + T 18 + T 19 = asn D R := by
  have z : ∀ x : Int32, x + nI 0 = x := fun x => by rw [nI_0]; exact Int32.add_zero x
  have z' : ∀ x : Int32, nI 0 + x = x := fun x => by rw [nI_0]; exact Int32.zero_add x
  have : R = 0 ∨ R = 1 ∨ R = 2 ∨ R = 3 := by omega
  rcases this with rfl | rfl | rfl | rfl
  · have e0 := hz 0 (by omega) (by omega)
    have e1 := hz 1 (by omega) (by omega)
    have e2 := hz 2 (by omega) (by omega)
    show T (17 + 0) + T (17 + 1) + T (17 + 2) = _
    rw [e0, e1, e2, z, z]; rfl
  · have e0 := hs 0 (by omega)
    have e1 := hz 1 (by omega) (by omega)
    have e2 := hz 2 (by omega) (by omega)
    show T (17 + 0) + T (17 + 1) + T (17 + 2) = nI 0 + D 4 0
    rw [e0, e1, e2, z, z, z']
  · have e0 := hs 0 (by omega)
    have e1 := hs 1 (by omega)
    have e2 := hz 2 (by omega) (by omega)
    show T (17 + 0) + T (17 + 1) + T (17 + 2) = nI 0 + D 4 0 + D 4 1
    rw [e0, e1, e2, z, z']
  · have e0 := hs 0 (by omega)
    have e1 := hs 1 (by omega)
    have e2 := hs 2 (by omega)
    show T (17 + 0) + T (17 + 1) + T (17 + 2) = nI 0 + D 4 0 + D 4 1 + D 4 2
    rw [e0, e1, e2, z']
/-- what is told of the reference's row -/
def TL (H R N : Nat) (D : Nat → Nat → Int32) (F : Nat → Nat) (T : Nat → Int32) : Prop := MR R N 0 H D T ∧ (∀ r, R ≤ r → r < 3 → T (17 + r) = nI 0) ∧ T 56 = nI (F 0 / 4) ∧ T 77 = nI (F 1 / 5) ∧ T 108 = nI (F 2 / 5) ∧ T 139 = nI (F 3 / 19)
theorem c_mtells {H R N z : Nat} {D : Nat → Nat → Int32} {F : Nat → Nat} {A : Nat → Nat → Int32} (hT : TL H R N D F (A 1)) {ii : Nat → Int32} (hi : ii 0 = nI z) {k : Nat} (hk : k < 12) (h : icH) (m : Nat) (ab be : Int64) : icE 217 0 [.ref m, .int (nI k)] [] (HM h m ab be ii A) = some (some (.int (cv H R N D F z k)), HM h m ab be ii A) := by
  obtain ⟨hM, hz, t56, t77, t108, t139⟩ := hT
  have hN := hM.1.2.2.2.1
  have hR := hM.1.2.2.1
  have h9 := hM.1.1
  have h10 := hM.1.2.1
  have h0 : A 1 0 = nI H := hM.2.1
  have hL : ∀ q, q < N → A 1 (50 + q) = D 11 q := fun q hq => MR_11 hM hq
  have b2 : 292 < 2 ^ 31 := by decide
  have l1 := c_mlost hN h10 hL (nI 1) h m ab be ii
  have l2 := c_mlost hN h10 hL (nI 2) h m ab be ii
  have l3 := c_mlost hN h10 hL (nI 3) h m ab be ii
  have sn := asn_3 (D := D) hR (fun r hr => (hM.2.2 (A 7)).2.1 4 (by decide) (by decide) r hr) hz
  have : k = 0 ∨ k = 1 ∨ k = 2 ∨ k = 3 ∨ k = 4 ∨ k = 5 ∨ k = 6 ∨ k = 7 ∨ k = 8 ∨ k = 9 ∨ k = 10 ∨ k = 11 := by omega
  rcases this with rfl | rfl | rfl | rfl | rfl | rfl | rfl | rfl | rfl | rfl | rfl | rfl <;> simp only [SA, rw_217, tw_217_1, td_217_1 (show (nI 11).toInt < 0 ∨ 10 < (nI 11).toInt by decide), HM_o, HMr, ia_n (show 9 < 292 by decide) b2, ia_n (show 10 < 292 by decide) b2, ia_n (show 0 < 292 by decide) b2, ia_n (show 17 < 292 by decide) b2, ia_n (show 18 < 292 by decide) b2, ia_n (show 19 < 292 by decide) b2, ia_n (show 56 < 292 by decide) b2, ia_n (show 77 < 292 by decide) b2, ia_n (show 108 < 292 by decide) b2, ia_n (show 139 < 292 by decide) b2, h9, h10, h0, t56, t77, t108, t139, sn, hi, nI_sb (show 2 ≤ 3 by decide), nI_sb (show 2 ≤ 4 by decide), nI_sb (show 2 ≤ 5 by decide), Nat.reduceSub, l1, l2, l3, cv]
theorem m_count {H R N z : Nat} {D : Nat → Nat → Int32} {F : Nat → Nat} {A : Nat → Nat → Int32} (hT : TL H R N D F (A 1)) {ii : Nat → Int32} (hi : ii 0 = nI z) {k : Nat} (hk : k < 12) (h : icH) (m : Nat) (ab be : Int64) : icE 218 0 [.ref m, .int (nI k)] [] (HM h m ab be ii A) = some (some (.int (cv H R N D F z k)), HM h m ab be ii A) := by
  simp only [SA, rw_218, HM_o, c_in, l64, lN_t (show 11 < 2 ^ 31 by decide), i64_le, if_neg (bi_10 (W_n (Nat.zero_le k) (show k ≤ 11 by omega) (by decide))), c_mtells hT hi hk]
theorem m_countB {A : Nat → Nat → Int32} {a : Int32} (hb : ¬ (nI 0 ≤ a ∧ a ≤ nI 11)) (h : icH) (m : Nat) (ab be : Int64) (ii : Nat → Int32) : icE 218 0 [.ref m, .int a] [] (HM h m ab be ii A) = some (some (.int (-2)), HM h m ab be ii (ud A 6 (upd (A 6) 0 (A 6 0 + nI 1)))) := by
  simp only [SA, rw_218, HM_o, c_in, l64, lN_t (show 11 < 2 ^ 31 by decide), i64_le, if_pos (bi_00 hb), c_mbad]
theorem l_adds {A : Nat → Nat → Int32} {g : Nat → Int32} {n b : Nat} (hn : b + n ≤ 292) (hg : ∀ c, c < n → A 1 (b + c) = g c) (s : Int64) (h : icH) (m : Nat) (ab be : Int64) (ii : Nat → Int32) : ∀ (k i : Nat), i + k = n → icE 219 6 [.long s, dum, .ref (m + 1), .int (nI b), .int (nI n), .long (dgl g s i), dum, .int (nI i)] [] (HM h m ab be ii A) = some (some (.long (dgl g s n)), HM h m ab be ii A)
  | 0, i, him => by
    have : i = n := by omega
    subst this
    rw [rh_219_6]
    simp only [SA, rw_219, if_pos (nI_le (Nat.le_refl i) (show i < 2 ^ 31 by omega))]
  | k + 1, i, him => by
    have ih := l_adds hn hg s h m ab be ii k (i + 1) (by omega)
    refine Eq.trans ?_ ih
    rw [rh_219_6]
    simp only [SA, rw_219, HMr, if_neg (nI_ge (show i < n by omega) (show n < 2 ^ 31 by omega)), nI_add, ia_n (show b + i < 292 by omega) (show 292 < 2 ^ 31 by decide), hg i (show i < n by omega)]
    rfl
theorem c_adds {A : Nat → Nat → Int32} {g : Nat → Int32} {n b : Nat} (hn : b + n ≤ 292) (hg : ∀ c, c < n → A 1 (b + c) = g c) (s : Int64) (h : icH) (m : Nat) (ab be : Int64) (ii : Nat → Int32) : icE 219 0 [.long s, dum, .ref (m + 1), .int (nI b), .int (nI n), dum, dum, dum] [] (HM h m ab be ii A) = some (some (.long (dgl g s n)), HM h m ab be ii A) := by
  refine Eq.trans ?_ (l_adds hn hg s h m ab be ii n 0 (by omega))
  simp only [SA, rw_219, dgl]
theorem l_md1 {H R N z : Nat} {D : Nat → Nat → Int32} {F : Nat → Nat} {A : Nat → Nat → Int32} (hT : TL H R N D F (A 1)) {ii : Nat → Int32} (hi : ii 0 = nI z) (w : Value) (h : icH) (m : Nat) (ab be : Int64) : ∀ (n k : Nat), k + n = 12 → icE 220 6 [.ref m, .long (dcv (cv H R N D F z) k), dum, .int (nI k), w] [] (HM h m ab be ii A) = icE 220 33 [.ref m, .long (dcv (cv H R N D F z) 12), dum, .int (nI 0), w] [] (HM h m ab be ii A)
  | 0, k, him => by
    have : k = 12 := by omega
    subst this
    rw [rh_220_6]
    simp only [SA, rw_220, if_pos (nI_le (Nat.le_refl 12) (show 12 < 2 ^ 31 by decide))]
  | n + 1, k, him => by
    have ih := l_md1 hT hi w h m ab be n (k + 1) (by omega)
    refine Eq.trans ?_ ih
    rw [rh_220_6]
    simp only [SA, rw_220, HM_o, if_neg (nI_ge (show k < 12 by omega) (show 12 < 2 ^ 31 by decide)), c_mtells hT hi (show k < 12 by omega), nI_add]
    rfl
theorem w9_l {x : Int32} (h1 : -9 ≤ x) (h2 : x ≤ nI 9) (s : Int64) : lN 31 * s + x.toInt64 + lN 9 = dst s (x - (-9)) := by
  unfold dst
  rw [Int64.add_assoc]
  congr 1
  apply Int64.toInt_inj.mp
  have e1 : (-9 : Int32).toInt = -9 := by decide
  have e2 : (nI 9).toInt = 9 := by decide
  rw [Int32.le_iff_toInt_le] at h1 h2
  rw [e1] at h1
  rw [e2] at h2
  have e3 : (x - (-9)).toInt = x.toInt + 9 := by
    rw [Int32.toInt_sub, e1, Int.bmod_def]
    omega
  rw [Int64.toInt_add, Int32.toInt_toInt64, Int32.toInt_toInt64, e3, lN_toInt (show 9 < 2 ^ 31 by decide), Int.bmod_def]
  omega
theorem l_md2 {H R N : Nat} {D : Nat → Nat → Int32} {A : Nat → Nat → Int32} (hM : MR R N 0 H D (A 1)) (hw : ∀ k, k < 8 → -9 ≤ D 1 k ∧ D 1 k ≤ nI 9) (s : Int64) (w : Value) (h : icH) (m : Nat) (ab be : Int64) (ii : Nat → Int32) : ∀ (n k : Nat), k + n = 8 → icE 220 33 [.ref m, .long (dgw D s k), dum, .int (nI k), w] [] (HM h m ab be ii A) = icE 220 67 [.ref m, .long (dgw D s 8), dum, .int (nI 0), w] [] (HM h m ab be ii A)
  | 0, k, him => by
    have : k = 8 := by omega
    subst this
    rw [rh_220_33]
    simp only [SA, rw_220, if_pos (nI_le (Nat.le_refl 8) (show 8 < 2 ^ 31 by decide))]
  | n + 1, k, him => by
    have ih := l_md2 hM hw s w h m ab be ii n (k + 1) (by omega)
    have e : A 1 (1 + k) = D 1 k := (hM.2.2 (A 7)).1 k (by omega)
    have q := hw k (by omega)
    refine Eq.trans ?_ ih
    rw [rh_220_33]
    simp only [SA, rw_220, HM_o, HMr, if_neg (nI_ge (show k < 8 by omega) (show 8 < 2 ^ 31 by decide)), nI_add, ia_n (show 1 + k < 292 by omega) (show 292 < 2 ^ 31 by decide), e, w9_l q.1 q.2]
    rfl
theorem l_md3 {H R N : Nat} {D : Nat → Nat → Int32} {A : Nat → Nat → Int32} (hM : MR R N 0 H D (A 1)) (s : Int64) (h : icH) (m : Nat) (ab be : Int64) (ii : Nat → Int32) : ∀ (n r : Nat) (w : Value), r + n = R → ∃ w', icE 220 67 [.ref m, .long (dgr D s r), dum, .int (nI r), w] [] (HM h m ab be ii A) = icE 220 123 [.ref m, .long (dgr D s R), dum, .int (nI 0), w'] [] (HM h m ab be ii A)
  | 0, r, w, him => by
    have : r = R := by omega
    subst this
    have hR := hM.1.2.2.1
    refine ⟨w, ?_⟩
    rw [rh_220_67]
    simp only [SA, rw_220, HM_o, HMr, ia_n (show 9 < 292 by decide) (show 292 < 2 ^ 31 by decide), hM.1.1, if_pos (nI_le (Nat.le_refl r) (show r < 2 ^ 31 by omega))]
  | n + 1, r, w, him => by
    have hR := hM.1.2.2.1
    have hr : r < R := by omega
    have b2 : 292 < 2 ^ 31 := by decide
    have b3 : 3 < 2 ^ 31 := by decide
    obtain ⟨w', ih⟩ := l_md3 hM s h m ab be ii n (r + 1) (.int (nI 3)) (by omega)
    have e0 : A 1 (11 + 3 * 0 + r) = D 2 r := (hM.2.2 (A 7)).2.1 2 (by decide) (by decide) r hr
    have e1 : A 1 (11 + 3 * 1 + r) = D 3 r := (hM.2.2 (A 7)).2.1 3 (by decide) (by decide) r hr
    have e2 : A 1 (11 + 3 * 2 + r) = D 4 r := (hM.2.2 (A 7)).2.1 4 (by decide) (by decide) r hr
    refine ⟨w', ?_⟩
    refine Eq.trans ?_ ih
    rw [rh_220_67]
    simp only [SA, rw_220, HM_o, HMr, ia_n (show 9 < 292 by decide) b2, hM.1.1, if_neg (nI_ge hr (show R < 2 ^ 31 by omega)), rh_220_81, if_neg (nI_ge (show 0 < 3 by omega) b3), if_neg (nI_ge (show 1 < 3 by omega) b3), if_neg (nI_ge (show 2 < 3 by omega) b3), if_pos (nI_le (Nat.le_refl 3) b3), pk_mul, nI_add, ia_n (show 11 + 3 * 0 + r < 292 by omega) b2, ia_n (show 11 + 3 * 1 + r < 292 by omega) b2, ia_n (show 11 + 3 * 2 + r < 292 by omega) b2, e0, e1, e2, Nat.reduceAdd]
    rfl
theorem l_md4 {H R N : Nat} {D : Nat → Nat → Int32} {A : Nat → Nat → Int32} (hM : MR R N 0 H D (A 1)) (s : Int64) (h : icH) (m : Nat) (ab be : Int64) (ii : Nat → Int32) : ∀ (n r : Nat) (w : Value), r + n = N → ∃ w', icE 220 123 [.ref m, .long (dgi D s r), dum, .int (nI r), w] [] (HM h m ab be ii A) = icE 220 179 [.ref m, .long (dgi D s N), dum, .int (nI N), w'] [] (HM h m ab be ii A)
  | 0, r, w, him => by
    have : r = N := by omega
    subst this
    have hN := hM.1.2.2.2.1
    refine ⟨w, ?_⟩
    rw [rh_220_123]
    simp only [SA, rw_220, HM_o, HMr, ia_n (show 10 < 292 by decide) (show 292 < 2 ^ 31 by decide), hM.1.2.1, if_pos (nI_le (Nat.le_refl r) (show r < 2 ^ 31 by omega))]
  | n + 1, r, w, him => by
    have hN := hM.1.2.2.2.1
    have hr : r < N := by omega
    have b2 : 292 < 2 ^ 31 := by decide
    have b6 : 6 < 2 ^ 31 := by decide
    obtain ⟨w', ih⟩ := l_md4 hM s h m ab be ii n (r + 1) (.int (nI 6)) (by omega)
    have e0 : A 1 (20 + 6 * 0 + r) = D 6 r := (hM.2.2 (A 7)).2.2 6 (by decide) (by decide) r hr
    have e1 : A 1 (20 + 6 * 1 + r) = D 7 r := (hM.2.2 (A 7)).2.2 7 (by decide) (by decide) r hr
    have e2 : A 1 (20 + 6 * 2 + r) = D 8 r := (hM.2.2 (A 7)).2.2 8 (by decide) (by decide) r hr
    have e3 : A 1 (20 + 6 * 3 + r) = D 9 r := (hM.2.2 (A 7)).2.2 9 (by decide) (by decide) r hr
    have e4 : A 1 (20 + 6 * 4 + r) = D 10 r := (hM.2.2 (A 7)).2.2 10 (by decide) (by decide) r hr
    have e5 : A 1 (20 + 6 * 5 + r) = D 11 r := (hM.2.2 (A 7)).2.2 11 (by decide) (by decide) r hr
    refine ⟨w', ?_⟩
    refine Eq.trans ?_ ih
    rw [rh_220_123]
    simp only [SA, rw_220, HM_o, HMr, ia_n (show 10 < 292 by decide) b2, hM.1.2.1, if_neg (nI_ge hr (show N < 2 ^ 31 by omega)), rh_220_137, if_neg (nI_ge (show 0 < 6 by omega) b6), if_neg (nI_ge (show 1 < 6 by omega) b6), if_neg (nI_ge (show 2 < 6 by omega) b6), if_neg (nI_ge (show 3 < 6 by omega) b6), if_neg (nI_ge (show 4 < 6 by omega) b6), if_neg (nI_ge (show 5 < 6 by omega) b6), if_pos (nI_le (Nat.le_refl 6) b6), pk_mul, nI_add, ia_n (show 20 + 6 * 0 + r < 292 by omega) b2, ia_n (show 20 + 6 * 1 + r < 292 by omega) b2, ia_n (show 20 + 6 * 2 + r < 292 by omega) b2, ia_n (show 20 + 6 * 3 + r < 292 by omega) b2, ia_n (show 20 + 6 * 4 + r < 292 by omega) b2, ia_n (show 20 + 6 * 5 + r < 292 by omega) b2, e0, e1, e2, e3, e4, e5, Nat.reduceAdd]
    rfl
theorem m_digest {H R N z K0 K1 K2 : Nat} {D f : Nat → Nat → Int32} {F : Nat → Nat} {A : Nat → Nat → Int32} (hT : TL H R N D F (A 1)) {ii : Nat → Int32} (hi : ii 0 = nI z) (hw : ∀ k, k < 8 → -9 ≤ D 1 k ∧ D 1 k ≤ nI 9) (k0 : K0 ≤ 5) (k1 : K1 ≤ 6) (k2 : K2 ≤ 6) (g0 : F 0 = 4 * K0) (g1 : F 1 = 5 * K1) (g2 : F 2 = 5 * K2) (r0 : ∀ c, c < F 0 → A 1 (57 + c) = f 0 c) (r1 : ∀ c, c < F 1 → A 1 (78 + c) = f 1 c) (r2 : ∀ c, c < F 2 → A 1 (109 + c) = f 2 c) (h : icH) (m : Nat) (ab be : Int64) : icE 220 0 [.ref m, dum, dum, dum, dum] [] (HM h m ab be ii A) = some (some (.long (dgt H R N D F f z ab be)), HM h m ab be ii A) := by
  have hM := hT.1
  have b2 : 292 < 2 ^ 31 := by decide
  have hT' := hT
  obtain ⟨_, _, t56, t77, t108, _⟩ := hT
  rw [g0, Nat.mul_div_cancel_left K0 (by decide : 0 < 4)] at t56
  rw [g1, Nat.mul_div_cancel_left K1 (by decide : 0 < 5)] at t77
  rw [g2, Nat.mul_div_cancel_left K2 (by decide : 0 < 5)] at t108
  have z1 := l_md1 hT' hi dum h m ab be 12 0 (by omega)
  have z2 := l_md2 hM hw (dcv (cv H R N D F z) 12) dum h m ab be ii 8 0 (by omega)
  obtain ⟨w3, z3⟩ := l_md3 hM (dgw D (dcv (cv H R N D F z) 12) 8) h m ab be ii R 0 dum (by omega)
  obtain ⟨w4, z4⟩ := l_md4 hM (dgr D (dgw D (dcv (cv H R N D F z) 12) 8) R) h m ab be ii N 0 w3 (by omega)
  have a0 := fun s => c_adds (A := A) (g := f 0) (n := F 0) (b := 57) (by omega) r0 s h m ab be ii
  have a1 := fun s => c_adds (A := A) (g := f 1) (n := F 1) (b := 78) (by omega) r1 s h m ab be ii
  have a2 := fun s => c_adds (A := A) (g := f 2) (n := F 2) (b := 109) (by omega) r2 s h m ab be ii
  rw [g0] at a0
  rw [g1] at a1
  rw [g2] at a2
  refine Eq.trans (b := icE 220 6 [.ref m, .long (dcv (cv H R N D F z) 0), dum, .int (nI 0), dum] [] (HM h m ab be ii A)) ?_ (z1.trans (z2.trans (z3.trans (z4.trans ?_))))
  · simp only [SA, rw_220, dcv]
  · unfold dgt
    rw [g0, g1, g2]
    simp only [SA, rw_220, HM_o, HMr, ia_n (show 56 < 292 by decide) b2, ia_n (show 77 < 292 by decide) b2, ia_n (show 108 < 292 by decide) b2, t56, t77, t108, pk_mul, a0, a1, a2]
