/-! ===== the class: what an icicle is ===== -/
theorem gi_q {h : icH} (hq : hg h 44 = some (ob 3 [.ref 45, .int (nI 20), .int (nI 100)])) (an : Nat → Int32) (H R N : Nat) (D : Nat → Nat → Int32) (F : Nat → Nat) (f : Nat → Nat → Int32) : hg (HH (hput h 45 (ai 6 an)) 1 H R N D F f) 44 = some (ob 3 [.ref 45, .int (nI 20), .int (nI 100)]) := by
  rw [HH_n (by omega), hg_n (by decide)]; exact hq
theorem gi_a (h : icH) (an : Nat → Int32) (H R N : Nat) (D : Nat → Nat → Int32) (F : Nat → Nat) (f : Nat → Nat → Int32) : hg (HH (hput h 45 (ai 6 an)) 1 H R N D F f) 45 = some (ai 6 an) := by
  rw [HH_n (by omega), hg_s]
theorem gi_w (h : icH) (an : Nat → Int32) (H R N : Nat) (D : Nat → Nat → Int32) (F : Nat → Nat) (f : Nat → Nat → Int32) (g : Nat → Int32) : hput (HH (hput h 45 (ai 6 an)) 1 H R N D F f) 45 (ai 6 g) = HH (hput h 45 (ai 6 g)) 1 H R N D F f := by
  rw [hp_HH (by omega), hp_p]
theorem gi_at {k c K : Nat} {F : Nat → Nat} (hF : F 1 = 5 * K) (hK : K ≤ 6) (hk : k < K) (hc : c < 5) (h : icH) (H R N : Nat) (D : Nat → Nat → Int32) (f : Nat → Nat → Int32) : icE 45 0 [.ref (1 + 13 + 2 * 1), .int (nI k), .int (nI c), dum] [] (HH h 1 H R N D F f) = some (some (.int (f 1 (5 * k + c))), HH h 1 H R N D F f) := by
  have n3 : nj 1 = 30 := rfl
  have w3 : wj 1 = 5 := rfl
  have z := ch_at (show 1 < 4 by decide) (F := F) (r := k) (c := c) (by omega) (by rw [w3]; omega) h 1 H R N D f
  rwa [w3, Nat.mul_comm k 5] at z
theorem gi_at0 {k K : Nat} {F : Nat → Nat} (hF : F 1 = 5 * K) (hK : K ≤ 6) (hk : k < K) (h : icH) (H R N : Nat) (D : Nat → Nat → Int32) (f : Nat → Nat → Int32) : icE 45 0 [.ref (1 + 13 + 2 * 1), .int (nI k), .int (nI 0), dum] [] (HH h 1 H R N D F f) = some (some (.int (f 1 (5 * k))), HH h 1 H R N D F f) := gi_at hF hK hk (show 0 < 5 by decide) h H R N D f
theorem gi_last {k K : Nat} {F : Nat → Nat} (hF : F 1 = 5 * K) (hK : K ≤ 6) (hk : k < K) (h : icH) (H R N : Nat) (D : Nat → Nat → Int32) (f : Nat → Nat → Int32) : icE 46 0 [.ref (1 + 13 + 2 * 1), .int (nI k)] [] (HH h 1 H R N D F f) = some (some (.int (f 1 (5 * k + 4))), HH h 1 H R N D F f) := by
  have n3 : nj 1 = 30 := rfl
  have w3 : wj 1 = 5 := rfl
  have z := ch_last (show 1 < 4 by decide) (F := F) (r := k) (by omega) (by rw [w3]; omega) h 1 H R N D f
  rwa [w3, Nat.mul_comm k 5] at z
theorem gi_size {K : Nat} {F : Nat → Nat} (hF : F 1 = 5 * K) (hK : K ≤ 6) (h : icH) (H R N : Nat) (D : Nat → Nat → Int32) (f : Nat → Nat → Int32) : icE 43 0 [.ref (1 + 13 + 2 * 1)] [] (HH h 1 H R N D F f) = some (some (.int (nI K)), HH h 1 H R N D F f) := by
  have n3 : nj 1 = 30 := rfl
  have w3 : wj 1 = 5 := rfl
  have z := ch_size (show 1 < 4 by decide) (F := F) (by omega) h 1 H R N D f
  rwa [w3, hF, Nat.mul_div_cancel_left K (by decide : 0 < 5)] at z
def gi_br (f _D : Nat → Nat → Int32) (_r k c : Nat) : Int32 := mor c (f 1 (5 * k + 1)) (f 1 (5 * k + 2)) (f 1 (5 * k + 3))
theorem gi_cbr {h : icH} (_hq : hg h 44 = some (ob 3 [.ref 45, .int (nI 20), .int (nI 100)])) {R N K r c k : Nat} {D : Nat → Nat → Int32} {F : Nat → Nat} {f : Nat → Nat → Int32} (_hD : EOK R N D) (hF : F 1 = 5 * K) (hK : K ≤ 6) (hk : k < K) (_hr : r < N) (hc : c < 6) (_h0 : f 1 (5 * k) = nI r) (an : Nat → Int32) (H : Nat) : icE 36 0 [.ref 44, .ref 1, .int (nI k), .int (nI c), dum] [] (HH (hput h 45 (ai 6 an)) 1 H R N D F f) = some (some (.int (gi_br f D r k c)), HH (hput h 45 (ai 6 an)) 1 H R N D F f) := by
  have a1 := gi_at hF hK hk (show 1 < 5 by decide) (hput h 45 (ai 6 an)) H R N D f
  have a2 := gi_at hF hK hk (show 2 < 5 by decide) (hput h 45 (ai 6 an)) H R N D f
  have a3 := gi_at hF hK hk (show 3 < 5 by decide) (hput h 45 (ai 6 an)) H R N D f
  simp only [SA, rw_36, HH_o, HHo1, HHc, HHo, a1, a2, a3, c_moreOf hc]
  rfl
def gi_lk (D : Nat → Nat → Int32) (r : Nat) (w s : Int32) (c : Nat) : Int32 := mor c (D 9 r) w s
theorem gi_clk {h : icH} (_hq : hg h 44 = some (ob 3 [.ref 45, .int (nI 20), .int (nI 100)])) {R N r c : Nat} {w s : Int32} {D : Nat → Nat → Int32} (hD : EOK R N D) (hr : r < N) (hc : c < 6) (an : Nat → Int32) (H : Nat) (F : Nat → Nat) (f : Nat → Nat → Int32) : icE 37 0 [.ref 44, .ref 1, .int (nI r), .int w, .int s, .int (nI c)] [] (HH (hput h 45 (ai 6 an)) 1 H R N D F f) = some (some (.int (gi_lk D r w s c)), HH (hput h 45 (ai 6 an)) 1 H R N D F f) := by
  have hR := hD.1
  have hN := hD.2.1
  simp only [SA, rw_37, HH_o, HHo1, HHc, HHo, ia_n (show r < 6 by omega) (show 6 < 2 ^ 31 by decide), c_moreOf hc]
  rfl
abbrev gi_bad (f : Nat → Nat → Int32) (D : Nat → Nat → Int32) (r c k : Nat) : Bool := decide (f 1 (5 * k) = nI r ∧ ¬ gi_br f D r k c = f 1 (5 * k + 4))
abbrev gi_fit (f : Nat → Nat → Int32) (D : Nat → Nat → Int32) (r K c : Nat) : Bool := !(anyB (gi_bad f D r c) K)
theorem gi_lfits {h : icH} (hq : hg h 44 = some (ob 3 [.ref 45, .int (nI 20), .int (nI 100)])) {R N K r c : Nat} {D : Nat → Nat → Int32} {F : Nat → Nat} (hD : EOK R N D) (hF : F 1 = 5 * K) (hK : K ≤ 6) (hr : r < N) (hc : c < 6) (an : Nat → Int32) (H : Nat) (f : Nat → Nat → Int32) : ∀ (m k : Nat), k + m = K → (∀ q, q < k → gi_bad f D r c q = false) → icE 22 10 [.ref 44, .ref 1, .int (nI r), .int (nI c), .ref (1 + 13 + 2 * 1), .int (nI k)] [] (HH (hput h 45 (ai 6 an)) 1 H R N D F f) = some (some (.int (bi (gi_fit f D r K c = true))), HH (hput h 45 (ai 6 an)) 1 H R N D F f)
  | 0, k, him, hno => by
    have : k = K := by omega
    subst this
    have e : anyB (gi_bad f D r c) k = false := Bool.eq_false_iff.mpr (fun z => by obtain ⟨q, hq, y⟩ := (anyB_i _ _).mp z; rw [hno q hq] at y; cases y)
    rw [bi_t (show gi_fit f D r k c = true by unfold gi_fit; rw [e]; rfl), rh_22_10]
    simp only [SA, rw_22, HHo, gi_size hF hK, if_pos (nI_le (Nat.le_refl k) (show k < 2 ^ 31 by omega))]
  | m + 1, k, him, hno => by
    have hk : k < K := by omega
    have a0 := gi_at0 hF hK hk (hput h 45 (ai 6 an)) H R N D f
    have al := gi_last hF hK hk (hput h 45 (ai 6 an)) H R N D f
    have sz := gi_size hF hK (hput h 45 (ai 6 an)) H R N D f
    have nx := fun (hv : gi_bad f D r c k = false) => gi_lfits hq hD hF hK hr hc an H f m (k + 1) (by omega) (fun q hq => by
      by_cases e : q = k
      · rw [e]; exact hv
      · exact hno q (by omega))
    rw [rh_22_10]
    by_cases c1 : f 1 (5 * k) = nI r
    · have br := gi_cbr hq hD hF hK hk hr hc c1 an H (R := R)
      by_cases c2 : gi_br f D r k c = f 1 (5 * k + 4)
      · have ih := nx (decide_eq_false (fun z => z.2 c2))
        simp only [SA, rw_22, HHo, gi_q hq, sz, a0, al, br, if_neg (nI_ge hk (show K < 2 ^ 31 by omega)), if_pos c1, if_pos c2, nI_add]
        exact ih
      · have hv : gi_bad f D r c k = true := decide_eq_true ⟨c1, c2⟩
        have e : anyB (gi_bad f D r c) K = true := (anyB_i _ _).mpr ⟨k, hk, hv⟩
        rw [bi_f (show ¬ gi_fit f D r K c = true by unfold gi_fit; rw [e]; decide)]
        simp only [SA, rw_22, HHo, gi_q hq, sz, a0, al, br, if_neg (nI_ge hk (show K < 2 ^ 31 by omega)), if_pos c1, if_neg c2, nI_add]
    · have ih := nx (decide_eq_false (fun z => c1 z.1))
      simp only [SA, rw_22, HHo, gi_q hq, sz, a0, if_neg (nI_ge hk (show K < 2 ^ 31 by omega)), if_neg c1, nI_add]
      exact ih
theorem gi_fits {h : icH} (hq : hg h 44 = some (ob 3 [.ref 45, .int (nI 20), .int (nI 100)])) {R N K r c : Nat} {D : Nat → Nat → Int32} {F : Nat → Nat} (hD : EOK R N D) (hF : F 1 = 5 * K) (hK : K ≤ 6) (hr : r < N) (hc : c < 6) (an : Nat → Int32) (H : Nat) (f : Nat → Nat → Int32) : icE 22 0 [.ref 44, .ref 1, .int (nI r), .int (nI c), dum, dum] [] (HH (hput h 45 (ai 6 an)) 1 H R N D F f) = some (some (.int (bi (gi_fit f D r K c = true))), HH (hput h 45 (ai 6 an)) 1 H R N D F f) := by
  have z := gi_lfits hq hD hF hK hr hc an H f K 0 (by omega) (fun q hq => absurd hq (Nat.not_lt_zero q))
  refine Eq.trans ?_ z
  simp only [SA, rw_22, rw_35, gi_q hq, HH_o]
theorem gi_lfitting {h : icH} (hq : hg h 44 = some (ob 3 [.ref 45, .int (nI 20), .int (nI 100)])) {R N K r : Nat} {D : Nat → Nat → Int32} {F : Nat → Nat} (hD : EOK R N D) (hF : F 1 = 5 * K) (hK : K ≤ 6) (hr : r < N) (an : Nat → Int32) (H : Nat) (f : Nat → Nat → Int32) : ∀ (m c : Nat), c + m = 6 → icE 21 5 [.ref 44, .ref 1, .int (nI r), .int (nI (msk (gi_fit f D r K) c)), .int (nI c)] [] (HH (hput h 45 (ai 6 an)) 1 H R N D F f) = some (some (.int (nI (msk (gi_fit f D r K) 6))), HH (hput h 45 (ai 6 an)) 1 H R N D F f)
  | 0, c, him => by
    have : c = 6 := by omega
    subst this
    rw [rh_21_5]
    simp only [SA, rw_21, gi_q hq, gi_a, if_pos (nI_le (Nat.le_refl 6) (show 6 < 2 ^ 31 by decide))]
  | m + 1, c, him => by
    have hc : c < 6 := by omega
    have ih := gi_lfitting hq hD hF hK hr an H f m (c + 1) (by omega)
    have e : msk (gi_fit f D r K) (c + 1) = msk (gi_fit f D r K) c + (if gi_fit f D r K c = true then 2 ^ c else 0) := rfl
    rw [e] at ih
    refine Eq.trans ?_ ih
    rw [rh_21_5]
    by_cases d : gi_fit f D r K c = true
    · rw [if_pos d]
      simp only [SA, rw_21, gi_q hq, gi_a, if_neg (nI_ge hc (show 6 < 2 ^ 31 by decide)), gi_fits hq hD hF hK hr hc, if_neg (bi_10 d), or10 c (show c < 10 by omega) _ (msk_lt (gi_fit f D r K) c), nI_add]
    · rw [if_neg d, Nat.add_zero]
      simp only [SA, rw_21, gi_q hq, gi_a, if_neg (nI_ge hc (show 6 < 2 ^ 31 by decide)), gi_fits hq hD hF hK hr hc, if_pos (bi_00 d), nI_add]
theorem gi_fitting {h : icH} (hq : hg h 44 = some (ob 3 [.ref 45, .int (nI 20), .int (nI 100)])) {R N K r : Nat} {D : Nat → Nat → Int32} {F : Nat → Nat} (hD : EOK R N D) (hF : F 1 = 5 * K) (hK : K ≤ 6) (hr : r < N) (an : Nat → Int32) (H : Nat) (f : Nat → Nat → Int32) : icE 21 0 [.ref 44, .ref 1, .int (nI r), dum, dum] [] (HH (hput h 45 (ai 6 an)) 1 H R N D F f) = some (some (.int (nI (msk (gi_fit f D r K) 6))), HH (hput h 45 (ai 6 an)) 1 H R N D F f) := by
  have z := gi_lfitting hq hD hF hK hr an H f 6 0 (by omega)
  refine Eq.trans ?_ z
  simp only [SA, rw_21, msk]
theorem gi_lg2 {h : icH} (hq : hg h 44 = some (ob 3 [.ref 45, .int (nI 20), .int (nI 100)])) {p : Nat → Bool} {a : Nat} (ha : a < 6) (x1 x2 x3 x4 x6 x7 : Value) (an : Nat → Int32) (H R N : Nat) (D : Nat → Nat → Int32) (F : Nat → Nat) (f : Nat → Nat → Int32) : ∀ (m b : Nat), b + m = a → icE 24 57 [.ref 44, x1, x2, x3, x4, .int (nI (msk p 6)), x6, x7, .int (nI a), .int (nI (1 + Cq p an (an a) b)), .int (nI b)] [] (HH (hput h 45 (ai 6 an)) 1 H R N D F f) = icE 24 100 [.ref 44, x1, x2, x3, x4, .int (nI (msk p 6)), x6, x7, .int (nI a), .int (nI (1 + Cq p an (an a) a)), .int (nI a)] [] (HH (hput h 45 (ai 6 an)) 1 H R N D F f)
  | 0, b, him => by
    have : b = a := by omega
    subst this
    rw [rh_24_57]
    simp only [SA, rw_24, if_pos (nI_le (Nat.le_refl b) (show b < 2 ^ 31 by omega))]
  | m + 1, b, him => by
    have hb : b < a := by omega
    have ih := gi_lg2 hq (p := p) ha x1 x2 x3 x4 x6 x7 an H R N D F f m (b + 1) (by omega)
    have e : Cq p an (an a) (b + 1) = Cq p an (an a) b + (if p b = true ∧ an a = an b then 1 else 0) := rfl
    rw [e] at ih
    refine Eq.trans ?_ ih
    have sh := msk_sh p (show 6 ≤ 10 by decide) (show b < 6 by omega)
    have bN : 6 < 2 ^ 31 := by decide
    rw [rh_24_57]
    by_cases d : p b = true
    · rw [if_pos d] at sh
      by_cases d2 : an a = an b
      · rw [if_pos ⟨d, d2⟩]
        simp only [SA, rw_24, gi_q hq, gi_a, if_neg (nI_ge hb (show a < 2 ^ 31 by omega)), sh, if_neg (show ¬ nI 1 = 0 by decide), ia_n ha bN, ia_n (show b < 6 by omega) bN, if_pos d2, nI_add, Nat.add_assoc]
      · rw [if_neg (fun z => d2 z.2), Nat.add_zero]
        simp only [SA, rw_24, gi_q hq, gi_a, if_neg (nI_ge hb (show a < 2 ^ 31 by omega)), sh, if_neg (show ¬ nI 1 = 0 by decide), ia_n ha bN, ia_n (show b < 6 by omega) bN, if_neg d2, nI_add]
    · rw [if_neg d] at sh
      rw [if_neg (fun z => d z.1), Nat.add_zero]
      simp only [SA, rw_24, gi_q hq, gi_a, if_neg (nI_ge hb (show a < 2 ^ 31 by omega)), sh, if_pos (show nI 0 = 0 by decide), nI_add]
theorem gi_lg1 {h : icH} (hq : hg h 44 = some (ob 3 [.ref 45, .int (nI 20), .int (nI 100)])) {R N r s lim : Nat} {w : Int32} {D : Nat → Nat → Int32} (hD : EOK R N D) (hr : r < N) {p : Nat → Bool} (hlim : lim ≤ 11) (H : Nat) (F : Nat → Nat) (f : Nat → Nat → Int32) : ∀ (m a : Nat) (y z : Value) (an : Nat → Int32), a + m = 6 → (∀ c, c < a → p c = true → an c = gi_lk D r w (nI s) c) → (∀ a', a' ≤ a → a' < a → Gq p (gi_lk D r w (nI s)) a' < lim) → ∃ rr an', icE 24 6 [.ref 44, .ref 1, .int (nI r), .int w, .int (nI s), .int (nI (msk p 6)), .int (nI lim), .int (nI (Gq p (gi_lk D r w (nI s)) a)), .int (nI a), y, z] [] (HH (hput h 45 (ai 6 an)) 1 H R N D F f) = some (some (.int (nI rr)), HH (hput h 45 (ai 6 an')) 1 H R N D F f) ∧ rr ≤ 6 ∧ ((Gq p (gi_lk D r w (nI s)) 6 < lim ∧ rr = Gq p (gi_lk D r w (nI s)) 6) ∨ (lim ≤ Gq p (gi_lk D r w (nI s)) 6 ∧ lim ≤ rr))
  | 0, a, y, z, an, him, hA, hG => by
    have : a = 6 := by omega
    subst this
    have gl := Gq_le p (gi_lk D r w (nI s)) 6
    refine ⟨Gq p (gi_lk D r w (nI s)) 6, an, ?_, gl, ?_⟩
    · rw [rh_24_6]
      simp only [SA, rw_24, gi_q hq, gi_a, if_pos (nI_le (Nat.le_refl 6) (show 6 < 2 ^ 31 by decide))]
    · by_cases c : Gq p (gi_lk D r w (nI s)) 6 < lim
      · exact Or.inl ⟨c, rfl⟩
      · exact Or.inr ⟨by omega, by omega⟩
  | m + 1, a, y, z, an, him, hA, hG => by
    have ha : a < 6 := by omega
    have bN : 6 < 2 ^ 31 := by decide
    have gl := Gq_le p (gi_lk D r w (nI s)) a
    by_cases c0 : lim ≤ Gq p (gi_lk D r w (nI s)) a
    · have mo := Gq_mo p (gi_lk D r w (nI s)) a (6 - a)
      rw [show a + (6 - a) = 6 by omega] at mo
      refine ⟨Gq p (gi_lk D r w (nI s)) a, an, ?_, by omega, Or.inr ⟨by omega, c0⟩⟩
      rw [rh_24_6]
      simp only [SA, rw_24, gi_q hq, gi_a, if_neg (nI_ge ha bN), if_pos (nI_le c0 (show Gq p (gi_lk D r w (nI s)) a < 2 ^ 31 by omega))]
    · have eG : Gq p (gi_lk D r w (nI s)) (a + 1) = if p a = true then max (Gq p (gi_lk D r w (nI s)) a) (1 + Cq p (gi_lk D r w (nI s)) (gi_lk D r w (nI s) a) a) else Gq p (gi_lk D r w (nI s)) a := rfl
      have sh := msk_sh p (show 6 ≤ 10 by decide) ha
      by_cases d : p a = true
      · rw [if_pos d] at sh eG
        have hA' : ∀ c, c < a + 1 → p c = true → upd an a (gi_lk D r w (nI s) a) c = gi_lk D r w (nI s) c := by
          intro c hc hp
          by_cases e : c = a
          · rw [e, pk_us]
          · rw [pk_un e]; exact hA c (by omega) hp
        have cq : Cq p (upd an a (gi_lk D r w (nI s) a)) (upd an a (gi_lk D r w (nI s) a) a) a = Cq p (gi_lk D r w (nI s)) (gi_lk D r w (nI s) a) a := by
          rw [pk_us]; exact Cq_c a (fun c hc hp => hA' c (by omega) hp)
        have s2 := gi_lg2 hq (p := p) ha (.ref 1) (.int (nI r)) (.int w) (.int (nI s)) (.int (nI lim)) (.int (nI (Gq p (gi_lk D r w (nI s)) a))) (upd an a (gi_lk D r w (nI s) a)) H R N D F f a 0 (by omega)
        rw [cq] at s2
        have cl := Cq_le p (gi_lk D r w (nI s)) (gi_lk D r w (nI s) a) a
        obtain ⟨rr, an', t1, t2, t3⟩ := gi_lg1 hq hD hr (p := p) hlim H F f m (a + 1) (.int (nI (1 + Cq p (gi_lk D r w (nI s)) (gi_lk D r w (nI s) a) a))) (.int (nI a)) (upd an a (gi_lk D r w (nI s) a)) (by omega) hA' (fun a' _ h2 => by
          by_cases e : a' = a
          · rw [e]; omega
          · exact hG a' (by omega) (by omega))
        rw [eG] at t1
        refine ⟨rr, an', ?_, t2, t3⟩
        refine Eq.trans ?_ t1
        have lkc := gi_clk hq hD hr ha an H F f (w := w) (s := nI s)
        rw [rh_24_6]
        simp only [SA, rw_24, gi_q hq, gi_a, gi_w, if_neg (nI_ge ha bN), if_neg (nI_ge (show Gq p (gi_lk D r w (nI s)) a < lim by omega) (show lim < 2 ^ 31 by omega)), sh, if_neg (show ¬ nI 1 = 0 by decide), lkc, is_n ha bN]
        have s3 : icE 24 57 [.ref 44, .ref 1, .int (nI r), .int w, .int (nI s), .int (nI (msk p 6)), .int (nI lim), .int (nI (Gq p (gi_lk D r w (nI s)) a)), .int (nI a), .int (nI 1), .int (nI 0)] [] (HH (hput h 45 (ai 6 (upd an a (gi_lk D r w (nI s) a)))) 1 H R N D F f) = _ := s2
        rw [s3]
        simp only [SA, rw_24, c_max, imx_n (show Gq p (gi_lk D r w (nI s)) a < 2 ^ 31 by omega) (show 1 + Cq p (gi_lk D r w (nI s)) (gi_lk D r w (nI s) a) a < 2 ^ 31 by omega), nI_add]
      · rw [if_neg d] at sh eG
        obtain ⟨rr, an', t1, t2, t3⟩ := gi_lg1 hq hD hr (p := p) hlim H F f m (a + 1) y z an (by omega) (fun c hc hp => by
          by_cases e : c = a
          · subst e; exact absurd hp d
          · exact hA c (by omega) hp) (fun a' _ h2 => by
          by_cases e : a' = a
          · rw [e]; omega
          · exact hG a' (by omega) (by omega))
        rw [eG] at t1
        refine ⟨rr, an', ?_, t2, t3⟩
        refine Eq.trans ?_ t1
        rw [rh_24_6]
        simp only [SA, rw_24, gi_q hq, gi_a, gi_w, if_neg (nI_ge ha bN), if_neg (nI_ge (show Gq p (gi_lk D r w (nI s)) a < lim by omega) (show lim < 2 ^ 31 by omega)), sh, if_pos (show nI 0 = 0 by decide), nI_add]
theorem gi_lgroup {h : icH} (hq : hg h 44 = some (ob 3 [.ref 45, .int (nI 20), .int (nI 100)])) {R N r s lim : Nat} {w : Int32} {D : Nat → Nat → Int32} (hD : EOK R N D) (hr : r < N) {p : Nat → Bool} (hlim : lim ≤ 11) (an : Nat → Int32) (H : Nat) (F : Nat → Nat) (f : Nat → Nat → Int32) : ∃ rr an', icE 24 0 [.ref 44, .ref 1, .int (nI r), .int w, .int (nI s), .int (nI (msk p 6)), .int (nI lim), dum, dum, dum, dum] [] (HH (hput h 45 (ai 6 an)) 1 H R N D F f) = some (some (.int (nI rr)), HH (hput h 45 (ai 6 an')) 1 H R N D F f) ∧ rr ≤ 6 ∧ ((Gq p (gi_lk D r w (nI s)) 6 < lim ∧ rr = Gq p (gi_lk D r w (nI s)) 6) ∨ (lim ≤ Gq p (gi_lk D r w (nI s)) 6 ∧ lim ≤ rr)) := by
  obtain ⟨rr, an', t1, t2, t3⟩ := gi_lg1 hq hD hr (p := p) hlim H F f 6 0 dum dum an (by omega) (fun c hc => absurd hc (Nat.not_lt_zero c)) (fun a' _ h2 => absurd h2 (Nat.not_lt_zero a')) (s := s) (w := w)
  refine ⟨rr, an', ?_, t2, t3⟩
  refine Eq.trans ?_ t1
  simp only [SA, rw_24, Gq]
/-- how large the group is, at a look; how the look is told -/
abbrev gi_g (p : Nat → Bool) (D : Nat → Nat → Int32) (r q : Nat) : Nat := Gq p (gi_lk D r (wv (q / 21)) (nI (q % 21))) 6
abbrev gi_cd (q : Nat) : Nat := 100 * (q / 21) + q % 21
theorem gi_bl2 {h : icH} (hq : hg h 44 = some (ob 3 [.ref 45, .int (nI 20), .int (nI 100)])) {R N r w : Nat} {D : Nat → Nat → Int32} (hD : EOK R N D) (hr : r < N) {p : Nat → Bool} (hp : ∃ a, a < 6 ∧ p a = true) (hw : w < 19) (H : Nat) (F : Nat → Nat) (f : Nat → Nat → Int32) : ∀ (m s : Nat) (z : Value) (an : Nat → Int32), s + m = 21 → ∃ (q s' : Nat) (z' : Value) (an' : Nat → Int32), icE 23 43 [.ref 44, .ref 1, .int (nI r), .int (nI (msk p 6)), .int (bq (gi_g p D r) gi_cd (w * 21 + s)).1, .int (nI (fq (gi_g p D r) gi_cd 6 (w * 21 + s))), .int (wv w), .int (nI s), z] [] (HH (hput h 45 (ai 6 an)) 1 H R N D F f) = icE 23 23 [.ref 44, .ref 1, .int (nI r), .int (nI (msk p 6)), .int (bq (gi_g p D r) gi_cd q).1, .int (nI (fq (gi_g p D r) gi_cd 6 q)), .int (wv (w + 1)), .int (nI s'), z'] [] (HH (hput h 45 (ai 6 an')) 1 H R N D F f) ∧ (q = (w + 1) * 21 ∨ (q ≤ (w + 1) * 21 ∧ fq (gi_g p D r) gi_cd 6 q ≤ 1))
  | 0, s, z, an, him => by
    have : s = 21 := by omega
    subst this
    refine ⟨w * 21 + 21, 21, z, an, ?_, Or.inl (by omega)⟩
    rw [rh_23_43]
    simp only [SA, rw_23, gi_q hq, if_pos (nI_lt (show 20 < 21 by decide) (show 21 < 2 ^ 31 by decide)), wv_s w hw]
  | m + 1, s, z, an, him => by
    have gle : ∀ q, gi_g p D r q ≤ 6 := fun q => Gq_le p _ 6
    have fle := fq_le (cd := gi_cd) gle (show 6 ≤ 98 by decide) (w * 21 + s)
    by_cases c1 : fq (gi_g p D r) gi_cd 6 (w * 21 + s) ≤ 1
    · refine ⟨w * 21 + s, s, z, an, ?_, Or.inr ⟨by omega, c1⟩⟩
      rw [rh_23_43]
      simp only [SA, rw_23, gi_q hq, if_neg (nI_nlt (show s ≤ 20 by omega) (show 20 < 2 ^ 31 by decide)), if_pos (nI_le c1 (show 1 < 2 ^ 31 by decide)), wv_s w hw]
    · obtain ⟨rr, an1, t1, t2, t3⟩ := gi_lgroup hq hD hr (p := p) (lim := fq (gi_g p D r) gi_cd 6 (w * 21 + s)) (by omega) an H F f (s := s) (w := wv w)
      have eg : Gq p (gi_lk D r (wv w) (nI s)) 6 = gi_g p D r (w * 21 + s) := by
        unfold gi_g
        rw [show (w * 21 + s) / 21 = w by omega, show (w * 21 + s) % 21 = s by omega]
      rw [eg] at t3
      have ec : gi_cd (w * 21 + s) = 100 * w + s := by
        unfold gi_cd
        rw [show (w * 21 + s) / 21 = w by omega, show (w * 21 + s) % 21 = s by omega]
      have fs := fq_s (cd := gi_cd) gle (show 6 ≤ 98 by decide) (w * 21 + s)
      have eb : bq (gi_g p D r) gi_cd (w * 21 + s + 1) = if gi_g p D r (w * 21 + s) < (bq (gi_g p D r) gi_cd (w * 21 + s)).2 then (nI (gi_cd (w * 21 + s)), gi_g p D r (w * 21 + s)) else bq (gi_g p D r) gi_cd (w * 21 + s) := rfl
      obtain ⟨q, s', z', an', y1, y2⟩ := gi_bl2 hq hD hr hp hw H F f m (s + 1) (.int (nI rr)) an1 (by omega)
      refine ⟨q, s', z', an', ?_, y2⟩
      refine Eq.trans ?_ y1
      rw [← Nat.add_assoc]
      rw [rh_23_43]
      rcases t3 with ⟨t4, t5⟩ | ⟨t4, t5⟩
      · have lt := fs.1.mp t4
        rw [if_pos lt, ec] at eb
        rw [fs.2, eb]
        subst t5
        simp only [SA, rw_23, gi_q hq, if_neg (nI_nlt (show s ≤ 20 by omega) (show 20 < 2 ^ 31 by decide)), if_neg (nI_ge (show 1 < fq (gi_g p D r) gi_cd 6 (w * 21 + s) by omega) (show fq (gi_g p D r) gi_cd 6 (w * 21 + s) < 2 ^ 31 by omega)), t1, if_neg (nI_ge t4 (show fq (gi_g p D r) gi_cd 6 (w * 21 + s) < 2 ^ 31 by omega)), wv_9 w (show w < 20 by omega), pk_mul, nI_add]
      · have nlt : ¬ gi_g p D r (w * 21 + s) < (bq (gi_g p D r) gi_cd (w * 21 + s)).2 := fun z => by have := fs.1.mpr z; omega
        rw [if_neg nlt] at eb
        have q0 : w * 21 + s ≠ 0 := by
          intro z
          have e0 : fq (gi_g p D r) gi_cd 6 (w * 21 + s) = 6 + 1 := by unfold fq; rw [if_pos z]
          have := gle (w * 21 + s)
          omega
        have e1 : fq (gi_g p D r) gi_cd 6 (w * 21 + s + 1) = fq (gi_g p D r) gi_cd 6 (w * 21 + s) := by rw [fs.2, eb]; unfold fq; rw [if_neg q0]
        rw [e1, eb]
        simp only [SA, rw_23, gi_q hq, if_neg (nI_nlt (show s ≤ 20 by omega) (show 20 < 2 ^ 31 by decide)), if_neg (nI_ge (show 1 < fq (gi_g p D r) gi_cd 6 (w * 21 + s) by omega) (show fq (gi_g p D r) gi_cd 6 (w * 21 + s) < 2 ^ 31 by omega)), t1, if_pos (nI_le t5 (show rr < 2 ^ 31 by omega)), nI_add]
theorem gi_bl1 {h : icH} (hq : hg h 44 = some (ob 3 [.ref 45, .int (nI 20), .int (nI 100)])) {R N r : Nat} {D : Nat → Nat → Int32} (hD : EOK R N D) (hr : r < N) {p : Nat → Bool} (hp : ∃ a, a < 6 ∧ p a = true) (H : Nat) (F : Nat → Nat) (f : Nat → Nat → Int32) : ∀ (m w q : Nat) (y z : Value) (an : Nat → Int32), w + m = 19 → (q = w * 21 ∨ (q ≤ w * 21 ∧ fq (gi_g p D r) gi_cd 6 q ≤ 1)) → ∃ (an' : Nat → Int32), icE 23 23 [.ref 44, .ref 1, .int (nI r), .int (nI (msk p 6)), .int (bq (gi_g p D r) gi_cd q).1, .int (nI (fq (gi_g p D r) gi_cd 6 q)), .int (wv w), y, z] [] (HH (hput h 45 (ai 6 an)) 1 H R N D F f) = some (some (.int (bq (gi_g p D r) gi_cd (19 * 21)).1), HH (hput h 45 (ai 6 an')) 1 H R N D F f)
  | 0, w, q, y, z, an, him, hqq => by
    have : w = 19 := by omega
    subst this
    have g1 : ∀ q, 1 ≤ gi_g p D r q := fun q => by obtain ⟨a, a1, a2⟩ := hp; exact Gq_1 a1 a2
    refine ⟨an, ?_⟩
    have e : bq (gi_g p D r) gi_cd (19 * 21) = bq (gi_g p D r) gi_cd q := by
      rcases hqq with e | ⟨e1, e2⟩
      · rw [e]
      · have q0 : q ≠ 0 := fun z => by subst z; unfold fq at e2; rw [if_pos rfl] at e2; omega
        have e3 : (bq (gi_g p D r) gi_cd q).2 ≤ 1 := by unfold fq at e2; rwa [if_neg q0] at e2
        have := bq_st (cd := gi_cd) g1 e3 (19 * 21 - q)
        rwa [show q + (19 * 21 - q) = 19 * 21 by omega] at this
    rw [e, rh_23_23]
    simp only [SA, rw_23, if_pos wv_ge]
  | m + 1, w, q, y, z, an, him, hqq => by
    have g1 : ∀ q, 1 ≤ gi_g p D r q := fun q => by obtain ⟨a, a1, a2⟩ := hp; exact Gq_1 a1 a2
    have gle : ∀ q, gi_g p D r q ≤ 6 := fun q => Gq_le p _ 6
    have fle := fq_le (cd := gi_cd) gle (show 6 ≤ 98 by decide) q
    have mn : ¬ nI (msk p 6) = 0 := by
      obtain ⟨a, a1, a2⟩ := hp
      intro z
      have z2 : msk p 6 = 0 := by
        have := msk_10 p (show 6 ≤ 10 by decide)
        have e0 : nI 0 = 0 := rfl
        rw [← e0] at z
        exact (nI_eq (by omega) (by decide)).mp z
      have := msk_bit p 6 a a1
      rw [z2, if_pos a2, Nat.zero_div] at this
      cases this
    by_cases c1 : fq (gi_g p D r) gi_cd 6 q ≤ 1
    · refine ⟨an, ?_⟩
      have q0 : q ≠ 0 := fun z => by subst z; unfold fq at c1; rw [if_pos rfl] at c1; omega
      have e3 : (bq (gi_g p D r) gi_cd q).2 ≤ 1 := by unfold fq at c1; rwa [if_neg q0] at c1
      have e := bq_st (cd := gi_cd) g1 e3 (19 * 21 - q)
      rw [show q + (19 * 21 - q) = 19 * 21 by omega] at e
      rw [e, rh_23_23]
      simp only [SA, rw_23, if_neg (wv_lt (show w < 19 by omega)), if_neg mn, if_pos (nI_le c1 (show 1 < 2 ^ 31 by decide))]
    · have eq : q = w * 21 := by rcases hqq with e | ⟨_, e2⟩; exact e; exact absurd e2 c1
      subst eq
      obtain ⟨q', s', z', an', y1, y2⟩ := gi_bl2 hq hD hr hp (show w < 19 by omega) H F f 21 0 z an (by omega)
      obtain ⟨an2, ih⟩ := gi_bl1 hq hD hr hp H F f m (w + 1) q' (.int (nI s')) z' an' (by omega) y2
      refine ⟨an2, ?_⟩
      refine Eq.trans ?_ ih
      refine Eq.trans ?_ y1
      rw [Nat.add_zero, rh_23_23]
      simp only [SA, rw_23, if_neg (wv_lt (show w < 19 by omega)), if_neg mn, if_neg (nI_ge (show 1 < fq (gi_g p D r) gi_cd 6 (w * 21) by omega) (show fq (gi_g p D r) gi_cd 6 (w * 21) < 2 ^ 31 by omega))]
def gi_bst (f D : Nat → Nat → Int32) (r K : Nat) : Int32 := if msk (gi_fit f D r K) 6 = 0 then -1 else (bq (gi_g (gi_fit f D r K) D r) gi_cd (19 * 21)).1
theorem gi_best {h : icH} (hq : hg h 44 = some (ob 3 [.ref 45, .int (nI 20), .int (nI 100)])) {R N K r : Nat} {D : Nat → Nat → Int32} {F : Nat → Nat} (hD : EOK R N D) (hF : F 1 = 5 * K) (hK : K ≤ 6) (hr : r < N) (an : Nat → Int32) (H : Nat) (f : Nat → Nat → Int32) : ∃ an', icE 23 0 [.ref 44, .ref 1, .int (nI r), dum, dum, dum, dum, dum, dum] [] (HH (hput h 45 (ai 6 an)) 1 H R N D F f) = some (some (.int (gi_bst f D r K)), HH (hput h 45 (ai 6 an')) 1 H R N D F f) := by
  have ft := gi_fitting hq hD hF hK hr an H f
  by_cases c : msk (gi_fit f D r K) 6 = 0
  · refine ⟨an, ?_⟩
    have e : gi_bst f D r K = -1 := if_pos c
    have c0 : nI (msk (gi_fit f D r K) 6) = 0 := by rw [c]; rfl
    rw [e]
    simp only [SA, rw_23, gi_q hq, gi_a, ft, rh_23_23, if_neg (show ¬ nI 9 < -9 by decide), if_pos c0]
  · have e : gi_bst f D r K = (bq (gi_g (gi_fit f D r K) D r) gi_cd (19 * 21)).1 := if_neg c
    rw [e]
    obtain ⟨an', z⟩ := gi_bl1 hq hD hr (msk_ex _ _ c) H F f 19 0 0 dum dum an (by omega) (Or.inl (by omega))
    refine ⟨an', ?_⟩
    refine Eq.trans ?_ z
    have w0 : wv 0 = -9 := by decide
    rw [w0]
    simp only [SA, rw_23, gi_q hq, gi_a, ft, nI_add, bq, fq, if_true]
