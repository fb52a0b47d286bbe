/-! ===== reading: words, numbers, items of the class ===== -/
def wW : List (List Nat) := [[104, 111, 117, 115, 101], [119, 97, 114, 109], [114, 111, 111, 102], [105, 99, 101], [104, 111, 117, 114, 115]]
def wl (j : Nat) : Nat := (strB.getD j []).length
def wc (j q : Nat) : Int32 := (strB.getD j []).getD q 0
def wn (j q : Nat) : Nat := (wW.getD j []).getD q 0
theorem wc_n : ∀ j, j < 5 → ∀ q, q < 5 → wc j q = nI (wn j q) ∧ wn j q < 128 := by decide
theorem wl_5 : ∀ j, j < 5 → wl j ≤ 5 := by decide
theorem u_sl {j : Nat} (hj : j < 5) (x : Int32) (k nx : Nat) (L : List Value) (h : icH) : exe icE k (e_slen nx L [.ref (icLim + j), .int x] h) = icE k nx L [.int (nI (wl j)), .int x] h := by
  unfold e_slen
  dsimp only
  have c : icLim ≤ icLim + j ∧ icLim + j < icLim + 5 ∧ csum [Value.int x] ≤ 8 := ⟨Nat.le_add_right _ _, Nat.add_lt_add_left hj _, (cle_iff _ 8).mp rfl⟩
  rw [if_pos c, Nat.add_sub_cancel_left]
  rfl
theorem u_sc {j q : Nat} (hj : j < 5) (hq : q < wl j) (x : Int32) (k nx : Nat) (L : List Value) (h : icH) : exe icE k (e_schr nx L [.int (nI q), .ref (icLim + j), .int x] h) = icE k nx L [.int (nI (wn j q)), .int x] h := by
  have l5 := wl_5 j hj
  have e : (nI q).toInt = (q : Int) := nI_toInt (by omega)
  unfold e_schr
  dsimp only
  have c : icLim ≤ icLim + j ∧ icLim + j < icLim + 5 ∧ (0 : Int) ≤ (q : Int) ∧ (q : Int) < ((strB.getD j []).length : Int) ∧ csum [Value.int x] ≤ 8 := ⟨Nat.le_add_right _ _, Nat.add_lt_add_left hj _, by omega, (by have w : q < (strB.getD j []).length := hq; omega), (cle_iff _ 8).mp rfl⟩
  rw [e, Nat.add_sub_cancel_left, if_pos c]
  have e2 : (strB.getD j []).getD (q : Int).toNat 0 = nI (wn j q) := (wc_n j hj q (by omega)).1
  rw [e2]
  rfl
abbrev wb (j : Nat) (b : Nat → Nat) (S : Nat) (k : Nat) : Bool := decide (¬ b (S + k) = wn j k)
def wdB (j : Nat) (b : Nat → Nat) (S E : Nat) : Bool := decide (E = S + wl j) && !(anyB (wb j b S) (wl j))
theorem l_isW {h : icH} {tb : Nat → Int32} {b : Nat → Nat} {z S j : Nat} (h25 : hg h 25 = some (.inl (1, 150, tb))) (hb : ∀ k, k < z → tb k = nI (b k) ∧ b k < 128) (hz : z ≤ 150) (hj : j < 5) (hE : S + wl j ≤ z) (t e v : Int32) (nb : Nat → Int32) (H R N : Nat) (E : Nat → Nat → Int32) : ∀ (m k : Nat), k + m = wl j → (∀ q, q < k → wb j b S q = false) → icE 68 20 [.ref 24, .ref (icLim + j), .int (nI k)] [] (HT h z t (nI S) e v nb H R N E) = some (some (.int (bi (anyB (wb j b S) (wl j) = false))), HT h z t (nI S) e v nb H R N E)
  | 0, k, him, hno => by
    have : k = wl j := by omega
    subst this
    have l5 := wl_5 j hj
    rw [bi_t (Bool.eq_false_iff.mpr (fun z => by obtain ⟨q, hq, y⟩ := (anyB_i _ _).mp z; rw [hno q hq] at y; cases y)), rh_68_20]
    simp only [SA, rw_68, u_sl hj, if_pos (nI_le (Nat.le_refl (wl j)) (show wl j < 2 ^ 31 by omega))]
  | m + 1, k, him, hno => by
    have l5 := wl_5 j hj
    have hk : k < wl j := by omega
    obtain ⟨e1, e2⟩ := hb (S + k) (by omega)
    have w128 := (wc_n j hj k (by omega)).2
    rw [rh_68_20]
    by_cases c : b (S + k) = wn j k
    · have c' : nI (b (S + k)) = nI (wn j k) := by rw [c]
      have ih := l_isW h25 hb hz hj hE t e v nb H R N E m (k + 1) (by omega) (fun q hq => by
        by_cases w : q = k
        · subst w; exact decide_eq_false (fun x => x c)
        · exact hno q (by omega))
      refine Eq.trans ?_ ih
      simp only [SA, rw_68, u_sl hj, if_neg (nI_ge hk (show wl j < 2 ^ 31 by omega)), HT_24, HT_25 h25, nI_add, ba_n (show S + k < 150 by omega) (show 150 < 2 ^ 31 by decide), e1, u_sc hj hk, if_pos c']
    · have c' : ¬ nI (b (S + k)) = nI (wn j k) := fun x => c ((nI_eq (by omega) (by omega)).mp x)
      rw [bi_f (fun z => by rw [(anyB_i _ _).mpr ⟨k, hk, decide_eq_true c⟩] at z; cases z)]
      simp only [SA, rw_68, u_sl hj, if_neg (nI_ge hk (show wl j < 2 ^ 31 by omega)), HT_24, HT_25 h25, nI_add, ba_n (show S + k < 150 by omega) (show 150 < 2 ^ 31 by decide), e1, u_sc hj hk, if_neg c']
theorem c_isW {h : icH} {tb : Nat → Int32} {b : Nat → Nat} {z S e j : Nat} (h25 : hg h 25 = some (.inl (1, 150, tb))) (hb : ∀ k, k < z → tb k = nI (b k) ∧ b k < 128) (hz : z ≤ 150) (hj : j < 5) (hS : S ≤ e) (he : e ≤ z) (t v : Int32) (nb : Nat → Int32) (H R N : Nat) (E : Nat → Nat → Int32) : icE 68 0 [.ref 24, .ref (icLim + j), dum] [] (HT h z t (nI S) (nI e) v nb H R N E) = some (some (.int (bi (wdB j b S e = true))), HT h z t (nI S) (nI e) v nb H R N E) := by
  have l5 := wl_5 j hj
  by_cases c : e = S + wl j
  · have ew : bi (wdB j b S e = true) = bi (anyB (wb j b S) (wl j) = false) := by
      unfold wdB
      rw [decide_eq_true c, Bool.true_and]
      cases anyB (wb j b S) (wl j) <;> rfl
    rw [ew]
    have c' : nI (e - S) = nI (wl j) := by rw [show e - S = wl j by omega]
    refine Eq.trans ?_ (l_isW h25 hb hz hj (by omega) t (nI e) v nb H R N E (wl j) 0 (by omega) (fun q hq => absurd hq (Nat.not_lt_zero q)))
    simp only [SA, rw_68, HT_24, nI_sb hS, u_sl hj, if_pos c']
  · have ew : ¬ wdB j b S e = true := by unfold wdB; rw [decide_eq_false c, Bool.false_and]; decide
    have c' : ¬ nI (e - S) = nI (wl j) := fun x => c (by have := (nI_eq (by omega) (by omega)).mp x; omega)
    rw [bi_f ew]
    simp only [SA, rw_68, HT_24, nI_sb hS, u_sl hj, if_neg c']
abbrev nbP (b : Nat → Nat) (z p : Nat) (lo hi : Int32) : Prop := tkT b z p = 2 ∧ (lo ≤ nI (tkV b z p) ∧ nI (tkV b z p) ≤ hi)
theorem tk_T (b : Nat → Nat) (z s : Nat) : tT b z s ≤ 4 := by
  unfold tT
  split
  · omega
  · split
    · omega
    · split
      · split <;> omega
      · split <;> omega
theorem c_rnum {h : icH} {tb : Nat → Int32} {b : Nat → Nat} {z p col : Nat} (h25 : hg h 25 = some (.inl (1, 150, tb))) (hb : ∀ k, k < z → tb k = nI (b k) ∧ b k < 128) (hz : z ≤ 150) (hp : p ≤ z) (hc : col < 5) (lo hi t s v : Int32) (nb : Nat → Int32) (H R N : Nat) (E : Nat → Nat → Int32) : ∃ v', icE 62 0 [.ref 24, .int (nI col), .int lo, .int hi] [] (HT h z t s (nI p) v nb H R N E) = some (some (.int (bi (nbP b z p lo hi))), HT h z (nI (tkT b z p)) (nI (tkS b z p)) (nI (tkE b z p)) v' (upd nb col v') H R N E) ∧ (tkT b z p = 2 → v' = nI (tkV b z p)) := by
  obtain ⟨v', n1, n2⟩ := c_next h25 hb hz hp t s v nb H R N E
  refine ⟨v', ?_, n2⟩
  have t4 := tk_T b z (tkS b z p)
  by_cases c : tkT b z p = 2
  · have e2 := n2 c
    have c' : nI (tkT b z p) = nI 2 := by rw [c]
    by_cases d : lo ≤ nI (tkV b z p) ∧ nI (tkV b z p) ≤ hi
    · rw [bi_t (show nbP b z p lo hi from ⟨c, d⟩)]
      rw [e2] at n1 ⊢
      simp only [SA, rw_62, HT_24, HT_26, HT_w26, n1, is_n hc (show 5 < 2 ^ 31 by decide), if_pos c', c_within, if_neg (bi_10 d)]
    · rw [bi_f (show ¬ nbP b z p lo hi from fun x => d x.2)]
      rw [e2] at n1 ⊢
      simp only [SA, rw_62, HT_24, HT_26, HT_w26, n1, is_n hc (show 5 < 2 ^ 31 by decide), if_pos c', c_within, if_pos (bi_00 d)]
  · have c' : ¬ nI (tkT b z p) = nI 2 := fun x => c ((nI_eq (by unfold tkT; omega) (by decide)).mp x)
    rw [bi_f (show ¬ nbP b z p lo hi from fun x => c x.1)]
    simp only [SA, rw_62, HT_24, HT_26, HT_w26, n1, is_n hc (show 5 < 2 ^ 31 by decide), if_neg c']
theorem c_rstop {h : icH} {tb : Nat → Int32} {b : Nat → Nat} {z p : Nat} (h25 : hg h 25 = some (.inl (1, 150, tb))) (hb : ∀ k, k < z → tb k = nI (b k) ∧ b k < 128) (hz : z ≤ 150) (hp : p ≤ z) (t s v : Int32) (nb : Nat → Int32) (H R N : Nat) (E : Nat → Nat → Int32) : ∃ v', icE 63 0 [.ref 24] [] (HT h z t s (nI p) v nb H R N E) = some (some (.int (bi (tkT b z p = 3))), HT h z (nI (tkT b z p)) (nI (tkS b z p)) (nI (tkE b z p)) v' nb H R N E) := by
  obtain ⟨v', n1, n2⟩ := c_next h25 hb hz hp t s v nb H R N E
  refine ⟨v', ?_⟩
  have t4 := tk_T b z (tkS b z p)
  by_cases c : tkT b z p = 3
  · have c' : nI (tkT b z p) = nI 3 := by rw [c]
    rw [bi_t c]
    simp only [SA, rw_63, HT_24, n1, if_pos c']
  · have c' : ¬ nI (tkT b z p) = nI 3 := fun x => c ((nI_eq (by unfold tkT; omega) (by decide)).mp x)
    rw [bi_f c]
    simp only [SA, rw_63, HT_24, n1, if_neg c']
theorem tkV_le {b : Nat → Nat} {z p : Nat} (hb : ∀ k, k < z → b k < 128) (h : tkT b z p = 2) : tkV b z p ≤ 900 := by
  unfold tkV tkE
  unfold tkT at h
  generalize tkS b z p = q at *
  by_cases c0 : z ≤ q
  · have : tT b z q = 0 := if_pos c0
    omega
  · by_cases c1 : isL (b q) = true
    · have : tT b z q = 1 := by unfold tT; rw [if_neg c0, if_pos c1]
      omega
    · by_cases c2 : isF (b q) = true
      · have eE : tE b z q = ru isF b z q := by unfold tE; rw [if_neg c0, if_neg c1, if_pos c2]
        have rl := ru_le (P := isF) (b := b) (z := z) (z - (q + 1)) (q + 1) (by omega)
        rw [← ru_s (by omega) c2] at rl
        have := hb q (by omega)
        rw [eE]
        by_cases k : ru isF b z q = q + 1
        · rw [if_pos k]; omega
        · rw [if_neg k]
          have := hb (q + 1) (by omega)
          omega
      · by_cases c3 : b q = 59
        · have : tT b z q = 3 := by unfold tT; rw [if_neg c0, if_neg c1, if_neg c2, if_pos c3]
          omega
        · have : tT b z q = 4 := by unfold tT; rw [if_neg c0, if_neg c1, if_neg c2, if_neg c3]
          omega
theorem nb_hi {b : Nat → Nat} {z p lo hi : Nat} (hb : ∀ k, k < z → b k < 128) (hlo : lo < 2 ^ 31) (hh : hi < 2 ^ 31) (h : nbP b z p (nI lo) (nI hi)) : lo ≤ tkV b z p ∧ tkV b z p ≤ hi := by
  have v := tkV_le hb h.1
  exact ⟨(nI_leI hlo (by omega)).mp h.2.1, (nI_leI (by omega) hh).mp h.2.2⟩
def sq (b : Nat → Nat) (z : Nat) : List (Int32 × Int32) → Nat → Nat ⊕ Nat
  | [], p => if tkT b z p = 3 then .inr (tkE b z p) else .inl (tkS b z p)
  | (lo, hi) :: l, p => if nbP b z p lo hi then sq b z l (tkE b z p) else .inl (tkS b z p)
def pkk (b : Nat → Nat) (z p : Nat) : Nat → Nat
  | 0 => p
  | k + 1 => tkE b z (pkk b z p k)
theorem tkE_le {b : Nat → Nat} {z p : Nat} (h : p ≤ z) : p ≤ tkE b z p ∧ tkE b z p ≤ z := by
  have a := tkS_le (b := b) h
  have c := tE_le (b := b) a.2
  unfold tkE
  omega
theorem HT_28 (h : icH) (z : Nat) (t s e v : Int32) (nb : Nat → Int32) (H R N : Nat) (E : Nat → Nat → Int32) : hg (HT h z t s e v nb H R N E) 28 = some (ob 0 [.int (nI H), .ref (28 + 1), .int (nI R), .ref (28 + 2), .ref (28 + 3), .ref (28 + 4), .ref (28 + 5), .int (nI N), .ref (28 + 6), .ref (28 + 7), .ref (28 + 8), .ref (28 + 9), .ref (28 + 10), .ref (28 + 11)]) := HE_o _ _ _ _ _ _
theorem HT_29 (h : icH) (z : Nat) (t s e v : Int32) (nb : Nat → Int32) (H R N : Nat) (E : Nat → Nat → Int32) : hg (HT h z t s e v nb H R N E) (28 + 1) = some (ai 8 (E 1)) := HEr.1 _ _ _ _ _ _
theorem HT_w29 (h : icH) (z : Nat) (t s e v : Int32) (nb : Nat → Int32) (H R N : Nat) (E : Nat → Nat → Int32) (g : Nat → Int32) : hput (HT h z t s e v nb H R N E) (28 + 1) (ai 8 g) = HT h z t s e v nb H R N (ud E 1 g) := HEw.1 _ _ _ _ _ _ _
theorem HT_begin (w : Int32) (h : icH) (z : Nat) (t s e v : Int32) (nb : Nat → Int32) (H R N : Nat) (E : Nat → Nat → Int32) : icE 3 0 [.ref 28, .int w] [] (HT h z t s e v nb H R N E) = some (none, HT h z t s e v nb 0 0 0 (ud E 1 (fil (E 1) w 0 8))) := c_begin w _ 28 H R N E
theorem HT_roof {R : Nat} (hR : R < 3) (k q s0 : Int32) (h : icH) (z : Nat) (t s e v : Int32) (nb : Nat → Int32) (H N : Nat) (E : Nat → Nat → Int32) : icE 5 0 [.ref 28, .int k, .int q, .int s0] [] (HT h z t s e v nb H R N E) = some (some (.int (nI R)), HT h z t s e v nb H (R + 1) N (ud (ud (ud E 2 (upd (E 2) R k)) 3 (upd (E 3) R q)) 4 (upd (E 4) R s0))) := c_addRoof hR k q s0 _ 28 H N E
theorem HT_ice {N : Nat} (hN : N < 6) (r k p l q : Int32) (h : icH) (z : Nat) (t s e v : Int32) (nb : Nat → Int32) (H R : Nat) (E : Nat → Nat → Int32) : icE 6 0 [.ref 28, .int r, .int k, .int p, .int l, .int q] [] (HT h z t s e v nb H R N E) = some (some (.int (nI N)), HT h z t s e v nb H R (N + 1) (ud (ud (ud (ud (ud (ud E 6 (upd (E 6) N r)) 7 (upd (E 7) N k)) 8 (upd (E 8) N p)) 9 (upd (E 9) N l)) 10 (upd (E 10) N q)) 11 (upd (E 11) N (nI 0)))) := c_addIcicle hN r k p l q _ 28 H R E
theorem HT_hours {R N n H : Nat} {E : Nat → Nat → Int32} (hn : n < 2 ^ 31) (hD : EOK R N E) (hW : WOK E) (hH : H ≤ 9999) (h : icH) (z : Nat) (t s e v : Int32) (nb : Nat → Int32) : icE 8 0 [.ref 28, .int (nI n), dum] [] (HT h z t s e v nb H R N E) = some (none, HT h z t s e v nb (H + min n (9999 - H)) R N (hsn R N (min n (9999 - H)) H E)) := c_passHours hn hD hW hH _ 28
theorem c_rHouse {h : icH} {tb : Nat → Int32} {b : Nat → Nat} {z p : Nat} (h25 : hg h 25 = some (.inl (1, 150, tb))) (hb : ∀ k, k < z → tb k = nI (b k) ∧ b k < 128) (hz : z ≤ 150) (hp : p ≤ z) {H R N : Nat} {E : Nat → Nat → Int32} (t s v : Int32) (nb : Nat → Int32) : ∃ t' s' e' v' nb', (∀ f, sq b z [(nI 0, nI 18)] p = .inl f → s' = nI f ∧ icE 57 0 [.ref 24, .ref 28, dum] [] (HT h z t s (nI p) v nb H R N E) = some (some (.int (nI 0)), HT h z t' s' e' v' nb' H R N E)) ∧ (∀ q, sq b z [(nI 0, nI 18)] p = .inr q → e' = nI q ∧ icE 57 0 [.ref 24, .ref 28, dum] [] (HT h z t s (nI p) v nb H R N E) = some (some (.int (nI 1)), HT h z t' s' e' v' nb' 0 0 0 (ud E 1 (fil (E 1) ((nI (tkV b z p)) + (-9)) 0 8)))) := by
  obtain ⟨v0, a0, g0⟩ := c_rnum h25 hb hz (p := p) hp (show 0 < 5 by decide) (nI 0) (nI 18) t s v nb H R N E
  by_cases n0 : nbP b z p (nI 0) (nI 18)
  · have hp1 : pkk b z p 1 ≤ z := (tkE_le hp).2
    obtain ⟨vs, as⟩ := c_rstop h25 hb hz (p := (pkk b z p 1)) hp1 (nI (tkT b z p)) (nI (tkS b z p)) v0 (upd (nb) 0 v0) H R N E
    change icE 63 0 _ _ (HT h z _ _ (nI (tkE b z p)) _ _ _ _ _ _) = _ at as
    by_cases ns : tkT b z (pkk b z p 1) = 3
    · have qs : sq b z [(nI 0, nI 18)] p = .inr (tkE b z (pkk b z p 1)) := (if_pos n0).trans (if_pos ns)
      refine ⟨nI (tkT b z (pkk b z p 1)), nI (tkS b z (pkk b z p 1)), nI (tkE b z (pkk b z p 1)), vs, upd (nb) 0 v0, fun f w => ?_, fun q w => ?_⟩
      · rw [qs] at w
        cases w
      · rw [qs] at w
        cases w
        refine ⟨rfl, ?_⟩
        have u0 := g0 n0.1
        subst u0
        simp only [SA, rw_57, HT_24, HT_26, HT_28, a0, as, if_neg (bi_10 n0), if_neg (bi_10 ns), if_neg (show ¬ nI 1 = 0 by decide), ia_n (show 0 < 5 by decide) (show 5 < 2 ^ 31 by decide), pk_us, HT_begin]
    · have qf : sq b z [(nI 0, nI 18)] p = .inl (tkS b z (pkk b z p 1)) := (if_pos n0).trans (if_neg ns)
      refine ⟨nI (tkT b z (pkk b z p 1)), nI (tkS b z (pkk b z p 1)), nI (tkE b z (pkk b z p 1)), vs, upd (nb) 0 v0, fun f w => ?_, fun q w => ?_⟩
      · rw [qf] at w
        cases w
        refine ⟨rfl, ?_⟩
        simp only [SA, rw_57, HT_24, HT_28, a0, as, if_neg (bi_10 n0), if_pos (bi_00 ns), if_pos (show nI 0 = 0 by decide)]
      · rw [qf] at w
        cases w
  · have qf : sq b z [(nI 0, nI 18)] p = .inl (tkS b z p) := if_neg n0
    refine ⟨nI (tkT b z p), nI (tkS b z p), nI (tkE b z p), v0, upd (nb) 0 v0, fun f w => ?_, fun q w => ?_⟩
    · rw [qf] at w
      cases w
      refine ⟨rfl, ?_⟩
      simp only [SA, rw_57, HT_24, HT_28, a0, if_pos (bi_00 n0), if_pos (show nI 0 = 0 by decide)]
    · rw [qf] at w
      cases w
theorem c_rWarm {h : icH} {tb : Nat → Int32} {b : Nat → Nat} {z p : Nat} (h25 : hg h 25 = some (.inl (1, 150, tb))) (hb : ∀ k, k < z → tb k = nI (b k) ∧ b k < 128) (hz : z ≤ 150) (hp : p ≤ z) {H R N : Nat} {E : Nat → Nat → Int32} (t s v : Int32) (nb : Nat → Int32) : ∃ t' s' e' v' nb', (∀ f, sq b z [(nI 0, nI 7), (nI 0, nI 18)] p = .inl f → s' = nI f ∧ icE 58 0 [.ref 24, .ref 28, dum] [] (HT h z t s (nI p) v nb H R N E) = some (some (.int (nI 0)), HT h z t' s' e' v' nb' H R N E)) ∧ (∀ q, sq b z [(nI 0, nI 7), (nI 0, nI 18)] p = .inr q → e' = nI q ∧ icE 58 0 [.ref 24, .ref 28, dum] [] (HT h z t s (nI p) v nb H R N E) = some (some (.int (nI 1)), HT h z t' s' e' v' nb' H R N (ud E 1 (upd (E 1) (kn (nI (tkV b z p))) ((nI (tkV b z (pkk b z p 1))) + (-9)))))) := by
  obtain ⟨v0, a0, g0⟩ := c_rnum h25 hb hz (p := p) hp (show 0 < 5 by decide) (nI 0) (nI 7) t s v nb H R N E
  by_cases n0 : nbP b z p (nI 0) (nI 7)
  · have hp1 : pkk b z p 1 ≤ z := (tkE_le hp).2
    obtain ⟨v1, a1, g1⟩ := c_rnum h25 hb hz (p := (pkk b z p 1)) hp1 (show 1 < 5 by decide) (nI 0) (nI 18) (nI (tkT b z p)) (nI (tkS b z p)) v0 (upd (nb) 0 v0) H R N E
    change icE 62 0 _ _ (HT h z _ _ (nI (tkE b z p)) _ _ _ _ _ _) = _ at a1
    by_cases n1 : nbP b z (pkk b z p 1) (nI 0) (nI 18)
    · have hp2 : pkk b z p 2 ≤ z := (tkE_le hp1).2
      obtain ⟨vs, as⟩ := c_rstop h25 hb hz (p := (pkk b z p 2)) hp2 (nI (tkT b z (pkk b z p 1))) (nI (tkS b z (pkk b z p 1))) v1 (upd (upd (nb) 0 v0) 1 v1) H R N E
      change icE 63 0 _ _ (HT h z _ _ (nI (tkE b z (pkk b z p 1))) _ _ _ _ _ _) = _ at as
      by_cases ns : tkT b z (pkk b z p 2) = 3
      · have qs : sq b z [(nI 0, nI 7), (nI 0, nI 18)] p = .inr (tkE b z (pkk b z p 2)) := (if_pos n0).trans ((if_pos n1).trans (if_pos ns))
        refine ⟨nI (tkT b z (pkk b z p 2)), nI (tkS b z (pkk b z p 2)), nI (tkE b z (pkk b z p 2)), vs, upd (upd (nb) 0 v0) 1 v1, fun f w => ?_, fun q w => ?_⟩
        · rw [qs] at w
          cases w
        · rw [qs] at w
          cases w
          refine ⟨rfl, ?_⟩
          have u0 := g0 n0.1
          subst u0
          have u1 := g1 n1.1
          subst u1
          have k8 := nb_hi (fun k hk => (hb k hk).2) (by decide) (by decide) n0
          simp only [SA, rw_58, HT_24, HT_26, HT_28, HT_29, HT_w29, a0, a1, as, if_neg (bi_10 n0), if_neg (bi_10 n1), if_neg (bi_10 ns), if_neg (show ¬ nI 1 = 0 by decide), ia_n (show 0 < 5 by decide) (show 5 < 2 ^ 31 by decide), ia_n (show 1 < 5 by decide) (show 5 < 2 ^ 31 by decide), pk_us, pk_un (show (0 : Nat) ≠ 1 by decide), pk_un (show (1 : Nat) ≠ 0 by decide), is_n (show tkV b z p < 8 by omega) (show 8 < 2 ^ 31 by decide)]
          rw [kn_n (by omega)]
      · have qf : sq b z [(nI 0, nI 7), (nI 0, nI 18)] p = .inl (tkS b z (pkk b z p 2)) := (if_pos n0).trans ((if_pos n1).trans (if_neg ns))
        refine ⟨nI (tkT b z (pkk b z p 2)), nI (tkS b z (pkk b z p 2)), nI (tkE b z (pkk b z p 2)), vs, upd (upd (nb) 0 v0) 1 v1, fun f w => ?_, fun q w => ?_⟩
        · rw [qf] at w
          cases w
          refine ⟨rfl, ?_⟩
          simp only [SA, rw_58, HT_24, HT_28, a0, a1, as, if_neg (bi_10 n0), if_neg (bi_10 n1), if_pos (bi_00 ns), if_pos (show nI 0 = 0 by decide)]
        · rw [qf] at w
          cases w
    · have qf : sq b z [(nI 0, nI 7), (nI 0, nI 18)] p = .inl (tkS b z (pkk b z p 1)) := (if_pos n0).trans (if_neg n1)
      refine ⟨nI (tkT b z (pkk b z p 1)), nI (tkS b z (pkk b z p 1)), nI (tkE b z (pkk b z p 1)), v1, upd (upd (nb) 0 v0) 1 v1, fun f w => ?_, fun q w => ?_⟩
      · rw [qf] at w
        cases w
        refine ⟨rfl, ?_⟩
        simp only [SA, rw_58, HT_24, HT_28, a0, a1, if_neg (bi_10 n0), if_pos (bi_00 n1), if_pos (show nI 0 = 0 by decide)]
      · rw [qf] at w
        cases w
  · have qf : sq b z [(nI 0, nI 7), (nI 0, nI 18)] p = .inl (tkS b z p) := if_neg n0
    refine ⟨nI (tkT b z p), nI (tkS b z p), nI (tkE b z p), v0, upd (nb) 0 v0, fun f w => ?_, fun q w => ?_⟩
    · rw [qf] at w
      cases w
      refine ⟨rfl, ?_⟩
      simp only [SA, rw_58, HT_24, HT_28, a0, if_pos (bi_00 n0), if_pos (show nI 0 = 0 by decide)]
    · rw [qf] at w
      cases w
theorem c_rRoof {h : icH} {tb : Nat → Int32} {b : Nat → Nat} {z p : Nat} (h25 : hg h 25 = some (.inl (1, 150, tb))) (hb : ∀ k, k < z → tb k = nI (b k) ∧ b k < 128) (hz : z ≤ 150) (hp : p ≤ z) {H R N : Nat} {E : Nat → Nat → Int32} (hR : R < 3) (t s v : Int32) (nb : Nat → Int32) : ∃ t' s' e' v' nb', (∀ f, sq b z [(nI 0, nI 5), (nI 0, nI 9), (nI 0, nI 60)] p = .inl f → s' = nI f ∧ icE 59 0 [.ref 24, .ref 28, dum] [] (HT h z t s (nI p) v nb H R N E) = some (some (.int (nI 0)), HT h z t' s' e' v' nb' H R N E)) ∧ (∀ q, sq b z [(nI 0, nI 5), (nI 0, nI 9), (nI 0, nI 60)] p = .inr q → e' = nI q ∧ icE 59 0 [.ref 24, .ref 28, dum] [] (HT h z t s (nI p) v nb H R N E) = some (some (.int (nI 1)), HT h z t' s' e' v' nb' H (R + 1) N (ud (ud (ud E 2 (upd (E 2) R (nI (tkV b z p)))) 3 (upd (E 3) R (nI (tkV b z (pkk b z p 1))))) 4 (upd (E 4) R (nI (tkV b z (pkk b z p 2))))))) := by
  obtain ⟨v0, a0, g0⟩ := c_rnum h25 hb hz (p := p) hp (show 0 < 5 by decide) (nI 0) (nI 5) t s v nb H R N E
  by_cases n0 : nbP b z p (nI 0) (nI 5)
  · have hp1 : pkk b z p 1 ≤ z := (tkE_le hp).2
    obtain ⟨v1, a1, g1⟩ := c_rnum h25 hb hz (p := (pkk b z p 1)) hp1 (show 1 < 5 by decide) (nI 0) (nI 9) (nI (tkT b z p)) (nI (tkS b z p)) v0 (upd (nb) 0 v0) H R N E
    change icE 62 0 _ _ (HT h z _ _ (nI (tkE b z p)) _ _ _ _ _ _) = _ at a1
    by_cases n1 : nbP b z (pkk b z p 1) (nI 0) (nI 9)
    · have hp2 : pkk b z p 2 ≤ z := (tkE_le hp1).2
      obtain ⟨v2, a2, g2⟩ := c_rnum h25 hb hz (p := (pkk b z p 2)) hp2 (show 2 < 5 by decide) (nI 0) (nI 60) (nI (tkT b z (pkk b z p 1))) (nI (tkS b z (pkk b z p 1))) v1 (upd (upd (nb) 0 v0) 1 v1) H R N E
      change icE 62 0 _ _ (HT h z _ _ (nI (tkE b z (pkk b z p 1))) _ _ _ _ _ _) = _ at a2
      by_cases n2 : nbP b z (pkk b z p 2) (nI 0) (nI 60)
      · have hp3 : pkk b z p 3 ≤ z := (tkE_le hp2).2
        obtain ⟨vs, as⟩ := c_rstop h25 hb hz (p := (pkk b z p 3)) hp3 (nI (tkT b z (pkk b z p 2))) (nI (tkS b z (pkk b z p 2))) v2 (upd (upd (upd (nb) 0 v0) 1 v1) 2 v2) H R N E
        change icE 63 0 _ _ (HT h z _ _ (nI (tkE b z (pkk b z p 2))) _ _ _ _ _ _) = _ at as
        by_cases ns : tkT b z (pkk b z p 3) = 3
        · have qs : sq b z [(nI 0, nI 5), (nI 0, nI 9), (nI 0, nI 60)] p = .inr (tkE b z (pkk b z p 3)) := (if_pos n0).trans ((if_pos n1).trans ((if_pos n2).trans (if_pos ns)))
          refine ⟨nI (tkT b z (pkk b z p 3)), nI (tkS b z (pkk b z p 3)), nI (tkE b z (pkk b z p 3)), vs, upd (upd (upd (nb) 0 v0) 1 v1) 2 v2, fun f w => ?_, fun q w => ?_⟩
          · rw [qs] at w
            cases w
          · rw [qs] at w
            cases w
            refine ⟨rfl, ?_⟩
            have u0 := g0 n0.1
            subst u0
            have u1 := g1 n1.1
            subst u1
            have u2 := g2 n2.1
            subst u2
            simp only [SA, rw_59, HT_24, HT_26, HT_28, a0, a1, a2, as, if_neg (bi_10 n0), if_neg (bi_10 n1), if_neg (bi_10 n2), if_neg (bi_10 ns), if_neg (show ¬ nI 1 = 0 by decide), ia_n (show 0 < 5 by decide) (show 5 < 2 ^ 31 by decide), ia_n (show 1 < 5 by decide) (show 5 < 2 ^ 31 by decide), ia_n (show 2 < 5 by decide) (show 5 < 2 ^ 31 by decide), pk_us, pk_un (show (0 : Nat) ≠ 1 by decide), pk_un (show (0 : Nat) ≠ 2 by decide), pk_un (show (1 : Nat) ≠ 0 by decide), pk_un (show (1 : Nat) ≠ 2 by decide), pk_un (show (2 : Nat) ≠ 0 by decide), pk_un (show (2 : Nat) ≠ 1 by decide), HT_roof hR]
        · have qf : sq b z [(nI 0, nI 5), (nI 0, nI 9), (nI 0, nI 60)] p = .inl (tkS b z (pkk b z p 3)) := (if_pos n0).trans ((if_pos n1).trans ((if_pos n2).trans (if_neg ns)))
          refine ⟨nI (tkT b z (pkk b z p 3)), nI (tkS b z (pkk b z p 3)), nI (tkE b z (pkk b z p 3)), vs, upd (upd (upd (nb) 0 v0) 1 v1) 2 v2, fun f w => ?_, fun q w => ?_⟩
          · rw [qf] at w
            cases w
            refine ⟨rfl, ?_⟩
            simp only [SA, rw_59, HT_24, HT_28, a0, a1, a2, as, if_neg (bi_10 n0), if_neg (bi_10 n1), if_neg (bi_10 n2), if_pos (bi_00 ns), if_pos (show nI 0 = 0 by decide)]
          · rw [qf] at w
            cases w
      · have qf : sq b z [(nI 0, nI 5), (nI 0, nI 9), (nI 0, nI 60)] p = .inl (tkS b z (pkk b z p 2)) := (if_pos n0).trans ((if_pos n1).trans (if_neg n2))
        refine ⟨nI (tkT b z (pkk b z p 2)), nI (tkS b z (pkk b z p 2)), nI (tkE b z (pkk b z p 2)), v2, upd (upd (upd (nb) 0 v0) 1 v1) 2 v2, fun f w => ?_, fun q w => ?_⟩
        · rw [qf] at w
          cases w
          refine ⟨rfl, ?_⟩
          simp only [SA, rw_59, HT_24, HT_28, a0, a1, a2, if_neg (bi_10 n0), if_neg (bi_10 n1), if_pos (bi_00 n2), if_pos (show nI 0 = 0 by decide)]
        · rw [qf] at w
          cases w
    · have qf : sq b z [(nI 0, nI 5), (nI 0, nI 9), (nI 0, nI 60)] p = .inl (tkS b z (pkk b z p 1)) := (if_pos n0).trans (if_neg n1)
      refine ⟨nI (tkT b z (pkk b z p 1)), nI (tkS b z (pkk b z p 1)), nI (tkE b z (pkk b z p 1)), v1, upd (upd (nb) 0 v0) 1 v1, fun f w => ?_, fun q w => ?_⟩
      · rw [qf] at w
        cases w
        refine ⟨rfl, ?_⟩
        simp only [SA, rw_59, HT_24, HT_28, a0, a1, if_neg (bi_10 n0), if_pos (bi_00 n1), if_pos (show nI 0 = 0 by decide)]
      · rw [qf] at w
        cases w
  · have qf : sq b z [(nI 0, nI 5), (nI 0, nI 9), (nI 0, nI 60)] p = .inl (tkS b z p) := if_neg n0
    refine ⟨nI (tkT b z p), nI (tkS b z p), nI (tkE b z p), v0, upd (nb) 0 v0, fun f w => ?_, fun q w => ?_⟩
    · rw [qf] at w
      cases w
      refine ⟨rfl, ?_⟩
      simp only [SA, rw_59, HT_24, HT_28, a0, if_pos (bi_00 n0), if_pos (show nI 0 = 0 by decide)]
    · rw [qf] at w
      cases w
theorem c_rIce {h : icH} {tb : Nat → Int32} {b : Nat → Nat} {z p : Nat} (h25 : hg h 25 = some (.inl (1, 150, tb))) (hb : ∀ k, k < z → tb k = nI (b k) ∧ b k < 128) (hz : z ≤ 150) (hp : p ≤ z) {H R N : Nat} {E : Nat → Nat → Int32} (hN : N < 6) (t s v : Int32) (nb : Nat → Int32) : ∃ t' s' e' v' nb', (∀ f, sq b z [(nI 0, nI R - nI 1), (nI 0, nI 5), (nI 0, nI 7), (nI 1, nI 30), (nI 1, nI 40)] p = .inl f → s' = nI f ∧ icE 60 0 [.ref 24, .ref 28, dum] [] (HT h z t s (nI p) v nb H R N E) = some (some (.int (nI 0)), HT h z t' s' e' v' nb' H R N E)) ∧ (∀ q, sq b z [(nI 0, nI R - nI 1), (nI 0, nI 5), (nI 0, nI 7), (nI 1, nI 30), (nI 1, nI 40)] p = .inr q → e' = nI q ∧ icE 60 0 [.ref 24, .ref 28, dum] [] (HT h z t s (nI p) v nb H R N E) = some (some (.int (nI 1)), HT h z t' s' e' v' nb' H R (N + 1) (ud (ud (ud (ud (ud (ud E 6 (upd (E 6) N (nI (tkV b z p)))) 7 (upd (E 7) N (nI (tkV b z (pkk b z p 1))))) 8 (upd (E 8) N (nI (tkV b z (pkk b z p 2))))) 9 (upd (E 9) N (nI (tkV b z (pkk b z p 3))))) 10 (upd (E 10) N (nI (tkV b z (pkk b z p 4))))) 11 (upd (E 11) N (nI 0))))) := by
  obtain ⟨v0, a0, g0⟩ := c_rnum h25 hb hz (p := p) hp (show 0 < 5 by decide) (nI 0) (nI R - nI 1) t s v nb H R N E
  by_cases n0 : nbP b z p (nI 0) (nI R - nI 1)
  · have hp1 : pkk b z p 1 ≤ z := (tkE_le hp).2
    obtain ⟨v1, a1, g1⟩ := c_rnum h25 hb hz (p := (pkk b z p 1)) hp1 (show 1 < 5 by decide) (nI 0) (nI 5) (nI (tkT b z p)) (nI (tkS b z p)) v0 (upd (nb) 0 v0) H R N E
    change icE 62 0 _ _ (HT h z _ _ (nI (tkE b z p)) _ _ _ _ _ _) = _ at a1
    by_cases n1 : nbP b z (pkk b z p 1) (nI 0) (nI 5)
    · have hp2 : pkk b z p 2 ≤ z := (tkE_le hp1).2
      obtain ⟨v2, a2, g2⟩ := c_rnum h25 hb hz (p := (pkk b z p 2)) hp2 (show 2 < 5 by decide) (nI 0) (nI 7) (nI (tkT b z (pkk b z p 1))) (nI (tkS b z (pkk b z p 1))) v1 (upd (upd (nb) 0 v0) 1 v1) H R N E
      change icE 62 0 _ _ (HT h z _ _ (nI (tkE b z (pkk b z p 1))) _ _ _ _ _ _) = _ at a2
      by_cases n2 : nbP b z (pkk b z p 2) (nI 0) (nI 7)
      · have hp3 : pkk b z p 3 ≤ z := (tkE_le hp2).2
        obtain ⟨v3, a3, g3⟩ := c_rnum h25 hb hz (p := (pkk b z p 3)) hp3 (show 3 < 5 by decide) (nI 1) (nI 30) (nI (tkT b z (pkk b z p 2))) (nI (tkS b z (pkk b z p 2))) v2 (upd (upd (upd (nb) 0 v0) 1 v1) 2 v2) H R N E
        change icE 62 0 _ _ (HT h z _ _ (nI (tkE b z (pkk b z p 2))) _ _ _ _ _ _) = _ at a3
        by_cases n3 : nbP b z (pkk b z p 3) (nI 1) (nI 30)
        · have hp4 : pkk b z p 4 ≤ z := (tkE_le hp3).2
          obtain ⟨v4, a4, g4⟩ := c_rnum h25 hb hz (p := (pkk b z p 4)) hp4 (show 4 < 5 by decide) (nI 1) (nI 40) (nI (tkT b z (pkk b z p 3))) (nI (tkS b z (pkk b z p 3))) v3 (upd (upd (upd (upd (nb) 0 v0) 1 v1) 2 v2) 3 v3) H R N E
          change icE 62 0 _ _ (HT h z _ _ (nI (tkE b z (pkk b z p 3))) _ _ _ _ _ _) = _ at a4
          by_cases n4 : nbP b z (pkk b z p 4) (nI 1) (nI 40)
          · have hp5 : pkk b z p 5 ≤ z := (tkE_le hp4).2
            obtain ⟨vs, as⟩ := c_rstop h25 hb hz (p := (pkk b z p 5)) hp5 (nI (tkT b z (pkk b z p 4))) (nI (tkS b z (pkk b z p 4))) v4 (upd (upd (upd (upd (upd (nb) 0 v0) 1 v1) 2 v2) 3 v3) 4 v4) H R N E
            change icE 63 0 _ _ (HT h z _ _ (nI (tkE b z (pkk b z p 4))) _ _ _ _ _ _) = _ at as
            by_cases ns : tkT b z (pkk b z p 5) = 3
            · have qs : sq b z [(nI 0, nI R - nI 1), (nI 0, nI 5), (nI 0, nI 7), (nI 1, nI 30), (nI 1, nI 40)] p = .inr (tkE b z (pkk b z p 5)) := (if_pos n0).trans ((if_pos n1).trans ((if_pos n2).trans ((if_pos n3).trans ((if_pos n4).trans (if_pos ns)))))
              refine ⟨nI (tkT b z (pkk b z p 5)), nI (tkS b z (pkk b z p 5)), nI (tkE b z (pkk b z p 5)), vs, upd (upd (upd (upd (upd (nb) 0 v0) 1 v1) 2 v2) 3 v3) 4 v4, fun f w => ?_, fun q w => ?_⟩
              · rw [qs] at w
                cases w
              · rw [qs] at w
                cases w
                refine ⟨rfl, ?_⟩
                have u0 := g0 n0.1
                subst u0
                have u1 := g1 n1.1
                subst u1
                have u2 := g2 n2.1
                subst u2
                have u3 := g3 n3.1
                subst u3
                have u4 := g4 n4.1
                subst u4
                simp only [SA, rw_60, HT_24, HT_26, HT_28, a0, a1, a2, a3, a4, as, if_neg (bi_10 n0), if_neg (bi_10 n1), if_neg (bi_10 n2), if_neg (bi_10 n3), if_neg (bi_10 n4), if_neg (bi_10 ns), if_neg (show ¬ nI 1 = 0 by decide), ia_n (show 0 < 5 by decide) (show 5 < 2 ^ 31 by decide), ia_n (show 1 < 5 by decide) (show 5 < 2 ^ 31 by decide), ia_n (show 2 < 5 by decide) (show 5 < 2 ^ 31 by decide), ia_n (show 3 < 5 by decide) (show 5 < 2 ^ 31 by decide), ia_n (show 4 < 5 by decide) (show 5 < 2 ^ 31 by decide), pk_us, pk_un (show (0 : Nat) ≠ 1 by decide), pk_un (show (0 : Nat) ≠ 2 by decide), pk_un (show (0 : Nat) ≠ 3 by decide), pk_un (show (0 : Nat) ≠ 4 by decide), pk_un (show (1 : Nat) ≠ 0 by decide), pk_un (show (1 : Nat) ≠ 2 by decide), pk_un (show (1 : Nat) ≠ 3 by decide), pk_un (show (1 : Nat) ≠ 4 by decide), pk_un (show (2 : Nat) ≠ 0 by decide), pk_un (show (2 : Nat) ≠ 1 by decide), pk_un (show (2 : Nat) ≠ 3 by decide), pk_un (show (2 : Nat) ≠ 4 by decide), pk_un (show (3 : Nat) ≠ 0 by decide), pk_un (show (3 : Nat) ≠ 1 by decide), pk_un (show (3 : Nat) ≠ 2 by decide), pk_un (show (3 : Nat) ≠ 4 by decide), pk_un (show (4 : Nat) ≠ 0 by decide), pk_un (show (4 : Nat) ≠ 1 by decide), pk_un (show (4 : Nat) ≠ 2 by decide), pk_un (show (4 : Nat) ≠ 3 by decide), HT_ice hN]
            · have qf : sq b z [(nI 0, nI R - nI 1), (nI 0, nI 5), (nI 0, nI 7), (nI 1, nI 30), (nI 1, nI 40)] p = .inl (tkS b z (pkk b z p 5)) := (if_pos n0).trans ((if_pos n1).trans ((if_pos n2).trans ((if_pos n3).trans ((if_pos n4).trans (if_neg ns)))))
              refine ⟨nI (tkT b z (pkk b z p 5)), nI (tkS b z (pkk b z p 5)), nI (tkE b z (pkk b z p 5)), vs, upd (upd (upd (upd (upd (nb) 0 v0) 1 v1) 2 v2) 3 v3) 4 v4, fun f w => ?_, fun q w => ?_⟩
              · rw [qf] at w
                cases w
                refine ⟨rfl, ?_⟩
                simp only [SA, rw_60, HT_24, HT_28, a0, a1, a2, a3, a4, as, if_neg (bi_10 n0), if_neg (bi_10 n1), if_neg (bi_10 n2), if_neg (bi_10 n3), if_neg (bi_10 n4), if_pos (bi_00 ns), if_pos (show nI 0 = 0 by decide)]
              · rw [qf] at w
                cases w
          · have qf : sq b z [(nI 0, nI R - nI 1), (nI 0, nI 5), (nI 0, nI 7), (nI 1, nI 30), (nI 1, nI 40)] p = .inl (tkS b z (pkk b z p 4)) := (if_pos n0).trans ((if_pos n1).trans ((if_pos n2).trans ((if_pos n3).trans (if_neg n4))))
            refine ⟨nI (tkT b z (pkk b z p 4)), nI (tkS b z (pkk b z p 4)), nI (tkE b z (pkk b z p 4)), v4, upd (upd (upd (upd (upd (nb) 0 v0) 1 v1) 2 v2) 3 v3) 4 v4, fun f w => ?_, fun q w => ?_⟩
            · rw [qf] at w
              cases w
              refine ⟨rfl, ?_⟩
              simp only [SA, rw_60, HT_24, HT_28, a0, a1, a2, a3, a4, if_neg (bi_10 n0), if_neg (bi_10 n1), if_neg (bi_10 n2), if_neg (bi_10 n3), if_pos (bi_00 n4), if_pos (show nI 0 = 0 by decide)]
            · rw [qf] at w
              cases w
        · have qf : sq b z [(nI 0, nI R - nI 1), (nI 0, nI 5), (nI 0, nI 7), (nI 1, nI 30), (nI 1, nI 40)] p = .inl (tkS b z (pkk b z p 3)) := (if_pos n0).trans ((if_pos n1).trans ((if_pos n2).trans (if_neg n3)))
          refine ⟨nI (tkT b z (pkk b z p 3)), nI (tkS b z (pkk b z p 3)), nI (tkE b z (pkk b z p 3)), v3, upd (upd (upd (upd (nb) 0 v0) 1 v1) 2 v2) 3 v3, fun f w => ?_, fun q w => ?_⟩
          · rw [qf] at w
            cases w
            refine ⟨rfl, ?_⟩
            simp only [SA, rw_60, HT_24, HT_28, a0, a1, a2, a3, if_neg (bi_10 n0), if_neg (bi_10 n1), if_neg (bi_10 n2), if_pos (bi_00 n3), if_pos (show nI 0 = 0 by decide)]
          · rw [qf] at w
            cases w
      · have qf : sq b z [(nI 0, nI R - nI 1), (nI 0, nI 5), (nI 0, nI 7), (nI 1, nI 30), (nI 1, nI 40)] p = .inl (tkS b z (pkk b z p 2)) := (if_pos n0).trans ((if_pos n1).trans (if_neg n2))
        refine ⟨nI (tkT b z (pkk b z p 2)), nI (tkS b z (pkk b z p 2)), nI (tkE b z (pkk b z p 2)), v2, upd (upd (upd (nb) 0 v0) 1 v1) 2 v2, fun f w => ?_, fun q w => ?_⟩
        · rw [qf] at w
          cases w
          refine ⟨rfl, ?_⟩
          simp only [SA, rw_60, HT_24, HT_28, a0, a1, a2, if_neg (bi_10 n0), if_neg (bi_10 n1), if_pos (bi_00 n2), if_pos (show nI 0 = 0 by decide)]
        · rw [qf] at w
          cases w
    · have qf : sq b z [(nI 0, nI R - nI 1), (nI 0, nI 5), (nI 0, nI 7), (nI 1, nI 30), (nI 1, nI 40)] p = .inl (tkS b z (pkk b z p 1)) := (if_pos n0).trans (if_neg n1)
      refine ⟨nI (tkT b z (pkk b z p 1)), nI (tkS b z (pkk b z p 1)), nI (tkE b z (pkk b z p 1)), v1, upd (upd (nb) 0 v0) 1 v1, fun f w => ?_, fun q w => ?_⟩
      · rw [qf] at w
        cases w
        refine ⟨rfl, ?_⟩
        simp only [SA, rw_60, HT_24, HT_28, a0, a1, if_neg (bi_10 n0), if_pos (bi_00 n1), if_pos (show nI 0 = 0 by decide)]
      · rw [qf] at w
        cases w
  · have qf : sq b z [(nI 0, nI R - nI 1), (nI 0, nI 5), (nI 0, nI 7), (nI 1, nI 30), (nI 1, nI 40)] p = .inl (tkS b z p) := if_neg n0
    refine ⟨nI (tkT b z p), nI (tkS b z p), nI (tkE b z p), v0, upd (nb) 0 v0, fun f w => ?_, fun q w => ?_⟩
    · rw [qf] at w
      cases w
      refine ⟨rfl, ?_⟩
      simp only [SA, rw_60, HT_24, HT_28, a0, if_pos (bi_00 n0), if_pos (show nI 0 = 0 by decide)]
    · rw [qf] at w
      cases w
theorem c_rHours {h : icH} {tb : Nat → Int32} {b : Nat → Nat} {z p : Nat} (h25 : hg h 25 = some (.inl (1, 150, tb))) (hb : ∀ k, k < z → tb k = nI (b k) ∧ b k < 128) (hz : z ≤ 150) (hp : p ≤ z) {H R N : Nat} {E : Nat → Nat → Int32} (hD : EOK R N E) (hW : WOK E) (hH : H ≤ 9999) (t s v : Int32) (nb : Nat → Int32) : ∃ t' s' e' v' nb', (∀ f, sq b z [(nI 1, nI 99)] p = .inl f → s' = nI f ∧ icE 61 0 [.ref 24, .ref 28, dum] [] (HT h z t s (nI p) v nb H R N E) = some (some (.int (nI 0)), HT h z t' s' e' v' nb' H R N E)) ∧ (∀ q, sq b z [(nI 1, nI 99)] p = .inr q → e' = nI q ∧ icE 61 0 [.ref 24, .ref 28, dum] [] (HT h z t s (nI p) v nb H R N E) = some (some (.int (nI 1)), HT h z t' s' e' v' nb' (H + min (kn (nI (tkV b z p))) (9999 - H)) R N (hsn R N (min (kn (nI (tkV b z p))) (9999 - H)) H E))) := by
  obtain ⟨v0, a0, g0⟩ := c_rnum h25 hb hz (p := p) hp (show 0 < 5 by decide) (nI 1) (nI 99) t s v nb H R N E
  by_cases n0 : nbP b z p (nI 1) (nI 99)
  · have hp1 : pkk b z p 1 ≤ z := (tkE_le hp).2
    obtain ⟨vs, as⟩ := c_rstop h25 hb hz (p := (pkk b z p 1)) hp1 (nI (tkT b z p)) (nI (tkS b z p)) v0 (upd (nb) 0 v0) H R N E
    change icE 63 0 _ _ (HT h z _ _ (nI (tkE b z p)) _ _ _ _ _ _) = _ at as
    by_cases ns : tkT b z (pkk b z p 1) = 3
    · have qs : sq b z [(nI 1, nI 99)] p = .inr (tkE b z (pkk b z p 1)) := (if_pos n0).trans (if_pos ns)
      refine ⟨nI (tkT b z (pkk b z p 1)), nI (tkS b z (pkk b z p 1)), nI (tkE b z (pkk b z p 1)), vs, upd (nb) 0 v0, fun f w => ?_, fun q w => ?_⟩
      · rw [qs] at w
        cases w
      · rw [qs] at w
        cases w
        refine ⟨rfl, ?_⟩
        have u0 := g0 n0.1
        subst u0
        have k8 := nb_hi (fun k hk => (hb k hk).2) (by decide) (by decide) n0
        simp only [SA, rw_61, HT_24, HT_26, HT_28, a0, as, if_neg (bi_10 n0), if_neg (bi_10 ns), if_neg (show ¬ nI 1 = 0 by decide), ia_n (show 0 < 5 by decide) (show 5 < 2 ^ 31 by decide), pk_us, HT_hours (show tkV b z p < 2 ^ 31 by omega) hD hW hH]
        rw [kn_n (by omega)]
    · have qf : sq b z [(nI 1, nI 99)] p = .inl (tkS b z (pkk b z p 1)) := (if_pos n0).trans (if_neg ns)
      refine ⟨nI (tkT b z (pkk b z p 1)), nI (tkS b z (pkk b z p 1)), nI (tkE b z (pkk b z p 1)), vs, upd (nb) 0 v0, fun f w => ?_, fun q w => ?_⟩
      · rw [qf] at w
        cases w
        refine ⟨rfl, ?_⟩
        simp only [SA, rw_61, HT_24, HT_28, a0, as, if_neg (bi_10 n0), if_pos (bi_00 ns), if_pos (show nI 0 = 0 by decide)]
      · rw [qf] at w
        cases w
  · have qf : sq b z [(nI 1, nI 99)] p = .inl (tkS b z p) := if_neg n0
    refine ⟨nI (tkT b z p), nI (tkS b z p), nI (tkE b z p), v0, upd (nb) 0 v0, fun f w => ?_, fun q w => ?_⟩
    · rw [qf] at w
      cases w
      refine ⟨rfl, ?_⟩
      simp only [SA, rw_61, HT_24, HT_28, a0, if_pos (bi_00 n0), if_pos (show nI 0 = 0 by decide)]
    · rw [qf] at w
      cases w
