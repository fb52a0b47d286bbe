/-! ===== the class: most ===== -/
abbrev dg (n row t : Nat) : Nat := row / 7 ^ (n - 1 - t) % 7
def xs (R N H : Nat) (D : Nat → Nat → Int32) (n row t : Nat) : Int32 := if dg n row t = 6 then nI 0 else lz R N H D t (dg n row t)
def Sm (R N H : Nat) (D : Nat → Nat → Int32) (n row : Nat) : Nat → Int32
  | 0 => nI 0
  | t + 1 => Sm R N H D n row t + xs R N H D n row t
/-- from a on, before b: each that is knocked hangs, none twice -/
def VL (R N H : Nat) (D : Nat → Nat → Int32) (n row a b : Nat) : Prop := ∀ u, a ≤ u → u < b → dg n row u ≠ 6 → lz R N H D u (dg n row u) ≠ -1 ∧ ∀ v, a ≤ v → v < b → v ≠ u → dg n row v ≠ dg n row u
noncomputable def kv (R N H : Nat) (D : Nat → Nat → Int32) (n row : Nat) : Int32 := by
  classical
  exact if VL R N H D n row 0 n then Sm R N H D n row n else -1
theorem kv_t {R N H : Nat} {D : Nat → Nat → Int32} {n row : Nat} (h : VL R N H D n row 0 n) : kv R N H D n row = Sm R N H D n row n := by unfold kv; exact if_pos h
theorem kv_f {R N H : Nat} {D : Nat → Nat → Int32} {n row : Nat} (h : ¬ VL R N H D n row 0 n) : kv R N H D n row = -1 := by unfold kv; exact if_neg h
theorem kb1 : ∀ U, U < 64 → ∀ c, c < 6 → (nI U >>> (nI c &&& 31)) &&& nI 1 = nI (U / 2 ^ c % 2) := by decide +kernel
theorem kb2 : ∀ U, U < 64 → ∀ c, c < 6 → U / 2 ^ c % 2 = 0 → nI U ||| (nI 1 <<< (nI c &&& 31)) = nI (U + 2 ^ c) ∧ U + 2 ^ c < 64 := by decide +kernel
theorem kb3a : ∀ U, U < 64 → ∀ c, c < 6 → ∀ c', c' < 6 → U / 2 ^ c % 2 = 0 → (U + 2 ^ c) / 2 ^ c' % 2 = (if c' = c then 1 else U / 2 ^ c' % 2) := by decide +kernel
theorem kb3 (U : Nat) (hU : U < 64) (c : Nat) (hc : c < 6) (c' : Nat) (hc' : c' < 6) (h : U / 2 ^ c % 2 = 0) : ((U + 2 ^ c) / 2 ^ c' % 2 = 1 ↔ (c' = c ∨ U / 2 ^ c' % 2 = 1)) := by
  rw [kb3a U hU c hc c' hc' h]
  by_cases e : c' = c
  · rw [if_pos e]; exact ⟨fun _ => Or.inl e, fun _ => rfl⟩
  · rw [if_neg e]; exact ⟨fun z => Or.inr z, fun z => z.elim (fun y => absurd y e) (fun y => y)⟩
theorem p7_s {n t : Nat} (h : t + 1 ≤ n) : 7 ^ (n - (t + 1)) * 7 = 7 ^ (n - t) := by
  rw [show n - t = (n - (t + 1)) + 1 by omega, Nat.pow_succ]
theorem bv_m (t : Nat) : bv (t + 1) + (-1) = bv t := by
  have e : bv (t + 1) = nI t := by unfold bv; rw [if_neg (by omega), Nat.add_sub_cancel]
  rw [e]
  cases t with
  | zero => rfl
  | succ t => rw [pk_m1]; unfold bv; rw [if_neg (by omega), Nat.add_sub_cancel]
theorem l_ks {h : icH} {ab be : Int64} (h0 : hg h 0 = some (xo ab be)) {R N H n row : Nat} {D0 : Nat → Nat → Int32} {le : Nat → Int32} (hn : n ≤ 4) (hrow : row < 2 ^ 31) (hl : ∀ c, c < n * 6 → le c = lzc R N H D0 c) (fa : Nat → Int32) (Ht Rt Nt : Nat) (E : Nat → Nat → Int32) (Hl Rl Nl : Nat) (D : Nat → Nat → Int32) (F : Nat → Nat) (f : Nat → Nat → Int32) (rr nn : Int32) : ∀ (t U : Nat) (σ : Int32) (y z : Value), t ≤ n → U < 64 → (∀ c, c < 6 → (U / 2 ^ c % 2 = 1 ↔ ∃ u, t ≤ u ∧ u < n ∧ dg n row u = c)) → VL R N H D0 n row t n → σ + Sm R N H D0 n row t = Sm R N H D0 n row n → icE 128 13 [.ref 0, .int rr, .int nn, .int (nI (row / 7 ^ (n - t))), .int (nI U), .int σ, .int (bv t), y, z] [] (HX (hput h 41 (ai 24 le)) fa Ht Rt Nt E Hl Rl Nl D F f) = some (some (.int (kv R N H D0 n row)), HX (hput h 41 (ai 24 le)) fa Ht Rt Nt E Hl Rl Nl D F f)
  | 0, U, σ, y, z, ht, hU, hb, hv, hs => by
    have e : kv R N H D0 n row = σ := by
      rw [kv_t hv, ← hs]
      show σ + nI 0 = σ
      rw [nI_0]
      exact Int32.add_zero σ
    rw [e, rh_128_13]
    simp only [SA, rw_128, if_pos (show bv 0 < 0 by decide)]
  | t + 1, U, σ, y, z, ht, hU, hb, hv, hs => by
    have hbt : bv (t + 1) = nI t := by unfold bv; rw [if_neg (by omega), Nat.add_sub_cancel]
    have hd : row / 7 ^ (n - (t + 1)) % 7 = dg n row t := by unfold dg; rw [show n - (t + 1) = n - 1 - t by omega]
    have hle : row / 7 ^ (n - (t + 1)) < 2 ^ 31 := Nat.lt_of_le_of_lt (Nat.div_le_self _ _) hrow
    have hq : row / 7 ^ (n - (t + 1)) / 7 = row / 7 ^ (n - t) := by
      rw [Nat.div_div_eq_div_mul, p7_s ht]
    have hrem : nI (row / 7 ^ (n - (t + 1))) - nI (row / 7 ^ (n - t)) * nI 7 = nI (dg n row t) := by
      rw [← hd, ← hq, ← pk_div hle (show 0 < 7 by decide) (show 7 < 2 ^ 31 by decide), pk_rem hle (show 0 < 7 by decide) (show 7 < 2 ^ 31 by decide)]
    have b7 : ¬ nI 7 = 0 := by decide
    have hbm := bv_m t
    rw [hbt] at hbm
    have hd7 : dg n row t < 7 := Nat.mod_lt _ (by decide)
    have es : Sm R N H D0 n row (t + 1) = Sm R N H D0 n row t + xs R N H D0 n row t := rfl
    rw [rh_128_13, hbt]
    by_cases c6 : dg n row t = 6
    · have ex : xs R N H D0 n row t = nI 0 := if_pos c6
      have c6' : nI (dg n row t) = nI 6 := by rw [c6]
      have ih := l_ks h0 hn hrow hl fa Ht Rt Nt E Hl Rl Nl D F f rr nn t U σ (.int (nI (dg n row t))) z (by omega) hU (by
        intro c hc
        rw [hb c hc]
        constructor
        · rintro ⟨u, h1, h2, h3⟩; exact ⟨u, by omega, h2, h3⟩
        · rintro ⟨u, h1, h2, h3⟩
          by_cases q : u = t
          · subst q; rw [c6] at h3; omega
          · exact ⟨u, by omega, h2, h3⟩) (by
        intro u h1 h2 h3
        by_cases q : u = t
        · subst q; exact absurd c6 h3
        · have := hv u (by omega) h2 h3
          refine ⟨this.1, fun v k1 k2 k3 => ?_⟩
          by_cases w : v = t
          · subst w; rw [c6]; exact fun x => h3 x.symm
          · exact this.2 v (by omega) k2 k3) (by
        rw [← hs, es, ex, nI_0, Int32.add_zero])
      simp only [SA, rw_128, if_neg (nI_pos (show t < 2 ^ 31 by omega)), if_neg b7, pk_div hle (show 0 < 7 by decide) (show 7 < 2 ^ 31 by decide), hq, hrem, if_pos c6', hbm]
      exact ih
    · have hc : dg n row t < 6 := by omega
      have c6' : ¬ nI (dg n row t) = nI 6 := fun z => c6 ((nI_eq (by omega) (by decide)).mp z)
      have cl := c_lenB h0 hn hl (show t < n by omega) hc fa Ht Rt Nt E Hl Rl Nl D F f
      have ex : xs R N H D0 n row t = lz R N H D0 t (dg n row t) := if_neg c6
      by_cases c1 : lz R N H D0 t (dg n row t) = -1
      · rw [kv_f (fun v => (v t (Nat.zero_le t) (by omega) c6).1 c1)]
        simp only [SA, rw_128, HLz h0, if_neg (nI_pos (show t < 2 ^ 31 by omega)), if_neg b7, pk_div hle (show 0 < 7 by decide) (show 7 < 2 ^ 31 by decide), hq, hrem, if_neg c6', cl, if_pos c1]
      · by_cases c2 : U / 2 ^ (dg n row t) % 2 = 1
        · have hnv : ¬ VL R N H D0 n row 0 n := by
            intro v
            obtain ⟨u, h1, h2, h3⟩ := (hb _ hc).mp c2
            exact (v t (Nat.zero_le t) (by omega) c6).2 u (Nat.zero_le u) h2 (by omega) h3
          rw [kv_f hnv]
          have c2' : ¬ nI (U / 2 ^ (dg n row t) % 2) = 0 := by rw [c2]; decide
          simp only [SA, rw_128, HLz h0, if_neg (nI_pos (show t < 2 ^ 31 by omega)), if_neg b7, pk_div hle (show 0 < 7 by decide) (show 7 < 2 ^ 31 by decide), hq, hrem, if_neg c6', cl, if_neg c1, kb1 U hU _ hc, if_neg c2']
        · have c2z : U / 2 ^ (dg n row t) % 2 = 0 := by omega
          have c2' : nI (U / 2 ^ (dg n row t) % 2) = 0 := by rw [c2z]; rfl
          have k2 := kb2 U hU _ hc c2z
          have ih := l_ks h0 hn hrow hl fa Ht Rt Nt E Hl Rl Nl D F f rr nn t (U + 2 ^ dg n row t) (σ + lz R N H D0 t (dg n row t)) (.int (nI (dg n row t))) (.int (lz R N H D0 t (dg n row t))) (by omega) k2.2 (by
            intro c hc'
            rw [kb3 U hU _ hc c hc' c2z, hb c hc']
            constructor
            · rintro (e | ⟨u, h1, h2, h3⟩)
              · exact ⟨t, Nat.le_refl t, by omega, e.symm⟩
              · exact ⟨u, by omega, h2, h3⟩
            · rintro ⟨u, h1, h2, h3⟩
              by_cases q : u = t
              · subst q; exact Or.inl h3.symm
              · exact Or.inr ⟨u, by omega, h2, h3⟩) (by
            have nd : ∀ v, t < v → v < n → dg n row v ≠ dg n row t := fun v k1 k3 e => c2 ((hb _ hc).mpr ⟨v, k1, k3, e⟩)
            intro u h1 h2 h3
            by_cases q : u = t
            · subst q; exact ⟨c1, fun v k1 k3 k4 => nd v (by omega) k3⟩
            · have := hv u (by omega) h2 h3
              refine ⟨this.1, fun v k1 k3 k4 => ?_⟩
              by_cases w : v = t
              · subst w; exact fun x => nd u (by omega) h2 x.symm
              · exact this.2 v (by omega) k3 k4) (by
            rw [← hs, es, ex, Int32.add_assoc, Int32.add_comm (lz R N H D0 t (dg n row t))])
          simp only [SA, rw_128, HLz h0, if_neg (nI_pos (show t < 2 ^ 31 by omega)), if_neg b7, pk_div hle (show 0 < 7 by decide) (show 7 < 2 ^ 31 by decide), hq, hrem, if_neg c6', cl, if_neg c1, kb1 U hU _ hc, if_pos c2', k2.1, hbm]
          exact ih
theorem c_ks {h : icH} {ab be : Int64} (h0 : hg h 0 = some (xo ab be)) {R N H n row : Nat} {D0 : Nat → Nat → Int32} {le : Nat → Int32} (hn0 : 1 ≤ n) (hn : n ≤ 4) (hrow : row < 2 ^ 31) (hl : ∀ c, c < n * 6 → le c = lzc R N H D0 c) (fa : Nat → Int32) (Ht Rt Nt : Nat) (E : Nat → Nat → Int32) (Hl Rl Nl : Nat) (D : Nat → Nat → Int32) (F : Nat → Nat) (f : Nat → Nat → Int32) : icE 128 0 [.ref 0, .int (nI row), .int (nI n), dum, dum, dum, dum, dum, dum] [] (HX (hput h 41 (ai 24 le)) fa Ht Rt Nt E Hl Rl Nl D F f) = some (some (.int (kv R N H D0 n row)), HX (hput h 41 (ai 24 le)) fa Ht Rt Nt E Hl Rl Nl D F f) := by
  have z := l_ks h0 hn hrow hl fa Ht Rt Nt E Hl Rl Nl D F f (nI row) (nI n) n 0 (nI 0) dum dum (Nat.le_refl n) (by decide) (by
    intro c hc
    rw [Nat.zero_div]
    exact ⟨fun z => (by omega), fun ⟨u, h1, h2, _⟩ => (by omega)⟩) (fun u h1 h2 _ => absurd h1 (by omega)) (by rw [nI_0]; exact Int32.zero_add _)
  rw [Nat.sub_self, Nat.pow_zero, Nat.div_one] at z
  have e : bv n = nI (n - 1) := by unfold bv; rw [if_neg (by omega)]
  rw [e] at z
  simp only [SA, rw_128, nI_sb hn0]
  exact z
theorem l_choice {n row k : Nat} (hrow : row < 2 ^ 31) (hk : k < n) (hn : n ≤ 4) (h : icH) : ∀ (m t : Nat), t = k + m → t < n → icE 129 7 [.int (nI row), .int (nI n), .int (nI k), .int (nI (row / 7 ^ (n - 1 - t))), .int (nI t)] [] h = some (some (.int (nI (dg n row k))), h)
  | 0, t, e, ht => by
    have : t = k := by omega
    subst this
    have hle : row / 7 ^ (n - 1 - t) < 2 ^ 31 := Nat.lt_of_le_of_lt (Nat.div_le_self _ _) hrow
    rw [rh_129_7]
    simp only [SA, rw_129, if_pos (nI_le (Nat.le_refl t) (show t < 2 ^ 31 by omega)), if_neg (show ¬ nI 7 = 0 by decide), pk_rem hle (show 0 < 7 by decide) (show 7 < 2 ^ 31 by decide)]
  | m + 1, t, e, ht => by
    have hle : row / 7 ^ (n - 1 - t) < 2 ^ 31 := Nat.lt_of_le_of_lt (Nat.div_le_self _ _) hrow
    obtain ⟨t', rfl⟩ : ∃ t', t = t' + 1 := ⟨t - 1, by omega⟩
    have ih := l_choice hrow hk hn h m t' (by omega) (by omega)
    have hq : row / 7 ^ (n - 1 - (t' + 1)) / 7 = row / 7 ^ (n - 1 - t') := by
      rw [Nat.div_div_eq_div_mul, p7_s (show t' + 1 ≤ n - 1 by omega)]
    rw [rh_129_7]
    simp only [SA, rw_129, if_neg (nI_ge (show k < t' + 1 by omega) (show t' + 1 < 2 ^ 31 by omega)), if_neg (show ¬ nI 7 = 0 by decide), pk_div hle (show 0 < 7 by decide) (show 7 < 2 ^ 31 by decide), hq, pk_m1]
    exact ih
theorem c_choice {n row k : Nat} (hrow : row < 2 ^ 31) (hk : k < n) (hn : n ≤ 4) (h : icH) : icE 129 0 [.int (nI row), .int (nI n), .int (nI k), dum, dum] [] h = some (some (.int (nI (dg n row k))), h) := by
  have z := l_choice hrow hk hn h (n - 1 - k) (n - 1) (by omega) (by omega)
  rw [Nat.sub_self, Nat.pow_zero, Nat.div_one] at z
  simp only [SA, rw_129, nI_sb (show 1 ≤ n by omega)]
  exact z
def mb (v : Nat → Int32) : Nat → Nat × Int32
  | 0 => (0, -1)
  | r + 1 => if (mb v r).2 < v r then (r, v r) else mb v r
theorem mb_le (v : Nat → Int32) : ∀ r, (mb v r).1 ≤ r
  | 0 => Nat.le_refl 0
  | r + 1 => by
    have := mb_le v r
    unfold mb
    split
    · exact Nat.le_succ r
    · omega
theorem l_rows7 {n : Nat} (hn : n ≤ 4) (kk : Int32) (h : icH) (x0 : Nat) (y5 y6 y7 : Value) : ∀ (m t : Nat), t + m = n → icE 93 40 [.ref x0, .int (nI n), .int kk, .int (nI (7 ^ t)), .int (nI t), y5, y6, y7] [] h = icE 93 66 [.ref x0, .int (nI n), .int kk, .int (nI (7 ^ n)), .int (nI 0), .int (-1), .int (nI 0), y7] [] h
  | 0, t, e => by
    have : t = n := by omega
    subst this
    rw [rh_93_40]
    simp only [SA, rw_93, if_pos (nI_le (Nat.le_refl t) (show t < 2 ^ 31 by omega))]
  | m + 1, t, e => by
    have ih := l_rows7 hn kk h x0 y5 y6 y7 m (t + 1) (by omega)
    refine Eq.trans ?_ ih
    rw [rh_93_40]
    simp only [SA, rw_93, if_neg (nI_ge (show t < n by omega) (show n < 2 ^ 31 by omega)), pk_mul, nI_add, ← Nat.pow_succ]
theorem p7_le {n : Nat} (hn : n ≤ 4) : 7 ^ n ≤ 2401 := Nat.pow_le_pow_right (by decide) hn
theorem l_most {h : icH} {ab be : Int64} (h0 : hg h 0 = some (xo ab be)) {R N H n : Nat} {D0 : Nat → Nat → Int32} {le : Nat → Int32} (hn0 : 1 ≤ n) (hn : n ≤ 4) (hl : ∀ c, c < n * 6 → le c = lzc R N H D0 c) (kk : Int32) (fa : Nat → Int32) (Ht Rt Nt : Nat) (E : Nat → Nat → Int32) (Hl Rl Nl : Nat) (D : Nat → Nat → Int32) (F : Nat → Nat) (f : Nat → Nat → Int32) : ∀ (m r : Nat) (y : Value), r + m = 7 ^ n → ∃ y', icE 93 66 [.ref 0, .int (nI n), .int kk, .int (nI (7 ^ n)), .int (nI (mb (kv R N H D0 n) r).1), .int (mb (kv R N H D0 n) r).2, .int (nI r), y] [] (HX (hput h 41 (ai 24 le)) fa Ht Rt Nt E Hl Rl Nl D F f) = icE 93 102 [.ref 0, .int (nI n), .int kk, .int (nI (7 ^ n)), .int (nI (mb (kv R N H D0 n) (7 ^ n)).1), .int (mb (kv R N H D0 n) (7 ^ n)).2, .int (nI (7 ^ n)), y'] [] (HX (hput h 41 (ai 24 le)) fa Ht Rt Nt E Hl Rl Nl D F f)
  | 0, r, y, e => by
    have p7 := p7_le hn
    have : r = 7 ^ n := by omega
    subst this
    refine ⟨y, ?_⟩
    rw [rh_93_66]
    simp only [SA, rw_93, if_pos (nI_le (Nat.le_refl (7 ^ n)) (show 7 ^ n < 2 ^ 31 by omega))]
  | m + 1, r, y, e => by
    have p7 := p7_le hn
    have ck := c_ks h0 hn0 hn (show r < 2 ^ 31 by omega) hl fa Ht Rt Nt E Hl Rl Nl D F f
    obtain ⟨y', ih⟩ := l_most h0 hn0 hn hl kk fa Ht Rt Nt E Hl Rl Nl D F f m (r + 1) (.int (kv R N H D0 n r)) (by omega)
    refine ⟨y', Eq.trans ?_ ih⟩
    rw [rh_93_66]
    by_cases c : (mb (kv R N H D0 n) r).2 < kv R N H D0 n r
    · have e1 : mb (kv R N H D0 n) (r + 1) = (r, kv R N H D0 n r) := if_pos c
      rw [e1]
      simp only [SA, rw_93, if_neg (nI_ge (show r < 7 ^ n by omega) (show 7 ^ n < 2 ^ 31 by omega)), HLz h0, ck, if_neg (i32_le_lt.mpr c), nI_add]
    · have e1 : mb (kv R N H D0 n) (r + 1) = mb (kv R N H D0 n) r := if_neg c
      rw [e1]
      have c' : kv R N H D0 n r ≤ (mb (kv R N H D0 n) r).2 := by
        rw [Int32.le_iff_toInt_le]; rw [Int32.lt_iff_toInt_lt] at c; omega
      simp only [SA, rw_93, if_neg (nI_ge (show r < 7 ^ n by omega) (show 7 ^ n < 2 ^ 31 by omega)), HLz h0, ck, if_pos c', nI_add]
theorem x_most {h : icH} {ab be : Int64} (h0 : hg h 0 = some (xo ab be)) {R N H n : Nat} {D : Nat → Nat → Int32} (hD : EOK R N D) (hW : WOK D) (hH : H ≤ 9999) (hn0 : 1 ≤ n) (hn : n ≤ 4) (k : Nat) (hk : k ≤ n) (le fa : Nat → Int32) (Ht Rt Nt : Nat) (E : Nat → Nat → Int32) (F : Nat → Nat) (f : Nat → Nat → Int32) : ∃ le' Ht' E', icE 93 0 [.ref 0, .int (nI n), .int (bv k), dum, dum, dum, dum, dum] [] (HX (hput h 41 (ai 24 le)) fa Ht Rt Nt E H R N D F f) = some (some (.int (if k = 0 then (mb (kv R N H D n) (7 ^ n)).2 else nI (dg n (mb (kv R N H D n) (7 ^ n)).1 (k - 1)))), HX (hput h 41 (ai 24 le')) fa Ht' R N E' H R N D F f) := by
  have p7 := p7_le hn
  have ml := mb_le (kv R N H D n) (7 ^ n)
  obtain ⟨le', E', z, y⟩ := c_findLen h0 hD hW hn hH le fa Ht Rt Nt E F f
  refine ⟨le', H + n, E', ?_⟩
  have s1 := l_rows7 hn (bv k) (HX (hput h 41 (ai 24 le')) fa (H + n) R N E' H R N D F f) 0 dum dum dum n 0 (by omega)
  obtain ⟨y', s2⟩ := l_most h0 hn0 hn y (bv k) fa (H + n) R N E' H R N D F f (7 ^ n) 0 dum (by omega)
  have q1 : (-1 : Int32) ≤ bv k := by
    unfold bv
    split
    · decide
    · rw [Int32.le_iff_toInt_le, nI_toInt (by omega)]
      have : (-1 : Int32).toInt = -1 := by decide
      omega
  have q2 : bv k < nI n := by
    unfold bv
    split
    · rw [Int32.lt_iff_toInt_lt, nI_toInt (by omega)]
      have : (-1 : Int32).toInt = -1 := by decide
      omega
    · exact nI_lt (by omega) (by omega)
  refine Eq.trans (b := icE 93 40 [.ref 0, .int (nI n), .int (bv k), .int (nI (7 ^ 0)), .int (nI 0), dum, dum, dum] [] (HX (hput h 41 (ai 24 le')) fa (H + n) R N E' H R N D F f)) ?_ (s1.trans (s2.trans ?_))
  · simp only [SA, rw_93, HLz h0, c_within, if_neg (bi_10 (W_n hn0 hn (by decide))), if_pos q1, if_pos q2, z]
  · by_cases c : k = 0
    · subst c
      have e : bv 0 = -1 := rfl
      rw [e, if_pos rfl]
      simp only [SA, rw_93, if_true]
    · have e : bv k = nI (k - 1) := if_neg c
      rw [e, if_neg c]
      simp only [SA, rw_93, if_neg (m1_n (show k - 1 < 2 ^ 31 by omega)), c_choice (show (mb (kv R N H D n) (7 ^ n)).1 < 2 ^ 31 by omega) (show k - 1 < n by omega) hn]
theorem x_mostF {h : icH} {n : Nat} (hn0 : 1 ≤ n) (hn : n ≤ 4) {k : Int32} (h1 : -1 ≤ k) (hk : ¬ k < nI n) : icE 93 0 [.ref 0, .int (nI n), .int k, dum, dum, dum, dum, dum] [] h = some (some (.int (-5)), h) := by
  simp only [SA, rw_93, c_within, if_neg (bi_10 (W_n hn0 hn (by decide))), if_pos h1, if_neg hk]
theorem x_mostB {h : icH} {ab be : Int64} {rf : Nat → Int32} (h0 : hg h 0 = some (xo ab be)) (h27 : hg h 27 = some (ai 3 rf)) {n k : Int32} (hb : ¬ ((nI 1 ≤ n ∧ n ≤ nI 4) ∧ -1 ≤ k)) (H R N : Nat) (D : Nat → Nat → Int32) (F : Nat → Nat) (f : Nat → Nat → Int32) : icE 93 0 [.ref 0, .int n, .int k, dum, dum, dum, dum, dum] [] (HH h 1 H R N D F f) = some (some (.int (-10)), HH (rfz h rf 0) 1 H R N D F f) := by
  by_cases q : nI 1 ≤ n ∧ n ≤ nI 4
  · have q2 : ¬ -1 ≤ k := fun z => hb ⟨q, z⟩
    simp only [SA, rw_93, x0_H h0, c_within, if_neg (bi_10 q), if_neg q2, c_bad h0 h27]
  · simp only [SA, rw_93, x0_H h0, c_within, if_pos (bi_00 q), c_bad h0 h27]
