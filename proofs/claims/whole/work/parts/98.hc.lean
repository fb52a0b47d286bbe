/-! ===== the coupling of a whole house with the reference's row ===== -/
def CT (R N : Nat) (D : Nat → Nat → Int32) (T : Nat → Int32) : Prop := (∀ k, k < 8 → T (1 + k) = D 1 k) ∧ (∀ r, r < R → T (11 + r) = D 2 r ∧ T (14 + r) = D 3 r ∧ T (17 + r) = D 4 r) ∧ (∀ i, i < N → T (20 + i) = D 6 i ∧ T (26 + i) = D 7 i ∧ T (32 + i) = D 8 i ∧ T (38 + i) = D 9 i ∧ T (44 + i) = D 10 i ∧ T (50 + i) = D 11 i)
theorem CO_t {H R N : Nat} {D : Nat → Nat → Int32} {T : Nat → Int32} (h : CO H R N D T) : CT R N D T := by
  have e := h.1.2.2 T
  refine ⟨fun k hk => ?_, fun r hr => ⟨?_, ?_, ?_⟩, fun i hi => ⟨?_, ?_, ?_, ?_, ?_, ?_⟩⟩
  · exact e.1 k hk
  · have z := e.2.1 2 (by decide) (by decide) r hr; rw [vw_r (by decide) (by decide)] at z; exact z
  · have z := e.2.1 3 (by decide) (by decide) r hr; rw [vw_r (by decide) (by decide)] at z; exact z
  · have z := e.2.1 4 (by decide) (by decide) r hr; rw [vw_r (by decide) (by decide)] at z; exact z
  · have z := e.2.2 6 (by decide) (by decide) i hi; rw [vw_i (by decide) (by decide)] at z; exact z
  · have z := e.2.2 7 (by decide) (by decide) i hi; rw [vw_i (by decide) (by decide)] at z; exact z
  · have z := e.2.2 8 (by decide) (by decide) i hi; rw [vw_i (by decide) (by decide)] at z; exact z
  · have z := e.2.2 9 (by decide) (by decide) i hi; rw [vw_i (by decide) (by decide)] at z; exact z
  · have z := e.2.2 10 (by decide) (by decide) i hi; rw [vw_i (by decide) (by decide)] at z; exact z
  · have z := e.2.2 11 (by decide) (by decide) i hi; rw [vw_i (by decide) (by decide)] at z; exact z
theorem CO_mk {H R N : Nat} {D : Nat → Nat → Int32} {T : Nat → Int32} (t : TOK R N T) (t0 : T 0 = nI H) (hH : H ≤ 9999) (c : CT R N D T) (hw : ∀ k, k < 8 → -9 ≤ D 1 k ∧ D 1 k ≤ nI 9) (h8 : ∀ i, i < N → kd 8 (D 8 i)) (h9 : ∀ i, i < N → (-1 : Int32) < D 9 i) (hz : ∀ r, R ≤ r → r < 3 → T (17 + r) = nI 0) : CO H R N D T := by
  refine ⟨⟨t, t0, fun V => ERl_0 ⟨fun k hk => c.1 k hk, fun a a1 a2 r hr => ?_, fun a a1 a2 i hi => ?_⟩⟩, ⟨t.2.2.1, t.2.2.2.1, fun r hr => ?_, fun i hi => ?_, fun i hi => ?_⟩, hH, hw, h8, h9, hz⟩
  · rw [vw_r a1 a2]
    have z := c.2.1 r hr
    have : a = 2 ∨ a = 3 ∨ a = 4 := by omega
    rcases this with rfl | rfl | rfl
    · exact z.1
    · exact z.2.1
    · exact z.2.2
  · rw [vw_i a1 a2]
    have z := c.2.2 i hi
    have : a = 6 ∨ a = 7 ∨ a = 8 ∨ a = 9 ∨ a = 10 ∨ a = 11 := by omega
    rcases this with rfl | rfl | rfl | rfl | rfl | rfl
    · exact z.1
    · exact z.2.1
    · exact z.2.2.1
    · exact z.2.2.2.1
    · exact z.2.2.2.2.1
    · exact z.2.2.2.2.2
  · rw [← (c.2.1 r hr).1]; exact t.2.2.2.2.1 r hr
  · rw [← (c.2.2 i hi).2.1]; exact t.2.2.2.2.2.2.1 i hi
  · rw [← (c.2.2 i hi).1]; exact t.2.2.2.2.2.2.2 i hi
def PR (R N : Nat) (g T : Nat → Int32) (k : Nat) : Prop := (∃ h0, h0 ≤ 9999 ∧ g (19 * k) = nI h0) ∧ T (140 + 19 * k) = g (19 * k) ∧ (∀ r, r < R → T (140 + 19 * k + 1 + r) = g (19 * k + (1 + 2 * r)) ∧ T (140 + 19 * k + 4 + r) = g (19 * k + (1 + 2 * r + 1)) ∧ kd 61 (g (19 * k + (1 + 2 * r + 1)))) ∧ (∀ r, R ≤ r → r < 3 → T (140 + 19 * k + 4 + r) = nI 0) ∧ (∀ i, i < N → T (140 + 19 * k + 7 + i) = g (19 * k + (7 + 2 * i)) ∧ T (140 + 19 * k + 13 + i) = g (19 * k + (7 + 2 * i + 1)) ∧ (-1 : Int32) < g (19 * k + (7 + 2 * i)))
theorem PR_c {R N k k' : Nat} {g g' T T' : Nat → Int32} (hR : R ≤ 3) (hN : N ≤ 6) (p : PR R N g T k) (eg : ∀ c, c < 19 → g' (19 * k' + c) = g (19 * k + c)) (eT : ∀ c, c < 19 → T' (140 + 19 * k' + c) = T (140 + 19 * k + c)) : PR R N g' T' k' := by
  obtain ⟨⟨h0, a, b⟩, c, d, e, f⟩ := p
  have g0 : g' (19 * k') = g (19 * k) := eg 0 (by decide)
  have T0 : T' (140 + 19 * k') = T (140 + 19 * k) := eT 0 (by decide)
  have x1 : ∀ (x q : Nat), T (140 + 19 * k + q + x) = T (140 + 19 * k + (q + x)) := fun x q => by rw [Nat.add_assoc]
  have x2 : ∀ (x q : Nat), T' (140 + 19 * k' + q + x) = T' (140 + 19 * k' + (q + x)) := fun x q => by rw [Nat.add_assoc]
  refine ⟨⟨h0, a, g0.trans b⟩, by rw [T0, g0]; exact c, fun r hr => ?_, fun r h1 h2 => ?_, fun i hi => ?_⟩
  · rw [x2, x2, eT _ (by omega), eT _ (by omega), eg _ (by omega), eg _ (by omega), ← x1, ← x1]; exact d r hr
  · rw [x2, eT _ (by omega), ← x1]; exact e r h1 h2
  · rw [x2, x2, eT _ (by omega), eT _ (by omega), eg _ (by omega), eg _ (by omega), ← x1, ← x1]; exact f i hi
theorem PR_new {H R N k : Nat} {D : Nat → Nat → Int32} {T0 g T : Nat → Int32} (h : CO H R N D T0) (eg : ∀ c, c < 19 → g (19 * k + c) = pr H D c) (eT : ∀ c, c < 19 → T (140 + 19 * k + c) = mrow T0 c) : PR R N g T k := by
  have c := CO_t h
  have hR := h.2.1.1
  have hN := h.2.1.2.1
  have g0 : g (19 * k) = nI H := (eg 0 (by decide)).trans rfl
  have t0 : T (140 + 19 * k) = nI H := (eT 0 (by decide)).trans h.1.2.1
  have x2 : ∀ (x q : Nat), T (140 + 19 * k + q + x) = T (140 + 19 * k + (q + x)) := fun x q => by rw [Nat.add_assoc]
  have p1 : ∀ r, r < 3 → pr H D (1 + 2 * r) = D 3 r := fun r hr => by
    unfold pr
    rw [if_neg (by omega), if_pos (by omega), if_pos (by omega), show (1 + 2 * r - 1) / 2 = r by omega]
  have p2 : ∀ r, r < 3 → pr H D (1 + 2 * r + 1) = D 4 r := fun r hr => by
    unfold pr
    rw [if_neg (by omega), if_pos (by omega), if_neg (by omega), show (1 + 2 * r + 1 - 1) / 2 = r by omega]
  have p3 : ∀ i, pr H D (7 + 2 * i) = D 9 i := fun i => by
    unfold pr
    rw [if_neg (by omega), if_neg (by omega), if_pos (by omega), show (7 + 2 * i - 7) / 2 = i by omega]
  have p4 : ∀ i, pr H D (7 + 2 * i + 1) = D 11 i := fun i => by
    unfold pr
    rw [if_neg (by omega), if_neg (by omega), if_neg (by omega), show (7 + 2 * i + 1 - 7) / 2 = i by omega]
  have m1 : ∀ q, 1 ≤ q → q < 7 → mrow T0 q = T0 (13 + q) := fun q a b => by unfold mrow; rw [if_neg (by omega), if_pos b]
  have m2 : ∀ q, 7 ≤ q → q < 13 → mrow T0 q = T0 (31 + q) := fun q a b => by unfold mrow; rw [if_neg (by omega), if_neg (by omega), if_pos b]
  have m3 : ∀ q, 13 ≤ q → mrow T0 q = T0 (37 + q) := fun q a => by unfold mrow; rw [if_neg (by omega), if_neg (by omega), if_neg (by omega)]
  refine ⟨⟨H, h.2.2.1, g0⟩, t0.trans g0.symm, fun r hr => ?_, fun r h1 h2 => ?_, fun i hi => ?_⟩
  · rw [x2, x2, eT _ (by omega), eT _ (by omega), eg _ (by omega), eg _ (by omega), p1 r (by omega), p2 r (by omega), m1 _ (by omega) (by omega), m1 _ (by omega) (by omega), show 13 + (1 + r) = 14 + r by omega, show 13 + (4 + r) = 17 + r by omega]
    have z := c.2.1 r hr
    refine ⟨z.2.1, z.2.2, ?_⟩
    rw [← z.2.2]; exact h.1.1.2.2.2.2.2.1 r hr
  · rw [x2, eT _ (by omega), m1 _ (by omega) (by omega), show 13 + (4 + r) = 17 + r by omega]; exact h.2.2.2.2.2.2 r h1 h2
  · rw [x2, x2, eT _ (by omega), eT _ (by omega), eg _ (by omega), eg _ (by omega), p3, p4, m2 _ (by omega) (by omega), m3 _ (by omega), show 31 + (7 + i) = 38 + i by omega, show 37 + (13 + i) = 50 + i by omega]
    have z := c.2.2 i hi
    exact ⟨z.2.2.2.1, z.2.2.2.2.2, h.2.2.2.2.2.1 i hi⟩
def RK (R N K0 K1 K2 K3 : Nat) (F : Nat → Nat) (f : Nat → Nat → Int32) (T : Nat → Int32) : Prop := (K0 ≤ 5 ∧ K1 ≤ 6 ∧ K2 ≤ 6 ∧ K3 ≤ 8) ∧ (F 0 = 4 * K0 ∧ F 1 = 5 * K1 ∧ F 2 = 5 * K2 ∧ F 3 = 19 * K3) ∧ (T 56 = nI K0 ∧ T 77 = nI K1 ∧ T 108 = nI K2 ∧ T 139 = nI K3) ∧ (∀ c, c < 4 * K0 → T (57 + c) = f 0 c) ∧ (∀ c, c < 5 * K1 → T (78 + c) = f 1 c) ∧ (∀ c, c < 5 * K2 → T (109 + c) = f 2 c) ∧ (∀ k, k < K0 → kd 61 (f 0 (4 * k + 2))) ∧ (∀ k, k < K2 → kd 61 (f 2 (5 * k + 3))) ∧ (∀ k, k < K3 → PR R N (f 3) T k)
theorem RK_F {R N K0 K1 K2 K3 : Nat} {F : Nat → Nat} {f : Nat → Nat → Int32} {T : Nat → Int32} (p : RK R N K0 K1 K2 K3 F f T) : FOK F := by
  obtain ⟨⟨a0, a1, a2, a3⟩, ⟨b0, b1, b2, b3⟩, _⟩ := p
  refine ⟨?_, ?_, ?_, ?_⟩
  · rw [b0]; show 4 * K0 ≤ 20; omega
  · rw [b1]; show 5 * K1 ≤ 30; omega
  · rw [b2]; show 5 * K2 ≤ 30; omega
  · rw [b3]; show 19 * K3 ≤ 152; omega
theorem RK_c {R N K0 K1 K2 K3 : Nat} {F F' : Nat → Nat} {f f' : Nat → Nat → Int32} {T T' : Nat → Int32} (hR : R ≤ 3) (hN : N ≤ 6) (p : RK R N K0 K1 K2 K3 F f T) (eF : ∀ j, j < 4 → F' j = F j) (ef : ∀ j, j < 4 → ∀ c, c < F j → f' j c = f j c) (eT : ∀ c, 56 ≤ c → c < 292 → T' c = T c) : RK R N K0 K1 K2 K3 F' f' T' := by
  obtain ⟨⟨a0, a1, a2, a3⟩, ⟨b0, b1, b2, b3⟩, ⟨c0, c1, c2, c3⟩, d0, d1, d2, e0, e2, q⟩ := p
  refine ⟨⟨a0, a1, a2, a3⟩, ⟨(eF 0 (by decide)).trans b0, (eF 1 (by decide)).trans b1, (eF 2 (by decide)).trans b2, (eF 3 (by decide)).trans b3⟩, ⟨(eT _ (by omega) (by omega)).trans c0, (eT _ (by omega) (by omega)).trans c1, (eT _ (by omega) (by omega)).trans c2, (eT _ (by omega) (by omega)).trans c3⟩, fun c hc => ?_, fun c hc => ?_, fun c hc => ?_, fun k hk => ?_, fun k hk => ?_, fun k hk => PR_c hR hN (q k hk) (fun c hc => ef 3 (by decide) _ (by omega)) (fun c hc => eT _ (by omega) (by omega))⟩
  · rw [eT _ (by omega) (by omega), ef 0 (by decide) c (by omega)]; exact d0 c hc
  · rw [eT _ (by omega) (by omega), ef 1 (by decide) c (by omega)]; exact d1 c hc
  · rw [eT _ (by omega) (by omega), ef 2 (by decide) c (by omega)]; exact d2 c hc
  · rw [ef 0 (by decide) _ (by omega)]; exact e0 k hk
  · rw [ef 2 (by decide) _ (by omega)]; exact e2 k hk
theorem RK_T {R N K0 K1 K2 K3 : Nat} {F : Nat → Nat} {f : Nat → Nat → Int32} {T T' : Nat → Int32} (hR : R ≤ 3) (hN : N ≤ 6) (p : RK R N K0 K1 K2 K3 F f T) (eT : ∀ c, 56 ≤ c → c < 292 → T' c = T c) : RK R N K0 K1 K2 K3 F f T' := RK_c hR hN p (fun _ _ => rfl) (fun _ _ _ _ => rfl) eT
theorem RK_e {R N R' N' K0 K1 K2 K3 : Nat} {F : Nat → Nat} {f : Nat → Nat → Int32} {T T' : Nat → Int32} (p : RK R N K0 K1 K2 K3 F f T) (eT : ∀ c, 56 ≤ c → c < 139 → T' c = T c) (e9 : T' 139 = nI 0) : RK R' N' K0 K1 K2 0 (un F 3 0) f T' := by
  obtain ⟨⟨a0, a1, a2, a3⟩, ⟨b0, b1, b2, b3⟩, ⟨c0, c1, c2, c3⟩, d0, d1, d2, e0, e2, q⟩ := p
  refine ⟨⟨a0, a1, a2, by omega⟩, ⟨(un_n (by decide)).trans b0, (un_n (by decide)).trans b1, (un_n (by decide)).trans b2, un_s _ _ _⟩, ⟨(eT _ (by omega) (by omega)).trans c0, (eT _ (by omega) (by omega)).trans c1, (eT _ (by omega) (by omega)).trans c2, e9⟩, fun c hc => ?_, fun c hc => ?_, fun c hc => ?_, e0, e2, fun k hk => absurd hk (Nat.not_lt_zero k)⟩
  · rw [eT _ (by omega) (by omega)]; exact d0 c hc
  · rw [eT _ (by omega) (by omega)]; exact d1 c hc
  · rw [eT _ (by omega) (by omega)]; exact d2 c hc
theorem RK_z {R N : Nat} {F : Nat → Nat} {f : Nat → Nat → Int32} {T : Nat → Int32} (eF : ∀ j, j < 4 → F j = 0) (eT : ∀ c, 56 ≤ c → c < 140 → T c = nI 0) : RK R N 0 0 0 0 F f T :=
  ⟨⟨by omega, by omega, by omega, by omega⟩, ⟨eF 0 (by decide), eF 1 (by decide), eF 2 (by decide), eF 3 (by decide)⟩, ⟨eT _ (by decide) (by decide), eT _ (by decide) (by decide), eT _ (by decide) (by decide), eT _ (by decide) (by decide)⟩, fun c hc => absurd hc (by omega), fun c hc => absurd hc (by omega), fun c hc => absurd hc (by omega), fun k hk => absurd hk (by omega), fun k hk => absurd hk (by omega), fun k hk => absurd hk (by omega)⟩
theorem RK_rem {H R N K0 K1 K2 K3 : Nat} {D : Nat → Nat → Int32} {F : Nat → Nat} {f : Nat → Nat → Int32} {T : Nat → Int32} (h : CO H R N D T) (p : RK R N K0 K1 K2 K3 F f T) : RK R N K0 K1 K2 (min (K3 + 1) 8) (un F 3 (19 * min (K3 + 1) 8)) (ud f 3 (rg (f 3) K3 H D)) (ntz T K3) := by
  have hR := h.2.1.1
  have hN := h.2.1.2.1
  obtain ⟨⟨a0, a1, a2, a3⟩, ⟨b0, b1, b2, b3⟩, ⟨c0, c1, c2, c3⟩, d0, d1, d2, e0, e2, q⟩ := p
  have u : ∀ j, j < 3 → ud f 3 (rg (f 3) K3 H D) j = f j := fun j hj => ud_n (by omega)
  refine ⟨⟨a0, a1, a2, by omega⟩, ⟨(un_n (by decide)).trans b0, (un_n (by decide)).trans b1, (un_n (by decide)).trans b2, un_s _ _ _⟩, ⟨(ntz_lo (by decide)).trans c0, (ntz_lo (by decide)).trans c1, (ntz_lo (by decide)).trans c2, ?_⟩, fun c hc => ?_, fun c hc => ?_, fun c hc => ?_, fun k hk => ?_, fun k hk => ?_, fun k hk => ?_⟩
  · unfold ntz
    by_cases x : K3 < 8
    · rw [if_pos x]; unfold nts; rw [if_pos rfl, show min (K3 + 1) 8 = K3 + 1 by omega]
    · rw [if_neg x]; unfold nts; rw [if_pos rfl, show min (K3 + 1) 8 = 8 by omega]
  · rw [ntz_lo (by omega), u 0 (by decide)]; exact d0 c hc
  · rw [ntz_lo (by omega), u 1 (by decide)]; exact d1 c hc
  · rw [ntz_lo (by omega), u 2 (by decide)]; exact d2 c hc
  · rw [u 0 (by decide)]; exact e0 k hk
  · rw [u 2 (by decide)]; exact e2 k hk
  · rw [ud_s]
    unfold rg ntz
    by_cases x : K3 < 8
    · rw [if_pos x, if_pos x]
      by_cases y : k = K3
      · subst y
        refine PR_new h (fun c hc => ?_) (fun c hc => ?_)
        · unfold pw; rw [if_pos (by omega), Nat.add_sub_cancel_left]
        · unfold nts; rw [if_neg (by omega), if_pos (by omega), Nat.add_sub_cancel_left]
      · refine PR_c hR hN (q k (by omega)) (fun c hc => ?_) (fun c hc => ?_)
        · unfold pw; rw [if_neg (by omega)]
        · unfold nts; rw [if_neg (by omega), if_neg (by omega)]
    · rw [if_neg x, if_neg x]
      have x8 : K3 = 8 := by omega
      subst x8
      by_cases y : k = 7
      · subst y
        have m : ∀ j, j < 19 → mrow (upd (shf T 133) 139 (nI 7)) j = mrow T j := fun j hj => by
          have z : ∀ c, c < 139 → upd (shf T 133) 139 (nI 7) c = T c := fun c hc => by
            rw [pk_un (by omega)]; unfold shf; rw [if_neg (by omega)]
          unfold mrow
          by_cases j0 : j = 0
          · rw [if_pos j0, if_pos j0]; exact z 0 (by decide)
          · rw [if_neg j0, if_neg j0]
            by_cases j1 : j < 7
            · rw [if_pos j1, if_pos j1]; exact z _ (by omega)
            · rw [if_neg j1, if_neg j1]
              by_cases j2 : j < 13
              · rw [if_pos j2, if_pos j2]; exact z _ (by omega)
              · rw [if_neg j2, if_neg j2]; exact z _ (by omega)
        refine PR_new h (fun c hc => ?_) (fun c hc => ?_)
        · unfold pw; rw [if_pos (by omega), Nat.add_sub_cancel_left]
        · unfold nts; rw [if_neg (by omega), if_pos (by omega), Nat.add_sub_cancel_left, m c hc]
      · refine PR_c hR hN (q (k + 1) (by omega)) (fun c hc => ?_) (fun c hc => ?_)
        · unfold pw; rw [if_neg (by omega), pk_cpy_in (by omega) (by omega)]
          rw [show 19 + (19 * k + c - 0) = 19 * (k + 1) + c by omega]
        · unfold nts; rw [if_neg (by omega), if_neg (by omega), pk_un (by omega)]
          unfold shf; rw [if_pos (by omega), show 140 + 19 * k + c + 19 = 140 + 19 * (k + 1) + c by omega]
theorem ntz_c {H R N K : Nat} {D : Nat → Nat → Int32} {T : Nat → Int32} (h : CO H R N D T) : CO H R N D (ntz T K) := CO_c h (fun c hc => ntz_lo (by omega))
theorem CO_snow {H R N r : Nat} {x : Int32} {D : Nat → Nat → Int32} {T : Nat → Int32} (h : CO H R N D T) (hr : r < R) (hx : kd 61 x) : CO H R N (ud D 4 (upd (D 4) r x)) (upd T (17 + r) x) := by
  have c := CO_t h
  obtain ⟨⟨⟨h9, h10, hR, hN, hkk, hs, hki, hro⟩, h0, _⟩, _, hH, hw, h8, hl, hz⟩ := h
  have n : ∀ q, q ≠ 17 + r → upd T (17 + r) x q = T q := fun q hq => pk_un hq
  have d : ∀ a, a ≠ 4 → ud D 4 (upd (D 4) r x) a = D a := fun a ha => ud_n ha
  refine CO_mk ⟨?_, ?_, hR, hN, fun q hq => ?_, fun q hq => ?_, fun q hq => ?_, fun q hq => ?_⟩ ?_ hH ⟨fun k hk => ?_, fun q hq => ⟨?_, ?_, ?_⟩, fun i hi => ⟨?_, ?_, ?_, ?_, ?_, ?_⟩⟩ (fun k hk => ?_) (fun k hk => ?_) (fun k hk => ?_) (fun q h1 h2 => ?_)
  · rw [n _ (by omega)]; exact h9
  · rw [n _ (by omega)]; exact h10
  · rw [n _ (by omega)]; exact hkk q hq
  · by_cases e : q = r
    · rw [e, pk_us]; exact hx
    · rw [n _ (by omega)]; exact hs q hq
  · rw [n _ (by omega)]; exact hki q hq
  · rw [n _ (by omega)]; exact hro q hq
  · rw [n _ (by omega)]; exact h0
  · rw [n _ (by omega), d 1 (by decide)]; exact c.1 k hk
  · rw [n _ (by omega), d 2 (by decide)]; exact (c.2.1 q hq).1
  · rw [n _ (by omega), d 3 (by decide)]; exact (c.2.1 q hq).2.1
  · rw [ud_s]
    by_cases e : q = r
    · rw [e, pk_us, pk_us]
    · rw [n _ (by omega), pk_un e]; exact (c.2.1 q hq).2.2
  · rw [n _ (by omega), d 6 (by decide)]; exact (c.2.2 i hi).1
  · rw [n _ (by omega), d 7 (by decide)]; exact (c.2.2 i hi).2.1
  · rw [n _ (by omega), d 8 (by decide)]; exact (c.2.2 i hi).2.2.1
  · rw [n _ (by omega), d 9 (by decide)]; exact (c.2.2 i hi).2.2.2.1
  · rw [n _ (by omega), d 10 (by decide)]; exact (c.2.2 i hi).2.2.2.2.1
  · rw [n _ (by omega), d 11 (by decide)]; exact (c.2.2 i hi).2.2.2.2.2
  · rw [d 1 (by decide)]; exact hw k hk
  · rw [d 8 (by decide)]; exact h8 k hk
  · rw [d 9 (by decide)]; exact hl k hk
  · rw [n _ (by omega)]; exact hz q h1 h2
theorem CO_heat {H R N r : Nat} {x : Int32} {D : Nat → Nat → Int32} {T : Nat → Int32} (h : CO H R N D T) (hr : r < R) : CO H R N (ud D 3 (upd (D 3) r x)) (upd T (14 + r) x) := by
  have c := CO_t h
  obtain ⟨⟨⟨h9, h10, hR, hN, hkk, hs, hki, hro⟩, h0, _⟩, _, hH, hw, h8, hl, hz⟩ := h
  have n : ∀ q, q ≠ 14 + r → upd T (14 + r) x q = T q := fun q hq => pk_un hq
  have d : ∀ a, a ≠ 3 → ud D 3 (upd (D 3) r x) a = D a := fun a ha => ud_n ha
  refine CO_mk ⟨?_, ?_, hR, hN, fun q hq => ?_, fun q hq => ?_, fun q hq => ?_, fun q hq => ?_⟩ ?_ hH ⟨fun k hk => ?_, fun q hq => ⟨?_, ?_, ?_⟩, fun i hi => ⟨?_, ?_, ?_, ?_, ?_, ?_⟩⟩ (fun k hk => ?_) (fun k hk => ?_) (fun k hk => ?_) (fun q h1 h2 => ?_)
  · rw [n _ (by omega)]; exact h9
  · rw [n _ (by omega)]; exact h10
  · rw [n _ (by omega)]; exact hkk q hq
  · rw [n _ (by omega)]; exact hs q hq
  · rw [n _ (by omega)]; exact hki q hq
  · rw [n _ (by omega)]; exact hro q hq
  · rw [n _ (by omega)]; exact h0
  · rw [n _ (by omega), d 1 (by decide)]; exact c.1 k hk
  · rw [n _ (by omega), d 2 (by decide)]; exact (c.2.1 q hq).1
  · rw [ud_s]
    by_cases e : q = r
    · rw [e, pk_us, pk_us]
    · rw [n _ (by omega), pk_un e]; exact (c.2.1 q hq).2.1
  · rw [n _ (by omega), d 4 (by decide)]; exact (c.2.1 q hq).2.2
  · rw [n _ (by omega), d 6 (by decide)]; exact (c.2.2 i hi).1
  · rw [n _ (by omega), d 7 (by decide)]; exact (c.2.2 i hi).2.1
  · rw [n _ (by omega), d 8 (by decide)]; exact (c.2.2 i hi).2.2.1
  · rw [n _ (by omega), d 9 (by decide)]; exact (c.2.2 i hi).2.2.2.1
  · rw [n _ (by omega), d 10 (by decide)]; exact (c.2.2 i hi).2.2.2.2.1
  · rw [n _ (by omega), d 11 (by decide)]; exact (c.2.2 i hi).2.2.2.2.2
  · rw [d 1 (by decide)]; exact hw k hk
  · rw [d 8 (by decide)]; exact h8 k hk
  · rw [d 9 (by decide)]; exact hl k hk
  · rw [n _ (by omega)]; exact hz q h1 h2
theorem CO_knock {H R N r : Nat} {x : Int32} {D : Nat → Nat → Int32} {T : Nat → Int32} (h : CO H R N D T) (hr : r < N) : CO H R N (ud D 11 (upd (D 11) r x)) (upd T (50 + r) x) := by
  have c := CO_t h
  obtain ⟨⟨⟨h9, h10, hR, hN, hkk, hs, hki, hro⟩, h0, _⟩, _, hH, hw, h8, hl, hz⟩ := h
  have n : ∀ q, q ≠ 50 + r → upd T (50 + r) x q = T q := fun q hq => pk_un hq
  have d : ∀ a, a ≠ 11 → ud D 11 (upd (D 11) r x) a = D a := fun a ha => ud_n ha
  refine CO_mk ⟨?_, ?_, hR, hN, fun q hq => ?_, fun q hq => ?_, fun q hq => ?_, fun q hq => ?_⟩ ?_ hH ⟨fun k hk => ?_, fun q hq => ⟨?_, ?_, ?_⟩, fun i hi => ⟨?_, ?_, ?_, ?_, ?_, ?_⟩⟩ (fun k hk => ?_) (fun k hk => ?_) (fun k hk => ?_) (fun q h1 h2 => ?_)
  · rw [n _ (by omega)]; exact h9
  · rw [n _ (by omega)]; exact h10
  · rw [n _ (by omega)]; exact hkk q hq
  · rw [n _ (by omega)]; exact hs q hq
  · rw [n _ (by omega)]; exact hki q hq
  · rw [n _ (by omega)]; exact hro q hq
  · rw [n _ (by omega)]; exact h0
  · rw [n _ (by omega), d 1 (by decide)]; exact c.1 k hk
  · rw [n _ (by omega), d 2 (by decide)]; exact (c.2.1 q hq).1
  · rw [n _ (by omega), d 3 (by decide)]; exact (c.2.1 q hq).2.1
  · rw [n _ (by omega), d 4 (by decide)]; exact (c.2.1 q hq).2.2
  · rw [n _ (by omega), d 6 (by decide)]; exact (c.2.2 i hi).1
  · rw [n _ (by omega), d 7 (by decide)]; exact (c.2.2 i hi).2.1
  · rw [n _ (by omega), d 8 (by decide)]; exact (c.2.2 i hi).2.2.1
  · rw [n _ (by omega), d 9 (by decide)]; exact (c.2.2 i hi).2.2.2.1
  · rw [n _ (by omega), d 10 (by decide)]; exact (c.2.2 i hi).2.2.2.2.1
  · rw [ud_s]
    by_cases e : i = r
    · rw [e, pk_us, pk_us]
    · rw [n _ (by omega), pk_un e]; exact (c.2.2 i hi).2.2.2.2.2
  · rw [d 1 (by decide)]; exact hw k hk
  · rw [d 8 (by decide)]; exact h8 k hk
  · rw [d 9 (by decide)]; exact hl k hk
  · rw [n _ (by omega)]; exact hz q h1 h2
theorem HC_undo {H R N K0 K1 K2 K : Nat} {D : Nat → Nat → Int32} {F : Nat → Nat} {f : Nat → Nat → Int32} {T : Nat → Int32} (h : CO H R N D T) (p : RK R N K0 K1 K2 (K + 1) F f T) : ∃ H0, f 3 (19 * K + 0) = nI H0 ∧ T (140 + 19 * K) = nI H0 ∧ CO H0 R N (bk3 D (f 3) (19 * K) 3 6) (mbk T K) ∧ RK R N K0 K1 K2 K (un F 3 (19 * K)) f (mbk T K) := by
  have c := CO_t h
  obtain ⟨⟨⟨h9, h10, hR, hN, hkk, hs, hki, hro⟩, h0, _⟩, _, hH, hw, h8, hl, hz⟩ := h
  obtain ⟨⟨a0, a1, a2, a3⟩, ⟨b0, b1, b2, b3⟩, ⟨c0, c1, c2, c3⟩, d0, d1, d2, e0, e2, q⟩ := p
  obtain ⟨⟨H0, u1, u2⟩, u3, u4, u5, u6⟩ := q K (by omega)
  have n : ∀ c, c ≠ 139 → c ≠ 0 → ¬ (14 ≤ c ∧ c < 20) → ¬ (38 ≤ c ∧ c < 44) → ¬ (50 ≤ c ∧ c < 56) → mbk T K c = T c := fun c c1 c2 c3 c4 c5 => by
    unfold mbk; rw [if_neg c1, if_neg c2, if_neg c3, if_neg c4, if_neg c5]
  have n0 : mbk T K 0 = T (140 + 19 * K) := by unfold mbk; rw [if_neg (by decide), if_pos rfl]
  have n1 : ∀ j, j < 6 → mbk T K (14 + j) = T (140 + 19 * K + 1 + j) := fun j hj => by
    unfold mbk; rw [if_neg (by omega), if_neg (by omega), if_pos (by omega), Nat.add_sub_cancel_left]
  have n2 : ∀ j, j < 6 → mbk T K (38 + j) = T (140 + 19 * K + 7 + j) := fun j hj => by
    unfold mbk; rw [if_neg (by omega), if_neg (by omega), if_neg (by omega), if_pos (by omega), Nat.add_sub_cancel_left]
  have n3 : ∀ j, j < 6 → mbk T K (50 + j) = T (140 + 19 * K + 13 + j) := fun j hj => by
    unfold mbk; rw [if_neg (by omega), if_neg (by omega), if_neg (by omega), if_neg (by omega), if_pos (by omega), Nat.add_sub_cancel_left]
  have n4 : ∀ r, r < 3 → mbk T K (17 + r) = T (140 + 19 * K + 4 + r) := fun r hr => by
    have z := n1 (3 + r) (by omega)
    rw [show 14 + (3 + r) = 17 + r by omega, show 140 + 19 * K + 1 + (3 + r) = 140 + 19 * K + 4 + r by omega] at z
    exact z
  have d : ∀ a, a ≠ 3 → a ≠ 4 → a ≠ 9 → a ≠ 11 → bk3 D (f 3) (19 * K) 3 6 a = D a := fun a x1 x2 x3 x4 => by unfold bk3; rw [if_neg x1, if_neg x2, if_neg x3, if_neg x4]
  have g3 : ∀ r, r < 3 → bk3 D (f 3) (19 * K) 3 6 3 r = f 3 (19 * K + (1 + 2 * r)) := fun r hr => (congrFun (if_pos rfl) r).trans (if_pos hr)
  have g4 : ∀ r, r < 3 → bk3 D (f 3) (19 * K) 3 6 4 r = f 3 (19 * K + (1 + 2 * r + 1)) := fun r hr => ((congrFun (if_neg (by decide)) r).trans (congrFun (if_pos rfl) r)).trans (if_pos hr)
  have g9 : ∀ r, r < 6 → bk3 D (f 3) (19 * K) 3 6 9 r = f 3 (19 * K + (7 + 2 * r)) := fun r hr => (((congrFun (if_neg (by decide)) r).trans (congrFun (if_neg (by decide)) r)).trans (congrFun (if_pos rfl) r)).trans (if_pos hr)
  have g11 : ∀ r, r < 6 → bk3 D (f 3) (19 * K) 3 6 11 r = f 3 (19 * K + (7 + 2 * r + 1)) := fun r hr => ((((congrFun (if_neg (by decide)) r).trans (congrFun (if_neg (by decide)) r)).trans (congrFun (if_neg (by decide)) r)).trans (congrFun (if_pos rfl) r)).trans (if_pos hr)
  refine ⟨H0, u2, u3.trans u2, ?_, ?_⟩
  · refine CO_mk ⟨?_, ?_, hR, hN, fun q hq => ?_, fun q hq => ?_, fun q hq => ?_, fun q hq => ?_⟩ ?_ u1 ⟨fun k hk => ?_, fun q hq => ⟨?_, ?_, ?_⟩, fun i hi => ⟨?_, ?_, ?_, ?_, ?_, ?_⟩⟩ (fun k hk => ?_) (fun k hk => ?_) (fun k hk => ?_) (fun q h1 h2 => ?_)
    · rw [n _ (by omega) (by omega) (by omega) (by omega) (by omega)]; exact h9
    · rw [n _ (by omega) (by omega) (by omega) (by omega) (by omega)]; exact h10
    · rw [n _ (by omega) (by omega) (by omega) (by omega) (by omega)]; exact hkk q hq
    · rw [n4 q (by omega), (u4 q hq).2.1]; exact (u4 q hq).2.2
    · rw [n _ (by omega) (by omega) (by omega) (by omega) (by omega)]; exact hki q hq
    · rw [n _ (by omega) (by omega) (by omega) (by omega) (by omega)]; exact hro q hq
    · rw [n0]; exact u3.trans u2
    · rw [n _ (by omega) (by omega) (by omega) (by omega) (by omega), d 1 (by decide) (by decide) (by decide) (by decide)]; exact c.1 k hk
    · rw [n _ (by omega) (by omega) (by omega) (by omega) (by omega), d 2 (by decide) (by decide) (by decide) (by decide)]; exact (c.2.1 q hq).1
    · rw [n1 q (by omega), g3 q (by omega)]; exact (u4 q hq).1
    · rw [n4 q (by omega), g4 q (by omega)]; exact (u4 q hq).2.1
    · rw [n _ (by omega) (by omega) (by omega) (by omega) (by omega), d 6 (by decide) (by decide) (by decide) (by decide)]; exact (c.2.2 i hi).1
    · rw [n _ (by omega) (by omega) (by omega) (by omega) (by omega), d 7 (by decide) (by decide) (by decide) (by decide)]; exact (c.2.2 i hi).2.1
    · rw [n _ (by omega) (by omega) (by omega) (by omega) (by omega), d 8 (by decide) (by decide) (by decide) (by decide)]; exact (c.2.2 i hi).2.2.1
    · rw [n2 i (by omega), g9 i (by omega)]; exact (u6 i hi).1
    · rw [n _ (by omega) (by omega) (by omega) (by omega) (by omega), d 10 (by decide) (by decide) (by decide) (by decide)]; exact (c.2.2 i hi).2.2.2.2.1
    · rw [n3 i (by omega), g11 i (by omega)]; exact (u6 i hi).2.1
    · rw [d 1 (by decide) (by decide) (by decide) (by decide)]; exact hw k hk
    · rw [d 8 (by decide) (by decide) (by decide) (by decide)]; exact h8 k hk
    · rw [g9 k (by omega)]; exact (u6 k hk).2.2
    · rw [n4 q (by omega)]; exact u5 q h1 h2
  · have nn : ∀ c, 56 ≤ c → c ≠ 139 → mbk T K c = T c := fun c x1 x2 => n c x2 (by omega) (by omega) (by omega) (by omega)
    refine ⟨⟨a0, a1, a2, by omega⟩, ⟨(un_n (by decide)).trans b0, (un_n (by decide)).trans b1, (un_n (by decide)).trans b2, un_s _ _ _⟩, ⟨(nn _ (by omega) (by omega)).trans c0, (nn _ (by omega) (by omega)).trans c1, (nn _ (by omega) (by omega)).trans c2, by unfold mbk; rw [if_pos rfl]⟩, fun c hc => ?_, fun c hc => ?_, fun c hc => ?_, e0, e2, fun k hk => PR_c hR hN (q k (by omega)) (fun _ _ => rfl) (fun c hc => nn _ (by omega) (by omega))⟩
    · rw [nn _ (by omega) (by omega)]; exact d0 c hc
    · rw [nn _ (by omega) (by omega)]; exact d1 c hc
    · rw [nn _ (by omega) (by omega)]; exact d2 c hc
