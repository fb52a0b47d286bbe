/-! ===== the coupling's rows: seen, note, mark, forget, images ===== -/
theorem RK_seen {R N K0 K1 K2 K3 : Nat} {F : Nat → Nat} {f : Nat → Nat → Int32} {T : Nat → Int32} (hR : R ≤ 3) (hN : N ≤ 6) (p : RK R N K0 K1 K2 K3 F f T) (hK : K0 < 5) {a b c d : Int32} (hc : kd 61 c) : RK R N (K0 + 1) K1 K2 K3 (un F 0 (F 0 + 1 + 1 + 1 + 1)) (ud f 0 (upd (upd (upd (upd (f 0) (F 0) a) (F 0 + 1) b) (F 0 + 1 + 1) c) (F 0 + 1 + 1 + 1) d)) (upd (upd (upd (upd (upd T (57 + 4 * K0) a) (57 + 4 * K0 + 1) b) (57 + 4 * K0 + 2) c) (57 + 4 * K0 + 3) d) 56 (nI (K0 + 1))) := by
  obtain ⟨⟨a0, a1, a2, a3⟩, ⟨b0, b1, b2, b3⟩, ⟨c0, c1, c2, c3⟩, d0, d1, d2, e0, e2, q⟩ := p
  rw [b0]
  have u : ∀ j, j ≠ 0 → ud f 0 (upd (upd (upd (upd (f 0) (4 * K0) a) (4 * K0 + 1) b) (4 * K0 + 1 + 1) c) (4 * K0 + 1 + 1 + 1) d) j = f j := fun j hj => ud_n hj
  have n : ∀ x, x ≠ 56 → x ≠ 57 + 4 * K0 → x ≠ 57 + 4 * K0 + 1 → x ≠ 57 + 4 * K0 + 2 → x ≠ 57 + 4 * K0 + 3 → upd (upd (upd (upd (upd T (57 + 4 * K0) a) (57 + 4 * K0 + 1) b) (57 + 4 * K0 + 2) c) (57 + 4 * K0 + 3) d) 56 (nI (K0 + 1)) x = T x := fun x x0 x1 x2 x3 x4 => by rw [pk_un x0, pk_un x4, pk_un x3, pk_un x2, pk_un x1]
  refine ⟨⟨by omega, a1, a2, a3⟩, ⟨(un_s _ _ _).trans (by omega), (un_n (by decide)).trans b1, (un_n (by decide)).trans b2, (un_n (by decide)).trans b3⟩, ⟨pk_us, (n _ (by omega) (by omega) (by omega) (by omega) (by omega)).trans c1, (n _ (by omega) (by omega) (by omega) (by omega) (by omega)).trans c2, (n _ (by omega) (by omega) (by omega) (by omega) (by omega)).trans c3⟩, fun x hx => ?_, fun x hx => ?_, fun x hx => ?_, fun k hk => ?_, fun k hk => ?_, fun k hk => ?_⟩
  · rw [ud_s, pk_un (by omega)]
    by_cases x4 : x = 4 * K0 + 1 + 1 + 1
    · rw [x4, show 57 + (4 * K0 + 1 + 1 + 1) = 57 + 4 * K0 + 3 by omega, pk_us, pk_us]
    · rw [pk_un x4, pk_un (by omega)]
      by_cases x3 : x = 4 * K0 + 1 + 1
      · rw [x3, show 57 + (4 * K0 + 1 + 1) = 57 + 4 * K0 + 2 by omega, pk_us, pk_us]
      · rw [pk_un x3, pk_un (by omega)]
        by_cases x2 : x = 4 * K0 + 1
        · rw [x2, show 57 + (4 * K0 + 1) = 57 + 4 * K0 + 1 by omega, pk_us, pk_us]
        · rw [pk_un x2, pk_un (by omega)]
          by_cases x1 : x = 4 * K0
          · rw [x1, pk_us, pk_us]
          · rw [pk_un x1, pk_un (by omega)]; exact d0 x (by omega)
  · rw [n _ (by omega) (by omega) (by omega) (by omega) (by omega), u 1 (by decide)]; exact d1 x hx
  · rw [n _ (by omega) (by omega) (by omega) (by omega) (by omega), u 2 (by decide)]; exact d2 x hx
  · rw [ud_s, pk_un (by omega)]
    by_cases y : k = K0
    · rw [y, show 4 * K0 + 2 = 4 * K0 + 1 + 1 by omega, pk_us]; exact hc
    · rw [pk_un (by omega), pk_un (by omega), pk_un (by omega)]; exact e0 k (by omega)
  · rw [u 2 (by decide)]; exact e2 k hk
  · rw [u 3 (by decide)]
    exact PR_c hR hN (q k hk) (fun _ _ => rfl) (fun c hc => n _ (by omega) (by omega) (by omega) (by omega) (by omega))
theorem RK_note {R N K0 K1 K2 K3 : Nat} {F : Nat → Nat} {f : Nat → Nat → Int32} {T : Nat → Int32} (hR : R ≤ 3) (hN : N ≤ 6) (p : RK R N K0 K1 K2 K3 F f T) (hK : K1 < 6) {a b c d e : Int32} : RK R N K0 (K1 + 1) K2 K3 (un F 1 (F 1 + 1 + 1 + 1 + 1 + 1)) (ud f 1 (upd (upd (upd (upd (upd (f 1) (F 1) a) (F 1 + 1) b) (F 1 + 1 + 1) c) (F 1 + 1 + 1 + 1) d) (F 1 + 1 + 1 + 1 + 1) e)) (upd (upd (upd (upd (upd (upd T (78 + 5 * K1) a) (78 + 5 * K1 + 1) b) (78 + 5 * K1 + 2) c) (78 + 5 * K1 + 3) d) (78 + 5 * K1 + 4) e) 77 (nI (K1 + 1))) := by
  obtain ⟨⟨a0, a1, a2, a3⟩, ⟨b0, b1, b2, b3⟩, ⟨c0, c1, c2, c3⟩, d0, d1, d2, e0, e2, q⟩ := p
  rw [b1]
  have u : ∀ j, j ≠ 1 → ud f 1 (upd (upd (upd (upd (upd (f 1) (5 * K1) a) (5 * K1 + 1) b) (5 * K1 + 1 + 1) c) (5 * K1 + 1 + 1 + 1) d) (5 * K1 + 1 + 1 + 1 + 1) e) j = f j := fun j hj => ud_n hj
  have n : ∀ x, x < 77 ∨ 108 ≤ x → upd (upd (upd (upd (upd (upd T (78 + 5 * K1) a) (78 + 5 * K1 + 1) b) (78 + 5 * K1 + 2) c) (78 + 5 * K1 + 3) d) (78 + 5 * K1 + 4) e) 77 (nI (K1 + 1)) x = T x := fun x hx => by rw [pk_un (by omega), pk_un (by omega), pk_un (by omega), pk_un (by omega), pk_un (by omega), pk_un (by omega)]
  refine ⟨⟨a0, by omega, a2, a3⟩, ⟨(un_n (by decide)).trans b0, (un_s _ _ _).trans (by omega), (un_n (by decide)).trans b2, (un_n (by decide)).trans b3⟩, ⟨(n _ (by omega)).trans c0, pk_us, (n _ (by omega)).trans c2, (n _ (by omega)).trans c3⟩, fun x hx => ?_, fun x hx => ?_, fun x hx => ?_, fun k hk => ?_, fun k hk => ?_, fun k hk => ?_⟩
  · rw [n _ (by omega), u 0 (by decide)]; exact d0 x hx
  · rw [ud_s, pk_un (by omega)]
    by_cases x5 : x = 5 * K1 + 1 + 1 + 1 + 1
    · rw [x5, show 78 + (5 * K1 + 1 + 1 + 1 + 1) = 78 + 5 * K1 + 4 by omega, pk_us, pk_us]
    · rw [pk_un x5, pk_un (by omega)]
      by_cases x4 : x = 5 * K1 + 1 + 1 + 1
      · rw [x4, show 78 + (5 * K1 + 1 + 1 + 1) = 78 + 5 * K1 + 3 by omega, pk_us, pk_us]
      · rw [pk_un x4, pk_un (by omega)]
        by_cases x3 : x = 5 * K1 + 1 + 1
        · rw [x3, show 78 + (5 * K1 + 1 + 1) = 78 + 5 * K1 + 2 by omega, pk_us, pk_us]
        · rw [pk_un x3, pk_un (by omega)]
          by_cases x2 : x = 5 * K1 + 1
          · rw [x2, show 78 + (5 * K1 + 1) = 78 + 5 * K1 + 1 by omega, pk_us, pk_us]
          · rw [pk_un x2, pk_un (by omega)]
            by_cases x1 : x = 5 * K1
            · rw [x1, pk_us, pk_us]
            · rw [pk_un x1, pk_un (by omega)]; exact d1 x (by omega)
  · rw [n _ (by omega), u 2 (by decide)]; exact d2 x hx
  · rw [u 0 (by decide)]; exact e0 k hk
  · rw [u 2 (by decide)]; exact e2 k hk
  · rw [u 3 (by decide)]
    exact PR_c hR hN (q k hk) (fun _ _ => rfl) (fun c hc => n _ (by omega))
theorem RK_mark {R N K0 K1 K2 K3 : Nat} {F : Nat → Nat} {f : Nat → Nat → Int32} {T : Nat → Int32} (hR : R ≤ 3) (hN : N ≤ 6) (p : RK R N K0 K1 K2 K3 F f T) (hK : K2 < 6) {a b c d e : Int32} (hd : kd 61 d) : RK R N K0 K1 (K2 + 1) K3 (un F 2 (F 2 + 1 + 1 + 1 + 1 + 1)) (ud f 2 (upd (upd (upd (upd (upd (f 2) (F 2) a) (F 2 + 1) b) (F 2 + 1 + 1) c) (F 2 + 1 + 1 + 1) d) (F 2 + 1 + 1 + 1 + 1) e)) (upd (upd (upd (upd (upd (upd T (109 + 5 * K2) a) (109 + 5 * K2 + 1) b) (109 + 5 * K2 + 2) c) (109 + 5 * K2 + 3) d) (109 + 5 * K2 + 4) e) 108 (nI (K2 + 1))) := by
  obtain ⟨⟨a0, a1, a2, a3⟩, ⟨b0, b1, b2, b3⟩, ⟨c0, c1, c2, c3⟩, d0, d1, d2, e0, e2, q⟩ := p
  rw [b2]
  have u : ∀ j, j ≠ 2 → ud f 2 (upd (upd (upd (upd (upd (f 2) (5 * K2) a) (5 * K2 + 1) b) (5 * K2 + 1 + 1) c) (5 * K2 + 1 + 1 + 1) d) (5 * K2 + 1 + 1 + 1 + 1) e) j = f j := fun j hj => ud_n hj
  have n : ∀ x, x < 108 ∨ 139 ≤ x → upd (upd (upd (upd (upd (upd T (109 + 5 * K2) a) (109 + 5 * K2 + 1) b) (109 + 5 * K2 + 2) c) (109 + 5 * K2 + 3) d) (109 + 5 * K2 + 4) e) 108 (nI (K2 + 1)) x = T x := fun x hx => by rw [pk_un (by omega), pk_un (by omega), pk_un (by omega), pk_un (by omega), pk_un (by omega), pk_un (by omega)]
  refine ⟨⟨a0, a1, by omega, a3⟩, ⟨(un_n (by decide)).trans b0, (un_n (by decide)).trans b1, (un_s _ _ _).trans (by omega), (un_n (by decide)).trans b3⟩, ⟨(n _ (by omega)).trans c0, (n _ (by omega)).trans c1, pk_us, (n _ (by omega)).trans c3⟩, fun x hx => ?_, fun x hx => ?_, fun x hx => ?_, fun k hk => ?_, fun k hk => ?_, fun k hk => ?_⟩
  · rw [n _ (by omega), u 0 (by decide)]; exact d0 x hx
  · rw [n _ (by omega), u 1 (by decide)]; exact d1 x hx
  · rw [ud_s, pk_un (by omega)]
    by_cases x5 : x = 5 * K2 + 1 + 1 + 1 + 1
    · rw [x5, show 109 + (5 * K2 + 1 + 1 + 1 + 1) = 109 + 5 * K2 + 4 by omega, pk_us, pk_us]
    · rw [pk_un x5, pk_un (by omega)]
      by_cases x4 : x = 5 * K2 + 1 + 1 + 1
      · rw [x4, show 109 + (5 * K2 + 1 + 1 + 1) = 109 + 5 * K2 + 3 by omega, pk_us, pk_us]
      · rw [pk_un x4, pk_un (by omega)]
        by_cases x3 : x = 5 * K2 + 1 + 1
        · rw [x3, show 109 + (5 * K2 + 1 + 1) = 109 + 5 * K2 + 2 by omega, pk_us, pk_us]
        · rw [pk_un x3, pk_un (by omega)]
          by_cases x2 : x = 5 * K2 + 1
          · rw [x2, show 109 + (5 * K2 + 1) = 109 + 5 * K2 + 1 by omega, pk_us, pk_us]
          · rw [pk_un x2, pk_un (by omega)]
            by_cases x1 : x = 5 * K2
            · rw [x1, pk_us, pk_us]
            · rw [pk_un x1, pk_un (by omega)]; exact d2 x (by omega)
  · rw [u 0 (by decide)]; exact e0 k hk
  · rw [ud_s, pk_un (by omega)]
    by_cases y : k = K2
    · rw [y, show 5 * K2 + 3 = 5 * K2 + 1 + 1 + 1 by omega, pk_us]; exact hd
    · rw [pk_un (by omega), pk_un (by omega), pk_un (by omega), pk_un (by omega)]; exact e2 k (by omega)
  · rw [u 3 (by decide)]
    exact PR_c hR hN (q k hk) (fun _ _ => rfl) (fun c hc => n _ (by omega))
theorem RK_fo0 {R N K0 K1 K2 K3 : Nat} {F : Nat → Nat} {f : Nat → Nat → Int32} {T : Nat → Int32} (hR : R ≤ 3) (hN : N ≤ 6) (p : RK R N K0 K1 K2 K3 F f T) : RK R N 0 K1 K2 K3 (un F 0 0) f (upd T 56 (nI 0)) := by
  obtain ⟨⟨a0, a1, a2, a3⟩, ⟨b0, b1, b2, b3⟩, ⟨c0, c1, c2, c3⟩, d0, d1, d2, e0, e2, q⟩ := p
  refine ⟨⟨by omega, a1, a2, a3⟩, ⟨un_s _ _ _, (un_n (by decide)).trans b1, (un_n (by decide)).trans b2, (un_n (by decide)).trans b3⟩, ⟨pk_us, (pk_un (by decide)).trans c1, (pk_un (by decide)).trans c2, (pk_un (by decide)).trans c3⟩, fun c hc => absurd hc (by omega), fun c hc => (pk_un (by omega)).trans (d1 c hc), fun c hc => (pk_un (by omega)).trans (d2 c hc), fun k hk => absurd hk (by omega), e2, fun k hk => PR_c hR hN (q k hk) (fun _ _ => rfl) (fun c hc => pk_un (by omega))⟩
theorem RK_fo1 {R N K0 K1 K2 K3 : Nat} {F : Nat → Nat} {f : Nat → Nat → Int32} {T : Nat → Int32} (hR : R ≤ 3) (hN : N ≤ 6) (p : RK R N K0 K1 K2 K3 F f T) : RK R N K0 0 K2 K3 (un F 1 0) f (upd T 77 (nI 0)) := by
  obtain ⟨⟨a0, a1, a2, a3⟩, ⟨b0, b1, b2, b3⟩, ⟨c0, c1, c2, c3⟩, d0, d1, d2, e0, e2, q⟩ := p
  refine ⟨⟨a0, by omega, a2, a3⟩, ⟨(un_n (by decide)).trans b0, un_s _ _ _, (un_n (by decide)).trans b2, (un_n (by decide)).trans b3⟩, ⟨(pk_un (by decide)).trans c0, pk_us, (pk_un (by decide)).trans c2, (pk_un (by decide)).trans c3⟩, fun c hc => (pk_un (by omega)).trans (d0 c hc), fun c hc => absurd hc (by omega), fun c hc => (pk_un (by omega)).trans (d2 c hc), e0, e2, fun k hk => PR_c hR hN (q k hk) (fun _ _ => rfl) (fun c hc => pk_un (by omega))⟩
theorem RK_fo2 {R N K0 K1 K2 K3 : Nat} {F : Nat → Nat} {f : Nat → Nat → Int32} {T : Nat → Int32} (hR : R ≤ 3) (hN : N ≤ 6) (p : RK R N K0 K1 K2 K3 F f T) : RK R N K0 K1 0 K3 (un F 2 0) f (upd T 108 (nI 0)) := by
  obtain ⟨⟨a0, a1, a2, a3⟩, ⟨b0, b1, b2, b3⟩, ⟨c0, c1, c2, c3⟩, d0, d1, d2, e0, e2, q⟩ := p
  refine ⟨⟨a0, a1, by omega, a3⟩, ⟨(un_n (by decide)).trans b0, (un_n (by decide)).trans b1, un_s _ _ _, (un_n (by decide)).trans b3⟩, ⟨(pk_un (by decide)).trans c0, (pk_un (by decide)).trans c1, pk_us, (pk_un (by decide)).trans c3⟩, fun c hc => (pk_un (by omega)).trans (d0 c hc), fun c hc => (pk_un (by omega)).trans (d1 c hc), fun c hc => absurd hc (by omega), e0, fun k hk => absurd hk (by omega), fun k hk => PR_c hR hN (q k hk) (fun _ _ => rfl) (fun c hc => pk_un (by omega))⟩
def HC (H R N : Nat) (D : Nat → Nat → Int32) (F : Nat → Nat) (f : Nat → Nat → Int32) (T : Nat → Int32) : Prop := CO H R N D T ∧ ∃ K0 K1 K2 K3, RK R N K0 K1 K2 K3 F f T
theorem HC_cp {H R N : Nat} {D E : Nat → Nat → Int32} {F F' : Nat → Nat} {f f' : Nat → Nat → Int32} {T T' : Nat → Int32} (h : HC H R N D F f T) (e : ∀ c, c < 292 → T' c = T c) : HC H R N (tk E D) (hk F' F) (fk f' f F) T' := by
  obtain ⟨c, K0, K1, K2, K3, p⟩ := h
  have hR := c.2.1.1
  have hN := c.2.1.2.1
  refine ⟨CO_c (CO_D c (ERl_tk hR hN E D)) (fun q hq => e q (by omega)), K0, K1, K2, K3, RK_c hR hN p (fun j hj => ?_) (fun j hj x hx => ?_) (fun q _ hq => e q hq)⟩
  · unfold hk
    have : j = 0 ∨ j = 1 ∨ j = 2 ∨ j = 3 := by omega
    rcases this with rfl | rfl | rfl | rfl <;> rfl
  · unfold fk
    have : j = 0 ∨ j = 1 ∨ j = 2 ∨ j = 3 := by omega
    rcases this with rfl | rfl | rfl | rfl
    · rw [ud_n (by decide), ud_n (by decide), ud_n (by decide), ud_s, pk_cpy_in (by omega) (by omega), Nat.zero_add, Nat.sub_zero]
    · rw [ud_n (by decide), ud_n (by decide), ud_s, pk_cpy_in (by omega) (by omega), Nat.zero_add, Nat.sub_zero]
    · rw [ud_n (by decide), ud_s, pk_cpy_in (by omega) (by omega), Nat.zero_add, Nat.sub_zero]
    · rw [ud_s, pk_cpy_in (by omega) (by omega), Nat.zero_add, Nat.sub_zero]
theorem HC_T {H R N : Nat} {D : Nat → Nat → Int32} {F : Nat → Nat} {f : Nat → Nat → Int32} {T T' : Nat → Int32} (h : HC H R N D F f T) (e : ∀ c, c < 292 → T' c = T c) : HC H R N D F f T' := by
  obtain ⟨c, K0, K1, K2, K3, p⟩ := h
  exact ⟨CO_c c (fun q hq => e q (by omega)), K0, K1, K2, K3, RK_T c.2.1.1 c.2.1.2.1 p (fun q _ hq => e q hq)⟩
