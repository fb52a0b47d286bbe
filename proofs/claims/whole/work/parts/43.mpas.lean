/-! ===== the reference: an hour passes ===== -/
theorem c_mwat {x s : Int32} {σ : Nat} (hx : kd 6 x) (hs : s = nI σ) (hσ : σ < 2 ^ 30) (w q : Int32) (h : icH) : icE 145 0 [.int x, .int w, .int q, .int s, dum, dum, dum] [] h = some (some (.int (wat (kn x) w q s)), h) := by
  subst hs
  have := c_mwater hx.2 hσ w q h
  rwa [← hx.1] at this
theorem c_mmor {x : Int32} (hx : kd 6 x) (l w q : Int32) (h : icH) : icE 146 0 [.int x, .int l, .int w, .int q, dum, dum] [] h = some (some (.int (mor (kn x) l w q)), h) := by
  have := c_mmore hx.2 l w q h
  rwa [← hx.1] at this
theorem HMt {t : Nat} (ht : t = 1 ∨ t = 2) (h : icH) (m : Nat) (ab be : Int64) (i : Nat → Int32) (A : Nat → Nat → Int32) : hg (HM h m ab be i A) (m + t) = some (ai (ms t) (A t)) := by
  rcases ht with rfl | rfl <;> exact HM_c (by decide) (by decide) h m ab be i A
theorem HMtw {t : Nat} (ht : t = 1 ∨ t = 2) (h : icH) (m : Nat) (ab be : Int64) (i : Nat → Int32) (A : Nat → Nat → Int32) (f : Nat → Int32) : hput (HM h m ab be i A) (m + t) (ai (ms t) f) = HM h m ab be i (ud A t f) := by
  rcases ht with rfl | rfl <;> exact HM_w (by decide) (by decide) h m ab be i A f
theorem ms_t {t : Nat} (ht : t = 1 ∨ t = 2) : 56 ≤ ms t ∧ ms t < 2 ^ 31 := by
  rcases ht with rfl | rfl <;> decide
theorem ud_c {A : Nat → Nat → Int32} {a b : Nat} {f g : Nat → Int32} (hab : a ≠ b) : ud (ud A a f) b g = ud (ud A b g) a f := by
  funext c; unfold ud; by_cases h1 : c = a <;> by_cases h2 : c = b <;> simp_all
def bs (a : Nat) : Nat := if a = 1 then 1 else if a ≤ 4 then 5 + 3 * a else 6 * a - 16
def vw (T W : Nat → Int32) : Nat → Nat → Int32 := fun a => if a = 5 then W else fun j => T (bs a + j)
theorem pw_o {f : Nat → Int32} {b : Nat} {g : Nat → Int32} {i c : Nat} (hc : c < b ∨ b + i ≤ c) : pw f b g i c = f c := by
  unfold pw; rw [if_neg (by omega)]
theorem pw_i {f : Nat → Int32} {b : Nat} {g : Nat → Int32} {i c : Nat} (hc : c < i) : pw f b g i (b + c) = g c := by
  unfold pw; rw [if_pos (by omega), Nat.add_sub_cancel_left]
theorem pw_u {f : Nat → Int32} {b : Nat} {g : Nat → Int32} {i c : Nat} {v : Int32} (hc : c < b ∨ b + i ≤ c) : pw (upd f c v) b g i = upd (pw f b g i) c v := by
  funext x
  unfold pw upd
  by_cases h1 : x = c
  · subst h1; rw [if_neg (by omega), if_pos rfl, if_pos rfl]
  · rw [if_neg h1, if_neg h1]
def m1 (T W : Nat → Int32) (w : Int32) (n : Nat) : Nat → Int32 := pw T 17 (fun r => T (17 + r) - wtr (vw T W) w r) n
def m7 (T W : Nat → Int32) (w : Int32) (n : Nat) : Nat → Int32 := fun r => if r < n then wtr (vw T W) w r else W r
def gl (T W : Nat → Int32) (w : Int32) (i : Nat) : Int32 := if T (50 + i) = 0 then imx (lng (vw T W) w i) (nI 0) else T (38 + i)
def gX (T W : Nat → Int32) (w : Int32) (i : Nat) : Int32 := if T (50 + i) = 0 then gx (vw T W) w i else T (50 + i)
def m2 (T W : Nat → Int32) (w : Int32) (n : Nat) : Nat → Int32 := pw (pw T 38 (gl T W w) n) 50 (gX T W w) n
def cf (T W : Nat → Int32) (w : Int32) : Nat → Nat
  | 0 => 0
  | n + 1 => cf T W w n + (if T (50 + n) = 0 ∧ gx (vw T W) w n = nI 2 then 1 else 0)
theorem m2_s {T W : Nat → Int32} {w : Int32} {n : Nat} (hn : n < 6) : m2 T W w (n + 1) = upd (upd (m2 T W w n) (38 + n) (gl T W w n)) (50 + n) (gX T W w n) := by
  unfold m2
  rw [← pw_s (pw T 38 (gl T W w) (n + 1)) 50 (gX T W w) n, ← pw_s T 38 (gl T W w) n, pw_u (by omega)]
theorem c_warmthOf {t H : Nat} (ht : t = 1 ∨ t = 2) (hH : H < 2 ^ 31) (h : icH) (m : Nat) (ab be : Int64) (ii : Nat → Int32) (A : Nat → Nat → Int32) : icE 147 0 [.ref (m + t), .int (nI H)] [] (HM h m ab be ii A) = some (some (.int (A t (1 + H % 8))), HM h m ab be ii A) := by
  have hm := ms_t ht
  simp only [SA, rw_147, HMt ht, if_neg (show ¬ nI 8 = 0 by decide), pk_rem hH (show 0 < 8 by decide) (show 8 < 2 ^ 31 by decide), nI_add, ia_n (show 1 + H % 8 < ms t by omega) hm.2]
theorem c_waterOfM {t r σ : Nat} (ht : t = 1 ∨ t = 2) (hr : r < 3) (w : Int32) (h : icH) (m : Nat) (ab be : Int64) (ii : Nat → Int32) {A : Nat → Nat → Int32} (hk : kd 6 (A t (11 + r))) (hs : A t (17 + r) = nI σ) (hσ : σ < 2 ^ 30) : icE 148 0 [.ref (m + t), .int (nI r), .int w] [] (HM h m ab be ii A) = some (some (.int (wat (kn (A t (11 + r))) w (A t (14 + r)) (A t (17 + r)))), HM h m ab be ii A) := by
  have hm := ms_t ht
  simp only [SA, rw_148, HMt ht, nI_add, ia_n (show 11 + r < ms t by omega) hm.2, ia_n (show 14 + r < ms t by omega) hm.2, ia_n (show 17 + r < ms t by omega) hm.2, c_mwat hk hs hσ]
def TOK (R N : Nat) (T : Nat → Int32) : Prop := T 9 = nI R ∧ T 10 = nI N ∧ R ≤ 3 ∧ N ≤ 6 ∧ (∀ r, r < R → kd 6 (T (11 + r))) ∧ (∀ r, r < R → kd 61 (T (17 + r))) ∧ (∀ i, i < N → kd 6 (T (26 + i))) ∧ (∀ i, i < N → kd R (T (20 + i)))
theorem l_mp1 {t R N : Nat} (ht : t = 1 ∨ t = 2) {T W : Nat → Int32} (hT : TOK R N T) (w : Int32) (h : icH) (m : Nat) (ab be : Int64) (ii : Nat → Int32) (A : Nat → Nat → Int32) : ∀ (n i : Nat), i + n = R → icE 149 12 [.ref m, .ref (m + t), .int w, .int (nI 0), .int (nI i)] [] (HM h m ab be ii (ud (ud A t (m1 T W w i)) 7 (m7 T W w i))) = icE 149 61 [.ref m, .ref (m + t), .int w, .int (nI 0), .int (nI 0)] [] (HM h m ab be ii (ud (ud A t (m1 T W w R)) 7 (m7 T W w R)))
  | 0, i, him => by
    have : i = R := by omega
    subst this
    have hm := ms_t ht
    have h7 : t ≠ 7 := by omega
    have e9 : m1 T W w i 9 = nI i := (pw_o (by omega)).trans hT.1
    have hR := hT.2.2.1
    rw [rh_149_12]
    simp only [SA, rw_149, HMt ht, ia_n (show 9 < ms t by omega) hm.2, ud_n h7, ud_s, e9, if_pos (nI_le (Nat.le_refl i) (show i < 2 ^ 31 by omega))]
  | n + 1, i, him => by
    have ih := l_mp1 (W := W) ht hT w h m ab be ii A n (i + 1) (by omega)
    obtain ⟨h9, h10, hR, hN, hk, hs, hki, hro⟩ := hT
    have hm := ms_t ht
    have h7 : t ≠ 7 := by omega
    have h7' : 7 ≠ t := by omega
    have hi : i < R := by omega
    have e9 : m1 T W w i 9 = nI R := (pw_o (by omega)).trans h9
    have e11 : m1 T W w i (11 + i) = T (11 + i) := pw_o (by omega)
    have e14 : m1 T W w i (14 + i) = T (14 + i) := pw_o (by omega)
    have e17 : m1 T W w i (17 + i) = T (17 + i) := pw_o (by omega)
    have cw := c_waterOfM ht (show i < 3 by omega) w h m ab be ii (A := ud (ud A t (m1 T W w i)) 7 (m7 T W w i)) (by rw [ud_n h7, ud_s, e11]; exact hk i hi) (by rw [ud_n h7, ud_s, e17]; exact (hs i hi).1) (by have := (hs i hi).2; omega)
    rw [ud_n h7, ud_s, e11, e14, e17] at cw
    have hw : wat (kn (T (11 + i))) w (T (14 + i)) (T (17 + i)) = wtr (vw T W) w i := rfl
    rw [hw] at cw
    rw [rh_149_12]
    simp only [SA, rw_149, HM_o, HMr, HMt ht, ia_n (show 9 < ms t by omega) hm.2, ud_n h7, ud_s, e9, if_neg (nI_ge hi (show R < 2 ^ 31 by omega)), cw, is_n (show i < 3 by omega) (show 3 < 2 ^ 31 by decide), HMw, ud_u, nI_add, ia_n (show 17 + i < ms t by omega) hm.2, ia_n (show i < 3 by omega) (show 3 < 2 ^ 31 by decide), is_n (show 17 + i < ms t by omega) hm.2, upd_s, e17, HMtw ht]
    have e1 : upd (m7 T W w i) i (wtr (vw T W) w i) = m7 T W w (i + 1) := ifl_s (fun r => wtr (vw T W) w r) W
    have e2 : upd (m1 T W w i) (17 + i) (T (17 + i) - wtr (vw T W) w i) = m1 T W w (i + 1) := pw_s T 17 (fun r => T (17 + r) - wtr (vw T W) w r) i
    rw [e1, e2, ud_c h7', ud_u]
    exact ih
theorem imx_p {l : Int32} (hl : 0 < l) : imx l (nI 0) = l := by
  unfold imx
  rw [if_neg]
  rw [nI_0, i32_lt]; rw [i32_lt] at hl; omega
theorem imx_z {l : Int32} (hl : ¬ 0 < l) : imx l (nI 0) = nI 0 := by
  unfold imx
  rw [nI_0]
  by_cases h1 : l < 0
  · rw [if_pos h1]
  · rw [if_neg h1]
    rw [i32_lt] at hl h1
    have z : (0 : Int32).toInt = 0 := rfl
    exact Int32.toInt_inj.mp (by omega)
theorem l_mp2 {t R N : Nat} (ht : t = 1 ∨ t = 2) {T W : Nat → Int32} (hT : TOK R N T) (w : Int32) (h : icH) (m : Nat) (ab be : Int64) (ii : Nat → Int32) (A : Nat → Nat → Int32) : ∀ (n i : Nat), i + n = N → icE 149 61 [.ref m, .ref (m + t), .int w, .int (nI (cf T W w i)), .int (nI i)] [] (HM h m ab be ii (ud (ud A t (m2 T W w i)) 7 W)) = some (some (.int (nI (cf T W w N))), HM h m ab be ii (ud (ud A t (m2 T W w N)) 7 W))
  | 0, i, him => by
    have : i = N := by omega
    subst this
    have hm := ms_t ht
    have h7 : t ≠ 7 := by omega
    have e9 : m2 T W w i 10 = nI i := (pw_o (by omega)).trans ((pw_o (by omega)).trans hT.2.1)
    have hN := hT.2.2.2.1
    rw [rh_149_61]
    simp only [SA, rw_149, HMt ht, ia_n (show 10 < ms t by omega) hm.2, ud_n h7, ud_s, e9, if_pos (nI_le (Nat.le_refl i) (show i < 2 ^ 31 by omega))]
  | n + 1, i, him => by
    have ih := l_mp2 (W := W) ht hT w h m ab be ii A n (i + 1) (by omega)
    obtain ⟨h9, h10, hR, hN, hk, hs, hki, hro⟩ := hT
    have hm := ms_t ht
    have h7 : t ≠ 7 := by omega
    have h7' : 7 ≠ t := by omega
    have hi : i < N := by omega
    have o : ∀ c, c < 38 ∨ (38 + i ≤ c ∧ c < 50) ∨ 50 + i ≤ c → m2 T W w i c = T c := fun c hc => (pw_o (by omega)).trans (pw_o (by omega))
    have e10 : m2 T W w i 10 = nI N := (o 10 (by omega)).trans h10
    have e50 := o (50 + i) (by omega)
    have e38 := o (38 + i) (by omega)
    have e26 := o (26 + i) (by omega)
    have e20 := o (20 + i) (by omega)
    have e44 := o (44 + i) (by omega)
    have hl : T (38 + i) + mor (kn (T (26 + i))) (T (38 + i)) w (W (kn (T (20 + i)))) = lng (vw T W) w i := rfl
    have hcf : cf T W w (i + 1) = cf T W w i + (if T (50 + i) = 0 ∧ gx (vw T W) w i = nI 2 then 1 else 0) := rfl
    rw [m2_s (by omega), hcf] at ih
    rw [rh_149_61]
    by_cases h0 : T (50 + i) = 0
    · have g1 : gl T W w i = imx (lng (vw T W) w i) (nI 0) := if_pos h0
      have g2 : gX T W w i = gx (vw T W) w i := if_pos h0
      have q44 : upd (m2 T W w i) (38 + i) (lng (vw T W) w i) (44 + i) = T (44 + i) := (upd_n (by omega)).trans e44
      have q50 : upd (m2 T W w i) (38 + i) (lng (vw T W) w i) (50 + i) = T (50 + i) := (upd_n (by omega)).trans e50
      simp only [SA, rw_149, HM_o, HMr, HMt ht, ia_n (show 10 < ms t by omega) hm.2, ud_n h7, ud_s, e10, if_neg (nI_ge hi (show N < 2 ^ 31 by omega)), nI_add, ia_n (show 50 + i < ms t by omega) hm.2, e50, if_pos h0, ia_n (show 38 + i < ms t by omega) hm.2, e38, ia_n (show 26 + i < ms t by omega) hm.2, e26, ia_n (show 20 + i < ms t by omega) hm.2, e20, ia_k (hro i hi) hR (show 3 < 2 ^ 31 by decide), c_mmor (hki i hi), hl, is_n (show 38 + i < ms t by omega) hm.2, HMtw ht, ud_c h7', ud_u, upd_s, ia_n (show 44 + i < ms t by omega) hm.2, q44, is_n (show 50 + i < ms t by omega) hm.2]
      by_cases hp : 0 < lng (vw T W) w i
      · rw [if_pos hp]
        rw [g1, g2, imx_p hp] at ih
        have hr : vw T W 10 i = T (44 + i) := rfl
        have hr2 : vw T W 11 i = T (50 + i) := rfl
        by_cases hq : lng (vw T W) w i ≤ T (44 + i)
        · have hgx : gx (vw T W) w i = T (50 + i) := by unfold gx; rw [if_pos hp, hr, if_pos hq, hr2]
          rw [if_pos hq]
          rw [hgx, if_neg (fun z => absurd (h0.symm.trans z.2) (by decide)), Nat.add_zero, ← q50, upd_id] at ih
          exact ih
        · have hgx : gx (vw T W) w i = nI 2 := by unfold gx; rw [if_pos hp, hr, if_neg hq]
          rw [if_neg hq]
          rw [hgx, if_pos ⟨h0, rfl⟩] at ih
          exact ih
      · have hgx : gx (vw T W) w i = nI 3 := by unfold gx; rw [if_neg hp]
        rw [if_neg hp]
        rw [g1, g2, imx_z hp, hgx, if_neg (fun z => absurd z.2 (by decide)), Nat.add_zero] at ih
        have hu : ∀ (f : Nat → Int32) (a : Nat) (x y : Int32), upd (upd f a x) a y = upd f a y := by
          intro f a x y; funext b; unfold upd; split <;> rfl
        rw [hu]
        exact ih
    · have g1 : gl T W w i = m2 T W w i (38 + i) := (if_neg h0).trans e38.symm
      have g2 : gX T W w i = m2 T W w i (50 + i) := (if_neg h0).trans e50.symm
      rw [g1, g2, upd_id, upd_id, if_neg (fun z => h0 z.1), Nat.add_zero] at ih
      simp only [SA, rw_149, HM_o, HMr, HMt ht, ia_n (show 10 < ms t by omega) hm.2, ud_n h7, ud_s, e10, if_neg (nI_ge hi (show N < 2 ^ 31 by omega)), nI_add, ia_n (show 50 + i < ms t by omega) hm.2, e50, if_neg h0]
      exact ih
