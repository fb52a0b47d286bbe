/-! ===== both sides: type clear read image from ===== -/
theorem st_type {L c1 c2 : Nat} {xs : Nat → Int32} {X : icH} (I : INV L xs c1 c2 X) (a0 : Int32) : STi L xs c1 c2 74 158 [.int a0] [.int a0] X := by
  obtain ⟨ab, be, ii, A, H, R, N, D, F, f, i⟩ := I
  have h0 := i.1.1
  obtain ⟨z, t, s, e, v, nb, tb, b, t1, t2, t3, t4, t5, t6⟩ := i.1.2.2.2.2.2.2.1
  by_cases hw : nI 0 ≤ a0 ∧ a0 ≤ nI 127
  · obtain ⟨k, -, hk, rfl⟩ := W_of (by decide) (by decide) hw
    by_cases q : z < 150
    · have x := x_type h0 t1 t3 q (c := k) (by omega) H R N D F f
      rw [i.1.2.1] at x
      have g : ∀ a, a ≠ 24 → a ≠ 25 → hg (HH (hput (hput X 25 (.inl (1, 150, upd tb z (nI k)))) 24 (to6 (z + 1) t s e v)) 1 H R N D F f) a = hg X a := fun a a1 a2 => by
        rw [← hp_HH (by omega), ← hp_HH (by omega), i.1.2.1, hg_p a1, hg_p a2]
      obtain ⟨h0, h1, h2, h3, h4, h5, h6, h7⟩ := i.1
      refine S_mk i x (FR_t (FR_t (FR_p (by decide) _) (FR_p (by decide) _)) (FR_H (by decide) H R N D F f)) (m_type t5 q (by omega) _ 90 ab be) ⟨(g _ (by omega) (by omega)).trans h0, HH_id _ _ _ _ _ _ _ _, by rw [ud_n (by decide)]; exact h2, SCR_ag h3 (fun a _ _ => g a (by omega) (by omega)), FIX_ag h4 (fun a _ => g a (by omega) (by omega)), REF_ag h5 (g _ (by omega) (by omega)) (ud_n (by decide)), ?_, KEP_ag h7 (fun a _ => g a (by omega) (by omega)) (ud_n (by decide)) (ud_n (by decide))⟩
      refine ⟨z + 1, t, s, e, v, nb, upd tb z (nI k), fun j => if j = z then k else b j, ?_, (g _ (by omega) (by omega)).trans t2, ?_, by omega, rfl, fun j hj => ?_⟩
      · rw [HH_n (by omega)]; exact hg_s _ _ _
      · rw [HH_n (by omega), hg_p (by decide)]; exact hg_s _ _ _
      · rw [ud_s]
        by_cases y : j = z
        · rw [y, pk_us, pk_us]
          show nI k = nI (if z = z then k else b z) ∧ nI k = nI (if z = z then k else b z) ∧ (if z = z then k else b z) < 128
          rw [if_pos rfl]
          exact ⟨rfl, rfl, by omega⟩
        · rw [pk_un y, pk_un y]
          show tb j = nI (if j = z then k else b j) ∧ A 5 j = nI (if j = z then k else b j) ∧ (if j = z then k else b j) < 128
          rw [if_neg y]
          exact t6 j (by omega)
    · have : z = 150 := by omega
      subst this
      exact S_ref 2 (by decide) i (fun rf h27 => x_typeF h0 h27 t1 (by omega) H R N D F f) (fun Y => m_typeF t5 (by omega) Y 90 ab be)
  · exact S_ref 0 (by decide) i (fun rf h27 => xb_type h0 h27 a0 hw D F f) (fun Y => mb_type a0 hw Y 90 ab be ii)
theorem st_clear {L c1 c2 : Nat} {xs : Nat → Int32} {X : icH} (I : INV L xs c1 c2 X) : STi L xs c1 c2 75 159 [dum] [dum] X := by
  obtain ⟨ab, be, ii, A, H, R, N, D, F, f, i⟩ := I
  have h0 := i.1.1
  obtain ⟨z, t, s, e, v, nb, tb, b, t1, t2, t3, t4, t5, t6⟩ := i.1.2.2.2.2.2.2.1
  have x := x_clear h0 t1 H R N D F f
  rw [i.1.2.1] at x
  have g : ∀ a, a ≠ 24 → hg (HH (hput X 24 (to6 0 t s e v)) 1 H R N D F f) a = hg X a := fun a a1 => by
    rw [← hp_HH (by omega), i.1.2.1, hg_p a1]
  obtain ⟨h0, h1, h2, h3, h4, h5, h6, h7⟩ := i.1
  refine S_mk i x (FR_t (FR_p (by decide) _) (FR_H (by decide) H R N D F f)) (ii' := i6 (nI 0) (ii 1) (ii 2) (ii 3) (ii 4) (ii 5)) (A' := A) (ab' := ab) (be' := be) ?_ ⟨(g _ (by omega)).trans h0, HH_id _ _ _ _ _ _ _ _, h2, SCR_ag h3 (fun a _ _ => g a (by omega)), FIX_ag h4 (fun a _ => g a (by omega)), REF_ag h5 (g _ (by omega)) rfl, ?_, KEP_ag h7 (fun a _ => g a (by omega)) rfl rfl⟩
  · rw [← t5]; exact m_clear _ 90 ab be ii
  · refine ⟨0, t, s, e, v, nb, tb, b, ?_, (g _ (by omega)).trans t2, (g _ (by omega)).trans t3, by omega, rfl, fun j hj => absurd hj (Nat.not_lt_zero j)⟩
    rw [HH_n (by omega)]; exact hg_s _ _ _
theorem st_image {L c1 c2 : Nat} {xs : Nat → Int32} {X : icH} (I : INV L xs c1 c2 X) (a0 : Int32) : STi L xs c1 c2 108 213 [.int a0] [.int a0] X := by
  obtain ⟨ab, be, ii, A, H, R, N, D, F, f, i⟩ := I
  have h0 := i.1.1
  by_cases hw : nI 0 ≤ a0 ∧ a0 ≤ nI 1
  · obtain ⟨k, -, hk1, rfl⟩ := W_of (by decide) (by decide) hw
    obtain ⟨h0, h1, h2, h3, h4, h5, h6, kp, k1, k2⟩ := i.1
    obtain ⟨⟨gg, g1, g2⟩, -⟩ := h4
    obtain ⟨k3, Hi, Ri, Ni, Di, Fi, fi, k4, k5⟩ := k2 k (by omega)
    obtain ⟨c, K0, K1, K2, K3, p⟩ := h2
    have x := x_image (i := k) (by omega) h0 g1 (g2 k (by omega)) k1 (RK_F p) Hi Ri Ni Di Fi fi H R N D f
    rw [k4, h1] at x
    have u1 : 48 ≤ iu k ∧ iu k ≤ 69 := by unfold iu; omega
    have g : ∀ a, a ≠ 23 → a < iu k ∨ iu k + 20 < a → hg (HH (HH (hput X 23 (az 2 (upd kp k (nI 1)))) (iu k) H R N (tk Di D) (hk Fi F) (fk fi f F)) 1 H R N D F f) a = hg X a := fun a a1 a2 => by
      rw [HH_HH (by omega), HH_n a2, ← hp_HH (by omega), h1, hg_p a1]
    refine S_mk i x (FR_t (FR_t (FR_p (by decide) _) (FR_H (by omega) H R N _ _ _)) (FR_H (by decide) H R N D F f)) (m_image (by omega) _ 90 ab be ii) ⟨(g _ (by omega) (by omega)).trans h0, HH_id _ _ _ _ _ _ _ _, by rw [ud_n (by decide), ud_n (by decide)]; exact ⟨c, K0, K1, K2, K3, p⟩, SCR_ag h3 (fun a _ _ => g a (by omega) (by omega)), FIX_ag i.1.2.2.2.2.1 (fun a _ => g a (by omega) (by omega)), REF_ag h5 (g _ (by omega) (by omega)) ((ud_n (by decide)).trans (ud_n (by decide))), TXT_ag h6 (fun a _ _ => g a (by omega) (by omega)) rfl ((ud_n (by decide)).trans (ud_n (by decide))), ?_⟩
    refine ⟨upd kp k (nI 1), ?_, fun j hj => ?_⟩
    · rw [HH_n (by omega), HH_n (by omega)]; exact hg_s _ _ _
    · rw [ud_s, ud_n (by decide), ud_s]
      by_cases y : j = k
      · subst y
        refine ⟨by rw [pk_us, pk_us], H, R, N, tk Di D, hk Fi F, fk fi f F, ?_, fun _ => ?_⟩
        · rw [HH_HH (by omega), HH_id]
        · exact HC_cp ⟨c, K0, K1, K2, K3, p⟩ (fun q hq => by rw [pk_cpy_in (by omega) (by omega)]; exact congrArg (A 1) (by omega))
      · obtain ⟨k6, Hj, Rj, Nj, Dj, Fj, fj, k7, k8⟩ := k2 j hj
        have u2 : 48 ≤ iu j ∧ iu j ≤ 69 ∧ (iu j + 20 < iu k ∨ iu k + 20 < iu j) := by unfold iu; omega
        refine ⟨by rw [pk_un y, pk_un y]; exact k6, Hj, Rj, Nj, Dj, Fj, fj, HH_ag k7 (fun a a1 a2 => g a (by omega) (by omega)), fun z => ?_⟩
        rw [pk_un y] at z
        exact HC_T (k8 z) (fun q hq => pk_cpy_out (by omega))
  · exact S_ref 0 (by decide) i (fun rf h27 => xb_image h0 h27 a0 hw D F f) (fun Y => mb_image a0 hw Y 90 ab be ii)
theorem st_from {L c1 c2 : Nat} {xs : Nat → Int32} {X : icH} (I : INV L xs c1 c2 X) (a0 : Int32) : STi L xs c1 c2 109 214 [.int a0] [.int a0] X := by
  obtain ⟨ab, be, ii, A, H, R, N, D, F, f, i⟩ := I
  have h0 := i.1.1
  by_cases hw : nI 0 ≤ a0 ∧ a0 ≤ nI 1
  · obtain ⟨k, -, hk, rfl⟩ := W_of (by decide) (by decide) hw
    obtain ⟨-, h1, h2, h3, ⟨⟨gg, g1, g2⟩, -⟩, h5, h6, kp, k1, k2⟩ := i.1
    obtain ⟨k3, Hi, Ri, Ni, Di, Fi, fi, k4, k5⟩ := k2 k (by omega)
    by_cases q : kp k = 0
    · exact S_ref 1 (by decide) i (fun rf h27 => x_fromN (by omega) h0 h27 k1 q H R N D F f) (fun Y => m_fromN (by omega) (k3.trans q) Y 90 ab be ii)
    · have hc := k5 q
      obtain ⟨c, K0, K1, K2, K3, p⟩ := hc
      have x := x_from (i := k) (by omega) h0 g1 (g2 k (by omega)) k1 q (RK_F p) Hi Ri Ni Di fi H R N D F f
      rw [k4] at x
      exact S_now i x (fun Y => m_from (by omega) (by rw [k3]; exact q) Y 90 ab be ii) (HC_cp ⟨c, K0, K1, K2, K3, p⟩ (fun y hy => by rw [pk_cpy_in (by omega) (by omega)]; exact congrArg (A 3) (by omega)))
  · exact S_ref 0 (by decide) i (fun rf h27 => xb_from h0 h27 a0 hw D F f) (fun Y => mb_from a0 hw Y 90 ab be ii)
theorem st_read {L c1 c2 : Nat} {xs : Nat → Int32} {X : icH} (I : INV L xs c1 c2 X) : STi L xs c1 c2 76 168 [dum] [] X := by
  obtain ⟨ab, be, ii, A, H, R, N, D, F, f, i⟩ := I
  obtain ⟨h0, h1, h2, h3, h4, h5, ⟨z, t, s, e, v, nb, tb, b, t1, t2, t3, t4, t5, t6⟩, h7⟩ := i.1
  obtain ⟨c, K0, K1, K2, K3, p⟩ := h2
  obtain ⟨⟨Ht, Rt, Nt, E, s1⟩, s2⟩ := h3
  have key : HH (HT X z t s e v nb Ht Rt Nt E) 1 H R N D F f = X := by unfold HT; rw [hp_id t1, hp_id t2, s1, h1]
  have mi : ∀ Y, HM Y 90 ab be (i6 (nI z) (ii 1) (ii 2) (ii 3) (ii 4) (ii 5)) A = HM Y 90 ab be ii A := fun Y => by rw [← t5]; rfl
  have J := fun h' => j_rd h0 t3 (fun k hk => ⟨(t6 k hk).1, (t6 k hk).2.2⟩) t4 (RK_F p) (A := A) (fun k hk => ⟨(t6 k hk).2.1, (t6 k hk).2.2⟩) h' 90 ab be Ht Rt Nt E t s e v nb H R N D f (ii 1) (ii 2) (ii 3) (ii 4) (ii 5)
  have fr : ∀ (t' s' e' v' : Int32) (nb' : Nat → Int32) (H' R' N' : Nat) (E' : Nat → Nat → Int32) (G S M : Nat) (B : Nat → Nat → Int32) (P : Nat → Nat), FR X (HH (HT X z t' s' e' v' nb' H' R' N' E') 1 G S M B P f) := fun t' s' e' v' nb' H' R' N' E' G S M B P => FR_t (FR_t (FR_t (FR_p (by decide) _) (FR_p (by decide) _)) (FR_E H' R' N' E')) (FR_H (by decide) G S M B P f)
  have g : ∀ (t' s' e' v' : Int32) (nb' : Nat → Int32) (H' R' N' : Nat) (E' : Nat → Nat → Int32) (G S M : Nat) (B : Nat → Nat → Int32) (P : Nat → Nat) (a : Nat), a ≠ 24 → a ≠ 26 → (a < 1 ∨ 21 < a) → (a < 28 ∨ 39 < a) → hg (HH (HT X z t' s' e' v' nb' H' R' N' E') 1 G S M B P f) a = hg X a := fun t' s' e' v' nb' H' R' N' E' G S M B P a a1 a2 a3 a4 => by
    unfold HT
    rw [HH_n (by omega), HE_n (by omega), hg_p a2, hg_p a1]
  have K : ∀ (t' s' e' v' : Int32) (nb' : Nat → Int32) (H' R' N' : Nat) (E' : Nat → Nat → Int32) (G S M : Nat) (B : Nat → Nat → Int32) (P : Nat → Nat) (A' : Nat → Nat → Int32) (y1 y2 y3 y4 y5 : Int32), (∀ a, a ≠ 1 → a ≠ 7 → a ≠ 8 → a ≠ 9 → A' a = A a) → HC G S M B P f (A' 1) → CI (HH (HT X z t' s' e' v' nb' H' R' N' E') 1 G S M B P f) ab be (i6 (nI z) y1 y2 y3 y4 y5) A' G S M B P f := fun t' s' e' v' nb' H' R' N' E' G S M B P A' y1 y2 y3 y4 y5 eA hc => by
    have g' := g t' s' e' v' nb' H' R' N' E' G S M B P
    refine ⟨(g' _ (by omega) (by omega) (by omega) (by omega)).trans h0, HH_id _ _ _ _ _ _ _ _, hc, ⟨⟨H', R', N', E', ?_⟩, ?_⟩, FIX_ag h4 (fun a _ => g' a (by omega) (by omega) (by omega) (by omega)), REF_ag h5 (g' _ (by omega) (by omega) (by omega) (by omega)) (eA 6 (by decide) (by decide) (by decide) (by decide)), ⟨z, t', s', e', v', nb', tb, b, ?_, ?_, (g' _ (by omega) (by omega) (by omega) (by omega)).trans t3, t4, rfl, ?_⟩, KEP_ag h7 (fun a _ => g' a (by omega) (by omega) (by omega) (by omega)) (eA 4 (by decide) (by decide) (by decide) (by decide)) (eA 3 (by decide) (by decide) (by decide) (by decide))⟩
    · rw [HE_HH (by omega)]; unfold HT; rw [HE_id]
    · obtain ⟨⟨q1, z1⟩, ⟨q2, z2⟩, ⟨q3, z3⟩, ⟨q4, z4⟩, ⟨q5, z5⟩⟩ := s2
      exact ⟨⟨q1, (g' _ (by omega) (by omega) (by omega) (by omega)).trans z1⟩, ⟨q2, (g' _ (by omega) (by omega) (by omega) (by omega)).trans z2⟩, ⟨q3, (g' _ (by omega) (by omega) (by omega) (by omega)).trans z3⟩, ⟨q4, (g' _ (by omega) (by omega) (by omega) (by omega)).trans z4⟩, ⟨q5, (g' _ (by omega) (by omega) (by omega) (by omega)).trans z5⟩⟩
    · unfold HT; rw [HH_n (by omega), HE_n (by omega), hg_p (by decide)]; exact hg_s _ _ _
    · unfold HT; rw [HH_n (by omega), HE_n (by omega)]; exact hg_s _ _ _
    · rw [eA 5 (by decide) (by decide) (by decide) (by decide)]; exact t6
  obtain ⟨w, Z, hz⟩ : ∃ w Z, icE 76 0 [.ref 0, dum] [] X = some (w, Z) := by
    rcases J X with ⟨q, t', s', e', v', nb', H', R', N', E', y1, y2, y3, y4, y5, A', r1, -⟩ | ⟨n, H', R', N', E', t', s', e', v', nb', y1, y2, y3, y4, y5, A', r1, -⟩
    · rw [key] at r1; exact ⟨_, _, r1⟩
    · rw [key] at r1; exact ⟨_, _, r1⟩
  rcases J Z with ⟨q, t', s', e', v', nb', H', R', N', E', y1, y2, y3, y4, y5, A', r1, r2, r3, r4⟩ | ⟨n, H', R', N', E', t', s', e', v', nb', y1, y2, y3, y4, y5, A', r1, r2, r3, r4, r5⟩
  · rw [key] at r1
    have zz : Z = _ := congrArg Prod.snd (Option.some.inj (hz.symm.trans r1))
    subst zz
    rw [mi] at r2
    exact S_mk i r1 (fr _ _ _ _ _ _ _ _ _ _ _ _ _ _) r2 (K t' s' e' v' nb' H' R' N' E' H R N D F A' y1 y2 y3 y4 y5 r3 (HC_T ⟨c, K0, K1, K2, K3, p⟩ r4))
  · rw [key] at r1
    have zz : Z = _ := congrArg Prod.snd (Option.some.inj (hz.symm.trans r1))
    subst zz
    rw [mi] at r2
    exact S_mk i r1 (fr _ _ _ _ _ _ _ _ _ _ _ _ _ _) r2 (K t' s' e' v' nb' H' R' N' E' H' R' N' (tk (ud D 1 (fil (D 1) (-1) 0 8)) E') (fun i => if i < 4 then 0 else F i) A' y1 y2 y3 y4 y5 r3 ⟨CO_D r5 (ERl_tk r5.2.1.1 r5.2.1.2.1 _ _), 0, 0, 0, 0, RK_z (fun j hj => if_pos hj) r4⟩)
