/-! ===== the invariant of the law's heap ===== -/
theorem icH_ext {X Y : icH} (h1 : X.1 = Y.1) (h2 : X.2.1 = Y.2.1) (h3 : ∀ a, hg X a = hg Y a) : X = Y := Prod.ext h1 (Prod.ext h2 (funext h3))
theorem HH_ag {X Y : icH} {u H R N : Nat} {D : Nat → Nat → Int32} {F : Nat → Nat} {f : Nat → Nat → Int32} (hX : HH X u H R N D F f = X) (e : ∀ a, u ≤ a → a ≤ u + 20 → hg Y a = hg X a) : HH Y u H R N D F f = Y := by
  refine icH_ext rfl rfl (fun a => ?_)
  by_cases r : u ≤ a ∧ a ≤ u + 20
  · have e1 : hg (HH Y u H R N D F f) a = some (hc u H R N D F f a) := if_pos r
    have e2 : hg X a = some (hc u H R N D F f a) := (congrArg (fun z => hg z a) hX).symm.trans (if_pos r)
    rw [e1, e a r.1 r.2, e2]
  · exact if_neg r
theorem HH_id (X : icH) (u H R N : Nat) (D : Nat → Nat → Int32) (F : Nat → Nat) (f : Nat → Nat → Int32) : HH (HH X u H R N D F f) u H R N D F f = HH X u H R N D F f := by
  refine icH_ext rfl rfl (fun a => ?_)
  by_cases r : u ≤ a ∧ a ≤ u + 20
  · exact (if_pos r).trans (if_pos r).symm
  · exact if_neg r
theorem HE_ag {X Y : icH} {e H R N : Nat} {D : Nat → Nat → Int32} (hX : HE X e H R N D = X) (g : ∀ a, e ≤ a → a ≤ e + 11 → hg Y a = hg X a) : HE Y e H R N D = Y := by
  refine icH_ext rfl rfl (fun a => ?_)
  by_cases r : a = e
  · have e1 : hg (HE Y e H R N D) a = some (eo e H R N) := if_pos r
    have e2 : hg X a = some (eo e H R N) := (congrArg (fun z => hg z a) hX).symm.trans (if_pos r)
    rw [e1, g a (by omega) (by omega), e2]
  · by_cases q : e < a ∧ a ≤ e + 11
    · have e1 : hg (HE Y e H R N D) a = some (ai (eS (a - e)) (D (a - e))) := (if_neg r).trans (if_pos q)
      have e2 : hg X a = some (ai (eS (a - e)) (D (a - e))) := (congrArg (fun z => hg z a) hX).symm.trans ((if_neg r).trans (if_pos q))
      rw [e1, g a (by omega) (by omega), e2]
    · exact (if_neg r).trans (if_neg q)
theorem HE_id (X : icH) (e H R N : Nat) (D : Nat → Nat → Int32) : HE (HE X e H R N D) e H R N D = HE X e H R N D := by
  refine icH_ext rfl rfl (fun a => ?_)
  by_cases r : a = e
  · exact (if_pos r).trans (if_pos r).symm
  · by_cases q : e < a ∧ a ≤ e + 11
    · exact ((if_neg r).trans (if_pos q)).trans ((if_neg r).trans (if_pos q)).symm
    · exact (if_neg r).trans (if_neg q)
theorem HM_ag {X Y : icH} {m : Nat} {ab be : Int64} {i : Nat → Int32} {A : Nat → Nat → Int32} (hX : HM X m ab be i A = X) (g : ∀ a, m ≤ a → a ≤ m + 13 → hg Y a = hg X a) : HM Y m ab be i A = Y := by
  refine icH_ext rfl rfl (fun a => ?_)
  by_cases r : m ≤ a ∧ a ≤ m + 13
  · have e1 : hg (HM Y m ab be i A) a = hg (HM X m ab be i A) a := by
      by_cases q : a = m
      · exact (if_pos q).trans (if_pos q).symm
      · have q' : m < a ∧ a ≤ m + 13 := by omega
        exact ((if_neg q).trans (if_pos q')).trans ((if_neg q).trans (if_pos q')).symm
    rw [e1, hX, g a r.1 r.2]
  · exact HM_n _ _ _ _ _ _ (by omega)
theorem HM_id (X : icH) (m : Nat) (ab be : Int64) (i : Nat → Int32) (A : Nat → Nat → Int32) : HM (HM X m ab be i A) m ab be i A = HM X m ab be i A := by
  refine icH_ext rfl rfl (fun a => ?_)
  by_cases q : a = m
  · exact (if_pos q).trans (if_pos q).symm
  · by_cases q' : m < a ∧ a ≤ m + 13
    · exact ((if_neg q).trans (if_pos q')).trans ((if_neg q).trans (if_pos q')).symm
    · exact (if_neg q).trans (if_neg q')
def SCR (X : icH) : Prop := (∃ Ht Rt Nt E, HE X 28 Ht Rt Nt E = X) ∧ (∃ fa, hg X 40 = some (ai 6 fa)) ∧ (∃ le, hg X 41 = some (ai 24 le)) ∧ (∃ an, hg X 43 = some (ai 10 an)) ∧ (∃ an, hg X 45 = some (ai 6 an)) ∧ (∃ an, hg X 47 = some (ai 6 an))
def FIX (X : icH) : Prop := (∃ g, hg X 22 = some (ah 2 g) ∧ ∀ i, i < 2 → g i = some (iu i)) ∧ hg X 42 = some (ob 1 [.ref 43, .int (nI 0), .int (nI 1)]) ∧ hg X 44 = some (ob 3 [.ref 45, .int (nI 20), .int (nI 100)]) ∧ hg X 46 = some (ob 4 [.ref 47, .int (nI 60), .int (nI 100)])
def REF (X : icH) (A : Nat → Nat → Int32) : Prop := ∃ rf, hg X 27 = some (ai 3 rf) ∧ ∀ k, k < 3 → A 6 k = rf k
def TXT (X : icH) (ii : Nat → Int32) (A : Nat → Nat → Int32) : Prop := ∃ (z : Nat) (t s e v : Int32) (nb tb : Nat → Int32) (b : Nat → Nat), hg X 24 = some (to6 z t s e v) ∧ hg X 26 = some (ai 5 nb) ∧ hg X 25 = some (.inl (1, 150, tb)) ∧ z ≤ 150 ∧ ii 0 = nI z ∧ ∀ k, k < z → tb k = nI (b k) ∧ A 5 k = nI (b k) ∧ b k < 128
def KEP (X : icH) (A : Nat → Nat → Int32) : Prop := ∃ kp, hg X 23 = some (az 2 kp) ∧ ∀ i, i < 2 → A 4 i = kp i ∧ ∃ H R N D F f, HH X (iu i) H R N D F f = X ∧ (¬ kp i = 0 → HC H R N D F f (fun c => A 3 (292 * i + c)))
def CI (X : icH) (ab be : Int64) (ii : Nat → Int32) (A : Nat → Nat → Int32) (H R N : Nat) (D : Nat → Nat → Int32) (F : Nat → Nat) (f : Nat → Nat → Int32) : Prop := hg X 0 = some (xo ab be) ∧ HH X 1 H R N D F f = X ∧ HC H R N D F f (A 1) ∧ SCR X ∧ FIX X ∧ REF X A ∧ TXT X ii A ∧ KEP X A
theorem SCR_ag {X Y : icH} (h : SCR X) (e : ∀ a, 28 ≤ a → a ≤ 47 → hg Y a = hg X a) : SCR Y := by
  obtain ⟨⟨Ht, Rt, Nt, E, h1⟩, ⟨fa, h2⟩, ⟨le, h3⟩, ⟨a1, h4⟩, ⟨a2, h5⟩, ⟨a3, h6⟩⟩ := h
  exact ⟨⟨Ht, Rt, Nt, E, HE_ag h1 (fun a x y => e a x (by omega))⟩, ⟨fa, (e _ (by omega) (by omega)).trans h2⟩, ⟨le, (e _ (by omega) (by omega)).trans h3⟩, ⟨a1, (e _ (by omega) (by omega)).trans h4⟩, ⟨a2, (e _ (by omega) (by omega)).trans h5⟩, ⟨a3, (e _ (by omega) (by omega)).trans h6⟩⟩
theorem FIX_ag {X Y : icH} (h : FIX X) (e : ∀ a, a = 22 ∨ a = 42 ∨ a = 44 ∨ a = 46 → hg Y a = hg X a) : FIX Y := by
  obtain ⟨⟨g, h1, h2⟩, h3, h4, h5⟩ := h
  exact ⟨⟨g, (e _ (by omega)).trans h1, h2⟩, (e _ (by omega)).trans h3, (e _ (by omega)).trans h4, (e _ (by omega)).trans h5⟩
theorem REF_ag {X Y : icH} {A A' : Nat → Nat → Int32} (h : REF X A) (e : hg Y 27 = hg X 27) (eA : A' 6 = A 6) : REF Y A' := by
  obtain ⟨rf, h1, h2⟩ := h
  exact ⟨rf, e.trans h1, fun k hk => by rw [eA]; exact h2 k hk⟩
theorem TXT_ag {X Y : icH} {ii ii' : Nat → Int32} {A A' : Nat → Nat → Int32} (h : TXT X ii A) (e : ∀ a, 24 ≤ a → a ≤ 26 → hg Y a = hg X a) (ei : ii' 0 = ii 0) (eA : A' 5 = A 5) : TXT Y ii' A' := by
  obtain ⟨z, t, s, q, v, nb, tb, b, h1, h2, h3, h4, h5, h6⟩ := h
  exact ⟨z, t, s, q, v, nb, tb, b, (e _ (by omega) (by omega)).trans h1, (e _ (by omega) (by omega)).trans h2, (e _ (by omega) (by omega)).trans h3, h4, ei.trans h5, fun k hk => by rw [eA]; exact h6 k hk⟩
theorem KEP_ag {X Y : icH} {A A' : Nat → Nat → Int32} (h : KEP X A) (e : ∀ a, a = 23 ∨ (48 ≤ a ∧ a ≤ 89) → hg Y a = hg X a) (e4 : A' 4 = A 4) (e3 : A' 3 = A 3) : KEP Y A' := by
  obtain ⟨kp, h1, h2⟩ := h
  refine ⟨kp, (e _ (by omega)).trans h1, fun i hi => ?_⟩
  obtain ⟨h3, H, R, N, D, F, f, h4, h5⟩ := h2 i hi
  rw [e4, e3]
  refine ⟨h3, H, R, N, D, F, f, HH_ag h4 (fun a x y => e a ?_), h5⟩
  unfold iu at x y; omega
theorem CI_ag {X Y : icH} {ab be : Int64} {ii : Nat → Int32} {A : Nat → Nat → Int32} {H R N : Nat} {D : Nat → Nat → Int32} {F : Nat → Nat} {f : Nat → Nat → Int32} (h : CI X ab be ii A H R N D F f) (e : ∀ a, a < 90 → hg Y a = hg X a) : CI Y ab be ii A H R N D F f := by
  obtain ⟨h0, h1, h2, h3, h4, h5, h6, h7⟩ := h
  exact ⟨(e _ (by omega)).trans h0, HH_ag h1 (fun a _ _ => e a (by omega)), h2, SCR_ag h3 (fun a _ _ => e a (by omega)), FIX_ag h4 (fun a _ => e a (by omega)), REF_ag h5 (e _ (by omega)) rfl, TXT_ag h6 (fun a _ _ => e a (by omega)) rfl rfl, KEP_ag h7 (fun a _ => e a (by omega)) rfl rfl⟩
/-- the invariant: both objects coupled, the script in its cell, the heap no larger -/
def INV (L : Nat) (xs : Nat → Int32) (c1 c2 : Nat) (X : icH) : Prop := ∃ ab be ii A H R N D F f, CI X ab be ii A H R N D F f ∧ HM X 90 ab be ii A = X ∧ hg X icSc = some (as7 L xs) ∧ X.1 = c1 ∧ X.2.1 = c2
def FR (X Y : icH) : Prop := Y.1 = X.1 ∧ Y.2.1 = X.2.1 ∧ ∀ a, 90 ≤ a → hg Y a = hg X a
theorem FR_M {X Y : icH} {ab be : Int64} {ii : Nat → Int32} {A : Nat → Nat → Int32} (h : FR X Y) (hX : HM X 90 ab be ii A = X) : HM Y 90 ab be ii A = Y := HM_ag hX (fun a x _ => h.2.2 a x)
theorem INV_mk {L c1 c2 : Nat} {xs : Nat → Int32} {X Y : icH} {ab be : Int64} {ii : Nat → Int32} {A : Nat → Nat → Int32} {H R N : Nat} {D : Nat → Nat → Int32} {F : Nat → Nat} {f : Nat → Nat → Int32} (hs : hg X icSc = some (as7 L xs)) (h1 : X.1 = c1) (h2 : X.2.1 = c2) (hf : FR X Y) (hc : CI Y ab be ii A H R N D F f) : INV L xs c1 c2 (HM Y 90 ab be ii A) :=
  ⟨ab, be, ii, A, H, R, N, D, F, f, CI_ag hc (fun a ha => HM_n _ _ _ _ _ _ (by omega)), HM_id _ _ _ _ _ _, ((HM_n _ _ _ _ _ _ (by unfold icSc; omega)).trans (hf.2.2 icSc (by unfold icSc; omega))).trans hs, hf.1.trans h1, hf.2.1.trans h2⟩
theorem FR_r (X : icH) : FR X X := ⟨rfl, rfl, fun _ _ => rfl⟩
theorem FR_p {X : icH} {a : Nat} (ha : a < 90) (c : icC) : FR X (hput X a c) := ⟨rfl, rfl, fun b hb => if_neg (by omega)⟩
theorem FR_t {X Y Z : icH} (h : FR X Y) (g : FR Y Z) : FR X Z := ⟨g.1.trans h.1, g.2.1.trans h.2.1, fun a ha => (g.2.2 a ha).trans (h.2.2 a ha)⟩
theorem FR_H {X : icH} {u : Nat} (hu : u + 20 < 90) (H R N : Nat) (D : Nat → Nat → Int32) (F : Nat → Nat) (f : Nat → Nat → Int32) : FR X (HH X u H R N D F f) := ⟨rfl, rfl, fun b hb => if_neg (by omega)⟩
theorem FR_E {X : icH} (H R N : Nat) (D : Nat → Nat → Int32) : FR X (HE X 28 H R N D) := ⟨rfl, rfl, fun b hb => HE_n (by omega)⟩
theorem hg_p {X : icH} {a b : Nat} {c : icC} (h : b ≠ a) : hg (hput X a c) b = hg X b := if_neg h
/-- both refuse -/
theorem I_ref {X : icH} {ab be : Int64} {ii : Nat → Int32} {A : Nat → Nat → Int32} {H R N : Nat} {D : Nat → Nat → Int32} {F : Nat → Nat} {f : Nat → Nat → Int32} {rf : Nat → Int32} {j : Nat} (h : CI X ab be ii A H R N D F f) (h27 : hg X 27 = some (ai 3 rf)) (hr : ∀ k, k < 3 → A 6 k = rf k) (hj : j < 3) : FR X (HH (rfz X rf j) 1 H R N D F f) ∧ CI (HH (rfz X rf j) 1 H R N D F f) ab be ii (ud A 6 (upd (A 6) j (A 6 j + nI 1))) H R N D F f := by
  obtain ⟨h0, h1, h2, h3, h4, h5, h6, h7⟩ := h
  have e : ∀ a, a ≠ 27 → hg (HH (rfz X rf j) 1 H R N D F f) a = hg X a := fun a ha => by
    unfold rfz
    rw [← hp_HH (by omega), h1]
    exact if_neg ha
  have s : hg (HH (rfz X rf j) 1 H R N D F f) 27 = some (ai 3 (upd rf j (rf j + nI 1))) := (HH_n (by omega)).trans (hg_s _ _ _)
  refine ⟨FR_t (FR_p (by decide) _) (FR_H (by decide) H R N D F f), (e _ (by omega)).trans h0, HH_id _ _ _ _ _ _ _ _, by rw [ud_n (by decide)]; exact h2, SCR_ag h3 (fun a _ _ => e a (by omega)), FIX_ag h4 (fun a _ => e a (by omega)), ⟨_, s, fun k hk => ?_⟩, TXT_ag h6 (fun a _ _ => e a (by omega)) rfl (ud_n (by decide)), KEP_ag h7 (fun a _ => e a (by omega)) (ud_n (by decide)) (ud_n (by decide))⟩
  rw [ud_s]
  by_cases q : k = j
  · rw [q, pk_us, pk_us, hr j hj]
  · rw [pk_un q, pk_un q]; exact hr k hk
