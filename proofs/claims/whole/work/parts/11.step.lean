theorem snd_go {l : Launch} (hT : TBL) (hStr : StrA l) {q : icM} {pc : Nat} {i : Instr} {len x1 x2 x3 x4 : Nat} (hck : chkE q (pc, i, len, x1, x2, x3, x4) = true) {L S : List Value} {h : icH} {pc' : Nat} {L' S' : List Value} {h' hF : icH} (ha : eff (pc + len) x1 x2 x3 i L S h = some (.inl (pc', L', S', h'))) (hL : L.length = q.2.2.1)
    {p : Program} {e : Env} {R : Room} {s : State} {m : MethodId} {args : Array Value} {below : List Frame} {meth : Method} {c : Code} {D : va_G} {cid : Nat → ClassId} {ad adV : Nat → Nat} {A : Nat → Prop} {Ls : Nat} {xs : Nat → Int32} {cells slots fC fS : Nat} {Q : State → Prop} (hC : CX p s m args meth c q D cid A) (hX : XT ad adV A Ls xs s) (hR1 : q.2.2.2.2.1 ≤ R.frames) (hR2 : 36 * q.2.2.2.2.1 ≤ R.locals) (hc1 : cells + (hF.1 - h.1) = fC) (hc2 : slots + (hF.2.1 - h.2.1) = fS) (hc3 : fC ≤ R.cells) (hc4 : fS ≤ R.slots) (hle1 : h'.1 ≤ hF.1) (hle2 : h'.2.1 ≤ hF.2.1)
    (nxt : ∀ (ad' : Nat → Nat) (cells' slots' : Nat), (∀ j, okr h.1 j → ad' j = ad j) → cells' + (hF.1 - h'.1) = fC → slots' + (hF.2.1 - h'.2.1) = fS → WW p l e R s m args below meth c D cid ad' A Ls xs cells' slots' Q pc' L' S' h') : WW p l e R s m args below meth c D cid ad A Ls xs cells slots Q pc L S h := by
  have hgo := eff_go ha
  have hK := hC.2.2.2.2.1
  have hN := hX.1
  unfold chkE at hck
  rw [Bool.and_eq_true, decide_eq_true_eq] at hck
  obtain ⟨hd, hck⟩ := hck
  have nx0 : isAl i = false → WW p l e R s m args below meth c D cid ad A Ls xs cells slots Q pc' L' S' h' := fun hal => nxt ad cells slots (fun _ _ => rfl) (by rw [(hgo.2.2.2 hal).1]; exact hc1) (by rw [(hgo.2.2.2 hal).2]; exact hc2)
  cases i
  all_goals first | (simp only [eff] at ha; cases ha; done) | skip
  case iconst n =>
    have hl : len = 1 := eq_of_beq hck
    subst hl
    exact s_iconst hC hd ha (nx0 rfl)
  case bipush n =>
    have hl : len = 2 := eq_of_beq hck
    subst hl
    exact s_bipush hC hd ha (nx0 rfl)
  case sipush n =>
    have hl : len = 3 := eq_of_beq hck
    subst hl
    exact s_sipush hC hd ha (nx0 rfl)
  case lconst n =>
    have hl : len = 1 := eq_of_beq hck
    subst hl
    exact s_lconst hC hd ha (nx0 rfl)
  case iload n =>
    have hl : len = 2 := eq_of_beq hck
    subst hl
    exact s_iload hC hd ha (nx0 rfl)
  case iload_n n =>
    have hl : len = 1 := eq_of_beq hck
    subst hl
    exact s_iload_n hC hd ha (nx0 rfl)
  case lload n =>
    have hl : len = 2 := eq_of_beq hck
    subst hl
    exact s_lload hC hd ha (nx0 rfl)
  case lload_n n =>
    have hl : len = 1 := eq_of_beq hck
    subst hl
    exact s_lload_n hC hd ha (nx0 rfl)
  case aload n =>
    have hl : len = 2 := eq_of_beq hck
    subst hl
    exact s_aload hC hd ha (nx0 rfl)
  case aload_n n =>
    have hl : len = 1 := eq_of_beq hck
    subst hl
    exact s_aload_n hC hd ha (nx0 rfl)
  case istore n =>
    have hl : len = 2 := eq_of_beq hck
    subst hl
    exact s_istore hC hd ha (nx0 rfl)
  case istore_n n =>
    have hl : len = 1 := eq_of_beq hck
    subst hl
    exact s_istore_n hC hd ha (nx0 rfl)
  case lstore n =>
    have hl : len = 2 := eq_of_beq hck
    subst hl
    exact s_lstore hC hd ha (nx0 rfl)
  case lstore_n n =>
    have hl : len = 1 := eq_of_beq hck
    subst hl
    exact s_lstore_n hC hd ha (nx0 rfl)
  case astore n =>
    have hl : len = 2 := eq_of_beq hck
    subst hl
    exact s_astore hC hd ha (nx0 rfl)
  case astore_n n =>
    have hl : len = 1 := eq_of_beq hck
    subst hl
    exact s_astore_n hC hd ha (nx0 rfl)
  case iinc n v =>
    have hl : len = 3 := eq_of_beq hck
    subst hl
    exact s_iinc hC hd ha (nx0 rfl)
  case iadd =>
    have hl : len = 1 := eq_of_beq hck
    subst hl
    exact s_iadd hC hd ha (nx0 rfl)
  case isub =>
    have hl : len = 1 := eq_of_beq hck
    subst hl
    exact s_isub hC hd ha (nx0 rfl)
  case imul =>
    have hl : len = 1 := eq_of_beq hck
    subst hl
    exact s_imul hC hd ha (nx0 rfl)
  case iand =>
    have hl : len = 1 := eq_of_beq hck
    subst hl
    exact s_iand hC hd ha (nx0 rfl)
  case ior =>
    have hl : len = 1 := eq_of_beq hck
    subst hl
    exact s_ior hC hd ha (nx0 rfl)
  case ixor =>
    have hl : len = 1 := eq_of_beq hck
    subst hl
    exact s_ixor hC hd ha (nx0 rfl)
  case ishl =>
    have hl : len = 1 := eq_of_beq hck
    subst hl
    exact s_ishl hC hd ha (nx0 rfl)
  case ishr =>
    have hl : len = 1 := eq_of_beq hck
    subst hl
    exact s_ishr hC hd ha (nx0 rfl)
  case iushr =>
    have hl : len = 1 := eq_of_beq hck
    subst hl
    exact s_iushr hC hd ha (nx0 rfl)
  case idiv =>
    have hl : len = 1 := eq_of_beq hck
    subst hl
    exact s_idiv hC hd ha (nx0 rfl)
  case irem =>
    have hl : len = 1 := eq_of_beq hck
    subst hl
    exact s_irem hC hd ha (nx0 rfl)
  case ineg =>
    have hl : len = 1 := eq_of_beq hck
    subst hl
    exact s_ineg hC hd ha (nx0 rfl)
  case i2b =>
    have hl : len = 1 := eq_of_beq hck
    subst hl
    exact s_i2b hC hd ha (nx0 rfl)
  case i2l =>
    have hl : len = 1 := eq_of_beq hck
    subst hl
    exact s_i2l hC hd ha (nx0 rfl)
  case l2i =>
    have hl : len = 1 := eq_of_beq hck
    subst hl
    exact s_l2i hC hd ha (nx0 rfl)
  case ladd =>
    have hl : len = 1 := eq_of_beq hck
    subst hl
    exact s_ladd hC hd ha (nx0 rfl)
  case lmul =>
    have hl : len = 1 := eq_of_beq hck
    subst hl
    exact s_lmul hC hd ha (nx0 rfl)
  case ldiv =>
    have hl : len = 1 := eq_of_beq hck
    subst hl
    exact s_ldiv hC hd ha (nx0 rfl)
  case lrem =>
    have hl : len = 1 := eq_of_beq hck
    subst hl
    exact s_lrem hC hd ha (nx0 rfl)
  case lcmp =>
    have hl : len = 1 := eq_of_beq hck
    subst hl
    exact s_lcmp hC hd ha (nx0 rfl)
  case dup =>
    have hl : len = 1 := eq_of_beq hck
    subst hl
    exact s_dup hC hd ha (nx0 rfl)
  case dup2 =>
    have hl : len = 1 := eq_of_beq hck
    subst hl
    exact s_dup2 hC hd ha (nx0 rfl)
  case pop =>
    have hl : len = 1 := eq_of_beq hck
    subst hl
    exact s_pop hC hd ha (nx0 rfl)
  case bastore =>
    have hl : len = 1 := eq_of_beq hck
    subst hl
    exact s_bast hC hd ha (nx0 rfl)
  case baload =>
    have hl : len = 1 := eq_of_beq hck
    subst hl
    exact s_bald hC hd ha (nx0 rfl)
  case iastore =>
    have hl : len = 1 := eq_of_beq hck
    subst hl
    exact s_iast hC hd ha (nx0 rfl)
  case aaload =>
    have hl : len = 1 := eq_of_beq hck
    subst hl
    exact s_aald hC hd ha (nx0 rfl)
  case aastore =>
    have hl : len = 1 := eq_of_beq hck
    subst hl
    exact s_aast hC hd ha (nx0 rfl)
  case iaload =>
    have hl : len = 1 := eq_of_beq hck
    subst hl
    exact s_iald hC hX.2.2.1 hd ha (nx0 rfl)
  case arraylength =>
    have hl : len = 1 := eq_of_beq hck
    subst hl
    exact s_alen hC hX.2.2.1 hd ha (nx0 rfl)
  case ldc idx =>
    dsimp only at hck
    have hz := Bool.and_eq_true_iff.mp hck
    clear hck
    obtain ⟨hl, hck⟩ := hz
    have hl : len = 2 := eq_of_beq hl
    subst hl
    simp only [eff] at ha
    split at ha
    next h0 =>
      rw [if_pos h0] at hck
      exact s_ldc hC (inL_in hck) hd ha (nx0 rfl)
    next h0 =>
      rw [if_neg h0] at hck
      simp only [Bool.and_eq_true, decide_eq_true_eq, beq_iff_eq] at hck
      obtain ⟨k1, k2, k3⟩ := hck
      obtain ⟨rfl, rfl, rfl, rfl⟩ := ugo_inj ha
      intro H locs ls V
      obtain ⟨v1, v2, v3, v4, v5, v6, v7⟩ := V
      have hR := hX.2.2.2.1 x1 k1
      rw [← k2, ← k3] at hR
      exact va_ldcS hC.1 hC.2.1 hC.2.2.2.1 hR hd (nx0 rfl H locs ls ⟨v1, v2, okS_c (Or.inr (Nat.le_add_right _ _)) v3, v4, v5, v6, v7⟩)
  case ldc_w idx =>
    dsimp only at hck
    have hz := Bool.and_eq_true_iff.mp hck
    clear hck
    obtain ⟨hl, hck⟩ := hz
    have hl : len = 3 := eq_of_beq hl
    subst hl
    exact s_ldc_w hC (inL_in hck) hd ha (nx0 rfl)
  case ldc2_w idx =>
    dsimp only at hck
    have hz := Bool.and_eq_true_iff.mp hck
    clear hck
    obtain ⟨hl, hck⟩ := hz
    have hl : len = 3 := eq_of_beq hl
    subst hl
    exact s_ldc2 hC (inL_in hck) hd ha (nx0 rfl)
  case ifCond cd off =>
    dsimp only at hck
    have hz := Bool.and_eq_true_iff.mp hck
    clear hck
    obtain ⟨hl, hck⟩ := hz
    have hl : len = 3 := eq_of_beq hl
    subst hl
    have ht := of_decide_eq_true hck
    cases cd
    · exact s_if_eq hC ht hd ha (nx0 rfl)
    · exact s_if_ne hC ht hd ha (nx0 rfl)
    · exact s_if_lt hC ht hd ha (nx0 rfl)
    · exact s_if_ge hC ht hd ha (nx0 rfl)
    · exact s_if_gt hC ht hd ha (nx0 rfl)
    · exact s_if_le hC ht hd ha (nx0 rfl)
  case if_icmp cd off =>
    dsimp only at hck
    have hz := Bool.and_eq_true_iff.mp hck
    clear hck
    obtain ⟨hl, hck⟩ := hz
    have hl : len = 3 := eq_of_beq hl
    subst hl
    have ht := of_decide_eq_true hck
    cases cd
    · exact s_cmp_eq hC ht hd ha (nx0 rfl)
    · exact s_cmp_ne hC ht hd ha (nx0 rfl)
    · exact s_cmp_lt hC ht hd ha (nx0 rfl)
    · exact s_cmp_ge hC ht hd ha (nx0 rfl)
    · exact s_cmp_gt hC ht hd ha (nx0 rfl)
    · exact s_cmp_le hC ht hd ha (nx0 rfl)
  case goto off =>
    dsimp only at hck
    have hz := Bool.and_eq_true_iff.mp hck
    clear hck
    obtain ⟨hl, hck⟩ := hz
    have hl : len = 3 := eq_of_beq hl
    subst hl
    exact s_goto hC (of_decide_eq_true hck) hd ha (nx0 rfl)
  case tableswitch d lo hi offs =>
    have hp : x1 = pc := eq_of_beq hck
    subst hp
    exact s_tsw hC hd ha (nx0 rfl)
  case lookupswitch d ps =>
    have hp : x1 = pc := eq_of_beq hck
    subst hp
    exact s_lsw hC hd ha (nx0 rfl)
  case getfield idx =>
    dsimp only at hck
    have hz := Bool.and_eq_true_iff.mp hck
    clear hck
    obtain ⟨hl, hck⟩ := hz
    obtain ⟨hl, h10⟩ := Bool.and_eq_true_iff.mp hl
    have hl : len = 3 := eq_of_beq hl
    subst hl
    have h10 := of_decide_eq_true h10
    exact s_getf hC (fun cj hg => fld_FX hT hK hN hck cj hg (gcl9 h10 hg)) hd ha (nx0 rfl)
  case putfield idx =>
    dsimp only at hck
    have hz := Bool.and_eq_true_iff.mp hck
    clear hck
    obtain ⟨hl, hck⟩ := hz
    obtain ⟨hl, h10⟩ := Bool.and_eq_true_iff.mp hl
    have hl : len = 3 := eq_of_beq hl
    subst hl
    have h10 := of_decide_eq_true h10
    exact s_putf hC (fun cj hg => put_FP hT hK hN hck cj hg (gcl9 h10 hg)) hd ha (nx0 rfl)
  case new idx =>
    dsimp only at hck
    have hz := Bool.and_eq_true_iff.mp hck
    clear hck
    obtain ⟨hl, hck⟩ := hz
    have hl : len = 3 := eq_of_beq hl
    subst hl
    split at hck
    next C T N hcl =>
      obtain ⟨ty, t1, t2, t3, t4, t5, t6, t7, t8⟩ := hT.2.2.1 x1 C T N hcl
      have ha2 := ha
      simp only [eff, e_new] at ha2
      split at ha2
      · obtain ⟨rfl, rfl, rfl, rfl⟩ := ugo_inj ha2
        have q1 : h.1 + 1 ≤ hF.1 := hle1
        have q2 : h.2.1 + (dfl x1).length ≤ hF.2.1 := hle2
        exact s_new hC ⟨C, T, N, ty, hcl, t1, t2, hK _ (inL_in hck), hK _ t4, hK _ t5, t6, t7, t8⟩ (by omega) (by omega) hd ha (fun a' => nxt (adN ad h.1 a') _ _ (adN_ag (by assumption)) (by show cells + 1 + (hF.1 - (h.1 + 1)) = fC; omega) (by show slots + (dfl x1).length + (hF.2.1 - (h.2.1 + (dfl x1).length)) = fS; omega))
      · cases ha2
    next => cases hck
  case newarray t =>
    dsimp only at hck
    have hz := Bool.and_eq_true_iff.mp hck
    clear hck
    obtain ⟨hl, hck⟩ := hz
    have hl : len = 2 := eq_of_beq hl
    subst hl
    have ha2 := ha
    simp only [eff, e_newa] at ha2
    split at ha2
    next n S0 =>
      split at ha2
      next hN1 =>
        obtain ⟨e0, e1, e2, e3⟩ := ugo_inj ha2
        subst e0 e1 e2 e3
        have q1 : h.1 + 1 ≤ hF.1 := hle1
        have q2 : h.2.1 + n.toInt.toNat ≤ hF.2.1 := hle2
        have w1 : ∀ n' : Int32, ∀ S1, Value.int n :: S0 = .int n' :: S1 → cells + 1 ≤ R.cells ∧ slots + n'.toInt.toNat ≤ R.slots := by
          intro n' S1 e1
          cases e1
          exact ⟨by omega, by omega⟩
        have w2 : ∀ n' : Int32, ∀ S1, Value.int n :: S0 = .int n' :: S1 → ∀ a', WW p l e R s m args below meth c D cid (adN ad h.1 a') A Ls xs (cells + 1) (slots + n'.toInt.toNat) Q (pc + 2) L' (.ref h.1 :: S0) (hnew h (.inl (x1, n.toInt.toNat, fun _ => 0)) n.toInt.toNat) := by
          intro n' S1 e1 a'
          cases e1
          exact nxt (adN ad h.1 a') _ _ (adN_ag hN1.2.2.1) (by show cells + 1 + (hF.1 - (h.1 + 1)) = fC; omega) (by show slots + n.toInt.toNat + (hF.2.1 - (h.2.1 + n.toInt.toNat)) = fS; omega)
        cases t
        case int =>
          have hx : x1 = 0 := eq_of_beq hck
          subst hx
          exact s_newa_int hC (hK _ hT.2.2.2.1.1) w1 hd ha w2
        case byte =>
          have hx : x1 = 1 := eq_of_beq hck
          subst hx
          exact s_newa_byte hC (hK _ hT.2.2.2.1.2.1) w1 hd ha w2
        case boolean =>
          have hx : x1 = 2 := eq_of_beq hck
          subst hx
          exact s_newa_boolean hC (hK _ hT.2.2.2.1.2.2) w1 hd ha w2
        all_goals cases hck
      next => cases ha2
    next => cases ha2
  case anewarray idx =>
    dsimp only at hck
    have hz := Bool.and_eq_true_iff.mp hck
    clear hck
    obtain ⟨hl, hck⟩ := hz
    have hl : len = 3 := eq_of_beq hl
    subst hl
    have ha2 := ha
    simp only [eff, e_anew] at ha2
    split at ha2
    next n S0 =>
      split at ha2
      next hN1 =>
        obtain ⟨rfl, rfl, rfl, rfl⟩ := ugo_inj ha2
        have q1 : h.1 + 1 ≤ hF.1 := hle1
        have q2 : h.2.1 + n.toInt.toNat ≤ hF.2.1 := hle2
        refine s_anew hC (hK _ (inL_in hck)) hX.2.1 ?_ hd ha ?_
        · intro n' S1 e1
          cases e1
          exact ⟨by omega, by omega⟩
        · intro n' S1 e1 a'
          cases e1
          exact nxt (adN ad h.1 a') _ _ (adN_ag hN1.2.2) (by show cells + 1 + (hF.1 - (h.1 + 1)) = fC; omega) (by show slots + n.toInt.toNat + (hF.2.1 - (h.2.1 + n.toInt.toNat)) = fS; omega)
      next => cases ha2
    next => cases ha2
  case invokestatic idx =>
    dsimp only at hck
    have hz := Bool.and_eq_true_iff.mp hck
    clear hck
    obtain ⟨hl, hck⟩ := hz
    have hl : len = 3 := eq_of_beq hl
    subst hl
    simp only [eff] at ha
    split at ha
    next h9 =>
      rw [if_pos h9] at hck
      simp only [Bool.and_eq_true, decide_eq_true_eq] at hck
      exact s_acpy hC hL (hK _ (inL_in hck.1)) (hK _ hT.2.2.2.2.2.1) (hK _ hT.2.2.2.2.2.2.1) (hK _ hT.2.2.2.2.2.2.2) (by omega) (by omega) hd ha (nx0 rfl)
    next => exact (n_e_call _ _ _ _ _ _ _ ha).elim
  case invokespecial idx =>
    dsimp only at hck
    have hz := Bool.and_eq_true_iff.mp hck
    clear hck
    obtain ⟨hl, hck⟩ := hz
    have hl : len = 3 := eq_of_beq hl
    subst hl
    simp only [eff] at ha
    split at ha
    next h9 =>
      rw [if_pos h9] at hck
      simp only [Bool.and_eq_true, decide_eq_true_eq] at hck
      exact s_obji hC hL (hK _ (inL_in hck.1)) (hK _ hT.2.2.2.2.1.1) (hK _ hT.2.2.2.2.1.2) (by omega) (by omega) hd ha (nx0 rfl)
    next => exact (n_e_ccal _ _ _ _ _ _ _ ha).elim
  case invokevirtual idx =>
    dsimp only at hck
    have hz := Bool.and_eq_true_iff.mp hck
    clear hck
    obtain ⟨hl, hck⟩ := hz
    have hl : len = 3 := eq_of_beq hl
    subst hl
    simp only [eff] at ha
    split at ha
    next => exact (n_e_vcal _ _ _ _ _ _ _ _ ha).elim
    next h3 =>
      rw [if_neg h3] at hck
      split at ha
      next => exact (n_e_vcal _ _ _ _ _ _ _ _ ha).elim
      next h4 =>
        rw [if_neg h4] at hck
        split at ha
        next => exact (n_e_abst _ _ _ _ _ _ _ _ _ _ _ ha).elim
        next h7 =>
          rw [if_neg h7] at hck
          have hcs : cells ≤ R.cells := by omega
          have hsl : slots ≤ R.slots := by omega
          split at ha
          next h10 =>
            rw [if_pos h10] at hck
            simp only [Bool.and_eq_true, decide_eq_true_eq] at hck
            exact (hStr p e R s m args below meth c D cid ad adV A Ls xs cells slots Q q pc pc' L S L' S' h h' idx hC hX hL hcs hsl hd (nx0 rfl)).1 (inL_in hck.1) (by omega) (by omega) ha
          next h10 =>
            rw [if_neg h10] at hck
            split at ha
            next h11 =>
              rw [if_pos h11] at hck
              simp only [Bool.and_eq_true, decide_eq_true_eq] at hck
              exact (hStr p e R s m args below meth c D cid ad adV A Ls xs cells slots Q q pc pc' L S L' S' h h' idx hC hX hL hcs hsl hd (nx0 rfl)).2 (inL_in hck.1) (by omega) (by omega) ha
            next => cases ha
  case ireturn =>
    simp only [eff, e_iret] at ha
    repeat' split at ha
    all_goals cases ha
  case lreturn =>
    simp only [eff, e_lret] at ha
    split at ha <;> cases ha
  case areturn =>
    simp only [eff, e_aret] at ha
    split at ha <;> cases ha
  case return_ =>
    simp only [eff, e_vret] at ha
    split at ha <;> cases ha
