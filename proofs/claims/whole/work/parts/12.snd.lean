theorem snd_call {l : Launch} (hT : TBL) {n : Nat} (hS : SND l n) {k : Nat} {q : icM} (hq : mt[k]? = some q) {pc : Nat} {i : Instr} {len x1 x2 x3 x4 : Nat} (hck : chkE q (pc, i, len, x1, x2, x3, x4) = true) {L S : List Value} {h : icH} {z : Nat} {Lz : List Value} {nx : Nat} {L' S' : List Value} {h' hF : icH} {r : Option Value} (ha : eff (pc + len) x1 x2 x3 i L S h = some (.inr (.inl (z, Lz, nx, L', S', h')))) (hr : con (run n) k nx L' S' (run n z 0 Lz [] h') = some (r, hF)) (hL : L.length = q.2.2.1)
    {p : Program} {e : Env} {R : Room} {s : State} {m : MethodId} {args : Array Value} {below : List Frame} {meth : Method} {c : Code} {D : va_G} {cid : Nat → ClassId} {ad adV : Nat → Nat} {A : Nat → Prop} {Ls : Nat} {xs : Nat → Int32} {cells slots fC fS : Nat} {Q : State → Prop} (hC : CX p s m args meth c q D cid A) (hX : XT ad adV A Ls xs s) (hR1 : q.2.2.2.2.1 ≤ R.frames) (hR2 : 36 * q.2.2.2.2.1 ≤ R.locals) (hc1 : cells + (hF.1 - h.1) = fC) (hc2 : slots + (hF.2.1 - h.2.1) = fS) (hc3 : fC ≤ R.cells) (hc4 : fS ≤ R.slots)
    (hret : ∀ (adF : Nat → Nat) (HF : Heap) (locsF : List Loc) (lsF : Array Slot) (pcF : Nat) (i : Instr), (∀ j, okr h.1 j → adF j = ad j) → hwf Ls xs hF → okR hF.1 r → va_P D vwCl (wsO cid adF hF) HF → va_D A (wsO cid adF hF) → va_S A s.heap HF locsF → decode q.2.1 pcF = .ok (i, 1) → RT q i r → W p l e R s m args below meth c HF locsF fC fS Q (F0 m pcF lsF (r.map (ca adF)).toList)) : WW p l e R s m args below meth c D cid ad A Ls xs cells slots Q pc L S h := by
  obtain ⟨e1, e2, e3⟩ := call_h ha
  subst e1 e2 e3
  have hK := hC.2.2.2.2.1
  have hN := hX.1
  unfold chkE at hck
  rw [Bool.and_eq_true, decide_eq_true_eq] at hck
  obtain ⟨hd, hck⟩ := hck
  cases hz : run n z 0 Lz [] h' with
  | none => rw [hz] at hr; cases hr
  | some x =>
    obtain ⟨rz, hzF⟩ := x
    rw [hz] at hr
    simp only [con] at hr
    have g1 := run_ge n _ _ _ _ _ _ _ hz
    have g2 := run_ge n _ _ _ _ _ _ _ hr
    have hcc1 : cells + (hzF.1 - h'.1) ≤ R.cells := by omega
    have hcc2 : slots + (hzF.2.1 - h'.2.1) ≤ R.slots := by omega
    have nxt : ∀ ad', (∀ j, okr h'.1 j → ad' j = ad j) → WW p l e R s m args below meth c D cid ad' A Ls xs (cells + (hzF.1 - h'.1)) (slots + (hzF.2.1 - h'.2.1)) Q (pc + len) L' (rz.toList ++ S') hzF := by
      intro ad' hag
      refine hS k (pc + len) L' (rz.toList ++ S') hzF r hF hr q hq hL p e R s m args below meth c D cid ad' adV A Ls xs _ _ fC fS Q hC (XT_ag hag hX) hR1 hR2 (by omega) (by omega) hc3 hc4 ?_
      intro adF HF locsF lsF pcF i' f1 f2 f3 f4 f5 f6 f7 f8
      exact hret adF HF locsF lsF pcF i' (fun j hj => (f1 j (okr_le g1.1 hj)).trans (hag j hj)) f2 f3 f4 f5 f6 f7 f8
    rcases eff_call ha with ⟨idx, rfl, h9, hc⟩ | ⟨idx, rfl, h8, hc⟩ | ⟨idx, rfl, hc⟩
    · dsimp only at hck
      have hz2 := Bool.and_eq_true_iff.mp hck
      clear hck
      obtain ⟨hl, hck⟩ := hz2
      have hl : len = 3 := eq_of_beq hl
      subst hl
      rw [if_neg h9] at hck
      split at hck
      next qz hqz =>
        simp only [Bool.and_eq_true, decide_eq_true_eq] at hck
        obtain ⟨k1, k2, k3, k4⟩ := hck
        obtain ⟨as, t1, t2, t3, rfl, rfl, -, -, -⟩ := c_cl1 hc
        rw [mL_eq hqz] at t3 hz
        rw [mA_eq hqz] at t1
        have hM := met_of hT hS hqz k1 t3 hz D cid adV Ls xs
        have hlk : (Cond.methodLink q.1.cls idx qz.1 ∈ TTg) ∨ ∃ host, va_Nw (.methodLinkNest q.1.cls idx qz.1 host) s := by
          unfold lnkB at k4
          rw [Bool.or_eq_true, decide_eq_true_eq] at k4
          rcases k4 with k4 | k4
          · exact Or.inl (inL_in k4)
          · exact Or.inr ⟨_, hN _ k4⟩
        exact s_stat hC hX hL hM (hT.2.1 _ _ hqz k1) hlk (inL_in k3) (by omega) (by omega) hcc1 hcc2 g1.1 hd t1 t2 nxt
      next => cases hck
    · dsimp only at hck
      have hz2 := Bool.and_eq_true_iff.mp hck
      clear hck
      obtain ⟨hl, hck⟩ := hz2
      have hl : len = 3 := eq_of_beq hl
      subst hl
      rw [if_neg h8] at hck
      split at hck
      next qz hqz =>
        simp only [Bool.and_eq_true, decide_eq_true_eq] at hck
        obtain ⟨k1, k2, k3, k4, k5, k6⟩ := hck
        obtain ⟨b0, as0, t1, t2, t3, rfl, rfl, -, -, -⟩ := c_cl2 hc
        rw [mL_eq hqz] at t3 hz
        rw [mA_eq hqz] at t1
        have hM := met_of hT hS hqz k1 t3 hz D cid adV Ls xs
        have hlk : (Cond.methodLink q.1.cls idx qz.1 ∈ TTg) ∨ ∃ host, va_Nw (.methodLinkNest q.1.cls idx qz.1 host) s := by
          unfold lnkB at k6
          rw [Bool.or_eq_true, decide_eq_true_eq] at k6
          rcases k6 with k6 | k6
          · exact Or.inl (inL_in k6)
          · exact Or.inr ⟨_, hN _ k6⟩
        exact s_spec hC hX hL rfl hM (hT.2.1 _ _ hqz k1) k3 k4 hlk (inL_in k5) (by omega) (by omega) hcc1 hcc2 g1.1 hd t1 t2 nxt
      next => cases hck
    · dsimp only at hck
      have hz2 := Bool.and_eq_true_iff.mp hck
      clear hck
      obtain ⟨hl, hck⟩ := hz2
      have hl : len = 3 := eq_of_beq hl
      subst hl
      rcases hc with ⟨h3, hc⟩ | ⟨h3, h4, hc⟩ | ⟨h3, h4, h7, hc⟩
      · rw [if_pos h3] at hck
        rw [Bool.and_eq_true, decide_eq_true_eq] at hck
        obtain ⟨k0, hck⟩ := hck
        unfold virB at hck
        split at hck
        next qz C T N hqz hcl =>
          simp only [Bool.and_eq_true, decide_eq_true_eq] at hck
          obtain ⟨k1, k2, k3, k4, k5, k6⟩ := hck
          obtain ⟨a, as, cj, fs, t1, t3, t4, t5, t6, rfl, rfl, -, -, -⟩ := c_vc1 hc
          rw [mL_eq hqz] at t6 hz
          rw [mA_eq hqz] at t1
          have hM := met_of hT hS hqz k1 t6 hz D cid adV Ls xs
          have hcj : cj = x3 := by
            unfold gclB at t4
            rw [if_neg (by omega)] at t4
            exact eq_of_beq t4
          subst hcj
          obtain ⟨ty, -, -, -, -, f5, -⟩ := hT.2.2.1 cj C T N hcl
          exact s_virt hC hX hL rfl t3 hcl hM (hT.2.1 _ _ hqz k1) (Or.inl ⟨k3, inL_in k4, inL_in k5, inL_in k6, f5⟩) (by omega) (by omega) hcc1 hcc2 g1.1 hd t1 t5 nxt
        next => cases hck
      · rw [if_neg h3, if_pos h4] at hck
        simp only [Bool.and_eq_true] at hck
        obtain ⟨q1, q3, q4⟩ := hck
        obtain ⟨a, as, cj, fs, t1, t3, t4, t5, t6, rfl, rfl, -, -, -⟩ := c_vc1 hc
        have hcj : cj = 1 ∨ cj = 3 ∨ cj = 4 := by
          unfold gclB at t4
          rw [if_pos rfl] at t4
          simp only [Bool.or_eq_true, beq_iff_eq] at t4
          rcases t4 with (t4 | t4) | t4
          · exact Or.inl t4
          · exact Or.inr (Or.inl t4)
          · exact Or.inr (Or.inr t4)
        have hB : gueB q idx z cj x4 = true := by
          rcases hcj with rfl | rfl | rfl
          · exact q1
          · exact q3
          · exact q4
        unfold gueB at hB
        split at hB
        next qz C T N hqz hcl =>
          simp only [Bool.and_eq_true, decide_eq_true_eq] at hB
          obtain ⟨k1, k2, k3, k4, k5, k6⟩ := hB
          rw [mL_eq hqz] at t6 hz
          rw [mA_eq hqz] at t1
          have hM := met_of hT hS hqz k1 t6 hz D cid adV Ls xs
          exact s_virt hC hX hL rfl t3 hcl hM (hT.2.1 _ _ hqz k1) (Or.inr (Or.inl ⟨inL_in k3, inL_in k4, inL_in k5, inL_in k6⟩)) (by omega) (by omega) hcc1 hcc2 g1.1 hd t1 t5 nxt
        next => cases hB
      · rw [if_neg h3, if_neg h4, if_pos h7] at hck
        simp only [Bool.and_eq_true] at hck
        obtain ⟨q1, q3, q4⟩ := hck
        obtain ⟨a, as, cj, fs, nl, t1, t3, t5, t6, t7, rfl, -, -, -⟩ := c_ab1 hc
        have hB : gabB q idx z cj x1 x4 = true ∧ nl = mL z := by
          rcases t7 with ⟨rfl, rfl, rfl⟩ | ⟨rfl, rfl, rfl⟩ | ⟨rfl, rfl, rfl⟩
          · exact ⟨q1, rfl⟩
          · exact ⟨q3, rfl⟩
          · exact ⟨q4, rfl⟩
        obtain ⟨hB, hnl⟩ := hB
        unfold gabB at hB
        split at hB
        next qz C T N hqz hcl =>
          simp only [Bool.and_eq_true, decide_eq_true_eq] at hB
          obtain ⟨k1, k2, ka, k3, k4, k5, k6, k7⟩ := hB
          rw [hnl, mL_eq hqz] at t6 hz
          rw [ka] at t1
          have hM := met_of hT hS hqz k1 t6 hz D cid adV Ls xs
          have hMX := hT.2.1 _ _ hqz k1
          exact s_virt hC hX hL rfl t3 hcl hM hMX (Or.inr (Or.inr ⟨⟨"IcicleEaves$Guess", qz.1.name, qz.1.desc⟩, inL_in k3, inL_in k4, inL_in k5, inL_in k6, hN _ k7, ⟨fun z => absurd (show "IcicleEaves$Guess" = "java/lang/invoke/MethodHandle" from z) (by decide), fun z => absurd (show "IcicleEaves$Guess" = "java/lang/invoke/VarHandle" from z) (by decide)⟩, hMX.2.2.2.1⟩)) (by omega) (by omega) hcc1 hcc2 g1.1 hd t1 t5 nxt
        next => cases hB
theorem fet_mem {k pc : Nat} {q : icM} {x : Instr × Nat × Nat × Nat × Nat × Nat} (hq : mt[k]? = some q) (hf : fet k pc = some x) : (pc, x) ∈ q.2.2.2.2.2.2 := by
  unfold fet at hf
  rw [hq] at hf
  exact look_mem _ _ _ hf
theorem snd_succ {l : Launch} (hT : TBL) (hStr : StrA l) {n : Nat} (hS : SND l n) : SND l (n + 1) := by
  intro k pc L S h r hF hr q hq hL p e R s m args below meth c D cid ad adV A Ls xs cells slots fC fS Q hC hX hR1 hR2 hc1 hc2 hc3 hc4 hret
  unfold run at hr
  cases hf : fet k pc with
  | none => rw [hf] at hr; cases hr
  | some x =>
    obtain ⟨i, len, x1, x2, x3, x4⟩ := x
    have hck := hT.1 k q hq _ (fet_mem hq hf)
    rw [hf] at hr
    dsimp only at hr
    generalize ha : eff (pc + len) x1 x2 x3 i L S h = a at hr
    match a, ha, hr with
    | some (.inl (pc', L', S', h')), ha, hr =>
      have hgo := eff_go ha
      have hge := run_ge n _ _ _ _ _ _ _ hr
      refine snd_go hT hStr hck ha hL hC hX hR1 hR2 hc1 hc2 hc3 hc4 hge.1 hge.2 (fun ad' cells' slots' hag e1 e2 => ?_)
      refine hS k pc' L' S' h' r hF hr q hq (hgo.1.trans hL) p e R s m args below meth c D cid ad' adV A Ls xs cells' slots' fC fS Q hC (XT_ag hag hX) hR1 hR2 e1 e2 hc3 hc4 ?_
      intro adF HF locsF lsF pcF i' f1 f2 f3 f4 f5 f6 f7 f8
      exact hret adF HF locsF lsF pcF i' (fun j hj => (f1 j (okr_le hgo.2.1 hj)).trans (hag j hj)) f2 f3 f4 f5 f6 f7 f8
    | some (.inr (.inl (z, Lz, nx, L', S', h'))), ha, hr => exact snd_call hT hS hq hck ha hr hL hC hX hR1 hR2 hc1 hc2 hc3 hc4 hret
    | some (.inr (.inr (r', h'))), ha, hr =>
      obtain ⟨hh, hs, hi⟩ := eff_ret ha
      cases hr
      subst hh hs
      intro H locs ls V
      obtain ⟨v1, v2, v3, v4, v5, v6, v7⟩ := V
      have hRT : RT q i r ∧ len = 1 := by
        unfold chkE at hck
        rw [Bool.and_eq_true] at hck
        obtain ⟨-, hck⟩ := hck
        rcases hi with ⟨rfl, v, rfl, hv⟩ | ⟨rfl, v, rfl⟩ | ⟨rfl, v, rfl⟩ | ⟨rfl, rfl⟩
        · dsimp only at hck
          rw [Bool.and_eq_true] at hck
          refine ⟨Or.inl ⟨rfl, v, rfl, ?_⟩, eq_of_beq hck.1⟩
          have h2 := hck.2
          split at h2
          · exact Or.inl (of_decide_eq_true h2)
          next h0 => exact Or.inr ⟨of_decide_eq_true h2, hv.resolve_left h0⟩
        · dsimp only at hck
          rw [Bool.and_eq_true] at hck
          exact ⟨Or.inr (Or.inl ⟨rfl, v, rfl, of_decide_eq_true hck.2⟩), eq_of_beq hck.1⟩
        · dsimp only at hck
          rw [Bool.and_eq_true] at hck
          exact ⟨Or.inr (Or.inr (Or.inl ⟨rfl, v, rfl, of_decide_eq_true hck.2⟩)), eq_of_beq hck.1⟩
        · dsimp only at hck
          rw [Bool.and_eq_true] at hck
          exact ⟨Or.inr (Or.inr (Or.inr ⟨rfl, rfl, of_decide_eq_true hck.2⟩)), eq_of_beq hck.1⟩
      have hd : decode q.2.1 pc = .ok (i, len) := by
        unfold chkE at hck
        rw [Bool.and_eq_true, decide_eq_true_eq] at hck
        exact hck.1
      rw [hRT.2] at hd
      have hrr := hret ad H locs ls pc i (fun _ _ => rfl) v1 v3 v4 v5 v6 hd hRT.1
      rw [Nat.sub_self, Nat.add_zero] at hc1 hc2
      rw [hc1, hc2]
      have e1 : r.toList.map (ca ad) = (r.map (ca ad)).toList := by cases r <;> rfl
      rw [e1]
      exact hrr
    | none, ha, hr => cases hr
theorem snd {l : Launch} (hT : TBL) (hStr : StrA l) : ∀ n, SND l n
  | 0 => fun k pc L S h r hF hr => by simp [run] at hr
  | n + 1 => snd_succ hT hStr (snd hT hStr n)
