def mL (z : Nat) : Nat := match mt[z]? with
  | some q => q.2.2.1
  | none => 0
def mA (z : Nat) : Nat := match mt[z]? with
  | some q => q.2.2.2.2.2.1
  | none => 0
/-- what an instruction does -/
def eff (nx x1 x2 x3 : Nat) (i : Instr) (L S : List Value) (h : icH) : icA := match i with
  | .iconst n => ugo nx L (.int (Int32.ofInt n) :: S) h
  | .bipush n => ugo nx L (.int (Int8.ofInt n).toInt32 :: S) h
  | .sipush n => ugo nx L (.int (Int16.ofInt n).toInt32 :: S) h
  | .lconst n => ugo nx L (.long (Int64.ofNat n) :: S) h
  | .ldc _ => if x2 = 0 then ugo nx L (.int (Int32.ofNat x1) :: S) h else ugo nx L (.ref (icLim + x1) :: S) h
  | .ldc_w _ => ugo nx L (.int (Int32.ofNat x1) :: S) h
  | .ldc2_w _ => ugo nx L (.long (Int64.ofNat x1) :: S) h
  | .iload i => e_iload i nx L S h
  | .iload_n i => e_iload i nx L S h
  | .lload i => e_lload i nx L S h
  | .lload_n i => e_lload i nx L S h
  | .aload i => e_aload i nx L S h
  | .aload_n i => e_aload i nx L S h
  | .istore i => e_istore i nx L S h
  | .istore_n i => e_istore i nx L S h
  | .lstore i => e_lstore i nx L S h
  | .lstore_n i => e_lstore i nx L S h
  | .astore i => e_astore i nx L S h
  | .astore_n i => e_astore i nx L S h
  | .iinc i n => e_iinc i (Int32.ofInt n) nx L S h
  | .iadd => e_bin (fun x y => x + y) nx L S h
  | .isub => e_bin (fun x y => x - y) nx L S h
  | .imul => e_bin (fun x y => x * y) nx L S h
  | .iand => e_bin (fun x y => x &&& y) nx L S h
  | .ior => e_bin (fun x y => x ||| y) nx L S h
  | .ixor => e_bin (fun x y => x ^^^ y) nx L S h
  | .ishl => e_bin (fun x y => x <<< (y &&& 31)) nx L S h
  | .ishr => e_bin (fun x y => x >>> (y &&& 31)) nx L S h
  | .iushr => e_bin (fun x y => (x.toUInt32 >>> (y.toUInt32 &&& Int32.toUInt32 31)).toInt32) nx L S h
  | .idiv => e_dvi (fun x y => x / y) nx L S h
  | .irem => e_dvi (fun x y => x - x / y * y) nx L S h
  | .ineg => e_una (fun x => -x) nx L S h
  | .i2b => e_una (fun x => x.toInt8.toInt32) nx L S h
  | .i2l => e_i2l nx L S h
  | .l2i => e_l2i nx L S h
  | .ladd => e_lbi (fun x y => x + y) nx L S h
  | .lmul => e_lbi (fun x y => x * y) nx L S h
  | .ldiv => e_ldv (fun x y => x / y) nx L S h
  | .lrem => e_ldv (fun x y => x - x / y * y) nx L S h
  | .lcmp => e_lcmp nx L S h
  | .dup => e_dup nx L S h
  | .dup2 => e_dup2 nx L S h
  | .pop => e_pop nx L S h
  | .ifCond c _ => e_if c x1 nx L S h
  | .if_icmp c _ => e_cmp c x1 nx L S h
  | .goto _ => ugo x1 L S h
  | .tableswitch d lo hi offs => e_tsw x1 d lo hi offs L S h
  | .lookupswitch d ps => e_lsw x1 d ps L S h
  | .getfield _ => e_getf x1 x2 nx L S h
  | .putfield _ => e_putf x1 x2 x3 nx L S h
  | .iaload => e_iald nx L S h
  | .baload => e_bald nx L S h
  | .iastore => e_iast nx L S h
  | .bastore => e_bast nx L S h
  | .aaload => e_aald nx L S h
  | .aastore => e_aast nx L S h
  | .arraylength => e_alen nx L S h
  | .new _ => e_new x1 (dfl x1) nx L S h
  | .newarray _ => e_newa x1 nx L S h
  | .anewarray _ => e_anew nx L S h
  | .invokestatic _ => if x2 = 9 then e_acpy nx L S h else e_call x1 (mL x1) (mA x1) nx L S h
  | .invokespecial _ => if x2 = 8 then e_obji nx L S h else e_ccal x1 (mL x1) (mA x1) nx L S h
  | .invokevirtual _ => if x2 = 3 then e_vcal x3 x1 (mL x1) (mA x1) nx L S h else if x2 = 4 then e_vcal 9 x1 (mL x1) (mA x1) nx L S h else if x2 = 7 then e_abst (vtb x3).1 (vtb x3).2.1 (vtb x3).2.2 (mL (vtb x3).1) (mL (vtb x3).2.1) (mL (vtb x3).2.2) (mA x1) nx L S h else if x2 = 10 then e_slen nx L S h else if x2 = 11 then e_schr nx L S h else none
  | .ireturn => e_iret x1 L S h
  | .lreturn => e_lret L S h
  | .areturn => e_aret L S h
  | .return_ => e_vret L S h
  | _ => none
def look : List icI → Nat → Option (Instr × Nat × Nat × Nat × Nat × Nat)
  | [], _ => none
  | q :: l, pc => if q.1 = pc then some q.2 else look l pc
def fet (k pc : Nat) : Option (Instr × Nat × Nat × Nat × Nat × Nat) := match mt[k]? with
  | some q => look q.2.2.2.2.2.2 pc
  | none => none
def con (E : icF) (k nx : Nat) (L S : List Value) : icR → icR
  | some (r, h) => E k nx L (r.toList ++ S) h
  | none => none
def exe (E : icF) (k : Nat) : icA → icR
  | none => none
  | some (.inl (pc, L, S, h)) => E k pc L S h
  | some (.inr (.inl (z, Lz, nx, L, S, h))) => con E k nx L S (E z 0 Lz [] h)
  | some (.inr (.inr (r, h))) => some (r, h)
def run : Nat → icF
  | 0 => fun _ _ _ _ _ => none
  | n + 1 => fun k pc L S h => match fet k pc with
    | some (i, len, x1, x2, x3, _) => exe (run n) k (eff (pc + len) x1 x2 x3 i L S h)
    | none => none
def fle (E F : icF) : Prop := ∀ k pc L S h r, E k pc L S h = some r → F k pc L S h = some r
theorem exe_mono {E F : icF} (hEF : fle E F) (k : Nat) (a : icA) (r : Option Value × icH) (h : exe E k a = some r) : exe F k a = some r := by
  match a, h with
  | some (.inl (pc, L, S, hh)), h => exact hEF _ _ _ _ _ _ h
  | some (.inr (.inl (z, Lz, nx, L, S, hh))), h =>
    simp only [exe] at h ⊢
    cases hz : E z 0 Lz [] hh with
    | none => rw [hz] at h; simp [con] at h
    | some q =>
      rw [hz] at h
      rw [hEF _ _ _ _ _ _ hz]
      simp only [con] at h ⊢
      exact hEF _ _ _ _ _ _ h
  | some (.inr (.inr (r', hh))), h => exact h
theorem run_mono : ∀ n, fle (run n) (run (n + 1))
  | 0 => fun k pc L S h r hr => by simp [run] at hr
  | n + 1 => fun k pc L S h r hr => by
    unfold run at hr ⊢
    cases hf : fet k pc with
    | none => rw [hf] at hr; simp at hr
    | some q =>
      obtain ⟨i, len, x1, x2, x3, x4⟩ := q
      rw [hf] at hr
      exact exe_mono (run_mono n) k _ r hr
theorem run_le {n m : Nat} (h : n ≤ m) : fle (run n) (run m) := by
  induction h with
  | refl => exact fun _ _ _ _ _ _ h => h
  | step _ ih => exact fun k pc L S h r hr => run_mono _ _ _ _ _ _ _ (ih _ _ _ _ _ _ hr)
/-- what a method comes to, from a place on -/
noncomputable def icE : icF := fun k pc L S h => by
  classical
  exact if hx : ∃ n r, run n k pc L S h = some r then some (Classical.choose (Classical.choose_spec hx)) else none
theorem icE_of {n k pc : Nat} {L S : List Value} {h : icH} {r : Option Value × icH} (hr : run n k pc L S h = some r) : icE k pc L S h = some r := by
  have hx : ∃ n r, run n k pc L S h = some r := ⟨n, r, hr⟩
  unfold icE
  rw [dif_pos hx]
  have h2 := Classical.choose_spec (Classical.choose_spec hx)
  have a1 := run_le (Nat.le_max_left n (Classical.choose hx)) _ _ _ _ _ _ hr
  have a2 := run_le (Nat.le_max_right n (Classical.choose hx)) _ _ _ _ _ _ h2
  rw [a1] at a2
  exact a2.symm
theorem icE_run {k pc : Nat} {L S : List Value} {h : icH} {r : Option Value × icH} (hr : icE k pc L S h = some r) : ∃ n, run n k pc L S h = some r := by
  unfold icE at hr
  split at hr
  next hx =>
    have h2 := Classical.choose_spec (Classical.choose_spec hx)
    cases hr
    exact ⟨_, h2⟩
  next => cases hr
theorem exe_lim {k : Nat} {a : icA} {r : Option Value × icH} (h : exe icE k a = some r) : ∃ n, exe (run n) k a = some r := by
  match a, h with
  | some (.inl (pc, L, S, hh)), h => exact icE_run h
  | some (.inr (.inl (z, Lz, nx, L, S, hh))), h =>
    simp only [exe] at h
    cases hz : icE z 0 Lz [] hh with
    | none => rw [hz] at h; simp [con] at h
    | some q =>
      rw [hz] at h
      simp only [con] at h
      obtain ⟨n, hn⟩ := icE_run hz
      obtain ⟨m, hm⟩ := icE_run h
      refine ⟨max n m, ?_⟩
      simp only [exe]
      rw [run_le (Nat.le_max_left n m) _ _ _ _ _ _ hn]
      exact run_le (Nat.le_max_right n m) _ _ _ _ _ _ hm
  | some (.inr (.inr (r', hh))), h => exact ⟨0, h⟩
theorem icE_le : ∀ n, fle (run n) icE := fun _ _ _ _ _ _ _ h => icE_of h
/-- the machine's equation -/
theorem icE_eq {k pc : Nat} {i : Instr} {len x1 x2 x3 x4 : Nat} (hf : fet k pc = some (i, len, x1, x2, x3, x4)) (L S : List Value) (h : icH) : icE k pc L S h = exe icE k (eff (pc + len) x1 x2 x3 i L S h) := by
  cases hr : exe icE k (eff (pc + len) x1 x2 x3 i L S h) with
  | some r =>
    obtain ⟨n, hn⟩ := exe_lim hr
    exact icE_of (n := n + 1) (by unfold run; rw [hf]; exact hn)
  | none =>
    cases he : icE k pc L S h with
    | none => rfl
    | some r =>
      obtain ⟨n, hn⟩ := icE_run he
      cases n with
      | zero => simp [run] at hn
      | succ n =>
        unfold run at hn
        rw [hf] at hn
        rw [exe_mono (icE_le n) k _ _ hn] at hr
        cases hr
