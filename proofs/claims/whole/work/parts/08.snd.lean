/-! ===== every run of the pure machine is one of the machine's ===== -/
def isAl : Instr → Bool
  | .new _ => true
  | .newarray _ => true
  | .anewarray _ => true
  | _ => false
def okG (al : Bool) (L : List Value) (h : icH) (L' : List Value) (h' : icH) : Prop := L'.length = L.length ∧ h.1 ≤ h'.1 ∧ h.2.1 ≤ h'.2.1 ∧ (al = false → h'.1 = h.1 ∧ h'.2.1 = h.2.1)
theorem g_ugo {nx : Nat} {L S : List Value} {h : icH} {pc' : Nat} {L' S' : List Value} {h' : icH} (he : ugo nx L S h = some (.inl (pc', L', S', h'))) : okG false L h L' h' := by
  obtain ⟨rfl, rfl, rfl, rfl⟩ := ugo_inj he
  exact ⟨rfl, Nat.le_refl _, Nat.le_refl _, fun _ => ⟨rfl, rfl⟩⟩
theorem g_ugoL {nx : Nat} {L L1 S : List Value} {h h1 : icH} {pc' : Nat} {L' S' : List Value} {h' : icH} (hL : L1.length = L.length) (h0 : h1.1 = h.1) (h2 : h1.2.1 = h.2.1) (he : ugo nx L1 S h1 = some (.inl (pc', L', S', h'))) : okG false L h L' h' := by
  obtain ⟨rfl, rfl, rfl, rfl⟩ := ugo_inj he
  exact ⟨hL, by omega, by omega, fun _ => ⟨h0, h2⟩⟩
theorem g_e_iload (i nx : Nat) (L S : List Value) (h : icH) {pc' : Nat} {L' S' : List Value} {h' : icH} (he : e_iload i nx L S h = some (.inl (pc', L', S', h'))) : okG false L h L' h' := by
  unfold e_iload at he
  repeat' split at he
  all_goals first | (cases he; done) | exact g_ugoL rfl rfl rfl he | (refine g_ugoL ?_ ?_ ?_ he <;> rfl) | exact g_ugoL (st1_len _ _ _) rfl rfl he | exact g_ugoL (st2_len _ _ _) rfl rfl he
theorem g_e_lload (i nx : Nat) (L S : List Value) (h : icH) {pc' : Nat} {L' S' : List Value} {h' : icH} (he : e_lload i nx L S h = some (.inl (pc', L', S', h'))) : okG false L h L' h' := by
  unfold e_lload at he
  repeat' split at he
  all_goals first | (cases he; done) | exact g_ugoL rfl rfl rfl he | (refine g_ugoL ?_ ?_ ?_ he <;> rfl) | exact g_ugoL (st1_len _ _ _) rfl rfl he | exact g_ugoL (st2_len _ _ _) rfl rfl he
theorem g_e_aload (i nx : Nat) (L S : List Value) (h : icH) {pc' : Nat} {L' S' : List Value} {h' : icH} (he : e_aload i nx L S h = some (.inl (pc', L', S', h'))) : okG false L h L' h' := by
  unfold e_aload at he
  repeat' split at he
  all_goals first | (cases he; done) | exact g_ugoL rfl rfl rfl he | (refine g_ugoL ?_ ?_ ?_ he <;> rfl) | exact g_ugoL (st1_len _ _ _) rfl rfl he | exact g_ugoL (st2_len _ _ _) rfl rfl he
theorem g_e_istore (i nx : Nat) (L S : List Value) (h : icH) {pc' : Nat} {L' S' : List Value} {h' : icH} (he : e_istore i nx L S h = some (.inl (pc', L', S', h'))) : okG false L h L' h' := by
  unfold e_istore at he
  repeat' split at he
  all_goals first | (cases he; done) | exact g_ugoL rfl rfl rfl he | (refine g_ugoL ?_ ?_ ?_ he <;> rfl) | exact g_ugoL (st1_len _ _ _) rfl rfl he | exact g_ugoL (st2_len _ _ _) rfl rfl he
theorem g_e_lstore (i nx : Nat) (L S : List Value) (h : icH) {pc' : Nat} {L' S' : List Value} {h' : icH} (he : e_lstore i nx L S h = some (.inl (pc', L', S', h'))) : okG false L h L' h' := by
  unfold e_lstore at he
  repeat' split at he
  all_goals first | (cases he; done) | exact g_ugoL rfl rfl rfl he | (refine g_ugoL ?_ ?_ ?_ he <;> rfl) | exact g_ugoL (st1_len _ _ _) rfl rfl he | exact g_ugoL (st2_len _ _ _) rfl rfl he
theorem g_e_astore (i nx : Nat) (L S : List Value) (h : icH) {pc' : Nat} {L' S' : List Value} {h' : icH} (he : e_astore i nx L S h = some (.inl (pc', L', S', h'))) : okG false L h L' h' := by
  unfold e_astore at he
  repeat' split at he
  all_goals first | (cases he; done) | exact g_ugoL rfl rfl rfl he | (refine g_ugoL ?_ ?_ ?_ he <;> rfl) | exact g_ugoL (st1_len _ _ _) rfl rfl he | exact g_ugoL (st2_len _ _ _) rfl rfl he
theorem g_e_iinc (i : Nat) (n : Int32) (nx : Nat) (L S : List Value) (h : icH) {pc' : Nat} {L' S' : List Value} {h' : icH} (he : e_iinc i n nx L S h = some (.inl (pc', L', S', h'))) : okG false L h L' h' := by
  unfold e_iinc at he
  repeat' split at he
  all_goals first | (cases he; done) | exact g_ugoL rfl rfl rfl he | (refine g_ugoL ?_ ?_ ?_ he <;> rfl) | exact g_ugoL (st1_len _ _ _) rfl rfl he | exact g_ugoL (st2_len _ _ _) rfl rfl he
theorem g_e_bin (f : Int32 → Int32 → Int32) (nx : Nat) (L S : List Value) (h : icH) {pc' : Nat} {L' S' : List Value} {h' : icH} (he : e_bin f nx L S h = some (.inl (pc', L', S', h'))) : okG false L h L' h' := by
  unfold e_bin at he
  repeat' split at he
  all_goals first | (cases he; done) | exact g_ugoL rfl rfl rfl he | (refine g_ugoL ?_ ?_ ?_ he <;> rfl) | exact g_ugoL (st1_len _ _ _) rfl rfl he | exact g_ugoL (st2_len _ _ _) rfl rfl he
theorem g_e_dvi (f : Int32 → Int32 → Int32) (nx : Nat) (L S : List Value) (h : icH) {pc' : Nat} {L' S' : List Value} {h' : icH} (he : e_dvi f nx L S h = some (.inl (pc', L', S', h'))) : okG false L h L' h' := by
  unfold e_dvi at he
  repeat' split at he
  all_goals first | (cases he; done) | exact g_ugoL rfl rfl rfl he | (refine g_ugoL ?_ ?_ ?_ he <;> rfl) | exact g_ugoL (st1_len _ _ _) rfl rfl he | exact g_ugoL (st2_len _ _ _) rfl rfl he
theorem g_e_una (f : Int32 → Int32) (nx : Nat) (L S : List Value) (h : icH) {pc' : Nat} {L' S' : List Value} {h' : icH} (he : e_una f nx L S h = some (.inl (pc', L', S', h'))) : okG false L h L' h' := by
  unfold e_una at he
  repeat' split at he
  all_goals first | (cases he; done) | exact g_ugoL rfl rfl rfl he | (refine g_ugoL ?_ ?_ ?_ he <;> rfl) | exact g_ugoL (st1_len _ _ _) rfl rfl he | exact g_ugoL (st2_len _ _ _) rfl rfl he
theorem g_e_lbi (f : Int64 → Int64 → Int64) (nx : Nat) (L S : List Value) (h : icH) {pc' : Nat} {L' S' : List Value} {h' : icH} (he : e_lbi f nx L S h = some (.inl (pc', L', S', h'))) : okG false L h L' h' := by
  unfold e_lbi at he
  repeat' split at he
  all_goals first | (cases he; done) | exact g_ugoL rfl rfl rfl he | (refine g_ugoL ?_ ?_ ?_ he <;> rfl) | exact g_ugoL (st1_len _ _ _) rfl rfl he | exact g_ugoL (st2_len _ _ _) rfl rfl he
theorem g_e_ldv (f : Int64 → Int64 → Int64) (nx : Nat) (L S : List Value) (h : icH) {pc' : Nat} {L' S' : List Value} {h' : icH} (he : e_ldv f nx L S h = some (.inl (pc', L', S', h'))) : okG false L h L' h' := by
  unfold e_ldv at he
  repeat' split at he
  all_goals first | (cases he; done) | exact g_ugoL rfl rfl rfl he | (refine g_ugoL ?_ ?_ ?_ he <;> rfl) | exact g_ugoL (st1_len _ _ _) rfl rfl he | exact g_ugoL (st2_len _ _ _) rfl rfl he
theorem g_e_i2l (nx : Nat) (L S : List Value) (h : icH) {pc' : Nat} {L' S' : List Value} {h' : icH} (he : e_i2l nx L S h = some (.inl (pc', L', S', h'))) : okG false L h L' h' := by
  unfold e_i2l at he
  repeat' split at he
  all_goals first | (cases he; done) | exact g_ugoL rfl rfl rfl he | (refine g_ugoL ?_ ?_ ?_ he <;> rfl) | exact g_ugoL (st1_len _ _ _) rfl rfl he | exact g_ugoL (st2_len _ _ _) rfl rfl he
theorem g_e_l2i (nx : Nat) (L S : List Value) (h : icH) {pc' : Nat} {L' S' : List Value} {h' : icH} (he : e_l2i nx L S h = some (.inl (pc', L', S', h'))) : okG false L h L' h' := by
  unfold e_l2i at he
  repeat' split at he
  all_goals first | (cases he; done) | exact g_ugoL rfl rfl rfl he | (refine g_ugoL ?_ ?_ ?_ he <;> rfl) | exact g_ugoL (st1_len _ _ _) rfl rfl he | exact g_ugoL (st2_len _ _ _) rfl rfl he
theorem g_e_lcmp (nx : Nat) (L S : List Value) (h : icH) {pc' : Nat} {L' S' : List Value} {h' : icH} (he : e_lcmp nx L S h = some (.inl (pc', L', S', h'))) : okG false L h L' h' := by
  unfold e_lcmp at he
  repeat' split at he
  all_goals first | (cases he; done) | exact g_ugoL rfl rfl rfl he | (refine g_ugoL ?_ ?_ ?_ he <;> rfl) | exact g_ugoL (st1_len _ _ _) rfl rfl he | exact g_ugoL (st2_len _ _ _) rfl rfl he
theorem g_e_dup (nx : Nat) (L S : List Value) (h : icH) {pc' : Nat} {L' S' : List Value} {h' : icH} (he : e_dup nx L S h = some (.inl (pc', L', S', h'))) : okG false L h L' h' := by
  unfold e_dup at he
  repeat' split at he
  all_goals first | (cases he; done) | exact g_ugoL rfl rfl rfl he | (refine g_ugoL ?_ ?_ ?_ he <;> rfl) | exact g_ugoL (st1_len _ _ _) rfl rfl he | exact g_ugoL (st2_len _ _ _) rfl rfl he
theorem g_e_dup2 (nx : Nat) (L S : List Value) (h : icH) {pc' : Nat} {L' S' : List Value} {h' : icH} (he : e_dup2 nx L S h = some (.inl (pc', L', S', h'))) : okG false L h L' h' := by
  unfold e_dup2 at he
  repeat' split at he
  all_goals first | (cases he; done) | exact g_ugoL rfl rfl rfl he | (refine g_ugoL ?_ ?_ ?_ he <;> rfl) | exact g_ugoL (st1_len _ _ _) rfl rfl he | exact g_ugoL (st2_len _ _ _) rfl rfl he
theorem g_e_pop (nx : Nat) (L S : List Value) (h : icH) {pc' : Nat} {L' S' : List Value} {h' : icH} (he : e_pop nx L S h = some (.inl (pc', L', S', h'))) : okG false L h L' h' := by
  unfold e_pop at he
  repeat' split at he
  all_goals first | (cases he; done) | exact g_ugoL rfl rfl rfl he | (refine g_ugoL ?_ ?_ ?_ he <;> rfl) | exact g_ugoL (st1_len _ _ _) rfl rfl he | exact g_ugoL (st2_len _ _ _) rfl rfl he
theorem g_e_if (c : ClassFile.Cond) (t nx : Nat) (L S : List Value) (h : icH) {pc' : Nat} {L' S' : List Value} {h' : icH} (he : e_if c t nx L S h = some (.inl (pc', L', S', h'))) : okG false L h L' h' := by
  unfold e_if at he
  repeat' split at he
  all_goals first | (cases he; done) | exact g_ugoL rfl rfl rfl he | (refine g_ugoL ?_ ?_ ?_ he <;> rfl) | exact g_ugoL (st1_len _ _ _) rfl rfl he | exact g_ugoL (st2_len _ _ _) rfl rfl he
theorem g_e_cmp (c : ClassFile.Cond) (t nx : Nat) (L S : List Value) (h : icH) {pc' : Nat} {L' S' : List Value} {h' : icH} (he : e_cmp c t nx L S h = some (.inl (pc', L', S', h'))) : okG false L h L' h' := by
  unfold e_cmp at he
  repeat' split at he
  all_goals first | (cases he; done) | exact g_ugoL rfl rfl rfl he | (refine g_ugoL ?_ ?_ ?_ he <;> rfl) | exact g_ugoL (st1_len _ _ _) rfl rfl he | exact g_ugoL (st2_len _ _ _) rfl rfl he
theorem g_e_jmp (pc off : Int) (L S : List Value) (h : icH) {pc' : Nat} {L' S' : List Value} {h' : icH} (he : e_jmp pc off L S h = some (.inl (pc', L', S', h'))) : okG false L h L' h' := by
  unfold e_jmp at he
  repeat' split at he
  all_goals first | (cases he; done) | exact g_ugoL rfl rfl rfl he | (refine g_ugoL ?_ ?_ ?_ he <;> rfl) | exact g_ugoL (st1_len _ _ _) rfl rfl he | exact g_ugoL (st2_len _ _ _) rfl rfl he
theorem g_e_tsw (pc : Nat) (d lo hi : Int) (offs : Array Int) (L S : List Value) (h : icH) {pc' : Nat} {L' S' : List Value} {h' : icH} (he : e_tsw pc d lo hi offs L S h = some (.inl (pc', L', S', h'))) : okG false L h L' h' := by
  unfold e_tsw e_jmp at he
  repeat' split at he
  all_goals first | (cases he; done) | exact g_ugoL rfl rfl rfl he | (refine g_ugoL ?_ ?_ ?_ he <;> rfl) | exact g_ugoL (st1_len _ _ _) rfl rfl he | exact g_ugoL (st2_len _ _ _) rfl rfl he
theorem g_e_lsw (pc : Nat) (d : Int) (ps : Array (Int × Int)) (L S : List Value) (h : icH) {pc' : Nat} {L' S' : List Value} {h' : icH} (he : e_lsw pc d ps L S h = some (.inl (pc', L', S', h'))) : okG false L h L' h' := by
  unfold e_lsw e_jmp at he
  repeat' split at he
  all_goals first | (cases he; done) | exact g_ugoL rfl rfl rfl he | (refine g_ugoL ?_ ?_ ?_ he <;> rfl) | exact g_ugoL (st1_len _ _ _) rfl rfl he | exact g_ugoL (st2_len _ _ _) rfl rfl he
theorem g_e_getf (k ci nx : Nat) (L S : List Value) (h : icH) {pc' : Nat} {L' S' : List Value} {h' : icH} (he : e_getf k ci nx L S h = some (.inl (pc', L', S', h'))) : okG false L h L' h' := by
  unfold e_getf e_gf1 at he
  repeat' split at he
  all_goals first | (cases he; done) | exact g_ugoL rfl rfl rfl he | (refine g_ugoL ?_ ?_ ?_ he <;> rfl) | exact g_ugoL (st1_len _ _ _) rfl rfl he | exact g_ugoL (st2_len _ _ _) rfl rfl he
theorem g_e_putf (k ci kind nx : Nat) (L S : List Value) (h : icH) {pc' : Nat} {L' S' : List Value} {h' : icH} (he : e_putf k ci kind nx L S h = some (.inl (pc', L', S', h'))) : okG false L h L' h' := by
  unfold e_putf e_pf1 at he
  repeat' split at he
  all_goals first | (cases he; done) | exact g_ugoL rfl rfl rfl he | (refine g_ugoL ?_ ?_ ?_ he <;> rfl) | exact g_ugoL (st1_len _ _ _) rfl rfl he | exact g_ugoL (st2_len _ _ _) rfl rfl he
theorem g_e_iald (nx : Nat) (L S : List Value) (h : icH) {pc' : Nat} {L' S' : List Value} {h' : icH} (he : e_iald nx L S h = some (.inl (pc', L', S', h'))) : okG false L h L' h' := by
  unfold e_iald e_ia1 at he
  repeat' split at he
  all_goals first | (cases he; done) | exact g_ugoL rfl rfl rfl he | (refine g_ugoL ?_ ?_ ?_ he <;> rfl) | exact g_ugoL (st1_len _ _ _) rfl rfl he | exact g_ugoL (st2_len _ _ _) rfl rfl he
theorem g_e_bald (nx : Nat) (L S : List Value) (h : icH) {pc' : Nat} {L' S' : List Value} {h' : icH} (he : e_bald nx L S h = some (.inl (pc', L', S', h'))) : okG false L h L' h' := by
  unfold e_bald e_ba1 at he
  repeat' split at he
  all_goals first | (cases he; done) | exact g_ugoL rfl rfl rfl he | (refine g_ugoL ?_ ?_ ?_ he <;> rfl) | exact g_ugoL (st1_len _ _ _) rfl rfl he | exact g_ugoL (st2_len _ _ _) rfl rfl he
theorem g_e_iast (nx : Nat) (L S : List Value) (h : icH) {pc' : Nat} {L' S' : List Value} {h' : icH} (he : e_iast nx L S h = some (.inl (pc', L', S', h'))) : okG false L h L' h' := by
  unfold e_iast e_is1 at he
  repeat' split at he
  all_goals first | (cases he; done) | exact g_ugoL rfl rfl rfl he | (refine g_ugoL ?_ ?_ ?_ he <;> rfl) | exact g_ugoL (st1_len _ _ _) rfl rfl he | exact g_ugoL (st2_len _ _ _) rfl rfl he
theorem g_e_bast (nx : Nat) (L S : List Value) (h : icH) {pc' : Nat} {L' S' : List Value} {h' : icH} (he : e_bast nx L S h = some (.inl (pc', L', S', h'))) : okG false L h L' h' := by
  unfold e_bast e_bs1 at he
  repeat' split at he
  all_goals first | (cases he; done) | exact g_ugoL rfl rfl rfl he | (refine g_ugoL ?_ ?_ ?_ he <;> rfl) | exact g_ugoL (st1_len _ _ _) rfl rfl he | exact g_ugoL (st2_len _ _ _) rfl rfl he
theorem g_e_aald (nx : Nat) (L S : List Value) (h : icH) {pc' : Nat} {L' S' : List Value} {h' : icH} (he : e_aald nx L S h = some (.inl (pc', L', S', h'))) : okG false L h L' h' := by
  unfold e_aald e_aa1 at he
  repeat' split at he
  all_goals first | (cases he; done) | exact g_ugoL rfl rfl rfl he | (refine g_ugoL ?_ ?_ ?_ he <;> rfl) | exact g_ugoL (st1_len _ _ _) rfl rfl he | exact g_ugoL (st2_len _ _ _) rfl rfl he
theorem g_e_aast (nx : Nat) (L S : List Value) (h : icH) {pc' : Nat} {L' S' : List Value} {h' : icH} (he : e_aast nx L S h = some (.inl (pc', L', S', h'))) : okG false L h L' h' := by
  unfold e_aast e_as1 at he
  repeat' split at he
  all_goals first | (cases he; done) | exact g_ugoL rfl rfl rfl he | (refine g_ugoL ?_ ?_ ?_ he <;> rfl) | exact g_ugoL (st1_len _ _ _) rfl rfl he | exact g_ugoL (st2_len _ _ _) rfl rfl he
theorem g_e_alen (nx : Nat) (L S : List Value) (h : icH) {pc' : Nat} {L' S' : List Value} {h' : icH} (he : e_alen nx L S h = some (.inl (pc', L', S', h'))) : okG false L h L' h' := by
  unfold e_alen e_al1 at he
  repeat' split at he
  all_goals first | (cases he; done) | exact g_ugoL rfl rfl rfl he | (refine g_ugoL ?_ ?_ ?_ he <;> rfl) | exact g_ugoL (st1_len _ _ _) rfl rfl he | exact g_ugoL (st2_len _ _ _) rfl rfl he
theorem g_e_obji (nx : Nat) (L S : List Value) (h : icH) {pc' : Nat} {L' S' : List Value} {h' : icH} (he : e_obji nx L S h = some (.inl (pc', L', S', h'))) : okG false L h L' h' := by
  unfold e_obji at he
  repeat' split at he
  all_goals first | (cases he; done) | exact g_ugoL rfl rfl rfl he | (refine g_ugoL ?_ ?_ ?_ he <;> rfl) | exact g_ugoL (st1_len _ _ _) rfl rfl he | exact g_ugoL (st2_len _ _ _) rfl rfl he
theorem g_e_acpy (nx : Nat) (L S : List Value) (h : icH) {pc' : Nat} {L' S' : List Value} {h' : icH} (he : e_acpy nx L S h = some (.inl (pc', L', S', h'))) : okG false L h L' h' := by
  unfold e_acpy e_cp1 at he
  repeat' split at he
  all_goals first | (cases he; done) | exact g_ugoL rfl rfl rfl he | (refine g_ugoL ?_ ?_ ?_ he <;> rfl) | exact g_ugoL (st1_len _ _ _) rfl rfl he | exact g_ugoL (st2_len _ _ _) rfl rfl he
theorem g_e_slen (nx : Nat) (L S : List Value) (h : icH) {pc' : Nat} {L' S' : List Value} {h' : icH} (he : e_slen nx L S h = some (.inl (pc', L', S', h'))) : okG false L h L' h' := by
  unfold e_slen at he
  repeat' split at he
  all_goals first | (cases he; done) | exact g_ugoL rfl rfl rfl he | (refine g_ugoL ?_ ?_ ?_ he <;> rfl) | exact g_ugoL (st1_len _ _ _) rfl rfl he | exact g_ugoL (st2_len _ _ _) rfl rfl he
theorem g_e_schr (nx : Nat) (L S : List Value) (h : icH) {pc' : Nat} {L' S' : List Value} {h' : icH} (he : e_schr nx L S h = some (.inl (pc', L', S', h'))) : okG false L h L' h' := by
  unfold e_schr at he
  repeat' split at he
  all_goals first | (cases he; done) | exact g_ugoL rfl rfl rfl he | (refine g_ugoL ?_ ?_ ?_ he <;> rfl) | exact g_ugoL (st1_len _ _ _) rfl rfl he | exact g_ugoL (st2_len _ _ _) rfl rfl he
theorem n_e_call (z nl na nx : Nat) (L S : List Value) (h : icH) {x} (he : e_call z nl na nx L S h = some (.inl x)) : False := by
  unfold e_call e_cl1 at he
  repeat' split at he
  all_goals cases he
theorem n_e_ccal (z nl na nx : Nat) (L S : List Value) (h : icH) {x} (he : e_ccal z nl na nx L S h = some (.inl x)) : False := by
  unfold e_ccal e_cl2 at he
  repeat' split at he
  all_goals cases he
theorem n_e_vcal (ci z nl na nx : Nat) (L S : List Value) (h : icH) {x} (he : e_vcal ci z nl na nx L S h = some (.inl x)) : False := by
  unfold e_vcal e_vc1 e_vc2 at he
  repeat' split at he
  all_goals cases he
theorem n_e_abst (z1 z3 z4 n1 n3 n4 na nx : Nat) (L S : List Value) (h : icH) {x} (he : e_abst z1 z3 z4 n1 n3 n4 na nx L S h = some (.inl x)) : False := by
  unfold e_abst e_ab1 e_ab2 at he
  repeat' split at he
  all_goals cases he
theorem eff_go {nx x1 x2 x3 : Nat} {i : Instr} {L S : List Value} {h : icH} {pc' : Nat} {L' S' : List Value} {h' : icH} (he : eff nx x1 x2 x3 i L S h = some (.inl (pc', L', S', h'))) : okG (isAl i) L h L' h' := by
  cases i
  all_goals first
    | (simp only [eff] at he; cases he; done)
    | exact g_ugo he
    | exact g_e_iload _ _ _ _ _ he
    | exact g_e_lload _ _ _ _ _ he
    | exact g_e_aload _ _ _ _ _ he
    | exact g_e_istore _ _ _ _ _ he
    | exact g_e_lstore _ _ _ _ _ he
    | exact g_e_astore _ _ _ _ _ he
    | exact g_e_iinc _ _ _ _ _ _ he
    | exact g_e_bin _ _ _ _ _ he
    | exact g_e_dvi _ _ _ _ _ he
    | exact g_e_una _ _ _ _ _ he
    | exact g_e_lbi _ _ _ _ _ he
    | exact g_e_ldv _ _ _ _ _ he
    | exact g_e_i2l _ _ _ _ he
    | exact g_e_l2i _ _ _ _ he
    | exact g_e_lcmp _ _ _ _ he
    | exact g_e_dup _ _ _ _ he
    | exact g_e_dup2 _ _ _ _ he
    | exact g_e_pop _ _ _ _ he
    | exact g_e_if _ _ _ _ _ _ he
    | exact g_e_cmp _ _ _ _ _ _ he
    | exact g_e_tsw _ _ _ _ _ _ _ _ he
    | exact g_e_lsw _ _ _ _ _ _ he
    | exact g_e_getf _ _ _ _ _ _ he
    | exact g_e_putf _ _ _ _ _ _ _ he
    | exact g_e_iald _ _ _ _ he
    | exact g_e_bald _ _ _ _ he
    | exact g_e_iast _ _ _ _ he
    | exact g_e_bast _ _ _ _ he
    | exact g_e_aald _ _ _ _ he
    | exact g_e_aast _ _ _ _ he
    | exact g_e_alen _ _ _ _ he
    | skip
  case ldc idx =>
    simp only [eff] at he
    split at he <;> exact g_ugo he
  case new idx =>
    simp only [eff, e_new] at he
    split at he
    · obtain ⟨rfl, rfl, rfl, rfl⟩ := ugo_inj he
      exact ⟨rfl, Nat.le_succ _, Nat.le_add_right _ _, fun z => by cases z⟩
    · cases he
  case newarray t =>
    simp only [eff, e_newa] at he
    repeat' split at he
    · obtain ⟨rfl, rfl, rfl, rfl⟩ := ugo_inj he
      exact ⟨rfl, Nat.le_succ _, Nat.le_add_right _ _, fun z => by cases z⟩
    all_goals cases he
  case anewarray t =>
    simp only [eff, e_anew] at he
    repeat' split at he
    · obtain ⟨rfl, rfl, rfl, rfl⟩ := ugo_inj he
      exact ⟨rfl, Nat.le_succ _, Nat.le_add_right _ _, fun z => by cases z⟩
    all_goals cases he
  case invokestatic idx =>
    simp only [eff] at he
    split at he
    · exact g_e_acpy _ _ _ _ he
    · exact (n_e_call _ _ _ _ _ _ _ he).elim
  case invokespecial idx =>
    simp only [eff] at he
    split at he
    · exact g_e_obji _ _ _ _ he
    · exact (n_e_ccal _ _ _ _ _ _ _ he).elim
  case invokevirtual idx =>
    simp only [eff] at he
    repeat' split at he
    · exact (n_e_vcal _ _ _ _ _ _ _ _ he).elim
    · exact (n_e_vcal _ _ _ _ _ _ _ _ he).elim
    · exact (n_e_abst _ _ _ _ _ _ _ _ _ _ _ he).elim
    · exact g_e_slen _ _ _ _ he
    · exact g_e_schr _ _ _ _ he
    · cases he
  case ireturn =>
    simp only [eff, e_iret] at he
    repeat' split at he
    all_goals cases he
  case lreturn =>
    simp only [eff, e_lret] at he
    split at he <;> cases he
  case areturn =>
    simp only [eff, e_aret] at he
    split at he <;> cases he
  case return_ =>
    simp only [eff, e_vret] at he
    split at he <;> cases he
theorem c_cl1 {z nl : Nat} {q : Option (List Value × List Value)} {nx : Nat} {L : List Value} {h : icH} {z' : Nat} {Lz : List Value} {nx' : Nat} {L' S' : List Value} {h' : icH} (he : e_cl1 z nl q nx L h = some (.inr (.inl (z', Lz, nx', L', S', h')))) : ∃ as, q = some (as, S') ∧ csum S' ≤ 8 ∧ csum as ≤ nl ∧ z' = z ∧ Lz = entL as nl ∧ nx' = nx ∧ L' = L ∧ h' = h := by
  unfold e_cl1 at he
  split at he
  next as S0 =>
    split at he
    next hc => cases he; exact ⟨as, rfl, hc.1, hc.2, rfl, rfl, rfl, rfl, rfl⟩
    next => cases he
  next => cases he
theorem c_cl2 {z nl : Nat} {q : Option (List Value × List Value)} {nx : Nat} {L : List Value} {h : icH} {z' : Nat} {Lz : List Value} {nx' : Nat} {L' S' : List Value} {h' : icH} (he : e_cl2 z nl q nx L h = some (.inr (.inl (z', Lz, nx', L', S', h')))) : ∃ a as, q = some (.ref a :: as, S') ∧ csum S' ≤ 8 ∧ csum (.ref a :: as) ≤ nl ∧ z' = z ∧ Lz = entL (.ref a :: as) nl ∧ nx' = nx ∧ L' = L ∧ h' = h := by
  unfold e_cl2 at he
  split at he
  next a as S0 =>
    split at he
    next hc => cases he; exact ⟨a, as, rfl, hc.1, hc.2, rfl, rfl, rfl, rfl, rfl⟩
    next => cases he
  next => cases he
theorem c_vc1 {ci z nl : Nat} {q : Option (List Value × List Value)} {nx : Nat} {L : List Value} {h : icH} {z' : Nat} {Lz : List Value} {nx' : Nat} {L' S' : List Value} {h' : icH} (he : e_vc1 ci z nl q nx L h = some (.inr (.inl (z', Lz, nx', L', S', h')))) : ∃ a as cj fs, q = some (.ref a :: as, S') ∧ hg h a = some (ob cj fs) ∧ gclB ci cj = true ∧ csum S' ≤ 8 ∧ csum (.ref a :: as) ≤ nl ∧ z' = z ∧ Lz = entL (.ref a :: as) nl ∧ nx' = nx ∧ L' = L ∧ h' = h := by
  unfold e_vc1 at he
  split at he
  next a as S0 =>
    · unfold e_vc2 at he
      split at he
      next cj fs hc =>
        split at he
        next hg =>
          split at he
          next hs => cases he; exact ⟨a, as, cj, fs, rfl, hc, hg, hs.1, hs.2, rfl, rfl, rfl, rfl, rfl⟩
          next => cases he
        next => cases he
      next => cases he
  next => cases he
theorem c_ab1 {z1 z3 z4 n1 n3 n4 : Nat} {q : Option (List Value × List Value)} {nx : Nat} {L : List Value} {h : icH} {z' : Nat} {Lz : List Value} {nx' : Nat} {L' S' : List Value} {h' : icH} (he : e_ab1 z1 z3 z4 n1 n3 n4 q nx L h = some (.inr (.inl (z', Lz, nx', L', S', h')))) : ∃ a as cj fs nl, q = some (.ref a :: as, S') ∧ hg h a = some (ob cj fs) ∧ csum S' ≤ 8 ∧ csum (.ref a :: as) ≤ nl ∧ ((cj = 1 ∧ z' = z1 ∧ nl = n1) ∨ (cj = 3 ∧ z' = z3 ∧ nl = n3) ∨ (cj = 4 ∧ z' = z4 ∧ nl = n4)) ∧ Lz = entL (.ref a :: as) nl ∧ nx' = nx ∧ L' = L ∧ h' = h := by
  unfold e_ab1 at he
  split at he
  next a as S0 =>
    · unfold e_ab2 at he
      split at he
      next fs hc =>
        split at he
        next hs => cases he; exact ⟨a, as, 1, fs, n1, rfl, hc, hs.1, hs.2, Or.inl ⟨rfl, rfl, rfl⟩, rfl, rfl, rfl, rfl⟩
        next => cases he
      next fs hc =>
        split at he
        next hs => cases he; exact ⟨a, as, 3, fs, n3, rfl, hc, hs.1, hs.2, Or.inr (Or.inl ⟨rfl, rfl, rfl⟩), rfl, rfl, rfl, rfl⟩
        next => cases he
      next fs hc =>
        split at he
        next hs => cases he; exact ⟨a, as, 4, fs, n4, rfl, hc, hs.1, hs.2, Or.inr (Or.inr ⟨rfl, rfl, rfl⟩), rfl, rfl, rfl, rfl⟩
        next => cases he
      next => cases he
  next => cases he
theorem j_e_iload (i nx : Nat) (L S : List Value) (h : icH) {x} (he : e_iload i nx L S h = some (.inr x)) : False := by
  unfold e_iload at he
  repeat' split at he
  all_goals cases he
theorem j_e_lload (i nx : Nat) (L S : List Value) (h : icH) {x} (he : e_lload i nx L S h = some (.inr x)) : False := by
  unfold e_lload at he
  repeat' split at he
  all_goals cases he
theorem j_e_aload (i nx : Nat) (L S : List Value) (h : icH) {x} (he : e_aload i nx L S h = some (.inr x)) : False := by
  unfold e_aload at he
  repeat' split at he
  all_goals cases he
theorem j_e_istore (i nx : Nat) (L S : List Value) (h : icH) {x} (he : e_istore i nx L S h = some (.inr x)) : False := by
  unfold e_istore at he
  repeat' split at he
  all_goals cases he
theorem j_e_lstore (i nx : Nat) (L S : List Value) (h : icH) {x} (he : e_lstore i nx L S h = some (.inr x)) : False := by
  unfold e_lstore at he
  repeat' split at he
  all_goals cases he
theorem j_e_astore (i nx : Nat) (L S : List Value) (h : icH) {x} (he : e_astore i nx L S h = some (.inr x)) : False := by
  unfold e_astore at he
  repeat' split at he
  all_goals cases he
theorem j_e_iinc (i : Nat) (n : Int32) (nx : Nat) (L S : List Value) (h : icH) {x} (he : e_iinc i n nx L S h = some (.inr x)) : False := by
  unfold e_iinc at he
  repeat' split at he
  all_goals cases he
theorem j_e_bin (f : Int32 → Int32 → Int32) (nx : Nat) (L S : List Value) (h : icH) {x} (he : e_bin f nx L S h = some (.inr x)) : False := by
  unfold e_bin at he
  repeat' split at he
  all_goals cases he
theorem j_e_dvi (f : Int32 → Int32 → Int32) (nx : Nat) (L S : List Value) (h : icH) {x} (he : e_dvi f nx L S h = some (.inr x)) : False := by
  unfold e_dvi at he
  repeat' split at he
  all_goals cases he
theorem j_e_una (f : Int32 → Int32) (nx : Nat) (L S : List Value) (h : icH) {x} (he : e_una f nx L S h = some (.inr x)) : False := by
  unfold e_una at he
  repeat' split at he
  all_goals cases he
theorem j_e_lbi (f : Int64 → Int64 → Int64) (nx : Nat) (L S : List Value) (h : icH) {x} (he : e_lbi f nx L S h = some (.inr x)) : False := by
  unfold e_lbi at he
  repeat' split at he
  all_goals cases he
theorem j_e_ldv (f : Int64 → Int64 → Int64) (nx : Nat) (L S : List Value) (h : icH) {x} (he : e_ldv f nx L S h = some (.inr x)) : False := by
  unfold e_ldv at he
  repeat' split at he
  all_goals cases he
theorem j_e_i2l (nx : Nat) (L S : List Value) (h : icH) {x} (he : e_i2l nx L S h = some (.inr x)) : False := by
  unfold e_i2l at he
  repeat' split at he
  all_goals cases he
theorem j_e_l2i (nx : Nat) (L S : List Value) (h : icH) {x} (he : e_l2i nx L S h = some (.inr x)) : False := by
  unfold e_l2i at he
  repeat' split at he
  all_goals cases he
theorem j_e_lcmp (nx : Nat) (L S : List Value) (h : icH) {x} (he : e_lcmp nx L S h = some (.inr x)) : False := by
  unfold e_lcmp at he
  repeat' split at he
  all_goals cases he
theorem j_e_dup (nx : Nat) (L S : List Value) (h : icH) {x} (he : e_dup nx L S h = some (.inr x)) : False := by
  unfold e_dup at he
  repeat' split at he
  all_goals cases he
theorem j_e_dup2 (nx : Nat) (L S : List Value) (h : icH) {x} (he : e_dup2 nx L S h = some (.inr x)) : False := by
  unfold e_dup2 at he
  repeat' split at he
  all_goals cases he
theorem j_e_pop (nx : Nat) (L S : List Value) (h : icH) {x} (he : e_pop nx L S h = some (.inr x)) : False := by
  unfold e_pop at he
  repeat' split at he
  all_goals cases he
theorem j_e_if (c : ClassFile.Cond) (t nx : Nat) (L S : List Value) (h : icH) {x} (he : e_if c t nx L S h = some (.inr x)) : False := by
  unfold e_if at he
  repeat' split at he
  all_goals cases he
theorem j_e_cmp (c : ClassFile.Cond) (t nx : Nat) (L S : List Value) (h : icH) {x} (he : e_cmp c t nx L S h = some (.inr x)) : False := by
  unfold e_cmp at he
  repeat' split at he
  all_goals cases he
theorem j_e_tsw (pc : Nat) (d lo hi : Int) (offs : Array Int) (L S : List Value) (h : icH) {x} (he : e_tsw pc d lo hi offs L S h = some (.inr x)) : False := by
  unfold e_tsw e_jmp at he
  repeat' split at he
  all_goals cases he
theorem j_e_lsw (pc : Nat) (d : Int) (ps : Array (Int × Int)) (L S : List Value) (h : icH) {x} (he : e_lsw pc d ps L S h = some (.inr x)) : False := by
  unfold e_lsw e_jmp at he
  repeat' split at he
  all_goals cases he
theorem j_e_getf (k ci nx : Nat) (L S : List Value) (h : icH) {x} (he : e_getf k ci nx L S h = some (.inr x)) : False := by
  unfold e_getf e_gf1 at he
  repeat' split at he
  all_goals cases he
theorem j_e_putf (k ci kind nx : Nat) (L S : List Value) (h : icH) {x} (he : e_putf k ci kind nx L S h = some (.inr x)) : False := by
  unfold e_putf e_pf1 at he
  repeat' split at he
  all_goals cases he
theorem j_e_iald (nx : Nat) (L S : List Value) (h : icH) {x} (he : e_iald nx L S h = some (.inr x)) : False := by
  unfold e_iald e_ia1 at he
  repeat' split at he
  all_goals cases he
theorem j_e_bald (nx : Nat) (L S : List Value) (h : icH) {x} (he : e_bald nx L S h = some (.inr x)) : False := by
  unfold e_bald e_ba1 at he
  repeat' split at he
  all_goals cases he
theorem j_e_iast (nx : Nat) (L S : List Value) (h : icH) {x} (he : e_iast nx L S h = some (.inr x)) : False := by
  unfold e_iast e_is1 at he
  repeat' split at he
  all_goals cases he
theorem j_e_bast (nx : Nat) (L S : List Value) (h : icH) {x} (he : e_bast nx L S h = some (.inr x)) : False := by
  unfold e_bast e_bs1 at he
  repeat' split at he
  all_goals cases he
theorem j_e_aald (nx : Nat) (L S : List Value) (h : icH) {x} (he : e_aald nx L S h = some (.inr x)) : False := by
  unfold e_aald e_aa1 at he
  repeat' split at he
  all_goals cases he
theorem j_e_aast (nx : Nat) (L S : List Value) (h : icH) {x} (he : e_aast nx L S h = some (.inr x)) : False := by
  unfold e_aast e_as1 at he
  repeat' split at he
  all_goals cases he
theorem j_e_alen (nx : Nat) (L S : List Value) (h : icH) {x} (he : e_alen nx L S h = some (.inr x)) : False := by
  unfold e_alen e_al1 at he
  repeat' split at he
  all_goals cases he
theorem j_e_obji (nx : Nat) (L S : List Value) (h : icH) {x} (he : e_obji nx L S h = some (.inr x)) : False := by
  unfold e_obji at he
  repeat' split at he
  all_goals cases he
theorem j_e_acpy (nx : Nat) (L S : List Value) (h : icH) {x} (he : e_acpy nx L S h = some (.inr x)) : False := by
  unfold e_acpy e_cp1 at he
  repeat' split at he
  all_goals cases he
theorem j_e_slen (nx : Nat) (L S : List Value) (h : icH) {x} (he : e_slen nx L S h = some (.inr x)) : False := by
  unfold e_slen at he
  repeat' split at he
  all_goals cases he
theorem j_e_schr (nx : Nat) (L S : List Value) (h : icH) {x} (he : e_schr nx L S h = some (.inr x)) : False := by
  unfold e_schr at he
  repeat' split at he
  all_goals cases he
theorem j_e_new (ci : Nat) (fs : List Value) (nx : Nat) (L S : List Value) (h : icH) {x} (he : e_new ci fs nx L S h = some (.inr x)) : False := by
  unfold e_new at he
  repeat' split at he
  all_goals cases he
theorem j_e_newa (t nx : Nat) (L S : List Value) (h : icH) {x} (he : e_newa t nx L S h = some (.inr x)) : False := by
  unfold e_newa at he
  repeat' split at he
  all_goals cases he
theorem j_e_anew (nx : Nat) (L S : List Value) (h : icH) {x} (he : e_anew nx L S h = some (.inr x)) : False := by
  unfold e_anew at he
  repeat' split at he
  all_goals cases he
def isCR : Instr → Bool
  | .invokestatic _ => true
  | .invokespecial _ => true
  | .invokevirtual _ => true
  | .ireturn => true
  | .lreturn => true
  | .areturn => true
  | .return_ => true
  | _ => false
theorem eff_inr {nx x1 x2 x3 : Nat} {i : Instr} {L S : List Value} {h : icH} {x} (he : eff nx x1 x2 x3 i L S h = some (.inr x)) : isCR i = true := by
  cases i
  all_goals first
    | rfl
    | (simp only [eff] at he; cases he; done)
    | exact (j_e_iload _ _ _ _ _ he).elim
    | exact (j_e_lload _ _ _ _ _ he).elim
    | exact (j_e_aload _ _ _ _ _ he).elim
    | exact (j_e_istore _ _ _ _ _ he).elim
    | exact (j_e_lstore _ _ _ _ _ he).elim
    | exact (j_e_astore _ _ _ _ _ he).elim
    | exact (j_e_iinc _ _ _ _ _ _ he).elim
    | exact (j_e_bin _ _ _ _ _ he).elim
    | exact (j_e_dvi _ _ _ _ _ he).elim
    | exact (j_e_una _ _ _ _ _ he).elim
    | exact (j_e_lbi _ _ _ _ _ he).elim
    | exact (j_e_ldv _ _ _ _ _ he).elim
    | exact (j_e_i2l _ _ _ _ he).elim
    | exact (j_e_l2i _ _ _ _ he).elim
    | exact (j_e_lcmp _ _ _ _ he).elim
    | exact (j_e_dup _ _ _ _ he).elim
    | exact (j_e_dup2 _ _ _ _ he).elim
    | exact (j_e_pop _ _ _ _ he).elim
    | exact (j_e_if _ _ _ _ _ _ he).elim
    | exact (j_e_cmp _ _ _ _ _ _ he).elim
    | exact (j_e_tsw _ _ _ _ _ _ _ _ he).elim
    | exact (j_e_lsw _ _ _ _ _ _ he).elim
    | exact (j_e_getf _ _ _ _ _ _ he).elim
    | exact (j_e_putf _ _ _ _ _ _ _ he).elim
    | exact (j_e_iald _ _ _ _ he).elim
    | exact (j_e_bald _ _ _ _ he).elim
    | exact (j_e_iast _ _ _ _ he).elim
    | exact (j_e_bast _ _ _ _ he).elim
    | exact (j_e_aald _ _ _ _ he).elim
    | exact (j_e_aast _ _ _ _ he).elim
    | exact (j_e_alen _ _ _ _ he).elim
    | exact (j_e_obji _ _ _ _ he).elim
    | exact (j_e_acpy _ _ _ _ he).elim
    | exact (j_e_slen _ _ _ _ he).elim
    | exact (j_e_schr _ _ _ _ he).elim
    | exact (j_e_new _ _ _ _ _ _ he).elim
    | exact (j_e_newa _ _ _ _ _ he).elim
    | exact (j_e_anew _ _ _ _ he).elim
    | (simp only [eff] at he; split at he <;> cases he)
theorem eff_call {nx x1 x2 x3 : Nat} {i : Instr} {L S : List Value} {h : icH} {z : Nat} {Lz : List Value} {nx' : Nat} {L' S' : List Value} {h' : icH} (he : eff nx x1 x2 x3 i L S h = some (.inr (.inl (z, Lz, nx', L', S', h')))) : (∃ idx, i = .invokestatic idx ∧ ¬ x2 = 9 ∧ e_call x1 (mL x1) (mA x1) nx L S h = some (.inr (.inl (z, Lz, nx', L', S', h')))) ∨ (∃ idx, i = .invokespecial idx ∧ ¬ x2 = 8 ∧ e_ccal x1 (mL x1) (mA x1) nx L S h = some (.inr (.inl (z, Lz, nx', L', S', h')))) ∨ ∃ idx, i = .invokevirtual idx ∧ ((x2 = 3 ∧ e_vcal x3 x1 (mL x1) (mA x1) nx L S h = some (.inr (.inl (z, Lz, nx', L', S', h')))) ∨ (¬ x2 = 3 ∧ x2 = 4 ∧ e_vcal 9 x1 (mL x1) (mA x1) nx L S h = some (.inr (.inl (z, Lz, nx', L', S', h')))) ∨ (¬ x2 = 3 ∧ ¬ x2 = 4 ∧ x2 = 7 ∧ e_abst (vtb x3).1 (vtb x3).2.1 (vtb x3).2.2 (mL (vtb x3).1) (mL (vtb x3).2.1) (mL (vtb x3).2.2) (mA x1) nx L S h = some (.inr (.inl (z, Lz, nx', L', S', h'))))) := by
  have hc := eff_inr he
  cases i
  all_goals first | (simp only [isCR] at hc; cases hc; done) | skip
  case invokestatic idx =>
    simp only [eff] at he
    split at he
    · exact (j_e_acpy _ _ _ _ he).elim
    next h0 => exact Or.inl ⟨idx, rfl, h0, he⟩
  case invokespecial idx =>
    simp only [eff] at he
    split at he
    · exact (j_e_obji _ _ _ _ he).elim
    next h0 => exact Or.inr (Or.inl ⟨idx, rfl, h0, he⟩)
  case invokevirtual idx =>
    simp only [eff] at he
    refine Or.inr (Or.inr ⟨idx, rfl, ?_⟩)
    split at he
    next h0 => exact Or.inl ⟨h0, he⟩
    next h0 =>
      split at he
      next h1 => exact Or.inr (Or.inl ⟨h0, h1, he⟩)
      next h1 =>
        split at he
        next h2 => exact Or.inr (Or.inr ⟨h0, h1, h2, he⟩)
        next =>
          repeat' split at he
          · exact (j_e_slen _ _ _ _ he).elim
          · exact (j_e_schr _ _ _ _ he).elim
          · cases he
  case ireturn =>
    simp only [eff, e_iret] at he
    repeat' split at he
    all_goals cases he
  case lreturn =>
    simp only [eff, e_lret] at he
    split at he <;> cases he
  case areturn =>
    simp only [eff, e_aret] at he
    split at he <;> cases he
  case return_ =>
    simp only [eff, e_vret] at he
    split at he <;> cases he
theorem n2_call {z nl na nx : Nat} {L S : List Value} {h : icH} {x} (he : e_call z nl na nx L S h = some (.inr (.inr x))) : False := by
  unfold e_call e_cl1 at he
  repeat' split at he
  all_goals cases he
theorem n2_ccal {z nl na nx : Nat} {L S : List Value} {h : icH} {x} (he : e_ccal z nl na nx L S h = some (.inr (.inr x))) : False := by
  unfold e_ccal e_cl2 at he
  repeat' split at he
  all_goals cases he
theorem n2_vcal {ci z nl na nx : Nat} {L S : List Value} {h : icH} {x} (he : e_vcal ci z nl na nx L S h = some (.inr (.inr x))) : False := by
  unfold e_vcal e_vc1 e_vc2 at he
  repeat' split at he
  all_goals cases he
theorem n2_abst {z1 z3 z4 n1 n3 n4 na nx : Nat} {L S : List Value} {h : icH} {x} (he : e_abst z1 z3 z4 n1 n3 n4 na nx L S h = some (.inr (.inr x))) : False := by
  unfold e_abst e_ab1 e_ab2 at he
  repeat' split at he
  all_goals cases he
theorem eff_ret {nx x1 x2 x3 : Nat} {i : Instr} {L S : List Value} {h : icH} {r : Option Value} {h' : icH} (he : eff nx x1 x2 x3 i L S h = some (.inr (.inr (r, h')))) : h' = h ∧ S = r.toList ∧ ((i = .ireturn ∧ ∃ v : Int32, r = some (.int v) ∧ (x1 = 0 ∨ v = 0 ∨ v = 1)) ∨ (i = .lreturn ∧ ∃ v : Int64, r = some (.long v)) ∨ (i = .areturn ∧ ∃ v : Nat, r = some (.ref v)) ∨ (i = .return_ ∧ r = none)) := by
  have hc := eff_inr he
  cases i
  all_goals first | (simp only [isCR] at hc; cases hc; done) | skip
  case invokestatic idx =>
    simp only [eff] at he
    split at he
    · exact (j_e_acpy _ _ _ _ he).elim
    · exact (n2_call he).elim
  case invokespecial idx =>
    simp only [eff] at he
    split at he
    · exact (j_e_obji _ _ _ _ he).elim
    · exact (n2_ccal he).elim
  case invokevirtual idx =>
    simp only [eff] at he
    repeat' split at he
    · exact (n2_vcal he).elim
    · exact (n2_vcal he).elim
    · exact (n2_abst he).elim
    · exact (j_e_slen _ _ _ _ he).elim
    · exact (j_e_schr _ _ _ _ he).elim
    · cases he
  case ireturn =>
    simp only [eff, e_iret] at he
    split at he
    next v =>
      split at he
      next hv => cases he; exact ⟨rfl, rfl, Or.inl ⟨rfl, v, rfl, hv⟩⟩
      next => cases he
    next => cases he
  case lreturn =>
    simp only [eff, e_lret] at he
    split at he
    next v => cases he; exact ⟨rfl, rfl, Or.inr (Or.inl ⟨rfl, v, rfl⟩)⟩
    next => cases he
  case areturn =>
    simp only [eff, e_aret] at he
    split at he
    next v => cases he; exact ⟨rfl, rfl, Or.inr (Or.inr (Or.inl ⟨rfl, v, rfl⟩))⟩
    next => cases he
  case return_ =>
    simp only [eff, e_vret] at he
    split at he
    next => cases he; exact ⟨rfl, rfl, Or.inr (Or.inr (Or.inr ⟨rfl, rfl⟩))⟩
    next => cases he
theorem call_h {nx x1 x2 x3 : Nat} {i : Instr} {L S : List Value} {h : icH} {z : Nat} {Lz : List Value} {nx' : Nat} {L' S' : List Value} {h' : icH} (he : eff nx x1 x2 x3 i L S h = some (.inr (.inl (z, Lz, nx', L', S', h')))) : nx' = nx ∧ L' = L ∧ h' = h := by
  rcases eff_call he with ⟨_, -, -, hc⟩ | ⟨_, -, -, hc⟩ | ⟨_, -, ⟨-, hc⟩ | ⟨-, -, hc⟩ | ⟨-, -, -, hc⟩⟩
  · obtain ⟨_, -, -, -, -, -, a, b, d⟩ := c_cl1 hc; exact ⟨a, b, d⟩
  · obtain ⟨_, _, -, -, -, -, -, a, b, d⟩ := c_cl2 hc; exact ⟨a, b, d⟩
  · obtain ⟨_, _, _, _, -, -, -, -, -, -, -, a, b, d⟩ := c_vc1 hc; exact ⟨a, b, d⟩
  · obtain ⟨_, _, _, _, -, -, -, -, -, -, -, a, b, d⟩ := c_vc1 hc; exact ⟨a, b, d⟩
  · obtain ⟨_, _, _, _, _, -, -, -, -, -, -, a, b, d⟩ := c_ab1 hc; exact ⟨a, b, d⟩
theorem run_ge : ∀ (n k pc : Nat) (L S : List Value) (h : icH) (r : Option Value) (hF : icH), run n k pc L S h = some (r, hF) → h.1 ≤ hF.1 ∧ h.2.1 ≤ hF.2.1
  | 0, k, pc, L, S, h, r, hF, hr => by simp [run] at hr
  | n + 1, k, pc, L, S, h, r, hF, hr => by
    unfold run at hr
    cases hf : fet k pc with
    | none => rw [hf] at hr; cases hr
    | some x =>
      obtain ⟨i, len, x1, x2, x3, x4⟩ := x
      rw [hf] at hr
      dsimp only at hr
      generalize ha : eff (pc + len) x1 x2 x3 i L S h = a at hr
      match a, ha, hr with
      | some (.inl (pc', L', S', h')), ha, hr =>
        have g := eff_go ha
        have g2 := run_ge n _ _ _ _ _ _ _ hr
        exact ⟨Nat.le_trans g.2.1 g2.1, Nat.le_trans g.2.2.1 g2.2⟩
      | some (.inr (.inl (z, Lz, nx, L', S', h'))), ha, hr =>
        obtain ⟨-, -, hh⟩ := call_h ha
        subst hh
        simp only [exe] at hr
        cases hz : run n z 0 Lz [] h' with
        | none => rw [hz] at hr; cases hr
        | some x =>
          obtain ⟨rz, hz'⟩ := x
          rw [hz] at hr
          simp only [con] at hr
          have g1 := run_ge n _ _ _ _ _ _ _ hz
          have g2 := run_ge n _ _ _ _ _ _ _ hr
          exact ⟨Nat.le_trans g1.1 g2.1, Nat.le_trans g1.2 g2.2⟩
      | some (.inr (.inr (r', h'))), ha, hr =>
        obtain ⟨hh, -, -⟩ := eff_ret ha
        cases hr
        rw [hh]
        exact ⟨Nat.le_refl _, Nat.le_refl _⟩
      | none, ha, hr => cases hr
