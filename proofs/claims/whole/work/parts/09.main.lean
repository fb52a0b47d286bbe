/-! ===== the tables' words at their places ===== -/
def inL (i : Nat) (w : Cond) : Bool := (match tt0[i]? with
  | some w' => decide (w' = w)
  | none => false) && goodWord w
theorem inL_in {i : Nat} {w : Cond} (h : inL i w = true) : w ∈ TTg := by
  unfold inL at h
  rw [Bool.and_eq_true] at h
  obtain ⟨h1, h2⟩ := h
  split at h1
  next w' hw =>
    have := of_decide_eq_true h1
    subst this
    exact List.mem_filter.mpr ⟨List.mem_of_getElem? hw, h2⟩
  next => cases h1
def nfld (q : icM) (idx : Nat) (T : u_T) (k : Nat) : Cond := .fieldLinkNest q.1.cls idx (T k).1 (T k).2.1 (T k).2.2.1 "IcicleEaves"
def ofld (q : icM) (idx : Nat) (T : u_T) (k : Nat) : Cond := .fieldLink q.1.cls idx (T k).1 (T k).2.1 (T k).2.2.1
def fldB (q : icM) (idx k x4 cj : Nat) : Bool := match vwCl[cj]? with
  | some (_, T, N) => decide (k < N) && (inL x4 (ofld q idx T k) || decide (nfld q idx T k ∈ nstW))
  | none => false
def putB (q : icM) (idx k kind x4 cj : Nat) : Bool := match vwCl[cj]? with
  | some (_, T, N) => decide (k < N) && ((match parseFieldDescriptor (T k).2.2.1 with
    | some ty => tyk ty == kind % 10
    | none => false) && (if (T k).2.2.2 = true then decide (q.1.name = "<init>") && (decide ((T k).1 = q.1.cls) && inL x4 (ofld q idx T k)) else (inL x4 (ofld q idx T k) || decide (nfld q idx T k ∈ nstW))))
  | none => false
def lnkB (q qz : icM) (idx x4 : Nat) : Bool := inL x4 (.methodLink q.1.cls idx qz.1) || decide (Cond.methodLinkNest q.1.cls idx qz.1 "IcicleEaves" ∈ nstW)
def lkp (l : List (Nat × Nat × Nat)) (a b : Nat) : Nat := match l.find? (fun q => q.1 == a && q.2.1 == b) with
  | some q => q.2.2
  | none => 0
def lk2 (l : List (Nat × Nat)) (a : Nat) : Nat := match l.find? (fun q => q.1 == a) with
  | some q => q.2
  | none => 0
def virB (q : icM) (idx z ci x4 : Nat) : Bool := match mt[z]?, vwCl[ci]? with
  | some qz, some (C, _, _) => decide (z < 226) && (decide (qz.2.2.2.2.1 < q.2.2.2.2.1) && (decide (qz.1.cls = C) && (inL x4 (.methodLink q.1.cls idx qz.1) && (inL (mpi.getD z 0) (.instanceMethod qz.1) && inL (mse.getD z 0) (.selects C qz.1 qz.1)))))
  | _, _ => false
def gueB (q : icM) (idx z cj x4 : Nat) : Bool := match mt[z]?, vwCl[cj]? with
  | some qz, some (C, _, _) => decide (z < 226) && (decide (qz.2.2.2.2.1 < q.2.2.2.2.1) && (inL x4 (.methodLink q.1.cls idx qz.1) && (inL (lk2 sml z) (.sameMethod qz.1.cls qz.1.cls qz.1.name qz.1.desc) && (inL (lkp gsl z cj) (.selects C qz.1 qz.1) && inL (mpi.getD z 0) (.instanceMethod qz.1)))))
  | _, _ => false
def gabB (q : icM) (idx z cj x1 x4 : Nat) : Bool := match mt[z]?, vwCl[cj]? with
  | some qz, some (C, _, _) => decide (z < 226) && (decide (qz.2.2.2.2.1 < q.2.2.2.2.1) && (decide (mA x1 = qz.2.2.2.2.2.1) && (inL x4 (.methodLink q.1.cls idx ⟨"IcicleEaves$Guess", qz.1.name, qz.1.desc⟩) && (inL (lk2 sml z) (.sameMethod "IcicleEaves$Guess" "IcicleEaves$Guess" qz.1.name qz.1.desc) && (inL (lkp gsl z cj) (.selects C ⟨"IcicleEaves$Guess", qz.1.name, qz.1.desc⟩ qz.1) && (inL (mpi.getD z 0) (.instanceMethod qz.1) && decide (Cond.declares ⟨"IcicleEaves$Guess", qz.1.name, qz.1.desc⟩ ∈ nstW)))))))
  | _, _ => false
/-- an entry of a method's table is as the class files say -/
def chkE (q : icM) (ent : icI) : Bool := match ent with
  | (pc, i, len, x1, x2, x3, x4) => decide (decode q.2.1 pc = .ok (i, len)) && (match i with
    | .iconst _ => len == 1
    | .bipush _ => len == 2
    | .sipush _ => len == 3
    | .lconst _ => len == 1
    | .ldc idx => len == 2 && (if x2 = 0 then inL x4 (.constant q.1.cls idx (Int32.ofNat x1)) else decide (x1 < 5) && (decide (q.1.cls = "IcicleEaves$Text") && idx == (strK x1).1))
    | .ldc_w idx => len == 3 && inL x4 (.constant q.1.cls idx (Int32.ofNat x1))
    | .ldc2_w idx => len == 3 && inL x4 (.constantLong q.1.cls idx (Int64.ofNat x1))
    | .iload _ | .lload _ | .aload _ | .istore _ | .lstore _ | .astore _ => len == 2
    | .iload_n _ | .lload_n _ | .aload_n _ | .istore_n _ | .lstore_n _ | .astore_n _ => len == 1
    | .iinc _ _ => len == 3
    | .ifCond _ off => len == 3 && decide ((pc : Int) + off = (x1 : Int))
    | .if_icmp _ off => len == 3 && decide ((pc : Int) + off = (x1 : Int))
    | .goto off => len == 3 && decide ((pc : Int) + off = (x1 : Int))
    | .tableswitch _ _ _ _ => x1 == pc
    | .lookupswitch _ _ => x1 == pc
    | .getfield idx => len == 3 && decide (x2 < 10) && (List.range 9).all (fun cj => !gclB x2 cj || fldB q idx x1 x4 cj)
    | .putfield idx => len == 3 && decide (x2 < 10) && (List.range 9).all (fun cj => !gclB x2 cj || putB q idx x1 x3 x4 cj)
    | .new idx => len == 3 && (match vwCl[x1]? with
      | some (C, _, _) => inL x4 (.classLink q.1.cls idx C)
      | none => false)
    | .newarray t => len == 2 && (match t with
      | .int => x1 == 0
      | .byte => x1 == 1
      | .boolean => x1 == 2
      | _ => false)
    | .anewarray idx => len == 3 && inL x4 (.classLink q.1.cls idx "IcicleEaves$House")
    | .invokestatic idx => len == 3 && (if x2 = 9 then inL x4 (.methodLink q.1.cls idx arraycopyName) && decide (1 ≤ q.2.2.2.2.1) else (match mt[x1]? with
      | some qz => decide (x1 < 226) && (decide (qz.2.2.2.2.1 < q.2.2.2.2.1) && (inL (mpi.getD x1 0) (.static qz.1) && lnkB q qz idx x4))
      | none => false))
    | .invokespecial idx => len == 3 && (if x2 = 8 then inL x4 (.methodLink q.1.cls idx Lib.objectInit) && decide (1 ≤ q.2.2.2.2.1) else (match mt[x1]? with
      | some qz => decide (x1 < 226) && (decide (qz.2.2.2.2.1 < q.2.2.2.2.1) && (decide (qz.2.2.2.1 = none) && (decide (qz.1.name = "<init>") && (inL (mpi.getD x1 0) (.instanceMethod qz.1) && lnkB q qz idx x4))))
      | none => false))
    | .invokevirtual idx => len == 3 && (if x2 = 3 then decide (x3 < 9) && virB q idx x1 x3 x4
      else if x2 = 4 then gueB q idx x1 1 x4 && (gueB q idx x1 3 x4 && gueB q idx x1 4 x4)
      else if x2 = 7 then gabB q idx (vtb x3).1 1 x1 x4 && (gabB q idx (vtb x3).2.1 3 x1 x4 && gabB q idx (vtb x3).2.2 4 x1 x4)
      else if x2 = 10 then inL x4 (.methodLink q.1.cls idx yJ0_length_8abf5) && decide (2 ≤ q.2.2.2.2.1)
      else if x2 = 11 then inL x4 (.methodLink q.1.cls idx yJ0_charAt_5068e) && decide (4 ≤ q.2.2.2.2.1) else false)
    | .ireturn => len == 1 && (if x1 = 0 then decide (q.2.2.2.1 = some .int) else decide (q.2.2.2.1 = some .boolean))
    | .lreturn => len == 1 && decide (q.2.2.2.1 = some .long)
    | .areturn => len == 1 && decide (q.2.2.2.1 = some (.object "IcicleEaves$Rows"))
    | .return_ => len == 1 && decide (q.2.2.2.1 = none)
    | _ => len == 1)
/-- what the tables give, checked elsewhere -/
def TBL : Prop := (∀ (k : Nat) (q : icM), mt[k]? = some q → ∀ ent ∈ q.2.2.2.2.2.2, chkE q ent = true) ∧ (∀ (k : Nat) (q : icM), mt[k]? = some q → k < 226 → MX q) ∧
  (∀ (cj : Nat) (C : String) (T : u_T) (N : Nat), vwCl[cj]? = some (C, T, N) → ∃ ty : Nat → FieldType, (∀ w ∈ u_ws C T N, w ∈ TTg) ∧ (∀ k, k < N → parseFieldDescriptor (T k).2.2.1 = some (ty k)) ∧ (∀ a, a < N → ∀ b, b < N → a ≠ b → (T a).2.1 ≠ (T b).2.1) ∧ Cond.instantiable C N ∈ TTg ∧ Cond.initialized C ∈ TTg ∧ (∀ j, j < N → defaultValue (ty j) = vp_V (dfl cj) j) ∧ (dfl cj).length = N ∧ ∀ v ∈ dfl cj, ∀ a, v ≠ .ref a) ∧
  (Cond.arrayClass .int ∈ TTg ∧ Cond.arrayClass .byte ∈ TTg ∧ Cond.arrayClass .boolean ∈ TTg) ∧ (Cond.instanceMethod Lib.objectInit ∈ TTg ∧ Cond.code Lib.objectInit ⟨#[0xb1]⟩ 1 none ∈ TTg) ∧ (Cond.native arraycopyName ∈ TTg ∧ Cond.static arraycopyName ∈ TTg ∧ Cond.initialized "java/lang/System" ∈ TTg)
/-- String's length and charAt, on one of the five words -/
def StrA (l : Launch) : Prop := ∀ (p : Program) (e : Env) (R : Room) (s : State) (m : MethodId) (args : Array Value) (below : List Frame) (meth : Method) (c : Code) (D : va_G) (cid : Nat → ClassId) (ad adV : Nat → Nat) (A : Nat → Prop) (Ls : Nat) (xs : Nat → Int32) (cells slots : Nat) (Q : State → Prop) (q : icM) (pc pc' : Nat) (L S L' S' : List Value) (h h' : icH) (idx : Nat), CX p s m args meth c q D cid A → XT ad adV A Ls xs s → L.length = q.2.2.1 → cells ≤ R.cells → slots ≤ R.slots → decode q.2.1 pc = .ok (.invokevirtual idx, 3) → WW p l e R s m args below meth c D cid ad A Ls xs cells slots Q pc' L' S' h' →
  (Cond.methodLink q.1.cls idx yJ0_length_8abf5 ∈ TTg → 2 ≤ R.frames → 72 ≤ R.locals → e_slen (pc + 3) L S h = some (.inl (pc', L', S', h')) → WW p l e R s m args below meth c D cid ad A Ls xs cells slots Q pc L S h) ∧
  (Cond.methodLink q.1.cls idx yJ0_charAt_5068e ∈ TTg → 4 ≤ R.frames → 144 ≤ R.locals → e_schr (pc + 3) L S h = some (.inl (pc', L', S', h')) → WW p l e R s m args below meth c D cid ad A Ls xs cells slots Q pc L S h)
/-- how a method returns -/
def RT (q : icM) (i : Instr) (r : Option Value) : Prop := (i = .ireturn ∧ ∃ v : Int32, r = some (.int v) ∧ (q.2.2.2.1 = some .int ∨ (q.2.2.2.1 = some .boolean ∧ (v = 0 ∨ v = 1)))) ∨ (i = .lreturn ∧ ∃ v : Int64, r = some (.long v) ∧ q.2.2.2.1 = some .long) ∨ (i = .areturn ∧ ∃ v : Nat, r = some (.ref v) ∧ q.2.2.2.1 = some (.object "IcicleEaves$Rows")) ∨ (i = .return_ ∧ r = none ∧ q.2.2.2.1 = none)
def SND (l : Launch) (n : Nat) : Prop := ∀ (k pc : Nat) (L S : List Value) (h : icH) (r : Option Value) (hF : icH), run n k pc L S h = some (r, hF) → ∀ (q : icM), mt[k]? = some q → L.length = q.2.2.1 →
  ∀ (p : Program) (e : Env) (R : Room) (s : State) (m : MethodId) (args : Array Value) (below : List Frame) (meth : Method) (c : Code) (D : va_G) (cid : Nat → ClassId) (ad adV : Nat → Nat) (A : Nat → Prop) (Ls : Nat) (xs : Nat → Int32) (cells slots fC fS : Nat) (Q : State → Prop), CX p s m args meth c q D cid A → XT ad adV A Ls xs s → q.2.2.2.2.1 ≤ R.frames → 36 * q.2.2.2.2.1 ≤ R.locals → cells + (hF.1 - h.1) = fC → slots + (hF.2.1 - h.2.1) = fS → fC ≤ R.cells → fS ≤ R.slots →
  (∀ (adF : Nat → Nat) (HF : Heap) (locsF : List Loc) (lsF : Array Slot) (pcF : Nat) (i : Instr), (∀ j, okr h.1 j → adF j = ad j) → hwf Ls xs hF → okR hF.1 r → va_P D vwCl (wsO cid adF hF) HF → va_D A (wsO cid adF hF) → va_S A s.heap HF locsF → decode q.2.1 pcF = .ok (i, 1) → RT q i r → W p l e R s m args below meth c HF locsF fC fS Q (F0 m pcF lsF (r.map (ca adF)).toList)) →
  WW p l e R s m args below meth c D cid ad A Ls xs cells slots Q pc L S h
