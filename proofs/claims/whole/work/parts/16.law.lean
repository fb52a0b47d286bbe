-- ===== end of PART A; then your names; then what follows =====
/-! THE CLAIM OUT OF ONE WALK OF THE LAW'S BODY. Your part is whole_start (and what it stands on); all else here is the same for every law, but numbers. -/
def R_law : String := "IcicleEavesLaw"
def lw_P (b : Addr) (xs : List Int32) (args : Array Value) (s : State) : Prop := args = #[.ref b] ∧ s.IntsAt b xs ∧ xs.length ≤ 3072 ∧ (Jvm.Cond.and given_1 narrow_1).before args s = true
def lw_Q (_ : Array Value) (s : State) (o : Outcome) (t : State) : Prop := o = .returned (some (.int 1)) ∧ Framed s o t [] 600000 7302250
def lw_Z (below : List Frame) (a : Array Value) (s : State) : State → Prop := fun t => ∃ o, t.status = .running ∧ Ended t below o ∧ lw_Q a s o t
/-- the law's own end, with 1 on the stack, nothing written that was there before, its room as the claim has it -/
theorem lw_ret {p : Program} {l : Launch} {e : Env} {s : State} {m : MethodId} {below : List Frame} {meth : Method} {c : Code} {b : Nat} (hx : p.tables.exec = Jvm.exec) (hb : c.code = code) (hr : meth.sig.returnType = ret) (hlocks : meth.locks = false) {pc : Nat} {H : Heap} {ls : Array Slot} (hdg : decode code pc = .ok (.ireturn, 1)) : W p l e room_1 s m #[Value.ref b] below meth c H [] 600000 7302250 (lw_Z below #[Value.ref b] s) (F0 m pc ls [.int 1]) := by
  intro T hT X
  obtain ⟨fs, hret, hrun, hended, hW, hframe⟩ := X.leave (v := some (.int 1)) (hlocks := hlocks) (fun h => by rw [hr] at h; cases h)
  have hmeth' : T.vm.method? m = some meth := X.method'
  refine ⟨T.setFrames fs, ?_, .returned (some (.int 1)), hrun, hended, rfl, ⟨_, rfl⟩, hW, hframe⟩
  jvm_step X.here [X.here.top, hx, hb, hdg, hmeth', hr, ret, narrow_b1]
  (try refine ⟨rfl, ?_⟩); (try refine ⟨rfl, ?_⟩)
  first | (intro acts; rw [hret _ acts rfl rfl rfl]) | rw [hret _ _ rfl rfl rfl]
  exact Steps.refl _
/-- what holds at the law's entry: the machine, the code, the tables' words (any of lw_tbl by 'hts w (by decide +kernel)'), the script of L ints xs at the cell b, what the Statement gives of the start (any of its parts by flat_of_before) -/
def lw_At (p : Program) (s : State) (m : MethodId) (meth : Method) (c : Code) (b L : Nat) (xs : Nat → Int32) : Prop :=
  p.tables.exec = Jvm.exec ∧ c.code = code ∧ meth.sig.returnType = ret ∧ c.maxLocals = 4 ∧ s.vm.findClass R_law = some m.cls ∧ (∀ w ∈ lw_tbl, w.before #[Value.ref b] s = true) ∧ va_X b L xs s s.heap ∧ b < s.heap.size ∧ meth.locks = false ∧ (Jvm.Cond.and given_1 narrow_1).before #[Value.ref b] s = true ∧ meth.name = "law"
/-- YOUR PART: from the entry, for every script of at most 3072 ints, the law comes to its end with true -/
theorem selP {C : String} {y y' : MethodName} {args : Array Value} {s : State} (hy : y.cls ≠ "java/lang/invoke/MethodHandle" ∧ y.cls ≠ "java/lang/invoke/VarHandle") (hsel : (Cond.selects C y' y').before args s = true) (hc : y'.cls = y.cls) (hpriv : (Cond.privateMethod y).before args s = true) (hinst : (Cond.instanceMethod y).before args s = true) : (Cond.selects C y y).before args s = true := by
  obtain ⟨c2, r2, m2, q1, q2, q3, q4, kP, hkP, hkPi⟩ := Cond.selects_spec hsel
  obtain ⟨mk, methM, hnamed, hmethM, -, -⟩ := Cond.instanceMethod_spec hinst
  have hfound : s.methodFound? y.cls y.name y.desc = some mk := State.methodFound?_of_named hnamed hy
  have e1 := findClass_of_methodNamed hnamed
  have e2 := findClass_of_methodNamed q3
  rw [hc] at e2
  have hcls : mk.cls = m2.cls := Option.some.inj (e1.symm.trans e2)
  have hsel2 : selectMethod {} s.vm c2 mk = .method mk := selectMethod_private hmethM (Cond.privateMethod_at hpriv mk methM hnamed hmethM)
  simp only [Cond.before, Cond.holds, Cond.value, q1, hfound, hnamed, hsel2, hcls, hkP]
  simp; exact hkPi
theorem in_lw {i : Nat} {w : Cond} (h : (match lw_tbl[i]? with | some w' => decide (w' = w) | none => false) = true) : w ∈ lw_tbl := by
  split at h
  next w' hw =>
    have := of_decide_eq_true h
    subst this
    exact List.mem_of_getElem? hw
  next => cases h
theorem gs_ok {args : Array Value} {s : State} (h : ∀ w ∈ lw_tbl, w.before args s = true) : ∀ w ∈ gsel, w.before args s = true := by
  intro w hw
  simp only [gsel, List.mem_cons, List.not_mem_nil, or_false] at hw
  rcases hw with rfl | rfl | rfl | rfl | rfl | rfl
  · exact selP (y' := yX1_fitting) ⟨by decide +kernel, by decide +kernel⟩ (h _ (in_lw (i := 755) (by decide +kernel))) rfl (h _ (in_lw (i := 760) (by decide +kernel))) (h _ (in_lw (i := 761) (by decide +kernel)))
  · exact selP (y' := yX1_fitting) ⟨by decide +kernel, by decide +kernel⟩ (h _ (in_lw (i := 756) (by decide +kernel))) rfl (h _ (in_lw (i := 760) (by decide +kernel))) (h _ (in_lw (i := 761) (by decide +kernel)))
  · exact selP (y' := yX1_fitting) ⟨by decide +kernel, by decide +kernel⟩ (h _ (in_lw (i := 757) (by decide +kernel))) rfl (h _ (in_lw (i := 760) (by decide +kernel))) (h _ (in_lw (i := 761) (by decide +kernel)))
  · exact selP (y' := yX1_fitting) ⟨by decide +kernel, by decide +kernel⟩ (h _ (in_lw (i := 755) (by decide +kernel))) rfl (h _ (in_lw (i := 813) (by decide +kernel))) (h _ (in_lw (i := 814) (by decide +kernel)))
  · exact selP (y' := yX1_fitting) ⟨by decide +kernel, by decide +kernel⟩ (h _ (in_lw (i := 756) (by decide +kernel))) rfl (h _ (in_lw (i := 813) (by decide +kernel))) (h _ (in_lw (i := 814) (by decide +kernel)))
  · exact selP (y' := yX1_fitting) ⟨by decide +kernel, by decide +kernel⟩ (h _ (in_lw (i := 757) (by decide +kernel))) rfl (h _ (in_lw (i := 813) (by decide +kernel))) (h _ (in_lw (i := 814) (by decide +kernel)))
theorem nst_ok {args : Array Value} {s : State} (h : ∀ w ∈ lw_tbl, w.before args s = true) : ∀ w ∈ nstW, va_Nw w s := by
  intro w hw
  have ht := nst_tab w hw
  simp only [nstW, List.mem_cons, List.not_mem_nil, or_false] at hw
  rcases hw with rfl | rfl | rfl | rfl | rfl | rfl | rfl | rfl
  · exact va_Nw.of ht (h _ (in_lw (i := 227) (by decide +kernel)))
  · exact va_Nw.of ht (h _ (in_lw (i := 230) (by decide +kernel)))
  · exact va_Nw.of ht (h _ (in_lw (i := 93) (by decide +kernel)))
  · exact va_Nw.of ht (h _ (in_lw (i := 221) (by decide +kernel)))
  · exact va_Nw.of ht (h _ (in_lw (i := 496) (by decide +kernel)))
  · exact va_Nw.of ht (h _ (in_lw (i := 764) (by decide +kernel)))
  · exact va_Nw.of ht (h _ (in_lw (i := 778) (by decide +kernel)))
  · exact va_Nw.of ht (h _ (in_lw (i := 817) (by decide +kernel)))
def stm : Nat → Term := fun j => .string "IcicleEaves$Text" (strK j).1
theorem sr_ok {args : Array Value} {s : State} (h : ∀ w ∈ lw_tbl, w.before args s = true) : ∀ j, j < 5 → (Cond.stringRef "IcicleEaves$Text" (strK j).1 (strK j).2).before args s = true := by
  intro j hj
  rcases (show j = 0 ∨ j = 1 ∨ j = 2 ∨ j = 3 ∨ j = 4 by omega) with rfl | rfl | rfl | rfl | rfl
  · exact h _ (in_lw (i := 435) (by decide +kernel))
  · exact h _ (in_lw (i := 502) (by decide +kernel))
  · exact h _ (in_lw (i := 507) (by decide +kernel))
  · exact h _ (in_lw (i := 513) (by decide +kernel))
  · exact h _ (in_lw (i := 519) (by decide +kernel))
theorem str_ok {args : Array Value} {s : State} {A : Nat → Prop} (hg : (Jvm.Cond.and given_1 narrow_1).before args s = true) (hA : ∀ a : Nat, a < s.heap.size → ¬ A a) : ∃ adK adV : Nat → Nat, vk_S 5 (strB.map List.length) strB adK adV A s s.heap ∧ ∀ i : Nat, i < 5 → (stm i).eval args s none [] s = some (.ref (adK i)) := by
  have hs := flat_of_before _ hg
  refine vk_Sof (tm := stm) ?_ ?_ ?_ ?_ ?_ ?_ ?_ hA
  · intro j hj
    rcases (show j = 0 ∨ j = 1 ∨ j = 2 ∨ j = 3 ∨ j = 4 by omega) with rfl | rfl | rfl | rfl | rfl <;> decide
  · intro j hj
    rcases (show j = 0 ∨ j = 1 ∨ j = 2 ∨ j = 3 ∨ j = 4 by omega) with rfl | rfl | rfl | rfl | rfl <;> exact hs _ (by decide +kernel)
  · intro j hj
    rcases (show j = 0 ∨ j = 1 ∨ j = 2 ∨ j = 3 ∨ j = 4 by omega) with rfl | rfl | rfl | rfl | rfl <;> exact hs _ (by decide +kernel)
  · intro j hj
    rcases (show j = 0 ∨ j = 1 ∨ j = 2 ∨ j = 3 ∨ j = 4 by omega) with rfl | rfl | rfl | rfl | rfl <;> exact hs _ (by decide +kernel)
  · intro j hj
    rcases (show j = 0 ∨ j = 1 ∨ j = 2 ∨ j = 3 ∨ j = 4 by omega) with rfl | rfl | rfl | rfl | rfl <;> exact hs _ (by decide +kernel)
  · intro j hj k hk
    rcases (show j = 0 ∨ j = 1 ∨ j = 2 ∨ j = 3 ∨ j = 4 by omega) with rfl | rfl | rfl | rfl | rfl
    · have hk : k < 5 := hk
      rcases (show k = 0 ∨ k = 1 ∨ k = 2 ∨ k = 3 ∨ k = 4 by omega) with rfl | rfl | rfl | rfl | rfl <;> exact hs _ (by decide +kernel)
    · have hk : k < 4 := hk
      rcases (show k = 0 ∨ k = 1 ∨ k = 2 ∨ k = 3 by omega) with rfl | rfl | rfl | rfl <;> exact hs _ (by decide +kernel)
    · have hk : k < 4 := hk
      rcases (show k = 0 ∨ k = 1 ∨ k = 2 ∨ k = 3 by omega) with rfl | rfl | rfl | rfl <;> exact hs _ (by decide +kernel)
    · have hk : k < 3 := hk
      rcases (show k = 0 ∨ k = 1 ∨ k = 2 by omega) with rfl | rfl | rfl <;> exact hs _ (by decide +kernel)
    · have hk : k < 5 := hk
      rcases (show k = 0 ∨ k = 1 ∨ k = 2 ∨ k = 3 ∨ k = 4 by omega) with rfl | rfl | rfl | rfl | rfl <;> exact hs _ (by decide +kernel)
  · intro j k hj hk hne
    rcases (show j = 0 ∨ j = 1 ∨ j = 2 ∨ j = 3 ∨ j = 4 by omega) with rfl | rfl | rfl | rfl | rfl
    all_goals rcases (show k = 0 ∨ k = 1 ∨ k = 2 ∨ k = 3 ∨ k = 4 by omega) with rfl | rfl | rfl | rfl | rfl
    all_goals first | exact absurd rfl hne | exact Or.inl (hs _ (by decide +kernel)) | exact Or.inr (hs _ (by decide +kernel))
theorem vk_S_cg {len : List Nat} {byt : List (List Int32)} {adK adK' adV : Nat → Nat} {A : Nat → Prop} {U : State} {H : Heap} (h : ∀ i, i < 5 → adK' i = adK i) (hv : vk_S 5 len byt adK adV A U H) : vk_S 5 len byt adK' adV A U H := ⟨fun i hi => by rw [h i hi]; exact hv.1 i hi, fun i j hi hj e => hv.2 i j hi hj (by rw [← h i hi, ← h j hj]; exact e)⟩
/-- the law's first heap: the script alone -/
def hS0 (L : Nat) (xs : Nat → Int32) : icH := (0, 0, fun i => if i = icSc then some (as7 L xs) else none)
theorem law_start {p : Program} {e : Env} {s : State} {m : MethodId} {below : List Frame} {meth : Method} {c : Code} (l : Launch) {b L : Nat} {xs : Nat → Int32} (C0 : lw_At p s m meth c b L xs) {hF : icH} (hE : icE 226 0 [.ref icSc, dum, dum, dum] [] (hS0 L xs) = some (some (.int 1), hF)) (hb1 : hF.1 ≤ 600000) (hb2 : hF.2.1 ≤ 7302250) : W p l e room_1 s m #[Value.ref b] below meth c s.heap [] 0 0 (lw_Z below #[Value.ref b] s) (entryFrame m ([Value.ref b] : List Value).toArray 4) := by
  obtain ⟨hx, hb, hr, hml, hown, hts, hX, hbl, hlocks, hgv, hname⟩ := C0
  obtain ⟨n, hrun⟩ := icE_run hE
  have hs := flat_of_before _ hgv
  have htt : ∀ w ∈ tt0, w.before #[Value.ref b] s = true := fun w hw => (List.mem_append.mp hw).elim (hts w) (gs_ok hts w)
  have htg : ∀ w ∈ TTg, w.before #[Value.ref b] s = true := fun w hw => htt w (List.mem_filter.mp hw).1
  have hAo : ∀ a : Nat, a < s.heap.size → ¬ (fun q : Nat => s.heap.size ≤ q) a := fun a ha => Nat.not_le.mpr ha
  obtain ⟨adK, adV, hvS, hvE⟩ := str_ok (A := fun q : Nat => s.heap.size ≤ q) hgv hAo
  -- classes
  have hcl : ∀ k : Nat, ∃ x : ClassId × (Nat → Nat), ∀ q : vw_C, vwCl[k]? = some q → u_Kn s q.1 q.2.1 q.2.2 x.1 x.2 := by
    intro k
    cases hk : vwCl[k]? with
    | none => exact ⟨(0, fun _ => 0), fun q hq => by cases hq⟩
    | some q0 =>
      obtain ⟨ty, f1, -, -, f4, -⟩ := cl_all k q0 hk
      obtain ⟨cC, iS, hKn⟩ := u_known htg f1 (htg _ f4)
      exact ⟨(cC, iS), fun q hq => by cases hq; exact hKn⟩
  obtain ⟨dX, hdX⟩ := Classical.axiomOfChoice hcl
  obtain ⟨cI, kI, mI, i1, i2, i3⟩ := Cond.arrayClass_spec (htg _ tbl.2.2.2.1.1)
  obtain ⟨cB, kB, mB, b1, b2, b3⟩ := Cond.arrayClass_spec (htg _ tbl.2.2.2.1.2.1)
  obtain ⟨cZ, kZ, mZ, z1, z2, z3⟩ := Cond.arrayClass_spec (htg _ tbl.2.2.2.1.2.2)
  have hao : va_AO "IcicleEaves$House" s := va_AO.of (hts _ (in_lw (i := 218) (by decide +kernel)))
  obtain ⟨mH, cH, kH, o1, -, o2, o3, o4⟩ := Cond.arrayOver_spec hao
  have hK : va_K (fun k => (dX k).1, fun k => (dX k).2) vwCl (tyl (fun t => if t = 0 then cI else if t = 1 then cB else if t = 2 then cZ else cH)) s := by
    refine ⟨fun k q hq => hdX k q hq, fun k q hq => ?_⟩
    have hk : k < 4 := (List.getElem?_eq_some_iff.mp hq).1
    rcases (show k = 0 ∨ k = 1 ∨ k = 2 ∨ k = 3 by omega) with rfl | rfl | rfl | rfl
    · cases hq; exact ⟨fun N z => ⟨(fun k h => by cases h), kI, i2, mI, i3⟩, i1⟩
    · cases hq; exact ⟨fun N z => ⟨(fun k h => by cases h), kB, b2, mB, b3⟩, b1⟩
    · cases hq; exact ⟨fun N z => ⟨(fun k h => by cases h), kZ, z2, mZ, z3⟩, z1⟩
    · cases hq; exact ⟨fun N z => ⟨(fun k h => by cases h), kH, o2, mH, o3⟩, kH, mH, o2, o3, o1, o4⟩
  have hC : CX p s m #[Value.ref b] meth c q_226 (fun k => (dX k).1, fun k => (dX k).2) (fun t => if t = 0 then cI else if t = 1 then cB else if t = 2 then cZ else cH) (fun q : Nat => s.heap.size ≤ q) := ⟨hx, hb, hml, hown, htg, hlocks, hname, hK, fun z hz => hz⟩
  have ea : ∀ j, j < 5 → (if icLim + j = icSc then b else adK (icLim + j - icLim)) = adK j := by
    intro j hj
    have e1 : ¬ icLim + j = icSc := by simp only [icLim, icSc]; omega
    rw [if_neg e1, Nat.add_sub_cancel_left]
  have hXT : XT (fun j => if j = icSc then b else adK (j - icLim)) adV (fun q : Nat => s.heap.size ≤ q) L xs s := by
    refine ⟨nst_ok hts, hao, ⟨?_, ?_, ?_⟩, fun j hj => ?_, ?_, ?_, ?_⟩
    · show va_X (if icSc = icSc then b else _) L xs s s.heap
      rw [if_pos rfl]; exact hX
    · show (if icSc = icSc then b else _) < s.heap.size
      rw [if_pos rfl]; exact hbl
    · show ¬ s.heap.size ≤ (if icSc = icSc then b else _)
      rw [if_pos rfl]; exact Nat.not_le.mpr hbl
    · dsimp only
      rw [ea j hj]
      exact vk_R.of (A := #[Value.ref b]) (sr_ok hts j hj) (hvE j hj)
    · exact vk_S_cg ea hvS
    · exact va_Zof (hts _ (in_lw (i := 449) (by decide +kernel))) (hts _ (in_lw (i := 77) (by decide +kernel))) (va_eqt (hs _ (by decide +kernel))) hAo
    · exact va_Zqof (hts _ (in_lw (i := 465) (by decide +kernel))) (hts _ (in_lw (i := 79) (by decide +kernel))) (hs _ (by decide +kernel)) hAo
  have hl := lv_entry ([Value.ref b]) (n := 4) (Nat.le_of_ble_eq_true rfl)
  rw [lg_entry_eq]
  generalize (lg_sl ([Value.ref b]) ++ List.replicate (4 - (lg_sl ([Value.ref b])).length) Slot.unset).toArray = ls at hl ⊢
  have hl : lv_has ls 4 [(0, .ref b)] := hl
  have hl2 : lv_has ls 4 (lp (ca (fun j => if j = icSc then b else adK (j - icLim))) 0 [.ref icSc, dum, dum, dum]) := by
    refine lv_less hl (fun q hq => ?_)
    obtain ⟨n, v, h1, h2, rfl⟩ := (lp_mem _ 0 q).mp hq
    match n, h1 with
    | 0, h1 => cases h1; simp [ca]
    | 1, h1 => cases h1; exact absurd rfl h2
    | 2, h1 => cases h1; exact absurd rfl h2
    | 3, h1 => cases h1; exact absurd rfl h2
    | n + 4, h1 => simp at h1
  have hw0 : hwf L xs (hS0 L xs) := by
    refine ⟨Nat.zero_le _, fun i hi => absurd hi (Nat.not_lt_zero _), fun i c hc => Or.inr ?_⟩
    simp only [hS0] at hc
    split at hc
    next e0 => cases hc; exact ⟨e0, rfl⟩
    next => cases hc
  refine snd tbl (strA l) n 226 0 [.ref icSc, dum, dum, dum] [] (hS0 L xs) (some (.int 1)) hF hrun q_226 rfl rfl p e room_1 s m #[Value.ref b] below meth c _ _ _ adV _ L xs 0 0 hF.1 hF.2.1 (lw_Z below #[Value.ref b] s) hC hXT (by decide) (by decide) (by show 0 + (hF.1 - 0) = hF.1; omega) (by show 0 + (hF.2.1 - 0) = hF.2.1; omega) hb1 hb2 ?_ s.heap [] ls ⟨hw0, ?_, fun v hv => absurd hv List.not_mem_nil, fun k q hq => ?_, ⟨fun i j x y hi => ?_, fun k q hq => ?_⟩, va_S.rf, hl2⟩
  · intro adF HF locsF lsF pcF i g1 g2 g3 g4 g5 g6 g7 g8
    have hi : i = .ireturn := by
      rcases g8 with ⟨rfl, -⟩ | ⟨-, v, h, -⟩ | ⟨-, v, h, -⟩ | ⟨-, h, -⟩
      · rfl
      · cases h
      · cases h
      · cases h
    subst hi
    refine va_forget (fun q hq => g6.2.2 q hq) ?_
    refine W.widen (k := 600000) (n := 7302250) hb1 hb2 ?_
    exact lw_ret hx hb hr hlocks g7
  · intro v hv
    simp only [List.mem_cons, List.not_mem_nil, or_false] at hv
    rcases hv with rfl | rfl | rfl | rfl
    · exact Or.inr (by decide)
    · trivial
    · trivial
    · trivial
  · simp [wsO, hS0] at hq
  · simp [wsO, hS0] at hi
  · simp [wsO, hS0] at hq
