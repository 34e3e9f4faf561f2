/-! A throw 'new E("text")' whose constructors pass the text on, up to Throwable's, each by the pool entry of its own class file: as rows of W, one behind another. -/
/-- a constructor that passes on: its class, the entry, its bytes -/
abbrev th_P := String × Nat × ByteArray
def th_cb (x : th_P) : Prop :=
  Bundle.fit x.1 = true ∧ decode x.2.2 0 = .ok (.aload_n 0, 1) ∧ decode x.2.2 1 = .ok (.aload_n 1, 1) ∧ decode x.2.2 2 = .ok (.invokespecial x.2.1, 3) ∧ decode x.2.2 5 = .ok (.return_, 1)
/-- the class at which a chain begins; behind its end: Throwable -/
def th_up : List th_P → String
  | [] => Bundle.tN
  | x :: _ => x.1
def th_cw : List th_P → List Cond
  | [] => []
  | x :: r => Bundle.passSAtoms x.1 (th_up r) x.2.1 x.2.2 ++ th_cw r
theorem th_up_fit : ∀ {r : List th_P}, (∀ x ∈ r, th_cb x) → Bundle.fit (th_up r) = true
  | [], _ => by decide +kernel
  | x :: _, h => (h x List.mem_cons_self).1
theorem th_chain {args : Array Value} {s : State} {pl : Platform} (hpl : pl.magicAccessors = ({} : Platform).magicAccessors) {top : MethodId} (ht : s.methodNamed? (Bundle.initS Bundle.tN) = some top) :
    ∀ r : List th_P, (∀ x ∈ r, th_cb x) → (∀ w ∈ th_cw r, w.before args s = true) →
      ∃ Ps : List PassC, Ps.length = r.length ∧ (∀ P, P ∈ Ps → P.LinksS pl s) ∧ PassesOn top (Ps.map (·.toPassT)) ∧ s.methodNamed? (Bundle.initS (th_up r)) = some (firstOf top (Ps.map (·.toPassT))) := by
  intro r
  induction r with
  | nil => exact fun _ _ => ⟨[], rfl, fun _ h => (nomatch h), trivial, ht⟩
  | cons x r ih =>
    intro hb hw
    have hr : ∀ y ∈ r, th_cb y := fun y hy => hb y (List.mem_cons_of_mem _ hy)
    obtain ⟨Ps, e1, e2, e3, e4⟩ := ih hr (fun w h => hw w (List.mem_append_right _ h))
    obtain ⟨f, d0, d1, d2, d5⟩ := hb x List.mem_cons_self
    obtain ⟨P, q1, q2, q3⟩ := PassC.ofS_atoms (args := args) hpl (Bundle.fit_spec f).1 (Bundle.fit_spec (th_up_fit hr)).2 d0 d1 d2 d5 (fun w h => hw w (List.mem_append_left _ h))
    refine ⟨P :: Ps, congrArg (· + 1) e1, fun Q h => ?_, ⟨Option.some.inj (q3.symm.trans e4), e3⟩, q2⟩
    rcases List.mem_cons.mp h with rfl | h
    · exact q1
    · exact e2 Q h
/-- Throwable's own fields in an object of the class: written by the constructors, or asked whether null -/
def th_fl : List (String × String) := [("cause", "Ljava/lang/Throwable;"), ("stackTrace", Bundle.steD), ("suppressedExceptions", Bundle.listD), ("detailMessage", "Ljava/lang/String;"), ("backtrace", "Ljava/lang/Object;")]
def th_ow (own : String) (ic : Nat) (X : String) : List Cond :=
  [.instantiable X 6, .methodLink own ic (Bundle.initS X), .selects X Bundle.tFill Bundle.tFill, .selects X Bundle.tFill0 Bundle.tFill0,
   .fieldLink Bundle.tN 198 Bundle.tN "backtrace" "Ljava/lang/Object;", .lays Bundle.tN Bundle.tN "backtrace" "Ljava/lang/Object;"] ++ th_fl.map (fun f => .lays X Bundle.tN f.1 f.2)
/-- the words of the throw -/
def th_wd (own : String) (ic : Nat) (x : th_P) (r : List th_P) : List Cond := th_ow own ic x.1 ++ (th_cw (x :: r) ++ (Bundle.throwableSAtoms ++ Bundle.throwableAtoms))
/-- .. but for those of its two statics -/
def th_wN (own : String) (ic : Nat) (x : th_P) (r : List th_P) : List Cond := (th_wd own ic x r).filter vx_no
section THF
variable {args : Array Value} {s : State} {X : String} {cX : ClassId} {kX : Class} {T9 : ThrowableC} {Z0 : Init0T}
theorem th_lay (hc : s.vm.findClass X = some cX) (hk : s.vm.classes[cX]? = some kX) (hw : ∀ f ∈ th_fl, (Cond.lays X Bundle.tN f.1 f.2).before args s = true) {n d : String} (hm : (n, d) ∈ th_fl) {a i : Nat} {k : Class} {f : Field}
    (hf : s.fieldFound? Bundle.tN n d = some (a, k, i, f)) : kX.instanceTypes[f.slot]? = some f.type ∧ ∃ y, Jmm.declares? s.vm f.slot (cX + 1) cX = some y ∧ y.2.name = f.name :=
  Cond.laysAt hc hk hf (hw _ hm)
theorem th_takes (hc : s.vm.findClass X = some cX) (hk : s.vm.classes[cX]? = some kX) (hw : ∀ f ∈ th_fl, (Cond.lays X Bundle.tN f.1 f.2).before args s = true) (Y : Bundle.Ties T9 Z0 s) (ho : kX.kind = .ordinary) (q : Addr) (u sen : RefV) {msg : Value} (hmsg : msg.isRef = true) :
    Takes s (freshCell cX kX) T9.fCause (.ref q) ∧ Takes s (freshCell cX kX) T9.fStack u.v ∧ Takes s (freshCell cX kX) T9.fSupp sen.v ∧ Takes s (freshCell cX kX) T9.fMsg msg := by
  have go : ∀ {n d : String} {a i : Nat} {k : Class} {f : Field} {v : Value}, (n, d) ∈ th_fl → s.fieldFound? Bundle.tN n d = some (a, k, i, f) → fits f.type v = true → Takes s (freshCell cX kX) f v :=
    fun hm hf hv => Takes.of_laid hk ho (th_lay hc hk hw hm hf).1 hv
  obtain ⟨im, hm⟩ := Y.msg
  refine ⟨go (by simp [th_fl]) Y.cause ?_, go (by simp [th_fl]) Y.stack ?_, go (by simp [th_fl]) Y.supp ?_, go (by simp [th_fl]) hm ?_⟩
  · rw [Y.causeType]
    rfl
  · rw [Y.stackType]
    exact fits_refV_array _ u
  · rw [Y.suppType]
    exact fits_refV_object _ sen
  · rw [Y.msgType]
    exact fits_refV_object _ ⟨msg, hmsg⟩
/-- no trace is asked for: 'backtrace' stays null -/
theorem th_skip {pl : Platform} (hpl : pl.magicAccessors = ({} : Platform).magicAccessors) (hc : s.vm.findClass X = some cX) (hk : s.vm.classes[cX]? = some kX) (hw : ∀ f ∈ th_fl, (Cond.lays X Bundle.tN f.1 f.2).before args s = true) (L : T9.Links pl s) (Y : Bundle.Ties T9 Z0 s)
    (hl : (Cond.fieldLink Bundle.tN 198 Bundle.tN "backtrace" "Ljava/lang/Object;").before args s = true) (hy : (Cond.lays Bundle.tN Bundle.tN "backtrace" "Ljava/lang/Object;").before args s = true) (q : Addr) (u sen : RefV) (en : ThreadId) :
    SkipFacts T9 pl s (fun z => z) u ((preparedCellV T9.toThrowableT (freshCell cX kX) q u sen).withEntry en) := by
  obtain ⟨ci, i, f, f1, f2, f3, f4, -, f6, f7, f8⟩ := Cond.ownField (args := args) (first := s) (s := s) (o := none) (idx := []) (t := .object "java/lang/Object") Y.found L.cls (by decide +kernel) hl hy pl hpl
  obtain ⟨b1, y, b2, b3⟩ := th_lay hc hk hw (n := "backtrace") (by simp [th_fl]) f8
  have ap : ∀ {n d : String} {a j : Nat} {k : Class} {g : Field}, (n, d) ∈ th_fl → s.fieldFound? Bundle.tN n d = some (a, k, j, g) → g.name = n → n ≠ "backtrace" → g.slot ≠ f.slot := fun hm hf hn hne => by
    obtain ⟨-, z, z2, z3⟩ := th_lay hc hk hw hm hf
    exact Cond.laysApart z2 b2 z3 b3 (by rw [hn, f6]; exact hne)
  refine ⟨⟨ci, i, f⟩, ⟨f1, f2, f3, f4⟩, ?_, fun _ _ => rfl⟩
  show ((((freshCell cX kX).slots.setIfInBounds T9.fCause.slot (.ref q)).setIfInBounds T9.fStack.slot u.v).setIfInBounds T9.fSupp.slot sen.v)[f.slot]? = some .null
  rw [Array.getElem?_setIfInBounds_ne (ap (by simp [th_fl]) Y.supp Y.suppName (by decide)), Array.getElem?_setIfInBounds_ne (ap (by simp [th_fl]) Y.stack Y.stackName (by decide)),
    Array.getElem?_setIfInBounds_ne (ap (by simp [th_fl]) Y.cause Y.causeName (by decide)), fresh_default b1, f7]
  rfl
/-- the two statics that are read, where they lie in this heap -/
theorem th_stv {a i : Nat} {k : Class} {f : Field} {C n d : String} {A : Nat → Prop} {H : Heap} {b : Addr} (hs : k.statics = some b) (hf : s.fieldFound? C n d = some (a, k, i, f)) (h : vx_Zq C n d A s H) :
    ∃ (cl : Cell) (u : RefV), H[b]? = some cl ∧ cl.vm ≠ .unknown ∧ cl.slots[f.slot]? = some u.v := by
  have go : ∀ u : RefV, va_Z C n d u.v A s H → ∃ (cl : Cell) (u : RefV), H[b]? = some cl ∧ cl.vm ≠ .unknown ∧ cl.slots[f.slot]? = some u.v := by
    rintro u ⟨_, _, _, _, a9, cl, h1, -, -, h4, h5, h6, h7, -⟩
    cases h1.symm.trans hf
    cases h4.symm.trans hs
    exact ⟨cl, u, h5, fun e => (by rw [e] at h6; cases h6), h7⟩
  rcases h.1 with h | ⟨t, h⟩
  · exact go ⟨.null, rfl⟩ h
  · exact go ⟨.ref t, rfl⟩ h
theorem th_sel {l : Launch} {e : Env} (ha : l.admits e) {y : MethodName} {mk : MethodId} (hc : s.vm.findClass X = some cX) (hn : s.methodNamed? y = some mk) (hy : y.cls ≠ "java/lang/invoke/MethodHandle" ∧ y.cls ≠ "java/lang/invoke/VarHandle")
    (h : (Cond.selects X y y).before args s = true) : selectMethod e.platform s.vm cX mk = .method mk := by
  obtain ⟨_, _, _, q1, q2, q3, q4, -⟩ := Cond.selects_spec h
  cases q1.symm.trans hc
  cases q2.symm.trans (State.methodFound?_of_named hn hy)
  cases q3.symm.trans hn
  exact (Launch.admits_selectMethod ha _ _ _).trans q4
end THF
section THW
variable {p : Program} {l : Launch} {e : Env} {R : Room} {s : State} {m : MethodId} {args : Array Value} {below : List Frame} {meth : Method} {c : Code} {H : Heap} {locs : List Loc} {cells slots : Nat} {Q : State → Prop} {ls : Array Slot} {rest : List Value}
/-- 'invokespecial': the new object's constructor, and back -/
theorem th_ctor {cc : ByteArray} {pc : Nat} (hx : p.tables.exec = Jvm.exec) (hb : c.code = cc) (hl : l.stackTraces = false) {own : String} {x : th_P} {r : List th_P} {ic : Nat} {A : Nat → Prop} (hown : s.vm.findClass own = some m.cls) (hcb : ∀ y ∈ x :: r, th_cb y)
    (hw : ∀ w ∈ th_wd own ic x r, w.before args s = true) (hU : vx_Zq Bundle.tN "UNASSIGNED_STACK" Bundle.steD A s H) (hN : vx_Zq Bundle.tN "SUPPRESSED_SENTINEL" Bundle.listD A s H) (hls : ls.size = c.maxLocals) (hd : decode cc pc = .ok (.invokespecial ic, 3))
    {cX : ClassId} {kX : Class} (hc : s.vm.findClass x.1 = some cX) (hk : s.vm.classes[cX]? = some kX) {q : Nat} (hq : H[q]? = some (freshCell cX kX)) (hnew : s.heap.size ≤ q) {msg : Value} (hmsg : msg.isRef = true)
    (hRf : r.length + 3 < R.frames) (hRl : (rest.map fun v => v.category).sum + (13 * (r.length + 1) + 42) ≤ R.locals)
    (kk : ∀ (H1 : Heap) (ce : Cell), H1.size = H.size → (∀ a : Nat, a ≠ q → H1[a]? = H[a]?) → H1[q]? = some ce → ce.cls = cX → ce.vm = .none → W p l e R s m args below meth c H1 locs cells slots Q (F0 m (pc + 3) ls rest)) :
    W p l e R s m args below meth c H locs cells slots Q (F0 m pc ls (msg :: .ref q :: rest)) := by
  have w1 : ∀ w ∈ th_ow own ic x.1, w.before args s = true := fun w h => hw w (List.mem_append_left _ h)
  have w2 : ∀ w ∈ th_cw (x :: r), w.before args s = true := fun w h => hw w (List.mem_append_right _ (List.mem_append_left _ h))
  have w3 : ∀ w ∈ Bundle.throwableSAtoms, w.before args s = true := fun w h => hw w (List.mem_append_right _ (List.mem_append_right _ (List.mem_append_left _ h)))
  have w4 : ∀ w ∈ Bundle.throwableAtoms, w.before args s = true := fun w h => hw w (List.mem_append_right _ (List.mem_append_right _ (List.mem_append_right _ h)))
  have wf : ∀ f ∈ th_fl, (Cond.lays x.1 Bundle.tN f.1 f.2).before args s = true := fun f h => w1 _ (List.mem_append_right _ (List.mem_map_of_mem (f := fun f : String × String => Cond.lays x.1 Bundle.tN f.1 f.2) h))
  subst hb
  intro T hT X
  subst hT
  obtain ⟨T9, Z0, L, -, Y⟩ := ThrowableC.of_atoms (args := args) (pl := e.platform) (by rw [X.admits.platform]) (by rw [X.admits.platform]) X.magic w4
  obtain ⟨Z, M, LZ, LM, hZ⟩ := Init0T.ofS_atoms X.magic L Y w3
  obtain ⟨Ps, e1, e2, e3, e4⟩ := th_chain X.magic hZ (x :: r) hcb w2
  obtain ⟨cl, u, s1, s2, s3⟩ := th_stv L.statics Y.unassigned hU
  obtain ⟨cl', sen, s4, -, s5⟩ := th_stv L.statics Y.sentinel hN
  cases s4.symm.trans s1
  obtain ⟨c0, s6, -⟩ := Y.statics
  have hne : T9.aS ≠ q := Nat.ne_of_lt (Nat.lt_of_lt_of_le (Array.getElem?_eq_some_iff.mp s6).1 hnew)
  obtain ⟨_, k9, i1, i2, ho, -⟩ := Cond.instantiable_spec (w1 (.instantiable x.1 6) (List.mem_of_getElem? (i := 0) rfl))
  cases i1.symm.trans hc
  cases i2.symm.trans hk
  obtain ⟨t1, t2, t3, t4⟩ := th_takes hc hk wf Y ho q u sen hmsg
  obtain ⟨tm, _, _, _, vm1, hn, -, -, -, -, -, -, -, hW1, st1⟩ := Steps.initColdS X.here hx X.warmed X.magic hown (t := Bundle.initS x.1) rfl rfl (Bundle.fit_spec (hcb x List.mem_cons_self).1).2 (w1 _ (List.mem_of_getElem? (i := 1) rfl))
    (w2 _ (List.mem_of_getElem? (i := 0) rfl)) (w2 _ (List.mem_of_getElem? (i := 1) rfl)) (f := F0 m pc ls (msg :: .ref q :: rest)) rfl (a := q) (msg := msg) (rest := rest) rfl hd
  cases hn.symm.trans e4
  obtain ⟨vm2, X2, st2⟩ := (X.noted hW1).ctorMessageOffV hx (g := F0 m pc ls rest) rfl hls T9 L Z LZ M LM Ps e2 e3 (u0 := u) (sen := sen) (self := q) hmsg hq (fun _ h => nomatch h) (fun h => nomatch h) rfl rfl
    (th_sel X.admits hc Y.fill0 (by decide) (w1 _ (List.mem_of_getElem? (i := 3) rfl))) (th_sel X.admits hc Y.fill (by decide) (w1 _ (List.mem_of_getElem? (i := 2) rfl))) s1 hne s2 s3 s5 t1 t2 t3 t4 Y.objLocals
    (th_skip X.magic hc hk wf L Y (w1 _ (List.mem_of_getElem? (i := 4) rfl)) (w1 _ (List.mem_of_getElem? (i := 5) rfl)) q u sen _) ((show e.platform.stackTraces = l.stackTraces by rw [X.admits.platform]).trans hl) [] hd
    (by rw [e1, List.length_cons]; omega) (by rw [e1, List.length_cons]; show 2 * 0 + (rest.map fun v => v.category).sum + _ ≤ _; omega)
  have hlt : q < T.heap.size := (Array.getElem?_eq_some_iff.mp hq).1
  obtain ⟨t, a1, b1⟩ := kk (T.heap.setIfInBounds q (plainBareV T9.toThrowableT (freshCell cX kX) q u sen msg)) (plainBareV T9.toThrowableT (freshCell cX kX) q u sen msg) (Array.size_setIfInBounds ..)
    (fun a ha => Array.getElem?_setIfInBounds_ne (Ne.symm ha)) (Array.getElem?_setIfInBounds_self_of_lt hlt) rfl rfl _ rfl (Stand.forget X2 (fun y hy => by
      simp only [List.mem_cons, List.not_mem_nil, or_false] at hy
      rcases hy with rfl | rfl | rfl | rfl | rfl <;> exact hnew))
  exact ⟨t, st1 _ (fun acts => by rw [doInvoke_state]; exact st2 _ a1), b1⟩
/-- 'athrow': from here q is on its way -/
theorem th_athrow {cc : ByteArray} {pc : Nat} (hx : p.tables.exec = Jvm.exec) (hb : c.code = cc) {q : Addr} (hd : decode cc pc = .ok (.athrow, 1)) (k : vx_W p l e R s m args below meth c H locs cells slots Q (F0 m pc ls rest) q) :
    W p l e R s m args below meth c H locs cells slots Q (F0 m pc ls (.ref q :: rest)) := by
  intro T hT X
  obtain ⟨t, a1, b1⟩ := k T hT X
  refine ⟨t, ?_, b1⟩
  jvm_step X.here [hx, hb, hd, athrow.wp_sem]
  exact a1
variable {Qc : Array Value → State → Outcome → State → Prop} {XC : String → State → State → Prop} {free : Addr → Prop}
/-- new; dup; ldc; invokespecial; athrow: out of the method -/
theorem th_throw {cc : ByteArray} {pc : Nat} (hx : p.tables.exec = Jvm.exec) (hb : c.code = cc) (hl : l.stackTraces = false) {own text : String} {x : th_P} {r : List th_P} {ik is ic mc ms sa : Nat} {A : Nat → Prop} (hown : s.vm.findClass own = some m.cls) (hcb : ∀ y ∈ x :: r, th_cb y)
    (hk : (Cond.classLink own ik x.1).before args s = true) (hi : (Cond.initialized x.1).before args s = true) (ht : vk_R own is text sa s) (hw : ∀ w ∈ th_wN own ic x r, w.before args s = true)
    (hU : vx_Zq Bundle.tN "UNASSIGNED_STACK" Bundle.steD A s s.heap) (hN : vx_Zq Bundle.tN "SUPPRESSED_SENTINEL" Bundle.listD A s s.heap) (hS : va_S A s.heap H locs) (hls : ls.size = c.maxLocals)
    (d0 : decode cc pc = .ok (.new ik, 3)) (d3 : decode cc (pc + 3) = .ok (.dup, 1)) (d4 : decode cc (pc + 4) = .ok (.ldc is, 2)) (d6 : decode cc (pc + 6) = .ok (.invokespecial ic, 3)) (d9 : decode cc (pc + 9) = .ok (.athrow, 1))
    (ho : ∀ z ∈ c.exceptionTable.toList, covers z (pc + 9) = false) (hlo : meth.locks = false) (hRf : r.length + 3 < R.frames) (hRl : (rest.map fun v => v.category).sum + (13 * (r.length + 1) + 43) ≤ R.locals) (hRc : cells + 1 ≤ R.cells) (hRs : slots + 6 ≤ R.slots)
    (hX : ∀ t : State, s.vm.Alike t.vm → H.size ≤ t.heap.size → (∀ q : Nat, q < H.size → t.heap[q]? = H[q]?) → XC x.1 s t) (hf : ∀ z ∈ locs, free z.base) (hmc : cells + 1 ≤ mc) (hms : slots + 6 ≤ ms) :
    W p l e R s m args below meth c H locs cells slots (vx_MQ below Qc XC args s mc ms free) (F0 m pc ls rest) := by
  have hw' : ∀ w ∈ th_wd own ic x r, w.before args s = true := vx_own hw (vx_isRefq hU.1) (vx_isRefq hN.1) hU.2.word hN.2.word
  have hins : (Cond.instantiable x.1 6).before args s = true := hw' _ (List.mem_append_left _ (List.mem_of_getElem? (i := 0) rfl))
  obtain ⟨cX, _, hc, -⟩ := Cond.instantiable_spec hins
  refine W.newcK hx hb hown hk hins hi rfl d0 hRc hRs hc rfl (fun H1 kX hkX g1 g2 g3 => ?_)
  have hold : ∀ a : Nat, a < s.heap.size → ¬ A a → H1[a]? = s.heap[a]? := fun a h1 h2 => (g3 a (Nat.lt_of_lt_of_le h1 hS.1)).trans (hS.2.1 a h1 h2)
  show W p l e R s m args below meth c H1 locs (cells + 1) (slots + 6) _ (F0 m (pc + 3) ls (.ref H.size :: rest))
  refine lv_dup hx hb d3 rfl ?_
  refine va_ldcS hx hb hown ht d4 ?_
  refine th_ctor (x := x) (r := r) (A := A) hx hb hl hown hcb hw' (hU.kept hold) (hN.kept hold) hls d6 hc hkX g1 hS.1 rfl hRf (by rw [List.map_cons, List.sum_cons, show (Value.ref H.size).category = 1 from rfl]; omega) (fun H2 ce v1 v2 v3 v4 v5 => ?_)
  refine th_athrow hx hb d9 ?_
  refine vx_out (E := x.1) ho hlo v3 v5 (by rw [v4]; exact hc) (fun t h9 hA => hX t hA (by rw [h9, v1, g2]; exact Nat.le_succ _) (fun q hq => by rw [h9, v2 q (Nat.ne_of_lt hq)]; exact g3 q hq)) hf hmc hms
end THW
