/-! what the start gives: class ids, array classes, the texts, the words that a throw needs -/
abbrev th_ix : String := "java/lang/IndexOutOfBoundsException"
abbrev th_ns : String := "java/util/NoSuchElementException"
abbrev th_rt : String := "java/lang/RuntimeException"
abbrev th_ex : String := "java/lang/Exception"
abbrev th_y : MethodName := ⟨"ShadowPool", "thing", "(II)I"⟩
abbrev th_z : MethodName := ⟨"ShadowPoolLaw", "thing", "(LShadowPool;II[J)I"⟩
abbrev th_hh : List (Nat × Nat × Nat × Nat) := [(0, 10, 13, 13), (0, 10, 17, 15)]
/-- words of thing, of the law's thing -/
def th_w : List Cond := [.code th_y prog_1_method_7_code 3 (some .int), .classLink "ShadowPool" 139 th_ix, .initialized th_ix, .classLink "ShadowPool" 165 th_ns, .initialized th_ns, .codeWith th_z method_3_code 5 (some .int) th_hh, .classLink "ShadowPoolLaw" 13 th_ix, .classLink "ShadowPoolLaw" 15 th_ns, .methodLink "ShadowPoolLaw" 7 th_y, .instanceMethod th_y, .selects "ShadowPool" th_y th_y, .initialized "ShadowPool", .methodLink "ShadowPoolLaw" 39 th_z, .static th_z, .initialized "ShadowPoolLaw", .fieldLink "ShadowPool" 51 "ShadowPool" "told" "LShadowPool$Told;", .fieldLink "ShadowPool" 146 "ShadowPool$Told" "place" "[I", .fieldLink "ShadowPool" 60 "ShadowPool" "now" "LShadowPool$Scene;", .fieldLink "ShadowPool" 150 "ShadowPool$Scene" "has" "[I", .fieldLink "ShadowPool" 153 "ShadowPool$Told" "size" "[I", .fieldLink "ShadowPool" 156 "ShadowPool$Told" "shape" "[I", .fieldLink "ShadowPool" 159 "ShadowPool$Told" "comes" "[I", .fieldLink "ShadowPool" 162 "ShadowPool$Told" "how" "[I"]
set_option maxRecDepth 100000 in
theorem th_w_ok : ∀ w ∈ th_w, w ∈ am_TB := am_in_tb (f := fun q => q) (is := [(6,102), (6,103), (1,23), (6,169), (1,24), (6,96), (6,97), (6,98), (6,99), (6,100), (6,101), (1,1), (6,94), (6,95), (1,0), (3,93), (1,174), (3,95), (2,146), (1,178), (1,182), (1,190), (1,194)]) rfl (by decide +kernel)
theorem th_wat {Ts : List Cond} {args : Array Value} {s : State} (hT : ∀ w ∈ am_TB, w ∈ Ts) (hts : ∀ w ∈ Ts, w.before args s = true) (i : Nat) {w : Cond} (h : th_w[i]? = some w) : w.before args s = true := hts _ (hT _ (th_w_ok _ (List.mem_of_getElem? h)))
theorem am_TB_in : ∀ w ∈ am_TB, w ∈ lw_tbl := fun _ h => (List.mem_filter.mp h).1
/-- the words of the two throws -/
abbrev th_L1 : List Cond := vx_atS "ShadowPool" 143 th_ix [th_rt, th_ex]
abbrev th_q1 : th_P := (th_ns, 13, prog_29_method_4_code)
abbrev th_qs : List th_P := [(th_rt, 7, Bundle.six), (th_ex, 7, Bundle.six)]
abbrev th_L2 : List Cond := th_wN "ShadowPool" 169 th_q1 th_qs
set_option maxRecDepth 100000 in
theorem th_x1 : ∀ w ∈ th_L1.filter goodWord, w ∈ lw_tbl := by decide +kernel
set_option maxRecDepth 100000 in
theorem th_x2 : ∀ w ∈ th_L2.filter goodWord, w ∈ lw_tbl := by decide +kernel
/-- the words that aren't good ones -/
def th_D : List Cond := [.declares (Bundle.initS th_rt), .declares (Bundle.initS th_ex), .declares (Bundle.initS Bundle.tN), .castable th_ix th_ix, .castable th_ns th_ns]
set_option maxRecDepth 100000 in
theorem th_D1 : ∀ w ∈ th_L1.filter (fun w => !goodWord w), w ∈ th_D := by decide +kernel
set_option maxRecDepth 100000 in
theorem th_D2 : ∀ w ∈ th_L2.filter (fun w => !goodWord w), w ∈ th_D := by decide +kernel
set_option maxRecDepth 100000 in
theorem th_g1 : ∀ w ∈ Cond.classLink "ShadowPool" 139 th_ix :: Cond.initialized th_ix :: th_L1, vx_ot w = true := by decide +kernel
set_option maxRecDepth 100000 in
theorem th_D_in : ∀ w ∈ th_D, w ∈ lw_tbl := by decide +kernel
theorem th_D_ot : ∀ w ∈ th_D, w.onTables = true := by decide +kernel
def th_F (base sa sb : Nat) (U : State) : Prop := (∀ w ∈ th_D, va_Nw w U) ∧ va_Nc th_ns th_ix U ∧ vk_R "ShadowPool" 141 "no such THING" sa U ∧ vk_R "ShadowPool" 167 "no such what" sb U ∧ vx_Zq Bundle.tN "UNASSIGNED_STACK" Bundle.steD (js_A base) U U.heap ∧ vx_Zq Bundle.tN "SUPPRESSED_SENTINEL" Bundle.listD (js_A base) U U.heap
theorem th_mv {u U : State} (hvm : u.vm.Alike U.vm) (h : ∀ w ∈ th_D, va_Nw w u) : ∀ w ∈ th_D, va_Nw w U := by
  intro w hw
  have h0 : w.before #[] u = true := h w hw
  show w.before #[] U = true
  simp only [th_D, List.mem_cons, List.not_mem_nil, or_false] at hw
  rcases hw with rfl | rfl | rfl | rfl | rfl
  · exact va_tabs (A := #[]) rfl (rfl : (u.setVm U.vm).vm = U.vm) (by rw [Cond.declares_setVm hvm]; exact h0)
  · exact va_tabs (A := #[]) rfl (rfl : (u.setVm U.vm).vm = U.vm) (by rw [Cond.declares_setVm hvm]; exact h0)
  · exact va_tabs (A := #[]) rfl (rfl : (u.setVm U.vm).vm = U.vm) (by rw [Cond.declares_setVm hvm]; exact h0)
  · exact va_tabs (A := #[]) rfl (rfl : (u.setVm U.vm).vm = U.vm) (by rw [Cond.castable_setVm hvm]; exact h0)
  · exact va_tabs (A := #[]) rfl (rfl : (u.setVm U.vm).vm = U.vm) (by rw [Cond.castable_setVm hvm]; exact h0)
theorem th_F.next {base sa sb : Nat} {s U : State} (hq : ∀ q, q < base → U.heap[q]? = s.heap[q]?) (hW : s.WarmedH U.vm) (h : th_F base sa sb s) : th_F base sa sb U := by
  obtain ⟨h1, h2, h3, h4, h5, h6⟩ := h
  have hk : ∀ a : Nat, a < s.heap.size → ¬ js_A base a → U.heap[a]? = s.heap[a]? := fun a _ h => hq a (Nat.lt_of_not_le h)
  exact ⟨th_mv hW.alike h1, va_Nc.moved hW.alike h2, vk_R.warm hW h3, vk_R.warm hW h4, (vx_Zq.moved hW.alike h5).kept hk, (vx_Zq.moved hW.alike h6).kept hk⟩
theorem th_F.calling {base sa sb : Nat} {U : State} {g : JFrame} {mk : MethodId} {a : Array Value} (h : th_F base sa sb U) : th_F base sa sb (U.calling g mk a) := by
  obtain ⟨h1, h2, h3, h4, h5, h6⟩ := h
  have hv : U.vm.Alike (U.calling g mk a).vm := Vm.Alike.refl U.vm
  exact ⟨th_mv hv h1, va_Nc.moved hv h2, vk_R.same (u := U) rfl h3, vk_R.same (u := U) rfl h4, vx_Zq.moved hv h5, vx_Zq.moved hv h6⟩
/-- the words of the two throws hold -/
theorem th_hat1 {base sa sb : Nat} {Ts : List Cond} {args : Array Value} {s : State} (hT : ∀ w ∈ am_TB, w ∈ Ts) (hts : ∀ w ∈ Ts, w.before args s = true) (h : th_F base sa sb s) : ∀ w ∈ th_L1, w.before args s = true :=
  vx_hat (B := th_D) (fun w hw => hts w (hT w (List.mem_filter.mpr ⟨th_x1 w hw, (List.mem_filter.mp hw).2⟩))) th_D1 (fun w hw => va_Nw.use (th_D_ot w hw) (h.1 w hw))
theorem th_hat2 {base sa sb : Nat} {Ts : List Cond} {args : Array Value} {s : State} (hT : ∀ w ∈ am_TB, w ∈ Ts) (hts : ∀ w ∈ Ts, w.before args s = true) (h : th_F base sa sb s) : ∀ w ∈ th_L2, w.before args s = true :=
  vx_hat (B := th_D) (fun w hw => hts w (hT w (List.mem_filter.mpr ⟨th_x2 w hw, (List.mem_filter.mp hw).2⟩))) th_D2 (fun w hw => va_Nw.use (th_D_ot w hw) (h.1 w hw))
/-! at the law's entry -/
theorem lw_arr {args : Array Value} {s : State} {ty : FieldType} (h : (Cond.arrayClass ty).before args s = true) : ∃ cA : ClassId, ArrOfT s cA ty ∧ s.vm.findClass ("[" ++ ty.toString) = some cA := by
  obtain ⟨cA, kA, comp, h1, h2, h3⟩ := Cond.arrayClass_spec h
  exact ⟨cA, fun n z => ⟨fun k h => (by cases h), kA, h2, comp, h3⟩, h1⟩
theorem lw_K {args : Array Value} {s : State} (hts : ∀ w ∈ lw_tbl, w.before args s = true) : ∃ (dC : Nat → ClassId) (dI : Nat → Nat → Nat) (dA : Nat → ClassId), va_K (dC, dI) vwCl (am_ty dA) s := by
  have hc : ∀ ci : Nat, ∃ q : ClassId × (Nat → Nat), ∀ r : vw_C, vwCl[ci]? = some r → u_Kn s r.1 r.2.1 r.2.2 q.1 q.2 := by
    intro ci
    by_cases hci : ci ∈ ax_ys
    · obtain ⟨C, T, N, h1, h2, h3, -, -, h4, -⟩ := ax_cls hci
      have hi := hts _ (am_TB_in _ (ax_in_ok ci hci))
      obtain ⟨cC, iS, hk⟩ := u_known (C := C) (T := T) (N := N) hts (fun w hw => am_TB_in w (h4 w hw)) (by rw [h2]; exact hi)
      refine ⟨(cC, iS), fun r hr => ?_⟩
      rw [h1] at hr
      cases hr
      exact hk
    · refine ⟨(0, fun _ => 0), fun r hr => absurd (List.mem_range.mpr ?_) hci⟩
      exact (List.getElem?_eq_some_iff.mp hr).1
  obtain ⟨f, hf⟩ := Classical.axiomOfChoice hc
  obtain ⟨a0, h0⟩ := lw_arr (hts _ (am_TB_in _ (ax_ar_ok .int (by decide))))
  obtain ⟨a1, h1⟩ := lw_arr (hts _ (am_TB_in _ (ax_ar_ok .byte (by decide))))
  obtain ⟨a2, h2⟩ := lw_arr (hts _ (am_TB_in _ (ax_ar_ok .boolean (by decide))))
  obtain ⟨a3, h3⟩ := lw_arr (hts _ (am_TB_in _ (ax_ar_ok .long (by decide))))
  refine ⟨fun c => (f c).1, fun c => (f c).2, fun t => if t = 0 then a0 else if t = 1 then a1 else if t = 2 then a2 else a3, fun c q hq => hf c q hq, fun k q hk => ?_⟩
  match k, hk with
  | 0, hk => cases hk; exact ⟨h0.1, h0.2⟩
  | 1, hk => cases hk; exact ⟨h1.1, h1.2⟩
  | 2, hk => cases hk; exact ⟨h2.1, h2.2⟩
  | 3, hk => cases hk; exact ⟨h3.1, h3.2⟩
  | k + 4, hk => simp [am_ty] at hk
abbrev lw_pre : Cond := Jvm.Cond.and given_1 narrow_1
set_option maxRecDepth 100000 in
theorem lw_m0 : Cond.exactly (.string "ShadowPool$Scanner" 19) "java/lang/String" ∈ flatC lw_pre ∧ Cond.exactly (.string "ShadowPool" 141) "java/lang/String" ∈ flatC lw_pre ∧ Cond.exactly (.string "ShadowPool" 167) "java/lang/String" ∈ flatC lw_pre := by decide +kernel
set_option maxRecDepth 100000 in
theorem lw_m1 : Cond.eq (.field (.string "ShadowPool$Scanner" 19) "java/lang/String" "coder" "B") (.int 0) ∈ flatC lw_pre ∧ Cond.arrayOf (.field (.string "ShadowPool$Scanner" 19) "java/lang/String" "value" "[B") .byte ∈ flatC lw_pre ∧ Cond.eq (.length (.field (.string "ShadowPool$Scanner" 19) "java/lang/String" "value" "[B")) (.int 121) ∈ flatC lw_pre := by decide +kernel
set_option maxRecDepth 100000 in
theorem lw_m2 : ∀ j, j < 121 → Cond.eq (.elem (.field (.string "ShadowPool$Scanner" 19) "java/lang/String" "value" "[B") (.int (Int32.ofNat j))) (.int (js_by.getD j 0)) ∈ flatC lw_pre := by decide +kernel
set_option maxRecDepth 100000 in
theorem lw_m3 : Cond.eq (.static "java/lang/String" "COMPACT_STRINGS" "Z") (.int 1) ∈ flatC lw_pre ∧ Cond.isRef (.static "jdk/internal/util/Preconditions" "SIOOBE_FORMATTER" "Ljava/util/function/BiFunction;") ∈ flatC lw_pre ∧ Cond.isRef (.static Bundle.tN "UNASSIGNED_STACK" Bundle.steD) ∈ flatC lw_pre ∧ Cond.isRef (.static Bundle.tN "SUPPRESSED_SENTINEL" Bundle.listD) ∈ flatC lw_pre ∧ Cond.not (.castable th_ns th_ix) ∈ flatC lw_pre := by decide +kernel
set_option maxRecDepth 100000 in
theorem lw_m4 : ∀ w ∈ ([.laysStatic "java/lang/String" "COMPACT_STRINGS" "Z", .initialized "java/lang/String", .laysStatic "jdk/internal/util/Preconditions" "SIOOBE_FORMATTER" "Ljava/util/function/BiFunction;", .initialized "jdk/internal/util/Preconditions", .laysStatic Bundle.tN "UNASSIGNED_STACK" Bundle.steD, .laysStatic Bundle.tN "SUPPRESSED_SENTINEL" Bundle.listD, .initialized Bundle.tN, .stringRef "ShadowPool$Scanner" 19 js_tx, .stringRef "ShadowPool" 141 "no such THING", .stringRef "ShadowPool" 167 "no such what"] : List Cond), w ∈ lw_tbl := by decide +kernel
theorem lw_w4 {args : Array Value} {s : State} (hts : ∀ w ∈ lw_tbl, w.before args s = true) (i : Nat) {w : Cond} (h : ([.laysStatic "java/lang/String" "COMPACT_STRINGS" "Z", .initialized "java/lang/String", .laysStatic "jdk/internal/util/Preconditions" "SIOOBE_FORMATTER" "Ljava/util/function/BiFunction;", .initialized "jdk/internal/util/Preconditions", .laysStatic Bundle.tN "UNASSIGNED_STACK" Bundle.steD, .laysStatic Bundle.tN "SUPPRESSED_SENTINEL" Bundle.listD, .initialized Bundle.tN, .stringRef "ShadowPool$Scanner" 19 js_tx, .stringRef "ShadowPool" 141 "no such THING", .stringRef "ShadowPool" 167 "no such what"] : List Cond)[i]? = some w) : w.before args s = true := hts _ (lw_m4 _ (List.mem_of_getElem? h))
/-- a String constant of the start -/
theorem lw_str {args : Array Value} {s : State} {t : Term} (h : (Cond.exactly t "java/lang/String").before args s = true) : ∃ a : Nat, t.eval args s none [] s = some (.ref a) := by
  obtain ⟨a, c, cA, kA, q1, -⟩ := Cond.exactly_spec (args := args) (first := s) (o := none) (s := s) (idx := []) (t := t) (cls := "java/lang/String") h
  exact ⟨a, q1⟩
theorem lw_env {args : Array Value} {s : State} (hts : ∀ w ∈ lw_tbl, w.before args s = true) (hgv : lw_pre.before args s = true) : (∃ sa sb : Nat, th_F s.heap.size sa sb s) ∧ js_St s.heap.size s := by
  have hf := flat_of_before _ hgv
  have hA : ∀ a : Nat, a < s.heap.size → ¬ js_A s.heap.size a := fun a h z => Nat.lt_irrefl _ (Nat.lt_of_lt_of_le h z)
  obtain ⟨sa, ea⟩ := lw_str (hf _ lw_m0.2.1)
  obtain ⟨sb, eb⟩ := lw_str (hf _ lw_m0.2.2)
  refine ⟨⟨sa, sb, fun w hw => va_Nw.of (th_D_ot w hw) (hts w (th_D_in w hw)), va_Nc.of (hf _ lw_m3.2.2.2.2), vk_R.of (A := args) (lw_w4 hts 8 rfl) ea, vk_R.of (A := args) (lw_w4 hts 9 rfl) eb, vx_Zqof (lw_w4 hts 4 rfl) (lw_w4 hts 6 rfl) (hf _ lw_m3.2.2.1) hA, vx_Zqof (lw_w4 hts 5 rfl) (lw_w4 hts 6 rfl) (hf _ lw_m3.2.2.2.1) hA⟩, ?_⟩
  have hN : ∀ i : Nat, i < 1 → ([121] : List Nat).getD i 0 < 2 ^ 31 := by decide
  have hle : ∀ i : Nat, i < 1 → (Cond.eq (.length (.field (.string "ShadowPool$Scanner" 19) "java/lang/String" "value" "[B")) (.int (Int32.ofNat (([121] : List Nat).getD i 0)))).before args s = true := by
    intro i hi
    obtain rfl : i = 0 := by omega
    exact hf _ lw_m1.2.2
  have hel : ∀ i : Nat, i < 1 → ∀ j : Nat, j < ([121] : List Nat).getD i 0 → (Cond.eq (.elem (.field (.string "ShadowPool$Scanner" 19) "java/lang/String" "value" "[B") (.int (Int32.ofNat j))) (.int ((([js_by] : List (List Int32)).getD i []).getD j 0))).before args s = true := by
    intro i hi j hj
    obtain rfl : i = 0 := by omega
    exact hf _ (lw_m2 j hj)
  obtain ⟨adK, adV, hS, hE⟩ := vk_Sof (args := args) (s := s) (N := 1) (tm := fun _ => .string "ShadowPool$Scanner" 19) (len := [121]) (byt := [js_by]) (A := js_A s.heap.size) hN (fun _ _ => hf _ lw_m0.1) (fun _ _ => hf _ lw_m1.1) (fun _ _ => hf _ lw_m1.2.1) hle hel (fun i j hi hj hne => absurd (by omega) hne) hA
  obtain ⟨h1, h2, h3, h4⟩ := hS.1 0 (by omega)
  exact ⟨adK 0, adV 0, h1, h2, h3, h4, vk_R.of (A := args) (lw_w4 hts 7 rfl) (hE 0 (by omega)), va_Zof (lw_w4 hts 0 rfl) (lw_w4 hts 1 rfl) (va_eqt (hf _ lw_m3.1)) hA, va_Zqof (lw_w4 hts 2 rfl) (lw_w4 hts 3 rfl) (hf _ lw_m3.2.1) hA⟩
set_option maxRecDepth 100000 in
theorem lw_n1 : ∀ q ∈ am_KN, Cond.methodLinkNest (am_cn q.1) q.2.1 (am_yn q.2.2) "ShadowPool" ∈ lw_tbl := by decide +kernel
set_option maxRecDepth 100000 in
theorem lw_n2 : ∀ q ∈ ax_KN, Cond.methodLinkNest (am_cn q.1) q.2.1 (ax_yn q.2.2.1) q.2.2.2 ∈ lw_tbl := by decide +kernel
theorem lw_Nk {args : Array Value} {s : State} (hts : ∀ w ∈ lw_tbl, w.before args s = true) : am_Nk s ∧ ax_Nk s := ⟨fun q hq => va_Nw.of rfl (hts _ (lw_n1 q hq)), fun q hq => va_Nw.of rfl (hts _ (lw_n2 q hq))⟩
