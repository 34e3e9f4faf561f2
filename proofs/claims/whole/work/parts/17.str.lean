/-! the text of the language: a String constant, and the members of String that Scanner() calls -/
def js_tx : String := "thing lamp meet rule fog seed law thief shy queue stack fit late near price or and not size comes far own kind day which "
def js_by : List Int32 := [116, 104, 105, 110, 103, 32, 108, 97, 109, 112, 32, 109, 101, 101, 116, 32, 114, 117, 108, 101, 32, 102, 111, 103, 32, 115, 101, 101, 100, 32, 108, 97, 119, 32, 116, 104, 105, 101, 102, 32, 115, 104, 121, 32, 113, 117, 101, 117, 101, 32, 115, 116, 97, 99, 107, 32, 102, 105, 116, 32, 108, 97, 116, 101, 32, 110, 101, 97, 114, 32, 112, 114, 105, 99, 101, 32, 111, 114, 32, 97, 110, 100, 32, 110, 111, 116, 32, 115, 105, 122, 101, 32, 99, 111, 109, 101, 115, 32, 102, 97, 114, 32, 111, 119, 110, 32, 107, 105, 110, 100, 32, 100, 97, 121, 32, 119, 104, 105, 99, 104, 32]
def js_A (base : Nat) : Nat → Prop := fun q => base ≤ q
def js_F (base ka va : Nat) (U : State) : Prop := va_O "java/lang/String" ka (js_A base) U U.heap ∧ va_OF "java/lang/String" "coder" "B" (.int 0) ka (js_A base) U U.heap ∧ va_OF "java/lang/String" "value" "[B" (.ref va) ka (js_A base) U U.heap ∧ va_T .byte va 121 (fun j => .int (js_by.getD j 0)) (js_A base) U U.heap ∧ vk_R "ShadowPool$Scanner" 19 js_tx ka U ∧ va_Z "java/lang/String" "COMPACT_STRINGS" "Z" (.int 1) (js_A base) U U.heap ∧ va_Zq "jdk/internal/util/Preconditions" "SIOOBE_FORMATTER" "Ljava/util/function/BiFunction;" (js_A base) U U.heap
theorem js_F.next {base ka va : Nat} {s U : State} (hq : ∀ q, q < base → U.heap[q]? = s.heap[q]?) (hW : s.WarmedH U.vm) (h : js_F base ka va s) : js_F base ka va U := by
  obtain ⟨h1, h2, h3, h4, h5, h6, h7⟩ := h
  have hk : ∀ a : Nat, a < s.heap.size → ¬ js_A base a → U.heap[a]? = s.heap[a]? := fun a _ h => hq a (Nat.lt_of_not_le h)
  exact ⟨(va_O.moved hW.alike h1).kept hk, (va_OF.moved hW.alike h2).kept hk, (va_OF.moved hW.alike h3).kept hk, (va_T.moved hW.alike h4).kept hk, vk_R.warm hW h5, (va_Z.moved hW.alike h6).kept hk, (va_Zq.moved hW.alike h7).kept hk⟩
theorem js_F.calling {base ka va : Nat} {U : State} {g : JFrame} {mk : MethodId} {a : Array Value} (h : js_F base ka va U) : js_F base ka va (U.calling g mk a) := by
  obtain ⟨h1, h2, h3, h4, h5, h6, h7⟩ := h
  have hv : U.vm.Alike (U.calling g mk a).vm := Vm.Alike.refl U.vm
  exact ⟨va_O.moved hv h1, va_OF.moved hv h2, va_OF.moved hv h3, va_T.moved hv h4, vk_R.same (u := U) rfl h5, va_Z.moved hv h6, va_Zq.moved hv h7⟩
def js_St (base : Nat) (U : State) : Prop := ∃ ka va : Nat, js_F base ka va U
theorem js_StOk : ax_StOk js_St := by
  refine ⟨fun b U g mk a h => ?_, fun b s U hq hW h => ?_⟩
  · obtain ⟨ka, va, h⟩ := h
    exact ⟨ka, va, h.calling⟩
  · obtain ⟨ka, va, h⟩ := h
    exact ⟨ka, va, h.next hq hW⟩
def js_Q (r : Option Value) : Array Value → State → Outcome → State → Prop := fun _ st oc t => oc = .returned r ∧ t.heap = st.heap
def js_rm (d : Nat) : Room := { frames := d, cells := 0, slots := 0, locals := 30 * d }
def js_ws (y : MethodName) (cc : ByteArray) (n : Nat) (ret : Option FieldType) : List Cond := .code y cc n ret :: am_TB
abbrev js_yc : MethodName := ⟨"java/lang/String", "coder", "()B"⟩
abbrev js_yi : MethodName := ⟨"java/lang/String", "isLatin1", "()Z"⟩
abbrev js_yl : MethodName := ⟨"java/lang/String", "length", "()I"⟩
abbrev js_ya : MethodName := ⟨"java/lang/String", "charAt", "(I)C"⟩
abbrev js_yx : MethodName := ⟨"java/lang/String", "checkIndex", "(II)V"⟩
abbrev js_yb : MethodName := ⟨"java/lang/StringLatin1", "charAt", "([BI)C"⟩
abbrev js_yp : MethodName := ⟨"jdk/internal/util/Preconditions", "checkIndex", "(IILjava/util/function/BiFunction;)I"⟩
/-- their words -/
def js_w : List Cond := [.fieldLink "java/lang/String" 38 "java/lang/String" "COMPACT_STRINGS" "Z", .fieldLink "java/lang/String" 15 "java/lang/String" "coder" "B", .fieldLink "java/lang/String" 9 "java/lang/String" "value" "[B", .initialized "java/lang/String", .code js_yc prog_22_method_152_code 1 (some .byte), .methodLink "java/lang/String" 335 js_yc, .instanceMethod js_yc, .selects "java/lang/String" js_yc js_yc, .code js_yi prog_22_method_154_code 1 (some .boolean), .methodLink "java/lang/String" 492 js_yi, .instanceMethod js_yi, .selects "java/lang/String" js_yi js_yi, .code js_yb prog_23_method_2_code 2 (some .char), .methodLink "java/lang/String" 495 js_yb, .static js_yb, .initialized "java/lang/StringLatin1", .code js_yx prog_22_method_155_code 2 none, .methodLink "java/lang/StringLatin1" 9 js_yx, .static js_yx, .code js_yp prog_30_method_11_code 3 (some .int), .methodLink "java/lang/String" 1059 js_yp, .static js_yp, .initialized "jdk/internal/util/Preconditions", .fieldLink "java/lang/String" 1053 "jdk/internal/util/Preconditions" "SIOOBE_FORMATTER" "Ljava/util/function/BiFunction;", .code js_yl prog_22_method_54_code 1 (some .int), .methodLink "ShadowPool$Scanner" 21 js_yl, .instanceMethod js_yl, .selects "java/lang/String" js_yl js_yl, .code js_ya prog_22_method_56_code 2 (some .char), .methodLink "ShadowPool$Scanner" 27 js_ya, .instanceMethod js_ya, .selects "java/lang/String" js_ya js_ya]
set_option maxRecDepth 100000 in
theorem js_w_ok : ∀ w ∈ js_w, w ∈ am_TB := am_in_tb (f := fun q => q) (is := [(1,54), (10,29), (10,28), (1,4), (1,53), (1,50), (1,51), (1,52), (1,63), (1,60), (1,61), (1,62), (1,66), (1,64), (1,65), (1,5), (1,69), (1,67), (1,68), (1,74), (1,72), (1,73), (1,6), (1,70), (1,49), (1,46), (1,47), (1,48), (1,59), (1,56), (1,57), (1,58)]) rfl (by decide +kernel)
section JSS
variable {p : Program} {l : Launch} {e : Env} {R : Room} {s : State} {m : MethodId} {args : Array Value} {below : List Frame} {meth : Method} {c : Code} {Q : State → Prop} {H : Heap} {locs : List Loc} {cells slots pc : Nat} {ls : Array Slot} {rest st0 : List Value} {r : Option Value}
theorem js_after {a9 : Array Value} (hr : va_Run p l e R s m args below meth c H locs cells slots 0 0 (F0 m pc ls st0) rest (js_Q r a9) (fun _ => False)) (kk : W p l e R s m args below meth c H locs cells slots Q (F0 m (pc + 3) ls (r.toList ++ rest))) : W p l e R s m args below meth c H locs cells slots Q (F0 m pc ls st0) := by
  intro T hT X
  obtain ⟨v, st₀, t, T', L, h0, X', hL, e1, e2, ⟨hv, hh⟩, st⟩ := hr T hT X
  cases hv
  have hnil : L = [] := List.eq_nil_iff_forall_not_mem.mpr (fun q hq => hL q hq)
  subst hnil
  rw [List.append_nil] at X'
  obtain ⟨t2, a1, b1⟩ := kk T' (e1.trans (hh.trans h0)) X'
  exact ⟨t2, st t2 a1, b1⟩
end JSS
theorem js_good {Ts : List Cond} (hT : ∀ w ∈ am_TB, w ∈ Ts) {y : MethodName} {cc : ByteArray} {n : Nat} {ret : Option FieldType} (h : Cond.code y cc n ret ∈ am_TB) : GoodIn Ts (js_ws y cc n ret) := by
  intro w hw
  have h1 : w ∈ am_TB := by
    rcases List.mem_cons.mp hw with rfl | h2
    · exact h
    · exact h2
  exact ⟨hT w h1, good_of_word (List.mem_filter.mp h1).2⟩
theorem js_at {Ts : List Cond} {args : Array Value} {s : State} (hT : ∀ w ∈ am_TB, w ∈ Ts) (hts : ∀ w ∈ Ts, w.before args s = true) (i : Nat) {w : Cond} (h : js_w[i]? = some w) : w.before args s = true := hts _ (hT _ (js_w_ok _ (List.mem_of_getElem? h)))
theorem js_blind {base ka va : Nat} {vs : List Value} : FrameBlind (va_Pc vs (fun U => js_F base ka va U)) := fun _ _ _ _ h => ⟨h.1, h.2.calling⟩
theorem js_d_length_0 : decode prog_22_method_54_code 0 = .ok (.aload_n 0, 1) := by decide +kernel
theorem js_d_length_1 : decode prog_22_method_54_code 1 = .ok (.getfield 9, 3) := by decide +kernel
theorem js_d_length_4 : decode prog_22_method_54_code 4 = .ok (.arraylength, 1) := by decide +kernel
theorem js_d_length_5 : decode prog_22_method_54_code 5 = .ok (.aload_n 0, 1) := by decide +kernel
theorem js_d_length_6 : decode prog_22_method_54_code 6 = .ok (.invokevirtual 335, 3) := by decide +kernel
theorem js_d_length_9 : decode prog_22_method_54_code 9 = .ok (.ishr, 1) := by decide +kernel
theorem js_d_length_10 : decode prog_22_method_54_code 10 = .ok (.ireturn, 1) := by decide +kernel
theorem js_d_charAt_0 : decode prog_22_method_56_code 0 = .ok (.aload_n 0, 1) := by decide +kernel
theorem js_d_charAt_1 : decode prog_22_method_56_code 1 = .ok (.invokevirtual 492, 3) := by decide +kernel
theorem js_d_charAt_4 : decode prog_22_method_56_code 4 = .ok (.ifCond .eq 12, 3) := by decide +kernel
theorem js_d_charAt_7 : decode prog_22_method_56_code 7 = .ok (.aload_n 0, 1) := by decide +kernel
theorem js_d_charAt_8 : decode prog_22_method_56_code 8 = .ok (.getfield 9, 3) := by decide +kernel
theorem js_d_charAt_11 : decode prog_22_method_56_code 11 = .ok (.iload_n 1, 1) := by decide +kernel
theorem js_d_charAt_12 : decode prog_22_method_56_code 12 = .ok (.invokestatic 495, 3) := by decide +kernel
theorem js_d_charAt_15 : decode prog_22_method_56_code 15 = .ok (.ireturn, 1) := by decide +kernel
theorem js_d_charAt_16 : decode prog_22_method_56_code 16 = .ok (.aload_n 0, 1) := by decide +kernel
theorem js_d_charAt_17 : decode prog_22_method_56_code 17 = .ok (.getfield 9, 3) := by decide +kernel
theorem js_d_charAt_20 : decode prog_22_method_56_code 20 = .ok (.iload_n 1, 1) := by decide +kernel
theorem js_d_charAt_21 : decode prog_22_method_56_code 21 = .ok (.invokestatic 498, 3) := by decide +kernel
theorem js_d_charAt_24 : decode prog_22_method_56_code 24 = .ok (.ireturn, 1) := by decide +kernel
theorem js_d_coder_0 : decode prog_22_method_152_code 0 = .ok (.getstatic 38, 3) := by decide +kernel
theorem js_d_coder_3 : decode prog_22_method_152_code 3 = .ok (.ifCond .eq 10, 3) := by decide +kernel
theorem js_d_coder_6 : decode prog_22_method_152_code 6 = .ok (.aload_n 0, 1) := by decide +kernel
theorem js_d_coder_7 : decode prog_22_method_152_code 7 = .ok (.getfield 15, 3) := by decide +kernel
theorem js_d_coder_10 : decode prog_22_method_152_code 10 = .ok (.goto 4, 3) := by decide +kernel
theorem js_d_coder_13 : decode prog_22_method_152_code 13 = .ok (.iconst 1, 1) := by decide +kernel
theorem js_d_coder_14 : decode prog_22_method_152_code 14 = .ok (.ireturn, 1) := by decide +kernel
theorem js_d_isLatin1_0 : decode prog_22_method_154_code 0 = .ok (.getstatic 38, 3) := by decide +kernel
theorem js_d_isLatin1_3 : decode prog_22_method_154_code 3 = .ok (.ifCond .eq 14, 3) := by decide +kernel
theorem js_d_isLatin1_6 : decode prog_22_method_154_code 6 = .ok (.aload_n 0, 1) := by decide +kernel
theorem js_d_isLatin1_7 : decode prog_22_method_154_code 7 = .ok (.getfield 15, 3) := by decide +kernel
theorem js_d_isLatin1_10 : decode prog_22_method_154_code 10 = .ok (.ifCond .ne 7, 3) := by decide +kernel
theorem js_d_isLatin1_13 : decode prog_22_method_154_code 13 = .ok (.iconst 1, 1) := by decide +kernel
theorem js_d_isLatin1_14 : decode prog_22_method_154_code 14 = .ok (.goto 4, 3) := by decide +kernel
theorem js_d_isLatin1_17 : decode prog_22_method_154_code 17 = .ok (.iconst 0, 1) := by decide +kernel
theorem js_d_isLatin1_18 : decode prog_22_method_154_code 18 = .ok (.ireturn, 1) := by decide +kernel
theorem js_d_checkIndex_0 : decode prog_22_method_155_code 0 = .ok (.iload_n 0, 1) := by decide +kernel
theorem js_d_checkIndex_1 : decode prog_22_method_155_code 1 = .ok (.iload_n 1, 1) := by decide +kernel
theorem js_d_checkIndex_2 : decode prog_22_method_155_code 2 = .ok (.getstatic 1053, 3) := by decide +kernel
theorem js_d_checkIndex_5 : decode prog_22_method_155_code 5 = .ok (.invokestatic 1059, 3) := by decide +kernel
theorem js_d_checkIndex_8 : decode prog_22_method_155_code 8 = .ok (.pop, 1) := by decide +kernel
theorem js_d_checkIndex_9 : decode prog_22_method_155_code 9 = .ok (.return_, 1) := by decide +kernel
theorem js_d_latinAt_0 : decode prog_23_method_2_code 0 = .ok (.iload_n 1, 1) := by decide +kernel
theorem js_d_latinAt_1 : decode prog_23_method_2_code 1 = .ok (.aload_n 0, 1) := by decide +kernel
theorem js_d_latinAt_2 : decode prog_23_method_2_code 2 = .ok (.arraylength, 1) := by decide +kernel
theorem js_d_latinAt_3 : decode prog_23_method_2_code 3 = .ok (.invokestatic 9, 3) := by decide +kernel
theorem js_d_latinAt_6 : decode prog_23_method_2_code 6 = .ok (.aload_n 0, 1) := by decide +kernel
theorem js_d_latinAt_7 : decode prog_23_method_2_code 7 = .ok (.iload_n 1, 1) := by decide +kernel
theorem js_d_latinAt_8 : decode prog_23_method_2_code 8 = .ok (.baload, 1) := by decide +kernel
theorem js_d_latinAt_9 : decode prog_23_method_2_code 9 = .ok (.sipush 255, 3) := by decide +kernel
theorem js_d_latinAt_12 : decode prog_23_method_2_code 12 = .ok (.iand, 1) := by decide +kernel
theorem js_d_latinAt_13 : decode prog_23_method_2_code 13 = .ok (.i2c, 1) := by decide +kernel
theorem js_d_latinAt_14 : decode prog_23_method_2_code 14 = .ok (.ireturn, 1) := by decide +kernel
theorem js_d_check_0 : decode prog_30_method_11_code 0 = .ok (.iload_n 0, 1) := by decide +kernel
theorem js_d_check_1 : decode prog_30_method_11_code 1 = .ok (.ifCond .lt 8, 3) := by decide +kernel
theorem js_d_check_4 : decode prog_30_method_11_code 4 = .ok (.iload_n 0, 1) := by decide +kernel
theorem js_d_check_5 : decode prog_30_method_11_code 5 = .ok (.iload_n 1, 1) := by decide +kernel
theorem js_d_check_6 : decode prog_30_method_11_code 6 = .ok (.if_icmp .lt 10, 3) := by decide +kernel
theorem js_d_check_9 : decode prog_30_method_11_code 9 = .ok (.aload_n 2, 1) := by decide +kernel
theorem js_d_check_10 : decode prog_30_method_11_code 10 = .ok (.iload_n 0, 1) := by decide +kernel
theorem js_d_check_11 : decode prog_30_method_11_code 11 = .ok (.iload_n 1, 1) := by decide +kernel
theorem js_d_check_12 : decode prog_30_method_11_code 12 = .ok (.invokestatic 95, 3) := by decide +kernel
theorem js_d_check_15 : decode prog_30_method_11_code 15 = .ok (.athrow, 1) := by decide +kernel
theorem js_d_check_16 : decode prog_30_method_11_code 16 = .ok (.iload_n 0, 1) := by decide +kernel
theorem js_d_check_17 : decode prog_30_method_11_code 17 = .ok (.ireturn, 1) := by decide +kernel
/-- coder() -/
theorem js_coder (l : Launch) (d base ka va : Nat) : Met l js_yc (js_ws js_yc prog_22_method_152_code 1 (some .byte)) (js_rm d) (va_Pc [.ref ka] (fun U => js_F base ka va U)) (js_Q (some (.int 0))) 0 0 (fun _ => False) := by
  refine Met.ofW (cc := prog_22_method_152_code) (maxL := 1) (ret := some .byte) (by decide) rfl ?_
  intro p e s m args below meth c s₁ B hml hv
  obtain ⟨rfl, h1, h2, h3, h4, h5, h6, h7⟩ := hv
  have hx := B.exec
  have hb := B.bytes
  have hts := atoms_spec (ws := js_ws js_yc prog_22_method_152_code 1 (some .byte)) B.pre
  have hw := fun i w h => js_at (w := w) (fun _ hw => List.mem_cons_of_mem _ hw) hts i h
  have hown : s.vm.findClass "java/lang/String" = some m.cls := findClass_of_methodNamed B.named
  have hS : va_S (js_A base) s.heap s.heap [] := va_S.rf
  have hl := lv_entry ([.ref ka]) (n := 1) (Nat.le_of_ble_eq_true rfl)
  rw [lg_entry_eq]
  generalize (lg_sl ([.ref ka]) ++ List.replicate (1 - (lg_sl ([.ref ka])).length) Slot.unset).toArray = ls at hl ⊢
  have hl : lv_has ls 1 [(0, .ref ka)] := hl
  refine va_gets hx hb h6 hS hown (hw 0 _ rfl) (fun _ h => h) js_d_coder_0 ?_
  refine lv_if_eq hx hb js_d_coder_3 (tgt := 13) (by decide) (fun h => absurd h (by decide)) (fun _ => ?_)
  refine lv_aload_n hx hb js_d_coder_6 rfl (lv_at hl 0 rfl) ?_
  refine vk_getf hx hb h2 hS hown (hw 1 _ rfl) (fun _ h => h) js_d_coder_7 ?_
  refine lv_goto hx hb js_d_coder_10 (tgt := 14) (by decide) ?_
  exact W.zret hx hb B.returns rfl (fun t ht _ => ⟨rfl, ht⟩) (fun q h => by cases h) js_d_coder_14 B.notSynchronized
/-- isLatin1() -/
theorem js_latin (l : Launch) (d base ka va : Nat) : Met l js_yi (js_ws js_yi prog_22_method_154_code 1 (some .boolean)) (js_rm d) (va_Pc [.ref ka] (fun U => js_F base ka va U)) (js_Q (some (.int 1))) 0 0 (fun _ => False) := by
  refine Met.ofW (cc := prog_22_method_154_code) (maxL := 1) (ret := some .boolean) (by decide) rfl ?_
  intro p e s m args below meth c s₁ B hml hv
  obtain ⟨rfl, h1, h2, h3, h4, h5, h6, h7⟩ := hv
  have hx := B.exec
  have hb := B.bytes
  have hts := atoms_spec (ws := js_ws js_yi prog_22_method_154_code 1 (some .boolean)) B.pre
  have hw := fun i w h => js_at (w := w) (fun _ hw => List.mem_cons_of_mem _ hw) hts i h
  have hown : s.vm.findClass "java/lang/String" = some m.cls := findClass_of_methodNamed B.named
  have hS : va_S (js_A base) s.heap s.heap [] := va_S.rf
  have hl := lv_entry ([.ref ka]) (n := 1) (Nat.le_of_ble_eq_true rfl)
  rw [lg_entry_eq]
  generalize (lg_sl ([.ref ka]) ++ List.replicate (1 - (lg_sl ([.ref ka])).length) Slot.unset).toArray = ls at hl ⊢
  have hl : lv_has ls 1 [(0, .ref ka)] := hl
  refine va_gets hx hb h6 hS hown (hw 0 _ rfl) (fun _ h => h) js_d_isLatin1_0 ?_
  refine lv_if_eq hx hb js_d_isLatin1_3 (tgt := 17) (by decide) (fun h => absurd h (by decide)) (fun _ => ?_)
  refine lv_aload_n hx hb js_d_isLatin1_6 rfl (lv_at hl 0 rfl) ?_
  refine vk_getf hx hb h2 hS hown (hw 1 _ rfl) (fun _ h => h) js_d_isLatin1_7 ?_
  refine lv_if_ne hx hb js_d_isLatin1_10 (tgt := 17) (by decide) (fun h => absurd rfl h) (fun _ => ?_)
  refine lv_iconst (v := 1) hx hb js_d_isLatin1_13 (by decide) ?_
  refine lv_goto hx hb js_d_isLatin1_14 (tgt := 18) (by decide) ?_
  exact W.zret hx hb B.returns rfl (fun t ht _ => ⟨rfl, ht⟩) (fun q h => by cases h) js_d_isLatin1_18 B.notSynchronized
/-- length() -/
theorem js_len (l : Launch) (d base ka va : Nat) : Met l js_yl (js_ws js_yl prog_22_method_54_code 1 (some .int)) (js_rm (d + 1)) (va_Pc [.ref ka] (fun U => js_F base ka va U)) (js_Q (some (.int 121))) 0 0 (fun _ => False) := by
  refine Met.ofW (cc := prog_22_method_54_code) (maxL := 1) (ret := some .int) (by decide) rfl ?_
  intro p e s m args below meth c s₁ B hml hv
  obtain ⟨rfl, hF⟩ := hv
  have hF0 := hF
  obtain ⟨h1, h2, h3, h4, h5, h6, h7⟩ := hF
  have hx := B.exec
  have hb := B.bytes
  have hT : ∀ w ∈ am_TB, w ∈ js_ws js_yl prog_22_method_54_code 1 (some .int) := fun _ hw => List.mem_cons_of_mem _ hw
  have hts := atoms_spec (ws := js_ws js_yl prog_22_method_54_code 1 (some .int)) B.pre
  have hw := fun i w h => js_at (w := w) hT hts i h
  have hown : s.vm.findClass "java/lang/String" = some m.cls := findClass_of_methodNamed B.named
  have hS : va_S (js_A base) s.heap s.heap [] := va_S.rf
  have hl := lv_entry ([.ref ka]) (n := 1) (Nat.le_of_ble_eq_true rfl)
  rw [lg_entry_eq]
  generalize (lg_sl ([.ref ka]) ++ List.replicate (1 - (lg_sl ([.ref ka])).length) Slot.unset).toArray = ls at hl ⊢
  have hl : lv_has ls 1 [(0, .ref ka)] := hl
  refine lv_aload_n hx hb js_d_length_0 rfl (lv_at hl 0 rfl) ?_
  refine vk_getf hx hb h3 hS hown (hw 2 _ rfl) (fun _ h => h) js_d_length_1 ?_
  refine va_tlen hx hb h4 hS (v := 121) rfl js_d_length_4 ?_
  refine lv_aload_n hx hb js_d_length_5 rfl (lv_at hl 0 rfl) ?_
  have hcb := callB_of (R := (headSpec (js_ws js_yl prog_22_method_54_code 1 (some .int)) (js_rm (d + 1))).room) (y := js_yc) (bytes := prog_22_method_152_code) (maxL := 1) (ret := some .byte) (ws := js_ws js_yc prog_22_method_152_code 1 (some .byte)) (ws' := am_TB) (rm := js_rm d) (mc := 0) (ms := 0) 0 hts (js_good hT (js_w_ok _ (List.mem_of_getElem? (i := 4) rfl))) rfl rfl rfl (hw 3 _ rfl) (hw 5 _ rfl) (by decide +kernel) ⟨Nat.le_refl _, by show 8 + (1 + 11) + 30 * d ≤ 30 * (d + 1); omega⟩
  refine js_after (va_runV (As := []) (rest := [.int 121]) (b := ka) ⟨hx, hb, hml, hown, hts⟩ (js_coder l d base ka va) ⟨hcb, hw 6 _ rfl, hw 7 _ rfl⟩ ⟨js_blind, (by obtain ⟨cell, g1, g2, g3, -⟩ := h1; exact ⟨cell, g1, g2, g3⟩), fun U hU hW => ⟨rfl, hF0.next (fun q _ => by rw [hU]) hW⟩⟩ rfl rfl hl.1 rfl (lv_room (Nat.le_of_ble_eq_true rfl)) js_d_length_6 ⟨Nat.zero_le _, Nat.zero_le _⟩) ?_
  refine lv_ishr hx hb js_d_length_9 ?_
  exact W.zret (v := 121) hx hb B.returns rfl (fun t ht _ => ⟨rfl, ht⟩) (fun q h => by cases h) js_d_length_10 B.notSynchronized
theorem js_chr : ∀ i, i < 121 → (((js_by.getD i 0) &&& 255).toUInt32 % 65536).toInt32 = js_by.getD i 0 ∧ narrow .char (.int (js_by.getD i 0)) = .int (js_by.getD i 0) := by decide +kernel
/-- Preconditions.checkIndex: an index that is in -/
theorem js_check (l : Launch) (d i n : Nat) (w : Value) (hw1 : w.category = 1) (hi : i < n) (hn : n < 2 ^ 31) : Met l js_yp (js_ws js_yp prog_30_method_11_code 3 (some .int)) (js_rm d) (va_Pc [.int (nI i), .int (nI n), w] (fun _ => True)) (js_Q (some (.int (nI i)))) 0 0 (fun _ => False) := by
  refine Met.ofW (cc := prog_30_method_11_code) (maxL := 3) (ret := some .int) (by decide) rfl ?_
  intro p e s m args below meth c s₁ B hml hv
  obtain ⟨rfl, -⟩ := hv
  have hx := B.exec
  have hb := B.bytes
  have h3 : (lg_sl ([.int (nI i), .int (nI n), w])).length = 3 := by rw [am_sl_ca]; show 1 + (1 + (w.category + 0)) = 3; rw [hw1]
  have hl := lv_entry ([.int (nI i), .int (nI n), w]) (n := 3) (by rw [h3]; exact Nat.le_refl _)
  rw [lg_entry_eq]
  generalize (lg_sl ([.int (nI i), .int (nI n), w]) ++ List.replicate (3 - (lg_sl ([.int (nI i), .int (nI n), w])).length) Slot.unset).toArray = ls at hl ⊢
  have hl : lv_has ls 3 [(0, .int (nI i)), (1, .int (nI n)), (2, w)] := hl
  refine lv_iload_n hx hb js_d_check_0 rfl (lv_at hl 0 rfl) ?_
  refine lv_if_lt hx hb js_d_check_1 (tgt := 9) (by decide) (fun h => absurd h (nI_pos (by omega))) (fun _ => ?_)
  refine lv_iload_n hx hb js_d_check_4 rfl (lv_at hl 0 rfl) ?_
  refine lv_iload_n hx hb js_d_check_5 rfl (lv_at hl 1 rfl) ?_
  refine lv_icmp_lt hx hb js_d_check_6 (tgt := 16) (by decide) (fun _ => ?_) (fun h => absurd (nI_lt hi hn) h)
  refine lv_iload_n hx hb js_d_check_16 rfl (lv_at hl 0 rfl) ?_
  exact W.iret hx hb B.returns (fun t ht _ => ⟨rfl, ht⟩) (fun q h => by cases h) js_d_check_17 B.notSynchronized
/-- String.checkIndex -/
theorem js_index (l : Launch) (d base ka va i n : Nat) (hi : i < n) (hn : n < 2 ^ 31) : Met l js_yx (js_ws js_yx prog_22_method_155_code 2 none) (js_rm (d + 1)) (va_Pc [.int (nI i), .int (nI n)] (fun U => js_F base ka va U)) (js_Q none) 0 0 (fun _ => False) := by
  refine Met.ofW (cc := prog_22_method_155_code) (maxL := 2) (ret := none) (by decide) rfl ?_
  intro p e s m args below meth c s₁ B hml hv
  obtain ⟨rfl, hF⟩ := hv
  obtain ⟨h1, h2, h3, h4, h5, h6, h7⟩ := hF
  have hx := B.exec
  have hb := B.bytes
  have hT : ∀ w ∈ am_TB, w ∈ js_ws js_yx prog_22_method_155_code 2 none := fun _ hw => List.mem_cons_of_mem _ hw
  have hts := atoms_spec (ws := js_ws js_yx prog_22_method_155_code 2 none) B.pre
  have hw := fun i w h => js_at (w := w) hT hts i h
  have hown : s.vm.findClass "java/lang/String" = some m.cls := findClass_of_methodNamed B.named
  have hS : va_S (js_A base) s.heap s.heap [] := va_S.rf
  have hl := lv_entry ([.int (nI i), .int (nI n)]) (n := 2) (Nat.le_of_ble_eq_true rfl)
  rw [lg_entry_eq]
  generalize (lg_sl ([.int (nI i), .int (nI n)]) ++ List.replicate (2 - (lg_sl ([.int (nI i), .int (nI n)])).length) Slot.unset).toArray = ls at hl ⊢
  have hl : lv_has ls 2 [(0, .int (nI i)), (1, .int (nI n))] := hl
  refine lv_iload_n hx hb js_d_checkIndex_0 rfl (lv_at hl 0 rfl) ?_
  refine lv_iload_n hx hb js_d_checkIndex_1 rfl (lv_at hl 1 rfl) ?_
  have key : ∀ w : Value, w.category = 1 → W p l e (headSpec (js_ws js_yx prog_22_method_155_code 2 none) (js_rm (d + 1))).room s m ([Value.int (nI i), Value.int (nI n)]).toArray below meth c s.heap [] 0 0 (MQ below (js_Q none) ([Value.int (nI i), Value.int (nI n)]).toArray s 0 0 (fun _ => False)) (F0 m 5 ls [w, .int (nI n), .int (nI i)]) := by
    intro w hw1
    have hcb := callB_of (R := (headSpec (js_ws js_yx prog_22_method_155_code 2 none) (js_rm (d + 1))).room) (own := "java/lang/String") (index := 1059) (y := js_yp) (bytes := prog_30_method_11_code) (maxL := 3) (ret := some .int) (ws := js_ws js_yp prog_30_method_11_code 3 (some .int)) (ws' := am_TB) (rm := js_rm d) (mc := 0) (ms := 0) 3 hts (js_good hT (js_w_ok _ (List.mem_of_getElem? (i := 19) rfl))) rfl rfl rfl (hw 22 _ rfl) (hw 20 _ rfl) (by decide +kernel) ⟨Nat.le_refl _, by show 8 + (3 + 11) + 30 * d ≤ 30 * (d + 1); omega⟩
    refine js_after (va_runS (As := [.int (nI i), .int (nI n), w]) (rest := []) ⟨hx, hb, hml, hown, hts⟩ (js_check l d i n w hw1 hi hn) ⟨hcb, hw 21 _ rfl⟩ ⟨fun _ _ _ _ h => h, fun U hU hW => ⟨rfl, trivial⟩⟩ rfl rfl hl.1 rfl (lv_room (Nat.le_of_ble_eq_true rfl)) js_d_checkIndex_5 ⟨Nat.zero_le _, Nat.zero_le _⟩) ?_
    refine lv_pop hx hb js_d_checkIndex_8 rfl ?_
    exact W.vret hx hb B.returns (fun t ht _ => ⟨rfl, ht⟩) (fun q h => by cases h) js_d_checkIndex_9 B.notSynchronized
  rcases h7 with h7 | ⟨t, h7⟩
  · exact va_gets hx hb h7 hS hown (hw 23 _ rfl) (fun _ h => h) js_d_checkIndex_2 (key _ rfl)
  · exact va_gets hx hb h7 hS hown (hw 23 _ rfl) (fun _ h => h) js_d_checkIndex_2 (key _ rfl)
/-- StringLatin1.charAt -/
theorem js_latinAt (l : Launch) (d base ka va i : Nat) (hi : i < 121) : Met l js_yb (js_ws js_yb prog_23_method_2_code 2 (some .char)) (js_rm (d + 2)) (va_Pc [.ref va, .int (nI i)] (fun U => js_F base ka va U)) (js_Q (some (.int (js_by.getD i 0)))) 0 0 (fun _ => False) := by
  refine Met.ofW (cc := prog_23_method_2_code) (maxL := 2) (ret := some .char) (by decide) rfl ?_
  intro p e s m args below meth c s₁ B hml hv
  obtain ⟨rfl, hF⟩ := hv
  have hF0 := hF
  obtain ⟨h1, h2, h3, h4, h5, h6, h7⟩ := hF
  have hx := B.exec
  have hb := B.bytes
  have hT : ∀ w ∈ am_TB, w ∈ js_ws js_yb prog_23_method_2_code 2 (some .char) := fun _ hw => List.mem_cons_of_mem _ hw
  have hts := atoms_spec (ws := js_ws js_yb prog_23_method_2_code 2 (some .char)) B.pre
  have hw := fun i w h => js_at (w := w) hT hts i h
  have hown : s.vm.findClass "java/lang/StringLatin1" = some m.cls := findClass_of_methodNamed B.named
  have hS : va_S (js_A base) s.heap s.heap [] := va_S.rf
  have hl := lv_entry ([.ref va, .int (nI i)]) (n := 2) (Nat.le_of_ble_eq_true rfl)
  rw [lg_entry_eq]
  generalize (lg_sl ([.ref va, .int (nI i)]) ++ List.replicate (2 - (lg_sl ([.ref va, .int (nI i)])).length) Slot.unset).toArray = ls at hl ⊢
  have hl : lv_has ls 2 [(0, .ref va), (1, .int (nI i))] := hl
  refine lv_iload_n hx hb js_d_latinAt_0 rfl (lv_at hl 1 rfl) ?_
  refine lv_aload_n hx hb js_d_latinAt_1 rfl (lv_at hl 0 rfl) ?_
  refine va_tlen hx hb h4 hS (v := nI 121) rfl js_d_latinAt_2 ?_
  have hcb := callB_of (R := (headSpec (js_ws js_yb prog_23_method_2_code 2 (some .char)) (js_rm (d + 2))).room) (own := "java/lang/StringLatin1") (index := 9) (y := js_yx) (bytes := prog_22_method_155_code) (maxL := 2) (ret := none) (ws := js_ws js_yx prog_22_method_155_code 2 none) (ws' := am_TB) (rm := js_rm (d + 1)) (mc := 0) (ms := 0) 2 hts (js_good hT (js_w_ok _ (List.mem_of_getElem? (i := 16) rfl))) rfl rfl rfl (hw 3 _ rfl) (hw 17 _ rfl) (by decide +kernel) ⟨Nat.le_refl _, by show 8 + (2 + 11) + 30 * (d + 1) ≤ 30 * (d + 2); omega⟩
  refine js_after (va_runS (As := [.int (nI i), .int (nI 121)]) (rest := []) ⟨hx, hb, hml, hown, hts⟩ (js_index l d base ka va i 121 hi (by decide)) ⟨hcb, hw 18 _ rfl⟩ ⟨js_blind, fun U hU hW => ⟨rfl, hF0.next (fun q _ => by rw [hU]) hW⟩⟩ rfl rfl hl.1 rfl (lv_room (Nat.le_of_ble_eq_true rfl)) js_d_latinAt_3 ⟨Nat.zero_le _, Nat.zero_le _⟩) ?_
  refine lv_aload_n hx hb js_d_latinAt_6 rfl (lv_at hl 0 rfl) ?_
  refine lv_iload_n hx hb js_d_latinAt_7 rfl (lv_at hl 1 rfl) ?_
  refine va_tb hx hb h4 hS (vp_in_nI hi (by decide)) (v := .int (js_by.getD i 0)) (by rw [nI_clamp (by omega)]) js_d_latinAt_8 ?_
  refine lv_sipush (v := 255) hx hb js_d_latinAt_9 (by decide) ?_
  refine lv_iand hx hb js_d_latinAt_12 ?_
  refine lv_i2c (v := js_by.getD i 0) hx hb js_d_latinAt_13 (js_chr i hi).1 ?_
  exact W.zret hx hb B.returns (js_chr i hi).2 (fun t ht _ => ⟨rfl, ht⟩) (fun q h => by cases h) js_d_latinAt_14 B.notSynchronized
/-- charAt(i) -/
theorem js_charAt (l : Launch) (d base ka va i : Nat) (hi : i < 121) : Met l js_ya (js_ws js_ya prog_22_method_56_code 2 (some .char)) (js_rm (d + 3)) (va_Pc [.ref ka, .int (nI i)] (fun U => js_F base ka va U)) (js_Q (some (.int (js_by.getD i 0)))) 0 0 (fun _ => False) := by
  refine Met.ofW (cc := prog_22_method_56_code) (maxL := 2) (ret := some .char) (by decide) rfl ?_
  intro p e s m args below meth c s₁ B hml hv
  obtain ⟨rfl, hF⟩ := hv
  have hF0 := hF
  obtain ⟨h1, h2, h3, h4, h5, h6, h7⟩ := hF
  have hx := B.exec
  have hb := B.bytes
  have hT : ∀ w ∈ am_TB, w ∈ js_ws js_ya prog_22_method_56_code 2 (some .char) := fun _ hw => List.mem_cons_of_mem _ hw
  have hts := atoms_spec (ws := js_ws js_ya prog_22_method_56_code 2 (some .char)) B.pre
  have hw := fun i w h => js_at (w := w) hT hts i h
  have hown : s.vm.findClass "java/lang/String" = some m.cls := findClass_of_methodNamed B.named
  have hS : va_S (js_A base) s.heap s.heap [] := va_S.rf
  have hl := lv_entry ([.ref ka, .int (nI i)]) (n := 2) (Nat.le_of_ble_eq_true rfl)
  rw [lg_entry_eq]
  generalize (lg_sl ([.ref ka, .int (nI i)]) ++ List.replicate (2 - (lg_sl ([.ref ka, .int (nI i)])).length) Slot.unset).toArray = ls at hl ⊢
  have hl : lv_has ls 2 [(0, .ref ka), (1, .int (nI i))] := hl
  refine lv_aload_n hx hb js_d_charAt_0 rfl (lv_at hl 0 rfl) ?_
  have hcb := callB_of (R := (headSpec (js_ws js_ya prog_22_method_56_code 2 (some .char)) (js_rm (d + 3))).room) (own := "java/lang/String") (index := 492) (y := js_yi) (bytes := prog_22_method_154_code) (maxL := 1) (ret := some .boolean) (ws := js_ws js_yi prog_22_method_154_code 1 (some .boolean)) (ws' := am_TB) (rm := js_rm (d + 2)) (mc := 0) (ms := 0) 0 hts (js_good hT (js_w_ok _ (List.mem_of_getElem? (i := 8) rfl))) rfl rfl rfl (hw 3 _ rfl) (hw 9 _ rfl) (by decide +kernel) ⟨Nat.le_refl _, by show 8 + (1 + 11) + 30 * (d + 2) ≤ 30 * (d + 3); omega⟩
  refine js_after (va_runV (As := []) (rest := []) (b := ka) ⟨hx, hb, hml, hown, hts⟩ (js_latin l (d + 2) base ka va) ⟨hcb, hw 10 _ rfl, hw 11 _ rfl⟩ ⟨js_blind, (by obtain ⟨cell, g1, g2, g3, -⟩ := h1; exact ⟨cell, g1, g2, g3⟩), fun U hU hW => ⟨rfl, hF0.next (fun q _ => by rw [hU]) hW⟩⟩ rfl rfl hl.1 rfl (lv_room (Nat.le_of_ble_eq_true rfl)) js_d_charAt_1 ⟨Nat.zero_le _, Nat.zero_le _⟩) ?_
  refine lv_if_eq hx hb js_d_charAt_4 (tgt := 16) (by decide) (fun h => absurd h (by decide)) (fun _ => ?_)
  refine lv_aload_n hx hb js_d_charAt_7 rfl (lv_at hl 0 rfl) ?_
  refine vk_getf hx hb h3 hS hown (hw 2 _ rfl) (fun _ h => h) js_d_charAt_8 ?_
  refine lv_iload_n hx hb js_d_charAt_11 rfl (lv_at hl 1 rfl) ?_
  have hcb := callB_of (R := (headSpec (js_ws js_ya prog_22_method_56_code 2 (some .char)) (js_rm (d + 3))).room) (own := "java/lang/String") (index := 495) (y := js_yb) (bytes := prog_23_method_2_code) (maxL := 2) (ret := some .char) (ws := js_ws js_yb prog_23_method_2_code 2 (some .char)) (ws' := am_TB) (rm := js_rm (d + 2)) (mc := 0) (ms := 0) 2 hts (js_good hT (js_w_ok _ (List.mem_of_getElem? (i := 12) rfl))) rfl rfl rfl (hw 15 _ rfl) (hw 13 _ rfl) (by decide +kernel) ⟨Nat.le_refl _, by show 8 + (2 + 11) + 30 * (d + 2) ≤ 30 * (d + 3); omega⟩
  refine js_after (va_runS (As := [.ref va, .int (nI i)]) (rest := []) ⟨hx, hb, hml, hown, hts⟩ (js_latinAt l d base ka va i hi) ⟨hcb, hw 14 _ rfl⟩ ⟨js_blind, fun U hU hW => ⟨rfl, hF0.next (fun q _ => by rw [hU]) hW⟩⟩ rfl rfl hl.1 rfl (lv_room (Nat.le_of_ble_eq_true rfl)) js_d_charAt_12 ⟨Nat.zero_le _, Nat.zero_le _⟩) ?_
  exact W.zret hx hb B.returns (js_chr i hi).2 (fun t ht _ => ⟨rfl, ht⟩) (fun q h => by cases h) js_d_charAt_15 B.notSynchronized
