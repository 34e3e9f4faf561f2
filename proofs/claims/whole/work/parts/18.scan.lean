/-! Scanner(): two arrays, then the words of the language out of the text -/
def sk_P : List (Nat × am_I) := [(0,4,1,0,0,0,0,[]), (1,52,4,0,0,0,0,[]), (4,4,5,0,0,0,0,[]), (5,0,8,0,0,700,0,[]), (8,51,10,1,0,0,0,[]), (10,28,13,6,0,0,0,[]), (13,4,14,0,0,0,0,[]), (14,0,16,0,0,25,0,[]), (16,51,18,0,0,0,0,[]), (18,28,21,6,1,0,0,[])]
theorem sk_P_ok : sk_P.all (ax_ib 6 prog_8_method_1_code) = true := by decide +kernel
theorem sk_d_21 : decode prog_8_method_1_code 21 = .ok (.iconst 0, 1) := by decide +kernel
theorem sk_d_22 : decode prog_8_method_1_code 22 = .ok (.istore_n 1, 1) := by decide +kernel
theorem sk_d_23 : decode prog_8_method_1_code 23 = .ok (.bipush 25, 2) := by decide +kernel
theorem sk_d_25 : decode prog_8_method_1_code 25 = .ok (.istore_n 2, 1) := by decide +kernel
theorem sk_d_26 : decode prog_8_method_1_code 26 = .ok (.iconst 0, 1) := by decide +kernel
theorem sk_d_27 : decode prog_8_method_1_code 27 = .ok (.istore_n 3, 1) := by decide +kernel
theorem sk_d_28 : decode prog_8_method_1_code 28 = .ok (.iload_n 3, 1) := by decide +kernel
theorem sk_d_29 : decode prog_8_method_1_code 29 = .ok (.ldc 19, 2) := by decide +kernel
theorem sk_d_31 : decode prog_8_method_1_code 31 = .ok (.invokevirtual 21, 3) := by decide +kernel
theorem sk_d_34 : decode prog_8_method_1_code 34 = .ok (.if_icmp .ge 60, 3) := by decide +kernel
theorem sk_d_37 : decode prog_8_method_1_code 37 = .ok (.iload_n 1, 1) := by decide +kernel
theorem sk_d_38 : decode prog_8_method_1_code 38 = .ok (.bipush 25, 2) := by decide +kernel
theorem sk_d_40 : decode prog_8_method_1_code 40 = .ok (.if_icmp .ge 54, 3) := by decide +kernel
theorem sk_d_43 : decode prog_8_method_1_code 43 = .ok (.ldc 19, 2) := by decide +kernel
theorem sk_d_45 : decode prog_8_method_1_code 45 = .ok (.iload_n 3, 1) := by decide +kernel
theorem sk_d_46 : decode prog_8_method_1_code 46 = .ok (.invokevirtual 27, 3) := by decide +kernel
theorem sk_d_49 : decode prog_8_method_1_code 49 = .ok (.istore 4, 2) := by decide +kernel
theorem sk_d_51 : decode prog_8_method_1_code 51 = .ok (.iload 4, 2) := by decide +kernel
theorem sk_d_53 : decode prog_8_method_1_code 53 = .ok (.bipush 32, 2) := by decide +kernel
theorem sk_d_55 : decode prog_8_method_1_code 55 = .ok (.if_icmp .ne 12, 3) := by decide +kernel
theorem sk_d_58 : decode prog_8_method_1_code 58 = .ok (.iinc 1 1, 3) := by decide +kernel
theorem sk_d_61 : decode prog_8_method_1_code 61 = .ok (.bipush 25, 2) := by decide +kernel
theorem sk_d_63 : decode prog_8_method_1_code 63 = .ok (.istore_n 2, 1) := by decide +kernel
theorem sk_d_64 : decode prog_8_method_1_code 64 = .ok (.goto 24, 3) := by decide +kernel
theorem sk_d_67 : decode prog_8_method_1_code 67 = .ok (.aload_n 0, 1) := by decide +kernel
theorem sk_d_68 : decode prog_8_method_1_code 68 = .ok (.getfield 15, 3) := by decide +kernel
theorem sk_d_71 : decode prog_8_method_1_code 71 = .ok (.iload_n 1, 1) := by decide +kernel
theorem sk_d_72 : decode prog_8_method_1_code 72 = .ok (.dup2, 1) := by decide +kernel
theorem sk_d_73 : decode prog_8_method_1_code 73 = .ok (.iaload, 1) := by decide +kernel
theorem sk_d_74 : decode prog_8_method_1_code 74 = .ok (.iload 4, 2) := by decide +kernel
theorem sk_d_76 : decode prog_8_method_1_code 76 = .ok (.bipush 97, 2) := by decide +kernel
theorem sk_d_78 : decode prog_8_method_1_code 78 = .ok (.isub, 1) := by decide +kernel
theorem sk_d_79 : decode prog_8_method_1_code 79 = .ok (.iconst 1, 1) := by decide +kernel
theorem sk_d_80 : decode prog_8_method_1_code 80 = .ok (.iadd, 1) := by decide +kernel
theorem sk_d_81 : decode prog_8_method_1_code 81 = .ok (.iload_n 2, 1) := by decide +kernel
theorem sk_d_82 : decode prog_8_method_1_code 82 = .ok (.ishl, 1) := by decide +kernel
theorem sk_d_83 : decode prog_8_method_1_code 83 = .ok (.ior, 1) := by decide +kernel
theorem sk_d_84 : decode prog_8_method_1_code 84 = .ok (.iastore, 1) := by decide +kernel
theorem sk_d_85 : decode prog_8_method_1_code 85 = .ok (.iinc 2 (-5), 3) := by decide +kernel
theorem sk_d_88 : decode prog_8_method_1_code 88 = .ok (.iinc 3 1, 3) := by decide +kernel
theorem sk_d_91 : decode prog_8_method_1_code 91 = .ok (.goto (-63), 3) := by decide +kernel
theorem sk_d_94 : decode prog_8_method_1_code 94 = .ok (.return_, 1) := by decide +kernel
/-- the loop's state behind i signs: word, shift, the row -/
def sk_f : Nat → Nat × Int32 × (Nat → Int32)
  | 0 => (0, 25, fun _ => 0)
  | i + 1 => match sk_f i with
    | (w, sh, f) => if js_by.getD i 0 = 32 then (w + 1, 25, f) else (w, sh + (-5), upd f w (f w ||| ((js_by.getD i 0 - 97 + 1) <<< (sh &&& 31))))
/-- the same, as lists: for the kernel -/
def sk_l : Nat → Nat × Int32 × List Int32
  | 0 => (0, 25, List.replicate 25 0)
  | i + 1 => match sk_l i with
    | (w, sh, f) => if js_by.getD i 0 = 32 then (w + 1, 25, f) else (w, sh + (-5), f.set w (f.getD w 0 ||| ((js_by.getD i 0 - 97 + 1) <<< (sh &&& 31))))
theorem sk_in : ∀ i, i < 121 → (sk_l i).1 < 25 := by decide +kernel
theorem sk_end : (sk_l 121).1 = 25 ∧ (sk_l 121).2.2 = ax_lg := by decide +kernel
theorem sk_len : ∀ i, (sk_l i).2.2.length = 25 := by
  intro i
  induction i with
  | zero => rfl
  | succ i ih =>
    unfold sk_l
    split
    rename_i w sh f h
    rw [h] at ih
    split
    · exact ih
    · simpa using ih
theorem sk_eq : ∀ i, i ≤ 121 → (sk_f i).1 = (sk_l i).1 ∧ (sk_f i).2.1 = (sk_l i).2.1 ∧ ∀ j, (sk_f i).2.2 j = (sk_l i).2.2.getD j 0 := by
  intro i
  induction i with
  | zero =>
    intro _
    refine ⟨rfl, rfl, fun j => ?_⟩
    show (0 : Int32) = (List.replicate 25 0).getD j 0
    rw [List.getD_eq_getElem?_getD, List.getElem?_replicate]
    split <;> rfl
  | succ i ih =>
    intro hi
    obtain ⟨h1, h2, h3⟩ := ih (by omega)
    have h4 := sk_in i (by omega)
    have h5 := sk_len i
    unfold sk_f sk_l
    generalize sk_f i = a at h1 h2 h3 ⊢
    generalize sk_l i = b at h1 h2 h3 h4 h5 ⊢
    obtain ⟨w, sh, f⟩ := a
    obtain ⟨w', sh', f'⟩ := b
    dsimp only at h1 h2 h3 h4 h5 ⊢
    subst h1
    subst h2
    split
    · exact ⟨rfl, rfl, h3⟩
    · refine ⟨rfl, rfl, fun j => ?_⟩
      show upd f w (f w ||| ((js_by.getD i 0 - 97 + 1) <<< (sh &&& 31))) j = (f'.set w (f'.getD w 0 ||| ((js_by.getD i 0 - 97 + 1) <<< (sh &&& 31)))).getD j 0
      generalize (js_by.getD i 0 - 97 + 1) <<< (sh &&& 31) = z
      rw [h3 w]
      rw [show (f'.set w (f'.getD w 0 ||| z)).getD j 0 = (f'.set w (f'.getD w 0 ||| z))[j]?.getD 0 from List.getD_eq_getElem?_getD, List.getElem?_set]
      unfold upd
      by_cases hj : j = w
      · subst hj
        rw [if_pos rfl, if_pos rfl, if_pos (by omega)]
        rfl
      · rw [if_neg hj, if_neg (Ne.symm hj), h3, List.getD_eq_getElem?_getD]
/-- what stands behind the two arrays -/
def sk_G (o : Nat) (S : ax_S) : List am_D := (S.1.set o (4, 6, [S.1.length + 4, S.1.length + 5, 0, 0, 0, 0, 0, 0])) ++ [(1, 700, []), (0, 25, [])]
theorem sk_run {o : Nat} {S : ax_S} (hgo : am_at S.1 o = some (4, 6, [3, 3, 0, 0, 0, 0, 0, 0])) : ax_blk (fun _ _ _ => none) sk_P 21 o 100 0 [] S = some (21, (sk_G o S, S.2)) := by
  have ho : o < S.1.length := am_lt_of hgo
  have h1 : ax_blk (fun _ _ _ => none) sk_P 21 o 100 0 [] S = (match am_at (S.1 ++ [(1, 700, [])]) o with
    | some (4, ci, fs) => if ci = 6 then (match am_at fs 0 with
      | some 3 => ax_blk (fun _ _ _ => none) sk_P 21 o 94 13 [] ((S.1 ++ [(1, 700, [])]).set o (4, ci, fs.set 0 (S.1.length + 4)), S.2)
      | _ => none) else none
    | _ => none) := rfl
  have h2 : am_at (S.1 ++ [(1, 700, [])]) o = some (4, 6, [3, 3, 0, 0, 0, 0, 0, 0]) := by
    rw [am_at_eq, List.getElem?_append_left ho, ← am_at_eq]
    exact hgo
  rw [h1, h2]
  have h3 : ∀ S2 : ax_S, ax_blk (fun _ _ _ => none) sk_P 21 o 94 13 [] S2 = (match am_at (S2.1 ++ [(0, 25, [])]) o with
    | some (4, ci, fs) => if ci = 6 then (match am_at fs 1 with
      | some 3 => some (21, ((S2.1 ++ [(0, 25, [])]).set o (4, ci, fs.set 1 (S2.1.length + 4)), S2.2))
      | _ => none) else none
    | _ => none) := fun _ => rfl
  show ax_blk (fun _ _ _ => none) sk_P 21 o 94 13 [] ((S.1 ++ [(1, 700, [])]).set o (4, 6, [S.1.length + 4, 3, 0, 0, 0, 0, 0, 0]), S.2) = _
  rw [h3]
  have h4 : am_at (((S.1 ++ [(1, 700, [])]).set o (4, 6, [S.1.length + 4, 3, 0, 0, 0, 0, 0, 0])) ++ [(0, 25, [])]) o = some (4, 6, [S.1.length + 4, 3, 0, 0, 0, 0, 0, 0]) := by
    rw [am_at_eq, List.getElem?_append_left (by simp; omega), List.getElem?_set_self (by simp; omega)]
  dsimp only
  rw [h4]
  show some (21, ((((S.1 ++ [(1, 700, [])]).set o (4, 6, [S.1.length + 4, 3, 0, 0, 0, 0, 0, 0])) ++ [(0, 25, [])]).set o (4, 6, [S.1.length + 4, ((S.1 ++ [(1, 700, [])]).set o (4, 6, [S.1.length + 4, 3, 0, 0, 0, 0, 0, 0])).length + 4, 0, 0, 0, 0, 0, 0]), S.2)) = _
  have h5 : ((S.1 ++ [((1, 700, []) : am_D)]).set o (4, 6, [S.1.length + 4, 3, 0, 0, 0, 0, 0, 0])).length + 4 = S.1.length + 5 := by simp
  rw [h5]
  congr 3
  unfold sk_G
  rw [List.set_append_left _ _ (by simp; omega), List.set_set, List.set_append_left _ _ ho]
  simp
def sk_m (S : ax_S) (f : Nat → Int32) : am_M := (fun k => if k = S.1.length + 1 then f else S.2.1 k, S.2.2)
section SKW
variable {p : Program} {l : Launch} {e : Env} {R : Room} {s : State} {mi : MethodId} {args : Array Value} {below : List Frame} {meth : Method} {c : Code} {base : Nat} {dC : Nat → ClassId} {dI : Nat → Nat → Nat} {dA : Nat → ClassId} {A : Nat → Prop} {Ts : List Cond} {Q : State → Prop} {d o cells slots : Nat} {S : ax_S}
theorem sk_loop (hx : p.tables.exec = Jvm.exec) (hb : c.code = prog_8_method_1_code) (hml : c.maxLocals = 5) (hown : s.vm.findClass (am_cn 6) = some mi.cls) (hts : ∀ w ∈ Ts, w.before args s = true) (hK : va_K (dC, dI) vwCl (am_ty dA) s) (hT : ∀ w ∈ am_TB, w ∈ Ts) {ka va : Nat} (hF : js_F base ka va s) (hAb : ∀ q, A q → base ≤ q) (hbs : base ≤ s.heap.size) (hRf : d + 4 ≤ R.frames) (hRl : 30 * (d + 4) ≤ R.locals) (hce : cells ≤ R.cells) (hsl : slots ≤ R.slots) (ho : o < S.1.length)
    (hend : ∀ (H : Heap) (locs : List Loc) (arr : Array Slot), va_P (dC, dI) vwCl (ax_pw (sk_G o S) dA base (sk_m S (sk_f 121).2.2)) H → va_S A s.heap H locs → W p l e R s mi args below meth c H locs cells slots Q (F0 mi 94 arr [])) :
    ∀ (k i : Nat), i + k = 121 → ∀ (H : Heap) (locs : List Loc) (arr : Array Slot), lv_has arr 5 [(3, .int (nI i)), (2, .int (sk_f i).2.1), (1, .int (nI (sk_f i).1)), (0, .ref (base + o))] → va_P (dC, dI) vwCl (ax_pw (sk_G o S) dA base (sk_m S (sk_f i).2.2)) H → va_D A (ax_pw (sk_G o S) dA base (sk_m S (sk_f i).2.2)) → va_S A s.heap H locs → W p l e R s mi args below meth c H locs cells slots Q (F0 mi 28 arr []) := by
  have hS0 : ∀ {H : Heap} {locs : List Loc}, va_S A s.heap H locs → va_S (js_A base) s.heap H locs := fun hS => ⟨hS.1, fun q h1 h2 => hS.2.1 q h1 (fun z => h2 (hAb q z)), fun q hq => hAb _ (hS.2.2 q hq)⟩
  obtain ⟨h1, h2, h3, h4, h5, h6, h7⟩ := id hF
  have hnx : ∀ {H : Heap} {locs : List Loc} {U : State}, va_S A s.heap H locs → U.heap = H → s.WarmedH U.vm → js_F base ka va U := by
    intro H locs U hS hU hW
    exact hF.next (fun q hq => by rw [hU]; exact hS.2.1 q (by omega) (fun z => by have := hAb q z; omega)) hW
  have hrcv : ∀ {H : Heap} {locs : List Loc}, va_S A s.heap H locs → ∃ cell : Cell, H[ka]? = some cell ∧ cell.vm.isStatics = false ∧ s.vm.findClass "java/lang/String" = some cell.cls := by
    intro H locs hS
    obtain ⟨cell, g1, g2, g3, -⟩ := h1.kept (hS0 hS).2.1
    exact ⟨cell, g1, g2, g3⟩
  have hw := fun i w h => js_at (w := w) hT hts i h
  have hcl := callB_of (R := R) (own := am_cn 6) (index := 21) (y := js_yl) (bytes := prog_22_method_54_code) (maxL := 1) (ret := some .int) (ws := js_ws js_yl prog_22_method_54_code 1 (some .int)) (ws' := am_TB) (rm := js_rm (d + 3)) (mc := 0) (ms := 0) 0 hts (js_good hT (js_w_ok _ (List.mem_of_getElem? (i := 24) rfl))) rfl rfl rfl (hw 3 _ rfl) (hw 25 _ rfl) (by decide +kernel) ⟨hRf, by show 8 + (1 + 11) + 30 * (d + 3) ≤ R.locals; omega⟩
  have hca := callB_of (R := R) (own := am_cn 6) (index := 27) (y := js_ya) (bytes := prog_22_method_56_code) (maxL := 2) (ret := some .char) (ws := js_ws js_ya prog_22_method_56_code 2 (some .char)) (ws' := am_TB) (rm := js_rm (d + 3)) (mc := 0) (ms := 0) 1 hts (js_good hT (js_w_ok _ (List.mem_of_getElem? (i := 28) rfl))) rfl rfl rfl (hw 3 _ rfl) (hw 29 _ rfl) (by decide +kernel) ⟨hRf, by show 8 + (2 + 11) + 30 * (d + 3) ≤ R.locals; omega⟩
  intro k
  induction k with
  | zero =>
    intro i hi H locs arr hl hP hD hS
    have : i = 121 := by omega
    subst this
    refine lv_iload_n hx hb sk_d_28 rfl (lv_at hl 0 rfl) ?_
    refine va_ldcS hx hb hown h5 sk_d_29 ?_
    refine js_after (va_runV (As := []) (rest := [.int (nI 121)]) (b := ka) ⟨hx, hb, hml, hown, hts⟩ (js_len l (d + 2) base ka va) ⟨hcl, hw 26 _ rfl, hw 27 _ rfl⟩ ⟨js_blind, hrcv hS, fun U hU hW => ⟨rfl, hnx hS hU hW⟩⟩ rfl rfl hl.1 rfl (lv_room (Nat.le_of_ble_eq_true rfl)) sk_d_31 ⟨hce, hsl⟩) ?_
    refine lv_icmp_ge hx hb sk_d_34 (tgt := 94) (by decide) (fun _ => hend H locs arr hP hS) (fun h => absurd (show (121 : Int32) ≤ nI 121 by decide) h)
  | succ k ih =>
    intro i hi H locs arr hl hP hD hS
    have hi1 : i < 121 := by omega
    have hwi : (sk_f i).1 < 25 := by rw [(sk_eq i (by omega)).1]; exact sk_in i hi1
    refine lv_iload_n hx hb sk_d_28 rfl (lv_at hl 0 rfl) ?_
    refine va_ldcS hx hb hown h5 sk_d_29 ?_
    refine js_after (va_runV (As := []) (rest := [.int (nI i)]) (b := ka) ⟨hx, hb, hml, hown, hts⟩ (js_len l (d + 2) base ka va) ⟨hcl, hw 26 _ rfl, hw 27 _ rfl⟩ ⟨js_blind, hrcv hS, fun U hU hW => ⟨rfl, hnx hS hU hW⟩⟩ rfl rfl hl.1 rfl (lv_room (Nat.le_of_ble_eq_true rfl)) sk_d_31 ⟨hce, hsl⟩) ?_
    refine lv_icmp_ge hx hb sk_d_34 (tgt := 94) (by decide) (fun h => absurd h (nI_ge (b := 121) hi1 (by decide))) (fun _ => ?_)
    refine lv_iload_n hx hb sk_d_37 rfl (lv_at hl 2 rfl) ?_
    refine lv_bipush (v := nI 25) hx hb sk_d_38 (by decide) ?_
    refine lv_icmp_ge hx hb sk_d_40 (tgt := 94) (by decide) (fun h => absurd h (nI_ge hwi (by decide))) (fun _ => ?_)
    refine va_ldcS hx hb hown h5 sk_d_43 ?_
    refine lv_iload_n hx hb sk_d_45 rfl (lv_at hl 0 rfl) ?_
    refine js_after (va_runV (As := [.int (nI i)]) (rest := []) (b := ka) ⟨hx, hb, hml, hown, hts⟩ (js_charAt l d base ka va i hi1) ⟨hca, hw 30 _ rfl, hw 31 _ rfl⟩ ⟨js_blind, hrcv hS, fun U hU hW => ⟨rfl, hnx hS hU hW⟩⟩ rfl rfl hl.1 rfl (lv_room (Nat.le_of_ble_eq_true rfl)) sk_d_46 ⟨hce, hsl⟩) ?_
    refine lv_istore (lv' := [(4, .int (js_by.getD i 0)), (3, .int (nI i)), (2, .int (sk_f i).2.1), (1, .int (nI (sk_f i).1)), (0, .ref (base + o))]) hx hb sk_d_49 hl (by decide) rfl (fun arr hl => ?_)
    refine lv_iload hx hb sk_d_51 (lv_at hl 0 rfl) ?_
    refine lv_bipush (v := 32) hx hb sk_d_53 (by decide) ?_
    have hsf : sk_f (i + 1) = if js_by.getD i 0 = 32 then ((sk_f i).1 + 1, 25, (sk_f i).2.2) else ((sk_f i).1, (sk_f i).2.1 + (-5), upd (sk_f i).2.2 (sk_f i).1 ((sk_f i).2.2 (sk_f i).1 ||| ((js_by.getD i 0 - 97 + 1) <<< ((sk_f i).2.1 &&& 31)))) := rfl
    refine lv_icmp_ne hx hb sk_d_55 (tgt := 67) (by decide) (fun hne => ?_) (fun heq => ?_)
    · rw [if_neg hne] at hsf
      have hgl : am_at (sk_G o S) o = some (4, 6, [S.1.length + 4, S.1.length + 5, 0, 0, 0, 0, 0, 0]) := by
        unfold sk_G
        rw [am_at_eq, List.getElem?_append_left (by simp; exact ho), List.getElem?_set_self ho]
      have hga : am_at (sk_G o S) (S.1.length + 1) = some (0, 25, []) := by
        unfold sk_G
        rw [am_at_eq, List.getElem?_append_right (by simp)]
        simp
      obtain ⟨C, T, N, hc1, hc2, hN, -, -, hin, -⟩ := ax_cls (ci := 6) (by decide)
      have hlk := hts _ (hT _ (ax_KF_ok (6, 15, 6, 1) (by decide)))
      rw [show am_tk (6, 15, 6, 1).2.2.1 (6, 15, 6, 1).2.2.2 = T 1 from am_tk_eq hc1] at hlk
      refine lv_aload_n hx hb sk_d_67 rfl (lv_at hl 4 rfl) ?_
      refine va_get (D := (dC, dI)) hx hb hts (fun w h => hT w (hin w h)) hown hK hP o (ax_pw_get hgl) hc1 1 (by rw [hN]; decide) hlk (fun _ h9 => h9) (v := .ref (base + (S.1.length + 1))) rfl sk_d_68 ?_
      refine lv_iload_n hx hb sk_d_71 rfl (lv_at hl 3 rfl) ?_
      refine lv_dup2_11 hx hb sk_d_72 rfl rfl ?_
      have hce1 : ∀ f, ax_ce dA base (sk_m S f) (S.1.length + 1) (0, 25, []) = .inl (dA 0, 25, .inl f) := by
        intro f
        show (Sum.inl (dA 0, 25, Sum.inl (if S.1.length + 1 = S.1.length + 1 then f else _)) : va_E) = _
        rw [if_pos rfl]
      have hat : ∀ f, (ax_pw (sk_G o S) dA base (sk_m S f))[S.1.length + 1]? = some (base + (S.1.length + 1), .inl (dA 0, 25, .inl f)) := by
        intro f
        rw [ax_pw_get hga, hce1]
      refine va_iald hx hb hK hP (S.1.length + 1) 0 (hat _) rfl (vp_in_nI hwi (by decide)) sk_d_73 ?_
      refine lv_iload hx hb sk_d_74 (lv_at hl 0 rfl) ?_
      refine lv_bipush (v := 97) hx hb sk_d_76 (by decide) ?_
      refine lv_isub hx hb sk_d_78 ?_
      refine lv_iconst (v := 1) hx hb sk_d_79 (by decide) ?_
      refine lv_iadd hx hb sk_d_80 ?_
      refine lv_iload_n hx hb sk_d_81 rfl (lv_at hl 2 rfl) ?_
      refine lv_ishl hx hb sk_d_82 ?_
      refine lv_ior hx hb sk_d_83 ?_
      refine va_iast hx hb hK hP hD hS (S.1.length + 1) 0 (hat _) rfl (vp_in_nI hwi (by decide)) sk_d_84 (fun H1 locs1 hP1 hD1 hS1 => ?_)
      rw [nI_clamp (show (sk_f i).1 < 2 ^ 31 by omega)] at hP1 hD1
      have hset : ∀ f g, (ax_pw (sk_G o S) dA base (sk_m S f)).set (S.1.length + 1) (base + (S.1.length + 1), .inl (dA 0, 25, .inl g)) = ax_pw (sk_G o S) dA base (sk_m S g) := by
        intro f g
        have h9 := ax_pw_set (dA := dA) (base := base) (m := sk_m S f) (m' := sk_m S g) (g' := (0, 25, [])) (x := .inl (dA 0, 25, .inl g)) hga (fun j hj => ⟨by simp [sk_m, hj], rfl⟩) (hce1 g).symm
        rw [ax_set_id hga] at h9
        exact h9
      rw [hset] at hP1 hD1
      refine lv_iinc (k := 2) (v := (sk_f i).2.1 + (-5)) (lv' := [(2, .int ((sk_f i).2.1 + (-5))), (4, .int (js_by.getD i 0)), (3, .int (nI i)), (1, .int (nI (sk_f i).1)), (0, .ref (base + o))]) hx hb sk_d_85 hl rfl rfl (by decide) rfl (fun arr hl => ?_)
      refine lv_iinc (k := 2) (v := nI (i + 1)) (lv' := [(3, .int (nI (i + 1))), (2, .int ((sk_f i).2.1 + (-5))), (4, .int (js_by.getD i 0)), (1, .int (nI (sk_f i).1)), (0, .ref (base + o))]) hx hb sk_d_88 hl rfl (nI_1 i) (by decide) rfl (fun arr hl => ?_)
      refine lv_goto hx hb sk_d_91 (tgt := 28) (by decide) ?_
      refine ih (i + 1) (by omega) H1 locs1 arr ?_ ?_ ?_ hS1
      · rw [hsf]; exact lv_sub hl [0, 1, 3, 4] rfl
      · rw [hsf]; exact hP1
      · rw [hsf]; exact hD1
    · rw [if_pos heq] at hsf
      refine lv_iinc (k := 3) (v := nI ((sk_f i).1 + 1)) (lv' := [(1, .int (nI ((sk_f i).1 + 1))), (4, .int (js_by.getD i 0)), (3, .int (nI i)), (2, .int (sk_f i).2.1), (0, .ref (base + o))]) hx hb sk_d_58 hl rfl (nI_1 _) (by decide) rfl (fun arr hl => ?_)
      refine lv_bipush (v := 25) hx hb sk_d_61 (by decide) ?_
      refine lv_istore_n (lv' := [(2, .int 25), (1, .int (nI ((sk_f i).1 + 1))), (4, .int (js_by.getD i 0)), (3, .int (nI i)), (0, .ref (base + o))]) hx hb sk_d_63 rfl hl (by decide) rfl (fun arr hl => ?_)
      refine lv_goto hx hb sk_d_64 (tgt := 88) (by decide) ?_
      refine lv_iinc (k := 3) (v := nI (i + 1)) (lv' := [(3, .int (nI (i + 1))), (2, .int 25), (1, .int (nI ((sk_f i).1 + 1))), (4, .int (js_by.getD i 0)), (0, .ref (base + o))]) hx hb sk_d_88 hl rfl (nI_1 i) (by decide) rfl (fun arr hl => ?_)
      refine lv_goto hx hb sk_d_91 (tgt := 28) (by decide) ?_
      refine ih (i + 1) (by omega) H locs arr ?_ ?_ ?_ hS
      · rw [hsf]; exact lv_sub hl [0, 1, 2, 4] rfl
      · rw [hsf]; exact hP
      · rw [hsf]; exact hD
end SKW
/-- Scanner() -/
theorem sk_met (l : Launch) : ax_Sc l js_St := by
  intro d o S S' hd h hz base dC dI dA
  have hre := ax_sc_re h hz
  unfold ax_sc at h
  split at h
  · rename_i hgo
    cases h
    have ho : o < S.1.length := am_lt_of hgo
    have hl2 : (sk_G o S).length = S.1.length + 2 := by simp [sk_G]
    have hs2 : ax_sz (sk_G o S) = ax_sz S.1 + 725 := by
      have hsz : ax_sz (S.1.set o (4, 6, [S.1.length + 4, S.1.length + 5, 0, 0, 0, 0, 0, 0])) = ax_sz S.1 := ax_sz_set hgo rfl
      unfold sk_G
      unfold ax_sz at hsz ⊢
      rw [List.map_append, List.sum_append, hsz]
      rfl
    show Met l (ax_yn 6) (ax_ws 6) (ax_rm d ((sk_G o S).length - S.1.length) (ax_sz (sk_G o S) - ax_sz S.1)) (ax_Pc js_St base dC dI dA o S) (ax_Qc base dC dI dA (va_A (ax_pw S.1 dA base S.2) (base + S.1.length)) (sk_G o S, sk_m S (fun j => ax_lg.getD j 0))) ((sk_G o S).length - S.1.length) (ax_sz (sk_G o S) - ax_sz S.1) (va_A (ax_pw S.1 dA base S.2) (base + S.1.length))
    refine Met.ofW (cc := prog_8_method_1_code) (maxL := 5) (ret := none) (by decide +kernel) rfl ?_
    intro p e s mi args below meth c s₁ B hml hv
    obtain ⟨rfl, hsz, hP, hK, hD0, hNk, hSt0⟩ := hv
    obtain ⟨ka, va, hF⟩ := id hSt0
    have hts := atoms_spec (ws := ax_ws 6) B.pre
    have hown : s.vm.findClass (am_cn 6) = some mi.cls := findClass_of_methodNamed B.named
    have hin2 : meth.name = "<init>" := (name_of_methodNamed B.named B.method).1
    have hT : ∀ w ∈ am_TB, w ∈ ax_ws 6 := fun w hw => List.mem_cons_of_mem _ hw
    have hD := hD0.self (sz := base + S.1.length)
    generalize hAe : va_A (ax_pw S.1 dA base S.2) (base + S.1.length) = A at hD ⊢
    have hA1 : ∀ q, s.heap.size ≤ q → A q := fun q h => by rw [← hAe]; exact Or.inr (by omega)
    have hA2 : ∀ q, A q → base ≤ q := by
      intro q h
      rw [← hAe] at h
      rcases h with ⟨k, e, h⟩ | h
      · simp only [ax_pw, List.getElem?_mapIdx, Option.map_eq_some_iff] at h
        obtain ⟨g, -, h⟩ := h
        cases h
        omega
      · omega
    have hH : ax_Hy p l (headSpec (ax_ws 6) (ax_rm d ((sk_G o S).length - S.1.length) (ax_sz (sk_G o S) - ax_sz S.1))).room s mi ([Value.ref (base + o)]).toArray meth c base dC dI dA A 6 prog_8_method_1_code (ax_ws 6) js_St (fun _ _ _ => none) d 5 S.1.length := by
      refine ⟨⟨B.exec, B.bytes, hml, hown, hts, hK⟩, hsz, hT, hNk, js_StOk, hSt0, hA1, hA2, hin2, fun _ _ _ _ => rfl, fun d0 _ => ?_, ?_, Nat.le_refl _, ?_, Nat.le_refl _⟩
      · intro y o S S' h
        cases h
      · show 1 ≤ d
        omega
      · show 30 ≤ 30 * d
        omega
    have hgo2 := (ax_blk_ok (p := p) (l := l) (e := e) (s := s) (mi := mi) (below := below) (meth := meth) (c := c) (Q := MQ below (ax_Qc base dC dI dA A (sk_G o S, sk_m S (fun j => ax_lg.getD j 0))) ([Value.ref (base + o)]).toArray s ((sk_G o S).length - S.1.length) (ax_sz (sk_G o S) - ax_sz S.1) A) (fin := (21, (sk_G o S, S.2))) (Cont := True) (s0 := ax_sz S.1) (o0 := o) hH (fun q hq => ax_ib_ok (List.all_eq_true.mp sk_P_ok q hq)) (Nat.le_refl _) (Nat.le_refl _) (fun _ => ?_) _ _ _ _ (sk_run hgo) hz ⟨Nat.le_refl _, Nat.le_refl _⟩).2 trivial
    · have h1 := hgo2 s.heap [] _ (am_LH.entry (vs := [.ref o]) (n := 5) (Nat.le_of_ble_eq_true rfl)) hP hD va_S.rf
      rw [Nat.sub_self, Nat.sub_self] at h1
      rw [lg_entry_eq]
      exact h1
    · intro H locs arr hL hP hD hS
      have hb := B.bytes
      have hx := B.exec
      have hl : lv_has arr 5 [(0, .ref (base + o))] := ⟨hL.2.1, hL.2.2.1, fun q hq => by
        rw [List.mem_singleton] at hq
        subst hq
        exact hL.2.2.2 0 (.ref o) rfl⟩
      show W p l e _ s mi _ below meth c H locs ((sk_G o S).length - S.1.length) (ax_sz (sk_G o S) - ax_sz S.1) _ (F0 mi 21 arr [])
      refine lv_iconst (v := 0) hx hb sk_d_21 (by decide) ?_
      refine lv_istore_n (lv' := [(1, .int 0), (0, .ref (base + o))]) hx hb sk_d_22 rfl hl (by decide) rfl (fun arr hl => ?_)
      refine lv_bipush (v := 25) hx hb sk_d_23 (by decide) ?_
      refine lv_istore_n (lv' := [(2, .int 25), (1, .int 0), (0, .ref (base + o))]) hx hb sk_d_25 rfl hl (by decide) rfl (fun arr hl => ?_)
      refine lv_iconst (v := 0) hx hb sk_d_26 (by decide) ?_
      refine lv_istore_n (lv' := [(3, .int 0), (2, .int 25), (1, .int 0), (0, .ref (base + o))]) hx hb sk_d_27 rfl hl (by decide) rfl (fun arr hl => ?_)
      have hm0 : sk_m S (sk_f 0).2.2 = S.2 := by
        unfold sk_m
        refine Prod.ext (funext fun k => ?_) rfl
        show (if k = S.1.length + 1 then _ else S.2.1 k) = S.2.1 k
        split
        · rename_i hk
          rw [hk, (hz.1 (S.1.length + 1) (by omega)).1]
          rfl
        · rfl
      have hm1 : sk_m S (sk_f 121).2.2 = sk_m S (fun j => ax_lg.getD j 0) := by
        congr 1
        funext j
        rw [(sk_eq 121 (Nat.le_refl _)).2.2 j, sk_end.2]
      obtain ⟨d4, rfl⟩ : ∃ d4, d = d4 + 4 := ⟨d - 4, by omega⟩
      refine sk_loop (d := d4) (o := o) (S := S) hx hb hml hown hts hK hT hF hA2 (by omega) (Nat.le_refl _) (Nat.le_refl _) (Nat.le_refl _) (Nat.le_refl _) ho (fun H locs arr hP hS => ?_) 121 0 rfl H locs arr hl (by rw [hm0]; exact hP) (by rw [hm0]; exact hD) hS
      rw [hm1] at hP
      exact W.vret hx hb B.returns (fun t ht _ => ⟨⟨rfl, by rw [ht]; exact hP⟩, hS.F ht⟩) hS.2.2 sk_d_94 B.notSynchronized
  · cases h
theorem ax_all (l : Launch) (d : Nat) : ax_Ev l js_St (ax_call d) d := ax_sound js_StOk (sk_met l) d
