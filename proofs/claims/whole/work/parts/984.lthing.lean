/-! the law's own thing: which was thrown, or the value in out[0] -/
def lc_w (dA : Nat → ClassId) (base : Nat) (m : am_M) (ao : Nat) (fo : Nat → Int64) : va_W := am_pw am_G dA base m ++ [(ao, .inl (dA 3, 1, .inr (.inl fo)))]
theorem lc_G : am_G.length = 156 := by decide +kernel
section LCW
variable {dA : Nat → ClassId} {base ao sz : Nat} {m : am_M} {fo fo' : Nat → Int64} {D : va_G} {H : Heap}
theorem lc_len : (am_pw am_G dA base m).length = 156 := by
  unfold am_pw
  rw [List.length_mapIdx, lc_G]
theorem lc_w_at : (lc_w dA base m ao fo)[156]? = some (ao, .inl (dA 3, 1, .inr (.inl fo))) := by
  unfold lc_w
  rw [List.getElem?_append_right (by rw [lc_len]; omega), lc_len]
  rfl
theorem lc_w_l (h : va_P D vwCl (lc_w dA base m ao fo) H) : va_P D vwCl (am_pw am_G dA base m) H := fun k q hk => h k q (by
  unfold lc_w
  rw [List.getElem?_append_left (List.getElem?_eq_some_iff.mp hk).1]
  exact hk)
theorem lc_w_r (h : va_P D vwCl (lc_w dA base m ao fo) H) : H[ao]? = some (vp_cell (dA 3) (1, .inr (.inl fo))) := h 156 _ lc_w_at
theorem lc_w_mk (h1 : va_P D vwCl (am_pw am_G dA base m) H) (h2 : H[ao]? = some (vp_cell (dA 3) (1, .inr (.inl fo)))) : va_P D vwCl (lc_w dA base m ao fo) H := by
  refine h1.app (fun k q hk => ?_)
  have hz : k < 1 := (List.getElem?_eq_some_iff.mp hk).1
  rw [show k = 0 by omega] at hk
  cases hk
  exact h2
theorem lc_w_set : (lc_w dA base m ao fo).set 156 (ao, .inl (dA 3, 1, .inr (.inl fo'))) = lc_w dA base m ao fo' := by
  unfold lc_w
  rw [List.set_append_right _ _ (by rw [lc_len]; omega), lc_len]
  rfl
theorem pw_at {k : Nat} {q : Nat × va_E} (h : (am_pw am_G dA base m)[k]? = some q) : q.1 = base + k ∧ k < 156 := by
  have hk : k < (am_pw am_G dA base m).length := (List.getElem?_eq_some_iff.mp h).1
  rw [lc_len] at hk
  simp only [am_pw, List.getElem?_mapIdx, Option.map_eq_some_iff] at h
  obtain ⟨g, -, h⟩ := h
  cases h
  exact ⟨rfl, hk⟩
theorem pw_D : va_D (js_A base) (am_pw am_G dA base m) := ⟨fun i j p q hp hq e => by
  have h1 := (pw_at hp).1
  have h2 := (pw_at hq).1
  omega, fun k q hk => by
  have h1 := (pw_at hk).1
  show base ≤ q.1
  omega⟩
theorem lc_w_D (hao : base + 156 ≤ ao) : va_D (js_A base) (lc_w dA base m ao fo) := by
  refine pw_D.app ⟨fun i j p q hp hq e => ?_, fun k q hk => ?_⟩ (fun i j p q hp hq e => ?_)
  · have h1 : i < 1 := (List.getElem?_eq_some_iff.mp hp).1
    have h2 : j < 1 := (List.getElem?_eq_some_iff.mp hq).1
    omega
  · have h1 : k < 1 := (List.getElem?_eq_some_iff.mp hk).1
    rw [show k = 0 by omega] at hk
    cases hk
    show base ≤ ao
    omega
  · have h1 := pw_at hp
    have h2 : j < 1 := (List.getElem?_eq_some_iff.mp hq).1
    rw [show j = 0 by omega] at hq
    cases hq
    have h3 : p.1 = ao := e
    omega
theorem pw_not (hao : base + 156 ≤ ao) (hs : ao < sz) : ¬ va_A (am_pw am_G dA base m) sz ao := by
  rintro (⟨k, e, h⟩ | h)
  · have h1 := pw_at h
    have h2 : ao = base + k := h1.1
    omega
  · omega
end LCW
theorem th_blind {base sa sb sz : Nat} {dC : Nat → ClassId} {dI : Nat → Nat → Nat} {dA : Nat → ClassId} {x y : Int32} {m : am_M} : FrameBlind (th_Pc base sa sb dC dI dA sz x y m) := by
  intro a U g mk h
  obtain ⟨e1, e2, hP, hK, hD, hN, hF⟩ := h
  exact ⟨e1, e2, hP, va_K.moved (u := U) (U := U.calling g mk a) (Vm.Alike.refl U.vm) hK, hD, fun q hq => va_Nw.same rfl rfl (hN q hq), hF.calling⟩
def lt_ws : List Cond := .codeWith th_z method_3_code 5 (some .int) th_hh :: am_TB
def lt_Pc (base sa sb : Nat) (dC : Nat → ClassId) (dI : Nat → Nat → Nat) (dA : Nat → ClassId) (sz ao : Nat) (fo : Nat → Int64) (x y : Int32) (m : am_M) : Array Value → State → Prop := va_Pc [.ref (base + 0), .int x, .int y, .ref ao] (fun U => U.heap.size = sz ∧ va_P (dC, dI) vwCl (lc_w dA base m ao fo) U.heap ∧ va_K (dC, dI) vwCl (am_ty dA) U ∧ base + 156 ≤ ao ∧ am_Nk U ∧ th_F base sa sb U)
def lt_Qc (base : Nat) (dC : Nat → ClassId) (dI : Nat → Nat → Nat) (dA : Nat → ClassId) (ao : Nat) (m : am_M) (q : Nat) (v : Int32) : Array Value → State → Outcome → State → Prop := va_Qi (fun (r : Int32) (f : Nat → Int64) => r = nI q ∧ (q = 0 → f 0 = v.toInt64)) (fun f t => va_P (dC, dI) vwCl (lc_w dA base m ao f) t.heap) (js_A base)
def lt_XC (base : Nat) : String → State → State → Prop := vx_X (fun (_ : Unit) => False) (fun _ _ _ => True) (js_A base)
theorem lt_blind {base sa sb sz ao : Nat} {dC : Nat → ClassId} {dI : Nat → Nat → Nat} {dA : Nat → ClassId} {fo : Nat → Int64} {x y : Int32} {m : am_M} : FrameBlind (lt_Pc base sa sb dC dI dA sz ao fo x y m) := by
  intro a U g mk h
  obtain ⟨e1, e2, hP, hK, hD, hN, hF⟩ := h
  exact ⟨e1, e2, hP, va_K.moved (u := U) (U := U.calling g mk a) (Vm.Alike.refl U.vm) hK, hD, fun q hq => va_Nw.same rfl rfl (hN q hq), hF.calling⟩
theorem lt_d_0 : decode method_3_code 0 = .ok (.aload_n 3, 1) := by decide +kernel
theorem lt_d_1 : decode method_3_code 1 = .ok (.iconst 0, 1) := by decide +kernel
theorem lt_d_2 : decode method_3_code 2 = .ok (.aload_n 0, 1) := by decide +kernel
theorem lt_d_3 : decode method_3_code 3 = .ok (.iload_n 1, 1) := by decide +kernel
theorem lt_d_4 : decode method_3_code 4 = .ok (.iload_n 2, 1) := by decide +kernel
theorem lt_d_5 : decode method_3_code 5 = .ok (.invokevirtual 7, 3) := by decide +kernel
theorem lt_d_8 : decode method_3_code 8 = .ok (.i2l, 1) := by decide +kernel
theorem lt_d_9 : decode method_3_code 9 = .ok (.lastore, 1) := by decide +kernel
theorem lt_d_10 : decode method_3_code 10 = .ok (.goto 11, 3) := by decide +kernel
theorem lt_d_13 : decode method_3_code 13 = .ok (.astore 4, 2) := by decide +kernel
theorem lt_d_15 : decode method_3_code 15 = .ok (.iconst 1, 1) := by decide +kernel
theorem lt_d_16 : decode method_3_code 16 = .ok (.ireturn, 1) := by decide +kernel
theorem lt_d_17 : decode method_3_code 17 = .ok (.astore 4, 2) := by decide +kernel
theorem lt_d_19 : decode method_3_code 19 = .ok (.iconst 2, 1) := by decide +kernel
theorem lt_d_20 : decode method_3_code 20 = .ok (.ireturn, 1) := by decide +kernel
theorem lt_d_21 : decode method_3_code 21 = .ok (.iconst 0, 1) := by decide +kernel
theorem lt_d_22 : decode method_3_code 22 = .ok (.ireturn, 1) := by decide +kernel
set_option maxRecDepth 100000 in
set_option maxHeartbeats 4000000 in
theorem lt_met (l : Launch) (hst : l.stackTraces = false) {base sa sb sz ao : Nat} {dC : Nat → ClassId} {dI : Nat → Nat → Nat} {dA : Nat → ClassId} {fo : Nat → Int64} {x y v : Int32} {m : am_M} {q : Nat} (hok : th_ok m x y q v) :
    vx_Met l th_z lt_ws (th_rm 9) (lt_Pc base sa sb dC dI dA sz ao fo x y m) (lt_Qc base dC dI dA ao m q v) (lt_XC base) 1 6 (js_A base) := by
  refine vx_ofWH (cc := method_3_code) (maxL := 5) (ret := some .int) (hh := th_hh) (by decide +kernel) rfl ?_
  intro p e s mi args below meth c s₁ B hml hv
  obtain ⟨rfl, hsz, hP, hK, hao, hNk, hF⟩ := hv
  have hts := atoms_spec (ws := lt_ws) B.pre
  have hT : ∀ w ∈ am_TB, w ∈ lt_ws := fun _ hw => List.mem_cons_of_mem _ hw
  have hown : s.vm.findClass "ShadowPoolLaw" = some mi.cls := findClass_of_methodNamed B.named
  have hx := B.exec
  have hb := B.bytes
  have htab : c.exceptionTable.toList = tableOf th_hh := vx_table (x := th_z) B (hts _ List.mem_cons_self)
  have hPl := lc_w_l hP
  have hbs : base ≤ s.heap.size := by
    have := pw_0 hPl (k := 0) (by omega)
    omega
  have haoL : ao < s.heap.size := (Array.getElem?_eq_some_iff.mp (lc_w_r hP)).1
  have hl := lv_entry ([.ref (base + 0), .int x, .int y, .ref ao]) (n := 5) (Nat.le_of_ble_eq_true rfl)
  rw [lg_entry_eq]
  generalize (lg_sl ([.ref (base + 0), .int x, .int y, .ref ao]) ++ List.replicate (5 - (lg_sl ([.ref (base + 0), .int x, .int y, .ref ao])).length) Slot.unset).toArray = ls at hl ⊢
  have hl : lv_has ls 5 [(0, .ref (base + 0)), (1, .int x), (2, .int y), (3, .ref ao)] := hl
  refine lv_aload_n hx hb lt_d_0 rfl (lv_at hl 3 rfl) ?_
  refine lv_iconst (v := 0) hx hb lt_d_1 (by decide) ?_
  refine lv_aload_n hx hb lt_d_2 rfl (lv_at hl 0 rfl) ?_
  refine lv_iload_n hx hb lt_d_3 rfl (lv_at hl 1 rfl) ?_
  refine lv_iload_n hx hb lt_d_4 rfl (lv_at hl 2 rfl) ?_
  have hcb := callB_of (R := (headSpec lt_ws (th_rm 9)).room) (own := "ShadowPoolLaw") (index := 7) (y := th_y) (bytes := prog_1_method_7_code) (maxL := 3) (ret := some .int) (ws := js_ws th_y prog_1_method_7_code 3 (some .int)) (ws' := am_TB) (rm := th_rm 8) (mc := 1) (ms := 6) 2 hts (js_good hT (th_w_ok _ (List.mem_of_getElem? (i := 0) rfl))) rfl rfl rfl (th_wat hT hts 11 rfl) (th_wat hT hts 8 rfl) (by decide +kernel) ⟨by show 8 + 1 ≤ 9; omega, by show 8 + (3 + 11) + 30 * 8 ≤ 30 * 9; omega⟩
  have hA1 : ∀ z, va_A (am_pw am_G dA base m) s.heap.size z → js_A base z := pw_A hbs
  refine vx_calli (vx_runV (As := [.int x, .int y]) (rest := [.int 0, .ref ao]) (b := base + 0) ⟨hx, hb, hml, hown, hts⟩ (th_met l hst (sz := s.heap.size) hok) ⟨hcb, th_wat hT hts 9 rfl, th_wat hT hts 10 rfl⟩ ⟨th_blind, va_recv hK hPl (ci := 11) (q0 := 0) rfl (am_pw_get (g := (4, 11, [4,6,0,0,0,28,29,30,49,74,81,1,88,95,100,105])) rfl), fun U hU hW => ⟨rfl, by rw [hU], by rw [hU]; exact hPl, va_K.moved hW.alike hK, pw_D.weaken (fun _ _ _ _ => trivial), fun z hz => va_Nw.warmM hW (hNk z hz), hF.next (fun z hz => by rw [hU]) hW⟩⟩ rfl rfl hl.1 rfl (lv_room (Nat.le_of_ble_eq_true rfl)) lt_d_5 ⟨by show 0 + 1 ≤ 1; omega, by show 0 + 6 ≤ 6; omega⟩) va_S.rf (fun z _ h => hA1 z h) hA1 (fun z _ h => hA1 z h) (fun E ce q9 u t H1 locs1 ht hvm _ hB hz1 hk1 hS1 hce hcv hcl => ?_) (fun r u t H1 locs1 ht hvm hw hB hz1 hk1 hS1 => ?_)
  · obtain ⟨hE, hPt⟩ := hB
    rw [ht] at hPt
    have hP1 : va_P (dC, dI) vwCl (lc_w dA base m ao fo) H1 := lc_w_mk hPt ((hk1 ao haoL (pw_not hao haoL)).trans (lc_w_r hP))
    rcases hE with ⟨hq, rfl⟩ | ⟨hq, rfl⟩
    · refine vx_catch (own := "ShadowPoolLaw") (name := th_ix) hown [] ⟨0, 10, 13, 13⟩ [⟨0, 10, 17, 15⟩] htab (fun z hz => nomatch hz) (by decide) (by decide) (th_wat hT hts 6 rfl) (va_Nw.use rfl (hF.1 _ (by decide))) hce hcv hcl ?_
      refine lv_astore (lv' := [(4, .ref q9), (0, .ref (base + 0)), (1, .int x), (2, .int y), (3, .ref ao)]) hx hb lt_d_13 hl (by decide) rfl (fun ls hl => ?_)
      refine lv_iconst (v := 1) hx hb lt_d_15 (by decide) ?_
      exact vx_ret (W.iret hx hb B.returns (fun t9 ht9 _ => ⟨⟨_, fo, rfl, ⟨by rw [hq]; rfl, fun h0 => by omega⟩, by show va_P _ _ _ t9.heap; rw [ht9]; exact hP1⟩, hS1.F ht9⟩) hS1.2.2 lt_d_16 B.notSynchronized)
    · refine vx_catch (own := "ShadowPoolLaw") (name := th_ns) hown [⟨0, 10, 13, 13⟩] ⟨0, 10, 17, 15⟩ [] htab (fun z hz => by
        rw [List.mem_singleton] at hz
        subst hz
        exact Or.inr ⟨by decide, th_ix, th_wat hT hts 6 rfl, hF.2.1⟩) (by decide) (by decide) (th_wat hT hts 7 rfl) (va_Nw.use rfl (hF.1 _ (by decide))) hce hcv hcl ?_
      refine lv_astore (lv' := [(4, .ref q9), (0, .ref (base + 0)), (1, .int x), (2, .int y), (3, .ref ao)]) hx hb lt_d_17 hl (by decide) rfl (fun ls hl => ?_)
      refine lv_iconst (v := 2) hx hb lt_d_19 (by decide) ?_
      exact vx_ret (W.iret hx hb B.returns (fun t9 ht9 _ => ⟨⟨_, fo, rfl, ⟨by rw [hq]; rfl, fun h0 => by omega⟩, by show va_P _ _ _ t9.heap; rw [ht9]; exact hP1⟩, hS1.F ht9⟩) hS1.2.2 lt_d_20 B.notSynchronized)
  · have hPt : va_P (dC, dI) vwCl (am_pw am_G dA base m) H1 := by rw [← ht]; exact hB
    have hP1 : va_P (dC, dI) vwCl (lc_w dA base m ao fo) H1 := lc_w_mk hPt ((hk1 ao haoL (pw_not hao haoL)).trans (lc_w_r hP))
    refine lv_i2l (v := r.toInt64) hx hb lt_d_8 rfl ?_
    refine va_last hx hb hK hP1 (lc_w_D hao) hS1 156 3 lc_w_at rfl (by unfold vp_in; decide) lt_d_9 (fun H2 locs2 hP2 hD2 hS2 => ?_)
    rw [lc_w_set] at hP2
    refine lv_goto (tgt := 21) hx hb lt_d_10 (by decide) ?_
    refine lv_iconst (v := 0) hx hb lt_d_21 (by decide) ?_
    exact vx_ret (W.iret hx hb B.returns (fun t9 ht9 _ => ⟨⟨_, _, rfl, ⟨by rw [hw.1]; rfl, fun _ => show vp_updL fo 0 r.toInt64 0 = v.toInt64 by rw [upl_at, hw.2]⟩, by show va_P _ _ _ t9.heap; rw [ht9]; exact hP2⟩, hS2.F ht9⟩) hS2.2.2 lt_d_22 B.notSynchronized)
