/-! soundness: calls, answers, whole methods -/
def am_rm (d : Nat) : Room := { frames := d, cells := 0, slots := 0, locals := 30 * d }
def am_ws (y : Nat) : List Cond := am_yw y :: am_TB
def am_Nk (U : State) : Prop := ∀ q ∈ am_KN, va_Nw (.methodLinkNest (am_cn q.1) q.2.1 (am_yn q.2.2) "ShadowPool") U
def am_Pc (G : List am_D) (base : Nat) (dC : Nat → ClassId) (dI : Nat → Nat → Nat) (dA : Nat → ClassId) (sz : Nat) (vs : List Value) (m : am_M) : Array Value → State → Prop := va_Pc (vs.map (am_cv base)) (fun U => U.heap.size = sz ∧ va_P (dC, dI) vwCl (am_pw G dA base m) U.heap ∧ va_K (dC, dI) vwCl (am_ty dA) U ∧ va_D (fun _ => True) (am_pw G dA base m) ∧ am_Nk U)
def am_Qc (G : List am_D) (base : Nat) (dC : Nat → ClassId) (dI : Nat → Nat → Nat) (dA : Nat → ClassId) (A : Nat → Prop) (r : Option Value) (m' : am_M) : Array Value → State → Outcome → State → Prop := fun _ st oc t => (oc = .returned r ∧ va_P (dC, dI) vwCl (am_pw G dA base m') t.heap) ∧ va_F A st t
def am_Ev (l : Launch) (G : List am_D) (env : Nat → List Value → am_M → am_R) (d : Nat) : Prop := ∀ (y : Nat) (vs : List Value) (m : am_M) (r : Option Value) (m' : am_M), env y vs m = some (r, m') → (∃ q, am_at am_MT y = some q ∧ am_rc G q vs = true) ∧ ∀ (base : Nat) (dC : Nat → ClassId) (dI : Nat → Nat → Nat) (dA : Nat → ClassId) (sz : Nat), Met l (am_yn y) (am_ws y) (am_rm d) (am_Pc G base dC dI dA sz vs m) (am_Qc G base dC dI dA (va_A (am_pw G dA base m) sz) r m') 0 0 (va_A (am_pw G dA base m) sz)
theorem am_blind {G : List am_D} {base : Nat} {dC : Nat → ClassId} {dI : Nat → Nat → Nat} {dA : Nat → ClassId} {sz : Nat} {vs : List Value} {m : am_M} : FrameBlind (am_Pc G base dC dI dA sz vs m) := by
  intro a U g mk h
  obtain ⟨e1, e2, hP, hK, hD, hN⟩ := h
  exact ⟨e1, e2, hP, va_K.moved (u := U) (U := U.calling g mk a) (Vm.Alike.refl U.vm) hK, hD, fun q hq => va_Nw.same rfl rfl (hN q hq)⟩
theorem am_MT_len : am_MT.length = 282 := by decide +kernel
theorem am_y_in {y : Nat} {q : am_Y} (h : am_at am_MT y = some q) : y ∈ am_ys := by
  rw [List.mem_range, ← am_MT_len]
  exact am_lt_of h
theorem am_yq : ∀ y ∈ am_ys, (am_yn y).cls ≠ "java/lang/invoke/MethodHandle" ∧ (am_yn y).cls ≠ "java/lang/invoke/VarHandle" ∧ (parseMethodDescriptor (am_yn y).desc).map (fun d => d.parameters.length) = some (am_na y - (if am_st y = true then 0 else 1)) := by decide +kernel
theorem am_yp : ∀ y ∈ am_ys, plainName (am_yn y).cls = true ∧ (am_yn y).cls = am_cn (match am_at am_MT y with | some q => q.1 | none => 0) := by decide +kernel
theorem am_good {Ts : List Cond} (hT : ∀ w ∈ am_TB, w ∈ Ts) {y : Nat} (hy : y ∈ am_ys) : GoodIn Ts (am_ws y) := by
  intro w hw
  have h1 : w ∈ am_TB := by
    rcases List.mem_cons.mp hw with rfl | h
    · exact am_yw_ok y hy
    · exact h
  exact ⟨hT w h1, good_of_word (List.mem_filter.mp h1).2⟩
section AMU
variable {p : Program} {l : Launch} {e : Env} {R : Room} {s : State} {mi : MethodId} {args : Array Value} {below : List Frame} {meth : Method} {c : Code} {ce sl : Nat} {Q : State → Prop} {G : List am_D} {base : Nat} {dC : Nat → ClassId} {dI : Nat → Nat → Nat} {dA : Nat → ClassId} {A : Nat → Prop} {own nL : Nat} {cc : ByteArray} {Ts : List Cond}
variable {dp : Bool} {env : Nat → List Value → am_M → am_R} {rt : Nat} {k : Nat → am_L → List Value → am_M → am_R} {res : Option Value × am_M} {nx a b pc : Nat} {v : Int32} {w : Int64} {tl : List (Int32 × Nat)} {ls : am_L} {st : List Value} {m : am_M}
theorem am_after {A1 free : Nat → Prop} {H : Heap} {locs : List Loc} {arr : Array Slot} {st0 rest : List Value} {a9 : Array Value} {r : Option Value} {m' : am_M} (hr : va_Run p l e R s mi args below meth c H locs ce sl 0 0 (F0 mi pc arr st0) rest (am_Qc G base dC dI dA A1 r m' a9) free) (hS : va_S A s.heap H locs) (hA : ∀ q, q < H.size → A1 q → A q) (hf : ∀ q, free q → A q)
    (kk : ∀ (H1 : Heap) (locs1 : List Loc), va_P (dC, dI) vwCl (am_pw G dA base m') H1 → va_S A s.heap H1 locs1 → W p l e R s mi args below meth c H1 locs1 ce sl Q (F0 mi (pc + 3) arr (r.toList ++ rest))) : W p l e R s mi args below meth c H locs ce sl Q (F0 mi pc arr st0) := by
  intro T hT X
  obtain ⟨v, st₀, t, T', L, h0, X', hL, e1, e2, ⟨⟨hv, hP'⟩, hz, hk⟩, st⟩ := hr T hT X
  cases hv
  rw [h0] at hz hk
  obtain ⟨t2, a1, b1⟩ := kk T'.heap (locs ++ L) (by rw [e1]; exact hP')
    ⟨Nat.le_trans hS.1 (by rw [e1]; exact hz), fun q h1 h2 => by rw [e1, hk q (Nat.lt_of_lt_of_le h1 hS.1) (fun z => h2 (hA q (Nat.lt_of_lt_of_le h1 hS.1) z))]; exact hS.2.1 q h1 h2, fun q hq => by
      rcases List.mem_append.mp hq with h | h
      · exact hS.2.2 q h
      · exact hf _ (hL q h)⟩ T' rfl X'
  exact ⟨t2, st t2 a1, b1⟩
theorem am_inv {d : Nat} {vs rest : List Value} {r : Option Value} {m' : am_M} {ins : Instr} (hF : am_Fr p s mi args c own cc nL dC dI dA Ts) (hT : ∀ w ∈ am_TB, w ∈ Ts) (hG : am_GK G) (hEv : am_Ev l G env d) (hNk : am_Nk s) (hRf : d + 1 ≤ R.frames) (hRl : 30 * (d + 1) ≤ R.locals) (hce : ce ≤ R.cells) (hsl : sl ≤ R.slots) (hA : ∀ q, s.heap.size ≤ q → A q) (hml8 : ∀ y ∈ am_ys, (am_yd y).2.2.1 ≤ 11)
    (hst : st = vs.reverse ++ rest) (hlen : vs.length = am_na a) (hca : ¬ 8 < am_ca rest) (hev : env a vs m = some (r, m')) (hd : decode cc pc = .ok (ins, 3))
    (hin : (∃ q ∈ am_KM, q.1 = own ∧ q.2.2 = a ∧ ins = (if am_st a = true then .invokestatic q.2.1 else .invokevirtual q.2.1)) ∨ (am_st a = true ∧ ∃ q ∈ am_KN, q.1 = own ∧ q.2.2 = a ∧ ins = .invokestatic q.2.1))
    (hcv : r.toList.map (am_cv base) = r.toList) (hgo : am_Go p l e R s mi args below meth c ce sl Q G base dC dI dA A nL (pc + 3) ls (r.toList ++ rest) m') : am_Go p l e R s mi args below meth c ce sl Q G base dC dI dA A nL pc ls st m := by
  obtain ⟨hx, hb, hml, hown, hts, hK⟩ := hF
  obtain ⟨⟨q0, hq0, hrc⟩, hmet⟩ := hEv a vs m r m' hev
  have hy := am_y_in hq0
  obtain ⟨hy1, hy2, hy3⟩ := am_yq a hy
  have hy4 := (am_yp a hy).2
  have hyl := hml8 a hy
  rw [hq0] at hy4
  dsimp only at hy4
  have hst0 : am_st a = q0.2.2.2.2.1 := by unfold am_st; rw [hq0]
  have hgd := am_good hT hy
  have hini : (Cond.initialized (am_yn a).cls).before args s = true := hts _ (hT _ (am_yc_ok a hy))
  have hyi := hts _ (hT _ (am_yi_ok a hy))
  have hyv := hts _ (hT _ (am_yv_ok a hy))
  unfold am_yi at hyi
  unfold am_yv at hyv
  rw [hq0] at hyi hyv
  dsimp only at hyi hyv
  intro H locs arr hL hP hD hS
  have hmt := hmet base dC dI dA H.size
  have hFr : ∀ q, va_A (am_pw G dA base m) H.size q → A q := by
    intro q h
    rcases h with ⟨k, e, h⟩ | h
    · exact hD.2 k (q, e) h
    · exact hA q (Nat.le_trans hS.1 h)
  have hpre : ∀ U : State, U.heap = H → s.WarmedH U.vm → am_Pc G base dC dI dA H.size vs m (vs.map (am_cv base)).toArray U := by
    intro U hU hW
    exact ⟨rfl, by rw [hU], by rw [hU]; exact hP, va_K.moved hW.alike hK, hD.weaken (fun _ _ _ _ => trivial), fun q hq => va_Nw.warmM hW (hNk q hq)⟩
  have kk : ∀ (H1 : Heap) (locs1 : List Loc), va_P (dC, dI) vwCl (am_pw G dA base m') H1 → va_S A s.heap H1 locs1 → W p l e R s mi args below meth c H1 locs1 ce sl Q (F0 mi (pc + 3) arr (r.toList ++ rest.map (am_cv base))) := by
    intro H1 locs1 hP1 hS1
    have h1 := hgo H1 locs1 arr hL hP1 (am_D_any m' hD) hS1
    rw [List.map_append, hcv] at h1
    exact h1
  have hW8 : 2 * (F0 mi pc arr (st.map (am_cv base))).monitorRoom + ((rest.map (am_cv base)).map fun v => v.category).sum ≤ 8 := lv_room (by rw [am_cv_ca]; omega)
  have hRR : (am_rm d).frames + 1 ≤ R.frames ∧ 8 + ((am_yd a).2.2.1 + 11) + (am_rm d).locals ≤ R.locals := ⟨hRf, by show 8 + ((am_yd a).2.2.1 + 11) + 30 * d ≤ R.locals; omega⟩
  have hfit : ce + 0 ≤ R.cells ∧ sl + 0 ≤ R.slots := ⟨hce, hsl⟩
  rcases hin with ⟨q, hq, h1, h2, rfl⟩ | ⟨hs, q, hq, h1, h2, rfl⟩
  · have hl := hts _ (hT _ (am_KM_ok q hq))
    rw [h1, h2] at hl
    by_cases hs : am_st a = true
    · rw [if_pos hs] at hd hy3
      rw [if_pos (hst0 ▸ hs)] at hyi
      have hcb := callB_of (R := R) (bytes := (am_yd a).2.1) (maxL := (am_yd a).2.2.1) (ret := (am_yd a).2.2.2) (ws' := am_TB) (rm := am_rm d) (mc := 0) (ms := 0) (am_na a - 0) hts hgd rfl rfl rfl hini hl ⟨hy1, hy2, hy3⟩ hRR
      refine am_after (va_runS (As := vs.map (am_cv base)) (rest := rest.map (am_cv base)) ⟨hx, hb, hml, hown, hts⟩ hmt ⟨hcb, hyi⟩ ⟨am_blind, hpre⟩ rfl (by simp [hlen]) hL.2.1 (by rw [hst, List.map_append, List.map_reverse]) hW8 hd hfit) hS (fun q _ h => hFr q h) hFr kk
    · rw [if_neg hs] at hd hy3
      rw [if_neg (hst0 ▸ hs)] at hyi hyv
      have hns : ¬ q0.2.2.2.2.1 = true := hst0 ▸ hs
      have hcb := callB_of (R := R) (bytes := (am_yd a).2.1) (maxL := (am_yd a).2.2.1) (ret := (am_yd a).2.2.2) (ws' := am_TB) (rm := am_rm d) (mc := 0) (ms := 0) (am_na a - 1) hts hgd rfl rfl rfl hini hl ⟨hy1, hy2, hy3⟩ hRR
      unfold am_rc at hrc
      rw [if_neg hns, Bool.and_eq_true] at hrc
      obtain ⟨-, hrc⟩ := hrc
      split at hrc
      · rename_i o vs'
        split at hrc
        · rename_i ci fs hgo'
          have hci : ci = q0.1 := of_decide_eq_true hrc
          obtain ⟨C, T, N, hcl, -⟩ := hG o ci fs hgo'
          have hC : (am_yn a).cls = C := by
            rw [hy4, ← hci]
            unfold am_cn
            rw [am_at_eq, hcl]
          have hrv : ∃ cell : Cell, H[base + o]? = some cell ∧ cell.vm.isStatics = false ∧ s.vm.findClass (am_yn a).cls = some cell.cls := by
            rw [hC]
            exact va_recv hK hP hcl (am_pw_get hgo')
          refine am_after (va_runV (As := vs'.map (am_cv base)) (rest := rest.map (am_cv base)) (b := base + o) ⟨hx, hb, hml, hown, hts⟩ hmt ⟨hcb, hyi, hyv⟩ ⟨am_blind, hrv, hpre⟩ rfl (by simp [← hlen]) hL.2.1 (by rw [hst]; simp [am_cv]) hW8 hd hfit) hS (fun q _ h => hFr q h) hFr kk
        · cases hrc
      · cases hrc
  · have hl := hNk q hq
    rw [h1, h2] at hl
    rw [if_pos hs] at hy3
    rw [if_pos (hst0 ▸ hs)] at hyi
    have hcb := va_cnB (R := R) (bytes := (am_yd a).2.1) (maxL := (am_yd a).2.2.1) (ret := (am_yd a).2.2.2) (ws' := am_TB) (rm := am_rm d) (mc := 0) (ms := 0) (am_na a - 0) hts hgd rfl rfl rfl hl hini ⟨hy1, hy2, hy3⟩ hRR
    refine am_after (va_runSN (As := vs.map (am_cv base)) (rest := rest.map (am_cv base)) ⟨hx, hb, hml, hown, hts⟩ hmt ⟨hcb, hyi, trivial⟩ ⟨am_blind, hpre⟩ rfl (by simp [hlen]) hL.2.1 (by rw [hst, List.map_append, List.map_reverse]) hW8 hd hfit) hS (fun q _ h => hFr q h) hFr kk
theorem am_take {n : Nat} (h : ¬ st.length < n) : st = ((st.take n).reverse).reverse ++ st.drop n ∧ ((st.take n).reverse).length = n := by
  rw [List.reverse_reverse, List.take_append_drop]
  refine ⟨rfl, ?_⟩
  simp
  omega
theorem am_vi_mem {q : Instr × Nat} (h : q ∈ am_vi own a b) : am_na a = b ∧ q.2 = 3 ∧ ∃ r ∈ am_KM, r.1 = own ∧ r.2.2 = a ∧ q.1 = (if am_st a = true then .invokestatic r.2.1 else .invokevirtual r.2.1) := by
  unfold am_vi at h
  split at h
  · rename_i hb
    simp only [List.mem_map, List.mem_filter, Bool.and_eq_true, beq_iff_eq] at h
    obtain ⟨r, ⟨hr, h1, h2⟩, rfl⟩ := h
    refine ⟨hb, by split <;> rfl, r, hr, h1, h2, by split <;> rfl⟩
  · cases h
theorem am_o36 (hF : am_Fr p s mi args c own cc nL dC dI dA Ts) {d : Nat} (hT : ∀ w ∈ am_TB, w ∈ Ts) (hG : am_GK G) (hEv : am_Ev l G env d) (hNk : am_Nk s) (hRf : d + 1 ≤ R.frames) (hRl : 30 * (d + 1) ≤ R.locals) (hce : ce ≤ R.cells) (hsl : sl ≤ R.slots) (hA : ∀ q, s.heap.size ≤ q → A q) (hml8 : ∀ y ∈ am_ys, (am_yd y).2.2.1 ≤ 11) (hI : am_Ik own cc pc (36, nx, a, b, v, w, tl))
    (hk : ∀ pc' ls' st' m', k pc' ls' st' m' = some res → am_Go p l e R s mi args below meth c ce sl Q G base dC dI dA A nL pc' ls' st' m') (h : am_step G dp env rt (36, nx, a, b, v, w, tl) ls st m k = some res) : am_Go p l e R s mi args below meth c ce sl Q G base dC dI dA A nL pc ls st m := by
  obtain ⟨hx, hb, hml, hown, hts, hK⟩ := hF
  rw [am_e36] at h
  split at h
  · cases h
  · rename_i hlen
    split at h
    · cases h
    · rename_i hca
      unfold am_bV at h
      split at h
      · rename_i m' hev
        obtain ⟨q, hq, hd, hn⟩ := hI
        obtain ⟨hb1, hb2, hb3⟩ := am_vi_mem hq
        obtain ⟨ins, n3⟩ := q
        dsimp only at hn hb2 hb3
        subst hb2
        subst hn
        obtain ⟨e1, e2⟩ := am_take hlen
        exact am_inv ⟨hx, hb, hml, hown, hts, hK⟩ hT hG hEv hNk hRf hRl hce hsl hA hml8 e1 (e2.trans hb1.symm) hca hev hd (Or.inl hb3) rfl (hk _ _ _ _ h)
      · cases h
theorem am_o37 (hF : am_Fr p s mi args c own cc nL dC dI dA Ts) {d : Nat} (hT : ∀ w ∈ am_TB, w ∈ Ts) (hG : am_GK G) (hEv : am_Ev l G env d) (hNk : am_Nk s) (hRf : d + 1 ≤ R.frames) (hRl : 30 * (d + 1) ≤ R.locals) (hce : ce ≤ R.cells) (hsl : sl ≤ R.slots) (hA : ∀ q, s.heap.size ≤ q → A q) (hml8 : ∀ y ∈ am_ys, (am_yd y).2.2.1 ≤ 11) (hI : am_Ik own cc pc (37, nx, a, b, v, w, tl))
    (hk : ∀ pc' ls' st' m', k pc' ls' st' m' = some res → am_Go p l e R s mi args below meth c ce sl Q G base dC dI dA A nL pc' ls' st' m') (h : am_step G dp env rt (37, nx, a, b, v, w, tl) ls st m k = some res) : am_Go p l e R s mi args below meth c ce sl Q G base dC dI dA A nL pc ls st m := by
  obtain ⟨hx, hb, hml, hown, hts, hK⟩ := hF
  rw [am_e37] at h
  split at h
  · cases h
  · rename_i hlen
    split at h
    · cases h
    · rename_i hca
      unfold am_bI at h
      split at h
      · rename_i x m' hev
        obtain ⟨q, hq, hd, hn⟩ := hI
        obtain ⟨ins, n3⟩ := q
        obtain ⟨e1, e2⟩ := am_take hlen
        rcases List.mem_append.mp hq with hq | hq
        · obtain ⟨hb1, hb2, hb3⟩ := am_vi_mem hq
          dsimp only at hn hb2 hb3
          subst hb2
          subst hn
          exact am_inv ⟨hx, hb, hml, hown, hts, hK⟩ hT hG hEv hNk hRf hRl hce hsl hA hml8 e1 (e2.trans hb1.symm) hca hev hd (Or.inl hb3) rfl (hk _ _ _ _ h)
        · split at hq
          · rename_i hb1
            split at hq
            · rename_i hs
              simp only [List.mem_map, List.mem_filter, Bool.and_eq_true, beq_iff_eq, Prod.mk.injEq] at hq
              obtain ⟨r, ⟨hr, h1, h2⟩, h3, h4⟩ := hq
              subst h4
              dsimp only at hn
              subst hn
              exact am_inv ⟨hx, hb, hml, hown, hts, hK⟩ hT hG hEv hNk hRf hRl hce hsl hA hml8 e1 (e2.trans hb1.symm) hca hev hd (Or.inr ⟨hs, r, hr, h1, h2, h3.symm⟩) rfl (hk _ _ _ _ h)
            · cases hq
          · cases hq
      · cases h
theorem am_o38 (hF : am_Fr p s mi args c own cc nL dC dI dA Ts) {d : Nat} (hT : ∀ w ∈ am_TB, w ∈ Ts) (hG : am_GK G) (hEv : am_Ev l G env d) (hNk : am_Nk s) (hRf : d + 1 ≤ R.frames) (hRl : 30 * (d + 1) ≤ R.locals) (hce : ce ≤ R.cells) (hsl : sl ≤ R.slots) (hA : ∀ q, s.heap.size ≤ q → A q) (hml8 : ∀ y ∈ am_ys, (am_yd y).2.2.1 ≤ 11) (hI : am_Ik own cc pc (38, nx, a, b, v, w, tl))
    (hk : ∀ pc' ls' st' m', k pc' ls' st' m' = some res → am_Go p l e R s mi args below meth c ce sl Q G base dC dI dA A nL pc' ls' st' m') (h : am_step G dp env rt (38, nx, a, b, v, w, tl) ls st m k = some res) : am_Go p l e R s mi args below meth c ce sl Q G base dC dI dA A nL pc ls st m := by
  obtain ⟨hx, hb, hml, hown, hts, hK⟩ := hF
  rw [am_e38] at h
  split at h
  · cases h
  · rename_i hlen
    split at h
    · cases h
    · rename_i hca
      unfold am_bL at h
      split at h
      · rename_i x m' hev
        obtain ⟨q, hq, hd, hn⟩ := hI
        obtain ⟨hb1, hb2, hb3⟩ := am_vi_mem hq
        obtain ⟨ins, n3⟩ := q
        dsimp only at hn hb2 hb3
        subst hb2
        subst hn
        obtain ⟨e1, e2⟩ := am_take hlen
        exact am_inv ⟨hx, hb, hml, hown, hts, hK⟩ hT hG hEv hNk hRf hRl hce hsl hA hml8 e1 (e2.trans hb1.symm) hca hev hd (Or.inl hb3) rfl (hk _ _ _ _ h)
      · cases h
end AMU
