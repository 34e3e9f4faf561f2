/-! the law's steps: a script cell, a call, a case -/
abbrev lc_A (pc j : Nat) : Prop := decode code pc = .ok (.aload_n 0, 1) ∧ decode code (pc + 1) = .ok (.iload 4, 2) ∧ decode code (pc + 3) = .ok (.iconst (j : Int), 1) ∧ decode code (pc + 4) = .ok (.iadd, 1) ∧ decode code (pc + 5) = .ok (.iaload, 1)
/-- what stays the same in the law's frame -/
def lc_C (p : Program) (l : Launch) (s : State) (mi : MethodId) (c : Code) (b L : Nat) (xs : Nat → Int32) (base sa sb ao : Nat) (dC : Nat → ClassId) (dI : Nat → Nat → Nat) (dA : Nat → ClassId) : Prop :=
  p.tables.exec = Jvm.exec ∧ c.code = code ∧ c.maxLocals = 7 ∧ s.vm.findClass "ShadowPoolLaw" = some mi.cls ∧ (∀ w ∈ lw_tbl, w.before #[Value.ref b] s = true) ∧ va_X b L xs s s.heap ∧ b < s.heap.size ∧ va_K (dC, dI) vwCl (am_ty dA) s ∧ am_Nk s ∧ th_F base sa sb s ∧ base = s.heap.size ∧ base + 156 ≤ ao ∧ L ≤ 3072 ∧ l.stackTraces = false
abbrev lc_v (b base ao i : Nat) : List (Nat × Value) := [(0, .ref b), (1, .ref (base + 0)), (2, .ref (base + 107)), (3, .ref ao), (4, .int (nI i))]
def lc_as (xs : Nat → Int32) (i n : Nat) : List Value := (List.range n).map (fun j => .int (xs (i + (j + 1))))
theorem lc_as_cv {xs : Nat → Int32} {i n base : Nat} : (lc_as xs i n).map (am_cv base) = lc_as xs i n := by
  unfold lc_as
  rw [List.map_map]
  rfl
theorem lc_as_len {xs : Nat → Int32} {i n : Nat} : (lc_as xs i n).length = n := by
  unfold lc_as
  rw [List.length_map, List.length_range]
theorem lc_as_s {xs : Nat → Int32} {i n : Nat} {rest : List Value} : (lc_as xs i (n + 1)).reverse ++ rest = .int (xs (i + (n + 1))) :: ((lc_as xs i n).reverse ++ rest) := by
  unfold lc_as
  rw [List.range_succ, List.map_append, List.reverse_append]
  rfl
theorem nI_ofInt (j : Nat) : Int32.ofInt (j : Int) = nI j := Int32.ofInt_eq_ofNat
/-- the links of the law's calls -/
def lc_lk : List (Nat × Nat) := [(21,127), (25,50), (26,268), (30,247), (31,39), (34,64), (35,128), (38,139), (49,129), (52,150), (53,40), (56,85), (62,207), (66,188), (67,208), (70,189), (71,209), (74,190), (80,174), (83,151), (84,269), (87,259), (88,130), (91,152), (92,270), (95,278), (96,271), (100,279), (101,272), (104,261), (105,175), (108,237), (109,176), (112,238), (113,131), (116,195), (117,132), (120,221), (121,133), (124,222), (125,177), (128,223), (129,178), (132,156), (133,134), (136,157), (137,41), (141,158), (142,273), (145,262), (146,274), (149,280), (150,275), (153,281), (154,246), (157,239), (158,256), (161,264), (162,276), (165,265), (166,277), (169,266), (170,258), (173,267), (174,211), (177,161), (178,179), (181,162), (182,180), (185,163), (186,136), (189,164), (57,233), (61,219), (75,210), (79,191), (44,149), (45,49)]
set_option maxRecDepth 100000 in
theorem lc_lk_ok : ∀ q ∈ lc_lk, Cond.methodLink "ShadowPoolLaw" q.1 (am_yn q.2) ∈ am_TB := am_in_tb (is := [(3,135), (8,14), (3,143), (8,18), (4,95), (8,132), (4,99), (8,136), (4,104), (8,152), (4,116), (8,160), (4,167), (8,205), (4,183), (8,217), (4,192), (8,221), (4,221), (8,233), (4,225), (8,237), (5,55), (9,53), (5,63), (9,61), (5,100), (9,80), (5,108), (9,84), (5,120), (9,88), (5,145), (9,114), (5,155), (9,118), (5,159), (9,131), (5,167), (9,139), (5,171), (9,143), (5,179), (9,147), (5,187), (9,155), (5,191), (9,159), (5,195), (9,163), (5,225), (9,187), (6,0), (9,195), (6,8), (9,199), (6,23), (9,208), (6,28), (9,212), (6,45), (9,222), (6,49), (9,226), (6,69), (9,230), (6,81), (9,238), (6,85), (10,2), (6,89), (10,6), (4,120), (8,164), (4,204), (8,225), (8,140), (8,10)]) rfl (by decide +kernel)
section LCC
variable {p : Program} {l : Launch} {e : Env} {s : State} {mi : MethodId} {below : List Frame} {meth : Method} {c : Code} {b L : Nat} {xs : Nat → Int32} {base sa sb ao : Nat} {dC : Nat → ClassId} {dI : Nat → Nat → Nat} {dA : Nat → ClassId} {H : Heap} {locs : List Loc} {cells slots i : Nat} {Q : State → Prop} {ls : Array Slot} {rest : List Value}
theorem lc_arg {pc j : Nat} (hC : lc_C p l s mi c b L xs base sa sb ao dC dI dA) (hd : lc_A pc j) (hj : i + j < L) (hl : lv_has ls 7 (lc_v b base ao i)) (hS : va_S (js_A base) s.heap H locs) (kk : W p l e room_1 s mi #[Value.ref b] below meth c H locs cells slots Q (F0 mi (pc + 6) ls (.int (xs (i + j)) :: rest))) : W p l e room_1 s mi #[Value.ref b] below meth c H locs cells slots Q (F0 mi pc ls rest) := by
  obtain ⟨hx, hb, hml, hown, hts, hX, hbl, hK, hNk, hF, hbase, hao, hL, hst⟩ := hC
  obtain ⟨d0, d1, d3, d4, d5⟩ := hd
  refine lv_aload_n hx hb d0 rfl (lv_at hl 0 rfl) ?_
  refine lv_iload hx hb d1 (lv_at hl 4 rfl) ?_
  refine lv_iconst (v := nI j) hx hb d3 (nI_ofInt j) ?_
  refine lv_iadd hx hb d4 ?_
  rw [nI_add]
  refine va_sld hx hb hX hbl (fun z => by have : base ≤ b := z; omega) hS (vp_in_nI hj (by omega)) d5 ?_
  rw [nI_clamp (by omega)]
  exact kk
theorem lc_push (hC : lc_C p l s mi c b L xs base sa sb ao dC dI dA) (hl : lv_has ls 7 (lc_v b base ao i)) (hS : va_S (js_A base) s.heap H locs) {pc : Nat} : ∀ n : Nat, (∀ j, j < n → lc_A (pc + 6 * j) (j + 1)) → i + n < L → W p l e room_1 s mi #[Value.ref b] below meth c H locs cells slots Q (F0 mi (pc + 6 * n) ls ((lc_as xs i n).reverse ++ rest)) → W p l e room_1 s mi #[Value.ref b] below meth c H locs cells slots Q (F0 mi pc ls rest) := by
  intro n
  induction n with
  | zero => intro _ _ kk; exact kk
  | succ n ih =>
    intro hd hn kk
    refine ih (fun j hj => hd j (by omega)) (by omega) ?_
    refine lc_arg (j := n + 1) hC (hd n (by omega)) (by omega) hl hS ?_
    rw [lc_as_s, show pc + 6 * (n + 1) = pc + 6 * n + 6 by omega] at kk
    exact kk
theorem lc_after {pc : Nat} {A1 free : Nat → Prop} {st0 : List Value} {a9 : Array Value} {r : Option Value} {m' : am_M} (hr : va_Run p l e room_1 s mi #[Value.ref b] below meth c H locs cells slots 0 0 (F0 mi pc ls st0) rest (am_Qc am_G base dC dI dA A1 r m' a9) free) (hS : va_S (js_A base) s.heap H locs) (hA : ∀ q, A1 q → js_A base q) (hf : ∀ q, free q → js_A base q)
    (kk : ∀ (H1 : Heap) (locs1 : List Loc), va_P (dC, dI) vwCl (am_pw am_G dA base m') H1 → (∀ q, q < H.size → ¬ A1 q → H1[q]? = H[q]?) → va_S (js_A base) s.heap H1 locs1 → W p l e room_1 s mi #[Value.ref b] below meth c H1 locs1 cells slots Q (F0 mi (pc + 3) ls (r.toList ++ rest))) : W p l e room_1 s mi #[Value.ref b] below meth c H locs cells slots Q (F0 mi pc ls st0) := by
  intro T hT X
  obtain ⟨v, st₀, t, T', Lo, h0, X', hL, e1, e2, ⟨⟨hv, hP'⟩, hz, hk⟩, st⟩ := hr T hT X
  cases hv
  rw [h0] at hz hk
  obtain ⟨t2, a1, b1⟩ := kk T'.heap (locs ++ Lo) (by rw [e1]; exact hP') (fun q h1 h2 => by rw [e1]; exact hk q h1 h2)
    ⟨Nat.le_trans hS.1 (by rw [e1]; exact hz), fun q h1 h2 => by rw [e1, hk q (Nat.lt_of_lt_of_le h1 hS.1) (fun z => h2 (hA q z))]; exact hS.2.1 q h1 h2, fun q hq => by
      rcases List.mem_append.mp hq with h | h
      · exact hS.2.2 q h
      · exact hf _ (hL q h)⟩ T' rfl X'
  exact ⟨t2, st t2 a1, b1⟩
set_option maxHeartbeats 1000000 in
theorem lc_call {pc ix y o : Nat} {vs : List Value} {v : Value} {mm mm' : am_M} {fo : Nat → Int64} (hC : lc_C p l s mi c b L xs base sa sb ao dC dI dA) (hsl : ls.size = 7) (hS : va_S (js_A base) s.heap H locs) (hP : va_P (dC, dI) vwCl (lc_w dA base mm ao fo) H) (hlk : (ix, y) ∈ lc_lk) (hst0 : am_st y = false) (hna : am_na y = vs.length + 1) (hvs : vs.map (am_cv base) = vs) (hev : am_c 8 y (.ref o :: vs) mm = some (some v, mm')) (hro : ¬ 8 < am_ca rest) (hce : cells ≤ 1183) (hse : slots ≤ 21603) (hd : decode code pc = .ok (.invokevirtual ix, 3))
    (kk : ∀ (H1 : Heap) (locs1 : List Loc), va_P (dC, dI) vwCl (lc_w dA base mm' ao fo) H1 → va_S (js_A base) s.heap H1 locs1 → W p l e room_1 s mi #[Value.ref b] below meth c H1 locs1 cells slots Q (F0 mi (pc + 3) ls (v :: rest))) : W p l e room_1 s mi #[Value.ref b] below meth c H locs cells slots Q (F0 mi pc ls (vs.reverse ++ .ref (base + o) :: rest)) := by
  obtain ⟨hx, hb, hml, hown, hts, hX, hbl, hK, hNk, hF, hbase, hao, hL, hstt⟩ := hC
  obtain ⟨⟨q0, hq0, hrc⟩, hmet⟩ := (am_ok l fu 8) y (.ref o :: vs) mm _ mm' hev
  have hy := am_y_in hq0
  obtain ⟨hy1, hy2, hy3⟩ := am_yq y hy
  have hy4 := (am_yp y hy).2
  have hyl := am_m8 y hy
  rw [hq0] at hy4
  dsimp only at hy4
  have hst1 : am_st y = q0.2.2.2.2.1 := by unfold am_st; rw [hq0]
  have hns : ¬ q0.2.2.2.2.1 = true := by rw [← hst1, hst0]; decide
  have hgd := am_good am_TB_in hy
  have hini : (Cond.initialized (am_yn y).cls).before #[Value.ref b] s = true := hts _ (am_TB_in _ (am_yc_ok y hy))
  have hyi := hts _ (am_TB_in _ (am_yi_ok y hy))
  have hyv := hts _ (am_TB_in _ (am_yv_ok y hy))
  unfold am_yi at hyi
  unfold am_yv at hyv
  rw [hq0] at hyi hyv
  dsimp only at hyi hyv
  rw [if_neg hns] at hyi hyv
  rw [if_neg (by rw [hst0]; decide)] at hy3
  have hPl := lc_w_l hP
  have hbs : base ≤ H.size := by
    have := pw_0 hPl (k := 0) (by omega)
    omega
  have haoL : ao < H.size := (Array.getElem?_eq_some_iff.mp (lc_w_r hP)).1
  have hl := hts _ (am_TB_in _ (lc_lk_ok (ix, y) hlk))
  dsimp only at hl
  have hcb := callB_of (R := room_1) (own := "ShadowPoolLaw") (bytes := (am_yd y).2.1) (maxL := (am_yd y).2.2.1) (ret := (am_yd y).2.2.2) (ws := am_ws y) (ws' := am_TB) (rm := am_rm 8) (mc := 0) (ms := 0) (am_na y - 1) hts hgd rfl rfl rfl hini hl ⟨hy1, hy2, hy3⟩ ⟨by show 8 + 1 ≤ 10; omega, by show 8 + ((am_yd y).2.2.1 + 11) + 30 * 8 ≤ 402; omega⟩
  unfold am_rc at hrc
  rw [if_neg hns, Bool.and_eq_true] at hrc
  obtain ⟨-, hrc⟩ := hrc
  dsimp only at hrc
  split at hrc
  · rename_i ci fs hgo'
    have hci : ci = q0.1 := of_decide_eq_true hrc
    obtain ⟨C, T, N, hcl, -⟩ := am_GK_ok o ci fs hgo'
    have hCn : (am_yn y).cls = C := by
      rw [hy4, ← hci]
      unfold am_cn
      rw [am_at_eq, hcl]
    have hrv : ∃ cell : Cell, H[base + o]? = some cell ∧ cell.vm.isStatics = false ∧ s.vm.findClass (am_yn y).cls = some cell.cls := by
      rw [hCn]
      exact va_recv hK hPl hcl (am_pw_get hgo')
    have hpre : ∀ U : State, U.heap = H → s.WarmedH U.vm → am_Pc am_G base dC dI dA H.size (.ref o :: vs) mm (Value.ref (base + o) :: vs).toArray U := by
      intro U hU hW
      refine ⟨?_, by rw [hU], by rw [hU]; exact hPl, va_K.moved hW.alike hK, pw_D.weaken (fun _ _ _ _ => trivial), fun q hq => va_Nw.warmM hW (hNk q hq)⟩
      show (Value.ref (base + o) :: vs).toArray = (Value.ref (base + o) :: vs.map (am_cv base)).toArray
      rw [hvs]
    have hmt := hmet base dC dI dA H.size
    refine lc_after (va_runV (As := vs) (rest := rest) (b := base + o) ⟨hx, hb, hml, hown, hts⟩ hmt ⟨hcb, hyi, hyv⟩ ⟨am_blind, hrv, hpre⟩ rfl (by rw [hna]; rfl) hsl rfl (lv_room (Nat.not_lt.mp hro)) hd ⟨hce, hse⟩) hS (pw_A hbs) (pw_A hbs) (fun H1 locs1 hP1 hk1 hS1 => ?_)
    exact kk H1 locs1 (lc_w_mk hP1 ((hk1 ao haoL (pw_not hao haoL)).trans (lc_w_r hP))) hS1
  · cases hrc
abbrev lc_K (n pc ic im : Nat) : Prop := decode code pc = .ok (.aload_n 1, 1) ∧ (∀ j, j < n → lc_A (pc + 1 + 6 * j) (j + 1)) ∧ decode code (pc + 1 + 6 * n) = .ok (.invokevirtual ic, 3) ∧ decode code (pc + 1 + 6 * n + 3) = .ok (.aload_n 2, 1) ∧ (∀ j, j < n → lc_A (pc + 1 + 6 * n + 3 + 1 + 6 * j) (j + 1)) ∧ decode code (pc + 1 + 6 * n + 3 + 1 + 6 * n) = .ok (.invokevirtual im, 3)
/-- both calls of a case: the two answers on the stack -/
theorem lc_two {n pc ic im y z : Nat} {mm : am_M} {fo : Nat → Int64} (hC : lc_C p l s mi c b L xs base sa sb ao dC dI dA) (hd : lc_K n pc ic im) (hask : ask y z (lc_as xs i n)) (hri : am_ri y = 1 ∨ am_ri y = 2 ∨ am_ri y = 3) (hy : (ic, y) ∈ lc_lk ∧ am_st y = false ∧ am_na y = n + 1) (hz : (im, z) ∈ lc_lk ∧ am_st z = false ∧ am_na z = n + 1) (hn : n ≤ 5) (hi : i + 6 ≤ L) (hl : lv_has ls 7 (lc_v b base ao i)) (hS : va_S (js_A base) s.heap H locs) (hP : va_P (dC, dI) vwCl (lc_w dA base mm ao fo) H) (I : Inv mm) (hce : cells ≤ 1183) (hse : slots ≤ 21603)
    (kk : ∀ (v : Value) (mm' : am_M) (H1 : Heap) (locs1 : List Loc), (am_ri y = 1 ∨ am_ri y = 2 → ∃ x : Int32, v = .int x) → (am_ri y = 3 → ∃ x : Int64, v = .long x) → Inv mm' → va_P (dC, dI) vwCl (lc_w dA base mm' ao fo) H1 → va_S (js_A base) s.heap H1 locs1 → W p l e room_1 s mi #[Value.ref b] below meth c H1 locs1 cells slots Q (F0 mi (pc + 1 + 6 * n + 3 + 1 + 6 * n + 3) ls [v, v])) : W p l e room_1 s mi #[Value.ref b] below meth c H locs cells slots Q (F0 mi pc ls []) := by
  obtain ⟨r, m1, m2, e1, e2, I2⟩ := hask mm I
  obtain ⟨v, rfl, hv1, hv2, hv3⟩ : ∃ v : Value, r = some v ∧ (am_ri y = 1 ∨ am_ri y = 2 → ∃ x : Int32, v = .int x) ∧ (am_ri y = 3 → ∃ x : Int64, v = .long x) ∧ ¬ 8 < am_ca [v] := by
    rcases hri with h | h | h
    · obtain ⟨x, rfl⟩ := am_int (Or.inl h) e1
      exact ⟨_, rfl, fun _ => ⟨x, rfl⟩, fun h2 => by omega, by show ¬ 8 < 1; omega⟩
    · obtain ⟨x, rfl⟩ := am_int (Or.inr h) e1
      exact ⟨_, rfl, fun _ => ⟨x, rfl⟩, fun h2 => by omega, by show ¬ 8 < 1; omega⟩
    · obtain ⟨x, rfl⟩ := am_lng h e1
      exact ⟨_, rfl, fun h2 => by omega, fun _ => ⟨x, rfl⟩, by show ¬ 8 < 2; omega⟩
  obtain ⟨d0, d1, d2, d3, d4, d5⟩ := hd
  obtain ⟨hx, hb, -⟩ := id hC
  refine lv_aload_n hx hb d0 rfl (lv_at hl 1 rfl) ?_
  refine lc_push hC hl hS n d1 (by omega) ?_
  refine lc_call hC hl.1 hS hP hy.1 hy.2.1 (by rw [lc_as_len]; exact hy.2.2) lc_as_cv e1 (by show ¬ 8 < 0; omega) hce hse d2 (fun H1 locs1 hP1 hS1 => ?_)
  refine lv_aload_n hx hb d3 rfl (lv_at hl 2 rfl) ?_
  refine lc_push hC hl hS1 n d4 (by omega) ?_
  exact lc_call hC hl.1 hS1 hP1 hz.1 hz.2.1 (by rw [lc_as_len]; exact hz.2.2) lc_as_cv e2 hv3 hce hse d5 (fun H2 locs2 hP2 hS2 => kk v m2 H2 locs2 hv1 hv2 I2 hP2 hS2)
/-- what comes behind a case: the loop's step -/
def lc_Nx (p : Program) (l : Launch) (e : Env) (s : State) (mi : MethodId) (below : List Frame) (meth : Method) (c : Code) (b base ao : Nat) (dC : Nat → ClassId) (dI : Nat → Nat → Nat) (dA : Nat → ClassId) (Q : State → Prop) (i cells slots : Nat) : Prop := ∀ (mm' : am_M) (fo' : Nat → Int64) (H1 : Heap) (locs1 : List Loc) (ls1 : Array Slot), Inv mm' → va_P (dC, dI) vwCl (lc_w dA base mm' ao fo') H1 → va_S (js_A base) s.heap H1 locs1 → lv_has ls1 7 (lc_v b base ao i) → W p l e room_1 s mi #[Value.ref b] below meth c H1 locs1 (cells + 1) (slots + 6) Q (F0 mi 1499 ls1 [])
theorem lc_case {n pc ic im y z : Nat} {off : Int} {mm : am_M} {fo : Nat → Int64} (hC : lc_C p l s mi c b L xs base sa sb ao dC dI dA) (kk : lc_Nx p l e s mi below meth c b base ao dC dI dA Q i cells slots) (hask : ask y z (lc_as xs i n)) (hd : lc_K n pc ic im) (hdo : decode code (pc + 1 + 6 * n + 3 + 1 + 6 * n + 3) = .ok (.if_icmp .eq off, 3)) (hoff : ((pc + 1 + 6 * n + 3 + 1 + 6 * n + 3 : Nat) : Int) + off = ((1499 : Nat) : Int)) (hri : am_ri y = 1 ∨ am_ri y = 2) (hy : (ic, y) ∈ lc_lk ∧ am_st y = false ∧ am_na y = n + 1) (hz : (im, z) ∈ lc_lk ∧ am_st z = false ∧ am_na z = n + 1) (hn : n ≤ 5) (hi : i + 6 ≤ L) (hl : lv_has ls 7 (lc_v b base ao i)) (hS : va_S (js_A base) s.heap H locs) (hP : va_P (dC, dI) vwCl (lc_w dA base mm ao fo) H) (I : Inv mm) (hce : cells ≤ 1183) (hse : slots ≤ 21603) : W p l e room_1 s mi #[Value.ref b] below meth c H locs cells slots Q (F0 mi pc ls []) := by
  refine lc_two hC hd hask (by omega) hy hz hn hi hl hS hP I hce hse (fun v mm' H1 locs1 h1 _ I1 hP1 hS1 => ?_)
  obtain ⟨x, rfl⟩ := h1 hri
  obtain ⟨hx, hb, -⟩ := id hC
  exact lv_icmp_eq hx hb hdo hoff (fun _ => W.widen (k := cells + 1) (n := slots + 6) (by omega) (by omega) (kk mm' fo H1 locs1 ls I1 hP1 hS1 hl)) (fun h => absurd rfl h)
theorem lc_caseL {n pc ic im y z : Nat} {off : Int} {mm : am_M} {fo : Nat → Int64} (hC : lc_C p l s mi c b L xs base sa sb ao dC dI dA) (kk : lc_Nx p l e s mi below meth c b base ao dC dI dA Q i cells slots) (hask : ask y z (lc_as xs i n)) (hd : lc_K n pc ic im) (hd1 : decode code (pc + 1 + 6 * n + 3 + 1 + 6 * n + 3) = .ok (.lcmp, 1)) (hdo : decode code (pc + 1 + 6 * n + 3 + 1 + 6 * n + 3 + 1) = .ok (.ifCond .eq off, 3)) (hoff : ((pc + 1 + 6 * n + 3 + 1 + 6 * n + 3 + 1 : Nat) : Int) + off = ((1499 : Nat) : Int)) (hri : am_ri y = 3) (hy : (ic, y) ∈ lc_lk ∧ am_st y = false ∧ am_na y = n + 1) (hz : (im, z) ∈ lc_lk ∧ am_st z = false ∧ am_na z = n + 1) (hn : n ≤ 5) (hi : i + 6 ≤ L) (hl : lv_has ls 7 (lc_v b base ao i)) (hS : va_S (js_A base) s.heap H locs) (hP : va_P (dC, dI) vwCl (lc_w dA base mm ao fo) H) (I : Inv mm) (hce : cells ≤ 1183) (hse : slots ≤ 21603) : W p l e room_1 s mi #[Value.ref b] below meth c H locs cells slots Q (F0 mi pc ls []) := by
  refine lc_two hC hd hask (by omega) hy hz hn hi hl hS hP I hce hse (fun v mm' H1 locs1 _ h1 I1 hP1 hS1 => ?_)
  obtain ⟨x, rfl⟩ := h1 hri
  obtain ⟨hx, hb, -⟩ := id hC
  refine W.lcmp hx hb hd1 ?_
  have e0 : lg_cmp x x = 0 := by unfold lg_cmp; rw [if_neg (fun h => Int64.lt_irrefl h), if_pos rfl]
  rw [e0]
  exact lv_if_eq hx hb hdo hoff (fun _ => W.widen (k := cells + 1) (n := slots + 6) (by omega) (by omega) (kk mm' fo H1 locs1 ls I1 hP1 hS1 hl)) (fun h => absurd rfl h)
/-- '!= 0' on the stack -/
abbrev lc_B (pc : Nat) : Prop := decode code pc = .ok (.ifCond .eq 7, 3) ∧ decode code (pc + 3) = .ok (.iconst 1, 1) ∧ decode code (pc + 4) = .ok (.goto 4, 3) ∧ decode code (pc + 7) = .ok (.iconst 0, 1)
theorem lc_bool {pc : Nat} {x : Int32} (hC : lc_C p l s mi c b L xs base sa sb ao dC dI dA) (hd : lc_B pc) (kk : W p l e room_1 s mi #[Value.ref b] below meth c H locs cells slots Q (F0 mi (pc + 8) ls (.int (zb (decide (x ≠ 0))) :: rest))) : W p l e room_1 s mi #[Value.ref b] below meth c H locs cells slots Q (F0 mi pc ls (.int x :: rest)) := by
  obtain ⟨d0, d3, d4, d7⟩ := hd
  obtain ⟨hx, hb, -⟩ := id hC
  refine lv_if_eq (tgt := pc + 7) hx hb d0 (by omega) (fun h => ?_) (fun h => ?_)
  · rw [decide_eq_false (fun z => z h)] at kk
    exact lv_iconst (v := 0) hx hb d7 (by decide) kk
  · rw [decide_eq_true h] at kk
    refine lv_iconst (v := 1) hx hb d3 (by decide) ?_
    exact lv_goto (tgt := pc + 8) hx hb d4 (by omega) kk
end LCC
