/-! the law from its entry -/
theorem lz_0 : decode code 0 = .ok (.new 8, 3) := by decide +kernel
theorem lz_3 : decode code 3 = .ok (.dup, 1) := by decide +kernel
theorem lz_4 : decode code 4 = .ok (.invokespecial 17, 3) := by decide +kernel
theorem lz_7 : decode code 7 = .ok (.astore_n 1, 1) := by decide +kernel
theorem lz_8 : decode code 8 = .ok (.new 18, 3) := by decide +kernel
theorem lz_11 : decode code 11 = .ok (.dup, 1) := by decide +kernel
theorem lz_12 : decode code 12 = .ok (.invokespecial 20, 3) := by decide +kernel
theorem lz_15 : decode code 15 = .ok (.astore_n 2, 1) := by decide +kernel
theorem lz_16 : decode code 16 = .ok (.iconst 1, 1) := by decide +kernel
theorem lz_17 : decode code 17 = .ok (.newarray .long, 2) := by decide +kernel
theorem lz_19 : decode code 19 = .ok (.astore_n 3, 1) := by decide +kernel
theorem lz_20 : decode code 20 = .ok (.iconst 0, 1) := by decide +kernel
theorem lz_21 : decode code 21 = .ok (.istore 4, 2) := by decide +kernel
set_option maxRecDepth 100000 in
theorem lw_c : ∀ w ∈ ([.classLink "ShadowPoolLaw" 8 (am_cn 11), .classLink "ShadowPoolLaw" 18 (am_cn 12), .methodLink "ShadowPoolLaw" 17 (ax_yn 11), .methodLink "ShadowPoolLaw" 20 (ax_yn 12)] : List Cond), w ∈ lw_tbl := by decide +kernel
theorem ax_E_Z : ax_Z ([], (fun _ _ => 0, fun _ _ => 0)) := ⟨fun _ _ => ⟨rfl, rfl⟩, fun o ci fs h => by cases h⟩
theorem ax_nn_11 : ax_nn 11 = 16 := by decide +kernel
theorem ax_nn_12 : ax_nn 12 = 93 := by decide +kernel
set_option maxRecDepth 100000 in
set_option maxHeartbeats 4000000 in
theorem whole_start {p : Program} {e : Env} {s : State} {m : MethodId} {below : List Frame} {meth : Method} {c : Code} (l : Launch) (hst : l.stackTraces = false) {b L : Nat} {xs : Nat → Int32} (hL : L ≤ 3072) (C0 : lw_At p s m meth c b L xs) : W p l e room_1 s m #[Value.ref b] below meth c s.heap [] 0 0 (lw_Z below #[Value.ref b] s) (entryFrame m ([Value.ref b] : List Value).toArray 7) := by
  obtain ⟨hx, hb, hr, hml, hown, hts, hX, hbl, hlocks, hgv⟩ := id C0
  have hown : s.vm.findClass "ShadowPoolLaw" = some m.cls := hown
  obtain ⟨dC, dI, dA, hK⟩ := lw_K hts
  obtain ⟨⟨sa, sb, hF⟩, hSt⟩ := lw_env hts hgv
  obtain ⟨hNk, hNx⟩ := lw_Nk hts
  obtain ⟨z0, z1, z2, z3, z4⟩ := ax_sz_all
  have hl := lv_entry ([.ref b]) (n := 7) (Nat.le_of_ble_eq_true rfl)
  rw [lg_entry_eq]
  generalize (lg_sl ([.ref b]) ++ List.replicate (7 - (lg_sl ([.ref b])).length) Slot.unset).toArray = ls at hl ⊢
  have hl : lv_has ls 7 [(0, .ref b)] := hl
  have hs0 : ∀ {H : Heap} {locs : List Loc} {U : State}, va_S (js_A s.heap.size) s.heap H locs → U.heap = H → s.WarmedH U.vm → js_St s.heap.size U := by
    intro H locs U hS hU hW
    exact js_StOk.2 s.heap.size s U (fun q hq => by rw [hU]; exact hS.2.1 q hq (fun z => by have : s.heap.size ≤ q := z; omega)) hW hSt
  refine lw_new (base := s.heap.size) (S := ([], (fun _ _ => 0, fun _ _ => 0))) (a := 11) (ix := 8) (own := "ShadowPoolLaw") hx hb hown hts am_TB_in hK (by decide) (hts _ (lw_c _ (List.mem_of_getElem? (i := 0) rfl))) ax_E_Z (fun k q hk => by cases hk) va_S.rf rfl (by show 0 + 1 ≤ 1183; omega) (by rw [ax_nn_11]; show 0 + 16 ≤ 21603; omega) lz_0 (fun H1 hz1 hP1 hS1 => ?_)
  rw [ax_nn_11]
  have hz1 : H1.size = s.heap.size + 1 := hz1
  have hP1 : va_P (dC, dI) vwCl (ax_pw ax_S0.1 dA s.heap.size ax_S0.2) H1 := hP1
  show W p l e room_1 s m _ below meth c H1 [] 1 16 _ (F0 m 3 ls [.ref (s.heap.size + 0)])
  refine lv_dup hx hb lz_3 rfl ?_
  obtain ⟨-, ⟨hr1, hr2, hr3⟩, -, hmet⟩ := (ax_all l 8) 11 0 ax_S0 ax_S1 ax_S1_ok ax_S0_Z
  obtain ⟨hy1, hy2, hy3, hy4, hy5, hy6⟩ := ax_yq 11 (by decide)
  have hcb := callB_of (R := room_1) (own := "ShadowPoolLaw") (index := 17) (y := ax_yn 11) (bytes := (ax_yd 11).2.1) (maxL := (ax_yd 11).2.2) (ret := none) (ws := ax_ws 11) (ws' := am_TB) (rm := ax_rm 8 (ax_S1.1.length - ax_S0.1.length) (ax_sz ax_S1.1 - ax_sz ax_S0.1)) (mc := ax_S1.1.length - ax_S0.1.length) (ms := ax_sz ax_S1.1 - ax_sz ax_S0.1) 0 hts (ax_good am_TB_in (by decide)) rfl rfl rfl (hts _ (am_TB_in _ (ax_yc_ok 11 (by decide)))) (hts _ (lw_c _ (List.mem_of_getElem? (i := 2) rfl))) ⟨hy1, hy2, hy3⟩ ⟨by show 8 + 1 ≤ 10; omega, by show 8 + (1 + 11) + 30 * 8 ≤ 402; omega⟩
  have hn0 : ax_S0.1.length = 1 := rfl
  have hA0 : ∀ q, va_A (ax_pw ax_S0.1 dA s.heap.size ax_S0.2) (s.heap.size + ax_S0.1.length) q → js_A s.heap.size q := axw_A (by omega)
  refine ax_after (va_runI (As := []) (rest := [.ref (s.heap.size + 0)]) (b := s.heap.size + 0) (g := F0 m 4 ls [.ref (s.heap.size + 0), .ref (s.heap.size + 0)]) ⟨hx, hb, hml, hown, hts⟩ (hmet s.heap.size dC dI dA) ⟨hcb, hy4, hts _ (am_TB_in _ (ax_yi_ok 11 (by decide)))⟩ ⟨ax_blind js_StOk, fun U hU hW => ⟨rfl, by rw [hU, hz1, hn0], by rw [hU]; exact hP1, va_K.moved hW.alike hK, axw_D.weaken (fun _ _ _ _ => trivial), fun q hq => va_Nw.warmM hW (hNx q hq), hs0 hS1 hU hW⟩⟩ rfl rfl hl.1 rfl (lv_room (Nat.le_of_ble_eq_true rfl)) lz_4 ⟨by rw [ax_S1_len, hn0]; show 1 + (107 - 1) ≤ 1183; omega, by show 16 + (ax_sz ax_S1.1 - ax_sz ax_S0.1) ≤ 21603; omega⟩) hS1 (fun q _ h => hA0 q h) hA0 (fun H2 locs2 hP2 hS2 => ?_)
  have hc2 : 1 + (ax_S1.1.length - ax_S0.1.length) = 107 := by rw [ax_S1_len, hn0]
  have hc3 : 16 + (ax_sz ax_S1.1 - ax_sz ax_S0.1) = ax_sz ax_S1.1 := by omega
  rw [hc2, hc3]
  show W p l e room_1 s m _ below meth c H2 locs2 107 (ax_sz ax_S1.1) _ (F0 m 7 ls [.ref (s.heap.size + 0)])
  refine lv_astore_n (lv' := [(1, .ref (s.heap.size + 0)), (0, .ref b)]) hx hb lz_7 rfl hl (by decide) rfl (fun ls hl => ?_)
  have hlo := ax_low (S := ax_S1) hS2.1 hP2
  rw [ax_S1_len] at hlo
  refine ax_sized (n := s.heap.size + 107) rfl hlo (fun hsz2 => ?_)
  refine lw_new (base := s.heap.size) (S := ax_S1) (a := 12) (ix := 18) (own := "ShadowPoolLaw") hx hb hown hts am_TB_in hK (by decide) (hts _ (lw_c _ (List.mem_of_getElem? (i := 1) rfl))) (ax_S1_Z l) hP2 hS2 (by rw [ax_S1_len]; exact hsz2) (by show 107 + 1 ≤ 1183; omega) (by rw [ax_nn_12]; show ax_sz ax_S1.1 + 93 ≤ 21603; omega) lz_8 (fun H3 hz3 hP3 hS3 => ?_)
  rw [ax_nn_12, ax_S1_len]
  rw [ax_S1_len] at hz3
  have hP3 : va_P (dC, dI) vwCl (ax_pw ax_S2.1 dA s.heap.size ax_S2.2) H3 := hP3
  show W p l e room_1 s m _ below meth c H3 locs2 108 (ax_sz ax_S1.1 + 93) _ (F0 m 11 ls [.ref (s.heap.size + 107)])
  refine lv_dup hx hb lz_11 rfl ?_
  obtain ⟨hw1, hw2, hw3, hw4, hw5, hw6⟩ := ax_yq 12 (by decide)
  have hcb2 := callB_of (R := room_1) (own := "ShadowPoolLaw") (index := 20) (y := ax_yn 12) (bytes := (ax_yd 12).2.1) (maxL := (ax_yd 12).2.2) (ret := none) (ws := ax_ws 12) (ws' := am_TB) (rm := ax_rm 9 mn_c mn_s) (mc := mn_c) (ms := mn_s) 0 hts (ax_good am_TB_in (by decide)) rfl rfl rfl (hts _ (am_TB_in _ (ax_yc_ok 12 (by decide)))) (hts _ (lw_c _ (List.mem_of_getElem? (i := 3) rfl))) ⟨hw1, hw2, hw3⟩ ⟨by show 9 + 1 ≤ 10; omega, by show 8 + (1 + 11) + 30 * 9 ≤ 402; omega⟩
  have hms : mn_s = ax_sz ax_S3.2.1 - ax_sz ax_S2.1 := rfl
  refine va_callv (va_runI (As := []) (rest := [.ref (s.heap.size + 107)]) (b := s.heap.size + 107) (g := F0 m 12 ls [.ref (s.heap.size + 107), .ref (s.heap.size + 107)]) ⟨hx, hb, hml, hown, hts⟩ (mn_met l (base := s.heap.size) (dC := dC) (dI := dI) (dA := dA)) ⟨hcb2, hw4, hts _ (am_TB_in _ (ax_yi_ok 12 (by decide)))⟩ ⟨mn_blind, fun U hU hW => ⟨rfl, by rw [hU]; exact hz3, by rw [hU]; exact hP3, va_K.moved hW.alike hK, fun q hq => va_Nw.warmM hW (hNx q hq), fun q hq => va_Nw.warmM hW (hNk q hq), hs0 hS3 hU hW⟩⟩ rfl rfl hl.1 rfl (lv_room (Nat.le_of_ble_eq_true rfl)) lz_12 ⟨by show 108 + 48 ≤ 1183; omega, by show ax_sz ax_S1.1 + 93 + mn_s ≤ 21603; omega⟩) hS3 (fun q _ h => h) (fun q h => h) (fun mm t H4 locs4 ht hvm I hB hz4 hk4 hS4 => ?_)
  have hP4 : va_P (dC, dI) vwCl (am_pw am_G dA s.heap.size mm) H4 := by rw [← ht]; exact hB
  refine W.widen (k := 156) (n := 13398) (by show 108 + 48 ≤ 156; omega) (by omega) ?_
  show W p l e room_1 s m _ below meth c H4 locs4 156 13398 _ (F0 m 15 ls [.ref (s.heap.size + 107)])
  refine lv_astore_n (lv' := [(2, .ref (s.heap.size + 107)), (1, .ref (s.heap.size + 0)), (0, .ref b)]) hx hb lz_15 rfl hl (by decide) rfl (fun ls hl => ?_)
  refine lv_iconst (v := 1) hx hb lz_16 (by decide) ?_
  have hao : s.heap.size + 156 ≤ H4.size := by
    have := pw_0 hP4 (k := 155) (by omega)
    omega
  refine va_newaK (atype := .long) (n := 1) (N := 1) hx hb (hts _ (am_TB_in _ (ax_ar_ok .long (by decide)))) rfl lz_17 rfl (by decide) (by decide) (by decide) (by show 156 + 1 ≤ 1183; omega) (by show 13398 + 1 ≤ 21603; omega) (h := H4.size) rfl (fun H5 cA e5 z5 o5 hAr hNm => ?_)
  have hcA : cA = dA 3 := ax_arr hK (t := 3) rfl (Or.inr (Or.inr (Or.inr rfl))) hNm
  subst hcA
  show W p l e room_1 s m _ below meth c H5 locs4 157 13399 _ (F0 m 19 ls [.ref H4.size])
  have hP5 : va_P (dC, dI) vwCl (lc_w dA s.heap.size mm H4.size (fun _ => 0)) H5 := lc_w_mk (hP4.kept (fun k q hk => o5 q.1 (vx_lt hP4 hk))) e5
  have hS5 : va_S (js_A s.heap.size) s.heap H5 locs4 := ⟨Nat.le_trans hS4.1 (by omega), fun q h1 h2 => (o5 q (Nat.lt_of_lt_of_le h1 hS4.1)).trans (hS4.2.1 q h1 h2), hS4.2.2⟩
  refine lv_astore_n (lv' := [(3, .ref H4.size), (2, .ref (s.heap.size + 107)), (1, .ref (s.heap.size + 0)), (0, .ref b)]) hx hb lz_19 rfl hl (by decide) rfl (fun ls hl => ?_)
  refine lv_iconst (v := nI (6 * 0)) hx hb lz_20 (by decide) ?_
  refine lv_istore (lv' := [(4, .int (nI (6 * 0))), (3, .ref H4.size), (2, .ref (s.heap.size + 107)), (1, .ref (s.heap.size + 0)), (0, .ref b)]) hx hb lz_21 hl (by decide) rfl (fun ls hl => ?_)
  exact lc_loop (sa := sa) (sb := sb) (dC := dC) (dI := dI) (dA := dA) (base := s.heap.size) (ao := H4.size) (L := L) (xs := xs) ⟨hx, hb, hml, hown, hts, hX, hbl, hK, hNk, hF, rfl, hao, hL, hst⟩ hr hlocks (L + 6) 0 (by omega) (by omega) mm (fun _ => 0) H5 locs4 ls I hP5 hS5 (lv_sub hl [4, 3, 2, 1, 0] rfl)
