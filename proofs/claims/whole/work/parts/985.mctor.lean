/-! the reference's constructor: as the machine of constructors has it, then plain() and keepText() -/
theorem ax_S1_len : ax_S1.1.length = 107 := by
  rw [ax_S1_G, List.length_map, List.length_take, lc_G]
  rfl
theorem ax_S2_len : ax_S2.1.length = 108 := by
  unfold ax_S2
  rw [List.length_append, ax_S1_len]
  rfl
theorem ax_S3_len : ax_S3.2.1.length = 156 := by rw [ax_S3_G, List.length_map, lc_G]
theorem ax_S0_Z : ax_Z ax_S0 := ⟨fun _ _ => ⟨rfl, rfl⟩, ax_GK_push (G := []) (fun o ci fs h => by cases h) (fun ci fs he => by cases he; exact ⟨by decide, rfl⟩)⟩
theorem ax_S1_Z (l : Launch) : ax_Z ax_S1 := ((ax_all l 8) 11 0 ax_S0 ax_S1 ax_S1_ok ax_S0_Z).2.1.2.2
theorem ax_push_Z {S : ax_S} (h : ax_Z S) : ax_Z (S.1 ++ [(4, 12, ax_df 12)], S.2) := by
  refine ⟨fun k hk => h.1 k ?_, ax_GK_push h.2 (fun ci fs he => by cases he; exact ⟨by decide, rfl⟩)⟩
  have hk2 : (S.1 ++ [((4, 12, ax_df 12) : am_D)]).length ≤ k := hk
  rw [List.length_append] at hk2
  omega
theorem ax_S2_Z (l : Launch) : ax_Z ax_S2 := ax_push_Z (ax_S1_Z l)
set_option maxRecDepth 100000 in
theorem ax_sz_all : ax_sz ax_S0.1 = 16 ∧ ax_sz ax_S1.1 + 93 = ax_sz ax_S2.1 ∧ 16 ≤ ax_sz ax_S1.1 ∧ ax_sz ax_S2.1 ≤ ax_sz ax_S3.2.1 ∧ ax_sz ax_S3.2.1 ≤ 13398 := by decide +kernel
theorem axw_at {G : List am_D} {dA : Nat → ClassId} {base : Nat} {m : am_M} {k : Nat} {q : Nat × va_E} (h : (ax_pw G dA base m)[k]? = some q) : q.1 = base + k := by
  simp only [ax_pw, List.getElem?_mapIdx, Option.map_eq_some_iff] at h
  obtain ⟨g, -, h⟩ := h
  cases h
  rfl
theorem axw_D {G : List am_D} {dA : Nat → ClassId} {base : Nat} {m : am_M} : va_D (js_A base) (ax_pw G dA base m) := ⟨fun i j p q hp hq e => by
  have h1 := axw_at hp
  have h2 := axw_at hq
  omega, fun k q hk => by
  have h1 := axw_at hk
  show base ≤ q.1
  omega⟩
theorem axw_A {G : List am_D} {dA : Nat → ClassId} {base sz : Nat} {m : am_M} (h : base ≤ sz) : ∀ q, va_A (ax_pw G dA base m) sz q → js_A base q := by
  intro q h1
  rcases h1 with ⟨k, e, h1⟩ | h1
  · have h2 : q = base + k := axw_at h1
    show base ≤ q
    omega
  · exact Nat.le_trans h h1
def mn_c : Nat := 48
def mn_s : Nat := ax_sz ax_S3.2.1 - ax_sz ax_S2.1
def mn_Pc (base : Nat) (dC : Nat → ClassId) (dI : Nat → Nat → Nat) (dA : Nat → ClassId) : Array Value → State → Prop := va_Pc [.ref (base + 107)] (fun U => U.heap.size = base + 108 ∧ va_P (dC, dI) vwCl (ax_pw ax_S2.1 dA base ax_S2.2) U.heap ∧ va_K (dC, dI) vwCl (am_ty dA) U ∧ ax_Nk U ∧ am_Nk U ∧ js_St base U)
def mn_Qc (base : Nat) (dC : Nat → ClassId) (dI : Nat → Nat → Nat) (dA : Nat → ClassId) : Array Value → State → Outcome → State → Prop := va_Qv (fun m : am_M => Inv m) (fun m t => va_P (dC, dI) vwCl (am_pw am_G dA base m) t.heap) (js_A base)
theorem mn_blind {base : Nat} {dC : Nat → ClassId} {dI : Nat → Nat → Nat} {dA : Nat → ClassId} : FrameBlind (mn_Pc base dC dI dA) := by
  intro a U g mk h
  obtain ⟨e1, e2, hP, hK, hN, hM, hF⟩ := h
  exact ⟨e1, e2, hP, va_K.moved (u := U) (U := U.calling g mk a) (Vm.Alike.refl U.vm) hK, fun q hq => va_Nw.same rfl rfl (hN q hq), fun q hq => va_Nw.same rfl rfl (hM q hq), js_StOk.1 base U g mk a hF⟩
theorem mn_d_1119 : decode prog_14_method_1_code 1119 = .ok (.aload_n 0, 1) := by decide +kernel
theorem mn_d_1120 : decode prog_14_method_1_code 1120 = .ok (.invokevirtual 163, 3) := by decide +kernel
theorem mn_d_1123 : decode prog_14_method_1_code 1123 = .ok (.aload_n 0, 1) := by decide +kernel
theorem mn_d_1124 : decode prog_14_method_1_code 1124 = .ok (.invokevirtual 166, 3) := by decide +kernel
theorem mn_d_1127 : decode prog_14_method_1_code 1127 = .ok (.return_, 1) := by decide +kernel
set_option maxRecDepth 100000 in
set_option maxHeartbeats 4000000 in
theorem mn_met (l : Launch) {base : Nat} {dC : Nat → ClassId} {dI : Nat → Nat → Nat} {dA : Nat → ClassId} : Met l (ax_yn 12) (ax_ws 12) (ax_rm 9 mn_c mn_s) (mn_Pc base dC dI dA) (mn_Qc base dC dI dA) mn_c mn_s (js_A base) := by
  refine Met.ofW (cc := prog_14_method_1_code) (maxL := 1) (ret := none) (by decide +kernel) rfl ?_
  intro p e s mi args below meth c s₁ B hml hv
  obtain ⟨rfl, hsz, hP, hK, hNk, hNm, hSt0⟩ := hv
  have hts := atoms_spec (ws := ax_ws 12) B.pre
  have hown : s.vm.findClass (am_cn 12) = some mi.cls := findClass_of_methodNamed B.named
  have hin2 : meth.name = "<init>" := (name_of_methodNamed B.named B.method).1
  have hT : ∀ w ∈ am_TB, w ∈ ax_ws 12 := fun w hw => List.mem_cons_of_mem _ hw
  have hx := B.exec
  have hb := B.bytes
  have hA1 : ∀ q, s.heap.size ≤ q → js_A base q := fun q h => by show base ≤ q; omega
  have hH : ax_Hy p l (headSpec (ax_ws 12) (ax_rm 9 mn_c mn_s)).room s mi ([Value.ref (base + 107)]).toArray meth c base dC dI dA (js_A base) 12 prog_14_method_1_code (ax_ws 12) js_St (fun _ _ _ => none) 1 1 ax_S2.1.length := by
    refine ⟨⟨hx, hb, hml, hown, hts, hK⟩, by rw [ax_S2_len]; exact hsz, hT, hNk, js_StOk, hSt0, hA1, fun q h => h, hin2, fun _ _ _ _ => rfl, fun d0 _ => ?_, ?_, ?_, ?_, ?_⟩
    · intro y o S S' h
      cases h
    · show 1 ≤ 9
      omega
    · show 1 ≤ 9
      omega
    · show 30 ≤ 30 * 9
      omega
    · show 30 * 1 ≤ 30 * 9
      omega
  have hcM : ∀ q ∈ ax_M_init, ax_Ik 12 prog_14_method_1_code q.1 q.2 := (ax_code 12 (12, ax_M_init) rfl).1
  have hRc : ax_S3.2.1.length - ax_S2.1.length ≤ (headSpec (ax_ws 12) (ax_rm 9 mn_c mn_s)).room.cells := by
    rw [ax_S3_len, ax_S2_len]
    show 156 - 108 ≤ 48
    omega
  obtain ⟨m1, m2, h1, h2, hI⟩ := start_inv (m := ax_S3.2.2) (fun _ h => ax_fact h) ax_w_ok
  have hgo := (ax_blk_ok (p := p) (l := l) (e := e) (s := s) (mi := mi) (below := below) (meth := meth) (c := c) (Q := MQ below (mn_Qc base dC dI dA) ([Value.ref (base + 107)]).toArray s mn_c mn_s (js_A base)) (fin := ax_S3) (Cont := True) (s0 := ax_sz ax_S2.1) (o0 := 107) (sp := ax_stop) hH hcM hRc (Nat.le_refl mn_s) (fun _ => ?_) 2000 0 [] ax_S2 ax_S3_ok (ax_S2_Z l) ⟨Nat.le_refl _, Nat.le_refl _⟩).2 trivial
  · have h3 := hgo s.heap [] _ (am_LH.entry (vs := [.ref 107]) (n := 1) (Nat.le_of_ble_eq_true rfl)) hP axw_D va_S.rf
    rw [Nat.sub_self, Nat.sub_self] at h3
    rw [lg_entry_eq]
    exact h3
  · intro H locs arr hL hP hD hS
    rw [ax_S3_G, ax_pw_sh] at hP hD
    have hcn : ax_S3.2.1.length - ax_S2.1.length = mn_c := by rw [ax_S3_len, ax_S2_len]; rfl
    rw [hcn, ax_S3_pc]
    show W p l e _ s mi _ below meth c H locs mn_c mn_s _ (F0 mi 1119 arr [])
    have hF : am_Fr p s mi ([Value.ref (base + 107)]).toArray c 12 prog_14_method_1_code 1 dC dI dA (ax_ws 12) := ⟨hx, hb, hml, hown, hts, hK⟩
    have go4 : am_Go p l e (headSpec (ax_ws 12) (ax_rm 9 mn_c mn_s)).room s mi ([Value.ref (base + 107)]).toArray below meth c mn_c mn_s (MQ below (mn_Qc base dC dI dA) ([Value.ref (base + 107)]).toArray s mn_c mn_s (js_A base)) am_G base dC dI dA (js_A base) 1 1127 [some (.ref 107)] [] m2 := by
      intro H locs arr hL hP hD hS
      exact W.vret hx hb B.returns (fun t ht _ => ⟨⟨m2, rfl, hI, by show va_P _ _ _ t.heap; rw [ht]; exact hP⟩, hS.F ht⟩) hS.2.2 mn_d_1127 B.notSynchronized
    have go3 := am_inv (rest := []) (vs := [.ref 107]) (ins := .invokevirtual 166) (pc := 1124) hF hT am_GK_ok (am_ok l fu 7) hNm (by show 7 + 1 ≤ 9; omega) (by show 30 * (7 + 1) ≤ 30 * 9; omega) (Nat.le_refl mn_c) (Nat.le_refl mn_s) hA1 am_m8 (st := [.ref 107]) rfl rfl (by decide) h2 mn_d_1124 (Or.inl ⟨(12, 166, 182), by decide +kernel, rfl, rfl, rfl⟩) rfl go4
    have go2 : am_Go p l e (headSpec (ax_ws 12) (ax_rm 9 mn_c mn_s)).room s mi ([Value.ref (base + 107)]).toArray below meth c mn_c mn_s (MQ below (mn_Qc base dC dI dA) ([Value.ref (base + 107)]).toArray s mn_c mn_s (js_A base)) am_G base dC dI dA (js_A base) 1 1123 [some (.ref 107)] [] m1 := by
      intro H locs arr hL hP hD hS
      refine lv_aload_n hx hb mn_d_1123 rfl (hL.2.2.2 0 (.ref 107) rfl) ?_
      exact go3 H locs arr hL hP hD hS
    have go1 := am_inv (rest := []) (vs := [.ref 107]) (ins := .invokevirtual 163) (pc := 1120) hF hT am_GK_ok (am_ok l fu 8) hNm (by show 8 + 1 ≤ 9; omega) (by show 30 * (8 + 1) ≤ 30 * 9; omega) (Nat.le_refl mn_c) (Nat.le_refl mn_s) hA1 am_m8 (st := [.ref 107]) rfl rfl (by decide) h1 mn_d_1120 (Or.inl ⟨(12, 163, 61), by decide +kernel, rfl, rfl, rfl⟩) rfl go2
    refine lv_aload_n hx hb mn_d_1119 rfl (hL.2.2.2 0 (.ref 107) rfl) ?_
    exact go1 H locs arr hL hP hD hS
/-- 'new' in the law: the graph grows by an object -/
theorem lw_new {p : Program} {l : Launch} {e : Env} {R : Room} {s : State} {mi : MethodId} {args : Array Value} {below : List Frame} {meth : Method} {c : Code} {Q : State → Prop} {base : Nat} {dC : Nat → ClassId} {dI : Nat → Nat → Nat} {dA : Nat → ClassId} {cc : ByteArray} {Ts : List Cond} {own : String} {a ix pc : Nat} {S : ax_S} {H : Heap} {locs : List Loc} {arr : Array Slot} {st : List Value} {cells slots : Nat} (hx : p.tables.exec = Jvm.exec) (hb : c.code = cc) (hown : s.vm.findClass own = some mi.cls) (hts : ∀ w ∈ Ts, w.before args s = true) (hT : ∀ w ∈ am_TB, w ∈ Ts) (hK : va_K (dC, dI) vwCl (am_ty dA) s) (hay : a ∈ ax_ys) (hlk : (Cond.classLink own ix (am_cn a)).before args s = true) (hz : ax_Z S) (hP : va_P (dC, dI) vwCl (ax_pw S.1 dA base S.2) H) (hS : va_S (js_A base) s.heap H locs) (hsz : H.size = base + S.1.length) (hc : cells + 1 ≤ R.cells) (hs : slots + ax_nn a ≤ R.slots) (hd : decode cc pc = .ok (.new ix, 3))
    (kk : ∀ H1 : Heap, H1.size = base + S.1.length + 1 → va_P (dC, dI) vwCl (ax_pw (S.1 ++ [(4, a, ax_df a)]) dA base S.2) H1 → va_S (js_A base) s.heap H1 locs → W p l e R s mi args below meth c H1 locs (cells + 1) (slots + ax_nn a) Q (F0 mi (pc + 3) arr (.ref (base + S.1.length) :: st))) : W p l e R s mi args below meth c H locs cells slots Q (F0 mi pc arr st) := by
  obtain ⟨C, T, N, hcl, hC', hN, hdl, hdc, hin, hnm, ⟨ty0, hty⟩, hfd⟩ := ax_cls hay
  have hin' : ∀ w ∈ u_ws C T N, w ∈ Ts := fun w hw => hT w (hin w hw)
  have hKn := hK.1 a _ hcl
  have hi1 := hts _ (hT _ (ax_in_ok a hay))
  have hi2 := hts _ (hT _ (ax_it_ok a hay))
  rw [← hC', ← hN] at hi1
  rw [← hC'] at hi2 hlk
  rw [← hN] at hs kk
  refine W.newcK hx hb hown hlk hi1 hi2 rfl hd hc hs hKn.2.1 hsz (fun H1 kC hkC e1 z1 o1 => ?_)
  refine kk H1 z1 ?_ ⟨Nat.le_trans hS.1 (by omega), fun x h1 h2 => (o1 x (by have := hS.1; omega)).trans (hS.2.1 x h1 h2), hS.2.2⟩
  rw [ax_pw_push]
  refine (hP.kept (fun k x hx => o1 x.1 (by have := (hP k x hx).lt; omega))).app (fun k x hx => ?_)
  have hz1 : k < 1 := (List.getElem?_eq_some_iff.mp hx).1
  rw [show k = 0 by omega] at hx
  cases hx
  refine ⟨_, hcl, (u_born ty0 hts hin' hKn hkC e1 hty).to (fun j hj => ?_)⟩
  have hj2 : j < (ax_df a).length := by rw [hdl]; exact hj
  have hfj : am_at (ax_df a) j = some ((ax_df a)[j]) := by rw [am_at_eq]; exact List.getElem?_eq_getElem hj2
  obtain ⟨ty, t1, ⟨t2, t4⟩, -⟩ := hfd j _ hfj
  have t3 : ty0 j = ty := Option.some.inj ((hty j hj).symm.trans t1)
  rw [t3, t2]
  have h8 := ax_fs_get (base := base) (o := S.1.length) (m := S.2) hfj
  unfold vp_V
  rw [List.getD_eq_getElem?_getD, h8]
  have hzz := hz.1 S.1.length (Nat.le_refl _)
  rw [Option.getD_some]
  generalize (ax_df a)[j] = f at t4
  rcases f with _ | _ | _ | _ | f
  · show Value.int 0 = Value.int (S.2.1 S.1.length j); rw [hzz.1]
  · show Value.int 0 = Value.int (S.2.1 S.1.length j); rw [hzz.1]
  · show Value.long 0 = Value.long (S.2.2 S.1.length j); rw [hzz.2]
  · rfl
  · omega
