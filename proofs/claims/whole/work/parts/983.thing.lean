/-! ShadowPool.thing: a value, or one of two throws -/
theorem th_u11 : ∀ w ∈ u_ws RX11 TX11 16, w ∈ am_TB := by
  obtain ⟨C, T, N, h1, -, -, -, -, h, -⟩ := ax_cls (ci := 11) (by decide)
  cases (show some (RX11, TX11, 16) = some (C, T, N) from h1)
  exact h
theorem th_u9 : ∀ w ∈ u_ws RX9 TX9 18, w ∈ am_TB := by
  obtain ⟨C, T, N, h1, -, -, -, -, h, -⟩ := ax_cls (ci := 9) (by decide)
  cases (show some (RX9, TX9, 18) = some (C, T, N) from h1)
  exact h
theorem th_u7 : ∀ w ∈ u_ws RX7 TX7 12, w ∈ am_TB := by
  obtain ⟨C, T, N, h1, -, -, -, -, h, -⟩ := ax_cls (ci := 7) (by decide)
  cases (show some (RX7, TX7, 12) = some (C, T, N) from h1)
  exact h
/-- how it ends: 0 a value, 1 and 2 the throws -/
def th_ok (m : am_M) (x y : Int32) (q : Nat) (v : Int32) : Prop :=
  (q = 1 ∧ am_c 7 y_C_isThing [.ref 0, .int x] m = some (some (.int (zn 0)), m))
  ∨ (q = 0 ∧ am_c 7 y_C_isThing [.ref 0, .int x] m = some (some (.int (zn 1)), m) ∧ ∃ t k, t < 5 ∧ x = zn t ∧ k < 6 ∧ y = zn k ∧ v = m.1 (thc k) t)
  ∨ (q = 2 ∧ am_c 7 y_C_isThing [.ref 0, .int x] m = some (some (.int (zn 1)), m) ∧ ∀ k, k < 6 → y ≠ zn k)
def th_rm (d : Nat) : Room := { frames := d, cells := 1, slots := 6, locals := 30 * d }
def th_Pc (base sa sb : Nat) (dC : Nat → ClassId) (dI : Nat → Nat → Nat) (dA : Nat → ClassId) (sz : Nat) (x y : Int32) (m : am_M) : Array Value → State → Prop := va_Pc [.ref (base + 0), .int x, .int y] (fun U => U.heap.size = sz ∧ va_P (dC, dI) vwCl (am_pw am_G dA base m) U.heap ∧ va_K (dC, dI) vwCl (am_ty dA) U ∧ va_D (fun _ => True) (am_pw am_G dA base m) ∧ am_Nk U ∧ th_F base sa sb U)
def th_Qc (base : Nat) (dC : Nat → ClassId) (dI : Nat → Nat → Nat) (dA : Nat → ClassId) (A : Nat → Prop) (m : am_M) (q : Nat) (v : Int32) : Array Value → State → Outcome → State → Prop := va_Qi (fun (r : Int32) (_ : Unit) => q = 0 ∧ r = v) (fun _ t => va_P (dC, dI) vwCl (am_pw am_G dA base m) t.heap) A
def th_XC (base : Nat) (dC : Nat → ClassId) (dI : Nat → Nat → Nat) (dA : Nat → ClassId) (A : Nat → Prop) (m : am_M) (q : Nat) : String → State → State → Prop := vx_X (fun (_ : Unit) => True) (fun E _ t => ((q = 1 ∧ E = th_ix) ∨ (q = 2 ∧ E = th_ns)) ∧ va_P (dC, dI) vwCl (am_pw am_G dA base m) t.heap) A
theorem th_d_0 : decode prog_1_method_7_code 0 = .ok (.aload_n 0, 1) := by decide +kernel
theorem th_d_1 : decode prog_1_method_7_code 1 = .ok (.iload_n 1, 1) := by decide +kernel
theorem th_d_2 : decode prog_1_method_7_code 2 = .ok (.invokevirtual 135, 3) := by decide +kernel
theorem th_d_5 : decode prog_1_method_7_code 5 = .ok (.ifCond .ne 13, 3) := by decide +kernel
theorem th_d_8 : decode prog_1_method_7_code 8 = .ok (.new 139, 3) := by decide +kernel
theorem th_d_11 : decode prog_1_method_7_code 11 = .ok (.dup, 1) := by decide +kernel
theorem th_d_12 : decode prog_1_method_7_code 12 = .ok (.ldc 141, 2) := by decide +kernel
theorem th_d_14 : decode prog_1_method_7_code 14 = .ok (.invokespecial 143, 3) := by decide +kernel
theorem th_d_17 : decode prog_1_method_7_code 17 = .ok (.athrow, 1) := by decide +kernel
theorem th_d_18 : decode prog_1_method_7_code 18 = .ok (.iload_n 2, 1) := by decide +kernel
theorem th_d_19 : decode prog_1_method_7_code 19 = .ok (.tableswitch 97 0 5 #[37, 47, 57, 67, 77, 87], 37) := by decide +kernel
theorem th_d_56 : decode prog_1_method_7_code 56 = .ok (.aload_n 0, 1) := by decide +kernel
theorem th_d_57 : decode prog_1_method_7_code 57 = .ok (.getfield 51, 3) := by decide +kernel
theorem th_d_60 : decode prog_1_method_7_code 60 = .ok (.getfield 146, 3) := by decide +kernel
theorem th_d_63 : decode prog_1_method_7_code 63 = .ok (.iload_n 1, 1) := by decide +kernel
theorem th_d_64 : decode prog_1_method_7_code 64 = .ok (.iaload, 1) := by decide +kernel
theorem th_d_65 : decode prog_1_method_7_code 65 = .ok (.ireturn, 1) := by decide +kernel
theorem th_d_66 : decode prog_1_method_7_code 66 = .ok (.aload_n 0, 1) := by decide +kernel
theorem th_d_67 : decode prog_1_method_7_code 67 = .ok (.getfield 60, 3) := by decide +kernel
theorem th_d_70 : decode prog_1_method_7_code 70 = .ok (.getfield 150, 3) := by decide +kernel
theorem th_d_73 : decode prog_1_method_7_code 73 = .ok (.iload_n 1, 1) := by decide +kernel
theorem th_d_74 : decode prog_1_method_7_code 74 = .ok (.iaload, 1) := by decide +kernel
theorem th_d_75 : decode prog_1_method_7_code 75 = .ok (.ireturn, 1) := by decide +kernel
theorem th_d_76 : decode prog_1_method_7_code 76 = .ok (.aload_n 0, 1) := by decide +kernel
theorem th_d_77 : decode prog_1_method_7_code 77 = .ok (.getfield 51, 3) := by decide +kernel
theorem th_d_80 : decode prog_1_method_7_code 80 = .ok (.getfield 153, 3) := by decide +kernel
theorem th_d_83 : decode prog_1_method_7_code 83 = .ok (.iload_n 1, 1) := by decide +kernel
theorem th_d_84 : decode prog_1_method_7_code 84 = .ok (.iaload, 1) := by decide +kernel
theorem th_d_85 : decode prog_1_method_7_code 85 = .ok (.ireturn, 1) := by decide +kernel
theorem th_d_86 : decode prog_1_method_7_code 86 = .ok (.aload_n 0, 1) := by decide +kernel
theorem th_d_87 : decode prog_1_method_7_code 87 = .ok (.getfield 51, 3) := by decide +kernel
theorem th_d_90 : decode prog_1_method_7_code 90 = .ok (.getfield 156, 3) := by decide +kernel
theorem th_d_93 : decode prog_1_method_7_code 93 = .ok (.iload_n 1, 1) := by decide +kernel
theorem th_d_94 : decode prog_1_method_7_code 94 = .ok (.iaload, 1) := by decide +kernel
theorem th_d_95 : decode prog_1_method_7_code 95 = .ok (.ireturn, 1) := by decide +kernel
theorem th_d_96 : decode prog_1_method_7_code 96 = .ok (.aload_n 0, 1) := by decide +kernel
theorem th_d_97 : decode prog_1_method_7_code 97 = .ok (.getfield 51, 3) := by decide +kernel
theorem th_d_100 : decode prog_1_method_7_code 100 = .ok (.getfield 159, 3) := by decide +kernel
theorem th_d_103 : decode prog_1_method_7_code 103 = .ok (.iload_n 1, 1) := by decide +kernel
theorem th_d_104 : decode prog_1_method_7_code 104 = .ok (.iaload, 1) := by decide +kernel
theorem th_d_105 : decode prog_1_method_7_code 105 = .ok (.ireturn, 1) := by decide +kernel
theorem th_d_106 : decode prog_1_method_7_code 106 = .ok (.aload_n 0, 1) := by decide +kernel
theorem th_d_107 : decode prog_1_method_7_code 107 = .ok (.getfield 51, 3) := by decide +kernel
theorem th_d_110 : decode prog_1_method_7_code 110 = .ok (.getfield 162, 3) := by decide +kernel
theorem th_d_113 : decode prog_1_method_7_code 113 = .ok (.iload_n 1, 1) := by decide +kernel
theorem th_d_114 : decode prog_1_method_7_code 114 = .ok (.iaload, 1) := by decide +kernel
theorem th_d_115 : decode prog_1_method_7_code 115 = .ok (.ireturn, 1) := by decide +kernel
theorem th_d_116 : decode prog_1_method_7_code 116 = .ok (.new 165, 3) := by decide +kernel
theorem th_d_119 : decode prog_1_method_7_code 119 = .ok (.dup, 1) := by decide +kernel
theorem th_d_120 : decode prog_1_method_7_code 120 = .ok (.ldc 167, 2) := by decide +kernel
theorem th_d_122 : decode prog_1_method_7_code 122 = .ok (.invokespecial 169, 3) := by decide +kernel
theorem th_d_125 : decode prog_1_method_7_code 125 = .ok (.athrow, 1) := by decide +kernel
theorem th_cbs : ∀ y ∈ th_q1 :: th_qs, th_cb y := by
  have six : ∀ n : String, Bundle.fit n = true → th_cb (n, 7, Bundle.six) := fun n h => ⟨h, Bundle.six_0, Bundle.six_1, Bundle.six_2, Bundle.six_5⟩
  intro y hy
  simp only [th_qs, List.mem_cons, List.not_mem_nil, or_false] at hy
  rcases hy with rfl | rfl | rfl
  · exact ⟨by decide +kernel, by decide +kernel, by decide +kernel, by decide +kernel, by decide +kernel⟩
  · exact six _ (by decide +kernel)
  · exact six _ (by decide +kernel)
theorem pw_A {dA : Nat → ClassId} {base sz : Nat} {m : am_M} (h : base ≤ sz) : ∀ q, va_A (am_pw am_G dA base m) sz q → js_A base q := by
  intro q h1
  rcases h1 with ⟨k, e, h1⟩ | h1
  · simp only [am_pw, List.getElem?_mapIdx, Option.map_eq_some_iff] at h1
    obtain ⟨g, -, h1⟩ := h1
    cases h1
    exact Nat.le_add_right _ _
  · exact Nat.le_trans h h1
theorem pw_0 {dA : Nat → ClassId} {base : Nat} {m : am_M} {dC : Nat → ClassId} {dI : Nat → Nat → Nat} {H : Heap} (hP : va_P (dC, dI) vwCl (am_pw am_G dA base m) H) {k : Nat} (hk : k < 156) : base + k < H.size := by
  have hl : am_G.length = 156 := by decide +kernel
  have h1 : (am_pw am_G dA base m)[k]? = some (base + k, am_ce dA base m k (am_G[k]'(by omega))) := am_pw_get (by rw [am_at_eq]; exact List.getElem?_eq_getElem (by omega))
  exact vx_lt hP h1
set_option maxRecDepth 100000 in
set_option maxHeartbeats 4000000 in
theorem th_met (l : Launch) (hl : l.stackTraces = false) {base sa sb sz : Nat} {dC : Nat → ClassId} {dI : Nat → Nat → Nat} {dA : Nat → ClassId} {x y v : Int32} {m : am_M} {q : Nat} (hok : th_ok m x y q v) :
    vx_Met l th_y (js_ws th_y prog_1_method_7_code 3 (some .int)) (th_rm 8) (th_Pc base sa sb dC dI dA sz x y m) (th_Qc base dC dI dA (va_A (am_pw am_G dA base m) sz) m q v) (th_XC base dC dI dA (va_A (am_pw am_G dA base m) sz) m q) 1 6 (va_A (am_pw am_G dA base m) sz) := by
  refine vx_ofW (cc := prog_1_method_7_code) (maxL := 3) (ret := some .int) (by decide +kernel) rfl ?_
  intro p e s mi args below meth c s₁ B hml ht hv
  obtain ⟨rfl, hsz, hP0, hK, hD0, hNk, hF⟩ := hv
  have hts := atoms_spec (ws := js_ws th_y prog_1_method_7_code 3 (some .int)) B.pre
  have hT : ∀ w ∈ am_TB, w ∈ js_ws th_y prog_1_method_7_code 3 (some .int) := fun _ hw => List.mem_cons_of_mem _ hw
  have hown : s.vm.findClass (am_cn 11) = some mi.cls := findClass_of_methodNamed B.named
  have hown' : s.vm.findClass "ShadowPool" = some mi.cls := hown
  have hx := B.exec
  have hb := B.bytes
  have hbs : base ≤ sz := by
    have := pw_0 hP0 (k := 0) (by omega)
    omega
  have hA2 := pw_A (dA := dA) (m := m) hbs
  have hD := hD0.self (sz := sz)
  generalize hAe : va_A (am_pw am_G dA base m) sz = A at hD hA2 ⊢
  have hA1 : ∀ q, s.heap.size ≤ q → A q := fun q h => by rw [← hAe]; exact Or.inr (by omega)
  have go5 : ∀ (r : Int32), (r = zn 0 ∧ q = 1) ∨ (r = zn 1 ∧ q = 0 ∧ ∃ t k, t < 5 ∧ x = zn t ∧ k < 6 ∧ y = zn k ∧ v = m.1 (thc k) t) ∨ (r = zn 1 ∧ q = 2 ∧ ∀ k, k < 6 → y ≠ zn k) →
      am_Go p l e (headSpec (js_ws th_y prog_1_method_7_code 3 (some .int)) (th_rm 8)).room s mi ([Value.ref (base + 0), .int x, .int y]).toArray below meth c 0 0 (vx_MQ below (th_Qc base dC dI dA A m q v) (th_XC base dC dI dA A m q) ([Value.ref (base + 0), .int x, .int y]).toArray s 1 6 A) am_G base dC dI dA A 3 5 [some (.ref 0), some (.int x), some (.int y)] [.int r] m := by
    intro r hr H locs arr hL hP hD hS
    have hlv : lv_has arr 3 [(2, .int y), (1, .int x), (0, .ref (base + 0))] := ⟨hL.2.1, hL.2.2.1, fun z hz => by
      simp only [List.mem_cons, List.not_mem_nil, or_false] at hz
      rcases hz with rfl | rfl | rfl
      · exact hL.2.2.2 2 (.int y) rfl
      · exact hL.2.2.2 1 (.int x) rfl
      · exact hL.2.2.2 0 (.ref 0) rfl⟩
    have hxc : ∀ (E : String), ((q = 1 ∧ E = th_ix) ∨ (q = 2 ∧ E = th_ns)) → ∀ t : State, s.vm.Alike t.vm → H.size ≤ t.heap.size → (∀ a : Nat, a < H.size → t.heap[a]? = H[a]?) → th_XC base dC dI dA A m q E s t := by
      intro E hE t _ h1 h2
      exact ⟨(), trivial, ⟨hE, hP.kept (fun k z hk => h2 z.1 (vx_lt hP hk))⟩, Nat.le_trans hS.1 h1, fun a ha hn => (h2 a (Nat.lt_of_lt_of_le ha hS.1)).trans (hS.2.1 a ha hn)⟩
    show W p l e _ s mi _ below meth c H locs 0 0 _ (F0 mi 5 arr [.int r])
    rcases hr with ⟨rfl, hq⟩ | ⟨rfl, hq, t, k, ht5, rfl, hk6, rfl, rfl⟩ | ⟨rfl, hq, hno⟩
    · refine lv_if_ne (tgt := 18) hx hb th_d_5 (by decide) (fun h => absurd (by decide) h) (fun _ => ?_)
      exact vx_throwS (own := "ShadowPool") (cls := th_ix) (text := "no such THING") (names := [th_rt, th_ex]) (ik := 139) (is := 141) (ic := 143) (sa := sa) (A := A) hx hb hl hown' (by decide +kernel) (by decide +kernel) (th_wat hT hts 1 rfl) (th_wat hT hts 2 rfl) hF.2.2.1 (th_hat1 hT hts hF) th_g1 (hF.2.2.2.2.1.narrow hA2) (hF.2.2.2.2.2.narrow hA2) hS (hlv.1.trans hml.symm) th_d_8 th_d_11 th_d_12 th_d_14 th_d_17 (fun z hz => (ht z hz).elim) (by show 5 < 8; omega) (by show 0 + (13 * 3 + 43) ≤ 240; omega) (by show 0 + 1 ≤ 1; omega) (by show 0 + 6 ≤ 6; omega) B.notSynchronized (fun t a b d => hxc _ (Or.inl ⟨hq, rfl⟩) t a b d) hS.2.2 (Nat.le_refl _) (Nat.le_refl _)
    · refine lv_if_ne (tgt := 18) hx hb th_d_5 (by decide) (fun _ => ?_) (fun h => absurd h (by decide))
      refine lv_iload_n hx hb th_d_18 rfl (lv_at hlv 0 rfl) ?_
      have h11 : (am_pw am_G dA base m)[0]? = some (base + 0, am_ce dA base m 0 (4, 11, [4,6,0,0,0,28,29,30,49,74,81,1,88,95,100,105])) := am_pw_get rfl
      have h9 : (am_pw am_G dA base m)[27]? = some (base + 27, am_ce dA base m 27 (4, 9, [0,31,32,33,34,35,36,37,0,38,39,0,40,41,0,0,0,42])) := am_pw_get rfl
      have h7 : (am_pw am_G dA base m)[71]? = some (base + 71, am_ce dA base m 71 (4, 7, [0,75,76,0,77,78,0,79,80,0,0,0])) := am_pw_get rfl
      have hvin : vp_in (zn t) 5 := vp_in_nI ht5 (by decide)
      have hcl : (zn t).toNatClampNeg = t := zn_cl (by omega)
      rcases (show k = 0 ∨ k = 1 ∨ k = 2 ∨ k = 3 ∨ k = 4 ∨ k = 5 by omega) with rfl | rfl | rfl | rfl | rfl | rfl
      · refine lv_tableIn (off := 37) (tgt := 56) hx hb th_d_19 (by decide) (by decide) (by decide) (by decide) ?_
        refine lv_aload_n hx hb th_d_56 rfl (lv_at hlv 2 rfl) ?_
        refine va_get (D := (dC, dI)) (own := "ShadowPool") (ref := "ShadowPool") (C := RX11) (T := TX11) (N := 16) hx hb hts (fun w h => hT w (th_u11 w h)) hown' hK hP 0 h11 rfl 7 (by decide) (th_wat hT hts 15 rfl) (fun _ h8 => h8) (v := .ref (base + 27)) (am_fs_get (f := 30) rfl) th_d_57 ?_
        refine va_get (D := (dC, dI)) (own := "ShadowPool") (ref := "ShadowPool$Told") (C := RX9) (T := TX9) (N := 18) hx hb hts (fun w h => hT w (th_u9 w h)) hown' hK hP 27 h9 rfl 2 (by decide) (th_wat hT hts 16 rfl) (fun _ h8 => h8) (v := .ref (base + 29)) (am_fs_get (f := 32) rfl) th_d_60 ?_
        refine lv_iload_n hx hb th_d_63 rfl (lv_at hlv 1 rfl) ?_
        refine va_iald hx hb hK hP 29 0 (cA := dA 0) (n := 5) (f := m.1 29) (am_pw_get (g := (0, 5, [])) rfl) rfl hvin th_d_64 ?_
        rw [hcl]
        refine W.widen (k := 1) (n := 6) (by omega) (by omega) ?_
        exact vx_ret (W.iret hx hb B.returns (fun t9 ht9 _ => ⟨⟨_, (), rfl, ⟨hq, rfl⟩, by show va_P _ _ _ t9.heap; rw [ht9]; exact hP⟩, hS.F ht9⟩) hS.2.2 th_d_65 B.notSynchronized)
      · refine lv_tableIn (off := 47) (tgt := 66) hx hb th_d_19 (by decide) (by decide) (by decide) (by decide) ?_
        refine lv_aload_n hx hb th_d_66 rfl (lv_at hlv 2 rfl) ?_
        refine va_get (D := (dC, dI)) (own := "ShadowPool") (ref := "ShadowPool") (C := RX11) (T := TX11) (N := 16) hx hb hts (fun w h => hT w (th_u11 w h)) hown' hK hP 0 h11 rfl 9 (by decide) (th_wat hT hts 17 rfl) (fun _ h8 => h8) (v := .ref (base + 71)) (am_fs_get (f := 74) rfl) th_d_67 ?_
        refine va_get (D := (dC, dI)) (own := "ShadowPool") (ref := "ShadowPool$Scene") (C := RX7) (T := TX7) (N := 12) hx hb hts (fun w h => hT w (th_u7 w h)) hown' hK hP 71 h7 rfl 1 (by decide) (th_wat hT hts 18 rfl) (fun _ h8 => h8) (v := .ref (base + 72)) (am_fs_get (f := 75) rfl) th_d_70 ?_
        refine lv_iload_n hx hb th_d_73 rfl (lv_at hlv 1 rfl) ?_
        refine va_iald hx hb hK hP 72 0 (cA := dA 0) (n := 5) (f := m.1 72) (am_pw_get (g := (0, 5, [])) rfl) rfl hvin th_d_74 ?_
        rw [hcl]
        refine W.widen (k := 1) (n := 6) (by omega) (by omega) ?_
        exact vx_ret (W.iret hx hb B.returns (fun t9 ht9 _ => ⟨⟨_, (), rfl, ⟨hq, rfl⟩, by show va_P _ _ _ t9.heap; rw [ht9]; exact hP⟩, hS.F ht9⟩) hS.2.2 th_d_75 B.notSynchronized)
      · refine lv_tableIn (off := 57) (tgt := 76) hx hb th_d_19 (by decide) (by decide) (by decide) (by decide) ?_
        refine lv_aload_n hx hb th_d_76 rfl (lv_at hlv 2 rfl) ?_
        refine va_get (D := (dC, dI)) (own := "ShadowPool") (ref := "ShadowPool") (C := RX11) (T := TX11) (N := 16) hx hb hts (fun w h => hT w (th_u11 w h)) hown' hK hP 0 h11 rfl 7 (by decide) (th_wat hT hts 15 rfl) (fun _ h8 => h8) (v := .ref (base + 27)) (am_fs_get (f := 30) rfl) th_d_77 ?_
        refine va_get (D := (dC, dI)) (own := "ShadowPool") (ref := "ShadowPool$Told") (C := RX9) (T := TX9) (N := 18) hx hb hts (fun w h => hT w (th_u9 w h)) hown' hK hP 27 h9 rfl 3 (by decide) (th_wat hT hts 19 rfl) (fun _ h8 => h8) (v := .ref (base + 30)) (am_fs_get (f := 33) rfl) th_d_80 ?_
        refine lv_iload_n hx hb th_d_83 rfl (lv_at hlv 1 rfl) ?_
        refine va_iald hx hb hK hP 30 0 (cA := dA 0) (n := 5) (f := m.1 30) (am_pw_get (g := (0, 5, [])) rfl) rfl hvin th_d_84 ?_
        rw [hcl]
        refine W.widen (k := 1) (n := 6) (by omega) (by omega) ?_
        exact vx_ret (W.iret hx hb B.returns (fun t9 ht9 _ => ⟨⟨_, (), rfl, ⟨hq, rfl⟩, by show va_P _ _ _ t9.heap; rw [ht9]; exact hP⟩, hS.F ht9⟩) hS.2.2 th_d_85 B.notSynchronized)
      · refine lv_tableIn (off := 67) (tgt := 86) hx hb th_d_19 (by decide) (by decide) (by decide) (by decide) ?_
        refine lv_aload_n hx hb th_d_86 rfl (lv_at hlv 2 rfl) ?_
        refine va_get (D := (dC, dI)) (own := "ShadowPool") (ref := "ShadowPool") (C := RX11) (T := TX11) (N := 16) hx hb hts (fun w h => hT w (th_u11 w h)) hown' hK hP 0 h11 rfl 7 (by decide) (th_wat hT hts 15 rfl) (fun _ h8 => h8) (v := .ref (base + 27)) (am_fs_get (f := 30) rfl) th_d_87 ?_
        refine va_get (D := (dC, dI)) (own := "ShadowPool") (ref := "ShadowPool$Told") (C := RX9) (T := TX9) (N := 18) hx hb hts (fun w h => hT w (th_u9 w h)) hown' hK hP 27 h9 rfl 4 (by decide) (th_wat hT hts 20 rfl) (fun _ h8 => h8) (v := .ref (base + 31)) (am_fs_get (f := 34) rfl) th_d_90 ?_
        refine lv_iload_n hx hb th_d_93 rfl (lv_at hlv 1 rfl) ?_
        refine va_iald hx hb hK hP 31 0 (cA := dA 0) (n := 5) (f := m.1 31) (am_pw_get (g := (0, 5, [])) rfl) rfl hvin th_d_94 ?_
        rw [hcl]
        refine W.widen (k := 1) (n := 6) (by omega) (by omega) ?_
        exact vx_ret (W.iret hx hb B.returns (fun t9 ht9 _ => ⟨⟨_, (), rfl, ⟨hq, rfl⟩, by show va_P _ _ _ t9.heap; rw [ht9]; exact hP⟩, hS.F ht9⟩) hS.2.2 th_d_95 B.notSynchronized)
      · refine lv_tableIn (off := 77) (tgt := 96) hx hb th_d_19 (by decide) (by decide) (by decide) (by decide) ?_
        refine lv_aload_n hx hb th_d_96 rfl (lv_at hlv 2 rfl) ?_
        refine va_get (D := (dC, dI)) (own := "ShadowPool") (ref := "ShadowPool") (C := RX11) (T := TX11) (N := 16) hx hb hts (fun w h => hT w (th_u11 w h)) hown' hK hP 0 h11 rfl 7 (by decide) (th_wat hT hts 15 rfl) (fun _ h8 => h8) (v := .ref (base + 27)) (am_fs_get (f := 30) rfl) th_d_97 ?_
        refine va_get (D := (dC, dI)) (own := "ShadowPool") (ref := "ShadowPool$Told") (C := RX9) (T := TX9) (N := 18) hx hb hts (fun w h => hT w (th_u9 w h)) hown' hK hP 27 h9 rfl 6 (by decide) (th_wat hT hts 21 rfl) (fun _ h8 => h8) (v := .ref (base + 33)) (am_fs_get (f := 36) rfl) th_d_100 ?_
        refine lv_iload_n hx hb th_d_103 rfl (lv_at hlv 1 rfl) ?_
        refine va_iald hx hb hK hP 33 0 (cA := dA 0) (n := 5) (f := m.1 33) (am_pw_get (g := (0, 5, [])) rfl) rfl hvin th_d_104 ?_
        rw [hcl]
        refine W.widen (k := 1) (n := 6) (by omega) (by omega) ?_
        exact vx_ret (W.iret hx hb B.returns (fun t9 ht9 _ => ⟨⟨_, (), rfl, ⟨hq, rfl⟩, by show va_P _ _ _ t9.heap; rw [ht9]; exact hP⟩, hS.F ht9⟩) hS.2.2 th_d_105 B.notSynchronized)
      · refine lv_tableIn (off := 87) (tgt := 106) hx hb th_d_19 (by decide) (by decide) (by decide) (by decide) ?_
        refine lv_aload_n hx hb th_d_106 rfl (lv_at hlv 2 rfl) ?_
        refine va_get (D := (dC, dI)) (own := "ShadowPool") (ref := "ShadowPool") (C := RX11) (T := TX11) (N := 16) hx hb hts (fun w h => hT w (th_u11 w h)) hown' hK hP 0 h11 rfl 7 (by decide) (th_wat hT hts 15 rfl) (fun _ h8 => h8) (v := .ref (base + 27)) (am_fs_get (f := 30) rfl) th_d_107 ?_
        refine va_get (D := (dC, dI)) (own := "ShadowPool") (ref := "ShadowPool$Told") (C := RX9) (T := TX9) (N := 18) hx hb hts (fun w h => hT w (th_u9 w h)) hown' hK hP 27 h9 rfl 7 (by decide) (th_wat hT hts 22 rfl) (fun _ h8 => h8) (v := .ref (base + 34)) (am_fs_get (f := 37) rfl) th_d_110 ?_
        refine lv_iload_n hx hb th_d_113 rfl (lv_at hlv 1 rfl) ?_
        refine va_iald hx hb hK hP 34 0 (cA := dA 0) (n := 5) (f := m.1 34) (am_pw_get (g := (0, 5, [])) rfl) rfl hvin th_d_114 ?_
        rw [hcl]
        refine W.widen (k := 1) (n := 6) (by omega) (by omega) ?_
        exact vx_ret (W.iret hx hb B.returns (fun t9 ht9 _ => ⟨⟨_, (), rfl, ⟨hq, rfl⟩, by show va_P _ _ _ t9.heap; rw [ht9]; exact hP⟩, hS.F ht9⟩) hS.2.2 th_d_115 B.notSynchronized)
    · refine lv_if_ne (tgt := 18) hx hb th_d_5 (by decide) (fun _ => ?_) (fun h => absurd h (by decide))
      refine lv_iload_n hx hb th_d_18 rfl (lv_at hlv 0 rfl) ?_
      refine lv_tableOut (tgt := 116) hx hb th_d_19 ?_ (by decide) ?_
      · rcases Int.lt_or_le y.toInt 0 with h | h
        · exact Or.inl h
        · rcases Int.lt_or_le 5 y.toInt with h2 | h2
          · exact Or.inr h2
          · exfalso
            obtain ⟨k, hk⟩ := Int.eq_ofNat_of_zero_le h
            have hk6 : k < 6 := by omega
            refine hno k hk6 (Int32.toInt_inj.mp ?_)
            rw [hk, zn_i (by omega)]
      exact th_throw (own := "ShadowPool") (text := "no such what") (x := th_q1) (r := th_qs) (ik := 165) (is := 167) (ic := 169) (sa := sb) (A := A) hx hb hl hown' th_cbs (th_wat hT hts 3 rfl) (th_wat hT hts 4 rfl) hF.2.2.2.1 (th_hat2 hT hts hF) (hF.2.2.2.2.1.narrow hA2) (hF.2.2.2.2.2.narrow hA2) hS (hlv.1.trans hml.symm) th_d_116 th_d_119 th_d_120 th_d_122 th_d_125 (fun z hz => (ht z hz).elim) B.notSynchronized (by show 5 < 8; omega) (by show 0 + (13 * 3 + 43) ≤ 240; omega) (by show 0 + 1 ≤ 1; omega) (by show 0 + 6 ≤ 6; omega) (fun t a b d => hxc _ (Or.inr ⟨hq, rfl⟩) t a b d) hS.2.2 (Nat.le_refl _) (Nat.le_refl _)
  have hall : ∃ r : Int32, am_c 7 y_C_isThing [.ref 0, .int x] m = some (some (.int r), m) ∧ ((r = zn 0 ∧ q = 1) ∨ (r = zn 1 ∧ q = 0 ∧ ∃ t k, t < 5 ∧ x = zn t ∧ k < 6 ∧ y = zn k ∧ v = m.1 (thc k) t) ∨ (r = zn 1 ∧ q = 2 ∧ ∀ k, k < 6 → y ≠ zn k)) := by
    rcases hok with ⟨h1, h2⟩ | ⟨h1, h2, h3⟩ | ⟨h1, h2, h3⟩
    · exact ⟨_, h2, Or.inl ⟨rfl, h1⟩⟩
    · exact ⟨_, h2, Or.inr (Or.inl ⟨rfl, h1, h3⟩)⟩
    · exact ⟨_, h2, Or.inr (Or.inr ⟨rfl, h1, h3⟩)⟩
  obtain ⟨r, hr1, hr2⟩ := hall
  have go2 := am_inv (rest := []) (vs := [.ref 0, .int x]) (ins := .invokevirtual 135) (pc := 2) (cc := prog_1_method_7_code) (own := 11) ⟨hx, hb, hml, hown, hts, hK⟩ hT am_GK_ok (am_ok l fu 7) hNk (by show 7 + 1 ≤ 8; omega) (by show 30 * (7 + 1) ≤ 30 * 8; omega) (Nat.zero_le _) (Nat.zero_le _) hA1 am_m8 (st := [.int x, .ref 0]) rfl rfl (by decide) hr1 th_d_2 (Or.inl ⟨(11, 135, 44), by decide +kernel, rfl, rfl, rfl⟩) rfl (go5 r hr2)
  have hLe := am_LH.entry (base := base) (vs := [.ref 0, .int x, .int y]) (n := 3) (Nat.le_of_ble_eq_true rfl)
  rw [lg_entry_eq]
  have hgo := go2 s.heap [] _ hLe hP0 hD va_S.rf
  have hL2 := hLe.2.2.2
  refine lv_aload_n (x := base + 0) hx hb th_d_0 rfl (hL2 0 (.ref 0) rfl) ?_
  refine lv_iload_n hx hb th_d_1 rfl (hL2 1 (.int x) rfl) ?_
  exact hgo
