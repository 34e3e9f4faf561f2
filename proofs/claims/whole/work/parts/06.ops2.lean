/-! soundness: fields, arrays -/
def am_GK (G : List am_D) : Prop := ∀ (o ci : Nat) (fs : List Nat), am_at G o = some (4, ci, fs) → ∃ (C : String) (T : u_T) (N : Nat), vwCl[ci]? = some (C, T, N) ∧ fs.length = N ∧ (∀ w ∈ u_ws C T N, w ∈ am_TB) ∧ (∀ a, a < N → ∀ b, b < N → a ≠ b → (T a).2.1 ≠ (T b).2.1) ∧ (∃ ty0 : Nat → FieldType, ∀ k, k < N → parseFieldDescriptor (T k).2.2.1 = some (ty0 k)) ∧ ∀ (b f : Nat), am_at fs b = some f → (f = 0 → (T b).2.2.2 = false ∧ parseFieldDescriptor (T b).2.2.1 = some .int) ∧ (f = 1 → (T b).2.2.2 = false ∧ parseFieldDescriptor (T b).2.2.1 = some .boolean) ∧ (f = 2 → (T b).2.2.2 = false ∧ parseFieldDescriptor (T b).2.2.1 = some .long)
theorem am_fs_get {base o b f : Nat} {m : am_M} {fs : List Nat} (h : am_at fs b = some f) : (fs.mapIdx (fun j f => am_fv base m o j f))[b]? = some (am_fv base m o b f) := by
  rw [am_at_eq] at h
  simp [List.getElem?_mapIdx, h]
theorem am_fs_set {base o b f : Nat} {m m' : am_M} {fs : List Nat} (h : am_at fs b = some f) {x : Value} (hx : am_fv base m' o b f = x) (hn : ∀ j, j ≠ b → m'.1 o j = m.1 o j ∧ m'.2 o j = m.2 o j) : (fs.mapIdx (fun j f => am_fv base m o j f)).set b x = fs.mapIdx (fun j f => am_fv base m' o j f) := by
  rw [am_at_eq] at h
  have hl : b < fs.length := (List.getElem?_eq_some_iff.mp h).1
  apply List.ext_getElem?
  intro j
  by_cases hj : j = b
  · subst hj
    rw [List.getElem?_set_self (by simp [hl])]
    simp [List.getElem?_mapIdx, h, hx]
  · rw [List.getElem?_set_ne (Ne.symm hj)]
    simp only [List.getElem?_mapIdx]
    cases hg : fs[j]? with
    | none => rfl
    | some q =>
      simp only [Option.map_some, Option.some.injEq]
      unfold am_fv
      split <;> simp [(hn j hj).1, (hn j hj).2]
theorem am_oi_in {j : Int32} {n : Nat} (h : ¬ am_oi j n = true) : vp_in j n := by
  unfold am_oi at h
  simp only [Bool.or_eq_true, decide_eq_true_eq] at h
  exact h
theorem am_lt_of {α : Type} {l : List α} {n : Nat} {a : α} (h : am_at l n = some a) : n < l.length := by
  rw [am_at_eq] at h
  exact (List.getElem?_eq_some_iff.mp h).1
theorem am_D_any {G : List am_D} {dA : Nat → ClassId} {base : Nat} {m : am_M} (m' : am_M) {A : Nat → Prop} (h : va_D A (am_pw G dA base m)) : va_D A (am_pw G dA base m') := by
  have key : ∀ (k : Nat) (q : Nat × va_E), (am_pw G dA base m')[k]? = some q → ∃ q0, (am_pw G dA base m)[k]? = some q0 ∧ q0.1 = q.1 := by
    intro k q hq
    simp only [am_pw, List.getElem?_mapIdx, Option.map_eq_some_iff] at hq ⊢
    obtain ⟨g, hg, rfl⟩ := hq
    exact ⟨_, ⟨g, hg, rfl⟩, rfl⟩
  refine ⟨fun i j x y hi hj hxy => ?_, fun k q hq => ?_⟩
  · obtain ⟨x0, h1, h2⟩ := key i x hi
    obtain ⟨y0, h3, h4⟩ := key j y hj
    exact h.1 i j x0 y0 h1 h3 (by rw [h2, h4, hxy])
  · obtain ⟨q0, h1, h2⟩ := key k q hq
    rw [← h2]
    exact h.2 k q0 h1
theorem am_tk_eq {ci k : Nat} {q : vw_C} (h : vwCl[ci]? = some q) : am_tk ci k = q.2.1 k := by
  unfold am_tk
  rw [am_at_eq, h]
section AMT
variable {p : Program} {l : Launch} {e : Env} {R : Room} {s : State} {mi : MethodId} {args : Array Value} {below : List Frame} {meth : Method} {c : Code} {ce sl : Nat} {Q : State → Prop} {G : List am_D} {base : Nat} {dC : Nat → ClassId} {dI : Nat → Nat → Nat} {dA : Nat → ClassId} {A : Nat → Prop} {own nL : Nat} {cc : ByteArray} {Ts : List Cond}
variable {dp : Bool} {env : Nat → List Value → am_M → am_R} {rt : Nat} {k : Nat → am_L → List Value → am_M → am_R} {res : Option Value × am_M} {nx a b pc : Nat} {v : Int32} {w : Int64} {tl : List (Int32 × Nat)} {ls : am_L} {st : List Value} {m : am_M}
theorem am_o27 (hF : am_Fr p s mi args c own cc nL dC dI dA Ts) (hT : ∀ w ∈ am_TB, w ∈ Ts) (hG : am_GK G) (hI : am_Ik own cc pc (27, nx, a, b, v, w, tl))
    (hk : ∀ pc' ls' st' m', k pc' ls' st' m' = some res → am_Go p l e R s mi args below meth c ce sl Q G base dC dI dA A nL pc' ls' st' m') (h : am_step G dp env rt (27, nx, a, b, v, w, tl) ls st m k = some res) : am_Go p l e R s mi args below meth c ce sl Q G base dC dI dA A nL pc ls st m := by
  obtain ⟨hx, hb, hml, hown, hts, hK⟩ := hF
  obtain ⟨q, hq, hd, hn⟩ := hI
  dsimp only at hn
  simp only [am_cd, List.mem_map, List.mem_filter, Bool.and_eq_true, beq_iff_eq] at hq
  obtain ⟨r, ⟨hr, hr1, hr2, hr3⟩, rfl⟩ := hq
  subst hn
  have hlk := hts _ (hT _ (am_KF_ok r hr))
  rw [am_e27] at h
  split at h
  · rename_i o st'
    split at h
    · rename_i ci fs hgo
      split at h
      · rename_i hci
        obtain ⟨C, T, N, hcl, hfl, hin, hnm, -, -⟩ := hG o ci fs hgo
        have hin' : ∀ w ∈ u_ws C T N, w ∈ Ts := fun w hw => hT w (hin w hw)
        rw [hr1, hr2, hr3, ← hci, am_tk_eq hcl] at hlk
        have he : ∀ m, (am_pw G dA base m)[o]? = some (base + o, .inr (ci, fs.mapIdx (fun j f => am_fv base m o j f))) := fun m => am_pw_get hgo
        have hg : ∀ {f : Nat} {v : Value}, am_at fs b = some f → am_cv base v = am_fv base m o b f → k (pc + 3) ls (v :: st') m = some res → am_Go p l e R s mi args below meth c ce sl Q G base dC dI dA A nL pc ls (.ref o :: st') m := by
          intro f v hf hv h
          have h0 := hk _ _ _ _ h
          intro H locs arr hL hP hD hS
          have h1 := h0 H locs arr hL hP hD hS
          rw [List.map_cons, hv] at h1
          exact va_get (D := (dC, dI)) hx hb hts hin' hown hK hP o (he m) hcl b (by rw [← hfl]; exact am_lt_of hf) hlk (fun _ h9 => h9) (am_fs_get hf) hd h1
        split at h
        · rename_i hf; exact hg hf rfl h
        · rename_i hf; exact hg hf rfl h
        · rename_i hf; exact hg hf rfl h
        · rename_i f hf; exact hg hf rfl h
        · cases h
      · cases h
    · cases h
  · cases h
theorem am_o28 (hF : am_Fr p s mi args c own cc nL dC dI dA Ts) (hT : ∀ w ∈ am_TB, w ∈ Ts) (hG : am_GK G) (hI : am_Ik own cc pc (28, nx, a, b, v, w, tl))
    (hk : ∀ pc' ls' st' m', k pc' ls' st' m' = some res → am_Go p l e R s mi args below meth c ce sl Q G base dC dI dA A nL pc' ls' st' m') (h : am_step G dp env rt (28, nx, a, b, v, w, tl) ls st m k = some res) : am_Go p l e R s mi args below meth c ce sl Q G base dC dI dA A nL pc ls st m := by
  obtain ⟨hx, hb, hml, hown, hts, hK⟩ := hF
  obtain ⟨q, hq, hd, hn⟩ := hI
  dsimp only at hn
  simp only [am_cd, List.mem_map, List.mem_filter, Bool.and_eq_true, beq_iff_eq] at hq
  obtain ⟨r, ⟨hr, hr1, hr2, hr3⟩, rfl⟩ := hq
  subst hn
  have hlk := hts _ (hT _ (am_KF_ok r hr))
  have hg : ∀ {o ci : Nat} {fs : List Nat} {st' : List Value} {f : Nat} {ty : FieldType} {v : Value} {m' : am_M}, am_at G o = some (4, ci, fs) → ci = a → am_at fs b = some f → (∀ C T N, vwCl[ci]? = some (C, T, N) → (T b).2.2.2 = false ∧ parseFieldDescriptor (T b).2.2.1 = some ty) → am_cv base v = v → am_fv base m' o b f = v → narrow ty v = v → fits ty v = true → (∀ j, j ≠ o → m'.1 j = m.1 j ∧ m'.2 j = m.2 j) → (∀ j, j ≠ b → m'.1 o j = m.1 o j ∧ m'.2 o j = m.2 o j) → k (pc + 3) ls st' m' = some res → am_Go p l e R s mi args below meth c ce sl Q G base dC dI dA A nL pc ls (v :: .ref o :: st') m := by
    intro o ci fs st' f ty v m' hgo hci hf hfin hcv hfv hna hfi hn1 hn2 h
    obtain ⟨C, T, N, hcl, hfl, hin, hnm, ⟨ty0, hty⟩, -⟩ := hG o ci fs hgo
    have hin' : ∀ w ∈ u_ws C T N, w ∈ Ts := fun w hw => hT w (hin w hw)
    rw [hr1, hr2, hr3, ← hci, am_tk_eq hcl] at hlk
    obtain ⟨hf1, hf2⟩ := hfin C T N hcl
    have h0 := hk _ _ _ _ h
    intro H locs arr hL hP hD hS
    rw [List.map_cons, hcv]
    have he : (am_pw G dA base m)[o]? = some (base + o, .inr (ci, fs.mapIdx (fun j f => am_fv base m o j f))) := am_pw_get hgo
    have hset : (am_pw G dA base m).set o (base + o, .inr (ci, (fs.mapIdx (fun j f => am_fv base m o j f)).set b v)) = am_pw G dA base m' := am_pw_set hgo hn1 (by rw [am_fs_set hf hfv hn2]; rfl)
    refine va_put (D := (dC, dI)) hx hb hts hin' ty0 hty hnm hown hK hP hD hS o he hcl b (by rw [← hfl]; exact am_lt_of hf) hlk (fun _ h9 => h9) hf1 hf2 hna hfi (by simpa using am_lt_of hf) hd (fun H1 locs1 hP1 hD1 hS1 => ?_)
    rw [hset] at hP1 hD1
    exact h0 H1 locs1 arr hL hP1 hD1 hS1
  rw [am_e28] at h
  split at h
  · rename_i x o st'
    split at h
    · rename_i ci fs hgo
      split at h
      · rename_i hci
        obtain ⟨C, T, N, hcl, -, -, -, -, hfd⟩ := hG o ci fs hgo
        have hw1 : ∀ j, j ≠ o → (am_w m.1 o b x, m.2).1 j = m.1 j ∧ (am_w m.1 o b x, m.2).2 j = m.2 j := fun j hj => ⟨am_w_ne hj, rfl⟩
        have hw2 : ∀ j, j ≠ b → (am_w m.1 o b x, m.2).1 o j = m.1 o j ∧ (am_w m.1 o b x, m.2).2 o j = m.2 o j := fun j hj => ⟨by simp [am_w, upd, hj], rfl⟩
        have hw3 : am_w m.1 o b x o b = x := by simp [am_w, upd]
        split at h
        · rename_i hf
          exact hg hgo hci hf (ty := .int) (fun C' T' N' h' => by cases hcl.symm.trans h'; exact (hfd b 0 hf).1 rfl) rfl (congrArg Value.int hw3) rfl rfl hw1 hw2 h
        · rename_i hf
          split at h
          · rename_i hx0
            subst hx0
            exact hg hgo hci hf (ty := .boolean) (fun C' T' N' h' => by cases hcl.symm.trans h'; exact (hfd b 1 hf).2.1 rfl) rfl (congrArg Value.int hw3) rfl rfl hw1 hw2 h
          · split at h
            · rename_i hx0
              subst hx0
              exact hg hgo hci hf (ty := .boolean) (fun C' T' N' h' => by cases hcl.symm.trans h'; exact (hfd b 1 hf).2.1 rfl) rfl (congrArg Value.int hw3) rfl rfl hw1 hw2 h
            · cases h
        · cases h
      · cases h
    · cases h
  · rename_i x o st'
    split at h
    · rename_i ci fs hgo
      split at h
      · rename_i hci
        obtain ⟨C, T, N, hcl, -, -, -, -, hfd⟩ := hG o ci fs hgo
        split at h
        · rename_i hf
          exact hg hgo hci hf (ty := .long) (fun C' T' N' h' => by cases hcl.symm.trans h'; exact (hfd b 2 hf).2.2 rfl) rfl (m' := (m.1, am_wl m.2 o b x)) (congrArg Value.long (by simp [am_wl, vp_updL])) rfl rfl (fun j hj => ⟨rfl, am_wl_ne hj⟩) (fun j hj => ⟨rfl, by simp [am_wl, vp_updL, hj]⟩) h
        · cases h
      · cases h
    · cases h
  · cases h
theorem am_o29 (hF : am_Fr p s mi args c own cc nL dC dI dA Ts) (hI : am_Ik own cc pc (29, nx, a, b, v, w, tl))
    (hk : ∀ pc' ls' st' m', k pc' ls' st' m' = some res → am_Go p l e R s mi args below meth c ce sl Q G base dC dI dA A nL pc' ls' st' m') (h : am_step G dp env rt (29, nx, a, b, v, w, tl) ls st m k = some res) : am_Go p l e R s mi args below meth c ce sl Q G base dC dI dA A nL pc ls st m := by
  obtain ⟨hx, hb, hml, hown, hts, hK⟩ := hF
  rw [am_e29] at h
  split at h
  · split at h
    · rename_i hgo
      split at h
      · cases h
      · rename_i hj
        have h0 := hk _ _ _ _ h
        intro H locs arr hL hP hD hS
        have h1 := h0 H locs arr hL hP hD hS
        obtain ⟨q, hq, hd, hn⟩ := hI
        dsimp only at hn
        simp only [am_cd, List.mem_singleton] at hq
        subst hq
        subst hn
        exact va_iald hx hb hK hP _ 0 (am_pw_get hgo) rfl (am_oi_in hj) hd h1
    · cases h
  · cases h
theorem am_o33 (hF : am_Fr p s mi args c own cc nL dC dI dA Ts) (hI : am_Ik own cc pc (33, nx, a, b, v, w, tl))
    (hk : ∀ pc' ls' st' m', k pc' ls' st' m' = some res → am_Go p l e R s mi args below meth c ce sl Q G base dC dI dA A nL pc' ls' st' m') (h : am_step G dp env rt (33, nx, a, b, v, w, tl) ls st m k = some res) : am_Go p l e R s mi args below meth c ce sl Q G base dC dI dA A nL pc ls st m := by
  obtain ⟨hx, hb, hml, hown, hts, hK⟩ := hF
  rw [am_e33] at h
  split at h
  · split at h
    · rename_i hgo
      split at h
      · cases h
      · rename_i hj
        have h0 := hk _ _ _ _ h
        intro H locs arr hL hP hD hS
        have h1 := h0 H locs arr hL hP hD hS
        obtain ⟨q, hq, hd, hn⟩ := hI
        dsimp only at hn
        simp only [am_cd, List.mem_singleton] at hq
        subst hq
        subst hn
        exact va_lald hx hb hK hP _ 3 (am_pw_get hgo) rfl (am_oi_in hj) hd h1
    · cases h
  · cases h
theorem am_o31 (hF : am_Fr p s mi args c own cc nL dC dI dA Ts) (hI : am_Ik own cc pc (31, nx, a, b, v, w, tl))
    (hk : ∀ pc' ls' st' m', k pc' ls' st' m' = some res → am_Go p l e R s mi args below meth c ce sl Q G base dC dI dA A nL pc' ls' st' m') (h : am_step G dp env rt (31, nx, a, b, v, w, tl) ls st m k = some res) : am_Go p l e R s mi args below meth c ce sl Q G base dC dI dA A nL pc ls st m := by
  obtain ⟨hx, hb, hml, hown, hts, hK⟩ := hF
  rw [am_e31] at h
  split at h
  · split at h
    · rename_i hgo
      split at h
      · cases h
      · rename_i hj
        have h0 := hk _ _ _ _ h
        intro H locs arr hL hP hD hS
        have h1 := h0 H locs arr hL hP hD hS
        obtain ⟨q, hq, hd, hn⟩ := hI
        dsimp only at hn
        simp only [am_cd, List.mem_singleton] at hq
        subst hq
        subst hn
        exact va_bald hx hb hK hP _ 1 (am_pw_get hgo) rfl (am_oi_in hj) hd h1
    · rename_i hgo
      split at h
      · cases h
      · rename_i hj
        have h0 := hk _ _ _ _ h
        intro H locs arr hL hP hD hS
        have h1 := h0 H locs arr hL hP hD hS
        obtain ⟨q, hq, hd, hn⟩ := hI
        dsimp only at hn
        simp only [am_cd, List.mem_singleton] at hq
        subst hq
        subst hn
        exact va_zald hx hb hK hP _ 2 (am_pw_get hgo) rfl (am_oi_in hj) hd h1
    · cases h
  · cases h
theorem am_w_o {f : Nat → Nat → Int32} {o i : Nat} {x : Int32} : am_w f o i x o = upd (f o) i x := by simp [am_w]
theorem am_wl_o {f : Nat → Nat → Int64} {o i : Nat} {x : Int64} : am_wl f o i x o = vp_updL (f o) i x := by simp [am_wl]
theorem am_wc_o {f : Nat → Nat → Int32} {o0 o sp dp n : Nat} : am_wc f o0 o sp dp n o = va_cpy (f o0) (f o) sp dp n := by simp [am_wc]
theorem am_sto {t n o i : Nat} {fs : List Nat} {x : Int32} (hgo : am_at G o = some (t, n, fs)) (hce : ∀ m : am_M, am_ce dA base m o (t, n, fs) = .inl (dA t, n, .inl (m.1 o))) : (am_pw G dA base m).set o (base + o, .inl (dA t, n, .inl (upd (m.1 o) i x))) = am_pw G dA base (am_w m.1 o i x, m.2) :=
  am_pw_set hgo (fun i hi => ⟨am_w_ne hi, rfl⟩) (by rw [hce]; dsimp only; rw [am_w_o])
theorem am_stl {n o i : Nat} {fs : List Nat} {x : Int64} (hgo : am_at G o = some (3, n, fs)) : (am_pw G dA base m).set o (base + o, .inl (dA 3, n, .inr (.inl (vp_updL (m.2 o) i x)))) = am_pw G dA base (m.1, am_wl m.2 o i x) :=
  am_pw_set hgo (fun i hi => ⟨rfl, am_wl_ne hi⟩) (by
    show _ = (Sum.inl (dA 3, n, Sum.inr (Sum.inl (am_wl m.2 o i x o))) : va_E)
    rw [am_wl_o])
theorem am_stc {n0 n o0 o sp q z : Nat} {fs : List Nat} (hgo : am_at G o = some (0, n, fs)) : (am_pw G dA base m).set o (base + o, .inl (dA 0, n, .inl (va_cpy (m.1 o0) (m.1 o) sp q z))) = am_pw G dA base (am_wc m.1 o0 o sp q z, m.2) :=
  am_pw_set hgo (fun i hi => ⟨am_wc_ne hi, rfl⟩) (by
    show _ = (Sum.inl (dA 0, n, Sum.inl (am_wc m.1 o0 o sp q z o)) : va_E)
    rw [am_wc_o])
theorem am_o30 (hF : am_Fr p s mi args c own cc nL dC dI dA Ts) (hI : am_Ik own cc pc (30, nx, a, b, v, w, tl))
    (hk : ∀ pc' ls' st' m', k pc' ls' st' m' = some res → am_Go p l e R s mi args below meth c ce sl Q G base dC dI dA A nL pc' ls' st' m') (h : am_step G dp env rt (30, nx, a, b, v, w, tl) ls st m k = some res) : am_Go p l e R s mi args below meth c ce sl Q G base dC dI dA A nL pc ls st m := by
  obtain ⟨hx, hb, hml, hown, hts, hK⟩ := hF
  rw [am_e30] at h
  split at h
  · rename_i x j o st'
    split at h
    · rename_i n fs hgo
      split at h
      · cases h
      · rename_i hj
        have h0 := hk _ _ _ _ h
        intro H locs arr hL hP hD hS
        obtain ⟨q, hq, hd, hn⟩ := hI
        dsimp only at hn
        simp only [am_cd, List.mem_singleton] at hq
        subst hq
        subst hn
        refine va_iast hx hb hK hP hD hS o 0 (am_pw_get hgo) rfl (am_oi_in hj) hd (fun H1 locs1 hP1 hD1 hS1 => ?_)
        rw [am_sto hgo (fun _ => rfl)] at hP1 hD1
        exact h0 H1 locs1 arr hL hP1 hD1 hS1
    · cases h
  · cases h
theorem am_o32 (hF : am_Fr p s mi args c own cc nL dC dI dA Ts) (hI : am_Ik own cc pc (32, nx, a, b, v, w, tl))
    (hk : ∀ pc' ls' st' m', k pc' ls' st' m' = some res → am_Go p l e R s mi args below meth c ce sl Q G base dC dI dA A nL pc' ls' st' m') (h : am_step G dp env rt (32, nx, a, b, v, w, tl) ls st m k = some res) : am_Go p l e R s mi args below meth c ce sl Q G base dC dI dA A nL pc ls st m := by
  obtain ⟨hx, hb, hml, hown, hts, hK⟩ := hF
  rw [am_e32] at h
  split at h
  · rename_i x j o st'
    split at h
    · rename_i n fs hgo
      split at h
      · cases h
      · rename_i hj
        have h0 := hk _ _ _ _ h
        intro H locs arr hL hP hD hS
        obtain ⟨q, hq, hd, hn⟩ := hI
        dsimp only at hn
        simp only [am_cd, List.mem_singleton] at hq
        subst hq
        subst hn
        refine va_bast hx hb hK hP hD hS o 1 (am_pw_get hgo) rfl (am_oi_in hj) hd (fun H1 locs1 hP1 hD1 hS1 => ?_)
        rw [am_sto hgo (fun _ => rfl)] at hP1 hD1
        exact h0 H1 locs1 arr hL hP1 hD1 hS1
    · rename_i n fs hgo
      split at h
      · cases h
      · rename_i hj
        have h0 := hk _ _ _ _ h
        intro H locs arr hL hP hD hS
        obtain ⟨q, hq, hd, hn⟩ := hI
        dsimp only at hn
        simp only [am_cd, List.mem_singleton] at hq
        subst hq
        subst hn
        refine va_zast hx hb hK hP hD hS o 2 (am_pw_get hgo) rfl (am_oi_in hj) hd (fun H1 locs1 hP1 hD1 hS1 => ?_)
        rw [am_sto hgo (fun _ => rfl)] at hP1 hD1
        exact h0 H1 locs1 arr hL hP1 hD1 hS1
    · cases h
  · cases h
theorem am_o34 (hF : am_Fr p s mi args c own cc nL dC dI dA Ts) (hI : am_Ik own cc pc (34, nx, a, b, v, w, tl))
    (hk : ∀ pc' ls' st' m', k pc' ls' st' m' = some res → am_Go p l e R s mi args below meth c ce sl Q G base dC dI dA A nL pc' ls' st' m') (h : am_step G dp env rt (34, nx, a, b, v, w, tl) ls st m k = some res) : am_Go p l e R s mi args below meth c ce sl Q G base dC dI dA A nL pc ls st m := by
  obtain ⟨hx, hb, hml, hown, hts, hK⟩ := hF
  rw [am_e34] at h
  split at h
  · rename_i x j o st'
    split at h
    · rename_i n fs hgo
      split at h
      · cases h
      · rename_i hj
        have h0 := hk _ _ _ _ h
        intro H locs arr hL hP hD hS
        obtain ⟨q, hq, hd, hn⟩ := hI
        dsimp only at hn
        simp only [am_cd, List.mem_singleton] at hq
        subst hq
        subst hn
        refine va_last hx hb hK hP hD hS o 3 (am_pw_get hgo) rfl (am_oi_in hj) hd (fun H1 locs1 hP1 hD1 hS1 => ?_)
        rw [am_stl hgo] at hP1 hD1
        exact h0 H1 locs1 arr hL hP1 hD1 hS1
    · cases h
  · cases h
theorem am_o35 (hF : am_Fr p s mi args c own cc nL dC dI dA Ts) (hI : am_Ik own cc pc (35, nx, a, b, v, w, tl))
    (hk : ∀ pc' ls' st' m', k pc' ls' st' m' = some res → am_Go p l e R s mi args below meth c ce sl Q G base dC dI dA A nL pc' ls' st' m') (h : am_step G dp env rt (35, nx, a, b, v, w, tl) ls st m k = some res) : am_Go p l e R s mi args below meth c ce sl Q G base dC dI dA A nL pc ls st m := by
  obtain ⟨hx, hb, hml, hown, hts, hK⟩ := hF
  rw [am_e35] at h
  split at h
  · split at h
    · rename_i t n fs hgo
      split at h
      · rename_i ht
        have h0 := hk _ _ _ _ h
        intro H locs arr hL hP hD hS
        have h1 := h0 H locs arr hL hP hD hS
        obtain ⟨q, hq, hd, hn⟩ := hI
        dsimp only at hn
        simp only [am_cd, List.mem_singleton] at hq
        subst hq
        subst hn
        rcases t with _ | _ | _ | _ | t
        · exact va_alen hx hb hK hP _ 0 (am_pw_get hgo) (ty := .int) rfl rfl hd h1
        · exact va_alen hx hb hK hP _ 1 (am_pw_get hgo) (ty := .byte) rfl rfl hd h1
        · exact va_alen hx hb hK hP _ 2 (am_pw_get hgo) (ty := .boolean) rfl rfl hd h1
        · exact va_alen hx hb hK hP _ 3 (am_pw_get hgo) (ty := .long) rfl rfl hd h1
        · omega
      · cases h
    · cases h
  · cases h
theorem am_ms_at (hT : ∀ w ∈ am_TB, w ∈ Ts) (hts : ∀ w ∈ Ts, w.before args s = true) (i : Nat) {w : Cond} (h : am_ms[i]? = some w) : w.before args s = true := hts _ (hT _ (am_ms_ok _ (List.mem_of_getElem? h)))
theorem am_o39 (hF : am_Fr p s mi args c own cc nL dC dI dA Ts) (hT : ∀ w ∈ am_TB, w ∈ Ts) (hR : dp = true → 1 ≤ R.frames ∧ 30 ≤ R.locals) (hce : ce ≤ R.cells) (hsl : sl ≤ R.slots) (hI : am_Ik own cc pc (39, nx, a, b, v, w, tl))
    (hk : ∀ pc' ls' st' m', k pc' ls' st' m' = some res → am_Go p l e R s mi args below meth c ce sl Q G base dC dI dA A nL pc' ls' st' m') (h : am_step G dp env rt (39, nx, a, b, v, w, tl) ls st m k = some res) : am_Go p l e R s mi args below meth c ce sl Q G base dC dI dA A nL pc ls st m := by
  obtain ⟨hx, hb, hml, hown, hts, hK⟩ := hF
  obtain ⟨q, hq, hd, hn⟩ := hI
  dsimp only at hn
  simp only [am_cd, List.mem_map, List.mem_filter, Bool.and_eq_true, beq_iff_eq] at hq
  obtain ⟨r, ⟨hr, hr1, hr2⟩, rfl⟩ := hq
  subst hn
  have hlk := hts _ (hT _ (am_KX_ok r hr))
  rw [hr1, hr2] at hlk
  have ht := fun i w h => am_ms_at (w := w) hT hts i h
  rw [am_e39] at h
  split at h
  · cases h
  · obtain ⟨hR1, hR2⟩ := hR rfl
    have hg : ∀ {st' : List Value} {n : Nat}, ¬ 8 < am_ca st' → n ≤ 22 → ((st'.map (am_cv base)).map fun v => v.category).sum + n ≤ R.locals := fun h1 h2 => by rw [am_cv_ca]; omega
    split at h
    · split at h
      · split at h
        · cases h
        · rename_i hca
          have h0 := hk _ _ _ _ h
          intro H locs arr hL hP hD hS
          exact va_mabs hx hb (hml.trans hL.2.1.symm) hown hlk (ht 1 _ rfl) (ht 0 _ rfl) (ht 7 _ rfl) hR1 (hg hca (by omega)) hce hsl hd (h0 H locs arr hL hP hD hS)
      · cases h
    · split at h
      · split at h
        · cases h
        · rename_i hca
          have h0 := hk _ _ _ _ h
          intro H locs arr hL hP hD hS
          exact va_mmax hx hb (hml.trans hL.2.1.symm) hown hlk (ht 2 _ rfl) (ht 0 _ rfl) (ht 8 _ rfl) hR1 (hg hca (by omega)) hce hsl hd (h0 H locs arr hL hP hD hS)
      · cases h
    · split at h
      · split at h
        · cases h
        · rename_i hca
          have h0 := hk _ _ _ _ h
          intro H locs arr hL hP hD hS
          exact va_mmin hx hb (hml.trans hL.2.1.symm) hown hlk (ht 3 _ rfl) (ht 0 _ rfl) (ht 9 _ rfl) hR1 (hg hca (by omega)) hce hsl hd (h0 H locs arr hL hP hD hS)
      · cases h
    · split at h
      · split at h
        · cases h
        · rename_i hca
          have h0 := hk _ _ _ _ h
          intro H locs arr hL hP hD hS
          exact va_mabs_long hx hb (hml.trans hL.2.1.symm) hown hlk (ht 4 _ rfl) (ht 0 _ rfl) (ht 10 _ rfl) hR1 (hg hca (by omega)) hce hsl hd (h0 H locs arr hL hP hD hS)
      · cases h
    · split at h
      · split at h
        · cases h
        · rename_i hca
          have h0 := hk _ _ _ _ h
          intro H locs arr hL hP hD hS
          exact va_mmax_long hx hb (hml.trans hL.2.1.symm) hown hlk (ht 5 _ rfl) (ht 0 _ rfl) (ht 11 _ rfl) hR1 (hg hca (by omega)) hce hsl hd (h0 H locs arr hL hP hD hS)
      · cases h
    · rename_i n0 n1 n2 n3 n4
      have hlk : (Cond.methodLink (am_cn own) r.2.1 Lib.MathLoose.min_long.x).before args s = true := by
        unfold am_mx at hlk
        split at hlk
        · exact absurd rfl n0
        · exact absurd rfl n1
        · exact absurd rfl n2
        · exact absurd rfl n3
        · exact absurd rfl n4
        · exact hlk
      split at h
      · split at h
        · cases h
        · rename_i hca
          have h0 := hk _ _ _ _ h
          intro H locs arr hL hP hD hS
          exact va_mmin_long hx hb (hml.trans hL.2.1.symm) hown hlk (ht 6 _ rfl) (ht 0 _ rfl) (ht 12 _ rfl) hR1 (hg hca (by omega)) hce hsl hd (h0 H locs arr hL hP hD hS)
      · cases h
theorem am_o40 (hF : am_Fr p s mi args c own cc nL dC dI dA Ts) (hT : ∀ w ∈ am_TB, w ∈ Ts) (hR : dp = true → 1 ≤ R.frames ∧ 30 ≤ R.locals) (hI : am_Ik own cc pc (40, nx, a, b, v, w, tl))
    (hk : ∀ pc' ls' st' m', k pc' ls' st' m' = some res → am_Go p l e R s mi args below meth c ce sl Q G base dC dI dA A nL pc' ls' st' m') (h : am_step G dp env rt (40, nx, a, b, v, w, tl) ls st m k = some res) : am_Go p l e R s mi args below meth c ce sl Q G base dC dI dA A nL pc ls st m := by
  obtain ⟨hx, hb, hml, hown, hts, hK⟩ := hF
  obtain ⟨q, hq, hd, hn⟩ := hI
  dsimp only at hn
  simp only [am_cd, List.mem_map, List.mem_filter, beq_iff_eq] at hq
  obtain ⟨r, ⟨hr, hr1⟩, rfl⟩ := hq
  subst hn
  have hlk := hts _ (hT _ (am_KA_ok r hr))
  rw [hr1] at hlk
  have ht := fun i w h => am_ms_at (w := w) hT hts i h
  rw [am_e40] at h
  split at h
  · cases h
  · obtain ⟨hR1, hR2⟩ := hR rfl
    split at h
    · rename_i n q o sp o0 st'
      split at h
      · cases h
      · rename_i hca
        split at h
        · rename_i n0 fs0 hg0
          split at h
          · rename_i n1 fs1 hg1
            split at h
            · cases h
            · rename_i h1
              split at h
              · cases h
              · rename_i h2
                split at h
                · cases h
                · rename_i h3
                  split at h
                  · cases h
                  · rename_i h4
                    split at h
                    · cases h
                    · rename_i h5
                      have h0 := hk _ _ _ _ h
                      intro H locs arr hL hP hD hS
                      refine va_copyi hx hb (hml.trans hL.2.1.symm) hown hlk (ht 14 _ rfl) (ht 15 _ rfl) (ht 13 _ rfl) hK hP hD hS o0 o 0 0 (am_pw_get hg0) (am_pw_get hg1) rfl rfl rfl h1 h2 h3 (by omega) (by omega) (fun _ _ => rfl) hR1 (by rw [am_cv_ca]; show am_ca st' + (7 + 11) ≤ _; omega) hd (fun H1 locs1 hP1 hD1 hS1 => ?_)
                      rw [am_stc (n0 := n0) hg1] at hP1 hD1
                      exact h0 H1 locs1 arr hL hP1 hD1 hS1
          · cases h
        · cases h
    · cases h
end AMT
