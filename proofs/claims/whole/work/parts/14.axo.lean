/-! soundness of the machine of constructors: its instructions -/
def ax_Re (S fin : ax_S) : Prop := S.1.length ≤ fin.1.length ∧ ax_sz S.1 ≤ ax_sz fin.1 ∧ ax_Z fin
section AXO
variable {p : Program} {l : Launch} {e : Env} {R : Room} {s : State} {mi : MethodId} {args : Array Value} {below : List Frame} {meth : Method} {c : Code} {Q : State → Prop} {base : Nat} {dC : Nat → ClassId} {dI : Nat → Nat → Nat} {dA : Nat → ClassId} {A : Nat → Prop} {own : Nat} {cc : ByteArray} {Ts : List Cond} {nL n0 s0 o0 : Nat} {St : Nat → State → Prop}
variable {env : Nat → Nat → ax_S → Option ax_S} {d : Nat} {k : Nat → List Value → ax_S → Option (Nat × ax_S)} {fin : Nat × ax_S} {nx a b pc : Nat} {v : Int32} {w : Int64} {tl : List (Int32 × Nat)} {st : List Value} {S : ax_S} {Cont : Prop}
theorem ax_o0 (hH : ax_Hy p l R s mi args meth c base dC dI dA A own cc Ts St env d nL n0) (hI : ax_Ik own cc pc (0, nx, a, b, v, w, tl)) (hz : ax_Z S) (hn : n0 ≤ S.1.length ∧ s0 ≤ ax_sz S.1) (hRc : fin.2.1.length - n0 ≤ R.cells) (hRs : ax_sz fin.2.1 - s0 ≤ R.slots)
    (hk : ∀ pc' st' S', k pc' st' S' = some fin → ax_Z S' → n0 ≤ S'.1.length ∧ s0 ≤ ax_sz S'.1 → ax_Re S' fin.2 ∧ (Cont → ax_Go p l e R s mi args below meth c Q base dC dI dA A nL n0 s0 o0 pc' st' S')) (h : ax_step env (0, nx, a, b, v, w, tl) o0 st S k = some fin) : ax_Re S fin.2 ∧ (Cont → ax_Go p l e R s mi args below meth c Q base dC dI dA A nL n0 s0 o0 pc st S) := by
  obtain ⟨⟨hx, hb, hml, hown, hts, hK⟩, hs0, hT, hNk, hSt, hSt0, hA, hAb, hin2, hd0, hEv, hR1, hR2, hR3, hR4⟩ := hH
  rw [ax_e0] at h
  have h0 := hk _ _ _ h hz hn
  refine ⟨h0.1, fun hC => ?_⟩
  intro H locs arr hL hP hD hS
  have h1 := h0.2 hC H locs arr hL hP hD hS
  obtain ⟨q, hq, hd, hx2⟩ := hI
  dsimp only at hx2
  simp only [ax_cd, List.mem_cons, List.mem_append] at hq
  rcases hq with rfl | hq | hq
  · subst hx2
    exact lv_iconst hx hb hd (by simp) h1
  · split at hq
    · rename_i hv
      rw [List.mem_singleton] at hq
      subst hq
      subst hx2
      exact lv_bipush hx hb hd hv h1
    · cases hq
  · split at hq
    · rename_i hv
      rw [List.mem_singleton] at hq
      subst hq
      subst hx2
      exact lv_sipush hx hb hd hv h1
    · cases hq
theorem ax_o4 (hH : ax_Hy p l R s mi args meth c base dC dI dA A own cc Ts St env d nL n0) (hI : ax_Ik own cc pc (4, nx, a, b, v, w, tl)) (hz : ax_Z S) (hn : n0 ≤ S.1.length ∧ s0 ≤ ax_sz S.1) (hRc : fin.2.1.length - n0 ≤ R.cells) (hRs : ax_sz fin.2.1 - s0 ≤ R.slots)
    (hk : ∀ pc' st' S', k pc' st' S' = some fin → ax_Z S' → n0 ≤ S'.1.length ∧ s0 ≤ ax_sz S'.1 → ax_Re S' fin.2 ∧ (Cont → ax_Go p l e R s mi args below meth c Q base dC dI dA A nL n0 s0 o0 pc' st' S')) (h : ax_step env (4, nx, a, b, v, w, tl) o0 st S k = some fin) : ax_Re S fin.2 ∧ (Cont → ax_Go p l e R s mi args below meth c Q base dC dI dA A nL n0 s0 o0 pc st S) := by
  obtain ⟨⟨hx, hb, hml, hown, hts, hK⟩, hs0, hT, hNk, hSt, hSt0, hA, hAb, hin2, hd0, hEv, hR1, hR2, hR3, hR4⟩ := hH
  rw [ax_e4] at h
  split at h
  · rename_i ha
    subst ha
    have h0 := hk _ _ _ h hz hn
    refine ⟨h0.1, fun hC => ?_⟩
    intro H locs arr hL hP hD hS
    have h1 := h0.2 hC H locs arr hL hP hD hS
    have h2 := hL.2.2.2 0 (.ref o0) rfl
    obtain ⟨q, hq, hd, hx2⟩ := hI
    dsimp only at hx2
    rcases am_ld_mem hq with ⟨rfl, ha⟩ | rfl
    · subst hx2
      exact lv_aload_n hx hb hd ha h2 h1
    · subst hx2
      exact lv_aload hx hb hd h2 h1
  · cases h
theorem ax_o20 (hH : ax_Hy p l R s mi args meth c base dC dI dA A own cc Ts St env d nL n0) (hI : ax_Ik own cc pc (20, nx, a, b, v, w, tl)) (hz : ax_Z S) (hn : n0 ≤ S.1.length ∧ s0 ≤ ax_sz S.1) (hRc : fin.2.1.length - n0 ≤ R.cells) (hRs : ax_sz fin.2.1 - s0 ≤ R.slots)
    (hk : ∀ pc' st' S', k pc' st' S' = some fin → ax_Z S' → n0 ≤ S'.1.length ∧ s0 ≤ ax_sz S'.1 → ax_Re S' fin.2 ∧ (Cont → ax_Go p l e R s mi args below meth c Q base dC dI dA A nL n0 s0 o0 pc' st' S')) (h : ax_step env (20, nx, a, b, v, w, tl) o0 st S k = some fin) : ax_Re S fin.2 ∧ (Cont → ax_Go p l e R s mi args below meth c Q base dC dI dA A nL n0 s0 o0 pc st S) := by
  obtain ⟨⟨hx, hb, hml, hown, hts, hK⟩, hs0, hT, hNk, hSt, hSt0, hA, hAb, hin2, hd0, hEv, hR1, hR2, hR3, hR4⟩ := hH
  rw [ax_e20] at h
  split at h
  · split at h
    · rename_i hc
      have h0 := hk _ _ _ h hz hn
      refine ⟨h0.1, fun hC => ?_⟩
      intro H locs arr hL hP hD hS
      have h1 := h0.2 hC H locs arr hL hP hD hS
      obtain ⟨q, hq, hd, hx2⟩ := hI
      dsimp only at hx2
      simp only [ax_cd, List.mem_singleton] at hq
      subst hq
      subst hx2
      exact lv_dup hx hb hd (by rw [am_cv_cat]; exact hc) h1
    · cases h
  · cases h
theorem ax_o21 (hH : ax_Hy p l R s mi args meth c base dC dI dA A own cc Ts St env d nL n0) (hI : ax_Ik own cc pc (21, nx, a, b, v, w, tl)) (hz : ax_Z S) (hn : n0 ≤ S.1.length ∧ s0 ≤ ax_sz S.1) (hRc : fin.2.1.length - n0 ≤ R.cells) (hRs : ax_sz fin.2.1 - s0 ≤ R.slots)
    (hk : ∀ pc' st' S', k pc' st' S' = some fin → ax_Z S' → n0 ≤ S'.1.length ∧ s0 ≤ ax_sz S'.1 → ax_Re S' fin.2 ∧ (Cont → ax_Go p l e R s mi args below meth c Q base dC dI dA A nL n0 s0 o0 pc' st' S')) (h : ax_step env (21, nx, a, b, v, w, tl) o0 st S k = some fin) : ax_Re S fin.2 ∧ (Cont → ax_Go p l e R s mi args below meth c Q base dC dI dA A nL n0 s0 o0 pc st S) := by
  obtain ⟨⟨hx, hb, hml, hown, hts, hK⟩, hs0, hT, hNk, hSt, hSt0, hA, hAb, hin2, hd0, hEv, hR1, hR2, hR3, hR4⟩ := hH
  rw [ax_e21] at h
  split at h
  · split at h
    · rename_i hc
      have h0 := hk _ _ _ h hz hn
      refine ⟨h0.1, fun hC => ?_⟩
      intro H locs arr hL hP hD hS
      have h1 := h0.2 hC H locs arr hL hP hD hS
      obtain ⟨q, hq, hd, hx2⟩ := hI
      dsimp only at hx2
      simp only [ax_cd, List.mem_singleton] at hq
      subst hq
      subst hx2
      exact lv_pop hx hb hd (by rw [am_cv_cat]; exact hc) h1
    · cases h
  · cases h
theorem ax_o27 (hH : ax_Hy p l R s mi args meth c base dC dI dA A own cc Ts St env d nL n0) (hI : ax_Ik own cc pc (27, nx, a, b, v, w, tl)) (hz : ax_Z S) (hn : n0 ≤ S.1.length ∧ s0 ≤ ax_sz S.1) (hRc : fin.2.1.length - n0 ≤ R.cells) (hRs : ax_sz fin.2.1 - s0 ≤ R.slots)
    (hk : ∀ pc' st' S', k pc' st' S' = some fin → ax_Z S' → n0 ≤ S'.1.length ∧ s0 ≤ ax_sz S'.1 → ax_Re S' fin.2 ∧ (Cont → ax_Go p l e R s mi args below meth c Q base dC dI dA A nL n0 s0 o0 pc' st' S')) (h : ax_step env (27, nx, a, b, v, w, tl) o0 st S k = some fin) : ax_Re S fin.2 ∧ (Cont → ax_Go p l e R s mi args below meth c Q base dC dI dA A nL n0 s0 o0 pc st S) := by
  obtain ⟨⟨hx, hb, hml, hown, hts, hK⟩, hs0, hT, hNk, hSt, hSt0, hA, hAb, hin2, hd0, hEv, hR1, hR2, hR3, hR4⟩ := hH
  obtain ⟨q, hq, hd, hx2⟩ := hI
  dsimp only at hx2
  simp only [ax_cd, List.mem_map, List.mem_filter, Bool.and_eq_true, beq_iff_eq] at hq
  obtain ⟨r, ⟨hr, hr1, hr2, hr3⟩, rfl⟩ := hq
  subst hx2
  have hlk := hts _ (hT _ (ax_KF_ok r hr))
  rw [ax_e27] at h
  split at h
  · rename_i o st'
    split at h
    · rename_i ci fs hgo
      split at h
      · rename_i hci
        split at h
        · rename_i f hf
          have h0 := hk _ _ _ h hz hn
          refine ⟨h0.1, fun hC => ?_⟩
          intro H locs arr hL hP hD hS
          have h1 := h0.2 hC H locs arr hL hP hD hS
          obtain ⟨hcy, hfl, -⟩ := hz.2 o ci fs hgo
          obtain ⟨C, T, N, hcl, hC', hN, -, -, hin, -⟩ := ax_cls hcy
          have hin' : ∀ w ∈ u_ws C T N, w ∈ Ts := fun w hw => hT w (hin w hw)
          rw [hr1, hr2, hr3, ← hci, am_tk_eq hcl] at hlk
          exact va_get (D := (dC, dI)) hx hb hts hin' hown hK hP o (ax_pw_get hgo) hcl b (by rw [hN, ← hfl]; exact am_lt_of hf) hlk (fun _ h9 => h9) (ax_fs_get hf) hd h1
        · cases h
      · cases h
    · cases h
  · cases h
theorem ax_ref_fits {ty : FieldType} (h : refKind ty = true) (x : Nat) : narrow ty (.ref x) = .ref x ∧ fits ty (.ref x) = true := by
  cases ty <;> first | (exact ⟨rfl, rfl⟩) | (cases h)
theorem ax_at_set {α : Type} {l : List α} {i j : Nat} {x : α} : am_at (l.set i x) j = if i = j then (if i < l.length then some x else none) else am_at l j := by
  rw [am_at_eq, am_at_eq, List.getElem?_set]
theorem ax_GK_set {G : List am_D} {o ci x : Nat} {fs : List Nat} (h : ax_GK G) (hgo : am_at G o = some (4, ci, fs)) (hf : am_at fs b = some 3) : ax_GK (G.set o (4, ci, fs.set b (x + 4))) := by
  intro o' ci' fs' h'
  rw [ax_at_set] at h'
  split at h'
  · split at h'
    · cases h'
      obtain ⟨h1, h2, h3⟩ := h o ci fs hgo
      refine ⟨h1, by simpa using h2, fun j => ?_⟩
      rw [ax_at_set]
      split
      · refine ⟨fun q => ?_, fun q => ?_⟩ <;> (split at q <;> simp at q)
      · exact h3 j
    · cases h'
  · exact h o' ci' fs' h'
theorem ax_GK_push {G : List am_D} {g : am_D} (h : ax_GK G) (hg : ∀ ci fs, g = (4, ci, fs) → ci ∈ ax_ys ∧ fs = ax_df ci) : ax_GK (G ++ [g]) := by
  intro o ci fs h'
  rw [am_at_eq, List.getElem?_append] at h'
  split at h'
  · exact h o ci fs (by rw [am_at_eq]; exact h')
  · have hz : o - G.length < 1 := (List.getElem?_eq_some_iff.mp h').1
    rw [show o - G.length = 0 by omega] at h'
    have h2 : g = (4, ci, fs) := by simpa using h'
    obtain ⟨h3, h4⟩ := hg ci fs h2
    obtain ⟨C, T, N, -, -, hN, hl, -⟩ := ax_cls h3
    subst h4
    exact ⟨h3, by rw [hl, hN], fun b => ⟨fun q => q, fun q => q⟩⟩
theorem ax_fits0 {x : Int32} : narrow .int (.int x) = .int x ∧ fits .int (.int x) = true := ⟨rfl, rfl⟩
theorem ax_o28 (hH : ax_Hy p l R s mi args meth c base dC dI dA A own cc Ts St env d nL n0) (hI : ax_Ik own cc pc (28, nx, a, b, v, w, tl)) (hz : ax_Z S) (hn : n0 ≤ S.1.length ∧ s0 ≤ ax_sz S.1) (hRc : fin.2.1.length - n0 ≤ R.cells) (hRs : ax_sz fin.2.1 - s0 ≤ R.slots)
    (hk : ∀ pc' st' S', k pc' st' S' = some fin → ax_Z S' → n0 ≤ S'.1.length ∧ s0 ≤ ax_sz S'.1 → ax_Re S' fin.2 ∧ (Cont → ax_Go p l e R s mi args below meth c Q base dC dI dA A nL n0 s0 o0 pc' st' S')) (h : ax_step env (28, nx, a, b, v, w, tl) o0 st S k = some fin) : ax_Re S fin.2 ∧ (Cont → ax_Go p l e R s mi args below meth c Q base dC dI dA A nL n0 s0 o0 pc st S) := by
  obtain ⟨⟨hx, hb, hml, hown, hts, hK⟩, hs0, hT, hNk, hSt, hSt0, hA, hAb, hin2, hd0, hEv, hR1, hR2, hR3, hR4⟩ := hH
  obtain ⟨q, hq, hd, hx2⟩ := hI
  dsimp only at hx2
  simp only [ax_cd] at hq
  split at hq
  · rename_i hoa
    simp only [List.mem_map, List.mem_filter, Bool.and_eq_true, beq_iff_eq] at hq
    obtain ⟨r, ⟨hr, hr1, hr2, hr3⟩, rfl⟩ := hq
    subst hx2
    have hlk := hts _ (hT _ (ax_KF_ok r hr))
    rw [ax_e28] at h
    split at h
    · rename_i x o st'
      split at h
      · rename_i ci fs hgo
        split at h
        · rename_i hci
          split at h
          · rename_i hf
            obtain ⟨hcy, hfl, hdf⟩ := hz.2 o ci fs hgo
            have hn1 : ax_n1 (4, ci, fs.set b (x + 4)) = ax_n1 (4, ci, fs) := by simp [ax_n1]
            have hlen : (S.1.set o (4, ci, fs.set b (x + 4))).length = S.1.length := by simp
            have hsz2 := ax_sz_set hgo hn1
            have h0 := hk _ _ _ h ⟨fun k hk => hz.1 k (by rw [hlen] at hk; exact hk), ax_GK_set hz.2 hgo hf⟩ ⟨by rw [hlen]; exact hn.1, by rw [hsz2]; exact hn.2⟩
            refine ⟨⟨by rw [← hlen]; exact h0.1.1, by rw [← hsz2]; exact h0.1.2.1, h0.1.2.2⟩, fun hC => ?_⟩
            intro H locs arr hL hP hD hS
            obtain ⟨C, T, N, hcl, hC', hN, -, hdc, hin, hnm, ⟨ty0, hty⟩, hfd⟩ := ax_cls hcy
            have hin' : ∀ w ∈ u_ws C T N, w ∈ Ts := fun w hw => hT w (hin w hw)
            rw [hr1, hr2, hr3, ← hci, am_tk_eq hcl] at hlk
            obtain ⟨ty, ht1, -, -, ht2⟩ := hfd b 3 ((hdf b).2 hf)
            obtain ⟨ht3, ht4⟩ := ht2 rfl
            obtain ⟨f1, f2⟩ := ax_ref_fits ht3 (base + x)
            have hb2 : b < N := by rw [hN, ← hfl]; exact am_lt_of hf
            refine va_putF (D := (dC, dI)) (v := .ref (base + x)) hx hb hts hin' ty0 hty hnm hown hK hP hD hS o (ax_pw_get hgo) hcl b hb2 hlk (fun _ h9 => h9) ht4 hin2 (by rw [hdc b hb2, hci, hoa]) ht1 f1 f2 (by simpa using am_lt_of hf) hd (fun H1 locs1 hP1 hD1 hS1 => ?_)
            have hset : (ax_pw S.1 dA base S.2).set o (base + o, .inr (ci, (fs.mapIdx (fun j f => ax_fv base S.2 o j f)).set b (.ref (base + x)))) = ax_pw (S.1.set o (4, ci, fs.set b (x + 4))) dA base S.2 := ax_pw_set hgo (fun _ _ => ⟨rfl, rfl⟩) (by rw [ax_fs_set (base := base) (o := o) (m := S.2) (m' := S.2) (f' := x + 4) hf (x := .ref (base + x)) rfl (fun _ _ => ⟨rfl, rfl⟩)]; rfl)
            rw [hset] at hP1 hD1
            have h1 := h0.2 hC H1 locs1 arr hL hP1 hD1 hS1
            dsimp only at h1
            rw [hlen, hsz2] at h1
            exact h1
          · cases h
        · cases h
      · cases h
    · rename_i x o st'
      split at h
      · rename_i ci fs hgo
        split at h
        · rename_i hci
          split at h
          · rename_i hf
            obtain ⟨hcy, hfl, hdf⟩ := hz.2 o ci fs hgo
            have ho : o < S.1.length := am_lt_of hgo
            have h0 := hk _ _ _ h ⟨fun k hk => ⟨by
                show am_w S.2.1 o b x k = _
                have hko : k ≠ o := Nat.ne_of_gt (Nat.lt_of_lt_of_le ho hk)
                rw [am_w_ne hko]; exact (hz.1 k hk).1, (hz.1 k hk).2⟩, hz.2⟩ hn
            refine ⟨h0.1, fun hC => ?_⟩
            intro H locs arr hL hP hD hS
            obtain ⟨C, T, N, hcl, hC', hN, -, hdc, hin, hnm, ⟨ty0, hty⟩, hfd⟩ := ax_cls hcy
            have hin' : ∀ w ∈ u_ws C T N, w ∈ Ts := fun w hw => hT w (hin w hw)
            rw [hr1, hr2, hr3, ← hci, am_tk_eq hcl] at hlk
            obtain ⟨ty, ht1, -, ht2, -⟩ := hfd b 0 ((hdf b).1 hf)
            obtain ⟨ht3, ht4⟩ := ht2 rfl
            subst ht3
            have hb2 : b < N := by rw [hN, ← hfl]; exact am_lt_of hf
            refine va_put (D := (dC, dI)) (v := .int x) hx hb hts hin' ty0 hty hnm hown hK hP hD hS o (ax_pw_get hgo) hcl b hb2 hlk (fun _ h9 => h9) ht4 ht1 rfl rfl (by simpa using am_lt_of hf) hd (fun H1 locs1 hP1 hD1 hS1 => ?_)
            have hset : (ax_pw S.1 dA base S.2).set o (base + o, .inr (ci, (fs.mapIdx (fun j f => ax_fv base S.2 o j f)).set b (.int x))) = ax_pw S.1 dA base (am_w S.2.1 o b x, S.2.2) := by
              have h5 := ax_pw_set (dA := dA) (base := base) (m := S.2) (m' := (am_w S.2.1 o b x, S.2.2)) (g' := (4, ci, fs)) (x := .inr (ci, (fs.mapIdx (fun j f => ax_fv base S.2 o j f)).set b (.int x))) hgo (fun j hj => ⟨am_w_ne hj, rfl⟩) (by
                have h6 := ax_fs_set (base := base) (o := o) (m := S.2) (m' := (am_w S.2.1 o b x, S.2.2)) (f' := 0) hf (x := .int x) (by show Value.int (am_w S.2.1 o b x o b) = _; simp [am_w, upd]) (fun j hj => ⟨by simp [am_w, upd, hj], rfl⟩)
                rw [h6]
                have h7 : fs.set b 0 = fs := by
                  apply List.ext_getElem?
                  intro j
                  by_cases hj : j = b
                  · subst hj
                    rw [List.getElem?_set_self (am_lt_of hf), ← am_at_eq, hf]
                  · rw [List.getElem?_set_ne (Ne.symm hj)]
                rw [h7]
                rfl)
              rw [ax_set_id hgo] at h5
              exact h5
            rw [hset] at hP1 hD1
            exact h0.2 hC H1 locs1 arr hL hP1 hD1 hS1
          · cases h
        · cases h
      · cases h
    · cases h
  · cases hq
theorem ax_o30 (hH : ax_Hy p l R s mi args meth c base dC dI dA A own cc Ts St env d nL n0) (hI : ax_Ik own cc pc (30, nx, a, b, v, w, tl)) (hz : ax_Z S) (hn : n0 ≤ S.1.length ∧ s0 ≤ ax_sz S.1) (hRc : fin.2.1.length - n0 ≤ R.cells) (hRs : ax_sz fin.2.1 - s0 ≤ R.slots)
    (hk : ∀ pc' st' S', k pc' st' S' = some fin → ax_Z S' → n0 ≤ S'.1.length ∧ s0 ≤ ax_sz S'.1 → ax_Re S' fin.2 ∧ (Cont → ax_Go p l e R s mi args below meth c Q base dC dI dA A nL n0 s0 o0 pc' st' S')) (h : ax_step env (30, nx, a, b, v, w, tl) o0 st S k = some fin) : ax_Re S fin.2 ∧ (Cont → ax_Go p l e R s mi args below meth c Q base dC dI dA A nL n0 s0 o0 pc st S) := by
  obtain ⟨⟨hx, hb, hml, hown, hts, hK⟩, hs0, hT, hNk, hSt, hSt0, hA, hAb, hin2, hd0, hEv, hR1, hR2, hR3, hR4⟩ := hH
  rw [ax_e30] at h
  split at h
  · rename_i x j o st'
    split at h
    · rename_i n fs hgo
      split at h
      · cases h
      · rename_i hj
        have ho : o < S.1.length := am_lt_of hgo
        have h0 := hk _ _ _ h ⟨fun k hk => ⟨by
            show am_w S.2.1 o j.toNatClampNeg x k = _
            have hko : k ≠ o := Nat.ne_of_gt (Nat.lt_of_lt_of_le ho hk)
            rw [am_w_ne hko]; exact (hz.1 k hk).1, (hz.1 k hk).2⟩, hz.2⟩ hn
        refine ⟨h0.1, fun hC => ?_⟩
        intro H locs arr hL hP hD hS
        obtain ⟨q, hq, hd, hx2⟩ := hI
        dsimp only at hx2
        simp only [ax_cd, List.mem_singleton] at hq
        subst hq
        subst hx2
        refine va_iast hx hb hK hP hD hS o 0 (ax_pw_get hgo) rfl (am_oi_in hj) hd (fun H1 locs1 hP1 hD1 hS1 => ?_)
        have h5 := ax_pw_set (dA := dA) (base := base) (m := S.2) (m' := (am_w S.2.1 o j.toNatClampNeg x, S.2.2)) (g' := (0, n, fs)) (x := .inl (dA 0, n, .inl (upd (S.2.1 o) j.toNatClampNeg x))) hgo (fun i hi => ⟨am_w_ne hi, rfl⟩) (by
          show _ = (Sum.inl (dA 0, n, Sum.inl (am_w S.2.1 o j.toNatClampNeg x o)) : va_E)
          rw [am_w_o])
        rw [ax_set_id hgo] at h5
        rw [h5] at hP1 hD1
        exact h0.2 hC H1 locs1 arr hL hP1 hD1 hS1
    · cases h
  · cases h
theorem ax_o50 (hH : ax_Hy p l R s mi args meth c base dC dI dA A own cc Ts St env d nL n0) (hI : ax_Ik own cc pc (50, nx, a, b, v, w, tl)) (hz : ax_Z S) (hn : n0 ≤ S.1.length ∧ s0 ≤ ax_sz S.1) (hRc : fin.2.1.length - n0 ≤ R.cells) (hRs : ax_sz fin.2.1 - s0 ≤ R.slots)
    (hk : ∀ pc' st' S', k pc' st' S' = some fin → ax_Z S' → n0 ≤ S'.1.length ∧ s0 ≤ ax_sz S'.1 → ax_Re S' fin.2 ∧ (Cont → ax_Go p l e R s mi args below meth c Q base dC dI dA A nL n0 s0 o0 pc' st' S')) (h : ax_step env (50, nx, a, b, v, w, tl) o0 st S k = some fin) : ax_Re S fin.2 ∧ (Cont → ax_Go p l e R s mi args below meth c Q base dC dI dA A nL n0 s0 o0 pc st S) := by
  obtain ⟨⟨hx, hb, hml, hown, hts, hK⟩, hs0, hT, hNk, hSt, hSt0, hA, hAb, hin2, hd0, hEv, hR1, hR2, hR3, hR4⟩ := hH
  obtain ⟨q, hq, hd, hx2⟩ := hI
  dsimp only at hx2
  simp only [ax_cd] at hq
  split at hq
  · rename_i ha
    simp only [List.mem_map, List.mem_filter, Bool.and_eq_true, beq_iff_eq] at hq
    obtain ⟨r, ⟨hr, hr1, hr2⟩, rfl⟩ := hq
    subst hx2
    have hay : a ∈ ax_ys := List.mem_range.mpr ha
    have hlk := hts _ (hT _ (ax_KC_ok r hr))
    rw [hr1, hr2] at hlk
    rw [ax_e50] at h
    obtain ⟨C, T, N, hcl, hC', hN, hdl, hdc, hin, hnm, ⟨ty0, hty⟩, hfd⟩ := ax_cls hay
    have hsz2 : ax_sz (S.1 ++ [(4, a, ax_df a)]) = ax_sz S.1 + N := by rw [ax_sz_push, ← hdl]; rfl
    have hlen : (S.1 ++ [((4, a, ax_df a) : am_D)]).length = S.1.length + 1 := by simp
    have h0 := hk _ _ _ h ⟨fun k hk => hz.1 k (by rw [hlen] at hk; omega), ax_GK_push hz.2 (fun ci fs he => by cases he; exact ⟨hay, rfl⟩)⟩ ⟨by rw [hlen]; have := hn.1; omega, by rw [hsz2]; have := hn.2; omega⟩
    have hr1 := h0.1.1
    have hr2 := h0.1.2.1
    rw [hlen] at hr1
    rw [hsz2] at hr2
    refine ⟨⟨by omega, by omega, h0.1.2.2⟩, fun hC => ?_⟩
    intro H locs arr hL hP hD hS
    have hlo := ax_low (by have := hS.1; omega) hP
    refine ax_sized (n := base + S.1.length) (by have := hn.1; omega) hlo (fun hsz => ?_)
    have hin' : ∀ w ∈ u_ws C T N, w ∈ Ts := fun w hw => hT w (hin w hw)
    have hKn := hK.1 a _ hcl
    have hi1 := hts _ (hT _ (ax_in_ok a hay))
    have hi2 := hts _ (hT _ (ax_it_ok a hay))
    rw [← hC', ← hN] at hi1
    rw [← hC'] at hi2 hlk
    refine W.newcK hx hb hown hlk hi1 hi2 rfl hd (by have := hn.1; omega) (by have := hn.2; omega) hKn.2.1 hsz (fun H1 kC hkC e1 z1 o1 => ?_)
    have h1 := h0.2 hC H1 locs arr hL ?_ ?_ ⟨Nat.le_trans hS.1 (by omega), fun x h1 h2 => (o1 x (by have := hS.1; omega)).trans (hS.2.1 x h1 h2), hS.2.2⟩
    · dsimp only at h1
      rw [hlen, hsz2, show S.1.length + 1 - n0 = S.1.length - n0 + 1 by have := hn.1; omega, show ax_sz S.1 + N - s0 = ax_sz S.1 - s0 + N by have := hn.2; omega] at h1
      exact h1
    · rw [ax_pw_push]
      refine (hP.kept (fun k x hx => o1 x.1 (by have := (hP k x hx).lt; omega))).app (fun k x hx => ?_)
      have hz1 : k < 1 := (List.getElem?_eq_some_iff.mp hx).1
      rw [show k = 0 by omega] at hx
      cases hx
      refine ⟨_, hcl, (u_born ty0 hts hin' hKn hkC e1 hty).to (fun j hj => ?_)⟩
      have hj2 : j < (ax_df a).length := by rw [hdl]; exact hj
      have hfj : am_at (ax_df a) j = some ((ax_df a)[j]) := by rw [am_at_eq]; exact List.getElem?_eq_getElem hj2
      obtain ⟨ty, t1, ⟨t2, t4⟩, -⟩ := hfd j _ hfj
      have t3 : ty0 j = ty := Option.some.inj ((hty j hj).symm.trans t1)
      rw [t3, t2]
      have h8 := ax_fs_get (base := base) (o := S.1.length) (m := S.2) hfj
      unfold vp_V
      rw [List.getD_eq_getElem?_getD, h8]
      have hzz := hz.1 S.1.length (Nat.le_refl _)
      rw [Option.getD_some]
      generalize (ax_df a)[j] = f at t4
      rcases f with _ | _ | _ | _ | f
      · show Value.int 0 = Value.int (S.2.1 S.1.length j); rw [hzz.1]
      · show Value.int 0 = Value.int (S.2.1 S.1.length j); rw [hzz.1]
      · show Value.long 0 = Value.long (S.2.2 S.1.length j); rw [hzz.2]
      · rfl
      · omega
    · rw [ax_pw_push]
      exact hD.push hP hsz.symm (hA _ (by omega))
  · cases hq
theorem ax_arr {t : Nat} {ty : FieldType} {cA : ClassId} (hK : va_K (dC, dI) vwCl (am_ty dA) s) (ht : (am_ty dA)[t]? = some (dA t, ty)) (hp : ty = .int ∨ ty = .byte ∨ ty = .boolean ∨ ty = .long) (hc : s.vm.findClass ("[" ++ ty.toString) = some cA) : cA = dA t := by
  have h := (hK.2 t _ ht).2
  rcases hp with rfl | rfl | rfl | rfl <;> exact Option.some.inj (hc.symm.trans h)
theorem ax_o51 (hH : ax_Hy p l R s mi args meth c base dC dI dA A own cc Ts St env d nL n0) (hI : ax_Ik own cc pc (51, nx, a, b, v, w, tl)) (hz : ax_Z S) (hn : n0 ≤ S.1.length ∧ s0 ≤ ax_sz S.1) (hRc : fin.2.1.length - n0 ≤ R.cells) (hRs : ax_sz fin.2.1 - s0 ≤ R.slots)
    (hk : ∀ pc' st' S', k pc' st' S' = some fin → ax_Z S' → n0 ≤ S'.1.length ∧ s0 ≤ ax_sz S'.1 → ax_Re S' fin.2 ∧ (Cont → ax_Go p l e R s mi args below meth c Q base dC dI dA A nL n0 s0 o0 pc' st' S')) (h : ax_step env (51, nx, a, b, v, w, tl) o0 st S k = some fin) : ax_Re S fin.2 ∧ (Cont → ax_Go p l e R s mi args below meth c Q base dC dI dA A nL n0 s0 o0 pc st S) := by
  obtain ⟨⟨hx, hb, hml, hown, hts, hK⟩, hs0, hT, hNk, hSt, hSt0, hA, hAb, hin2, hd0, hEv, hR1, hR2, hR3, hR4⟩ := hH
  obtain ⟨q, hq, hd, hx2⟩ := hI
  dsimp only at hx2
  simp only [ax_cd, List.mem_singleton] at hq
  subst hq
  subst hx2
  rw [ax_e51] at h
  split at h
  · rename_i n st'
    split at h
    · cases h
    · rename_i hn0
      split at h
      · cases h
      · rename_i hn8
        split at h
        · cases h
        · rename_i ha3
          have hsz2 : ax_sz (S.1 ++ [(a, n.toNatClampNeg, [])]) = ax_sz S.1 + n.toNatClampNeg := by
            rw [ax_sz_push]
            unfold ax_n1
            rw [if_neg (by show ¬ a = 4; omega)]
          have hlen : (S.1 ++ [((a, n.toNatClampNeg, []) : am_D)]).length = S.1.length + 1 := by simp
          have h0 := hk _ _ _ h ⟨fun k hk => hz.1 k (by rw [hlen] at hk; omega), ax_GK_push hz.2 (fun ci fs he => by cases he; omega)⟩ ⟨by rw [hlen]; have := hn.1; omega, by rw [hsz2]; have := hn.2; omega⟩
          have hr1 := h0.1.1
          have hr2 := h0.1.2.1
          rw [hlen] at hr1
          rw [hsz2] at hr2
          refine ⟨⟨by omega, by omega, h0.1.2.2⟩, fun hC => ?_⟩
          intro H locs arr hL hP hD hS
          have hlo := ax_low (by have := hS.1; omega) hP
          refine ax_sized (n := base + S.1.length) (by have := hn.1; omega) hlo (fun hsz => ?_)
          have hzz := hz.1 S.1.length (Nat.le_refl _)
          have fin1 : ∀ (H1 : Heap) (E : va_E), H1[base + S.1.length]? = some (match E with | .inl x => vp_cell x.1 x.2 | .inr _ => vp_cell 0 (0, .inl fun _ => 0)) → (∃ x, E = .inl x) → E = ax_ce dA base S.2 S.1.length (a, n.toNatClampNeg, []) → H1.size = base + S.1.length + 1 → (∀ q, q < base + S.1.length → H1[q]? = H[q]?) → W p l e R s mi args below meth c H1 locs (S.1.length - n0 + 1) (ax_sz S.1 - s0 + n.toNatClampNeg) Q (F0 mi (pc + 2) arr ((Value.ref S.1.length :: st').map (am_cv base))) := by
            intro H1 E e1 hE e2 z1 o1
            have h1 := h0.2 hC H1 locs arr hL ?_ ?_ ⟨Nat.le_trans hS.1 (by omega), fun x h1 h2 => (o1 x (by have := hS.1; omega)).trans (hS.2.1 x h1 h2), hS.2.2⟩
            · dsimp only at h1
              rw [hlen, hsz2, show S.1.length + 1 - n0 = S.1.length - n0 + 1 by have := hn.1; omega, show ax_sz S.1 + n.toNatClampNeg - s0 = ax_sz S.1 - s0 + n.toNatClampNeg by have := hn.2; omega] at h1
              exact h1
            · rw [ax_pw_push, ← e2]
              refine (hP.kept (fun k x hx => o1 x.1 (by have := (hP k x hx).lt; omega))).app (fun k x hx => ?_)
              have hz1 : k < 1 := (List.getElem?_eq_some_iff.mp hx).1
              rw [show k = 0 by omega] at hx
              cases hx
              obtain ⟨x, rfl⟩ := hE
              exact e1
            · rw [ax_pw_push]
              exact hD.push hP hsz.symm (hA _ (by omega))
          have hbt : ∀ z, z ≤ 8 → n.toNatClampNeg * z ≤ 536870912 := by
            intro z hz8
            have : n.toNatClampNeg * z ≤ 8000 * 8 := Nat.mul_le_mul (by omega) hz8
            omega
          rcases a with _ | _ | _ | _ | a
          · refine va_newaK (atype := .int) (g := F0 mi pc arr ((Value.int n :: st').map (am_cv base))) hx hb (hts _ (hT _ (ax_ar_ok .int (by simp)))) rfl hd rfl hn0 rfl (hbt _ (by decide)) (by have := hn.1; omega) (by have := hn.2; omega) hsz (fun H1 cA e1 z1 o1 hAr hNm => ?_)
            have hc := ax_arr hK (t := 0) rfl (Or.inl rfl) hNm
            subst hc
            refine fin1 H1 (.inl (dA 0, n.toNatClampNeg, .inl (S.2.1 S.1.length))) ?_ ⟨_, rfl⟩ rfl z1 o1
            rw [hzz.1]
            exact e1
          · refine va_newaK (atype := .byte) (g := F0 mi pc arr ((Value.int n :: st').map (am_cv base))) hx hb (hts _ (hT _ (ax_ar_ok .byte (by simp)))) rfl hd rfl hn0 rfl (hbt _ (by decide)) (by have := hn.1; omega) (by have := hn.2; omega) hsz (fun H1 cA e1 z1 o1 hAr hNm => ?_)
            have hc := ax_arr hK (t := 1) rfl (Or.inr (Or.inl rfl)) hNm
            subst hc
            refine fin1 H1 (.inl (dA 1, n.toNatClampNeg, .inl (S.2.1 S.1.length))) ?_ ⟨_, rfl⟩ rfl z1 o1
            rw [hzz.1]
            exact e1
          · refine va_newaK (atype := .boolean) (g := F0 mi pc arr ((Value.int n :: st').map (am_cv base))) hx hb (hts _ (hT _ (ax_ar_ok .boolean (by simp)))) rfl hd rfl hn0 rfl (hbt _ (by decide)) (by have := hn.1; omega) (by have := hn.2; omega) hsz (fun H1 cA e1 z1 o1 hAr hNm => ?_)
            have hc := ax_arr hK (t := 2) rfl (Or.inr (Or.inr (Or.inl rfl))) hNm
            subst hc
            refine fin1 H1 (.inl (dA 2, n.toNatClampNeg, .inl (S.2.1 S.1.length))) ?_ ⟨_, rfl⟩ rfl z1 o1
            rw [hzz.1]
            exact e1
          · refine va_newaK (atype := .long) (g := F0 mi pc arr ((Value.int n :: st').map (am_cv base))) hx hb (hts _ (hT _ (ax_ar_ok .long (by simp)))) rfl hd rfl hn0 rfl (hbt _ (by decide)) (by have := hn.1; omega) (by have := hn.2; omega) hsz (fun H1 cA e1 z1 o1 hAr hNm => ?_)
            have hc := ax_arr hK (t := 3) rfl (Or.inr (Or.inr (Or.inr rfl))) hNm
            subst hc
            refine fin1 H1 (.inl (dA 3, n.toNatClampNeg, .inr (.inl (S.2.2 S.1.length)))) ?_ ⟨_, rfl⟩ rfl z1 o1
            rw [hzz.2]
            exact e1
          · omega
  · cases h
theorem ax_o52 (hH : ax_Hy p l R s mi args meth c base dC dI dA A own cc Ts St env d nL n0) (hI : ax_Ik own cc pc (52, nx, a, b, v, w, tl)) (hz : ax_Z S) (hn : n0 ≤ S.1.length ∧ s0 ≤ ax_sz S.1) (hRc : fin.2.1.length - n0 ≤ R.cells) (hRs : ax_sz fin.2.1 - s0 ≤ R.slots)
    (hk : ∀ pc' st' S', k pc' st' S' = some fin → ax_Z S' → n0 ≤ S'.1.length ∧ s0 ≤ ax_sz S'.1 → ax_Re S' fin.2 ∧ (Cont → ax_Go p l e R s mi args below meth c Q base dC dI dA A nL n0 s0 o0 pc' st' S')) (h : ax_step env (52, nx, a, b, v, w, tl) o0 st S k = some fin) : ax_Re S fin.2 ∧ (Cont → ax_Go p l e R s mi args below meth c Q base dC dI dA A nL n0 s0 o0 pc st S) := by
  obtain ⟨⟨hx, hb, hml, hown, hts, hK⟩, hs0, hT, hNk, hSt, hSt0, hA, hAb, hin2, hd0, hEv, hR1, hR2, hR3, hR4⟩ := hH
  obtain ⟨q, hq, hd, hx2⟩ := hI
  dsimp only at hx2
  simp only [ax_cd, List.mem_map, List.mem_filter, beq_iff_eq] at hq
  obtain ⟨r, ⟨hr, hr1⟩, rfl⟩ := hq
  subst hx2
  have hlk := hts _ (hT _ (ax_KO_ok r hr))
  rw [hr1] at hlk
  rw [ax_e52] at h
  split at h
  · rename_i o st'
    split at h
    · cases h
    · rename_i hca
      have h0 := hk _ _ _ h hz hn
      refine ⟨h0.1, fun hC => ?_⟩
      intro H locs arr hL hP hD hS
      have h1 := h0.2 hC H locs arr hL hP hD hS
      have hrm : 2 * (F0 mi pc arr ((Value.ref o :: st').map (am_cv base))).monitorRoom + ((st'.map (am_cv base)).map fun v => v.category).sum ≤ 8 := lv_room (by rw [am_cv_ca]; omega)
      exact W.objInit (g := F0 mi pc arr ((Value.ref o :: st').map (am_cv base))) hx hb hown hlk (hts _ (hT _ (ax_ob_ok _ (by simp)))) (hts _ (hT _ (ax_ob_ok _ (by simp)))) rfl (by rw [hml]; exact hL.2.1) rfl hd hR1 (by omega) h1
  · cases h
theorem ax_o53 (hH : ax_Hy p l R s mi args meth c base dC dI dA A own cc Ts St env d nL n0) (hI : ax_Ik own cc pc (53, nx, a, b, v, w, tl)) (hz : ax_Z S) (hn : n0 ≤ S.1.length ∧ s0 ≤ ax_sz S.1) (hRc : fin.2.1.length - n0 ≤ R.cells) (hRs : ax_sz fin.2.1 - s0 ≤ R.slots)
    (hk : ∀ pc' st' S', k pc' st' S' = some fin → ax_Z S' → n0 ≤ S'.1.length ∧ s0 ≤ ax_sz S'.1 → ax_Re S' fin.2 ∧ (Cont → ax_Go p l e R s mi args below meth c Q base dC dI dA A nL n0 s0 o0 pc' st' S')) (h : ax_step env (53, nx, a, b, v, w, tl) o0 st S k = some fin) : ax_Re S fin.2 ∧ (Cont → ax_Go p l e R s mi args below meth c Q base dC dI dA A nL n0 s0 o0 pc st S) := by
  obtain ⟨⟨hx, hb, hml, hown, hts, hK⟩, hs0, hT, hNk, hSt, hSt0, hA, hAb, hin2, hd0, hEv, hR1, hR2, hR3, hR4⟩ := hH
  rw [ax_e53] at h
  split at h
  · rename_i o st'
    split at h
    · cases h
    · rename_i hca
      split at h
      · rename_i S' hev
        obtain ⟨q, hq, hd, hx2⟩ := hI
        dsimp only at hx2
        simp only [ax_cd] at hq
        split at hq
        · rename_i ha
          have hay : a ∈ ax_ys := List.mem_range.mpr ha
          rcases d with _ | d0
          · rw [hd0 rfl] at hev
            cases hev
          · obtain ⟨-, ⟨hr1, hr2, hr3⟩, ho, hmet⟩ := hEv d0 rfl a o S S' hev hz
            have h0 := hk _ _ _ h hr3 ⟨by have := hn.1; omega, by have := hn.2; omega⟩
            have hf1 := h0.1.1
            have hf2 := h0.1.2.1
            refine ⟨⟨by omega, by omega, h0.1.2.2⟩, fun hC => ?_⟩
            intro H locs arr hL hP hD hS
            have hlo := ax_low (by have := hS.1; omega) hP
            refine ax_sized (n := base + S.1.length) (by have := hn.1; omega) hlo (fun hsz => ?_)
            obtain ⟨hy1, hy2, hy3, hy4, hy5, hy6⟩ := ax_yq a hay
            have hmt := hmet base dC dI dA
            have hgd := ax_good hT hay
            have hini : (Cond.initialized (ax_yn a).cls).before args s = true := hts _ (hT _ (ax_yc_ok a hay))
            have hyi := hts _ (hT _ (ax_yi_ok a hay))
            have hRR : (ax_rm d0 (S'.1.length - S.1.length) (ax_sz S'.1 - ax_sz S.1)).frames + 1 ≤ R.frames ∧ 8 + ((ax_yd a).2.2 + 11) + (ax_rm d0 (S'.1.length - S.1.length) (ax_sz S'.1 - ax_sz S.1)).locals ≤ R.locals := ⟨hR2, by show 8 + ((ax_yd a).2.2 + 11) + 30 * d0 ≤ R.locals; omega⟩
            have hfit : S.1.length - n0 + (S'.1.length - S.1.length) ≤ R.cells ∧ ax_sz S.1 - s0 + (ax_sz S'.1 - ax_sz S.1) ≤ R.slots := ⟨by have := hn.1; omega, by have := hn.2; omega⟩
            have hFr : ∀ q, va_A (ax_pw S.1 dA base S.2) (base + S.1.length) q → A q := by
              intro q h
              rcases h with ⟨k, e, h⟩ | h
              · exact hD.2 k (q, e) h
              · exact hA q (by have := hn.1; omega)
            have hpre : ∀ U : State, U.heap = H → s.WarmedH U.vm → ax_Pc St base dC dI dA o S ((Value.ref (base + o) :: ([] : List Value))).toArray U := by
              intro U hU hW
              refine ⟨rfl, by rw [hU]; exact hsz, by rw [hU]; exact hP, va_K.moved hW.alike hK, hD.weaken (fun _ _ _ _ => trivial), fun q hq => va_Nw.warmM hW (hNk q hq), hSt.2 base s U (fun q hq => ?_) hW hSt0⟩
              rw [hU]
              exact hS.2.1 q (by omega) (fun z => by have := hAb q z; omega)
            have kk : ∀ (H1 : Heap) (locs1 : List Loc), va_P (dC, dI) vwCl (ax_pw S'.1 dA base S'.2) H1 → va_S A s.heap H1 locs1 → W p l e R s mi args below meth c H1 locs1 (S.1.length - n0 + (S'.1.length - S.1.length)) (ax_sz S.1 - s0 + (ax_sz S'.1 - ax_sz S.1)) Q (F0 mi (pc + 3) arr (st'.map (am_cv base))) := by
              intro H1 locs1 hP1 hS1
              have h1 := h0.2 hC H1 locs1 arr hL hP1 (ax_D_grow (S := S) (fun k hk => ?_)) hS1
              · rw [show S.1.length - n0 + (S'.1.length - S.1.length) = S'.1.length - n0 by have := hn.1; omega, show ax_sz S.1 - s0 + (ax_sz S'.1 - ax_sz S.1) = ax_sz S'.1 - s0 by have := hn.2; omega]
                have h2 : nx = pc + 3 := by
                  rw [hx2]
                  rcases List.mem_append.mp hq with hq | hq <;> (simp only [List.mem_map] at hq; obtain ⟨r, -, rfl⟩ := hq; rfl)
                rw [h2] at h1
                exact h1
              · rcases Nat.lt_or_ge k S.1.length with hk1 | hk1
                · have h9 : am_at S.1 k = some (S.1[k]) := by rw [am_at_eq]; exact List.getElem?_eq_getElem hk1
                  exact hD.2 k _ (ax_pw_get h9)
                · exact hA _ (by have := hn.1; omega)
            have hW8 : 2 * (F0 mi pc arr ((Value.ref o :: st').map (am_cv base))).monitorRoom + ((st'.map (am_cv base)).map fun v => v.category).sum ≤ 8 := lv_room (by rw [am_cv_ca]; omega)
            rcases List.mem_append.mp hq with hq | hq
            · simp only [List.mem_map, List.mem_filter, Bool.and_eq_true, beq_iff_eq] at hq
              obtain ⟨r, ⟨hr, hr1', hr2'⟩, rfl⟩ := hq
              have hl := hts _ (hT _ (ax_KS_ok r hr))
              rw [hr1', hr2'] at hl
              have hcb := callB_of (R := R) (bytes := (ax_yd a).2.1) (maxL := (ax_yd a).2.2) (ret := none) (ws' := am_TB) (rm := ax_rm d0 (S'.1.length - S.1.length) (ax_sz S'.1 - ax_sz S.1)) (mc := S'.1.length - S.1.length) (ms := ax_sz S'.1 - ax_sz S.1) 0 hts hgd rfl rfl rfl hini hl ⟨hy1, hy2, hy3⟩ hRR
              exact ax_after (va_runI (As := []) (rest := st'.map (am_cv base)) (b := base + o) (g := F0 mi pc arr ((Value.ref o :: st').map (am_cv base))) ⟨hx, hb, hml, hown, hts⟩ hmt ⟨hcb, hy4, hyi⟩ ⟨ax_blind hSt, hpre⟩ rfl rfl hL.2.1 rfl hW8 hd hfit) hS (fun q _ h => hFr q h) hFr kk
            · simp only [List.mem_map, List.mem_filter, Bool.and_eq_true, beq_iff_eq] at hq
              obtain ⟨r, ⟨hr, hr1', hr2'⟩, rfl⟩ := hq
              have hl := hNk r hr
              rw [hr1', hr2'] at hl
              have hcb := va_cnB (R := R) (bytes := (ax_yd a).2.1) (maxL := (ax_yd a).2.2) (ret := none) (ws' := am_TB) (rm := ax_rm d0 (S'.1.length - S.1.length) (ax_sz S'.1 - ax_sz S.1)) (mc := S'.1.length - S.1.length) (ms := ax_sz S'.1 - ax_sz S.1) 0 hts hgd rfl rfl rfl hl hini ⟨hy1, hy2, hy3⟩ hRR
              exact ax_after (va_runIN (As := []) (rest := st'.map (am_cv base)) (b := base + o) (g := F0 mi pc arr ((Value.ref o :: st').map (am_cv base))) ⟨hx, hb, hml, hown, hts⟩ hmt ⟨hcb, hy4, hyi⟩ ⟨ax_blind hSt, hpre⟩ rfl rfl hL.2.1 rfl hW8 hd hfit) hS (fun q _ h => hFr q h) hFr kk
        · cases hq
      · cases h
  · cases h
end AXO
