/-! soundness of the machine of constructors: whole constructors -/
theorem ax_step_res {env : Nat → Nat → ax_S → Option ax_S} {i : am_I} {o0 : Nat} {st : List Value} {S : ax_S} {k : Nat → List Value → ax_S → Option (Nat × ax_S)} {fin : Nat × ax_S} (h : ax_step env i o0 st S k = some fin) : ∃ pc' st' S', k pc' st' S' = some fin := by
  obtain ⟨op, nx, a, b, v, w, tl⟩ := i
  unfold ax_step at h
  dsimp only at h
  repeat' (split at h)
  all_goals first | (cases h; done) | exact ⟨_, _, _, h⟩
section AXC
variable {p : Program} {l : Launch} {e : Env} {R : Room} {s : State} {mi : MethodId} {args : Array Value} {below : List Frame} {meth : Method} {c : Code} {Q : State → Prop} {base : Nat} {dC : Nat → ClassId} {dI : Nat → Nat → Nat} {dA : Nat → ClassId} {A : Nat → Prop} {own : Nat} {cc : ByteArray} {Ts : List Cond} {nL n0 s0 o0 : Nat} {St : Nat → State → Prop}
variable {env : Nat → Nat → ax_S → Option ax_S} {d : Nat} {fin : Nat × ax_S} {Cont : Prop}
theorem ax_step_ok {k : Nat → List Value → ax_S → Option (Nat × ax_S)} {i : am_I} {pc : Nat} {st : List Value} {S : ax_S} (hH : ax_Hy p l R s mi args meth c base dC dI dA A own cc Ts St env d nL n0) (hI : ax_Ik own cc pc i) (hz : ax_Z S) (hn : n0 ≤ S.1.length ∧ s0 ≤ ax_sz S.1) (hRc : fin.2.1.length - n0 ≤ R.cells) (hRs : ax_sz fin.2.1 - s0 ≤ R.slots)
    (hk : ∀ pc' st' S', k pc' st' S' = some fin → ax_Z S' → n0 ≤ S'.1.length ∧ s0 ≤ ax_sz S'.1 → ax_Re S' fin.2 ∧ (Cont → ax_Go p l e R s mi args below meth c Q base dC dI dA A nL n0 s0 o0 pc' st' S')) (h : ax_step env i o0 st S k = some fin) : ax_Re S fin.2 ∧ (Cont → ax_Go p l e R s mi args below meth c Q base dC dI dA A nL n0 s0 o0 pc st S) := by
  have hI0 := hI
  obtain ⟨op, nx, a, b, v, w, tl⟩ := i
  by_cases c0 : op = 0
  · subst c0; exact ax_o0 hH hI hz hn hRc hRs hk h
  by_cases c4 : op = 4
  · subst c4; exact ax_o4 hH hI hz hn hRc hRs hk h
  by_cases c20 : op = 20
  · subst c20; exact ax_o20 hH hI hz hn hRc hRs hk h
  by_cases c21 : op = 21
  · subst c21; exact ax_o21 hH hI hz hn hRc hRs hk h
  by_cases c27 : op = 27
  · subst c27; exact ax_o27 hH hI hz hn hRc hRs hk h
  by_cases c28 : op = 28
  · subst c28; exact ax_o28 hH hI hz hn hRc hRs hk h
  by_cases c30 : op = 30
  · subst c30; exact ax_o30 hH hI hz hn hRc hRs hk h
  by_cases c50 : op = 50
  · subst c50; exact ax_o50 hH hI hz hn hRc hRs hk h
  by_cases c51 : op = 51
  · subst c51; exact ax_o51 hH hI hz hn hRc hRs hk h
  by_cases c52 : op = 52
  · subst c52; exact ax_o52 hH hI hz hn hRc hRs hk h
  by_cases c53 : op = 53
  · subst c53; exact ax_o53 hH hI hz hn hRc hRs hk h
  exfalso
  unfold ax_step at h
  dsimp only at h
  split at h <;> first | contradiction | (cases h; done)
theorem ax_blk_ok (hH : ax_Hy p l R s mi args meth c base dC dI dA A own cc Ts St env d nL n0) {P : List (Nat × am_I)} (hP : ∀ q ∈ P, ax_Ik own cc q.1 q.2) {sp : Nat} (hRc : fin.2.1.length - n0 ≤ R.cells) (hRs : ax_sz fin.2.1 - s0 ≤ R.slots) (hC : Cont → ax_Go p l e R s mi args below meth c Q base dC dI dA A nL n0 s0 o0 fin.1 [] fin.2) :
    ∀ (n pc : Nat) (st : List Value) (S : ax_S), ax_blk env P sp o0 n pc st S = some fin → ax_Z S → n0 ≤ S.1.length ∧ s0 ≤ ax_sz S.1 → ax_Re S fin.2 ∧ (Cont → ax_Go p l e R s mi args below meth c Q base dC dI dA A nL n0 s0 o0 pc st S) := by
  intro n
  induction n with
  | zero => intro pc st S h; cases h
  | succ n ih =>
    intro pc st S h hz hn
    unfold ax_blk at h
    split at h
    · split at h
      · split at h
        · cases h
          exact ⟨⟨Nat.le_refl _, Nat.le_refl _, hz⟩, hC⟩
        · cases h
      · cases h
    · rename_i i hi
      split at h
      · split at h
        · cases h
          exact ⟨⟨Nat.le_refl _, Nat.le_refl _, hz⟩, hC⟩
        · cases h
      · have hI : ax_Ik own cc pc i := hP _ (am_lk_mem hi)
        exact ax_step_ok (k := ax_blk env P sp o0 n) (i := i) (pc := pc) (st := st) (S := S) hH hI hz hn hRc hRs ih h
theorem ax_blk_end {P : List (Nat × am_I)} {sp : Nat} : ∀ (n pc : Nat) (st : List Value) (S : ax_S), ax_blk env P sp o0 n pc st S = some fin → (am_lk P fin.1 = none ∧ fin.1 = sp) ∨ ∃ i, am_lk P fin.1 = some i ∧ i.1 = 43 := by
  intro n
  induction n with
  | zero => intro pc st S h; cases h
  | succ n ih =>
    intro pc st S h
    unfold ax_blk at h
    split at h
    · rename_i hi
      split at h
      · rename_i hsp
        split at h
        · cases h
          exact Or.inl ⟨hi, hsp⟩
        · cases h
      · cases h
    · rename_i i hi
      split at h
      · rename_i h43
        split at h
        · cases h
          exact Or.inr ⟨i, hi, h43⟩
        · cases h
      · obtain ⟨pc', st', S', h'⟩ := ax_step_res h
        exact ih _ _ _ h'
end AXC
def ax_Sc (l : Launch) (St : Nat → State → Prop) : Prop := ∀ (d o : Nat) (S S' : ax_S), 5 ≤ d → ax_sc o S = some S' → ax_Z S → ∀ (base : Nat) (dC : Nat → ClassId) (dI : Nat → Nat → Nat) (dA : Nat → ClassId), Met l (ax_yn 6) (ax_ws 6) (ax_rm d (S'.1.length - S.1.length) (ax_sz S'.1 - ax_sz S.1)) (ax_Pc St base dC dI dA o S) (ax_Qc base dC dI dA (va_A (ax_pw S.1 dA base S.2) (base + S.1.length)) S') (S'.1.length - S.1.length) (ax_sz S'.1 - ax_sz S.1) (va_A (ax_pw S.1 dA base S.2) (base + S.1.length))
theorem ax_sc_re {o : Nat} {S S' : ax_S} (h : ax_sc o S = some S') (hz : ax_Z S) : (S.1.length ≤ S'.1.length ∧ ax_sz S.1 ≤ ax_sz S'.1 ∧ ax_Z S') ∧ o < S.1.length := by
  unfold ax_sc at h
  split at h
  · rename_i hgo
    cases h
    have ho : o < S.1.length := am_lt_of hgo
    have hsz : ax_sz (S.1.set o (4, 6, [S.1.length + 4, S.1.length + 5, 0, 0, 0, 0, 0, 0])) = ax_sz S.1 := ax_sz_set hgo rfl
    obtain ⟨h1, h2, h3⟩ := hz.2 o 6 _ hgo
    refine ⟨⟨by simp, ?_, fun k hk => ?_, ?_⟩, ho⟩
    · show ax_sz S.1 ≤ ax_sz ((S.1.set o (4, 6, [S.1.length + 4, S.1.length + 5, 0, 0, 0, 0, 0, 0])) ++ [(1, 700, []), (0, 25, [])])
      unfold ax_sz at hsz ⊢
      rw [List.map_append, List.sum_append, hsz]
      omega
    · simp only [List.length_append, List.length_set, List.length_cons, List.length_nil] at hk
      have h4 := hz.1 k (by omega)
      refine ⟨?_, h4.2⟩
      show (if k = S.1.length + 1 then _ else S.2.1 k) = _
      rw [if_neg (by omega)]
      exact h4.1
    · intro o' ci fs h'
      rw [am_at_eq, List.getElem?_append] at h'
      split at h'
      · rw [← am_at_eq, ax_at_set] at h'
        split at h'
        · cases h'
          refine ⟨h1, h2, fun b => ?_⟩
          rcases b with _ | _ | b
          · exact ⟨fun q => by simp [am_at] at q, fun q => by simp [am_at] at q⟩
          · exact ⟨fun q => by simp [am_at] at q, fun q => by simp [am_at] at q⟩
          · exact h3 (b + 2)
        · exact hz.2 o' ci fs h'
      · rename_i hge
        rcases hj : o' - (S.1.set o (4, 6, [S.1.length + 4, S.1.length + 5, 0, 0, 0, 0, 0, 0])).length with _ | _ | j
        · rw [hj] at h'; simp at h'
        · rw [hj] at h'; simp at h'
        · rw [hj] at h'; simp at h'
  · cases h
theorem ax_step_re {env : Nat → Nat → ax_S → Option ax_S} (henv : ∀ y o S S', env y o S = some S' → ax_Z S → ax_Re S S') {own pc o0 : Nat} {cc : ByteArray} {i : am_I} (hI : ax_Ik own cc pc i) {st : List Value} {S : ax_S} {k : Nat → List Value → ax_S → Option (Nat × ax_S)} {fin : Nat × ax_S} (hz : ax_Z S) (hk : ∀ pc' st' S', k pc' st' S' = some fin → ax_Z S' → ax_Re S' fin.2) (h : ax_step env i o0 st S k = some fin) : ax_Re S fin.2 := by
  obtain ⟨op, nx, a, b, v, w, tl⟩ := i
  by_cases c0 : op = 0
  · subst c0; rw [ax_e0] at h; exact hk _ _ _ h hz
  by_cases c4 : op = 4
  · subst c4; rw [ax_e4] at h
    split at h
    · exact hk _ _ _ h hz
    · cases h
  by_cases c20 : op = 20
  · subst c20; rw [ax_e20] at h
    split at h
    · split at h
      · exact hk _ _ _ h hz
      · cases h
    · cases h
  by_cases c21 : op = 21
  · subst c21; rw [ax_e21] at h
    split at h
    · split at h
      · exact hk _ _ _ h hz
      · cases h
    · cases h
  by_cases c27 : op = 27
  · subst c27; rw [ax_e27] at h
    split at h
    · split at h
      · split at h
        · split at h
          · exact hk _ _ _ h hz
          · cases h
        · cases h
      · cases h
    · cases h
  by_cases c28 : op = 28
  · subst c28; rw [ax_e28] at h
    split at h
    · rename_i x o st'
      split at h
      · rename_i ci fs hgo
        split at h
        · split at h
          · rename_i hf
            have hn1 : ax_n1 (4, ci, fs.set b (x + 4)) = ax_n1 (4, ci, fs) := by simp [ax_n1]
            have hlen : (S.1.set o (4, ci, fs.set b (x + 4))).length = S.1.length := by simp
            have hsz2 := ax_sz_set hgo hn1
            have h0 := hk _ _ _ h ⟨fun k hk => hz.1 k (by rw [hlen] at hk; exact hk), ax_GK_set hz.2 hgo hf⟩
            exact ⟨by rw [← hlen]; exact h0.1, by rw [← hsz2]; exact h0.2.1, h0.2.2⟩
          · cases h
        · cases h
      · cases h
    · rename_i x o st'
      split at h
      · rename_i ci fs hgo
        split at h
        · split at h
          · have ho : o < S.1.length := am_lt_of hgo
            have h0 := hk _ _ _ h ⟨fun k hk => ⟨by
                show am_w S.2.1 o b x k = _
                have hko : k ≠ o := Nat.ne_of_gt (Nat.lt_of_lt_of_le ho hk)
                rw [am_w_ne hko]; exact (hz.1 k hk).1, (hz.1 k hk).2⟩, hz.2⟩
            exact h0
          · cases h
        · cases h
      · cases h
    · cases h
  by_cases c30 : op = 30
  · subst c30; rw [ax_e30] at h
    split at h
    · rename_i x j o st'
      split at h
      · rename_i n fs hgo
        split at h
        · cases h
        · have ho : o < S.1.length := am_lt_of hgo
          have h0 := hk _ _ _ h ⟨fun k hk => ⟨by
              show am_w S.2.1 o j.toNatClampNeg x k = _
              have hko : k ≠ o := Nat.ne_of_gt (Nat.lt_of_lt_of_le ho hk)
              rw [am_w_ne hko]; exact (hz.1 k hk).1, (hz.1 k hk).2⟩, hz.2⟩
          exact h0
      · cases h
    · cases h
  by_cases c50 : op = 50
  · subst c50
    obtain ⟨q, hq, -⟩ := hI
    simp only [ax_cd] at hq
    split at hq
    · rename_i ha
      rw [ax_e50] at h
      have hay : a ∈ ax_ys := List.mem_range.mpr ha
      have hlen : (S.1 ++ [((4, a, ax_df a) : am_D)]).length = S.1.length + 1 := by simp
      have hsz2 : ax_sz (S.1 ++ [(4, a, ax_df a)]) = ax_sz S.1 + ax_n1 (4, a, ax_df a) := ax_sz_push
      have h0 := hk _ _ _ h ⟨fun k hk => hz.1 k (by rw [hlen] at hk; omega), ax_GK_push hz.2 (fun ci fs he => by cases he; exact ⟨hay, rfl⟩)⟩
      have hr1 := h0.1
      have hr2 := h0.2.1
      rw [hlen] at hr1
      rw [hsz2] at hr2
      exact ⟨by omega, by omega, h0.2.2⟩
    · cases hq
  by_cases c51 : op = 51
  · subst c51
    rw [ax_e51] at h
    split at h
    · rename_i n st'
      split at h
      · cases h
      · split at h
        · cases h
        · split at h
          · cases h
          · rename_i ha3
            have hlen : (S.1 ++ [((a, n.toNatClampNeg, []) : am_D)]).length = S.1.length + 1 := by simp
            have hsz2 : ax_sz (S.1 ++ [(a, n.toNatClampNeg, [])]) = ax_sz S.1 + ax_n1 (a, n.toNatClampNeg, []) := ax_sz_push
            have h0 := hk _ _ _ h ⟨fun k hk => hz.1 k (by rw [hlen] at hk; omega), ax_GK_push hz.2 (fun ci fs he => by cases he; omega)⟩
            have hr1 := h0.1
            have hr2 := h0.2.1
            rw [hlen] at hr1
            rw [hsz2] at hr2
            exact ⟨by omega, by omega, h0.2.2⟩
    · cases h
  by_cases c52 : op = 52
  · subst c52; rw [ax_e52] at h
    split at h
    · split at h
      · cases h
      · exact hk _ _ _ h hz
    · cases h
  by_cases c53 : op = 53
  · subst c53; rw [ax_e53] at h
    split at h
    · split at h
      · cases h
      · split at h
        · rename_i S' hev
          have h1 := henv _ _ _ _ hev hz
          have h0 := hk _ _ _ h h1.2.2
          exact ⟨Nat.le_trans h1.1 h0.1, Nat.le_trans h1.2.1 h0.2.1, h0.2.2⟩
        · cases h
    · cases h
  exfalso
  unfold ax_step at h
  dsimp only at h
  split at h <;> first | contradiction | (cases h; done)
theorem ax_blk_re {env : Nat → Nat → ax_S → Option ax_S} (henv : ∀ y o S S', env y o S = some S' → ax_Z S → ax_Re S S') {own o0 sp : Nat} {cc : ByteArray} {P : List (Nat × am_I)} (hP : ∀ q ∈ P, ax_Ik own cc q.1 q.2) {fin : Nat × ax_S} : ∀ (n pc : Nat) (st : List Value) (S : ax_S), ax_blk env P sp o0 n pc st S = some fin → ax_Z S → ax_Re S fin.2 := by
  intro n
  induction n with
  | zero => intro pc st S h; cases h
  | succ n ih =>
    intro pc st S h hz
    unfold ax_blk at h
    split at h
    · split at h
      · split at h
        · cases h
          exact ⟨Nat.le_refl _, Nat.le_refl _, hz⟩
        · cases h
      · cases h
    · rename_i i hi
      split at h
      · split at h
        · cases h
          exact ⟨Nat.le_refl _, Nat.le_refl _, hz⟩
        · cases h
      · have hI : ax_Ik own cc pc i := hP _ (am_lk_mem hi)
        exact ax_step_re (k := ax_blk env P sp o0 n) (i := i) henv hI hz ih h
theorem ax_sound {l : Launch} {St : Nat → State → Prop} (hSt : ax_StOk St) (hSc : ax_Sc l St) : ∀ d, ax_Ev l St (ax_call d) d := by
  intro d
  induction d with
  | zero => intro y o S S' h; cases h
  | succ d ih =>
    intro y o S S' h hz
    unfold ax_call at h
    split at h
    · rename_i hy
      split at h
      · rename_i h4
        subst hy
        obtain ⟨h1, h2⟩ := ax_sc_re h hz
        exact ⟨by decide, h1, h2, fun base dC dI dA => hSc (d + 1) o S S' (by omega) h hz base dC dI dA⟩
      · cases h
    · rename_i hy
      split at h
      · cases h
      · rename_i q hq
        obtain ⟨hM1, hM2, hM3, hM4, hM5⟩ := ax_code y q hq
        split at h
        · rename_i ci fs hgo
          split at h
          · rename_i hci
            split at h
            · rename_i pf Sf hblk
              split at h
              · rename_i hsome
                cases h
                have hre := ax_blk_re (fun y o S S' h hz => (ih y o S S' h hz).2.1) hM1 _ _ _ _ hblk hz
                refine ⟨hM5, hre, am_lt_of hgo, fun base dC dI dA => ?_⟩
                have hyy : y ∈ ax_ys := List.mem_range.mpr hM5
                obtain ⟨hy1, hy2, hy3, hy4, hy5, hy6⟩ := ax_yq y hyy
                refine Met.ofW (cc := (ax_yd y).2.1) (maxL := (ax_yd y).2.2) (ret := none) hy5 rfl ?_
                intro p e s mi args below meth c s₁ B hml hv
                obtain ⟨rfl, hsz, hP, hK, hD0, hNk, hSt0⟩ := hv
                have hts := atoms_spec (ws := ax_ws y) B.pre
                have hown : s.vm.findClass (am_cn q.1) = some mi.cls := by
                  rw [← hM2]
                  exact findClass_of_methodNamed B.named
                have hin2 : meth.name = "<init>" := (name_of_methodNamed B.named B.method).1.trans hy4
                have hD := hD0.self (sz := base + S.1.length)
                have hml1 : c.maxLocals = 1 := hml.trans (hM3 hy)
                have hA1 : ∀ q, s.heap.size ≤ q → va_A (ax_pw S.1 dA base S.2) (base + S.1.length) q := fun q h => Or.inr (by omega)
                have hA2 : ∀ q, va_A (ax_pw S.1 dA base S.2) (base + S.1.length) q → base ≤ q := by
                  intro q h
                  rcases h with ⟨k, e, h⟩ | h
                  · simp only [ax_pw, List.getElem?_mapIdx, Option.map_eq_some_iff] at h
                    obtain ⟨g, -, h⟩ := h
                    cases h
                    omega
                  · omega
                have hH : ax_Hy p l (headSpec (ax_ws y) (ax_rm (d + 1) (S'.1.length - S.1.length) (ax_sz S'.1 - ax_sz S.1))).room s mi ([Value.ref (base + o)]).toArray meth c base dC dI dA (va_A (ax_pw S.1 dA base S.2) (base + S.1.length)) q.1 (ax_yd y).2.1 (ax_ws y) St (ax_call d) (d + 1) 1 S.1.length := by
                  refine ⟨⟨B.exec, B.bytes, hml1, hown, hts, hK⟩, hsz, fun w hw => List.mem_cons_of_mem _ hw, hNk, hSt, hSt0, hA1, hA2, hin2, fun h => absurd h (by omega), fun d0 hd => ?_, Nat.succ_le_succ (Nat.zero_le _), Nat.le_refl _, ?_, Nat.le_refl _⟩
                  · have : d = d0 := by omega
                    subst this
                    exact ih
                  · show 30 ≤ 30 * (d + 1)
                    omega
                have hgo2 := (ax_blk_ok (p := p) (l := l) (e := e) (s := s) (mi := mi) (below := below) (meth := meth) (c := c) (Q := MQ below (ax_Qc base dC dI dA (va_A (ax_pw S.1 dA base S.2) (base + S.1.length)) S') ([Value.ref (base + o)]).toArray s (S'.1.length - S.1.length) (ax_sz S'.1 - ax_sz S.1) (va_A (ax_pw S.1 dA base S.2) (base + S.1.length))) (fin := (pf, S')) (Cont := True) (s0 := ax_sz S.1) (o0 := o) hH hM1 (Nat.le_refl _) (Nat.le_refl _) (fun _ => ?_) _ _ _ _ hblk hz ⟨Nat.le_refl _, Nat.le_refl _⟩).2 trivial
                · have h1 := hgo2 s.heap [] _ (am_LH.entry (vs := [.ref o]) (n := 1) (Nat.le_of_ble_eq_true rfl)) hP hD va_S.rf
                  rw [Nat.sub_self, Nat.sub_self] at h1
                  rw [lg_entry_eq, hM3 hy]
                  exact h1
                · rcases ax_blk_end _ _ _ _ hblk with ⟨h1, -⟩ | ⟨i, h1, h2⟩
                  · rw [h1] at hsome
                    cases hsome
                  · intro H locs arr hL hP hD hS
                    have hI := hM1 _ (am_lk_mem h1)
                    obtain ⟨op, nx, a, b, v, w, tl⟩ := i
                    dsimp only at h2
                    subst h2
                    obtain ⟨r, hr, hd, -⟩ := hI
                    simp only [ax_cd, List.mem_singleton] at hr
                    subst hr
                    exact W.vret B.exec B.bytes B.returns (fun t ht _ => ⟨⟨rfl, by rw [ht]; exact hP⟩, hS.F ht⟩) hS.2.2 hd B.notSynchronized
              · cases h
            · cases h
          · cases h
        · cases h
