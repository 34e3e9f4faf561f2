/-! soundness: a whole method -/
def am_rt (rt : Nat) : Option FieldType := match rt with
  | 0 => none
  | 1 => some .int
  | 2 => some .boolean
  | _ => some .long
def am_ib (own : Nat) (cc : ByteArray) (r : Nat × am_I) : Bool := (am_cd own r.1 r.2).any (fun q => decide (decode cc r.1 = .ok q) && decide (r.2.2.1 = r.1 + q.2))
theorem am_ib_ok {own : Nat} {cc : ByteArray} {r : Nat × am_I} (h : am_ib own cc r = true) : am_Ik own cc r.1 r.2 := by
  unfold am_ib at h
  rw [List.any_eq_true] at h
  obtain ⟨q, hq, h1⟩ := h
  simp only [Bool.and_eq_true, decide_eq_true_eq] at h1
  exact ⟨q, hq, h1.1, h1.2⟩
theorem am_lk_mem : ∀ {P : List (Nat × am_I)} {pc : Nat} {i : am_I}, am_lk P pc = some i → (pc, i) ∈ P
  | [], _, _, h => by cases h
  | a :: P, pc, i, h => by
    unfold am_lk at h
    split at h
    · rename_i ha
      cases h
      rw [← ha]
      exact List.mem_cons_self
    · exact List.mem_cons_of_mem _ (am_lk_mem h)
theorem am_sl_ca (vs : List Value) : (lg_sl vs).length = am_ca vs := by
  induction vs with
  | nil => rfl
  | cons v vs ih =>
    unfold lg_sl am_ca at ih ⊢
    rw [List.flatMap_cons, List.length_append, ih, List.map_cons, List.sum_cons]
    split
    · rename_i h; simp [h]
    · rename_i h; rcases lv_cat v with h1 | h1
      · simp [h1]
      · exact absurd h1 h
section AMV
variable {p : Program} {l : Launch} {e : Env} {R : Room} {s : State} {mi : MethodId} {args : Array Value} {below : List Frame} {meth : Method} {c : Code} {ce sl : Nat} {G : List am_D} {base : Nat} {dC : Nat → ClassId} {dI : Nat → Nat → Nat} {dA : Nat → ClassId} {A : Nat → Prop} {own nL : Nat} {cc : ByteArray} {Ts : List Cond}
variable {dp : Bool} {env : Nat → List Value → am_M → am_R} {rt : Nat} {res : Option Value × am_M}
def am_Q (below : List Frame) (args : Array Value) (s : State) (ce sl : Nat) (G : List am_D) (base : Nat) (dC : Nat → ClassId) (dI : Nat → Nat → Nat) (dA : Nat → ClassId) (A : Nat → Prop) (res : Option Value × am_M) : State → Prop := MQ below (am_Qc G base dC dI dA A res.1 res.2) args s ce sl A
/-- what a method's walk stands on -/
def am_Hy (p : Program) (l : Launch) (R : Room) (s : State) (mi : MethodId) (args : Array Value) (meth : Method) (c : Code) (ce sl : Nat) (G : List am_D) (dC : Nat → ClassId) (dI : Nat → Nat → Nat) (dA : Nat → ClassId) (A : Nat → Prop) (own nL : Nat) (cc : ByteArray) (Ts : List Cond) (dp : Bool) (env : Nat → List Value → am_M → am_R) (rt : Nat) : Prop :=
  am_Fr p s mi args c own cc nL dC dI dA Ts ∧ (∀ w ∈ am_TB, w ∈ Ts) ∧ am_GK G ∧ am_Nk s ∧ ((∀ y vs m, env y vs m = none) ∨ ∃ d, am_Ev l G env d ∧ d + 1 ≤ R.frames ∧ 30 * (d + 1) ≤ R.locals) ∧ ce ≤ R.cells ∧ sl ≤ R.slots ∧ (∀ q, s.heap.size ≤ q → A q) ∧ (∀ y ∈ am_ys, (am_yd y).2.2.1 ≤ 11) ∧ (dp = true → 1 ≤ R.frames ∧ 30 ≤ R.locals) ∧ meth.sig.returnType = am_rt rt ∧ meth.locks = false
theorem am_o41 (hH : am_Hy p l R s mi args meth c ce sl G dC dI dA A own nL cc Ts dp env rt) {pc : Nat} {nx a b : Nat} {v : Int32} {w : Int64} {tl : List (Int32 × Nat)} {ls : am_L} {st : List Value} {m : am_M} {k : Nat → am_L → List Value → am_M → am_R} (hI : am_Ik own cc pc (41, nx, a, b, v, w, tl)) (h : am_step G dp env rt (41, nx, a, b, v, w, tl) ls st m k = some res) :
    am_Go p l e R s mi args below meth c ce sl (am_Q below args s ce sl G base dC dI dA A res) G base dC dI dA A nL pc ls st m := by
  obtain ⟨⟨hx, hb, hml, hown, hts, hK⟩, hT, hG, hNk, hEv, hce, hsl, hA, hm8, hR, hret, hlocks⟩ := hH
  obtain ⟨q, hq, hd, hn⟩ := hI
  simp only [am_cd, List.mem_singleton] at hq
  subst hq
  rw [am_e41] at h
  have hg : ∀ {x : Int32} {ty : FieldType}, am_rt rt = some ty → narrow ty (.int x) = .int x → (some (some (Value.int x), m) : am_R) = some res → am_Go p l e R s mi args below meth c ce sl (am_Q below args s ce sl G base dC dI dA A res) G base dC dI dA A nL pc ls [.int x] m := by
    intro x ty h1 h2 h3
    cases h3
    intro H locs arr hL hP hD hS
    exact W.zret hx hb (hret.trans h1) h2 (fun t ht _ => ⟨⟨rfl, by rw [ht]; exact hP⟩, hS.F ht⟩) hS.2.2 hd hlocks
  split at h
  · split at h
    · exact hg (ty := .int) rfl rfl h
    · split at h
      · rename_i hx0
        subst hx0
        exact hg (ty := .boolean) rfl rfl h
      · split at h
        · rename_i hx0
          subst hx0
          exact hg (ty := .boolean) rfl rfl h
        · cases h
    · cases h
  · cases h
theorem am_o42 (hH : am_Hy p l R s mi args meth c ce sl G dC dI dA A own nL cc Ts dp env rt) {pc : Nat} {nx a b : Nat} {v : Int32} {w : Int64} {tl : List (Int32 × Nat)} {ls : am_L} {st : List Value} {m : am_M} {k : Nat → am_L → List Value → am_M → am_R} (hI : am_Ik own cc pc (42, nx, a, b, v, w, tl)) (h : am_step G dp env rt (42, nx, a, b, v, w, tl) ls st m k = some res) :
    am_Go p l e R s mi args below meth c ce sl (am_Q below args s ce sl G base dC dI dA A res) G base dC dI dA A nL pc ls st m := by
  obtain ⟨⟨hx, hb, hml, hown, hts, hK⟩, hT, hG, hNk, hEv, hce, hsl, hA, hm8, hR, hret, hlocks⟩ := hH
  obtain ⟨q, hq, hd, hn⟩ := hI
  simp only [am_cd, List.mem_singleton] at hq
  subst hq
  rw [am_e42] at h
  split at h
  · split at h
    · cases h
      intro H locs arr hL hP hD hS
      exact W.lret hx hb (hret.trans rfl) (fun t ht _ => ⟨⟨rfl, by rw [ht]; exact hP⟩, hS.F ht⟩) hS.2.2 hd hlocks
    · cases h
  · cases h
theorem am_o43 (hH : am_Hy p l R s mi args meth c ce sl G dC dI dA A own nL cc Ts dp env rt) {pc : Nat} {nx a b : Nat} {v : Int32} {w : Int64} {tl : List (Int32 × Nat)} {ls : am_L} {st : List Value} {m : am_M} {k : Nat → am_L → List Value → am_M → am_R} (hI : am_Ik own cc pc (43, nx, a, b, v, w, tl)) (h : am_step G dp env rt (43, nx, a, b, v, w, tl) ls st m k = some res) :
    am_Go p l e R s mi args below meth c ce sl (am_Q below args s ce sl G base dC dI dA A res) G base dC dI dA A nL pc ls st m := by
  obtain ⟨⟨hx, hb, hml, hown, hts, hK⟩, hT, hG, hNk, hEv, hce, hsl, hA, hm8, hR, hret, hlocks⟩ := hH
  obtain ⟨q, hq, hd, hn⟩ := hI
  simp only [am_cd, List.mem_singleton] at hq
  subst hq
  rw [am_e43] at h
  split at h
  · split at h
    · cases h
      intro H locs arr hL hP hD hS
      exact W.vret hx hb (hret.trans rfl) (fun t ht _ => ⟨⟨rfl, by rw [ht]; exact hP⟩, hS.F ht⟩) hS.2.2 hd hlocks
    · cases h
  · cases h
theorem am_step_ok (hH : am_Hy p l R s mi args meth c ce sl G dC dI dA A own nL cc Ts dp env rt) {pc : Nat} {i : am_I} {ls : am_L} {st : List Value} {m : am_M} {k : Nat → am_L → List Value → am_M → am_R} (hI : am_Ik own cc pc i)
    (hk : ∀ pc' ls' st' m', k pc' ls' st' m' = some res → am_Go p l e R s mi args below meth c ce sl (am_Q below args s ce sl G base dC dI dA A res) G base dC dI dA A nL pc' ls' st' m') (h : am_step G dp env rt i ls st m k = some res) :
    am_Go p l e R s mi args below meth c ce sl (am_Q below args s ce sl G base dC dI dA A res) G base dC dI dA A nL pc ls st m := by
  have hH0 := hH
  obtain ⟨hF, hT, hG, hNk, hEv, hce, hsl, hA, hm8, hR, hret, hlocks⟩ := hH
  obtain ⟨op, nx, a, b, v, w, tl⟩ := i
  match op, hI, h with
  | 0, hI, h => exact am_o0 hF (fun q hq => hT _ (am_KI_ok q hq)) hI hk h
  | 1, hI, h => exact am_o1 hF (fun q hq => hT _ (am_KL_ok q hq)) hI hk h
  | 2, hI, h => exact am_o2 hF hI hk h
  | 3, hI, h => exact am_o3 hF hI hk h
  | 4, hI, h => exact am_o4 hF hI hk h
  | 5, hI, h => exact am_o5 hF hI hk h
  | 6, hI, h => exact am_o6 hF hI hk h
  | 7, hI, h => exact am_o7 hF hI hk h
  | 8, hI, h => exact am_o8 hF hI hk h
  | 9, hI, h => exact am_o9 hF hI hk h
  | 10, hI, h => exact am_o10 hF hI hk h
  | 11, hI, h => exact am_o11 hF hI hk h
  | 12, hI, h => exact am_o12 hF hI hk h
  | 13, hI, h => exact am_o13 hF hI hk h
  | 14, hI, h => exact am_o14 hF hI hk h
  | 15, hI, h => exact am_o15 hF hI hk h
  | 16, hI, h => exact am_o16 hF hI hk h
  | 17, hI, h => exact am_o17 hF hI hk h
  | 18, hI, h => exact am_o18 hF hI hk h
  | 19, hI, h => exact am_o19 hF hI hk h
  | 20, hI, h => exact am_o20 hF hI hk h
  | 21, hI, h => exact am_o21 hF hI hk h
  | 22, hI, h => exact am_o22 hF hI hk h
  | 23, hI, h => exact am_o23 hF hI hk h
  | 24, hI, h => exact am_o24 hF hI hk h
  | 25, hI, h => exact am_o25 hF hI hk h
  | 26, hI, h => exact am_o26 hF hI hk h
  | 29, hI, h => exact am_o29 hF hI hk h
  | 30, hI, h => exact am_o30 hF hI hk h
  | 31, hI, h => exact am_o31 hF hI hk h
  | 32, hI, h => exact am_o32 hF hI hk h
  | 33, hI, h => exact am_o33 hF hI hk h
  | 34, hI, h => exact am_o34 hF hI hk h
  | 35, hI, h => exact am_o35 hF hI hk h
  | 27, hI, h => exact am_o27 hF hT hG hI hk h
  | 28, hI, h => exact am_o28 hF hT hG hI hk h
  | 36, hI, h =>
    rcases hEv with hn | ⟨d, hEv, h1, h2⟩
    · rw [am_e36] at h
      split at h
      · cases h
      · split at h
        · cases h
        · rw [hn] at h; cases h
    · exact am_o36 hF hT hG hEv hNk h1 h2 hce hsl hA hm8 hI hk h
  | 37, hI, h =>
    rcases hEv with hn | ⟨d, hEv, h1, h2⟩
    · rw [am_e37] at h
      split at h
      · cases h
      · split at h
        · cases h
        · rw [hn] at h; cases h
    · exact am_o37 hF hT hG hEv hNk h1 h2 hce hsl hA hm8 hI hk h
  | 38, hI, h =>
    rcases hEv with hn | ⟨d, hEv, h1, h2⟩
    · rw [am_e38] at h
      split at h
      · cases h
      · split at h
        · cases h
        · rw [hn] at h; cases h
    · exact am_o38 hF hT hG hEv hNk h1 h2 hce hsl hA hm8 hI hk h
  | 39, hI, h => exact am_o39 hF hT hR hce hsl hI hk h
  | 40, hI, h => exact am_o40 hF hT hR hI hk h
  | 41, hI, h => exact am_o41 hH0 hI h
  | 42, hI, h => exact am_o42 hH0 hI h
  | 43, hI, h => exact am_o43 hH0 hI h
  | n + 44, hI, h =>
    obtain ⟨q, hq, -⟩ := hI
    simp only [am_cd] at hq
    cases hq
theorem am_blk_ok (hH : am_Hy p l R s mi args meth c ce sl G dC dI dA A own nL cc Ts dp env rt) {P : List (Nat × am_I)} (hP : ∀ q ∈ P, am_Ik own cc q.1 q.2) {cuts : List Nat} {rec : Nat → am_L → am_M → am_R}
    (hrec : ∀ pc ls m, rec pc ls m = some res → am_Go p l e R s mi args below meth c ce sl (am_Q below args s ce sl G base dC dI dA A res) G base dC dI dA A nL pc ls [] m) :
    ∀ (n pc : Nat) (ls : am_L) (st : List Value) (m : am_M), am_blk G dp env rt P cuts rec n pc ls st m = some res → am_Go p l e R s mi args below meth c ce sl (am_Q below args s ce sl G base dC dI dA A res) G base dC dI dA A nL pc ls st m := by
  intro n
  induction n with
  | zero => intro pc ls st m h; cases h
  | succ n ih =>
    intro pc ls st m h
    unfold am_blk at h
    split at h
    · cases h
    · rename_i i hi
      refine am_step_ok hH (hP _ (am_lk_mem hi)) (fun pc' ls' st' m' h' => ?_) h
      rw [am_br_c] at h'
      split at h'
      · split at h'
        · exact hrec _ _ _ h'
        · exact ih _ _ _ _ h'
      · exact ih _ _ _ _ h'
theorem am_run_ok (hH : am_Hy p l R s mi args meth c ce sl G dC dI dA A own nL cc Ts dp env rt) {P : List (Nat × am_I)} (hP : ∀ q ∈ P, am_Ik own cc q.1 q.2) {cuts : List Nat} :
    ∀ (n pc : Nat) (ls : am_L) (m : am_M), am_run G dp env rt P cuts n pc ls m = some res → am_Go p l e R s mi args below meth c ce sl (am_Q below args s ce sl G base dC dI dA A res) G base dC dI dA A nL pc ls [] m := by
  intro n
  induction n with
  | zero => intro pc ls m h; cases h
  | succ n ih =>
    intro pc ls m h
    exact am_blk_ok hH hP ih _ _ _ _ _ h
end AMV
/-- what the tables must say of a method -/
def am_Mk (y : Nat) (q : am_Y) : Prop := (∀ r ∈ q.2.2.2.2.2.1, am_Ik q.1 (am_yd y).2.1 r.1 r.2) ∧ (am_yd y).2.2.1 = q.2.2.1 ∧ (am_yd y).2.2.2 = am_rt q.2.1
theorem am_met {l : Launch} {G : List am_D} (hG : am_GK G) (hm8 : ∀ y ∈ am_ys, (am_yd y).2.2.1 ≤ 11) {dp : Bool} {env : Nat → List Value → am_M → am_R} {d F : Nat} (hdp : dp = true → 1 ≤ d) (hEv : (∀ y vs m, env y vs m = none) ∨ ∃ d0, am_Ev l G env d0 ∧ d0 + 1 ≤ d) {y : Nat} {q : am_Y} (hq : am_at am_MT y = some q) (hM : am_Mk y q) {vs : List Value} {m m' : am_M} {r : Option Value} (hrc : am_rc G q vs = true) (h : am_go G dp env q F vs m = some (r, m')) (base : Nat) (dC : Nat → ClassId) (dI : Nat → Nat → Nat) (dA : Nat → ClassId) (sz : Nat) :
    Met l (am_yn y) (am_ws y) (am_rm d) (am_Pc G base dC dI dA sz vs m) (am_Qc G base dC dI dA (va_A (am_pw G dA base m) sz) r m') 0 0 (va_A (am_pw G dA base m) sz) := by
  have hy := am_y_in hq
  obtain ⟨hM1, hM2, hM3⟩ := hM
  have hy4 := am_yp y hy
  rw [hq] at hy4
  dsimp only at hy4
  refine Met.ofW (cc := (am_yd y).2.1) (maxL := (am_yd y).2.2.1) (ret := (am_yd y).2.2.2) hy4.1 rfl ?_
  intro p e s mi args below meth c s₁ B hml hv
  obtain ⟨rfl, hsz, hP, hK, hD0, hNk⟩ := hv
  have hts := atoms_spec (ws := am_ws y) B.pre
  have hown : s.vm.findClass (am_cn q.1) = some mi.cls := by
    rw [← hy4.2]
    exact findClass_of_methodNamed B.named
  subst hsz
  have hD := hD0.self (sz := s.heap.size)
  unfold am_rc at hrc
  rw [Bool.and_eq_true] at hrc
  have hca := of_decide_eq_true hrc.1
  have hH : am_Hy p l (headSpec (am_ws y) (am_rm d)).room s mi (vs.map (am_cv base)).toArray meth c 0 0 G dC dI dA (va_A (am_pw G dA base m) s.heap.size) q.1 q.2.2.1 (am_yd y).2.1 (am_ws y) dp env q.2.1 := by
    refine ⟨⟨B.exec, B.bytes, hml.trans hM2, hown, hts, hK⟩, fun w hw => List.mem_cons_of_mem _ hw, hG, hNk, ?_, Nat.zero_le _, Nat.zero_le _, fun q h => Or.inr h, hm8, fun hd => ⟨hdp hd, ?_⟩, B.returns.trans hM3, B.notSynchronized⟩
    · rcases hEv with h1 | ⟨d0, h1, h2⟩
      · exact Or.inl h1
      · exact Or.inr ⟨d0, h1, h2, Nat.mul_le_mul_left 30 h2⟩
    · have := hdp hd
      show 30 ≤ 30 * d
      omega
  have h1 := am_run_ok (p := p) (e := e) (below := below) (base := base) (res := (r, m')) hH hM1 F 0 (am_en vs q.2.2.1) m h
  rw [lg_entry_eq, hM2]
  exact h1 s.heap [] _ (am_LH.entry (by rw [am_sl_ca]; exact hca)) hP hD va_S.rf
theorem am_sound {l : Launch} {G : List am_D} (hG : am_GK G) (hm8 : ∀ y ∈ am_ys, (am_yd y).2.2.1 ≤ 11) (hM : ∀ y q, am_at am_MT y = some q → am_Mk y q) (F : Nat) : ∀ d, am_Ev l G (am_call G am_MT F d) d := by
  intro d
  induction d with
  | zero =>
    intro y vs m r m' h
    unfold am_call at h
    split at h
    · cases h
    · rename_i q hq
      rw [am_br_c] at h
      split at h
      · rename_i hrc
        exact ⟨⟨q, hq, hrc⟩, fun base dC dI dA sz => am_met hG hm8 (fun h => by cases h) (Or.inl (fun _ _ _ => rfl)) hq (hM y q hq) hrc h base dC dI dA sz⟩
      · cases h
  | succ d ih =>
    intro y vs m r m' h
    unfold am_call at h
    split at h
    · cases h
    · rename_i q hq
      rw [am_br_c] at h
      split at h
      · rename_i hrc
        exact ⟨⟨q, hq, hrc⟩, fun base dC dI dA sz => am_met hG hm8 (fun _ => Nat.succ_pos d) (Or.inr ⟨d, ih, Nat.le_refl _⟩) hq (hM y q hq) hrc h base dC dI dA sz⟩
      · cases h
