/-! soundness: what an instruction's row must be in the code -/
def am_st (y : Nat) : Bool := match am_at am_MT y with
  | some q => q.2.2.2.2.1
  | none => false
def am_na (y : Nat) : Nat := match am_at am_MT y with
  | some q => q.2.2.2.1
  | none => 1000
def am_vi (own a b : Nat) : List (Instr × Nat) := if am_na a = b then (am_KM.filter (fun q => q.1 == own && q.2.2 == a)).map (fun q => if am_st a = true then (.invokestatic q.2.1, 3) else (.invokevirtual q.2.1, 3)) else []
def am_ty (dA : Nat → ClassId) : List (ClassId × FieldType) := [(dA 0, .int), (dA 1, .byte), (dA 2, .boolean), (dA 3, .long)]
def am_f4 (a : Nat) : Fin 4 := ⟨a % 4, Nat.mod_lt _ (by decide)⟩
def am_j1 (b : Nat) (off : Int) : Instr := match b with
  | 0 => .ifCond .eq off
  | 1 => .ifCond .ne off
  | 2 => .ifCond .lt off
  | 3 => .ifCond .ge off
  | 4 => .ifCond .gt off
  | _ => .ifCond .le off
def am_j2 (b : Nat) (off : Int) : Instr := match b with
  | 0 => .if_icmp .eq off
  | 1 => .if_icmp .ne off
  | 2 => .if_icmp .lt off
  | 3 => .if_icmp .ge off
  | 4 => .if_icmp .gt off
  | _ => .if_icmp .le off
def am_b1 (b : Nat) : Instr := match b with
  | 0 => .iadd
  | 1 => .isub
  | 2 => .imul
  | 3 => .iand
  | 4 => .ior
  | 5 => .ixor
  | 6 => .ishl
  | _ => .ishr
def am_b2 (b : Nat) : Instr := match b with
  | 0 => .ladd
  | 1 => .lsub
  | 2 => .lmul
  | _ => .land
def am_ks : Int → List (Int32 × Nat) → Bool
  | _, [] => true
  | n, q :: l => decide (q.1.toInt = n) && am_ks (n + 1) l
def am_lo (tl : List (Int32 × Nat)) : Int := match tl with
  | [] => 0
  | q :: _ => q.1.toInt
def am_ld (n1 : Fin 4 → Instr) (n3 : Nat → Instr) (a : Nat) : List (Instr × Nat) := if a < 4 then [(n1 (am_f4 a), 1), (n3 a, 2)] else [(n3 a, 2)]
def am_cd (own pc : Nat) (i : am_I) : List (Instr × Nat) := match i with
  | (op, nx, a, b, v, w, tl) => match op with
    | 0 => (.iconst v.toInt, 1) :: ((if (Int8.ofInt v.toInt).toInt32 = v then [(.bipush v.toInt, 2)] else []) ++ ((if (Int16.ofInt v.toInt).toInt32 = v then [(.sipush v.toInt, 3)] else []) ++ (am_KI.filter (fun q => q.1 == own && q.2.2 == v)).map (fun q => (.ldc q.2.1, 2))))
    | 1 => (if w = 0 then [(.lconst 0, 1)] else if w = 1 then [(.lconst 1, 1)] else []) ++ (am_KL.filter (fun q => q.1 == own && q.2.2 == w)).map (fun q => (.ldc2_w q.2.1, 3))
    | 2 => am_ld .iload_n .iload a
    | 3 => am_ld .lload_n .lload a
    | 4 => am_ld .aload_n .aload a
    | 5 => am_ld .istore_n .istore a
    | 6 => am_ld .lstore_n .lstore a
    | 7 => am_ld .astore_n .astore a
    | 8 => [(.iinc a v.toInt, 3)]
    | 9 => [(am_b1 b, 1)]
    | 10 => [(.idiv, 1)]
    | 11 => [(.irem, 1)]
    | 12 => [(am_b2 b, 1)]
    | 13 => [(.ldiv, 1)]
    | 14 => [(.lrem, 1)]
    | 15 => [(.lneg, 1)]
    | 16 => [(.lcmp, 1)]
    | 17 => [(.i2l, 1)]
    | 18 => [(.l2i, 1)]
    | 19 => [(.i2b, 1)]
    | 20 => [(.dup, 1)]
    | 21 => [(.pop, 1)]
    | 22 => [(.dup2, 1)]
    | 23 => [(am_j1 b ((a : Int) - (pc : Int)), 3)]
    | 24 => [(am_j2 b ((a : Int) - (pc : Int)), 3)]
    | 25 => [(.goto ((a : Int) - (pc : Int)), 3)]
    | 26 => if am_ks (am_lo tl) tl = true then [(.tableswitch ((a : Int) - (pc : Int)) (am_lo tl) (am_lo tl + (tl.length : Int) - 1) (tl.map (fun q => (q.2 : Int) - (pc : Int))).toArray, nx - pc)] else []
    | 27 => (am_KF.filter (fun q => q.1 == own && (q.2.2.1 == a && q.2.2.2 == b))).map (fun q => (.getfield q.2.1, 3))
    | 28 => (am_KF.filter (fun q => q.1 == own && (q.2.2.1 == a && q.2.2.2 == b))).map (fun q => (.putfield q.2.1, 3))
    | 29 => [(.iaload, 1)]
    | 30 => [(.iastore, 1)]
    | 31 => [(.baload, 1)]
    | 32 => [(.bastore, 1)]
    | 33 => [(.laload, 1)]
    | 34 => [(.lastore, 1)]
    | 35 => [(.arraylength, 1)]
    | 36 => am_vi own a b
    | 37 => am_vi own a b ++ (if am_na a = b then (if am_st a = true then (am_KN.filter (fun q => q.1 == own && q.2.2 == a)).map (fun q => (.invokestatic q.2.1, 3)) else []) else [])
    | 38 => am_vi own a b
    | 39 => (am_KX.filter (fun q => q.1 == own && q.2.2 == b)).map (fun q => (.invokestatic q.2.1, 3))
    | 40 => (am_KA.filter (fun q => q.1 == own)).map (fun q => (.invokestatic q.2, 3))
    | 41 => [(.ireturn, 1)]
    | 42 => [(.lreturn, 1)]
    | 43 => [(.return_, 1)]
    | _ => []
/-- the row i stands in the code at pc -/
def am_Ik (own : Nat) (cc : ByteArray) (pc : Nat) (i : am_I) : Prop := ∃ q ∈ am_cd own pc i, decode cc pc = .ok q ∧ i.2.1 = pc + q.2
section AMS
variable {p : Program} {l : Launch} {e : Env} {R : Room} {s : State} {mi : MethodId} {args : Array Value} {below : List Frame} {meth : Method} {c : Code} {ce sl : Nat} {Q : State → Prop} {G : List am_D} {base : Nat} {dC : Nat → ClassId} {dI : Nat → Nat → Nat} {dA : Nat → ClassId} {A : Nat → Prop} {own nL : Nat} {cc : ByteArray} {Ts : List Cond}
def am_Fr (p : Program) (s : State) (mi : MethodId) (args : Array Value) (c : Code) (own : Nat) (cc : ByteArray) (nL : Nat) (dC : Nat → ClassId) (dI : Nat → Nat → Nat) (dA : Nat → ClassId) (Ts : List Cond) : Prop := p.tables.exec = Jvm.exec ∧ c.code = cc ∧ c.maxLocals = nL ∧ s.vm.findClass (am_cn own) = some mi.cls ∧ (∀ w ∈ Ts, w.before args s = true) ∧ va_K (dC, dI) vwCl (am_ty dA) s
/-- from here the machine comes to a state with Q -/
def am_Go (p : Program) (l : Launch) (e : Env) (R : Room) (s : State) (mi : MethodId) (args : Array Value) (below : List Frame) (meth : Method) (c : Code) (ce sl : Nat) (Q : State → Prop) (G : List am_D) (base : Nat) (dC : Nat → ClassId) (dI : Nat → Nat → Nat) (dA : Nat → ClassId) (A : Nat → Prop) (nL : Nat) (pc : Nat) (ls : am_L) (st : List Value) (m : am_M) : Prop :=
  ∀ (H : Heap) (locs : List Loc) (arr : Array Slot), am_LH base nL arr ls → va_P (dC, dI) vwCl (am_pw G dA base m) H → va_D A (am_pw G dA base m) → va_S A s.heap H locs → W p l e R s mi args below meth c H locs ce sl Q (F0 mi pc arr (st.map (am_cv base)))
variable {dp : Bool} {env : Nat → List Value → am_M → am_R} {rt : Nat} {k : Nat → am_L → List Value → am_M → am_R} {res : Option Value × am_M} {nx a b pc : Nat} {v : Int32} {w : Int64} {tl : List (Int32 × Nat)} {ls : am_L} {st : List Value} {m : am_M}
theorem am_o0 (hF : am_Fr p s mi args c own cc nL dC dI dA Ts) (hKI : ∀ q ∈ am_KI, Cond.constant (am_cn q.1) q.2.1 q.2.2 ∈ Ts) (hI : am_Ik own cc pc (0, nx, a, b, v, w, tl))
    (hk : ∀ pc' ls' st' m', k pc' ls' st' m' = some res → am_Go p l e R s mi args below meth c ce sl Q G base dC dI dA A nL pc' ls' st' m') (h : am_step G dp env rt (0, nx, a, b, v, w, tl) ls st m k = some res) : am_Go p l e R s mi args below meth c ce sl Q G base dC dI dA A nL pc ls st m := by
  obtain ⟨hx, hb, hml, hown, hts, hK⟩ := hF
  have h0 := hk _ _ _ _ h
  intro H locs arr hL hP hD hS
  have h1 := h0 H locs arr hL hP hD hS
  obtain ⟨q, hq, hd, hn⟩ := hI
  dsimp only at hn
  simp only [am_cd, List.mem_cons, List.mem_append, List.mem_map, List.mem_filter] at hq
  rcases hq with rfl | hq | hq | ⟨r, ⟨hr, hr2⟩, rfl⟩
  · subst hn
    exact lv_iconst hx hb hd (by simp) h1
  · split at hq
    · rename_i hv
      rw [List.mem_singleton] at hq
      subst hq
      subst hn
      exact lv_bipush hx hb hd hv h1
    · cases hq
  · split at hq
    · rename_i hv
      rw [List.mem_singleton] at hq
      subst hq
      subst hn
      exact lv_sipush hx hb hd hv h1
    · cases hq
  · subst hn
    simp only [Bool.and_eq_true, beq_iff_eq] at hr2
    have := hts _ (hKI r hr)
    rw [hr2.1, hr2.2] at this
    exact lv_ldc hx hb hown this hd h1
theorem am_o1 (hF : am_Fr p s mi args c own cc nL dC dI dA Ts) (hKL : ∀ q ∈ am_KL, Cond.constantLong (am_cn q.1) q.2.1 q.2.2 ∈ Ts) (hI : am_Ik own cc pc (1, nx, a, b, v, w, tl))
    (hk : ∀ pc' ls' st' m', k pc' ls' st' m' = some res → am_Go p l e R s mi args below meth c ce sl Q G base dC dI dA A nL pc' ls' st' m') (h : am_step G dp env rt (1, nx, a, b, v, w, tl) ls st m k = some res) : am_Go p l e R s mi args below meth c ce sl Q G base dC dI dA A nL pc ls st m := by
  obtain ⟨hx, hb, hml, hown, hts, hK⟩ := hF
  have h0 := hk _ _ _ _ h
  intro H locs arr hL hP hD hS
  have h1 := h0 H locs arr hL hP hD hS
  obtain ⟨q, hq, hd, hn⟩ := hI
  dsimp only at hn
  simp only [am_cd, List.mem_append, List.mem_map, List.mem_filter] at hq
  rcases hq with hq | ⟨r, ⟨hr, hr2⟩, rfl⟩
  · split at hq
    · rename_i hw
      rw [List.mem_singleton] at hq
      subst hq
      subst hn
      subst hw
      exact lv_lconst hx hb hd rfl h1
    · split at hq
      · rename_i hw
        rw [List.mem_singleton] at hq
        subst hq
        subst hn
        subst hw
        exact lv_lconst hx hb hd rfl h1
      · cases hq
  · subst hn
    simp only [Bool.and_eq_true, beq_iff_eq] at hr2
    have := hts _ (hKL r hr)
    rw [hr2.1, hr2.2] at this
    exact lv_ldc2 hx hb hown this hd h1
theorem am_ld_mem {n1 : Fin 4 → Instr} {n3 : Nat → Instr} {q : Instr × Nat} (h : q ∈ am_ld n1 n3 a) : (q = (n1 (am_f4 a), 1) ∧ ((am_f4 a : Fin 4) : Nat) = a) ∨ q = (n3 a, 2) := by
  unfold am_ld at h
  split at h
  · rename_i ha
    simp only [List.mem_cons, List.not_mem_nil, or_false] at h
    rcases h with h | h
    · exact Or.inl ⟨h, Nat.mod_eq_of_lt ha⟩
    · exact Or.inr h
  · rw [List.mem_singleton] at h
    exact Or.inr h
theorem am_o2 (hF : am_Fr p s mi args c own cc nL dC dI dA Ts) (hI : am_Ik own cc pc (2, nx, a, b, v, w, tl))
    (hk : ∀ pc' ls' st' m', k pc' ls' st' m' = some res → am_Go p l e R s mi args below meth c ce sl Q G base dC dI dA A nL pc' ls' st' m') (h : am_step G dp env rt (2, nx, a, b, v, w, tl) ls st m k = some res) : am_Go p l e R s mi args below meth c ce sl Q G base dC dI dA A nL pc ls st m := by
  obtain ⟨hx, hb, hml, hown, hts, hK⟩ := hF
  rw [am_e2] at h
  split at h
  · rename_i x hl
    have h0 := hk _ _ _ _ h
    intro H locs arr hL hP hD hS
    have h1 := h0 H locs arr hL hP hD hS
    have h2 := hL.2.2.2 _ _ hl
    obtain ⟨q, hq, hd, hn⟩ := hI
    dsimp only at hn
    rcases am_ld_mem hq with ⟨rfl, ha⟩ | rfl
    · subst hn
      exact lv_iload_n hx hb hd ha h2 h1
    · subst hn
      exact lv_iload hx hb hd h2 h1
  · cases h
theorem am_o3 (hF : am_Fr p s mi args c own cc nL dC dI dA Ts) (hI : am_Ik own cc pc (3, nx, a, b, v, w, tl))
    (hk : ∀ pc' ls' st' m', k pc' ls' st' m' = some res → am_Go p l e R s mi args below meth c ce sl Q G base dC dI dA A nL pc' ls' st' m') (h : am_step G dp env rt (3, nx, a, b, v, w, tl) ls st m k = some res) : am_Go p l e R s mi args below meth c ce sl Q G base dC dI dA A nL pc ls st m := by
  obtain ⟨hx, hb, hml, hown, hts, hK⟩ := hF
  rw [am_e3] at h
  split at h
  · rename_i x hl
    have h0 := hk _ _ _ _ h
    intro H locs arr hL hP hD hS
    have h1 := h0 H locs arr hL hP hD hS
    have h2 := hL.2.2.2 _ _ hl
    obtain ⟨q, hq, hd, hn⟩ := hI
    dsimp only at hn
    rcases am_ld_mem hq with ⟨rfl, ha⟩ | rfl
    · subst hn
      exact lv_lload_n hx hb hd ha h2 h1
    · subst hn
      exact lv_lload hx hb hd h2 h1
  · cases h
theorem am_o4 (hF : am_Fr p s mi args c own cc nL dC dI dA Ts) (hI : am_Ik own cc pc (4, nx, a, b, v, w, tl))
    (hk : ∀ pc' ls' st' m', k pc' ls' st' m' = some res → am_Go p l e R s mi args below meth c ce sl Q G base dC dI dA A nL pc' ls' st' m') (h : am_step G dp env rt (4, nx, a, b, v, w, tl) ls st m k = some res) : am_Go p l e R s mi args below meth c ce sl Q G base dC dI dA A nL pc ls st m := by
  obtain ⟨hx, hb, hml, hown, hts, hK⟩ := hF
  rw [am_e4] at h
  split at h
  · rename_i x hl
    have h0 := hk _ _ _ _ h
    intro H locs arr hL hP hD hS
    have h1 := h0 H locs arr hL hP hD hS
    have h2 := hL.2.2.2 _ _ hl
    obtain ⟨q, hq, hd, hn⟩ := hI
    dsimp only at hn
    rcases am_ld_mem hq with ⟨rfl, ha⟩ | rfl
    · subst hn
      exact lv_aload_n hx hb hd ha h2 h1
    · subst hn
      exact lv_aload hx hb hd h2 h1
  · cases h
theorem am_o5 (hF : am_Fr p s mi args c own cc nL dC dI dA Ts) (hI : am_Ik own cc pc (5, nx, a, b, v, w, tl))
    (hk : ∀ pc' ls' st' m', k pc' ls' st' m' = some res → am_Go p l e R s mi args below meth c ce sl Q G base dC dI dA A nL pc' ls' st' m') (h : am_step G dp env rt (5, nx, a, b, v, w, tl) ls st m k = some res) : am_Go p l e R s mi args below meth c ce sl Q G base dC dI dA A nL pc ls st m := by
  obtain ⟨hx, hb, hml, hown, hts, hK⟩ := hF
  rw [am_e5] at h
  split at h
  · split at h
    · rename_i x st' ha
      have h0 := hk _ _ _ _ h
      intro H locs arr hL hP hD hS
      obtain ⟨q, hq, hd, hn⟩ := hI
      dsimp only at hn
      have ha' : a < nL := by rw [← hL.1]; exact ha
      rcases am_ld_mem hq with ⟨rfl, he⟩ | rfl
      · subst hn
        exact lv_istore_n hx hb hd he hL.has ha' rfl (fun ls' hh => h0 H locs ls' (hL.st1 hh) hP hD hS)
      · subst hn
        exact lv_istore hx hb hd hL.has ha' rfl (fun ls' hh => h0 H locs ls' (hL.st1 hh) hP hD hS)
    · cases h
  · cases h
theorem am_o6 (hF : am_Fr p s mi args c own cc nL dC dI dA Ts) (hI : am_Ik own cc pc (6, nx, a, b, v, w, tl))
    (hk : ∀ pc' ls' st' m', k pc' ls' st' m' = some res → am_Go p l e R s mi args below meth c ce sl Q G base dC dI dA A nL pc' ls' st' m') (h : am_step G dp env rt (6, nx, a, b, v, w, tl) ls st m k = some res) : am_Go p l e R s mi args below meth c ce sl Q G base dC dI dA A nL pc ls st m := by
  obtain ⟨hx, hb, hml, hown, hts, hK⟩ := hF
  rw [am_e6] at h
  split at h
  · split at h
    · rename_i x st' ha
      have h0 := hk _ _ _ _ h
      intro H locs arr hL hP hD hS
      obtain ⟨q, hq, hd, hn⟩ := hI
      dsimp only at hn
      have ha' : a + 1 < nL := by rw [← hL.1]; exact ha
      rcases am_ld_mem hq with ⟨rfl, he⟩ | rfl
      · subst hn
        exact lv_lstore_n hx hb hd he hL.has ha' rfl (fun ls' hh => h0 H locs ls' (hL.st2 hh) hP hD hS)
      · subst hn
        exact lv_lstore hx hb hd hL.has ha' rfl (fun ls' hh => h0 H locs ls' (hL.st2 hh) hP hD hS)
    · cases h
  · cases h
theorem am_o7 (hF : am_Fr p s mi args c own cc nL dC dI dA Ts) (hI : am_Ik own cc pc (7, nx, a, b, v, w, tl))
    (hk : ∀ pc' ls' st' m', k pc' ls' st' m' = some res → am_Go p l e R s mi args below meth c ce sl Q G base dC dI dA A nL pc' ls' st' m') (h : am_step G dp env rt (7, nx, a, b, v, w, tl) ls st m k = some res) : am_Go p l e R s mi args below meth c ce sl Q G base dC dI dA A nL pc ls st m := by
  obtain ⟨hx, hb, hml, hown, hts, hK⟩ := hF
  rw [am_e7] at h
  split at h
  · split at h
    · rename_i x st' ha
      have h0 := hk _ _ _ _ h
      intro H locs arr hL hP hD hS
      obtain ⟨q, hq, hd, hn⟩ := hI
      dsimp only at hn
      have ha' : a < nL := by rw [← hL.1]; exact ha
      rcases am_ld_mem hq with ⟨rfl, he⟩ | rfl
      · subst hn
        exact lv_astore_n hx hb hd he hL.has ha' rfl (fun ls' hh => h0 H locs ls' (hL.st1 (v := .ref x) hh) hP hD hS)
      · subst hn
        exact lv_astore hx hb hd hL.has ha' rfl (fun ls' hh => h0 H locs ls' (hL.st1 (v := .ref x) hh) hP hD hS)
    · cases h
  · cases h
theorem am_o8 (hF : am_Fr p s mi args c own cc nL dC dI dA Ts) (hI : am_Ik own cc pc (8, nx, a, b, v, w, tl))
    (hk : ∀ pc' ls' st' m', k pc' ls' st' m' = some res → am_Go p l e R s mi args below meth c ce sl Q G base dC dI dA A nL pc' ls' st' m') (h : am_step G dp env rt (8, nx, a, b, v, w, tl) ls st m k = some res) : am_Go p l e R s mi args below meth c ce sl Q G base dC dI dA A nL pc ls st m := by
  obtain ⟨hx, hb, hml, hown, hts, hK⟩ := hF
  rw [am_e8] at h
  split at h
  · rename_i x hl
    have h0 := hk _ _ _ _ h
    intro H locs arr hL hP hD hS
    obtain ⟨q, hq, hd, hn⟩ := hI
    dsimp only at hn
    simp only [am_cd, List.mem_singleton] at hq
    subst hq
    subst hn
    have hin : (a, Value.int x) ∈ am_pr base ls := am_pr_mem.mpr ⟨.int x, hl, rfl⟩
    obtain ⟨j, hj⟩ := List.getElem?_of_mem hin
    have ha' : a < nL := by
      rw [← hL.1]
      rcases Nat.lt_or_ge a ls.length with h1 | h1
      · exact h1
      · rw [List.getD_eq_getElem?_getD, List.getElem?_eq_none h1] at hl
        cases hl
    exact lv_iinc hx hb hd hL.has hj (by simp) ha' rfl (fun ls' hh => h0 H locs ls' (hL.st1 hh) hP hD hS)
  · cases h
theorem am_o9 (hF : am_Fr p s mi args c own cc nL dC dI dA Ts) (hI : am_Ik own cc pc (9, nx, a, b, v, w, tl))
    (hk : ∀ pc' ls' st' m', k pc' ls' st' m' = some res → am_Go p l e R s mi args below meth c ce sl Q G base dC dI dA A nL pc' ls' st' m') (h : am_step G dp env rt (9, nx, a, b, v, w, tl) ls st m k = some res) : am_Go p l e R s mi args below meth c ce sl Q G base dC dI dA A nL pc ls st m := by
  obtain ⟨hx, hb, hml, hown, hts, hK⟩ := hF
  rw [am_e9] at h
  split at h
  · have h0 := hk _ _ _ _ h
    intro H locs arr hL hP hD hS
    have h1 := h0 H locs arr hL hP hD hS
    obtain ⟨q, hq, hd, hn⟩ := hI
    dsimp only at hn
    simp only [am_cd, List.mem_singleton] at hq
    subst hq
    subst hn
    unfold am_b1 at hd
    unfold am_bi at h1
    split at hd
    · exact lv_iadd hx hb hd h1
    · exact lv_isub hx hb hd h1
    · exact lv_imul hx hb hd h1
    · exact lv_iand hx hb hd h1
    · exact lv_ior hx hb hd h1
    · exact lv_ixor hx hb hd h1
    · exact lv_ishl hx hb hd h1
    · rename_i n0 n1 n2 n3 n4 n5 n6
      split at h1 <;> first | exact absurd rfl n0 | exact absurd rfl n1 | exact absurd rfl n2 | exact absurd rfl n3 | exact absurd rfl n4 | exact absurd rfl n5 | exact absurd rfl n6 | exact lv_ishr hx hb hd h1
  · cases h
theorem am_o12 (hF : am_Fr p s mi args c own cc nL dC dI dA Ts) (hI : am_Ik own cc pc (12, nx, a, b, v, w, tl))
    (hk : ∀ pc' ls' st' m', k pc' ls' st' m' = some res → am_Go p l e R s mi args below meth c ce sl Q G base dC dI dA A nL pc' ls' st' m') (h : am_step G dp env rt (12, nx, a, b, v, w, tl) ls st m k = some res) : am_Go p l e R s mi args below meth c ce sl Q G base dC dI dA A nL pc ls st m := by
  obtain ⟨hx, hb, hml, hown, hts, hK⟩ := hF
  rw [am_e12] at h
  split at h
  · have h0 := hk _ _ _ _ h
    intro H locs arr hL hP hD hS
    have h1 := h0 H locs arr hL hP hD hS
    obtain ⟨q, hq, hd, hn⟩ := hI
    dsimp only at hn
    simp only [am_cd, List.mem_singleton] at hq
    subst hq
    subst hn
    unfold am_b2 at hd
    unfold am_bl at h1
    split at hd
    · exact lv_ladd hx hb hd h1
    · exact lv_lsub hx hb hd h1
    · exact lv_lmul hx hb hd h1
    · rename_i n0 n1 n2
      split at h1 <;> first | exact absurd rfl n0 | exact absurd rfl n1 | exact absurd rfl n2 | exact lv_land hx hb hd h1
  · cases h
theorem am_o10 (hF : am_Fr p s mi args c own cc nL dC dI dA Ts) (hI : am_Ik own cc pc (10, nx, a, b, v, w, tl))
    (hk : ∀ pc' ls' st' m', k pc' ls' st' m' = some res → am_Go p l e R s mi args below meth c ce sl Q G base dC dI dA A nL pc' ls' st' m') (h : am_step G dp env rt (10, nx, a, b, v, w, tl) ls st m k = some res) : am_Go p l e R s mi args below meth c ce sl Q G base dC dI dA A nL pc ls st m := by
  obtain ⟨hx, hb, hml, hown, hts, hK⟩ := hF
  rw [am_e10] at h
  split at h
  · split at h
    · cases h
    · rename_i hne
      have h0 := hk _ _ _ _ h
      intro H locs arr hL hP hD hS
      have h1 := h0 H locs arr hL hP hD hS
      obtain ⟨q, hq, hd, hn⟩ := hI
      dsimp only at hn
      simp only [am_cd, List.mem_singleton] at hq
      subst hq
      subst hn
      exact lv_idiv hx hb hd hne h1
  · cases h
theorem am_o11 (hF : am_Fr p s mi args c own cc nL dC dI dA Ts) (hI : am_Ik own cc pc (11, nx, a, b, v, w, tl))
    (hk : ∀ pc' ls' st' m', k pc' ls' st' m' = some res → am_Go p l e R s mi args below meth c ce sl Q G base dC dI dA A nL pc' ls' st' m') (h : am_step G dp env rt (11, nx, a, b, v, w, tl) ls st m k = some res) : am_Go p l e R s mi args below meth c ce sl Q G base dC dI dA A nL pc ls st m := by
  obtain ⟨hx, hb, hml, hown, hts, hK⟩ := hF
  rw [am_e11] at h
  split at h
  · split at h
    · cases h
    · rename_i hne
      have h0 := hk _ _ _ _ h
      intro H locs arr hL hP hD hS
      have h1 := h0 H locs arr hL hP hD hS
      obtain ⟨q, hq, hd, hn⟩ := hI
      dsimp only at hn
      simp only [am_cd, List.mem_singleton] at hq
      subst hq
      subst hn
      exact lv_irem hx hb hd hne h1
  · cases h
theorem am_o13 (hF : am_Fr p s mi args c own cc nL dC dI dA Ts) (hI : am_Ik own cc pc (13, nx, a, b, v, w, tl))
    (hk : ∀ pc' ls' st' m', k pc' ls' st' m' = some res → am_Go p l e R s mi args below meth c ce sl Q G base dC dI dA A nL pc' ls' st' m') (h : am_step G dp env rt (13, nx, a, b, v, w, tl) ls st m k = some res) : am_Go p l e R s mi args below meth c ce sl Q G base dC dI dA A nL pc ls st m := by
  obtain ⟨hx, hb, hml, hown, hts, hK⟩ := hF
  rw [am_e13] at h
  split at h
  · split at h
    · cases h
    · rename_i hne
      have h0 := hk _ _ _ _ h
      intro H locs arr hL hP hD hS
      have h1 := h0 H locs arr hL hP hD hS
      obtain ⟨q, hq, hd, hn⟩ := hI
      dsimp only at hn
      simp only [am_cd, List.mem_singleton] at hq
      subst hq
      subst hn
      exact lv_ldiv hx hb hd hne h1
  · cases h
theorem am_o14 (hF : am_Fr p s mi args c own cc nL dC dI dA Ts) (hI : am_Ik own cc pc (14, nx, a, b, v, w, tl))
    (hk : ∀ pc' ls' st' m', k pc' ls' st' m' = some res → am_Go p l e R s mi args below meth c ce sl Q G base dC dI dA A nL pc' ls' st' m') (h : am_step G dp env rt (14, nx, a, b, v, w, tl) ls st m k = some res) : am_Go p l e R s mi args below meth c ce sl Q G base dC dI dA A nL pc ls st m := by
  obtain ⟨hx, hb, hml, hown, hts, hK⟩ := hF
  rw [am_e14] at h
  split at h
  · split at h
    · cases h
    · rename_i hne
      have h0 := hk _ _ _ _ h
      intro H locs arr hL hP hD hS
      have h1 := h0 H locs arr hL hP hD hS
      obtain ⟨q, hq, hd, hn⟩ := hI
      dsimp only at hn
      simp only [am_cd, List.mem_singleton] at hq
      subst hq
      subst hn
      exact lv_lrem hx hb hd hne h1
  · cases h
theorem am_o15 (hF : am_Fr p s mi args c own cc nL dC dI dA Ts) (hI : am_Ik own cc pc (15, nx, a, b, v, w, tl))
    (hk : ∀ pc' ls' st' m', k pc' ls' st' m' = some res → am_Go p l e R s mi args below meth c ce sl Q G base dC dI dA A nL pc' ls' st' m') (h : am_step G dp env rt (15, nx, a, b, v, w, tl) ls st m k = some res) : am_Go p l e R s mi args below meth c ce sl Q G base dC dI dA A nL pc ls st m := by
  obtain ⟨hx, hb, hml, hown, hts, hK⟩ := hF
  rw [am_e15] at h
  split at h
  · have h0 := hk _ _ _ _ h
    intro H locs arr hL hP hD hS
    have h1 := h0 H locs arr hL hP hD hS
    obtain ⟨q, hq, hd, hn⟩ := hI
    dsimp only at hn
    simp only [am_cd, List.mem_singleton] at hq
    subst hq
    subst hn
    exact lv_lneg hx hb hd h1
  · cases h
theorem am_o16 (hF : am_Fr p s mi args c own cc nL dC dI dA Ts) (hI : am_Ik own cc pc (16, nx, a, b, v, w, tl))
    (hk : ∀ pc' ls' st' m', k pc' ls' st' m' = some res → am_Go p l e R s mi args below meth c ce sl Q G base dC dI dA A nL pc' ls' st' m') (h : am_step G dp env rt (16, nx, a, b, v, w, tl) ls st m k = some res) : am_Go p l e R s mi args below meth c ce sl Q G base dC dI dA A nL pc ls st m := by
  obtain ⟨hx, hb, hml, hown, hts, hK⟩ := hF
  rw [am_e16] at h
  split at h
  · have h0 := hk _ _ _ _ h
    intro H locs arr hL hP hD hS
    have h1 := h0 H locs arr hL hP hD hS
    obtain ⟨q, hq, hd, hn⟩ := hI
    dsimp only at hn
    simp only [am_cd, List.mem_singleton] at hq
    subst hq
    subst hn
    exact W.lcmp hx hb hd h1
  · cases h
theorem am_o17 (hF : am_Fr p s mi args c own cc nL dC dI dA Ts) (hI : am_Ik own cc pc (17, nx, a, b, v, w, tl))
    (hk : ∀ pc' ls' st' m', k pc' ls' st' m' = some res → am_Go p l e R s mi args below meth c ce sl Q G base dC dI dA A nL pc' ls' st' m') (h : am_step G dp env rt (17, nx, a, b, v, w, tl) ls st m k = some res) : am_Go p l e R s mi args below meth c ce sl Q G base dC dI dA A nL pc ls st m := by
  obtain ⟨hx, hb, hml, hown, hts, hK⟩ := hF
  rw [am_e17] at h
  split at h
  · have h0 := hk _ _ _ _ h
    intro H locs arr hL hP hD hS
    have h1 := h0 H locs arr hL hP hD hS
    obtain ⟨q, hq, hd, hn⟩ := hI
    dsimp only at hn
    simp only [am_cd, List.mem_singleton] at hq
    subst hq
    subst hn
    exact lv_i2l hx hb hd rfl h1
  · cases h
theorem am_o18 (hF : am_Fr p s mi args c own cc nL dC dI dA Ts) (hI : am_Ik own cc pc (18, nx, a, b, v, w, tl))
    (hk : ∀ pc' ls' st' m', k pc' ls' st' m' = some res → am_Go p l e R s mi args below meth c ce sl Q G base dC dI dA A nL pc' ls' st' m') (h : am_step G dp env rt (18, nx, a, b, v, w, tl) ls st m k = some res) : am_Go p l e R s mi args below meth c ce sl Q G base dC dI dA A nL pc ls st m := by
  obtain ⟨hx, hb, hml, hown, hts, hK⟩ := hF
  rw [am_e18] at h
  split at h
  · have h0 := hk _ _ _ _ h
    intro H locs arr hL hP hD hS
    have h1 := h0 H locs arr hL hP hD hS
    obtain ⟨q, hq, hd, hn⟩ := hI
    dsimp only at hn
    simp only [am_cd, List.mem_singleton] at hq
    subst hq
    subst hn
    exact lv_l2i hx hb hd rfl h1
  · cases h
theorem am_o19 (hF : am_Fr p s mi args c own cc nL dC dI dA Ts) (hI : am_Ik own cc pc (19, nx, a, b, v, w, tl))
    (hk : ∀ pc' ls' st' m', k pc' ls' st' m' = some res → am_Go p l e R s mi args below meth c ce sl Q G base dC dI dA A nL pc' ls' st' m') (h : am_step G dp env rt (19, nx, a, b, v, w, tl) ls st m k = some res) : am_Go p l e R s mi args below meth c ce sl Q G base dC dI dA A nL pc ls st m := by
  obtain ⟨hx, hb, hml, hown, hts, hK⟩ := hF
  rw [am_e19] at h
  split at h
  · have h0 := hk _ _ _ _ h
    intro H locs arr hL hP hD hS
    have h1 := h0 H locs arr hL hP hD hS
    obtain ⟨q, hq, hd, hn⟩ := hI
    dsimp only at hn
    simp only [am_cd, List.mem_singleton] at hq
    subst hq
    subst hn
    exact lv_i2b hx hb hd rfl h1
  · cases h
theorem am_o20 (hF : am_Fr p s mi args c own cc nL dC dI dA Ts) (hI : am_Ik own cc pc (20, nx, a, b, v, w, tl))
    (hk : ∀ pc' ls' st' m', k pc' ls' st' m' = some res → am_Go p l e R s mi args below meth c ce sl Q G base dC dI dA A nL pc' ls' st' m') (h : am_step G dp env rt (20, nx, a, b, v, w, tl) ls st m k = some res) : am_Go p l e R s mi args below meth c ce sl Q G base dC dI dA A nL pc ls st m := by
  obtain ⟨hx, hb, hml, hown, hts, hK⟩ := hF
  rw [am_e20] at h
  split at h
  · split at h
    · rename_i x st' hc
      have h0 := hk _ _ _ _ h
      intro H locs arr hL hP hD hS
      have h1 := h0 H locs arr hL hP hD hS
      obtain ⟨q, hq, hd, hn⟩ := hI
      dsimp only at hn
      simp only [am_cd, List.mem_singleton] at hq
      subst hq
      subst hn
      exact lv_dup hx hb hd (by rw [am_cv_cat]; exact hc) h1
    · cases h
  · cases h
theorem am_o21 (hF : am_Fr p s mi args c own cc nL dC dI dA Ts) (hI : am_Ik own cc pc (21, nx, a, b, v, w, tl))
    (hk : ∀ pc' ls' st' m', k pc' ls' st' m' = some res → am_Go p l e R s mi args below meth c ce sl Q G base dC dI dA A nL pc' ls' st' m') (h : am_step G dp env rt (21, nx, a, b, v, w, tl) ls st m k = some res) : am_Go p l e R s mi args below meth c ce sl Q G base dC dI dA A nL pc ls st m := by
  obtain ⟨hx, hb, hml, hown, hts, hK⟩ := hF
  rw [am_e21] at h
  split at h
  · split at h
    · rename_i x st' hc
      have h0 := hk _ _ _ _ h
      intro H locs arr hL hP hD hS
      have h1 := h0 H locs arr hL hP hD hS
      obtain ⟨q, hq, hd, hn⟩ := hI
      dsimp only at hn
      simp only [am_cd, List.mem_singleton] at hq
      subst hq
      subst hn
      exact lv_pop hx hb hd (by rw [am_cv_cat]; exact hc) h1
    · cases h
  · cases h
theorem am_o22 (hF : am_Fr p s mi args c own cc nL dC dI dA Ts) (hI : am_Ik own cc pc (22, nx, a, b, v, w, tl))
    (hk : ∀ pc' ls' st' m', k pc' ls' st' m' = some res → am_Go p l e R s mi args below meth c ce sl Q G base dC dI dA A nL pc' ls' st' m') (h : am_step G dp env rt (22, nx, a, b, v, w, tl) ls st m k = some res) : am_Go p l e R s mi args below meth c ce sl Q G base dC dI dA A nL pc ls st m := by
  obtain ⟨hx, hb, hml, hown, hts, hK⟩ := hF
  rw [am_e22] at h
  split at h
  · split at h
    · rename_i x y st' hc
      split at h
      · rename_i hc2
        have h0 := hk _ _ _ _ h
        intro H locs arr hL hP hD hS
        have h1 := h0 H locs arr hL hP hD hS
        obtain ⟨q, hq, hd, hn⟩ := hI
        dsimp only at hn
        simp only [am_cd, List.mem_singleton] at hq
        subst hq
        subst hn
        exact lv_dup2_11 hx hb hd (by rw [am_cv_cat]; exact hc) (by rw [am_cv_cat]; exact hc2) h1
      · cases h
    · cases h
  · cases h
theorem am_jt {x y : Int} : x + (y - x) = y := by omega
theorem am_o23 (hF : am_Fr p s mi args c own cc nL dC dI dA Ts) (hI : am_Ik own cc pc (23, nx, a, b, v, w, tl))
    (hk : ∀ pc' ls' st' m', k pc' ls' st' m' = some res → am_Go p l e R s mi args below meth c ce sl Q G base dC dI dA A nL pc' ls' st' m') (h : am_step G dp env rt (23, nx, a, b, v, w, tl) ls st m k = some res) : am_Go p l e R s mi args below meth c ce sl Q G base dC dI dA A nL pc ls st m := by
  obtain ⟨hx, hb, hml, hown, hts, hK⟩ := hF
  rw [am_e23] at h
  split at h
  · rename_i x st'
    obtain ⟨q, hq, hd, hn⟩ := hI
    dsimp only at hn
    simp only [am_cd, List.mem_singleton] at hq
    subst hq
    subst hn
    intro H locs arr hL hP hD hS
    have hg : ∀ pc', k pc' ls st' m = some res → W p l e R s mi args below meth c H locs ce sl Q (F0 mi pc' arr (st'.map (am_cv base))) := fun pc' h => hk _ _ _ _ h H locs arr hL hP hD hS
    unfold am_j1 at hd
    unfold am_if at h
    split at hd
    · exact lv_if_eq hx hb hd am_jt (fun hc => hg _ (by rw [if_pos hc] at h; exact h)) (fun hc => hg _ (by rw [if_neg hc] at h; exact h))
    · change (if x = 0 then k (pc + 3) ls st' m else k a ls st' m) = some res at h
      exact lv_if_ne hx hb hd am_jt (fun hc => hg _ (by rw [if_neg hc] at h; exact h)) (fun hc => hg _ (by rw [if_pos hc] at h; exact h))
    · exact lv_if_lt hx hb hd am_jt (fun hc => hg _ (by rw [if_pos hc] at h; exact h)) (fun hc => hg _ (by rw [if_neg hc] at h; exact h))
    · exact lv_if_ge hx hb hd am_jt (fun hc => hg _ (by rw [if_pos hc] at h; exact h)) (fun hc => hg _ (by rw [if_neg hc] at h; exact h))
    · exact lv_if_gt hx hb hd am_jt (fun hc => hg _ (by rw [if_pos hc] at h; exact h)) (fun hc => hg _ (by rw [if_neg hc] at h; exact h))
    · rename_i n0 n1 n2 n3 n4
      split at h
      · exact absurd rfl n0
      · exact absurd rfl n1
      · exact absurd rfl n2
      · exact absurd rfl n3
      · exact absurd rfl n4
      · exact lv_if_le hx hb hd am_jt (fun hc => hg _ (by rw [if_pos hc] at h; exact h)) (fun hc => hg _ (by rw [if_neg hc] at h; exact h))
  · cases h
theorem am_o24 (hF : am_Fr p s mi args c own cc nL dC dI dA Ts) (hI : am_Ik own cc pc (24, nx, a, b, v, w, tl))
    (hk : ∀ pc' ls' st' m', k pc' ls' st' m' = some res → am_Go p l e R s mi args below meth c ce sl Q G base dC dI dA A nL pc' ls' st' m') (h : am_step G dp env rt (24, nx, a, b, v, w, tl) ls st m k = some res) : am_Go p l e R s mi args below meth c ce sl Q G base dC dI dA A nL pc ls st m := by
  obtain ⟨hx, hb, hml, hown, hts, hK⟩ := hF
  rw [am_e24] at h
  split at h
  · rename_i y x st'
    obtain ⟨q, hq, hd, hn⟩ := hI
    dsimp only at hn
    simp only [am_cd, List.mem_singleton] at hq
    subst hq
    subst hn
    intro H locs arr hL hP hD hS
    have hg : ∀ pc', k pc' ls st' m = some res → W p l e R s mi args below meth c H locs ce sl Q (F0 mi pc' arr (st'.map (am_cv base))) := fun pc' h => hk _ _ _ _ h H locs arr hL hP hD hS
    unfold am_j2 at hd
    unfold am_ic at h
    split at hd
    · exact lv_icmp_eq hx hb hd am_jt (fun hc => hg _ (by rw [if_pos hc] at h; exact h)) (fun hc => hg _ (by rw [if_neg hc] at h; exact h))
    · change (if x = y then k (pc + 3) ls st' m else k a ls st' m) = some res at h
      exact lv_icmp_ne hx hb hd am_jt (fun hc => hg _ (by rw [if_neg hc] at h; exact h)) (fun hc => hg _ (by rw [if_pos hc] at h; exact h))
    · exact lv_icmp_lt hx hb hd am_jt (fun hc => hg _ (by rw [if_pos hc] at h; exact h)) (fun hc => hg _ (by rw [if_neg hc] at h; exact h))
    · exact lv_icmp_ge hx hb hd am_jt (fun hc => hg _ (by rw [if_pos hc] at h; exact h)) (fun hc => hg _ (by rw [if_neg hc] at h; exact h))
    · exact lv_icmp_gt hx hb hd am_jt (fun hc => hg _ (by rw [if_pos hc] at h; exact h)) (fun hc => hg _ (by rw [if_neg hc] at h; exact h))
    · rename_i n0 n1 n2 n3 n4
      split at h
      · exact absurd rfl n0
      · exact absurd rfl n1
      · exact absurd rfl n2
      · exact absurd rfl n3
      · exact absurd rfl n4
      · exact lv_icmp_le hx hb hd am_jt (fun hc => hg _ (by rw [if_pos hc] at h; exact h)) (fun hc => hg _ (by rw [if_neg hc] at h; exact h))
  · cases h
theorem am_o25 (hF : am_Fr p s mi args c own cc nL dC dI dA Ts) (hI : am_Ik own cc pc (25, nx, a, b, v, w, tl))
    (hk : ∀ pc' ls' st' m', k pc' ls' st' m' = some res → am_Go p l e R s mi args below meth c ce sl Q G base dC dI dA A nL pc' ls' st' m') (h : am_step G dp env rt (25, nx, a, b, v, w, tl) ls st m k = some res) : am_Go p l e R s mi args below meth c ce sl Q G base dC dI dA A nL pc ls st m := by
  obtain ⟨hx, hb, hml, hown, hts, hK⟩ := hF
  obtain ⟨q, hq, hd, hn⟩ := hI
  dsimp only at hn
  simp only [am_cd, List.mem_singleton] at hq
  subst hq
  intro H locs arr hL hP hD hS
  exact lv_goto hx hb hd am_jt (hk _ _ _ _ h H locs arr hL hP hD hS)
theorem am_sw_in {x : Int32} {f : Nat → am_R} {d : Nat} : ∀ {tl : List (Int32 × Nat)} {n : Int}, am_ks n tl = true → am_sw x f d tl = some res → (∃ (j t : Nat), x.toInt = n + (j : Int) ∧ (tl.map (fun q => q.2))[j]? = some t ∧ j < tl.length ∧ f t = some res) ∨ ((x.toInt < n ∨ n + (tl.length : Int) ≤ x.toInt) ∧ f d = some res)
  | [], n, _, h => by
    right
    exact ⟨by simp; omega, h⟩
  | q :: tl, n, hk, h => by
    simp only [am_ks, Bool.and_eq_true, decide_eq_true_eq] at hk
    unfold am_sw at h
    split at h
    · rename_i hx
      left
      exact ⟨0, q.2, by rw [hx, hk.1]; simp, by simp, by simp, h⟩
    · rename_i hx
      have hne : x.toInt ≠ n := fun z => hx (Int32.toInt_inj.mp (z.trans hk.1.symm))
      rcases am_sw_in hk.2 h with ⟨j, t, h1, h2, h3, h4⟩ | ⟨h1, h2⟩
      · left
        exact ⟨j + 1, t, by rw [h1]; simp; omega, by simpa using h2, by simpa using h3, h4⟩
      · right
        refine ⟨?_, h2⟩
        simp only [List.length_cons, Int.natCast_add, Int.natCast_one]
        omega
theorem am_o26 (hF : am_Fr p s mi args c own cc nL dC dI dA Ts) (hI : am_Ik own cc pc (26, nx, a, b, v, w, tl))
    (hk : ∀ pc' ls' st' m', k pc' ls' st' m' = some res → am_Go p l e R s mi args below meth c ce sl Q G base dC dI dA A nL pc' ls' st' m') (h : am_step G dp env rt (26, nx, a, b, v, w, tl) ls st m k = some res) : am_Go p l e R s mi args below meth c ce sl Q G base dC dI dA A nL pc ls st m := by
  obtain ⟨hx, hb, hml, hown, hts, hK⟩ := hF
  rw [am_e26] at h
  split at h
  · rename_i x st'
    obtain ⟨q, hq, hd, hn⟩ := hI
    dsimp only at hn
    simp only [am_cd] at hq
    split at hq
    · rename_i hks
      rw [List.mem_singleton] at hq
      subst hq
      intro H locs arr hL hP hD hS
      rcases am_sw_in hks h with ⟨j, t, h1, h2, h3, h4⟩ | ⟨h1, h2⟩
      · refine lv_tableIn (off := (t : Int) - (pc : Int)) hx hb hd (by omega) (by omega) ?_ am_jt (hk _ _ _ _ h4 H locs arr hL hP hD hS)
        rw [show (x.toInt - am_lo tl).toNat = j by omega]
        rw [List.getElem?_map] at h2
        simp only [List.getElem?_toArray, List.getElem?_map]
        cases hj : tl[j]? with
        | none => rw [hj] at h2; cases h2
        | some r => rw [hj] at h2; simp at h2; simp [h2]
      · exact lv_tableOut hx hb hd (by omega) am_jt (hk _ _ _ _ h2 H locs arr hL hP hD hS)
    · cases hq
  · cases h
end AMS
