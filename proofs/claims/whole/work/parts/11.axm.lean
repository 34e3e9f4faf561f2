/-! the machine of constructors: the cells grow -/
abbrev ax_S : Type := List am_D × am_M
def ax_fv (base : Nat) (m : am_M) (k j f : Nat) : Value := match f with
  | 0 => .int (m.1 k j)
  | 1 => .int (m.1 k j)
  | 2 => .long (m.2 k j)
  | 3 => .null
  | f + 4 => .ref (base + f)
def ax_ce (dA : Nat → ClassId) (base : Nat) (m : am_M) (k : Nat) (g : am_D) : va_E := match g with
  | (4, n, fs) => .inr (n, fs.mapIdx (fun j f => ax_fv base m k j f))
  | (3, n, _) => .inl (dA 3, n, .inr (.inl (m.2 k)))
  | (t, n, _) => .inl (dA t, n, .inl (m.1 k))
def ax_pw (G : List am_D) (dA : Nat → ClassId) (base : Nat) (m : am_M) : va_W := G.mapIdx (fun k g => (base + k, ax_ce dA base m k g))
def ax_n1 (g : am_D) : Nat := if g.1 = 4 then g.2.2.length else g.2.1
def ax_sz (G : List am_D) : Nat := (G.map ax_n1).sum
def ax_df (ci : Nat) : List Nat := match am_at ax_D ci with
  | some l => l
  | none => []
def ax_Z0 (S : ax_S) : Prop := ∀ k, S.1.length ≤ k → S.2.1 k = (fun _ => 0) ∧ S.2.2 k = (fun _ => 0)
theorem ax_ce_same {dA : Nat → ClassId} {base : Nat} {m m' : am_M} {k : Nat} (g : am_D) (h1 : m'.1 k = m.1 k) (h2 : m'.2 k = m.2 k) : ax_ce dA base m' k g = ax_ce dA base m k g := by
  have h3 : ∀ j f, ax_fv base m' k j f = ax_fv base m k j f := by
    intro j f
    unfold ax_fv
    split <;> simp [h1, h2]
  unfold ax_ce
  split
  · simp [h3]
  · simp [h2]
  · simp [h1]
theorem ax_pw_get {G : List am_D} {dA : Nat → ClassId} {base : Nat} {m : am_M} {k : Nat} {g : am_D} (h : am_at G k = some g) : (ax_pw G dA base m)[k]? = some (base + k, ax_ce dA base m k g) := by
  rw [am_at_eq] at h
  simp [ax_pw, List.getElem?_mapIdx, h]
/-- one cell changes -/
theorem ax_pw_set {G : List am_D} {dA : Nat → ClassId} {base : Nat} {m m' : am_M} {k : Nat} {g g' : am_D} {x : va_E} (h : am_at G k = some g) (hk : ∀ j, j ≠ k → m'.1 j = m.1 j ∧ m'.2 j = m.2 j) (hx : x = ax_ce dA base m' k g') : (ax_pw G dA base m).set k (base + k, x) = ax_pw (G.set k g') dA base m' := by
  subst hx
  have hl : k < G.length := by
    rw [am_at_eq] at h
    exact (List.getElem?_eq_some_iff.mp h).1
  apply List.ext_getElem?
  intro j
  by_cases hj : j = k
  · subst hj
    rw [List.getElem?_set_self (by simp [ax_pw, hl])]
    unfold ax_pw
    rw [List.getElem?_mapIdx, List.getElem?_set_self hl]
    rfl
  · rw [List.getElem?_set_ne (Ne.symm hj)]
    simp only [ax_pw, List.getElem?_mapIdx]
    rw [List.getElem?_set_ne (Ne.symm hj)]
    cases hg : G[j]? with
    | none => rfl
    | some q => simp [ax_ce_same (dA := dA) (base := base) q (hk j hj).1 (hk j hj).2]
theorem ax_set_id {G : List am_D} {k : Nat} {g : am_D} (h : am_at G k = some g) : G.set k g = G := by
  rw [am_at_eq] at h
  apply List.ext_getElem?
  intro j
  by_cases hj : j = k
  · subst hj
    rw [List.getElem?_set_self (List.getElem?_eq_some_iff.mp h).1, h]
  · rw [List.getElem?_set_ne (Ne.symm hj)]
theorem ax_pw_push {G : List am_D} {dA : Nat → ClassId} {base : Nat} {m : am_M} {g : am_D} : ax_pw (G ++ [g]) dA base m = ax_pw G dA base m ++ [(base + G.length, ax_ce dA base m G.length g)] := by
  simp [ax_pw, List.mapIdx_append]
theorem ax_sz_push {G : List am_D} {g : am_D} : ax_sz (G ++ [g]) = ax_sz G + ax_n1 g := by simp [ax_sz]
theorem ax_sz_set {G : List am_D} {k : Nat} {g g' : am_D} (h : am_at G k = some g) (hn : ax_n1 g' = ax_n1 g) : ax_sz (G.set k g') = ax_sz G := by
  have : (G.set k g').map ax_n1 = G.map ax_n1 := by
    rw [List.map_set, hn]
    rw [am_at_eq] at h
    apply List.ext_getElem?
    intro j
    by_cases hj : j = k
    · subst hj
      rw [List.getElem?_set_self (by simp; exact (List.getElem?_eq_some_iff.mp h).1), List.getElem?_map, h]
      rfl
    · rw [List.getElem?_set_ne (Ne.symm hj)]
  unfold ax_sz
  rw [this]
theorem ax_fs_get {base o b f : Nat} {m : am_M} {fs : List Nat} (h : am_at fs b = some f) : (fs.mapIdx (fun j f => ax_fv base m o j f))[b]? = some (ax_fv base m o b f) := by
  rw [am_at_eq] at h
  simp [List.getElem?_mapIdx, h]
theorem ax_fs_set {base o b f f' : Nat} {m m' : am_M} {fs : List Nat} (h : am_at fs b = some f) {x : Value} (hx : ax_fv base m' o b f' = x) (hn : ∀ j, j ≠ b → m'.1 o j = m.1 o j ∧ m'.2 o j = m.2 o j) : (fs.mapIdx (fun j f => ax_fv base m o j f)).set b x = (fs.set b f').mapIdx (fun j f => ax_fv base m' o j f) := by
  rw [am_at_eq] at h
  have hl : b < fs.length := (List.getElem?_eq_some_iff.mp h).1
  apply List.ext_getElem?
  intro j
  by_cases hj : j = b
  · subst hj
    rw [List.getElem?_set_self (by simp [hl]), List.getElem?_mapIdx, List.getElem?_set_self hl]
    simp [hx]
  · rw [List.getElem?_set_ne (Ne.symm hj)]
    simp only [List.getElem?_mapIdx]
    rw [List.getElem?_set_ne (Ne.symm hj)]
    cases hg : fs[j]? with
    | none => rfl
    | some q =>
      simp only [Option.map_some, Option.some.injEq]
      unfold ax_fv
      split <;> simp [(hn j hj).1, (hn j hj).2]
/-- one instruction of a constructor -/
def ax_step (env : Nat → Nat → ax_S → Option ax_S) (i : am_I) (o0 : Nat) (st : List Value) (S : ax_S) (k : Nat → List Value → ax_S → Option (Nat × ax_S)) : Option (Nat × ax_S) :=
  match i with
  | (op, nx, a, b, v, w, tl) => match op with
    | 0 => k nx (.int v :: st) S
    | 4 => if a = 0 then k nx (.ref o0 :: st) S else none
    | 20 => match st with
      | x :: st' => if x.category = 1 then k nx (x :: x :: st') S else none
      | _ => none
    | 21 => match st with
      | x :: st' => if x.category = 1 then k nx st' S else none
      | _ => none
    | 27 => match st with
      | .ref o :: st' => match am_at S.1 o with
        | some (4, ci, fs) => if ci = a then (match am_at fs b with
          | some (f + 4) => k nx (.ref f :: st') S
          | _ => none) else none
        | _ => none
      | _ => none
    | 28 => match st with
      | .ref x :: .ref o :: st' => match am_at S.1 o with
        | some (4, ci, fs) => if ci = a then (match am_at fs b with
          | some 3 => k nx st' (S.1.set o (4, ci, fs.set b (x + 4)), S.2)
          | _ => none) else none
        | _ => none
      | .int x :: .ref o :: st' => match am_at S.1 o with
        | some (4, ci, fs) => if ci = a then (match am_at fs b with
          | some 0 => k nx st' (S.1, (am_w S.2.1 o b x, S.2.2))
          | _ => none) else none
        | _ => none
      | _ => none
    | 30 => match st with
      | .int x :: .int j :: .ref o :: st' => match am_at S.1 o with
        | some (0, n, _) => if am_oi j n = true then none else k nx st' (S.1, (am_w S.2.1 o j.toNatClampNeg x, S.2.2))
        | _ => none
      | _ => none
    | 50 => k nx (.ref S.1.length :: st) (S.1 ++ [(4, a, ax_df a)], S.2)
    | 51 => match st with
      | .int n :: st' => if n < 0 then none else if 8000 < n.toNatClampNeg then none else if 3 < a then none else k nx (.ref S.1.length :: st') (S.1 ++ [(a, n.toNatClampNeg, [])], S.2)
      | _ => none
    | 52 => match st with
      | .ref _ :: st' => if 8 < am_ca st' then none else k nx st' S
      | _ => none
    | 53 => match st with
      | .ref o :: st' => if 8 < am_ca st' then none else match env a o S with
        | some S' => k nx st' S'
        | none => none
      | _ => none
    | _ => none
/-- up to a return, or to a given place, with an empty stack -/
def ax_blk (env : Nat → Nat → ax_S → Option ax_S) (P : List (Nat × am_I)) (sp o0 : Nat) : Nat → Nat → List Value → ax_S → Option (Nat × ax_S)
  | 0, _, _, _ => none
  | n + 1, pc, st, S => match am_lk P pc with
    | none => if pc = sp then (match st with
      | [] => some (pc, S)
      | _ => none) else none
    | some i => if i.1 = 43 then (match st with
      | [] => some (pc, S)
      | _ => none) else ax_step env i o0 st S (ax_blk env P sp o0 n)
/-- Scanner(): two arrays, and the words of the language -/
def ax_lg : List Int32 := [679786720, 404144128, 441634816, 626398208, 217284608, 642945024, 404455424, 679777472, 646742016, 592630944, 658541920, 211419136, 404362240, 475056128, 556043424, 522190848, 48365568, 486146048, 647828480, 116823648, 202964992, 527892480, 378998784, 136085504, 780438784]
def ax_sc (o : Nat) (S : ax_S) : Option ax_S := match am_at S.1 o with
  | some (4, 6, [3, 3, 0, 0, 0, 0, 0, 0]) => some ((S.1.set o (4, 6, [S.1.length + 4, S.1.length + 5, 0, 0, 0, 0, 0, 0])) ++ [(1, 700, []), (0, 25, [])], (fun k => if k = S.1.length + 1 then (fun j => ax_lg.getD j 0) else S.2.1 k, S.2.2))
  | _ => none
def ax_call : Nat → Nat → Nat → ax_S → Option ax_S
  | 0, _, _, _ => none
  | d + 1, y, o, S => if y = 6 then (if 4 ≤ d then ax_sc o S else none) else match am_at ax_P y with
    | none => none
    | some q => match am_at S.1 o with
      | some (4, ci, _) => if ci = q.1 then (match ax_blk (ax_call d) q.2 100000 o 2000 0 [] S with
        | some (pc, S') => if (am_lk q.2 pc).isSome = true then some S' else none
        | none => none) else none
      | _ => none
