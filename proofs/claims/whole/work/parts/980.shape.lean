/-! a call of a kind of answer 'int' answers an int -/
def sh_I (rt : Nat) (r : am_R) : Prop := ∀ res, r = some res → ((rt = 1 ∨ rt = 2) ∧ ∃ x : Int32, res.1 = some (Value.int x)) ∨ (rt = 3 ∧ ∃ x : Int64, res.1 = some (Value.long x)) ∨ (rt = 0 ∧ res.1 = none)
theorem sh_none {rt : Nat} : sh_I rt none := fun _ h => by cases h
theorem sh_int1 {x : Int32} {m : am_M} : sh_I 1 (some (some (Value.int x), m)) := fun _ h => by cases h; exact Or.inl ⟨Or.inl rfl, x, rfl⟩
theorem sh_int2 {x : Int32} {m : am_M} : sh_I 2 (some (some (Value.int x), m)) := fun _ h => by cases h; exact Or.inl ⟨Or.inr rfl, x, rfl⟩
theorem sh_long {x : Int64} {m : am_M} : sh_I 3 (some (some (Value.long x), m)) := fun _ h => by cases h; exact Or.inr (Or.inl ⟨rfl, x, rfl⟩)
theorem sh_void {m : am_M} : sh_I 0 (some (none, m)) := fun _ h => by cases h; exact Or.inr (Or.inr ⟨rfl, rfl⟩)
theorem sh_br {rt : Nat} {c : Bool} {t f : am_R} (h1 : sh_I rt t) (h2 : sh_I rt f) : sh_I rt (am_br c t f) := by
  cases c
  · exact h2
  · exact h1
theorem sh_jf {rt : Nat} {b : Nat} {x : Int32} {t f : am_R} (h1 : sh_I rt t) (h2 : sh_I rt f) : sh_I rt (am_jf b x t f) := by
  unfold am_jf
  split
  · exact sh_br h1 h2
  · exact sh_br h2 h1
  · exact sh_br h1 h2
  · exact sh_br h1 h2
  · exact sh_br h1 h2
  · exact sh_br h1 h2
theorem sh_jc {rt : Nat} {b : Nat} {x y : Int32} {t f : am_R} (h1 : sh_I rt t) (h2 : sh_I rt f) : sh_I rt (am_jc b x y t f) := by
  unfold am_jc
  split
  · exact sh_br h1 h2
  · exact sh_br h2 h1
  · exact sh_br h1 h2
  · exact sh_br h1 h2
  · exact sh_br h1 h2
  · exact sh_br h1 h2
theorem sh_tw {rt : Nat} {x : Int32} {k : Nat → am_R} {d : Nat} (hk : ∀ n, sh_I rt (k n)) : ∀ tl : List (Int32 × Nat), sh_I rt (am_tw x k d tl)
  | [] => hk d
  | q :: l => by
    unfold am_tw
    exact sh_br (hk _) (sh_tw hk l)
theorem sh_bV {rt : Nat} {r : am_R} {f : am_M → am_R} (hf : ∀ m, sh_I rt (f m)) : sh_I rt (am_bV r f) := by
  unfold am_bV
  split
  · exact hf _
  · exact sh_none
theorem sh_bI {rt : Nat} {r : am_R} {f : Int32 → am_M → am_R} (hf : ∀ x m, sh_I rt (f x m)) : sh_I rt (am_bI r f) := by
  unfold am_bI
  split
  · exact hf _ _
  · exact sh_none
theorem sh_bL {rt : Nat} {r : am_R} {f : Int64 → am_M → am_R} (hf : ∀ x m, sh_I rt (f x m)) : sh_I rt (am_bL r f) := by
  unfold am_bL
  split
  · exact hf _ _
  · exact sh_none
set_option maxHeartbeats 4000000 in
theorem sh_step {G : List am_D} {dp : Bool} {env : Nat → List Value → am_M → am_R} {rt : Nat} {i : am_I} {ls : am_L} {st : List Value} {m : am_M} {k : Nat → am_L → List Value → am_M → am_R} (hk : ∀ a b c d, sh_I rt (k a b c d)) : sh_I rt (am_step G dp env rt i ls st m k) := by
  obtain ⟨op, nx, a, b, v, w, tl⟩ := i
  unfold am_step
  dsimp only
  split
  all_goals (repeat' first
    | exact hk _ _ _ _
    | exact sh_none
    | exact sh_int1
    | exact sh_int2
    | exact sh_long
    | exact sh_void
    | exact sh_tw (fun _ => hk _ _ _ _) _
    | exact sh_bV (fun _ => hk _ _ _ _)
    | exact sh_bI (fun _ _ => hk _ _ _ _)
    | exact sh_bL (fun _ _ => hk _ _ _ _)
    | exact sh_jf (hk _ _ _ _) (hk _ _ _ _)
    | exact sh_jc (hk _ _ _ _) (hk _ _ _ _)
    | apply sh_br
    | split)
theorem sh_blk {G : List am_D} {dp : Bool} {env : Nat → List Value → am_M → am_R} {rt : Nat} {P : List (Nat × am_I)} {cuts : List Nat} {rec : Nat → am_L → am_M → am_R} (hr : ∀ a b c, sh_I rt (rec a b c)) : ∀ (n pc : Nat) (ls : am_L) (st : List Value) (m : am_M), sh_I rt (am_blk G dp env rt P cuts rec n pc ls st m) := by
  intro n
  induction n with
  | zero => intro pc ls st m; exact sh_none
  | succ n ih =>
    intro pc ls st m
    unfold am_blk
    split
    · exact sh_none
    · refine sh_step (fun pc' ls' st' m' => sh_br ?_ (ih _ _ _ _))
      split
      · exact hr _ _ _
      · exact ih _ _ _ _
theorem sh_run {G : List am_D} {dp : Bool} {env : Nat → List Value → am_M → am_R} {rt : Nat} {P : List (Nat × am_I)} {cuts : List Nat} : ∀ (n pc : Nat) (ls : am_L) (m : am_M), sh_I rt (am_run G dp env rt P cuts n pc ls m) := by
  intro n
  induction n with
  | zero => intro pc ls m; exact sh_none
  | succ n ih =>
    intro pc ls m
    unfold am_run
    exact sh_blk ih _ _ _ _ _
/-- the kind of a method's answer -/
def am_ri (y : Nat) : Nat := match am_at am_MT y with
  | some q => q.2.1
  | none => 9
theorem am_shp {d y : Nat} {vs : List Value} {m : am_M} : sh_I (am_ri y) (am_c d y vs m) := by
  unfold am_ri am_c
  cases hq : am_at am_MT y with
  | none =>
    cases d with
    | zero =>
      unfold am_call
      rw [hq]
      exact sh_none
    | succ d =>
      unfold am_call
      rw [hq]
      exact sh_none
  | some q =>
    cases d with
    | zero =>
      unfold am_call
      rw [hq]
      exact sh_br (sh_run _ _ _ _) sh_none
    | succ d =>
      unfold am_call
      rw [hq]
      exact sh_br (sh_run _ _ _ _) sh_none
theorem am_int {d y : Nat} {vs : List Value} {m m' : am_M} {r : Option Value} (hy : am_ri y = 1 ∨ am_ri y = 2) (h : am_c d y vs m = some (r, m')) : ∃ x : Int32, r = some (Value.int x) := by
  rcases am_shp _ h with ⟨-, h1⟩ | ⟨h1, -⟩ | ⟨h1, -⟩
  · exact h1
  · omega
  · omega
theorem am_lng {d y : Nat} {vs : List Value} {m m' : am_M} {r : Option Value} (hy : am_ri y = 3) (h : am_c d y vs m = some (r, m')) : ∃ x : Int64, r = some (Value.long x) := by
  rcases am_shp _ h with ⟨h1, -⟩ | ⟨-, h1⟩ | ⟨h1, -⟩
  · omega
  · exact h1
  · omega
