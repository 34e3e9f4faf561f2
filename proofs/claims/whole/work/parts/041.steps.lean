def am_cn (own : Nat) : String := match am_at vwCl own with
  | some q => q.1
  | none => ""
theorem am_br_c {c : Bool} {t f : am_R} : am_br c t f = if c = true then t else f := by cases c <;> rfl
theorem am_br_p {c : Bool} {p : Prop} [Decidable p] {t f : am_R} (h : c = true ↔ p) : am_br c t f = if p then t else f := by
  rw [am_br_c]
  by_cases hp : p
  · rw [if_pos hp, if_pos (h.mpr hp)]
  · rw [if_neg hp, if_neg (fun z => hp (h.mp z))]
theorem am_br_blt {a b : Nat} {t f : am_R} : am_br (Nat.blt a b) t f = if a < b then t else f := am_br_p (by simp [Nat.blt_eq])
theorem am_br_beq {a b : Nat} {t f : am_R} : am_br (Nat.beq a b) t f = if a = b then t else f := am_br_p (by simp [Nat.beq_eq])
theorem am_br_eq {a b : Int32} {t f : am_R} : am_br (am_eq a b) t f = if a = b then t else f := am_br_p (by simp [am_eq])
theorem am_br_lt {a b : Int32} {t f : am_R} : am_br (am_lt a b) t f = if a < b then t else f := am_br_p (by simp [am_lt])
theorem am_br_le {a b : Int32} {t f : am_R} : am_br (am_le a b) t f = if a ≤ b then t else f := am_br_p (by simp [am_le])
theorem am_br_el {a b : Int64} {t f : am_R} : am_br (am_el a b) t f = if a = b then t else f := am_br_p (by simp [am_el])
theorem am_br_oi {j : Int32} {n : Nat} {t f : am_R} : am_br (am_oi j n) t f = if am_oi j n = true then t else f := am_br_c
theorem am_jf_eq {b : Nat} {x : Int32} {t f : am_R} : am_jf b x t f = am_if b x t f := by
  unfold am_jf am_if
  split
  · exact am_br_eq
  · exact am_br_eq
  · exact am_br_lt
  · exact am_br_le
  · exact am_br_lt
  · exact am_br_le
theorem am_jc_eq {b : Nat} {x y : Int32} {t f : am_R} : am_jc b x y t f = am_ic b x y t f := by
  unfold am_jc am_ic
  split
  · exact am_br_eq
  · exact am_br_eq
  · exact am_br_lt
  · exact am_br_le
  · exact am_br_lt
  · exact am_br_le
theorem am_tw_eq {x : Int32} {k : Nat → am_R} {d : Nat} : ∀ {tl : List (Int32 × Nat)}, am_tw x k d tl = am_sw x k d tl
  | [] => rfl
  | q :: l => by
    unfold am_tw am_sw
    rw [am_tw_eq]
    exact am_br_eq
theorem am_e0 {G : List am_D} {dp : Bool} {env : Nat → List Value → am_M → am_R} {rt : Nat} {k : Nat → am_L → List Value → am_M → am_R} {nx a b : Nat} {v : Int32} {w : Int64} {tl : List (Int32 × Nat)} {ls : am_L} {st : List Value} {m : am_M} : am_step G dp env rt (0, nx, a, b, v, w, tl) ls st m k = (k nx ls (.int v :: st) m) := rfl
theorem am_e1 {G : List am_D} {dp : Bool} {env : Nat → List Value → am_M → am_R} {rt : Nat} {k : Nat → am_L → List Value → am_M → am_R} {nx a b : Nat} {v : Int32} {w : Int64} {tl : List (Int32 × Nat)} {ls : am_L} {st : List Value} {m : am_M} : am_step G dp env rt (1, nx, a, b, v, w, tl) ls st m k = (k nx ls (.long w :: st) m) := rfl
theorem am_e2 {G : List am_D} {dp : Bool} {env : Nat → List Value → am_M → am_R} {rt : Nat} {k : Nat → am_L → List Value → am_M → am_R} {nx a b : Nat} {v : Int32} {w : Int64} {tl : List (Int32 × Nat)} {ls : am_L} {st : List Value} {m : am_M} : am_step G dp env rt (2, nx, a, b, v, w, tl) ls st m k = (match ls.getD a none with
      | some (.int x) => k nx ls (.int x :: st) m
      | _ => none) := rfl
theorem am_e3 {G : List am_D} {dp : Bool} {env : Nat → List Value → am_M → am_R} {rt : Nat} {k : Nat → am_L → List Value → am_M → am_R} {nx a b : Nat} {v : Int32} {w : Int64} {tl : List (Int32 × Nat)} {ls : am_L} {st : List Value} {m : am_M} : am_step G dp env rt (3, nx, a, b, v, w, tl) ls st m k = (match ls.getD a none with
      | some (.long x) => k nx ls (.long x :: st) m
      | _ => none) := rfl
theorem am_e4 {G : List am_D} {dp : Bool} {env : Nat → List Value → am_M → am_R} {rt : Nat} {k : Nat → am_L → List Value → am_M → am_R} {nx a b : Nat} {v : Int32} {w : Int64} {tl : List (Int32 × Nat)} {ls : am_L} {st : List Value} {m : am_M} : am_step G dp env rt (4, nx, a, b, v, w, tl) ls st m k = (match ls.getD a none with
      | some (.ref x) => k nx ls (.ref x :: st) m
      | _ => none) := rfl
theorem am_e5 {G : List am_D} {dp : Bool} {env : Nat → List Value → am_M → am_R} {rt : Nat} {k : Nat → am_L → List Value → am_M → am_R} {nx a b : Nat} {v : Int32} {w : Int64} {tl : List (Int32 × Nat)} {ls : am_L} {st : List Value} {m : am_M} : am_step G dp env rt (5, nx, a, b, v, w, tl) ls st m k = (match st with
      | .int x :: st' => if a < ls.length then k nx (am_s1 ls a (.int x)) st' m else none
      | _ => none) := by
  show ((match st with
        | .int x :: st' => am_br (Nat.blt a ls.length) (k nx (am_s1 ls a (.int x)) st' m) none
        | _ => none) : am_R) = _
  simp only [am_br_blt, am_br_beq, am_br_eq, am_br_lt, am_br_le, am_br_el, am_br_oi, am_jf_eq, am_jc_eq, am_tw_eq]
theorem am_e6 {G : List am_D} {dp : Bool} {env : Nat → List Value → am_M → am_R} {rt : Nat} {k : Nat → am_L → List Value → am_M → am_R} {nx a b : Nat} {v : Int32} {w : Int64} {tl : List (Int32 × Nat)} {ls : am_L} {st : List Value} {m : am_M} : am_step G dp env rt (6, nx, a, b, v, w, tl) ls st m k = (match st with
      | .long x :: st' => if a + 1 < ls.length then k nx (am_s2 ls a (.long x)) st' m else none
      | _ => none) := by
  show ((match st with
        | .long x :: st' => am_br (Nat.blt (a + 1) ls.length) (k nx (am_s2 ls a (.long x)) st' m) none
        | _ => none) : am_R) = _
  simp only [am_br_blt, am_br_beq, am_br_eq, am_br_lt, am_br_le, am_br_el, am_br_oi, am_jf_eq, am_jc_eq, am_tw_eq]
theorem am_e7 {G : List am_D} {dp : Bool} {env : Nat → List Value → am_M → am_R} {rt : Nat} {k : Nat → am_L → List Value → am_M → am_R} {nx a b : Nat} {v : Int32} {w : Int64} {tl : List (Int32 × Nat)} {ls : am_L} {st : List Value} {m : am_M} : am_step G dp env rt (7, nx, a, b, v, w, tl) ls st m k = (match st with
      | .ref x :: st' => if a < ls.length then k nx (am_s1 ls a (.ref x)) st' m else none
      | _ => none) := by
  show ((match st with
        | .ref x :: st' => am_br (Nat.blt a ls.length) (k nx (am_s1 ls a (.ref x)) st' m) none
        | _ => none) : am_R) = _
  simp only [am_br_blt, am_br_beq, am_br_eq, am_br_lt, am_br_le, am_br_el, am_br_oi, am_jf_eq, am_jc_eq, am_tw_eq]
theorem am_e8 {G : List am_D} {dp : Bool} {env : Nat → List Value → am_M → am_R} {rt : Nat} {k : Nat → am_L → List Value → am_M → am_R} {nx a b : Nat} {v : Int32} {w : Int64} {tl : List (Int32 × Nat)} {ls : am_L} {st : List Value} {m : am_M} : am_step G dp env rt (8, nx, a, b, v, w, tl) ls st m k = (match ls.getD a none with
      | some (.int x) => k nx (am_s1 ls a (.int (x + v))) st m
      | _ => none) := rfl
theorem am_e9 {G : List am_D} {dp : Bool} {env : Nat → List Value → am_M → am_R} {rt : Nat} {k : Nat → am_L → List Value → am_M → am_R} {nx a b : Nat} {v : Int32} {w : Int64} {tl : List (Int32 × Nat)} {ls : am_L} {st : List Value} {m : am_M} : am_step G dp env rt (9, nx, a, b, v, w, tl) ls st m k = (match st with
      | .int y :: .int x :: st' => k nx ls (.int (am_bi b x y) :: st') m
      | _ => none) := rfl
theorem am_e10 {G : List am_D} {dp : Bool} {env : Nat → List Value → am_M → am_R} {rt : Nat} {k : Nat → am_L → List Value → am_M → am_R} {nx a b : Nat} {v : Int32} {w : Int64} {tl : List (Int32 × Nat)} {ls : am_L} {st : List Value} {m : am_M} : am_step G dp env rt (10, nx, a, b, v, w, tl) ls st m k = (match st with
      | .int y :: .int x :: st' => if y = 0 then none else k nx ls (.int (x / y) :: st') m
      | _ => none) := by
  show ((match st with
        | .int y :: .int x :: st' => am_br (am_eq y 0) none (k nx ls (.int (x / y) :: st') m)
        | _ => none) : am_R) = _
  simp only [am_br_blt, am_br_beq, am_br_eq, am_br_lt, am_br_le, am_br_el, am_br_oi, am_jf_eq, am_jc_eq, am_tw_eq]
theorem am_e11 {G : List am_D} {dp : Bool} {env : Nat → List Value → am_M → am_R} {rt : Nat} {k : Nat → am_L → List Value → am_M → am_R} {nx a b : Nat} {v : Int32} {w : Int64} {tl : List (Int32 × Nat)} {ls : am_L} {st : List Value} {m : am_M} : am_step G dp env rt (11, nx, a, b, v, w, tl) ls st m k = (match st with
      | .int y :: .int x :: st' => if y = 0 then none else k nx ls (.int (x - x / y * y) :: st') m
      | _ => none) := by
  show ((match st with
        | .int y :: .int x :: st' => am_br (am_eq y 0) none (k nx ls (.int (x - x / y * y) :: st') m)
        | _ => none) : am_R) = _
  simp only [am_br_blt, am_br_beq, am_br_eq, am_br_lt, am_br_le, am_br_el, am_br_oi, am_jf_eq, am_jc_eq, am_tw_eq]
theorem am_e12 {G : List am_D} {dp : Bool} {env : Nat → List Value → am_M → am_R} {rt : Nat} {k : Nat → am_L → List Value → am_M → am_R} {nx a b : Nat} {v : Int32} {w : Int64} {tl : List (Int32 × Nat)} {ls : am_L} {st : List Value} {m : am_M} : am_step G dp env rt (12, nx, a, b, v, w, tl) ls st m k = (match st with
      | .long y :: .long x :: st' => k nx ls (.long (am_bl b x y) :: st') m
      | _ => none) := rfl
theorem am_e13 {G : List am_D} {dp : Bool} {env : Nat → List Value → am_M → am_R} {rt : Nat} {k : Nat → am_L → List Value → am_M → am_R} {nx a b : Nat} {v : Int32} {w : Int64} {tl : List (Int32 × Nat)} {ls : am_L} {st : List Value} {m : am_M} : am_step G dp env rt (13, nx, a, b, v, w, tl) ls st m k = (match st with
      | .long y :: .long x :: st' => if y = 0 then none else k nx ls (.long (x / y) :: st') m
      | _ => none) := by
  show ((match st with
        | .long y :: .long x :: st' => am_br (am_el y 0) none (k nx ls (.long (x / y) :: st') m)
        | _ => none) : am_R) = _
  simp only [am_br_blt, am_br_beq, am_br_eq, am_br_lt, am_br_le, am_br_el, am_br_oi, am_jf_eq, am_jc_eq, am_tw_eq]
theorem am_e14 {G : List am_D} {dp : Bool} {env : Nat → List Value → am_M → am_R} {rt : Nat} {k : Nat → am_L → List Value → am_M → am_R} {nx a b : Nat} {v : Int32} {w : Int64} {tl : List (Int32 × Nat)} {ls : am_L} {st : List Value} {m : am_M} : am_step G dp env rt (14, nx, a, b, v, w, tl) ls st m k = (match st with
      | .long y :: .long x :: st' => if y = 0 then none else k nx ls (.long (x - x / y * y) :: st') m
      | _ => none) := by
  show ((match st with
        | .long y :: .long x :: st' => am_br (am_el y 0) none (k nx ls (.long (x - x / y * y) :: st') m)
        | _ => none) : am_R) = _
  simp only [am_br_blt, am_br_beq, am_br_eq, am_br_lt, am_br_le, am_br_el, am_br_oi, am_jf_eq, am_jc_eq, am_tw_eq]
theorem am_e15 {G : List am_D} {dp : Bool} {env : Nat → List Value → am_M → am_R} {rt : Nat} {k : Nat → am_L → List Value → am_M → am_R} {nx a b : Nat} {v : Int32} {w : Int64} {tl : List (Int32 × Nat)} {ls : am_L} {st : List Value} {m : am_M} : am_step G dp env rt (15, nx, a, b, v, w, tl) ls st m k = (match st with
      | .long x :: st' => k nx ls (.long (-x) :: st') m
      | _ => none) := rfl
theorem am_e16 {G : List am_D} {dp : Bool} {env : Nat → List Value → am_M → am_R} {rt : Nat} {k : Nat → am_L → List Value → am_M → am_R} {nx a b : Nat} {v : Int32} {w : Int64} {tl : List (Int32 × Nat)} {ls : am_L} {st : List Value} {m : am_M} : am_step G dp env rt (16, nx, a, b, v, w, tl) ls st m k = (match st with
      | .long y :: .long x :: st' => k nx ls (.int (lg_cmp x y) :: st') m
      | _ => none) := rfl
theorem am_e17 {G : List am_D} {dp : Bool} {env : Nat → List Value → am_M → am_R} {rt : Nat} {k : Nat → am_L → List Value → am_M → am_R} {nx a b : Nat} {v : Int32} {w : Int64} {tl : List (Int32 × Nat)} {ls : am_L} {st : List Value} {m : am_M} : am_step G dp env rt (17, nx, a, b, v, w, tl) ls st m k = (match st with
      | .int x :: st' => k nx ls (.long x.toInt64 :: st') m
      | _ => none) := rfl
theorem am_e18 {G : List am_D} {dp : Bool} {env : Nat → List Value → am_M → am_R} {rt : Nat} {k : Nat → am_L → List Value → am_M → am_R} {nx a b : Nat} {v : Int32} {w : Int64} {tl : List (Int32 × Nat)} {ls : am_L} {st : List Value} {m : am_M} : am_step G dp env rt (18, nx, a, b, v, w, tl) ls st m k = (match st with
      | .long x :: st' => k nx ls (.int x.toInt32 :: st') m
      | _ => none) := rfl
theorem am_e19 {G : List am_D} {dp : Bool} {env : Nat → List Value → am_M → am_R} {rt : Nat} {k : Nat → am_L → List Value → am_M → am_R} {nx a b : Nat} {v : Int32} {w : Int64} {tl : List (Int32 × Nat)} {ls : am_L} {st : List Value} {m : am_M} : am_step G dp env rt (19, nx, a, b, v, w, tl) ls st m k = (match st with
      | .int x :: st' => k nx ls (.int x.toInt8.toInt32 :: st') m
      | _ => none) := rfl
theorem am_e20 {G : List am_D} {dp : Bool} {env : Nat → List Value → am_M → am_R} {rt : Nat} {k : Nat → am_L → List Value → am_M → am_R} {nx a b : Nat} {v : Int32} {w : Int64} {tl : List (Int32 × Nat)} {ls : am_L} {st : List Value} {m : am_M} : am_step G dp env rt (20, nx, a, b, v, w, tl) ls st m k = (match st with
      | x :: st' => if x.category = 1 then k nx ls (x :: x :: st') m else none
      | _ => none) := by
  show ((match st with
        | x :: st' => am_br (Nat.beq x.category 1) (k nx ls (x :: x :: st') m) none
        | _ => none) : am_R) = _
  simp only [am_br_blt, am_br_beq, am_br_eq, am_br_lt, am_br_le, am_br_el, am_br_oi, am_jf_eq, am_jc_eq, am_tw_eq]
theorem am_e21 {G : List am_D} {dp : Bool} {env : Nat → List Value → am_M → am_R} {rt : Nat} {k : Nat → am_L → List Value → am_M → am_R} {nx a b : Nat} {v : Int32} {w : Int64} {tl : List (Int32 × Nat)} {ls : am_L} {st : List Value} {m : am_M} : am_step G dp env rt (21, nx, a, b, v, w, tl) ls st m k = (match st with
      | x :: st' => if x.category = 1 then k nx ls st' m else none
      | _ => none) := by
  show ((match st with
        | x :: st' => am_br (Nat.beq x.category 1) (k nx ls st' m) none
        | _ => none) : am_R) = _
  simp only [am_br_blt, am_br_beq, am_br_eq, am_br_lt, am_br_le, am_br_el, am_br_oi, am_jf_eq, am_jc_eq, am_tw_eq]
theorem am_e22 {G : List am_D} {dp : Bool} {env : Nat → List Value → am_M → am_R} {rt : Nat} {k : Nat → am_L → List Value → am_M → am_R} {nx a b : Nat} {v : Int32} {w : Int64} {tl : List (Int32 × Nat)} {ls : am_L} {st : List Value} {m : am_M} : am_step G dp env rt (22, nx, a, b, v, w, tl) ls st m k = (match st with
      | x :: y :: st' => if x.category = 1 then (if y.category = 1 then k nx ls (x :: y :: x :: y :: st') m else none) else none
      | _ => none) := by
  show ((match st with
        | x :: y :: st' => am_br (Nat.beq x.category 1) (am_br (Nat.beq y.category 1) (k nx ls (x :: y :: x :: y :: st') m) none) none
        | _ => none) : am_R) = _
  simp only [am_br_blt, am_br_beq, am_br_eq, am_br_lt, am_br_le, am_br_el, am_br_oi, am_jf_eq, am_jc_eq, am_tw_eq]
theorem am_e23 {G : List am_D} {dp : Bool} {env : Nat → List Value → am_M → am_R} {rt : Nat} {k : Nat → am_L → List Value → am_M → am_R} {nx a b : Nat} {v : Int32} {w : Int64} {tl : List (Int32 × Nat)} {ls : am_L} {st : List Value} {m : am_M} : am_step G dp env rt (23, nx, a, b, v, w, tl) ls st m k = (match st with
      | .int x :: st' => am_if b x (k a ls st' m) (k nx ls st' m)
      | _ => none) := by
  show ((match st with
        | .int x :: st' => am_jf b x (k a ls st' m) (k nx ls st' m)
        | _ => none) : am_R) = _
  simp only [am_br_blt, am_br_beq, am_br_eq, am_br_lt, am_br_le, am_br_el, am_br_oi, am_jf_eq, am_jc_eq, am_tw_eq]
theorem am_e24 {G : List am_D} {dp : Bool} {env : Nat → List Value → am_M → am_R} {rt : Nat} {k : Nat → am_L → List Value → am_M → am_R} {nx a b : Nat} {v : Int32} {w : Int64} {tl : List (Int32 × Nat)} {ls : am_L} {st : List Value} {m : am_M} : am_step G dp env rt (24, nx, a, b, v, w, tl) ls st m k = (match st with
      | .int y :: .int x :: st' => am_ic b x y (k a ls st' m) (k nx ls st' m)
      | _ => none) := by
  show ((match st with
        | .int y :: .int x :: st' => am_jc b x y (k a ls st' m) (k nx ls st' m)
        | _ => none) : am_R) = _
  simp only [am_br_blt, am_br_beq, am_br_eq, am_br_lt, am_br_le, am_br_el, am_br_oi, am_jf_eq, am_jc_eq, am_tw_eq]
theorem am_e25 {G : List am_D} {dp : Bool} {env : Nat → List Value → am_M → am_R} {rt : Nat} {k : Nat → am_L → List Value → am_M → am_R} {nx a b : Nat} {v : Int32} {w : Int64} {tl : List (Int32 × Nat)} {ls : am_L} {st : List Value} {m : am_M} : am_step G dp env rt (25, nx, a, b, v, w, tl) ls st m k = (k a ls st m) := rfl
theorem am_e26 {G : List am_D} {dp : Bool} {env : Nat → List Value → am_M → am_R} {rt : Nat} {k : Nat → am_L → List Value → am_M → am_R} {nx a b : Nat} {v : Int32} {w : Int64} {tl : List (Int32 × Nat)} {ls : am_L} {st : List Value} {m : am_M} : am_step G dp env rt (26, nx, a, b, v, w, tl) ls st m k = (match st with
      | .int x :: st' => am_sw x (fun t => k t ls st' m) a tl
      | _ => none) := by
  show ((match st with
        | .int x :: st' => am_tw x (fun t => k t ls st' m) a tl
        | _ => none) : am_R) = _
  simp only [am_br_blt, am_br_beq, am_br_eq, am_br_lt, am_br_le, am_br_el, am_br_oi, am_jf_eq, am_jc_eq, am_tw_eq]
theorem am_e27 {G : List am_D} {dp : Bool} {env : Nat → List Value → am_M → am_R} {rt : Nat} {k : Nat → am_L → List Value → am_M → am_R} {nx a b : Nat} {v : Int32} {w : Int64} {tl : List (Int32 × Nat)} {ls : am_L} {st : List Value} {m : am_M} : am_step G dp env rt (27, nx, a, b, v, w, tl) ls st m k = (match st with
      | .ref o :: st' => match am_at G o with
        | some (4, ci, fs) => if ci = a then (match am_at fs b with
          | some 0 => k nx ls (.int (m.1 o b) :: st') m
          | some 1 => k nx ls (.int (m.1 o b) :: st') m
          | some 2 => k nx ls (.long (m.2 o b) :: st') m
          | some (f + 3) => k nx ls (.ref f :: st') m
          | none => none) else none
        | _ => none
      | _ => none) := by
  show ((match st with
        | .ref o :: st' => match am_at G o with
          | some (4, ci, fs) => am_br (Nat.beq ci a) (match am_at fs b with
            | some 0 => k nx ls (.int (m.1 o b) :: st') m
            | some 1 => k nx ls (.int (m.1 o b) :: st') m
            | some 2 => k nx ls (.long (m.2 o b) :: st') m
            | some (f + 3) => k nx ls (.ref f :: st') m
            | none => none) none
          | _ => none
        | _ => none) : am_R) = _
  simp only [am_br_blt, am_br_beq, am_br_eq, am_br_lt, am_br_le, am_br_el, am_br_oi, am_jf_eq, am_jc_eq, am_tw_eq]
theorem am_e28 {G : List am_D} {dp : Bool} {env : Nat → List Value → am_M → am_R} {rt : Nat} {k : Nat → am_L → List Value → am_M → am_R} {nx a b : Nat} {v : Int32} {w : Int64} {tl : List (Int32 × Nat)} {ls : am_L} {st : List Value} {m : am_M} : am_step G dp env rt (28, nx, a, b, v, w, tl) ls st m k = (match st with
      | .int x :: .ref o :: st' => match am_at G o with
        | some (4, ci, fs) => if ci = a then (match am_at fs b with
          | some 0 => k nx ls st' (am_w m.1 o b x, m.2)
          | some 1 => if x = 0 then k nx ls st' (am_w m.1 o b x, m.2) else if x = 1 then k nx ls st' (am_w m.1 o b x, m.2) else none
          | _ => none) else none
        | _ => none
      | .long x :: .ref o :: st' => match am_at G o with
        | some (4, ci, fs) => if ci = a then (match am_at fs b with
          | some 2 => k nx ls st' (m.1, am_wl m.2 o b x)
          | _ => none) else none
        | _ => none
      | _ => none) := by
  show ((match st with
        | .int x :: .ref o :: st' => match am_at G o with
          | some (4, ci, fs) => am_br (Nat.beq ci a) (match am_at fs b with
            | some 0 => k nx ls st' (am_w m.1 o b x, m.2)
            | some 1 => am_br (am_eq x 0) (k nx ls st' (am_w m.1 o b x, m.2)) (am_br (am_eq x 1) (k nx ls st' (am_w m.1 o b x, m.2)) none)
            | _ => none) none
          | _ => none
        | .long x :: .ref o :: st' => match am_at G o with
          | some (4, ci, fs) => am_br (Nat.beq ci a) (match am_at fs b with
            | some 2 => k nx ls st' (m.1, am_wl m.2 o b x)
            | _ => none) none
          | _ => none
        | _ => none) : am_R) = _
  simp only [am_br_blt, am_br_beq, am_br_eq, am_br_lt, am_br_le, am_br_el, am_br_oi, am_jf_eq, am_jc_eq, am_tw_eq]
theorem am_e29 {G : List am_D} {dp : Bool} {env : Nat → List Value → am_M → am_R} {rt : Nat} {k : Nat → am_L → List Value → am_M → am_R} {nx a b : Nat} {v : Int32} {w : Int64} {tl : List (Int32 × Nat)} {ls : am_L} {st : List Value} {m : am_M} : am_step G dp env rt (29, nx, a, b, v, w, tl) ls st m k = (match st with
      | .int j :: .ref o :: st' => match am_at G o with
        | some (0, n, _) => if am_oi j n = true then none else k nx ls (.int (m.1 o j.toNatClampNeg) :: st') m
        | _ => none
      | _ => none) := by
  show ((match st with
        | .int j :: .ref o :: st' => match am_at G o with
          | some (0, n, _) => am_br (am_oi j n) none (k nx ls (.int (m.1 o j.toNatClampNeg) :: st') m)
          | _ => none
        | _ => none) : am_R) = _
  simp only [am_br_blt, am_br_beq, am_br_eq, am_br_lt, am_br_le, am_br_el, am_br_oi, am_jf_eq, am_jc_eq, am_tw_eq]
theorem am_e30 {G : List am_D} {dp : Bool} {env : Nat → List Value → am_M → am_R} {rt : Nat} {k : Nat → am_L → List Value → am_M → am_R} {nx a b : Nat} {v : Int32} {w : Int64} {tl : List (Int32 × Nat)} {ls : am_L} {st : List Value} {m : am_M} : am_step G dp env rt (30, nx, a, b, v, w, tl) ls st m k = (match st with
      | .int x :: .int j :: .ref o :: st' => match am_at G o with
        | some (0, n, _) => if am_oi j n = true then none else k nx ls st' (am_w m.1 o j.toNatClampNeg x, m.2)
        | _ => none
      | _ => none) := by
  show ((match st with
        | .int x :: .int j :: .ref o :: st' => match am_at G o with
          | some (0, n, _) => am_br (am_oi j n) none (k nx ls st' (am_w m.1 o j.toNatClampNeg x, m.2))
          | _ => none
        | _ => none) : am_R) = _
  simp only [am_br_blt, am_br_beq, am_br_eq, am_br_lt, am_br_le, am_br_el, am_br_oi, am_jf_eq, am_jc_eq, am_tw_eq]
theorem am_e31 {G : List am_D} {dp : Bool} {env : Nat → List Value → am_M → am_R} {rt : Nat} {k : Nat → am_L → List Value → am_M → am_R} {nx a b : Nat} {v : Int32} {w : Int64} {tl : List (Int32 × Nat)} {ls : am_L} {st : List Value} {m : am_M} : am_step G dp env rt (31, nx, a, b, v, w, tl) ls st m k = (match st with
      | .int j :: .ref o :: st' => match am_at G o with
        | some (1, n, _) => if am_oi j n = true then none else k nx ls (.int (m.1 o j.toNatClampNeg) :: st') m
        | some (2, n, _) => if am_oi j n = true then none else k nx ls (.int (m.1 o j.toNatClampNeg) :: st') m
        | _ => none
      | _ => none) := by
  show ((match st with
        | .int j :: .ref o :: st' => match am_at G o with
          | some (1, n, _) => am_br (am_oi j n) none (k nx ls (.int (m.1 o j.toNatClampNeg) :: st') m)
          | some (2, n, _) => am_br (am_oi j n) none (k nx ls (.int (m.1 o j.toNatClampNeg) :: st') m)
          | _ => none
        | _ => none) : am_R) = _
  simp only [am_br_blt, am_br_beq, am_br_eq, am_br_lt, am_br_le, am_br_el, am_br_oi, am_jf_eq, am_jc_eq, am_tw_eq]
theorem am_e32 {G : List am_D} {dp : Bool} {env : Nat → List Value → am_M → am_R} {rt : Nat} {k : Nat → am_L → List Value → am_M → am_R} {nx a b : Nat} {v : Int32} {w : Int64} {tl : List (Int32 × Nat)} {ls : am_L} {st : List Value} {m : am_M} : am_step G dp env rt (32, nx, a, b, v, w, tl) ls st m k = (match st with
      | .int x :: .int j :: .ref o :: st' => match am_at G o with
        | some (1, n, _) => if am_oi j n = true then none else k nx ls st' (am_w m.1 o j.toNatClampNeg (vp_nar .byte x), m.2)
        | some (2, n, _) => if am_oi j n = true then none else k nx ls st' (am_w m.1 o j.toNatClampNeg (vp_nar .boolean x), m.2)
        | _ => none
      | _ => none) := by
  show ((match st with
        | .int x :: .int j :: .ref o :: st' => match am_at G o with
          | some (1, n, _) => am_br (am_oi j n) none (k nx ls st' (am_w m.1 o j.toNatClampNeg (vp_nar .byte x), m.2))
          | some (2, n, _) => am_br (am_oi j n) none (k nx ls st' (am_w m.1 o j.toNatClampNeg (vp_nar .boolean x), m.2))
          | _ => none
        | _ => none) : am_R) = _
  simp only [am_br_blt, am_br_beq, am_br_eq, am_br_lt, am_br_le, am_br_el, am_br_oi, am_jf_eq, am_jc_eq, am_tw_eq]
theorem am_e33 {G : List am_D} {dp : Bool} {env : Nat → List Value → am_M → am_R} {rt : Nat} {k : Nat → am_L → List Value → am_M → am_R} {nx a b : Nat} {v : Int32} {w : Int64} {tl : List (Int32 × Nat)} {ls : am_L} {st : List Value} {m : am_M} : am_step G dp env rt (33, nx, a, b, v, w, tl) ls st m k = (match st with
      | .int j :: .ref o :: st' => match am_at G o with
        | some (3, n, _) => if am_oi j n = true then none else k nx ls (.long (m.2 o j.toNatClampNeg) :: st') m
        | _ => none
      | _ => none) := by
  show ((match st with
        | .int j :: .ref o :: st' => match am_at G o with
          | some (3, n, _) => am_br (am_oi j n) none (k nx ls (.long (m.2 o j.toNatClampNeg) :: st') m)
          | _ => none
        | _ => none) : am_R) = _
  simp only [am_br_blt, am_br_beq, am_br_eq, am_br_lt, am_br_le, am_br_el, am_br_oi, am_jf_eq, am_jc_eq, am_tw_eq]
theorem am_e34 {G : List am_D} {dp : Bool} {env : Nat → List Value → am_M → am_R} {rt : Nat} {k : Nat → am_L → List Value → am_M → am_R} {nx a b : Nat} {v : Int32} {w : Int64} {tl : List (Int32 × Nat)} {ls : am_L} {st : List Value} {m : am_M} : am_step G dp env rt (34, nx, a, b, v, w, tl) ls st m k = (match st with
      | .long x :: .int j :: .ref o :: st' => match am_at G o with
        | some (3, n, _) => if am_oi j n = true then none else k nx ls st' (m.1, am_wl m.2 o j.toNatClampNeg x)
        | _ => none
      | _ => none) := by
  show ((match st with
        | .long x :: .int j :: .ref o :: st' => match am_at G o with
          | some (3, n, _) => am_br (am_oi j n) none (k nx ls st' (m.1, am_wl m.2 o j.toNatClampNeg x))
          | _ => none
        | _ => none) : am_R) = _
  simp only [am_br_blt, am_br_beq, am_br_eq, am_br_lt, am_br_le, am_br_el, am_br_oi, am_jf_eq, am_jc_eq, am_tw_eq]
theorem am_e35 {G : List am_D} {dp : Bool} {env : Nat → List Value → am_M → am_R} {rt : Nat} {k : Nat → am_L → List Value → am_M → am_R} {nx a b : Nat} {v : Int32} {w : Int64} {tl : List (Int32 × Nat)} {ls : am_L} {st : List Value} {m : am_M} : am_step G dp env rt (35, nx, a, b, v, w, tl) ls st m k = (match st with
      | .ref o :: st' => match am_at G o with
        | some (t, n, _) => if t < 4 then k nx ls (.int (Int32.ofNat n) :: st') m else none
        | _ => none
      | _ => none) := by
  show ((match st with
        | .ref o :: st' => match am_at G o with
          | some (t, n, _) => am_br (Nat.blt t 4) (k nx ls (.int (Int32.ofNat n) :: st') m) none
          | _ => none
        | _ => none) : am_R) = _
  simp only [am_br_blt, am_br_beq, am_br_eq, am_br_lt, am_br_le, am_br_el, am_br_oi, am_jf_eq, am_jc_eq, am_tw_eq]
theorem am_e36 {G : List am_D} {dp : Bool} {env : Nat → List Value → am_M → am_R} {rt : Nat} {k : Nat → am_L → List Value → am_M → am_R} {nx a b : Nat} {v : Int32} {w : Int64} {tl : List (Int32 × Nat)} {ls : am_L} {st : List Value} {m : am_M} : am_step G dp env rt (36, nx, a, b, v, w, tl) ls st m k = (if st.length < b then none else if 8 < am_ca (st.drop b) then none else
        am_bV (env a (st.take b).reverse m) (fun m' => k nx ls (st.drop b) m')) := by
  show ((am_br (Nat.blt st.length b) none (am_br (Nat.blt 8 (am_ca (st.drop b))) none (am_bV (env a (st.take b).reverse m) (fun m' => k nx ls (st.drop b) m')))) : am_R) = _
  simp only [am_br_blt, am_br_beq, am_br_eq, am_br_lt, am_br_le, am_br_el, am_br_oi, am_jf_eq, am_jc_eq, am_tw_eq]
theorem am_e37 {G : List am_D} {dp : Bool} {env : Nat → List Value → am_M → am_R} {rt : Nat} {k : Nat → am_L → List Value → am_M → am_R} {nx a b : Nat} {v : Int32} {w : Int64} {tl : List (Int32 × Nat)} {ls : am_L} {st : List Value} {m : am_M} : am_step G dp env rt (37, nx, a, b, v, w, tl) ls st m k = (if st.length < b then none else if 8 < am_ca (st.drop b) then none else
        am_bI (env a (st.take b).reverse m) (fun x m' => k nx ls (.int x :: st.drop b) m')) := by
  show ((am_br (Nat.blt st.length b) none (am_br (Nat.blt 8 (am_ca (st.drop b))) none (am_bI (env a (st.take b).reverse m) (fun x m' => k nx ls (.int x :: st.drop b) m')))) : am_R) = _
  simp only [am_br_blt, am_br_beq, am_br_eq, am_br_lt, am_br_le, am_br_el, am_br_oi, am_jf_eq, am_jc_eq, am_tw_eq]
theorem am_e38 {G : List am_D} {dp : Bool} {env : Nat → List Value → am_M → am_R} {rt : Nat} {k : Nat → am_L → List Value → am_M → am_R} {nx a b : Nat} {v : Int32} {w : Int64} {tl : List (Int32 × Nat)} {ls : am_L} {st : List Value} {m : am_M} : am_step G dp env rt (38, nx, a, b, v, w, tl) ls st m k = (if st.length < b then none else if 8 < am_ca (st.drop b) then none else
        am_bL (env a (st.take b).reverse m) (fun x m' => k nx ls (.long x :: st.drop b) m')) := by
  show ((am_br (Nat.blt st.length b) none (am_br (Nat.blt 8 (am_ca (st.drop b))) none (am_bL (env a (st.take b).reverse m) (fun x m' => k nx ls (.long x :: st.drop b) m')))) : am_R) = _
  simp only [am_br_blt, am_br_beq, am_br_eq, am_br_lt, am_br_le, am_br_el, am_br_oi, am_jf_eq, am_jc_eq, am_tw_eq]
theorem am_e39 {G : List am_D} {dp : Bool} {env : Nat → List Value → am_M → am_R} {rt : Nat} {k : Nat → am_L → List Value → am_M → am_R} {nx a b : Nat} {v : Int32} {w : Int64} {tl : List (Int32 × Nat)} {ls : am_L} {st : List Value} {m : am_M} : am_step G dp env rt (39, nx, a, b, v, w, tl) ls st m k = (match dp with
      | false => none
      | true => match b with
        | 0 => match st with
          | .int x :: st' => if 8 < am_ca st' then none else k nx ls (.int (if 0 ≤ x then x else 0 - x) :: st') m
          | _ => none
        | 1 => match st with
          | .int y :: .int x :: st' => if 8 < am_ca st' then none else k nx ls (.int (if x < y then y else x) :: st') m
          | _ => none
        | 2 => match st with
          | .int y :: .int x :: st' => if 8 < am_ca st' then none else k nx ls (.int (if y < x then y else x) :: st') m
          | _ => none
        | 3 => match st with
          | .long x :: st' => if 8 < am_ca st' then none else k nx ls (.long (if 0 < x then x else -x) :: st') m
          | _ => none
        | 4 => match st with
          | .long y :: .long x :: st' => if 8 < am_ca st' then none else k nx ls (.long (if y < x then x else y) :: st') m
          | _ => none
        | _ => match st with
          | .long y :: .long x :: st' => if 8 < am_ca st' then none else k nx ls (.long (if y < x then y else x) :: st') m
          | _ => none) := by
  show ((match dp with
        | false => none
        | true => match b with
          | 0 => match st with
            | .int x :: st' => am_br (Nat.blt 8 (am_ca st')) none (k nx ls (.int (if 0 ≤ x then x else 0 - x) :: st') m)
            | _ => none
          | 1 => match st with
            | .int y :: .int x :: st' => am_br (Nat.blt 8 (am_ca st')) none (k nx ls (.int (if x < y then y else x) :: st') m)
            | _ => none
          | 2 => match st with
            | .int y :: .int x :: st' => am_br (Nat.blt 8 (am_ca st')) none (k nx ls (.int (if y < x then y else x) :: st') m)
            | _ => none
          | 3 => match st with
            | .long x :: st' => am_br (Nat.blt 8 (am_ca st')) none (k nx ls (.long (if 0 < x then x else -x) :: st') m)
            | _ => none
          | 4 => match st with
            | .long y :: .long x :: st' => am_br (Nat.blt 8 (am_ca st')) none (k nx ls (.long (if y < x then x else y) :: st') m)
            | _ => none
          | _ => match st with
            | .long y :: .long x :: st' => am_br (Nat.blt 8 (am_ca st')) none (k nx ls (.long (if y < x then y else x) :: st') m)
            | _ => none) : am_R) = _
  simp only [am_br_blt, am_br_beq, am_br_eq, am_br_lt, am_br_le, am_br_el, am_br_oi, am_jf_eq, am_jc_eq, am_tw_eq]
theorem am_e40 {G : List am_D} {dp : Bool} {env : Nat → List Value → am_M → am_R} {rt : Nat} {k : Nat → am_L → List Value → am_M → am_R} {nx a b : Nat} {v : Int32} {w : Int64} {tl : List (Int32 × Nat)} {ls : am_L} {st : List Value} {m : am_M} : am_step G dp env rt (40, nx, a, b, v, w, tl) ls st m k = (match dp with
      | false => none
      | true => match st with
        | .int n :: .int q :: .ref o :: .int sp :: .ref o0 :: st' => if 8 < am_ca st' then none else match am_at G o0 with
          | some (0, n0, _) => match am_at G o with
            | some (0, n1, _) => if sp < 0 then none else if q < 0 then none else if n < 0 then none else if n0 < sp.toNatClampNeg + n.toNatClampNeg then none else if n1 < q.toNatClampNeg + n.toNatClampNeg then none else
                k nx ls st' (am_wc m.1 o0 o sp.toNatClampNeg q.toNatClampNeg n.toNatClampNeg, m.2)
            | _ => none
          | _ => none
        | _ => none) := by
  show ((match dp with
        | false => none
        | true => match st with
          | .int n :: .int q :: .ref o :: .int sp :: .ref o0 :: st' => am_br (Nat.blt 8 (am_ca st')) none (match am_at G o0 with
            | some (0, n0, _) => match am_at G o with
              | some (0, n1, _) => am_br (am_lt sp 0) none (am_br (am_lt q 0) none (am_br (am_lt n 0) none (am_br (Nat.blt n0 (sp.toNatClampNeg + n.toNatClampNeg)) none (am_br (Nat.blt n1 (q.toNatClampNeg + n.toNatClampNeg)) none
                  (k nx ls st' (am_wc m.1 o0 o sp.toNatClampNeg q.toNatClampNeg n.toNatClampNeg, m.2))))))
              | _ => none
            | _ => none)
          | _ => none) : am_R) = _
  simp only [am_br_blt, am_br_beq, am_br_eq, am_br_lt, am_br_le, am_br_el, am_br_oi, am_jf_eq, am_jc_eq, am_tw_eq]
theorem am_e41 {G : List am_D} {dp : Bool} {env : Nat → List Value → am_M → am_R} {rt : Nat} {k : Nat → am_L → List Value → am_M → am_R} {nx a b : Nat} {v : Int32} {w : Int64} {tl : List (Int32 × Nat)} {ls : am_L} {st : List Value} {m : am_M} : am_step G dp env rt (41, nx, a, b, v, w, tl) ls st m k = (match st with
      | [.int x] => match rt with
        | 1 => some (some (.int x), m)
        | 2 => if x = 0 then some (some (.int x), m) else if x = 1 then some (some (.int x), m) else none
        | _ => none
      | _ => none) := by
  show ((match st with
        | [.int x] => match rt with
          | 1 => some (some (.int x), m)
          | 2 => am_br (am_eq x 0) (some (some (.int x), m)) (am_br (am_eq x 1) (some (some (.int x), m)) none)
          | _ => none
        | _ => none) : am_R) = _
  simp only [am_br_blt, am_br_beq, am_br_eq, am_br_lt, am_br_le, am_br_el, am_br_oi, am_jf_eq, am_jc_eq, am_tw_eq]
theorem am_e42 {G : List am_D} {dp : Bool} {env : Nat → List Value → am_M → am_R} {rt : Nat} {k : Nat → am_L → List Value → am_M → am_R} {nx a b : Nat} {v : Int32} {w : Int64} {tl : List (Int32 × Nat)} {ls : am_L} {st : List Value} {m : am_M} : am_step G dp env rt (42, nx, a, b, v, w, tl) ls st m k = (match st with
      | [.long x] => match rt with
        | 3 => some (some (.long x), m)
        | _ => none
      | _ => none) := rfl
theorem am_e43 {G : List am_D} {dp : Bool} {env : Nat → List Value → am_M → am_R} {rt : Nat} {k : Nat → am_L → List Value → am_M → am_R} {nx a b : Nat} {v : Int32} {w : Int64} {tl : List (Int32 × Nat)} {ls : am_L} {st : List Value} {m : am_M} : am_step G dp env rt (43, nx, a, b, v, w, tl) ls st m k = (match st with
      | [] => match rt with
        | 0 => some (none, m)
        | _ => none
      | _ => none) := rfl
