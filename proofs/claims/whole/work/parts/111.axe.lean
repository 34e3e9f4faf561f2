theorem ax_e0 {env : Nat → Nat → ax_S → Option ax_S} {o0 : Nat} {k : Nat → List Value → ax_S → Option (Nat × ax_S)} {nx a b : Nat} {v : Int32} {w : Int64} {tl : List (Int32 × Nat)} {st : List Value} {S : ax_S} : ax_step env (0, nx, a, b, v, w, tl) o0 st S k = (k nx (.int v :: st) S) := rfl
theorem ax_e4 {env : Nat → Nat → ax_S → Option ax_S} {o0 : Nat} {k : Nat → List Value → ax_S → Option (Nat × ax_S)} {nx a b : Nat} {v : Int32} {w : Int64} {tl : List (Int32 × Nat)} {st : List Value} {S : ax_S} : ax_step env (4, nx, a, b, v, w, tl) o0 st S k = (if a = 0 then k nx (.ref o0 :: st) S else none) := rfl
theorem ax_e20 {env : Nat → Nat → ax_S → Option ax_S} {o0 : Nat} {k : Nat → List Value → ax_S → Option (Nat × ax_S)} {nx a b : Nat} {v : Int32} {w : Int64} {tl : List (Int32 × Nat)} {st : List Value} {S : ax_S} : ax_step env (20, nx, a, b, v, w, tl) o0 st S k = (match st with
      | x :: st' => if x.category = 1 then k nx (x :: x :: st') S else none
      | _ => none) := rfl
theorem ax_e21 {env : Nat → Nat → ax_S → Option ax_S} {o0 : Nat} {k : Nat → List Value → ax_S → Option (Nat × ax_S)} {nx a b : Nat} {v : Int32} {w : Int64} {tl : List (Int32 × Nat)} {st : List Value} {S : ax_S} : ax_step env (21, nx, a, b, v, w, tl) o0 st S k = (match st with
      | x :: st' => if x.category = 1 then k nx st' S else none
      | _ => none) := rfl
theorem ax_e27 {env : Nat → Nat → ax_S → Option ax_S} {o0 : Nat} {k : Nat → List Value → ax_S → Option (Nat × ax_S)} {nx a b : Nat} {v : Int32} {w : Int64} {tl : List (Int32 × Nat)} {st : List Value} {S : ax_S} : ax_step env (27, nx, a, b, v, w, tl) o0 st S k = (match st with
      | .ref o :: st' => match am_at S.1 o with
        | some (4, ci, fs) => if ci = a then (match am_at fs b with
          | some (f + 4) => k nx (.ref f :: st') S
          | _ => none) else none
        | _ => none
      | _ => none) := rfl
theorem ax_e28 {env : Nat → Nat → ax_S → Option ax_S} {o0 : Nat} {k : Nat → List Value → ax_S → Option (Nat × ax_S)} {nx a b : Nat} {v : Int32} {w : Int64} {tl : List (Int32 × Nat)} {st : List Value} {S : ax_S} : ax_step env (28, nx, a, b, v, w, tl) o0 st S k = (match st with
      | .ref x :: .ref o :: st' => match am_at S.1 o with
        | some (4, ci, fs) => if ci = a then (match am_at fs b with
          | some 3 => k nx st' (S.1.set o (4, ci, fs.set b (x + 4)), S.2)
          | _ => none) else none
        | _ => none
      | .int x :: .ref o :: st' => match am_at S.1 o with
        | some (4, ci, fs) => if ci = a then (match am_at fs b with
          | some 0 => k nx st' (S.1, (am_w S.2.1 o b x, S.2.2))
          | _ => none) else none
        | _ => none
      | _ => none) := rfl
theorem ax_e30 {env : Nat → Nat → ax_S → Option ax_S} {o0 : Nat} {k : Nat → List Value → ax_S → Option (Nat × ax_S)} {nx a b : Nat} {v : Int32} {w : Int64} {tl : List (Int32 × Nat)} {st : List Value} {S : ax_S} : ax_step env (30, nx, a, b, v, w, tl) o0 st S k = (match st with
      | .int x :: .int j :: .ref o :: st' => match am_at S.1 o with
        | some (0, n, _) => if am_oi j n = true then none else k nx st' (S.1, (am_w S.2.1 o j.toNatClampNeg x, S.2.2))
        | _ => none
      | _ => none) := rfl
theorem ax_e50 {env : Nat → Nat → ax_S → Option ax_S} {o0 : Nat} {k : Nat → List Value → ax_S → Option (Nat × ax_S)} {nx a b : Nat} {v : Int32} {w : Int64} {tl : List (Int32 × Nat)} {st : List Value} {S : ax_S} : ax_step env (50, nx, a, b, v, w, tl) o0 st S k = (k nx (.ref S.1.length :: st) (S.1 ++ [(4, a, ax_df a)], S.2)) := rfl
theorem ax_e51 {env : Nat → Nat → ax_S → Option ax_S} {o0 : Nat} {k : Nat → List Value → ax_S → Option (Nat × ax_S)} {nx a b : Nat} {v : Int32} {w : Int64} {tl : List (Int32 × Nat)} {st : List Value} {S : ax_S} : ax_step env (51, nx, a, b, v, w, tl) o0 st S k = (match st with
      | .int n :: st' => if n < 0 then none else if 8000 < n.toNatClampNeg then none else if 3 < a then none else k nx (.ref S.1.length :: st') (S.1 ++ [(a, n.toNatClampNeg, [])], S.2)
      | _ => none) := rfl
theorem ax_e52 {env : Nat → Nat → ax_S → Option ax_S} {o0 : Nat} {k : Nat → List Value → ax_S → Option (Nat × ax_S)} {nx a b : Nat} {v : Int32} {w : Int64} {tl : List (Int32 × Nat)} {st : List Value} {S : ax_S} : ax_step env (52, nx, a, b, v, w, tl) o0 st S k = (match st with
      | .ref _ :: st' => if 8 < am_ca st' then none else k nx st' S
      | _ => none) := rfl
theorem ax_e53 {env : Nat → Nat → ax_S → Option ax_S} {o0 : Nat} {k : Nat → List Value → ax_S → Option (Nat × ax_S)} {nx a b : Nat} {v : Int32} {w : Int64} {tl : List (Int32 × Nat)} {st : List Value} {S : ax_S} : ax_step env (53, nx, a, b, v, w, tl) o0 st S k = (match st with
      | .ref o :: st' => if 8 < am_ca st' then none else match env a o S with
        | some S' => k nx st' S'
        | none => none
      | _ => none) := rfl
