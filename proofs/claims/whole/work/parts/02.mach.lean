/-! the abstract machine: memory as two functions, a fixed graph of cells, methods as lists of resolved instructions -/
abbrev am_M : Type := (Nat → Nat → Int32) × (Nat → Nat → Int64)
/-- operation, next place, two numbers, an int, a long, a table -/
abbrev am_I : Type := Nat × Nat × Nat × Nat × Int32 × Int64 × List (Int32 × Nat)
abbrev am_L : Type := List (Option Value)
abbrev am_R : Type := Option (Option Value × am_M)
def am_at {α : Type} : List α → Nat → Option α
  | [], _ => none
  | a :: _, 0 => some a
  | _ :: l, n + 1 => am_at l n
def am_lk : List (Nat × am_I) → Nat → Option am_I
  | [], _ => none
  | a :: l, n => if a.1 = n then some a.2 else am_lk l n
def am_w (f : Nat → Nat → Int32) (a i : Nat) (x : Int32) : Nat → Nat → Int32 := fun b => if b = a then upd (f a) i x else f b
def am_wl (f : Nat → Nat → Int64) (a i : Nat) (x : Int64) : Nat → Nat → Int64 := fun b => if b = a then vp_updL (f a) i x else f b
def am_wc (f : Nat → Nat → Int32) (a0 a sp dp n : Nat) : Nat → Nat → Int32 := fun b => if b = a then va_cpy (f a0) (f a) sp dp n else f b
def am_c2 : Option Value → Bool
  | some (.long _) => true
  | some (.double _) => true
  | _ => false
def am_cl (ls : am_L) : Nat → am_L
  | 0 => ls
  | j + 1 => if am_c2 (ls.getD j none) = true then ls.set j none else ls
def am_s1 (ls : am_L) (i : Nat) (v : Value) : am_L := (am_cl ls i).set i (some v)
def am_s2 (ls : am_L) (i : Nat) (v : Value) : am_L := ((am_cl ls i).set i (some v)).set (i + 1) none
def am_bi (b : Nat) (x y : Int32) : Int32 := match b with
  | 0 => x + y
  | 1 => x - y
  | 2 => x * y
  | 3 => x &&& y
  | 4 => x ||| y
  | 5 => x ^^^ y
  | 6 => x <<< (y &&& 31)
  | _ => x >>> (y &&& 31)
def am_bl (b : Nat) (x y : Int64) : Int64 := match b with
  | 0 => x + y
  | 1 => x - y
  | 2 => x * y
  | _ => x &&& y
def am_if (b : Nat) (x : Int32) (t f : am_R) : am_R := match b with
  | 0 => if x = 0 then t else f
  | 1 => if x = 0 then f else t
  | 2 => if x < 0 then t else f
  | 3 => if 0 ≤ x then t else f
  | 4 => if 0 < x then t else f
  | _ => if x ≤ 0 then t else f
def am_ic (b : Nat) (x y : Int32) (t f : am_R) : am_R := match b with
  | 0 => if x = y then t else f
  | 1 => if x = y then f else t
  | 2 => if x < y then t else f
  | 3 => if y ≤ x then t else f
  | 4 => if y < x then t else f
  | _ => if x ≤ y then t else f
def am_sw (x : Int32) (k : Nat → am_R) (d : Nat) : List (Int32 × Nat) → am_R
  | [] => k d
  | q :: l => if x = q.1 then k q.2 else am_sw x k d l
/-- a branch: by the recursor, so that a decided one goes on by itself -/
abbrev am_br (c : Bool) (t f : am_R) : am_R := Bool.casesOn (motive := fun _ => am_R) c f t
def am_eq (x y : Int32) : Bool := decide (x = y)
def am_lt (x y : Int32) : Bool := decide (x < y)
def am_le (x y : Int32) : Bool := decide (x ≤ y)
def am_el (x y : Int64) : Bool := decide (x = y)
def am_jf (b : Nat) (x : Int32) (t f : am_R) : am_R := match b with
  | 0 => am_br (am_eq x 0) t f
  | 1 => am_br (am_eq x 0) f t
  | 2 => am_br (am_lt x 0) t f
  | 3 => am_br (am_le 0 x) t f
  | 4 => am_br (am_lt 0 x) t f
  | _ => am_br (am_le x 0) t f
def am_jc (b : Nat) (x y : Int32) (t f : am_R) : am_R := match b with
  | 0 => am_br (am_eq x y) t f
  | 1 => am_br (am_eq x y) f t
  | 2 => am_br (am_lt x y) t f
  | 3 => am_br (am_le y x) t f
  | 4 => am_br (am_lt y x) t f
  | _ => am_br (am_le x y) t f
def am_tw (x : Int32) (k : Nat → am_R) (d : Nat) : List (Int32 × Nat) → am_R
  | [] => k d
  | q :: l => am_br (am_eq x q.1) (k q.2) (am_tw x k d l)
def am_bI (r : am_R) (f : Int32 → am_M → am_R) : am_R := match r with
  | some (some (.int x), m) => f x m
  | _ => none
def am_bL (r : am_R) (f : Int64 → am_M → am_R) : am_R := match r with
  | some (some (.long x), m) => f x m
  | _ => none
def am_bV (r : am_R) (f : am_M → am_R) : am_R := match r with
  | some (none, m) => f m
  | _ => none
def am_ca (st : List Value) : Nat := (st.map fun v => v.category).sum
def am_oi (j : Int32) (n : Nat) : Bool := decide (j < 0) || decide (n ≤ j.toNatClampNeg)
abbrev am_D : Type := Nat × Nat × List Nat
/-- one instruction; 'k' goes on -/
def am_step (G : List am_D) (dp : Bool) (env : Nat → List Value → am_M → am_R) (rt : Nat) (i : am_I) (ls : am_L) (st : List Value) (m : am_M) (k : Nat → am_L → List Value → am_M → am_R) : am_R :=
  match i with
  | (op, nx, a, b, v, w, tl) => match op with
    | 0 => k nx ls (.int v :: st) m
    | 1 => k nx ls (.long w :: st) m
    | 2 => match ls.getD a none with
      | some (.int x) => k nx ls (.int x :: st) m
      | _ => none
    | 3 => match ls.getD a none with
      | some (.long x) => k nx ls (.long x :: st) m
      | _ => none
    | 4 => match ls.getD a none with
      | some (.ref x) => k nx ls (.ref x :: st) m
      | _ => none
    | 5 => match st with
      | .int x :: st' => am_br (Nat.blt a ls.length) (k nx (am_s1 ls a (.int x)) st' m) none
      | _ => none
    | 6 => match st with
      | .long x :: st' => am_br (Nat.blt (a + 1) ls.length) (k nx (am_s2 ls a (.long x)) st' m) none
      | _ => none
    | 7 => match st with
      | .ref x :: st' => am_br (Nat.blt a ls.length) (k nx (am_s1 ls a (.ref x)) st' m) none
      | _ => none
    | 8 => match ls.getD a none with
      | some (.int x) => k nx (am_s1 ls a (.int (x + v))) st m
      | _ => none
    | 9 => match st with
      | .int y :: .int x :: st' => k nx ls (.int (am_bi b x y) :: st') m
      | _ => none
    | 10 => match st with
      | .int y :: .int x :: st' => am_br (am_eq y 0) none (k nx ls (.int (x / y) :: st') m)
      | _ => none
    | 11 => match st with
      | .int y :: .int x :: st' => am_br (am_eq y 0) none (k nx ls (.int (x - x / y * y) :: st') m)
      | _ => none
    | 12 => match st with
      | .long y :: .long x :: st' => k nx ls (.long (am_bl b x y) :: st') m
      | _ => none
    | 13 => match st with
      | .long y :: .long x :: st' => am_br (am_el y 0) none (k nx ls (.long (x / y) :: st') m)
      | _ => none
    | 14 => match st with
      | .long y :: .long x :: st' => am_br (am_el y 0) none (k nx ls (.long (x - x / y * y) :: st') m)
      | _ => none
    | 15 => match st with
      | .long x :: st' => k nx ls (.long (-x) :: st') m
      | _ => none
    | 16 => match st with
      | .long y :: .long x :: st' => k nx ls (.int (lg_cmp x y) :: st') m
      | _ => none
    | 17 => match st with
      | .int x :: st' => k nx ls (.long x.toInt64 :: st') m
      | _ => none
    | 18 => match st with
      | .long x :: st' => k nx ls (.int x.toInt32 :: st') m
      | _ => none
    | 19 => match st with
      | .int x :: st' => k nx ls (.int x.toInt8.toInt32 :: st') m
      | _ => none
    | 20 => match st with
      | x :: st' => am_br (Nat.beq x.category 1) (k nx ls (x :: x :: st') m) none
      | _ => none
    | 21 => match st with
      | x :: st' => am_br (Nat.beq x.category 1) (k nx ls st' m) none
      | _ => none
    | 22 => match st with
      | x :: y :: st' => am_br (Nat.beq x.category 1) (am_br (Nat.beq y.category 1) (k nx ls (x :: y :: x :: y :: st') m) none) none
      | _ => none
    | 23 => match st with
      | .int x :: st' => am_jf b x (k a ls st' m) (k nx ls st' m)
      | _ => none
    | 24 => match st with
      | .int y :: .int x :: st' => am_jc b x y (k a ls st' m) (k nx ls st' m)
      | _ => none
    | 25 => k a ls st m
    | 26 => match st with
      | .int x :: st' => am_tw x (fun t => k t ls st' m) a tl
      | _ => none
    | 27 => match st with
      | .ref o :: st' => match am_at G o with
        | some (4, ci, fs) => am_br (Nat.beq ci a) (match am_at fs b with
          | some 0 => k nx ls (.int (m.1 o b) :: st') m
          | some 1 => k nx ls (.int (m.1 o b) :: st') m
          | some 2 => k nx ls (.long (m.2 o b) :: st') m
          | some (f + 3) => k nx ls (.ref f :: st') m
          | none => none) none
        | _ => none
      | _ => none
    | 28 => match st with
      | .int x :: .ref o :: st' => match am_at G o with
        | some (4, ci, fs) => am_br (Nat.beq ci a) (match am_at fs b with
          | some 0 => k nx ls st' (am_w m.1 o b x, m.2)
          | some 1 => am_br (am_eq x 0) (k nx ls st' (am_w m.1 o b x, m.2)) (am_br (am_eq x 1) (k nx ls st' (am_w m.1 o b x, m.2)) none)
          | _ => none) none
        | _ => none
      | .long x :: .ref o :: st' => match am_at G o with
        | some (4, ci, fs) => am_br (Nat.beq ci a) (match am_at fs b with
          | some 2 => k nx ls st' (m.1, am_wl m.2 o b x)
          | _ => none) none
        | _ => none
      | _ => none
    | 29 => match st with
      | .int j :: .ref o :: st' => match am_at G o with
        | some (0, n, _) => am_br (am_oi j n) none (k nx ls (.int (m.1 o j.toNatClampNeg) :: st') m)
        | _ => none
      | _ => none
    | 30 => match st with
      | .int x :: .int j :: .ref o :: st' => match am_at G o with
        | some (0, n, _) => am_br (am_oi j n) none (k nx ls st' (am_w m.1 o j.toNatClampNeg x, m.2))
        | _ => none
      | _ => none
    | 31 => match st with
      | .int j :: .ref o :: st' => match am_at G o with
        | some (1, n, _) => am_br (am_oi j n) none (k nx ls (.int (m.1 o j.toNatClampNeg) :: st') m)
        | some (2, n, _) => am_br (am_oi j n) none (k nx ls (.int (m.1 o j.toNatClampNeg) :: st') m)
        | _ => none
      | _ => none
    | 32 => match st with
      | .int x :: .int j :: .ref o :: st' => match am_at G o with
        | some (1, n, _) => am_br (am_oi j n) none (k nx ls st' (am_w m.1 o j.toNatClampNeg (vp_nar .byte x), m.2))
        | some (2, n, _) => am_br (am_oi j n) none (k nx ls st' (am_w m.1 o j.toNatClampNeg (vp_nar .boolean x), m.2))
        | _ => none
      | _ => none
    | 33 => match st with
      | .int j :: .ref o :: st' => match am_at G o with
        | some (3, n, _) => am_br (am_oi j n) none (k nx ls (.long (m.2 o j.toNatClampNeg) :: st') m)
        | _ => none
      | _ => none
    | 34 => match st with
      | .long x :: .int j :: .ref o :: st' => match am_at G o with
        | some (3, n, _) => am_br (am_oi j n) none (k nx ls st' (m.1, am_wl m.2 o j.toNatClampNeg x))
        | _ => none
      | _ => none
    | 35 => match st with
      | .ref o :: st' => match am_at G o with
        | some (t, n, _) => am_br (Nat.blt t 4) (k nx ls (.int (Int32.ofNat n) :: st') m) none
        | _ => none
      | _ => none
    | 36 => am_br (Nat.blt st.length b) none (am_br (Nat.blt 8 (am_ca (st.drop b))) none (am_bV (env a (st.take b).reverse m) (fun m' => k nx ls (st.drop b) m')))
    | 37 => am_br (Nat.blt st.length b) none (am_br (Nat.blt 8 (am_ca (st.drop b))) none (am_bI (env a (st.take b).reverse m) (fun x m' => k nx ls (.int x :: st.drop b) m')))
    | 38 => am_br (Nat.blt st.length b) none (am_br (Nat.blt 8 (am_ca (st.drop b))) none (am_bL (env a (st.take b).reverse m) (fun x m' => k nx ls (.long x :: st.drop b) m')))
    | 39 => match dp with
      | false => none
      | true => match b with
        | 0 => match st with
          | .int x :: st' => am_br (Nat.blt 8 (am_ca st')) none (k nx ls (.int (if 0 ≤ x then x else 0 - x) :: st') m)
          | _ => none
        | 1 => match st with
          | .int y :: .int x :: st' => am_br (Nat.blt 8 (am_ca st')) none (k nx ls (.int (if x < y then y else x) :: st') m)
          | _ => none
        | 2 => match st with
          | .int y :: .int x :: st' => am_br (Nat.blt 8 (am_ca st')) none (k nx ls (.int (if y < x then y else x) :: st') m)
          | _ => none
        | 3 => match st with
          | .long x :: st' => am_br (Nat.blt 8 (am_ca st')) none (k nx ls (.long (if 0 < x then x else -x) :: st') m)
          | _ => none
        | 4 => match st with
          | .long y :: .long x :: st' => am_br (Nat.blt 8 (am_ca st')) none (k nx ls (.long (if y < x then x else y) :: st') m)
          | _ => none
        | _ => match st with
          | .long y :: .long x :: st' => am_br (Nat.blt 8 (am_ca st')) none (k nx ls (.long (if y < x then y else x) :: st') m)
          | _ => none
    | 40 => match dp with
      | false => none
      | true => match st with
        | .int n :: .int q :: .ref o :: .int sp :: .ref o0 :: st' => am_br (Nat.blt 8 (am_ca st')) none (match am_at G o0 with
          | some (0, n0, _) => match am_at G o with
            | some (0, n1, _) => am_br (am_lt sp 0) none (am_br (am_lt q 0) none (am_br (am_lt n 0) none (am_br (Nat.blt n0 (sp.toNatClampNeg + n.toNatClampNeg)) none (am_br (Nat.blt n1 (q.toNatClampNeg + n.toNatClampNeg)) none
                (k nx ls st' (am_wc m.1 o0 o sp.toNatClampNeg q.toNatClampNeg n.toNatClampNeg, m.2))))))
            | _ => none
          | _ => none)
        | _ => none
    | 41 => match st with
      | [.int x] => match rt with
        | 1 => some (some (.int x), m)
        | 2 => am_br (am_eq x 0) (some (some (.int x), m)) (am_br (am_eq x 1) (some (some (.int x), m)) none)
        | _ => none
      | _ => none
    | 42 => match st with
      | [.long x] => match rt with
        | 3 => some (some (.long x), m)
        | _ => none
      | _ => none
    | 43 => match st with
      | [] => match rt with
        | 0 => some (none, m)
        | _ => none
      | _ => none
    | _ => none
/-- a stretch of instructions, up to the next place of 'cuts' with an empty stack -/
def am_blk (G : List am_D) (dp : Bool) (env : Nat → List Value → am_M → am_R) (rt : Nat) (P : List (Nat × am_I)) (cuts : List Nat) (rec : Nat → am_L → am_M → am_R) : Nat → Nat → am_L → List Value → am_M → am_R
  | 0, _, _, _, _ => none
  | n + 1, pc, ls, st, m => match am_lk P pc with
    | none => none
    | some i => am_step G dp env rt i ls st m (fun pc' ls' st' m' => am_br (cuts.elem pc') (match st' with
      | [] => rec pc' ls' m'
      | _ => am_blk G dp env rt P cuts rec n pc' ls' st' m') (am_blk G dp env rt P cuts rec n pc' ls' st' m'))
def am_run (G : List am_D) (dp : Bool) (env : Nat → List Value → am_M → am_R) (rt : Nat) (P : List (Nat × am_I)) (cuts : List Nat) : Nat → Nat → am_L → am_M → am_R
  | 0, _, _, _ => none
  | n + 1, pc, ls, m => am_blk G dp env rt P cuts (am_run G dp env rt P cuts n) 1000 pc ls [] m
/-- the locals at the start -/
def am_en : List Value → Nat → am_L
  | [], n => List.replicate n none
  | v :: vs, n => if v.category = 2 then some v :: none :: am_en vs (n - 2) else some v :: am_en vs (n - 1)
/-- a method: its class, the kind of its answer, how many locals, its parameters (this too), whether static, rows, cuts -/
abbrev am_Y : Type := Nat × Nat × Nat × Nat × Bool × List (Nat × am_I) × List Nat
def am_go (G : List am_D) (dp : Bool) (env : Nat → List Value → am_M → am_R) (q : am_Y) (F : Nat) (vs : List Value) (m : am_M) : am_R := am_run G dp env q.2.1 q.2.2.2.2.2.1 q.2.2.2.2.2.2 F 0 (am_en vs q.2.2.1) m
/-- a virtual call: the first is an object of the method's class -/
def am_rc (G : List am_D) (q : am_Y) (vs : List Value) : Bool := decide (am_ca vs ≤ q.2.2.1) && if q.2.2.2.2.1 = true then true else match vs with
  | .ref o :: _ => match am_at G o with
    | some (4, ci, _) => decide (ci = q.1)
    | _ => false
  | _ => false
def am_call (G : List am_D) (MT : List am_Y) (F : Nat) : Nat → Nat → List Value → am_M → am_R
  | 0, y, vs, m => match am_at MT y with
    | none => none
    | some q => am_br (am_rc G q vs) (am_go G false (fun _ _ _ => none) q F vs m) none
  | d + 1, y, vs, m => match am_at MT y with
    | none => none
    | some q => am_br (am_rc G q vs) (am_go G true (am_call G MT F d) q F vs m) none
