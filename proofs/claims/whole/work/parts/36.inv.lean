/-! what is told and what is now, both sides, as it stands between calls -/
/-- the look of a shape, by numbers -/
def sp_mv (s : Nat) : Nat :=
  let a := if s &&& 448 = 0 then s <<< 3 else s
  let b := if s &&& 448 = 0 then (if a &&& 448 = 0 then a <<< 3 else a) else a
  let c := if b &&& 292 = 0 then b <<< 1 else b
  if b &&& 292 = 0 then (if c &&& 292 = 0 then c <<< 1 else c) else c
def sp_look (s : Nat) : Nat := min (sp_mv s) (sp_mv ((sp_mv s &&& 292) >>> 2 ||| sp_mv s &&& 146 ||| (sp_mv s &&& 73) <<< 2))
def V0 (T : Td) : Td := fun r i => if r = 0 then T 3 i else if r = 1 then T 4 i else if r = 2 then T 5 i else T 0 2
theorem V0_0 {T : Td} {i : Nat} : V0 T 0 i = T 3 i := rfl
theorem V0_1 {T : Td} {i : Nat} : V0 T 1 i = T 4 i := rfl
theorem V0_2 {T : Td} {i : Nat} : V0 T 2 i = T 5 i := rfl
theorem V0_3 {T : Td} {i : Nat} : V0 T 3 i = T 0 2 := rfl
def tC (T G F : Td) (m : am_M) : Prop :=
  (m.1 27 0 = zn (T 0 0))
  ∧ (m.1 27 8 = zn (T 0 1))
  ∧ (m.1 27 11 = zn (T 0 4))
  ∧ (m.1 27 14 = zn (T 0 2))
  ∧ (m.1 27 15 = zn (T 0 3))
  ∧ (m.1 27 16 = zn (T 0 5))
  ∧ (∀ i, i < T 0 0 → m.1 28 i = zn (T 7 i))
  ∧ (∀ i, i < T 0 0 → m.1 29 i = zn (T 1 i))
  ∧ (∀ i, i < T 0 0 → m.1 30 i = zn (T 2 i))
  ∧ (∀ i, i < T 0 0 → m.1 31 i = zn (T 8 i))
  ∧ (∀ i, i < T 0 0 → m.1 32 i = zn (T 6 i))
  ∧ (∀ i, i < T 0 0 → m.1 33 i = zn (T 3 i))
  ∧ (∀ i, i < T 0 0 → m.1 34 i = zn (T 4 i))
  ∧ (∀ i, i < T 0 1 → m.1 35 i = zn (T 9 i))
  ∧ (∀ i, i < T 0 1 → m.1 36 i = zn (T 5 i))
  ∧ (∀ i, i < T 0 4 → m.1 37 i = zn (T 10 i) ∧ m.1 38 i = zn (T 11 i))
  ∧ (m.1 46 3 = zn (T 0 2))
  ∧ (∀ i, i < T 0 0 → m.1 47 i = zn (T 3 i))
  ∧ (∀ i, i < T 0 0 → m.1 48 i = zn (T 4 i))
  ∧ (∀ i, i < T 0 1 → m.1 49 i = zn (T 5 i))
  ∧ (∀ i, i < 5 → m.1 47 i = m.1 33 i ∧ m.1 48 i = m.1 34 i ∧ m.1 49 i = m.1 36 i)
  ∧ (gC G F m)
theorem tC.n {T G F : Td} {m : am_M} (hZ : tC T G F m) : m.1 27 0 = zn (T 0 0) := hZ.1
theorem tC.L {T G F : Td} {m : am_M} (hZ : tC T G F m) : m.1 27 8 = zn (T 0 1) := hZ.2.1
theorem tC.mn {T G F : Td} {m : am_M} (hZ : tC T G F m) : m.1 27 11 = zn (T 0 4) := hZ.2.2.1
theorem tC.rl {T G F : Td} {m : am_M} (hZ : tC T G F m) : m.1 27 14 = zn (T 0 2) := hZ.2.2.2.1
theorem tC.fg {T G F : Td} {m : am_M} (hZ : tC T G F m) : m.1 27 15 = zn (T 0 3) := hZ.2.2.2.2.1
theorem tC.sd {T G F : Td} {m : am_M} (hZ : tC T G F m) : m.1 27 16 = zn (T 0 5) := hZ.2.2.2.2.2.1
theorem tC.lt {T G F : Td} {m : am_M} (hZ : tC T G F m) : ∀ i, i < T 0 0 → m.1 28 i = zn (T 7 i) := hZ.2.2.2.2.2.2.1
theorem tC.pl {T G F : Td} {m : am_M} (hZ : tC T G F m) : ∀ i, i < T 0 0 → m.1 29 i = zn (T 1 i) := hZ.2.2.2.2.2.2.2.1
theorem tC.sz {T G F : Td} {m : am_M} (hZ : tC T G F m) : ∀ i, i < T 0 0 → m.1 30 i = zn (T 2 i) := hZ.2.2.2.2.2.2.2.2.1
theorem tC.sh {T G F : Td} {m : am_M} (hZ : tC T G F m) : ∀ i, i < T 0 0 → m.1 31 i = zn (T 8 i) := hZ.2.2.2.2.2.2.2.2.2.1
theorem tC.lk {T G F : Td} {m : am_M} (hZ : tC T G F m) : ∀ i, i < T 0 0 → m.1 32 i = zn (T 6 i) := hZ.2.2.2.2.2.2.2.2.2.2.1
theorem tC.cm {T G F : Td} {m : am_M} (hZ : tC T G F m) : ∀ i, i < T 0 0 → m.1 33 i = zn (T 3 i) := hZ.2.2.2.2.2.2.2.2.2.2.2.1
theorem tC.hw {T G F : Td} {m : am_M} (hZ : tC T G F m) : ∀ i, i < T 0 0 → m.1 34 i = zn (T 4 i) := hZ.2.2.2.2.2.2.2.2.2.2.2.2.1
theorem tC.hu {T G F : Td} {m : am_M} (hZ : tC T G F m) : ∀ i, i < T 0 1 → m.1 35 i = zn (T 9 i) := hZ.2.2.2.2.2.2.2.2.2.2.2.2.2.1
theorem tC.rc {T G F : Td} {m : am_M} (hZ : tC T G F m) : ∀ i, i < T 0 1 → m.1 36 i = zn (T 5 i) := hZ.2.2.2.2.2.2.2.2.2.2.2.2.2.2.1
theorem tC.ms {T G F : Td} {m : am_M} (hZ : tC T G F m) : ∀ i, i < T 0 4 → m.1 37 i = zn (T 10 i) ∧ m.1 38 i = zn (T 11 i) := hZ.2.2.2.2.2.2.2.2.2.2.2.2.2.2.2.1
theorem tC.wr {T G F : Td} {m : am_M} (hZ : tC T G F m) : m.1 46 3 = zn (T 0 2) := hZ.2.2.2.2.2.2.2.2.2.2.2.2.2.2.2.2.1
theorem tC.wc {T G F : Td} {m : am_M} (hZ : tC T G F m) : ∀ i, i < T 0 0 → m.1 47 i = zn (T 3 i) := hZ.2.2.2.2.2.2.2.2.2.2.2.2.2.2.2.2.2.1
theorem tC.wh {T G F : Td} {m : am_M} (hZ : tC T G F m) : ∀ i, i < T 0 0 → m.1 48 i = zn (T 4 i) := hZ.2.2.2.2.2.2.2.2.2.2.2.2.2.2.2.2.2.2.1
theorem tC.wl {T G F : Td} {m : am_M} (hZ : tC T G F m) : ∀ i, i < T 0 1 → m.1 49 i = zn (T 5 i) := hZ.2.2.2.2.2.2.2.2.2.2.2.2.2.2.2.2.2.2.2.1
theorem tC.w5 {T G F : Td} {m : am_M} (hZ : tC T G F m) : ∀ i, i < 5 → m.1 47 i = m.1 33 i ∧ m.1 48 i = m.1 34 i ∧ m.1 49 i = m.1 36 i := hZ.2.2.2.2.2.2.2.2.2.2.2.2.2.2.2.2.2.2.2.2.1
theorem tC.lw {T G F : Td} {m : am_M} (hZ : tC T G F m) : gC G F m := hZ.2.2.2.2.2.2.2.2.2.2.2.2.2.2.2.2.2.2.2.2.2
def tR (T G F : Td) (m : am_M) : Prop :=
  (m.1 107 12 = zn (T 0 0))
  ∧ (m.1 107 13 = zn (T 0 1))
  ∧ (m.1 107 14 = zn (T 0 4))
  ∧ (m.1 107 15 = zn (F 2 0))
  ∧ (m.1 111 0 = zn (T 0 2))
  ∧ (m.1 111 1 = zn (T 0 3))
  ∧ (m.1 111 2 = zn (T 0 5))
  ∧ (∀ i, i < T 0 0 → m.1 112 i = zn (T 7 i))
  ∧ (∀ i, i < T 0 0 → m.1 113 i = zn (T 1 i))
  ∧ (∀ i, i < T 0 0 → m.1 114 i = zn (T 2 i))
  ∧ (∀ i, i < T 0 0 → m.1 115 i = zn (T 8 i))
  ∧ (∀ i, i < T 0 0 → m.1 116 i = zn (T 3 i))
  ∧ (∀ i, i < T 0 0 → m.1 117 i = zn (T 4 i))
  ∧ (∀ i, i < T 0 1 → m.1 118 i = zn (T 9 i))
  ∧ (∀ i, i < T 0 1 → m.1 119 i = zn (T 5 i))
  ∧ (∀ i, i < T 0 4 → m.1 120 i = zn (min (T 10 i) (T 11 i)) ∧ m.1 121 i = zn (max (T 10 i) (T 11 i)))
  ∧ (gR G F m)
theorem tR.n {T G F : Td} {m : am_M} (hZ : tR T G F m) : m.1 107 12 = zn (T 0 0) := hZ.1
theorem tR.L {T G F : Td} {m : am_M} (hZ : tR T G F m) : m.1 107 13 = zn (T 0 1) := hZ.2.1
theorem tR.mn {T G F : Td} {m : am_M} (hZ : tR T G F m) : m.1 107 14 = zn (T 0 4) := hZ.2.2.1
theorem tR.kn {T G F : Td} {m : am_M} (hZ : tR T G F m) : m.1 107 15 = zn (F 2 0) := hZ.2.2.2.1
theorem tR.rl {T G F : Td} {m : am_M} (hZ : tR T G F m) : m.1 111 0 = zn (T 0 2) := hZ.2.2.2.2.1
theorem tR.fg {T G F : Td} {m : am_M} (hZ : tR T G F m) : m.1 111 1 = zn (T 0 3) := hZ.2.2.2.2.2.1
theorem tR.sd {T G F : Td} {m : am_M} (hZ : tR T G F m) : m.1 111 2 = zn (T 0 5) := hZ.2.2.2.2.2.2.1
theorem tR.lt {T G F : Td} {m : am_M} (hZ : tR T G F m) : ∀ i, i < T 0 0 → m.1 112 i = zn (T 7 i) := hZ.2.2.2.2.2.2.2.1
theorem tR.pl {T G F : Td} {m : am_M} (hZ : tR T G F m) : ∀ i, i < T 0 0 → m.1 113 i = zn (T 1 i) := hZ.2.2.2.2.2.2.2.2.1
theorem tR.sz {T G F : Td} {m : am_M} (hZ : tR T G F m) : ∀ i, i < T 0 0 → m.1 114 i = zn (T 2 i) := hZ.2.2.2.2.2.2.2.2.2.1
theorem tR.sh {T G F : Td} {m : am_M} (hZ : tR T G F m) : ∀ i, i < T 0 0 → m.1 115 i = zn (T 8 i) := hZ.2.2.2.2.2.2.2.2.2.2.1
theorem tR.cm {T G F : Td} {m : am_M} (hZ : tR T G F m) : ∀ i, i < T 0 0 → m.1 116 i = zn (T 3 i) := hZ.2.2.2.2.2.2.2.2.2.2.2.1
theorem tR.hw {T G F : Td} {m : am_M} (hZ : tR T G F m) : ∀ i, i < T 0 0 → m.1 117 i = zn (T 4 i) := hZ.2.2.2.2.2.2.2.2.2.2.2.2.1
theorem tR.hu {T G F : Td} {m : am_M} (hZ : tR T G F m) : ∀ i, i < T 0 1 → m.1 118 i = zn (T 9 i) := hZ.2.2.2.2.2.2.2.2.2.2.2.2.2.1
theorem tR.rc {T G F : Td} {m : am_M} (hZ : tR T G F m) : ∀ i, i < T 0 1 → m.1 119 i = zn (T 5 i) := hZ.2.2.2.2.2.2.2.2.2.2.2.2.2.2.1
theorem tR.ms {T G F : Td} {m : am_M} (hZ : tR T G F m) : ∀ i, i < T 0 4 → m.1 120 i = zn (min (T 10 i) (T 11 i)) ∧ m.1 121 i = zn (max (T 10 i) (T 11 i)) := hZ.2.2.2.2.2.2.2.2.2.2.2.2.2.2.2.1
theorem tR.lw {T G F : Td} {m : am_M} (hZ : tR T G F m) : gR G F m := hZ.2.2.2.2.2.2.2.2.2.2.2.2.2.2.2.2
def tW (T : Td) : Prop :=
  (T 0 0 ≤ 5)
  ∧ (T 0 1 ≤ 5)
  ∧ (T 0 2 < 3)
  ∧ (T 0 3 ≤ 100)
  ∧ (T 0 4 ≤ 10)
  ∧ (T 0 5 < 100000)
  ∧ (∀ i, i < T 0 0 → T 1 i < 30)
  ∧ (∀ i, i < T 0 0 → T 2 i < 10)
  ∧ (∀ i, i < T 0 0 → T 3 i < 10)
  ∧ (∀ i, i < T 0 0 → T 4 i < 3)
  ∧ (∀ i, i < T 0 1 → T 5 i < 30)
  ∧ (∀ i, i < T 0 0 → T 6 i < 512)
  ∧ (∀ i, i < T 0 0 → T 7 i < 1073741824)
  ∧ (∀ i, i < T 0 0 → T 8 i < 512)
  ∧ (∀ i, i < T 0 1 → T 9 i < 30)
  ∧ (∀ i, i < T 0 4 → T 10 i < T 0 0 ∧ T 11 i < T 0 0 ∧ T 10 i ≠ T 11 i)
  ∧ (∀ i, i < T 0 0 → T 6 i = sp_look (T 8 i))
theorem tW.n {T : Td} (hZ : tW T) : T 0 0 ≤ 5 := hZ.1
theorem tW.L {T : Td} (hZ : tW T) : T 0 1 ≤ 5 := hZ.2.1
theorem tW.rl {T : Td} (hZ : tW T) : T 0 2 < 3 := hZ.2.2.1
theorem tW.fg {T : Td} (hZ : tW T) : T 0 3 ≤ 100 := hZ.2.2.2.1
theorem tW.mn {T : Td} (hZ : tW T) : T 0 4 ≤ 10 := hZ.2.2.2.2.1
theorem tW.sd {T : Td} (hZ : tW T) : T 0 5 < 100000 := hZ.2.2.2.2.2.1
theorem tW.pl {T : Td} (hZ : tW T) : ∀ i, i < T 0 0 → T 1 i < 30 := hZ.2.2.2.2.2.2.1
theorem tW.sz {T : Td} (hZ : tW T) : ∀ i, i < T 0 0 → T 2 i < 10 := hZ.2.2.2.2.2.2.2.1
theorem tW.cm {T : Td} (hZ : tW T) : ∀ i, i < T 0 0 → T 3 i < 10 := hZ.2.2.2.2.2.2.2.2.1
theorem tW.hw {T : Td} (hZ : tW T) : ∀ i, i < T 0 0 → T 4 i < 3 := hZ.2.2.2.2.2.2.2.2.2.1
theorem tW.rc {T : Td} (hZ : tW T) : ∀ i, i < T 0 1 → T 5 i < 30 := hZ.2.2.2.2.2.2.2.2.2.2.1
theorem tW.lk {T : Td} (hZ : tW T) : ∀ i, i < T 0 0 → T 6 i < 512 := hZ.2.2.2.2.2.2.2.2.2.2.2.1
theorem tW.lt {T : Td} (hZ : tW T) : ∀ i, i < T 0 0 → T 7 i < 1073741824 := hZ.2.2.2.2.2.2.2.2.2.2.2.2.1
theorem tW.sh {T : Td} (hZ : tW T) : ∀ i, i < T 0 0 → T 8 i < 512 := hZ.2.2.2.2.2.2.2.2.2.2.2.2.2.1
theorem tW.hu {T : Td} (hZ : tW T) : ∀ i, i < T 0 1 → T 9 i < 30 := hZ.2.2.2.2.2.2.2.2.2.2.2.2.2.2.1
theorem tW.ms {T : Td} (hZ : tW T) : ∀ i, i < T 0 4 → T 10 i < T 0 0 ∧ T 11 i < T 0 0 ∧ T 10 i ≠ T 11 i := hZ.2.2.2.2.2.2.2.2.2.2.2.2.2.2.2.1
theorem tW.ll {T : Td} (hZ : tW T) : ∀ i, i < T 0 0 → T 6 i = sp_look (T 8 i) := hZ.2.2.2.2.2.2.2.2.2.2.2.2.2.2.2.2
def nR (T : Td) (ord : List Nat) (U : Nat → Nat) (mt : List (Nat × Nat)) (h : Hs) (w : List Nat) (day : Nat) (num : Nat) (m : am_M) : Prop :=
  (∀ i, i < T 0 0 → m.1 132 i = zo (h i))
  ∧ (∀ i, T 0 0 ≤ i → i < 5 → m.1 132 i = zm)
  ∧ (m.1 134 0 = zn w.length)
  ∧ (∀ i, i < w.length → m.1 133 i = zn (w.getD i 0))
  ∧ (m.1 135 0 = zn day)
  ∧ (ord.length = T 0 1)
  ∧ (∀ i, i < T 0 1 → m.1 137 i = zn (ord.getD i 0))
  ∧ (∀ l, l < T 0 1 → m.1 136 l = zn (U l))
  ∧ (m.1 107 55 = zn mt.length)
  ∧ (∀ i, i < mt.length → m.1 138 i = zn (mt.getD i (0, 0)).1 ∧ m.1 139 i = zn (mt.getD i (0, 0)).2)
  ∧ (m.2 107 58 = (zn num).toInt64)
theorem nR.hs {T : Td} {ord : List Nat} {U : Nat → Nat} {mt : List (Nat × Nat)} {h : Hs} {w : List Nat} {day : Nat} {num : Nat} {m : am_M} (hZ : nR T ord U mt h w day num m) : ∀ i, i < T 0 0 → m.1 132 i = zo (h i) := hZ.1
theorem nR.h5 {T : Td} {ord : List Nat} {U : Nat → Nat} {mt : List (Nat × Nat)} {h : Hs} {w : List Nat} {day : Nat} {num : Nat} {m : am_M} (hZ : nR T ord U mt h w day num m) : ∀ i, T 0 0 ≤ i → i < 5 → m.1 132 i = zm := hZ.2.1
theorem nR.wl {T : Td} {ord : List Nat} {U : Nat → Nat} {mt : List (Nat × Nat)} {h : Hs} {w : List Nat} {day : Nat} {num : Nat} {m : am_M} (hZ : nR T ord U mt h w day num m) : m.1 134 0 = zn w.length := hZ.2.2.1
theorem nR.ws {T : Td} {ord : List Nat} {U : Nat → Nat} {mt : List (Nat × Nat)} {h : Hs} {w : List Nat} {day : Nat} {num : Nat} {m : am_M} (hZ : nR T ord U mt h w day num m) : ∀ i, i < w.length → m.1 133 i = zn (w.getD i 0) := hZ.2.2.2.1
theorem nR.dy {T : Td} {ord : List Nat} {U : Nat → Nat} {mt : List (Nat × Nat)} {h : Hs} {w : List Nat} {day : Nat} {num : Nat} {m : am_M} (hZ : nR T ord U mt h w day num m) : m.1 135 0 = zn day := hZ.2.2.2.2.1
theorem nR.ol {T : Td} {ord : List Nat} {U : Nat → Nat} {mt : List (Nat × Nat)} {h : Hs} {w : List Nat} {day : Nat} {num : Nat} {m : am_M} (hZ : nR T ord U mt h w day num m) : ord.length = T 0 1 := hZ.2.2.2.2.2.1
theorem nR.os {T : Td} {ord : List Nat} {U : Nat → Nat} {mt : List (Nat × Nat)} {h : Hs} {w : List Nat} {day : Nat} {num : Nat} {m : am_M} (hZ : nR T ord U mt h w day num m) : ∀ i, i < T 0 1 → m.1 137 i = zn (ord.getD i 0) := hZ.2.2.2.2.2.2.1
theorem nR.hu {T : Td} {ord : List Nat} {U : Nat → Nat} {mt : List (Nat × Nat)} {h : Hs} {w : List Nat} {day : Nat} {num : Nat} {m : am_M} (hZ : nR T ord U mt h w day num m) : ∀ l, l < T 0 1 → m.1 136 l = zn (U l) := hZ.2.2.2.2.2.2.2.1
theorem nR.ml {T : Td} {ord : List Nat} {U : Nat → Nat} {mt : List (Nat × Nat)} {h : Hs} {w : List Nat} {day : Nat} {num : Nat} {m : am_M} (hZ : nR T ord U mt h w day num m) : m.1 107 55 = zn mt.length := hZ.2.2.2.2.2.2.2.2.1
theorem nR.ms {T : Td} {ord : List Nat} {U : Nat → Nat} {mt : List (Nat × Nat)} {h : Hs} {w : List Nat} {day : Nat} {num : Nat} {m : am_M} (hZ : nR T ord U mt h w day num m) : ∀ i, i < mt.length → m.1 138 i = zn (mt.getD i (0, 0)).1 ∧ m.1 139 i = zn (mt.getD i (0, 0)).2 := hZ.2.2.2.2.2.2.2.2.2.1
theorem nR.dr {T : Td} {ord : List Nat} {U : Nat → Nat} {mt : List (Nat × Nat)} {h : Hs} {w : List Nat} {day : Nat} {num : Nat} {m : am_M} (hZ : nR T ord U mt h w day num m) : m.2 107 58 = (zn num).toInt64 := hZ.2.2.2.2.2.2.2.2.2.2
/-- nothing is tried -/
def fl (T : Td) (ord : List Nat) (m : am_M) : Prop :=
  (m.1 107 59 = zn (T 0 2))
  ∧ (m.1 107 60 = zn 0)
  ∧ (m.1 107 61 = zn 0)
  ∧ (m.1 107 62 = zn 0)
  ∧ (m.1 107 63 = zm)
  ∧ (m.1 107 64 = zm)
  ∧ (m.1 107 65 = zm)
  ∧ (∀ i, i < T 0 0 → m.1 140 i = zn (T 3 i))
  ∧ (∀ i, i < T 0 1 → m.1 137 (5 + i) = zn (ord.getD i 0))
theorem fl.rl {T : Td} {ord : List Nat} {m : am_M} (hZ : fl T ord m) : m.1 107 59 = zn (T 0 2) := hZ.1
theorem fl.nm {T : Td} {ord : List Nat} {m : am_M} (hZ : fl T ord m) : m.1 107 60 = zn 0 := hZ.2.1
theorem fl.ar {T : Td} {ord : List Nat} {m : am_M} (hZ : fl T ord m) : m.1 107 61 = zn 0 := hZ.2.2.1
theorem fl.ns {T : Td} {ord : List Nat} {m : am_M} (hZ : fl T ord m) : m.1 107 62 = zn 0 := hZ.2.2.2.1
theorem fl.th {T : Td} {ord : List Nat} {m : am_M} (hZ : fl T ord m) : m.1 107 63 = zm := hZ.2.2.2.2.1
theorem fl.lo {T : Td} {ord : List Nat} {m : am_M} (hZ : fl T ord m) : m.1 107 64 = zm := hZ.2.2.2.2.2.1
theorem fl.lm {T : Td} {ord : List Nat} {m : am_M} (hZ : fl T ord m) : m.1 107 65 = zm := hZ.2.2.2.2.2.2.1
theorem fl.cm {T : Td} {ord : List Nat} {m : am_M} (hZ : fl T ord m) : ∀ i, i < T 0 0 → m.1 140 i = zn (T 3 i) := hZ.2.2.2.2.2.2.2.1
theorem fl.os {T : Td} {ord : List Nat} {m : am_M} (hZ : fl T ord m) : ∀ i, i < T 0 1 → m.1 137 (5 + i) = zn (ord.getD i 0) := hZ.2.2.2.2.2.2.2.2
theorem tW.tw {T : Td} (W : tW T) : tw T (V0 T) := ⟨W.n, W.L, W.pl, W.sz, W.fg, W.rl, W.cm, W.hw, W.rc⟩
theorem tC.cx {T G F : Td} {m : am_M} (c : tC T G F m) (W : gW G F) : cx T (V0 T) (gE G F) m := ⟨c.n, c.L, c.pl, c.sz, c.fg, c.wr, c.wc, c.wh, c.wl, gC_lw W c.lw⟩
theorem tR.rx {T G F : Td} {ord : List Nat} {m : am_M} (c : tR T G F m) (f : fl T ord m) (W : tW T) (g : gW G F) : rx T (V0 T) (gE G F) m := by
  have := W.n
  refine ⟨c.n, c.L, c.pl, c.sz, c.fg, f.rl, f.cm, ?_, ?_, gR_lw g c.lw⟩
  · intro i hi
    exact Or.inr ⟨by rw [f.th]; exact zn_zm (by omega), Or.inl ⟨f.ns, c.hw i hi⟩⟩
  · intro l hl; exact Or.inl ⟨f.ar, c.rc l hl⟩
theorem tC.mono {T G F : Td} {m m' : am_M} (c : tC T G F m) (e : ∀ q, 27 ≤ q → q ≤ 49 → m'.1 q = m.1 q) : tC T G F m' := by
  have e27 := e 27 (by omega) (by omega)
  refine ⟨?_, ?_, ?_, ?_, ?_, ?_, ?_, ?_, ?_, ?_, ?_, ?_, ?_, ?_, ?_, ?_, ?_, ?_, ?_, ?_, ?_, ?_, ?_, ?_, ?_⟩
  · rw [e27]; exact c.n
  · rw [e27]; exact c.L
  · rw [e27]; exact c.mn
  · rw [e27]; exact c.rl
  · rw [e27]; exact c.fg
  · rw [e27]; exact c.sd
  · rw [e 28 (by omega) (by omega)]; exact c.lt
  · rw [e 29 (by omega) (by omega)]; exact c.pl
  · rw [e 30 (by omega) (by omega)]; exact c.sz
  · rw [e 31 (by omega) (by omega)]; exact c.sh
  · rw [e 32 (by omega) (by omega)]; exact c.lk
  · rw [e 33 (by omega) (by omega)]; exact c.cm
  · rw [e 34 (by omega) (by omega)]; exact c.hw
  · rw [e 35 (by omega) (by omega)]; exact c.hu
  · rw [e 36 (by omega) (by omega)]; exact c.rc
  · rw [e 37 (by omega) (by omega), e 38 (by omega) (by omega)]; exact c.ms
  · rw [e 46 (by omega) (by omega)]; exact c.wr
  · rw [e 47 (by omega) (by omega)]; exact c.wc
  · rw [e 48 (by omega) (by omega)]; exact c.wh
  · rw [e 49 (by omega) (by omega)]; exact c.wl
  · rw [e 47 (by omega) (by omega), e 33 (by omega) (by omega), e 48 (by omega) (by omega), e 34 (by omega) (by omega), e 49 (by omega) (by omega), e 36 (by omega) (by omega)]; exact c.w5
  · rw [e 40 (by omega) (by omega), e 41 (by omega) (by omega)]; exact c.lw.kd
  · rw [e 42 (by omega) (by omega)]; exact c.lw.fr
  · rw [e 43 (by omega) (by omega)]; exact c.lw.to
  · rw [e 39 (by omega) (by omega)]; exact c.lw.kn
theorem tR.mono {T G F : Td} {m m' : am_M} (c : tR T G F m) (e : ∀ q, 111 ≤ q → q ≤ 127 → m'.1 q = m.1 q) (e1 : ∀ i, 12 ≤ i → i ≤ 15 → m'.1 107 i = m.1 107 i) : tR T G F m' := by
  refine ⟨?_, ?_, ?_, ?_, ?_, ?_, ?_, ?_, ?_, ?_, ?_, ?_, ?_, ?_, ?_, ?_, ?_, ?_, ?_, ?_, ?_⟩
  · rw [e1 12 (by omega) (by omega)]; exact c.n
  · rw [e1 13 (by omega) (by omega)]; exact c.L
  · rw [e1 14 (by omega) (by omega)]; exact c.mn
  · rw [e1 15 (by omega) (by omega)]; exact c.kn
  · rw [e 111 (by omega) (by omega)]; exact c.rl
  · rw [e 111 (by omega) (by omega)]; exact c.fg
  · rw [e 111 (by omega) (by omega)]; exact c.sd
  · rw [e 112 (by omega) (by omega)]; exact c.lt
  · rw [e 113 (by omega) (by omega)]; exact c.pl
  · rw [e 114 (by omega) (by omega)]; exact c.sz
  · rw [e 115 (by omega) (by omega)]; exact c.sh
  · rw [e 116 (by omega) (by omega)]; exact c.cm
  · rw [e 117 (by omega) (by omega)]; exact c.hw
  · rw [e 118 (by omega) (by omega)]; exact c.hu
  · rw [e 119 (by omega) (by omega)]; exact c.rc
  · rw [e 120 (by omega) (by omega), e 121 (by omega) (by omega)]; exact c.ms
  · rw [e 125 (by omega) (by omega)]; exact c.lw.k0
  · rw [e 126 (by omega) (by omega)]; exact c.lw.k1
  · rw [e 127 (by omega) (by omega)]; exact c.lw.k2
  · rw [e 122 (by omega) (by omega)]; exact c.lw.tl
  · rw [e 123 (by omega) (by omega), e 124 (by omega) (by omega)]; exact c.lw.fr
theorem sn.mono {k : Nat} {T : Td} {ord : List Nat} {U : Nat → Nat} {mt : List (Nat × Nat)} {h : Hs} {w : List Nat} {day : Nat} {m m' : am_M} (s : sn k T ord U mt h w day m) (e : ∀ c, k ≤ c → c ≤ k + 6 → m'.1 c = m.1 c) : sn k T ord U mt h w day m' := by
  unfold sn
  rw [e k (by omega) (by omega), e (k + 1) (by omega) (by omega), e (k + 2) (by omega) (by omega), e (k + 3) (by omega) (by omega), e (k + 4) (by omega) (by omega), e (k + 5) (by omega) (by omega), e (k + 6) (by omega) (by omega)]
  exact s
theorem nR.mono {T : Td} {ord : List Nat} {U : Nat → Nat} {mt : List (Nat × Nat)} {h : Hs} {w : List Nat} {day num : Nat} {m m' : am_M} (s : nR T ord U mt h w day num m) (hw : w.length ≤ 5) (hL : T 0 1 ≤ 5) (hn : T 0 0 ≤ 5) (e1 : ∀ i, i < 5 → m'.1 132 i = m.1 132 i ∧ m'.1 133 i = m.1 133 i ∧ m'.1 137 i = m.1 137 i) (e2 : m'.1 134 0 = m.1 134 0) (e3 : m'.1 135 0 = m.1 135 0) (e4 : m'.1 136 = m.1 136) (e5 : m'.1 138 = m.1 138) (e6 : m'.1 139 = m.1 139) (e7 : m'.1 107 55 = m.1 107 55) (e8 : m'.2 107 58 = m.2 107 58) : nR T ord U mt h w day num m' := by
  refine ⟨fun i hi => ?_, fun i h1 h2 => ?_, ?_, fun i hi => ?_, ?_, s.ol, fun i hi => ?_, ?_, ?_, ?_, ?_⟩
  · rw [(e1 i (by omega)).1]; exact s.hs i hi
  · rw [(e1 i h2).1]; exact s.h5 i h1 h2
  · rw [e2]; exact s.wl
  · rw [(e1 i (by omega)).2.1]; exact s.ws i hi
  · rw [e3]; exact s.dy
  · rw [(e1 i (by omega)).2.2]; exact s.os i hi
  · rw [e4]; exact s.hu
  · rw [e7]; exact s.ml
  · rw [e5, e6]; exact s.ms
  · rw [e8]; exact s.dr
/-- side 0 of the reference, nothing tried -/
theorem nR.rn0 {T : Td} {ord : List Nat} {U : Nat → Nat} {mt : List (Nat × Nat)} {h : Hs} {w : List Nat} {day num : Nat} {m : am_M} (s : nR T ord U mt h w day num m) (f : fl T ord m) (ho : ∀ l, l ∈ ord → l < 5) (hL : T 0 1 ≤ 5) : rn 0 T ord U mt h w day m := by
  refine ⟨?_, s.wl, ?_, s.dy, ⟨ord, none, s.ol, ?_, f.lo, (by intro a h; cases h), ho, ?_⟩, ?_, Or.inl ⟨f.nm, s.ml, s.ms⟩, ?_⟩
  · intro i hi; rw [Nat.mul_zero, Nat.zero_add]; exact s.hs i hi
  · intro i hi; rw [Nat.mul_zero, Nat.zero_add]; exact s.ws i hi
  · intro i hi; rw [Nat.mul_zero, Nat.zero_add]; exact s.os i hi
  · rw [List.filter_eq_self.mpr]; intro a _; simp
  · intro l hl; exact Or.inr ⟨by rw [f.lm]; exact zn_zm (by omega), s.hu l hl⟩
  · intro i q1 q2; rw [Nat.mul_zero, Nat.zero_add]; exact s.h5 i q1 q2
/-! small questions -/
def isN (n : Nat) (x : Int32) : Bool := decide (0 ≤ x.toInt ∧ x.toInt < n)
theorem isN_t {n : Nat} {x : Int32} (h : isN n x = true) : ∃ t, t < n ∧ x = zn t := by
  unfold isN at h; rw [decide_eq_true_eq] at h
  refine ⟨x.toInt.toNat, by omega, ?_⟩
  apply Int32.toInt_inj.mp
  have := Int32.toInt_lt x
  rw [zn_i (by omega)]; omega
theorem isN_z {n t : Nat} (h : t < n) (hn : n ≤ 1000) : isN n (zn t) = true := by
  unfold isN; rw [zn_i (by omega), decide_eq_true_eq]; omega
theorem br_isN {n : Nat} {x : Int32} {t f : am_R} (hn : n ≤ 1000) : am_b (am_lt x (zn 0)) f (am_b (am_le (zn n) x) f t) = if isN n x = true then t else f := by
  rw [br_lt, br_le, zn_i (by omega), zn_i (by omega)]
  unfold isN
  by_cases h1 : x.toInt < 0
  · rw [if_pos (by omega), if_neg (by rw [decide_eq_true_eq]; omega)]
  · rw [if_neg (by omega)]
    by_cases h2 : (n : Int) ≤ x.toInt
    · rw [if_pos h2, if_neg (by rw [decide_eq_true_eq]; omega)]
    · rw [if_neg h2, if_pos (by rw [decide_eq_true_eq]; omega)]
theorem zb_if (c : Bool) (m : am_M) : (if c = true then some (some (.int (zn 1)), m) else some (some (.int (zn 0)), m) : am_R) = some (some (.int (zb c)), m) := by cases c <;> rfl
theorem s_isThingC {T G F : Td} {m : am_M} (c : tC T G F m) (W : tW T) {d : Nat} {x : Int32} : am_c (d + 1) y_C_isThing [.ref 0, .int x] m = some (some (.int (zb (isN (T 0 0) x))), m) := by
  have := W.n
  rw [n_C_isThing, c.n, br_isN (by omega), zb_if]
theorem s_isLampC {T G F : Td} {m : am_M} (c : tC T G F m) (W : tW T) {d : Nat} {x : Int32} : am_c (d + 1) y_C_isLamp [.ref 0, .int x] m = some (some (.int (zb (isN (T 0 1) x))), m) := by
  have := W.L
  rw [n_C_isLamp, c.L, br_isN (by omega), zb_if]
theorem s_isThingR {T G F : Td} {m : am_M} (c : tR T G F m) (W : tW T) {d : Nat} {x : Int32} : am_c (d + 1) y_M_isThing [.ref 107, .int x] m = some (some (.int (zb (isN (T 0 0) x))), m) := by
  have := W.n
  rw [n_M_isThing, c.n, br_isN (by omega), zb_if]
theorem s_isLampR {T G F : Td} {m : am_M} (c : tR T G F m) (W : tW T) {d : Nat} {x : Int32} : am_c (d + 1) y_M_isLamp [.ref 107, .int x] m = some (some (.int (zb (isN (T 0 1) x))), m) := by
  have := W.L
  rw [n_M_isLamp, c.L, br_isN (by omega), zb_if]
def isR (a b : Int) (x : Int32) : Bool := decide (a ≤ x.toInt ∧ x.toInt ≤ b)
theorem s_isIn {d : Nat} {x lo hi : Int32} {m : am_M} : am_c (d + 1) y_M_isIn [.int x, .int lo, .int hi] m = some (some (.int (zb (isR lo.toInt hi.toInt x))), m) := by
  rw [n_M_isIn, br_lt, br_lt]
  unfold isR
  by_cases h1 : x.toInt < lo.toInt
  · rw [if_pos h1, decide_eq_false (by omega)]; rfl
  · rw [if_neg h1]
    by_cases h2 : hi.toInt < x.toInt
    · rw [if_pos h2, decide_eq_false (by omega)]; rfl
    · rw [if_neg h2, decide_eq_true (by omega)]; rfl
theorem isR_t {a b : Nat} {x : Int32} (h : isR a b x = true) : ∃ t, a ≤ t ∧ t ≤ b ∧ x = zn t := by
  unfold isR at h; rw [decide_eq_true_eq] at h
  refine ⟨x.toInt.toNat, by omega, by omega, ?_⟩
  apply Int32.toInt_inj.mp
  have := Int32.toInt_lt x
  rw [zn_i (by omega)]; omega
/-! the reference: nothing is tried, the trial's side -/
/-- at most the flags are changed -/
def ftr (m m' : am_M) : Prop := m'.2 = m.2 ∧ (∀ c, c ≠ 107 → c ≠ 137 → c ≠ 140 → m'.1 c = m.1 c) ∧ (∀ i, i < 59 ∨ 66 < i → m'.1 107 i = m.1 107 i) ∧ ∀ i, i < 5 → m'.1 137 i = m.1 137 i
theorem lp_plainT {d : Nat} (r : Nat) : ∀ (i f : Nat) (m : am_M), i + r = 5 → r < f →
    ∃ m', r_M_plainTried_47 d f (zn i) m = some (none, m') ∧ m'.2 = m.2 ∧ (∀ c, c ≠ 137 → c ≠ 140 → m'.1 c = m.1 c) ∧ (∀ q, q < 5 → m'.1 137 q = m.1 137 q) ∧ (∀ q, i ≤ q → q < 5 → m'.1 140 q = m.1 116 q ∧ m'.1 137 (5 + q) = m.1 137 q) ∧ ∀ q, q < i → m'.1 140 q = m.1 140 q ∧ m'.1 137 (5 + q) = m.1 137 (5 + q) := by
  induction r with
  | zero =>
    intro i f m h1 h2
    obtain ⟨f, rfl⟩ : ∃ g, f = g + 1 := ⟨f - 1, by omega⟩
    refine ⟨m, ?_, rfl, fun _ _ _ => rfl, fun _ _ => rfl, fun q _ _ => by omega, fun _ _ => ⟨rfl, rfl⟩⟩
    rw [e_M_plainTried_47]
    simp (disch := omega) only [w_ne, w_at, wl_ne, wl_at, wc_ne, wc_at, upd_at, upd_ne, upl_at, upl_ne, cpy_in0, zn_cl, zn_add, zn_mul, zn_sub, zn_pm, br_tt, br_ff, br_ltT, br_ltF, br_leT, br_leF, br_eqT, br_eqF, br_eqs, br_eqm, br_eqm', br_ltm, br_mlt, br_lem, br_mle, br_oiF, br_lgge, br_lgle, br_lggt, br_lglt, br_lgeq, br_zb, br_zb1, bV_s, bI_s, bL_s, zo_n, zo_s]
  | succ r ih =>
    intro i f m h1 h2
    obtain ⟨f, rfl⟩ : ∃ g, f = g + 1 := ⟨f - 1, by omega⟩
    obtain ⟨m', b1, b2, b3, b4, b5, b6⟩ := ih (i + 1) f (am_w (am_w m.1 140 i (m.1 116 i)) 137 (5 + i) (m.1 137 i), m.2) (by omega) (by omega)
    refine ⟨m', ?_, b2, ?_, ?_, ?_, ?_⟩
    · rw [e_M_plainTried_47]
      simp (disch := omega) only [w_ne, w_at, wl_ne, wl_at, wc_ne, wc_at, upd_at, upd_ne, upl_at, upl_ne, cpy_in0, zn_cl, zn_add, zn_mul, zn_sub, zn_pm, br_tt, br_ff, br_ltT, br_ltF, br_leT, br_leF, br_eqT, br_eqF, br_eqs, br_eqm, br_eqm', br_ltm, br_mlt, br_lem, br_mle, br_oiF, br_lgge, br_lgle, br_lggt, br_lglt, br_lgeq, br_zb, br_zb1, bV_s, bI_s, bL_s, zo_n, zo_s]
      exact b1
    · intro c c1 c2; rw [b3 c c1 c2]; simp (disch := omega) only [w_ne, w_at, wl_ne, wl_at, wc_ne, wc_at, upd_at, upd_ne, upl_at, upl_ne, cpy_in0, zn_cl, zn_add, zn_mul, zn_sub, zn_pm, br_tt, br_ff, br_ltT, br_ltF, br_leT, br_leF, br_eqT, br_eqF, br_eqs, br_eqm, br_eqm', br_ltm, br_mlt, br_lem, br_mle, br_oiF, br_lgge, br_lgle, br_lggt, br_lglt, br_lgeq, br_zb, br_zb1, bV_s, bI_s, bL_s, zo_n, zo_s]
    · intro q hq; rw [b4 q hq]; simp (disch := omega) only [w_ne, w_at, wl_ne, wl_at, wc_ne, wc_at, upd_at, upd_ne, upl_at, upl_ne, cpy_in0, zn_cl, zn_add, zn_mul, zn_sub, zn_pm, br_tt, br_ff, br_ltT, br_ltF, br_leT, br_leF, br_eqT, br_eqF, br_eqs, br_eqm, br_eqm', br_ltm, br_mlt, br_lem, br_mle, br_oiF, br_lgge, br_lgle, br_lggt, br_lglt, br_lgeq, br_zb, br_zb1, bV_s, bI_s, bL_s, zo_n, zo_s]
    · intro q h3 h4
      by_cases e : q = i
      · subst e
        rw [(b6 q (by omega)).1, (b6 q (by omega)).2]; simp (disch := omega) only [w_ne, w_at, wl_ne, wl_at, wc_ne, wc_at, upd_at, upd_ne, upl_at, upl_ne, cpy_in0, zn_cl, zn_add, zn_mul, zn_sub, zn_pm, br_tt, br_ff, br_ltT, br_ltF, br_leT, br_leF, br_eqT, br_eqF, br_eqs, br_eqm, br_eqm', br_ltm, br_mlt, br_lem, br_mle, br_oiF, br_lgge, br_lgle, br_lggt, br_lglt, br_lgeq, br_zb, br_zb1, bV_s, bI_s, bL_s, zo_n, zo_s, and_self]
      · rw [(b5 q (by omega) h4).1, (b5 q (by omega) h4).2]; simp (disch := omega) only [w_ne, w_at, wl_ne, wl_at, wc_ne, wc_at, upd_at, upd_ne, upl_at, upl_ne, cpy_in0, zn_cl, zn_add, zn_mul, zn_sub, zn_pm, br_tt, br_ff, br_ltT, br_ltF, br_leT, br_leF, br_eqT, br_eqF, br_eqs, br_eqm, br_eqm', br_ltm, br_mlt, br_lem, br_mle, br_oiF, br_lgge, br_lgle, br_lggt, br_lglt, br_lgeq, br_zb, br_zb1, bV_s, bI_s, bL_s, zo_n, zo_s, and_self]
    · intro q hq
      rw [(b6 q (by omega)).1, (b6 q (by omega)).2]; simp (disch := omega) only [w_ne, w_at, wl_ne, wl_at, wc_ne, wc_at, upd_at, upd_ne, upl_at, upl_ne, cpy_in0, zn_cl, zn_add, zn_mul, zn_sub, zn_pm, br_tt, br_ff, br_ltT, br_ltF, br_leT, br_leF, br_eqT, br_eqF, br_eqs, br_eqm, br_eqm', br_ltm, br_mlt, br_lem, br_mle, br_oiF, br_lgge, br_lgle, br_lggt, br_lglt, br_lgeq, br_zb, br_zb1, bV_s, bI_s, bL_s, zo_n, zo_s, and_self]
theorem s_plainT {T G F : Td} {m : am_M} (c : tR T G F m) (W : tW T) {ord : List Nat} (ho : ∀ i, i < T 0 1 → m.1 137 i = zn (ord.getD i 0)) {d : Nat} : ∃ m', am_c (d + 1) y_M_plainTried [.ref 107] m = some (none, m') ∧ fl T ord m' ∧ ftr m m' := by
  have := W.n; have := W.L
  obtain ⟨m', b1, b2, b3, b4, b5, b6⟩ := lp_plainT (d := d) 5 0 29999 (am_w (am_w (am_w (am_w (am_w (am_w (am_w (am_w m.1 107 59 (m.1 111 0)) 107 60 (zn 0)) 107 61 (zn 0)) 107 62 (zn 0)) 107 63 zm) 107 64 zm) 107 65 zm) 107 66 (zn 0), m.2) (by omega) (by omega)
  refine ⟨m', by rw [n_M_plainTried, b1], ⟨?_, ?_, ?_, ?_, ?_, ?_, ?_, ?_, ?_⟩, b2, ?_, ?_, ?_⟩
  · rw [b3 107 (by omega) (by omega)]; simp (disch := omega) only [w_ne, w_at, wl_ne, wl_at, wc_ne, wc_at, upd_at, upd_ne, upl_at, upl_ne, cpy_in0, zn_cl, zn_add, zn_mul, zn_sub, zn_pm, br_tt, br_ff, br_ltT, br_ltF, br_leT, br_leF, br_eqT, br_eqF, br_eqs, br_eqm, br_eqm', br_ltm, br_mlt, br_lem, br_mle, br_oiF, br_lgge, br_lgle, br_lggt, br_lglt, br_lgeq, br_zb, br_zb1, bV_s, bI_s, bL_s, zo_n, zo_s, c.rl]
  · rw [b3 107 (by omega) (by omega)]; simp (disch := omega) only [w_ne, w_at, wl_ne, wl_at, wc_ne, wc_at, upd_at, upd_ne, upl_at, upl_ne, cpy_in0, zn_cl, zn_add, zn_mul, zn_sub, zn_pm, br_tt, br_ff, br_ltT, br_ltF, br_leT, br_leF, br_eqT, br_eqF, br_eqs, br_eqm, br_eqm', br_ltm, br_mlt, br_lem, br_mle, br_oiF, br_lgge, br_lgle, br_lggt, br_lglt, br_lgeq, br_zb, br_zb1, bV_s, bI_s, bL_s, zo_n, zo_s]
  · rw [b3 107 (by omega) (by omega)]; simp (disch := omega) only [w_ne, w_at, wl_ne, wl_at, wc_ne, wc_at, upd_at, upd_ne, upl_at, upl_ne, cpy_in0, zn_cl, zn_add, zn_mul, zn_sub, zn_pm, br_tt, br_ff, br_ltT, br_ltF, br_leT, br_leF, br_eqT, br_eqF, br_eqs, br_eqm, br_eqm', br_ltm, br_mlt, br_lem, br_mle, br_oiF, br_lgge, br_lgle, br_lggt, br_lglt, br_lgeq, br_zb, br_zb1, bV_s, bI_s, bL_s, zo_n, zo_s]
  · rw [b3 107 (by omega) (by omega)]; simp (disch := omega) only [w_ne, w_at, wl_ne, wl_at, wc_ne, wc_at, upd_at, upd_ne, upl_at, upl_ne, cpy_in0, zn_cl, zn_add, zn_mul, zn_sub, zn_pm, br_tt, br_ff, br_ltT, br_ltF, br_leT, br_leF, br_eqT, br_eqF, br_eqs, br_eqm, br_eqm', br_ltm, br_mlt, br_lem, br_mle, br_oiF, br_lgge, br_lgle, br_lggt, br_lglt, br_lgeq, br_zb, br_zb1, bV_s, bI_s, bL_s, zo_n, zo_s]
  · rw [b3 107 (by omega) (by omega)]; simp (disch := omega) only [w_ne, w_at, wl_ne, wl_at, wc_ne, wc_at, upd_at, upd_ne, upl_at, upl_ne, cpy_in0, zn_cl, zn_add, zn_mul, zn_sub, zn_pm, br_tt, br_ff, br_ltT, br_ltF, br_leT, br_leF, br_eqT, br_eqF, br_eqs, br_eqm, br_eqm', br_ltm, br_mlt, br_lem, br_mle, br_oiF, br_lgge, br_lgle, br_lggt, br_lglt, br_lgeq, br_zb, br_zb1, bV_s, bI_s, bL_s, zo_n, zo_s]
  · rw [b3 107 (by omega) (by omega)]; simp (disch := omega) only [w_ne, w_at, wl_ne, wl_at, wc_ne, wc_at, upd_at, upd_ne, upl_at, upl_ne, cpy_in0, zn_cl, zn_add, zn_mul, zn_sub, zn_pm, br_tt, br_ff, br_ltT, br_ltF, br_leT, br_leF, br_eqT, br_eqF, br_eqs, br_eqm, br_eqm', br_ltm, br_mlt, br_lem, br_mle, br_oiF, br_lgge, br_lgle, br_lggt, br_lglt, br_lgeq, br_zb, br_zb1, bV_s, bI_s, bL_s, zo_n, zo_s]
  · rw [b3 107 (by omega) (by omega)]; simp (disch := omega) only [w_ne, w_at, wl_ne, wl_at, wc_ne, wc_at, upd_at, upd_ne, upl_at, upl_ne, cpy_in0, zn_cl, zn_add, zn_mul, zn_sub, zn_pm, br_tt, br_ff, br_ltT, br_ltF, br_leT, br_leF, br_eqT, br_eqF, br_eqs, br_eqm, br_eqm', br_ltm, br_mlt, br_lem, br_mle, br_oiF, br_lgge, br_lgle, br_lggt, br_lglt, br_lgeq, br_zb, br_zb1, bV_s, bI_s, bL_s, zo_n, zo_s]
  · intro i hi; rw [(b5 i (by omega) (by omega)).1]; simp (disch := omega) only [w_ne, w_at, wl_ne, wl_at, wc_ne, wc_at, upd_at, upd_ne, upl_at, upl_ne, cpy_in0, zn_cl, zn_add, zn_mul, zn_sub, zn_pm, br_tt, br_ff, br_ltT, br_ltF, br_leT, br_leF, br_eqT, br_eqF, br_eqs, br_eqm, br_eqm', br_ltm, br_mlt, br_lem, br_mle, br_oiF, br_lgge, br_lgle, br_lggt, br_lglt, br_lgeq, br_zb, br_zb1, bV_s, bI_s, bL_s, zo_n, zo_s, c.cm]
  · intro i hi; rw [(b5 i (by omega) (by omega)).2]; simp (disch := omega) only [w_ne, w_at, wl_ne, wl_at, wc_ne, wc_at, upd_at, upd_ne, upl_at, upl_ne, cpy_in0, zn_cl, zn_add, zn_mul, zn_sub, zn_pm, br_tt, br_ff, br_ltT, br_ltF, br_leT, br_leF, br_eqT, br_eqF, br_eqs, br_eqm, br_eqm', br_ltm, br_mlt, br_lem, br_mle, br_oiF, br_lgge, br_lgle, br_lggt, br_lglt, br_lgeq, br_zb, br_zb1, bV_s, bI_s, bL_s, zo_n, zo_s, ho]
  · intro q q1 q2 q3; rw [b3 q q2 q3]; simp (disch := omega) only [w_ne, w_at, wl_ne, wl_at, wc_ne, wc_at, upd_at, upd_ne, upl_at, upl_ne, cpy_in0, zn_cl, zn_add, zn_mul, zn_sub, zn_pm, br_tt, br_ff, br_ltT, br_ltF, br_leT, br_leF, br_eqT, br_eqF, br_eqs, br_eqm, br_eqm', br_ltm, br_mlt, br_lem, br_mle, br_oiF, br_lgge, br_lgle, br_lggt, br_lglt, br_lgeq, br_zb, br_zb1, bV_s, bI_s, bL_s, zo_n, zo_s]
  · intro i hi; rw [b3 107 (by omega) (by omega)]
    rcases hi with hi | hi <;> simp (disch := omega) only [w_ne, w_at, wl_ne, wl_at, wc_ne, wc_at, upd_at, upd_ne, upl_at, upl_ne, cpy_in0, zn_cl, zn_add, zn_mul, zn_sub, zn_pm, br_tt, br_ff, br_ltT, br_ltF, br_leT, br_leF, br_eqT, br_eqF, br_eqs, br_eqm, br_eqm', br_ltm, br_mlt, br_lem, br_mle, br_oiF, br_lgge, br_lgle, br_lggt, br_lglt, br_lgeq, br_zb, br_zb1, bV_s, bI_s, bL_s, zo_n, zo_s]
  · intro i hi; rw [b4 i hi]; simp (disch := omega) only [w_ne, w_at, wl_ne, wl_at, wc_ne, wc_at, upd_at, upd_ne, upl_at, upl_ne, cpy_in0, zn_cl, zn_add, zn_mul, zn_sub, zn_pm, br_tt, br_ff, br_ltT, br_ltF, br_leT, br_leF, br_eqT, br_eqF, br_eqs, br_eqm, br_eqm', br_ltm, br_mlt, br_lem, br_mle, br_oiF, br_lgge, br_lgle, br_lggt, br_lglt, br_lgeq, br_zb, br_zb1, bV_s, bI_s, bL_s, zo_n, zo_s]
