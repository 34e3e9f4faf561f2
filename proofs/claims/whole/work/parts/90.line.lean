/-! lines: what is read so far, both sides; numbers; faults -/
def pC (X : Nat → Nat) (n : Nat) (T G F : Td) (fg : Nat → Bool) (cn : Nat) (t : Tk) (m : am_M) : Prop :=
  (tC2 X n m)
  ∧ (kC t m)
  ∧ (m.1 5 0 = zn (T 0 0))
  ∧ (m.1 5 8 = zn (T 0 1))
  ∧ (m.1 5 11 = zn (T 0 4))
  ∧ (m.1 5 14 = zn (T 0 2))
  ∧ (m.1 5 15 = zn (T 0 3))
  ∧ (m.1 5 16 = zn (T 0 5))
  ∧ (∀ i, i < T 0 0 → m.1 6 i = zn (T 7 i))
  ∧ (∀ i, i < T 0 0 → m.1 7 i = zn (T 1 i))
  ∧ (∀ i, i < T 0 0 → m.1 8 i = zn (T 2 i))
  ∧ (∀ i, i < T 0 0 → m.1 9 i = zn (T 8 i))
  ∧ (∀ i, i < T 0 0 → m.1 10 i = zn (T 6 i))
  ∧ (∀ i, i < T 0 0 → m.1 11 i = zn (T 3 i))
  ∧ (∀ i, i < T 0 0 → m.1 12 i = zn (T 4 i))
  ∧ (∀ i, i < T 0 1 → m.1 13 i = zn (T 9 i))
  ∧ (∀ i, i < T 0 1 → m.1 14 i = zn (T 5 i))
  ∧ (∀ i, i < T 0 4 → m.1 15 i = zn (T 10 i) ∧ m.1 16 i = zn (T 11 i))
  ∧ (m.1 17 2 = zn (F 2 0))
  ∧ (∀ j, j < F 2 0 → m.1 18 j = zn (kcl (G 0 j) (G 1 j)) ∧ (G 0 j = 0 → m.1 19 j = zn (G 1 j)))
  ∧ (∀ l, l < 3 → m.1 20 l = zn (F 0 l))
  ∧ (∀ l, l < 3 → m.1 21 l = zn (F 1 l))
  ∧ (m.1 1 8 = zb (fg 0))
  ∧ (m.1 1 9 = zb (fg 1))
  ∧ (m.1 1 10 = zb (fg 2))
  ∧ (m.1 1 4 = zn cn)
  ∧ (m.1 1 12 = zn 0)
  ∧ (m.1 1 13 = zm)
theorem pC.tc {X : Nat → Nat} {n : Nat} {T G F : Td} {fg : Nat → Bool} {cn : Nat} {t : Tk} {m : am_M} (hZ : pC X n T G F fg cn t m) : tC2 X n m := hZ.1
theorem pC.k {X : Nat → Nat} {n : Nat} {T G F : Td} {fg : Nat → Bool} {cn : Nat} {t : Tk} {m : am_M} (hZ : pC X n T G F fg cn t m) : kC t m := hZ.2.1
theorem pC.nt {X : Nat → Nat} {n : Nat} {T G F : Td} {fg : Nat → Bool} {cn : Nat} {t : Tk} {m : am_M} (hZ : pC X n T G F fg cn t m) : m.1 5 0 = zn (T 0 0) := hZ.2.2.1
theorem pC.nl {X : Nat → Nat} {n : Nat} {T G F : Td} {fg : Nat → Bool} {cn : Nat} {t : Tk} {m : am_M} (hZ : pC X n T G F fg cn t m) : m.1 5 8 = zn (T 0 1) := hZ.2.2.2.1
theorem pC.nm {X : Nat → Nat} {n : Nat} {T G F : Td} {fg : Nat → Bool} {cn : Nat} {t : Tk} {m : am_M} (hZ : pC X n T G F fg cn t m) : m.1 5 11 = zn (T 0 4) := hZ.2.2.2.2.1
theorem pC.rl {X : Nat → Nat} {n : Nat} {T G F : Td} {fg : Nat → Bool} {cn : Nat} {t : Tk} {m : am_M} (hZ : pC X n T G F fg cn t m) : m.1 5 14 = zn (T 0 2) := hZ.2.2.2.2.2.1
theorem pC.fo {X : Nat → Nat} {n : Nat} {T G F : Td} {fg : Nat → Bool} {cn : Nat} {t : Tk} {m : am_M} (hZ : pC X n T G F fg cn t m) : m.1 5 15 = zn (T 0 3) := hZ.2.2.2.2.2.2.1
theorem pC.sd {X : Nat → Nat} {n : Nat} {T G F : Td} {fg : Nat → Bool} {cn : Nat} {t : Tk} {m : am_M} (hZ : pC X n T G F fg cn t m) : m.1 5 16 = zn (T 0 5) := hZ.2.2.2.2.2.2.2.1
theorem pC.le {X : Nat → Nat} {n : Nat} {T G F : Td} {fg : Nat → Bool} {cn : Nat} {t : Tk} {m : am_M} (hZ : pC X n T G F fg cn t m) : ∀ i, i < T 0 0 → m.1 6 i = zn (T 7 i) := hZ.2.2.2.2.2.2.2.2.1
theorem pC.pl {X : Nat → Nat} {n : Nat} {T G F : Td} {fg : Nat → Bool} {cn : Nat} {t : Tk} {m : am_M} (hZ : pC X n T G F fg cn t m) : ∀ i, i < T 0 0 → m.1 7 i = zn (T 1 i) := hZ.2.2.2.2.2.2.2.2.2.1
theorem pC.sz {X : Nat → Nat} {n : Nat} {T G F : Td} {fg : Nat → Bool} {cn : Nat} {t : Tk} {m : am_M} (hZ : pC X n T G F fg cn t m) : ∀ i, i < T 0 0 → m.1 8 i = zn (T 2 i) := hZ.2.2.2.2.2.2.2.2.2.2.1
theorem pC.sh {X : Nat → Nat} {n : Nat} {T G F : Td} {fg : Nat → Bool} {cn : Nat} {t : Tk} {m : am_M} (hZ : pC X n T G F fg cn t m) : ∀ i, i < T 0 0 → m.1 9 i = zn (T 8 i) := hZ.2.2.2.2.2.2.2.2.2.2.2.1
theorem pC.lk {X : Nat → Nat} {n : Nat} {T G F : Td} {fg : Nat → Bool} {cn : Nat} {t : Tk} {m : am_M} (hZ : pC X n T G F fg cn t m) : ∀ i, i < T 0 0 → m.1 10 i = zn (T 6 i) := hZ.2.2.2.2.2.2.2.2.2.2.2.2.1
theorem pC.cm {X : Nat → Nat} {n : Nat} {T G F : Td} {fg : Nat → Bool} {cn : Nat} {t : Tk} {m : am_M} (hZ : pC X n T G F fg cn t m) : ∀ i, i < T 0 0 → m.1 11 i = zn (T 3 i) := hZ.2.2.2.2.2.2.2.2.2.2.2.2.2.1
theorem pC.hw {X : Nat → Nat} {n : Nat} {T G F : Td} {fg : Nat → Bool} {cn : Nat} {t : Tk} {m : am_M} (hZ : pC X n T G F fg cn t m) : ∀ i, i < T 0 0 → m.1 12 i = zn (T 4 i) := hZ.2.2.2.2.2.2.2.2.2.2.2.2.2.2.1
theorem pC.hu {X : Nat → Nat} {n : Nat} {T G F : Td} {fg : Nat → Bool} {cn : Nat} {t : Tk} {m : am_M} (hZ : pC X n T G F fg cn t m) : ∀ i, i < T 0 1 → m.1 13 i = zn (T 9 i) := hZ.2.2.2.2.2.2.2.2.2.2.2.2.2.2.2.1
theorem pC.rc {X : Nat → Nat} {n : Nat} {T G F : Td} {fg : Nat → Bool} {cn : Nat} {t : Tk} {m : am_M} (hZ : pC X n T G F fg cn t m) : ∀ i, i < T 0 1 → m.1 14 i = zn (T 5 i) := hZ.2.2.2.2.2.2.2.2.2.2.2.2.2.2.2.2.1
theorem pC.ms {X : Nat → Nat} {n : Nat} {T G F : Td} {fg : Nat → Bool} {cn : Nat} {t : Tk} {m : am_M} (hZ : pC X n T G F fg cn t m) : ∀ i, i < T 0 4 → m.1 15 i = zn (T 10 i) ∧ m.1 16 i = zn (T 11 i) := hZ.2.2.2.2.2.2.2.2.2.2.2.2.2.2.2.2.2.1
theorem pC.kn {X : Nat → Nat} {n : Nat} {T G F : Td} {fg : Nat → Bool} {cn : Nat} {t : Tk} {m : am_M} (hZ : pC X n T G F fg cn t m) : m.1 17 2 = zn (F 2 0) := hZ.2.2.2.2.2.2.2.2.2.2.2.2.2.2.2.2.2.2.1
theorem pC.kd {X : Nat → Nat} {n : Nat} {T G F : Td} {fg : Nat → Bool} {cn : Nat} {t : Tk} {m : am_M} (hZ : pC X n T G F fg cn t m) : ∀ j, j < F 2 0 → m.1 18 j = zn (kcl (G 0 j) (G 1 j)) ∧ (G 0 j = 0 → m.1 19 j = zn (G 1 j)) := hZ.2.2.2.2.2.2.2.2.2.2.2.2.2.2.2.2.2.2.2.1
theorem pC.fr {X : Nat → Nat} {n : Nat} {T G F : Td} {fg : Nat → Bool} {cn : Nat} {t : Tk} {m : am_M} (hZ : pC X n T G F fg cn t m) : ∀ l, l < 3 → m.1 20 l = zn (F 0 l) := hZ.2.2.2.2.2.2.2.2.2.2.2.2.2.2.2.2.2.2.2.2.1
theorem pC.to {X : Nat → Nat} {n : Nat} {T G F : Td} {fg : Nat → Bool} {cn : Nat} {t : Tk} {m : am_M} (hZ : pC X n T G F fg cn t m) : ∀ l, l < 3 → m.1 21 l = zn (F 1 l) := hZ.2.2.2.2.2.2.2.2.2.2.2.2.2.2.2.2.2.2.2.2.2.1
theorem pC.g0 {X : Nat → Nat} {n : Nat} {T G F : Td} {fg : Nat → Bool} {cn : Nat} {t : Tk} {m : am_M} (hZ : pC X n T G F fg cn t m) : m.1 1 8 = zb (fg 0) := hZ.2.2.2.2.2.2.2.2.2.2.2.2.2.2.2.2.2.2.2.2.2.2.1
theorem pC.g1 {X : Nat → Nat} {n : Nat} {T G F : Td} {fg : Nat → Bool} {cn : Nat} {t : Tk} {m : am_M} (hZ : pC X n T G F fg cn t m) : m.1 1 9 = zb (fg 1) := hZ.2.2.2.2.2.2.2.2.2.2.2.2.2.2.2.2.2.2.2.2.2.2.2.1
theorem pC.g2 {X : Nat → Nat} {n : Nat} {T G F : Td} {fg : Nat → Bool} {cn : Nat} {t : Tk} {m : am_M} (hZ : pC X n T G F fg cn t m) : m.1 1 10 = zb (fg 2) := hZ.2.2.2.2.2.2.2.2.2.2.2.2.2.2.2.2.2.2.2.2.2.2.2.2.1
theorem pC.cn {X : Nat → Nat} {n : Nat} {T G F : Td} {fg : Nat → Bool} {cn : Nat} {t : Tk} {m : am_M} (hZ : pC X n T G F fg cn t m) : m.1 1 4 = zn cn := hZ.2.2.2.2.2.2.2.2.2.2.2.2.2.2.2.2.2.2.2.2.2.2.2.2.2.1
theorem pC.f0 {X : Nat → Nat} {n : Nat} {T G F : Td} {fg : Nat → Bool} {cn : Nat} {t : Tk} {m : am_M} (hZ : pC X n T G F fg cn t m) : m.1 1 12 = zn 0 := hZ.2.2.2.2.2.2.2.2.2.2.2.2.2.2.2.2.2.2.2.2.2.2.2.2.2.2.1
theorem pC.f1 {X : Nat → Nat} {n : Nat} {T G F : Td} {fg : Nat → Bool} {cn : Nat} {t : Tk} {m : am_M} (hZ : pC X n T G F fg cn t m) : m.1 1 13 = zm := hZ.2.2.2.2.2.2.2.2.2.2.2.2.2.2.2.2.2.2.2.2.2.2.2.2.2.2.2
def pR (X : Nat → Nat) (n : Nat) (T G F : Td) (fg : Nat → Bool) (cn : Nat) (t : Tk) (m : am_M) : Prop :=
  (tR2 X n m)
  ∧ (kR t m)
  ∧ (m.1 107 16 = zn (T 0 0))
  ∧ (m.1 107 17 = zn (T 0 1))
  ∧ (m.1 107 18 = zn (T 0 4))
  ∧ (m.1 111 3 = zn (T 0 2))
  ∧ (m.1 111 4 = zn (T 0 3))
  ∧ (m.1 111 5 = zn (T 0 5))
  ∧ (∀ i, i < T 0 0 → m.1 112 (5 + i) = zn (T 7 i))
  ∧ (∀ i, i < T 0 0 → m.1 113 (5 + i) = zn (T 1 i))
  ∧ (∀ i, i < T 0 0 → m.1 114 (5 + i) = zn (T 2 i))
  ∧ (∀ i, i < T 0 0 → m.1 115 (5 + i) = zn (T 8 i))
  ∧ (∀ i, i < T 0 0 → m.1 116 (5 + i) = zn (T 3 i))
  ∧ (∀ i, i < T 0 0 → m.1 117 (5 + i) = zn (T 4 i))
  ∧ (∀ i, i < T 0 1 → m.1 118 (5 + i) = zn (T 9 i))
  ∧ (∀ i, i < T 0 1 → m.1 119 (5 + i) = zn (T 5 i))
  ∧ (∀ i, i < T 0 4 → m.1 120 (10 + i) = zn (min (T 10 i) (T 11 i)) ∧ m.1 121 (10 + i) = zn (max (T 10 i) (T 11 i)))
  ∧ (m.1 107 19 = zn (F 2 0))
  ∧ (∀ j, j < F 2 0 → m.1 125 (64 + j) = zn (G 0 j))
  ∧ (∀ j, j < F 2 0 → m.1 126 (64 + j) = zn (G 1 j))
  ∧ (∀ j, j < F 2 0 → 3 ≤ G 0 j → m.1 127 (64 + j) = zn (G 2 j))
  ∧ (∀ l, l < 3 → m.1 122 (3 + l) = zb (decide (F 0 l < F 1 l ∨ F 3 l = 1)))
  ∧ (∀ l, l < 3 → F 0 l < F 1 l ∨ F 3 l = 1 → m.1 123 (3 + l) = zn (if F 3 l = 1 then F 4 l else F 0 l) ∧ (F 3 l ≠ 1 → m.1 124 (3 + l) = zn (F 1 l)))
  ∧ (∀ k, k < 3 → m.1 110 k = zb (fg k))
  ∧ (m.1 107 43 = zn cn)
  ∧ (m.1 107 4 = zn 0)
  ∧ (m.1 107 5 = zm)
theorem pR.tc {X : Nat → Nat} {n : Nat} {T G F : Td} {fg : Nat → Bool} {cn : Nat} {t : Tk} {m : am_M} (hZ : pR X n T G F fg cn t m) : tR2 X n m := hZ.1
theorem pR.k {X : Nat → Nat} {n : Nat} {T G F : Td} {fg : Nat → Bool} {cn : Nat} {t : Tk} {m : am_M} (hZ : pR X n T G F fg cn t m) : kR t m := hZ.2.1
theorem pR.nt {X : Nat → Nat} {n : Nat} {T G F : Td} {fg : Nat → Bool} {cn : Nat} {t : Tk} {m : am_M} (hZ : pR X n T G F fg cn t m) : m.1 107 16 = zn (T 0 0) := hZ.2.2.1
theorem pR.nl {X : Nat → Nat} {n : Nat} {T G F : Td} {fg : Nat → Bool} {cn : Nat} {t : Tk} {m : am_M} (hZ : pR X n T G F fg cn t m) : m.1 107 17 = zn (T 0 1) := hZ.2.2.2.1
theorem pR.nm {X : Nat → Nat} {n : Nat} {T G F : Td} {fg : Nat → Bool} {cn : Nat} {t : Tk} {m : am_M} (hZ : pR X n T G F fg cn t m) : m.1 107 18 = zn (T 0 4) := hZ.2.2.2.2.1
theorem pR.rl {X : Nat → Nat} {n : Nat} {T G F : Td} {fg : Nat → Bool} {cn : Nat} {t : Tk} {m : am_M} (hZ : pR X n T G F fg cn t m) : m.1 111 3 = zn (T 0 2) := hZ.2.2.2.2.2.1
theorem pR.fo {X : Nat → Nat} {n : Nat} {T G F : Td} {fg : Nat → Bool} {cn : Nat} {t : Tk} {m : am_M} (hZ : pR X n T G F fg cn t m) : m.1 111 4 = zn (T 0 3) := hZ.2.2.2.2.2.2.1
theorem pR.sd {X : Nat → Nat} {n : Nat} {T G F : Td} {fg : Nat → Bool} {cn : Nat} {t : Tk} {m : am_M} (hZ : pR X n T G F fg cn t m) : m.1 111 5 = zn (T 0 5) := hZ.2.2.2.2.2.2.2.1
theorem pR.le {X : Nat → Nat} {n : Nat} {T G F : Td} {fg : Nat → Bool} {cn : Nat} {t : Tk} {m : am_M} (hZ : pR X n T G F fg cn t m) : ∀ i, i < T 0 0 → m.1 112 (5 + i) = zn (T 7 i) := hZ.2.2.2.2.2.2.2.2.1
theorem pR.pl {X : Nat → Nat} {n : Nat} {T G F : Td} {fg : Nat → Bool} {cn : Nat} {t : Tk} {m : am_M} (hZ : pR X n T G F fg cn t m) : ∀ i, i < T 0 0 → m.1 113 (5 + i) = zn (T 1 i) := hZ.2.2.2.2.2.2.2.2.2.1
theorem pR.sz {X : Nat → Nat} {n : Nat} {T G F : Td} {fg : Nat → Bool} {cn : Nat} {t : Tk} {m : am_M} (hZ : pR X n T G F fg cn t m) : ∀ i, i < T 0 0 → m.1 114 (5 + i) = zn (T 2 i) := hZ.2.2.2.2.2.2.2.2.2.2.1
theorem pR.sh {X : Nat → Nat} {n : Nat} {T G F : Td} {fg : Nat → Bool} {cn : Nat} {t : Tk} {m : am_M} (hZ : pR X n T G F fg cn t m) : ∀ i, i < T 0 0 → m.1 115 (5 + i) = zn (T 8 i) := hZ.2.2.2.2.2.2.2.2.2.2.2.1
theorem pR.cm {X : Nat → Nat} {n : Nat} {T G F : Td} {fg : Nat → Bool} {cn : Nat} {t : Tk} {m : am_M} (hZ : pR X n T G F fg cn t m) : ∀ i, i < T 0 0 → m.1 116 (5 + i) = zn (T 3 i) := hZ.2.2.2.2.2.2.2.2.2.2.2.2.1
theorem pR.hw {X : Nat → Nat} {n : Nat} {T G F : Td} {fg : Nat → Bool} {cn : Nat} {t : Tk} {m : am_M} (hZ : pR X n T G F fg cn t m) : ∀ i, i < T 0 0 → m.1 117 (5 + i) = zn (T 4 i) := hZ.2.2.2.2.2.2.2.2.2.2.2.2.2.1
theorem pR.hu {X : Nat → Nat} {n : Nat} {T G F : Td} {fg : Nat → Bool} {cn : Nat} {t : Tk} {m : am_M} (hZ : pR X n T G F fg cn t m) : ∀ i, i < T 0 1 → m.1 118 (5 + i) = zn (T 9 i) := hZ.2.2.2.2.2.2.2.2.2.2.2.2.2.2.1
theorem pR.rc {X : Nat → Nat} {n : Nat} {T G F : Td} {fg : Nat → Bool} {cn : Nat} {t : Tk} {m : am_M} (hZ : pR X n T G F fg cn t m) : ∀ i, i < T 0 1 → m.1 119 (5 + i) = zn (T 5 i) := hZ.2.2.2.2.2.2.2.2.2.2.2.2.2.2.2.1
theorem pR.ms {X : Nat → Nat} {n : Nat} {T G F : Td} {fg : Nat → Bool} {cn : Nat} {t : Tk} {m : am_M} (hZ : pR X n T G F fg cn t m) : ∀ i, i < T 0 4 → m.1 120 (10 + i) = zn (min (T 10 i) (T 11 i)) ∧ m.1 121 (10 + i) = zn (max (T 10 i) (T 11 i)) := hZ.2.2.2.2.2.2.2.2.2.2.2.2.2.2.2.2.1
theorem pR.kn {X : Nat → Nat} {n : Nat} {T G F : Td} {fg : Nat → Bool} {cn : Nat} {t : Tk} {m : am_M} (hZ : pR X n T G F fg cn t m) : m.1 107 19 = zn (F 2 0) := hZ.2.2.2.2.2.2.2.2.2.2.2.2.2.2.2.2.2.1
theorem pR.k0 {X : Nat → Nat} {n : Nat} {T G F : Td} {fg : Nat → Bool} {cn : Nat} {t : Tk} {m : am_M} (hZ : pR X n T G F fg cn t m) : ∀ j, j < F 2 0 → m.1 125 (64 + j) = zn (G 0 j) := hZ.2.2.2.2.2.2.2.2.2.2.2.2.2.2.2.2.2.2.1
theorem pR.k1 {X : Nat → Nat} {n : Nat} {T G F : Td} {fg : Nat → Bool} {cn : Nat} {t : Tk} {m : am_M} (hZ : pR X n T G F fg cn t m) : ∀ j, j < F 2 0 → m.1 126 (64 + j) = zn (G 1 j) := hZ.2.2.2.2.2.2.2.2.2.2.2.2.2.2.2.2.2.2.2.1
theorem pR.k2 {X : Nat → Nat} {n : Nat} {T G F : Td} {fg : Nat → Bool} {cn : Nat} {t : Tk} {m : am_M} (hZ : pR X n T G F fg cn t m) : ∀ j, j < F 2 0 → 3 ≤ G 0 j → m.1 127 (64 + j) = zn (G 2 j) := hZ.2.2.2.2.2.2.2.2.2.2.2.2.2.2.2.2.2.2.2.2.1
theorem pR.tl {X : Nat → Nat} {n : Nat} {T G F : Td} {fg : Nat → Bool} {cn : Nat} {t : Tk} {m : am_M} (hZ : pR X n T G F fg cn t m) : ∀ l, l < 3 → m.1 122 (3 + l) = zb (decide (F 0 l < F 1 l ∨ F 3 l = 1)) := hZ.2.2.2.2.2.2.2.2.2.2.2.2.2.2.2.2.2.2.2.2.2.1
theorem pR.fr {X : Nat → Nat} {n : Nat} {T G F : Td} {fg : Nat → Bool} {cn : Nat} {t : Tk} {m : am_M} (hZ : pR X n T G F fg cn t m) : ∀ l, l < 3 → F 0 l < F 1 l ∨ F 3 l = 1 → m.1 123 (3 + l) = zn (if F 3 l = 1 then F 4 l else F 0 l) ∧ (F 3 l ≠ 1 → m.1 124 (3 + l) = zn (F 1 l)) := hZ.2.2.2.2.2.2.2.2.2.2.2.2.2.2.2.2.2.2.2.2.2.2.1
theorem pR.g {X : Nat → Nat} {n : Nat} {T G F : Td} {fg : Nat → Bool} {cn : Nat} {t : Tk} {m : am_M} (hZ : pR X n T G F fg cn t m) : ∀ k, k < 3 → m.1 110 k = zb (fg k) := hZ.2.2.2.2.2.2.2.2.2.2.2.2.2.2.2.2.2.2.2.2.2.2.2.1
theorem pR.cn {X : Nat → Nat} {n : Nat} {T G F : Td} {fg : Nat → Bool} {cn : Nat} {t : Tk} {m : am_M} (hZ : pR X n T G F fg cn t m) : m.1 107 43 = zn cn := hZ.2.2.2.2.2.2.2.2.2.2.2.2.2.2.2.2.2.2.2.2.2.2.2.2.1
theorem pR.f0 {X : Nat → Nat} {n : Nat} {T G F : Td} {fg : Nat → Bool} {cn : Nat} {t : Tk} {m : am_M} (hZ : pR X n T G F fg cn t m) : m.1 107 4 = zn 0 := hZ.2.2.2.2.2.2.2.2.2.2.2.2.2.2.2.2.2.2.2.2.2.2.2.2.2.1
theorem pR.f1 {X : Nat → Nat} {n : Nat} {T G F : Td} {fg : Nat → Bool} {cn : Nat} {t : Tk} {m : am_M} (hZ : pR X n T G F fg cn t m) : m.1 107 5 = zm := hZ.2.2.2.2.2.2.2.2.2.2.2.2.2.2.2.2.2.2.2.2.2.2.2.2.2.2
def pW (n : Nat) (T G F : Td) (cn : Nat) (t : Tk) : Prop :=
  (tW T)
  ∧ (gW G F)
  ∧ (∀ l, (3 ≤ l → F 1 l ≤ F 0 l) ∧ F 3 l = 0)
  ∧ (cn ≤ 64)
  ∧ (F 2 0 ≤ cn)
  ∧ (t.2.2.2 ≤ n)
  ∧ (n ≤ 700)
theorem pW.tw {n : Nat} {T G F : Td} {cn : Nat} {t : Tk} (hZ : pW n T G F cn t) : tW T := hZ.1
theorem pW.gw {n : Nat} {T G F : Td} {cn : Nat} {t : Tk} (hZ : pW n T G F cn t) : gW G F := hZ.2.1
theorem pW.gf {n : Nat} {T G F : Td} {cn : Nat} {t : Tk} (hZ : pW n T G F cn t) : ∀ l, (3 ≤ l → F 1 l ≤ F 0 l) ∧ F 3 l = 0 := hZ.2.2.1
theorem pW.cn {n : Nat} {T G F : Td} {cn : Nat} {t : Tk} (hZ : pW n T G F cn t) : cn ≤ 64 := hZ.2.2.2.1
theorem pW.kn {n : Nat} {T G F : Td} {cn : Nat} {t : Tk} (hZ : pW n T G F cn t) : F 2 0 ≤ cn := hZ.2.2.2.2.1
theorem pW.nx {n : Nat} {T G F : Td} {cn : Nat} {t : Tk} (hZ : pW n T G F cn t) : t.2.2.2 ≤ n := hZ.2.2.2.2.2.1
theorem pW.n7 {n : Nat} {T G F : Td} {cn : Nat} {t : Tk} (hZ : pW n T G F cn t) : n ≤ 700 := hZ.2.2.2.2.2.2
/-- what the reader leaves alone -/
def frC (m m' : am_M) : Prop := m'.2 = m.2 ∧ ∀ c, c = 0 ∨ c = 3 ∨ c = 4 ∨ 25 ≤ c → m'.1 c = m.1 c
theorem frC_refl (m : am_M) : frC m m := ⟨rfl, fun _ _ => rfl⟩
theorem frC_tr {m m1 m2 : am_M} (h : frC m m1) (g : frC m1 m2) : frC m m2 := ⟨g.1.trans h.1, fun c e => (g.2 c e).trans (h.2 c e)⟩
theorem fk.C {m m' : am_M} (f : fk m m') : frC m m' := ⟨f.1, fun c hc => f.2.1 c (by omega)⟩
def frR (m : am_M) (m' : am_M) : Prop :=
  (m'.2 = m.2)
  ∧ (∀ c, c ≤ 106 ∨ c = 108 ∨ c = 109 ∨ 130 ≤ c → m'.1 c = m.1 c)
  ∧ (∀ i, i ≤ 3 ∨ 12 ≤ i ∧ i ≤ 15 ∨ 46 ≤ i → m'.1 107 i = m.1 107 i)
  ∧ (∀ c i, i < 3 → c = 111 ∨ 122 ≤ c ∧ c ≤ 124 → m'.1 c i = m.1 c i)
  ∧ (∀ c i, i < 5 → 112 ≤ c ∧ c ≤ 119 → m'.1 c i = m.1 c i)
  ∧ (∀ c i, i < 10 → c = 120 ∨ c = 121 → m'.1 c i = m.1 c i)
  ∧ (∀ c i, i < 64 → 125 ≤ c ∧ c ≤ 127 → m'.1 c i = m.1 c i)
theorem frR.l {m : am_M} {m' : am_M} (hZ : frR m m') : m'.2 = m.2 := hZ.1
theorem frR.c {m : am_M} {m' : am_M} (hZ : frR m m') : ∀ c, c ≤ 106 ∨ c = 108 ∨ c = 109 ∨ 130 ≤ c → m'.1 c = m.1 c := hZ.2.1
theorem frR.f {m : am_M} {m' : am_M} (hZ : frR m m') : ∀ i, i ≤ 3 ∨ 12 ≤ i ∧ i ≤ 15 ∨ 46 ≤ i → m'.1 107 i = m.1 107 i := hZ.2.2.1
theorem frR.a {m : am_M} {m' : am_M} (hZ : frR m m') : ∀ c i, i < 3 → c = 111 ∨ 122 ≤ c ∧ c ≤ 124 → m'.1 c i = m.1 c i := hZ.2.2.2.1
theorem frR.b {m : am_M} {m' : am_M} (hZ : frR m m') : ∀ c i, i < 5 → 112 ≤ c ∧ c ≤ 119 → m'.1 c i = m.1 c i := hZ.2.2.2.2.1
theorem frR.d {m : am_M} {m' : am_M} (hZ : frR m m') : ∀ c i, i < 10 → c = 120 ∨ c = 121 → m'.1 c i = m.1 c i := hZ.2.2.2.2.2.1
theorem frR.e {m : am_M} {m' : am_M} (hZ : frR m m') : ∀ c i, i < 64 → 125 ≤ c ∧ c ≤ 127 → m'.1 c i = m.1 c i := hZ.2.2.2.2.2.2
theorem frR_refl (m : am_M) : frR m m := ⟨rfl, fun _ _ => rfl, fun _ _ => rfl, fun _ _ _ _ => rfl, fun _ _ _ _ => rfl, fun _ _ _ _ => rfl, fun _ _ _ _ => rfl⟩
theorem frR_tr {m m1 m2 : am_M} (h : frR m m1) (g : frR m1 m2) : frR m m2 := ⟨g.l.trans h.l, fun c e => (g.c c e).trans (h.c c e), fun i e => (g.f i e).trans (h.f i e), fun c i x y => (g.a c i x y).trans (h.a c i x y), fun c i x y => (g.b c i x y).trans (h.b c i x y), fun c i x y => (g.d c i x y).trans (h.d c i x y), fun c i x y => (g.e c i x y).trans (h.e c i x y)⟩
theorem fkR.R {m m' : am_M} (f : fkR m m') : frR m m' := ⟨f.1, fun c hc => f.2.1 c (by omega), fun i hi => f.2.2 i (by omega), fun c i _ h => by rw [f.2.1 c (by omega)], fun c i _ h => by rw [f.2.1 c (by omega)], fun c i _ h => by rw [f.2.1 c (by omega)], fun c i _ h => by rw [f.2.1 c (by omega)]⟩
def flC (k a : Nat) (m m' : am_M) : Prop := m'.1 1 12 = zn k ∧ m'.1 1 13 = zn a ∧ frC m m'
def flR (k a : Nat) (m m' : am_M) : Prop := m'.1 107 4 = zn k ∧ m'.1 107 5 = zn a ∧ frR m m'
theorem flC_tr {k a : Nat} {m m1 m2 : am_M} (h : frC m m1) (g : flC k a m1 m2) : flC k a m m2 := ⟨g.1, g.2.1, frC_tr h g.2.2⟩
theorem flR_tr {k a : Nat} {m m1 m2 : am_M} (h : frR m m1) (g : flR k a m1 m2) : flR k a m m2 := ⟨g.1, g.2.1, frR_tr h g.2.2⟩
/-- a step of both: both fail alike, or both go on alike -/
def both (X : Nat → Nat) (n : Nat) (T G F : Td) (fg : Nat → Bool) (cn : Nat) (t : Tk) (rc rr : am_M → am_R) : Prop :=
  (∃ k a, 1 ≤ k ∧ k ≤ 5 ∧ a ≤ n ∧ (∀ m, pC X n T G F fg cn t m → ∃ m', rc m = some (some (.int (zn 0)), m') ∧ flC k a m m') ∧ (∀ m, pR X n T G F fg cn t m → ∃ m', rr m = some (some (.int (zn 0)), m') ∧ flR k a m m'))
  ∨ (∃ T' G' F' fg' cn' t', pW n T' G' F' cn' t' ∧ t.2.2.2 ≤ t'.2.2.2 ∧ (t'.1 = 40 ∨ t.2.2.2 < t'.2.2.2) ∧ (∀ m, pC X n T G F fg cn t m → ∃ m', rc m = some (some (.int (zn 1)), m') ∧ pC X n T' G' F' fg' cn' t' m' ∧ frC m m') ∧ (∀ m, pR X n T G F fg cn t m → ∃ m', rr m = some (some (.int (zn 1)), m') ∧ pR X n T' G' F' fg' cn' t' m' ∧ frR m m'))
theorem pC.mono {X : Nat → Nat} {n : Nat} {T G F : Td} {fg : Nat → Bool} {cn : Nat} {t t' : Tk} {m m' : am_M} (h : pC X n T G F fg cn t m) (h1 : tC2 X n m') (h2 : kC t' m') (e : ∀ c, 5 ≤ c → c ≤ 21 → m'.1 c = m.1 c) (e1 : ∀ i, i = 4 ∨ 8 ≤ i ∧ i ≤ 10 ∨ i = 12 ∨ i = 13 → m'.1 1 i = m.1 1 i) : pC X n T G F fg cn t' m' := by
  refine ⟨h1, h2, ?_, ?_, ?_, ?_, ?_, ?_, ?_, ?_, ?_, ?_, ?_, ?_, ?_, ?_, ?_, ?_, ?_, ?_, ?_, ?_, ?_, ?_, ?_, ?_, ?_, ?_⟩
  · rw [e 5 (by omega) (by omega)]; exact h.nt
  · rw [e 5 (by omega) (by omega)]; exact h.nl
  · rw [e 5 (by omega) (by omega)]; exact h.nm
  · rw [e 5 (by omega) (by omega)]; exact h.rl
  · rw [e 5 (by omega) (by omega)]; exact h.fo
  · rw [e 5 (by omega) (by omega)]; exact h.sd
  · rw [e 6 (by omega) (by omega)]; exact h.le
  · rw [e 7 (by omega) (by omega)]; exact h.pl
  · rw [e 8 (by omega) (by omega)]; exact h.sz
  · rw [e 9 (by omega) (by omega)]; exact h.sh
  · rw [e 10 (by omega) (by omega)]; exact h.lk
  · rw [e 11 (by omega) (by omega)]; exact h.cm
  · rw [e 12 (by omega) (by omega)]; exact h.hw
  · rw [e 13 (by omega) (by omega)]; exact h.hu
  · rw [e 14 (by omega) (by omega)]; exact h.rc
  · rw [e 15 (by omega) (by omega), e 16 (by omega) (by omega)]; exact h.ms
  · rw [e 17 (by omega) (by omega)]; exact h.kn
  · rw [e 18 (by omega) (by omega), e 19 (by omega) (by omega)]; exact h.kd
  · rw [e 20 (by omega) (by omega)]; exact h.fr
  · rw [e 21 (by omega) (by omega)]; exact h.to
  · rw [e1 8 (by omega)]; exact h.g0
  · rw [e1 9 (by omega)]; exact h.g1
  · rw [e1 10 (by omega)]; exact h.g2
  · rw [e1 4 (by omega)]; exact h.cn
  · rw [e1 12 (by omega)]; exact h.f0
  · rw [e1 13 (by omega)]; exact h.f1
theorem pR.mono {X : Nat → Nat} {n : Nat} {T G F : Td} {fg : Nat → Bool} {cn : Nat} {t t' : Tk} {m m' : am_M} (h : pR X n T G F fg cn t m) (h1 : tR2 X n m') (h2 : kR t' m') (e : ∀ c, 110 ≤ c → c ≤ 127 → m'.1 c = m.1 c) (e1 : ∀ i, i = 4 ∨ i = 5 ∨ 16 ≤ i ∧ i ≤ 19 ∨ i = 43 → m'.1 107 i = m.1 107 i) : pR X n T G F fg cn t' m' := by
  refine ⟨h1, h2, ?_, ?_, ?_, ?_, ?_, ?_, ?_, ?_, ?_, ?_, ?_, ?_, ?_, ?_, ?_, ?_, ?_, ?_, ?_, ?_, ?_, ?_, ?_, ?_, ?_⟩
  · rw [e1 16 (by omega)]; exact h.nt
  · rw [e1 17 (by omega)]; exact h.nl
  · rw [e1 18 (by omega)]; exact h.nm
  · rw [e 111 (by omega) (by omega)]; exact h.rl
  · rw [e 111 (by omega) (by omega)]; exact h.fo
  · rw [e 111 (by omega) (by omega)]; exact h.sd
  · rw [e 112 (by omega) (by omega)]; exact h.le
  · rw [e 113 (by omega) (by omega)]; exact h.pl
  · rw [e 114 (by omega) (by omega)]; exact h.sz
  · rw [e 115 (by omega) (by omega)]; exact h.sh
  · rw [e 116 (by omega) (by omega)]; exact h.cm
  · rw [e 117 (by omega) (by omega)]; exact h.hw
  · rw [e 118 (by omega) (by omega)]; exact h.hu
  · rw [e 119 (by omega) (by omega)]; exact h.rc
  · rw [e 120 (by omega) (by omega), e 121 (by omega) (by omega)]; exact h.ms
  · rw [e1 19 (by omega)]; exact h.kn
  · rw [e 125 (by omega) (by omega)]; exact h.k0
  · rw [e 126 (by omega) (by omega)]; exact h.k1
  · rw [e 127 (by omega) (by omega)]; exact h.k2
  · rw [e 122 (by omega) (by omega)]; exact h.tl
  · rw [e 123 (by omega) (by omega), e 124 (by omega) (by omega)]; exact h.fr
  · rw [e 110 (by omega) (by omega)]; exact h.g
  · rw [e1 43 (by omega)]; exact h.cn
  · rw [e1 4 (by omega)]; exact h.f0
  · rw [e1 5 (by omega)]; exact h.f1
/-! tokens go on -/
theorem tok_at {X : Nat → Nat} {n p : Nat} (hp : p ≤ n) : (tok X n p).2.2.1 ≤ n ∧ (tok X n p).2.2.2 ≤ n ∧ p ≤ (tok X n p).2.2.2 ∧ ((tok X n p).1 = 40 ∨ p < (tok X n p).2.2.2) ∧ p ≤ (tok X n p).2.2.1 := by
  have hq := rn_le (P := fun j => blk (X j)) (n - p) p
  have h1 : p ≤ tkq X n p := hq.1
  have h2 : tkq X n p ≤ n := by have : tkq X n p ≤ p + (n - p) := hq.2; omega
  unfold tok
  by_cases g : n ≤ tkq X n p
  · rw [if_pos g]; exact ⟨h2, h2, h1, Or.inl rfl, h1⟩
  · rw [if_neg g]
    have step : ∀ P : Nat → Bool, P (tkq X n p) = true → tkq X n p < rn_ P (n - tkq X n p) (tkq X n p) ∧ rn_ P (n - tkq X n p) (tkq X n p) ≤ n := by
      intro P hP
      obtain ⟨r, hr⟩ : ∃ r, n - tkq X n p = r + 1 := ⟨n - tkq X n p - 1, by omega⟩
      rw [hr, rn_, if_pos hP]
      have := rn_le (P := P) r (tkq X n p + 1)
      omega
    by_cases gl : ltr (X (tkq X n p)) = true
    · rw [if_pos gl]
      have := step (fun j => ltr (X j)) gl
      have e : tkw X n (tkq X n p) = rn_ (fun j => ltr (X j)) (n - tkq X n p) (tkq X n p) := rfl
      rw [← e] at this
      split
      · exact ⟨h2, this.2, by show p ≤ tkw X n (tkq X n p); omega, Or.inr (by show p < tkw X n (tkq X n p); omega), h1⟩
      · exact ⟨h2, this.2, by show p ≤ tkw X n (tkq X n p); omega, Or.inr (by show p < tkw X n (tkq X n p); omega), h1⟩
    · rw [if_neg gl]
      by_cases gd : dgi (X (tkq X n p)) = true
      · rw [if_pos gd]
        have := step (fun j => dgi (X j)) gd
        have e : tkd X n (tkq X n p) = rn_ (fun j => dgi (X j)) (n - tkq X n p) (tkq X n p) := rfl
        rw [← e] at this
        exact ⟨h2, this.2, by show p ≤ tkd X n (tkq X n p); omega, Or.inr (by show p < tkd X n (tkq X n p); omega), h1⟩
      · rw [if_neg gd]
        have hs : sgl (sgk X n (tkq X n p)) = 1 ∨ (sgl (sgk X n (tkq X n p)) = 2 ∧ tkq X n p + 1 < n) := by
          by_cases g2 : tkq X n p + 1 < n
          · unfold sgl; split
            · exact Or.inr ⟨rfl, g2⟩
            · exact Or.inl rfl
          · left
            have hz : nxt1 X n (tkq X n p) = 0 := by unfold nxt1; rw [if_neg g2]
            unfold sgl sgk
            rw [hz]
            repeat' split
            all_goals first | rfl | (exfalso; omega)
        refine ⟨h2, ?_, ?_, Or.inr ?_, h1⟩
        · show tkq X n p + sgl (sgk X n (tkq X n p)) ≤ n; omega
        · show p ≤ tkq X n p + sgl (sgk X n (tkq X n p)); omega
        · show p < tkq X n p + sgl (sgk X n (tkq X n p)); omega
theorem tok_V {X : Nat → Nat} {n p : Nat} (hp : p ≤ n) : (tok X n p).1 < 42 ∧ ((tok X n p).1 = 25 → (tok X n p).2.1 < 1073741824) ∧ ((tok X n p).1 = 26 → (tok X n p).2.1 ≤ 1000000) := by
  have hq := rn_le (P := fun j => blk (X j)) (n - p) p
  have h1 : p ≤ tkq X n p := hq.1
  unfold tok
  by_cases g : n ≤ tkq X n p
  · rw [if_pos g]; exact ⟨by show 40 < 42; omega, fun e => by simp at e, fun e => by simp at e⟩
  · rw [if_neg g]
    by_cases gl : ltr (X (tkq X n p)) = true
    · rw [if_pos gl]
      by_cases g6 : 6 < tkw X n (tkq X n p) - tkq X n p
      · rw [if_pos g6]; exact ⟨by show 41 < 42; omega, fun e => by simp at e, fun e => by simp at e⟩
      · rw [if_neg g6]
        have hkx := kx_le (c := pkp X (tkq X n p) (tkw X n (tkq X n p) - tkq X n p)) 25 0 (by omega)
        have hal := rn_al (P := fun j => ltr (X j)) (n - tkq X n p) (tkq X n p)
        have hcl := pkp_lt (X := X) (a := tkq X n p) (tkw X n (tkq X n p) - tkq X n p) (by omega) (fun j hj => by
          have : 97 ≤ X (tkq X n p + j) ∧ X (tkq X n p + j) ≤ 122 := of_decide_eq_true (hal (tkq X n p + j) (by omega) (by show _ < tkw X n (tkq X n p); omega))
          omega)
        have hp1 : 0 < 2 ^ (5 * (6 - (tkw X n (tkq X n p) - tkq X n p))) := Nat.pow_pos (by omega)
        refine ⟨?_, fun _ => ?_, fun e => ?_⟩
        · show kx (pkp X (tkq X n p) (tkw X n (tkq X n p) - tkq X n p)) 25 0 < 42; omega
        · show pkp X (tkq X n p) (tkw X n (tkq X n p) - tkq X n p) < 1073741824; omega
        · have e' : kx (pkp X (tkq X n p) (tkw X n (tkq X n p) - tkq X n p)) 25 0 = 26 := e; omega
    · rw [if_neg gl]
      by_cases gd : dgi (X (tkq X n p)) = true
      · rw [if_pos gd]
        exact ⟨by show 26 < 42; omega, fun e => by simp at e, fun _ => nv_le _ _ _ (by omega)⟩
      · rw [if_neg gd]
        have hs := sgk_ne (X := X) (n := n) (q := tkq X n p)
        exact ⟨hs.2.2.1, fun e => absurd e hs.1, fun e => absurd e hs.2.1⟩
theorem adv_C {X : Nat → Nat} {n d : Nat} {T G F : Td} {fg : Nat → Bool} {cn : Nat} {t : Tk} {m : am_M} (h : pC X n T G F fg cn t m) (ht : t.2.2.2 ≤ n) : ∃ m', am_c (d + 3) y_Scanner_advance [.ref 2] m = some (none, m') ∧ pC X n T G F fg cn (tok X n t.2.2.2) m' ∧ fk m m' := by
  obtain ⟨m', a1, a2, a3⟩ := s_advance (d := d) h.tc ht h.k.nx
  exact ⟨m', a1, h.mono (h.tc.to a3) a2 (fun c _ _ => a3.2.1 c (by omega)) (fun i _ => by rw [a3.2.1 1 (by omega)]), a3⟩
theorem adv_R {X : Nat → Nat} {n d : Nat} {T G F : Td} {fg : Nat → Bool} {cn : Nat} {t : Tk} {m : am_M} (h : pR X n T G F fg cn t m) (ht : t.2.2.2 ≤ n) : ∃ m', am_c (d + 2) y_M_token [.ref 107] m = some (none, m') ∧ pR X n T G F fg cn (tok X n t.2.2.2) m' ∧ fkR m m' := by
  obtain ⟨m', a1, a2, a3⟩ := s_token (d := d) h.tc ht h.k.nx
  exact ⟨m', a1, h.mono (h.tc.to a3) a2 (fun c _ _ => a3.2.1 c (by omega)) (fun i hi => a3.2.2 i (by omega)), a3⟩
/-! faults -/
theorem s_failC {d k a : Nat} {m : am_M} (ha : m.1 2 5 = zn a) : ∃ m', am_c (d + 1) y_Reader_fail [.ref 1, .int (zn k)] m = some (some (.int (zn 0)), m') ∧ flC k a m m' := by
  refine ⟨_, n_Reader_fail d (zn k) m, ?_, ?_, rfl, fun c hc => by simp (disch := omega) only [w_ne, w_at, wl_ne, wl_at, wc_ne, wc_at, upd_at, upd_ne, upl_at, upl_ne, cpy_in0, zn_cl, zn_add, zn_mul, zn_sub, zn_pm, br_tt, br_ff, br_ltT, br_ltF, br_leT, br_leF, br_eqT, br_eqF, br_eqs, br_eqm, br_eqm', br_ltm, br_mlt, br_lem, br_mle, br_oiF, br_lgge, br_lgle, br_lggt, br_lglt, br_lgeq, br_zb, br_zb1, bV_s, bI_s, bL_s, zo_n, zo_s]⟩
  · simp (disch := omega) only [w_ne, w_at, wl_ne, wl_at, wc_ne, wc_at, upd_at, upd_ne, upl_at, upl_ne, cpy_in0, zn_cl, zn_add, zn_mul, zn_sub, zn_pm, br_tt, br_ff, br_ltT, br_ltF, br_leT, br_leF, br_eqT, br_eqF, br_eqs, br_eqm, br_eqm', br_ltm, br_mlt, br_lem, br_mle, br_oiF, br_lgge, br_lgle, br_lggt, br_lglt, br_lgeq, br_zb, br_zb1, bV_s, bI_s, bL_s, zo_n, zo_s]
  · simp (disch := omega) only [w_ne, w_at, wl_ne, wl_at, wc_ne, wc_at, upd_at, upd_ne, upl_at, upl_ne, cpy_in0, zn_cl, zn_add, zn_mul, zn_sub, zn_pm, br_tt, br_ff, br_ltT, br_ltF, br_leT, br_leF, br_eqT, br_eqF, br_eqs, br_eqm, br_eqm', br_ltm, br_mlt, br_lem, br_mle, br_oiF, br_lgge, br_lgle, br_lggt, br_lglt, br_lgeq, br_zb, br_zb1, bV_s, bI_s, bL_s, zo_n, zo_s, ha]
theorem s_failR {d k a : Nat} {m : am_M} (ha : m.1 107 10 = zn a) : ∃ m', am_c (d + 1) y_M_wrong [.ref 107, .int (zn k)] m = some (some (.int (zn 0)), m') ∧ flR k a m m' := by
  refine ⟨_, n_M_wrong d (zn k) m, ?_, ?_, ⟨rfl, fun c hc => by simp (disch := omega) only [w_ne, w_at, wl_ne, wl_at, wc_ne, wc_at, upd_at, upd_ne, upl_at, upl_ne, cpy_in0, zn_cl, zn_add, zn_mul, zn_sub, zn_pm, br_tt, br_ff, br_ltT, br_ltF, br_leT, br_leF, br_eqT, br_eqF, br_eqs, br_eqm, br_eqm', br_ltm, br_mlt, br_lem, br_mle, br_oiF, br_lgge, br_lgle, br_lggt, br_lglt, br_lgeq, br_zb, br_zb1, bV_s, bI_s, bL_s, zo_n, zo_s], fun i hi => by simp (disch := omega) only [w_ne, w_at, wl_ne, wl_at, wc_ne, wc_at, upd_at, upd_ne, upl_at, upl_ne, cpy_in0, zn_cl, zn_add, zn_mul, zn_sub, zn_pm, br_tt, br_ff, br_ltT, br_ltF, br_leT, br_leF, br_eqT, br_eqF, br_eqs, br_eqm, br_eqm', br_ltm, br_mlt, br_lem, br_mle, br_oiF, br_lgge, br_lgle, br_lggt, br_lglt, br_lgeq, br_zb, br_zb1, bV_s, bI_s, bL_s, zo_n, zo_s], fun c i _ h => by simp (disch := omega) only [w_ne, w_at, wl_ne, wl_at, wc_ne, wc_at, upd_at, upd_ne, upl_at, upl_ne, cpy_in0, zn_cl, zn_add, zn_mul, zn_sub, zn_pm, br_tt, br_ff, br_ltT, br_ltF, br_leT, br_leF, br_eqT, br_eqF, br_eqs, br_eqm, br_eqm', br_ltm, br_mlt, br_lem, br_mle, br_oiF, br_lgge, br_lgle, br_lggt, br_lglt, br_lgeq, br_zb, br_zb1, bV_s, bI_s, bL_s, zo_n, zo_s], fun c i _ h => by simp (disch := omega) only [w_ne, w_at, wl_ne, wl_at, wc_ne, wc_at, upd_at, upd_ne, upl_at, upl_ne, cpy_in0, zn_cl, zn_add, zn_mul, zn_sub, zn_pm, br_tt, br_ff, br_ltT, br_ltF, br_leT, br_leF, br_eqT, br_eqF, br_eqs, br_eqm, br_eqm', br_ltm, br_mlt, br_lem, br_mle, br_oiF, br_lgge, br_lgle, br_lggt, br_lglt, br_lgeq, br_zb, br_zb1, bV_s, bI_s, bL_s, zo_n, zo_s], fun c i _ h => by simp (disch := omega) only [w_ne, w_at, wl_ne, wl_at, wc_ne, wc_at, upd_at, upd_ne, upl_at, upl_ne, cpy_in0, zn_cl, zn_add, zn_mul, zn_sub, zn_pm, br_tt, br_ff, br_ltT, br_ltF, br_leT, br_leF, br_eqT, br_eqF, br_eqs, br_eqm, br_eqm', br_ltm, br_mlt, br_lem, br_mle, br_oiF, br_lgge, br_lgle, br_lggt, br_lglt, br_lgeq, br_zb, br_zb1, bV_s, bI_s, bL_s, zo_n, zo_s], fun c i _ h => by simp (disch := omega) only [w_ne, w_at, wl_ne, wl_at, wc_ne, wc_at, upd_at, upd_ne, upl_at, upl_ne, cpy_in0, zn_cl, zn_add, zn_mul, zn_sub, zn_pm, br_tt, br_ff, br_ltT, br_ltF, br_leT, br_leF, br_eqT, br_eqF, br_eqs, br_eqm, br_eqm', br_ltm, br_mlt, br_lem, br_mle, br_oiF, br_lgge, br_lgle, br_lggt, br_lglt, br_lgeq, br_zb, br_zb1, bV_s, bI_s, bL_s, zo_n, zo_s]⟩⟩
  · simp (disch := omega) only [w_ne, w_at, wl_ne, wl_at, wc_ne, wc_at, upd_at, upd_ne, upl_at, upl_ne, cpy_in0, zn_cl, zn_add, zn_mul, zn_sub, zn_pm, br_tt, br_ff, br_ltT, br_ltF, br_leT, br_leF, br_eqT, br_eqF, br_eqs, br_eqm, br_eqm', br_ltm, br_mlt, br_lem, br_mle, br_oiF, br_lgge, br_lgle, br_lggt, br_lglt, br_lgeq, br_zb, br_zb1, bV_s, bI_s, bL_s, zo_n, zo_s]
  · simp (disch := omega) only [w_ne, w_at, wl_ne, wl_at, wc_ne, wc_at, upd_at, upd_ne, upl_at, upl_ne, cpy_in0, zn_cl, zn_add, zn_mul, zn_sub, zn_pm, br_tt, br_ff, br_ltT, br_ltF, br_leT, br_leF, br_eqT, br_eqF, br_eqs, br_eqm, br_eqm', br_ltm, br_mlt, br_lem, br_mle, br_oiF, br_lgge, br_lgle, br_lggt, br_lglt, br_lgeq, br_zb, br_zb1, bV_s, bI_s, bL_s, zo_n, zo_s, ha]
/-! a number -/
def nok (t : Tk) (lo hi : Nat) : Bool := decide (t.1 = 26 ∧ lo ≤ t.2.1 ∧ t.2.1 ≤ hi)
def nkd (t : Tk) : Nat := if t.1 = 26 then 2 else 1
theorem num_C {X : Nat → Nat} {n d lo hi p : Nat} {T G F : Td} {fg : Nat → Bool} {cn : Nat} {m : am_M} (hp : p ≤ n) (h : pC X n T G F fg cn (tok X n p) m) (hlo : lo ≤ 1) (hhi : hi ≤ 99999) :
    (nok (tok X n p) lo hi = false ∧ ∃ m', am_c (d + 4) y_Reader_takeNumber [.ref 1, .int (zn lo), .int (zn hi)] m = some (some (.int (zn 0)), m') ∧ flC (nkd (tok X n p)) (tok X n p).2.2.1 m m')
    ∨ (nok (tok X n p) lo hi = true ∧ ∃ m', am_c (d + 4) y_Reader_takeNumber [.ref 1, .int (zn lo), .int (zn hi)] m = some (some (.int (zn 1)), m') ∧ pC X n T G F fg cn (tok X n (tok X n p).2.2.2) m' ∧ m'.1 1 11 = zn (tok X n p).2.1 ∧ m'.2 = m.2 ∧ ∀ c, c ≠ 1 → c ≠ 2 → m'.1 c = m.1 c) := by
  have hv := tok_V (X := X) hp
  have ht := tok_at (X := X) hp
  unfold nok nkd
  by_cases g : (tok X n p).1 = 26
  · have hV := hv.2.2 g
    rw [if_pos g]
    by_cases g1 : (tok X n p).2.1 < lo
    · obtain ⟨m', a1, a2⟩ := s_failC (d := d + 2) (k := 2) h.k.at_
      refine Or.inl ⟨decide_eq_false (by omega), m', ?_, a2⟩
      rw [n_Reader_takeNumber, h.k.k, br_eqT g, h.k.va g, br_ltT g1 (by omega), a1, bI_s, br_eqT rfl]
    · by_cases g2 : (tok X n p).2.1 ≤ hi
      · have h' : pC X n T G F fg cn (tok X n p) (am_w m.1 1 11 (zn (tok X n p).2.1), m.2) := h.mono ⟨h.tc.n, h.tc.x, by simp (disch := omega) only [w_ne, w_at, wl_ne, wl_at, wc_ne, wc_at, upd_at, upd_ne, upl_at, upl_ne, cpy_in0, zn_cl, zn_add, zn_mul, zn_sub, zn_pm, br_tt, br_ff, br_ltT, br_ltF, br_leT, br_leF, br_eqT, br_eqF, br_eqs, br_eqm, br_eqm', br_ltm, br_mlt, br_lem, br_mle, br_oiF, br_lgge, br_lgle, br_lggt, br_lglt, br_lgeq, br_zb, br_zb1, bV_s, bI_s, bL_s, zo_n, zo_s, h.tc.l], by simp (disch := omega) only [w_ne, w_at, wl_ne, wl_at, wc_ne, wc_at, upd_at, upd_ne, upl_at, upl_ne, cpy_in0, zn_cl, zn_add, zn_mul, zn_sub, zn_pm, br_tt, br_ff, br_ltT, br_ltF, br_leT, br_leF, br_eqT, br_eqF, br_eqs, br_eqm, br_eqm', br_ltm, br_mlt, br_lem, br_mle, br_oiF, br_lgge, br_lgle, br_lggt, br_lglt, br_lgeq, br_zb, br_zb1, bV_s, bI_s, bL_s, zo_n, zo_s]; exact h.tc.b, by simp (disch := omega) only [w_ne, w_at, wl_ne, wl_at, wc_ne, wc_at, upd_at, upd_ne, upl_at, upl_ne, cpy_in0, zn_cl, zn_add, zn_mul, zn_sub, zn_pm, br_tt, br_ff, br_ltT, br_ltF, br_leT, br_leF, br_eqT, br_eqF, br_eqs, br_eqm, br_eqm', br_ltm, br_mlt, br_lem, br_mle, br_oiF, br_lgge, br_lgle, br_lggt, br_lglt, br_lgeq, br_zb, br_zb1, bV_s, bI_s, bL_s, zo_n, zo_s]; exact h.tc.w⟩ ⟨by simp (disch := omega) only [w_ne, w_at, wl_ne, wl_at, wc_ne, wc_at, upd_at, upd_ne, upl_at, upl_ne, cpy_in0, zn_cl, zn_add, zn_mul, zn_sub, zn_pm, br_tt, br_ff, br_ltT, br_ltF, br_leT, br_leF, br_eqT, br_eqF, br_eqs, br_eqm, br_eqm', br_ltm, br_mlt, br_lem, br_mle, br_oiF, br_lgge, br_lgle, br_lggt, br_lglt, br_lgeq, br_zb, br_zb1, bV_s, bI_s, bL_s, zo_n, zo_s, h.k.nx], by simp (disch := omega) only [w_ne, w_at, wl_ne, wl_at, wc_ne, wc_at, upd_at, upd_ne, upl_at, upl_ne, cpy_in0, zn_cl, zn_add, zn_mul, zn_sub, zn_pm, br_tt, br_ff, br_ltT, br_ltF, br_leT, br_leF, br_eqT, br_eqF, br_eqs, br_eqm, br_eqm', br_ltm, br_mlt, br_lem, br_mle, br_oiF, br_lgge, br_lgle, br_lggt, br_lglt, br_lgeq, br_zb, br_zb1, bV_s, bI_s, bL_s, zo_n, zo_s, h.k.k], by simp (disch := omega) only [w_ne, w_at, wl_ne, wl_at, wc_ne, wc_at, upd_at, upd_ne, upl_at, upl_ne, cpy_in0, zn_cl, zn_add, zn_mul, zn_sub, zn_pm, br_tt, br_ff, br_ltT, br_ltF, br_leT, br_leF, br_eqT, br_eqF, br_eqs, br_eqm, br_eqm', br_ltm, br_mlt, br_lem, br_mle, br_oiF, br_lgge, br_lgle, br_lggt, br_lglt, br_lgeq, br_zb, br_zb1, bV_s, bI_s, bL_s, zo_n, zo_s, h.k.at_], fun e => by simp (disch := omega) only [w_ne, w_at, wl_ne, wl_at, wc_ne, wc_at, upd_at, upd_ne, upl_at, upl_ne, cpy_in0, zn_cl, zn_add, zn_mul, zn_sub, zn_pm, br_tt, br_ff, br_ltT, br_ltF, br_leT, br_leF, br_eqT, br_eqF, br_eqs, br_eqm, br_eqm', br_ltm, br_mlt, br_lem, br_mle, br_oiF, br_lgge, br_lgle, br_lggt, br_lglt, br_lgeq, br_zb, br_zb1, bV_s, bI_s, bL_s, zo_n, zo_s]; exact h.k.le e, fun e => by simp (disch := omega) only [w_ne, w_at, wl_ne, wl_at, wc_ne, wc_at, upd_at, upd_ne, upl_at, upl_ne, cpy_in0, zn_cl, zn_add, zn_mul, zn_sub, zn_pm, br_tt, br_ff, br_ltT, br_ltF, br_leT, br_leF, br_eqT, br_eqF, br_eqs, br_eqm, br_eqm', br_ltm, br_mlt, br_lem, br_mle, br_oiF, br_lgge, br_lgle, br_lggt, br_lglt, br_lgeq, br_zb, br_zb1, bV_s, bI_s, bL_s, zo_n, zo_s]; exact h.k.va e⟩ (fun c _ _ => by simp (disch := omega) only [w_ne, w_at, wl_ne, wl_at, wc_ne, wc_at, upd_at, upd_ne, upl_at, upl_ne, cpy_in0, zn_cl, zn_add, zn_mul, zn_sub, zn_pm, br_tt, br_ff, br_ltT, br_ltF, br_leT, br_leF, br_eqT, br_eqF, br_eqs, br_eqm, br_eqm', br_ltm, br_mlt, br_lem, br_mle, br_oiF, br_lgge, br_lgle, br_lggt, br_lglt, br_lgeq, br_zb, br_zb1, bV_s, bI_s, bL_s, zo_n, zo_s]) (fun i hi => by simp (disch := omega) only [w_ne, w_at, wl_ne, wl_at, wc_ne, wc_at, upd_at, upd_ne, upl_at, upl_ne, cpy_in0, zn_cl, zn_add, zn_mul, zn_sub, zn_pm, br_tt, br_ff, br_ltT, br_ltF, br_leT, br_leF, br_eqT, br_eqF, br_eqs, br_eqm, br_eqm', br_ltm, br_mlt, br_lem, br_mle, br_oiF, br_lgge, br_lgle, br_lggt, br_lglt, br_lgeq, br_zb, br_zb1, bV_s, bI_s, bL_s, zo_n, zo_s])
        obtain ⟨m', a1, a2, a3⟩ := adv_C (d := d) h' ht.2.1
        refine Or.inr ⟨decide_eq_true ⟨g, by omega, g2⟩, m', ?_, a2, by rw [a3.2.1 1 (by omega)]; simp (disch := omega) only [w_ne, w_at, wl_ne, wl_at, wc_ne, wc_at, upd_at, upd_ne, upl_at, upl_ne, cpy_in0, zn_cl, zn_add, zn_mul, zn_sub, zn_pm, br_tt, br_ff, br_ltT, br_ltF, br_leT, br_leF, br_eqT, br_eqF, br_eqs, br_eqm, br_eqm', br_ltm, br_mlt, br_lem, br_mle, br_oiF, br_lgge, br_lgle, br_lggt, br_lglt, br_lgeq, br_zb, br_zb1, bV_s, bI_s, bL_s, zo_n, zo_s], a3.1, fun c c1 c2 => by rw [a3.2.1 c c2]; simp (disch := omega) only [w_ne, w_at, wl_ne, wl_at, wc_ne, wc_at, upd_at, upd_ne, upl_at, upl_ne, cpy_in0, zn_cl, zn_add, zn_mul, zn_sub, zn_pm, br_tt, br_ff, br_ltT, br_ltF, br_leT, br_leF, br_eqT, br_eqF, br_eqs, br_eqm, br_eqm', br_ltm, br_mlt, br_lem, br_mle, br_oiF, br_lgge, br_lgle, br_lggt, br_lglt, br_lgeq, br_zb, br_zb1, bV_s, bI_s, bL_s, zo_n, zo_s]⟩
        rw [n_Reader_takeNumber, h.k.k, br_eqT g, h.k.va g, br_ltF (by omega) (by omega), br_leT g2 (by omega), a1, bV_s]
      · obtain ⟨m', a1, a2⟩ := s_failC (d := d + 2) (k := 2) h.k.at_
        refine Or.inl ⟨decide_eq_false (by omega), m', ?_, a2⟩
        rw [n_Reader_takeNumber, h.k.k, br_eqT g, h.k.va g, br_ltF (by omega) (by omega), br_leF (by omega) (by omega), a1, bI_s, br_eqT rfl]
  · obtain ⟨m', a1, a2⟩ := s_failC (d := d + 2) (k := 1) h.k.at_
    rw [if_neg g]
    refine Or.inl ⟨decide_eq_false (fun q => g q.1), m', ?_, a2⟩
    rw [n_Reader_takeNumber, h.k.k, br_eqF g (by omega) (by omega), a1, bI_s, br_eqT rfl]
theorem rtk_26 {K V : Nat} {a b : Int32} (h : rtk K V a b) (hK : K < 42) : (K = 26 ∧ a = zn 3 ∧ ∃ r, b = zn r ∧ r ≤ 1000000 ∧ (V ≤ 99999 → r = V) ∧ (99999 < V → 99999 < r)) ∨ (K ≠ 26 ∧ ∃ x, a = zn x ∧ x ≤ 6 ∧ x ≠ 3) := by
  rcases h with ⟨h1, h2, h3⟩ | ⟨h1, h2, h3⟩ | ⟨h1, h2, h3⟩ | ⟨h1, h2, h3⟩ | ⟨h1, h1', h2, h3⟩ | ⟨h1, h2⟩ | ⟨h1, h2⟩
  · exact Or.inr ⟨by omega, 1, h2, by omega, by omega⟩
  · exact Or.inr ⟨by omega, 2, h2, by omega, by omega⟩
  · exact Or.inl ⟨h1, h2, h3⟩
  · refine Or.inr ⟨fun e => ?_, 4, h2, by omega, by omega⟩
    rw [e] at h1; exact h1 rfl
  · exact Or.inr ⟨by omega, 5, h2, by omega, by omega⟩
  · exact Or.inr ⟨by omega, 0, h2, by omega, by omega⟩
  · rcases h2 with h2 | h2
    · exact Or.inr ⟨by omega, 6, h2, by omega, by omega⟩
    · exact Or.inr ⟨by omega, 4, h2.1, by omega, by omega⟩
theorem num_R {X : Nat → Nat} {n d lo hi p : Nat} {T G F : Td} {fg : Nat → Bool} {cn : Nat} {m : am_M} (hp : p ≤ n) (h : pR X n T G F fg cn (tok X n p) m) (hlo : lo ≤ 1) (hhi : hi ≤ 99999) :
    (nok (tok X n p) lo hi = false ∧ ∃ m', am_c (d + 3) y_M_number [.ref 107, .int (zn lo), .int (zn hi)] m = some (some (.int (zn 0)), m') ∧ flR (nkd (tok X n p)) (tok X n p).2.2.1 m m')
    ∨ (nok (tok X n p) lo hi = true ∧ ∃ m', am_c (d + 3) y_M_number [.ref 107, .int (zn lo), .int (zn hi)] m = some (some (.int (zn 1)), m') ∧ pR X n T G F fg cn (tok X n (tok X n p).2.2.2) m' ∧ m'.1 107 11 = zn (tok X n p).2.1 ∧ m'.2 = m.2 ∧ (∀ c, c ≠ 107 → m'.1 c = m.1 c) ∧ ∀ i, i < 7 ∨ 11 < i → m'.1 107 i = m.1 107 i) := by
  have hv := tok_V (X := X) hp
  have ht := tok_at (X := X) hp
  unfold nok nkd
  rcases rtk_26 h.k.k hv.1 with ⟨g, ha, r, hb, r1, r2, r3⟩ | ⟨g, x, ha, x1, x2⟩
  · have hV := hv.2.2 g
    rw [if_pos g]
    have hin : am_c (d + 2) y_M_isIn [.int (zn r), .int (zn lo), .int (zn hi)] m = some (some (.int (zb (decide (lo ≤ (tok X n p).2.1 ∧ (tok X n p).2.1 ≤ hi)))), m) := by
      rw [s_isIn, zn_i (by omega), zn_i (by omega)]
      have e : isR ((lo : Nat) : Int) ((hi : Nat) : Int) (zn r) = decide (lo ≤ (tok X n p).2.1 ∧ (tok X n p).2.1 ≤ hi) := by
        unfold isR
        rw [zn_i (by omega)]
        rcases Nat.lt_or_ge 99999 (tok X n p).2.1 with q | q
        · have := r3 q
          rw [decide_eq_false (by omega), decide_eq_false (by omega)]
        · have := r2 q
          subst this
          by_cases g2 : lo ≤ (tok X n p).2.1 ∧ (tok X n p).2.1 ≤ hi
          · rw [decide_eq_true g2, decide_eq_true (by omega)]
          · rw [decide_eq_false g2, decide_eq_false (by omega)]
      rw [e]
    by_cases g2 : lo ≤ (tok X n p).2.1 ∧ (tok X n p).2.1 ≤ hi
    · rw [decide_eq_true g2] at hin
      have hr := r2 (by omega)
      have h' : pR X n T G F fg cn (tok X n p) (am_w m.1 107 11 (zn r), m.2) := h.mono ⟨h.tc.n, h.tc.x, by simp (disch := omega) only [w_ne, w_at, wl_ne, wl_at, wc_ne, wc_at, upd_at, upd_ne, upl_at, upl_ne, cpy_in0, zn_cl, zn_add, zn_mul, zn_sub, zn_pm, br_tt, br_ff, br_ltT, br_ltF, br_leT, br_leF, br_eqT, br_eqF, br_eqs, br_eqm, br_eqm', br_ltm, br_mlt, br_lem, br_mle, br_oiF, br_lgge, br_lgle, br_lggt, br_lglt, br_lgeq, br_zb, br_zb1, bV_s, bI_s, bL_s, zo_n, zo_s, h.tc.l], by simp (disch := omega) only [w_ne, w_at, wl_ne, wl_at, wc_ne, wc_at, upd_at, upd_ne, upl_at, upl_ne, cpy_in0, zn_cl, zn_add, zn_mul, zn_sub, zn_pm, br_tt, br_ff, br_ltT, br_ltF, br_leT, br_leF, br_eqT, br_eqF, br_eqs, br_eqm, br_eqm', br_ltm, br_mlt, br_lem, br_mle, br_oiF, br_lgge, br_lgle, br_lggt, br_lglt, br_lgeq, br_zb, br_zb1, bV_s, bI_s, bL_s, zo_n, zo_s]; exact h.tc.b, by simp (disch := omega) only [w_ne, w_at, wl_ne, wl_at, wc_ne, wc_at, upd_at, upd_ne, upl_at, upl_ne, cpy_in0, zn_cl, zn_add, zn_mul, zn_sub, zn_pm, br_tt, br_ff, br_ltT, br_ltF, br_leT, br_leF, br_eqT, br_eqF, br_eqs, br_eqm, br_eqm', br_ltm, br_mlt, br_lem, br_mle, br_oiF, br_lgge, br_lgle, br_lggt, br_lglt, br_lgeq, br_zb, br_zb1, bV_s, bI_s, bL_s, zo_n, zo_s]; exact h.tc.w⟩ ⟨by simp (disch := omega) only [w_ne, w_at, wl_ne, wl_at, wc_ne, wc_at, upd_at, upd_ne, upl_at, upl_ne, cpy_in0, zn_cl, zn_add, zn_mul, zn_sub, zn_pm, br_tt, br_ff, br_ltT, br_ltF, br_leT, br_leF, br_eqT, br_eqF, br_eqs, br_eqm, br_eqm', br_ltm, br_mlt, br_lem, br_mle, br_oiF, br_lgge, br_lgle, br_lggt, br_lglt, br_lgeq, br_zb, br_zb1, bV_s, bI_s, bL_s, zo_n, zo_s, h.k.nx], by simp (disch := omega) only [w_ne, w_at, wl_ne, wl_at, wc_ne, wc_at, upd_at, upd_ne, upl_at, upl_ne, cpy_in0, zn_cl, zn_add, zn_mul, zn_sub, zn_pm, br_tt, br_ff, br_ltT, br_ltF, br_leT, br_leF, br_eqT, br_eqF, br_eqs, br_eqm, br_eqm', br_ltm, br_mlt, br_lem, br_mle, br_oiF, br_lgge, br_lgle, br_lggt, br_lglt, br_lgeq, br_zb, br_zb1, bV_s, bI_s, bL_s, zo_n, zo_s, h.k.at_], by simp (disch := omega) only [w_ne, w_at, wl_ne, wl_at, wc_ne, wc_at, upd_at, upd_ne, upl_at, upl_ne, cpy_in0, zn_cl, zn_add, zn_mul, zn_sub, zn_pm, br_tt, br_ff, br_ltT, br_ltF, br_leT, br_leF, br_eqT, br_eqF, br_eqs, br_eqm, br_eqm', br_ltm, br_mlt, br_lem, br_mle, br_oiF, br_lgge, br_lgle, br_lggt, br_lglt, br_lgeq, br_zb, br_zb1, bV_s, bI_s, bL_s, zo_n, zo_s]; exact h.k.k⟩ (fun c _ _ => by simp (disch := omega) only [w_ne, w_at, wl_ne, wl_at, wc_ne, wc_at, upd_at, upd_ne, upl_at, upl_ne, cpy_in0, zn_cl, zn_add, zn_mul, zn_sub, zn_pm, br_tt, br_ff, br_ltT, br_ltF, br_leT, br_leF, br_eqT, br_eqF, br_eqs, br_eqm, br_eqm', br_ltm, br_mlt, br_lem, br_mle, br_oiF, br_lgge, br_lgle, br_lggt, br_lglt, br_lgeq, br_zb, br_zb1, bV_s, bI_s, bL_s, zo_n, zo_s]) (fun i hi => by simp (disch := omega) only [w_ne, w_at, wl_ne, wl_at, wc_ne, wc_at, upd_at, upd_ne, upl_at, upl_ne, cpy_in0, zn_cl, zn_add, zn_mul, zn_sub, zn_pm, br_tt, br_ff, br_ltT, br_ltF, br_leT, br_leF, br_eqT, br_eqF, br_eqs, br_eqm, br_eqm', br_ltm, br_mlt, br_lem, br_mle, br_oiF, br_lgge, br_lgle, br_lggt, br_lglt, br_lgeq, br_zb, br_zb1, bV_s, bI_s, bL_s, zo_n, zo_s])
      obtain ⟨m', a1, a2, a3⟩ := adv_R (d := d) h' ht.2.1
      refine Or.inr ⟨decide_eq_true ⟨g, g2⟩, m', ?_, a2, by rw [a3.2.2 11 (by omega), ← hr]; simp (disch := omega) only [w_ne, w_at, wl_ne, wl_at, wc_ne, wc_at, upd_at, upd_ne, upl_at, upl_ne, cpy_in0, zn_cl, zn_add, zn_mul, zn_sub, zn_pm, br_tt, br_ff, br_ltT, br_ltF, br_leT, br_leF, br_eqT, br_eqF, br_eqs, br_eqm, br_eqm', br_ltm, br_mlt, br_lem, br_mle, br_oiF, br_lgge, br_lgle, br_lggt, br_lglt, br_lgeq, br_zb, br_zb1, bV_s, bI_s, bL_s, zo_n, zo_s], a3.1, fun c c1 => by rw [a3.2.1 c c1]; simp (disch := omega) only [w_ne, w_at, wl_ne, wl_at, wc_ne, wc_at, upd_at, upd_ne, upl_at, upl_ne, cpy_in0, zn_cl, zn_add, zn_mul, zn_sub, zn_pm, br_tt, br_ff, br_ltT, br_ltF, br_leT, br_leF, br_eqT, br_eqF, br_eqs, br_eqm, br_eqm', br_ltm, br_mlt, br_lem, br_mle, br_oiF, br_lgge, br_lgle, br_lggt, br_lglt, br_lgeq, br_zb, br_zb1, bV_s, bI_s, bL_s, zo_n, zo_s], fun i hi => by rw [a3.2.2 i (by omega)]; simp (disch := omega) only [w_ne, w_at, wl_ne, wl_at, wc_ne, wc_at, upd_at, upd_ne, upl_at, upl_ne, cpy_in0, zn_cl, zn_add, zn_mul, zn_sub, zn_pm, br_tt, br_ff, br_ltT, br_ltF, br_leT, br_leF, br_eqT, br_eqF, br_eqs, br_eqm, br_eqm', br_ltm, br_mlt, br_lem, br_mle, br_oiF, br_lgge, br_lgle, br_lggt, br_lglt, br_lgeq, br_zb, br_zb1, bV_s, bI_s, bL_s, zo_n, zo_s]⟩
      rw [n_M_number, ha, br_eqT rfl, hb, hin, bI_s, br_zb, if_pos rfl, hb, a1, bV_s]
    · rw [decide_eq_false g2] at hin
      obtain ⟨m', a1, a2⟩ := s_failR (d := d + 1) (k := 2) h.k.at_
      refine Or.inl ⟨decide_eq_false (fun q => g2 q.2), m', ?_, a2⟩
      rw [n_M_number, ha, br_eqT rfl, hb, hin, bI_s, br_zb, if_neg (by simp), a1, bI_s, br_eqT rfl]
  · obtain ⟨m', a1, a2⟩ := s_failR (d := d + 1) (k := 1) h.k.at_
    rw [if_neg g]
    refine Or.inl ⟨decide_eq_false (fun q => g q.1), m', ?_, a2⟩
    rw [n_M_number, ha, br_eqF x2 (by omega) (by omega), a1, bI_s, br_eqT rfl]
theorem nkd_le {t : Tk} : 1 ≤ nkd t ∧ nkd t ≤ 5 := by unfold nkd; split <;> omega
