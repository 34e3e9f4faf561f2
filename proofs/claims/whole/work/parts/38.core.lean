/-! the invariant between calls -/
abbrev Sq : Type := List Nat × (Nat → Nat) × List (Nat × Nat) × Hs
def qW (T : Td) (w : List Nat) (q : Sq) : Prop :=
  (q.1.length = T 0 1)
  ∧ (∀ l, l ∈ q.1 → l < T 0 1)
  ∧ (∀ l, l < T 0 1 → l ∈ q.1)
  ∧ (q.1.Nodup)
  ∧ (∀ l, l < T 0 1 → q.2.1 l < 30)
  ∧ (q.2.2.1.length ≤ 10)
  ∧ (∀ p, p ∈ q.2.2.1 → p.1 < p.2 ∧ p.2 < T 0 0)
  ∧ (hwI (T 0 0) q.2.2.2 w)
theorem qW.ol {T : Td} {w : List Nat} {q : Sq} (hZ : qW T w q) : q.1.length = T 0 1 := hZ.1
theorem qW.om {T : Td} {w : List Nat} {q : Sq} (hZ : qW T w q) : ∀ l, l ∈ q.1 → l < T 0 1 := hZ.2.1
theorem qW.oa {T : Td} {w : List Nat} {q : Sq} (hZ : qW T w q) : ∀ l, l < T 0 1 → l ∈ q.1 := hZ.2.2.1
theorem qW.nd {T : Td} {w : List Nat} {q : Sq} (hZ : qW T w q) : q.1.Nodup := hZ.2.2.2.1
theorem qW.hu {T : Td} {w : List Nat} {q : Sq} (hZ : qW T w q) : ∀ l, l < T 0 1 → q.2.1 l < 30 := hZ.2.2.2.2.1
theorem qW.ml {T : Td} {w : List Nat} {q : Sq} (hZ : qW T w q) : q.2.2.1.length ≤ 10 := hZ.2.2.2.2.2.1
theorem qW.ms {T : Td} {w : List Nat} {q : Sq} (hZ : qW T w q) : ∀ p, p ∈ q.2.2.1 → p.1 < p.2 ∧ p.2 < T 0 0 := hZ.2.2.2.2.2.2.1
theorem qW.hw {T : Td} {w : List Nat} {q : Sq} (hZ : qW T w q) : hwI (T 0 0) q.2.2.2 w := hZ.2.2.2.2.2.2.2
def Core (T G F : Td) (q : Sq) (w : List Nat) (day num : Nat) (m : am_M) : Prop :=
  (tC T G F m)
  ∧ (tR T G F m)
  ∧ (tW T)
  ∧ (gW G F)
  ∧ (∀ l, 3 ≤ l → F 1 l ≤ F 0 l)
  ∧ (sn 71 T q.1 q.2.1 q.2.2.1 q.2.2.2 w day m)
  ∧ (m.1 71 11 = zn num)
  ∧ (nR T q.1 q.2.1 q.2.2.1 q.2.2.2 w day num m)
  ∧ (qW T w q)
  ∧ (num < 2147483648)
  ∧ (day ≤ 999)
theorem Core.tc {T G F : Td} {q : Sq} {w : List Nat} {day num : Nat} {m : am_M} (hZ : Core T G F q w day num m) : tC T G F m := hZ.1
theorem Core.tr {T G F : Td} {q : Sq} {w : List Nat} {day num : Nat} {m : am_M} (hZ : Core T G F q w day num m) : tR T G F m := hZ.2.1
theorem Core.tw {T G F : Td} {q : Sq} {w : List Nat} {day num : Nat} {m : am_M} (hZ : Core T G F q w day num m) : tW T := hZ.2.2.1
theorem Core.gw {T G F : Td} {q : Sq} {w : List Nat} {day num : Nat} {m : am_M} (hZ : Core T G F q w day num m) : gW G F := hZ.2.2.2.1
theorem Core.gf {T G F : Td} {q : Sq} {w : List Nat} {day num : Nat} {m : am_M} (hZ : Core T G F q w day num m) : ∀ l, 3 ≤ l → F 1 l ≤ F 0 l := hZ.2.2.2.2.1
theorem Core.sc {T G F : Td} {q : Sq} {w : List Nat} {day num : Nat} {m : am_M} (hZ : Core T G F q w day num m) : sn 71 T q.1 q.2.1 q.2.2.1 q.2.2.2 w day m := hZ.2.2.2.2.2.1
theorem Core.nc {T G F : Td} {q : Sq} {w : List Nat} {day num : Nat} {m : am_M} (hZ : Core T G F q w day num m) : m.1 71 11 = zn num := hZ.2.2.2.2.2.2.1
theorem Core.nr {T G F : Td} {q : Sq} {w : List Nat} {day num : Nat} {m : am_M} (hZ : Core T G F q w day num m) : nR T q.1 q.2.1 q.2.2.1 q.2.2.2 w day num m := hZ.2.2.2.2.2.2.2.1
theorem Core.qw {T G F : Td} {q : Sq} {w : List Nat} {day num : Nat} {m : am_M} (hZ : Core T G F q w day num m) : qW T w q := hZ.2.2.2.2.2.2.2.2.1
theorem Core.nb {T G F : Td} {q : Sq} {w : List Nat} {day num : Nat} {m : am_M} (hZ : Core T G F q w day num m) : num < 2147483648 := hZ.2.2.2.2.2.2.2.2.2.1
theorem Core.db {T G F : Td} {q : Sq} {w : List Nat} {day num : Nat} {m : am_M} (hZ : Core T G F q w day num m) : day ≤ 999 := hZ.2.2.2.2.2.2.2.2.2.2
/-- a snapshot in a row of the reference -/
def snp (T : Td) (c b : Nat) (q : Sq) (m : am_M) : Prop :=
  (∀ i, i < T 0 0 → m.1 c (b + i) = zo (q.2.2.2 i))
  ∧ (∀ i, T 0 0 ≤ i → i < 5 → m.1 c (b + i) = zm)
  ∧ (∀ l, l < T 0 1 → m.1 c (b + 5 + l) = zn (q.2.1 l))
  ∧ (∀ i, i < T 0 1 → m.1 c (b + 10 + i) = zn (q.1.getD i 0))
  ∧ (∀ i, i < q.2.2.1.length → m.1 c (b + 15 + i) = zn (q.2.2.1.getD i (0, 0)).1 ∧ m.1 c (b + 25 + i) = zn (q.2.2.1.getD i (0, 0)).2)
  ∧ (m.1 c (b + 35) = zn q.2.2.1.length)
theorem snp.hs {T : Td} {c b : Nat} {q : Sq} {m : am_M} (hZ : snp T c b q m) : ∀ i, i < T 0 0 → m.1 c (b + i) = zo (q.2.2.2 i) := hZ.1
theorem snp.h5 {T : Td} {c b : Nat} {q : Sq} {m : am_M} (hZ : snp T c b q m) : ∀ i, T 0 0 ≤ i → i < 5 → m.1 c (b + i) = zm := hZ.2.1
theorem snp.hu {T : Td} {c b : Nat} {q : Sq} {m : am_M} (hZ : snp T c b q m) : ∀ l, l < T 0 1 → m.1 c (b + 5 + l) = zn (q.2.1 l) := hZ.2.2.1
theorem snp.os {T : Td} {c b : Nat} {q : Sq} {m : am_M} (hZ : snp T c b q m) : ∀ i, i < T 0 1 → m.1 c (b + 10 + i) = zn (q.1.getD i 0) := hZ.2.2.2.1
theorem snp.ms {T : Td} {c b : Nat} {q : Sq} {m : am_M} (hZ : snp T c b q m) : ∀ i, i < q.2.2.1.length → m.1 c (b + 15 + i) = zn (q.2.2.1.getD i (0, 0)).1 ∧ m.1 c (b + 25 + i) = zn (q.2.2.1.getD i (0, 0)).2 := hZ.2.2.2.2.1
theorem snp.ml {T : Td} {c b : Nat} {q : Sq} {m : am_M} (hZ : snp T c b q m) : m.1 c (b + 35) = zn q.2.2.1.length := hZ.2.2.2.2.2
def sp_fu (U : Nat → Nat) (l p : Nat) : Nat → Nat := fun j => if j = l then p else U j
def sp_tn (ord : List Nat) (a b : Nat) : List Nat := ord.map (fun l => if l = a then b else if l = b then a else l)
/-- a deed is undone -/
def unD (k a b p : Nat) (q : Sq) : Sq :=
  if k = 0 then (q.1, sp_fu q.2.1 a b, q.2.2.1, q.2.2.2)
  else if k = 1 then (sp_tn q.1 a b, q.2.1, q.2.2.1, q.2.2.2)
  else if k = 2 then (q.1, q.2.1, q.2.2.1, sp_swp q.2.2.2 a b)
  else if k = 3 then (q.1, q.2.1, q.2.2.1.eraseIdx p, q.2.2.2)
  else (q.1, q.2.1, q.2.2.1.insertIdx p (min a b, max a b), q.2.2.2)
/-- what a deed may be in a state -/
def wfD (T : Td) (k a b p : Nat) (q : Sq) : Prop :=
  (k = 0 ∧ a < T 0 1 ∧ b < 30) ∨ (k = 1 ∧ a < T 0 1 ∧ b < T 0 1 ∧ a ≠ b) ∨ (k = 2 ∧ a < T 0 0 ∧ b < T 0 0 ∧ a ≠ b) ∨ (k = 3 ∧ p < q.2.2.1.length) ∨ (k = 4 ∧ a < T 0 0 ∧ b < T 0 0 ∧ a ≠ b ∧ p ≤ q.2.2.1.length ∧ q.2.2.1.length < 10)
def dedX (T : Td) (w : List Nat) (q : Sq) (n : Nat) (D : Td) (H : Nat → Sq) (m : am_M) : Prop :=
  (n ≤ 20)
  ∧ (H n = q)
  ∧ (∀ k, k ≤ n → qW T w (H k))
  ∧ (∀ k, k < n → unD (D 0 k) (D 1 k) (D 2 k) (D 3 k) (H (k + 1)) = H k)
  ∧ (∀ k, k < n → wfD T (D 0 k) (D 1 k) (D 2 k) (D 3 k) (H (k + 1)))
  ∧ (m.1 102 4 = zn n)
  ∧ (∀ k, k < n → m.1 103 k = zn (D 0 k) ∧ m.1 104 k = zn (D 1 k) ∧ m.1 105 k = zn (D 2 k) ∧ m.1 106 k = zn (D 3 k))
  ∧ (m.1 107 85 = zn n)
  ∧ (∀ k, k < n → snp T 153 (36 * k) (H k) m)
theorem dedX.n {T : Td} {w : List Nat} {q : Sq} {n : Nat} {D : Td} {H : Nat → Sq} {m : am_M} (hZ : dedX T w q n D H m) : n ≤ 20 := hZ.1
theorem dedX.hn {T : Td} {w : List Nat} {q : Sq} {n : Nat} {D : Td} {H : Nat → Sq} {m : am_M} (hZ : dedX T w q n D H m) : H n = q := hZ.2.1
theorem dedX.hw {T : Td} {w : List Nat} {q : Sq} {n : Nat} {D : Td} {H : Nat → Sq} {m : am_M} (hZ : dedX T w q n D H m) : ∀ k, k ≤ n → qW T w (H k) := hZ.2.2.1
theorem dedX.un {T : Td} {w : List Nat} {q : Sq} {n : Nat} {D : Td} {H : Nat → Sq} {m : am_M} (hZ : dedX T w q n D H m) : ∀ k, k < n → unD (D 0 k) (D 1 k) (D 2 k) (D 3 k) (H (k + 1)) = H k := hZ.2.2.2.1
theorem dedX.wf {T : Td} {w : List Nat} {q : Sq} {n : Nat} {D : Td} {H : Nat → Sq} {m : am_M} (hZ : dedX T w q n D H m) : ∀ k, k < n → wfD T (D 0 k) (D 1 k) (D 2 k) (D 3 k) (H (k + 1)) := hZ.2.2.2.2.1
theorem dedX.cn {T : Td} {w : List Nat} {q : Sq} {n : Nat} {D : Td} {H : Nat → Sq} {m : am_M} (hZ : dedX T w q n D H m) : m.1 102 4 = zn n := hZ.2.2.2.2.2.1
theorem dedX.ck {T : Td} {w : List Nat} {q : Sq} {n : Nat} {D : Td} {H : Nat → Sq} {m : am_M} (hZ : dedX T w q n D H m) : ∀ k, k < n → m.1 103 k = zn (D 0 k) ∧ m.1 104 k = zn (D 1 k) ∧ m.1 105 k = zn (D 2 k) ∧ m.1 106 k = zn (D 3 k) := hZ.2.2.2.2.2.2.1
theorem dedX.rn {T : Td} {w : List Nat} {q : Sq} {n : Nat} {D : Td} {H : Nat → Sq} {m : am_M} (hZ : dedX T w q n D H m) : m.1 107 85 = zn n := hZ.2.2.2.2.2.2.2.1
theorem dedX.rk {T : Td} {w : List Nat} {q : Sq} {n : Nat} {D : Td} {H : Nat → Sq} {m : am_M} (hZ : dedX T w q n D H m) : ∀ k, k < n → snp T 153 (36 * k) (H k) m := hZ.2.2.2.2.2.2.2.2
def dedI (T : Td) (w : List Nat) (q : Sq) (m : am_M) : Prop := ∃ (n : Nat) (D : Td) (H : Nat → Sq), dedX T w q n D H m
def imgX (T : Td) (q : Sq) (w : List Nat) (day num : Nat) (m : am_M) : Prop :=
  (qW T w q)
  ∧ (num < 2147483648)
  ∧ (day ≤ 999)
  ∧ (sn 78 T q.1 q.2.1 q.2.2.1 q.2.2.2 w day m)
  ∧ (m.1 78 11 = zn num)
  ∧ (snp T 154 0 q m)
  ∧ (∀ i, i < w.length → m.1 155 i = zn (w.getD i 0))
  ∧ (m.1 107 90 = zn w.length)
  ∧ (m.1 107 91 = zn day)
  ∧ (m.2 107 92 = (zn num).toInt64)
theorem imgX.qw {T : Td} {q : Sq} {w : List Nat} {day num : Nat} {m : am_M} (hZ : imgX T q w day num m) : qW T w q := hZ.1
theorem imgX.nb {T : Td} {q : Sq} {w : List Nat} {day num : Nat} {m : am_M} (hZ : imgX T q w day num m) : num < 2147483648 := hZ.2.1
theorem imgX.db {T : Td} {q : Sq} {w : List Nat} {day num : Nat} {m : am_M} (hZ : imgX T q w day num m) : day ≤ 999 := hZ.2.2.1
theorem imgX.c {T : Td} {q : Sq} {w : List Nat} {day num : Nat} {m : am_M} (hZ : imgX T q w day num m) : sn 78 T q.1 q.2.1 q.2.2.1 q.2.2.2 w day m := hZ.2.2.2.1
theorem imgX.cn {T : Td} {q : Sq} {w : List Nat} {day num : Nat} {m : am_M} (hZ : imgX T q w day num m) : m.1 78 11 = zn num := hZ.2.2.2.2.1
theorem imgX.r {T : Td} {q : Sq} {w : List Nat} {day num : Nat} {m : am_M} (hZ : imgX T q w day num m) : snp T 154 0 q m := hZ.2.2.2.2.2.1
theorem imgX.rw {T : Td} {q : Sq} {w : List Nat} {day num : Nat} {m : am_M} (hZ : imgX T q w day num m) : ∀ i, i < w.length → m.1 155 i = zn (w.getD i 0) := hZ.2.2.2.2.2.2.1
theorem imgX.rl {T : Td} {q : Sq} {w : List Nat} {day num : Nat} {m : am_M} (hZ : imgX T q w day num m) : m.1 107 90 = zn w.length := hZ.2.2.2.2.2.2.2.1
theorem imgX.rd {T : Td} {q : Sq} {w : List Nat} {day num : Nat} {m : am_M} (hZ : imgX T q w day num m) : m.1 107 91 = zn day := hZ.2.2.2.2.2.2.2.2.1
theorem imgX.rn {T : Td} {q : Sq} {w : List Nat} {day num : Nat} {m : am_M} (hZ : imgX T q w day num m) : m.2 107 92 = (zn num).toInt64 := hZ.2.2.2.2.2.2.2.2.2
def imgI (T : Td) (m : am_M) : Prop := (m.1 0 11 = zn 0 ∧ m.1 107 87 = zn 0) ∨ (m.1 0 11 = zn 1 ∧ m.1 107 87 = zn 1 ∧ ∃ (q : Sq) (w : List Nat) (day num : Nat), imgX T q w day num m)
def senX (T : Td) (n : Nat) (o : Option Nat) (S : Td) (m : am_M) : Prop :=
  (n ≤ 24)
  ∧ (∀ b, o = some b → b ≤ n)
  ∧ (∀ k, k < n → S 0 k = 0 → S 2 k < k)
  ∧ (∀ k, k < n → S 0 k ≠ 0 → S 0 k ≤ 20 ∧ S 1 k < T 0 0 ∧ S 2 k < 512)
  ∧ (m.1 97 4 = zn n)
  ∧ (m.1 97 5 = zo o)
  ∧ (∀ k, k < n → m.1 98 k = zn (S 0 k))
  ∧ (∀ k, k < n → S 0 k = 0 → m.1 100 k = zn (S 2 k))
  ∧ (∀ k, k < n → S 0 k ≠ 0 → m.1 99 k = zn (S 1 k) ∧ m.1 100 k = zn (sp_look (S 2 k)))
  ∧ (m.1 107 78 = zn n)
  ∧ (m.1 107 79 = zo o)
  ∧ (∀ k, k < n → S 0 k = 0 → m.1 148 (3 * k) = zm ∧ m.1 148 (3 * k + 1) = zn (S 2 k))
  ∧ (∀ k, k < n → S 0 k ≠ 0 → m.1 148 (3 * k) = zn (S 0 k) ∧ m.1 148 (3 * k + 1) = zn (S 1 k) ∧ m.1 148 (3 * k + 2) = zn (S 2 k))
theorem senX.n {T : Td} {n : Nat} {o : Option Nat} {S : Td} {m : am_M} (hZ : senX T n o S m) : n ≤ 24 := hZ.1
theorem senX.o {T : Td} {n : Nat} {o : Option Nat} {S : Td} {m : am_M} (hZ : senX T n o S m) : ∀ b, o = some b → b ≤ n := hZ.2.1
theorem senX.w0 {T : Td} {n : Nat} {o : Option Nat} {S : Td} {m : am_M} (hZ : senX T n o S m) : ∀ k, k < n → S 0 k = 0 → S 2 k < k := hZ.2.2.1
theorem senX.w1 {T : Td} {n : Nat} {o : Option Nat} {S : Td} {m : am_M} (hZ : senX T n o S m) : ∀ k, k < n → S 0 k ≠ 0 → S 0 k ≤ 20 ∧ S 1 k < T 0 0 ∧ S 2 k < 512 := hZ.2.2.2.1
theorem senX.cn {T : Td} {n : Nat} {o : Option Nat} {S : Td} {m : am_M} (hZ : senX T n o S m) : m.1 97 4 = zn n := hZ.2.2.2.2.1
theorem senX.co {T : Td} {n : Nat} {o : Option Nat} {S : Td} {m : am_M} (hZ : senX T n o S m) : m.1 97 5 = zo o := hZ.2.2.2.2.2.1
theorem senX.c0 {T : Td} {n : Nat} {o : Option Nat} {S : Td} {m : am_M} (hZ : senX T n o S m) : ∀ k, k < n → m.1 98 k = zn (S 0 k) := hZ.2.2.2.2.2.2.1
theorem senX.c1 {T : Td} {n : Nat} {o : Option Nat} {S : Td} {m : am_M} (hZ : senX T n o S m) : ∀ k, k < n → S 0 k = 0 → m.1 100 k = zn (S 2 k) := hZ.2.2.2.2.2.2.2.1
theorem senX.c2 {T : Td} {n : Nat} {o : Option Nat} {S : Td} {m : am_M} (hZ : senX T n o S m) : ∀ k, k < n → S 0 k ≠ 0 → m.1 99 k = zn (S 1 k) ∧ m.1 100 k = zn (sp_look (S 2 k)) := hZ.2.2.2.2.2.2.2.2.1
theorem senX.rn {T : Td} {n : Nat} {o : Option Nat} {S : Td} {m : am_M} (hZ : senX T n o S m) : m.1 107 78 = zn n := hZ.2.2.2.2.2.2.2.2.2.1
theorem senX.ro {T : Td} {n : Nat} {o : Option Nat} {S : Td} {m : am_M} (hZ : senX T n o S m) : m.1 107 79 = zo o := hZ.2.2.2.2.2.2.2.2.2.2.1
theorem senX.r1 {T : Td} {n : Nat} {o : Option Nat} {S : Td} {m : am_M} (hZ : senX T n o S m) : ∀ k, k < n → S 0 k = 0 → m.1 148 (3 * k) = zm ∧ m.1 148 (3 * k + 1) = zn (S 2 k) := hZ.2.2.2.2.2.2.2.2.2.2.2.1
theorem senX.r2 {T : Td} {n : Nat} {o : Option Nat} {S : Td} {m : am_M} (hZ : senX T n o S m) : ∀ k, k < n → S 0 k ≠ 0 → m.1 148 (3 * k) = zn (S 0 k) ∧ m.1 148 (3 * k + 1) = zn (S 1 k) ∧ m.1 148 (3 * k + 2) = zn (S 2 k) := hZ.2.2.2.2.2.2.2.2.2.2.2.2
def senI (T : Td) (m : am_M) : Prop := ∃ (n : Nat) (o : Option Nat) (S : Td), senX T n o S m
def tapX (t : Nat) (X : Nat → Nat) (m : am_M) : Prop :=
  (t ≤ 700)
  ∧ (∀ i, i < t → X i < 256)
  ∧ (m.1 0 2 = zn t)
  ∧ (∀ i, i < t → m.1 3 i = (zn (X i)).toInt8.toInt32)
  ∧ (m.1 107 1 = zn t)
  ∧ (∀ i, i < t → m.1 108 i = zn (X i))
theorem tapX.t {t : Nat} {X : Nat → Nat} {m : am_M} (hZ : tapX t X m) : t ≤ 700 := hZ.1
theorem tapX.x {t : Nat} {X : Nat → Nat} {m : am_M} (hZ : tapX t X m) : ∀ i, i < t → X i < 256 := hZ.2.1
theorem tapX.c {t : Nat} {X : Nat → Nat} {m : am_M} (hZ : tapX t X m) : m.1 0 2 = zn t := hZ.2.2.1
theorem tapX.cb {t : Nat} {X : Nat → Nat} {m : am_M} (hZ : tapX t X m) : ∀ i, i < t → m.1 3 i = (zn (X i)).toInt8.toInt32 := hZ.2.2.2.1
theorem tapX.r {t : Nat} {X : Nat → Nat} {m : am_M} (hZ : tapX t X m) : m.1 107 1 = zn t := hZ.2.2.2.2.1
theorem tapX.rb {t : Nat} {X : Nat → Nat} {m : am_M} (hZ : tapX t X m) : ∀ i, i < t → m.1 108 i = zn (X i) := hZ.2.2.2.2.2
def tapI (m : am_M) : Prop := ∃ (t : Nat) (X : Nat → Nat), tapX t X m
def fltI (m : am_M) : Prop := m.1 107 4 = m.1 0 3 ∧ m.1 107 5 = m.1 0 4
def cwd : List Nat := [679786720, 404144128, 441634816, 626398208, 217284608, 642945024, 404455424, 679777472, 646742016, 592630944, 658541920, 211419136, 404362240, 475056128, 556043424, 522190848, 48365568, 486146048, 647828480, 116823648, 202964992, 527892480, 378998784, 136085504, 780438784]
def rwd : List Nat := [116, 104, 105, 110, 103, 32, 108, 97, 109, 112, 32, 109, 101, 101, 116, 32, 114, 117, 108, 101, 32, 102, 111, 103, 32, 115, 101, 101, 100, 32, 108, 97, 119, 32, 116, 104, 105, 101, 102, 32, 115, 104, 121, 32, 113, 117, 101, 117, 101, 32, 115, 116, 97, 99, 107, 32, 102, 105, 116, 32, 108, 97, 116, 101, 32, 110, 101, 97, 114, 32, 112, 114, 105, 99, 101, 32, 97, 110, 100, 32, 111, 114, 32, 110, 111, 116, 32, 115, 105, 122, 101, 32, 99, 111, 109, 101, 115, 32, 102, 97, 114, 32, 111, 119, 110, 32, 107, 105, 110, 100, 32, 100, 97, 121, 32, 119, 104, 105, 99, 104, 32]
def cstI (m : am_M) : Prop := (∀ i, i < 25 → m.1 4 i = zn (cwd.getD i 0)) ∧ ∀ i, i < 121 → m.1 109 i = zn (rwd.getD i 0)

def Rest (T : Td) (q : Sq) (w : List Nat) (m : am_M) : Prop :=
  (tapI m)
  ∧ (fltI m)
  ∧ (cstI m)
  ∧ (imgI T m)
  ∧ (senI T m)
  ∧ (dedI T w q m)
theorem Rest.ta {T : Td} {q : Sq} {w : List Nat} {m : am_M} (hZ : Rest T q w m) : tapI m := hZ.1
theorem Rest.fa {T : Td} {q : Sq} {w : List Nat} {m : am_M} (hZ : Rest T q w m) : fltI m := hZ.2.1
theorem Rest.cs {T : Td} {q : Sq} {w : List Nat} {m : am_M} (hZ : Rest T q w m) : cstI m := hZ.2.2.1
theorem Rest.im {T : Td} {q : Sq} {w : List Nat} {m : am_M} (hZ : Rest T q w m) : imgI T m := hZ.2.2.2.1
theorem Rest.se {T : Td} {q : Sq} {w : List Nat} {m : am_M} (hZ : Rest T q w m) : senI T m := hZ.2.2.2.2.1
theorem Rest.de {T : Td} {q : Sq} {w : List Nat} {m : am_M} (hZ : Rest T q w m) : dedI T w q m := hZ.2.2.2.2.2
def Inv (m : am_M) : Prop := ∃ (T G F : Td) (q : Sq) (w : List Nat) (day num : Nat), Core T G F q w day num m ∧ Rest T q w m
theorem snp.mono {T : Td} {c b : Nat} {q : Sq} {m m' : am_M} (s : snp T c b q m) (e : m'.1 c = m.1 c) : snp T c b q m' := by
  unfold snp; rw [e]; exact s
theorem Core.qC {T G F : Td} {q : Sq} {w : List Nat} {day num : Nat} {m m' : am_M} (c : Core T G F q w day num m) (f : fqC m m') : Core T G F q w day num m' := by
  have hw := hw_len c.qw.hw; have := c.tw.n
  refine ⟨c.tc.q f, c.tr.mono (fun q _ _ => f.1 q (by omega)) (fun i _ _ => by rw [f.1 107 (by omega)]), c.tw, c.gw, c.gf, c.sc.mono (fun c _ _ => f.1 c (by omega)), by rw [f.1 71 (by omega)]; exact c.nc, ?_, c.qw, c.nb, c.db⟩
  exact c.nr.mono (by omega) c.tw.L c.tw.n (fun i _ => by rw [f.1 132 (by omega), f.1 133 (by omega), f.1 137 (by omega)]; exact ⟨rfl, rfl, rfl⟩) (by rw [f.1 134 (by omega)]) (by rw [f.1 135 (by omega)]) (f.1 136 (by omega)) (f.1 138 (by omega)) (f.1 139 (by omega)) (by rw [f.1 107 (by omega)]) (by rw [f.2 107 (by omega)])
theorem Core.qR {T G F : Td} {q : Sq} {w : List Nat} {day num : Nat} {m m' : am_M} (c : Core T G F q w day num m) (f : fqR m m') : Core T G F q w day num m' := by
  have hw := hw_len c.qw.hw; have := c.tw.n
  exact ⟨c.tc.mono (fun q _ _ => f.c q (by omega)), c.tr.q f, c.tw, c.gw, c.gf, c.sc.mono (fun c _ _ => f.c c (by omega)), by rw [f.c 71 (by omega)]; exact c.nc, c.nr.q (by omega) c.tw f, c.qw, c.nb, c.db⟩
theorem Rest.mono {T : Td} {q : Sq} {w : List Nat} {m m' : am_M} (r : Rest T q w m) (e : ∀ c, c ≤ 4 ∨ 78 ≤ c ∧ c ≤ 84 ∨ 97 ≤ c ∧ c ≤ 100 ∨ 102 ≤ c ∧ c ≤ 106 ∨ c = 108 ∨ c = 109 ∨ c = 148 ∨ 153 ≤ c → m'.1 c = m.1 c) (e1 : ∀ i, i = 1 ∨ i = 4 ∨ i = 5 ∨ i = 78 ∨ i = 79 ∨ i = 85 ∨ i = 87 ∨ i = 90 ∨ i = 91 → m'.1 107 i = m.1 107 i) (e2 : m'.2 107 92 = m.2 107 92) : Rest T q w m' := by
  refine ⟨?_, ?_, ?_, ?_, ?_, ?_⟩
  · obtain ⟨t, X, h⟩ := r.ta
    exact ⟨t, X, h.t, h.x, by rw [e 0 (by omega)]; exact h.c, by rw [e 3 (by omega)]; exact h.cb, by rw [e1 1 (by omega)]; exact h.r, by rw [e 108 (by omega)]; exact h.rb⟩
  · have := r.fa
    unfold fltI at this ⊢
    rw [e1 4 (by omega), e1 5 (by omega), e 0 (by omega)]; exact this
  · have := r.cs
    unfold cstI at this ⊢
    rw [e 4 (by omega), e 109 (by omega)]; exact this
  · have := r.im
    unfold imgI at this ⊢
    rw [e 0 (by omega), e1 87 (by omega)]
    rcases this with h | ⟨h1, h2, q, w, day, num, h3⟩
    · exact Or.inl h
    · exact Or.inr ⟨h1, h2, q, w, day, num, h3.qw, h3.nb, h3.db, h3.c.mono (fun c _ _ => e c (by omega)), by rw [e 78 (by omega)]; exact h3.cn, h3.r.mono (e 154 (by omega)), by rw [e 155 (by omega)]; exact h3.rw, by rw [e1 90 (by omega)]; exact h3.rl, by rw [e1 91 (by omega)]; exact h3.rd, by rw [e2]; exact h3.rn⟩
  · obtain ⟨n, o, S, h⟩ := r.se
    exact ⟨n, o, S, h.n, h.o, h.w0, h.w1, by rw [e 97 (by omega)]; exact h.cn, by rw [e 97 (by omega)]; exact h.co, by rw [e 98 (by omega)]; exact h.c0, by rw [e 100 (by omega)]; exact h.c1, by rw [e 99 (by omega), e 100 (by omega)]; exact h.c2, by rw [e1 78 (by omega)]; exact h.rn, by rw [e1 79 (by omega)]; exact h.ro, by rw [e 148 (by omega)]; exact h.r1, by rw [e 148 (by omega)]; exact h.r2⟩
  · obtain ⟨n, D, H, h⟩ := r.de
    exact ⟨n, D, H, h.n, h.hn, h.hw, h.un, h.wf, by rw [e 102 (by omega)]; exact h.cn, by rw [e 103 (by omega), e 104 (by omega), e 105 (by omega), e 106 (by omega)]; exact h.ck, by rw [e1 85 (by omega)]; exact h.rn, fun k hk => (h.rk k hk).mono (e 153 (by omega))⟩
theorem Rest.qC {T : Td} {q : Sq} {w : List Nat} {m m' : am_M} (r : Rest T q w m) (f : fqC m m') : Rest T q w m' := r.mono (fun c hc => f.1 c (by omega)) (fun i _ => by rw [f.1 107 (by omega)]) (by rw [f.2 107 (by omega)])
theorem Rest.qR {T : Td} {q : Sq} {w : List Nat} {m m' : am_M} (r : Rest T q w m) (f : fqR m m') : Rest T q w m' := r.mono (fun c hc => f.c c (by omega)) (fun i hi => f.f i (by omega)) f.r.2
theorem qW.sw {T : Td} {w : List Nat} {q : Sq} {day : Nat} (h : qW T w q) (W : tW T) (hd : day < 5000) : sw T q.1 q.2.1 q.2.2.1 day := ⟨by have := h.ol; have := W.L; omega, h.om, h.hu, h.ml, fun p hp => by have := h.ms p hp; omega, hd⟩
/-- a question: both answer alike, and all stays -/
def ask (y z : Nat) (a : List Value) : Prop := ∀ m, Inv m → ∃ r m1 m2, am_c 8 y (.ref 0 :: a) m = some (r, m1) ∧ am_c 8 z (.ref 107 :: a) m1 = some (r, m2) ∧ Inv m2
theorem ask_of {y z : Nat} {a : List Value} (hc : ∀ T G F q w day num m, Core T G F q w day num m → Rest T q w m → ∃ r m1, am_c 8 y (.ref 0 :: a) m = some (r, m1) ∧ fqC m m1 ∧ (Core T G F q w day num m1 → Rest T q w m1 → ∃ m2, am_c 8 z (.ref 107 :: a) m1 = some (r, m2) ∧ fqR m1 m2)) : ask y z a := by
  intro m ⟨T, G, F, q, w, day, num, c, r⟩
  obtain ⟨v, m1, a1, a2, a3⟩ := hc T G F q w day num m c r
  obtain ⟨m2, b1, b2⟩ := a3 (c.qC a2) (r.qC a2)
  exact ⟨v, m1, m2, a1, b1, T, G, F, q, w, day, num, (c.qC a2).qR b2, (r.qC a2).qR b2⟩
theorem k_own : ask y_C_own y_M_own [] := by
  refine ask_of fun T G F q w day num m c r => ⟨some (.int (zn (sp_own (T 0 0) q.2.2.2))), m, ?_, fqC_refl m, fun c1 r1 => ⟨_, ?_, fqR_th m (zn 0)⟩⟩
  · rw [n_C_own, s_countOwn (Or.inr (Or.inr (Or.inl rfl))) c.tw.n c.sc.n c.sc.dd c.qw.hw, bI_s]
  · have c2 := c1.qR (fqR_th m (zn 0))
    rw [n_M_own, s_ownIn (b := 0) (by omega) c.tw.n c2.tr.n (by intro i hi; rw [Nat.mul_zero, Nat.zero_add]; exact c2.nr.hs i hi) c.qw.hw, bI_s]
theorem k_wall (x : Int32) : ask y_C_wall y_M_wall [.int x] := by
  refine ask_of fun T G F q w day num m c r => ?_
  have := hw_len c.qw.hw; have := c.tw.n
  rcases i32_cases x with ⟨a, ha, rfl⟩ | hx
  · by_cases h : a < w.length
    · refine ⟨some (.int (zn (w.getD a 0))), m, ?_, fqC_refl m, fun c1 r1 => ⟨_, ?_, fqR_th m (zn 0)⟩⟩
      · rw [n_C_wall]; simp (disch := omega) only [w_ne, w_at, wl_ne, wl_at, wc_ne, wc_at, upd_at, upd_ne, upl_at, upl_ne, cpy_in0, zn_cl, zn_add, zn_mul, zn_sub, zn_pm, br_tt, br_ff, br_ltT, br_ltF, br_leT, br_leF, br_eqT, br_eqF, br_eqs, br_eqm, br_eqm', br_ltm, br_mlt, br_lem, br_mle, br_oiF, br_lgge, br_lgle, br_lggt, br_lglt, br_lgeq, br_zb, br_zb1, bV_s, bI_s, bL_s, zo_n, zo_s, c.sc.wl, c.sc.ws]
      · rw [n_M_wall]; simp (disch := omega) only [w_ne, w_at, wl_ne, wl_at, wc_ne, wc_at, upd_at, upd_ne, upl_at, upl_ne, cpy_in0, zn_cl, zn_add, zn_mul, zn_sub, zn_pm, br_tt, br_ff, br_ltT, br_ltF, br_leT, br_leF, br_eqT, br_eqF, br_eqs, br_eqm, br_eqm', br_ltm, br_mlt, br_lem, br_mle, br_oiF, br_lgge, br_lgle, br_lggt, br_lglt, br_lgeq, br_zb, br_zb1, bV_s, bI_s, bL_s, zo_n, zo_s, c1.nr.wl, c1.nr.ws]
    · refine ⟨some (.int zq), m, ?_, fqC_refl m, fun c1 r1 => ⟨_, ?_, fqR_th m (zn 0)⟩⟩
      · rw [n_C_wall]; simp (disch := omega) only [w_ne, w_at, wl_ne, wl_at, wc_ne, wc_at, upd_at, upd_ne, upl_at, upl_ne, cpy_in0, zn_cl, zn_add, zn_mul, zn_sub, zn_pm, br_tt, br_ff, br_ltT, br_ltF, br_leT, br_leF, br_eqT, br_eqF, br_eqs, br_eqm, br_eqm', br_ltm, br_mlt, br_lem, br_mle, br_oiF, br_lgge, br_lgle, br_lggt, br_lglt, br_lgeq, br_zb, br_zb1, bV_s, bI_s, bL_s, zo_n, zo_s, c.sc.wl]
      · rw [n_M_wall]; simp (disch := omega) only [w_ne, w_at, wl_ne, wl_at, wc_ne, wc_at, upd_at, upd_ne, upl_at, upl_ne, cpy_in0, zn_cl, zn_add, zn_mul, zn_sub, zn_pm, br_tt, br_ff, br_ltT, br_ltF, br_leT, br_leF, br_eqT, br_eqF, br_eqs, br_eqm, br_eqm', br_ltm, br_mlt, br_lem, br_mle, br_oiF, br_lgge, br_lgle, br_lggt, br_lglt, br_lgeq, br_zb, br_zb1, bV_s, bI_s, bL_s, zo_n, zo_s, c1.nr.wl]
  · refine ⟨some (.int zm), m, ?_, fqC_refl m, fun c1 r1 => ⟨_, ?_, fqR_th m (zn 0)⟩⟩
    · rw [n_C_wall, br_le, zn_i (by omega), if_neg (by omega)]
    · rw [n_M_wall]
      simp only [br_le, br_lt, zn_i (show 0 < 2147483648 by omega), if_pos (show x.toInt < (0 : Nat) by omega), if_neg (show ¬ ((0 : Nat) : Int) ≤ x.toInt by omega)]
