/-! the reference's tokens -/
def frw : List Nat := [0, 6, 11, 16, 21, 25, 30, 34, 40, 44, 50, 56, 60, 65, 70, 76, 80, 83, 87, 92, 98, 102, 106, 111, 115, 121]
def lnw : List Nat := [5, 4, 4, 4, 3, 4, 3, 5, 3, 5, 5, 3, 4, 4, 5, 3, 2, 3, 4, 5, 3, 3, 4, 3, 5]
def kk (k : Nat) : Nat := if k = 15 then 16 else if k = 16 then 15 else k
def wch (j i : Nat) : Nat := rwd.getD (frw.getD j 0 + i) 0
theorem wrd_ok : ∀ j, j < 25 → (∀ i, i < lnw.getD j 0 → wch j i ≠ 32 ∧ 97 ≤ wch j i ∧ wch j i ≤ 122) ∧ wch j (lnw.getD j 0) = 32 ∧ frw.getD (j + 1) 0 = frw.getD j 0 + (lnw.getD j 0 + 1) ∧ 0 < lnw.getD j 0 ∧ lnw.getD j 0 ≤ 5 ∧ frw.getD j 0 + lnw.getD j 0 < 121 ∧ pkp (wch j) 0 (lnw.getD j 0) = cwd.getD (kk j) 0 ∧ kk j < 25 ∧ kk (kk j) = j := by decide +kernel
theorem cwd_nd : ∀ i, i < 25 → ∀ j, j < 25 → cwd.getD i 0 = cwd.getD j 0 → i = j := by decide +kernel
theorem fr_25 : frw.getD 25 0 = 121 ∧ frw.getD 0 0 = 0 := by decide
def pk6 (u : Nat → Nat) : Nat := ((((u 0 * 32 + u 1) * 32 + u 2) * 32 + u 3) * 32 + u 4) * 32 + u 5
def ud (X : Nat → Nat) (a L i : Nat) : Nat := if i < L then X (a + i) - 96 else 0
theorem pkp_6u {X : Nat → Nat} {a L : Nat} (h : L ≤ 6) : pkp X a L = pk6 (ud X a L) := by
  rcases (by omega : L = 0 ∨ L = 1 ∨ L = 2 ∨ L = 3 ∨ L = 4 ∨ L = 5 ∨ L = 6) with e | e | e | e | e | e | e <;> subst e <;> simp [pkp, pk6, ud, Nat.shiftLeft_eq] <;> omega
theorem st32 {a b c d : Nat} (h : a * 32 + b = c * 32 + d) (hb : b < 32) (hd : d < 32) : a = c ∧ b = d := by omega
theorem pk6_inj {u v : Nat → Nat} (hu : ∀ i, u i < 32) (hv : ∀ i, v i < 32) (h : pk6 u = pk6 v) : ∀ i, i < 6 → u i = v i := by
  unfold pk6 at h
  obtain ⟨h, e5⟩ := st32 h (hu 5) (hv 5)
  obtain ⟨h, e4⟩ := st32 h (hu 4) (hv 4)
  obtain ⟨h, e3⟩ := st32 h (hu 3) (hv 3)
  obtain ⟨h, e2⟩ := st32 h (hu 2) (hv 2)
  obtain ⟨e0, e1⟩ := st32 h (hu 1) (hv 1)
  intro i hi
  rcases (by omega : i = 0 ∨ i = 1 ∨ i = 2 ∨ i = 3 ∨ i = 4 ∨ i = 5) with e | e | e | e | e | e <;> subst e <;> assumption
/-- is a word that of the list -/
def mtw (X : Nat → Nat) (a j : Nat) : Nat → Nat → Bool
  | 0, _ => true
  | r + 1, i => decide (wch j i = X (a + i)) && mtw X a j r (i + 1)
theorem mtw_t {X : Nat → Nat} {a j : Nat} (r : Nat) : ∀ i, mtw X a j r i = true ↔ ∀ k, i ≤ k → k < i + r → wch j k = X (a + k) := by
  induction r with
  | zero => intro i; exact ⟨fun _ k h1 h2 => by omega, fun _ => rfl⟩
  | succ r ih =>
    intro i
    rw [mtw, Bool.and_eq_true, decide_eq_true_eq, ih]
    constructor
    · intro ⟨h1, h2⟩ k h3 h4
      rcases (by omega : k = i ∨ i + 1 ≤ k) with e | e
      · rw [e]; exact h1
      · exact h2 k e (by omega)
    · intro h; exact ⟨h i (by omega) (by omega), fun k h1 h2 => h k (by omega) (by omega)⟩
def mtj (X : Nat → Nat) (a L j : Nat) : Bool := decide (lnw.getD j 0 = L) && mtw X a j (lnw.getD j 0) 0
theorem mtj_iff {X : Nat → Nat} {a L j : Nat} (hj : j < 25) (hL : L ≤ 6) (hl : ∀ i, i < L → ltr (X (a + i)) = true) : mtj X a L j = true ↔ cwd.getD (kk j) 0 = pkp X a L := by
  have hw := wrd_ok j hj
  unfold mtj
  rw [Bool.and_eq_true, decide_eq_true_eq, mtw_t, ← hw.2.2.2.2.2.2.1, pkp_6u (X := wch j) (by omega), pkp_6u (X := X) hL]
  constructor
  · intro ⟨h1, h2⟩
    congr 1
    funext i
    unfold ud
    rw [h1]
    by_cases g : i < L
    · rw [if_pos g, if_pos g, Nat.zero_add, h2 i (by omega) (by omega)]
    · rw [if_neg g, if_neg g]
  · intro h
    have d1 : ∀ i, ud (wch j) 0 (lnw.getD j 0) i < 32 := fun i => by
      unfold ud
      by_cases g : i < lnw.getD j 0
      · have := hw.1 i g; rw [if_pos g, Nat.zero_add]; omega
      · rw [if_neg g]; omega
    have d2 : ∀ i, ud X a L i < 32 := fun i => by
      unfold ud
      by_cases g : i < L
      · have : 97 ≤ X (a + i) ∧ X (a + i) ≤ 122 := of_decide_eq_true (hl i g)
        rw [if_pos g]; omega
      · rw [if_neg g]; omega
    have hi := pk6_inj d1 d2 h
    have hlen : lnw.getD j 0 = L := by
      rcases Nat.lt_trichotomy (lnw.getD j 0) L with q | q | q
      · have h1 := hi (lnw.getD j 0) (by omega)
        have : 97 ≤ X (a + lnw.getD j 0) ∧ X (a + lnw.getD j 0) ≤ 122 := of_decide_eq_true (hl _ q)
        unfold ud at h1
        rw [if_neg (by omega), if_pos q] at h1; omega
      · exact q
      · have h1 := hi L (by omega)
        have := hw.1 L q
        unfold ud at h1
        rw [if_pos q, if_neg (by omega), Nat.zero_add] at h1; omega
    refine ⟨hlen, fun k h1 h2 => ?_⟩
    have h3 := hi k (by omega)
    have : 97 ≤ X (a + k) ∧ X (a + k) ≤ 122 := of_decide_eq_true (hl k (by omega))
    have h4 := hw.1 k (by omega)
    unfold ud at h3
    rw [if_pos (by omega), if_pos (by omega), Nat.zero_add] at h3; omega
/-- the first word that it is -/
def rxw (X : Nat → Nat) (a L : Nat) : Nat → Nat → Option Nat
  | 0, _ => none
  | r + 1, j => if mtj X a L j = true then some j else rxw X a L r (j + 1)
theorem rxw_s {X : Nat → Nat} {a L k : Nat} (hk : mtj X a L k = true) (r : Nat) : ∀ j, j ≤ k → k < j + r → (∀ i, j ≤ i → i < j + r → mtj X a L i = true → i = k) → rxw X a L r j = some k := by
  induction r with
  | zero => intro j h1 h2; omega
  | succ r ih =>
    intro j h1 h2 hu
    rw [rxw]
    by_cases g : mtj X a L j = true
    · rw [if_pos g, hu j (by omega) (by omega) g]
    · rw [if_neg g]
      exact ih (j + 1) (by rcases (by omega : j = k ∨ j + 1 ≤ k) with e | e; (· rw [e] at g; exact absurd hk g); (· exact e)) (by omega) (fun i h3 h4 => hu i (by omega) (by omega))
theorem rxw_n {X : Nat → Nat} {a L : Nat} (r : Nat) : ∀ j, (∀ i, j ≤ i → i < j + r → mtj X a L i = false) → rxw X a L r j = none := by
  induction r with
  | zero => intro j _; rfl
  | succ r ih =>
    intro j h
    rw [rxw, h j (by omega) (by omega), if_neg (by simp)]
    exact ih (j + 1) (fun i h1 h2 => h i (by omega) (by omega))
theorem kx_in {c : Nat} (r : Nat) : ∀ w, w + r = 25 → (kx c r w < 25 → cwd.getD (kx c r w) 0 = c) ∧ (kx c r w = 25 → ∀ i, w ≤ i → i < 25 → cwd.getD i 0 ≠ c) := by
  induction r with
  | zero => intro w h; exact ⟨fun h1 => by rw [kx] at h1; omega, fun _ i h1 h2 => by omega⟩
  | succ r ih =>
    intro w h
    rw [kx]
    by_cases g : cwd.getD w 0 = c
    · rw [if_pos g]; exact ⟨fun _ => g, fun h1 => by omega⟩
    · rw [if_neg g]
      have := ih (w + 1) (by omega)
      refine ⟨this.1, fun h1 i h2 h3 => ?_⟩
      rcases (by omega : i = w ∨ w + 1 ≤ i) with e | e
      · rw [e]; exact g
      · exact this.2 h1 i e h3
theorem rxw_kx {X : Nat → Nat} {a L : Nat} (hL : L ≤ 6) (hl : ∀ i, i < L → ltr (X (a + i)) = true) : rxw X a L 25 0 = if kx (pkp X a L) 25 0 < 25 then some (kk (kx (pkp X a L) 25 0)) else none := by
  have h := kx_in (c := pkp X a L) 25 0 (by omega)
  have hle := kx_le (c := pkp X a L) 25 0 (by omega)
  by_cases g : kx (pkp X a L) 25 0 < 25
  · rw [if_pos g]
    have hk := wrd_ok (kx (pkp X a L) 25 0) g
    have hkk : kk (kx (pkp X a L) 25 0) < 25 := hk.2.2.2.2.2.2.2.1
    have hinv : kk (kk (kx (pkp X a L) 25 0)) = kx (pkp X a L) 25 0 := hk.2.2.2.2.2.2.2.2
    apply rxw_s
    · rw [mtj_iff hkk hL hl, hinv]; exact h.1 g
    · omega
    · omega
    · intro i h1 h2 h3
      rw [mtj_iff (by omega) hL hl, ← h.1 g] at h3
      have hi := wrd_ok i (by omega)
      have := cwd_nd (kk i) hi.2.2.2.2.2.2.2.1 _ g h3
      rw [← this]; exact hi.2.2.2.2.2.2.2.2.symm
  · rw [if_neg g]
    apply rxw_n
    intro i h1 h2
    cases q : mtj X a L i with
    | false => rfl
    | true =>
      rw [mtj_iff (by omega) hL hl] at q
      exact absurd q (h.2 (by omega) _ (Nat.zero_le _) (wrd_ok i (by omega)).2.2.2.2.2.2.2.1)
theorem rxw_big {X : Nat → Nat} {a L : Nat} (hL : 6 < L) : rxw X a L 25 0 = none := by
  apply rxw_n
  intro i h1 h2
  have := wrd_ok i (by omega)
  unfold mtj
  rw [decide_eq_false (by omega)]; rfl
/-! the machine -/
def tR2 (X : Nat → Nat) (n : Nat) (m : am_M) : Prop :=
  (n ≤ 700)
  ∧ (∀ i, i < n → X i < 256)
  ∧ (m.1 107 6 = zn n)
  ∧ (∀ i, i < n → m.1 108 i = zn (X i))
  ∧ (∀ i, i < 121 → m.1 109 i = zn (rwd.getD i 0))
theorem tR2.n {X : Nat → Nat} {n : Nat} {m : am_M} (hZ : tR2 X n m) : n ≤ 700 := hZ.1
theorem tR2.x {X : Nat → Nat} {n : Nat} {m : am_M} (hZ : tR2 X n m) : ∀ i, i < n → X i < 256 := hZ.2.1
theorem tR2.l {X : Nat → Nat} {n : Nat} {m : am_M} (hZ : tR2 X n m) : m.1 107 6 = zn n := hZ.2.2.1
theorem tR2.b {X : Nat → Nat} {n : Nat} {m : am_M} (hZ : tR2 X n m) : ∀ i, i < n → m.1 108 i = zn (X i) := hZ.2.2.2.1
theorem tR2.w {X : Nat → Nat} {n : Nat} {m : am_M} (hZ : tR2 X n m) : ∀ i, i < 121 → m.1 109 i = zn (rwd.getD i 0) := hZ.2.2.2.2
def fkR (m m' : am_M) : Prop := m'.2 = m.2 ∧ (∀ c, c ≠ 107 → m'.1 c = m.1 c) ∧ ∀ i, i < 7 ∨ 10 < i → m'.1 107 i = m.1 107 i
theorem fkR_tr {m m1 m2 : am_M} (h : fkR m m1) (g : fkR m1 m2) : fkR m m2 := ⟨g.1.trans h.1, fun c a => (g.2.1 c a).trans (h.2.1 c a), fun i a => (g.2.2 i a).trans (h.2.2 i a)⟩
theorem tR2.to {X : Nat → Nat} {n : Nat} {m m' : am_M} (h : tR2 X n m) (f : fkR m m') : tR2 X n m' := ⟨h.n, h.x, by rw [f.2.2 6 (by omega)]; exact h.l, by rw [f.2.1 108 (by omega)]; exact h.b, by rw [f.2.1 109 (by omega)]; exact h.w⟩
theorem lq_57 {X : Nat → Nat} {n d a b j : Nat} {m : am_M} (h : tR2 X n m) (hb : b ≤ n) (hab : a ≤ b) (hj : j < 25) (r : Nat) : ∀ i f fl, i + r = lnw.getD j 0 → r + 1 < f → (fl = true → lnw.getD j 0 = b - a) →
    ∃ f' y5 y6 y7, r_M_wordAt_57 d f (zn a) (zn b) (zn j) (zn (frw.getD j 0)) (zn (lnw.getD j 0)) (zb fl) (zn i) m = (if (fl && mtw X a j r i) = true then some (some (.int (zn j)), m) else r_M_wordAt_5 d f' (zn a) (zn b) (zn (j + 1)) (zn (frw.getD (j + 1) 0)) y5 y6 y7 m) ∧ f ≤ f' + r + 2 := by
  have hw := wrd_ok j hj
  have h7 := h.n
  induction r with
  | zero =>
    intro i f fl h1 h2 h3
    obtain ⟨f, rfl⟩ : ∃ g, f = g + 1 := ⟨f - 1, by omega⟩
    refine ⟨f, some (.int (zn (lnw.getD j 0))), some (.int (zb fl)), some (.int (zn i)), ?_, by omega⟩
    rw [e_M_wordAt_57, br_leT (by omega) (by omega), br_zb, mtw, Bool.and_true, zn_add, zn_add, zn_add, ← hw.2.2.1]
  | succ r ih =>
    intro i f fl h1 h2 h3
    obtain ⟨f, rfl⟩ : ∃ g, f = g + 1 := ⟨f - 1, by omega⟩
    cases fl with
    | false =>
      refine ⟨f, some (.int (zn (lnw.getD j 0))), some (.int (zb false)), some (.int (zn i)), ?_, by omega⟩
      rw [e_M_wordAt_57, br_leF (by omega) (by omega), br_zb, br_zb]
      simp only [Bool.false_eq_true, if_false, Bool.false_and]
      rw [zn_add, zn_add, zn_add, ← hw.2.2.1]
    | true =>
      have hL := h3 rfl
      have hx := h.x (a + i) (by omega)
      have hwi := hw.1 i (by omega)
      have e109 : m.1 109 (frw.getD j 0 + i) = zn (wch j i) := h.w _ (by omega)
      rw [mtw]
      by_cases g : wch j i = X (a + i)
      · obtain ⟨f', y5, y6, y7, b1, b2⟩ := ih (i + 1) f true (by omega) (by omega) h3
        refine ⟨f', y5, y6, y7, ?_, by omega⟩
        rw [e_M_wordAt_57, br_leF (by omega) (by omega), br_zb, if_pos rfl, zn_add, zn_add, br_oiF (by omega) (by omega), br_oiF (by omega) (by omega), zn_cl (by omega), zn_cl (by omega), e109, h.b _ (by omega), br_eqT g, decide_eq_true g, Bool.true_and, zn_add, ← zb_t, b1]
      · obtain ⟨f', y5, y6, y7, b1, b2⟩ := ih (i + 1) f false (by omega) (by omega) (by intro e; cases e)
        refine ⟨f', y5, y6, y7, ?_, by omega⟩
        rw [e_M_wordAt_57, br_leF (by omega) (by omega), br_zb, if_pos rfl, zn_add, zn_add, br_oiF (by omega) (by omega), br_oiF (by omega) (by omega), zn_cl (by omega), zn_cl (by omega), e109, h.b _ (by omega), br_eqF g (by omega) (by omega), decide_eq_false g, zn_add, ← zb_f, b1, Bool.false_and, Bool.true_and]
theorem lq_18 {X : Nat → Nat} {n d a b j : Nat} {x6 x7 : Option Value} {m : am_M} (h : tR2 X n m) (hb : b ≤ n) (hab : a ≤ b) (hj : j < 25) (r : Nat) : ∀ i f, i + r = lnw.getD j 0 → r < f →
    ∃ f', r_M_wordAt_18 d f (zn a) (zn b) (zn j) (zn (frw.getD j 0)) (zn i) x6 x7 m = r_M_wordAt_57 d f' (zn a) (zn b) (zn j) (zn (frw.getD j 0)) (zn (lnw.getD j 0)) (zb (decide (lnw.getD j 0 = b - a))) (zn 0) m ∧ f ≤ f' + r + 1 := by
  have hw := wrd_ok j hj
  have h7 := h.n
  induction r with
  | zero =>
    intro i f h1 h2
    obtain ⟨f, rfl⟩ : ∃ g, f = g + 1 := ⟨f - 1, by omega⟩
    have e109 : m.1 109 (frw.getD j 0 + i) = zn 32 := by rw [h.w _ (by omega), show i = lnw.getD j 0 from by omega]; exact congrArg zn hw.2.1
    refine ⟨f, ?_, by omega⟩
    rw [e_M_wordAt_18, zn_add, br_oiF (by omega) (by omega), zn_cl (by omega), e109, br_eqT rfl, zn_sub hab, show i = lnw.getD j 0 from by omega]
    by_cases g : lnw.getD j 0 = b - a
    · rw [br_eqT g, decide_eq_true g, zb_t]
    · rw [br_eqF g (by omega) (by omega), decide_eq_false g, zb_f]
  | succ r ih =>
    intro i f h1 h2
    obtain ⟨f, rfl⟩ : ∃ g, f = g + 1 := ⟨f - 1, by omega⟩
    have hwi := hw.1 i (by omega)
    have e109 : m.1 109 (frw.getD j 0 + i) = zn (wch j i) := h.w _ (by omega)
    obtain ⟨f', b1, b2⟩ := ih (i + 1) f (by omega) (by omega)
    refine ⟨f', ?_, by omega⟩
    rw [e_M_wordAt_18, zn_add, br_oiF (by omega) (by omega), zn_cl (by omega), e109, br_eqF hwi.1 (by omega) (by omega), zn_add, b1]
theorem lq_w5 {X : Nat → Nat} {n d a b : Nat} {m : am_M} (h : tR2 X n m) (hb : b ≤ n) (hab : a ≤ b) (r : Nat) : ∀ j f x5 x6 x7, j + r = 25 → 20 * r < f → r_M_wordAt_5 d f (zn a) (zn b) (zn j) (zn (frw.getD j 0)) x5 x6 x7 m = some (some (.int (zo (rxw X a (b - a) r j))), m) := by
  have h7 := h.n
  induction r with
  | zero =>
    intro j f x5 x6 x7 h1 h2
    obtain ⟨f, rfl⟩ : ∃ g, f = g + 1 := ⟨f - 1, by omega⟩
    rw [e_M_wordAt_5, show j = 25 from by omega, fr_25.1, br_leT (by omega) (by omega)]; rfl
  | succ r ih =>
    intro j f x5 x6 x7 h1 h2
    obtain ⟨f, rfl⟩ : ∃ g, f = g + 1 := ⟨f - 1, by omega⟩
    have hw := wrd_ok j (by omega)
    obtain ⟨f1, a1, a2⟩ := lq_18 (d := d) (x6 := x6) (x7 := x7) h hb hab (show j < 25 by omega) (lnw.getD j 0) 0 f (by omega) (by omega)
    obtain ⟨f2, y5, y6, y7, b1, b2⟩ := lq_57 (d := d) h hb hab (show j < 25 by omega) (lnw.getD j 0) 0 f1 (decide (lnw.getD j 0 = b - a)) (by omega) (by omega) (fun e => of_decide_eq_true e)
    rw [e_M_wordAt_5, br_leF (by omega) (by omega), a1, b1, rxw]
    unfold mtj
    by_cases g : (decide (lnw.getD j 0 = b - a) && mtw X a j (lnw.getD j 0) 0) = true
    · rw [if_pos g, if_pos g]; rfl
    · rw [if_neg g, if_neg g]
      exact ih (j + 1) f2 y5 y6 y7 (by omega) (by omega)
theorem s_wordAt {X : Nat → Nat} {n d a b : Nat} {m : am_M} (h : tR2 X n m) (hb : b ≤ n) (hab : a ≤ b) : am_c (d + 1) y_M_wordAt [.ref 107, .int (zn a), .int (zn b)] m = some (some (.int (zo (rxw X a (b - a) 25 0))), m) := by
  have := lq_w5 (d := d) h hb hab 25 0 29999 none none none (by omega) (by omega)
  rw [fr_25.2] at this
  rw [n_M_wordAt, this]
