/-! the nearest first: arrangements in the order in which they are met -/
abbrev Bt : Type := List (Nat × Nat × Nat × Nat)
def bx (B : Bt) (i : Nat) : Nat := (B.getD i (0, 0, 0, 0)).1
def bf (B : Bt) (i : Nat) : Nat := (B.getD i (0, 0, 0, 0)).2.1
def bb (B : Bt) (i : Nat) : Nat := (B.getD i (0, 0, 0, 0)).2.2.1
def bl (B : Bt) (i : Nat) : Nat := (B.getD i (0, 0, 0, 0)).2.2.2
theorem gd_l {B : Bt} {e : Nat × Nat × Nat × Nat} {i : Nat} (h : i < B.length) : (B ++ [e]).getD i (0, 0, 0, 0) = B.getD i (0, 0, 0, 0) := by
  rw [List.getD_eq_getElem?_getD, List.getD_eq_getElem?_getD, List.getElem?_append_left h]
theorem gd_r {B : Bt} {e : Nat × Nat × Nat × Nat} : (B ++ [e]).getD B.length (0, 0, 0, 0) = e := by simp
def bin (c0 : Nat) (B : Bt) (s : Nat) : Bool := B.any (fun e => Nat.beq (st c0 e.1) s)
theorem bin_t {c0 s : Nat} {B : Bt} : bin c0 B s = true ↔ ∃ i, i < B.length ∧ st c0 (bx B i) = s := by
  unfold bin
  rw [List.any_eq_true]
  constructor
  · rintro ⟨e, h1, h2⟩
    obtain ⟨i, hi, he⟩ := List.getElem_of_mem h1
    refine ⟨i, hi, ?_⟩
    unfold bx
    rw [List.getD_eq_getElem?_getD, List.getElem?_eq_getElem hi, he]
    exact Nat.eq_of_beq_eq_true h2
  · rintro ⟨i, hi, h2⟩
    refine ⟨B.getD i (0, 0, 0, 0), getD_mem B i _ hi, ?_⟩
    rw [← h2]; exact Nat.beq_refl _
def bA (c0 : Nat) (B : Bt) (x f b lv : Nat) : Bt := if bin c0 B (st c0 x) = true then B else B ++ [(x, f, b, lv)]
def bE (c0 x lv k : Nat) : List Nat → Nat → Bt → Bt
  | [], _, B => B
  | j :: t, b, B => bE c0 x lv k t (b + 1) (bA c0 B (nb x j) k b (lv + 1))
def bF (c0 : Nat) (J : List Nat) (g : Nat) : Nat → Nat → Bt → Option (Nat × Bt)
  | 0, _, _ => none
  | r + 1, k, B => if B.length ≤ k then none else if st c0 (bx B k) = g then some (k, B) else bF c0 J g r (k + 1) (bE c0 (bx B k) (bl B k) k J 0 B)
def wB (c0 : Nat) (J : List Nat) (B : Bt) : Prop :=
  (0 < B.length)
  ∧ (bx B 0 = 0 ∧ bl B 0 = 0)
  ∧ (∀ i, i < B.length → bx B i < 120)
  ∧ (∀ i i', i < B.length → i' < B.length → st c0 (bx B i) = st c0 (bx B i') → i = i')
  ∧ (∀ i, 0 < i → i < B.length → bf B i < i ∧ bb B i < J.length ∧ bl B i = bl B (bf B i) + 1)
  ∧ (∀ i, i < B.length → ∃ u : List Nat, u.length = bl B i ∧ (∀ j, j ∈ u → j ∈ J) ∧ wrd u = bx B i)
  ∧ (∀ i i', i ≤ i' → i' < B.length → bl B i ≤ bl B i')
  ∧ (∀ i, i < B.length → bl B i ≤ 10)
theorem wB.l {c0 : Nat} {J : List Nat} {B : Bt} (hZ : wB c0 J B) : 0 < B.length := hZ.1
theorem wB.r {c0 : Nat} {J : List Nat} {B : Bt} (hZ : wB c0 J B) : bx B 0 = 0 ∧ bl B 0 = 0 := hZ.2.1
theorem wB.x {c0 : Nat} {J : List Nat} {B : Bt} (hZ : wB c0 J B) : ∀ i, i < B.length → bx B i < 120 := hZ.2.2.1
theorem wB.nd {c0 : Nat} {J : List Nat} {B : Bt} (hZ : wB c0 J B) : ∀ i i', i < B.length → i' < B.length → st c0 (bx B i) = st c0 (bx B i') → i = i' := hZ.2.2.2.1
theorem wB.f {c0 : Nat} {J : List Nat} {B : Bt} (hZ : wB c0 J B) : ∀ i, 0 < i → i < B.length → bf B i < i ∧ bb B i < J.length ∧ bl B i = bl B (bf B i) + 1 := hZ.2.2.2.2.1
theorem wB.w {c0 : Nat} {J : List Nat} {B : Bt} (hZ : wB c0 J B) : ∀ i, i < B.length → ∃ u : List Nat, u.length = bl B i ∧ (∀ j, j ∈ u → j ∈ J) ∧ wrd u = bx B i := hZ.2.2.2.2.2.1
theorem wB.mo {c0 : Nat} {J : List Nat} {B : Bt} (hZ : wB c0 J B) : ∀ i i', i ≤ i' → i' < B.length → bl B i ≤ bl B i' := hZ.2.2.2.2.2.2.1
theorem wB.t {c0 : Nat} {J : List Nat} {B : Bt} (hZ : wB c0 J B) : ∀ i, i < B.length → bl B i ≤ 10 := hZ.2.2.2.2.2.2.2
/-- what is known of those already gone through -/
def cB (c0 : Nat) (J : List Nat) (B : Bt) (k : Nat) : Prop := ∀ i, i < k → i < B.length → ∀ j, j ∈ J → ∃ i', i' < B.length ∧ st c0 (bx B i') = st c0 (nb (bx B i) j) ∧ bl B i' ≤ bl B i + 1
theorem wB_len {c0 : Nat} {J : List Nat} {B : Bt} (h : wB c0 J B) : B.length ≤ 120 := by
  have h1 : ((List.range B.length).map (bx B)).Nodup := by
    unfold List.Nodup
    rw [List.pairwise_map]
    refine List.Pairwise.imp_of_mem ?_ (List.nodup_range (n := B.length))
    intro a b ha hb hab q
    exact hab (h.nd a b (List.mem_range.mp ha) (List.mem_range.mp hb) (by rw [q]))
  have h2 := nd_le _ (List.range 120) h1 (fun x hx => by
    obtain ⟨i, h3, h4⟩ := List.mem_map.mp hx
    rw [← h4]; exact List.mem_range.mpr (h.x i (List.mem_range.mp h3)))
  simpa using h2
/-- all that few swaps reach is met -/
theorem cB_all {c0 k : Nat} {J : List Nat} {B : Bt} (hJ : ∀ j, j ∈ J → j < 10) (h : wB c0 J B) (c : cB c0 J B k) (hk : k < B.length) (u : List Nat) : u.length ≤ bl B k → (∀ j, j ∈ u → j ∈ J) → ∃ i, i < B.length ∧ st c0 (bx B i) = st c0 (wrd u) ∧ bl B i ≤ u.length := by
  induction u with
  | nil => intro _ _; exact ⟨0, h.l, by rw [h.r.1]; rfl, by rw [h.r.2]; exact Nat.zero_le _⟩
  | cons j v ih =>
    intro h1 h2
    rw [List.length_cons] at h1
    have hv : ∀ j, j ∈ v → j ∈ J := fun x hx => h2 x (List.mem_cons_of_mem _ hx)
    have hj := h2 j (List.mem_cons_self ..)
    obtain ⟨i, a1, a2, a3⟩ := ih (by omega) hv
    have hik : i < k := by
      rcases Nat.lt_or_ge i k with q | q
      · exact q
      · have := h.mo k i q a1; omega
    obtain ⟨i', b1, b2, b3⟩ := c i hik a1 j hj
    refine ⟨i', b1, ?_, by rw [List.length_cons]; omega⟩
    rw [b2, st_nb (h.x i a1) (hJ j hj), a2, wrd, st_nb (wrd_lt (fun x hx => hJ x (hv x hx))) (hJ j hj)]
theorem bA_ok {c0 k b j : Nat} {J : List Nat} {B : Bt} (hJ : ∀ j, j ∈ J → j < 10) (h : wB c0 J B) (c : cB c0 J B k) (hk : k < B.length) (hm : ∀ i, i < B.length → bl B i ≤ bl B k + 1) (hj : j ∈ J) (hb : b < J.length) :
    wB c0 J (bA c0 B (nb (bx B k) j) k b (bl B k + 1)) ∧ cB c0 J (bA c0 B (nb (bx B k) j) k b (bl B k + 1)) k ∧ B.length ≤ (bA c0 B (nb (bx B k) j) k b (bl B k + 1)).length ∧ (∀ i, i < B.length → (bA c0 B (nb (bx B k) j) k b (bl B k + 1)).getD i (0, 0, 0, 0) = B.getD i (0, 0, 0, 0)) ∧ (∀ i, i < (bA c0 B (nb (bx B k) j) k b (bl B k + 1)).length → bl (bA c0 B (nb (bx B k) j) k b (bl B k + 1)) i ≤ bl B k + 1) ∧ ∃ i', i' < (bA c0 B (nb (bx B k) j) k b (bl B k + 1)).length ∧ st c0 (bx (bA c0 B (nb (bx B k) j) k b (bl B k + 1)) i') = st c0 (nb (bx B k) j) := by
  unfold bA
  by_cases g : bin c0 B (st c0 (nb (bx B k) j)) = true
  · rw [if_pos g]
    exact ⟨h, c, Nat.le_refl _, fun _ _ => rfl, hm, bin_t.mp g⟩
  · rw [if_neg g]
    have xk := h.x k hk
    have xn := (nb_ok _ xk j (hJ j hj)).1
    obtain ⟨u, u1, u2, u3⟩ := h.w k hk
    have hu : ∀ x, x ∈ j :: u → x ∈ J := fun x hx => by
      rcases List.mem_cons.mp hx with e | e
      · rw [e]; exact hj
      · exact u2 x e
    have h10 : bl B k + 1 ≤ 10 := by
      rcases Nat.lt_or_ge (bl B k) 10 with q | q
      · omega
      · exfalso
        have ht := h.t k hk
        obtain ⟨u', w1, w2, w3⟩ := W10 hJ hu
        obtain ⟨i, a1, a2, _⟩ := cB_all hJ h c hk u' (by omega) w2
        apply g
        rw [bin_t]
        refine ⟨i, a1, ?_⟩
        rw [a2, w3, wrd, u3]
    have e1 : ∀ i, i < B.length → (B ++ [(nb (bx B k) j, k, b, bl B k + 1)]).getD i (0, 0, 0, 0) = B.getD i (0, 0, 0, 0) := fun i hi => gd_l hi
    have len : (B ++ [(nb (bx B k) j, k, b, bl B k + 1)]).length = B.length + 1 := by rw [List.length_append, List.length_singleton]
    have x1 : ∀ i, i < B.length → bx (B ++ [(nb (bx B k) j, k, b, bl B k + 1)]) i = bx B i := fun i hi => congrArg (fun e => e.1) (e1 i hi)
    have l1 : ∀ i, i < B.length → bl (B ++ [(nb (bx B k) j, k, b, bl B k + 1)]) i = bl B i := fun i hi => congrArg (fun e => e.2.2.2) (e1 i hi)
    have f1 : ∀ i, i < B.length → bf (B ++ [(nb (bx B k) j, k, b, bl B k + 1)]) i = bf B i := fun i hi => congrArg (fun e => e.2.1) (e1 i hi)
    have b1 : ∀ i, i < B.length → bb (B ++ [(nb (bx B k) j, k, b, bl B k + 1)]) i = bb B i := fun i hi => congrArg (fun e => e.2.2.1) (e1 i hi)
    have x2 : bx (B ++ [(nb (bx B k) j, k, b, bl B k + 1)]) B.length = nb (bx B k) j := congrArg (fun e : Nat × Nat × Nat × Nat => e.1) gd_r
    have l2 : bl (B ++ [(nb (bx B k) j, k, b, bl B k + 1)]) B.length = bl B k + 1 := congrArg (fun e : Nat × Nat × Nat × Nat => e.2.2.2) gd_r
    have f2 : bf (B ++ [(nb (bx B k) j, k, b, bl B k + 1)]) B.length = k := congrArg (fun e : Nat × Nat × Nat × Nat => e.2.1) gd_r
    have b2 : bb (B ++ [(nb (bx B k) j, k, b, bl B k + 1)]) B.length = b := congrArg (fun e : Nat × Nat × Nat × Nat => e.2.2.1) gd_r
    have old : ∀ i, i < B.length + 1 → i < B.length ∨ i = B.length := fun i hi => by omega
    refine ⟨⟨by rw [len]; omega, ?_, ?_, ?_, ?_, ?_, ?_, ?_⟩, ?_, by rw [len]; omega, e1, ?_, ⟨B.length, by rw [len]; omega, by rw [x2]⟩⟩
    · rw [x1 0 h.l, l1 0 h.l]; exact h.r
    · intro i hi
      rw [len] at hi
      rcases old i hi with q | q
      · rw [x1 i q]; exact h.x i q
      · subst q; rw [x2]; exact xn
    · intro i i' hi hi' e
      rw [len] at hi hi'
      rcases old i hi with q | q
      · rcases old i' hi' with q' | q'
        · rw [x1 i q, x1 i' q'] at e; exact h.nd i i' q q' e
        · subst q'
          rw [x1 i q, x2] at e
          exact absurd (bin_t.mpr ⟨i, q, e⟩) g
      · rcases old i' hi' with q' | q'
        · subst q
          rw [x1 i' q', x2] at e
          exact absurd (bin_t.mpr ⟨i', q', e.symm⟩) g
        · omega
    · intro i h0 hi
      rw [len] at hi
      rcases old i hi with q | q
      · have hf := h.f i h0 q
        rw [f1 i q, b1 i q, l1 i q, l1 _ (by omega)]; exact hf
      · subst q
        rw [f2, b2, l2, l1 k hk]; exact ⟨hk, hb, rfl⟩
    · intro i hi
      rw [len] at hi
      rcases old i hi with q | q
      · rw [x1 i q, l1 i q]; exact h.w i q
      · subst q
        rw [x2, l2]
        exact ⟨j :: u, by rw [List.length_cons, u1], hu, by rw [wrd, u3]⟩
    · intro i i' h1 hi'
      rw [len] at hi'
      rcases old i' hi' with q | q
      · rw [l1 i (by omega), l1 i' q]; exact h.mo i i' h1 q
      · subst q
        rw [l2]
        rcases old i (by omega) with q | q
        · rw [l1 i q]; exact hm i q
        · subst q; rw [l2]; exact Nat.le_refl _
    · intro i hi
      rw [len] at hi
      rcases old i hi with q | q
      · rw [l1 i q]; exact h.t i q
      · subst q; rw [l2]; exact h10
    · intro i hik hi j' hj'
      have hiB : i < B.length := by omega
      obtain ⟨i', a1, a2, a3⟩ := c i hik hiB j' hj'
      exact ⟨i', by rw [len]; omega, by rw [x1 i' a1, x1 i hiB]; exact a2, by rw [l1 i' a1, l1 i hiB]; exact a3⟩
    · intro i hi
      rw [len] at hi
      rcases old i hi with q | q
      · rw [l1 i q]; exact hm i q
      · subst q; rw [l2]; exact Nat.le_refl _
theorem bE_ok {c0 k : Nat} {J : List Nat} (hJ : ∀ j, j ∈ J → j < 10) {X L : Nat} (t : List Nat) : ∀ (b : Nat) (B : Bt), (∀ j, j ∈ t → j ∈ J) → b + t.length = J.length → wB c0 J B → cB c0 J B k → k < B.length → bx B k = X → bl B k = L → (∀ i, i < B.length → bl B i ≤ L + 1) →
    wB c0 J (bE c0 X L k t b B) ∧ cB c0 J (bE c0 X L k t b B) k ∧ B.length ≤ (bE c0 X L k t b B).length ∧ (∀ i, i < B.length → (bE c0 X L k t b B).getD i (0, 0, 0, 0) = B.getD i (0, 0, 0, 0)) ∧ (∀ i, i < (bE c0 X L k t b B).length → bl (bE c0 X L k t b B) i ≤ L + 1) ∧ ∀ j, j ∈ t → ∃ i', i' < (bE c0 X L k t b B).length ∧ st c0 (bx (bE c0 X L k t b B) i') = st c0 (nb X j) := by
  induction t with
  | nil => intro b B _ _ h c hk _ _ hm; exact ⟨h, c, Nat.le_refl _, fun _ _ => rfl, hm, fun j hj => by cases hj⟩
  | cons j t ih =>
    intro b B ht hb h c hk hX hL hm
    rw [List.length_cons] at hb
    have hj := ht j (List.mem_cons_self ..)
    obtain ⟨a1, a2, a3, a4, a5, a6⟩ := bA_ok hJ h c hk (by rw [hL]; exact hm) hj (b := b) (by omega)
    rw [hX, hL] at a1 a2 a3 a4 a5 a6
    have xk : bx (bA c0 B (nb X j) k b (L + 1)) k = X := (congrArg (fun e => e.1) (a4 k hk)).trans hX
    have lk : bl (bA c0 B (nb X j) k b (L + 1)) k = L := (congrArg (fun e => e.2.2.2) (a4 k hk)).trans hL
    obtain ⟨b1, b2, b3, b4, b5, b6⟩ := ih (b + 1) (bA c0 B (nb X j) k b (L + 1)) (fun x hx => ht x (List.mem_cons_of_mem _ hx)) (by omega) a1 a2 (by omega) xk lk a5
    rw [bE]
    refine ⟨b1, b2, Nat.le_trans a3 b3, fun i hi => by rw [b4 i (by omega), a4 i hi], b5, fun x hx => ?_⟩
    rcases List.mem_cons.mp hx with e | e
    · subst e
      obtain ⟨i', q1, q2⟩ := a6
      refine ⟨i', by omega, ?_⟩
      have e : bx (bE c0 X L k t (b + 1) (bA c0 B (nb X x) k b (L + 1))) i' = bx (bA c0 B (nb X x) k b (L + 1)) i' := congrArg (fun e => e.1) (b4 i' q1)
      rw [e]; exact q2
    · exact b6 x e
/-- one node gone through -/
theorem bE_step {c0 k : Nat} {J : List Nat} {B : Bt} (hJ : ∀ j, j ∈ J → j < 10) (h : wB c0 J B) (c : cB c0 J B k) (hk : k < B.length) (hm : ∀ i, i < B.length → bl B i ≤ bl B k + 1) :
    wB c0 J (bE c0 (bx B k) (bl B k) k J 0 B) ∧ cB c0 J (bE c0 (bx B k) (bl B k) k J 0 B) (k + 1) ∧ (∀ i, i < (bE c0 (bx B k) (bl B k) k J 0 B).length → k + 1 < (bE c0 (bx B k) (bl B k) k J 0 B).length → bl (bE c0 (bx B k) (bl B k) k J 0 B) i ≤ bl (bE c0 (bx B k) (bl B k) k J 0 B) (k + 1) + 1) := by
  obtain ⟨a1, a2, a3, a4, a5, a6⟩ := bE_ok hJ J 0 B (fun _ h => h) (by omega) h c hk rfl rfl hm
  have xk : bx (bE c0 (bx B k) (bl B k) k J 0 B) k = bx B k := congrArg (fun e => e.1) (a4 k hk)
  have lk : bl (bE c0 (bx B k) (bl B k) k J 0 B) k = bl B k := congrArg (fun e => e.2.2.2) (a4 k hk)
  refine ⟨a1, fun i hi hil j hj => ?_, fun i hi hk1 => ?_⟩
  · rcases Nat.lt_or_ge i k with q | q
    · exact a2 i q hil j hj
    · have : i = k := by omega
      subst this
      obtain ⟨i', q1, q2⟩ := a6 j hj
      exact ⟨i', q1, by rw [xk]; exact q2, by rw [lk]; exact a5 i' q1⟩
  · have := a5 i hi
    have := a1.mo k (k + 1) (by omega) hk1
    rw [lk] at this
    omega
def B0 : Bt := [(0, 0, 0, 0)]
theorem wB_0 {c0 : Nat} {J : List Nat} : wB c0 J B0 := by
  have len : B0.length = 1 := rfl
  refine ⟨by rw [len]; omega, ⟨rfl, rfl⟩, ?_, ?_, ?_, ?_, ?_, ?_⟩
  · intro i hi; rw [len] at hi; have : i = 0 := by omega
    subst this; show 0 < 120; omega
  · intro i i' hi hi' _; rw [len] at hi hi'; omega
  · intro i h0 hi; rw [len] at hi; omega
  · intro i hi; rw [len] at hi; have : i = 0 := by omega
    subst this; exact ⟨[], rfl, (fun j hj => (by cases hj)), rfl⟩
  · intro i i' h1 hi; rw [len] at hi; have : i = 0 := by omega
    subst this; have : i' = 0 := by omega
    subst this; exact Nat.le_refl _
  · intro i hi; rw [len] at hi; have : i = 0 := by omega
    subst this; show 0 ≤ 10; omega
/-- the way from the first to one -/
def trc (B : Bt) : Nat → Nat → List Nat
  | 0, _ => []
  | n + 1, k => trc B n (bf B k) ++ [bb B k]
theorem trc_len {B : Bt} (n : Nat) : ∀ k, (trc B n k).length = n := by
  induction n with
  | zero => intro k; rfl
  | succ n ih => intro k; rw [trc, List.length_append, ih, List.length_singleton]
theorem trc_at {B : Bt} {n k : Nat} : (trc B (n + 1) k).getD n 0 = bb B k := by
  rw [trc, List.getD_eq_getElem?_getD, List.getElem?_append_right (by rw [trc_len]; exact Nat.le_refl _), trc_len, Nat.sub_self]; rfl
theorem trc_lo {B : Bt} {n k i : Nat} (h : i < n) : (trc B (n + 1) k).getD i 0 = (trc B n (bf B k)).getD i 0 := by
  rw [trc, List.getD_eq_getElem?_getD, List.getElem?_append_left (by rw [trc_len]; exact h), List.getD_eq_getElem?_getD]
theorem wB_up {c0 k : Nat} {J : List Nat} {B : Bt} (h : wB c0 J B) (hk : k < B.length) : (k = 0 ∧ bl B k = 0) ∨ (0 < k ∧ bf B k < k ∧ bb B k < J.length ∧ bl B k = bl B (bf B k) + 1) := by
  rcases Nat.eq_zero_or_pos k with q | q
  · subst q; exact Or.inl ⟨rfl, h.r.2⟩
  · exact Or.inr ⟨q, h.f k q hk⟩
theorem trc_in {c0 : Nat} {J : List Nat} {B : Bt} (h : wB c0 J B) (n : Nat) : ∀ k, k < B.length → bl B k = n → ∀ i, i < n → (trc B n k).getD i 0 < J.length := by
  induction n with
  | zero => intro k _ _ i hi; omega
  | succ n ih =>
    intro k hk hl i hi
    rcases wB_up h hk with q | ⟨q1, q2, q3, q4⟩
    · omega
    · rcases Nat.lt_or_ge i n with g | g
      · rw [trc_lo g]; exact ih (bf B k) (by omega) (by omega) i g
      · have : i = n := by omega
        subst this; rw [trc_at]; exact q3
