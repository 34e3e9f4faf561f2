/-! words of swaps -/
theorem chk_all {μ : Nat} (h : μ < 1024) : chk μ = true := by
  have key : ∀ k, chks k 64 = true → k ≤ μ → μ < k + 64 → chk μ = true := by
    intro k hk h1 h2
    have := List.all_eq_true.mp hk (μ - k) (List.mem_range.mpr (by omega))
    rwa [show k + (μ - k) = μ from by omega] at this
  by_cases c0 : μ < 64
  · exact key 0 chk_0 (by omega) c0
  by_cases c1 : μ < 128
  · exact key 64 chk_1 (by omega) c1
  by_cases c2 : μ < 192
  · exact key 128 chk_2 (by omega) c2
  by_cases c3 : μ < 256
  · exact key 192 chk_3 (by omega) c3
  by_cases c4 : μ < 320
  · exact key 256 chk_4 (by omega) c4
  by_cases c5 : μ < 384
  · exact key 320 chk_5 (by omega) c5
  by_cases c6 : μ < 448
  · exact key 384 chk_6 (by omega) c6
  by_cases c7 : μ < 512
  · exact key 448 chk_7 (by omega) c7
  by_cases c8 : μ < 576
  · exact key 512 chk_8 (by omega) c8
  by_cases c9 : μ < 640
  · exact key 576 chk_9 (by omega) c9
  by_cases c10 : μ < 704
  · exact key 640 chk_10 (by omega) c10
  by_cases c11 : μ < 768
  · exact key 704 chk_11 (by omega) c11
  by_cases c12 : μ < 832
  · exact key 768 chk_12 (by omega) c12
  by_cases c13 : μ < 896
  · exact key 832 chk_13 (by omega) c13
  by_cases c14 : μ < 960
  · exact key 896 chk_14 (by omega) c14
  by_cases c15 : μ < 1024
  · exact key 960 chk_15 (by omega) c15
  omega
def wrd : List Nat → Nat
  | [] => 0
  | j :: u => nb (wrd u) j
theorem wrd_lt {u : List Nat} (h : ∀ j, j ∈ u → j < 10) : wrd u < 120 := by
  induction u with
  | nil => show 0 < 120; omega
  | cons j u ih => exact (nb_ok _ (ih (fun x hx => h x (List.mem_cons_of_mem _ hx))) j (h j (List.mem_cons_self ..))).1
def okW (js : List Nat) (k i : Nat) : Prop := ∃ u, u.length ≤ k ∧ (∀ j, j ∈ u → j ∈ js) ∧ wrd u = i
theorem okW_step {js : List Nat} {k i j : Nat} (h : okW js k i) (hj : j ∈ js) : okW js (k + 1) (nb i j) := by
  obtain ⟨u, h1, h2, h3⟩ := h
  refine ⟨j :: u, by rw [List.length_cons]; omega, ?_, by rw [wrd, h3]⟩
  intro x hx
  rcases List.mem_cons.mp hx with e | e
  · rw [e]; exact hj
  · exact h2 x e
theorem tb_or {V x y : Nat} : Nat.testBit (V ||| 2 ^ x) y = (Nat.testBit V y || decide (x = y)) := by rw [Nat.testBit_or, Nat.testBit_two_pow]
theorem ex1_ok {P : Nat → Prop} {i : Nat} (t : List Nat) : ∀ (V : Nat) (N : List Nat), (∀ x, Nat.testBit V x = true → P x) → (∀ j, j ∈ t → P (nb i j)) →
    (∀ x, Nat.testBit (ex1 i t V N).1 x = true → P x) ∧ (∀ x, Nat.testBit V x = true → Nat.testBit (ex1 i t V N).1 x = true) ∧ (∀ j, j ∈ t → Nat.testBit (ex1 i t V N).1 (nb i j) = true) ∧ (∀ x, Nat.testBit (ex1 i t V N).1 x = true → Nat.testBit V x = true ∨ x ∈ (ex1 i t V N).2) ∧ (∀ x, x ∈ N → x ∈ (ex1 i t V N).2) ∧ ((∀ x, x ∈ N → P x) → ∀ x, x ∈ (ex1 i t V N).2 → P x) := by
  induction t with
  | nil => intro V N h1 h2; exact ⟨h1, fun _ h => h, (fun j hj => (by cases hj)), fun _ h => Or.inl h, fun _ h => h, fun h => h⟩
  | cons j t ih =>
    intro V N h1 h2
    rw [ex1]
    have hj := h2 j (List.mem_cons_self ..)
    have ht : ∀ j, j ∈ t → P (nb i j) := fun x hx => h2 x (List.mem_cons_of_mem _ hx)
    by_cases g : Nat.testBit V (nb i j) = true
    · rw [if_pos g]
      obtain ⟨a1, a2, a3, a4, a5, a6⟩ := ih V N h1 ht
      refine ⟨a1, a2, fun x hx => ?_, a4, a5, a6⟩
      rcases List.mem_cons.mp hx with e | e
      · rw [e]; exact a2 _ g
      · exact a3 x e
    · rw [if_neg g]
      have hV : ∀ x, Nat.testBit (V ||| 2 ^ nb i j) x = true → P x := fun x hx => by
        rw [tb_or, Bool.or_eq_true, decide_eq_true_eq] at hx
        rcases hx with e | e
        · exact h1 x e
        · rw [← e]; exact hj
      obtain ⟨a1, a2, a3, a4, a5, a6⟩ := ih (V ||| 2 ^ nb i j) (nb i j :: N) hV ht
      have own : Nat.testBit (V ||| 2 ^ nb i j) (nb i j) = true := by rw [tb_or, decide_eq_true rfl, Bool.or_true]
      refine ⟨a1, fun x hx => a2 x (by rw [tb_or, hx, Bool.true_or]), fun x hx => ?_, fun x hx => ?_, fun x hx => a5 x (List.mem_cons_of_mem _ hx), fun hN => a6 (fun x hx => ?_)⟩
      · rcases List.mem_cons.mp hx with e | e
        · rw [e]; exact a2 _ own
        · exact a3 x e
      · rcases a4 x hx with e | e
        · rw [tb_or, Bool.or_eq_true, decide_eq_true_eq] at e
          rcases e with e | e
          · exact Or.inl e
          · exact Or.inr (a5 x (by rw [← e]; exact List.mem_cons_self ..))
        · exact Or.inr e
      · rcases List.mem_cons.mp hx with e | e
        · rw [e]; exact hj
        · exact hN x e
theorem ly_ok {P : Nat → Prop} {js : List Nat} (t : List Nat) : ∀ (V : Nat) (N : List Nat), (∀ x, Nat.testBit V x = true → P x) → (∀ i, i ∈ t → ∀ j, j ∈ js → P (nb i j)) →
    (∀ x, Nat.testBit (ly js t V N).1 x = true → P x) ∧ (∀ x, Nat.testBit V x = true → Nat.testBit (ly js t V N).1 x = true) ∧ (∀ i, i ∈ t → ∀ j, j ∈ js → Nat.testBit (ly js t V N).1 (nb i j) = true) ∧ (∀ x, Nat.testBit (ly js t V N).1 x = true → Nat.testBit V x = true ∨ x ∈ (ly js t V N).2) ∧ (∀ x, x ∈ N → x ∈ (ly js t V N).2) ∧ ((∀ x, x ∈ N → P x) → ∀ x, x ∈ (ly js t V N).2 → P x) := by
  induction t with
  | nil => intro V N h1 h2; exact ⟨h1, fun _ h => h, (fun j hj => (by cases hj)), fun _ h => Or.inl h, fun _ h => h, fun h => h⟩
  | cons i t ih =>
    intro V N h1 h2
    rw [ly]
    obtain ⟨a1, a2, a3, a4, a5, a6⟩ := ex1_ok (i := i) js V N h1 (h2 i (List.mem_cons_self ..))
    obtain ⟨b1, b2, b3, b4, b5, b6⟩ := ih (ex1 i js V N).1 (ex1 i js V N).2 a1 (fun x hx => h2 x (List.mem_cons_of_mem _ hx))
    refine ⟨b1, fun x hx => b2 x (a2 x hx), fun x hx j hj => ?_, fun x hx => ?_, fun x hx => b5 x (a5 x hx), fun hN => b6 (a6 hN)⟩
    · rcases List.mem_cons.mp hx with e | e
      · rw [e]; exact b2 _ (a3 j hj)
      · exact b3 x e j hj
    · rcases b4 x hx with e | e
      · rcases a4 x e with e | e
        · exact Or.inl e
        · exact Or.inr (b5 x e)
      · exact Or.inr e
def iL (js : List Nat) (k V : Nat) (N : List Nat) : Prop := (∀ x, Nat.testBit V x = true → okW js k x) ∧ (∀ x, x ∈ N → okW js k x) ∧ ∀ x, Nat.testBit V x = true → x ∈ N ∨ ∀ j, j ∈ js → Nat.testBit V (nb x j) = true
theorem okW_mono {js : List Nat} {k i : Nat} (h : okW js k i) : okW js (k + 1) i := by
  obtain ⟨u, h1, h2, h3⟩ := h
  exact ⟨u, by omega, h2, h3⟩
theorem iL_step {js : List Nat} {k V : Nat} {N : List Nat} (h : iL js k V N) : iL js (k + 1) (ly js N V []).1 (ly js N V []).2 ∧ (∀ x, Nat.testBit V x = true → Nat.testBit (ly js N V []).1 x = true) ∧ (∀ i, i ∈ N → ∀ j, j ∈ js → Nat.testBit (ly js N V []).1 (nb i j) = true) := by
  obtain ⟨a1, a2, a3, a4, a5, a6⟩ := ly_ok (P := okW js (k + 1)) (js := js) N V [] (fun x hx => okW_mono (h.1 x hx)) (fun i hi j hj => okW_step (h.2.1 i hi) hj)
  refine ⟨⟨a1, a6 (fun x hx => by cases hx), fun x hx => ?_⟩, a2, a3⟩
  rcases a4 x hx with e | e
  · rcases h.2.2 x e with q | q
    · exact Or.inr (fun j hj => a3 x q j hj)
    · exact Or.inr (fun j hj => a2 _ (q j hj))
  · exact Or.inl e
theorem iL_lys {js : List Nat} (n : Nat) : ∀ k V N, iL js k V N → iL js (k + n) (lys js n V N).1 (lys js n V N).2 ∧ ∀ x, Nat.testBit V x = true → Nat.testBit (lys js n V N).1 x = true := by
  induction n with
  | zero => intro k V N h; exact ⟨h, fun _ h => h⟩
  | succ n ih =>
    intro k V N h
    rw [lys]
    obtain ⟨a1, a2, _⟩ := iL_step h
    obtain ⟨b1, b2⟩ := ih (k + 1) _ _ a1
    rw [show k + 1 + n = k + (n + 1) from by omega] at b1
    exact ⟨b1, fun x hx => b2 x (a2 x hx)⟩
theorem w10_js {μ : Nat} (h : chk μ = true) {u : List Nat} (hu : ∀ j, j ∈ u → j ∈ jsM μ) : okW (jsM μ) 10 (wrd u) := by
  have h0 : iL (jsM μ) 0 1 [0] := by
    have b1 : ∀ x, Nat.testBit 1 x = true → x = 0 := fun x hx => by
      rw [show (1 : Nat) = 2 ^ 0 from rfl, Nat.testBit_two_pow, decide_eq_true_eq] at hx; exact hx.symm
    have w0 : okW (jsM μ) 0 0 := ⟨[], Nat.le_refl _, (fun j hj => (by cases hj)), rfl⟩
    exact ⟨fun x hx => by rw [b1 x hx]; exact w0, fun x hx => by rw [List.mem_singleton.mp hx]; exact w0, fun x hx => Or.inl (by rw [b1 x hx]; exact List.mem_singleton.mpr rfl)⟩
  obtain ⟨a1, a2⟩ := iL_lys 10 0 1 [0] h0
  rw [Nat.zero_add] at a1
  obtain ⟨b1, b2, b3⟩ := iL_step a1
  have e : (ly (jsM μ) (lys (jsM μ) 10 1 [0]).2 (lys (jsM μ) 10 1 [0]).1 []).1 = (lys (jsM μ) 10 1 [0]).1 := Nat.eq_of_beq_eq_true h
  rw [e] at b3
  have cl : ∀ x, Nat.testBit (lys (jsM μ) 10 1 [0]).1 x = true → ∀ j, j ∈ jsM μ → Nat.testBit (lys (jsM μ) 10 1 [0]).1 (nb x j) = true := fun x hx j hj => by
    rcases a1.2.2 x hx with q | q
    · exact b3 x q j hj
    · exact q j hj
  have all : ∀ u : List Nat, (∀ j, j ∈ u → j ∈ jsM μ) → Nat.testBit (lys (jsM μ) 10 1 [0]).1 (wrd u) = true := by
    intro u
    induction u with
    | nil => intro _; exact a2 0 rfl
    | cons j u ih => intro hu; exact cl _ (ih (fun x hx => hu x (List.mem_cons_of_mem _ hx))) j (hu j (List.mem_cons_self ..))
  exact a1.1 _ (all u hu)
def mkM : List Nat → Nat
  | [] => 0
  | j :: t => mkM t ||| 2 ^ j
theorem mkM_tb (J : List Nat) (j : Nat) : Nat.testBit (mkM J) j = decide (j ∈ J) := by
  induction J with
  | nil => rw [mkM, Nat.zero_testBit]; simp
  | cons x t ih =>
    rw [mkM, tb_or, ih]
    by_cases e : x = j
    · subst e; simp
    · have e2 : ¬ j = x := fun q => e q.symm
      simp [e, e2]
theorem mkM_lt {J : List Nat} (h : ∀ j, j ∈ J → j < 10) : mkM J < 1024 := by
  induction J with
  | nil => show 0 < 1024; omega
  | cons x t ih =>
    rw [mkM]
    exact Nat.or_lt_two_pow (n := 10) (ih (fun y hy => h y (List.mem_cons_of_mem _ hy))) (Nat.pow_lt_pow_right (by omega) (h x (List.mem_cons_self ..)))
/-- ten swaps are enough -/
theorem W10 {J : List Nat} (h : ∀ j, j ∈ J → j < 10) {u : List Nat} (hu : ∀ j, j ∈ u → j ∈ J) : okW J 10 (wrd u) := by
  have mem : ∀ j, j ∈ jsM (mkM J) ↔ j ∈ J := by
    intro j
    unfold jsM
    rw [List.mem_filter, mkM_tb, decide_eq_true_eq, List.mem_range]
    exact ⟨fun q => q.2, fun q => ⟨h j q, q⟩⟩
  obtain ⟨u', h1, h2, h3⟩ := w10_js (chk_all (mkM_lt h)) (u := u) (fun j hj => (mem j).mpr (hu j hj))
  exact ⟨u', h1, fun j hj => (mem j).mp (h2 j hj), h3⟩
/-! arrangements of what is had -/
def st (c0 i : Nat) : Nat := cod (fun t => dg c0 (dg (pc i) t))
theorem st_lt {c0 i : Nat} : st c0 i < 32768 := cod_lt (fun _ _ => dg_lt)
theorem dg_st {c0 i t : Nat} (ht : t < 5) : dg (st c0 i) t = dg c0 (dg (pc i) t) := dg_cod (v := fun t => dg c0 (dg (pc i) t)) (fun _ _ => dg_lt) ht
theorem st_0 {c0 : Nat} (h : c0 < 32768) : st c0 0 = c0 := dg_ext st_lt h (fun t ht => by rw [dg_st ht, pc_0 t ht])
theorem st_nb {c0 i j : Nat} (hi : i < 120) (hj : j < 10) : st c0 (nb i j) = swn (st c0 i) (pa j) (pb j) := by
  have h1 := pab_ok j hj
  have h2 := nb_ok i hi j hj
  apply dg_ext st_lt (swn_lt st_lt (by omega) h1.2)
  intro t ht
  rw [dg_st ht, h2.2, dg_swn (by omega) h1.2 ht (by omega), dg_swn (by omega) h1.2 ht (by omega)]
  by_cases e1 : t = pa j
  · rw [if_pos e1, if_pos e1, dg_st h1.2]
  · rw [if_neg e1, if_neg e1]
    by_cases e2 : t = pb j
    · rw [if_pos e2, if_pos e2, dg_st (by omega)]
    · rw [if_neg e2, if_neg e2, dg_st ht]
theorem nd_le (l : List Nat) : ∀ L : List Nat, l.Nodup → (∀ x, x ∈ l → x ∈ L) → l.length ≤ L.length := by
  induction l with
  | nil => intro L _ _; exact Nat.zero_le _
  | cons a l ih =>
    intro L h1 h2
    rw [List.nodup_cons] at h1
    have ha := h2 a (List.mem_cons_self ..)
    have := ih (L.erase a) h1.2 (fun x hx => (List.mem_erase_of_ne (fun e => h1.1 (by rw [← e]; exact hx))).mpr (h2 x (List.mem_cons_of_mem _ hx)))
    rw [List.length_erase_of_mem ha] at this
    have : 0 < L.length := List.length_pos_of_mem ha
    rw [List.length_cons]; omega
