/-! where one begins and where one wants to be -/
def hv (n : Nat) (h : Hs) (t : Nat) : Nat := if t < n then (match h t with
  | none => 0
  | some s => s + 1) else 0
theorem hv_lt {n : Nat} {h : Hs} {w : List Nat} (hn : n ≤ 5) (I : hwI n h w) (t : Nat) : hv n h t < 6 := by
  unfold hv
  by_cases g : t < n
  · rw [if_pos g]
    split
    · omega
    · rename_i s e; have := hw_h I g e; omega
  · rw [if_neg g]; omega
def pcd (v : Nat → Nat) : Nat → Nat
  | 0 => 0
  | i + 1 => pcd v i + v i * 8 ^ i
theorem pcd_lt {v : Nat → Nat} (h : ∀ t, v t < 8) (i : Nat) : pcd v i < 8 ^ i := by
  induction i with
  | zero => show 0 < 1; omega
  | succ i ih =>
    rw [pcd, Nat.pow_succ]
    have h1 := h i
    have h2 : v i * 8 ^ i ≤ 7 * 8 ^ i := Nat.mul_le_mul_right _ (by omega)
    omega
theorem pcd_z {v : Nat → Nat} {n : Nat} (h : ∀ t, n ≤ t → v t = 0) (r : Nat) : pcd v (n + r) = pcd v n := by
  induction r with
  | zero => rfl
  | succ r ih => rw [Nat.add_succ, pcd, ih, h (n + r) (by omega), Nat.zero_mul, Nat.add_zero]
theorem pcd_5 {v : Nat → Nat} : pcd v 5 = cod v := by
  unfold cod
  simp only [pcd, Nat.reducePow]
  omega
theorem pcd_n {n : Nat} {h : Hs} (hn : n ≤ 5) : pcd (hv n h) n = cod (hv n h) := by
  rw [← pcd_5, ← pcd_z (v := hv n h) (n := n) (fun t ht => by unfold hv; rw [if_neg (by omega)]) (5 - n), show n + (5 - n) = 5 from by omega]
theorem zo_1 {n t : Nat} {h : Hs} (ht : t < n) : zo (h t) + zn 1 = zn (hv n h t) := by
  unfold hv
  rw [if_pos ht]
  cases h t with
  | none => show zm + zn 1 = zn 0; decide +kernel
  | some s => rw [zo_s, zn_add]
theorem pow8 : ∀ i, i < 6 → 8 ^ i ≤ 32768 ∧ 2 ^ (3 * i) = 8 ^ i := by decide
theorem lp_state {n d : Nat} {h : Hs} {w : List Nat} {m : am_M} (hn : n ≤ 5) (I : hwI n h w) (h0 : m.1 71 0 = zn n) (hs : ∀ i, i < n → m.1 72 i = zo (h i)) (r : Nat) : ∀ i f, i + r = n → r < f → r_Swapper_stateOf_4 71 d f (zn (pcd (hv n h) i)) (zn i) m = some (some (.int (zn (pcd (hv n h) n))), m) := by
  have hk : sc_k 71 := Or.inr (Or.inr (Or.inl rfl))
  induction r with
  | zero =>
    intro i f h1 h2
    obtain ⟨f, rfl⟩ : ∃ g, f = g + 1 := ⟨f - 1, by omega⟩
    rw [e_Swapper_stateOf_4 hk, h0, br_leT (by omega) (by omega), show i = n from by omega]
  | succ r ih =>
    intro i f h1 h2
    obtain ⟨f, rfl⟩ : ∃ g, f = g + 1 := ⟨f - 1, by omega⟩
    have v6 := hv_lt hn I i
    have p8 := pow8 i (by omega)
    have p9 := pow8 (i + 1) (by omega)
    have l1 := pcd_lt (v := hv n h) (fun t => by have := hv_lt hn I t; omega) i
    have l2 := pcd_lt (v := hv n h) (fun t => by have := hv_lt hn I t; omega) (i + 1)
    rw [pcd] at l2
    have hs' : m.1 (71 + 1) i = zo (h i) := hs i (by omega)
    have hsh : hv n h i <<< (3 * i) = hv n h i * 8 ^ i := by rw [Nat.shiftLeft_eq, p8.2]
    have hor : pcd (hv n h) i ||| hv n h i <<< (3 * i) = pcd (hv n h) (i + 1) := by
      rw [Nat.or_comm, ← Nat.shiftLeft_add_eq_or_of_lt (by rw [p8.2]; exact l1), hsh, pcd]; omega
    rw [e_Swapper_stateOf_4 hk, h0, br_leF (by omega) (by omega), br_oiF (by omega) (by omega), zn_cl (by omega), hs', zo_1 (n := n) (t := i) (by omega), zn_mul, zn_shl (by omega) (by omega), zn_or (by omega) (by rw [hsh]; omega), hor, zn_add]
    exact ih (i + 1) f (by omega) (by omega)
theorem s_state {n d : Nat} {h : Hs} {w : List Nat} {m : am_M} (hn : n ≤ 5) (I : hwI n h w) (h0 : m.1 71 0 = zn n) (hs : ∀ i, i < n → m.1 72 i = zo (h i)) : am_c (d + 1) y_Swapper_stateOf [.ref 71] m = some (some (.int (zn (cod (hv n h)))), m) := by
  rw [n_Swapper_stateOf (Or.inr (Or.inr (Or.inl rfl))), ← pcd_n hn]
  exact lp_state hn I h0 hs n 0 29999 (by omega) (by omega)
/-! the goal -/
def gl (n : Nat) (w : List Nat) : Nat := cod (fun t => if t < n ∧ w.count t = 0 then t + 1 else 0)
theorem sum_snoc {f : Nat → Nat} (r : Nat) : ∀ i, sp_sum f (r + 1) i = sp_sum f r i + f (i + r) := by
  induction r with
  | zero => intro i; simp [sp_sum]
  | succ r ih => intro i; rw [sp_sum, ih, sp_sum, show i + 1 + r = i + (r + 1) from by omega]; omega
theorem dg_or {x y t : Nat} : dg (x ||| y) t = dg x t ||| dg y t := by unfold dg; rw [Nat.shiftRight_or_distrib, Nat.and_or_distrib_right]
theorem lp_goal {n d : Nat} {h : Hs} {w : List Nat} {m : am_M} (hn : n ≤ 5) (I : hwI n h w) (h0 : m.1 71 0 = zn n) (hs : ∀ i, i < n → m.1 72 i = zo (h i)) (r : Nat) : ∀ i f A x3, i + r = n → r < f → A < 32768 → (∀ t, t < 5 → dg A t = if 0 < sp_sum (fun j => sp_is t (h j)) i 0 then t + 1 else 0) →
    ∃ G, r_Swapper_goalOf_4 71 d f (zn A) (zn i) x3 m = some (some (.int (zn G)), m) ∧ G < 32768 ∧ ∀ t, t < 5 → dg G t = if 0 < sp_ct n h t then t + 1 else 0 := by
  have hk : sc_k 71 := Or.inr (Or.inr (Or.inl rfl))
  induction r with
  | zero =>
    intro i f A x3 h1 h2 hA hd
    obtain ⟨f, rfl⟩ : ∃ g, f = g + 1 := ⟨f - 1, by omega⟩
    refine ⟨A, by rw [e_Swapper_goalOf_4 hk, h0, br_leT (by omega) (by omega)], hA, ?_⟩
    rw [show i = n from by omega] at hd; exact hd
  | succ r ih =>
    intro i f A x3 h1 h2 hA hd
    obtain ⟨f, rfl⟩ : ∃ g, f = g + 1 := ⟨f - 1, by omega⟩
    have hs' : m.1 (71 + 1) i = zo (h i) := hs i (by omega)
    rw [e_Swapper_goalOf_4 hk, h0, br_leF (by omega) (by omega), br_oiF (by omega) (by omega), zn_cl (by omega), hs', zn_add]
    rcases opt_c (h i) with q | ⟨s, q⟩
    · rw [q, zo_n, br_eqs]
      refine ih (i + 1) f A _ (by omega) (by omega) hA (fun t ht => ?_)
      rw [hd t ht, sum_snoc, Nat.zero_add, q]; rfl
    · have hsn := hw_h I (show i < n by omega) q
      have l1 := sh_lt (s + 1) (by omega) s (by omega)
      rw [q, zo_s, br_eqm (by omega), zn_add, zn_mul, zn_shl (by omega) (by omega), zn_or (by omega) (by omega)]
      refine ih (i + 1) f _ _ (by omega) (by omega) (Nat.or_lt_two_pow (n := 15) hA l1) (fun t ht => ?_)
      rw [dg_or, hd t ht, sum_snoc, Nat.zero_add]
      have e1 : dg ((s + 1) <<< (3 * s)) t = if t = s then s + 1 else 0 := sh_dg (s + 1) (by omega) s (by omega) t ht
      rw [e1]
      show _ = if 0 < sp_sum (fun j => sp_is t (h j)) i 0 + sp_is t (h i) then t + 1 else 0
      rw [q]
      unfold sp_is
      by_cases g : t = s
      · subst g
        have h3 : (if t = t then t + 1 else 0) = t + 1 := if_pos rfl
        have h4 : (if (some t : Option Nat) = some t then 1 else 0) = 1 := if_pos rfl
        have h5 : ∀ x : Nat, (if 0 < x + 1 then t + 1 else 0) = t + 1 := fun x => if_pos (Nat.succ_pos x)
        rw [h3, h4, h5]
        by_cases g2 : 0 < sp_sum (fun j => if h j = some t then 1 else 0) i 0
        · rw [if_pos g2, Nat.or_self]
        · rw [if_neg g2, Nat.zero_or]
      · rw [if_neg g, if_neg (fun e => g (Option.some.inj e).symm), Nat.or_zero]; rfl
theorem s_goal {n d : Nat} {h : Hs} {w : List Nat} {m : am_M} (hn : n ≤ 5) (I : hwI n h w) (h0 : m.1 71 0 = zn n) (hs : ∀ i, i < n → m.1 72 i = zo (h i)) : am_c (d + 1) y_Swapper_goalOf [.ref 71] m = some (some (.int (zn (gl n w))), m) := by
  obtain ⟨G, a1, a2, a3⟩ := lp_goal (d := d) hn I h0 hs n 0 29999 0 none (by omega) (by omega) (by omega) (fun t ht => by
    rw [sp_sum, if_neg (by omega)]
    revert t; decide)
  rw [n_Swapper_goalOf (Or.inr (Or.inr (Or.inl rfl))), a1]
  have b8 : ∀ t, t < 5 → (fun t => if t < n ∧ w.count t = 0 then t + 1 else 0) t < 8 := fun t ht => by
    show (if t < n ∧ w.count t = 0 then t + 1 else 0) < 8
    split <;> omega
  have e : G = gl n w := dg_ext a2 (cod_lt b8) (fun t ht => by
    unfold gl
    rw [a3 t ht, dg_cod b8 ht]
    show _ = if t < n ∧ w.count t = 0 then t + 1 else 0
    have := I.1 t
    by_cases g : t < n
    · rw [if_pos g] at this
      by_cases g2 : w.count t = 0
      · rw [if_pos (by omega), if_pos ⟨g, g2⟩]
      · rw [if_neg (by omega), if_neg (fun q => g2 q.2)]
    · rw [if_neg g] at this
      rw [if_neg (by omega), if_neg (fun q => g q.1)])
  rw [e]
theorem gl_lt {n : Nat} {w : List Nat} (hn : n ≤ 5) : gl n w < 32768 := cod_lt (fun t ht => by split <;> omega)
theorem dg_gl {n t : Nat} {w : List Nat} (ht : t < 5) : dg (gl n w) t = if t < n ∧ w.count t = 0 then t + 1 else 0 := dg_cod (v := fun t => if t < n ∧ w.count t = 0 then t + 1 else 0) (fun t ht => by split <;> omega) ht
/-! all that is met is an arrangement of what is had -/
theorem hv_swp {n a b : Nat} {h : Hs} {w : List Nat} (hn : n ≤ 5) (I : hwI n h w) (ha : a < n) (hb : b < n) (hab : a ≠ b) : cod (hv n (sp_swp h a b)) = swn (cod (hv n h)) a b := by
  have v8 : ∀ t, t < 5 → hv n h t < 8 := fun t _ => by have := hv_lt hn I t; omega
  have I2 := hw_swp I ha hb hab
  have v8' : ∀ t, t < 5 → hv n (sp_swp h a b) t < 8 := fun t _ => by have := hv_lt hn I2 t; omega
  apply dg_ext (cod_lt v8') (swn_lt (cod_lt v8) (by omega) (by omega))
  intro t ht
  rw [dg_cod v8' ht, dg_swn (by omega) (by omega) ht hab, dg_cod v8 (by omega), dg_cod v8 (by omega), dg_cod v8 ht]
  unfold hv sp_swp
  by_cases e1 : t = a
  · subst e1
    rw [if_pos ha, if_pos rfl, if_pos hb, set_ne hab, set_at]
  · rw [if_neg e1]
    by_cases e2 : t = b
    · subst e2; rw [if_pos hb, if_pos rfl, if_pos ha, set_at]
    · rw [if_neg e2]
      by_cases g : t < n
      · rw [if_pos g, if_pos g, set_ne e2, set_ne e1]
      · rw [if_neg g, if_neg g]
theorem arr {n : Nat} {h : Hs} {w : List Nat} {mt : List (Nat × Nat)} (hn : n ≤ 5) (I : hwI n h w) (hms : ∀ p, p ∈ mt → p.1 < p.2 ∧ p.2 < n) (u : List Nat) : (∀ j, j ∈ u → j ∈ Jm mt) → ∃ h', hwI n h' w ∧ st (cod (hv n h)) (wrd u) = cod (hv n h') := by
  have hJ := Jm_lt hn hms
  induction u with
  | nil => intro _; exact ⟨h, I, st_0 (cod_lt (fun t _ => by have := hv_lt hn I t; omega))⟩
  | cons j v ih =>
    intro hu
    have hv' : ∀ j, j ∈ v → j ∈ Jm mt := fun x hx => hu x (List.mem_cons_of_mem _ hx)
    obtain ⟨h', I', e⟩ := ih hv'
    have hj := hu j (List.mem_cons_self ..)
    obtain ⟨p, p1, p2⟩ := List.mem_map.mp (show j ∈ mt.map _ from hj)
    have hp := hms p p1
    have jk := jo_ok p.1 (by omega) p.2 (by omega) hp.1
    refine ⟨sp_swp h' p.1 p.2, hw_swp I' (by omega) hp.2 (by omega), ?_⟩
    rw [wrd, st_nb (wrd_lt (fun x hx => hJ x (hv' x hx))) (hJ j hj), e, hv_swp hn I' (by omega) hp.2 (by omega), ← p2, jk.2.1, jk.2.2]
/-- home, as the reference asks -/
def hmB (c : Nat) : Nat → Nat → Bool
  | 0, _ => true
  | r + 1, i => if dg c i = 0 then hmB c r (i + 1) else if dg c i = i + 1 then hmB c r (i + 1) else false
theorem hmB_t {c : Nat} (r : Nat) : ∀ i, hmB c r i = true ↔ ∀ t, i ≤ t → t < i + r → dg c t = 0 ∨ dg c t = t + 1 := by
  induction r with
  | zero => intro i; exact ⟨fun _ t h1 h2 => by omega, fun _ => rfl⟩
  | succ r ih =>
    intro i
    rw [hmB]
    have split : ∀ P : Nat → Prop, (P i ∧ ∀ t, i + 1 ≤ t → t < i + 1 + r → P t) ↔ ∀ t, i ≤ t → t < i + (r + 1) → P t := by
      intro P
      constructor
      · intro ⟨h1, h2⟩ t h3 h4
        rcases (by omega : t = i ∨ i + 1 ≤ t) with e | e
        · rw [e]; exact h1
        · exact h2 t e (by omega)
      · intro h; exact ⟨h i (by omega) (by omega), fun t h1 h2 => h t (by omega) (by omega)⟩
    rw [← split (fun t => dg c t = 0 ∨ dg c t = t + 1)]
    by_cases g : dg c i = 0
    · rw [if_pos g, ih]; exact ⟨fun h => ⟨Or.inl g, h⟩, fun h => h.2⟩
    · rw [if_neg g]
      by_cases g2 : dg c i = i + 1
      · rw [if_pos g2, ih]; exact ⟨fun h => ⟨Or.inr g2, h⟩, fun h => h.2⟩
      · rw [if_neg g2]
        exact ⟨fun h => by simp at h, fun h => by rcases h.1 with q | q; (· exact absurd q g); (· exact absurd q g2)⟩
theorem home_iff {n : Nat} {h : Hs} {w : List Nat} (hn : n ≤ 5) (I : hwI n h w) : hmB (cod (hv n h)) n 0 = true ↔ cod (hv n h) = gl n w := by
  have v8 : ∀ t, t < 5 → hv n h t < 8 := fun t _ => by have := hv_lt hn I t; omega
  rw [hmB_t]
  constructor
  · intro hh
    apply dg_ext (cod_lt v8) (gl_lt hn)
    intro t ht
    rw [dg_cod v8 ht, dg_gl ht]
    by_cases g : t < n
    · have h1 := hh t (by omega) (by omega)
      rw [dg_cod v8 ht] at h1
      have h2 := I.1 t
      rw [if_pos g] at h2
      rcases h1 with q | q
      · have hz : h t = none := by
          unfold hv at q
          rw [if_pos g] at q
          cases e : h t with
          | none => rfl
          | some s => rw [e] at q; simp at q
        have hc : sp_ct n h t = 0 := by
          rcases Nat.eq_zero_or_pos (sp_ct n h t) with z | z
          · exact z
          · exfalso
            have ex : ∀ (r i : Nat), 0 < sp_sum (fun j => sp_is t (h j)) r i → ∃ j, i ≤ j ∧ j < i + r ∧ h j = some t := by
              intro r
              induction r with
              | zero => intro i hp; rw [sp_sum] at hp; omega
              | succ r ih =>
                intro i hp
                rw [sp_sum] at hp
                by_cases e : h i = some t
                · exact ⟨i, by omega, by omega, e⟩
                · have : sp_is t (h i) = 0 := by unfold sp_is; rw [if_neg e]
                  obtain ⟨j, j1, j2, j3⟩ := ih (i + 1) (by omega)
                  exact ⟨j, by omega, by omega, j3⟩
            obtain ⟨j, _, j2, j3⟩ := ex n 0 z
            have h3 := hh j (by omega) (by omega)
            have hj : hv n h j = t + 1 := by unfold hv; rw [if_pos (by omega), j3]
            rw [dg_cod v8 (by omega), hj] at h3
            rcases h3 with e | e
            · omega
            · have : j = t := by omega
              subst this
              rw [hz] at j3; cases j3
        rw [q, if_neg (fun e => by omega)]
      · have hz : h t = some t := by
          unfold hv at q
          rw [if_pos g] at q
          cases e : h t with
          | none => rw [e] at q; simp at q
          | some s => rw [e] at q; simp at q; rw [q]
        have hp : sp_is t (h t) ≤ sp_ct n h t := sum_ge (f := fun j => sp_is t (h j)) n 0 t (by omega) (by omega)
        rw [hz] at hp
        unfold sp_is at hp
        rw [if_pos rfl] at hp
        rw [q, if_pos ⟨g, by omega⟩]
    · rw [if_neg (fun e => g e.1)]; unfold hv; rw [if_neg g]
  · intro e t _ ht
    rw [e, dg_gl (by omega)]
    split
    · exact Or.inr rfl
    · exact Or.inl rfl
/-- the class's answer -/
theorem s_findC {T G F : Td} {q : Sq} {w : List Nat} {day num d : Nat} {m : am_M} (c : Core T G F q w day num m) :
    ∃ m', am_c (d + 2) y_Swapper_find [.ref 92, .ref 71] m = some (some (.int (zr (bF (cod (hv (T 0 0) q.2.2.2)) (Jm q.2.2.1) (gl (T 0 0) w) 121 0 B0))), m') ∧ fqC m m' ∧ ∀ k' B', bF (cod (hv (T 0 0) q.2.2.2)) (Jm q.2.2.1) (gl (T 0 0) w) 121 0 B0 = some (k', B') → k' < B'.length ∧ wB (cod (hv (T 0 0) q.2.2.2)) (Jm q.2.2.1) B' ∧ ∀ i, i < bl B' k' → m'.1 96 i = zn ((trc B' (bl B' k') k').getD i 0) := by
  have hk : sc_k 71 := Or.inr (Or.inr (Or.inl rfl))
  have hn5 := c.tw.n
  have g1 := s_goal (d := d) hn5 c.qw.hw c.sc.n c.sc.hs
  have g2 := s_state (d := d) hn5 c.qw.hw c.sc.n c.sc.hs
  let c0 := cod (hv (T 0 0) q.2.2.2)
  have hc0 : c0 < 32768 := cod_lt (fun t _ => by have := hv_lt hn5 c.qw.hw t; omega)
  let m1 : am_M := (am_w (am_w (am_w m.1 93 0 (zn c0)) 94 0 zm) 92 4 (zn 1), m.2)
  have f1 : fsq m m1 := ⟨rfl, fun p hp => by show (am_w (am_w (am_w m.1 93 0 (zn c0)) 94 0 zm) 92 4 (zn 1)) p = _; simp (disch := omega) only [w_ne, w_at, wl_ne, wl_at, wc_ne, wc_at, upd_at, upd_ne, upl_at, upl_ne, cpy_in0, zn_cl, zn_add, zn_mul, zn_sub, zn_pm, br_tt, br_ff, br_ltT, br_ltF, br_leT, br_leF, br_eqT, br_eqF, br_eqs, br_eqm, br_eqm', br_ltm, br_mlt, br_lem, br_mle, br_oiF, br_lgge, br_lgle, br_lggt, br_lglt, br_lgeq, br_zb, br_zb1, bV_s, bI_s, bL_s, zo_n, zo_s]⟩
  have hC : bC c0 B0 m1 := by
    have len : B0.length = 1 := rfl
    refine ⟨?_, fun i hi => ?_, fun i h0 hi => ?_⟩
    · show (am_w (am_w (am_w m.1 93 0 (zn c0)) 94 0 zm) 92 4 (zn 1)) 92 4 = _; simp (disch := omega) only [w_ne, w_at, wl_ne, wl_at, wc_ne, wc_at, upd_at, upd_ne, upl_at, upl_ne, cpy_in0, zn_cl, zn_add, zn_mul, zn_sub, zn_pm, br_tt, br_ff, br_ltT, br_ltF, br_leT, br_leF, br_eqT, br_eqF, br_eqs, br_eqm, br_eqm', br_ltm, br_mlt, br_lem, br_mle, br_oiF, br_lgge, br_lgle, br_lggt, br_lglt, br_lgeq, br_zb, br_zb1, bV_s, bI_s, bL_s, zo_n, zo_s]; rfl
    · rw [len] at hi
      have : i = 0 := by omega
      subst this
      show (am_w (am_w (am_w m.1 93 0 (zn c0)) 94 0 zm) 92 4 (zn 1)) 93 0 = zn (st c0 0)
      rw [st_0 hc0]; simp (disch := omega) only [w_ne, w_at, wl_ne, wl_at, wc_ne, wc_at, upd_at, upd_ne, upl_at, upl_ne, cpy_in0, zn_cl, zn_add, zn_mul, zn_sub, zn_pm, br_tt, br_ff, br_ltT, br_ltF, br_leT, br_leF, br_eqT, br_eqF, br_eqs, br_eqm, br_eqm', br_ltm, br_mlt, br_lem, br_mle, br_oiF, br_lgge, br_lgle, br_lggt, br_lglt, br_lgeq, br_zb, br_zb1, bV_s, bI_s, bL_s, zo_n, zo_s]
    · rw [len] at hi; omega
  obtain ⟨m2, a1, a2, a3⟩ := lp_f29 (d := d) (T := T) (q := q) (w := w) (day := day) (gl_lt (w := w) hn5) hn5 c.qw.ms c.qw.ml 121 0 29999 B0 none m1 (by omega) (by omega) (by omega) (c.sc.mono (fun p _ _ => f1.2 p (by omega))) hC wB_0 (fun i hi => by omega) (fun _ i hi => by
    have : i = 0 := by have : B0.length = 1 := rfl; omega
    subst this; omega)
  refine ⟨m2, ?_, (fsq_tr f1 a2).q, a3⟩
  rw [n_Swapper_find hk, g1, bI_s, g2, bI_s]
  exact a1
