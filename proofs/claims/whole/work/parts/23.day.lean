/-! a day: pure -/
abbrev Td : Type := Nat → Nat → Nat
abbrev Hs : Type := Nat → Option Nat
abbrev Ev : Type := Nat → (Nat → Int64) → Option Int64
def sp_gath (n : Nat) (f : Nat → Int64) : Nat → Hs → List Nat → Hs × List Nat
  | 0, h, w => (h, w)
  | r + 1, h, w => match sp_min (fun t => (h t).isSome) f n 0 none with
    | none => (h, w)
    | some t => sp_gath n f r (sp_set h t none) (w ++ [(h t).getD 0])
theorem gath_none {n : Nat} {f : Nat → Int64} {h : Hs} {w : List Nat} (e : sp_min (fun t => (h t).isSome) f n 0 none = none) (r : Nat) : sp_gath n f r h w = (h, w) := by
  cases r with
  | zero => rfl
  | succ r => rw [sp_gath, e]
theorem gath_some {n : Nat} {f : Nat → Int64} {h : Hs} {w : List Nat} {t s : Nat} (e : sp_min (fun t => (h t).isSome) f n 0 none = some t) (e1 : h t = some s) (r : Nat) : sp_gath n f (r + 1) h w = sp_gath n f r (sp_set h t none) (w ++ [s]) := by
  rw [sp_gath, e]; show sp_gath n f r (sp_set h t none) (w ++ [(h t).getD 0]) = _; rw [e1]; rfl
theorem gath_pick {n : Nat} {f : Nat → Int64} {h : Hs} {t : Nat} (e : sp_min (fun t => (h t).isSome) f n 0 none = some t) : t < n ∧ ∃ s, h t = some s := by
  rcases min_in n 0 none t e with h1 | ⟨_, h1, h2⟩
  · cases h1
  · exact ⟨by omega, Option.isSome_iff_exists.mp h2⟩
theorem gath_hw {n : Nat} {f : Nat → Int64} (r : Nat) : ∀ (h : Hs) (w : List Nat), hwI n h w → hwI n (sp_gath n f r h w).1 (sp_gath n f r h w).2 := by
  induction r with
  | zero => intro h w I; exact I
  | succ r ih =>
    intro h w I
    cases e : sp_min (fun t => (h t).isSome) f n 0 none with
    | none => rw [gath_none e]; exact I
    | some t =>
      obtain ⟨ht, s, e1⟩ := gath_pick e
      rw [gath_some e e1]
      exact ih _ _ (hw_bring I ht e1)
theorem cn_zero {n : Nat} {h : Hs} (e : sp_cn n h = 0) {t : Nat} (ht : t < n) : h t = none := by
  have h1 : sp_ne (h t) ≤ sp_cn n h := sum_ge (f := fun i => sp_ne (h i)) n 0 t (by omega) (by omega)
  cases e1 : h t with
  | none => rfl
  | some a => rw [e1] at h1; simp only [sp_ne, reduceCtorEq, if_false] at h1; omega
theorem cn_full {n : Nat} {h : Hs} (r : Nat) : ∀ i, sp_sum (fun j => sp_ne (h j)) r i = r → ∀ t, i ≤ t → t < i + r → h t ≠ none := by
  induction r with
  | zero => intro i _ t h1 h2; omega
  | succ r ih =>
    intro i e t h1 h2
    rw [sp_sum] at e
    have h3 : ∀ j, sp_ne (h j) ≤ 1 := fun j => by unfold sp_ne; split <;> omega
    have h4 := sum_le (f := fun j => sp_ne (h j)) h3 r (i + 1)
    have h5 := h3 i
    rcases Nat.eq_or_lt_of_le h1 with e1 | e1
    · subst e1
      intro e2
      rw [e2] at e
      simp only [sp_ne, if_true] at e h4
      omega
    · exact ih (i + 1) (by omega) t (by omega) (by omega)
theorem gath_all {n : Nat} {f : Nat → Int64} (r : Nat) : ∀ (h : Hs) (w : List Nat), sp_cn n h ≤ r → ∀ t, t < n → (sp_gath n f r h w).1 t = none := by
  induction r with
  | zero => intro h w hc t ht; exact cn_zero (n := n) (h := h) (by omega) ht
  | succ r ih =>
    intro h w hc t ht
    cases e : sp_min (fun t => (h t).isSome) f n 0 none with
    | none =>
      rw [gath_none e]
      have h1 := (min_none n 0 none e).2 t (by omega) (by omega)
      simpa using h1
    | some q =>
      obtain ⟨hq, s, e1⟩ := gath_pick e
      rw [gath_some e e1]
      refine ih _ _ ?_ t ht
      have h2 := cn_set (n := n) (h := h) (t := q) (x := none) hq
      rw [e1] at h2
      simp only [sp_ne, reduceCtorEq, if_false, if_true] at h2
      omega
/-- the first least, the first greatest -/
def sp_amin (g : Nat → Nat) : Nat → Nat → Nat → Nat
  | 0, _, b => b
  | r + 1, i, b => sp_amin g r (i + 1) (if g i < g b then i else b)
def sp_amax (g : Nat → Nat) : Nat → Nat → Nat → Nat
  | 0, _, b => b
  | r + 1, i, b => sp_amax g r (i + 1) (if g b < g i then i else b)
theorem amin_lt {g : Nat → Nat} {n : Nat} (r : Nat) : ∀ i b, b < n → i + r ≤ n → sp_amin g r i b < n := by
  induction r with
  | zero => intro i b h1 _; exact h1
  | succ r ih => intro i b h1 h2; rw [sp_amin]; refine ih _ _ ?_ (by omega); split <;> omega
theorem amax_lt {g : Nat → Nat} {n : Nat} (r : Nat) : ∀ i b, b < n → i + r ≤ n → sp_amax g r i b < n := by
  induction r with
  | zero => intro i b h1 _; exact h1
  | succ r ih => intro i b h1 h2; rw [sp_amax]; refine ih _ _ ?_ (by omega); split <;> omega
/-- the how-manieth of the wall a thing gets -/
def sp_ch (T V : Td) (w : List Nat) (t : Nat) : Nat := if V 3 0 = 0 then 0 else if V 3 0 = 1 then w.length - 1 else sp_amin (fun i => sp_ap (T 2 (w.getD i 0)) (T 2 t)) (w.length - 1) 1 0
theorem ch_lt {T V : Td} {w : List Nat} {t : Nat} (h : 0 < w.length) : sp_ch T V w t < w.length := by
  unfold sp_ch
  split
  · exact h
  · split
    · omega
    · exact amin_lt _ _ _ h (by omega)
def sp_gr (T : Td) (w : List Nat) : Nat := sp_amax (fun i => T 2 (w.getD i 0)) (w.length - 1) 1 0
theorem gr_lt {T : Td} {w : List Nat} (h : 0 < w.length) : sp_gr T w < w.length := amax_lt _ _ _ h (by omega)
def sp_wt (T V : Td) (U : Nat → Nat) (l : Nat) (h : Hs) (t : Nat) : Bool := decide (h t = none ∧ V 1 t = 0 ∧ sp_ap (T 1 t) (U l) ≤ V 2 l)
def sp_light (T V : Td) (U : Nat → Nat) (f : Nat → Int64) (l : Nat) : Nat → Hs → List Nat → Hs × List Nat
  | 0, h, w => (h, w)
  | r + 1, h, w => if w.length = 0 then (h, w) else match sp_min (sp_wt T V U l h) f (T 0 0) 0 none with
    | none => (h, w)
    | some t => sp_light T V U f l r (sp_set h t (some (w.getD (sp_ch T V w t) 0))) (w.eraseIdx (sp_ch T V w t))
theorem light_nil {T V : Td} {U : Nat → Nat} {f : Nat → Int64} {l : Nat} {h : Hs} {w : List Nat} (e : w.length = 0) (r : Nat) : sp_light T V U f l r h w = (h, w) := by
  cases r with
  | zero => rfl
  | succ r => rw [sp_light, if_pos e]
theorem light_none {T V : Td} {U : Nat → Nat} {f : Nat → Int64} {l : Nat} {h : Hs} {w : List Nat} (e : sp_min (sp_wt T V U l h) f (T 0 0) 0 none = none) (r : Nat) : sp_light T V U f l r h w = (h, w) := by
  cases r with
  | zero => rfl
  | succ r => rw [sp_light, e]; split <;> rfl
theorem light_some {T V : Td} {U : Nat → Nat} {f : Nat → Int64} {l : Nat} {h : Hs} {w : List Nat} {t : Nat} (h0 : 0 < w.length) (e : sp_min (sp_wt T V U l h) f (T 0 0) 0 none = some t) (r : Nat) : sp_light T V U f l (r + 1) h w = sp_light T V U f l r (sp_set h t (some (w.getD (sp_ch T V w t) 0))) (w.eraseIdx (sp_ch T V w t)) := by
  rw [sp_light, if_neg (by omega), e]
theorem light_pick {T V : Td} {U : Nat → Nat} {f : Nat → Int64} {l : Nat} {h : Hs} {t : Nat} (e : sp_min (sp_wt T V U l h) f (T 0 0) 0 none = some t) : t < T 0 0 ∧ h t = none := by
  rcases min_in _ 0 none t e with h1 | ⟨_, h1, h2⟩
  · cases h1
  · unfold sp_wt at h2; rw [decide_eq_true_eq] at h2; exact ⟨by omega, h2.1⟩
theorem light_hw {T V : Td} {U : Nat → Nat} {f : Nat → Int64} {l : Nat} (r : Nat) : ∀ (h : Hs) (w : List Nat), hwI (T 0 0) h w → hwI (T 0 0) (sp_light T V U f l r h w).1 (sp_light T V U f l r h w).2 := by
  induction r with
  | zero => intro h w I; exact I
  | succ r ih =>
    intro h w I
    by_cases h0 : w.length = 0
    · rw [light_nil h0]; exact I
    · cases e : sp_min (sp_wt T V U l h) f (T 0 0) 0 none with
      | none => rw [light_none e]; exact I
      | some t =>
        obtain ⟨ht, e1⟩ := light_pick e
        rw [light_some (by omega) e]
        exact ih _ _ (hw_take I ht e1 (ch_lt (by omega)))
def sp_thv (T V : Td) : Nat → Nat → Hs → List Nat → Hs × List Nat
  | 0, _, h, w => (h, w)
  | r + 1, t, h, w => if V 1 t = 1 ∧ h t = none ∧ 0 < w.length then sp_thv T V r (t + 1) (sp_set h t (some (w.getD (sp_gr T w) 0))) (w.eraseIdx (sp_gr T w)) else sp_thv T V r (t + 1) h w
theorem thv_hw {T V : Td} {n : Nat} (r : Nat) : ∀ (t : Nat) (h : Hs) (w : List Nat), t + r = n → hwI n h w → hwI n (sp_thv T V r t h w).1 (sp_thv T V r t h w).2 := by
  induction r with
  | zero => intro t h w _ I; exact I
  | succ r ih =>
    intro t h w ht I
    rw [sp_thv]
    split
    · rename_i hc
      exact ih _ _ _ (by omega) (hw_take I (by omega) hc.2.1 (gr_lt hc.2.2))
    · exact ih _ _ _ (by omega) I
/-- two meet -/
def sp_mt (h : Hs) (a b : Nat) : Hs := if sp_is a (h a) + sp_is b (h b) < sp_is a (h b) + sp_is b (h a) then sp_swp h a b else h
theorem swp_comm {h : Hs} {a b : Nat} (e : a ≠ b) : sp_swp h a b = sp_swp h b a := by
  funext i
  unfold sp_swp sp_set
  by_cases h1 : i = a
  · subst h1; simp [e]
  · simp [h1]
theorem mt_comm {h : Hs} {a b : Nat} (e : a ≠ b) : sp_mt h a b = sp_mt h b a := by
  unfold sp_mt
  rw [swp_comm e, Nat.add_comm (sp_is a (h a)), Nat.add_comm (sp_is a (h b))]
def sp_noon (mt : List (Nat × Nat)) (h : Hs) : Hs := mt.foldl (fun h p => sp_mt h p.1 p.2) h
theorem noon_hw {n : Nat} {w : List Nat} (mt : List (Nat × Nat)) : ∀ h, (∀ p, p ∈ mt → p.1 < n ∧ p.2 < n ∧ p.1 ≠ p.2) → hwI n h w → hwI n (sp_noon mt h) w := by
  induction mt with
  | nil => intro h _ I; exact I
  | cons p mt ih =>
    intro h hp I
    obtain ⟨h1, h2, h3⟩ := hp p (List.mem_cons_self ..)
    refine ih _ (fun q hq => hp q (List.mem_cons_of_mem _ hq)) ?_
    show hwI n (sp_mt h p.1 p.2) w
    unfold sp_mt; split
    · exact hw_swp I h1 h2 h3
    · exact I
/-- the names of a law -/
def sp_nm (size comes far own kind day which : Nat) : Nat → Int64 := fun i => match i with
  | 0 => (zn size).toInt64
  | 1 => (zn comes).toInt64
  | 2 => (zn far).toInt64
  | 3 => (zn own).toInt64
  | 4 => (zn kind).toInt64
  | 5 => (zn day).toInt64
  | _ => (zn which).toInt64
def sp_szo (T : Td) : Option Nat → Nat
  | none => 0
  | some s => T 2 s
def sp_ow (h : Hs) (t : Nat) : Nat := if h t = some t then 1 else 0
def sp_wor (T V : Td) (E : Ev) (day : Nat) (h : Hs) (law t : Nat) : Option Int64 := E law (sp_nm (sp_szo T (h t)) (V 0 t) 0 (sp_ow h t) (V 1 t) day 0)
def sp_nwor (T V : Td) (E : Ev) (U : Nat → Nat) (day : Nat) (h : Hs) (l t : Nat) : Option Int64 := E 1 (sp_nm (T 2 t) (V 0 t) (sp_ap (T 1 t) (U l)) (sp_ow h t) (V 1 t) day l)
def sp_late (T V : Td) (E : Ev) (day : Nat) (h : Hs) (t : Nat) : Int64 := (sp_wor T V E day h 0 t).getD (zn (V 0 t)).toInt64
def sp_near (T V : Td) (E : Ev) (U : Nat → Nat) (day : Nat) (l t : Nat) : Int64 := (sp_nwor T V E U day (fun _ => none) l t).getD (zn (sp_ap (T 1 t) (U l))).toInt64
def sp_gat (T V : Td) (E : Ev) (day : Nat) (h : Hs) (w : List Nat) : Hs × List Nat := sp_gath (T 0 0) (sp_late T V E day h) (T 0 0) h w
def sp_lamps (T V : Td) (E : Ev) (U : Nat → Nat) (day : Nat) (ord : List Nat) (q : Hs × List Nat) : Hs × List Nat := ord.foldl (fun q l => sp_light T V U (sp_near T V E U day l) l (T 0 0) q.1 q.2) q
def sp_fin (T V : Td) (E : Ev) (U : Nat → Nat) (day : Nat) (ord : List Nat) (mt : List (Nat × Nat)) (q : Hs × List Nat) : Hs × List Nat :=
  let q1 := sp_lamps T V E U day ord q
  let q2 := sp_thv T V (T 0 0) 0 q1.1 q1.2
  (sp_noon mt q2.1, q2.2)
def sp_pass (T V : Td) (E : Ev) (U : Nat → Nat) (day : Nat) (ord : List Nat) (mt : List (Nat × Nat)) (h : Hs) (w : List Nat) : Hs × List Nat := sp_fin T V E U day ord mt (sp_gat T V E day h w)
def sp_fog (T V : Td) (E : Ev) (day : Nat) (mt : List (Nat × Nat)) (h : Hs) (w : List Nat) : Hs × List Nat := (sp_noon mt (sp_gat T V E day h w).1, (sp_gat T V E day h w).2)
theorem gat_hw {T V : Td} {E : Ev} {day : Nat} {h : Hs} {w : List Nat} (I : hwI (T 0 0) h w) : hwI (T 0 0) (sp_gat T V E day h w).1 (sp_gat T V E day h w).2 := gath_hw _ _ _ I
theorem lamps_hw {T V : Td} {E : Ev} {U : Nat → Nat} {day : Nat} (ord : List Nat) : ∀ q : Hs × List Nat, hwI (T 0 0) q.1 q.2 → hwI (T 0 0) (sp_lamps T V E U day ord q).1 (sp_lamps T V E U day ord q).2 := by
  induction ord with
  | nil => intro q I; exact I
  | cons l ord ih => intro q I; exact ih _ (light_hw _ _ _ I)
theorem fin_hw {T V : Td} {E : Ev} {U : Nat → Nat} {day : Nat} {ord : List Nat} {mt : List (Nat × Nat)} {q : Hs × List Nat} (hm : ∀ p, p ∈ mt → p.1 < T 0 0 ∧ p.2 < T 0 0 ∧ p.1 ≠ p.2) (I : hwI (T 0 0) q.1 q.2) : hwI (T 0 0) (sp_fin T V E U day ord mt q).1 (sp_fin T V E U day ord mt q).2 :=
  noon_hw mt _ hm (thv_hw _ _ _ _ (by omega) (lamps_hw ord q I))
theorem pass_hw {T V : Td} {E : Ev} {U : Nat → Nat} {day : Nat} {ord : List Nat} {mt : List (Nat × Nat)} {h : Hs} {w : List Nat} (hm : ∀ p, p ∈ mt → p.1 < T 0 0 ∧ p.2 < T 0 0 ∧ p.1 ≠ p.2) (I : hwI (T 0 0) h w) : hwI (T 0 0) (sp_pass T V E U day ord mt h w).1 (sp_pass T V E U day ord mt h w).2 := fin_hw hm (gat_hw I)
theorem fog_hw {T V : Td} {E : Ev} {day : Nat} {mt : List (Nat × Nat)} {h : Hs} {w : List Nat} (hm : ∀ p, p ∈ mt → p.1 < T 0 0 ∧ p.2 < T 0 0 ∧ p.1 ≠ p.2) (I : hwI (T 0 0) h w) : hwI (T 0 0) (sp_fog T V E day mt h w).1 (sp_fog T V E day mt h w).2 := noon_hw mt _ hm (gat_hw I)
