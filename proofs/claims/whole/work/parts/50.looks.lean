/-! looks -/
def mvU (x : Int32) : Int32 := if x &&& zn 448 = zn 0 then (if (x <<< (zn 3 &&& 31)) &&& zn 448 = zn 0 then x <<< (zn 3 &&& 31) <<< (zn 3 &&& 31) else x <<< (zn 3 &&& 31)) else x
def mvL (x : Int32) : Int32 := if x &&& zn 292 = zn 0 then (if (x <<< (zn 1 &&& 31)) &&& zn 292 = zn 0 then x <<< (zn 1 &&& 31) <<< (zn 1 &&& 31) else x <<< (zn 1 &&& 31)) else x
def lookC (x : Int32) : Int32 := am_imin (mvL (mvU x)) (mvL (mvU ((((mvL (mvU x) &&& zn 292) >>> (zn 2 &&& 31)) ||| (mvL (mvU x) &&& zn 146)) ||| ((mvL (mvU x) &&& zn 73) <<< (zn 2 &&& 31)))))
set_option maxRecDepth 100000 in
theorem lookC_ok : ∀ a, a < 512 → lookC (zn a) = zn (sp_look a) := by decide +kernel
theorem s_mv {d : Nat} {x : Int32} {m : am_M} : am_c (d + 1) y_Told_moveUpAndLeft [.int x] m = some (some (.int (mvL (mvU x))), m) := by
  have L : ∀ (f : Nat) (x0 y : Int32), 3 < f → r_Told_moveUpAndLeft_29 d f x0 y (zn 0) m = some (some (.int (mvL y)), m) := by
    intro f x0 y h
    obtain ⟨f, rfl⟩ : ∃ g, f = g + 3 := ⟨f - 3, by omega⟩
    unfold mvL
    rw [e_Told_moveUpAndLeft_29, br_leF (by omega) (by omega), br_eq]
    by_cases e : y &&& zn 292 = zn 0
    · rw [if_pos e, if_pos e, zn_add, e_Told_moveUpAndLeft_29, br_leF (by omega) (by omega), br_eq]
      by_cases e2 : (y <<< (zn 1 &&& 31)) &&& zn 292 = zn 0
      · rw [if_pos e2, if_pos e2, zn_add, e_Told_moveUpAndLeft_29, br_leT (by omega) (by omega)]
      · rw [if_neg e2, if_neg e2]
    · rw [if_neg e, if_neg e]
  rw [n_Told_moveUpAndLeft, e_Told_moveUpAndLeft_4 d 29998, br_leF (by omega) (by omega), br_eq]
  unfold mvU
  by_cases e : x &&& zn 448 = zn 0
  · rw [if_pos e, if_pos e, zn_add, e_Told_moveUpAndLeft_4 d 29997, br_leF (by omega) (by omega), br_eq]
    by_cases e2 : (x <<< (zn 3 &&& 31)) &&& zn 448 = zn 0
    · rw [if_pos e2, if_pos e2, zn_add, e_Told_moveUpAndLeft_4 d 29996, br_leT (by omega) (by omega), L _ _ _ (by omega)]
    · rw [if_neg e2, if_neg e2, L _ _ _ (by omega)]
  · rw [if_neg e, if_neg e, L _ _ _ (by omega)]
theorem s_lookC {d a : Nat} {m : am_M} (h : a < 512) : am_c (d + 2) y_Told_lookOf [.int (zn a)] m = some (some (.int (zn (sp_look a))), m) := by
  rw [n_Told_lookOf, s_mv, bI_s, s_mv, bI_s, ← lookC_ok a h]; rfl
def upA : Nat → Int32 → Option Int32
  | 0, _ => none
  | k + 1, x => if x.toInt ≤ 0 then some x else if x &&& zn 448 = zn 0 then upA k (x <<< (zn 3 &&& 31)) else some x
def upB : Nat → Int32 → Option Int32
  | 0, _ => none
  | k + 1, x => if x.toInt ≤ 0 then some x else if x &&& zn 292 = zn 0 then upB k (x <<< (zn 1 &&& 31)) else some x
def upR (x : Int32) : Option Int32 := (upA 4 x).bind (upB 4)
def mirR (x : Int32) : Int32 := (((x &&& zn 73) <<< (zn 2 &&& 31)) ||| (x &&& zn 146)) ||| ((x &&& zn 292) >>> (zn 2 &&& 31))
set_option maxRecDepth 100000 in
theorem upR_ok : ∀ a, a < 512 → ∃ y z, upR (zn a) = some y ∧ upR (mirR (zn a)) = some z ∧ (if z.toInt ≤ y.toInt then z else y) = zn (sp_look a) := by
  have h : ∀ a, a < 512 → (match upR (zn a), upR (mirR (zn a)) with
    | some y, some z => decide ((if z.toInt ≤ y.toInt then z else y) = zn (sp_look a))
    | _, _ => false) = true := by decide +kernel
  intro a ha
  have h1 := h a ha
  cases e1 : upR (zn a) with
  | none => rw [e1] at h1; cases h1
  | some y =>
    cases e2 : upR (mirR (zn a)) with
    | none => rw [e1, e2] at h1; cases h1
    | some z =>
      rw [e1, e2] at h1
      exact ⟨y, z, rfl, rfl, of_decide_eq_true h1⟩
theorem l_upA {d : Nat} {x0 y : Int32} {m : am_M} (k : Nat) : ∀ (f : Nat) (x : Int32), upA k x = some y → k < f → ∃ f', r_M_up_2 d f x0 x m = r_M_up_21 d f' x0 y m ∧ f ≤ f' + k := by
  induction k with
  | zero => intro f x h; cases h
  | succ k ih =>
    intro f x h hf
    obtain ⟨f, rfl⟩ : ∃ g, f = g + 1 := ⟨f - 1, by omega⟩
    rw [upA] at h
    rw [e_M_up_2, br_le, zn_i (by omega), br_eq]
    by_cases e : x.toInt ≤ 0
    · rw [if_pos e] at h; injection h with h; subst h
      exact ⟨f, by rw [if_pos (by omega)], by omega⟩
    · rw [if_neg e] at h
      by_cases e2 : x &&& zn 448 = zn 0
      · rw [if_pos e2] at h
        obtain ⟨f', b1, b2⟩ := ih f _ h (by omega)
        exact ⟨f', by rw [if_neg (by omega), if_pos e2, b1], by omega⟩
      · rw [if_neg e2] at h; injection h with h; subst h
        exact ⟨f, by rw [if_neg (by omega), if_neg e2], by omega⟩
theorem l_upB {d : Nat} {x0 y : Int32} {m : am_M} (k : Nat) : ∀ (f : Nat) (x : Int32), upB k x = some y → k < f → r_M_up_21 d f x0 x m = some (some (.int y), m) := by
  induction k with
  | zero => intro f x h; cases h
  | succ k ih =>
    intro f x h hf
    obtain ⟨f, rfl⟩ : ∃ g, f = g + 1 := ⟨f - 1, by omega⟩
    rw [upB] at h
    rw [e_M_up_21, br_le, zn_i (by omega), br_eq]
    by_cases e : x.toInt ≤ 0
    · rw [if_pos e] at h; injection h with h; subst h
      rw [if_pos (by omega)]
    · rw [if_neg e] at h
      by_cases e2 : x &&& zn 292 = zn 0
      · rw [if_pos e2] at h
        rw [if_neg (by omega), if_pos e2, ih f _ h (by omega)]
      · rw [if_neg e2] at h; injection h with h; subst h
        rw [if_neg (by omega), if_neg e2]
theorem s_up {d : Nat} {x y : Int32} {m : am_M} (h : upR x = some y) : am_c (d + 1) y_M_up [.int x] m = some (some (.int y), m) := by
  unfold upR at h
  rcases opt_c (upA 4 x) with e | ⟨z, e⟩
  · rw [e] at h; cases h
  · rw [e] at h
    obtain ⟨f', b1, b2⟩ := l_upA (d := d) (x0 := x) (m := m) 4 29999 x e (by omega)
    rw [n_M_up, b1, l_upB 4 f' z h (by omega)]
theorem s_lookR {d a : Nat} {m : am_M} (h : a < 512) : am_c (d + 2) y_M_lookOf [.int (zn a)] m = some (some (.int (zn (sp_look a))), m) := by
  obtain ⟨y, z, h1, h2, h3⟩ := upR_ok a h
  have e : am_c (d + 1) y_M_mirrored [.int (zn a)] m = some (some (.int (mirR (zn a))), m) := n_M_mirrored d (zn a) m
  rw [n_M_lookOf, s_up h1, bI_s, e, bI_s, s_up h2, bI_s, br_le, io, h3]
def sp_bits (f : Nat → Nat) (x : Int32) : Nat → Nat → Int32 → Int32
  | 0, _, acc => acc
  | r + 1, i, acc => sp_bits f x r (i + 1) (if zn (f i) = x then acc ||| (zn 1 <<< (zn i &&& 31)) else acc)
theorem lp_look {T G F : Td} {d : Nat} {x : Int32} {m : am_M} (c : tC T G F m) (W : tW T) (r : Nat) : ∀ (i f : Nat) (acc : Int32), i + r = T 0 0 → r < f → r_Told_shadowsLooking_4 d f x acc (zn i) m = some (some (.int (sp_bits (T 6) x r i acc)), m) := by
  have := W.n
  induction r with
  | zero => intro i f acc h1 h2; obtain ⟨f, rfl⟩ : ∃ g, f = g + 1 := ⟨f - 1, by omega⟩; rw [e_Told_shadowsLooking_4]; simp (disch := omega) only [w_ne, w_at, wl_ne, wl_at, wc_ne, wc_at, upd_at, upd_ne, upl_at, upl_ne, cpy_in0, zn_cl, zn_add, zn_mul, zn_sub, zn_pm, br_tt, br_ff, br_ltT, br_ltF, br_leT, br_leF, br_eqT, br_eqF, br_eqs, br_eqm, br_eqm', br_ltm, br_mlt, br_lem, br_mle, br_oiF, br_lgge, br_lgle, br_lggt, br_lglt, br_lgeq, br_zb, br_zb1, bV_s, bI_s, bL_s, zo_n, zo_s, c.n]; rfl
  | succ r ih =>
    intro i f acc h1 h2; obtain ⟨f, rfl⟩ : ∃ g, f = g + 1 := ⟨f - 1, by omega⟩
    rw [e_Told_shadowsLooking_4, sp_bits, c.n, br_leF (by omega) (by omega), br_oiF (by omega) (by omega), zn_cl (by omega), c.lk i (by omega), br_eq, zn_add]
    by_cases e : zn (T 6 i) = x
    · rw [if_pos e, if_pos e, ih (i + 1) f _ (by omega) (by omega)]
    · rw [if_neg e, if_neg e, ih (i + 1) f _ (by omega) (by omega)]
theorem or_z (x : Int32) : x ||| zn 0 = x := Int32.or_zero
theorem lq_look {T G F : Td} {d : Nat} {x : Int32} {m : am_M} (c : tR T G F m) (W : tW T) (r : Nat) : ∀ (i f : Nat) (acc : Int32), i + r = T 0 0 → r < f → r_M_ofLook_4 (d + 2) f x acc (zn i) m = some (some (.int (sp_bits (T 6) x r i acc)), m) := by
  have := W.n
  induction r with
  | zero => intro i f acc h1 h2; obtain ⟨f, rfl⟩ : ∃ g, f = g + 1 := ⟨f - 1, by omega⟩; rw [e_M_ofLook_4]; simp (disch := omega) only [w_ne, w_at, wl_ne, wl_at, wc_ne, wc_at, upd_at, upd_ne, upl_at, upl_ne, cpy_in0, zn_cl, zn_add, zn_mul, zn_sub, zn_pm, br_tt, br_ff, br_ltT, br_ltF, br_leT, br_leF, br_eqT, br_eqF, br_eqs, br_eqm, br_eqm', br_ltm, br_mlt, br_lem, br_mle, br_oiF, br_lgge, br_lgle, br_lggt, br_lglt, br_lgeq, br_zb, br_zb1, bV_s, bI_s, bL_s, zo_n, zo_s, c.n]; rfl
  | succ r ih =>
    intro i f acc h1 h2; obtain ⟨f, rfl⟩ : ∃ g, f = g + 1 := ⟨f - 1, by omega⟩
    rw [e_M_ofLook_4, sp_bits, c.n, br_leF (by omega) (by omega), br_oiF (by omega) (by omega), zn_cl (by omega), c.sh i (by omega), s_lookR (W.sh i (by omega)), bI_s, ← W.ll i (by omega), br_eq, zn_add]
    by_cases e : zn (T 6 i) = x
    · rw [if_pos e, if_pos e, ih (i + 1) f _ (by omega) (by omega)]
    · rw [if_neg e, if_neg e, or_z, ih (i + 1) f _ (by omega) (by omega)]
theorem s_bitsC {T G F : Td} {d : Nat} {x : Int32} {m : am_M} (c : tC T G F m) (W : tW T) : am_c (d + 1) y_Told_shadowsLooking [.ref 27, .int x] m = some (some (.int (sp_bits (T 6) x (T 0 0) 0 (zn 0))), m) := by
  have := W.n
  rw [n_Told_shadowsLooking, lp_look c W (T 0 0) 0 29999 (zn 0) (by omega) (by omega)]
theorem s_bitsR {T G F : Td} {d : Nat} {x : Int32} {m : am_M} (c : tR T G F m) (W : tW T) : am_c (d + 3) y_M_ofLook [.ref 107, .int x] m = some (some (.int (sp_bits (T 6) x (T 0 0) 0 (zn 0))), m) := by
  have := W.n
  rw [n_M_ofLook, lq_look c W (T 0 0) 0 29999 (zn 0) (by omega) (by omega)]
theorem k_look (x : Int32) : ask y_C_look y_M_look [.int x] := by
  refine ask_of fun T G F q w day num m c r => ?_
  have hn := c.tw.n
  have c2 := c.qR (fqR_th m (zn 0))
  have i1 := s_isThingC c.tc c.tw (d := 6) (x := x)
  have i2 := s_isThingR c2.tr c.tw (d := 6) (x := x)
  cases e : isN (T 0 0) x with
  | false => exact ⟨some (.int zm), m, by rw [n_C_look, i1, e]; rfl, fqC_refl m, fun c1 r1 => ⟨_, by rw [n_M_look, i2, e]; rfl, fqR_th m (zn 0)⟩⟩
  | true =>
    obtain ⟨t, ht, rfl⟩ := isN_t e
    refine ⟨some (.int (zn (T 6 t))), m, ?_, fqC_refl m, fun c1 r1 => ⟨_, ?_, fqR_th m (zn 0)⟩⟩
    · rw [n_C_look, i1, e, bI_s, br_zb, if_pos rfl, br_oiF (by omega) (by omega), zn_cl (by omega), c.tc.lk t ht]
    · rw [n_M_look, i2, e, bI_s, br_zb, if_pos rfl, br_oiF (by omega) (by omega), zn_cl (by omega), c2.tr.sh t ht, s_lookR (c.tw.sh t ht), bI_s, ← c.tw.ll t ht]
theorem k_alike (x : Int32) : ask y_C_alike y_M_alike [.int x] := by
  refine ask_of fun T G F q w day num m c r => ?_
  have hn := c.tw.n
  have c2 := c.qR (fqR_th m (zn 0))
  have i1 := s_isThingC c.tc c.tw (d := 6) (x := x)
  have i2 := s_isThingR c2.tr c.tw (d := 6) (x := x)
  cases e : isN (T 0 0) x with
  | false => exact ⟨some (.int zm), m, by rw [n_C_alike, i1, e]; rfl, fqC_refl m, fun c1 r1 => ⟨_, by rw [n_M_alike, i2, e]; rfl, fqR_th m (zn 0)⟩⟩
  | true =>
    obtain ⟨t, ht, rfl⟩ := isN_t e
    refine ⟨some (.int (sp_bits (T 6) (zn (T 6 t)) (T 0 0) 0 (zn 0))), m, ?_, fqC_refl m, fun c1 r1 => ⟨_, ?_, fqR_th m (zn 0)⟩⟩
    · rw [n_C_alike, i1, e, bI_s, br_zb, if_pos rfl, br_oiF (by omega) (by omega), zn_cl (by omega), c.tc.lk t ht, s_bitsC c.tc c.tw, bI_s]
    · rw [n_M_alike, i2, e, bI_s, br_zb, if_pos rfl, br_oiF (by omega) (by omega), zn_cl (by omega), c2.tr.sh t ht, s_lookR (c.tw.sh t ht), bI_s, ← c.tw.ll t ht, s_bitsR c2.tr c.tw, bI_s]
theorem k_whose (x : Int32) : ask y_C_whose y_M_whose [.int x] := by
  refine ask_of fun T G F q w day num m c r => ?_
  have c2 := c.qR (fqR_th m (zn 0))
  have i1 : am_c 7 y_C_isShape [.int x] m = some (some (.int (zb (isR (0 : Nat) (511 : Nat) x))), m) := by rw [n_C_isShape, isR_eq (by omega) (by omega), zb_if]
  have i2 : am_c 7 y_M_isIn [.int x, .int (zn 0), .int (zn 511)] (am_w m.1 107 2 (zn 0), m.2) = _ := s_isInN (d := 6) (by omega) (by omega)
  cases e : isR (0 : Nat) (511 : Nat) x with
  | false => exact ⟨some (.int zm), m, by rw [n_C_whose, i1, e]; rfl, fqC_refl m, fun c1 r1 => ⟨_, by rw [n_M_whose, i2, e]; rfl, fqR_th m (zn 0)⟩⟩
  | true =>
    obtain ⟨t, _, ht, rfl⟩ := isR_t e
    refine ⟨some (.int (sp_bits (T 6) (zn (sp_look t)) (T 0 0) 0 (zn 0))), m, ?_, fqC_refl m, fun c1 r1 => ⟨_, ?_, fqR_th m (zn 0)⟩⟩
    · rw [n_C_whose, i1, e, bI_s, br_zb, if_pos rfl, s_lookC (by omega), bI_s, s_bitsC c.tc c.tw, bI_s]
    · rw [n_M_whose, i2, e, bI_s, br_zb, if_pos rfl, s_lookR (by omega), bI_s, s_bitsR c2.tr c.tw, bI_s]
