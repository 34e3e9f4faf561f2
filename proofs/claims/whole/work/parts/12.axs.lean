/-! soundness of the machine of constructors -/
def ax_yd (y : Nat) : MethodName × ByteArray × Nat := match am_at ax_YD y with
  | some q => q
  | none => (⟨"", "", ""⟩, ⟨#[]⟩, 0)
abbrev ax_yn (y : Nat) : MethodName := (ax_yd y).1
abbrev ax_yw (y : Nat) : Cond := .code (ax_yd y).1 (ax_yd y).2.1 (ax_yd y).2.2 none
def ax_nn (ci : Nat) : Nat := match am_at vwCl ci with
  | some q => q.2.2
  | none => 0
abbrev ax_ys : List Nat := List.range 13
set_option maxRecDepth 100000 in
theorem ax_KC_ok : ∀ q ∈ ax_KC, Cond.classLink (am_cn q.1) q.2.1 (am_cn q.2.2) ∈ am_TB := am_in_tb (is := ax_KCi) rfl (by decide +kernel)
set_option maxRecDepth 100000 in
theorem ax_KO_ok : ∀ q ∈ ax_KO, Cond.methodLink (am_cn q.1) q.2 Lib.objectInit ∈ am_TB := am_in_tb (is := ax_KOi) rfl (by decide +kernel)
set_option maxRecDepth 100000 in
theorem ax_KS_ok : ∀ q ∈ ax_KS, Cond.methodLink (am_cn q.1) q.2.1 (ax_yn q.2.2) ∈ am_TB := am_in_tb (is := ax_KSi) rfl (by decide +kernel)
set_option maxRecDepth 100000 in
theorem ax_KF_ok : ∀ q ∈ ax_KF, Cond.fieldLink (am_cn q.1) q.2.1 (am_tk q.2.2.1 q.2.2.2).1 (am_tk q.2.2.1 q.2.2.2).2.1 (am_tk q.2.2.1 q.2.2.2).2.2.1 ∈ am_TB := am_in_tb (is := ax_KFi) rfl (by decide +kernel)
set_option maxRecDepth 100000 in
theorem ax_yw_ok : ∀ y ∈ ax_ys, ax_yw y ∈ am_TB := am_in_tb (is := ax_YDi) rfl (by decide +kernel)
set_option maxRecDepth 100000 in
theorem ax_yi_ok : ∀ y ∈ ax_ys, Cond.instanceMethod (ax_yn y) ∈ am_TB := am_in_tb (is := ax_YDs) rfl (by decide +kernel)
set_option maxRecDepth 100000 in
theorem ax_yc_ok : ∀ y ∈ ax_ys, Cond.initialized (ax_yn y).cls ∈ am_TB := am_in_tb (is := ax_YDc) rfl (by decide +kernel)
set_option maxRecDepth 100000 in
theorem ax_in_ok : ∀ ci ∈ ax_ys, Cond.instantiable (am_cn ci) (ax_nn ci) ∈ am_TB := am_in_tb (is := ax_YDn) rfl (by decide +kernel)
set_option maxRecDepth 100000 in
theorem ax_it_ok : ∀ ci ∈ ax_ys, Cond.initialized (am_cn ci) ∈ am_TB := am_in_tb (is := ax_YDj) rfl (by decide +kernel)
set_option maxRecDepth 100000 in
theorem ax_ob_ok : ∀ w ∈ ([.instanceMethod Lib.objectInit, .code Lib.objectInit ⟨#[0xb1]⟩ 1 none] : List Cond), w ∈ am_TB := am_in_tb (f := fun q => q) (is := ax_OBi) rfl (by decide +kernel)
set_option maxRecDepth 100000 in
theorem ax_ar_ok : ∀ t ∈ ([.int, .byte, .boolean, .long] : List FieldType), Cond.arrayClass t ∈ am_TB := am_in_tb (is := ax_ARi) rfl (by decide +kernel)
theorem ax_yq : ∀ y ∈ ax_ys, (ax_yn y).cls ≠ "java/lang/invoke/MethodHandle" ∧ (ax_yn y).cls ≠ "java/lang/invoke/VarHandle" ∧ (parseMethodDescriptor (ax_yn y).desc).map (fun d => d.parameters.length) = some 0 ∧ (ax_yn y).name = "<init>" ∧ plainName (ax_yn y).cls = true ∧ (ax_yd y).2.2 ≤ 11 := by decide +kernel
def ax_dv (f : Nat) : Value := match f with
  | 0 => .int 0
  | 1 => .int 0
  | 2 => .long 0
  | _ => .null
/-- the fields' kinds are as the tables have them -/
def ax_fk (T : u_T) : Nat → List Nat → Bool
  | _, [] => true
  | b, f :: fs => (match parseFieldDescriptor (T b).2.2.1 with
    | some ty => (decide (defaultValue ty = ax_dv f) && decide (f < 4)) && (match f with
      | 0 => decide (ty = .int) && !(T b).2.2.2
      | 3 => refKind ty && (T b).2.2.2
      | _ => true)
    | none => false) && ax_fk T (b + 1) fs
def ax_ck (ci : Nat) : Bool := match am_at vwCl ci with
  | some q => ax_fk q.2.1 0 (ax_df ci) && (decide ((ax_df ci).length = q.2.2) && (List.range q.2.2).all (fun b => decide ((q.2.1 b).1 = am_cn ci)))
  | none => false
theorem ax_ck_ok : ∀ ci ∈ ax_ys, ax_ck ci = true := by decide +kernel
theorem ax_fk_ok {T : u_T} : ∀ {fs : List Nat} {n : Nat}, ax_fk T n fs = true → ∀ (b f : Nat), am_at fs b = some f → ∃ ty, parseFieldDescriptor (T (n + b)).2.2.1 = some ty ∧ (defaultValue ty = ax_dv f ∧ f < 4) ∧ (f = 0 → ty = .int ∧ (T (n + b)).2.2.2 = false) ∧ (f = 3 → refKind ty = true ∧ (T (n + b)).2.2.2 = true)
  | [], n, _, b, f, h => by cases h
  | g :: fs, n, hk, 0, f, h => by
    cases h
    unfold ax_fk at hk
    rw [Bool.and_eq_true] at hk
    obtain ⟨hk, -⟩ := hk
    split at hk
    · rename_i ty hty
      rw [Bool.and_eq_true, Bool.and_eq_true] at hk
      refine ⟨ty, hty, ⟨of_decide_eq_true hk.1.1, of_decide_eq_true hk.1.2⟩, fun e => ?_, fun e => ?_⟩
      · subst e
        simpa using hk.2
      · subst e
        simpa using hk.2
    · cases hk
  | g :: fs, n, hk, b + 1, f, h => by
    unfold ax_fk at hk
    rw [Bool.and_eq_true] at hk
    have := ax_fk_ok hk.2 b f h
    rw [show n + (b + 1) = n + 1 + b by omega]
    exact this
theorem ax_cls {ci : Nat} (h : ci ∈ ax_ys) : ∃ (C : String) (T : u_T) (N : Nat), vwCl[ci]? = some (C, T, N) ∧ C = am_cn ci ∧ N = ax_nn ci ∧ (ax_df ci).length = N ∧ (∀ b, b < N → (T b).1 = am_cn ci) ∧ (∀ w ∈ u_ws C T N, w ∈ am_TB) ∧ (∀ a, a < N → ∀ b, b < N → a ≠ b → (T a).2.1 ≠ (T b).2.1) ∧ (∃ ty0 : Nat → FieldType, ∀ k, k < N → parseFieldDescriptor (T k).2.2.1 = some (ty0 k)) ∧ ∀ (b f : Nat), am_at (ax_df ci) b = some f → ∃ ty, parseFieldDescriptor (T b).2.2.1 = some ty ∧ (defaultValue ty = ax_dv f ∧ f < 4) ∧ (f = 0 → ty = .int ∧ (T b).2.2.2 = false) ∧ (f = 3 → refKind ty = true ∧ (T b).2.2.2 = true) := by
  have h1 := ax_ck_ok ci h
  unfold ax_ck at h1
  split at h1
  · rename_i q hq
    obtain ⟨C, T, N⟩ := q
    rw [Bool.and_eq_true, Bool.and_eq_true] at h1
    obtain ⟨h2, h3, h4⟩ := am_cls ci _ hq
    refine ⟨C, T, N, by rw [am_at_eq] at hq; exact hq, by unfold am_cn; rw [hq], by unfold ax_nn; rw [hq], of_decide_eq_true h1.2.1, fun b hb => ?_, h2, h3, h4, fun b f hf => ?_⟩
    · have := List.all_eq_true.mp h1.2.2 b (List.mem_range.mpr hb)
      exact of_decide_eq_true this
    · have := ax_fk_ok h1.1 b f hf
      rw [Nat.zero_add] at this
      exact this
  · cases h1
def ax_aty (a : Nat) : ArrayType := match a with
  | 0 => .int
  | 1 => .byte
  | 2 => .boolean
  | _ => .long
def ax_cd (own pc : Nat) (i : am_I) : List (Instr × Nat) := match i with
  | (op, nx, a, b, v, w, tl) => match op with
    | 0 => (.iconst v.toInt, 1) :: ((if (Int8.ofInt v.toInt).toInt32 = v then [(.bipush v.toInt, 2)] else []) ++ (if (Int16.ofInt v.toInt).toInt32 = v then [(.sipush v.toInt, 3)] else []))
    | 4 => am_ld .aload_n .aload a
    | 20 => [(.dup, 1)]
    | 21 => [(.pop, 1)]
    | 27 => (ax_KF.filter (fun q => q.1 == own && (q.2.2.1 == a && q.2.2.2 == b))).map (fun q => (.getfield q.2.1, 3))
    | 28 => if own = a then (ax_KF.filter (fun q => q.1 == own && (q.2.2.1 == a && q.2.2.2 == b))).map (fun q => (.putfield q.2.1, 3)) else []
    | 30 => [(.iastore, 1)]
    | 43 => [(.return_, 1)]
    | 50 => if a < 13 then (ax_KC.filter (fun q => q.1 == own && q.2.2 == a)).map (fun q => (.new q.2.1, 3)) else []
    | 51 => [(.newarray (ax_aty a), 2)]
    | 52 => (ax_KO.filter (fun q => q.1 == own)).map (fun q => (.invokespecial q.2, 3))
    | 53 => if a < 13 then (ax_KS.filter (fun q => q.1 == own && q.2.2 == a)).map (fun q => (.invokespecial q.2.1, 3)) ++ (ax_KN.filter (fun q => q.1 == own && q.2.2.1 == a)).map (fun q => (.invokespecial q.2.1, 3)) else []
    | _ => []
def ax_Ik (own : Nat) (cc : ByteArray) (pc : Nat) (i : am_I) : Prop := ∃ q ∈ ax_cd own pc i, decode cc pc = .ok q ∧ i.2.1 = pc + q.2
def ax_ib (own : Nat) (cc : ByteArray) (r : Nat × am_I) : Bool := (ax_cd own r.1 r.2).any (fun q => decide (decode cc r.1 = .ok q) && decide (r.2.2.1 = r.1 + q.2))
theorem ax_ib_ok {own : Nat} {cc : ByteArray} {r : Nat × am_I} (h : ax_ib own cc r = true) : ax_Ik own cc r.1 r.2 := by
  unfold ax_ib at h
  rw [List.any_eq_true] at h
  obtain ⟨q, hq, h1⟩ := h
  simp only [Bool.and_eq_true, decide_eq_true_eq] at h1
  exact ⟨q, hq, h1.1, h1.2⟩
