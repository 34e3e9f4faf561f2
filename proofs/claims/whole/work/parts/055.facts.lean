/-! the words that all methods share, and what the links are -/
def am_TB : List Cond := lw_tbl.filter goodWord
def am_yd (y : Nat) : MethodName × ByteArray × Nat × Option FieldType := match am_at am_YD y with
  | some q => q
  | none => (⟨"", "", ""⟩, ⟨#[]⟩, 0, none)
abbrev am_yn (y : Nat) : MethodName := (am_yd y).1
abbrev am_yw (y : Nat) : Cond := .code (am_yd y).1 (am_yd y).2.1 (am_yd y).2.2.1 (am_yd y).2.2.2
def am_ch (c : Nat) : List Cond := match c with
  | 0 => k2_sels lw_privs
  | 1 => tables_1_1
  | 2 => tables_1_2
  | 3 => tables_1_3
  | 4 => tables_1_4
  | 5 => tables_1_5
  | 6 => tables_1_6
  | 7 => tables_1_7
  | 8 => tables_1_8
  | 9 => tables_1_9
  | _ => tables_1_10
theorem am_ch_in {c : Nat} {w : Cond} (h : w ∈ am_ch c) : w ∈ lw_tbl := by
  unfold lw_tbl tables_1
  unfold am_ch at h
  simp only [List.mem_append]
  split at h <;> simp [h]
theorem am_in_tb {α : Type} {ks : List α} {f : α → Cond} {is : List (Nat × Nat)} (h : is.map (fun i => am_at (am_ch i.1) i.2) = ks.map (fun q => some (f q))) (hg : ks.all (fun q => goodWord (f q)) = true) : ∀ q ∈ ks, f q ∈ am_TB := by
  intro q hq
  have h1 : some (f q) ∈ is.map (fun i => am_at (am_ch i.1) i.2) := by rw [h]; exact List.mem_map.mpr ⟨q, hq, rfl⟩
  obtain ⟨i, -, hi⟩ := List.mem_map.mp h1
  rw [am_at_eq] at hi
  exact List.mem_filter.mpr ⟨am_ch_in (List.mem_of_getElem? hi), List.all_eq_true.mp hg q hq⟩
set_option maxRecDepth 100000 in
theorem am_KI_ok : ∀ q ∈ am_KI, Cond.constant (am_cn q.1) q.2.1 q.2.2 ∈ am_TB := am_in_tb (is := am_KIi) rfl (by decide +kernel)
set_option maxRecDepth 100000 in
theorem am_KL_ok : ∀ q ∈ am_KL, Cond.constantLong (am_cn q.1) q.2.1 q.2.2 ∈ am_TB := am_in_tb (is := am_KLi) rfl (by decide +kernel)
def am_tk (ci k : Nat) : String × String × String × Bool := match am_at vwCl ci with
  | some q => q.2.1 k
  | none => ("", "", "", true)
set_option maxRecDepth 100000 in
theorem am_KF_ok : ∀ q ∈ am_KF, Cond.fieldLink (am_cn q.1) q.2.1 (am_tk q.2.2.1 q.2.2.2).1 (am_tk q.2.2.1 q.2.2.2).2.1 (am_tk q.2.2.1 q.2.2.2).2.2.1 ∈ am_TB := am_in_tb (is := am_KFi) rfl (by decide +kernel)
set_option maxRecDepth 100000 in
theorem am_KM_ok : ∀ q ∈ am_KM, Cond.methodLink (am_cn q.1) q.2.1 (am_yn q.2.2) ∈ am_TB := am_in_tb (is := am_KMi) rfl (by decide +kernel)
def am_mx (b : Nat) : MethodName := match b with
  | 0 => Lib.Math.abs.name
  | 1 => Lib.Math.max.name
  | 2 => Lib.Math.min.name
  | 3 => Lib.MathLoose.abs_long.x
  | 4 => Lib.MathLoose.max_long.x
  | _ => Lib.MathLoose.min_long.x
set_option maxRecDepth 100000 in
theorem am_KX_ok : ∀ q ∈ am_KX, Cond.methodLink (am_cn q.1) q.2.1 (am_mx q.2.2) ∈ am_TB := am_in_tb (is := am_KXi) rfl (by decide +kernel)
set_option maxRecDepth 100000 in
theorem am_KA_ok : ∀ q ∈ am_KA, Cond.methodLink (am_cn q.1) q.2 arraycopyName ∈ am_TB := am_in_tb (is := am_KAi) rfl (by decide +kernel)
def am_ms : List Cond := [.initialized "java/lang/Math", .static Lib.Math.abs.name, .static Lib.Math.max.name, .static Lib.Math.min.name, .static Lib.MathLoose.abs_long.x, .static Lib.MathLoose.max_long.x, .static Lib.MathLoose.min_long.x, .code Lib.Math.abs.name Lib.Math.abs.code 1 (some .int), .code Lib.Math.max.name Lib.Math.max.code 2 (some .int), .code Lib.Math.min.name Lib.Math.min.code 2 (some .int), .code Lib.MathLoose.abs_long.x Lib.MathLoose.abs_long.code 2 (some .long), .code Lib.MathLoose.max_long.x Lib.MathLoose.max_long.code 4 (some .long), .code Lib.MathLoose.min_long.x Lib.MathLoose.min_long.code 4 (some .long), .initialized "java/lang/System", .native arraycopyName, .static arraycopyName]
set_option maxRecDepth 100000 in
theorem am_ms_ok : ∀ q ∈ am_ms, q ∈ am_TB := am_in_tb (f := fun q => q) (is := [(1,18), (4,165), (4,59), (3,164), (4,151), (6,21), (6,18), (4,166), (4,60), (3,165), (4,152), (6,22), (6,19), (1,19), (4,71), (4,70)]) rfl (by decide +kernel)
def am_yi (y : Nat) : Cond := match am_at am_MT y with
  | some q => if q.2.2.2.2.1 = true then .static (am_yn y) else .instanceMethod (am_yn y)
  | none => .initialized ""
def am_yv (y : Nat) : Cond := match am_at am_MT y with
  | some q => if q.2.2.2.2.1 = true then .static (am_yn y) else .selects (am_yn y).cls (am_yn y) (am_yn y)
  | none => .initialized ""
abbrev am_ys : List Nat := List.range 282
set_option maxRecDepth 100000 in
theorem am_yw_ok : ∀ y ∈ am_ys, am_yw y ∈ am_TB := am_in_tb (is := am_YDi) rfl (by decide +kernel)
set_option maxRecDepth 100000 in
theorem am_yi_ok : ∀ y ∈ am_ys, am_yi y ∈ am_TB := am_in_tb (is := am_YDs) rfl (by decide +kernel)
set_option maxRecDepth 100000 in
theorem am_yv_ok : ∀ y ∈ am_ys, am_yv y ∈ am_TB := am_in_tb (is := am_YDv) rfl (by decide +kernel)
set_option maxRecDepth 100000 in
theorem am_yc_ok : ∀ y ∈ am_ys, Cond.initialized (am_yn y).cls ∈ am_TB := am_in_tb (is := am_YDc) rfl (by decide +kernel)
