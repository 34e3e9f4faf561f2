set_option maxRecDepth 100000 in
theorem am_u0 : ∀ w ∈ u_ws RX0 TX0 4, w ∈ am_TB := by
  intro w hw
  obtain ⟨k, hk, rfl⟩ := List.mem_map.mp hw
  exact am_in_tb (ks := List.range 4) (f := u_lay RX0 TX0) (is := [(2,125), (2,127), (2,129), (2,131)]) rfl (by decide +kernel) k hk
set_option maxRecDepth 100000 in
theorem am_u1 : ∀ w ∈ u_ws RX1 TX1 5, w ∈ am_TB := by
  intro w hw
  obtain ⟨k, hk, rfl⟩ := List.mem_map.mp hw
  exact am_in_tb (ks := List.range 5) (f := u_lay RX1 TX1) (is := [(3,75), (3,77), (3,79), (3,81), (3,83)]) rfl (by decide +kernel) k hk
set_option maxRecDepth 100000 in
theorem am_u2 : ∀ w ∈ u_ws RX2 TX2 13, w ∈ am_TB := by
  intro w hw
  obtain ⟨k, hk, rfl⟩ := List.mem_map.mp hw
  exact am_in_tb (ks := List.range 13) (f := u_lay RX2 TX2) (is := [(2,224), (2,226), (2,228), (2,230), (2,232), (2,234), (2,236), (2,238), (3,0), (3,2), (3,4), (3,6), (3,8)]) rfl (by decide +kernel) k hk
set_option maxRecDepth 100000 in
theorem am_u3 : ∀ w ∈ u_ws RX3 TX3 7, w ∈ am_TB := by
  intro w hw
  obtain ⟨k, hk, rfl⟩ := List.mem_map.mp hw
  exact am_in_tb (ks := List.range 7) (f := u_lay RX3 TX3) (is := [(1,150), (1,152), (1,154), (1,156), (1,158), (1,160), (1,162)]) rfl (by decide +kernel) k hk
set_option maxRecDepth 100000 in
theorem am_u4 : ∀ w ∈ u_ws RX4 TX4 6, w ∈ am_TB := by
  intro w hw
  obtain ⟨k, hk, rfl⟩ := List.mem_map.mp hw
  exact am_in_tb (ks := List.range 6) (f := u_lay RX4 TX4) (is := [(3,49), (3,51), (3,53), (3,55), (3,57), (3,59)]) rfl (by decide +kernel) k hk
set_option maxRecDepth 100000 in
theorem am_u5 : ∀ w ∈ u_ws RX5 TX5 14, w ∈ am_TB := by
  intro w hw
  obtain ⟨k, hk, rfl⟩ := List.mem_map.mp hw
  exact am_in_tb (ks := List.range 14) (f := u_lay RX5 TX5) (is := [(2,48), (2,50), (2,52), (2,54), (2,56), (2,58), (2,60), (2,62), (2,64), (2,66), (2,68), (2,70), (2,72), (2,74)]) rfl (by decide +kernel) k hk
set_option maxRecDepth 100000 in
theorem am_u6 : ∀ w ∈ u_ws RX6 TX6 8, w ∈ am_TB := by
  intro w hw
  obtain ⟨k, hk, rfl⟩ := List.mem_map.mp hw
  exact am_in_tb (ks := List.range 8) (f := u_lay RX6 TX6) (is := [(1,107), (1,109), (1,111), (1,113), (1,115), (1,117), (1,119), (1,121)]) rfl (by decide +kernel) k hk
set_option maxRecDepth 100000 in
theorem am_u7 : ∀ w ∈ u_ws RX7 TX7 12, w ∈ am_TB := by
  intro w hw
  obtain ⟨k, hk, rfl⟩ := List.mem_map.mp hw
  exact am_in_tb (ks := List.range 12) (f := u_lay RX7 TX7) (is := [(2,182), (2,184), (2,186), (2,188), (2,190), (2,192), (2,194), (2,196), (2,198), (2,200), (2,202), (2,204)]) rfl (by decide +kernel) k hk
set_option maxRecDepth 100000 in
theorem am_u8 : ∀ w ∈ u_ws RX8 TX8 5, w ∈ am_TB := by
  intro w hw
  obtain ⟨k, hk, rfl⟩ := List.mem_map.mp hw
  exact am_in_tb (ks := List.range 5) (f := u_lay RX8 TX8) (is := [(3,24), (3,26), (3,28), (3,30), (3,32)]) rfl (by decide +kernel) k hk
set_option maxRecDepth 100000 in
theorem am_u9 : ∀ w ∈ u_ws RX9 TX9 18, w ∈ am_TB := by
  intro w hw
  obtain ⟨k, hk, rfl⟩ := List.mem_map.mp hw
  exact am_in_tb (ks := List.range 18) (f := u_lay RX9 TX9) (is := [(1,233), (1,235), (1,237), (1,239), (2,1), (2,3), (2,5), (2,7), (2,9), (2,11), (2,13), (2,15), (2,17), (2,19), (2,21), (2,23), (2,25), (2,27)]) rfl (by decide +kernel) k hk
set_option maxRecDepth 100000 in
theorem am_u10 : ∀ w ∈ u_ws RX10 TX10 4, w ∈ am_TB := by
  intro w hw
  obtain ⟨k, hk, rfl⟩ := List.mem_map.mp hw
  exact am_in_tb (ks := List.range 4) (f := u_lay RX10 TX10) (is := [(2,108), (2,110), (2,112), (2,114)]) rfl (by decide +kernel) k hk
set_option maxRecDepth 100000 in
theorem am_u11 : ∀ w ∈ u_ws RX11 TX11 16, w ∈ am_TB := by
  intro w hw
  obtain ⟨k, hk, rfl⟩ := List.mem_map.mp hw
  exact am_in_tb (ks := List.range 16) (f := u_lay RX11 TX11) (is := [(3,102), (3,104), (3,106), (3,108), (3,110), (3,112), (3,114), (3,116), (3,118), (3,120), (3,122), (3,124), (3,126), (3,128), (3,130), (3,132)]) rfl (by decide +kernel) k hk
set_option maxRecDepth 100000 in
theorem am_u12 : ∀ w ∈ u_ws RX12 TX12 93, w ∈ am_TB := by
  intro w hw
  obtain ⟨k, hk, rfl⟩ := List.mem_map.mp hw
  exact am_in_tb (ks := List.range 93) (f := u_lay RX12 TX12) (is := [(7,63), (7,65), (7,67), (7,69), (7,71), (7,73), (7,75), (7,77), (7,79), (7,81), (7,83), (7,85), (7,87), (7,89), (7,91), (7,93), (7,95), (7,97), (7,99), (7,101), (7,103), (7,105), (7,107), (7,109), (7,111), (7,113), (7,115), (7,117), (7,119), (7,121), (7,123), (7,125), (7,127), (7,129), (7,131), (7,133), (7,135), (7,137), (7,139), (7,141), (7,143), (7,145), (7,147), (7,149), (7,151), (7,153), (7,155), (7,157), (7,159), (7,161), (7,163), (7,165), (7,167), (7,169), (7,171), (7,173), (7,175), (7,177), (7,179), (7,181), (7,183), (7,185), (7,187), (7,189), (7,191), (7,193), (7,195), (7,197), (7,199), (7,201), (7,203), (7,205), (7,207), (7,209), (7,211), (7,213), (7,215), (7,217), (7,219), (7,221), (7,223), (7,225), (7,227), (7,229), (7,231), (7,233), (7,235), (7,237), (7,239), (8,1), (8,3), (8,5), (8,7)]) rfl (by decide +kernel) k hk
def am_fk (T : u_T) : Nat → List Nat → Bool
  | _, [] => true
  | b, f :: fs => (match f with
    | 0 => !(T b).2.2.2 && decide (parseFieldDescriptor (T b).2.2.1 = some .int)
    | 1 => !(T b).2.2.2 && decide (parseFieldDescriptor (T b).2.2.1 = some .boolean)
    | 2 => !(T b).2.2.2 && decide (parseFieldDescriptor (T b).2.2.1 = some .long)
    | _ => true) && am_fk T (b + 1) fs
theorem am_fk_ok {T : u_T} : ∀ {fs : List Nat} {n : Nat}, am_fk T n fs = true → ∀ (b f : Nat), am_at fs b = some f → (f = 0 → (T (n + b)).2.2.2 = false ∧ parseFieldDescriptor (T (n + b)).2.2.1 = some .int) ∧ (f = 1 → (T (n + b)).2.2.2 = false ∧ parseFieldDescriptor (T (n + b)).2.2.1 = some .boolean) ∧ (f = 2 → (T (n + b)).2.2.2 = false ∧ parseFieldDescriptor (T (n + b)).2.2.1 = some .long)
  | [], n, _, b, f, h => by cases h
  | g :: fs, n, hk, 0, f, h => by
    cases h
    unfold am_fk at hk
    rw [Bool.and_eq_true] at hk
    refine ⟨fun e => ?_, fun e => ?_, fun e => ?_⟩ <;> subst e <;> simpa using hk.1
  | g :: fs, n, hk, b + 1, f, h => by
    unfold am_fk at hk
    rw [Bool.and_eq_true] at hk
    have := am_fk_ok hk.2 b f h
    rw [show n + (b + 1) = n + 1 + b by omega]
    exact this
def am_gk (g : am_D) : Bool := match g with
  | (4, ci, fs) => match am_at vwCl ci with
    | some q => decide (fs.length = q.2.2) && am_fk q.2.1 0 fs
    | none => false
  | _ => true
theorem am_gk_all : am_G.all am_gk = true := by decide +kernel
theorem am_cls : ∀ (ci : Nat) (q : vw_C), am_at vwCl ci = some q → (∀ w ∈ u_ws q.1 q.2.1 q.2.2, w ∈ am_TB) ∧ (∀ a, a < q.2.2 → ∀ b, b < q.2.2 → a ≠ b → (q.2.1 a).2.1 ≠ (q.2.1 b).2.1) ∧ (∃ ty0 : Nat → FieldType, ∀ k, k < q.2.2 → parseFieldDescriptor (q.2.1 k).2.2.1 = some (ty0 k)) := by
  intro ci q hq
  exact match ci, hq with
  | 0, hq => by
    cases hq
    exact ⟨am_u0, nmX0, tyX0, tyX0_ok⟩
  | 1, hq => by
    cases hq
    exact ⟨am_u1, nmX1, tyX1, tyX1_ok⟩
  | 2, hq => by
    cases hq
    exact ⟨am_u2, nmX2, tyX2, tyX2_ok⟩
  | 3, hq => by
    cases hq
    exact ⟨am_u3, nmX3, tyX3, tyX3_ok⟩
  | 4, hq => by
    cases hq
    exact ⟨am_u4, nmX4, tyX4, tyX4_ok⟩
  | 5, hq => by
    cases hq
    exact ⟨am_u5, nmX5, tyX5, tyX5_ok⟩
  | 6, hq => by
    cases hq
    exact ⟨am_u6, nmX6, tyX6, tyX6_ok⟩
  | 7, hq => by
    cases hq
    exact ⟨am_u7, nmX7, tyX7, tyX7_ok⟩
  | 8, hq => by
    cases hq
    exact ⟨am_u8, nmX8, tyX8, tyX8_ok⟩
  | 9, hq => by
    cases hq
    exact ⟨am_u9, nmX9, tyX9, tyX9_ok⟩
  | 10, hq => by
    cases hq
    exact ⟨am_u10, nmX10, tyX10, tyX10_ok⟩
  | 11, hq => by
    cases hq
    exact ⟨am_u11, nmX11, tyX11, tyX11_ok⟩
  | 12, hq => by
    cases hq
    exact ⟨am_u12, nmX12, tyX12, tyX12_ok⟩
  | n + 13, hq => by cases hq
theorem am_GK_ok : am_GK am_G := by
  intro o ci fs h
  have h1 : am_gk (4, ci, fs) = true := List.all_eq_true.mp am_gk_all _ (by rw [am_at_eq] at h; exact List.mem_of_getElem? h)
  change (match am_at vwCl ci with
    | some q => decide (fs.length = q.2.2) && am_fk q.2.1 0 fs
    | none => false) = true at h1
  split at h1
  · rename_i q hq
    obtain ⟨C, T, N⟩ := q
    rw [Bool.and_eq_true] at h1
    obtain ⟨h2, h3, h4⟩ := am_cls ci _ hq
    rw [am_at_eq] at hq
    refine ⟨C, T, N, hq, of_decide_eq_true h1.1, h2, h3, h4, fun b f hf => ?_⟩
    have := am_fk_ok h1.2 b f hf
    rw [Nat.zero_add] at this
    exact this
  · cases h1
theorem am_m8 : ∀ y ∈ am_ys, (am_yd y).2.2.1 ≤ 11 := by decide +kernel
