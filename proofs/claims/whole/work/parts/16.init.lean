/-! what the two constructors make -/
def ax_sf (f : Nat) : Nat := if f < 3 then f else f + 1
def ax_sh (g : am_D) : am_D := (g.1, g.2.1, g.2.2.map ax_sf)
theorem ax_fv_sf {base : Nat} {m : am_M} {k j f : Nat} : ax_fv base m k j (ax_sf f) = am_fv base m k j f := by
  rcases f with _ | _ | _ | f
  · rfl
  · rfl
  · rfl
  · show ax_fv base m k j (if f + 3 < 3 then f + 3 else f + 3 + 1) = _
    rw [if_neg (by omega)]
    rfl
theorem ax_ce_sh {dA : Nat → ClassId} {base : Nat} {m : am_M} {k : Nat} (g : am_D) : ax_ce dA base m k (ax_sh g) = am_ce dA base m k g := by
  obtain ⟨t, n, fs⟩ := g
  show ax_ce dA base m k (t, n, fs.map ax_sf) = am_ce dA base m k (t, n, fs)
  have h4 : (fs.map ax_sf).mapIdx (fun j f => ax_fv base m k j f) = fs.mapIdx (fun j f => am_fv base m k j f) := by
    apply List.ext_getElem?
    intro j
    simp only [List.getElem?_mapIdx, List.getElem?_map]
    cases fs[j]? with
    | none => rfl
    | some f => simp [ax_fv_sf]
  rcases t with _ | _ | _ | _ | _ | t
  · rfl
  · rfl
  · rfl
  · rfl
  · show (Sum.inr (n, (fs.map ax_sf).mapIdx (fun j f => ax_fv base m k j f)) : va_E) = Sum.inr (n, fs.mapIdx (fun j f => am_fv base m k j f))
    rw [h4]
  · rfl
theorem ax_pw_sh {G : List am_D} {dA : Nat → ClassId} {base : Nat} {m : am_M} : ax_pw (G.map ax_sh) dA base m = am_pw G dA base m := by
  apply List.ext_getElem?
  intro j
  simp only [ax_pw, am_pw, List.getElem?_mapIdx, List.getElem?_map]
  cases G[j]? with
  | none => rfl
  | some g => simp [ax_ce_sh]
def ax_S0 : ax_S := ([(4, 11, ax_df 11)], (fun _ _ => 0, fun _ _ => 0))
def ax_S1 : ax_S := match ax_call 8 11 0 ax_S0 with
  | some S => S
  | none => ax_S0
set_option maxRecDepth 100000 in
theorem ax_S1_some : (ax_call 8 11 0 ax_S0).isSome = true := by decide +kernel
theorem ax_S1_ok : ax_call 8 11 0 ax_S0 = some ax_S1 := by
  have h := ax_S1_some
  unfold ax_S1
  cases hc : ax_call 8 11 0 ax_S0 with
  | none => rw [hc] at h; cases h
  | some S => rfl
set_option maxRecDepth 100000 in
theorem ax_S1_G : ax_S1.1 = (am_G.take 107).map ax_sh := by decide +kernel
def ax_S2 : ax_S := (ax_S1.1 ++ [(4, 12, ax_df 12)], ax_S1.2)
def ax_S3 : Nat × ax_S := match ax_blk (fun _ _ _ => none) ax_M_init ax_stop 107 2000 0 [] ax_S2 with
  | some S => S
  | none => (0, ax_S2)
set_option maxRecDepth 100000 in
theorem ax_S3_some : (ax_blk (fun _ _ _ => none) ax_M_init ax_stop 107 2000 0 [] ax_S2).isSome = true := by decide +kernel
theorem ax_S3_ok : ax_blk (fun _ _ _ => none) ax_M_init ax_stop 107 2000 0 [] ax_S2 = some ax_S3 := by
  have h := ax_S3_some
  unfold ax_S3
  cases hc : ax_blk (fun _ _ _ => none) ax_M_init ax_stop 107 2000 0 [] ax_S2 with
  | none => rw [hc] at h; cases h
  | some S => rfl
set_option maxRecDepth 100000 in
theorem ax_S3_pc : ax_S3.1 = ax_stop := by decide +kernel
set_option maxRecDepth 100000 in
theorem ax_S3_G : ax_S3.2.1 = am_G.map ax_sh := by decide +kernel
