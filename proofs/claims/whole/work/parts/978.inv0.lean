/-! the start's state keeps the invariant -/
theorem ax_fact {x : Nat × Nat × Int32} (h : x ∈ ax_fs) : ax_S3.2.2.1 x.1 x.2.1 = x.2.2 := by
  have h0 := List.length_eq_zero_iff.mp ax_bad_0
  have h1 := List.filter_eq_nil_iff.mp h0 x h
  simpa using h1
def ax_wchk (m : am_M) : Bool := ((List.range 25).all fun i => decide (m.1 4 i = zn (cwd.getD i 0))) && ((List.range 121).all fun i => decide (m.1 109 i = zn (rwd.getD i 0))) && ((List.range 5).all fun i => decide (m.1 47 i = m.1 33 i) && decide (m.1 48 i = m.1 34 i) && decide (m.1 49 i = m.1 36 i))
set_option maxRecDepth 100000 in
theorem ax_w_ok : ax_wchk ax_S3.2.2 = true := by decide +kernel
