/-! the start: what the constructors leave -/
def ax_fs : List (Nat × Nat × Int32) := [(27, 0, zn 0), (27, 8, zn 0), (27, 11, zn 0), (27, 14, zn 0), (27, 15, zn 0), (27, 16, zn 0), (46, 3, zn 0), (42, 0, zn 0), (42, 1, zn 0), (42, 2, zn 0), (43, 0, zn 0), (43, 1, zn 0), (43, 2, zn 0), (39, 2, zn 0), (71, 0, zn 0), (71, 3, zn 0), (71, 10, zn 0), (71, 6, zn 0), (71, 9, zn 0), (71, 11, zn 0), (0, 2, zn 0), (0, 3, zn 0), (0, 4, zm), (0, 11, zn 0), (97, 4, zn 0), (97, 5, zm), (102, 4, zn 0), (107, 1, zn 0), (107, 4, zn 0), (107, 5, zm), (107, 6, zn 0), (107, 7, zn 0), (107, 8, zn 0), (107, 10, zn 0)]
def ax_bad (m : am_M) : List (Nat × Nat × Int32) := ax_fs.filter (fun x => !decide (m.1 x.1 x.2.1 = x.2.2))
set_option maxRecDepth 100000 in
theorem ax_bad_0 : (ax_bad ax_S3.2.2).length = 0 := by decide +kernel
