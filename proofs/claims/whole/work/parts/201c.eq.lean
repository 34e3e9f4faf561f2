noncomputable def r_M_find_112_0 (d n : Nat) (a1 : Int32) (a2 : Int32) (a3 : Int32) (m : am_M) : am_R := am_run am_G true (am_c d) 1 pg_M_find [3] n 0 [some (.ref 112), some (.int a1), some (.int a2), some (.int a3), none] m
noncomputable def r_M_find_112_3 (d n : Nat) (x1 : Int32) (x2 : Int32) (x3 : Int32) (x4 : Int32) (m : am_M) : am_R := am_run am_G true (am_c d) 1 pg_M_find [3] n 3 [some (.ref 112), some (.int x1), some (.int x2), some (.int x3), some (.int x4)] m
set_option maxRecDepth 100000 in
theorem e_M_find_112_0 (d n : Nat) (a1 : Int32) (a2 : Int32) (a3 : Int32) (m : am_M) : r_M_find_112_0 d (n + 1) a1 a2 a3 m = (r_M_find_112_3 d n a1 a2 a3 (zn 0) m) := rfl
set_option maxRecDepth 100000 in
theorem e_M_find_112_3 (d n : Nat) (x1 : Int32) (x2 : Int32) (x3 : Int32) (x4 : Int32) (m : am_M) : r_M_find_112_3 d (n + 1) x1 x2 x3 x4 m = (am_b (am_le x2 x4) (some (some (.int zm), m)) (am_b (am_oi (x1 + x4) 10) none (am_b (am_eq (m.1 112 ((x1 + x4).toNatClampNeg)) x3) (some (some (.int x4), m)) (r_M_find_112_3 d n x1 x2 x3 (x4 + (zn 1)) m)))) := rfl
set_option maxRecDepth 100000 in
theorem n_M_find_112 (d : Nat) (a1 : Int32) (a2 : Int32) (a3 : Int32) (m : am_M) : am_c (d + 1) y_M_find [.ref 112, .int a1, .int a2, .int a3] m = (r_M_find_112_3 d 29999 a1 a2 a3 (zn 0) m) := by
  have h : am_c (d + 1) y_M_find [.ref 112, .int a1, .int a2, .int a3] m = r_M_find_112_0 d fu a1 a2 a3 m := by
    rfl
  rw [h, fu_eq]; exact e_M_find_112_0 d 29999 a1 a2 a3 m
noncomputable def r_M_find_137_0 (d n : Nat) (a1 : Int32) (a2 : Int32) (a3 : Int32) (m : am_M) : am_R := am_run am_G true (am_c d) 1 pg_M_find [3] n 0 [some (.ref 137), some (.int a1), some (.int a2), some (.int a3), none] m
noncomputable def r_M_find_137_3 (d n : Nat) (x1 : Int32) (x2 : Int32) (x3 : Int32) (x4 : Int32) (m : am_M) : am_R := am_run am_G true (am_c d) 1 pg_M_find [3] n 3 [some (.ref 137), some (.int x1), some (.int x2), some (.int x3), some (.int x4)] m
set_option maxRecDepth 100000 in
theorem e_M_find_137_0 (d n : Nat) (a1 : Int32) (a2 : Int32) (a3 : Int32) (m : am_M) : r_M_find_137_0 d (n + 1) a1 a2 a3 m = (r_M_find_137_3 d n a1 a2 a3 (zn 0) m) := rfl
set_option maxRecDepth 100000 in
theorem e_M_find_137_3 (d n : Nat) (x1 : Int32) (x2 : Int32) (x3 : Int32) (x4 : Int32) (m : am_M) : r_M_find_137_3 d (n + 1) x1 x2 x3 x4 m = (am_b (am_le x2 x4) (some (some (.int zm), m)) (am_b (am_oi (x1 + x4) 10) none (am_b (am_eq (m.1 137 ((x1 + x4).toNatClampNeg)) x3) (some (some (.int x4), m)) (r_M_find_137_3 d n x1 x2 x3 (x4 + (zn 1)) m)))) := rfl
set_option maxRecDepth 100000 in
theorem n_M_find_137 (d : Nat) (a1 : Int32) (a2 : Int32) (a3 : Int32) (m : am_M) : am_c (d + 1) y_M_find [.ref 137, .int a1, .int a2, .int a3] m = (r_M_find_137_3 d 29999 a1 a2 a3 (zn 0) m) := by
  have h : am_c (d + 1) y_M_find [.ref 137, .int a1, .int a2, .int a3] m = r_M_find_137_0 d fu a1 a2 a3 m := by
    rfl
  rw [h, fu_eq]; exact e_M_find_137_0 d 29999 a1 a2 a3 m
noncomputable def r_M_fault_0 (d n : Nat) (a1 : Int32) (m : am_M) : am_R := am_run am_G true (am_c d) 1 pg_M_fault [] n 0 [some (.ref 107), some (.int a1)] m
set_option maxRecDepth 100000 in
theorem e_M_fault_0 (d n : Nat) (a1 : Int32) (m : am_M) : r_M_fault_0 d (n + 1) a1 m = (am_b (am_eq a1 (zn 0)) (some (some (.int (m.1 107 4)), (am_w m.1 107 2 (zn 0), m.2))) (am_b (am_eq a1 (zn 1)) (some (some (.int (m.1 107 5)), (am_w m.1 107 2 (zn 0), m.2))) (some (some (.int zm), (am_w m.1 107 2 (zn 0), m.2))))) := rfl
set_option maxRecDepth 100000 in
theorem n_M_fault (d : Nat) (a1 : Int32) (m : am_M) : am_c (d + 1) y_M_fault [.ref 107, .int a1] m = (am_b (am_eq a1 (zn 0)) (some (some (.int (m.1 107 4)), (am_w m.1 107 2 (zn 0), m.2))) (am_b (am_eq a1 (zn 1)) (some (some (.int (m.1 107 5)), (am_w m.1 107 2 (zn 0), m.2))) (some (some (.int zm), (am_w m.1 107 2 (zn 0), m.2))))) := by
  have h : am_c (d + 1) y_M_fault [.ref 107, .int a1] m = r_M_fault_0 d fu a1 m := by
    rfl
  rw [h, fu_eq]; exact e_M_fault_0 d 29999 a1 m
noncomputable def r_M_rank_0 (d n : Nat) (a0 : Int32) (m : am_M) : am_R := am_run am_G true (am_c d) 1 pg_M_rank [] n 0 [some (.int a0)] m
set_option maxRecDepth 100000 in
theorem e_M_rank_0 (d n : Nat) (a0 : Int32) (m : am_M) : r_M_rank_0 d (n + 1) a0 m = (am_b (am_lt a0 (zn 13)) (am_b (am_lt a0 (zn 11)) (am_b (am_lt a0 (zn 5)) (am_b (am_eq a0 (zn 2)) (some (some (.int (zn 3)), m)) (am_b (am_eq a0 (zn 3)) (some (some (.int (zn 2)), m)) (am_b (am_eq a0 (zn 4)) (some (some (.int (zn 1)), m)) (some (some (.int (zn 0)), m))))) (some (some (.int (zn 4)), m))) (some (some (.int (zn 5)), m))) (some (some (.int (zn 6)), m))) := rfl
set_option maxRecDepth 100000 in
theorem n_M_rank (d : Nat) (a0 : Int32) (m : am_M) : am_c (d + 1) y_M_rank [.int a0] m = (am_b (am_lt a0 (zn 13)) (am_b (am_lt a0 (zn 11)) (am_b (am_lt a0 (zn 5)) (am_b (am_eq a0 (zn 2)) (some (some (.int (zn 3)), m)) (am_b (am_eq a0 (zn 3)) (some (some (.int (zn 2)), m)) (am_b (am_eq a0 (zn 4)) (some (some (.int (zn 1)), m)) (some (some (.int (zn 0)), m))))) (some (some (.int (zn 4)), m))) (some (some (.int (zn 5)), m))) (some (some (.int (zn 6)), m))) := by
  have h : am_c (d + 1) y_M_rank [.int a0] m = r_M_rank_0 d fu a0 m := by
    rfl
  rw [h, fu_eq]; exact e_M_rank_0 d 29999 a0 m
noncomputable def r_M_grown_0 (d n : Nat) (a1 : Int32) (a2 : Int32) (a3 : Int32) (m : am_M) : am_R := am_run am_G true (am_c d) 0 pg_M_grown [] n 0 [some (.ref 107), some (.int a1), some (.int a2), some (.int a3)] m
set_option maxRecDepth 100000 in
theorem e_M_grown_0 (d n : Nat) (a1 : Int32) (a2 : Int32) (a3 : Int32) (m : am_M) : r_M_grown_0 d (n + 1) a1 a2 a3 m = (am_b (am_oi ((zn 64) + (m.1 107 19)) 128) none (am_b (am_oi ((zn 64) + (m.1 107 19)) 128) none (am_b (am_oi ((zn 64) + (m.1 107 19)) 128) none (am_b (am_oi (m.1 107 41) 96) none (some (none, (am_w (am_w (am_w (am_w (am_w (am_w m.1 125 (((zn 64) + (m.1 107 19)).toNatClampNeg) a1) 126 (((zn 64) + (m.1 107 19)).toNatClampNeg) a2) 127 (((zn 64) + (m.1 107 19)).toNatClampNeg) a3) 129 ((m.1 107 41).toNatClampNeg) (m.1 107 19)) 107 41 ((m.1 107 41) + (zn 1))) 107 19 ((m.1 107 19) + (zn 1)), m.2))))))) := rfl
set_option maxRecDepth 100000 in
theorem n_M_grown (d : Nat) (a1 : Int32) (a2 : Int32) (a3 : Int32) (m : am_M) : am_c (d + 1) y_M_grown [.ref 107, .int a1, .int a2, .int a3] m = (am_b (am_oi ((zn 64) + (m.1 107 19)) 128) none (am_b (am_oi ((zn 64) + (m.1 107 19)) 128) none (am_b (am_oi ((zn 64) + (m.1 107 19)) 128) none (am_b (am_oi (m.1 107 41) 96) none (some (none, (am_w (am_w (am_w (am_w (am_w (am_w m.1 125 (((zn 64) + (m.1 107 19)).toNatClampNeg) a1) 126 (((zn 64) + (m.1 107 19)).toNatClampNeg) a2) 127 (((zn 64) + (m.1 107 19)).toNatClampNeg) a3) 129 ((m.1 107 41).toNatClampNeg) (m.1 107 19)) 107 41 ((m.1 107 41) + (zn 1))) 107 19 ((m.1 107 19) + (zn 1)), m.2))))))) := by
  have h : am_c (d + 1) y_M_grown [.ref 107, .int a1, .int a2, .int a3] m = r_M_grown_0 d fu a1 a2 a3 m := by
    rfl
  rw [h, fu_eq]; exact e_M_grown_0 d 29999 a1 a2 a3 m
noncomputable def r_M_dropHeld_0 (d n : Nat) (m : am_M) : am_R := am_run am_G true (am_c d) 1 pg_M_dropHeld [] n 0 [some (.ref 107)] m
set_option maxRecDepth 100000 in
theorem e_M_dropHeld_0 (d n : Nat) (m : am_M) : r_M_dropHeld_0 d (n + 1) m = (am_b (am_oi ((m.1 107 41) - (zn 1)) 96) none (some (some (.int (m.1 129 (((m.1 107 41) - (zn 1)).toNatClampNeg))), (am_w m.1 107 41 ((m.1 107 41) - (zn 1)), m.2)))) := rfl
set_option maxRecDepth 100000 in
theorem n_M_dropHeld (d : Nat) (m : am_M) : am_c (d + 1) y_M_dropHeld [.ref 107] m = (am_b (am_oi ((m.1 107 41) - (zn 1)) 96) none (some (some (.int (m.1 129 (((m.1 107 41) - (zn 1)).toNatClampNeg))), (am_w m.1 107 41 ((m.1 107 41) - (zn 1)), m.2)))) := by
  have h : am_c (d + 1) y_M_dropHeld [.ref 107] m = r_M_dropHeld_0 d fu m := by
    rfl
  rw [h, fu_eq]; exact e_M_dropHeld_0 d 29999 m
noncomputable def r_M_waitsFor_0 (d n : Nat) (a1 : Int32) (m : am_M) : am_R := am_run am_G true (am_c d) 0 pg_M_waitsFor [] n 0 [some (.ref 107), some (.int a1)] m
set_option maxRecDepth 100000 in
theorem e_M_waitsFor_0 (d n : Nat) (a1 : Int32) (m : am_M) : r_M_waitsFor_0 d (n + 1) a1 m = (am_b (am_oi (m.1 107 40) 96) none (some (none, (am_w (am_w m.1 128 ((m.1 107 40).toNatClampNeg) a1) 107 40 ((m.1 107 40) + (zn 1)), m.2)))) := rfl
set_option maxRecDepth 100000 in
theorem n_M_waitsFor (d : Nat) (a1 : Int32) (m : am_M) : am_c (d + 1) y_M_waitsFor [.ref 107, .int a1] m = (am_b (am_oi (m.1 107 40) 96) none (some (none, (am_w (am_w m.1 128 ((m.1 107 40).toNatClampNeg) a1) 107 40 ((m.1 107 40) + (zn 1)), m.2)))) := by
  have h : am_c (d + 1) y_M_waitsFor [.ref 107, .int a1] m = r_M_waitsFor_0 d fu a1 m := by
    rfl
  rw [h, fu_eq]; exact e_M_waitsFor_0 d 29999 a1 m
noncomputable def r_M_nameMet_0 (d n : Nat) (m : am_M) : am_R := am_run am_G true (am_c d) 1 pg_M_nameMet [] n 0 [some (.ref 107)] m
set_option maxRecDepth 100000 in
theorem e_M_nameMet_0 (d n : Nat) (m : am_M) : r_M_nameMet_0 d (n + 1) m = (am_b (am_eq (m.1 107 8) (zn 1)) (am_b (am_lt (m.1 107 9) (zn 18)) (some (some (.int zm), m)) (some (some (.int ((m.1 107 9) - (zn 18))), m))) (some (some (.int zm), m))) := rfl
set_option maxRecDepth 100000 in
theorem n_M_nameMet (d : Nat) (m : am_M) : am_c (d + 1) y_M_nameMet [.ref 107] m = (am_b (am_eq (m.1 107 8) (zn 1)) (am_b (am_lt (m.1 107 9) (zn 18)) (some (some (.int zm), m)) (some (some (.int ((m.1 107 9) - (zn 18))), m))) (some (some (.int zm), m))) := by
  have h : am_c (d + 1) y_M_nameMet [.ref 107] m = r_M_nameMet_0 d fu m := by
    rfl
  rw [h, fu_eq]; exact e_M_nameMet_0 d 29999 m
noncomputable def r_M_bounded_0 (d n : Nat) (a1 : Int64) (m : am_M) : am_R := am_run am_G true (am_c d) 3 pg_M_bounded [] n 0 [some (.ref 107), some (.long a1), none] m
set_option maxRecDepth 100000 in
theorem e_M_bounded_0 (d n : Nat) (a1 : Int64) (m : am_M) : r_M_bounded_0 d (n + 1) a1 m = (am_b (am_eq (m.1 107 48) (zn 0)) (am_b (am_lt (zn 0) (lg_cmp a1 1000000000000)) (some (some (.long 0), (am_w m.1 107 48 (zn 1), m.2))) (am_b (am_le (zn 0) (lg_cmp a1 (-1000000000000))) (some (some (.long a1), (am_w m.1 107 48 (zn 0), m.2))) (some (some (.long 0), (am_w m.1 107 48 (zn 1), m.2))))) (some (some (.long 0), (am_w m.1 107 48 (zn 1), m.2)))) := rfl
set_option maxRecDepth 100000 in
theorem n_M_bounded (d : Nat) (a1 : Int64) (m : am_M) : am_c (d + 1) y_M_bounded [.ref 107, .long a1] m = (am_b (am_eq (m.1 107 48) (zn 0)) (am_b (am_lt (zn 0) (lg_cmp a1 1000000000000)) (some (some (.long 0), (am_w m.1 107 48 (zn 1), m.2))) (am_b (am_le (zn 0) (lg_cmp a1 (-1000000000000))) (some (some (.long a1), (am_w m.1 107 48 (zn 0), m.2))) (some (some (.long 0), (am_w m.1 107 48 (zn 1), m.2))))) (some (some (.long 0), (am_w m.1 107 48 (zn 1), m.2)))) := by
  have h : am_c (d + 1) y_M_bounded [.ref 107, .long a1] m = r_M_bounded_0 d fu a1 m := by
    rfl
  rw [h, fu_eq]; exact e_M_bounded_0 d 29999 a1 m
noncomputable def r_M_compares_0 (d n : Nat) (a0 : Int32) (a1 : Int64) (a2 : Int64) (m : am_M) : am_R := am_run am_G true (am_c d) 2 pg_M_compares [] n 0 [some (.int a0), some (.long a1), none, some (.long a2), none] m
set_option maxRecDepth 100000 in
theorem e_M_compares_0 (d n : Nat) (a0 : Int32) (a1 : Int64) (a2 : Int64) (m : am_M) : r_M_compares_0 d (n + 1) a0 a1 a2 m = (am_b (am_eq a0 (zn 5)) (am_b (am_le (zn 0) (lg_cmp a1 a2)) (some (some (.int (zn 0)), m)) (some (some (.int (zn 1)), m))) (am_b (am_eq a0 (zn 6)) (am_b (am_lt (zn 0) (lg_cmp a1 a2)) (some (some (.int (zn 0)), m)) (some (some (.int (zn 1)), m))) (am_b (am_eq a0 (zn 7)) (am_b (am_eq (lg_cmp a1 a2) (zn 0)) (some (some (.int (zn 1)), m)) (some (some (.int (zn 0)), m))) (am_b (am_eq a0 (zn 8)) (am_b (am_eq (lg_cmp a1 a2) (zn 0)) (some (some (.int (zn 0)), m)) (some (some (.int (zn 1)), m))) (am_b (am_eq a0 (zn 9)) (am_b (am_lt (lg_cmp a1 a2) (zn 0)) (some (some (.int (zn 0)), m)) (some (some (.int (zn 1)), m))) (am_b (am_le (lg_cmp a1 a2) (zn 0)) (some (some (.int (zn 0)), m)) (some (some (.int (zn 1)), m)))))))) := rfl
set_option maxRecDepth 100000 in
theorem n_M_compares (d : Nat) (a0 : Int32) (a1 : Int64) (a2 : Int64) (m : am_M) : am_c (d + 1) y_M_compares [.int a0, .long a1, .long a2] m = (am_b (am_eq a0 (zn 5)) (am_b (am_le (zn 0) (lg_cmp a1 a2)) (some (some (.int (zn 0)), m)) (some (some (.int (zn 1)), m))) (am_b (am_eq a0 (zn 6)) (am_b (am_lt (zn 0) (lg_cmp a1 a2)) (some (some (.int (zn 0)), m)) (some (some (.int (zn 1)), m))) (am_b (am_eq a0 (zn 7)) (am_b (am_eq (lg_cmp a1 a2) (zn 0)) (some (some (.int (zn 1)), m)) (some (some (.int (zn 0)), m))) (am_b (am_eq a0 (zn 8)) (am_b (am_eq (lg_cmp a1 a2) (zn 0)) (some (some (.int (zn 0)), m)) (some (some (.int (zn 1)), m))) (am_b (am_eq a0 (zn 9)) (am_b (am_lt (lg_cmp a1 a2) (zn 0)) (some (some (.int (zn 0)), m)) (some (some (.int (zn 1)), m))) (am_b (am_le (lg_cmp a1 a2) (zn 0)) (some (some (.int (zn 0)), m)) (some (some (.int (zn 1)), m)))))))) := by
  have h : am_c (d + 1) y_M_compares [.int a0, .long a1, .long a2] m = r_M_compares_0 d fu a0 a1 a2 m := by
    rfl
  rw [h, fu_eq]; exact e_M_compares_0 d 29999 a0 a1 a2 m
noncomputable def r_M_times_0 (d n : Nat) (a1 : Int64) (a2 : Int64) (m : am_M) : am_R := am_run am_G true (am_c d) 3 pg_M_times [48] n 0 [some (.ref 107), some (.long a1), none, some (.long a2), none, none] m
noncomputable def r_M_times_48 (d n : Nat) (x1 : Int64) (x3 : Int64) (m : am_M) : am_R := am_run am_G true (am_c d) 3 pg_M_times [48] n 48 [some (.ref 107), some (.long x1), none, some (.long x3), none, none] m
set_option maxRecDepth 100000 in
theorem e_M_times_0 (d n : Nat) (a1 : Int64) (a2 : Int64) (m : am_M) : r_M_times_0 d (n + 1) a1 a2 m = (am_b (am_eq (lg_cmp a1 0) (zn 0)) (r_M_times_48 d n a1 a2 m) (am_b (am_eq (lg_cmp a2 0) (zn 0)) (r_M_times_48 d n a1 a2 m) (am_b (am_le (zn 0) (lg_cmp a2 0)) (am_b (am_le (zn 0) (lg_cmp a1 0)) (am_b (am_el a1 0) none (am_b (am_le (lg_cmp a2 (1000000000000 / a1)) (zn 0)) (r_M_times_48 d n a1 a2 m) (am_b (am_eq (m.1 107 48) (zn 0)) (some (some (.long 0), (am_w m.1 107 48 (zn 1), m.2))) (some (some (.long 0), (am_w m.1 107 48 (zn 1), m.2)))))) (am_b (am_el (-a1) 0) none (am_b (am_le (lg_cmp a2 (1000000000000 / (-a1))) (zn 0)) (r_M_times_48 d n a1 a2 m) (am_b (am_eq (m.1 107 48) (zn 0)) (some (some (.long 0), (am_w m.1 107 48 (zn 1), m.2))) (some (some (.long 0), (am_w m.1 107 48 (zn 1), m.2))))))) (am_b (am_le (zn 0) (lg_cmp a1 0)) (am_b (am_el a1 0) none (am_b (am_le (lg_cmp (-a2) (1000000000000 / a1)) (zn 0)) (r_M_times_48 d n a1 a2 m) (am_b (am_eq (m.1 107 48) (zn 0)) (some (some (.long 0), (am_w m.1 107 48 (zn 1), m.2))) (some (some (.long 0), (am_w m.1 107 48 (zn 1), m.2)))))) (am_b (am_el (-a1) 0) none (am_b (am_le (lg_cmp (-a2) (1000000000000 / (-a1))) (zn 0)) (r_M_times_48 d n a1 a2 m) (am_b (am_eq (m.1 107 48) (zn 0)) (some (some (.long 0), (am_w m.1 107 48 (zn 1), m.2))) (some (some (.long 0), (am_w m.1 107 48 (zn 1), m.2)))))))))) := rfl
set_option maxRecDepth 100000 in
theorem e_M_times_48 (d n : Nat) (x1 : Int64) (x3 : Int64) (m : am_M) : r_M_times_48 d (n + 1) x1 x3 m = (am_b (am_eq (m.1 107 48) (zn 0)) (some (some (.long (x1 * x3)), (am_w m.1 107 48 (zn 0), m.2))) (some (some (.long 0), (am_w m.1 107 48 (zn 1), m.2)))) := rfl
set_option maxRecDepth 100000 in
theorem n_M_times (d : Nat) (a1 : Int64) (a2 : Int64) (m : am_M) : am_c (d + 1) y_M_times [.ref 107, .long a1, .long a2] m = (am_b (am_eq (lg_cmp a1 0) (zn 0)) (r_M_times_48 d 29999 a1 a2 m) (am_b (am_eq (lg_cmp a2 0) (zn 0)) (r_M_times_48 d 29999 a1 a2 m) (am_b (am_le (zn 0) (lg_cmp a2 0)) (am_b (am_le (zn 0) (lg_cmp a1 0)) (am_b (am_el a1 0) none (am_b (am_le (lg_cmp a2 (1000000000000 / a1)) (zn 0)) (r_M_times_48 d 29999 a1 a2 m) (am_b (am_eq (m.1 107 48) (zn 0)) (some (some (.long 0), (am_w m.1 107 48 (zn 1), m.2))) (some (some (.long 0), (am_w m.1 107 48 (zn 1), m.2)))))) (am_b (am_el (-a1) 0) none (am_b (am_le (lg_cmp a2 (1000000000000 / (-a1))) (zn 0)) (r_M_times_48 d 29999 a1 a2 m) (am_b (am_eq (m.1 107 48) (zn 0)) (some (some (.long 0), (am_w m.1 107 48 (zn 1), m.2))) (some (some (.long 0), (am_w m.1 107 48 (zn 1), m.2))))))) (am_b (am_le (zn 0) (lg_cmp a1 0)) (am_b (am_el a1 0) none (am_b (am_le (lg_cmp (-a2) (1000000000000 / a1)) (zn 0)) (r_M_times_48 d 29999 a1 a2 m) (am_b (am_eq (m.1 107 48) (zn 0)) (some (some (.long 0), (am_w m.1 107 48 (zn 1), m.2))) (some (some (.long 0), (am_w m.1 107 48 (zn 1), m.2)))))) (am_b (am_el (-a1) 0) none (am_b (am_le (lg_cmp (-a2) (1000000000000 / (-a1))) (zn 0)) (r_M_times_48 d 29999 a1 a2 m) (am_b (am_eq (m.1 107 48) (zn 0)) (some (some (.long 0), (am_w m.1 107 48 (zn 1), m.2))) (some (some (.long 0), (am_w m.1 107 48 (zn 1), m.2)))))))))) := by
  have h : am_c (d + 1) y_M_times [.ref 107, .long a1, .long a2] m = r_M_times_0 d fu a1 a2 m := by
    rfl
  rw [h, fu_eq]; exact e_M_times_0 d 29999 a1 a2 m
noncomputable def r_M_plainTried_0 (d n : Nat) (m : am_M) : am_R := am_run am_G true (am_c d) 0 pg_M_plainTried [47] n 0 [some (.ref 107), none] m
noncomputable def r_M_plainTried_47 (d n : Nat) (x1 : Int32) (m : am_M) : am_R := am_run am_G true (am_c d) 0 pg_M_plainTried [47] n 47 [some (.ref 107), some (.int x1)] m
set_option maxRecDepth 100000 in
theorem e_M_plainTried_0 (d n : Nat) (m : am_M) : r_M_plainTried_0 d (n + 1) m = (r_M_plainTried_47 d n (zn 0) (am_w (am_w (am_w (am_w (am_w (am_w (am_w (am_w m.1 107 59 (m.1 111 0)) 107 60 (zn 0)) 107 61 (zn 0)) 107 62 (zn 0)) 107 63 zm) 107 64 zm) 107 65 zm) 107 66 (zn 0), m.2)) := rfl
set_option maxRecDepth 100000 in
theorem e_M_plainTried_47 (d n : Nat) (x1 : Int32) (m : am_M) : r_M_plainTried_47 d (n + 1) x1 m = (am_b (am_le (zn 5) x1) (some (none, m)) (am_b (am_oi x1 10) none (am_b (am_oi x1 5) none (am_b (am_oi x1 10) none (am_b (am_oi ((zn 5) + x1) 10) none (r_M_plainTried_47 d n (x1 + (zn 1)) (am_w (am_w m.1 140 x1.toNatClampNeg (m.1 116 x1.toNatClampNeg)) 137 (((zn 5) + x1).toNatClampNeg) (m.1 137 x1.toNatClampNeg), m.2))))))) := rfl
set_option maxRecDepth 100000 in
theorem n_M_plainTried (d : Nat) (m : am_M) : am_c (d + 1) y_M_plainTried [.ref 107] m = (r_M_plainTried_47 d 29999 (zn 0) (am_w (am_w (am_w (am_w (am_w (am_w (am_w (am_w m.1 107 59 (m.1 111 0)) 107 60 (zn 0)) 107 61 (zn 0)) 107 62 (zn 0)) 107 63 zm) 107 64 zm) 107 65 zm) 107 66 (zn 0), m.2)) := by
  have h : am_c (d + 1) y_M_plainTried [.ref 107] m = r_M_plainTried_0 d fu m := by
    rfl
  rw [h, fu_eq]; exact e_M_plainTried_0 d 29999 m
noncomputable def r_M_isThing_0 (d n : Nat) (a1 : Int32) (m : am_M) : am_R := am_run am_G true (am_c d) 2 pg_M_isThing [] n 0 [some (.ref 107), some (.int a1)] m
set_option maxRecDepth 100000 in
theorem e_M_isThing_0 (d n : Nat) (a1 : Int32) (m : am_M) : r_M_isThing_0 d (n + 1) a1 m = (am_b (am_lt a1 (zn 0)) (some (some (.int (zn 0)), m)) (am_b (am_le (m.1 107 12) a1) (some (some (.int (zn 0)), m)) (some (some (.int (zn 1)), m)))) := rfl
set_option maxRecDepth 100000 in
theorem n_M_isThing (d : Nat) (a1 : Int32) (m : am_M) : am_c (d + 1) y_M_isThing [.ref 107, .int a1] m = (am_b (am_lt a1 (zn 0)) (some (some (.int (zn 0)), m)) (am_b (am_le (m.1 107 12) a1) (some (some (.int (zn 0)), m)) (some (some (.int (zn 1)), m)))) := by
  have h : am_c (d + 1) y_M_isThing [.ref 107, .int a1] m = r_M_isThing_0 d fu a1 m := by
    rfl
  rw [h, fu_eq]; exact e_M_isThing_0 d 29999 a1 m
noncomputable def r_M_isLamp_0 (d n : Nat) (a1 : Int32) (m : am_M) : am_R := am_run am_G true (am_c d) 2 pg_M_isLamp [] n 0 [some (.ref 107), some (.int a1)] m
set_option maxRecDepth 100000 in
theorem e_M_isLamp_0 (d n : Nat) (a1 : Int32) (m : am_M) : r_M_isLamp_0 d (n + 1) a1 m = (am_b (am_lt a1 (zn 0)) (some (some (.int (zn 0)), m)) (am_b (am_le (m.1 107 13) a1) (some (some (.int (zn 0)), m)) (some (some (.int (zn 1)), m)))) := rfl
set_option maxRecDepth 100000 in
theorem n_M_isLamp (d : Nat) (a1 : Int32) (m : am_M) : am_c (d + 1) y_M_isLamp [.ref 107, .int a1] m = (am_b (am_lt a1 (zn 0)) (some (some (.int (zn 0)), m)) (am_b (am_le (m.1 107 13) a1) (some (some (.int (zn 0)), m)) (some (some (.int (zn 1)), m)))) := by
  have h : am_c (d + 1) y_M_isLamp [.ref 107, .int a1] m = r_M_isLamp_0 d fu a1 m := by
    rfl
  rw [h, fu_eq]; exact e_M_isLamp_0 d 29999 a1 m
noncomputable def r_M_apart_0 (d n : Nat) (a0 : Int32) (a1 : Int32) (m : am_M) : am_R := am_run am_G true (am_c d) 1 pg_M_apart [] n 0 [some (.int a0), some (.int a1)] m
set_option maxRecDepth 100000 in
theorem e_M_apart_0 (d n : Nat) (a0 : Int32) (a1 : Int32) (m : am_M) : r_M_apart_0 d (n + 1) a0 a1 m = (am_b (am_le a1 a0) (some (some (.int (a0 - a1)), m)) (some (some (.int (a1 - a0)), m))) := rfl
set_option maxRecDepth 100000 in
theorem n_M_apart (d : Nat) (a0 : Int32) (a1 : Int32) (m : am_M) : am_c (d + 1) y_M_apart [.int a0, .int a1] m = (am_b (am_le a1 a0) (some (some (.int (a0 - a1)), m)) (some (some (.int (a1 - a0)), m))) := by
  have h : am_c (d + 1) y_M_apart [.int a0, .int a1] m = r_M_apart_0 d fu a0 a1 m := by
    rfl
  rw [h, fu_eq]; exact e_M_apart_0 d 29999 a0 a1 m
noncomputable def r_M_howOf_0 (d n : Nat) (a1 : Int32) (m : am_M) : am_R := am_run am_G true (am_c d) 1 pg_M_howOf [] n 0 [some (.ref 107), some (.int a1)] m
set_option maxRecDepth 100000 in
theorem e_M_howOf_0 (d n : Nat) (a1 : Int32) (m : am_M) : r_M_howOf_0 d (n + 1) a1 m = (am_b (am_eq a1 (m.1 107 63)) (some (some (.int (zn 1)), m)) (am_b (am_eq (m.1 107 62) (zn 0)) (am_b (am_oi a1 10) none (some (some (.int (m.1 117 a1.toNatClampNeg)), m))) (am_b (am_oi a1 10) none (am_b (am_eq (m.1 117 a1.toNatClampNeg) (zn 2)) (some (some (.int (zn 0)), m)) (am_b (am_oi a1 10) none (some (some (.int (m.1 117 a1.toNatClampNeg)), m))))))) := rfl
set_option maxRecDepth 100000 in
theorem n_M_howOf (d : Nat) (a1 : Int32) (m : am_M) : am_c (d + 1) y_M_howOf [.ref 107, .int a1] m = (am_b (am_eq a1 (m.1 107 63)) (some (some (.int (zn 1)), m)) (am_b (am_eq (m.1 107 62) (zn 0)) (am_b (am_oi a1 10) none (some (some (.int (m.1 117 a1.toNatClampNeg)), m))) (am_b (am_oi a1 10) none (am_b (am_eq (m.1 117 a1.toNatClampNeg) (zn 2)) (some (some (.int (zn 0)), m)) (am_b (am_oi a1 10) none (some (some (.int (m.1 117 a1.toNatClampNeg)), m))))))) := by
  have h : am_c (d + 1) y_M_howOf [.ref 107, .int a1] m = r_M_howOf_0 d fu a1 m := by
    rfl
  rw [h, fu_eq]; exact e_M_howOf_0 d 29999 a1 m
noncomputable def r_M_placeOf_0 (d n : Nat) (a1 : Int32) (m : am_M) : am_R := am_run am_G true (am_c d) 1 pg_M_placeOf [] n 0 [some (.ref 107), some (.int a1)] m
set_option maxRecDepth 100000 in
theorem e_M_placeOf_0 (d n : Nat) (a1 : Int32) (m : am_M) : r_M_placeOf_0 d (n + 1) a1 m = (am_b (am_eq a1 (m.1 107 65)) (some (some (.int (m.1 107 66)), m)) (am_b (am_oi a1 5) none (some (some (.int (m.1 136 a1.toNatClampNeg)), m)))) := rfl
set_option maxRecDepth 100000 in
theorem n_M_placeOf (d : Nat) (a1 : Int32) (m : am_M) : am_c (d + 1) y_M_placeOf [.ref 107, .int a1] m = (am_b (am_eq a1 (m.1 107 65)) (some (some (.int (m.1 107 66)), m)) (am_b (am_oi a1 5) none (some (some (.int (m.1 136 a1.toNatClampNeg)), m)))) := by
  have h : am_c (d + 1) y_M_placeOf [.ref 107, .int a1] m = r_M_placeOf_0 d fu a1 m := by
    rfl
  rw [h, fu_eq]; exact e_M_placeOf_0 d 29999 a1 m
noncomputable def r_M_sizeHad_0 (d n : Nat) (a1 : Int32) (a2 : Int32) (m : am_M) : am_R := am_run am_G true (am_c d) 1 pg_M_sizeHad [] n 0 [some (.ref 107), some (.int a1), some (.int a2)] m
set_option maxRecDepth 100000 in
theorem e_M_sizeHad_0 (d n : Nat) (a1 : Int32) (a2 : Int32) (m : am_M) : r_M_sizeHad_0 d (n + 1) a1 a2 m = (am_b (am_oi (((zn 5) * a1) + a2) 10) none (am_b (am_le (zn 0) (m.1 132 ((((zn 5) * a1) + a2).toNatClampNeg))) (am_b (am_oi (((zn 5) * a1) + a2) 10) none (am_b (am_oi (m.1 132 ((((zn 5) * a1) + a2).toNatClampNeg)) 10) none (some (some (.int (m.1 114 ((m.1 132 ((((zn 5) * a1) + a2).toNatClampNeg)).toNatClampNeg))), m)))) (some (some (.int (zn 0)), m)))) := rfl
set_option maxRecDepth 100000 in
theorem n_M_sizeHad (d : Nat) (a1 : Int32) (a2 : Int32) (m : am_M) : am_c (d + 1) y_M_sizeHad [.ref 107, .int a1, .int a2] m = (am_b (am_oi (((zn 5) * a1) + a2) 10) none (am_b (am_le (zn 0) (m.1 132 ((((zn 5) * a1) + a2).toNatClampNeg))) (am_b (am_oi (((zn 5) * a1) + a2) 10) none (am_b (am_oi (m.1 132 ((((zn 5) * a1) + a2).toNatClampNeg)) 10) none (some (some (.int (m.1 114 ((m.1 132 ((((zn 5) * a1) + a2).toNatClampNeg)).toNatClampNeg))), m)))) (some (some (.int (zn 0)), m)))) := by
  have h : am_c (d + 1) y_M_sizeHad [.ref 107, .int a1, .int a2] m = r_M_sizeHad_0 d fu a1 a2 m := by
    rfl
  rw [h, fu_eq]; exact e_M_sizeHad_0 d 29999 a1 a2 m
noncomputable def r_M_taken_0 (d n : Nat) (a1 : Int32) (a2 : Int32) (m : am_M) : am_R := am_run am_G true (am_c d) 1 pg_M_taken [24] n 0 [some (.ref 107), some (.int a1), some (.int a2), none, none] m
noncomputable def r_M_taken_24 (d n : Nat) (x1 : Int32) (x2 : Int32) (x3 : Int32) (x4 : Int32) (m : am_M) : am_R := am_run am_G true (am_c d) 1 pg_M_taken [24] n 24 [some (.ref 107), some (.int x1), some (.int x2), some (.int x3), some (.int x4)] m
set_option maxRecDepth 100000 in
theorem e_M_taken_0 (d n : Nat) (a1 : Int32) (a2 : Int32) (m : am_M) : r_M_taken_0 d (n + 1) a1 a2 m = (am_b (am_oi (((zn 5) * a1) + a2) 10) none (am_b (am_oi a1 2) none (am_b (am_oi a1 2) none (r_M_taken_24 d n a1 a2 (m.1 133 ((((zn 5) * a1) + a2).toNatClampNeg)) a2 (am_w m.1 134 a1.toNatClampNeg ((m.1 134 a1.toNatClampNeg) - (zn 1)), m.2))))) := rfl
set_option maxRecDepth 100000 in
theorem e_M_taken_24 (d n : Nat) (x1 : Int32) (x2 : Int32) (x3 : Int32) (x4 : Int32) (m : am_M) : r_M_taken_24 d (n + 1) x1 x2 x3 x4 m = (am_b (am_oi x1 2) none (am_b (am_le (m.1 134 x1.toNatClampNeg) x4) (some (some (.int x3), m)) (am_b (am_oi ((((zn 5) * x1) + x4) + (zn 1)) 10) none (am_b (am_oi (((zn 5) * x1) + x4) 10) none (r_M_taken_24 d n x1 x2 x3 (x4 + (zn 1)) (am_w m.1 133 ((((zn 5) * x1) + x4).toNatClampNeg) (m.1 133 (((((zn 5) * x1) + x4) + (zn 1)).toNatClampNeg)), m.2)))))) := rfl
set_option maxRecDepth 100000 in
theorem n_M_taken (d : Nat) (a1 : Int32) (a2 : Int32) (m : am_M) : am_c (d + 1) y_M_taken [.ref 107, .int a1, .int a2] m = (am_b (am_oi (((zn 5) * a1) + a2) 10) none (am_b (am_oi a1 2) none (am_b (am_oi a1 2) none (r_M_taken_24 d 29999 a1 a2 (m.1 133 ((((zn 5) * a1) + a2).toNatClampNeg)) a2 (am_w m.1 134 a1.toNatClampNeg ((m.1 134 a1.toNatClampNeg) - (zn 1)), m.2))))) := by
  have h : am_c (d + 1) y_M_taken [.ref 107, .int a1, .int a2] m = r_M_taken_0 d fu a1 a2 m := by
    rfl
  rw [h, fu_eq]; exact e_M_taken_0 d 29999 a1 a2 m
noncomputable def r_M_noon_0 (d n : Nat) (a1 : Int32) (m : am_M) : am_R := am_run am_G true (am_c d) 0 pg_M_noon [2] n 0 [some (.ref 107), some (.int a1), none, none, none, none, none] m
noncomputable def r_M_noon_2 (d n : Nat) (x1 : Int32) (x2 : Int32) (x3 : Option Value) (x4 : Option Value) (x5 : Option Value) (x6 : Option Value) (m : am_M) : am_R := am_run am_G true (am_c d) 0 pg_M_noon [2] n 2 [some (.ref 107), some (.int x1), some (.int x2), x3, x4, x5, x6] m
set_option maxRecDepth 100000 in
theorem e_M_noon_0 (d n : Nat) (a1 : Int32) (m : am_M) : r_M_noon_0 d (n + 1) a1 m = (r_M_noon_2 d n a1 (zn 0) none none none none m) := rfl
set_option maxRecDepth 100000 in
theorem n_M_noon (d : Nat) (a1 : Int32) (m : am_M) : am_c (d + 1) y_M_noon [.ref 107, .int a1] m = (r_M_noon_2 d 29999 a1 (zn 0) none none none none m) := by
  have h : am_c (d + 1) y_M_noon [.ref 107, .int a1] m = r_M_noon_0 d fu a1 m := by
    rfl
  rw [h, fu_eq]; exact e_M_noon_0 d 29999 a1 m
noncomputable def r_M_number1_0 (d n : Nat) (a1 : Int32) (m : am_M) : am_R := am_run am_G true (am_c d) 1 pg_M_number1 [] n 0 [some (.ref 107), some (.int a1)] m
set_option maxRecDepth 100000 in
theorem e_M_number1_0 (d n : Nat) (a1 : Int32) (m : am_M) : r_M_number1_0 d (n + 1) a1 m = (am_b (am_el a1.toInt64 0) none (some (some (.int ((am_reml (((((m.2 107 58) * 1103515245) + 12345) &&& 2147483647) / 65536) a1.toInt64).toInt32)), (m.1, am_wl m.2 107 58 ((((m.2 107 58) * 1103515245) + 12345) &&& 2147483647))))) := rfl
set_option maxRecDepth 100000 in
theorem n_M_number1 (d : Nat) (a1 : Int32) (m : am_M) : am_c (d + 1) y_M_number1 [.ref 107, .int a1] m = (am_b (am_el a1.toInt64 0) none (some (some (.int ((am_reml (((((m.2 107 58) * 1103515245) + 12345) &&& 2147483647) / 65536) a1.toInt64).toInt32)), (m.1, am_wl m.2 107 58 ((((m.2 107 58) * 1103515245) + 12345) &&& 2147483647))))) := by
  have h : am_c (d + 1) y_M_number1 [.ref 107, .int a1] m = r_M_number1_0 d fu a1 m := by
    rfl
  rw [h, fu_eq]; exact e_M_number1_0 d 29999 a1 m
noncomputable def r_M_ownIn_0 (d n : Nat) (a1 : Int32) (m : am_M) : am_R := am_run am_G true (am_c d) 1 pg_M_ownIn [4] n 0 [some (.ref 107), some (.int a1), none, none] m
noncomputable def r_M_ownIn_4 (d n : Nat) (x1 : Int32) (x2 : Int32) (x3 : Int32) (m : am_M) : am_R := am_run am_G true (am_c d) 1 pg_M_ownIn [4] n 4 [some (.ref 107), some (.int x1), some (.int x2), some (.int x3)] m
set_option maxRecDepth 100000 in
theorem e_M_ownIn_0 (d n : Nat) (a1 : Int32) (m : am_M) : r_M_ownIn_0 d (n + 1) a1 m = (r_M_ownIn_4 d n a1 (zn 0) (zn 0) m) := rfl
set_option maxRecDepth 100000 in
theorem e_M_ownIn_4 (d n : Nat) (x1 : Int32) (x2 : Int32) (x3 : Int32) (m : am_M) : r_M_ownIn_4 d (n + 1) x1 x2 x3 m = (am_b (am_le (m.1 107 12) x3) (some (some (.int x2), m)) (am_b (am_oi (((zn 5) * x1) + x3) 10) none (am_b (am_eq (m.1 132 ((((zn 5) * x1) + x3).toNatClampNeg)) x3) (r_M_ownIn_4 d n x1 (x2 + (zn 1)) (x3 + (zn 1)) m) (r_M_ownIn_4 d n x1 (x2 + (zn 0)) (x3 + (zn 1)) m)))) := rfl
set_option maxRecDepth 100000 in
theorem n_M_ownIn (d : Nat) (a1 : Int32) (m : am_M) : am_c (d + 1) y_M_ownIn [.ref 107, .int a1] m = (r_M_ownIn_4 d 29999 a1 (zn 0) (zn 0) m) := by
  have h : am_c (d + 1) y_M_ownIn [.ref 107, .int a1] m = r_M_ownIn_0 d fu a1 m := by
    rfl
  rw [h, fu_eq]; exact e_M_ownIn_0 d 29999 a1 m
noncomputable def r_M_fails_0 (d n : Nat) (a1 : Int32) (m : am_M) : am_R := am_run am_G true (am_c d) 1 pg_M_fails [] n 0 [some (.ref 107), some (.int a1)] m
set_option maxRecDepth 100000 in
theorem e_M_fails_0 (d n : Nat) (a1 : Int32) (m : am_M) : r_M_fails_0 d (n + 1) a1 m = (some (some (.int (zn 0)), (am_w m.1 107 2 a1, m.2))) := rfl
set_option maxRecDepth 100000 in
theorem n_M_fails (d : Nat) (a1 : Int32) (m : am_M) : am_c (d + 1) y_M_fails [.ref 107, .int a1] m = (some (some (.int (zn 0)), (am_w m.1 107 2 a1, m.2))) := by
  have h : am_c (d + 1) y_M_fails [.ref 107, .int a1] m = r_M_fails_0 d fu a1 m := by
    rfl
  rw [h, fu_eq]; exact e_M_fails_0 d 29999 a1 m
